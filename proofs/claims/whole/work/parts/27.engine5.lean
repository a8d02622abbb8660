/-! THE ENGINE, fifth part: cells that are made; worlds within worlds; constructors; the law's calls. -/
def en_wv (n : Nat) (v : Value) : Bool := match v with
  | .ref k => k != n
  | _ => true
def en_wE (n : Nat) (x : va_E) : Bool := match x with
  | .inl _ => true
  | .inr o => o.2.all (en_wv n)
def en_wo (n : Nat) (o : Option Value) : Bool := match o with
  | some v => en_wv n v
  | none => true
theorem en_tr_eq {ad ad' : Nat → Nat} {n : Nat} {v : Value} (he : ∀ k, k ≠ n → ad' k = ad k) (hv : en_wv n v = true) : en_tr ad' v = en_tr ad v := by
  cases v <;> try rfl
  rename_i k
  have hk : k ≠ n := by simpa [en_wv] using hv
  show Value.ref _ = Value.ref _
  rw [he k hk]
theorem en_trE_eq {ad ad' : Nat → Nat} {n : Nat} {x : va_E} (he : ∀ k, k ≠ n → ad' k = ad k) (hx : en_wE n x = true) : en_trE ad' x = en_trE ad x := by
  cases x with
  | inl a => rfl
  | inr o =>
    obtain ⟨ci, fs⟩ := o
    show Sum.inr (ci, fs.map (en_tr ad')) = Sum.inr (ci, fs.map (en_tr ad))
    rw [List.map_congr_left (fun v hv => en_tr_eq he (List.all_eq_true.mp hx v hv))]
theorem en_ws_eq {ad ad' : Nat → Nat} {h : Hp} {n : Nat} (hn : h.length ≤ n) (he : ∀ k, k ≠ n → ad' k = ad k) (hw : h.all (en_wE n) = true) : en_ws ad' h = en_ws ad h := by
  apply List.ext_getElem?
  intro i
  simp only [en_ws, List.getElem?_mapIdx]
  cases hi : h[i]? with
  | none => rfl
  | some x =>
    have hl : i < h.length := (List.getElem?_eq_some_iff.mp hi).1
    simp only [Option.map_some]
    rw [he i (by omega), en_trE_eq he (List.all_eq_true.mp hw x (List.mem_of_getElem? hi))]
theorem en_ws_push {ad : Nat → Nat} {h : Hp} {x : va_E} : en_ws ad (h ++ [x]) = en_ws ad h ++ [(ad h.length, en_trE ad x)] := by
  simp [en_ws, List.mapIdx_append]
theorem en_lv_eq {ad ad' : Nat → Nat} {n nL : Nat} {ls : Array Slot} {lv : List (Option Value)} (he : ∀ k, k ≠ n → ad' k = ad k) (hw : lv.all (en_wo n) = true) (hl : en_lv ad ls nL lv) : en_lv ad' ls nL lv :=
  ⟨hl.1, hl.2.1, fun i v hi => by
    rw [en_tr_eq he (List.all_eq_true.mp hw (some v) (List.mem_of_getElem? hi))]
    exact hl.2.2 i v hi⟩
/-- a callee's places within its caller's: its own from n on; 500 + k: the caller's k -/
def shN (n i : Nat) : Nat := if i < 500 then n + i else if i < 1000 then i - 500 else i
def shV (n : Nat) (v : Value) : Value := match v with
  | .ref k => .ref (shN n k)
  | w => w
def shE (n : Nat) (x : va_E) : va_E := match x with
  | .inl a => .inl a
  | .inr o => .inr (o.1, o.2.map (shV n))
def adc (n : Nat) (ad : Nat → Nat) : Nat → Nat := fun i => ad (shN n i)
theorem sh_tr {n : Nat} {ad : Nat → Nat} {v : Value} : en_tr ad (shV n v) = en_tr (adc n ad) v := by cases v <;> rfl
theorem sh_trE {n : Nat} {ad : Nat → Nat} {x : va_E} : en_trE ad (shE n x) = en_trE (adc n ad) x := by
  cases x with
  | inl a => rfl
  | inr o =>
    obtain ⟨ci, fs⟩ := o
    show Sum.inr (ci, (fs.map (shV n)).map (en_tr ad)) = Sum.inr (ci, fs.map (en_tr (adc n ad)))
    rw [List.map_map]
    exact congrArg (fun z => Sum.inr (ci, z)) (List.map_congr_left (fun v _ => sh_tr))
def en_wsO (o : Nat) (ad : Nat → Nat) (h : Hp) : va_W := h.mapIdx fun i x => (ad (o + i), en_trE ad x)
theorem en_ws_app {ad : Nat → Nat} {a b : Hp} : en_ws ad (a ++ b) = en_ws ad a ++ en_wsO a.length ad b := by
  simp [en_ws, en_wsO, List.mapIdx_append, Nat.add_comm]
theorem en_wsO_app {o : Nat} {ad : Nat → Nat} {a b : Hp} : en_wsO o ad (a ++ b) = en_wsO o ad a ++ en_wsO (o + a.length) ad b := by
  have : ∀ i : Nat, o + (i + a.length) = o + a.length + i := fun i => by omega
  simp [en_wsO, List.mapIdx_append, this]
theorem en_wsO_sh {n : Nat} {ad : Nat → Nat} {h : Hp} (hl : h.length ≤ 500) : en_wsO n ad (h.map (shE n)) = en_ws (adc n ad) h := by
  apply List.ext_getElem?
  intro i
  simp only [en_ws, en_wsO, List.getElem?_mapIdx, List.getElem?_map]
  cases hi : h[i]? with
  | none => rfl
  | some x =>
    have hl : i < h.length := (List.getElem?_eq_some_iff.mp hi).1
    simp only [Option.map_some, sh_trE]
    show some (ad (n + i), _) = some (ad (shN n i), _)
    rw [show shN n i = n + i by unfold shN; rw [if_pos (by omega)]]
theorem en_w3 {n : Nat} {ad : Nat → Nat} {hp hc hq : Hp} (hn : hp.length = n) (hl : hc.length ≤ 500) : en_ws ad (hp ++ (hc.map (shE n) ++ hq)) = en_ws ad hp ++ (en_ws (adc n ad) hc ++ en_wsO (n + hc.length) ad hq) := by
  rw [en_ws_app, en_wsO_app, hn, en_wsO_sh hl, List.length_map]
theorem en_P3 {D : va_G} {cl : List vw_C} {wa wc wb : va_W} {H : Heap} (h : va_P D cl (wa ++ (wc ++ wb)) H) : va_P D cl wc H := fun k q hk =>
  h (wa.length + k) q (by rw [List.getElem?_append_right (by omega), Nat.add_sub_cancel_left, List.getElem?_append_left (List.getElem?_eq_some_iff.mp hk).1]; exact hk)
theorem en_D3 {A : Nat → Prop} {wa wc wb : va_W} (h : va_D A (wa ++ (wc ++ wb))) : va_D A wc := by
  have at3 : ∀ (k : Nat) (q : Nat × va_E), wc[k]? = some q → (wa ++ (wc ++ wb))[wa.length + k]? = some q := fun k q hk => by
    rw [List.getElem?_append_right (by omega), Nat.add_sub_cancel_left, List.getElem?_append_left (List.getElem?_eq_some_iff.mp hk).1]; exact hk
  exact ⟨fun i j p q hi hj he => by have := h.1 _ _ p q (at3 i p hi) (at3 j q hj) he; omega, fun k q hk => h.2 _ q (at3 k q hk)⟩
/-- behind a call: the callee's cells are new, those around it are as they were -/
theorem en_join3 {A0 : Nat → Prop} {D : va_G} {cl : List vw_C} {wa wc wb w1 : va_W} {H H1 : Heap} (hP : va_P D cl (wa ++ (wc ++ wb)) H) (hD : va_D A0 (wa ++ (wc ++ wb)))
    (hk : ∀ q : Nat, q < H.size → ¬ va_A wc H.size q → H1[q]? = H[q]?) (hF : ∀ q, va_A wc H.size q → A0 q) (hP1 : va_P D cl w1 H1) (hD1 : va_D (va_A wc H.size) w1) : va_P D cl (wa ++ (w1 ++ wb)) H1 ∧ va_D A0 (wa ++ (w1 ++ wb)) := by
  have atA : ∀ (k : Nat) (q : Nat × va_E), wa[k]? = some q → (wa ++ (wc ++ wb))[k]? = some q := fun k q hk => by
    rw [List.getElem?_append_left (List.getElem?_eq_some_iff.mp hk).1]; exact hk
  have atC : ∀ (k : Nat) (q : Nat × va_E), wc[k]? = some q → (wa ++ (wc ++ wb))[wa.length + k]? = some q := fun k q hk => by
    rw [List.getElem?_append_right (by omega), Nat.add_sub_cancel_left, List.getElem?_append_left (List.getElem?_eq_some_iff.mp hk).1]; exact hk
  have atB : ∀ (k : Nat) (q : Nat × va_E), wb[k]? = some q → (wa ++ (wc ++ wb))[wa.length + (wc.length + k)]? = some q := fun k q hk => by
    rw [List.getElem?_append_right (by omega), Nat.add_sub_cancel_left, List.getElem?_append_right (by omega), Nat.add_sub_cancel_left]; exact hk
  have outA : ∀ (k : Nat) (q : Nat × va_E), wa[k]? = some q → q.1 < H.size ∧ ¬ va_A wc H.size q.1 := by
    intro k q hq
    have hl := (hP _ q (atA k q hq)).lt
    refine ⟨hl, fun h => ?_⟩
    rcases h with ⟨k2, e, h⟩ | h
    · have h1 := hD.1 _ _ q (q.1, e) (atA k q hq) (atC k2 _ h) rfl
      have h2 := (List.getElem?_eq_some_iff.mp hq).1
      omega
    · omega
  have outB : ∀ (k : Nat) (q : Nat × va_E), wb[k]? = some q → q.1 < H.size ∧ ¬ va_A wc H.size q.1 := by
    intro k q hq
    have hl := (hP _ q (atB k q hq)).lt
    refine ⟨hl, fun h => ?_⟩
    rcases h with ⟨k2, e, h⟩ | h
    · have h1 := hD.1 _ _ q (q.1, e) (atB k q hq) (atC k2 _ h) rfl
      have h2 := (List.getElem?_eq_some_iff.mp h).1
      omega
    · omega
  have pA : va_P D cl wa H1 := fun k q hq => (hP _ q (atA k q hq)).kept (hk q.1 (outA k q hq).1 (outA k q hq).2)
  have pB : va_P D cl wb H1 := fun k q hq => (hP _ q (atB k q hq)).kept (hk q.1 (outB k q hq).1 (outB k q hq).2)
  have dA : va_D A0 wa := ⟨fun i j p q hi hj he => hD.1 _ _ p q (atA i p hi) (atA j q hj) he, fun k q hq => hD.2 _ q (atA k q hq)⟩
  have dB : va_D A0 wb := ⟨fun i j p q hi hj he => by have := hD.1 _ _ p q (atB i p hi) (atB j q hj) he; omega, fun k q hq => hD.2 _ q (atB k q hq)⟩
  have d1 : va_D A0 w1 := ⟨hD1.1, fun k q hq => hF _ (hD1.2 k q hq)⟩
  have d1B : va_D A0 (w1 ++ wb) := va_D.app d1 dB (fun i j p q hi hj he => (outB j q hj).2 (by rw [← he]; exact hD1.2 i p hi))
  refine ⟨va_P.app pA (va_P.app hP1 pB), va_D.app dA d1B (fun i j p q hi hj he => ?_)⟩
  by_cases hl : j < w1.length
  · rw [List.getElem?_append_left hl] at hj
    exact (outA i p hi).2 (by rw [he]; exact hD1.2 j q hj)
  · rw [List.getElem?_append_right (by omega)] at hj
    have h1 := hD.1 _ _ p q (atA i p hi) (atB _ q hj) he
    have h2 := (List.getElem?_eq_some_iff.mp hi).1
    omega
/-- a constructor's end -/
def en_rmN (d mc ms : Nat) : Room := { frames := d, cells := mc, slots := ms, locals := 60 * d }
def en_postN (D : va_G) (tys : List (ClassId × FieldType)) (w : va_W) (sz : Nat) (Qp : (Nat → Nat) → Hp → Prop) : Array Value → State → Outcome → State → Prop :=
  fun _ st oc t => (∃ (ad2 : Nat → Nat) (h2 : Hp), oc = .returned none ∧ Qp ad2 h2 ∧ va_P D vwCl (en_ws ad2 h2) t.heap ∧ va_K D vwCl tys t ∧ va_D (va_A w sz) (en_ws ad2 h2)) ∧ va_F (va_A w sz) st t
/-- what a constructor of ours leaves: these cells, the places 0 and 500 .. as they were -/
def en_RN (ad : Nat → Nat) (hf : Hp) (ad2 : Nat → Nat) (h2 : Hp) : Prop := h2 = hf ∧ ∀ k, k = 0 ∨ 500 ≤ k → ad2 k = ad k
section Rows5
variable {p : Program} {l : Launch} {e : Env} {R : Room} {s : State} {m : MethodId} {args : Array Value} {below : List Frame} {meth : Method} {c : Code} {cells slots : Nat} {Q : State → Prop} {D : va_G} {tys : List (ClassId × FieldType)} {A : Nat → Prop} {nL dd : Nat} {ad : Nat → Nat} {cc : ByteArray} {own : String} {ret : Option FieldType} {pc : Nat} {lv : List (Option Value)} {st : List Value} {h : Hp} {K : en_K}
theorem cx_ad (C : Cx p R s m args meth c cc nL own ret D tys A ad dd) {ad2 : Nat → Nat} (he : ad2 1000 = ad 1000) : Cx p R s m args meth c cc nL own ret D tys A ad2 dd := by
  unfold Cx at C ⊢
  unfold en_Z at C ⊢
  rw [he]
  exact C
theorem g_newa (C : Cx p R s m args meth c cc nL own ret D (en_ty K) A ad dd) {atype : ArrayType} {cA0 : ClassId} {t0 n N : Nat} {x : Int32} {a0 : vp_A} (ht : (en_ty K)[t0]? = some (cA0, newarray.typeOf atype)) (hra : ∀ (U : State) (c1 c2 : ClassId), va_RA U c1 (newarray.typeOf atype) → va_RA U c2 (newarray.typeOf atype) → c1 = c2) (ha : ∀ cA : ClassId, vp_cell cA a0 = arrV cA N (fun _ => defaultValue (newarray.typeOf atype))) (hn : ¬ x < 0) (hN : x.toNatClampNeg = N) (hbytes : N * componentBytes (newarray.typeOf atype) ≤ 536870912) (hw : Cond.arrayClass (newarray.typeOf atype) ∈ en_tbl) (hlen : h.length = n) (hne : n ≠ 1000) (hwh : h.all (en_wE n) = true) (hwl : lv.all (en_wo n) = true) (hws : st.all (en_wv n) = true) (hcl : cells + 1 ≤ R.cells) (hsl : slots + N ≤ R.slots) (d : decode cc pc = .ok (.newarray atype, 2)) (kk : ∀ ad2 : Nat → Nat, (∀ k, k ≠ n → ad2 k = ad k) → Cx p R s m args meth c cc nL own ret D (en_ty K) A ad2 dd → G p l e R s m args below meth c D A nL ad2 (cells + 1) (slots + N) Q (pc + 2) lv (.ref n :: st) (h ++ [.inl (cA0, a0)])) : G p l e R s m args below meth c D A nL ad cells slots Q pc lv (.int x :: st) h := by
  intro H locs ls hP hD hS hl
  refine va_newa C.1 C.2.1 (C.2.2.2.2.1 _ hw) rfl C.2.2.2.2.2.1 hP hD hS C.2.2.2.2.2.2.1 ha hn hN hbytes hcl hsl d (fun q cA H1 hK1 hP1 hD1 hS1 => ?_)
  have e1 : cA = cA0 := hra s cA cA0 (hK1.2 3 (cA, _) rfl).2 (C.2.2.2.2.2.1.2 t0 _ ht).2
  subst e1
  obtain ⟨ad2, he, hq⟩ : ∃ ad2 : Nat → Nat, (∀ k, k ≠ n → ad2 k = ad k) ∧ ad2 n = q := ⟨fun k => if k = n then q else ad k, fun k hk => if_neg hk, if_pos rfl⟩
  have e2 : en_ws ad2 (h ++ [.inl (cA, a0)]) = en_ws ad h ++ [(q, .inl (cA, a0))] := by
    rw [en_ws_push, en_ws_eq (Nat.le_of_eq hlen) he hwh, hlen, hq]; rfl
  rw [← e2] at hP1 hD1
  have e3 : (Value.ref n :: st).map (en_tr ad2) = .ref q :: st.map (en_tr ad) := by
    rw [List.map_cons, List.map_congr_left (fun v hv => en_tr_eq he (List.all_eq_true.mp hws v hv))]
    show Value.ref (ad2 n) :: _ = _
    rw [hq]
  have := kk ad2 he (cx_ad C (he 1000 (Ne.symm hne))) H1 locs ls hP1 hD1 hS1 (en_lv_eq he hwl hl)
  rw [e3] at this
  exact this
theorem g_new (C : Cx p R s m args meth c cc nL own ret D tys A ad dd) {ci N n idx : Nat} {Cn : String} {T : u_T} {ty0 : Nat → FieldType} {fs : List Value} (hc : vwCl[ci]? = some (Cn, T, N)) (hin : ∀ w ∈ u_ws Cn T N, w ∈ en_tbl) (hty : ∀ k, k < N → parseFieldDescriptor (T k).2.2.1 = some (ty0 k)) (hlink : Cond.classLink own idx Cn ∈ en_tbl) (hinst : Cond.instantiable Cn N ∈ en_tbl) (hini : Cond.initialized Cn ∈ en_tbl) (hfs : ∀ j, j < N → defaultValue (ty0 j) = vp_V fs j) (hfx : ∀ ad : Nat → Nat, fs.map (en_tr ad) = fs) (hlen : h.length = n) (hne : n ≠ 1000) (hwh : h.all (en_wE n) = true) (hwl : lv.all (en_wo n) = true) (hws : st.all (en_wv n) = true) (hcl : cells + 1 ≤ R.cells) (hsl : slots + N ≤ R.slots) (d : decode cc pc = .ok (.new idx, 3)) (kk : ∀ ad2 : Nat → Nat, (∀ k, k ≠ n → ad2 k = ad k) → Cx p R s m args meth c cc nL own ret D tys A ad2 dd → G p l e R s m args below meth c D A nL ad2 (cells + 1) (slots + N) Q (pc + 3) lv (.ref n :: st) (h ++ [.inr (ci, fs)])) : G p l e R s m args below meth c D A nL ad cells slots Q pc lv st h := by
  intro H locs ls hP hD hS hl
  refine va_new C.1 C.2.1 C.2.2.2.2.1 hin ty0 hty C.2.2.2.1 (C.2.2.2.2.1 _ hlink) (C.2.2.2.2.1 _ hinst) (C.2.2.2.2.1 _ hini) C.2.2.2.2.2.1 hP hD hS C.2.2.2.2.2.2.1 hc hfs hcl hsl d (fun q H1 hP1 hD1 hS1 => ?_)
  obtain ⟨ad2, he, hq⟩ : ∃ ad2 : Nat → Nat, (∀ k, k ≠ n → ad2 k = ad k) ∧ ad2 n = q := ⟨fun k => if k = n then q else ad k, fun k hk => if_neg hk, if_pos rfl⟩
  have e2 : en_ws ad2 (h ++ [.inr (ci, fs)]) = en_ws ad h ++ [(q, .inr (ci, fs))] := by
    rw [en_ws_push, en_ws_eq (Nat.le_of_eq hlen) he hwh, hlen, hq]
    show _ ++ [(q, Sum.inr (ci, fs.map (en_tr ad2)))] = _
    rw [hfx]
  rw [← e2] at hP1 hD1
  have e3 : (Value.ref n :: st).map (en_tr ad2) = .ref q :: st.map (en_tr ad) := by
    rw [List.map_cons, List.map_congr_left (fun v hv => en_tr_eq he (List.all_eq_true.mp hws v hv))]
    show Value.ref (ad2 n) :: _ = _
    rw [hq]
  have := kk ad2 he (cx_ad C (he 1000 (Ne.symm hne))) H1 locs ls hP1 hD1 hS1 (en_lv_eq he hwl hl)
  rw [e3] at this
  exact this
theorem g_putF (C : Cx p R s m args meth c cc nL own ret D tys A ad dd) {k ci j N idx : Nat} {fs : List Value} {v : Value} {Cn : String} {T : u_T} {ty0 : Nat → FieldType} {h2 : Hp} (hin2 : meth.name = "<init>") (hg : h[k]? = some (.inr (ci, fs))) (hc : vwCl[ci]? = some (Cn, T, N)) (hj : j < N) (hin : ∀ w ∈ u_ws Cn T N, w ∈ en_tbl) (hty : ∀ k, k < N → parseFieldDescriptor (T k).2.2.1 = some (ty0 k)) (hnm : ∀ a, a < N → ∀ b, b < N → a ≠ b → (T a).2.1 ≠ (T b).2.1) (hlink : Cond.fieldLink own idx (T j).1 (T j).2.1 (T j).2.2.1 ∈ en_tbl) (hfin : (T j).2.2.2 = true) (hdecl : (T j).1 = own) {ty : FieldType} (hd : parseFieldDescriptor (T j).2.2.1 = some ty) (hn : narrow ty (en_tr ad v) = en_tr ad v) (hfit : fits ty (en_tr ad v) = true) (hjl : j < fs.length) (hs : h.set k (.inr (ci, fs.set j v)) = h2) (d : decode cc pc = .ok (.putfield idx, 3)) (k2 : G p l e R s m args below meth c D A nL ad cells slots Q (pc + 3) lv st h2) : G p l e R s m args below meth c D A nL ad cells slots Q pc lv (v :: .ref k :: st) h := by
  subst hs
  intro H locs ls hP hD hS hl
  refine va_putF (D := D) (v := en_tr ad v) C.1 C.2.1 C.2.2.2.2.1 hin ty0 hty hnm C.2.2.2.1 C.2.2.2.2.2.1 hP hD hS k (en_at hg) hc j hj (C.2.2.2.2.1 _ hlink) (fun _ h9 => h9) hfin hin2 hdecl hd hn hfit (by simpa using hjl) d (fun H1 locs1 hP1 hD1 hS1 => ?_)
  have e1 : (en_ws ad h).set k (ad k, .inr (ci, (fs.map (en_tr ad)).set j (en_tr ad v))) = en_ws ad (h.set k (.inr (ci, fs.set j v))) := by
    rw [← en_set]; simp [en_trE, List.map_set]
  rw [e1] at hP1 hD1
  exact k2 H1 locs1 ls hP1 hD1 hS1 hl
theorem g_objInit (C : Cx p R s m args meth c cc nL own ret D tys A ad dd) {k idx : Nat} (hlink : Cond.methodLink own idx Lib.objectInit ∈ en_tbl) (hinst : Cond.instanceMethod Lib.objectInit ∈ en_tbl) (hcode : Cond.code Lib.objectInit ⟨#[0xb1]⟩ 1 none ∈ en_tbl) (hdd : 1 ≤ dd) (hst : ((st.map (en_tr ad)).map fun v => v.category).sum ≤ 8) (d : decode cc pc = .ok (.invokespecial idx, 3)) (kk : G p l e R s m args below meth c D A nL ad cells slots Q (pc + 3) lv st h) : G p l e R s m args below meth c D A nL ad cells slots Q pc lv (.ref k :: st) h := by
  intro H locs ls hP hD hS hl
  have hR := C.2.2.2.2.2.2.2.2.2
  have hr := lv_room (m := m) (pc := pc) (ls := ls) (rest := (.ref (ad k) :: st.map (en_tr ad))) hst
  exact W.objInit C.1 C.2.1 C.2.2.2.1 (C.2.2.2.2.1 _ hlink) (C.2.2.2.2.1 _ hinst) (C.2.2.2.2.1 _ hcode) (g := F0 m pc ls (.ref (ad k) :: st.map (en_tr ad))) rfl (hl.1.trans C.2.2.1.symm) rfl d (by omega) (by omega) (kk H locs ls hP hD hS hl)
/-- behind a call that made cells -/
theorem en_callN {H : Heap} {locs : List Loc} {ls : Array Slot} {st0 rest : List Value} {mc ms : Nat} {wa wc wb : va_W} {Qp : (Nat → Nat) → Hp → Prop} {a : Array Value} (hr : va_Run p l e R s m args below meth c H locs cells slots mc ms (F0 m pc ls st0) rest (en_postN D tys wc H.size Qp a) (va_A wc H.size)) (hP : va_P D vwCl (wa ++ (wc ++ wb)) H) (hD : va_D A (wa ++ (wc ++ wb))) (hS : va_S A s.heap H locs) (hA : ∀ q, s.heap.size ≤ q → A q)
    (kk : ∀ (ad2 : Nat → Nat) (h2 : Hp) (H1 : Heap) (locs1 : List Loc), Qp ad2 h2 → va_P D vwCl (wa ++ (en_ws ad2 h2 ++ wb)) H1 → va_D A (wa ++ (en_ws ad2 h2 ++ wb)) → va_S A s.heap H1 locs1 → W p l e R s m args below meth c H1 locs1 (cells + mc) (slots + ms) Q (F0 m (pc + 3) ls rest)) : W p l e R s m args below meth c H locs cells slots Q (F0 m pc ls st0) := by
  have hF : ∀ q, va_A wc H.size q → A q := by
    rintro q (⟨k, x, hk⟩ | hq)
    · exact (en_D3 hD).2 k _ hk
    · exact hA q (Nat.le_trans hS.1 hq)
  intro T hT X
  obtain ⟨v, st₀, t, T', L, h0, X', hL, e1, e2, ⟨⟨ad2, h2, hv, hq, hP2, hK2, hD2⟩, hz, hk⟩, stp⟩ := hr T hT X
  cases hv
  rw [h0] at hz hk
  obtain ⟨hP3, hD3⟩ := en_join3 hP hD hk hF hP2 hD2
  obtain ⟨t2, a1, b1⟩ := kk ad2 h2 T'.heap (locs ++ L) hq (by rw [e1]; exact hP3) hD3
    ⟨Nat.le_trans hS.1 (by rw [e1]; exact hz), fun q h1 h3 => by rw [e1, hk q (Nat.lt_of_lt_of_le h1 hS.1) (fun z => h3 (hF q z))]; exact hS.2.1 q h1 h3, fun q hq => by
      rcases List.mem_append.mp hq with h | h
      · exact hS.2.2 q h
      · exact hF _ (hL q h)⟩ T' rfl X'
  exact ⟨t2, stp t2 a1, b1⟩
/-- behind a call that made none -/
theorem en_callM {H : Heap} {locs : List Loc} {ls : Array Slot} {st0 rest : List Value} {wa wb : va_W} {adk : Nat → Nat} {hc : Hp} {Qp : Option Value → Hp → Prop} {a : Array Value} (hr : va_Run p l e R s m args below meth c H locs cells slots 0 0 (F0 m pc ls st0) rest (en_post D tys adk (en_ws adk hc) H.size Qp a) (va_A (en_ws adk hc) H.size)) (hP : va_P D vwCl (wa ++ (en_ws adk hc ++ wb)) H) (hD : va_D A (wa ++ (en_ws adk hc ++ wb))) (hS : va_S A s.heap H locs) (hA : ∀ q, s.heap.size ≤ q → A q)
    (kk : ∀ (r : Option Value) (h2 : Hp) (H1 : Heap) (locs1 : List Loc), Qp r h2 → va_P D vwCl (wa ++ (en_ws adk h2 ++ wb)) H1 → va_D A (wa ++ (en_ws adk h2 ++ wb)) → va_S A s.heap H1 locs1 → W p l e R s m args below meth c H1 locs1 cells slots Q (F0 m (pc + 3) ls ((r.map (en_tr adk)).toList ++ rest))) : W p l e R s m args below meth c H locs cells slots Q (F0 m pc ls st0) := by
  have hF : ∀ q, va_A (en_ws adk hc) H.size q → A q := by
    rintro q (⟨k, x, hk⟩ | hq)
    · exact (en_D3 hD).2 k _ hk
    · exact hA q (Nat.le_trans hS.1 hq)
  intro T hT X
  obtain ⟨v, st₀, t, T', L, h0, X', hL, e1, e2, ⟨⟨r, h2, hv, hq, hP2, hK2, hD2⟩, hz, hk⟩, stp⟩ := hr T hT X
  cases hv
  rw [h0] at hz hk
  obtain ⟨hP3, hD3⟩ := en_join3 hP hD hk hF hP2 hD2
  obtain ⟨t2, a1, b1⟩ := kk r h2 T'.heap (locs ++ L) hq (by rw [e1]; exact hP3) hD3
    ⟨Nat.le_trans hS.1 (by rw [e1]; exact hz), fun q h1 h3 => by rw [e1, hk q (Nat.lt_of_lt_of_le h1 hS.1) (fun z => h3 (hF q z))]; exact hS.2.1 q h1 h3, fun q hq => by
      rcases List.mem_append.mp hq with h | h
      · exact hS.2.2 q h
      · exact hF _ (hL q h)⟩ T' rfl X'
  exact ⟨t2, stp t2 a1, b1⟩
theorem en_startC {H : Heap} {locs : List Loc} {n : Nat} {wa wb : va_W} {hc : Hp} {av : List Value} (C : Cx p R s m args meth c cc nL own ret D tys A ad dd) (hP : va_P D vwCl (wa ++ (en_ws (adc n ad) hc ++ wb)) H) (hD : va_D A (wa ++ (en_ws (adc n ad) hc ++ wb))) (hS : va_S A s.heap H locs) : ∀ U : State, U.heap = H → s.WarmedH U.vm → en_pre D tys (adc n ad) av hc H.size (av.map (en_tr (adc n ad))).toArray U := by
  intro U hU hW
  have hF : ∀ q, va_A (en_ws (adc n ad) hc) H.size q → A q := by
    rintro q (⟨k, x, hk⟩ | hq)
    · exact (en_D3 hD).2 k _ hk
    · exact C.2.2.2.2.2.2.1 q (Nat.le_trans hS.1 hq)
  subst hU
  have hz : en_Z (adc n ad) A s s.heap := C.2.2.2.2.2.2.2.2.1
  exact ⟨rfl, rfl, en_P3 hP, va_K.moved hW.alike C.2.2.2.2.2.1, (en_D3 hD).weaken (fun _ _ _ _ => trivial), en_Z.moved hW.alike (en_Z.narrow (en_Z.kept hz (fun a h1 h2 => hS.2.1 a h1 h2)) hF)⟩
end Rows5
