/-! THE ENGINE, sixth part: constructors' contracts and calls; the law's calls and its script. -/
section Rows6
variable {p : Program} {l : Launch} {e : Env} {R : Room} {s : State} {m : MethodId} {args : Array Value} {below : List Frame} {meth : Method} {c : Code} {cells slots : Nat} {Q : State → Prop} {D : va_G} {tys : List (ClassId × FieldType)} {A : Nat → Prop} {nL dd : Nat} {ad : Nat → Nat} {cc : ByteArray} {own : String} {ret : Option FieldType} {pc : Nat} {lv : List (Option Value)} {st : List Value} {h : Hp} {K : en_K}
theorem g_vretN {ad0 : Nat → Nat} {h0 : Hp} {sz mc ms : Nat} {Qp : (Nat → Nat) → Hp → Prop} (C : Cx p R s m args meth c cc nL own none D tys (va_A (en_ws ad0 h0) sz) ad dd) (d : decode cc pc = .ok (.return_, 1)) (hq : Qp ad h) : G p l e R s m args below meth c D (va_A (en_ws ad0 h0) sz) nL ad mc ms (MQ below (en_postN D tys (en_ws ad0 h0) sz Qp) args s mc ms (va_A (en_ws ad0 h0) sz)) pc lv [] h :=
  fun H locs ls hP hD hS hl => W.vret C.1 C.2.1 C.2.2.2.2.2.2.2.2.2.2.2 (fun t ht hW => ⟨⟨ad, h, rfl, hq, by rw [ht]; exact hP, va_K.moved hW.alike C.2.2.2.2.2.1, hD⟩, hS.F ht⟩) hS.2.2 d C.2.2.2.2.2.2.2.1
/-- a place that isn't among those that a call has made -/
def en_xv (n t : Nat) (v : Value) : Bool := match v with
  | .ref k => decide (k ≤ n) || decide (t ≤ k)
  | _ => true
def en_xE (n t : Nat) (x : va_E) : Bool := match x with
  | .inl _ => true
  | .inr o => o.2.all (en_xv n t)
def en_xo (n t : Nat) (o : Option Value) : Bool := match o with
  | some v => en_xv n t v
  | none => true
/-- a callee's place: its own, or one of its caller's -/
def en_yv (n t : Nat) (v : Value) : Bool := match v with
  | .ref k => decide (k < t) || (decide (500 ≤ k) && decide (k ≤ 500 + n) && decide (k < 1000))
  | _ => true
def en_yE (n t : Nat) (x : va_E) : Bool := match x with
  | .inl _ => true
  | .inr o => o.2.all (en_yv n t)
theorem en_xtr {ad ad2 : Nat → Nat} {n t : Nat} {v : Value} (he : ∀ k, k ≤ n ∨ t ≤ k → ad2 k = ad k) (hv : en_xv n t v = true) : en_tr ad2 v = en_tr ad v := by
  cases v <;> try rfl
  rename_i k
  have hk : k ≤ n ∨ t ≤ k := by simpa [en_xv] using hv
  show Value.ref _ = Value.ref _
  rw [he k hk]
theorem en_xtrE {ad ad2 : Nat → Nat} {n t : Nat} {x : va_E} (he : ∀ k, k ≤ n ∨ t ≤ k → ad2 k = ad k) (hx : en_xE n t x = true) : en_trE ad2 x = en_trE ad x := by
  cases x with
  | inl a => rfl
  | inr o =>
    obtain ⟨ci, fs⟩ := o
    show Sum.inr (ci, fs.map (en_tr ad2)) = Sum.inr (ci, fs.map (en_tr ad))
    rw [List.map_congr_left (fun v hv => en_xtr he (List.all_eq_true.mp hx v hv))]
theorem en_xws {ad ad2 : Nat → Nat} {h : Hp} {n t : Nat} (hn : h.length ≤ n) (he : ∀ k, k ≤ n ∨ t ≤ k → ad2 k = ad k) (hw : h.all (en_xE n t) = true) : en_ws ad2 h = en_ws ad h := by
  apply List.ext_getElem?
  intro i
  simp only [en_ws, List.getElem?_mapIdx]
  cases hi : h[i]? with
  | none => rfl
  | some x =>
    have hl : i < h.length := (List.getElem?_eq_some_iff.mp hi).1
    simp only [Option.map_some]
    rw [he i (Or.inl (by omega)), en_xtrE he (List.all_eq_true.mp hw x (List.mem_of_getElem? hi))]
theorem en_ytr {ad1 ad2 : Nat → Nat} {n t : Nat} {v : Value} (he : ∀ k, k < t ∨ (500 ≤ k ∧ k ≤ 500 + n ∧ k < 1000) → ad1 k = ad2 k) (hv : en_yv n t v = true) : en_tr ad1 v = en_tr ad2 v := by
  cases v <;> try rfl
  rename_i k
  have hk : k < t ∨ (500 ≤ k ∧ k ≤ 500 + n ∧ k < 1000) := by
    simp only [en_yv, Bool.or_eq_true, Bool.and_eq_true, decide_eq_true_eq] at hv
    rcases hv with hv | ⟨⟨h1, h2⟩, h3⟩
    · exact Or.inl hv
    · exact Or.inr ⟨h1, h2, h3⟩
  show Value.ref _ = Value.ref _
  rw [he k hk]
theorem en_yws {ad1 ad2 : Nat → Nat} {h : Hp} {n : Nat} (he : ∀ k, k < h.length ∨ (500 ≤ k ∧ k ≤ 500 + n ∧ k < 1000) → ad1 k = ad2 k) (hw : h.all (en_yE n h.length) = true) : en_ws ad1 h = en_ws ad2 h := by
  apply List.ext_getElem?
  intro i
  simp only [en_ws, List.getElem?_mapIdx]
  cases hi : h[i]? with
  | none => rfl
  | some x =>
    have hl : i < h.length := (List.getElem?_eq_some_iff.mp hi).1
    have hx := List.all_eq_true.mp hw x (List.mem_of_getElem? hi)
    simp only [Option.map_some]
    rw [he i (Or.inl hl)]
    cases x with
    | inl a => rfl
    | inr o =>
      obtain ⟨ci, fs⟩ := o
      show some (_, Sum.inr (ci, fs.map (en_tr ad1))) = some (_, Sum.inr (ci, fs.map (en_tr ad2)))
      rw [List.map_congr_left (fun v hv => en_ytr he (List.all_eq_true.mp hx v hv))]
/-- a constructor is called, over the cell that was made last -/
theorem en_ctor {mc ms n0 d0 n na : Nat} {y : MethodName} {b : ByteArray} {x : va_E} {hp hf : Hp} {As : List Value}
    (C : Cx p R s m args meth c cc nL own ret D tys A ad dd)
    (hrun : ∀ (H : Heap) (locs : List Loc) (ls : Array Slot), ls.size = nL → va_P D vwCl (en_ws ad hp ++ (en_ws (adc n ad) [x] ++ [])) H → va_D A (en_ws ad hp ++ (en_ws (adc n ad) [x] ++ [])) → va_S A s.heap H locs → va_Run p l e R s m args below meth c H locs cells slots mc ms (F0 m pc ls ((As.map (shV n)).reverse.map (en_tr ad) ++ .ref (ad n) :: st.map (en_tr ad))) (st.map (en_tr ad)) (en_postN D tys (en_ws (adc n ad) [x]) H.size (en_RN (adc n ad) hf) ((Value.ref 0 :: As).map (en_tr (adc n ad))).toArray) (va_A (en_ws (adc n ad) [x]) H.size))
    (hn : hp.length = n) (hx : shE n x = x) (hfl : hf.length ≤ 400) (hf0 : 0 < hf.length) (hnl : n ≤ 400) (hwp : hp.all (en_xE n (n + hf.length)) = true) (hwl : lv.all (en_xo n (n + hf.length)) = true) (hws : st.all (en_xv n (n + hf.length)) = true) (hwf : hf.all (en_yE n hf.length) = true)
    (kk : ∀ ad2 : Nat → Nat, (∀ k, k ≤ n ∨ n + hf.length ≤ k → ad2 k = ad k) → Cx p R s m args meth c cc nL own ret D tys A ad2 dd → G p l e R s m args below meth c D A nL ad2 (cells + mc) (slots + ms) Q (pc + 3) lv st (hp ++ hf.map (shE n))) :
    G p l e R s m args below meth c D A nL ad cells slots Q pc lv ((As.map (shV n)).reverse ++ .ref n :: st) (hp ++ [x]) := by
  intro H locs ls hP hD hS hl
  have e0 : en_ws ad (hp ++ [x]) = en_ws ad hp ++ (en_ws (adc n ad) [x] ++ []) := by
    have := en_w3 (ad := ad) (hp := hp) (hc := [x]) (hq := []) hn (by simp)
    simpa [hx, en_wsO] using this
  rw [e0] at hP hD
  have e9 : ((As.map (shV n)).reverse ++ Value.ref n :: st).map (en_tr ad) = (As.map (shV n)).reverse.map (en_tr ad) ++ .ref (ad n) :: st.map (en_tr ad) := by
    rw [List.map_append, List.map_cons]; rfl
  rw [e9]
  refine en_callN (hrun H locs ls hl.1 hP hD hS) hP hD hS C.2.2.2.2.2.2.1 (fun ad2 h2 H1 locs1 hq hP1 hD1 hS1 => ?_)
  obtain ⟨rfl, hq⟩ := hq
  obtain ⟨ad3, h3⟩ : ∃ ad3 : Nat → Nat, ad3 = fun k => if n < k ∧ k < n + h2.length then ad2 (k - n) else ad k := ⟨_, rfl⟩
  have he : ∀ k, k ≤ n ∨ n + h2.length ≤ k → ad3 k = ad k := fun k hk => by rw [h3]; exact if_neg (by omega)
  have hi : ∀ k, 0 < k → k < h2.length → ad3 (n + k) = ad2 k := fun k h0 hk => by
    rw [h3]; show (if _ then _ else _) = _
    rw [if_pos (by omega), Nat.add_sub_cancel_left]
  have hy : ∀ k, k < h2.length ∨ (500 ≤ k ∧ k ≤ 500 + n ∧ k < 1000) → adc n ad3 k = ad2 k := by
    intro k hk
    rcases hk with hk | hk
    · show ad3 (shN n k) = _
      rw [show shN n k = n + k by unfold shN; rw [if_pos (by omega)]]
      by_cases h0 : k = 0
      · subst h0
        rw [Nat.add_zero, he n (Or.inl (Nat.le_refl n)), hq 0 (Or.inl rfl)]
        show _ = ad (shN n 0)
        rfl
      · exact hi k (by omega) hk
    · show ad3 (shN n k) = _
      rw [hq k (Or.inr hk.1)]
      show _ = ad (shN n k)
      rw [show shN n k = k - 500 by unfold shN; rw [if_neg (by omega), if_pos (by omega)]]
      exact he _ (Or.inl (by omega))
  have e1 : en_ws ad3 (hp ++ h2.map (shE n)) = en_ws ad hp ++ (en_ws ad2 h2 ++ []) := by
    have := en_w3 (ad := ad3) (hp := hp) (hc := h2) (hq := []) hn (by omega)
    rw [en_xws (Nat.le_of_eq hn) he hwp, en_yws hy hwf] at this
    simpa [en_wsO] using this
  rw [← e1] at hP1 hD1
  have e2 : st.map (en_tr ad3) = st.map (en_tr ad) := List.map_congr_left (fun v hv => en_xtr he (List.all_eq_true.mp hws v hv))
  have := kk ad3 he (cx_ad C (he 1000 (Or.inr (by omega)))) H1 locs1 ls hP1 hD1 hS1 ⟨hl.1, hl.2.1, fun i v hi => by
    rw [en_xtr he (List.all_eq_true.mp hwl (some v) (List.mem_of_getElem? hi))]
    exact hl.2.2 i v hi⟩
  rw [e2] at this
  exact this
end Rows6
theorem en_blindA {D : va_G} {tys : List (ClassId × FieldType)} {ad : Nat → Nat} {av : List Value} {h : Hp} {sz : Nat} : FrameBlind (en_pre D tys ad av h sz) := en_blind
/-- the words of the links to nest mates, and contracts of constructors, which have them -/
def en_nest : List Cond := [(Jvm.Cond.methodLinkNest "LedgerTests" (9 : Nat) ({ cls := "LedgerTests$State", name := "<init>", desc := "()V" } : Jvm.MethodName) "LedgerTests"), (Jvm.Cond.methodLinkNest "LedgerTests" (18 : Nat) ({ cls := "LedgerTests$Code", name := "<init>", desc := "()V" } : Jvm.MethodName) "LedgerTests"), (Jvm.Cond.methodLinkNest "LedgerTests" (41 : Nat) ({ cls := "LedgerTests$Scripts", name := "<init>", desc := "()V" } : Jvm.MethodName) "LedgerTests")]
theorem en_nest_warm {s U : State} (hW : s.WarmedH U.vm) (h : ∀ w ∈ en_nest, va_Nw w s) : ∀ w ∈ en_nest, va_Nw w U := by
  intro w hw
  have h1 := h w hw
  simp only [en_nest, List.mem_cons, List.not_mem_nil, or_false] at hw
  rcases hw with rfl | rfl | rfl <;> exact va_Nw.warmM hW h1
theorem en_nest_same {s U : State} (hv : s.vm = U.vm) (h : ∀ w ∈ en_nest, va_Nw w s) : ∀ w ∈ en_nest, va_Nw w U := by
  intro w hw
  have h1 := h w hw
  simp only [en_nest, List.mem_cons, List.not_mem_nil, or_false] at hw
  rcases hw with rfl | rfl | rfl <;> exact va_Nw.same rfl hv h1
def en_preN (D : va_G) (tys : List (ClassId × FieldType)) (ad : Nat → Nat) (av : List Value) (h : Hp) (sz : Nat) : Array Value → State → Prop := fun a U => en_pre D tys ad av h sz a U ∧ ∀ w ∈ en_nest, va_Nw w U
theorem en_blindN {D : va_G} {tys : List (ClassId × FieldType)} {ad : Nat → Nat} {av : List Value} {h : Hp} {sz : Nat} : FrameBlind (en_preN D tys ad av h sz) := fun a U g mk q => ⟨en_blind a U g mk q.1, en_nest_same (s := U) (U := U.calling g mk a) rfl q.2⟩
def CTN (l : Launch) (D : va_G) (tys : List (ClassId × FieldType)) (ad : Nat → Nat) (d mc ms : Nat) (y : MethodName) (b : ByteArray) (n : Nat) (av : List Value) (h : Hp) (Qp : (Nat → Nat) → Hp → Prop) : Prop :=
  ∀ sz : Nat, Met l y (Cond.code y b n none :: en_tbl) (en_rmN d mc ms) (en_preN D tys ad av h sz) (en_postN D tys (en_ws ad h) sz Qp) mc ms (va_A (en_ws ad h) sz)
/-- a constructor's contract out of a walk of its body -/
theorem CTN.of {l : Launch} {D : va_G} {tys : List (ClassId × FieldType)} {ad : Nat → Nat} {dd mc ms : Nat} {y : MethodName} {b : ByteArray} {n : Nat} {av : List Value} {h : Hp} {Qp : (Nat → Nat) → Hp → Prop} (hy : plainName y.cls = true) (hy1 : y.name = "<init>") (lv0 : List (Option Value)) (hlv : en_ent av ++ List.replicate (n - (en_ent av).length) none = lv0) (hle : (en_ent av).length ≤ n)
    (body : ∀ (p : Program) (e : Env) (R : Room) (s : State) (m : MethodId) (args : Array Value) (below : List Frame) (meth : Method) (c : Code) (sz : Nat), meth.name = "<init>" → mc ≤ R.cells → ms ≤ R.slots → (∀ w ∈ en_nest, va_Nw w s) → Cx p R s m args meth c b n y.cls none D tys (va_A (en_ws ad h) sz) ad dd → G p l e R s m args below meth c D (va_A (en_ws ad h) sz) n ad 0 0 (MQ below (en_postN D tys (en_ws ad h) sz Qp) args s mc ms (va_A (en_ws ad h) sz)) 0 lv0 [] h) : CTN l D tys ad dd mc ms y b n av h Qp := by
  intro sz
  refine Met.ofW (cc := b) (maxL := n) (ret := none) hy rfl ?_
  intro p e s m args below meth c s₁ B hml hv
  obtain ⟨⟨rfl, hsz, hP, hK, hD0, hZ⟩, hN⟩ := hv
  have hts := atoms_spec (ws := Cond.code y b n none :: en_tbl) B.pre
  have hD : va_D (va_A (en_ws ad h) sz) (en_ws ad h) := hD0.self
  have hin : meth.name = "<init>" := by rw [← hy1]; exact (name_of_methodNamed B.named B.method).1
  have C : Cx p (headSpec (Cond.code y b n none :: en_tbl) (en_rmN dd mc ms)).room s m (av.map (en_tr ad)).toArray meth c b n y.cls none D tys (va_A (en_ws ad h) sz) ad dd :=
    ⟨B.exec, B.bytes, hml, findClass_of_methodNamed B.named, fun w hw => hts w (List.mem_cons_of_mem _ hw), hK, fun q hq => Or.inr (by rw [← hsz]; exact hq), B.notSynchronized, hZ, Nat.le_refl _, Nat.le_refl _, B.returns⟩
  have hlen : (lg_sl (av.map (en_tr ad))).length ≤ n := by
    rw [en_sl_len]; exact hle
  have hl := lv_entry (av.map (en_tr ad)) (n := n) hlen
  rw [lg_entry_eq]
  refine body p e _ s m _ below meth c sz hin (Nat.le_refl _) (Nat.le_refl _) hN C s.heap [] _ hP hD va_S.rf ⟨hl.1, hl.2.1, fun i v hi => ?_⟩
  rw [← hlv] at hi
  by_cases hi2 : i < (en_ent av).length
  · rw [List.getElem?_append_left hi2] at hi
    have := hl.2.2 (0 + i, en_tr ad v) (en_ent_args av 0 i v hi)
    simpa using this
  · rw [List.getElem?_append_right (by omega), List.getElem?_replicate] at hi
    split at hi <;> cases hi
section Rows7
variable {p : Program} {l : Launch} {e : Env} {R : Room} {s : State} {m : MethodId} {args : Array Value} {below : List Frame} {meth : Method} {c : Code} {cells slots : Nat} {Q : State → Prop} {D : va_G} {tys : List (ClassId × FieldType)} {A : Nat → Prop} {nL dd : Nat} {ad : Nat → Nat} {cc : ByteArray} {own : String} {ret : Option FieldType} {pc : Nat} {lv : List (Option Value)} {st : List Value} {h : Hp} {K : en_K}
theorem en_goodI {y : MethodName} {b : ByteArray} {n : Nat} {r : Option FieldType} (h5 : Cond.code y b n r ∈ en_tbl) : GoodIn en_tbl (Cond.code y b n r :: en_tbl) := by
  intro w hw
  rcases List.mem_cons.mp hw with rfl | hw
  · exact en_good h5
  · exact en_good hw
theorem g_ctor {mc ms n0 d0 n na idx : Nat} {y : MethodName} {b : ByteArray} {x : va_E} {hp hf : Hp} {As : List Value} (C : Cx p R s m args meth c cc nL own ret D tys A ad dd) (hNs : ∀ w ∈ en_nest, va_Nw w s)
    (hM : CTN l D tys (adc n ad) d0 mc ms y b n0 (.ref 0 :: As) [x] (en_RN (adc n ad) hf)) (hlink : Cond.methodLink own idx y ∈ en_tbl) (hinst : Cond.instanceMethod y ∈ en_tbl) (hini : Cond.initialized y.cls ∈ en_tbl) (hcode : Cond.code y b n0 none ∈ en_tbl) (hy1 : y.name = "<init>") (hy : y.cls ≠ "java/lang/invoke/MethodHandle" ∧ y.cls ≠ "java/lang/invoke/VarHandle" ∧ (parseMethodDescriptor y.desc).map (fun d => d.parameters.length) = some na) (hna : As.length = na) (hd : d0 + 1 ≤ dd) (hm : n0 ≤ 41) (hst : ((st.map (en_tr ad)).map fun v => v.category).sum ≤ 8) (hcl : cells + mc ≤ R.cells) (hsl : slots + ms ≤ R.slots) (d : decode cc pc = .ok (.invokespecial idx, 3))
    (hn : hp.length = n) (hx : shE n x = x) (hfl : hf.length ≤ 400) (hf0 : 0 < hf.length) (hnl : n ≤ 400) (hwp : hp.all (en_xE n (n + hf.length)) = true) (hwl : lv.all (en_xo n (n + hf.length)) = true) (hws : st.all (en_xv n (n + hf.length)) = true) (hwf : hf.all (en_yE n hf.length) = true)
    (kk : ∀ ad2 : Nat → Nat, (∀ k, k ≤ n ∨ n + hf.length ≤ k → ad2 k = ad k) → Cx p R s m args meth c cc nL own ret D tys A ad2 dd → G p l e R s m args below meth c D A nL ad2 (cells + mc) (slots + ms) Q (pc + 3) lv st (hp ++ hf.map (shE n))) :
    G p l e R s m args below meth c D A nL ad cells slots Q pc lv ((As.map (shV n)).reverse ++ .ref n :: st) (hp ++ [x]) := by
  refine en_ctor (As := As) (mc := mc) (ms := ms) (y := y) (b := b) (n0 := n0) (d0 := d0) (na := na) C (fun H locs ls hls hP hD hS => ?_) hn hx hfl hf0 hnl hwp hwl hws hwf kk
  have hR := C.2.2.2.2.2.2.2.2.2
  refine va_runI (As := As.map (en_tr (adc n ad))) (rest := st.map (en_tr ad)) ⟨C.1, C.2.1, C.2.2.1, C.2.2.2.1, C.2.2.2.2.1⟩ (hM H.size) (cwI na C.2.2.2.2.1 (en_goodI hcode) rfl rfl rfl (C.2.2.2.2.1 _ hini) (C.2.2.2.2.1 _ hlink) (C.2.2.2.2.1 _ hinst) hy1 hy ⟨by show d0 + 1 ≤ _; omega, by show 8 + (n0 + 11) + 60 * d0 ≤ _; omega⟩) ⟨en_blindN, ?_⟩ rfl (by simpa using hna) hls ?_ (lv_room hst) d ⟨hcl, hsl⟩
  · exact fun U hU hW => ⟨en_startC (av := .ref 0 :: As) C hP hD hS U hU hW, en_nest_warm hW hNs⟩
  · show _ ++ _ = _ ++ _
    rw [← List.map_reverse, ← List.map_reverse, List.map_map]
    have : As.reverse.map (en_tr ad ∘ shV n) = As.reverse.map (en_tr (adc n ad)) := List.map_congr_left (fun v _ => sh_tr)
    rw [this]
    rfl
theorem g_ctorN {mc ms n0 d0 n na idx : Nat} {y : MethodName} {b : ByteArray} {x : va_E} {hp hf : Hp} {As : List Value} {host : String} (C : Cx p R s m args meth c cc nL own ret D tys A ad dd) (hNs : ∀ w ∈ en_nest, va_Nw w s)
    (hM : CTN l D tys (adc n ad) d0 mc ms y b n0 (.ref 0 :: As) [x] (en_RN (adc n ad) hf)) (hinst : Cond.instanceMethod y ∈ en_tbl) (hini : Cond.initialized y.cls ∈ en_tbl) (hcode : Cond.code y b n0 none ∈ en_tbl) (hy1 : y.name = "<init>") (hy : y.cls ≠ "java/lang/invoke/MethodHandle" ∧ y.cls ≠ "java/lang/invoke/VarHandle" ∧ (parseMethodDescriptor y.desc).map (fun d => d.parameters.length) = some na) (hna : As.length = na) (hd : d0 + 1 ≤ dd) (hm : n0 ≤ 41) (hst : ((st.map (en_tr ad)).map fun v => v.category).sum ≤ 8) (hcl : cells + mc ≤ R.cells) (hsl : slots + ms ≤ R.slots) (d : decode cc pc = .ok (.invokespecial idx, 3))
    (hNw : Cond.methodLinkNest own idx y host ∈ en_nest)
    (hn : hp.length = n) (hx : shE n x = x) (hfl : hf.length ≤ 400) (hf0 : 0 < hf.length) (hnl : n ≤ 400) (hwp : hp.all (en_xE n (n + hf.length)) = true) (hwl : lv.all (en_xo n (n + hf.length)) = true) (hws : st.all (en_xv n (n + hf.length)) = true) (hwf : hf.all (en_yE n hf.length) = true)
    (kk : ∀ ad2 : Nat → Nat, (∀ k, k ≤ n ∨ n + hf.length ≤ k → ad2 k = ad k) → Cx p R s m args meth c cc nL own ret D tys A ad2 dd → G p l e R s m args below meth c D A nL ad2 (cells + mc) (slots + ms) Q (pc + 3) lv st (hp ++ hf.map (shE n))) :
    G p l e R s m args below meth c D A nL ad cells slots Q pc lv ((As.map (shV n)).reverse ++ .ref n :: st) (hp ++ [x]) := by
  refine en_ctor (As := As) (mc := mc) (ms := ms) (y := y) (b := b) (n0 := n0) (d0 := d0) (na := na) C (fun H locs ls hls hP hD hS => ?_) hn hx hfl hf0 hnl hwp hwl hws hwf kk
  have hR := C.2.2.2.2.2.2.2.2.2
  refine va_runIN (host := host) (As := As.map (en_tr (adc n ad))) (rest := st.map (en_tr ad)) ⟨C.1, C.2.1, C.2.2.1, C.2.2.2.1, C.2.2.2.2.1⟩ (hM H.size) ⟨va_cnB na C.2.2.2.2.1 (en_goodI hcode) rfl rfl rfl (hNs _ hNw) (C.2.2.2.2.1 _ hini) hy ⟨by show d0 + 1 ≤ _; omega, by show 8 + (n0 + 11) + 60 * d0 ≤ _; omega⟩, hy1, C.2.2.2.2.1 _ hinst⟩ ⟨en_blindN, ?_⟩ rfl (by simpa using hna) hls ?_ (lv_room hst) d ⟨hcl, hsl⟩
  · exact fun U hU hW => ⟨en_startC (av := .ref 0 :: As) C hP hD hS U hU hW, en_nest_warm hW hNs⟩
  · show _ ++ _ = _ ++ _
    rw [← List.map_reverse, ← List.map_reverse, List.map_map]
    have : As.reverse.map (en_tr ad ∘ shV n) = As.reverse.map (en_tr (adc n ad)) := List.map_congr_left (fun v _ => sh_tr)
    rw [this]
    rfl
end Rows7
theorem hraI : ∀ (U : State) (c1 c2 : ClassId), va_RA U c1 .int → va_RA U c2 .int → c1 = c2 := fun U c1 c2 h1 h2 => Option.some.inj ((show U.vm.findClass ("[" ++ FieldType.int.toString) = some c1 from h1).symm.trans h2)
theorem hraJ : ∀ (U : State) (c1 c2 : ClassId), va_RA U c1 .long → va_RA U c2 .long → c1 = c2 := fun U c1 c2 h1 h2 => Option.some.inj ((show U.vm.findClass ("[" ++ FieldType.long.toString) = some c1 from h1).symm.trans h2)
theorem hraZ : ∀ (U : State) (c1 c2 : ClassId), va_RA U c1 .boolean → va_RA U c2 .boolean → c1 = c2 := fun U c1 c2 h1 h2 => Option.some.inj ((show U.vm.findClass ("[" ++ FieldType.boolean.toString) = some c1 from h1).symm.trans h2)
section Rows8
variable {p : Program} {l : Launch} {e : Env} {R : Room} {s : State} {m : MethodId} {args : Array Value} {below : List Frame} {meth : Method} {c : Code} {cells slots : Nat} {Q : State → Prop} {D : va_G} {tys : List (ClassId × FieldType)} {A : Nat → Prop} {nL dd : Nat} {ad : Nat → Nat} {cc : ByteArray} {own : String} {ret : Option FieldType} {pc : Nat} {lv : List (Option Value)} {st : List Value} {h : Hp} {K : en_K}
theorem g_iastR (C : Cx p R s m args meth c cc nL own ret D tys A ad dd) {k n t0 : Nat} {cA : ClassId} {f : Nat → Int32} {i x : Int32} {h2 : Hp} (hg : h[k]? = some (.inl (cA, n, .inl f))) (ht : tys[t0]? = some (cA, .int)) (hin : en_in? i n = true) (hs : h.set k (.inl (cA, n, .inl (upd f i.toNatClampNeg x))) = h2) (d : decode cc pc = .ok (.iastore, 1)) (k2 : G p l e R s m args below meth c D A nL ad cells slots Q (pc + 1) lv st h2) : G p l e R s m args below meth c D A nL ad cells slots Q pc lv (.int x :: .int i :: .ref k :: st) h := by
  subst hs
  intro H locs ls hP hD hS hl
  refine va_iast C.1 C.2.1 C.2.2.2.2.2.1 hP hD hS k t0 (en_at hg) ht (en_in_iff.mp hin) d (fun H1 locs1 hP1 hD1 hS1 => ?_)
  have e1 : (en_ws ad h).set k (ad k, .inl (cA, n, .inl (upd f i.toNatClampNeg x))) = en_ws ad (h.set k (.inl (cA, n, .inl (upd f i.toNatClampNeg x)))) := by
    rw [← en_set]; rfl
  rw [e1] at hP1 hD1
  exact k2 H1 locs1 ls hP1 hD1 hS1 hl
theorem g_lastR (C : Cx p R s m args meth c cc nL own ret D tys A ad dd) {k n t0 : Nat} {cA : ClassId} {f : Nat → Int64} {i : Int32} {x : Int64} {h2 : Hp} (hg : h[k]? = some (.inl (cA, n, .inr (.inl f)))) (ht : tys[t0]? = some (cA, .long)) (hin : en_in? i n = true) (hs : h.set k (.inl (cA, n, .inr (.inl (vp_updL f i.toNatClampNeg x)))) = h2) (d : decode cc pc = .ok (.lastore, 1)) (k2 : G p l e R s m args below meth c D A nL ad cells slots Q (pc + 1) lv st h2) : G p l e R s m args below meth c D A nL ad cells slots Q pc lv (.long x :: .int i :: .ref k :: st) h := by
  subst hs
  intro H locs ls hP hD hS hl
  refine va_last C.1 C.2.1 C.2.2.2.2.2.1 hP hD hS k t0 (en_at hg) ht (en_in_iff.mp hin) d (fun H1 locs1 hP1 hD1 hS1 => ?_)
  have e1 : (en_ws ad h).set k (ad k, .inl (cA, n, .inr (.inl (vp_updL f i.toNatClampNeg x)))) = en_ws ad (h.set k (.inl (cA, n, .inr (.inl (vp_updL f i.toNatClampNeg x))))) := by
    rw [← en_set]; rfl
  rw [e1] at hP1 hD1
  exact k2 H1 locs1 ls hP1 hD1 hS1 hl
end Rows8
theorem g_lvr {p : Program} {l : Launch} {e : Env} {R : Room} {s : State} {m : MethodId} {args : Array Value} {below : List Frame} {meth : Method} {c : Code} {cells slots : Nat} {Q : State → Prop} {D : va_G} {A : Nat → Prop} {nL : Nat} {ad : Nat → Nat} {pc : Nat} {lv lv2 : List (Option Value)} {st : List Value} {h : Hp} (k : G p l e R s m args below meth c D A nL ad cells slots Q pc lv2 st h) (hl : lv = lv2) : G p l e R s m args below meth c D A nL ad cells slots Q pc lv st h := hl ▸ k
