/-! THE ENGINE, third part: fields, arrays, statics, contracts, calls, returns. -/
/-- a contract's start and end; both systems' contracts have this form -/
def en_pre (D : va_G) (tys : List (ClassId × FieldType)) (ad : Nat → Nat) (av : List Value) (h : Hp) (sz : Nat) : Array Value → State → Prop :=
  va_Pc (av.map (en_tr ad)) (fun U => U.heap.size = sz ∧ va_P D vwCl (en_ws ad h) U.heap ∧ va_K D vwCl tys U ∧ va_D (fun _ => True) (en_ws ad h) ∧ en_Z ad (va_A (en_ws ad h) sz) U U.heap)
def en_post (D : va_G) (tys : List (ClassId × FieldType)) (ad : Nat → Nat) (w : va_W) (sz : Nat) (Qp : Option Value → Hp → Prop) : Array Value → State → Outcome → State → Prop :=
  fun _ st oc t => (∃ (r : Option Value) (h2 : Hp), oc = .returned (r.map (en_tr ad)) ∧ Qp r h2 ∧ va_P D vwCl (en_ws ad h2) t.heap ∧ va_K D vwCl tys t ∧ va_D (va_A w sz) (en_ws ad h2)) ∧ va_F (va_A w sz) st t
def en_rm (d : Nat) : Room := { frames := d, cells := 0, slots := 0, locals := 60 * d }
def CT (l : Launch) (D : va_G) (tys : List (ClassId × FieldType)) (ad : Nat → Nat) (d : Nat) (y : MethodName) (b : ByteArray) (n : Nat) (r : Option FieldType) (av : List Value) (h : Hp) (Qp : Option Value → Hp → Prop) : Prop :=
  ∀ sz : Nat, Met l y (Cond.code y b n r :: en_tbl) (en_rm d) (en_pre D tys ad av h sz) (en_post D tys ad (en_ws ad h) sz Qp) 0 0 (va_A (en_ws ad h) sz)
theorem en_blind {D : va_G} {tys : List (ClassId × FieldType)} {ad : Nat → Nat} {av : List Value} {h : Hp} {sz : Nat} : FrameBlind (en_pre D tys ad av h sz) := by
  intro a U g mk q
  obtain ⟨q0, q1, q2, q3, q4, q5⟩ := q
  exact ⟨q0, q1, q2, va_K.moved (u := U) (U := U.calling g mk a) (Vm.Alike.refl U.vm) q3, q4, en_Z.moved (u := U) (U := U.calling g mk a) (Vm.Alike.refl U.vm) q5⟩
section Rows3
variable {p : Program} {l : Launch} {e : Env} {R : Room} {s : State} {m : MethodId} {args : Array Value} {below : List Frame} {meth : Method} {c : Code} {cells slots : Nat} {Q : State → Prop} {D : va_G} {tys : List (ClassId × FieldType)} {A : Nat → Prop} {nL dd : Nat} {ad : Nat → Nat} {cc : ByteArray} {own : String} {ret : Option FieldType} {pc : Nat} {lv : List (Option Value)} {st : List Value} {h : Hp}

theorem g_get (C : Cx p R s m args meth c cc nL own ret D tys A ad dd) {k ci j N idx : Nat} {fs : List Value} {v : Value} {Cn : String} {T : u_T} (hg : h[k]? = some (.inr (ci, fs))) (hc : vwCl[ci]? = some (Cn, T, N)) (hj : j < N) (hin : ∀ w ∈ u_ws Cn T N, w ∈ en_tbl) (hlink : Cond.fieldLink own idx (T j).1 (T j).2.1 (T j).2.2.1 ∈ en_tbl) (hv : fs[j]? = some v) (d : decode cc pc = .ok (.getfield idx, 3)) (k2 : G p l e R s m args below meth c D A nL ad cells slots Q (pc + 3) lv (v :: st) h) : G p l e R s m args below meth c D A nL ad cells slots Q pc lv (.ref k :: st) h := fun H locs ls hP hD hS hl => va_get (D := D) (v := en_tr ad v) C.1 C.2.1 C.2.2.2.2.1 hin C.2.2.2.1 C.2.2.2.2.2.1 hP k (en_at hg) hc j hj (C.2.2.2.2.1 _ hlink) (fun _ h9 => h9) (by simp [hv]) d (k2 H locs ls hP hD hS hl)
theorem g_put (C : Cx p R s m args meth c cc nL own ret D tys A ad dd) {k ci j N idx : Nat} {fs : List Value} {v : Value} {Cn : String} {T : u_T} {ty0 : Nat → FieldType} {h2 : Hp} (hg : h[k]? = some (.inr (ci, fs))) (hc : vwCl[ci]? = some (Cn, T, N)) (hj : j < N) (hin : ∀ w ∈ u_ws Cn T N, w ∈ en_tbl) (hty : ∀ k, k < N → parseFieldDescriptor (T k).2.2.1 = some (ty0 k)) (hnm : ∀ a, a < N → ∀ b, b < N → a ≠ b → (T a).2.1 ≠ (T b).2.1) (hlink : Cond.fieldLink own idx (T j).1 (T j).2.1 (T j).2.2.1 ∈ en_tbl) (hfin : (T j).2.2.2 = false) {ty : FieldType} (hd : parseFieldDescriptor (T j).2.2.1 = some ty) (hn : narrow ty (en_tr ad v) = en_tr ad v) (hfit : fits ty (en_tr ad v) = true) (hjl : j < fs.length) (hs : h.set k (.inr (ci, fs.set j v)) = h2) (d : decode cc pc = .ok (.putfield idx, 3)) (k2 : G p l e R s m args below meth c D A nL ad cells slots Q (pc + 3) lv st h2) : G p l e R s m args below meth c D A nL ad cells slots Q pc lv (v :: .ref k :: st) h := by
  subst hs
  intro H locs ls hP hD hS hl
  refine va_put (D := D) (v := en_tr ad v) C.1 C.2.1 C.2.2.2.2.1 hin ty0 hty hnm C.2.2.2.1 C.2.2.2.2.2.1 hP hD hS k (en_at hg) hc j hj (C.2.2.2.2.1 _ hlink) (fun _ h9 => h9) hfin hd hn hfit (by simpa using hjl) d (fun H1 locs1 hP1 hD1 hS1 => ?_)
  have e1 : (en_ws ad h).set k (ad k, .inr (ci, (fs.map (en_tr ad)).set j (en_tr ad v))) = en_ws ad (h.set k (.inr (ci, fs.set j v))) := by
    rw [← en_set]; simp [en_trE, List.map_set]
  rw [e1] at hP1 hD1
  exact k2 H1 locs1 ls hP1 hD1 hS1 hl
theorem g_iald (C : Cx p R s m args meth c cc nL own ret D tys A ad dd) {k n t0 : Nat} {cA : ClassId} {f : Nat → Int32} {i x : Int32} (hg : h[k]? = some (.inl (cA, n, .inl f))) (ht : tys[t0]? = some (cA, .int)) (hr : rdO f n i = some x) (d : decode cc pc = .ok (.iaload, 1)) (k2 : G p l e R s m args below meth c D A nL ad cells slots Q (pc + 1) lv (.int x :: st) h) : G p l e R s m args below meth c D A nL ad cells slots Q pc lv (.int i :: .ref k :: st) h := by
  obtain ⟨hin, rfl⟩ := rdO_some hr
  exact fun H locs ls hP hD hS hl => va_iald C.1 C.2.1 C.2.2.2.2.2.1 hP k t0 (en_at hg) ht hin d (k2 H locs ls hP hD hS hl)
theorem g_zald (C : Cx p R s m args meth c cc nL own ret D tys A ad dd) {k n t0 : Nat} {cA : ClassId} {f : Nat → Int32} {i x : Int32} (hg : h[k]? = some (.inl (cA, n, .inl f))) (ht : tys[t0]? = some (cA, .boolean)) (hr : rdO f n i = some x) (d : decode cc pc = .ok (.baload, 1)) (k2 : G p l e R s m args below meth c D A nL ad cells slots Q (pc + 1) lv (.int x :: st) h) : G p l e R s m args below meth c D A nL ad cells slots Q pc lv (.int i :: .ref k :: st) h := by
  obtain ⟨hin, rfl⟩ := rdO_some hr
  exact fun H locs ls hP hD hS hl => va_zald C.1 C.2.1 C.2.2.2.2.2.1 hP k t0 (en_at hg) ht hin d (k2 H locs ls hP hD hS hl)
theorem g_iast (C : Cx p R s m args meth c cc nL own ret D tys A ad dd) {k n t0 r : Nat} {cA : ClassId} {u u1 : Ug} {hh : Ug → Hp} {i x : Int32} (hg : (hh u)[k]? = some (.inl (cA, n, .inl (u r)))) (ht : tys[t0]? = some (cA, .int)) (hs : ∀ (j : Nat) (z : Int32), (hh u).set k (.inl (cA, n, .inl (upd (u r) j z))) = hh (wr u r j z)) (hw : wrO u r n i x = some u1) (d : decode cc pc = .ok (.iastore, 1)) (k2 : G p l e R s m args below meth c D A nL ad cells slots Q (pc + 1) lv st (hh u1)) : G p l e R s m args below meth c D A nL ad cells slots Q pc lv (.int x :: .int i :: .ref k :: st) (hh u) := by
  obtain ⟨hin, rfl⟩ := wrO_some hw
  intro H locs ls hP hD hS hl
  refine va_iast C.1 C.2.1 C.2.2.2.2.2.1 hP hD hS k t0 (en_at hg) ht hin d (fun H1 locs1 hP1 hD1 hS1 => ?_)
  have e1 : (en_ws ad (hh u)).set k (ad k, .inl (cA, n, .inl (upd (u r) i.toNatClampNeg x))) = en_ws ad (hh (wr u r i.toNatClampNeg x)) := by
    rw [← hs, ← en_set]; rfl
  rw [e1] at hP1 hD1
  exact k2 H1 locs1 ls hP1 hD1 hS1 hl
theorem en_bz_nar {x : Int32} (h : bz x = true) : vp_nar .boolean x = x := by
  unfold vp_nar; rw [bz_nar h]
theorem wbO_some {u u1 : Ug} {k n : Nat} {i x : Int32} (h : wbO u k n i x = some u1) : bz x = true ∧ wrO u k n i x = some u1 := by
  unfold wbO at h; split at h
  · rename_i hc; exact ⟨hc, h⟩
  · cases h
theorem g_zast (C : Cx p R s m args meth c cc nL own ret D tys A ad dd) {k n t0 r : Nat} {cA : ClassId} {u u1 : Ug} {hh : Ug → Hp} {i x : Int32} (hg : (hh u)[k]? = some (.inl (cA, n, .inl (u r)))) (ht : tys[t0]? = some (cA, .boolean)) (hs : ∀ (j : Nat) (z : Int32), (hh u).set k (.inl (cA, n, .inl (upd (u r) j z))) = hh (wr u r j z)) (hw : wbO u r n i x = some u1) (d : decode cc pc = .ok (.bastore, 1)) (k2 : G p l e R s m args below meth c D A nL ad cells slots Q (pc + 1) lv st (hh u1)) : G p l e R s m args below meth c D A nL ad cells slots Q pc lv (.int x :: .int i :: .ref k :: st) (hh u) := by
  obtain ⟨hb, hw⟩ := wbO_some hw
  obtain ⟨hin, rfl⟩ := wrO_some hw
  intro H locs ls hP hD hS hl
  refine va_zast C.1 C.2.1 C.2.2.2.2.2.1 hP hD hS k t0 (en_at hg) ht hin d (fun H1 locs1 hP1 hD1 hS1 => ?_)
  rw [en_bz_nar hb] at hP1 hD1
  have e1 : (en_ws ad (hh u)).set k (ad k, .inl (cA, n, .inl (upd (u r) i.toNatClampNeg x))) = en_ws ad (hh (wr u r i.toNatClampNeg x)) := by
    rw [← hs, ← en_set]; rfl
  rw [e1] at hP1 hD1
  exact k2 H1 locs1 ls hP1 hD1 hS1 hl
theorem g_alen (C : Cx p R s m args meth c cc nL own ret D tys A ad dd) {k t0 : Nat} {cA : ClassId} {x : vp_A} {ty : FieldType} {v : Int32} (hg : h[k]? = some (.inl (cA, x))) (ht : tys[t0]? = some (cA, ty)) (hv : Int32.ofNat x.1 = v) (d : decode cc pc = .ok (.arraylength, 1)) (k2 : G p l e R s m args below meth c D A nL ad cells slots Q (pc + 1) lv (.int v :: st) h) : G p l e R s m args below meth c D A nL ad cells slots Q pc lv (.ref k :: st) h := fun H locs ls hP hD hS hl => va_alen C.1 C.2.1 C.2.2.2.2.2.1 hP k t0 (en_at hg) ht hv d (k2 H locs ls hP hD hS hl)
theorem en_vpin_scO {u u1 : Ug} {k : Nat} {x : Int32} (h : scO u k x = some u1) : wr u k 0 x = u1 := Option.some.inj h
theorem sbO_some {u u1 : Ug} {k : Nat} {x : Int32} (h : sbO u k x = some u1) : bz x = true ∧ wr u k 0 x = u1 := by
  unfold sbO at h; split at h
  · rename_i hc; exact ⟨hc, Option.some.inj h⟩
  · cases h
theorem cpO_some {u u1 : Ug} {k1 n1 k2 n2 : Nat} {sp dp n : Int32} (h : cpO u k1 n1 sp k2 n2 dp n = some u1) : (¬ sp < 0 ∧ ¬ dp < 0 ∧ ¬ n < 0 ∧ sp.toNatClampNeg + n.toNatClampNeg ≤ n1 ∧ dp.toNatClampNeg + n.toNatClampNeg ≤ n2) ∧ wrA u k2 (va_cpy (u k1) (u k2) sp.toNatClampNeg dp.toNatClampNeg n.toNatClampNeg) = u1 := by
  unfold cpO at h; split at h
  · rename_i hc; exact ⟨hc, Option.some.inj h⟩
  · cases h
theorem g_cpy (C : Cx p R s m args meth c cc nL own ret D tys A ad dd) {k1 k2 n1 n2 r1 r2 t0 idx : Nat} {cA : ClassId} {u u1 : Ug} {hh : Ug → Hp} {sp dp n : Int32} (hg1 : (hh u)[k1]? = some (.inl (cA, n1, .inl (u r1)))) (hg2 : (hh u)[k2]? = some (.inl (cA, n2, .inl (u r2)))) (ht : tys[t0]? = some (cA, .int)) (hs : ∀ f : Nat → Int32, (hh u).set k2 (.inl (cA, n2, .inl f)) = hh (wrA u r2 f)) (hlink : Cond.methodLink own idx arraycopyName ∈ en_tbl) (hnat : Cond.native arraycopyName ∈ en_tbl) (hstat : Cond.static arraycopyName ∈ en_tbl) (hini : Cond.initialized "java/lang/System" ∈ en_tbl) (hdd : 1 ≤ dd) (hst : ((st.map (en_tr ad)).map fun v => v.category).sum ≤ 8) (hw : cpO u r1 n1 sp r2 n2 dp n = some u1) (d : decode cc pc = .ok (.invokestatic idx, 3)) (kk : G p l e R s m args below meth c D A nL ad cells slots Q (pc + 3) lv st (hh u1)) : G p l e R s m args below meth c D A nL ad cells slots Q pc lv (.int n :: .int dp :: .ref k2 :: .int sp :: .ref k1 :: st) (hh u) := by
  obtain ⟨⟨h1, h2, h3, h4, h5⟩, rfl⟩ := cpO_some hw
  intro H locs ls hP hD hS hl
  have hR := C.2.2.2.2.2.2.2.2.2
  have hw9 : nativeFrameWords "java/lang/System" "arraycopy" 5 ≤ 30 := by decide
  refine va_copyi (ty := .int) C.1 C.2.1 (C.2.2.1.trans hl.1.symm) C.2.2.2.1 (C.2.2.2.2.1 _ hlink) (C.2.2.2.2.1 _ hnat) (C.2.2.2.2.1 _ hstat) (C.2.2.2.2.1 _ hini) C.2.2.2.2.2.1 hP hD hS k1 k2 t0 t0 (en_at hg1) (en_at hg2) ht ht rfl h1 h2 h3 h4 h5 (fun i hi => rfl) (by omega) (by omega) d (fun H1 locs1 hP1 hD1 hS1 => ?_)
  have e1 : ∀ f : Nat → Int32, (en_ws ad (hh u)).set k2 (ad k2, .inl (cA, n2, .inl f)) = en_ws ad (hh (wrA u r2 f)) := by
    intro f; rw [← hs, ← en_set]; rfl
  rw [e1] at hP1 hD1
  exact kk H1 locs1 ls hP1 hD1 hS1 hl
theorem g_mmin (C : Cx p R s m args meth c cc nL own ret D tys A ad dd) {x y : Int32} {idx : Nat} (hlink : Cond.methodLink own idx Lib.Math.min.name ∈ en_tbl) (hstat : Cond.static Lib.Math.min.name ∈ en_tbl) (hini : Cond.initialized "java/lang/Math" ∈ en_tbl) (hcode : Cond.code Lib.Math.min.name Lib.Math.min.code 2 (some .int) ∈ en_tbl) (hdd : 1 ≤ dd) (hst : ((st.map (en_tr ad)).map fun v => v.category).sum ≤ 8) (hcl : cells ≤ R.cells) (hsl : slots ≤ R.slots) (d : decode cc pc = .ok (.invokestatic idx, 3)) (k : G p l e R s m args below meth c D A nL ad cells slots Q (pc + 3) lv (.int (if y < x then y else x) :: st) h) : G p l e R s m args below meth c D A nL ad cells slots Q pc lv (.int y :: .int x :: st) h := by
  intro H locs ls hP hD hS hl
  have hR := C.2.2.2.2.2.2.2.2.2
  exact va_mmin C.1 C.2.1 (C.2.2.1.trans hl.1.symm) C.2.2.2.1 (C.2.2.2.2.1 _ hlink) (C.2.2.2.2.1 _ hstat) (C.2.2.2.2.1 _ hini) (C.2.2.2.2.1 _ hcode) (by omega) (by omega) hcl hsl d (k H locs ls hP hD hS hl)
theorem en_call {H : Heap} {locs : List Loc} {ls : Array Slot} {st0 rest : List Value} {Qp : Option Value → Hp → Prop} {a : Array Value} (hr : va_Run p l e R s m args below meth c H locs cells slots 0 0 (F0 m pc ls st0) rest (en_post D tys ad (en_ws ad h) H.size Qp a) (va_A (en_ws ad h) H.size)) (hD : va_D A (en_ws ad h)) (hS : va_S A s.heap H locs) (hA : ∀ q, s.heap.size ≤ q → A q)
    (kk : ∀ (r : Option Value) (h2 : Hp) (H1 : Heap) (locs1 : List Loc), Qp r h2 → va_P D vwCl (en_ws ad h2) H1 → va_D A (en_ws ad h2) → va_S A s.heap H1 locs1 → W p l e R s m args below meth c H1 locs1 cells slots Q (F0 m (pc + 3) ls ((r.map (en_tr ad)).toList ++ rest))) : W p l e R s m args below meth c H locs cells slots Q (F0 m pc ls st0) := by
  have hF : ∀ q, va_A (en_ws ad h) H.size q → A q := by
    rintro q (⟨k, x, hk⟩ | hq)
    · exact hD.2 k _ hk
    · exact hA q (Nat.le_trans hS.1 hq)
  intro T hT X
  obtain ⟨v, st₀, t, T', L, h0, X', hL, e1, e2, ⟨⟨r, h2, hv, hq, hP2, hK2, hD2⟩, hz, hk⟩, stp⟩ := hr T hT X
  cases hv
  rw [h0] at hz hk
  obtain ⟨t2, a1, b1⟩ := kk r h2 T'.heap (locs ++ L) hq (by rw [e1]; exact hP2) (hD2.weaken (fun _ q _ hh => hF q.1 hh))
    ⟨Nat.le_trans hS.1 (by rw [e1]; exact hz), fun q h1 h3 => by rw [e1, hk q (Nat.lt_of_lt_of_le h1 hS.1) (fun z => h3 (hF q z))]; exact hS.2.1 q h1 h3, fun q hq => by
      rcases List.mem_append.mp hq with h | h
      · exact hS.2.2 q h
      · exact hF _ (hL q h)⟩ T' rfl X'
  exact ⟨t2, stp t2 a1, b1⟩
theorem en_start {H : Heap} {locs : List Loc} {av : List Value} (C : Cx p R s m args meth c cc nL own ret D tys A ad dd) (hP : va_P D vwCl (en_ws ad h) H) (hD : va_D A (en_ws ad h)) (hS : va_S A s.heap H locs) : ∀ U : State, U.heap = H → s.WarmedH U.vm → en_pre D tys ad av h H.size (av.map (en_tr ad)).toArray U := by
  intro U hU hW
  have hF : ∀ q, va_A (en_ws ad h) H.size q → A q := by
    rintro q (⟨k, x, hk⟩ | hq)
    · exact hD.2 k _ hk
    · exact C.2.2.2.2.2.2.1 q (Nat.le_trans hS.1 hq)
  subst hU
  exact ⟨rfl, rfl, hP, va_K.moved hW.alike C.2.2.2.2.2.1, hD.weaken (fun _ _ _ _ => trivial), en_Z.moved hW.alike (en_Z.narrow (en_Z.kept C.2.2.2.2.2.2.2.2.1 (fun a h1 h2 => hS.2.1 a h1 h2)) hF)⟩

theorem g_callV (C : Cx p R s m args meth c cc nL own ret D tys A ad dd) {k ci N idx d0 n0 n : Nat} {fs As : List Value} {Cn : String} {T : u_T} {y : MethodName} {b : ByteArray} {r0 : Option FieldType} {Qp : Option Value → Hp → Prop} (hM : CT l D tys ad d0 y b n0 r0 (.ref k :: As) h Qp) (hg : h[k]? = some (.inr (ci, fs))) (hc : vwCl[ci]? = some (Cn, T, N)) (hw : GoodIn en_tbl (wsV own idx Cn y (Cond.code y b n0 r0 :: en_tbl))) (hy : y.cls = Cn ∧ y.cls ≠ "java/lang/invoke/MethodHandle" ∧ y.cls ≠ "java/lang/invoke/VarHandle" ∧ (parseMethodDescriptor y.desc).map (fun d => d.parameters.length) = some n) (hn : As.length = n) (hd : d0 + 1 ≤ dd) (hm : n0 ≤ 41) (hst : ((st.map (en_tr ad)).map fun v => v.category).sum ≤ 8) (hcl : cells ≤ R.cells) (hsl : slots ≤ R.slots) (d : decode cc pc = .ok (.invokevirtual idx, 3)) (kk : ∀ (r : Option Value) (h2 : Hp), Qp r h2 → G p l e R s m args below meth c D A nL ad cells slots Q (pc + 3) lv (r.toList ++ st) h2) : G p l e R s m args below meth c D A nL ad cells slots Q pc lv (As.reverse ++ .ref k :: st) h := by
  intro H locs ls hP hD hS hl
  have hR := C.2.2.2.2.2.2.2.2.2
  refine en_call (va_runV (As := As.map (en_tr ad)) (rest := st.map (en_tr ad)) ⟨C.1, C.2.1, C.2.2.1, C.2.2.2.1, C.2.2.2.2.1⟩ (hM H.size) (cwV n C.2.2.2.2.1 hw rfl rfl rfl hy ⟨by show d0 + 1 ≤ _; omega, by show 8 + (n0 + 11) + 60 * d0 ≤ _; omega⟩) ⟨en_blind, va_recv C.2.2.2.2.2.1 hP hc (en_at hg), ?_⟩ rfl (by simpa using hn) hl.1 (by simp [en_tr]) (lv_room hst) d ⟨by omega, by omega⟩) hD hS C.2.2.2.2.2.2.1 (fun r h2 H1 locs1 hq hP1 hD1 hS1 => ?_)
  · exact fun U hU hW => en_start (av := .ref k :: As) C hP hD hS U hU hW
  · have := kk r h2 hq H1 locs1 ls hP1 hD1 hS1 hl
    cases r <;> simpa using this
theorem g_callS (C : Cx p R s m args meth c cc nL own ret D tys A ad dd) {idx d0 n0 n : Nat} {As : List Value} {y : MethodName} {b : ByteArray} {r0 : Option FieldType} {Qp : Option Value → Hp → Prop} (hM : CT l D tys ad d0 y b n0 r0 As h Qp) (hw : GoodIn en_tbl (va_wsS own idx y (Cond.code y b n0 r0 :: en_tbl))) (hy : y.cls ≠ "java/lang/invoke/MethodHandle" ∧ y.cls ≠ "java/lang/invoke/VarHandle" ∧ (parseMethodDescriptor y.desc).map (fun d => d.parameters.length) = some n) (hn : As.length = n) (hd : d0 + 1 ≤ dd) (hm : n0 ≤ 41) (hst : ((st.map (en_tr ad)).map fun v => v.category).sum ≤ 8) (hcl : cells ≤ R.cells) (hsl : slots ≤ R.slots) (d : decode cc pc = .ok (.invokestatic idx, 3)) (kk : ∀ (r : Option Value) (h2 : Hp), Qp r h2 → G p l e R s m args below meth c D A nL ad cells slots Q (pc + 3) lv (r.toList ++ st) h2) : G p l e R s m args below meth c D A nL ad cells slots Q pc lv (As.reverse ++ st) h := by
  intro H locs ls hP hD hS hl
  have hR := C.2.2.2.2.2.2.2.2.2
  refine en_call (va_runS (As := As.map (en_tr ad)) (rest := st.map (en_tr ad)) ⟨C.1, C.2.1, C.2.2.1, C.2.2.2.1, C.2.2.2.2.1⟩ (hM H.size) (va_cwS n C.2.2.2.2.1 hw rfl rfl rfl hy ⟨by show d0 + 1 ≤ _; omega, by show 8 + (n0 + 11) + 60 * d0 ≤ _; omega⟩) ⟨en_blind, ?_⟩ rfl (by simpa using hn) hl.1 (by simp [en_tr]) (lv_room hst) d ⟨by omega, by omega⟩) hD hS C.2.2.2.2.2.2.1 (fun r h2 H1 locs1 hq hP1 hD1 hS1 => ?_)
  · exact fun U hU hW => en_start (av := As) C hP hD hS U hU hW
  · have := kk r h2 hq H1 locs1 ls hP1 hD1 hS1 hl
    cases r <;> simpa using this
end Rows3
section Rets
variable {p : Program} {l : Launch} {e : Env} {R : Room} {s : State} {m : MethodId} {args : Array Value} {below : List Frame} {meth : Method} {c : Code} {D : va_G} {tys : List (ClassId × FieldType)} {nL dd sz : Nat} {ad : Nat → Nat} {cc : ByteArray} {own : String} {ret : Option FieldType} {pc : Nat} {lv : List (Option Value)} {h h0 : Hp} {Qp : Option Value → Hp → Prop}
abbrev en_Q (below : List Frame) (D : va_G) (tys : List (ClassId × FieldType)) (ad : Nat → Nat) (h0 : Hp) (sz : Nat) (Qp : Option Value → Hp → Prop) (args : Array Value) (s : State) : State → Prop := MQ below (en_post D tys ad (en_ws ad h0) sz Qp) args s 0 0 (va_A (en_ws ad h0) sz)
theorem g_iret (C : Cx p R s m args meth c cc nL own (some .int) D tys (va_A (en_ws ad h0) sz) ad dd) {x : Int32} (d : decode cc pc = .ok (.ireturn, 1)) (hq : Qp (some (.int x)) h) : G p l e R s m args below meth c D (va_A (en_ws ad h0) sz) nL ad 0 0 (en_Q below D tys ad h0 sz Qp args s) pc lv [.int x] h :=
  fun H locs ls hP hD hS hl => W.iret C.1 C.2.1 C.2.2.2.2.2.2.2.2.2.2.2 (fun t ht hW => ⟨⟨some (.int x), h, rfl, hq, by rw [ht]; exact hP, va_K.moved hW.alike C.2.2.2.2.2.1, hD⟩, hS.F ht⟩) hS.2.2 d C.2.2.2.2.2.2.2.1
theorem g_zret (C : Cx p R s m args meth c cc nL own (some .boolean) D tys (va_A (en_ws ad h0) sz) ad dd) {x : Int32} (hz : bz x = true) (d : decode cc pc = .ok (.ireturn, 1)) (hq : Qp (some (.int x)) h) : G p l e R s m args below meth c D (va_A (en_ws ad h0) sz) nL ad 0 0 (en_Q below D tys ad h0 sz Qp args s) pc lv [.int x] h :=
  fun H locs ls hP hD hS hl => W.zret C.1 C.2.1 C.2.2.2.2.2.2.2.2.2.2.2 (bz_nar hz) (fun t ht hW => ⟨⟨some (.int x), h, rfl, hq, by rw [ht]; exact hP, va_K.moved hW.alike C.2.2.2.2.2.1, hD⟩, hS.F ht⟩) hS.2.2 d C.2.2.2.2.2.2.2.1
theorem g_lret (C : Cx p R s m args meth c cc nL own (some .long) D tys (va_A (en_ws ad h0) sz) ad dd) {x : Int64} (d : decode cc pc = .ok (.lreturn, 1)) (hq : Qp (some (.long x)) h) : G p l e R s m args below meth c D (va_A (en_ws ad h0) sz) nL ad 0 0 (en_Q below D tys ad h0 sz Qp args s) pc lv [.long x] h :=
  fun H locs ls hP hD hS hl => W.lret C.1 C.2.1 C.2.2.2.2.2.2.2.2.2.2.2 (fun t ht hW => ⟨⟨some (.long x), h, rfl, hq, by rw [ht]; exact hP, va_K.moved hW.alike C.2.2.2.2.2.1, hD⟩, hS.F ht⟩) hS.2.2 d C.2.2.2.2.2.2.2.1
theorem g_vret (C : Cx p R s m args meth c cc nL own none D tys (va_A (en_ws ad h0) sz) ad dd) (d : decode cc pc = .ok (.return_, 1)) (hq : Qp none h) : G p l e R s m args below meth c D (va_A (en_ws ad h0) sz) nL ad 0 0 (en_Q below D tys ad h0 sz Qp args s) pc lv [] h :=
  fun H locs ls hP hD hS hl => W.vret C.1 C.2.1 C.2.2.2.2.2.2.2.2.2.2.2 (fun t ht hW => ⟨⟨none, h, rfl, hq, by rw [ht]; exact hP, va_K.moved hW.alike C.2.2.2.2.2.1, hD⟩, hS.F ht⟩) hS.2.2 d C.2.2.2.2.2.2.2.1
end Rets
/-- a contract out of a walk of its body -/
theorem CT.of {l : Launch} {D : va_G} {tys : List (ClassId × FieldType)} {ad : Nat → Nat} {dd : Nat} {y : MethodName} {b : ByteArray} {n : Nat} {r : Option FieldType} {av : List Value} {h : Hp} {Qp : Option Value → Hp → Prop} (hy : plainName y.cls = true) (lv0 : List (Option Value)) (hlv : en_ent av ++ List.replicate (n - (en_ent av).length) none = lv0) (hle : (en_ent av).length ≤ n)
    (body : ∀ (p : Program) (e : Env) (R : Room) (s : State) (m : MethodId) (args : Array Value) (below : List Frame) (meth : Method) (c : Code) (sz : Nat), Cx p R s m args meth c b n y.cls r D tys (va_A (en_ws ad h) sz) ad dd → G p l e R s m args below meth c D (va_A (en_ws ad h) sz) n ad 0 0 (en_Q below D tys ad h sz Qp args s) 0 lv0 [] h) : CT l D tys ad dd y b n r av h Qp := by
  intro sz
  refine Met.ofW (cc := b) (maxL := n) (ret := r) hy rfl ?_
  intro p e s m args below meth c s₁ B hml hv
  obtain ⟨rfl, hsz, hP, hK, hD0, hZ⟩ := hv
  have hts := atoms_spec (ws := Cond.code y b n r :: en_tbl) B.pre
  have hD : va_D (va_A (en_ws ad h) sz) (en_ws ad h) := hD0.self
  have C : Cx p (headSpec (Cond.code y b n r :: en_tbl) (en_rm dd)).room s m (av.map (en_tr ad)).toArray meth c b n y.cls r D tys (va_A (en_ws ad h) sz) ad dd :=
    ⟨B.exec, B.bytes, hml, findClass_of_methodNamed B.named, fun w hw => hts w (List.mem_cons_of_mem _ hw), hK, fun q hq => Or.inr (by rw [← hsz]; exact hq), B.notSynchronized, hZ, Nat.le_refl _, Nat.le_refl _, B.returns⟩
  have hlen : (lg_sl (av.map (en_tr ad))).length ≤ n := by
    rw [en_sl_len]; exact hle
  have hl := lv_entry (av.map (en_tr ad)) (n := n) hlen
  rw [lg_entry_eq]
  refine body p e _ s m _ below meth c sz C s.heap [] _ hP hD va_S.rf ⟨hl.1, hl.2.1, fun i v hi => ?_⟩
  rw [← hlv] at hi
  by_cases hi2 : i < (en_ent av).length
  · rw [List.getElem?_append_left hi2] at hi
    have := hl.2.2 (0 + i, en_tr ad v) (en_ent_args av 0 i v hi)
    simpa using this
  · rw [List.getElem?_append_right (by omega), List.getElem?_replicate] at hi
    split at hi <;> cases hi

