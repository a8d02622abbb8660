/-! THE ENGINE, fourth part. -/
abbrev en_K : Type := ClassId × ClassId × ClassId
/-- the array classes: int[], long[], boolean[] -/
def en_ty (K : en_K) : List (ClassId × FieldType) := [(K.1, .int), (K.2.1, .long), (K.2.2, .boolean)]
def slO (u : Ug) (k : Nat) (x : Int64) : Option Ug := if x.toInt32.toInt64 = x then some (wr u k 0 x.toInt32) else none
theorem slO_some {u u1 : Ug} {k : Nat} {x : Int64} (h : slO u k x = some u1) : x.toInt32.toInt64 = x ∧ wr u k 0 x.toInt32 = u1 := by
  unfold slO at h; split at h
  · rename_i hc; exact ⟨hc, Option.some.inj h⟩
  · cases h
theorem bz_fit {x : Int32} (h : bz x = true) : fits .boolean (.int x) = true := by
  simp only [bz, Bool.or_eq_true, beq_iff_eq] at h
  rcases h with rfl | rfl <;> rfl
/-- fewer locals -/
def en_le : List (Option Value) → List (Option Value) → Prop
  | [], _ => True
  | none :: a, _ :: b => en_le a b
  | some v :: a, o :: b => o = some v ∧ en_le a b
  | _ :: _, [] => False
theorem en_le_at : ∀ {a b : List (Option Value)}, en_le a b → ∀ (i : Nat) (v : Value), a[i]? = some (some v) → b[i]? = some (some v)
  | [], _, _, i, v, hi => by simp at hi
  | none :: a, o :: b, h, i, v, hi => by
    cases i with
    | zero => simp at hi
    | succ i => simpa using en_le_at (a := a) (b := b) h i v (by simpa using hi)
  | some x :: a, o :: b, h, i, v, hi => by
    cases i with
    | zero => simp at hi; rw [h.1]; simp [hi]
    | succ i => simpa using en_le_at (a := a) (b := b) h.2 i v (by simpa using hi)
  | none :: a, [], h, i, v, hi => h.elim
  | some x :: a, [], h, i, v, hi => h.elim
/-- not one of these -/
def en_no (x : Int32) : List Int32 → Prop
  | [] => True
  | a :: r => ¬ x = a ∧ en_no x r
theorem en_no_at {x : Int32} : ∀ {cs : List Int32}, en_no x cs → ∀ a ∈ cs, ¬ x = a
  | [], _, a, ha => by cases ha
  | c :: cs, h, a, ha => by
    rcases List.mem_cons.mp ha with rfl | ha
    · exact h.1
    · exact en_no_at h.2 a ha
section Rows4
variable {p : Program} {l : Launch} {e : Env} {R : Room} {s : State} {m : MethodId} {args : Array Value} {below : List Frame} {meth : Method} {c : Code} {cells slots : Nat} {Q : State → Prop} {D : va_G} {tys : List (ClassId × FieldType)} {A : Nat → Prop} {nL dd : Nat} {ad : Nat → Nat} {cc : ByteArray} {own : String} {ret : Option FieldType} {pc : Nat} {lv : List (Option Value)} {st : List Value} {h : Hp}

theorem g_weak {lv2 : List (Option Value)} (k : G p l e R s m args below meth c D A nL ad cells slots Q pc lv2 st h) (hle : en_le lv2 lv) : G p l e R s m args below meth c D A nL ad cells slots Q pc lv st h := fun H locs ls hP hD hS hl => k H locs ls hP hD hS ⟨hl.1, hl.2.1, fun i v hi => hl.2.2 i v (en_le_at hle i v hi)⟩
theorem g_tswD (C : Cx p R s m args meth c cc nL own ret D tys A ad dd) {dflt lo hi : Int} {offs : Array Int} {len : Nat} {x : Int32} {tgt : Nat} (cs : List Int32) (d : decode cc pc = .ok (.tableswitch dflt lo hi offs, len)) (hx : en_no x cs) (n : Nat) (hn : hi < lo + n) (ho : (List.range n).all (fun k => (cs.any fun a => decide (a.toInt = lo + k)) || decide (offs[k]? = some dflt)) = true) (ht : (pc : Int) + dflt = (tgt : Int)) (k : G p l e R s m args below meth c D A nL ad cells slots Q tgt lv st h) : G p l e R s m args below meth c D A nL ad cells slots Q pc lv (.int x :: st) h := by
  by_cases h1 : x.toInt < lo
  · exact g_tswO C d (Or.inl h1) ht k
  by_cases h2 : hi < x.toInt
  · exact g_tswO C d (Or.inr h2) ht k
  have hk : (x.toInt - lo).toNat < n := by omega
  have := List.all_eq_true.mp ho (x.toInt - lo).toNat (List.mem_range.mpr hk)
  rcases Bool.or_eq_true_iff.mp this with h3 | h3
  · obtain ⟨a, ha, he⟩ := List.any_eq_true.mp h3
    refine absurd (Int32.toInt_inj.mp ?_) (en_no_at hx a ha)
    have he := of_decide_eq_true he
    omega
  · exact g_tsw C d rfl h1 h2 (of_decide_eq_true h3) ht k
theorem g_gets (C : Cx p R s m args meth c cc nL own ret D tys A ad dd) {idx : Nat} (hlink : Cond.fieldLink own idx "LedgerTests$Scripts" "WORDS" "[J" ∈ en_tbl) (d : decode cc pc = .ok (.getstatic idx, 3)) (k : G p l e R s m args below meth c D A nL ad cells slots Q (pc + 3) lv (.ref 1000 :: st) h) : G p l e R s m args below meth c D A nL ad cells slots Q pc lv st h := fun H locs ls hP hD hS hl => va_gets (C := "LedgerTests$Scripts") (v := .ref (ad 1000)) C.1 C.2.1 C.2.2.2.2.2.2.2.2.1.1 hS C.2.2.2.1 (C.2.2.2.2.1 _ hlink) (fun _ h9 => h9) d (k H locs ls hP hD hS hl)
theorem g_tl (C : Cx p R s m args meth c cc nL own ret D tys A ad dd) {i : Int32} {x : Int64} (hr : tbO tw 14 i = some x) (d : decode cc pc = .ok (.laload, 1)) (k : G p l e R s m args below meth c D A nL ad cells slots Q (pc + 1) lv (.long x :: st) h) : G p l e R s m args below meth c D A nL ad cells slots Q pc lv (.int i :: .ref 1000 :: st) h := by
  obtain ⟨hin, rfl⟩ := tbO_some hr
  exact fun H locs ls hP hD hS hl => va_tl C.1 C.2.1 C.2.2.2.2.2.2.2.2.1.2 hS hin rfl d (k H locs ls hP hD hS hl)
theorem g_tlen (C : Cx p R s m args meth c cc nL own ret D tys A ad dd) (d : decode cc pc = .ok (.arraylength, 1)) (k : G p l e R s m args below meth c D A nL ad cells slots Q (pc + 1) lv (.int 14 :: st) h) : G p l e R s m args below meth c D A nL ad cells slots Q pc lv (.ref 1000 :: st) h := fun H locs ls hP hD hS hl => va_tlen C.1 C.2.1 C.2.2.2.2.2.2.2.2.1.2 hS (by decide) d (k H locs ls hP hD hS hl)
theorem g_lald (C : Cx p R s m args meth c cc nL own ret D tys A ad dd) {k n t0 : Nat} {cA : ClassId} {f : Nat → Int64} {i : Int32} {x : Int64} (hg : h[k]? = some (.inl (cA, n, .inr (.inl f)))) (ht : tys[t0]? = some (cA, .long)) (hr : tbO f n i = some x) (d : decode cc pc = .ok (.laload, 1)) (k2 : G p l e R s m args below meth c D A nL ad cells slots Q (pc + 1) lv (.long x :: st) h) : G p l e R s m args below meth c D A nL ad cells slots Q pc lv (.int i :: .ref k :: st) h := by
  obtain ⟨hin, rfl⟩ := tbO_some hr
  exact fun H locs ls hP hD hS hl => va_lald C.1 C.2.1 C.2.2.2.2.2.1 hP k t0 (en_at hg) ht hin d (k2 H locs ls hP hD hS hl)
theorem g_callVI (C : Cx p R s m args meth c cc nL own ret D tys A ad dd) {k ci N idx d0 n0 n : Nat} {fs As : List Value} {Cn : String} {T : u_T} {y : MethodName} {b : ByteArray} {r0 : Option FieldType} {hh : Ug → Hp} {r1 : Int32} {u1 : Ug} (hM : CT l D tys ad d0 y b n0 r0 (.ref k :: As) h (en_RI hh r1 u1)) (hg : h[k]? = some (.inr (ci, fs))) (hc : vwCl[ci]? = some (Cn, T, N)) (hw : GoodIn en_tbl (wsV own idx Cn y (Cond.code y b n0 r0 :: en_tbl))) (hy : y.cls = Cn ∧ y.cls ≠ "java/lang/invoke/MethodHandle" ∧ y.cls ≠ "java/lang/invoke/VarHandle" ∧ (parseMethodDescriptor y.desc).map (fun d => d.parameters.length) = some n) (hn : As.length = n) (hd : d0 + 1 ≤ dd) (hm : n0 ≤ 41) (hst : ((st.map (en_tr ad)).map fun v => v.category).sum ≤ 8) (hcl : cells ≤ R.cells) (hsl : slots ≤ R.slots) (d : decode cc pc = .ok (.invokevirtual idx, 3)) (kk : G p l e R s m args below meth c D A nL ad cells slots Q (pc + 3) lv (.int r1 :: st) (hh u1)) : G p l e R s m args below meth c D A nL ad cells slots Q pc lv (As.reverse ++ .ref k :: st) h := g_callV C hM hg hc hw hy hn hd hm hst hcl hsl d (fun r h2 hq => by obtain ⟨rfl, rfl⟩ := hq; exact kk)
theorem g_callVL (C : Cx p R s m args meth c cc nL own ret D tys A ad dd) {k ci N idx d0 n0 n : Nat} {fs As : List Value} {Cn : String} {T : u_T} {y : MethodName} {b : ByteArray} {r0 : Option FieldType} {hh : Ug → Hp} {r1 : Int64} {u1 : Ug} (hM : CT l D tys ad d0 y b n0 r0 (.ref k :: As) h (en_RL hh r1 u1)) (hg : h[k]? = some (.inr (ci, fs))) (hc : vwCl[ci]? = some (Cn, T, N)) (hw : GoodIn en_tbl (wsV own idx Cn y (Cond.code y b n0 r0 :: en_tbl))) (hy : y.cls = Cn ∧ y.cls ≠ "java/lang/invoke/MethodHandle" ∧ y.cls ≠ "java/lang/invoke/VarHandle" ∧ (parseMethodDescriptor y.desc).map (fun d => d.parameters.length) = some n) (hn : As.length = n) (hd : d0 + 1 ≤ dd) (hm : n0 ≤ 41) (hst : ((st.map (en_tr ad)).map fun v => v.category).sum ≤ 8) (hcl : cells ≤ R.cells) (hsl : slots ≤ R.slots) (d : decode cc pc = .ok (.invokevirtual idx, 3)) (kk : G p l e R s m args below meth c D A nL ad cells slots Q (pc + 3) lv (.long r1 :: st) (hh u1)) : G p l e R s m args below meth c D A nL ad cells slots Q pc lv (As.reverse ++ .ref k :: st) h := g_callV C hM hg hc hw hy hn hd hm hst hcl hsl d (fun r h2 hq => by obtain ⟨rfl, rfl⟩ := hq; exact kk)
theorem g_callVV (C : Cx p R s m args meth c cc nL own ret D tys A ad dd) {k ci N idx d0 n0 n : Nat} {fs As : List Value} {Cn : String} {T : u_T} {y : MethodName} {b : ByteArray} {r0 : Option FieldType} {hh : Ug → Hp} {u1 : Ug} (hM : CT l D tys ad d0 y b n0 r0 (.ref k :: As) h (en_RV hh u1)) (hg : h[k]? = some (.inr (ci, fs))) (hc : vwCl[ci]? = some (Cn, T, N)) (hw : GoodIn en_tbl (wsV own idx Cn y (Cond.code y b n0 r0 :: en_tbl))) (hy : y.cls = Cn ∧ y.cls ≠ "java/lang/invoke/MethodHandle" ∧ y.cls ≠ "java/lang/invoke/VarHandle" ∧ (parseMethodDescriptor y.desc).map (fun d => d.parameters.length) = some n) (hn : As.length = n) (hd : d0 + 1 ≤ dd) (hm : n0 ≤ 41) (hst : ((st.map (en_tr ad)).map fun v => v.category).sum ≤ 8) (hcl : cells ≤ R.cells) (hsl : slots ≤ R.slots) (d : decode cc pc = .ok (.invokevirtual idx, 3)) (kk : G p l e R s m args below meth c D A nL ad cells slots Q (pc + 3) lv st (hh u1)) : G p l e R s m args below meth c D A nL ad cells slots Q pc lv (As.reverse ++ .ref k :: st) h := g_callV C hM hg hc hw hy hn hd hm hst hcl hsl d (fun r h2 hq => by obtain ⟨rfl, rfl⟩ := hq; exact kk)
theorem g_callSI (C : Cx p R s m args meth c cc nL own ret D tys A ad dd) {idx d0 n0 n : Nat} {As : List Value} {y : MethodName} {b : ByteArray} {r0 : Option FieldType} {hh : Ug → Hp} {r1 : Int32} {u1 : Ug} (hM : CT l D tys ad d0 y b n0 r0 As h (en_RI hh r1 u1)) (hw : GoodIn en_tbl (va_wsS own idx y (Cond.code y b n0 r0 :: en_tbl))) (hy : y.cls ≠ "java/lang/invoke/MethodHandle" ∧ y.cls ≠ "java/lang/invoke/VarHandle" ∧ (parseMethodDescriptor y.desc).map (fun d => d.parameters.length) = some n) (hn : As.length = n) (hd : d0 + 1 ≤ dd) (hm : n0 ≤ 41) (hst : ((st.map (en_tr ad)).map fun v => v.category).sum ≤ 8) (hcl : cells ≤ R.cells) (hsl : slots ≤ R.slots) (d : decode cc pc = .ok (.invokestatic idx, 3)) (kk : G p l e R s m args below meth c D A nL ad cells slots Q (pc + 3) lv (.int r1 :: st) (hh u1)) : G p l e R s m args below meth c D A nL ad cells slots Q pc lv (As.reverse ++ st) h := g_callS C hM hw hy hn hd hm hst hcl hsl d (fun r h2 hq => by obtain ⟨rfl, rfl⟩ := hq; exact kk)
theorem g_callSL (C : Cx p R s m args meth c cc nL own ret D tys A ad dd) {idx d0 n0 n : Nat} {As : List Value} {y : MethodName} {b : ByteArray} {r0 : Option FieldType} {hh : Ug → Hp} {r1 : Int64} {u1 : Ug} (hM : CT l D tys ad d0 y b n0 r0 As h (en_RL hh r1 u1)) (hw : GoodIn en_tbl (va_wsS own idx y (Cond.code y b n0 r0 :: en_tbl))) (hy : y.cls ≠ "java/lang/invoke/MethodHandle" ∧ y.cls ≠ "java/lang/invoke/VarHandle" ∧ (parseMethodDescriptor y.desc).map (fun d => d.parameters.length) = some n) (hn : As.length = n) (hd : d0 + 1 ≤ dd) (hm : n0 ≤ 41) (hst : ((st.map (en_tr ad)).map fun v => v.category).sum ≤ 8) (hcl : cells ≤ R.cells) (hsl : slots ≤ R.slots) (d : decode cc pc = .ok (.invokestatic idx, 3)) (kk : G p l e R s m args below meth c D A nL ad cells slots Q (pc + 3) lv (.long r1 :: st) (hh u1)) : G p l e R s m args below meth c D A nL ad cells slots Q pc lv (As.reverse ++ st) h := g_callS C hM hw hy hn hd hm hst hcl hsl d (fun r h2 hq => by obtain ⟨rfl, rfl⟩ := hq; exact kk)
theorem g_callSV (C : Cx p R s m args meth c cc nL own ret D tys A ad dd) {idx d0 n0 n : Nat} {As : List Value} {y : MethodName} {b : ByteArray} {r0 : Option FieldType} {hh : Ug → Hp} {u1 : Ug} (hM : CT l D tys ad d0 y b n0 r0 As h (en_RV hh u1)) (hw : GoodIn en_tbl (va_wsS own idx y (Cond.code y b n0 r0 :: en_tbl))) (hy : y.cls ≠ "java/lang/invoke/MethodHandle" ∧ y.cls ≠ "java/lang/invoke/VarHandle" ∧ (parseMethodDescriptor y.desc).map (fun d => d.parameters.length) = some n) (hn : As.length = n) (hd : d0 + 1 ≤ dd) (hm : n0 ≤ 41) (hst : ((st.map (en_tr ad)).map fun v => v.category).sum ≤ 8) (hcl : cells ≤ R.cells) (hsl : slots ≤ R.slots) (d : decode cc pc = .ok (.invokestatic idx, 3)) (kk : G p l e R s m args below meth c D A nL ad cells slots Q (pc + 3) lv st (hh u1)) : G p l e R s m args below meth c D A nL ad cells slots Q pc lv (As.reverse ++ st) h := g_callS C hM hw hy hn hd hm hst hcl hsl d (fun r h2 hq => by obtain ⟨rfl, rfl⟩ := hq; exact kk)
end Rows4
theorem en_sub (ws : List Cond) (ps : List Nat) (hp : ws = ps.filterMap (fun i => tables_1[i]?)) (h : ws.all goodWord = true) : ∀ w ∈ ws, w ∈ en_tbl := by
  intro w hw
  have h1 := List.all_eq_true.mp h w hw
  rw [hp] at hw
  obtain ⟨i, -, hi⟩ := List.mem_filterMap.mp hw
  exact en_ix i hi h1
