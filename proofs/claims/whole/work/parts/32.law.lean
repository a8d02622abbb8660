/-! THE SKELETON's middle. -/
/-! THE CLAIM OUT OF ONE WALK OF THE LAW'S BODY. Your part is whole_start (and what it stands on); all else here is the same for every law, but numbers. -/
def R_law : String := "LedgerTestsLaw"
def lw_P (b : Addr) (xs : List Int32) (args : Array Value) (s : State) : Prop := args = #[.ref b] ∧ s.IntsAt b xs ∧ xs.length ≤ 3584 ∧ (Jvm.Cond.and given_1 narrow_1).before args s = true
def lw_Q (_ : Array Value) (s : State) (o : Outcome) (t : State) : Prop := o = .returned (some (.int 1)) ∧ Framed s o t [] 600000 7302250
def lw_Z (below : List Frame) (a : Array Value) (s : State) : State → Prop := fun t => ∃ o, t.status = .running ∧ Ended t below o ∧ lw_Q a s o t
/-- the law's own end, with 1 on the stack, nothing written that was there before, its room as the claim has it -/
theorem lw_ret {p : Program} {l : Launch} {e : Env} {s : State} {m : MethodId} {below : List Frame} {meth : Method} {c : Code} {b : Nat} (hx : p.tables.exec = Jvm.exec) (hb : c.code = code) (hr : meth.sig.returnType = ret) (hlocks : meth.locks = false) {pc : Nat} {H : Heap} {ls : Array Slot} (hdg : decode code pc = .ok (.ireturn, 1)) : W p l e room_1 s m #[Value.ref b] below meth c H [] 600000 7302250 (lw_Z below #[Value.ref b] s) (F0 m pc ls [.int 1]) := by
  intro T hT X
  obtain ⟨fs, hret, hrun, hended, hW, hframe⟩ := X.leave (v := some (.int 1)) (hlocks := hlocks) (fun h => by rw [hr] at h; cases h)
  have hmeth' : T.vm.method? m = some meth := X.method'
  refine ⟨T.setFrames fs, ?_, .returned (some (.int 1)), hrun, hended, rfl, ⟨_, rfl⟩, hW, hframe⟩
  jvm_step X.here [X.here.top, hx, hb, hdg, hmeth', hr, ret, narrow_b1]
  (try refine ⟨rfl, ?_⟩); (try refine ⟨rfl, ?_⟩)
  first | (intro acts; rw [hret _ acts rfl rfl rfl]) | rw [hret _ _ rfl rfl rfl]
  exact Steps.refl _
/-- what holds at the law's entry: the machine, the code, the tables' words (any of lw_tbl by 'hts w (by decide +kernel)'), the script of L ints xs at the cell b, what the Statement gives of the start (any of its parts by flat_of_before) -/
def lw_At (p : Program) (s : State) (m : MethodId) (meth : Method) (c : Code) (b L : Nat) (xs : Nat → Int32) : Prop :=
  p.tables.exec = Jvm.exec ∧ c.code = code ∧ meth.sig.returnType = ret ∧ c.maxLocals = 4 ∧ s.vm.findClass R_law = some m.cls ∧ (∀ w ∈ lw_tbl, w.before #[Value.ref b] s = true) ∧ va_X b L xs s s.heap ∧ b < s.heap.size ∧ meth.locks = false ∧ (Jvm.Cond.and given_1 narrow_1).before #[Value.ref b] s = true
/-! THE LAW: its calls, its script, its world. -/
def hL (K : en_K) (u w : Ug) : Hp := (wdC K u).map (shE 0) ++ (wdM K w).map (shE 26)
section LawRows
variable {p : Program} {l : Launch} {e : Env} {R : Room} {s : State} {m : MethodId} {args : Array Value} {below : List Frame} {meth : Method} {c : Code} {cells slots : Nat} {Q : State → Prop} {D : va_G} {tys : List (ClassId × FieldType)} {A : Nat → Prop} {nL dd : Nat} {ad : Nat → Nat} {cc : ByteArray} {own : String} {ret : Option FieldType} {pc : Nat} {lv : List (Option Value)} {st : List Value} {h : Hp} {K : en_K}
theorem g_lawV (C : Cx p R s m args meth c cc nL own ret D tys A ad dd) {n d0 n0 na idx ci N : Nat} {y : MethodName} {b : ByteArray} {Cn : String} {T : u_T} {fs As : List Value} {hp hq : Hp} {hh : Ug → Hp} {u0 u1 : Ug} {r1 : Int32} (hM : CT l D tys (adc n ad) d0 y b n0 (some .int) (.ref 0 :: As) (hh u0) (en_RI hh r1 u1)) (hg : (hh u0)[0]? = some (.inr (ci, fs))) (hc : vwCl[ci]? = some (Cn, T, N)) (hw : GoodIn en_tbl (wsV own idx Cn y (Cond.code y b n0 (some .int) :: en_tbl))) (hy : y.cls = Cn ∧ y.cls ≠ "java/lang/invoke/MethodHandle" ∧ y.cls ≠ "java/lang/invoke/VarHandle" ∧ (parseMethodDescriptor y.desc).map (fun d => d.parameters.length) = some na) (hna : As.length = na) (hAs : ∀ a : Nat → Nat, As.map (en_tr a) = As) (hd : d0 + 1 ≤ dd) (hm : n0 ≤ 41) (hst : ((st.map (en_tr ad)).map fun v => v.category).sum ≤ 8) (hcl : cells ≤ R.cells) (hsl : slots ≤ R.slots) (d : decode cc pc = .ok (.invokevirtual idx, 3)) (hn : hp.length = n) (hl1 : (hh u0).length ≤ 500) (hl2 : (hh u1).length = (hh u0).length) (kk : G p l e R s m args below meth c D A nL ad cells slots Q (pc + 3) lv (.int r1 :: st) (hp ++ ((hh u1).map (shE n) ++ hq))) : G p l e R s m args below meth c D A nL ad cells slots Q pc lv (As.reverse ++ .ref n :: st) (hp ++ ((hh u0).map (shE n) ++ hq)) := by
  intro H locs ls hP hD hS hl
  rw [en_w3 hn hl1] at hP hD
  have hR := C.2.2.2.2.2.2.2.2.2
  have e9 : (As.reverse ++ Value.ref n :: st).map (en_tr ad) = (As.map (en_tr (adc n ad))).reverse ++ .ref (adc n ad 0) :: st.map (en_tr ad) := by
    rw [List.map_append, List.map_reverse, hAs, hAs, List.map_cons]; rfl
  rw [e9]
  refine en_callM (va_runV (As := As.map (en_tr (adc n ad))) (rest := st.map (en_tr ad)) ⟨C.1, C.2.1, C.2.2.1, C.2.2.2.1, C.2.2.2.2.1⟩ (hM H.size) (cwV na C.2.2.2.2.1 hw rfl rfl rfl hy ⟨by show d0 + 1 ≤ _; omega, by show 8 + (n0 + 11) + 60 * d0 ≤ _; omega⟩) ⟨en_blind, va_recv C.2.2.2.2.2.1 (en_P3 hP) hc (en_at hg), ?_⟩ rfl (by simpa using hna) hl.1 rfl (lv_room hst) d ⟨by omega, by omega⟩) hP hD hS C.2.2.2.2.2.2.1 (fun r h2 H1 locs1 hq hP1 hD1 hS1 => ?_)
  · exact fun U hU hW => en_startC (av := .ref 0 :: As) C hP hD hS U hU hW
  · obtain ⟨rfl, rfl⟩ := hq
    rw [← hl2, ← en_w3 hn (by omega)] at hP1 hD1
    exact kk H1 locs1 ls hP1 hD1 hS1 hl
theorem g_slen (C : Cx p R s m args meth c cc nL own ret D tys A ad dd) {L : Nat} {xs : Nat → Int32} (hX : va_X (ad 2000) L xs s s.heap) (hbl : ad 2000 < s.heap.size) (hbA : ¬ A (ad 2000)) (d : decode cc pc = .ok (.arraylength, 1)) (k : G p l e R s m args below meth c D A nL ad cells slots Q (pc + 1) lv (.int (Int32.ofNat L) :: st) (h)) : G p l e R s m args below meth c D A nL ad cells slots Q pc lv (.ref 2000 :: st) (h) := fun H locs ls hP hD hS hl => va_slen C.1 C.2.1 hX hbl hbA hS d (k H locs ls hP hD hS hl)
theorem g_sld (C : Cx p R s m args meth c cc nL own ret D tys A ad dd) {L : Nat} {xs : Nat → Int32} {i x : Int32} (hX : va_X (ad 2000) L xs s s.heap) (hbl : ad 2000 < s.heap.size) (hbA : ¬ A (ad 2000)) (hr : rdO xs L i = some x) (d : decode cc pc = .ok (.iaload, 1)) (k : G p l e R s m args below meth c D A nL ad cells slots Q (pc + 1) lv (.int x :: st) (h)) : G p l e R s m args below meth c D A nL ad cells slots Q pc lv (.int i :: .ref 2000 :: st) (h) := by
  obtain ⟨hin, rfl⟩ := rdO_some hr
  exact fun H locs ls hP hD hS hl => va_sld C.1 C.2.1 hX hbl hbA hS hin d (k H locs ls hP hD hS hl)
end LawRows
