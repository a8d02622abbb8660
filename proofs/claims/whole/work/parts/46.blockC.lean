/-! PURE: a CALL, in the class: its recursion does what the evaluator says. -/
def CR (u : Ug) (S : AS) (th ca : Int32) : Prop := u 0 = S.1 ∧ u 2 = S.2.1 ∧ u 19 0 = nI S.2.2.1 ∧ u 20 0 = nI S.2.2.2 ∧ u 21 0 = th ∧ u 22 0 = ca
def CF (lev : Nat) (u u1 : Ug) : Prop := (∀ r, r ≠ 0 → r ≠ 2 → r ≠ 9 → r ≠ 19 → r ≠ 20 → r ≠ 21 → r ≠ 22 → u1 r = u r) ∧ ∀ j, j < 70 * lev → u1 9 j = u 9 j
theorem CF.rf {lev : Nat} {u : Ug} : CF lev u u := ⟨fun _ _ _ _ _ _ _ _ => rfl, fun _ _ => rfl⟩
theorem CF.tr {l1 l2 : Nat} {u u1 u2 : Ug} (h : CF l1 u u1) (h2 : CF l2 u1 u2) (hl : l1 ≤ l2) : CF l1 u u2 := ⟨fun r a b c d e f g => (h2.1 r a b c d e f g).trans (h.1 r a b c d e f g), fun j hj => (h2.2 j (by omega)).trans (h.2 j hj)⟩
def CE (u : Ug) (kd av bv : Nat → Int32) (sz : Nat → Nat) (bd db nb : Nat → Int32) : Prop := u 3 = kd ∧ u 4 = av ∧ u 5 = bv ∧ (∀ m, m < 12 → u 1 m = nI (sz m)) ∧ u 6 = bd ∧ u 7 = db ∧ u 8 = nb
theorem CE.of {lev : Nat} {u u1 : Ug} {kd av bv : Nat → Int32} {sz : Nat → Nat} {bd db nb : Nat → Int32} (h : CE u kd av bv sz bd db nb) (hf : CF lev u u1) : CE u1 kd av bv sz bd db nb := by
  have e : ∀ r, r = 1 ∨ r = 3 ∨ r = 4 ∨ r = 5 ∨ r = 6 ∨ r = 7 ∨ r = 8 → u1 r = u r := fun r hr => hf.1 r (by omega) (by omega) (by omega) (by omega) (by omega) (by omega) (by omega)
  unfold CE
  rw [e 3 (by omega), e 4 (by omega), e 5 (by omega), e 1 (by omega), e 6 (by omega), e 7 (by omega), e 8 (by omega)]
  exact h
theorem C_skip {m pl en nx : Nat} {x2 x4 x5 x6 v : Int32} {u : Ug} (he : en ≤ 8) (hx : nx < 100) : ∀ (d j i : Nat), i + d ≤ en → i + d ≤ nx → kC_Machine_block (rC m).1 (rC m).2.1 (rC m).2.2.1 (rC m).2.2.2 (j + d) (nI pl) x2 (nI en) x4 x5 x6 v (nI nx) (nI i) u = kC_Machine_block (rC m).1 (rC m).2.1 (rC m).2.2.1 (rC m).2.2.2 j (nI pl) x2 (nI en) x4 x5 x6 v (nI nx) (nI (i + d)) u := by
  intro d
  induction d with
  | zero => intro j i _ _; rfl
  | succ d ih =>
    intro j i h1 h2
    show sC_Machine_block_10 _ _ _ _ (kC_Machine_block (rC m).1 (rC m).2.1 (rC m).2.2.1 (rC m).2.2.2 (j + d)) _ _ _ _ _ _ _ _ _ _ = _
    unfold sC_Machine_block_10
    rw [if_neg (nI_ge (by omega) (by omega)), if_pos (nI_lt (by omega) (by omega)), nI_1, ih j (i + 1) (by omega) (by omega), show i + 1 + d = i + (d + 1) by omega]
theorem C_thr {m pl en nx : Nat} {x2 x4 x5 x6 v : Int32} {u : Ug} (he : en ≤ 8) (hx : nx < 100) (ht : u 21 0 ≠ 0) : ∀ (j i : Nat), en < i + j → i ≤ en → kC_Machine_block (rC m).1 (rC m).2.1 (rC m).2.2.1 (rC m).2.2.2 j (nI pl) x2 (nI en) x4 x5 x6 v (nI nx) (nI i) u = some (v, u) := by
  intro j
  induction j with
  | zero => intro i h1 h3; omega
  | succ j ih =>
    intro i h1 h3
    show sC_Machine_block_10 _ _ _ _ (kC_Machine_block (rC m).1 (rC m).2.1 (rC m).2.2.1 (rC m).2.2.2 j) _ _ _ _ _ _ _ _ _ _ = _
    unfold sC_Machine_block_10
    by_cases c : en ≤ i
    · rw [if_pos (nI_le c (by omega))]
    rw [if_neg (nI_ge (by omega) (by omega)), nI_1]
    by_cases c2 : i < nx
    · rw [if_pos (nI_lt c2 (by omega))]; exact ih (i + 1) (by omega) (by omega)
    rw [if_neg (nI_nlt (by omega) (by omega)), C_threw]
    simp only [Option.bind_some]
    rw [if_neg ht, if_neg (by decide)]
    exact ih (i + 1) (by omega) (by omega)
theorem aPay_0 {σ : Nat → Int32} {fr to : Nat} (h1 : fr < 12) (h2 : to < 12) (h : SgOk σ) : aPay σ fr to 0 = (0, σ) := by
  obtain ⟨cf, hf1, hf2⟩ := h.1 fr h1
  obtain ⟨ct, ht1, ht2⟩ := h.1 to h2
  have e : aPay σ fr to 0 = aPayG (nI 1000000000) σ fr to (nI 0) := by unfold aPay; rw [lit_big, lit_0]
  rw [e]
  have key : ∀ M : Nat, M < 2 ^ 30 → cf ≤ M → ct ≤ M → aPayG (nI M) σ fr to (nI 0) = (0, σ) := by
    intro M hM c1 c2
    unfold aPayG
    rw [if_neg (by decide), hf2, if_pos (nI_le (Nat.zero_le _) (by omega))]
    by_cases c : fr = to
    · rw [if_pos c]
    rw [if_neg c, ht2, pk_sub c2, if_pos (nI_le (Nat.zero_le _) (by omega))]
    have e1 : upd σ fr (nI cf - nI 0) = σ := by
      rw [pk_sub (Nat.zero_le _), Nat.sub_zero, ← hf2]
      funext j; by_cases hj : j = fr
      · subst hj; exact upd_s
      · exact upd_n hj
    rw [e1, ht2, nI_add, Nat.add_zero, ← ht2]
    have e2 : upd σ to (σ to) = σ := by
      funext j; by_cases hj : j = to
      · subst hj; exact upd_s
      · exact upd_n hj
    rw [e2]
  exact key _ (by decide) hf1 ht1
/-- THE STATE as it was kept -/
theorem C_kept {f g σ : Nat → Int32} {lev : Nat} (hσ : ∀ j, 70 ≤ j → σ j = 0) (hg : ∀ j, 70 ≤ j → g j = 0) (hf : ∀ j, j < 70 → f (70 * lev + j) = σ j) : va_cpy f g (70 * lev) 0 70 = σ := by
  funext j
  by_cases hj : j < 70
  · rw [pk_cpy_in (Nat.zero_le _) (by omega), Nat.sub_zero, hf j hj]
  · rw [pk_cpy_out (Or.inr (by omega)), hg j (by omega), hσ j (by omega)]
theorem aBlock_ca {kd av bv : Nat → Int32} {sz : Nat → Nat} {bd db nb : Nat → Int32} : ∀ (n pl i en : Nat) (v : Int32) (op : Nat) (S : AS), (aBlock kd av bv sz bd db nb n pl i en v op S).2.2.1 = 0 → (aBlock kd av bv sz bd db nb n pl i en v op S).2.2.2 = 0 := by
  intro n
  induction n with
  | zero => intro pl i en v op S h; exact absurd (show (7 : Int32) = 0 from h) (by decide)
  | succ n ih =>
    intro pl i en v op S
    unfold aBlock
    by_cases c1 : en ≤ i
    · rw [if_pos c1]; exact fun _ => rfl
    rw [if_neg c1]
    by_cases c2 : 100 ≤ S.2.2.2 ∨ 20000 ≤ S.2.2.1
    · rw [if_pos c2]; exact fun h => absurd (show (7 : Int32) = 0 from h) (by decide)
    rw [if_neg c2]
    by_cases k9 : kd (8 * pl + i) = 9
    · rw [if_pos k9]
      generalize aBlock kd av bv sz bd db nb n pl (i + 1) (min (i + 1 + (av (8 * pl + i)).toNatClampNeg) en) v op (S.1, aCov S.2.1 pl i, S.2.2.1 + 1, S.2.2.2 + 1) = r
      show (if r.2.2.1 = 0 then _ else _ : AO).2.2.1 = 0 → (if r.2.2.1 = 0 then _ else _ : AO).2.2.2 = 0
      by_cases r0 : r.2.2.1 = 0
      · rw [if_pos r0]; exact ih _ _ _ _ _ _
      rw [if_neg r0]
      by_cases r7 : r.2.2.1 = 7
      · rw [if_pos r7]; exact fun h => absurd h r0
      · rw [if_neg r7]; exact ih _ _ _ _ _ _
    rw [if_neg k9]
    by_cases k7 : kd (8 * pl + i) = 7 ∨ kd (8 * pl + i) = 13
    · rw [if_pos k7]; exact ih _ _ _ _ _ _
    rw [if_neg k7]
    by_cases k8 : kd (8 * pl + i) = 8
    · rw [if_pos k8]
      generalize (av (8 * pl + i)).toNatClampNeg = f
      show (if db f = 1 then _ else _ : AO).2.2.1 = 0 → (if db f = 1 then _ else _ : AO).2.2.2 = 0
      by_cases d1 : db f = 1
      · rw [if_pos d1]; exact ih _ _ _ _ _ _
      rw [if_neg d1]
      by_cases d2 : db f = 2
      · rw [if_pos d2]; exact fun h => absurd (show (5 : Int32) = 0 from h) (by decide)
      rw [if_neg d2]
      by_cases d3 : bd f = -1
      · rw [if_pos d3]; exact fun h => absurd (show (5 : Int32) = 0 from h) (by decide)
      rw [if_neg d3]
      by_cases d4 : 4 ≤ op
      · rw [if_pos d4]; exact fun h => absurd (show (5 : Int32) = 0 from h) (by decide)
      rw [if_neg d4]
      by_cases d5 : 20000 ≤ S.2.2.1 + 1
      · rw [if_pos d5]; exact fun h => absurd (show (7 : Int32) = 0 from h) (by decide)
      rw [if_neg d5]
      generalize aBack S.1 (aBlock kd av bv sz bd db nb n (bd f).toNatClampNeg 0 (sz (bd f).toNatClampNeg) v (op + 1) (S.1, aCov S.2.1 pl i, S.2.2.1 + 2, S.2.2.2 + 1)) = r
      show (if r.2.2.1 = 0 then _ else _ : AO).2.2.1 = 0 → (if r.2.2.1 = 0 then _ else _ : AO).2.2.2 = 0
      by_cases r0 : r.2.2.1 = 0
      · rw [if_pos r0]; exact ih _ _ _ _ _ _
      · rw [if_neg r0]; exact fun h => absurd h r0
    rw [if_neg k8]
    generalize aPlain (kd (8 * pl + i)) (av (8 * pl + i)) (bv (8 * pl + i)) pl v S.1 = q
    show (if q.2.2 = 0 then _ else _ : AO).2.2.1 = 0 → (if q.2.2 = 0 then _ else _ : AO).2.2.2 = 0
    by_cases q0 : q.2.2 = 0
    · rw [if_pos q0]; exact ih _ _ _ _ _ _
    · rw [if_neg q0]; exact fun h => absurd h q0
