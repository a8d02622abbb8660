/-! PURE: a CALL, in the reference: its loop does what the evaluator says. -/
def MR (u : Ug) (S : AS) : Prop := u 0 = S.1 ∧ u 6 = S.2.1 ∧ u 8 0 = nI S.2.2.1 ∧ u 21 0 = nI S.2.2.2
def MX (u : Ug) (kd av bv : Nat → Int32) (sz : Nat → Nat) (bd db nb : Nat → Int32) : Prop :=
  (∃ mw : Nat, mw ≤ 2 ∧ u 33 0 = nI mw ∧ ∀ s, s < 96 → (∃ k : Nat, k ≤ 11 ∧ u 3 s = nI k) ∧ (kd s, av s, bv s) = mutS (if 0 < mw ∧ nI s = u 32 0 then mw else 0) (u 3 s) (u 4 s) (u 5 s)) ∧ (∀ m, m < 12 → u 2 m = nI (sz m)) ∧ ∀ f, f < 4 → u 7 f = bd f ∧ u 30 f = db f ∧ (db f = 1 → u 31 f = nb f) ∧ (db f = 2 → u 31 f = 20 + nb f)
def MF (f t : Nat) (u u1 : Ug) : Prop := (∀ r, r ≠ 0 → r ≠ 6 → r ≠ 8 → r ≠ 14 → r ≠ 15 → r ≠ 16 → r ≠ 17 → r ≠ 18 → r ≠ 19 → r ≠ 20 → r ≠ 21 → u1 r = u r) ∧ (∀ g, g < f → u1 15 g = u 15 g ∧ u1 16 g = u 16 g ∧ u1 17 g = u 17 g ∧ u1 18 g = u 18 g) ∧ u1 15 f = u 15 f ∧ (∀ k, k < 10 * f + t → u1 19 k = u 19 k) ∧ ∀ j, j < 70 * (10 * f + 1 + t) → u1 20 j = u 20 j
theorem MF.rf {f t : Nat} {u : Ug} : MF f t u u := ⟨fun _ _ _ _ _ _ _ _ _ _ _ _ => rfl, fun _ _ => ⟨rfl, rfl, rfl, rfl⟩, rfl, fun _ _ => rfl, fun _ _ => rfl⟩
theorem MF.tr {f t t2 : Nat} {u u1 u2 : Ug} (h : MF f t u u1) (h2 : MF f t2 u1 u2) (ht : t ≤ t2) : MF f t u u2 :=
  ⟨fun r a b c d e f g i j k l => (h2.1 r a b c d e f g i j k l).trans (h.1 r a b c d e f g i j k l), fun g hg => ⟨(h2.2.1 g hg).1.trans (h.2.1 g hg).1, (h2.2.1 g hg).2.1.trans (h.2.1 g hg).2.1, (h2.2.1 g hg).2.2.1.trans (h.2.1 g hg).2.2.1, (h2.2.1 g hg).2.2.2.trans (h.2.1 g hg).2.2.2⟩, h2.2.2.1.trans h.2.2.1, fun k hk => (h2.2.2.2.1 k (by omega)).trans (h.2.2.2.1 k hk), fun j hj => (h2.2.2.2.2 j (by omega)).trans (h.2.2.2.2 j hj)⟩
/-- from the CALL that ASK made, back to the CALL that asked -/
theorem MF.up {f t : Nat} {u u1 u2 : Ug} (h : MF f t u u1) (ht : t ≤ 8) (h2 : MF (f + 1) 0 u1 u2) : MF f t u u2 :=
  ⟨fun r a b c d e f g i j k l => (h2.1 r a b c d e f g i j k l).trans (h.1 r a b c d e f g i j k l), fun g hg => ⟨(h2.2.1 g (by omega)).1.trans (h.2.1 g hg).1, (h2.2.1 g (by omega)).2.1.trans (h.2.1 g hg).2.1, (h2.2.1 g (by omega)).2.2.1.trans (h.2.1 g hg).2.2.1, (h2.2.1 g (by omega)).2.2.2.trans (h.2.1 g hg).2.2.2⟩, (h2.2.1 f (by omega)).1.trans h.2.2.1, fun k hk => (h2.2.2.2.1 k (by omega)).trans (h.2.2.2.1 k hk), fun j hj => (h2.2.2.2.2 j (by omega)).trans (h.2.2.2.2 j hj)⟩
theorem MX.of {f t : Nat} {u u1 : Ug} {kd av bv : Nat → Int32} {sz : Nat → Nat} {bd db nb : Nat → Int32} (h : MX u kd av bv sz bd db nb) (hf : MF f t u u1) : MX u1 kd av bv sz bd db nb := by
  have e : ∀ r, r = 2 ∨ r = 3 ∨ r = 4 ∨ r = 5 ∨ r = 7 ∨ r = 30 ∨ r = 31 ∨ r = 32 ∨ r = 33 → u1 r = u r := fun r hr => hf.1 r (by omega) (by omega) (by omega) (by omega) (by omega) (by omega) (by omega) (by omega) (by omega) (by omega) (by omega)
  unfold MX
  rw [e 2 (by omega), e 3 (by omega), e 4 (by omega), e 5 (by omega), e 7 (by omega), e 30 (by omega), e 31 (by omega), e 32 (by omega), e 33 (by omega)]
  exact h
def MC (u : Ug) (f pl i : Nat) (v : Int32) (tr : Nat → Nat) : Prop := u 14 0 = nI (f + 1) ∧ u 15 f = nI pl ∧ u 17 f = nI i ∧ u 16 f = v ∧ (∀ g, g ≤ f → u 18 g = nI (tr g)) ∧ u 25 0 = 0
/-- how the evaluator's outcome shows in the reference -/
def MS (f pl en : Nat) (tr : Nat → Nat) (S : AS) (u : Ug) (r : AO) : Prop :=
  (r.2.2.1 = 0 ∧ ∃ (k : Nat) (u1 : Ug), k ≤ 2 * (r.2.1.2.2.2 - S.2.2.2) ∧ goN k u = some u1 ∧ MR u1 r.2.1 ∧ MC u1 f pl en r.1 tr ∧ MF f (tr f) u u1)
  ∨ (r.2.2.1 ≠ 0 ∧ ∃ (k : Nat) (w : Ug) (tr1 : Nat → Nat), k ≤ 2 * (r.2.1.2.2.2 - S.2.2.2) + 1 ∧ goN k u = some (aRaise tr1 (f + 1) r.2.2.1 r.2.2.2 w) ∧ MR w r.2.1 ∧ w 14 0 = nI (f + 1) ∧ (∀ g, g < 4 → tr1 g ≤ 8) ∧ (∀ g, g ≤ f → w 18 g = nI (tr1 g)) ∧ (∀ g, g < f → tr1 g = tr g) ∧ (r.2.2.1 ≠ 7 → tr1 f = tr f) ∧ MF f (tr f) u w ∧ w 25 0 = 0)
def MB (kd av bv : Nat → Int32) (sz : Nat → Nat) (bd db nb : Nat → Int32) (n : Nat) : Prop :=
  ∀ (f pl i en : Nat) (v : Int32) (tr : Nat → Nat) (S : AS) (u : Ug), 9 * (4 - (f + 1)) + (8 - i) + 1 ≤ n → i ≤ en → en ≤ 8 → pl < 12 → f < 4 → tr f ≤ i → (∀ g, g < 4 → tr g ≤ 8) → StOk S → MR u S → MC u f pl i v tr → (if tr f = 0 then u 2 pl else u 19 (10 * f + tr f - 1)) = nI en → MX u kd av bv sz bd db nb → MS f pl en tr S u (aBlock kd av bv sz bd db nb n pl i en v (f + 1) S)
theorem mutS_9 {w : Nat} {k a b : Int32} (h : (mutS w k a b).1 = 9) : w = 0 ∧ k = 9 := by
  unfold mutS at h
  by_cases w0 : w = 0
  · rw [if_pos w0] at h; exact ⟨w0, h⟩
  rw [if_neg w0] at h
  exfalso
  revert h
  repeat' split
  all_goals (intro h; dsimp only at h; exact absurd h (by decide))
theorem mutS_8 {w : Nat} {k a b : Int32} (h : (mutS w k a b).1 = 8) : w = 0 ∧ k = 8 := by
  unfold mutS at h
  by_cases w0 : w = 0
  · rw [if_pos w0] at h; exact ⟨w0, h⟩
  rw [if_neg w0] at h
  exfalso
  revert h
  repeat' split
  all_goals (intro h; dsimp only at h; exact absurd h (by decide))
theorem mutS_7 {w k : Nat} {a b : Int32} (hk : k ≤ 11) (h : (mutS w (nI k) a b).1 = 7 ∨ (mutS w (nI k) a b).1 = 13) : k = 7 := by
  by_cases k7 : k = 7
  · exact k7
  exfalso
  have n7 : ¬ nI k = 7 := fun z => k7 ((nI_eq (by omega) (by decide)).mp (show nI k = nI 7 from z))
  have n13 : ¬ nI k = 13 := fun z => by have := (nI_eq (by omega) (by decide)).mp (show nI k = nI 13 from z); omega
  unfold mutS at h
  by_cases w0 : w = 0
  · rw [if_pos w0] at h; rcases h with h | h; exact n7 h; exact n13 h
  rw [if_neg w0] at h
  by_cases k2 : nI k = 2
  · rw [if_pos k2] at h; rcases h with h | h <;> exact absurd (show (2 : Int32) = _ from h) (by decide)
  rw [if_neg k2] at h
  by_cases k4 : nI k = 4
  · rw [if_pos k4] at h
    by_cases w1 : w = 1
    · rw [if_pos w1] at h; rcases h with h | h <;> exact absurd (show (4 : Int32) = _ from h) (by decide)
    · rw [if_neg w1] at h; rcases h with h | h <;> exact absurd (show (12 : Int32) = _ from h) (by decide)
  rw [if_neg k4, if_neg n7] at h
  by_cases k5 : nI k = 5
  · rw [if_pos k5] at h; rcases h with h | h <;> exact absurd (show (5 : Int32) = _ from h) (by decide)
  · rw [if_neg k5] at h; rcases h with h | h <;> exact absurd (show (12 : Int32) = _ from h) (by decide)
theorem mutS_is7 {w : Nat} {a b : Int32} (hw : w ≤ 2) : (mutS w 7 a b).1 = 7 ∨ (mutS w 7 a b).1 = 13 := by
  rcases (show w = 0 ∨ w = 1 ∨ w = 2 by omega) with rfl | rfl | rfl
  · exact Or.inl rfl
  · exact Or.inl rfl
  · exact Or.inr rfl
