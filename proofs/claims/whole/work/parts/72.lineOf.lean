/-! PURE: lineOf, killer alike. -/
theorem Alike_lineOf (x1 x2 x3 : Int32) : Alike (fC_lineOf x1 x2 x3) (fM_lineOf x1 x2 x3) := by
  intro uC uM h
  unfold fC_lineOf fM_lineOf
  rcases arg_ix x1 6 (by decide) with hx | ⟨t, ht, rfl⟩
  · rw [C_slotOf_no (Or.inl hx), M_in_no (lo := 0) (hi := 5) (a := 0) (b := 5) rfl rfl (by decide) (by decide) hx]
    simp only [Option.bind_some]
    rw [if_neg (show ¬ ((0 : Int32) ≤ -1) by decide)]
    exact ⟨_, _, _, rfl, rfl, h⟩
  obtain ⟨n, hn, e1, e2, e3⟩ := h.2.2.2.2.1 t ht
  rw [M_in_ok (lo := 0) (hi := 5) (a := 0) (b := 5) rfl rfl (by decide) (Nat.zero_le _) (by omega)]
  simp only [Option.bind_some]
  rw [if_neg (show ¬ ((1 : Int32) = 0) by decide), pu_rd ht (by omega)]
  simp only [Option.bind_some]
  rw [e2]
  rcases arg_ix x2 n (by omega) with hy | ⟨i, hi, rfl⟩
  · rw [C_slotOf_no (Or.inr ⟨t, n, ht, rfl, e1, hn, hy⟩), M_inN_no (by omega) hy]
    simp only [Option.bind_some]
    rw [if_neg (show ¬ ((0 : Int32) ≤ -1) by decide)]
    exact ⟨_, _, _, rfl, rfl, h⟩
  obtain ⟨-, g1, g2, g3, g4⟩ := e3 i hi
  have hs : 16 * t + i < 96 := by omega
  rw [C_slotOf_ok ht e1 hn hi, M_inN_ok (by omega) hi]
  simp only [Option.bind_some]
  rw [if_pos (show (0 : Int32) ≤ nI (16 * t + i) by rw [lit_0]; exact nI_le (Nat.zero_le _) (by omega)), if_neg (show ¬ ((1 : Int32) = 0) by decide), C_sword hs, C_sa hs, C_sb hs, C_sc hs, lit_16, pk_mul, nI_add]
  rcases arg_ix x3 4 (by decide) with hz | ⟨w, hw, rfl⟩
  · rw [M_in_no (lo := 0) (hi := 3) (a := 0) (b := 3) rfl rfl (by decide) (by decide) hz]
    have nn : ∀ q : Nat, q < 4 → ¬ x3 = nI q := fun q hq e => by
      rcases hz with hz | hz
      · rw [e] at hz; exact nI_nlt (Nat.zero_le _) (by omega) (show nI q < nI 0 from hz)
      · rw [e] at hz; exact nI_ge hq (by omega) hz
    rw [if_neg (show ¬ x3 = 0 from nn 0 (by decide)), if_neg (show ¬ x3 = 1 from nn 1 (by decide)), if_neg (show ¬ x3 = 2 from nn 2 (by decide)), if_neg (show ¬ x3 = 3 from nn 3 (by decide))]
    exact ⟨_, _, _, rfl, rfl, h⟩
  · rw [M_in_ok (lo := 0) (hi := 3) (a := 0) (b := 3) rfl rfl (by decide) (Nat.zero_le _) (by omega)]
    simp only [Option.bind_some]
    rw [if_neg (show ¬ ((1 : Int32) = 0) by decide), pu_rd hs (by omega), pu_rd hs (by omega), pu_rd hs (by omega), pu_rd hs (by omega), ← g1, ← g2, ← g3, ← g4]
    rcases (show w = 0 ∨ w = 1 ∨ w = 2 ∨ w = 3 by omega) with rfl | rfl | rfl | rfl
    · rw [if_pos (show nI 0 = (0 : Int32) from rfl), if_pos (show nI 0 = (0 : Int32) from rfl)]
      exact ⟨_, _, _, rfl, rfl, h⟩
    · rw [if_neg (show ¬ nI 1 = (0 : Int32) by decide), if_neg (show ¬ nI 1 = (0 : Int32) by decide), if_pos (show nI 1 = (1 : Int32) from rfl), if_pos (show nI 1 = (1 : Int32) from rfl)]
      exact ⟨_, _, _, rfl, rfl, h⟩
    · rw [if_neg (show ¬ nI 2 = (0 : Int32) by decide), if_neg (show ¬ nI 2 = (0 : Int32) by decide), if_neg (show ¬ nI 2 = (1 : Int32) by decide), if_neg (show ¬ nI 2 = (1 : Int32) by decide), if_pos (show nI 2 = (2 : Int32) from rfl), if_pos (show nI 2 = (2 : Int32) from rfl)]
      exact ⟨_, _, _, rfl, rfl, h⟩
    · rw [if_neg (show ¬ nI 3 = (0 : Int32) by decide), if_neg (show ¬ nI 3 = (0 : Int32) by decide), if_neg (show ¬ nI 3 = (1 : Int32) by decide), if_neg (show ¬ nI 3 = (1 : Int32) by decide), if_neg (show ¬ nI 3 = (2 : Int32) by decide), if_neg (show ¬ nI 3 = (2 : Int32) by decide), if_pos (show nI 3 = (3 : Int32) from rfl)]
      exact ⟨_, _, _, rfl, rfl, h⟩
theorem Alike_killer (x1 x2 : Int32) : Alike (fC_killer x1 x2) (fM_killer x1 x2) := by
  intro uC uM h
  obtain ⟨⟨k, hk4, hkC, hkM⟩, -⟩ := id h.2.1
  have hC : ∀ (n c : Nat) (y : Int32), c < 4 → uC 16 c = nI n → n ≤ 48 → (y < 0 ∨ nI n ≤ y) → fC_Mutants_killerOf (nI c) y uC = some (-2, uC) := by
    intro n c y hc e hn hy
    unfold fC_Mutants_killerOf
    rw [if_neg (show ¬ nI c < 0 by rw [lit_0]; exact nI_nlt (Nat.zero_le _) (by omega)), if_neg (show ¬ (4 : Int32) ≤ nI c by rw [lit_4]; exact nI_ge hc (by omega))]
    by_cases a : y < 0
    · rw [if_pos a]
    rw [if_neg a]
    by_cases b : (48 : Int32) ≤ y
    · rw [if_pos b]
    rw [if_neg b, pu_rd hc (by omega)]
    simp only [Option.bind_some]
    rw [e, if_pos (hy.resolve_left a)]
  unfold fC_killer fM_killer
  rw [hkM]
  rcases arg_ix x1 k (by omega) with hx | ⟨c, hc, rfl⟩
  · rw [M_inC_no hk4 hx]
    have : fC_Mutants_killerOf x1 x2 uC = some (-2, uC) := by
      rcases arg_ix x1 4 (by decide) with h4 | ⟨c, hc, rfl⟩
      · unfold fC_Mutants_killerOf
        by_cases a : x1 < 0
        · rw [if_pos a]
        · rw [if_neg a, if_pos (show (4 : Int32) ≤ x1 from h4.resolve_left a)]
      · obtain ⟨n, hn, e1, e2, e3, e4⟩ := h.2.2.2.2.2 c hc
        have hkc : k ≤ c := by
          rcases hx with hx | hx
          · exact absurd (show nI c < nI 0 from hx) (nI_nlt (Nat.zero_le _) (by omega))
          · exact (nI_leI (by omega) (by omega)).mp hx
        have n0 : n = 0 := e3 k hkC hkc
        subst n0
        refine hC 0 c x2 hc e1 (by omega) ?_
        by_cases q : x2 < 0
        · exact Or.inl q
        · exact Or.inr (Int32.not_lt.mp q)
    rw [this]
    exact ⟨_, _, _, rfl, rfl, h⟩
  · obtain ⟨n, hn, e1, e2, e3, e4⟩ := h.2.2.2.2.2 c (by omega)
    rw [M_inC_ok hk4 hc]
    simp only [Option.bind_some]
    rw [if_neg (show ¬ ((1 : Int32) = 0) by decide), pu_rd (show c < 4 by omega) (by omega)]
    simp only [Option.bind_some]
    rcases arg_ix x2 n (by omega) with hy | ⟨i, hi, rfl⟩
    · rw [hC n c x2 (by omega) e1 hn hy]
      have : fM_in x2.toInt64 (0 : Int64) (uM 40 c - (1 : Int32)).toInt64 uM = some (0, uM) := by
        rcases e2 with e2 | ⟨-, e2⟩
        · rw [e2]; exact M_inN_no (by omega) hy
        · rw [e2, show (0 : Int64) = (0 : Int32).toInt64 from rfl, M_in, if_neg]
          rintro ⟨q1, q2⟩
          exact absurd (Int32.le_trans q1 q2) (by decide)
      rw [this]
      exact ⟨_, _, _, rfl, rfl, h⟩
    · have e2 : uM 40 c = nI n := by
        rcases e2 with e2 | ⟨n0, -⟩
        · exact e2
        · omega
      rw [e2, M_inN_ok (by omega) hi]
      simp only [Option.bind_some]
      rw [if_neg (show ¬ ((1 : Int32) = 0) by decide), lit_48, pk_mul, nI_add, pu_rd (by omega) (by omega)]
      unfold fC_Mutants_killerOf
      rw [if_neg (show ¬ nI c < 0 by rw [lit_0]; exact nI_nlt (Nat.zero_le _) (by omega)), if_neg (show ¬ (4 : Int32) ≤ nI c by rw [lit_4]; exact nI_ge (by omega) (by omega)), if_neg (show ¬ nI i < 0 by rw [lit_0]; exact nI_nlt (Nat.zero_le _) (by omega)), if_neg (show ¬ (48 : Int32) ≤ nI i by rw [lit_48]; exact nI_ge (by omega) (by omega)), pu_rd (show c < 4 by omega) (by omega)]
      simp only [Option.bind_some]
      rw [e1, if_neg (nI_ge hi (by omega)), lit_48, pk_mul, nI_add, Nat.mul_comm c 48, pu_rd (by omega) (by omega), e4 i hi]
      exact ⟨_, _, _, rfl, rfl, h⟩
