/-! PURE: further calls that are alike. -/
theorem mem_ix {x2 x3 : Int32} {k : Nat} (hk4 : k ≤ 4) : ((x2 < 0 ∨ nI k ≤ x2) ∨ (x3 < 0 ∨ nI 3 ≤ x3)) ∨ ∃ c m : Nat, c < k ∧ m < 3 ∧ x2 = nI c ∧ x3 = nI m := by
  rcases arg_ix x2 k (by omega) with q | ⟨c, hc, e1⟩
  · exact Or.inl (Or.inl q)
  · rcases arg_ix x3 3 (by decide) with q | ⟨m, hm, e2⟩
    · exact Or.inl (Or.inr q)
    · exact Or.inr ⟨c, m, hc, hm, e1, e2⟩
theorem Alike_covered (x1 x2 : Int32) : Alike (fC_covered x1 x2) (fM_covered x1 x2) := by
  intro uC uM h
  obtain ⟨⟨k, hk4, hkC, hkM⟩, -⟩ := id h.2.1
  unfold fC_covered fM_covered
  rcases mem_ix (x2 := x1) (x3 := x2) hk4 with hno | ⟨c, m, hc, hm, rfl, rfl⟩
  · rw [C_placeOf_no hkC hno, M_isMember_no hkM hk4 hno]
    simp only [Option.bind_some]
    rw [if_neg (show ¬ ((0 : Int32) ≤ -1) by decide)]
    exact ⟨_, _, _, rfl, rfl, h⟩
  · rw [C_placeOf_ok hkC hk4 hc hm, M_isMember_ok hkM hk4 hc hm]
    simp only [Option.bind_some]
    rw [if_pos (show (0 : Int32) ≤ nI (3 * c + m) by rw [lit_0]; exact nI_le (Nat.zero_le _) (by omega)), if_neg (show ¬ ((1 : Int32) = 0) by decide)]
    unfold fC_Code_coveredBits
    rw [if_neg (by rw [lit_0]; exact nI_nlt (Nat.zero_le _) (by omega)), if_neg (by rw [lit_12]; exact nI_ge (by omega) (by omega)), lit_3, pk_mul, nI_add, pu_rd (by omega) (by omega), pu_rd (by omega) (by omega), h.2.2.1.1]
    exact ⟨_, _, _, rfl, rfl, h⟩
theorem C_isContract_no {x : Int32} {u : Ug} {k : Nat} (hk : u 18 0 = nI k) (h : x < 0 ∨ nI k ≤ x) : fC_Code_isContract x u = some (0, u) := by
  unfold fC_Code_isContract
  rw [hk]
  by_cases a : x < 0
  · rw [if_pos a]
  · rw [if_neg a, if_pos (h.resolve_left a)]
theorem C_isContract_ok {u : Ug} {k c : Nat} (hk : u 18 0 = nI k) (hk4 : k ≤ 4) (hc : c < k) : fC_Code_isContract (nI c) u = some (1, u) := by
  unfold fC_Code_isContract
  rw [hk, if_neg (by rw [lit_0]; exact nI_nlt (Nat.zero_le _) (by omega)), if_neg (nI_ge hc (by omega))]
theorem C_cellOf2 {u : Ug} {c j : Nat} (hc : c < 4) (hj : j < 4) : fC_State_cellOf (nI c) (nI j) u = some (u 0 (12 + (4 * c + j)), u) := by
  unfold fC_State_cellOf
  simp (disch := omega) only [lit_0, lit_4, lit_12, lit_16, pk_mul, nI_add, pu_lt0, pu_ge0, pu_rd, Option.bind_some]
  rw [if_neg (by omega), if_neg (by omega), Nat.mul_comm]
theorem Alike_cell (x1 x2 : Int32) : Alike (fC_cell x1 x2) (fM_cell x1 x2) := by
  intro uC uM h
  obtain ⟨⟨k, hk4, hkC, hkM⟩, -⟩ := id h.2.1
  unfold fC_cell fM_cell
  rw [hkM]
  rcases arg_ix x1 k (by omega) with hx | ⟨c, hc, rfl⟩
  · rw [C_isContract_no hkC hx, M_inC_no hk4 hx]
    exact ⟨_, _, _, rfl, rfl, h⟩
  · rw [C_isContract_ok hkC hk4 hc, M_inC_ok hk4 hc]
    simp only [Option.bind_some]
    rw [if_neg (show ¬ ((1 : Int32) = 0) by decide), if_neg (show ¬ ((1 : Int32) = 0) by decide)]
    rcases arg_ix x2 4 (by decide) with hy | ⟨j, hj, rfl⟩
    · rw [C_isCell_no hy, M_in_no (lo := 0) (hi := 3) (a := 0) (b := 3) rfl rfl (by decide) (by decide) hy]
      exact ⟨_, _, _, rfl, rfl, h⟩
    · rw [C_isCell_ok hj, M_in_ok (lo := 0) (hi := 3) (a := 0) (b := 3) rfl rfl (by decide) (Nat.zero_le _) (by omega)]
      simp only [Option.bind_some]
      rw [if_neg (show ¬ ((1 : Int32) = 0) by decide), if_neg (show ¬ ((1 : Int32) = 0) by decide), C_cellOf2 (by omega) hj, lit_12, lit_4, pk_mul, nI_add, nI_add, Nat.add_assoc, pu_rd (by omega) (by omega), h.1.1]
      exact ⟨_, _, _, rfl, rfl, h⟩
theorem Alike_clear (x : Int32) : Alike (fC_clear x) (fM_clear x) := by
  intro uC uM h
  unfold fC_clear fM_clear
  rcases arg_ix x 6 (by decide) with hx | ⟨t, ht, rfl⟩
  · rw [C_isTest_no hx, M_in_no (lo := 0) (hi := 5) (a := 0) (b := 5) rfl rfl (by decide) (by decide) hx]
    exact ⟨_, _, _, rfl, rfl, h⟩
  · rw [C_isTest_ok ht, M_in_ok (lo := 0) (hi := 5) (a := 0) (b := 5) rfl rfl (by decide) (Nat.zero_le _) (by omega)]
    simp only [Option.bind_some]
    rw [if_neg (show ¬ ((1 : Int32) = 0) by decide), if_neg (show ¬ ((1 : Int32) = 0) by decide)]
    obtain ⟨n, hn, e1, e2, e3⟩ := h.2.2.2.2.1 t ht
    unfold fC_Scripts_empty
    rw [if_neg (by rw [lit_0]; exact nI_nlt (Nat.zero_le _) (by omega)), if_pos (by rw [lit_6]; exact nI_lt ht (by omega)), pu_rd ht (by omega), pu_rd ht (by omega)]
    simp only [Option.bind_some]
    rw [pu_wr ht (by omega), pu_wr ht (by omega), e1, e2]
    simp only [Option.bind_some]
    refine ⟨_, _, _, rfl, rfl, h.1.of (wr_n (by decide)) (wr_n (by decide)), h.2.1.of (fun r hr => wr_n (by omega)) (fun r hr => wr_n (by omega)), h.2.2.1.of (fun r hr => wr_n (by omega)) (fun r hr => wr_n (by omega)), h.2.2.2.1.of (fun r hr => wr_n (by omega)) (fun r hr => wr_n (by omega)), ?_, h.2.2.2.2.2.of (fun r hr => wr_n (by omega)) (fun r hr => wr_n (by omega))⟩
    intro t2 ht2
    by_cases z : t2 = t
    · subst z
      exact ⟨0, by omega, by rw [wr_s]; exact upd_s, by rw [wr_s]; exact upd_s, fun i hi => by omega⟩
    · obtain ⟨n2, hn2, g1, g2, g3⟩ := h.2.2.2.2.1 t2 ht2
      refine ⟨n2, hn2, by rw [wr_s, upd_n z]; exact g1, by rw [wr_s, upd_n z]; exact g2, fun i hi => ?_⟩
      rw [wr_n (show (11 : Nat) ≠ 10 by decide), wr_n (show (12 : Nat) ≠ 10 by decide), wr_n (show (13 : Nat) ≠ 10 by decide), wr_n (show (14 : Nat) ≠ 10 by decide), wr_n (show (10 : Nat) ≠ 9 by decide), wr_n (show (11 : Nat) ≠ 9 by decide), wr_n (show (12 : Nat) ≠ 9 by decide), wr_n (show (13 : Nat) ≠ 9 by decide)]
      exact g3 i hi
theorem Alike_time (x : Int32) : Alike (fC_time x) (fM_time x) := by
  intro uC uM h
  unfold fC_time fM_time fC_State_age
  rcases arg_ix x 1001 (by decide) with hx | ⟨j, hj, rfl⟩
  · rw [M_in_no (lo := 0) (hi := 1000) (a := 0) (b := 1000) rfl rfl (by decide) (by decide) hx]
    simp only [Option.bind_some]
    by_cases a : x < 0
    · rw [if_pos a]
      exact ⟨_, _, _, rfl, rfl, h⟩
    · rw [if_neg a, if_neg (fun q => by
        have h1 := Int32.le_iff_toInt_le.mp (hx.resolve_left a)
        have h2 := Int32.le_iff_toInt_le.mp (show x ≤ nI 1000 from q)
        rw [nI_toInt (by decide)] at h1 h2
        omega)]
      exact ⟨_, _, _, rfl, rfl, h⟩
  · rw [M_in_ok (lo := 0) (hi := 1000) (a := 0) (b := 1000) rfl rfl (by decide) (Nat.zero_le _) (by omega)]
    simp only [Option.bind_some]
    rw [if_neg (show ¬ nI j < 0 by rw [lit_0]; exact nI_nlt (Nat.zero_le _) (by omega)), if_pos (show nI j ≤ (1000 : Int32) by rw [lit_1000]; exact nI_le (by omega) (by omega)), if_neg (show ¬ ((1 : Int32) = 0) by decide), lit_28, pu_rd (by decide) (by decide), pu_rd (by decide) (by decide)]
    simp only [Option.bind_some]
    rw [pu_wr (by decide) (by decide), pu_wr (by decide) (by decide)]
    simp only [Option.bind_some]
    rw [if_neg (show ¬ ((1 : Int32) = 0) by decide), C_height, pu_rd (by decide) (by decide), wr_s, wr_s, upd_s, upd_s, h.1.1]
    simp only [Option.bind_some]
    refine ⟨_, _, _, rfl, rfl, ⟨by rw [wr_s, wr_s, h.1.1], ?_⟩, h.2.1.of (fun r hr => wr_n (by omega)) (fun r hr => wr_n (by omega)), h.2.2.1.of (fun r hr => wr_n (by omega)) (fun r hr => wr_n (by omega)), h.2.2.2.1.of (fun r hr => wr_n (by omega)) (fun r hr => wr_n (by omega)), h.2.2.2.2.1.of (fun r hr => wr_n (by omega)) (fun r hr => wr_n (by omega)), h.2.2.2.2.2.of (fun r hr => wr_n (by omega)) (fun r hr => wr_n (by omega))⟩
    rw [wr_s]
    exact ⟨fun i hi => by rw [upd_n (by omega)]; exact h.1.2.1 i hi, by rw [upd_n (by decide)]; exact h.1.2.2.1, fun i hi => by rw [upd_n (by omega)]; exact h.1.2.2.2 i hi⟩
