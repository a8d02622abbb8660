/-! PURE: event, lineOf, killer alike. -/
theorem M_inN_no {x : Int32} {u : Ug} {n : Nat} (hn : n < 2 ^ 30) (h : x < 0 ∨ nI n ≤ x) : fM_in x.toInt64 (0 : Int64) (nI n - (1 : Int32)).toInt64 u = some (0, u) := by
  have e : (0 : Int64) = (0 : Int32).toInt64 := rfl
  rw [e, M_in, if_neg]
  rintro ⟨q1, q2⟩
  rcases h with h | h
  · exact Int32.not_le.mpr h q1
  · have h3 := Int32.le_iff_toInt_le.mp (show nI n ≤ nI n - nI 1 from Int32.le_trans h q2)
    rw [pk_sub_toInt hn (by decide), nI_toInt (by omega)] at h3
    omega
theorem M_inN_ok {u : Ug} {n c : Nat} (hn : n < 2 ^ 30) (hc : c < n) : fM_in (nI c).toInt64 (0 : Int64) (nI n - (1 : Int32)).toInt64 u = some (1, u) := by
  have e : nI n - (1 : Int32) = nI (n - 1) := by rw [lit_1, pk_sub (by omega)]
  rw [e, nI_l (show n - 1 < 2 ^ 31 by omega)]
  exact M_in_ok (a := 0) (b := n - 1) rfl rfl (by omega) (Nat.zero_le _) (by omega)
theorem Alike_event (x : Int32) : Alike (fC_event x) (fM_event x) := by
  intro uC uM h
  obtain ⟨e, he, h29⟩ := h.1.2.2.1
  have h29M : uM 0 29 = nI e := by rw [← h.1.1]; exact h29
  unfold fC_event fM_event fC_State_eventAt
  rw [lit_29, pu_rd (by decide) (by decide), pu_rd (by decide) (by decide)]
  simp only [Option.bind_some]
  rw [h29, h29M]
  rcases arg_ix x e (by omega) with hx | ⟨j, hj, rfl⟩
  · rw [M_inN_no (by omega) hx]
    by_cases a : x < 0
    · rw [if_pos a]
      exact ⟨_, _, _, rfl, rfl, h⟩
    · rw [if_neg a]
      have hx := hx.resolve_left a
      by_cases b : (40 : Int32) ≤ x
      · rw [if_pos b]
        exact ⟨_, _, _, rfl, rfl, h⟩
      · rw [if_neg b, if_pos hx]
        exact ⟨_, _, _, rfl, rfl, h⟩
  · rw [M_inN_ok (by omega) hj, if_neg (show ¬ nI j < 0 by rw [lit_0]; exact nI_nlt (Nat.zero_le _) (by omega)), if_neg (show ¬ (40 : Int32) ≤ nI j by rw [lit_40]; exact nI_ge (by omega) (by omega)), if_neg (nI_ge hj (by omega)), lit_30, nI_add, pu_rd (by omega) (by omega), h.1.1]
    simp only [Option.bind_some]
    rw [if_neg (show ¬ ((1 : Int32) = 0) by decide), pu_rd (by omega) (by omega)]
    exact ⟨_, _, _, rfl, rfl, h⟩
theorem C_slotOf_no {x y : Int32} {u : Ug} (h : (x < 0 ∨ nI 6 ≤ x) ∨ ∃ t n : Nat, t < 6 ∧ x = nI t ∧ u 10 t = nI n ∧ n ≤ 16 ∧ (y < 0 ∨ nI n ≤ y)) : fC_Scripts_slotOf x y u = some (-1, u) := by
  unfold fC_Scripts_slotOf
  by_cases a : x < 0
  · rw [if_pos a]
  rw [if_neg a]
  by_cases b : (6 : Int32) ≤ x
  · rw [if_pos b]
  rw [if_neg b]
  obtain ⟨t, n, ht, rfl, e, hn, hy⟩ := h.resolve_left (by rintro (q | q); exact a q; exact b q)
  by_cases c : y < 0
  · rw [if_pos c]
  rw [if_neg c]
  by_cases d : (16 : Int32) ≤ y
  · rw [if_pos d]
  rw [if_neg d, pu_rd ht (by omega)]
  simp only [Option.bind_some]
  rw [e, if_pos (hy.resolve_left c)]
theorem C_slotOf_ok {t n i : Nat} {u : Ug} (ht : t < 6) (e : u 10 t = nI n) (hn : n ≤ 16) (hi : i < n) : fC_Scripts_slotOf (nI t) (nI i) u = some (nI (16 * t + i), u) := by
  unfold fC_Scripts_slotOf
  rw [if_neg (show ¬ nI t < 0 by rw [lit_0]; exact nI_nlt (Nat.zero_le _) (by omega)), if_neg (show ¬ (6 : Int32) ≤ nI t by rw [lit_6]; exact nI_ge ht (by omega)), if_neg (show ¬ nI i < 0 by rw [lit_0]; exact nI_nlt (Nat.zero_le _) (by omega)), if_neg (show ¬ (16 : Int32) ≤ nI i by rw [lit_16]; exact nI_ge (by omega) (by omega)), pu_rd ht (by omega)]
  simp only [Option.bind_some]
  rw [e, if_neg (nI_ge hi (by omega)), lit_16, pk_mul, nI_add, Nat.mul_comm]
theorem C_sword {u : Ug} {s : Nat} (h : s < 96) : fC_Scripts_word (nI s) u = some (u 11 s, u) := by
  unfold fC_Scripts_word
  simp (disch := omega) only [lit_0, lit_96, pu_lt0, pu_ge0, pu_rd, Option.bind_some]
  rw [if_neg (by omega), if_neg (by omega)]
theorem C_sa {u : Ug} {s : Nat} (h : s < 96) : fC_Scripts_a (nI s) u = some (u 12 s, u) := by
  unfold fC_Scripts_a
  simp (disch := omega) only [lit_0, lit_96, pu_lt0, pu_ge0, pu_rd, Option.bind_some]
  rw [if_neg (by omega), if_neg (by omega)]
theorem C_sb {u : Ug} {s : Nat} (h : s < 96) : fC_Scripts_b (nI s) u = some (u 13 s, u) := by
  unfold fC_Scripts_b
  simp (disch := omega) only [lit_0, lit_96, pu_lt0, pu_ge0, pu_rd, Option.bind_some]
  rw [if_neg (by omega), if_neg (by omega)]
theorem C_sc {u : Ug} {s : Nat} (h : s < 96) : fC_Scripts_c (nI s) u = some (u 14 s, u) := by
  unfold fC_Scripts_c
  simp (disch := omega) only [lit_0, lit_96, pu_lt0, pu_ge0, pu_rd, Option.bind_some]
  rw [if_neg (by omega), if_neg (by omega)]
