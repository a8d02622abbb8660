/-! PURE: count alike. -/
def bcA (f : Nat → Int32) : Nat → Nat → Int32 → Int32
  | 0, _, a => a
  | d + 1, k, a => bcA f d (k + 1) (if f k = -1 then a else a + 1)
theorem C_bc {u : Ug} : ∀ (d n k : Nat) (a : Int32), k + d = 4 → d < n → kC_Faces_boundCount n a (nI k) u = some (bcA (u 6) d k a, u) := by
  intro d
  induction d with
  | zero =>
    intro n k a hk hn
    obtain ⟨n, rfl⟩ : ∃ n', n = n' + 1 := ⟨n - 1, by omega⟩
    show sC_Faces_boundCount_4 _ _ _ _ = _
    unfold sC_Faces_boundCount_4
    rw [if_pos (by rw [lit_4]; exact nI_le (by omega) (by omega))]
    rfl
  | succ d ih =>
    intro n k a hk hn
    obtain ⟨n, rfl⟩ : ∃ n', n = n' + 1 := ⟨n - 1, by omega⟩
    show sC_Faces_boundCount_4 (kC_Faces_boundCount n) _ _ _ = _
    unfold sC_Faces_boundCount_4
    rw [if_neg (by rw [lit_4]; exact nI_ge (by omega) (by omega)), pu_rd (show k < 4 by omega) (by omega)]
    simp only [Option.bind_some]
    rw [nI_1, ih n (k + 1) _ (by omega) (by omega), ih n (k + 1) _ (by omega) (by omega)]
    by_cases q : u 6 k = -1
    · rw [if_pos q]; show _ = some (bcA (u 6) d (k + 1) (if u 6 k = -1 then a else a + 1), u); rw [if_pos q]
    · rw [if_neg q]; show _ = some (bcA (u 6) d (k + 1) (if u 6 k = -1 then a else a + 1), u); rw [if_neg q]
theorem M_bc {u : Ug} {x : Int32} (hb : ∀ f, f < 4 → u 7 f = -1 ∨ ∃ m : Nat, m < 12 ∧ u 7 f = nI m) : ∀ (d n k : Nat) (a : Int32), k + d = 4 → d < n → kM_count n x a (nI k) u = sM_count_27 (kM_count 0) x (bcA (u 7) d k a) (nI 4) u := by
  intro d
  induction d with
  | zero =>
    intro n k a hk hn
    obtain ⟨n, rfl⟩ : ∃ n', n = n' + 1 := ⟨n - 1, by omega⟩
    obtain rfl : k = 4 := by omega
    show sM_count_27 (kM_count n) x a (nI 4) u = sM_count_27 (kM_count 0) x a (nI 4) u
    unfold sM_count_27
    rw [if_pos (show (4 : Int32) ≤ nI 4 by decide), if_pos (show (4 : Int32) ≤ nI 4 by decide)]
  | succ d ih =>
    intro n k a hk hn
    obtain ⟨n, rfl⟩ : ∃ n', n = n' + 1 := ⟨n - 1, by omega⟩
    have hs : kM_count (n + 1) x a (nI k) u = kM_count n x (if u 7 k = -1 then a else a + 1) (nI (k + 1)) u := by
      show sM_count_27 (kM_count n) _ _ _ _ = _
      unfold sM_count_27
      rw [if_neg (show ¬ (4 : Int32) ≤ nI k by rw [lit_4]; exact nI_ge (by omega) (by omega)), pu_rd (show k < 4 by omega) (by omega)]
      simp only [Option.bind_some]
      rw [nI_1]
      rcases hb k (by omega) with q | ⟨m, hm, q⟩
      · rw [if_neg (show ¬ (0 : Int32) ≤ u 7 k by rw [q]; decide), if_pos q, Int32.add_zero]
      · rw [if_pos (show (0 : Int32) ≤ u 7 k by rw [q, lit_0]; exact nI_le (Nat.zero_le _) (by omega)), if_neg (show ¬ u 7 k = -1 by rw [q, pu_ne_m1 (by omega)]; exact id)]
    rw [hs, ih n (k + 1) _ (by omega) (by omega)]
    rfl
theorem Alike_count (x : Int32) : Alike (fC_count x) (fM_count x) := by
  intro uC uM h
  obtain ⟨⟨k, hk4, hkC, hkM⟩, -, -, -, hb, hb2⟩ := id h.2.1
  obtain ⟨-, ⟨ia, hia, i1, i2⟩, -⟩ := id h.2.2.1
  have hcase : (x < nI 4 ∨ nI (9 + 1) ≤ x) ∨ ∃ t : Nat, t < 6 ∧ x = nI (4 + t) := by
    rcases arg_ix x 10 (by decide) with q | ⟨j, hj, e⟩
    · rcases q with q | q
      · exact Or.inl (Or.inl (Int32.lt_trans q (by decide)))
      · exact Or.inl (Or.inr q)
    · by_cases j4 : j < 4
      · exact Or.inl (Or.inl (by rw [e]; exact nI_lt j4 (by omega)))
      · exact Or.inr ⟨j - 4, by omega, by rw [e]; congr 1; omega⟩
  unfold fM_count
  rcases hcase with hno | ⟨t, ht, rfl⟩
  · rw [M_in_no (lo := 4) (hi := 9) (a := 4) (b := 9) rfl rfl (by decide) (by decide) hno]
    simp only [Option.bind_some]
    rw [if_pos trivial, lit_0, M_bc (fun f hf => by rw [← hb]; exact hb2 f hf) 4 4096 0 _ (by decide) (by decide)]
    unfold sM_count_27 fC_count fC_State_eventCount fC_Code_contractCount fC_Machine_inAll fC_Faces_boundCount
    rw [if_pos (show (4 : Int32) ≤ nI 4 by decide), C_height, lit_0, lit_28, lit_29, pu_rd (by decide) (by decide), pu_rd (by decide) (by decide), pu_rd (by decide) (by decide), C_bc 4 4096 0 _ (by decide) (by decide)]
    simp only [Option.bind_some]
    rw [h.1.1, hkC, hkM, i1, i2, hb]
    by_cases x0 : x = nI 0
    · rw [if_pos x0, if_pos x0]; exact ⟨_, _, _, rfl, rfl, h⟩
    rw [if_neg x0, if_neg x0]
    by_cases x1 : x = 1
    · rw [if_pos x1, if_pos x1]; exact ⟨_, _, _, rfl, rfl, h⟩
    rw [if_neg x1, if_neg x1]
    by_cases x2 : x = 2
    · rw [if_pos x2, if_pos x2]; exact ⟨_, _, _, rfl, rfl, h⟩
    rw [if_neg x2, if_neg x2]
    by_cases x3 : x = 3
    · rw [if_pos x3, if_pos x3, nI_l (by omega), lN_i]; exact ⟨_, _, _, rfl, rfl, h⟩
    rw [if_neg x3, if_neg x3]
    by_cases x10 : x = 10
    · rw [if_pos x10, if_pos x10]; exact ⟨_, _, _, rfl, rfl, h⟩
    rw [if_neg x10, if_neg x10]
    rcases arg_ix (x - 4) 6 (by decide) with q | ⟨j, hj, e⟩
    · rw [C_isTest_no q]
      exact ⟨_, _, _, rfl, rfl, h⟩
    · exfalso
      have e2 : x = nI (j + 4) := by rw [← nI_add, ← e, ← lit_4, Int32.sub_add_cancel]
      rw [e2] at hno
      rcases hno with q | q
      · exact nI_nlt (by omega) (by omega) q
      · exact nI_ge (by omega) (by omega) q
  · have e4 : nI (4 + t) - (4 : Int32) = nI t := by rw [lit_4, pk_sub (by omega)]; congr 1; omega
    obtain ⟨n, hn, e1, e2, -⟩ := h.2.2.2.2.1 t ht
    have ne : ∀ q : Nat, q < 2 ^ 31 → q ≠ 4 + t → ¬ nI (4 + t) = nI q := fun q hq hne e => hne ((nI_eq (by omega) hq).mp e).symm
    rw [M_in_ok (lo := 4) (hi := 9) (a := 4) (b := 9) rfl rfl (by decide) (by omega) (by omega)]
    simp only [Option.bind_some]
    rw [if_neg (show ¬ ((1 : Int32) = 0) by decide), e4, pu_rd ht (by omega)]
    unfold fC_count fC_Scripts_size
    rw [e4, if_neg (show ¬ nI (4 + t) = 0 from ne 0 (by decide) (by omega)), if_neg (show ¬ nI (4 + t) = 1 from ne 1 (by decide) (by omega)), if_neg (show ¬ nI (4 + t) = 2 from ne 2 (by decide) (by omega)), if_neg (show ¬ nI (4 + t) = 3 from ne 3 (by decide) (by omega)), if_neg (show ¬ nI (4 + t) = 10 from ne 10 (by decide) (by omega)), C_isTest_ok ht]
    simp only [Option.bind_some]
    rw [if_neg (show ¬ ((1 : Int32) = 0) by decide), if_neg (show ¬ nI t < 0 by rw [lit_0]; exact nI_nlt (Nat.zero_le _) (by omega)), if_neg (show ¬ (6 : Int32) ≤ nI t by rw [lit_6]; exact nI_ge ht (by omega)), pu_rd ht (by omega), e1, e2]
    exact ⟨_, _, _, rfl, rfl, h⟩
