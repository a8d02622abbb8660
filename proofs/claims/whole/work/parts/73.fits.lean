/-! PURE: what fits a STEP is alike. -/
def FitsOk (x3 x4 : Int32) (u v : Ug) : Prop := (∃ k : Nat, k ≤ 11 ∧ x3 = nI k) ∧ fC_Code_fits x3 x4 u = some (1, u) ∧ fM_in x3.toInt64 (0 : Int64) (11 : Int64) v = some (1, v) ∧ fM_fits x3 x4 v = some (1, v) ∧ WfS x3 x4 ∧ (x3 = 7 → ∃ j : Nat, j ≤ 7 ∧ x4 = nI j)
def FitsNo (x3 x4 : Int32) (u v : Ug) : Prop := fC_Code_fits x3 x4 u = some (0, u) ∧ (fM_in x3.toInt64 (0 : Int64) (11 : Int64) v = some (0, v) ∨ (fM_in x3.toInt64 (0 : Int64) (11 : Int64) v = some (1, v) ∧ fM_fits x3 x4 v = some (0, v)))
theorem C_rng {x : Int32} {u : Ug} {a b : Nat} (ha : a < 2 ^ 30) (hb : b < 2 ^ 30) (h : x < nI a ∨ nI (b + 1) ≤ x) : (if x < nI a then some ((0 : Int32), u) else if nI b < x then some ((0 : Int32), u) else some ((1 : Int32), u)) = some (0, u) := by
  by_cases p : x < nI a
  · rw [if_pos p]
  rw [if_neg p, if_pos]
  have h1 := Int32.le_iff_toInt_le.mp (h.resolve_left p)
  rw [nI_toInt (by omega)] at h1
  rw [Int32.lt_iff_toInt_lt, nI_toInt (by omega)]
  omega
theorem C_rng1 {u : Ug} {a b j : Nat} (hb : b < 2 ^ 30) (h1 : a ≤ j) (h2 : j ≤ b) : (if nI j < nI a then some ((0 : Int32), u) else if nI b < nI j then some ((0 : Int32), u) else some ((1 : Int32), u)) = some (1, u) := by
  rw [if_neg (nI_nlt h1 (by omega)), if_neg (nI_nlt h2 (by omega))]
theorem arg_ix2 (x : Int32) (a n : Nat) (hn : n < 2 ^ 31) (ha : a ≤ n) : (x < nI a ∨ nI n ≤ x) ∨ ∃ j : Nat, a ≤ j ∧ j < n ∧ x = nI j := by
  rcases pk_ix x hn with h | h | ⟨j, hj, rfl⟩
  · refine Or.inl (Or.inl ?_)
    rw [Int32.lt_iff_toInt_lt, nI_toInt (by omega)]
    have := Int32.lt_iff_toInt_lt.mp h
    have e : (0 : Int32).toInt = 0 := by decide
    omega
  · exact Or.inl (Or.inr h)
  · by_cases q : j < a
    · exact Or.inl (Or.inl (nI_lt q (by omega)))
    · exact Or.inr ⟨j, by omega, hj, rfl⟩
theorem fits_0 (x4 : Int32) (u v : Ug) : FitsOk (nI 0) x4 u v ∨ FitsNo (nI 0) x4 u v := by
  have hin : fM_in (nI 0).toInt64 (0 : Int64) (11 : Int64) v = some (1, v) := M_in_ok (a := 0) (b := 11) rfl rfl (by decide) (Nat.zero_le _) (by decide)
  rcases arg_ix x4 4 (by decide) with hx | ⟨j, hj, rfl⟩
  · refine Or.inr ⟨?_, Or.inr ⟨hin, ?_⟩⟩
    · unfold fC_Code_fits
      rw [if_pos (show nI 0 = (0 : Int32) from rfl), C_isCell_no hx]
      rfl
    · unfold fM_fits
      rw [if_pos (show nI 0 = (0 : Int32) from rfl), M_in_no (lo := 0) (hi := 3) (a := 0) (b := 3) rfl rfl (by decide) (by decide) hx]
      rfl
  · refine Or.inl ⟨⟨0, by decide, rfl⟩, ?_, hin, ?_, ⟨(fun _ => ⟨j, by omega, rfl⟩), (fun q => absurd (show nI 0 = (5 : Int32) from q) (by decide)), (fun q => by rcases q with q | q | q <;> exact absurd q (by decide)), (fun q => absurd (show nI 0 = (4 : Int32) from q) (by decide))⟩, (fun q => absurd (show nI 0 = (7 : Int32) from q) (by decide))⟩
    · unfold fC_Code_fits
      rw [if_pos (show nI 0 = (0 : Int32) from rfl), C_isCell_ok hj]
      rfl
    · unfold fM_fits
      rw [if_pos (show nI 0 = (0 : Int32) from rfl), M_in_ok (lo := 0) (hi := 3) (a := 0) (b := 3) rfl rfl (by decide) (Nat.zero_le _) (by omega)]
      rfl
theorem fits_1 (x4 : Int32) (u v : Ug) : FitsOk (nI 1) x4 u v ∨ FitsNo (nI 1) x4 u v := by
  have hin : fM_in (nI 1).toInt64 (0 : Int64) (11 : Int64) v = some (1, v) := M_in_ok (a := 0) (b := 11) rfl rfl (by decide) (Nat.zero_le _) (by decide)
  rcases arg_ix x4 4 (by decide) with hx | ⟨j, hj, rfl⟩
  · refine Or.inr ⟨?_, Or.inr ⟨hin, ?_⟩⟩
    · unfold fC_Code_fits
      rw [if_neg (show ¬ nI 1 = (0 : Int32) by decide), if_pos (show nI 1 = (1 : Int32) from rfl), C_isCell_no hx]
      rfl
    · unfold fM_fits
      rw [if_neg (show ¬ nI 1 = (0 : Int32) by decide), if_pos (show nI 1 = (1 : Int32) from rfl), M_in_no (lo := 0) (hi := 3) (a := 0) (b := 3) rfl rfl (by decide) (by decide) hx]
      rfl
  · refine Or.inl ⟨⟨1, by decide, rfl⟩, ?_, hin, ?_, ⟨(fun _ => ⟨j, by omega, rfl⟩), (fun q => absurd (show nI 1 = (5 : Int32) from q) (by decide)), (fun q => by rcases q with q | q | q <;> exact absurd q (by decide)), (fun q => absurd (show nI 1 = (4 : Int32) from q) (by decide))⟩, (fun q => absurd (show nI 1 = (7 : Int32) from q) (by decide))⟩
    · unfold fC_Code_fits
      rw [if_neg (show ¬ nI 1 = (0 : Int32) by decide), if_pos (show nI 1 = (1 : Int32) from rfl), C_isCell_ok hj]
      rfl
    · unfold fM_fits
      rw [if_neg (show ¬ nI 1 = (0 : Int32) by decide), if_pos (show nI 1 = (1 : Int32) from rfl), M_in_ok (lo := 0) (hi := 3) (a := 0) (b := 3) rfl rfl (by decide) (Nat.zero_le _) (by omega)]
      rfl
theorem fits_2 (x4 : Int32) (u v : Ug) : FitsOk (nI 2) x4 u v ∨ FitsNo (nI 2) x4 u v := by
  have hin : fM_in (nI 2).toInt64 (0 : Int64) (11 : Int64) v = some (1, v) := M_in_ok (a := 0) (b := 11) rfl rfl (by decide) (Nat.zero_le _) (by decide)
  refine Or.inl ⟨⟨2, by decide, rfl⟩, ?_, hin, ?_, ⟨(fun q => by rcases q with q | q | q | q | q <;> exact absurd q (by decide)), (fun q => absurd (show nI 2 = (5 : Int32) from q) (by decide)), (fun q => by rcases q with q | q | q <;> exact absurd q (by decide)), (fun q => absurd (show nI 2 = (4 : Int32) from q) (by decide))⟩, (fun q => absurd (show nI 2 = (7 : Int32) from q) (by decide))⟩
  · unfold fC_Code_fits
    rw [if_neg (show ¬ nI 2 = (0 : Int32) by decide), if_neg (show ¬ nI 2 = (1 : Int32) by decide), if_pos (show nI 2 = (2 : Int32) from rfl)]
  · unfold fM_fits
    rw [if_neg (show ¬ nI 2 = (0 : Int32) by decide), if_neg (show ¬ nI 2 = (1 : Int32) by decide), if_neg (show ¬ nI 2 = (3 : Int32) by decide), if_neg (show ¬ nI 2 = (4 : Int32) by decide), if_neg (show ¬ nI 2 = (5 : Int32) by decide), if_neg (show ¬ nI 2 = (7 : Int32) by decide), if_neg (show ¬ nI 2 = (8 : Int32) by decide), if_neg (show ¬ nI 2 = (9 : Int32) by decide), if_neg (show ¬ nI 2 = (11 : Int32) by decide)]
theorem fits_3 (x4 : Int32) (u v : Ug) : FitsOk (nI 3) x4 u v ∨ FitsNo (nI 3) x4 u v := by
  have hin : fM_in (nI 3).toInt64 (0 : Int64) (11 : Int64) v = some (1, v) := M_in_ok (a := 0) (b := 11) rfl rfl (by decide) (Nat.zero_le _) (by decide)
  rcases arg_ix x4 4 (by decide) with hx | ⟨j, hj, rfl⟩
  · refine Or.inr ⟨?_, Or.inr ⟨hin, ?_⟩⟩
    · unfold fC_Code_fits
      rw [if_neg (show ¬ nI 3 = (0 : Int32) by decide), if_neg (show ¬ nI 3 = (1 : Int32) by decide), if_neg (show ¬ nI 3 = (2 : Int32) by decide), if_pos (show nI 3 = (3 : Int32) from rfl), C_isCell_no hx]
      rfl
    · unfold fM_fits
      rw [if_neg (show ¬ nI 3 = (0 : Int32) by decide), if_neg (show ¬ nI 3 = (1 : Int32) by decide), if_pos (show nI 3 = (3 : Int32) from rfl), M_in_no (lo := 0) (hi := 3) (a := 0) (b := 3) rfl rfl (by decide) (by decide) hx]
      rfl
  · refine Or.inl ⟨⟨3, by decide, rfl⟩, ?_, hin, ?_, ⟨(fun _ => ⟨j, by omega, rfl⟩), (fun q => absurd (show nI 3 = (5 : Int32) from q) (by decide)), (fun q => by rcases q with q | q | q <;> exact absurd q (by decide)), (fun q => absurd (show nI 3 = (4 : Int32) from q) (by decide))⟩, (fun q => absurd (show nI 3 = (7 : Int32) from q) (by decide))⟩
    · unfold fC_Code_fits
      rw [if_neg (show ¬ nI 3 = (0 : Int32) by decide), if_neg (show ¬ nI 3 = (1 : Int32) by decide), if_neg (show ¬ nI 3 = (2 : Int32) by decide), if_pos (show nI 3 = (3 : Int32) from rfl), C_isCell_ok hj]
      rfl
    · unfold fM_fits
      rw [if_neg (show ¬ nI 3 = (0 : Int32) by decide), if_neg (show ¬ nI 3 = (1 : Int32) by decide), if_pos (show nI 3 = (3 : Int32) from rfl), M_in_ok (lo := 0) (hi := 3) (a := 0) (b := 3) rfl rfl (by decide) (Nat.zero_le _) (by omega)]
      rfl
theorem fits_4 (x4 : Int32) (u v : Ug) : FitsOk (nI 4) x4 u v ∨ FitsNo (nI 4) x4 u v := by
  have hin : fM_in (nI 4).toInt64 (0 : Int64) (11 : Int64) v = some (1, v) := M_in_ok (a := 0) (b := 11) rfl rfl (by decide) (Nat.zero_le _) (by decide)
  rcases arg_ix2 x4 0 10 (by decide) (by decide) with hx | ⟨j, hj1, hj2, rfl⟩
  · refine Or.inr ⟨?_, Or.inr ⟨hin, ?_⟩⟩
    · unfold fC_Code_fits
      rw [if_neg (show ¬ nI 4 = (0 : Int32) by decide), if_neg (show ¬ nI 4 = (1 : Int32) by decide), if_neg (show ¬ nI 4 = (2 : Int32) by decide), if_neg (show ¬ nI 4 = (3 : Int32) by decide), if_pos (show nI 4 = (4 : Int32) from rfl)]
      exact C_rng (a := 0) (b := 9) (by decide) (by decide) hx
    · unfold fM_fits
      rw [if_neg (show ¬ nI 4 = (0 : Int32) by decide), if_neg (show ¬ nI 4 = (1 : Int32) by decide), if_neg (show ¬ nI 4 = (3 : Int32) by decide), if_pos (show nI 4 = (4 : Int32) from rfl), M_in_no (lo := 0) (hi := 9) (a := 0) (b := 9) rfl rfl (by decide) (by decide) hx]
      rfl
  · refine Or.inl ⟨⟨4, by decide, rfl⟩, ?_, hin, ?_, ⟨(fun q => by rcases q with q | q | q | q | q <;> exact absurd q (by decide)), (fun q => absurd (show nI 4 = (5 : Int32) from q) (by decide)), (fun q => by rcases q with q | q | q <;> exact absurd q (by decide)), (fun _ => ⟨j, by omega, rfl⟩)⟩, (fun q => absurd (show nI 4 = (7 : Int32) from q) (by decide))⟩
    · unfold fC_Code_fits
      rw [if_neg (show ¬ nI 4 = (0 : Int32) by decide), if_neg (show ¬ nI 4 = (1 : Int32) by decide), if_neg (show ¬ nI 4 = (2 : Int32) by decide), if_neg (show ¬ nI 4 = (3 : Int32) by decide), if_pos (show nI 4 = (4 : Int32) from rfl)]
      exact C_rng1 (a := 0) (b := 9) (by decide) hj1 (by omega)
    · unfold fM_fits
      rw [if_neg (show ¬ nI 4 = (0 : Int32) by decide), if_neg (show ¬ nI 4 = (1 : Int32) by decide), if_neg (show ¬ nI 4 = (3 : Int32) by decide), if_pos (show nI 4 = (4 : Int32) from rfl), M_in_ok (lo := 0) (hi := 9) (a := 0) (b := 9) rfl rfl (by decide) hj1 (by omega)]
      rfl
theorem fits_5 (x4 : Int32) (u v : Ug) : FitsOk (nI 5) x4 u v ∨ FitsNo (nI 5) x4 u v := by
  have hin : fM_in (nI 5).toInt64 (0 : Int64) (11 : Int64) v = some (1, v) := M_in_ok (a := 0) (b := 11) rfl rfl (by decide) (Nat.zero_le _) (by decide)
  rcases arg_ix x4 12 (by decide) with hx | ⟨j, hj, rfl⟩
  · refine Or.inr ⟨?_, Or.inr ⟨hin, ?_⟩⟩
    · unfold fC_Code_fits
      rw [if_neg (show ¬ nI 5 = (0 : Int32) by decide), if_neg (show ¬ nI 5 = (1 : Int32) by decide), if_neg (show ¬ nI 5 = (2 : Int32) by decide), if_neg (show ¬ nI 5 = (3 : Int32) by decide), if_neg (show ¬ nI 5 = (4 : Int32) by decide), if_pos (show nI 5 = (5 : Int32) from rfl), C_isAccount_no hx]
      rfl
    · unfold fM_fits
      rw [if_neg (show ¬ nI 5 = (0 : Int32) by decide), if_neg (show ¬ nI 5 = (1 : Int32) by decide), if_neg (show ¬ nI 5 = (3 : Int32) by decide), if_neg (show ¬ nI 5 = (4 : Int32) by decide), if_pos (show nI 5 = (5 : Int32) from rfl), M_isAccount_no hx]
      rfl
  · refine Or.inl ⟨⟨5, by decide, rfl⟩, ?_, hin, ?_, ⟨(fun q => by rcases q with q | q | q | q | q <;> exact absurd q (by decide)), (fun _ => ⟨j, by omega, rfl⟩), (fun q => by rcases q with q | q | q <;> exact absurd q (by decide)), (fun q => absurd (show nI 5 = (4 : Int32) from q) (by decide))⟩, (fun q => absurd (show nI 5 = (7 : Int32) from q) (by decide))⟩
    · unfold fC_Code_fits
      rw [if_neg (show ¬ nI 5 = (0 : Int32) by decide), if_neg (show ¬ nI 5 = (1 : Int32) by decide), if_neg (show ¬ nI 5 = (2 : Int32) by decide), if_neg (show ¬ nI 5 = (3 : Int32) by decide), if_neg (show ¬ nI 5 = (4 : Int32) by decide), if_pos (show nI 5 = (5 : Int32) from rfl), C_isAccount_ok hj]
      rfl
    · unfold fM_fits
      rw [if_neg (show ¬ nI 5 = (0 : Int32) by decide), if_neg (show ¬ nI 5 = (1 : Int32) by decide), if_neg (show ¬ nI 5 = (3 : Int32) by decide), if_neg (show ¬ nI 5 = (4 : Int32) by decide), if_pos (show nI 5 = (5 : Int32) from rfl), M_isAccount_ok hj]
      rfl
theorem fits_6 (x4 : Int32) (u v : Ug) : FitsOk (nI 6) x4 u v ∨ FitsNo (nI 6) x4 u v := by
  have hin : fM_in (nI 6).toInt64 (0 : Int64) (11 : Int64) v = some (1, v) := M_in_ok (a := 0) (b := 11) rfl rfl (by decide) (Nat.zero_le _) (by decide)
  refine Or.inl ⟨⟨6, by decide, rfl⟩, ?_, hin, ?_, ⟨(fun q => by rcases q with q | q | q | q | q <;> exact absurd q (by decide)), (fun q => absurd (show nI 6 = (5 : Int32) from q) (by decide)), (fun q => by rcases q with q | q | q <;> exact absurd q (by decide)), (fun q => absurd (show nI 6 = (4 : Int32) from q) (by decide))⟩, (fun q => absurd (show nI 6 = (7 : Int32) from q) (by decide))⟩
  · unfold fC_Code_fits
    rw [if_neg (show ¬ nI 6 = (0 : Int32) by decide), if_neg (show ¬ nI 6 = (1 : Int32) by decide), if_neg (show ¬ nI 6 = (2 : Int32) by decide), if_neg (show ¬ nI 6 = (3 : Int32) by decide), if_neg (show ¬ nI 6 = (4 : Int32) by decide), if_neg (show ¬ nI 6 = (5 : Int32) by decide), if_pos (show nI 6 = (6 : Int32) from rfl)]
  · unfold fM_fits
    rw [if_neg (show ¬ nI 6 = (0 : Int32) by decide), if_neg (show ¬ nI 6 = (1 : Int32) by decide), if_neg (show ¬ nI 6 = (3 : Int32) by decide), if_neg (show ¬ nI 6 = (4 : Int32) by decide), if_neg (show ¬ nI 6 = (5 : Int32) by decide), if_neg (show ¬ nI 6 = (7 : Int32) by decide), if_neg (show ¬ nI 6 = (8 : Int32) by decide), if_neg (show ¬ nI 6 = (9 : Int32) by decide), if_neg (show ¬ nI 6 = (11 : Int32) by decide)]
theorem fits_7 (x4 : Int32) (u v : Ug) : FitsOk (nI 7) x4 u v ∨ FitsNo (nI 7) x4 u v := by
  have hin : fM_in (nI 7).toInt64 (0 : Int64) (11 : Int64) v = some (1, v) := M_in_ok (a := 0) (b := 11) rfl rfl (by decide) (Nat.zero_le _) (by decide)
  rcases arg_ix2 x4 1 8 (by decide) (by decide) with hx | ⟨j, hj1, hj2, rfl⟩
  · refine Or.inr ⟨?_, Or.inr ⟨hin, ?_⟩⟩
    · unfold fC_Code_fits
      rw [if_neg (show ¬ nI 7 = (0 : Int32) by decide), if_neg (show ¬ nI 7 = (1 : Int32) by decide), if_neg (show ¬ nI 7 = (2 : Int32) by decide), if_neg (show ¬ nI 7 = (3 : Int32) by decide), if_neg (show ¬ nI 7 = (4 : Int32) by decide), if_neg (show ¬ nI 7 = (5 : Int32) by decide), if_neg (show ¬ nI 7 = (6 : Int32) by decide), if_pos (show nI 7 = (7 : Int32) from rfl)]
      exact C_rng (a := 1) (b := 7) (by decide) (by decide) hx
    · unfold fM_fits
      rw [if_neg (show ¬ nI 7 = (0 : Int32) by decide), if_neg (show ¬ nI 7 = (1 : Int32) by decide), if_neg (show ¬ nI 7 = (3 : Int32) by decide), if_neg (show ¬ nI 7 = (4 : Int32) by decide), if_neg (show ¬ nI 7 = (5 : Int32) by decide), if_pos (show nI 7 = (7 : Int32) from rfl), M_in_no (lo := 1) (hi := 7) (a := 1) (b := 7) rfl rfl (by decide) (by decide) hx]
      rfl
  · refine Or.inl ⟨⟨7, by decide, rfl⟩, ?_, hin, ?_, ⟨(fun q => by rcases q with q | q | q | q | q <;> exact absurd q (by decide)), (fun q => absurd (show nI 7 = (5 : Int32) from q) (by decide)), (fun _ => ⟨j, by omega, rfl⟩), (fun q => absurd (show nI 7 = (4 : Int32) from q) (by decide))⟩, (fun _ => ⟨j, by omega, rfl⟩)⟩
    · unfold fC_Code_fits
      rw [if_neg (show ¬ nI 7 = (0 : Int32) by decide), if_neg (show ¬ nI 7 = (1 : Int32) by decide), if_neg (show ¬ nI 7 = (2 : Int32) by decide), if_neg (show ¬ nI 7 = (3 : Int32) by decide), if_neg (show ¬ nI 7 = (4 : Int32) by decide), if_neg (show ¬ nI 7 = (5 : Int32) by decide), if_neg (show ¬ nI 7 = (6 : Int32) by decide), if_pos (show nI 7 = (7 : Int32) from rfl)]
      exact C_rng1 (a := 1) (b := 7) (by decide) hj1 (by omega)
    · unfold fM_fits
      rw [if_neg (show ¬ nI 7 = (0 : Int32) by decide), if_neg (show ¬ nI 7 = (1 : Int32) by decide), if_neg (show ¬ nI 7 = (3 : Int32) by decide), if_neg (show ¬ nI 7 = (4 : Int32) by decide), if_neg (show ¬ nI 7 = (5 : Int32) by decide), if_pos (show nI 7 = (7 : Int32) from rfl), M_in_ok (lo := 1) (hi := 7) (a := 1) (b := 7) rfl rfl (by decide) hj1 (by omega)]
      rfl
theorem fits_8 (x4 : Int32) (u v : Ug) : FitsOk (nI 8) x4 u v ∨ FitsNo (nI 8) x4 u v := by
  have hin : fM_in (nI 8).toInt64 (0 : Int64) (11 : Int64) v = some (1, v) := M_in_ok (a := 0) (b := 11) rfl rfl (by decide) (Nat.zero_le _) (by decide)
  rcases arg_ix x4 4 (by decide) with hx | ⟨j, hj, rfl⟩
  · refine Or.inr ⟨?_, Or.inr ⟨hin, ?_⟩⟩
    · unfold fC_Code_fits
      rw [if_neg (show ¬ nI 8 = (0 : Int32) by decide), if_neg (show ¬ nI 8 = (1 : Int32) by decide), if_neg (show ¬ nI 8 = (2 : Int32) by decide), if_neg (show ¬ nI 8 = (3 : Int32) by decide), if_neg (show ¬ nI 8 = (4 : Int32) by decide), if_neg (show ¬ nI 8 = (5 : Int32) by decide), if_neg (show ¬ nI 8 = (6 : Int32) by decide), if_neg (show ¬ nI 8 = (7 : Int32) by decide), if_pos (show nI 8 = (8 : Int32) from rfl), C_isFace_no hx]
      rfl
    · unfold fM_fits
      rw [if_neg (show ¬ nI 8 = (0 : Int32) by decide), if_neg (show ¬ nI 8 = (1 : Int32) by decide), if_neg (show ¬ nI 8 = (3 : Int32) by decide), if_neg (show ¬ nI 8 = (4 : Int32) by decide), if_neg (show ¬ nI 8 = (5 : Int32) by decide), if_neg (show ¬ nI 8 = (7 : Int32) by decide), if_pos (show nI 8 = (8 : Int32) from rfl), M_in_no (lo := 0) (hi := 3) (a := 0) (b := 3) rfl rfl (by decide) (by decide) hx]
      rfl
  · refine Or.inl ⟨⟨8, by decide, rfl⟩, ?_, hin, ?_, ⟨(fun _ => ⟨j, by omega, rfl⟩), (fun q => absurd (show nI 8 = (5 : Int32) from q) (by decide)), (fun q => by rcases q with q | q | q <;> exact absurd q (by decide)), (fun q => absurd (show nI 8 = (4 : Int32) from q) (by decide))⟩, (fun q => absurd (show nI 8 = (7 : Int32) from q) (by decide))⟩
    · unfold fC_Code_fits
      rw [if_neg (show ¬ nI 8 = (0 : Int32) by decide), if_neg (show ¬ nI 8 = (1 : Int32) by decide), if_neg (show ¬ nI 8 = (2 : Int32) by decide), if_neg (show ¬ nI 8 = (3 : Int32) by decide), if_neg (show ¬ nI 8 = (4 : Int32) by decide), if_neg (show ¬ nI 8 = (5 : Int32) by decide), if_neg (show ¬ nI 8 = (6 : Int32) by decide), if_neg (show ¬ nI 8 = (7 : Int32) by decide), if_pos (show nI 8 = (8 : Int32) from rfl), C_isFace_ok hj]
      rfl
    · unfold fM_fits
      rw [if_neg (show ¬ nI 8 = (0 : Int32) by decide), if_neg (show ¬ nI 8 = (1 : Int32) by decide), if_neg (show ¬ nI 8 = (3 : Int32) by decide), if_neg (show ¬ nI 8 = (4 : Int32) by decide), if_neg (show ¬ nI 8 = (5 : Int32) by decide), if_neg (show ¬ nI 8 = (7 : Int32) by decide), if_pos (show nI 8 = (8 : Int32) from rfl), M_in_ok (lo := 0) (hi := 3) (a := 0) (b := 3) rfl rfl (by decide) (Nat.zero_le _) (by omega)]
      rfl
theorem fits_9 (x4 : Int32) (u v : Ug) : FitsOk (nI 9) x4 u v ∨ FitsNo (nI 9) x4 u v := by
  have hin : fM_in (nI 9).toInt64 (0 : Int64) (11 : Int64) v = some (1, v) := M_in_ok (a := 0) (b := 11) rfl rfl (by decide) (Nat.zero_le _) (by decide)
  rcases arg_ix2 x4 1 8 (by decide) (by decide) with hx | ⟨j, hj1, hj2, rfl⟩
  · refine Or.inr ⟨?_, Or.inr ⟨hin, ?_⟩⟩
    · unfold fC_Code_fits
      rw [if_neg (show ¬ nI 9 = (0 : Int32) by decide), if_neg (show ¬ nI 9 = (1 : Int32) by decide), if_neg (show ¬ nI 9 = (2 : Int32) by decide), if_neg (show ¬ nI 9 = (3 : Int32) by decide), if_neg (show ¬ nI 9 = (4 : Int32) by decide), if_neg (show ¬ nI 9 = (5 : Int32) by decide), if_neg (show ¬ nI 9 = (6 : Int32) by decide), if_neg (show ¬ nI 9 = (7 : Int32) by decide), if_neg (show ¬ nI 9 = (8 : Int32) by decide), if_pos (show nI 9 = (9 : Int32) from rfl)]
      exact C_rng (a := 1) (b := 7) (by decide) (by decide) hx
    · unfold fM_fits
      rw [if_neg (show ¬ nI 9 = (0 : Int32) by decide), if_neg (show ¬ nI 9 = (1 : Int32) by decide), if_neg (show ¬ nI 9 = (3 : Int32) by decide), if_neg (show ¬ nI 9 = (4 : Int32) by decide), if_neg (show ¬ nI 9 = (5 : Int32) by decide), if_neg (show ¬ nI 9 = (7 : Int32) by decide), if_neg (show ¬ nI 9 = (8 : Int32) by decide), if_pos (show nI 9 = (9 : Int32) from rfl), M_in_no (lo := 1) (hi := 7) (a := 1) (b := 7) rfl rfl (by decide) (by decide) hx]
      rfl
  · refine Or.inl ⟨⟨9, by decide, rfl⟩, ?_, hin, ?_, ⟨(fun q => by rcases q with q | q | q | q | q <;> exact absurd q (by decide)), (fun q => absurd (show nI 9 = (5 : Int32) from q) (by decide)), (fun _ => ⟨j, by omega, rfl⟩), (fun q => absurd (show nI 9 = (4 : Int32) from q) (by decide))⟩, (fun q => absurd (show nI 9 = (7 : Int32) from q) (by decide))⟩
    · unfold fC_Code_fits
      rw [if_neg (show ¬ nI 9 = (0 : Int32) by decide), if_neg (show ¬ nI 9 = (1 : Int32) by decide), if_neg (show ¬ nI 9 = (2 : Int32) by decide), if_neg (show ¬ nI 9 = (3 : Int32) by decide), if_neg (show ¬ nI 9 = (4 : Int32) by decide), if_neg (show ¬ nI 9 = (5 : Int32) by decide), if_neg (show ¬ nI 9 = (6 : Int32) by decide), if_neg (show ¬ nI 9 = (7 : Int32) by decide), if_neg (show ¬ nI 9 = (8 : Int32) by decide), if_pos (show nI 9 = (9 : Int32) from rfl)]
      exact C_rng1 (a := 1) (b := 7) (by decide) hj1 (by omega)
    · unfold fM_fits
      rw [if_neg (show ¬ nI 9 = (0 : Int32) by decide), if_neg (show ¬ nI 9 = (1 : Int32) by decide), if_neg (show ¬ nI 9 = (3 : Int32) by decide), if_neg (show ¬ nI 9 = (4 : Int32) by decide), if_neg (show ¬ nI 9 = (5 : Int32) by decide), if_neg (show ¬ nI 9 = (7 : Int32) by decide), if_neg (show ¬ nI 9 = (8 : Int32) by decide), if_pos (show nI 9 = (9 : Int32) from rfl), M_in_ok (lo := 1) (hi := 7) (a := 1) (b := 7) rfl rfl (by decide) hj1 (by omega)]
      rfl
theorem fits_10 (x4 : Int32) (u v : Ug) : FitsOk (nI 10) x4 u v ∨ FitsNo (nI 10) x4 u v := by
  have hin : fM_in (nI 10).toInt64 (0 : Int64) (11 : Int64) v = some (1, v) := M_in_ok (a := 0) (b := 11) rfl rfl (by decide) (Nat.zero_le _) (by decide)
  refine Or.inl ⟨⟨10, by decide, rfl⟩, ?_, hin, ?_, ⟨(fun q => by rcases q with q | q | q | q | q <;> exact absurd q (by decide)), (fun q => absurd (show nI 10 = (5 : Int32) from q) (by decide)), (fun q => by rcases q with q | q | q <;> exact absurd q (by decide)), (fun q => absurd (show nI 10 = (4 : Int32) from q) (by decide))⟩, (fun q => absurd (show nI 10 = (7 : Int32) from q) (by decide))⟩
  · unfold fC_Code_fits
    rw [if_neg (show ¬ nI 10 = (0 : Int32) by decide), if_neg (show ¬ nI 10 = (1 : Int32) by decide), if_neg (show ¬ nI 10 = (2 : Int32) by decide), if_neg (show ¬ nI 10 = (3 : Int32) by decide), if_neg (show ¬ nI 10 = (4 : Int32) by decide), if_neg (show ¬ nI 10 = (5 : Int32) by decide), if_neg (show ¬ nI 10 = (6 : Int32) by decide), if_neg (show ¬ nI 10 = (7 : Int32) by decide), if_neg (show ¬ nI 10 = (8 : Int32) by decide), if_neg (show ¬ nI 10 = (9 : Int32) by decide), if_pos (show nI 10 = (10 : Int32) from rfl)]
  · unfold fM_fits
    rw [if_neg (show ¬ nI 10 = (0 : Int32) by decide), if_neg (show ¬ nI 10 = (1 : Int32) by decide), if_neg (show ¬ nI 10 = (3 : Int32) by decide), if_neg (show ¬ nI 10 = (4 : Int32) by decide), if_neg (show ¬ nI 10 = (5 : Int32) by decide), if_neg (show ¬ nI 10 = (7 : Int32) by decide), if_neg (show ¬ nI 10 = (8 : Int32) by decide), if_neg (show ¬ nI 10 = (9 : Int32) by decide), if_neg (show ¬ nI 10 = (11 : Int32) by decide)]
theorem fits_11 (x4 : Int32) (u v : Ug) : FitsOk (nI 11) x4 u v ∨ FitsNo (nI 11) x4 u v := by
  have hin : fM_in (nI 11).toInt64 (0 : Int64) (11 : Int64) v = some (1, v) := M_in_ok (a := 0) (b := 11) rfl rfl (by decide) (Nat.zero_le _) (by decide)
  rcases arg_ix x4 4 (by decide) with hx | ⟨j, hj, rfl⟩
  · refine Or.inr ⟨?_, Or.inr ⟨hin, ?_⟩⟩
    · unfold fC_Code_fits
      rw [if_neg (show ¬ nI 11 = (0 : Int32) by decide), if_neg (show ¬ nI 11 = (1 : Int32) by decide), if_neg (show ¬ nI 11 = (2 : Int32) by decide), if_neg (show ¬ nI 11 = (3 : Int32) by decide), if_neg (show ¬ nI 11 = (4 : Int32) by decide), if_neg (show ¬ nI 11 = (5 : Int32) by decide), if_neg (show ¬ nI 11 = (6 : Int32) by decide), if_neg (show ¬ nI 11 = (7 : Int32) by decide), if_neg (show ¬ nI 11 = (8 : Int32) by decide), if_neg (show ¬ nI 11 = (9 : Int32) by decide), if_neg (show ¬ nI 11 = (10 : Int32) by decide), if_pos (show nI 11 = (11 : Int32) from rfl), C_isCell_no hx]
      rfl
    · unfold fM_fits
      rw [if_neg (show ¬ nI 11 = (0 : Int32) by decide), if_neg (show ¬ nI 11 = (1 : Int32) by decide), if_neg (show ¬ nI 11 = (3 : Int32) by decide), if_neg (show ¬ nI 11 = (4 : Int32) by decide), if_neg (show ¬ nI 11 = (5 : Int32) by decide), if_neg (show ¬ nI 11 = (7 : Int32) by decide), if_neg (show ¬ nI 11 = (8 : Int32) by decide), if_neg (show ¬ nI 11 = (9 : Int32) by decide), if_pos (show nI 11 = (11 : Int32) from rfl), M_in_no (lo := 0) (hi := 3) (a := 0) (b := 3) rfl rfl (by decide) (by decide) hx]
      rfl
  · refine Or.inl ⟨⟨11, by decide, rfl⟩, ?_, hin, ?_, ⟨(fun _ => ⟨j, by omega, rfl⟩), (fun q => absurd (show nI 11 = (5 : Int32) from q) (by decide)), (fun q => by rcases q with q | q | q <;> exact absurd q (by decide)), (fun q => absurd (show nI 11 = (4 : Int32) from q) (by decide))⟩, (fun q => absurd (show nI 11 = (7 : Int32) from q) (by decide))⟩
    · unfold fC_Code_fits
      rw [if_neg (show ¬ nI 11 = (0 : Int32) by decide), if_neg (show ¬ nI 11 = (1 : Int32) by decide), if_neg (show ¬ nI 11 = (2 : Int32) by decide), if_neg (show ¬ nI 11 = (3 : Int32) by decide), if_neg (show ¬ nI 11 = (4 : Int32) by decide), if_neg (show ¬ nI 11 = (5 : Int32) by decide), if_neg (show ¬ nI 11 = (6 : Int32) by decide), if_neg (show ¬ nI 11 = (7 : Int32) by decide), if_neg (show ¬ nI 11 = (8 : Int32) by decide), if_neg (show ¬ nI 11 = (9 : Int32) by decide), if_neg (show ¬ nI 11 = (10 : Int32) by decide), if_pos (show nI 11 = (11 : Int32) from rfl), C_isCell_ok hj]
      rfl
    · unfold fM_fits
      rw [if_neg (show ¬ nI 11 = (0 : Int32) by decide), if_neg (show ¬ nI 11 = (1 : Int32) by decide), if_neg (show ¬ nI 11 = (3 : Int32) by decide), if_neg (show ¬ nI 11 = (4 : Int32) by decide), if_neg (show ¬ nI 11 = (5 : Int32) by decide), if_neg (show ¬ nI 11 = (7 : Int32) by decide), if_neg (show ¬ nI 11 = (8 : Int32) by decide), if_neg (show ¬ nI 11 = (9 : Int32) by decide), if_pos (show nI 11 = (11 : Int32) from rfl), M_in_ok (lo := 0) (hi := 3) (a := 0) (b := 3) rfl rfl (by decide) (Nat.zero_le _) (by omega)]
      rfl
theorem fits_both (x3 x4 : Int32) (u v : Ug) : FitsOk x3 x4 u v ∨ FitsNo x3 x4 u v := by
  rcases arg_ix x3 12 (by decide) with hx | ⟨k, hk, rfl⟩
  · refine Or.inr ⟨?_, Or.inl (M_in_no (a := 0) (b := 11) rfl rfl (by decide) (by decide) hx)⟩
    have nn : ∀ q : Nat, q < 12 → ¬ x3 = nI q := fun q hq e => by
      rcases hx with hz | hz
      · rw [e] at hz; exact nI_nlt (Nat.zero_le _) (by omega) (show nI q < nI 0 from hz)
      · rw [e] at hz; exact nI_ge hq (by omega) hz
    unfold fC_Code_fits
    rw [if_neg (show ¬ x3 = (0 : Int32) from nn 0 (by decide)), if_neg (show ¬ x3 = (1 : Int32) from nn 1 (by decide)), if_neg (show ¬ x3 = (2 : Int32) from nn 2 (by decide)), if_neg (show ¬ x3 = (3 : Int32) from nn 3 (by decide)), if_neg (show ¬ x3 = (4 : Int32) from nn 4 (by decide)), if_neg (show ¬ x3 = (5 : Int32) from nn 5 (by decide)), if_neg (show ¬ x3 = (6 : Int32) from nn 6 (by decide)), if_neg (show ¬ x3 = (7 : Int32) from nn 7 (by decide)), if_neg (show ¬ x3 = (8 : Int32) from nn 8 (by decide)), if_neg (show ¬ x3 = (9 : Int32) from nn 9 (by decide)), if_neg (show ¬ x3 = (10 : Int32) from nn 10 (by decide)), if_neg (show ¬ x3 = (11 : Int32) from nn 11 (by decide))]
  · rcases (show k = 0 ∨ k = 1 ∨ k = 2 ∨ k = 3 ∨ k = 4 ∨ k = 5 ∨ k = 6 ∨ k = 7 ∨ k = 8 ∨ k = 9 ∨ k = 10 ∨ k = 11 by omega) with rfl | rfl | rfl | rfl | rfl | rfl | rfl | rfl | rfl | rfl | rfl | rfl
    · exact fits_0 x4 u v
    · exact fits_1 x4 u v
    · exact fits_2 x4 u v
    · exact fits_3 x4 u v
    · exact fits_4 x4 u v
    · exact fits_5 x4 u v
    · exact fits_6 x4 u v
    · exact fits_7 x4 u v
    · exact fits_8 x4 u v
    · exact fits_9 x4 u v
    · exact fits_10 x4 u v
    · exact fits_11 x4 u v
