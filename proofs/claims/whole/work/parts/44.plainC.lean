/-! PURE: a plain STEP, in the class. -/
/-- a STEP's a is as told for its kind -/
def WfS (k a : Int32) : Prop := (k = 0 ∨ k = 1 ∨ k = 3 ∨ k = 11 ∨ k = 8 → ∃ j : Nat, j < 4 ∧ a = nI j) ∧ (k = 5 → ∃ j : Nat, j < 12 ∧ a = nI j) ∧ (k = 7 ∨ k = 9 ∨ k = 13 → ∃ j : Nat, j ≤ 8 ∧ a = nI j) ∧ (k = 4 → ∃ j : Nat, j ≤ 9 ∧ a = nI j)
theorem C_plain {u : Ug} {pl s e : Nat} {v : Int32} (h : pl < 12) (hs : s < 96) (wf : WfS (u 3 s) (u 4 s)) (he : u 0 29 = nI e) (he2 : e ≤ 40) (h0 : u 21 0 = 0) (h1 : u 22 0 = 0) : ∃ u1 : Ug, fC_Machine_plainStep (nI pl) (nI s) v u = some ((aPlain (u 3 s) (u 4 s) (u 5 s) pl v (u 0)).1, u1) ∧ u1 0 = (aPlain (u 3 s) (u 4 s) (u 5 s) pl v (u 0)).2.1 ∧ u1 21 0 = (aPlain (u 3 s) (u 4 s) (u 5 s) pl v (u 0)).2.2 ∧ u1 22 0 = (aPlain (u 3 s) (u 4 s) (u 5 s) pl v (u 0)).2.2 ∧ ∀ r, r ≠ 0 → r ≠ 21 → r ≠ 22 → u1 r = u r := by
  unfold fC_Machine_plainStep aPlain
  rw [C_a hs]
  simp only [Option.bind_some]
  rw [C_b hs]
  simp only [Option.bind_some]
  rw [C_kind hs]
  simp only [Option.bind_some]
  have cl : ∀ j : Nat, j < 4 → aCell pl (nI j) = 12 + (4 * (pl / 3) + j) := fun j hj => by unfold aCell; rw [nI_clamp (by omega)]
  by_cases k0 : u 3 s = 0
  · rw [if_pos k0, if_pos k0]
    obtain ⟨j, hj, ea⟩ := wf.1 (Or.inl k0)
    rw [ea, C_putCell h hj, cl j hj]
    exact ⟨_, rfl, by simp [wr], by simp [wr, h0], by simp [wr, h1], fun r hr _ _ => by simp [wr, hr]⟩
  rw [if_neg k0, if_neg k0]
  by_cases k1 : u 3 s = 1
  · rw [if_pos k1, if_pos k1]
    obtain ⟨j, hj, ea⟩ := wf.1 (Or.inr (Or.inl k1))
    rw [ea, C_cellOf h hj, cl j hj]
    exact ⟨_, rfl, rfl, h0, h1, fun _ _ _ _ => rfl⟩
  rw [if_neg k1, if_neg k1]
  by_cases k2 : u 3 s = 2
  · rw [if_pos k2, if_pos k2]
    exact ⟨_, rfl, rfl, h0, h1, fun _ _ _ _ => rfl⟩
  rw [if_neg k2, if_neg k2]
  by_cases k3 : u 3 s = 3
  · rw [if_pos k3, if_pos k3]
    obtain ⟨j, hj, ea⟩ := wf.1 (Or.inr (Or.inr (Or.inl k3)))
    rw [ea, C_cellOf h hj, cl j hj]
    exact ⟨_, rfl, rfl, h0, h1, fun _ _ _ _ => rfl⟩
  rw [if_neg k3, if_neg k3]
  by_cases k4 : u 3 s = 4
  · rw [if_pos k4, if_pos k4]
    by_cases b : u 5 s ≤ v
    · rw [if_pos b, if_pos b, C_raise]
      exact ⟨_, rfl, by simp [wr], by simp [wr, upd], by simp [wr, upd], fun r _ h2 h3 => by simp [wr, h2, h3]⟩
    · rw [if_neg b, if_neg b, C_raise]
      exact ⟨_, rfl, by simp [wr], by simp [wr, upd], by simp [wr, upd], fun r _ h2 h3 => by simp [wr, h2, h3]⟩
  rw [if_neg k4, if_neg k4]
  by_cases k5 : u 3 s = 5
  · rw [if_pos k5, if_pos k5]
    obtain ⟨j, hj, ea⟩ := wf.2.1 k5
    rw [ea, C_accountOf h]
    simp only [Option.bind_some]
    rw [C_pay (by omega) hj, nI_clamp (by omega)]
    simp only [Option.bind_some]
    rw [C_raise]
    generalize aPay (u 0) (8 + pl / 3) j v = q
    exact ⟨_, rfl, by simp [wr, wrA], by simp [wr, upd], by simp [wr, upd], fun r h1 h2 h3 => by simp [wr, wrA, h1, h2, h3]⟩
  rw [if_neg k5, if_neg k5]
  by_cases k6 : u 3 s = 6
  · rw [if_pos k6, if_pos k6, C_addEvent he he2]
    exact ⟨_, rfl, by simp [wrA], by simp [wrA, h0], by simp [wrA, h1], fun r hr _ _ => by simp [wrA, hr]⟩
  rw [if_neg k6, if_neg k6]
  by_cases k10 : u 3 s = 10
  · rw [if_pos k10, if_pos k10, C_height]
    exact ⟨_, rfl, rfl, h0, h1, fun _ _ _ _ => rfl⟩
  rw [if_neg k10, if_neg k10]
  by_cases k11 : u 3 s = 11
  · rw [if_pos k11, if_pos k11]
    obtain ⟨j, hj, ea⟩ := wf.1 (Or.inr (Or.inr (Or.inr (Or.inl k11))))
    rw [ea, C_cellOf h hj, cl j hj]
    simp only [Option.bind_some]
    by_cases z : u 0 (12 + (4 * (pl / 3) + j)) = 0
    · rw [if_pos z, if_pos z, C_raise]
      exact ⟨_, rfl, by simp [wr], by simp [wr, upd], by simp [wr, upd], fun r _ h2 h3 => by simp [wr, h2, h3]⟩
    · rw [if_neg z, if_neg z, if_neg z]
      exact ⟨_, rfl, rfl, h0, h1, fun _ _ _ _ => rfl⟩
  rw [if_neg k11, if_neg k11]
  exact ⟨_, rfl, rfl, h0, h1, fun _ _ _ _ => rfl⟩
