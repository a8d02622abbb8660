/-! PURE: what holds between the two programs from call to call. -/
def IvS (uC uM : Ug) : Prop := uC 0 = uM 0 ∧ SgOk (uC 0)
/-- CONTRACTS, MEMBERS, STEPS, FACES -/
def IvC (uC uM : Ug) : Prop := (∃ k : Nat, k ≤ 4 ∧ uC 18 0 = nI k ∧ uM 1 0 = nI k) ∧ (uC 1 = uM 2 ∧ ∀ m, m < 12 → ∃ n : Nat, n ≤ 8 ∧ uC 1 m = nI n) ∧ (uC 3 = uM 3 ∧ uC 4 = uM 4 ∧ uC 5 = uM 5) ∧ (∀ s, s < 96 → (∃ k : Nat, k ≤ 11 ∧ uC 3 s = nI k) ∧ WfS (uC 3 s) (uC 4 s) ∧ (uC 3 s = 7 → ∃ j : Nat, j ≤ 7 ∧ uC 4 s = nI j)) ∧ (uC 6 = uM 7 ∧ ∀ f, f < 4 → uC 6 f = -1 ∨ ∃ m : Nat, m < 12 ∧ uC 6 f = nI m)
/-- COVERED, the count of all, no doubles, no MUTANT -/
def IvR (uC uM : Ug) : Prop := uC 2 = uM 6 ∧ (∃ ia : Nat, ia ≤ 20000 ∧ uC 19 0 = nI ia ∧ uM 8 0 = nI ia) ∧ (∀ f, f < 4 → uC 7 f = 0 ∧ uM 30 f = 0) ∧ uM 33 0 = 0
/-- what is told of the latest CALL -/
def IvT (uC uM : Ug) : Prop := uC 23 0 = uM 26 0 ∧ uC 21 0 = uM 27 0 ∧ uC 22 0 = uM 28 0 ∧ uC 20 0 = uM 29 0 ∧ ThOk (uC 21 0)
/-- LINES -/
def IvL (uC uM : Ug) : Prop := ∀ t, t < 6 → ∃ n : Nat, n ≤ 16 ∧ uC 10 t = nI n ∧ uM 9 t = nI n ∧ ∀ i, i < n → (∃ w : Nat, w < 14 ∧ uC 11 (16 * t + i) = nI w) ∧ uC 11 (16 * t + i) = uM 10 (16 * t + i) ∧ uC 12 (16 * t + i) = uM 11 (16 * t + i) ∧ uC 13 (16 * t + i) = uM 12 (16 * t + i) ∧ uC 14 (16 * t + i) = uM 13 (16 * t + i)
/-- who was KILLED -/
def IvJ (uC uM : Ug) : Prop := ∀ c, c < 4 → ∃ n : Nat, n ≤ 48 ∧ uC 16 c = nI n ∧ (uM 40 c = nI n ∨ (n = 0 ∧ uM 40 c = -1)) ∧ (∀ k : Nat, uC 18 0 = nI k → k ≤ c → n = 0) ∧ ∀ i, i < n → uC 17 (48 * c + i) = uM 41 (48 * c + i)
def Inv (uC uM : Ug) : Prop := IvS uC uM ∧ IvC uC uM ∧ IvR uC uM ∧ IvT uC uM ∧ IvL uC uM ∧ IvJ uC uM
theorem IvS.of {uC uM vC vM : Ug} (h : IvS uC uM) (hC : vC 0 = uC 0) (hM : vM 0 = uM 0) : IvS vC vM := by unfold IvS; rw [hC, hM]; exact h
theorem IvC.of {uC uM vC vM : Ug} (h : IvC uC uM) (hC : ∀ r, r = 1 ∨ r = 3 ∨ r = 4 ∨ r = 5 ∨ r = 6 ∨ r = 18 → vC r = uC r) (hM : ∀ r, r = 1 ∨ r = 2 ∨ r = 3 ∨ r = 4 ∨ r = 5 ∨ r = 7 → vM r = uM r) : IvC vC vM := by
  unfold IvC
  rw [hC 1 (by omega), hC 3 (by omega), hC 4 (by omega), hC 5 (by omega), hC 6 (by omega), hC 18 (by omega), hM 1 (by omega), hM 2 (by omega), hM 3 (by omega), hM 4 (by omega), hM 5 (by omega), hM 7 (by omega)]
  exact h
theorem IvR.of {uC uM vC vM : Ug} (h : IvR uC uM) (hC : ∀ r, r = 2 ∨ r = 7 ∨ r = 19 → vC r = uC r) (hM : ∀ r, r = 6 ∨ r = 8 ∨ r = 30 ∨ r = 33 → vM r = uM r) : IvR vC vM := by
  unfold IvR
  rw [hC 2 (by omega), hC 7 (by omega), hC 19 (by omega), hM 6 (by omega), hM 8 (by omega), hM 30 (by omega), hM 33 (by omega)]
  exact h
theorem IvT.of {uC uM vC vM : Ug} (h : IvT uC uM) (hC : ∀ r, r = 20 ∨ r = 21 ∨ r = 22 ∨ r = 23 → vC r = uC r) (hM : ∀ r, r = 26 ∨ r = 27 ∨ r = 28 ∨ r = 29 → vM r = uM r) : IvT vC vM := by
  unfold IvT
  rw [hC 20 (by omega), hC 21 (by omega), hC 22 (by omega), hC 23 (by omega), hM 26 (by omega), hM 27 (by omega), hM 28 (by omega), hM 29 (by omega)]
  exact h
theorem IvL.of {uC uM vC vM : Ug} (h : IvL uC uM) (hC : ∀ r, 10 ≤ r ∧ r ≤ 14 → vC r = uC r) (hM : ∀ r, 9 ≤ r ∧ r ≤ 13 → vM r = uM r) : IvL vC vM := by
  unfold IvL
  rw [hC 10 (by omega), hC 11 (by omega), hC 12 (by omega), hC 13 (by omega), hC 14 (by omega), hM 9 (by omega), hM 10 (by omega), hM 11 (by omega), hM 12 (by omega), hM 13 (by omega)]
  exact h
theorem IvJ.of {uC uM vC vM : Ug} (h : IvJ uC uM) (hC : ∀ r, r = 16 ∨ r = 17 ∨ r = 18 → vC r = uC r) (hM : ∀ r, r = 40 ∨ r = 41 → vM r = uM r) : IvJ vC vM := by
  unfold IvJ
  rw [hC 16 (by omega), hC 17 (by omega), hC 18 (by omega), hM 40 (by omega), hM 41 (by omega)]
  exact h
/-- two calls answer alike, and what holds goes on -/
def Alike (fC fM : Ug → Option (Int32 × Ug)) : Prop := ∀ uC uM : Ug, Inv uC uM → ∃ (r : Int32) (vC vM : Ug), fC uC = some (r, vC) ∧ fM uM = some (r, vM) ∧ Inv vC vM
theorem Alike_told (x : Int32) : Alike (fC_told x) (fM_told x) := by
  intro uC uM h
  obtain ⟨a, b, c, d, -⟩ := h.2.2.2.1
  unfold fC_told fM_told fC_Machine_answered fC_Machine_thrown fC_Machine_lastCause fC_Machine_stepsDone
  by_cases x0 : x = 0
  · rw [if_pos x0, if_pos x0, ← a]; exact ⟨_, _, _, rfl, rfl, h⟩
  rw [if_neg x0, if_neg x0]
  by_cases x1 : x = 1
  · rw [if_pos x1, if_pos x1, ← b]; exact ⟨_, _, _, rfl, rfl, h⟩
  rw [if_neg x1, if_neg x1]
  by_cases x2 : x = 2
  · rw [if_pos x2, if_pos x2, ← c]; exact ⟨_, _, _, rfl, rfl, h⟩
  rw [if_neg x2, if_neg x2]
  by_cases x3 : x = 3
  · rw [if_pos x3, if_pos x3, ← d]; exact ⟨_, _, _, rfl, rfl, h⟩
  rw [if_neg x3, if_neg x3]
  exact ⟨_, _, _, rfl, rfl, h⟩
theorem Alike_coins (x : Int32) : Alike (fC_coins x) (fM_coins x) := by
  intro uC uM h
  unfold fC_coins fM_coins
  rcases arg_ix x 12 (by decide) with hx | ⟨j, hj, rfl⟩
  · rw [C_isAccount_no hx, M_isAccount_no hx]
    exact ⟨_, _, _, rfl, rfl, h⟩
  · rw [C_isAccount_ok hj, M_isAccount_ok hj]
    simp only [Option.bind_some]
    rw [if_neg (by decide), if_neg (by decide)]
    unfold fC_State_coinsOf
    rw [if_neg (by rw [lit_0]; exact nI_nlt (Nat.zero_le _) (by omega)), if_neg (by rw [lit_12]; exact nI_ge hj (by omega)), pu_rd (by omega) (by omega), pu_rd (by omega) (by omega), h.1.1]
    exact ⟨_, _, _, rfl, rfl, h⟩
theorem Alike_contract : Alike fC_contract fM_contract := by
  intro uC uM h
  obtain ⟨⟨k, hk4, hkC, hkM⟩, hrest⟩ := id h.2.1
  unfold fC_contract fM_contract fC_Code_newContract
  rw [hkC, hkM]
  by_cases k4 : k = 4
  · subst k4
    rw [if_neg (by decide), if_pos (by decide)]
    exact ⟨_, _, _, rfl, rfl, h⟩
  · rw [if_pos (by rw [lit_4]; exact nI_lt (by omega) (by omega)), if_neg (by rw [lit_4]; exact fun z => by have := (nI_eq (by omega) (by omega)).mp z; omega), nI_1]
    simp only [pu_sc, Option.bind_some]
    rw [wr_s, wr_s, upd_s, upd_s]
    refine ⟨_, _, _, rfl, rfl, h.1.of (wr_n (by decide)) (wr_n (by decide)), ⟨⟨k + 1, by omega, by rw [wr_s]; exact upd_s, by rw [wr_s]; exact upd_s⟩, ?_⟩, h.2.2.1.of (fun r hr => wr_n (by omega)) (fun r hr => wr_n (by omega)), h.2.2.2.1.of (fun r hr => wr_n (by omega)) (fun r hr => wr_n (by omega)), h.2.2.2.2.1.of (fun r hr => wr_n (by omega)) (fun r hr => wr_n (by omega)), ?_⟩
    · rw [wr_n (show (1 : Nat) ≠ 18 by decide), wr_n (show (3 : Nat) ≠ 18 by decide), wr_n (show (4 : Nat) ≠ 18 by decide), wr_n (show (5 : Nat) ≠ 18 by decide), wr_n (show (6 : Nat) ≠ 18 by decide), wr_n (show (2 : Nat) ≠ 1 by decide), wr_n (show (3 : Nat) ≠ 1 by decide), wr_n (show (4 : Nat) ≠ 1 by decide), wr_n (show (5 : Nat) ≠ 1 by decide), wr_n (show (7 : Nat) ≠ 1 by decide)]
      exact hrest
    · intro c hc
      obtain ⟨n, hn, e1, e2, e3, e4⟩ := h.2.2.2.2.2 c hc
      refine ⟨n, hn, by rw [wr_n (by decide)]; exact e1, by rw [wr_n (by decide)]; exact e2, fun q hq hqc => ?_, fun i hi => by rw [wr_n (by decide), wr_n (by decide)]; exact e4 i hi⟩
      rw [wr_s, upd_s] at hq
      exact e3 k hkC (by
        rcases Nat.lt_or_ge q (2 ^ 31) with hq2 | hq2
        · have := (nI_eq (show k + 1 < 2 ^ 31 by omega) hq2).mp hq; omega
        · omega)
