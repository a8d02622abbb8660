/-! PURE: step alike. -/
theorem Inv.step {uC uM : Ug} (h : Inv uC uM) {p n : Nat} {x3 x4 x5 : Int32} (hp : p < 12) (hn : n < 8) (hk : ∃ k : Nat, k ≤ 11 ∧ x3 = nI k) (wf : WfS x3 x4) (h7 : x3 = 7 → ∃ j : Nat, j ≤ 7 ∧ x4 = nI j) : Inv (wr (wr (wr (wr uC 3 (8 * p + n) x3) 4 (8 * p + n) x4) 5 (8 * p + n) x5) 1 p (nI (n + 1))) (wr (wr (wr (wr uM 3 (8 * p + n) x3) 4 (8 * p + n) x4) 5 (8 * p + n) x5) 2 p (nI (n + 1))) := by
  have rC : ∀ r, r ≠ 1 → r ≠ 3 → r ≠ 4 → r ≠ 5 → (wr (wr (wr (wr uC 3 (8 * p + n) x3) 4 (8 * p + n) x4) 5 (8 * p + n) x5) 1 p (nI (n + 1))) r = uC r := fun r a b c d => by rw [wr_n a, wr_n d, wr_n c, wr_n b]
  have rM : ∀ r, r ≠ 2 → r ≠ 3 → r ≠ 4 → r ≠ 5 → (wr (wr (wr (wr uM 3 (8 * p + n) x3) 4 (8 * p + n) x4) 5 (8 * p + n) x5) 2 p (nI (n + 1))) r = uM r := fun r a b c d => by rw [wr_n a, wr_n d, wr_n c, wr_n b]
  refine ⟨h.1.of (rC 0 (by decide) (by decide) (by decide) (by decide)) (rM 0 (by decide) (by decide) (by decide) (by decide)), ?_, h.2.2.1.of (fun r hr => rC r (by omega) (by omega) (by omega) (by omega)) (fun r hr => rM r (by omega) (by omega) (by omega) (by omega)), h.2.2.2.1.of (fun r hr => rC r (by omega) (by omega) (by omega) (by omega)) (fun r hr => rM r (by omega) (by omega) (by omega) (by omega)), h.2.2.2.2.1.of (fun r hr => rC r (by omega) (by omega) (by omega) (by omega)) (fun r hr => rM r (by omega) (by omega) (by omega) (by omega)), h.2.2.2.2.2.of (fun r hr => rC r (by omega) (by omega) (by omega) (by omega)) (fun r hr => rM r (by omega) (by omega) (by omega) (by omega))⟩
  obtain ⟨a, b, c, d, e⟩ := h.2.1
  have c1 : (wr (wr (wr (wr uC 3 (8 * p + n) x3) 4 (8 * p + n) x4) 5 (8 * p + n) x5) 1 p (nI (n + 1))) 1 = upd (uC 1) p (nI (n + 1)) := by rw [wr_s, wr_n (by decide), wr_n (by decide), wr_n (by decide)]
  have c3 : (wr (wr (wr (wr uC 3 (8 * p + n) x3) 4 (8 * p + n) x4) 5 (8 * p + n) x5) 1 p (nI (n + 1))) 3 = upd (uC 3) (8 * p + n) x3 := by rw [wr_n (by decide), wr_n (by decide), wr_n (by decide), wr_s]
  have c4 : (wr (wr (wr (wr uC 3 (8 * p + n) x3) 4 (8 * p + n) x4) 5 (8 * p + n) x5) 1 p (nI (n + 1))) 4 = upd (uC 4) (8 * p + n) x4 := by rw [wr_n (by decide), wr_n (by decide), wr_s, wr_n (by decide)]
  have c5 : (wr (wr (wr (wr uC 3 (8 * p + n) x3) 4 (8 * p + n) x4) 5 (8 * p + n) x5) 1 p (nI (n + 1))) 5 = upd (uC 5) (8 * p + n) x5 := by rw [wr_n (by decide), wr_s, wr_n (by decide), wr_n (by decide)]
  have m2 : (wr (wr (wr (wr uM 3 (8 * p + n) x3) 4 (8 * p + n) x4) 5 (8 * p + n) x5) 2 p (nI (n + 1))) 2 = upd (uM 2) p (nI (n + 1)) := by rw [wr_s, wr_n (by decide), wr_n (by decide), wr_n (by decide)]
  have m3 : (wr (wr (wr (wr uM 3 (8 * p + n) x3) 4 (8 * p + n) x4) 5 (8 * p + n) x5) 2 p (nI (n + 1))) 3 = upd (uM 3) (8 * p + n) x3 := by rw [wr_n (by decide), wr_n (by decide), wr_n (by decide), wr_s]
  have m4 : (wr (wr (wr (wr uM 3 (8 * p + n) x3) 4 (8 * p + n) x4) 5 (8 * p + n) x5) 2 p (nI (n + 1))) 4 = upd (uM 4) (8 * p + n) x4 := by rw [wr_n (by decide), wr_n (by decide), wr_s, wr_n (by decide)]
  have m5 : (wr (wr (wr (wr uM 3 (8 * p + n) x3) 4 (8 * p + n) x4) 5 (8 * p + n) x5) 2 p (nI (n + 1))) 5 = upd (uM 5) (8 * p + n) x5 := by rw [wr_n (by decide), wr_s, wr_n (by decide), wr_n (by decide)]
  unfold IvC
  rw [c1, c3, c4, c5, m2, m3, m4, m5, rC 18 (by decide) (by decide) (by decide) (by decide), rC 6 (by decide) (by decide) (by decide) (by decide), rM 1 (by decide) (by decide) (by decide) (by decide), rM 7 (by decide) (by decide) (by decide) (by decide)]
  refine ⟨a, ⟨by rw [b.1], fun m hm => ?_⟩, ⟨by rw [c.1], by rw [c.2.1], by rw [c.2.2]⟩, fun s hs => ?_, e⟩
  · by_cases z : m = p
    · rw [z, upd_s]; exact ⟨n + 1, by omega, rfl⟩
    · rw [upd_n z]; exact b.2 m hm
  · by_cases z : s = 8 * p + n
    · rw [z, upd_s, upd_s]; exact ⟨hk, wf, h7⟩
    · rw [upd_n z, upd_n z]; exact d s hs
theorem Alike_step (x1 x2 x3 x4 x5 : Int32) : Alike (fC_step x1 x2 x3 x4 x5) (fM_step x1 x2 x3 x4 x5) := by
  intro uC uM h
  obtain ⟨⟨k, hk4, hkC, hkM⟩, ⟨hs, hsz⟩, -⟩ := id h.2.1
  unfold fC_step fM_step
  rcases mem_ix (x2 := x1) (x3 := x2) hk4 with hno | ⟨c, m, hc, hm, rfl, rfl⟩
  · rw [C_placeOf_no hkC hno, M_isMember_no hkM hk4 hno]
    simp only [Option.bind_some]
    rw [if_pos (show (-1 : Int32) < 0 by decide)]
    exact ⟨_, _, _, rfl, rfl, h⟩
  rw [C_placeOf_ok hkC hk4 hc hm, M_isMember_ok hkM hk4 hc hm]
  simp only [Option.bind_some]
  rw [if_neg (show ¬ nI (3 * c + m) < 0 by rw [lit_0]; exact nI_nlt (Nat.zero_le _) (by omega)), if_neg (show ¬ ((1 : Int32) = 0) by decide)]
  have hp : 3 * c + m < 12 := by omega
  rcases fits_both x3 x4 uC uM with ⟨hk, f1, f2, f3, wf, h7⟩ | ⟨f1, f2⟩
  · rw [f1, f2]
    simp only [Option.bind_some]
    rw [if_neg (show ¬ ((1 : Int32) = 0) by decide), if_neg (show ¬ ((1 : Int32) = 0) by decide), f3]
    simp only [Option.bind_some]
    rw [if_neg (show ¬ ((1 : Int32) = 0) by decide)]
    obtain ⟨n, hn, en⟩ := hsz _ hp
    have enM : uM 2 (3 * c + m) = nI n := by rw [← hs]; exact en
    have e3 : (3 : Int32) * nI c + nI m = nI (3 * c + m) := by rw [lit_3, pk_mul, nI_add]
    unfold fC_Code_append
    rw [e3, if_neg (show ¬ nI (3 * c + m) < 0 by rw [lit_0]; exact nI_nlt (Nat.zero_le _) (by omega)), if_neg (show ¬ (12 : Int32) ≤ nI (3 * c + m) by rw [lit_12]; exact nI_ge hp (by omega)), pu_rd hp (by omega), pu_rd hp (by omega)]
    simp only [Option.bind_some]
    rw [en, enM]
    by_cases n8 : n = 8
    · subst n8
      rw [if_neg (show ¬ nI 8 < (8 : Int32) by decide), if_pos (show nI 8 = (8 : Int32) from rfl)]
      exact ⟨_, _, _, rfl, rfl, h⟩
    · have e8 : nI (3 * c + m) * (8 : Int32) + nI n = nI (8 * (3 * c + m) + n) := by rw [lit_8, pk_mul, nI_add, Nat.mul_comm]
      have e8' : (8 : Int32) * nI (3 * c + m) + nI n = nI (8 * (3 * c + m) + n) := by rw [lit_8, pk_mul, nI_add]
      have h96 : 8 * (3 * c + m) + n < 96 := by omega
      rw [if_pos (show nI n < (8 : Int32) by rw [lit_8]; exact nI_lt (by omega) (by omega)), if_neg (show ¬ nI n = (8 : Int32) by rw [lit_8]; exact fun z => by have := (nI_eq (by omega) (by omega)).mp z; omega), e8, e8']
      unfold fC_Code_replace
      rw [if_neg (show ¬ nI (8 * (3 * c + m) + n) < 0 by rw [lit_0]; exact nI_nlt (Nat.zero_le _) (by omega)), if_neg (show ¬ (96 : Int32) ≤ nI (8 * (3 * c + m) + n) by rw [lit_96]; exact nI_ge h96 (by omega)), pu_wr h96 (by omega), pu_wr h96 (by omega)]
      simp only [Option.bind_some]
      rw [wr_n (show (2 : Nat) ≠ 3 by decide), pu_rd hp (by omega), pu_wr h96 (by omega)]
      simp only [Option.bind_some]
      rw [enM, e8', pu_wr h96 (by omega), pu_wr h96 (by omega)]
      simp only [Option.bind_some]
      rw [wr_n (show (1 : Nat) ≠ 5 by decide), wr_n (show (1 : Nat) ≠ 4 by decide), wr_n (show (1 : Nat) ≠ 3 by decide), wr_n (show (2 : Nat) ≠ 4 by decide), wr_n (show (2 : Nat) ≠ 3 by decide), pu_rd hp (by omega), pu_rd hp (by omega)]
      simp only [Option.bind_some]
      rw [en, enM, e8', nI_1, pu_wr hp (by omega), pu_wr h96 (by omega)]
      simp only [Option.bind_some]
      rw [pu_rd hp (by omega), wr_s, upd_s, wr_n (show (2 : Nat) ≠ 5 by decide), wr_n (show (2 : Nat) ≠ 4 by decide), wr_n (show (2 : Nat) ≠ 3 by decide), pu_rd hp (by omega)]
      simp only [Option.bind_some]
      rw [enM, nI_1, pu_wr hp (by omega)]
      simp only [Option.bind_some]
      rw [pu_rd hp (by omega), wr_s, upd_s]
      exact ⟨_, _, _, rfl, rfl, h.step hp (by omega) hk wf h7⟩
  · rw [f1]
    rcases f2 with f2 | ⟨f2, f3⟩
    · rw [f2]
      exact ⟨_, _, _, rfl, rfl, h⟩
    · rw [f2]
      simp only [Option.bind_some]
      rw [if_neg (show ¬ ((1 : Int32) = 0) by decide), f3]
      exact ⟨_, _, _, rfl, rfl, h⟩
