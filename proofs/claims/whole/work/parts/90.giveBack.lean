/-! PURE: a LINE is given back. -/
theorem nI_m1 {a : Nat} (h : 0 < a) : nI a + (-1 : Int32) = nI (a - 1) := by
  have e : nI a + (-1 : Int32) = nI a - (1 : Int32) := by rw [Int32.sub_eq_add_neg]
  rw [e, lit_1, pk_sub (by omega)]
def gbW (u : Ug) (t q s : Nat) : Ug := wr (wr (wr (wr (wr u 9 t (nI (q + 1))) 10 s (u 42 0)) 11 s (u 42 1)) 12 s (u 42 2)) 13 s (u 42 3)
theorem gbW_n {u : Ug} {t q s r : Nat} (h : ¬ (9 ≤ r ∧ r ≤ 13)) : gbW u t q s r = u r := by
  unfold gbW
  rw [wr_n (by omega), wr_n (by omega), wr_n (by omega), wr_n (by omega), wr_n (by omega)]
theorem gbW_9 {u : Ug} {t q s : Nat} : gbW u t q s 9 = upd (u 9) t (nI (q + 1)) := by
  unfold gbW
  rw [wr_n (by decide), wr_n (by decide), wr_n (by decide), wr_n (by decide), wr_s]
theorem gbW_s {u : Ug} {t q s r : Nat} (h : 10 ≤ r ∧ r ≤ 13) : gbW u t q s r = upd (u r) s (u 42 (r - 10)) := by
  unfold gbW
  rcases (show r = 10 ∨ r = 11 ∨ r = 12 ∨ r = 13 by omega) with rfl | rfl | rfl | rfl
  · rw [wr_n (by decide), wr_n (by decide), wr_n (by decide), wr_s, wr_n (by decide)]
  · rw [wr_n (by decide), wr_n (by decide), wr_s, wr_n (by decide), wr_n (by decide)]
  · rw [wr_n (by decide), wr_s, wr_n (by decide), wr_n (by decide), wr_n (by decide)]
  · rw [wr_s, wr_n (by decide), wr_n (by decide), wr_n (by decide), wr_n (by decide)]
theorem M_gb_loop {t j q : Nat} (ht : t < 6) : ∀ (d n a : Nat) (u : Ug), a = j + d → d < n → a ≤ 15 → u 9 t = nI q → ∃ v : Ug, kM_giveBack n (nI t) (nI j) (nI a) u = some (0, v) ∧ v 9 = upd (u 9) t (nI (q + 1)) ∧ (∀ x, 10 ≤ x ∧ x ≤ 13 → ∀ p, v x p = if p = 16 * t + j then u 42 (x - 10) else if 16 * t + j < p ∧ p ≤ 16 * t + a then u x (p - 1) else u x p) ∧ ∀ r, ¬ (9 ≤ r ∧ r ≤ 13) → v r = u r := by
  intro d
  induction d with
  | zero =>
    intro n a u ha hn h15 h9
    obtain ⟨n, rfl⟩ : ∃ n', n = n' + 1 := ⟨n - 1, by omega⟩
    have ea : a = j := by omega
    subst ea
    refine ⟨gbW u t q (16 * t + a), ?_, gbW_9, fun x hx p => ?_, fun r hr => gbW_n hr⟩
    · show sM_giveBack_7 (kM_giveBack n) _ _ _ _ = _
      unfold sM_giveBack_7
      have es : (16 : Int32) * nI t + nI a = nI (16 * t + a) := by rw [lit_16, pk_mul, nI_add]
      rw [if_pos (nI_le (Nat.le_refl _) (by omega)), es, pu_rd ht (by omega), Option.bind_some, h9, nI_1, pu_wr ht (by omega), Option.bind_some, lit_0, pu_rd (show 0 < 4 by decide) (by decide), Option.bind_some, pu_wr (show 16 * t + a < 96 by omega) (by decide), Option.bind_some, lit_1, pu_rd (show 1 < 4 by decide) (by decide), Option.bind_some, pu_wr (show 16 * t + a < 96 by omega) (by decide), Option.bind_some, lit_2, pu_rd (show 2 < 4 by decide) (by decide), Option.bind_some, pu_wr (show 16 * t + a < 96 by omega) (by decide), Option.bind_some, lit_3, pu_rd (show 3 < 4 by decide) (by decide), Option.bind_some, pu_wr (show 16 * t + a < 96 by omega) (by decide), Option.bind_some]
      rw [wr_n (show (42 : Nat) ≠ 9 by decide), wr_n (show (42 : Nat) ≠ 10 by decide), wr_n (show (42 : Nat) ≠ 9 by decide), wr_n (show (42 : Nat) ≠ 11 by decide), wr_n (show (42 : Nat) ≠ 10 by decide), wr_n (show (42 : Nat) ≠ 9 by decide), wr_n (show (42 : Nat) ≠ 12 by decide), wr_n (show (42 : Nat) ≠ 11 by decide), wr_n (show (42 : Nat) ≠ 10 by decide), wr_n (show (42 : Nat) ≠ 9 by decide)]
      rfl
    · rw [gbW_s hx]
      by_cases c : p = 16 * t + a
      · subst c; rw [upd_s, if_pos rfl]
      · rw [upd_n c, if_neg c, if_neg (by omega)]
  | succ d ih =>
    intro n a u ha hn h15 h9
    obtain ⟨n, rfl⟩ : ∃ n', n = n' + 1 := ⟨n - 1, by omega⟩
    obtain ⟨v, e1, e2, e3, e4⟩ := ih n (a - 1) (putL u (16 * t + a) (16 * t + a - 1)) (by omega) (by omega) (by omega) (by rw [putL_n (by decide)]; exact h9)
    refine ⟨v, ?_, by rw [e2, putL_n (by decide)], fun x hx p => ?_, fun r hr => by rw [e4 r hr, putL_n (by omega)]⟩
    · show sM_giveBack_7 (kM_giveBack n) _ _ _ _ = _
      unfold sM_giveBack_7
      have es : (16 : Int32) * nI t + nI a = nI (16 * t + a) := by rw [lit_16, pk_mul, nI_add]
      have es2 : nI (16 * t + a) - (1 : Int32) = nI (16 * t + a - 1) := by rw [lit_1, pk_sub (by omega)]
      rw [if_neg (nI_ge (by omega) (by omega)), es, es2, M_put (by omega) (by omega), Option.bind_some, nI_m1 (by omega)]
      exact e1
    · rw [e3 x hx p, putL_s hx, putL_n (show ¬ (10 ≤ 42 ∧ 42 ≤ 13) by decide)]
      by_cases c0 : p = 16 * t + j
      · rw [if_pos c0, if_pos c0]
      rw [if_neg c0, if_neg c0]
      by_cases c1 : p = 16 * t + a
      · subst c1
        rw [if_neg (by omega), if_pos (by omega), upd_s]
      · by_cases c2 : 16 * t + j < p ∧ p ≤ 16 * t + a
        · rw [if_pos c2, if_pos (by omega), upd_n (by omega)]
        · rw [if_neg c2, if_neg (by omega), upd_n c1]
theorem M_giveBack {t q j : Nat} {u : Ug} (ht : t < 6) (hq : q ≤ 15) (hj : j ≤ q) (h9 : u 9 t = nI q) : ∃ v : Ug, fM_giveBack (nI t) (nI j) u = some (0, v) ∧ v 9 = upd (u 9) t (nI (q + 1)) ∧ (∀ x, 10 ≤ x ∧ x ≤ 13 → ∀ p, v x p = if p = 16 * t + j then u 42 (x - 10) else if 16 * t + j < p ∧ p ≤ 16 * t + q then u x (p - 1) else u x p) ∧ ∀ r, ¬ (9 ≤ r ∧ r ≤ 13) → v r = u r := by
  obtain ⟨v, e1, e2⟩ := M_gb_loop (j := j) ht (q - j) 4096 q u (by omega) (by omega) hq h9
  refine ⟨v, ?_, e2⟩
  unfold fM_giveBack
  rw [pu_rd ht (by omega), Option.bind_some, h9]
  exact e1
/-- removed, something else done, given back: as it was -/
theorem M_back {t q j : Nat} {u v w : Ug} (ht : t < 6) (hq : q ≤ 16) (hj : j < q) (h9 : u 9 t = nI q) (a2 : v 9 = upd (u 9) t (nI (q - 1))) (a3 : ∀ x, 10 ≤ x ∧ x ≤ 13 → ∀ p, v x p = if 16 * t + j ≤ p ∧ p + 1 < 16 * t + q then u x (p + 1) else u x p) (a5 : ∀ x, 10 ≤ x ∧ x ≤ 13 → v 42 (x - 10) = u x (16 * t + j)) (k : KpM v w) : ∃ z : Ug, fM_giveBack (nI t) (nI j) w = some (0, z) ∧ (∀ r, 9 ≤ r ∧ r ≤ 13 → z r = u r) ∧ ∀ r, ¬ (9 ≤ r ∧ r ≤ 13) → z r = w r := by
  obtain ⟨z, e1, e2, e3, e4⟩ := M_giveBack (j := j) (q := q - 1) (u := w) ht (by omega) (by omega) (by rw [k 9 (by omega), a2, upd_s])
  refine ⟨z, e1, fun r hr => ?_, e4⟩
  by_cases r9 : r = 9
  · subst r9
    rw [e2, k 9 (by omega), a2, upd_uu, show q - 1 + 1 = q by omega, ← h9]
    funext i
    by_cases c : i = t
    · subst c; rw [upd_s]
    · rw [upd_n c]
  · have hx : 10 ≤ r ∧ r ≤ 13 := by omega
    funext p
    rw [e3 r hx p, k 42 (by omega), a5 r hx, k r (by omega), a3 r hx, a3 r hx]
    by_cases c0 : p = 16 * t + j
    · rw [if_pos c0, c0]
    rw [if_neg c0]
    by_cases c1 : 16 * t + j < p ∧ p ≤ 16 * t + (q - 1)
    · rw [if_pos c1, if_pos (by omega), show p - 1 + 1 = p by omega]
    · rw [if_neg c1, if_neg (by omega)]
