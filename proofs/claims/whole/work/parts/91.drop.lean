/-! PURE: the LINES that are left out, taken away at the end. -/
theorem LwC_x {u : Ug} {s t n p r : Nat} (h : 11 ≤ r ∧ r ≤ 14) : LwC u s t n (u 11 p) (u 12 p) (u 13 p) (u 14 p) r = upd (u r) s (u r p) := by
  obtain ⟨-, c1, c2, c3, c4⟩ := LwC_l (u := u) (s := s) (t := t) (n := n) (w := u 11 p) (a := u 12 p) (b := u 13 p) (c := u 14 p)
  rcases (show r = 11 ∨ r = 12 ∨ r = 13 ∨ r = 14 by omega) with rfl | rfl | rfl | rfl
  · exact c1
  · exact c2
  · exact c3
  · exact c4
theorem C_ssize {u : Ug} {t : Nat} (ht : t < 6) : fC_Scripts_size (nI t) u = some (u 10 t, u) := by
  unfold fC_Scripts_size
  rw [if_neg (show ¬ nI t < 0 by rw [lit_0]; exact nI_nlt (Nat.zero_le _) (by omega)), if_neg (show ¬ (6 : Int32) ≤ nI t by rw [lit_6]; exact nI_ge ht (by omega)), pu_rd ht (by omega), Option.bind_some]
theorem C_drop_loop {t n : Nat} {mk : Int32} (ht : t < 6) (hn : n ≤ 16) : ∀ (d q i : Nat) (u : Ug), i + d = n → d < q → u 10 t = nI (kp mk i) → ∃ v : Ug, kC_Scripts_dropLines q (nI t) mk (nI n) (nI i) u = some (nI (kp mk n), v) ∧ v 10 = upd (u 10) t (nI (kp mk n)) ∧ (∀ x, 11 ≤ x ∧ x ≤ 14 → ∀ p, i ≤ p → p < n → ¬ loB mk p = true → v x (16 * t + kp mk p) = u x (16 * t + p)) ∧ (∀ x, 11 ≤ x ∧ x ≤ 14 → ∀ p, ¬ (16 * t + kp mk i ≤ p ∧ p < 16 * t + 16) → v x p = u x p) ∧ ∀ r, ¬ (10 ≤ r ∧ r ≤ 14) → v r = u r := by
  intro d
  induction d with
  | zero =>
    intro q i u hi hq h10
    obtain ⟨q, rfl⟩ : ∃ n', q = n' + 1 := ⟨q - 1, by omega⟩
    have e : i = n := by omega
    subst e
    refine ⟨u, ?_, ?_, fun x _ p h1 h2 _ => by omega, fun x _ p _ => rfl, fun r _ => rfl⟩
    · show sC_Scripts_dropLines_9 (kC_Scripts_dropLines q) _ _ _ _ _ = _
      unfold sC_Scripts_dropLines_9
      rw [if_pos (nI_le (Nat.le_refl _) (by omega)), C_ssize ht, Option.bind_some, h10]
    · rw [← h10]
      funext j
      by_cases c : j = t
      · subst c; rw [upd_s]
      · rw [upd_n c]
  | succ d ih =>
    intro q i u hi hq h10
    obtain ⟨q, rfl⟩ : ∃ n', q = n' + 1 := ⟨q - 1, by omega⟩
    have hk := kp_le (mk := mk) i
    by_cases b : loB mk i = true
    · obtain ⟨v, e1, e2, e3, e4, e5⟩ := ih q (i + 1) u (by omega) (by omega) (by rw [kp_in b]; exact h10)
      refine ⟨v, ?_, e2, fun x hx p h1 h2 h3 => ?_, fun x hx p hp => e4 x hx p (by rw [kp_in b]; exact hp), e5⟩
      · show sC_Scripts_dropLines_9 (kC_Scripts_dropLines q) _ _ _ _ _ = _
        unfold sC_Scripts_dropLines_9
        rw [if_neg (nI_ge (by omega) (by omega)), lo_iff (by omega), if_pos b, if_neg (show ¬ ((1 : Int32) = 0) by decide), nI_1]
        exact e1
      · by_cases c : p = i
        · subst c; exact absurd b h3
        · exact e3 x hx p (by omega) h2 h3
    · obtain ⟨w, hw⟩ : ∃ w : Ug, w = LwC u (16 * t + kp mk i) t (kp mk i + 1) (u 11 (16 * t + i)) (u 12 (16 * t + i)) (u 13 (16 * t + i)) (u 14 (16 * t + i)) := ⟨_, rfl⟩
      have w10 : w 10 = upd (u 10) t (nI (kp mk i + 1)) := by rw [hw]; exact LwC_l.1
      have wx : ∀ x, 11 ≤ x ∧ x ≤ 14 → w x = upd (u x) (16 * t + kp mk i) (u x (16 * t + i)) := fun x hx => by rw [hw]; exact LwC_x hx
      have wr' : ∀ r, ¬ (10 ≤ r ∧ r ≤ 14) → w r = u r := fun r hr => by rw [hw]; exact LwC_r hr
      obtain ⟨v, e1, e2, e3, e4, e5⟩ := ih q (i + 1) w (by omega) (by omega) (by rw [kp_out b, w10, upd_s])
      rw [kp_out b] at e4
      refine ⟨v, ?_, by rw [e2, w10, upd_uu], fun x hx p h1 h2 h3 => ?_, fun x hx p hp => ?_, fun r hr => by rw [e5 r hr, wr' r hr]⟩
      · show sC_Scripts_dropLines_9 (kC_Scripts_dropLines q) _ _ _ _ _ = _
        unfold sC_Scripts_dropLines_9
        have es : nI t * (16 : Int32) + nI i = nI (16 * t + i) := by rw [lit_16, pk_mul, nI_add, Nat.mul_comm]
        rw [if_neg (nI_ge (by omega) (by omega)), lo_iff (by omega), if_neg b, if_pos rfl, es, C_sword (by omega), Option.bind_some]
        dsimp only
        rw [C_sa (by omega), Option.bind_some]
        dsimp only
        rw [C_sb (by omega), Option.bind_some]
        dsimp only
        rw [C_sc (by omega), Option.bind_some]
        dsimp only
        rw [C_append ht (by omega) h10, Option.bind_some, ← hw, nI_1]
        exact e1
      · by_cases c : p = i
        · subst c
          rw [e4 x hx _ (by omega), wx x hx, upd_s]
        · rw [e3 x hx p (by omega) h2 h3, wx x hx, upd_n (by omega)]
      · rw [e4 x hx p (by omega), wx x hx, upd_n (by omega)]
theorem C_dropLines {t n : Nat} {mk : Int32} {u : Ug} (ht : t < 6) (hn : n ≤ 16) (h10 : u 10 t = nI n) : ∃ v : Ug, fC_Scripts_dropLines (nI t) mk u = some (nI (kp mk n), v) ∧ v 10 = upd (u 10) t (nI (kp mk n)) ∧ (∀ x, 11 ≤ x ∧ x ≤ 14 → ∀ p, p < n → ¬ loB mk p = true → v x (16 * t + kp mk p) = u x (16 * t + p)) ∧ (∀ x, 11 ≤ x ∧ x ≤ 14 → ∀ p, ¬ (16 * t ≤ p ∧ p < 16 * t + 16) → v x p = u x p) ∧ ∀ r, ¬ (10 ≤ r ∧ r ≤ 14) → v r = u r := by
  obtain ⟨v, e1, e2, e3, e4, e5⟩ := C_drop_loop (mk := mk) ht hn n 4096 0 (wr u 10 t 0) (by omega) (by omega) (by rw [wr_s, upd_s]; rfl)
  refine ⟨v, ?_, by rw [e2, wr_s, upd_uu], fun x hx p h1 h2 => by rw [e3 x hx p (Nat.zero_le _) h1 h2, wr_n (by omega)], fun x hx p hp => by rw [e4 x hx p hp, wr_n (by omega)], fun r hr => by rw [e5 r hr, wr_n (by omega)]⟩
  unfold fC_Scripts_dropLines fC_Scripts_empty
  rw [if_neg (show ¬ nI t < 0 by rw [lit_0]; exact nI_nlt (Nat.zero_le _) (by omega)), if_pos (show nI t < (6 : Int32) by rw [lit_6]; exact nI_lt ht (by omega)), pu_rd ht (by omega), Option.bind_some, pu_wr ht (by omega), Option.bind_some, Option.bind_some, h10]
  exact e1
/-- a LINE less in the reference: what is left -/
theorem LnR.remove {uC uM v : Ug} {t n i : Nat} {mk : Int32} (h : LnR uC uM t n mk) (hi : i < n) (b : ¬ loB mk i = true) (a2 : v 9 = upd (uM 9) t (nI (kp mk n - 1))) (a3 : ∀ x, 10 ≤ x ∧ x ≤ 13 → ∀ p, v x p = if 16 * t + kp mk i ≤ p ∧ p + 1 < 16 * t + kp mk n then uM x (p + 1) else uM x p) : LnR uC v t n (mk ||| ((1 : Int32) <<< (nI i &&& 31))) := by
  obtain ⟨ht, hn, l1, l2, l3⟩ := h
  refine ⟨ht, hn, l1, ?_, fun q hq bq => ?_⟩
  · have := kp_or (mk := mk) (i := i) (by omega) b (q := n) (by omega) hi
    rw [a2, upd_s]
    congr 1
    omega
  · have e := lo_or (m := mk) (show i < 32 by omega) (show q < 32 by omega)
    rw [e] at bq
    have b1 : ¬ loB mk q = true := fun z => bq (by rw [z]; rfl)
    have b2 : q ≠ i := fun z => bq (by rw [z]; simp)
    have hx : ∀ x, 10 ≤ x ∧ x ≤ 13 → v x (16 * t + kp (mk ||| ((1 : Int32) <<< (nI i &&& 31))) q) = uM x (16 * t + kp mk q) := by
      intro x hx
      rw [a3 x hx]
      by_cases c : q < i
      · have := kp_lt b1 c
        rw [kp_or_le (by omega) q (by omega), if_neg (by omega)]
      · have y1 := kp_or (mk := mk) (i := i) (by omega) b (q := q) (by omega) (by omega)
        have y2 := kp_lt b (show i < q by omega)
        have y3 := kp_lt b1 hq
        rw [if_pos (by omega)]
        congr 1
        omega
    rw [hx 10 (by omega), hx 11 (by omega), hx 12 (by omega), hx 13 (by omega)]
    exact l3 q hq b1
/-- the LINES of the other TESTS -/
def IvL1 (uC uM : Ug) (t : Nat) : Prop := ∃ n : Nat, n ≤ 16 ∧ uC 10 t = nI n ∧ uM 9 t = nI n ∧ ∀ i, i < n → (∃ w : Nat, w < 14 ∧ uC 11 (16 * t + i) = nI w) ∧ uC 11 (16 * t + i) = uM 10 (16 * t + i) ∧ uC 12 (16 * t + i) = uM 11 (16 * t + i) ∧ uC 13 (16 * t + i) = uM 12 (16 * t + i) ∧ uC 14 (16 * t + i) = uM 13 (16 * t + i)
theorem IvL1.of {uC uM vC vM : Ug} {t : Nat} (h : IvL1 uC uM t) (h1 : vC 10 t = uC 10 t) (h2 : vM 9 t = uM 9 t) (h3 : ∀ x, 11 ≤ x ∧ x ≤ 14 → ∀ i, i < 16 → vC x (16 * t + i) = uC x (16 * t + i)) (h4 : ∀ x, 10 ≤ x ∧ x ≤ 13 → ∀ i, i < 16 → vM x (16 * t + i) = uM x (16 * t + i)) : IvL1 vC vM t := by
  obtain ⟨n, hn, e1, e2, e3⟩ := h
  refine ⟨n, hn, h1.trans e1, h2.trans e2, fun i hi => ?_⟩
  rw [h3 11 (by omega) i (by omega), h3 12 (by omega) i (by omega), h3 13 (by omega) i (by omega), h3 14 (by omega) i (by omega), h4 10 (by omega) i (by omega), h4 11 (by omega) i (by omega), h4 12 (by omega) i (by omega), h4 13 (by omega) i (by omega)]
  exact e3 i hi
