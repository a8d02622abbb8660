/-! PURE: a LINE is left out: in the class a bit, in the reference the LINE is removed, and may be given back. -/
theorem or_eq {mk : Int32} {i : Nat} (hi : i < 32) : (mk ||| ((1 : Int32) <<< (nI i &&& 31))) = mk ↔ loB mk i = true := by
  constructor
  · intro e
    have := lo_or (m := mk) hi hi
    rw [e] at this
    rw [this]; simp
  · intro b
    apply Int32.toBitVec_inj.mp
    apply BitVec.eq_of_getLsbD_eq
    intro j hj
    have e := lo_or (m := mk) hi hj
    show loB _ j = loB mk j
    rw [e]
    by_cases q : j = i
    · subst q; rw [b]; rfl
    · simp [q]
section
variable {mk : Int32} {i : Nat}
theorem kp_or_le (hi : i < 32) : ∀ q, q ≤ i → kp (mk ||| ((1 : Int32) <<< (nI i &&& 31))) q = kp mk q := by
  intro q
  induction q with
  | zero => intro _; rfl
  | succ q ih =>
    intro hq
    have e := lo_or (m := mk) hi (show q < 32 by omega)
    have d : decide (q = i) = false := by simp; omega
    rw [d, Bool.or_false] at e
    show kp _ q + (if loB _ q = true then 0 else 1) = kp mk q + (if loB mk q = true then 0 else 1)
    rw [ih (by omega), e]
theorem kp_or_gt (hi : i < 32) (b : ¬ loB mk i = true) : ∀ d, i + 1 + d ≤ 32 → kp (mk ||| ((1 : Int32) <<< (nI i &&& 31))) (i + 1 + d) + 1 = kp mk (i + 1 + d) := by
  intro d
  induction d with
  | zero =>
    intro _
    have e := lo_or (m := mk) hi hi
    rw [show decide (i = i) = true by simp, Bool.or_true] at e
    show kp _ (i + 1) + 1 = kp mk (i + 1)
    rw [kp_in e, kp_out b, kp_or_le hi i (Nat.le_refl _)]
  | succ d ih =>
    intro hd
    have e := lo_or (m := mk) hi (show i + 1 + d < 32 by omega)
    have z : decide (i + 1 + d = i) = false := by simp; omega
    rw [z, Bool.or_false] at e
    have := ih (by omega)
    show kp _ (i + 1 + d) + (if loB _ (i + 1 + d) = true then 0 else 1) + 1 = kp mk (i + 1 + d) + (if loB mk (i + 1 + d) = true then 0 else 1)
    rw [e]
    omega
theorem kp_or (hi : i < 32) (b : ¬ loB mk i = true) {q : Nat} (hq : q ≤ 32) (h : i < q) : kp (mk ||| ((1 : Int32) <<< (nI i &&& 31))) q + 1 = kp mk q := by
  have := kp_or_gt (mk := mk) hi b (q - (i + 1)) (by omega)
  rw [show i + 1 + (q - (i + 1)) = q by omega] at this
  exact this
theorem kp_inj {j : Nat} (hi : ¬ loB mk i = true) (hj : ¬ loB mk j = true) (e : kp mk i = kp mk j) : i = j := by
  rcases Nat.lt_trichotomy i j with h | h | h
  · have := kp_lt hi h; omega
  · exact h
  · have := kp_lt hj h; omega
theorem kp_surj : ∀ n p, p < kp mk n → ∃ q, q < n ∧ ¬ loB mk q = true ∧ kp mk q = p := by
  intro n
  induction n with
  | zero => intro p hp; exact absurd hp (Nat.not_lt_zero _)
  | succ n ih =>
    intro p hp
    by_cases b : loB mk n = true
    · rw [kp_in b] at hp
      obtain ⟨q, h1, h2, h3⟩ := ih p hp
      exact ⟨q, by omega, h2, h3⟩
    · rw [kp_out b] at hp
      by_cases e : p = kp mk n
      · exact ⟨n, by omega, b, e.symm⟩
      · obtain ⟨q, h1, h2, h3⟩ := ih p (by omega)
        exact ⟨q, by omega, h2, h3⟩
theorem Same.iff {n i0 : Nat} {rC rM : Int32} (h : Same mk n rC rM) (hn : n ≤ 16) (h0 : i0 < n) (b : ¬ loB mk i0 = true) : rC = nI i0 ↔ rM = nI (kp mk i0) := by
  have k0 := kp_le (mk := mk) i0
  rcases h with ⟨e1, e2⟩ | ⟨q, hq, hb, e1, e2⟩
  · rw [e1, e2]
    constructor
    · intro e
      have := pu_ne_m1 (show i0 < 2 ^ 31 by omega)
      exact absurd e.symm (by rw [this]; exact id)
    · intro e
      have := pu_ne_m1 (show kp mk i0 < 2 ^ 31 by omega)
      exact absurd e.symm (by rw [this]; exact id)
  · have k1 := kp_le (mk := mk) q
    rw [e1, e2, nI_eq (by omega) (by omega), nI_eq (by omega) (by omega)]
    constructor
    · intro e; rw [e]
    · intro e; exact kp_inj hb b e
end
def putL (u : Ug) (a b : Nat) : Ug := wr (wr (wr (wr u 10 a (u 10 b)) 11 a (u 11 b)) 12 a (u 12 b)) 13 a (u 13 b)
theorem putL_n {u : Ug} {a b r : Nat} (h : ¬ (10 ≤ r ∧ r ≤ 13)) : putL u a b r = u r := by
  unfold putL
  rw [wr_n (by omega), wr_n (by omega), wr_n (by omega), wr_n (by omega)]
theorem putL_s {u : Ug} {a b r : Nat} (h : 10 ≤ r ∧ r ≤ 13) : putL u a b r = upd (u r) a (u r b) := by
  unfold putL
  rcases (show r = 10 ∨ r = 11 ∨ r = 12 ∨ r = 13 by omega) with rfl | rfl | rfl | rfl
  · rw [wr_n (by decide), wr_n (by decide), wr_n (by decide), wr_s]
  · rw [wr_n (by decide), wr_n (by decide), wr_s, wr_n (by decide)]
  · rw [wr_n (by decide), wr_s, wr_n (by decide), wr_n (by decide)]
  · rw [wr_s, wr_n (by decide), wr_n (by decide), wr_n (by decide)]
theorem M_put {u : Ug} {a b : Nat} (ha : a < 96) (hb : b < 96) : fM_put (nI a) (nI b) u = some (0, putL u a b) := by
  unfold fM_put
  rw [pu_rd hb (by omega), Option.bind_some, pu_wr ha (by omega), Option.bind_some, pu_rd hb (by omega), Option.bind_some, pu_wr ha (by omega), Option.bind_some, pu_rd hb (by omega), Option.bind_some, pu_wr ha (by omega), Option.bind_some, pu_rd hb (by omega), Option.bind_some, pu_wr ha (by omega), Option.bind_some]
  rw [wr_n (show (11 : Nat) ≠ 10 by decide), wr_n (show (12 : Nat) ≠ 11 by decide), wr_n (show (12 : Nat) ≠ 10 by decide), wr_n (show (13 : Nat) ≠ 12 by decide), wr_n (show (13 : Nat) ≠ 11 by decide), wr_n (show (13 : Nat) ≠ 10 by decide)]
  rfl
theorem M_rem_loop {t q : Nat} {x2 x3 : Int32} (ht : t < 6) (hq : q ≤ 16) : ∀ (d n a : Nat) (u : Ug), a + d + 1 = q → d < n → u 9 t = nI q → ∃ v : Ug, kM_remove n (nI t) x2 x3 (nI a) u = some (0, v) ∧ v 9 = upd (u 9) t (nI (q - 1)) ∧ (∀ x, 10 ≤ x ∧ x ≤ 13 → ∀ p, v x p = if 16 * t + a ≤ p ∧ p + 1 < 16 * t + q then u x (p + 1) else u x p) ∧ ∀ r, r ≠ 9 → ¬ (10 ≤ r ∧ r ≤ 13) → v r = u r := by
  intro d
  induction d with
  | zero =>
    intro n a u ha hn h9
    obtain ⟨n, rfl⟩ : ∃ n', n = n' + 1 := ⟨n - 1, by omega⟩
    refine ⟨wr u 9 t (nI (q - 1)), ?_, wr_s, fun x hx p => ?_, fun r hr _ => wr_n hr⟩
    · show sM_remove_58 (kM_remove n) _ _ _ _ _ = _
      unfold sM_remove_58
      rw [pu_rd ht (by omega), Option.bind_some, h9, nI_1, if_pos (nI_le (by omega) (by omega)), Option.bind_some, lit_1, pk_sub (by omega), pu_wr ht (by omega), Option.bind_some]
    · rw [wr_n (by omega), if_neg (by omega)]
  | succ d ih =>
    intro n a u ha hn h9
    obtain ⟨n, rfl⟩ : ∃ n', n = n' + 1 := ⟨n - 1, by omega⟩
    obtain ⟨v, e1, e2, e3, e4⟩ := ih n (a + 1) (putL u (16 * t + a) (16 * t + a + 1)) (by omega) (by omega) (by rw [putL_n (by decide)]; exact h9)
    refine ⟨v, ?_, by rw [e2, putL_n (by decide)], fun x hx p => ?_, fun r hr hr2 => by rw [e4 r hr hr2, putL_n hr2]⟩
    · show sM_remove_58 (kM_remove n) _ _ _ _ _ = _
      unfold sM_remove_58
      have es : (16 : Int32) * nI t + nI a = nI (16 * t + a) := by rw [lit_16, pk_mul, nI_add]
      rw [pu_rd ht (by omega), Option.bind_some, h9, nI_1, if_neg (nI_ge (by omega) (by omega)), es, nI_1, M_put (by omega) (by omega), Option.bind_some]
      exact e1
    · rw [e3 x hx p, putL_s hx]
      by_cases c1 : p = 16 * t + a
      · subst c1
        rw [if_neg (by omega), if_pos (by omega), upd_s]
      · by_cases c2 : 16 * t + a ≤ p ∧ p + 1 < 16 * t + q
        · rw [if_pos c2, if_pos (by omega), upd_n (by omega)]
        · rw [if_neg c2, if_neg (by omega), upd_n c1]
theorem M_remove {t q j : Nat} {u : Ug} (ht : t < 6) (hq : q ≤ 16) (hj : j < q) (h9 : u 9 t = nI q) : ∃ v : Ug, fM_remove (nI t) (nI j) u = some (0, v) ∧ v 9 = upd (u 9) t (nI (q - 1)) ∧ (∀ x, 10 ≤ x ∧ x ≤ 13 → ∀ p, v x p = if 16 * t + j ≤ p ∧ p + 1 < 16 * t + q then u x (p + 1) else u x p) ∧ (∀ r, r ≠ 9 → ¬ (10 ≤ r ∧ r ≤ 13) → r ≠ 42 → v r = u r) ∧ ∀ x, 10 ≤ x ∧ x ≤ 13 → v 42 (x - 10) = u x (16 * t + j) := by
  obtain ⟨w, hw⟩ : ∃ w : Ug, w = wr (wr (wr (wr u 42 0 (u 10 (16 * t + j))) 42 1 (u 11 (16 * t + j))) 42 2 (u 12 (16 * t + j))) 42 3 (u 13 (16 * t + j)) := ⟨_, rfl⟩
  have wn : ∀ r, r ≠ 42 → w r = u r := fun r hr => by rw [hw, wr_n hr, wr_n hr, wr_n hr, wr_n hr]
  obtain ⟨v, e1, e2, e3, e4⟩ := M_rem_loop (x2 := nI j) (x3 := nI (16 * t + j)) ht hq (q - j - 1) 4096 j w (by omega) (by omega) (by rw [wn 9 (by decide)]; exact h9)
  refine ⟨v, ?_, by rw [e2, wn 9 (by decide)], fun x hx p => by rw [e3 x hx p, wn x (by omega)], fun r h1 h2 h3 => by rw [e4 r h1 h2, wn r h3], fun x hx => ?_⟩
  · unfold fM_remove
    have es : (16 : Int32) * nI t + nI j = nI (16 * t + j) := by rw [lit_16, pk_mul, nI_add]
    rw [es, pu_rd (show 16 * t + j < 96 by omega) (by omega), Option.bind_some, lit_0, pu_wr (by decide) (by decide), Option.bind_some, pu_rd (show 16 * t + j < 96 by omega) (by omega), Option.bind_some, lit_1, pu_wr (by decide) (by decide), Option.bind_some, pu_rd (show 16 * t + j < 96 by omega) (by omega), Option.bind_some, lit_2, pu_wr (by decide) (by decide), Option.bind_some, pu_rd (show 16 * t + j < 96 by omega) (by omega), Option.bind_some, lit_3, pu_wr (by decide) (by decide), Option.bind_some]
    rw [wr_n (show (11 : Nat) ≠ 42 by decide), wr_n (show (12 : Nat) ≠ 42 by decide), wr_n (show (12 : Nat) ≠ 42 by decide), wr_n (show (13 : Nat) ≠ 42 by decide), wr_n (show (13 : Nat) ≠ 42 by decide), wr_n (show (13 : Nat) ≠ 42 by decide), ← hw]
    exact e1
  · rw [e4 42 (by decide) (by decide), hw]
    rcases (show x = 10 ∨ x = 11 ∨ x = 12 ∨ x = 13 by omega) with rfl | rfl | rfl | rfl
    · rw [wr_s, upd_n (by decide), wr_s, upd_n (by decide), wr_s, upd_n (by decide), wr_s, upd_s]
    · rw [wr_s, upd_n (by decide), wr_s, upd_n (by decide), wr_s, upd_s]
    · rw [wr_s, upd_n (by decide), wr_s, upd_s]
    · rw [wr_s, upd_s]
