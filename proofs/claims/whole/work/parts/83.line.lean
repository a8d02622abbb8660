/-! PURE: a RUN: any LINE. -/
section
variable {σ : Nat → Int32} {uC uM : Ug}
theorem both_told (h : OnR σ uC uM) (hE : RE uC uM) {s t j w : Nat} (hs : s < 96) (ht : t < 6) (hj : j < 16) (hw : w < 14) (w1 : w ≠ 1) (e1 : uC 11 s = nI w) (e2 : uC 11 s = uM 10 (16 * t + j)) (e3 : uC 12 s = uM 11 (16 * t + j)) (e4 : uC 13 s = uM 12 (16 * t + j)) (e5 : uC 14 s = uM 13 (16 * t + j)) : Told σ uC uM (fC_Runner_asTold (nI s) uC) (fM_isAsTold (nI t) (nI j) uM) := by
  unfold fC_Runner_asTold fM_isAsTold
  have es : (16 : Int32) * nI t + nI j = nI (16 * t + j) := by rw [lit_16, pk_mul, nI_add]
  rw [C_sa hs, es, pu_rd (show 16 * t + j < 96 by omega) (by omega)]
  simp only [Option.bind_some]
  rw [C_sb hs, pu_rd (show 16 * t + j < 96 by omega) (by omega)]
  simp only [Option.bind_some]
  rw [C_sword hs, pu_rd (show 16 * t + j < 96 by omega) (by omega)]
  simp only [Option.bind_some]
  rw [pu_rd (show 16 * t + j < 96 by omega) (by omega)]
  simp only [Option.bind_some]
  rw [C_sc hs]
  simp only [Option.bind_some]
  rw [← e2, ← e3, ← e4, ← e5, e1]
  have L : ∀ k : Nat, w = k → k < 14 → nI w = nI k := fun k e _ => by rw [e]
  have N : ∀ k : Nat, w ≠ k → k < 14 → ¬ nI w = nI k := fun k e hk z => e ((nI_eq (by omega) (by omega)).mp z)
  by_cases c0 : w = 0
  · have q : nI w = (0 : Int32) := L 0 c0 (by decide)
    rw [if_pos q, if_pos q]
    exact (told_by h _ _).bindC gz1
  have q0 : ¬ nI w = (0 : Int32) := N 0 c0 (by decide)
  have q1 : ¬ nI w = (1 : Int32) := N 1 w1 (by decide)
  rw [if_neg q0, if_neg q0, if_neg q1]
  by_cases c2 : w = 2
  · have q : nI w = (2 : Int32) := L 2 c2 (by decide)
    rw [if_pos q, if_pos q]
    exact told_gives h _
  have q2 : ¬ nI w = (2 : Int32) := N 2 c2 (by decide)
  rw [if_neg q2, if_neg q2]
  by_cases c3 : w = 3
  · have q : nI w = (3 : Int32) := L 3 c3 (by decide)
    rw [if_pos q, if_pos q]
    exact told_throws h _ _
  have q3 : ¬ nI w = (3 : Int32) := N 3 c3 (by decide)
  rw [if_neg q3, if_neg q3]
  by_cases c4 : w = 4
  · have q : nI w = (4 : Int32) := L 4 c4 (by decide)
    rw [if_pos q, if_pos q]
    exact told_within h _
  have q4 : ¬ nI w = (4 : Int32) := N 4 c4 (by decide)
  rw [if_neg q4, if_neg q4]
  by_cases c5 : w = 5
  · have q : nI w = (5 : Int32) := L 5 c5 (by decide)
    rw [if_pos q, if_pos q]
    exact told_coins h _ _
  have q5 : ¬ nI w = (5 : Int32) := N 5 c5 (by decide)
  rw [if_neg q5, if_neg q5]
  by_cases c6 : w = 6
  · have q : nI w = (6 : Int32) := L 6 c6 (by decide)
    rw [if_pos q, if_pos q]
    exact (told_cell h hE _ _ _).bindC gz1
  have q6 : ¬ nI w = (6 : Int32) := N 6 c6 (by decide)
  rw [if_neg q6, if_neg q6]
  by_cases c7 : w = 7
  · have q : nI w = (7 : Int32) := L 7 c7 (by decide)
    rw [if_pos q, if_pos q]
    exact (told_event h _ _).bindC gz1
  have q7 : ¬ nI w = (7 : Int32) := N 7 c7 (by decide)
  rw [if_neg q7, if_neg q7]
  by_cases c8 : w = 8
  · have q : nI w = (8 : Int32) := L 8 c8 (by decide)
    rw [if_pos q, if_pos q]
    exact told_sum h _
  have q8 : ¬ nI w = (8 : Int32) := N 8 c8 (by decide)
  rw [if_neg q8, if_neg q8]
  by_cases c9 : w = 9
  · have q : nI w = (9 : Int32) := L 9 c9 (by decide)
    rw [if_pos q, if_pos q]
    exact (told_age h _).bindC gz1
  have q9 : ¬ nI w = (9 : Int32) := N 9 c9 (by decide)
  rw [if_neg q9, if_neg q9]
  by_cases c10 : w = 10
  · have q : nI w = (10 : Int32) := L 10 c10 (by decide)
    rw [if_pos q, if_pos q]
    exact (told_fork h _).bind gz1 gz1
  have q10 : ¬ nI w = (10 : Int32) := N 10 c10 (by decide)
  rw [if_neg q10, if_neg q10]
  by_cases c11 : w = 11
  · have q : nI w = (11 : Int32) := L 11 c11 (by decide)
    rw [if_pos q, if_pos q]
    exact (told_back h _).bind gz1 gz1
  have q11 : ¬ nI w = (11 : Int32) := N 11 c11 (by decide)
  rw [if_neg q11, if_neg q11]
  by_cases c12 : w = 12
  · have q : nI w = (12 : Int32) := L 12 c12 (by decide)
    rw [if_pos q, if_pos q]
    exact (told_answers h _ _).bind gz1 gz1
  have q12 : ¬ nI w = (12 : Int32) := N 12 c12 (by decide)
  rw [if_neg q12, if_neg q12]
  have q : nI w = (13 : Int32) := L 13 (by omega) (by decide)
  rw [if_pos q]
  exact (told_fails h _ _).bind gz1 gz1
/-- how many LINES are not left out, ahead of the i-th -/
def kp (mk : Int32) : Nat → Nat
  | 0 => 0
  | i + 1 => kp mk i + if loB mk i = true then 0 else 1
theorem kp_le {mk : Int32} : ∀ i, kp mk i ≤ i := by
  intro i
  induction i with
  | zero => exact Nat.le_refl _
  | succ i ih =>
    show kp mk i + (if loB mk i = true then 0 else 1) ≤ i + 1
    by_cases b : loB mk i = true
    · rw [if_pos b]; omega
    · rw [if_neg b]; omega
theorem kp_mono {mk : Int32} {i : Nat} : ∀ d, kp mk i ≤ kp mk (i + d) := by
  intro d
  induction d with
  | zero => exact Nat.le_refl _
  | succ d ih => exact Nat.le_trans ih (Nat.le_add_right _ _)
theorem kp_in {mk : Int32} {i : Nat} (b : loB mk i = true) : kp mk (i + 1) = kp mk i := by
  show kp mk i + (if loB mk i = true then 0 else 1) = _
  rw [if_pos b]; rfl
theorem kp_out {mk : Int32} {i : Nat} (b : ¬ loB mk i = true) : kp mk (i + 1) = kp mk i + 1 := by
  show kp mk i + (if loB mk i = true then 0 else 1) = _
  rw [if_neg b]
theorem kp_lt {mk : Int32} {i n : Nat} (b : ¬ loB mk i = true) (h : i < n) : kp mk i < kp mk n := by
  have := kp_mono (mk := mk) (i := i + 1) (n - (i + 1))
  rw [kp_out b, show i + 1 + (n - (i + 1)) = n by omega] at this
  omega
/-- the LINES of a TEST: those not left out, in the reference -/
def LnR (uC uM : Ug) (t n : Nat) (mk : Int32) : Prop := t < 6 ∧ n ≤ 16 ∧ uC 10 t = nI n ∧ uM 9 t = nI (kp mk n) ∧ ∀ i, i < n → ¬ loB mk i = true → (∃ w : Nat, w < 14 ∧ uC 11 (16 * t + i) = nI w) ∧ uC 11 (16 * t + i) = uM 10 (16 * t + kp mk i) ∧ uC 12 (16 * t + i) = uM 11 (16 * t + kp mk i) ∧ uC 13 (16 * t + i) = uM 12 (16 * t + kp mk i) ∧ uC 14 (16 * t + i) = uM 13 (16 * t + kp mk i)
theorem LnR.of {vC vM : Ug} {t n : Nat} {mk : Int32} (h : LnR uC uM t n mk) (hC : KpC uC vC) (hM : KpM uM vM) : LnR vC vM t n mk := by
  unfold LnR
  rw [hC 10 (by omega), hC 11 (by omega), hC 12 (by omega), hC 13 (by omega), hC 14 (by omega), hM 9 (by omega), hM 10 (by omega), hM 11 (by omega), hM 12 (by omega), hM 13 (by omega)]
  exact h
theorem C_next {t n : Nat} {mk x : Int32} (hL : LnR uC uM t n mk) : ∀ (d q i : Nat), i + d = n → d < q → kC_Runner_nextIsThrows q (nI t) x mk (nI n) (nI i) uC = some (if kp mk n ≤ kp mk i then 0 else if uM 10 (16 * t + kp mk i) = 3 then 1 else 0, uC) := by
  obtain ⟨ht, hn, l1, l2, l3⟩ := hL
  intro d
  induction d with
  | zero =>
    intro q i hi hq
    obtain ⟨q, rfl⟩ : ∃ q', q = q' + 1 := ⟨q - 1, by omega⟩
    show sC_Runner_nextIsThrows_15 _ _ _ _ _ _ _ = _
    unfold sC_Runner_nextIsThrows_15
    have e : i = n := by omega
    subst e
    rw [if_pos (nI_le (by omega) (by omega)), if_pos (Nat.le_refl _)]
  | succ d ih =>
    intro q i hi hq
    obtain ⟨q, rfl⟩ : ∃ q', q = q' + 1 := ⟨q - 1, by omega⟩
    show sC_Runner_nextIsThrows_15 (kC_Runner_nextIsThrows q) _ _ _ _ _ _ = _
    unfold sC_Runner_nextIsThrows_15
    rw [if_neg (nI_ge (by omega) (by omega)), lo_iff (by omega)]
    by_cases b : loB mk i = true
    · rw [if_pos b, if_neg (show ¬ ((1 : Int32) = 0) by decide), nI_1, ih q (i + 1) (by omega) (by omega), kp_in b]
    · obtain ⟨-, m1, -⟩ := l3 i (by omega) b
      have hlt := kp_lt b (show i < n by omega)
      rw [if_neg b, if_pos rfl, C_slotOf_ok ht l1 hn (by omega)]
      simp only [Option.bind_some]
      rw [C_sword (by omega)]
      simp only [Option.bind_some]
      rw [m1, if_neg (show ¬ kp mk n ≤ kp mk i by omega)]
      by_cases z : uM 10 (16 * t + kp mk i) = 3
      · rw [if_pos z, if_pos z]
      · rw [if_neg z, if_neg z]
theorem told_call (h : OnR σ uC uM) (hE : RE uC uM) {t n i : Nat} {mk : Int32} (hL : LnR uC uM t n mk) (hi : i < n) (b : ¬ loB mk i = true) (hw : uC 11 (16 * t + i) = nI 1) : Told σ uC uM (fC_Runner_doesCall (nI t) (nI i) mk uC) (fM_isAsTold (nI t) (nI (kp mk i)) uM) := by
  obtain ⟨ht, hn, l1, l2, l3⟩ := id hL
  obtain ⟨-, m1, m2, m3, m4⟩ := l3 i hi b
  have hj := kp_lt b hi
  have hjn := kp_le (mk := mk) n
  unfold fC_Runner_doesCall fM_isAsTold
  have es : (16 : Int32) * nI t + nI (kp mk i) = nI (16 * t + kp mk i) := by rw [lit_16, pk_mul, nI_add]
  rw [C_slotOf_ok ht l1 hn hi, es, pu_rd (show 16 * t + kp mk i < 96 by omega) (by omega)]
  simp only [Option.bind_some]
  rw [C_sa (by omega), pu_rd (show 16 * t + kp mk i < 96 by omega) (by omega)]
  simp only [Option.bind_some]
  rw [C_sb (by omega), pu_rd (show 16 * t + kp mk i < 96 by omega) (by omega)]
  simp only [Option.bind_some]
  rw [pu_rd (show 16 * t + kp mk i < 96 by omega) (by omega)]
  simp only [Option.bind_some]
  rw [← m1, ← m2, ← m3, ← m4, hw, if_neg (show ¬ nI 1 = (0 : Int32) by decide), if_pos (show nI 1 = (1 : Int32) from rfl)]
  unfold fM_calls
  obtain ⟨⟨k, hk4, hkC, hkM⟩, -⟩ := id hE
  generalize uC 12 (16 * t + i) = x2
  generalize uC 13 (16 * t + i) = x3
  have hmem : ((x2 < 0 ∨ nI k ≤ x2) ∨ (x3 < 0 ∨ nI 3 ≤ x3)) ∨ ∃ c m : Nat, c < k ∧ m < 3 ∧ x2 = nI c ∧ x3 = nI m := by
    rcases arg_ix x2 k (by omega) with q | ⟨c, hc, e1⟩
    · exact Or.inl (Or.inl q)
    · rcases arg_ix x3 3 (by decide) with q | ⟨m, hm, e2⟩
      · exact Or.inl (Or.inr q)
      · exact Or.inr ⟨c, m, hc, hm, e1, e2⟩
  rcases hmem with hno | ⟨c, m, hc, hm, rfl, rfl⟩
  · rw [C_placeOf_no hkC hno, M_isMember_no hkM hk4 hno]
    exact Told.no h
  rw [C_placeOf_ok hkC hk4 hc hm, M_isMember_ok hkM hk4 hc hm]
  simp only [Option.bind_some]
  rw [if_pos (nI_pos' (show 3 * c + m < 2 ^ 31 by omega)), if_neg (show ¬ ((1 : Int32) = 0) by decide), C_sc (by omega), show sbO uM 39 1 = some (wr uM 39 0 1) from rfl]
  simp only [Option.bind_some]
  obtain ⟨h1, h2, h3, h4, h5, ⟨⟨by_, hb, b1, b2⟩, hwi⟩, h7⟩ := h
  obtain ⟨sz, hEn, hCE, hMX⟩ := hE.env h3
  have hM9 : ∀ r, r ≠ 39 → wr uM 39 0 1 r = uM r := fun r hr => wr_n hr
  have hMX' : MX (wr uM 39 0 1) (uC 3) (uC 4) (uC 5) sz (uC 6) (uC 7) (uC 8) := by
    unfold MX
    rw [hM9 33 (by decide), hM9 32 (by decide), hM9 3 (by decide), hM9 4 (by decide), hM9 5 (by decide), hM9 2 (by decide), hM9 7 (by decide), hM9 30 (by decide), hM9 31 (by decide)]
    exact hMX
  rw [hM9 37 (by decide), hM9 38 (by decide), b1, b2, ← hwi, lit_3, pk_mul, nI_add]
  obtain ⟨vC, vM, e1, e2, hO, hT, rC_, rM_⟩ := both_out (uC := uC) (uM := wr uM 39 0 1) (arg := uC 14 (16 * t + i)) (co := uC 25 0) hEn hb (show 3 * c + m < 12 by omega) (h1.of (fun r hr => rfl) (fun r hr => hM9 r (by omega))) hCE hMX'
  rw [e1, e2]
  simp only [Option.bind_some]
  rw [show sbO vC 28 1 = some (wr vC 28 0 1) from rfl]
  simp only [Option.bind_some]
  have eC : ∀ r, r ≠ 0 → r ≠ 2 → r ≠ 9 → r ≠ 28 → ¬ (19 ≤ r ∧ r ≤ 23) → wr vC 28 0 1 r = uC r := fun r a b c d e => by rw [wr_n d]; exact rC_ r a b c e
  have eM : ∀ r, r ≠ 0 → r ≠ 6 → r ≠ 8 → r ≠ 39 → ¬ (14 ≤ r ∧ r ≤ 29) → vM r = uM r := fun r a b c d e => by rw [rM_ r a b c e]; exact hM9 r d
  have kC : KpC uC (wr vC 28 0 1) := fun r hr => eC r (by omega) (by omega) (by omega) (by omega) (by omega)
  have kM : KpM uM vM := fun r hr => eM r (by omega) (by omega) (by omega) (by omega) (by omega)
  have hR : OnR σ (wr vC 28 0 1) vM := by
    refine ⟨hO.of (fun r hr => wr_n (by omega)) (fun r hr => rfl), hT.of (fun r hr => wr_n (by omega)) (fun r hr => rfl), h3.of (fun r hr => eC r (by omega) (by omega) (by omega) (by omega) (by omega)) (fun r hr => eM r (by omega) (by omega) (by omega) (by omega) (by omega)), h4.of (fun r hr => eC r (by omega) (by omega) (by omega) (by omega) (by omega)) (fun r hr => eM r (by omega) (by omega) (by omega) (by omega) (by omega)), h5.of (fun r hr => eC r (by omega) (by omega) (by omega) (by omega) (by omega)) (eM _ (by omega) (by omega) (by omega) (by omega) (by omega)), ⟨⟨by_, hb, ?_, ?_⟩, ?_⟩, ?_⟩
    · rw [eC 24 (by decide) (by decide) (by decide) (by decide) (by decide)]; exact b1
    · rw [eM 37 (by decide) (by decide) (by decide) (by decide) (by decide)]; exact b2
    · rw [eC 25 (by decide) (by decide) (by decide) (by decide) (by decide), eM 38 (by decide) (by decide) (by decide) (by decide) (by decide)]; exact hwi
    · rw [wr_s, upd_s, rM_ 39 (by decide) (by decide) (by decide) (by decide), wr_s, upd_s]
  have hL2 := hL.of kC kM
  obtain ⟨-, -, p1, p2, -⟩ := id hL2
  have ej : nI (kp mk i) + (1 : Int32) = nI (kp mk i + 1) := nI_1 _
  have es2 : (16 : Int32) * nI t + nI (kp mk i) + (1 : Int32) = nI (16 * t + (kp mk i + 1)) := by rw [es, nI_1]; rfl
  rw [C_threw, pu_rd ht (by omega), p2, ej, es2]
  simp only [Option.bind_some]
  have et : wr vC 28 0 1 21 0 = vM 27 0 := by rw [wr_n (by decide)]; exact hT.2.1
  rw [et]
  have fin : ∀ x : Int32, x = 0 ∨ x = 1 → Told σ uC uM (some (x, wr vC 28 0 1)) (some (x, vM)) := fun x hx => ⟨x, _, _, hx, rfl, rfl, hR, kC, kM⟩
  by_cases t0 : vM 27 0 = 0
  · rw [if_pos t0, if_pos rfl]
    by_cases z : nI (kp mk n) ≤ nI (kp mk i + 1)
    · rw [if_pos z, if_pos t0]; exact fin 1 (Or.inr rfl)
    · have z2 : kp mk i + 1 < kp mk n := Nat.lt_of_not_le (fun q : kp mk n ≤ kp mk i + 1 => z (nI_le q (by omega)))
      rw [if_neg z, pu_rd (show 16 * t + (kp mk i + 1) < 96 by omega) (by omega)]
      simp only [Option.bind_some]
      rw [if_pos t0, if_pos t0, ite_self]; exact fin 1 (Or.inr rfl)
  · rw [if_neg t0, if_neg (show ¬ ((1 : Int32) = 0) by decide)]
    unfold fC_Runner_nextIsThrows fC_Scripts_size
    rw [if_neg (show ¬ nI t < 0 by rw [lit_0]; exact nI_nlt (Nat.zero_le _) (by omega)), if_neg (show ¬ (6 : Int32) ≤ nI t by rw [lit_6]; exact nI_ge ht (by omega)), pu_rd ht (by omega), p1]
    simp only [Option.bind_some]
    rw [nI_1, C_next hL2 (n - (i + 1)) 4096 (i + 1) (by omega) (by omega), kp_out b]
    simp only [Option.bind_some]
    by_cases z : kp mk n ≤ kp mk i + 1
    · rw [if_pos z, if_pos (nI_le z (by omega)), if_neg t0]; exact fin 0 (Or.inl rfl)
    · rw [if_neg z, if_neg (nI_ge (show kp mk i + 1 < kp mk n by omega) (by omega)), pu_rd (show 16 * t + (kp mk i + 1) < 96 by omega) (by omega)]
      simp only [Option.bind_some]
      by_cases y : vM 10 (16 * t + (kp mk i + 1)) = 3
      · rw [if_pos y, if_pos (show vM 10 (16 * t + (kp mk i + 1)) = nI 3 from y), if_neg t0]; exact fin 1 (Or.inr rfl)
      · rw [if_neg y, if_neg (show ¬ vM 10 (16 * t + (kp mk i + 1)) = nI 3 from y), if_neg t0]; exact fin 0 (Or.inl rfl)
end
