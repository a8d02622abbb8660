/-! PURE: a CALL from outside is alike in both programs. -/
theorem aOut_ok {kd av bv : Nat → Int32} {sz : Nat → Nat} {bd db nb : Nat → Int32} (hE : EnOk kd av sz bd db nb) {by_ m : Nat} {arg coins : Int32} {σ cov : Nat → Int32} {ia : Nat} (hb : by_ < 12) (hm : m < 12) (hS : SgOk σ) (hia : ia ≤ 20000) : StOk (aOut kd av bv sz bd db nb by_ m arg coins σ cov ia).2.1 ∧ ThOk (aOut kd av bv sz bd db nb by_ m arg coins σ cov ia).2.2.1 := by
  by_cases c1 : 20000 ≤ ia
  · rw [aOut_1 c1]; exact ⟨⟨hS, hia, Nat.zero_le _⟩, ThOk.of (k := 7) (by decide) (by decide)⟩
  by_cases p0 : (aPay σ by_ (8 + m / 3) coins).1 = 0
  · rw [aOut_3 c1 p0]
    have hS2 : StOk ((aPay σ by_ (8 + m / 3) coins).2, cov, ia + 1, 0) := ⟨aPay_ok hb (by omega) hS, by show ia + 1 ≤ _; omega, Nat.zero_le _⟩
    have h1 := aBlock_ok (bv := bv) hE 40 m 0 (sz m) arg 1 _ hm (hE.2.1 m hm) hS2
    have h2 := aBlock_th (bv := bv) hE 40 m 0 (sz m) arg 1 ((aPay σ by_ (8 + m / 3) coins).2, cov, ia + 1, 0) hm (hE.2.1 m hm)
    generalize aBlock kd av bv sz bd db nb 40 m 0 (sz m) arg 1 ((aPay σ by_ (8 + m / 3) coins).2, cov, ia + 1, 0) = r at h1 h2 ⊢
    by_cases r0 : r.2.2.1 = 0
    · rw [if_pos r0]; exact ⟨h1, h2⟩
    · rw [if_neg r0]; exact ⟨⟨hS, h1.2⟩, h2⟩
  · rw [aOut_2 c1 p0]
    refine ⟨⟨hS, by show ia + 1 ≤ _; omega, Nat.zero_le _⟩, ?_⟩
    show ThOk (aPay σ by_ (8 + m / 3) coins).1
    rcases aPay_th (σ := σ) (fr := by_) (to := 8 + m / 3) (n := coins) with h | h | h
    · exact absurd h p0
    · rw [h]; exact ThOk.of (k := 1) (by decide) (by decide)
    · rw [h]; exact ThOk.of (k := 2) (by decide) (by decide)
/-- what a CALL needs of both, and leaves so -/
def OnC (uC uM : Ug) : Prop := uC 0 = uM 0 ∧ SgOk (uC 0) ∧ uC 2 = uM 6 ∧ ∃ ia : Nat, ia ≤ 20000 ∧ uC 19 0 = nI ia ∧ uM 8 0 = nI ia
theorem both_out {kd av bv : Nat → Int32} {sz : Nat → Nat} {bd db nb : Nat → Int32} (hE : EnOk kd av sz bd db nb) {uC uM : Ug} {by_ pl : Nat} {arg co : Int32} (hb : by_ < 12) (hp : pl < 12) (hO : OnC uC uM) (hC : CE uC kd av bv sz bd db nb) (hM : MX uM kd av bv sz bd db nb) :
    ∃ vC vM : Ug, fC_Machine_callFromOutside (nI by_) (nI pl) arg co uC = some (0, vC) ∧ fM_outside (nI by_) (nI pl) arg co uM = some (0, vM) ∧ OnC vC vM ∧ IvT vC vM ∧ (∀ r, r ≠ 0 → r ≠ 2 → r ≠ 9 → ¬ (19 ≤ r ∧ r ≤ 23) → vC r = uC r) ∧ (∀ r, r ≠ 0 → r ≠ 6 → r ≠ 8 → ¬ (14 ≤ r ∧ r ≤ 29) → vM r = uM r) := by
  obtain ⟨e0, hS, e2, ia, hia, i1, i2⟩ := hO
  obtain ⟨vC, c1, c2, c3, c4⟩ := C_outside (arg := arg) (co := co) hE hb hp hS hia i1 hC
  obtain ⟨vM, m1, m2⟩ := M_outside (arg := arg) (co := co) hE hb hp (by rw [← e0]; exact hS) hia i2 hM
  rw [← e0, ← e2] at m2
  have hok := aOut_ok (bv := bv) (arg := arg) (coins := co) (cov := uC 2) hE hb hp hS hia
  generalize aOut kd av bv sz bd db nb by_ pl arg co (uC 0) (uC 2) ia = A at c2 c3 m2 hok
  obtain ⟨x0, x2, x19, x20, x21, x22⟩ := c2
  obtain ⟨y0, y6, y8, y26, y27, y28, y29, yr⟩ := m2
  refine ⟨vC, vM, c1, m1, ⟨by rw [x0, y0], by rw [x0]; exact hok.1.1, by rw [x2, y6], A.2.1.2.2.1, hok.1.2.1, x19, y8⟩, ⟨by rw [c3, y26], by rw [x21, y27], by rw [x22, y28], by rw [x20, y29], by rw [x21]; exact hok.2⟩, fun r a b c d => c4 r a b c (by omega) (by omega) (by omega) (by omega) (by omega), yr⟩
theorem mutS0 {k a b : Int32} : mutS 0 k a b = (k, a, b) := rfl
/-- between calls: the STEPS as they are, no double, no MUTANT -/
theorem Inv.env {uC uM : Ug} (h : Inv uC uM) : ∃ sz : Nat → Nat, EnOk (uC 3) (uC 4) sz (uC 6) (uC 7) (uC 8) ∧ CE uC (uC 3) (uC 4) (uC 5) sz (uC 6) (uC 7) (uC 8) ∧ MX uM (uC 3) (uC 4) (uC 5) sz (uC 6) (uC 7) (uC 8) := by
  obtain ⟨-, ⟨hs, h1⟩, ⟨g3, g4, g5⟩, h2, h3⟩ := h.2.1
  obtain ⟨-, -, hd, hm⟩ := h.2.2.1
  have hsz : ∀ m, m < 12 → uC 1 m = nI (uC 1 m).toNatClampNeg := fun m hm => by
    obtain ⟨n, hn, e⟩ := h1 m hm
    rw [e, nI_clamp (by omega)]
  refine ⟨fun m => (uC 1 m).toNatClampNeg, ⟨fun s hs => (h2 s hs).2.1, fun m hm => ?_, h3.2, fun f hf q => ?_⟩, ⟨rfl, rfl, rfl, hsz, rfl, rfl, rfl⟩, ⟨0, by decide, hm, fun s hs2 => ⟨?_, ?_⟩⟩, fun m hm2 => ?_, fun f hf => ⟨?_, ?_, fun q => ?_, fun q => ?_⟩⟩
  · obtain ⟨n, hn, e⟩ := h1 m hm
    show (uC 1 m).toNatClampNeg ≤ 8
    rw [e, nI_clamp (by omega)]; exact hn
  · rw [(hd f hf).1] at q; exact absurd q (by decide)
  · rw [← g3]; exact (h2 s hs2).1
  · rw [if_neg (fun z => Nat.lt_irrefl 0 z.1), mutS0, ← g3, ← g4, ← g5]
  · rw [← hs]; exact hsz m hm2
  · rw [← h3.1]
  · rw [(hd f hf).1, (hd f hf).2]
  · rw [(hd f hf).1] at q; exact absurd q (by decide)
  · rw [(hd f hf).1] at q; exact absurd q (by decide)
theorem Inv.on {uC uM : Ug} (h : Inv uC uM) : OnC uC uM := ⟨h.1.1, h.1.2, h.2.2.1.1, h.2.2.1.2.1⟩
theorem Alike_call (x1 x2 x3 x4 x5 : Int32) : Alike (fC_call x1 x2 x3 x4 x5) (fM_call x1 x2 x3 x4 x5) := by
  intro uC uM h
  obtain ⟨⟨k, hk4, hkC, hkM⟩, -⟩ := id h.2.1
  have bad : ∀ r : Int32, r = -1 → ∃ (r : Int32) (vC vM : Ug), some ((-1 : Int32), uC) = some (r, vC) ∧ some ((-1 : Int32), uM) = some (r, vM) ∧ Inv vC vM := fun _ _ => ⟨_, _, _, rfl, rfl, h⟩
  unfold fC_call fM_call
  have hmem : ((x2 < 0 ∨ nI k ≤ x2) ∨ (x3 < 0 ∨ nI 3 ≤ x3)) ∨ ∃ c m : Nat, c < k ∧ m < 3 ∧ x2 = nI c ∧ x3 = nI m := by
    rcases arg_ix x2 k (by omega) with q | ⟨c, hc, e1⟩
    · exact Or.inl (Or.inl q)
    · rcases arg_ix x3 3 (by decide) with q | ⟨m, hm, e2⟩
      · exact Or.inl (Or.inr q)
      · exact Or.inr ⟨c, m, hc, hm, e1, e2⟩
  rcases hmem with hno | ⟨c, m, hc, hm, rfl, rfl⟩
  · rw [C_placeOf_no hkC hno]
    simp only [Option.bind_some]
    rw [if_pos (by decide)]
    rcases arg_ix x1 12 (by decide) with hx | ⟨j, hj, rfl⟩
    · rw [M_isAccount_no hx]
      exact bad _ rfl
    · rw [M_isAccount_ok hj]
      simp only [Option.bind_some]
      rw [if_neg (by decide), M_isMember_no hkM hk4 hno]
      exact bad _ rfl
  · rw [C_placeOf_ok hkC hk4 hc hm]
    simp only [Option.bind_some]
    rw [if_neg (by rw [lit_0]; exact nI_nlt (Nat.zero_le _) (by omega))]
    rcases arg_ix x1 12 (by decide) with hx | ⟨j, hj, rfl⟩
    · rw [C_isAccount_no hx, M_isAccount_no hx]
      exact bad _ rfl
    · rw [C_isAccount_ok hj, M_isAccount_ok hj]
      simp only [Option.bind_some]
      rw [if_neg (show ¬ ((1 : Int32) = 0) by decide), if_neg (show ¬ ((1 : Int32) = 0) by decide), M_isMember_ok hkM hk4 hc hm]
      simp only [Option.bind_some]
      rw [if_neg (show ¬ ((1 : Int32) = 0) by decide)]
      by_cases q : (0 : Int32) ≤ x5
      · rw [if_pos q, if_pos q, lit_3, pk_mul, nI_add]
        obtain ⟨sz, hE, hCE, hMX⟩ := h.env
        obtain ⟨vC, vM, e1, e2, hO, hT, rC_, rM_⟩ := both_out (arg := x4) (co := x5) hE hj (show 3 * c + m < 12 by omega) h.on hCE hMX
        rw [e1, e2]
        simp only [Option.bind_some]
        rw [C_threw]
        simp only [Option.bind_some]
        have hI : Inv vC vM := ⟨⟨hO.1, hO.2.1⟩, h.2.1.of (fun r hr => rC_ r (by omega) (by omega) (by omega) (by omega)) (fun r hr => rM_ r (by omega) (by omega) (by omega) (by omega)), ⟨hO.2.2.1, hO.2.2.2, fun f hf => by rw [rC_ 7 (by omega) (by omega) (by omega) (by omega), rM_ 30 (by omega) (by omega) (by omega) (by omega)]; exact h.2.2.1.2.2.1 f hf, by rw [rM_ 33 (by omega) (by omega) (by omega) (by omega)]; exact h.2.2.1.2.2.2⟩, hT, h.2.2.2.2.1.of (fun r hr => rC_ r (by omega) (by omega) (by omega) (by omega)) (fun r hr => rM_ r (by omega) (by omega) (by omega) (by omega)), h.2.2.2.2.2.of (fun r hr => rC_ r (by omega) (by omega) (by omega) (by omega)) (fun r hr => rM_ r (by omega) (by omega) (by omega) (by omega))⟩
        have et : vC 21 0 = vM 27 0 := hT.2.1
        by_cases t0 : vC 21 0 = 0
        · rw [if_pos t0, if_pos rfl, if_pos (by rw [← et, t0]; decide)]
          exact ⟨_, _, _, rfl, rfl, hI⟩
        · rw [if_neg t0, if_neg (by decide), if_neg (by rw [← et]; exact fun z => t0 (hT.2.2.2.2.pos.mp z)), ← et]
          exact ⟨_, _, _, rfl, rfl, hI⟩
      · rw [if_neg q, if_neg q]
        exact bad _ rfl
