/-! PURE: a CALL from outside is alike in both programs. -/
theorem aOut_ok {kd av bv : Nat → Int32} {sz : Nat → Nat} {bd db nb : Nat → Int32} (hE : EnOk kd av sz bd db nb) {by_ m : Nat} {arg coins : Int32} {σ cov : Nat → Int32} {ia : Nat} (hb : by_ < 12) (hm : m < 12) (hS : SgOk σ) (hia : ia ≤ 20000) : StOk (aOut kd av bv sz bd db nb by_ m arg coins σ cov ia).2.1 ∧ ThOk (aOut kd av bv sz bd db nb by_ m arg coins σ cov ia).2.2.1 := by
  by_cases c1 : 20000 ≤ ia
  · rw [aOut_1 c1]; exact ⟨⟨hS, hia, Nat.zero_le _⟩, ThOk.of (k := 7) (by decide) (by decide)⟩
  by_cases p0 : (aPay σ by_ (8 + m / 3) coins).1 = 0
  · rw [aOut_3 c1 p0]
    have hS2 : StOk ((aPay σ by_ (8 + m / 3) coins).2, cov, ia + 1, 0) := ⟨aPay_ok hb (by omega) hS, by show ia + 1 ≤ _; omega, Nat.zero_le _⟩
    have h1 := aBlock_ok (bv := bv) hE 40 m 0 (sz m) arg 1 _ hm (hE.2.1 m hm) hS2
    have h2 := aBlock_th (bv := bv) hE 40 m 0 (sz m) arg 1 ((aPay σ by_ (8 + m / 3) coins).2, cov, ia + 1, 0) hm (hE.2.1 m hm)
    generalize aBlock kd av bv sz bd db nb 40 m 0 (sz m) arg 1 ((aPay σ by_ (8 + m / 3) coins).2, cov, ia + 1, 0) = r at h1 h2 ⊢
    by_cases r0 : r.2.2.1 = 0
    · rw [if_pos r0]; exact ⟨h1, h2⟩
    · rw [if_neg r0]; exact ⟨⟨hS, h1.2⟩, h2⟩
  · rw [aOut_2 c1 p0]
    refine ⟨⟨hS, by show ia + 1 ≤ _; omega, Nat.zero_le _⟩, ?_⟩
    show ThOk (aPay σ by_ (8 + m / 3) coins).1
    rcases aPay_th (σ := σ) (fr := by_) (to := 8 + m / 3) (n := coins) with h | h | h
    · exact absurd h p0
    · rw [h]; exact ThOk.of (k := 1) (by decide) (by decide)
    · rw [h]; exact ThOk.of (k := 2) (by decide) (by decide)
/-- what a CALL needs of both, and leaves so -/
def OnC (uC uM : Ug) : Prop := uC 0 = uM 0 ∧ SgOk (uC 0) ∧ uC 2 = uM 6 ∧ ∃ ia : Nat, ia ≤ 20000 ∧ uC 19 0 = nI ia ∧ uM 8 0 = nI ia
theorem both_out {kd av bv : Nat → Int32} {sz : Nat → Nat} {bd db nb : Nat → Int32} (hE : EnOk kd av sz bd db nb) {uC uM : Ug} {by_ pl : Nat} {arg co : Int32} (hb : by_ < 12) (hp : pl < 12) (hO : OnC uC uM) (hC : CE uC kd av bv sz bd db nb) (hM : MX uM kd av bv sz bd db nb) :
    ∃ vC vM : Ug, fC_Machine_callFromOutside (nI by_) (nI pl) arg co uC = some (0, vC) ∧ fM_outside (nI by_) (nI pl) arg co uM = some (0, vM) ∧ OnC vC vM ∧ IvT vC vM ∧ (∀ r, r ≠ 0 → r ≠ 2 → r ≠ 9 → ¬ (19 ≤ r ∧ r ≤ 23) → vC r = uC r) ∧ (∀ r, r ≠ 0 → r ≠ 6 → r ≠ 8 → ¬ (14 ≤ r ∧ r ≤ 29) → vM r = uM r) := by
  obtain ⟨e0, hS, e2, ia, hia, i1, i2⟩ := hO
  obtain ⟨vC, c1, c2, c3, c4⟩ := C_outside (arg := arg) (co := co) hE hb hp hS hia i1 hC
  obtain ⟨vM, m1, m2⟩ := M_outside (arg := arg) (co := co) hE hb hp (by rw [← e0]; exact hS) hia i2 hM
  rw [← e0, ← e2] at m2
  have hok := aOut_ok (bv := bv) (arg := arg) (coins := co) (cov := uC 2) hE hb hp hS hia
  generalize aOut kd av bv sz bd db nb by_ pl arg co (uC 0) (uC 2) ia = A at c2 c3 m2 hok
  obtain ⟨x0, x2, x19, x20, x21, x22⟩ := c2
  obtain ⟨y0, y6, y8, y26, y27, y28, y29, yr⟩ := m2
  refine ⟨vC, vM, c1, m1, ⟨by rw [x0, y0], by rw [x0]; exact hok.1.1, by rw [x2, y6], A.2.1.2.2.1, hok.1.2.1, x19, y8⟩, ⟨by rw [c3, y26], by rw [x21, y27], by rw [x22, y28], by rw [x20, y29], by rw [x21]; exact hok.2⟩, fun r a b c d => c4 r a b c (by omega) (by omega) (by omega) (by omega) (by omega), yr⟩
theorem mutS0 {k a b : Int32} : mutS 0 k a b = (k, a, b) := rfl
/-- between calls: the STEPS as they are, no double -/
theorem Inv.env {uC uM : Ug} (h : Inv uC uM) : ∃ sz : Nat → Nat, EnOk (uC 3) (uC 4) sz (uC 6) (fun _ => 0) (fun _ => 0) ∧ (∀ m, m < 12 → uC 1 m = nI (sz m)) := by
  obtain ⟨-, ⟨-, h1⟩, -, h2, h3⟩ := h.2.1
  refine ⟨fun m => (uC 1 m).toNatClampNeg, ⟨fun s hs => (h2 s hs).2.1, fun m hm => ?_, h3.2, fun f _ q => absurd (show (0 : Int32) = 2 from q) (by decide)⟩, fun m hm => ?_⟩
  · obtain ⟨n, hn, e⟩ := h1 m hm
    show (uC 1 m).toNatClampNeg ≤ 8
    rw [e, nI_clamp (by omega)]; exact hn
  · obtain ⟨n, hn, e⟩ := h1 m hm
    show uC 1 m = nI (uC 1 m).toNatClampNeg
    rw [e, nI_clamp (by omega)]
