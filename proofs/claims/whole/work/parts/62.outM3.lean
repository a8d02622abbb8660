/-! PURE: a CALL from outside, in the reference, whole. -/
theorem aOut_1 {kd av bv : Nat → Int32} {sz : Nat → Nat} {bd db nb : Nat → Int32} {by_ m : Nat} {arg coins : Int32} {σ cov : Nat → Int32} {ia : Nat} (h : 20000 ≤ ia) : aOut kd av bv sz bd db nb by_ m arg coins σ cov ia = (0, (σ, cov, ia, 0), 7, 7) := by
  unfold aOut
  rw [if_pos h]
theorem aOut_2 {kd av bv : Nat → Int32} {sz : Nat → Nat} {bd db nb : Nat → Int32} {by_ m : Nat} {arg coins : Int32} {σ cov : Nat → Int32} {ia : Nat} (h : ¬ 20000 ≤ ia) (p : ¬ (aPay σ by_ (8 + m / 3) coins).1 = 0) : aOut kd av bv sz bd db nb by_ m arg coins σ cov ia = (0, (σ, cov, ia + 1, 0), (aPay σ by_ (8 + m / 3) coins).1, (aPay σ by_ (8 + m / 3) coins).1) := by
  unfold aOut
  rw [if_neg h, if_neg p]
theorem aOut_3 {kd av bv : Nat → Int32} {sz : Nat → Nat} {bd db nb : Nat → Int32} {by_ m : Nat} {arg coins : Int32} {σ cov : Nat → Int32} {ia : Nat} (h : ¬ 20000 ≤ ia) (p : (aPay σ by_ (8 + m / 3) coins).1 = 0) : aOut kd av bv sz bd db nb by_ m arg coins σ cov ia = (if (aBlock kd av bv sz bd db nb 40 m 0 (sz m) arg 1 ((aPay σ by_ (8 + m / 3) coins).2, cov, ia + 1, 0)).2.2.1 = 0 then aBlock kd av bv sz bd db nb 40 m 0 (sz m) arg 1 ((aPay σ by_ (8 + m / 3) coins).2, cov, ia + 1, 0) else ((aBlock kd av bv sz bd db nb 40 m 0 (sz m) arg 1 ((aPay σ by_ (8 + m / 3) coins).2, cov, ia + 1, 0)).1, (σ, (aBlock kd av bv sz bd db nb 40 m 0 (sz m) arg 1 ((aPay σ by_ (8 + m / 3) coins).2, cov, ia + 1, 0)).2.1.2), (aBlock kd av bv sz bd db nb 40 m 0 (sz m) arg 1 ((aPay σ by_ (8 + m / 3) coins).2, cov, ia + 1, 0)).2.2.1, (aBlock kd av bv sz bd db nb 40 m 0 (sz m) arg 1 ((aPay σ by_ (8 + m / 3) coins).2, cov, ia + 1, 0)).2.2.2)) := by
  unfold aOut
  rw [if_neg h, if_pos p]
