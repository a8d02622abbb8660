/-! THE PURE PART's end. -/
theorem pure_main (L : Nat) (xs : Nat → Int32) (hL : L ≤ 3584) : ∃ n : Nat, kL L xs n 0 u0C u0M = some 1 :=
  ⟨513, kL_all hL 513 0 u0C u0M (Nat.zero_le _) (by omega) Inv0⟩
