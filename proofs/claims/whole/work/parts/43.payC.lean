/-! PURE: TO PAY, in the class. -/
def payG (M : Int32) (x1 : Int32) (x2 : Int32) (x3 : Int32) (u : Ug) : Option (Int32 × Ug) :=
  if x1 < (0 : Int32) then
    some ((1 : Int32), u)
  else
    if (12 : Int32) ≤ x1 then
      some ((1 : Int32), u)
    else
      if x2 < (0 : Int32) then
        some ((1 : Int32), u)
      else
        if x2 < (12 : Int32) then
          if x3 < (0 : Int32) then
            some ((1 : Int32), u)
          else
            (rdO (u 0) 70 x1).bind fun y6 =>
            if x3 ≤ y6 then
              if x1 = x2 then
                some ((0 : Int32), u)
              else
                (rdO (u 0) 70 x2).bind fun y9 =>
                if x3 ≤ (M - y9) then
                  (rdO (u 0) 70 x1).bind fun y11 =>
                  (wrO u 0 70 x1 (y11 - x3)).bind fun u12 =>
                  (rdO (u12 0) 70 x2).bind fun y13 =>
                  (wrO u12 0 70 x2 (y13 + x3)).bind fun u14 =>
                  some ((0 : Int32), u14)
                else
                  some ((2 : Int32), u)
            else
              some ((1 : Int32), u)
        else
          some ((1 : Int32), u)
theorem payG_eq {M : Int32} {u : Ug} {fr to : Nat} {n : Int32} (h1 : fr < 12) (h2 : to < 12) : payG M (nI fr) (nI to) n u = some ((aPayG M (u 0) fr to n).1, wrA u 0 (aPayG M (u 0) fr to n).2) := by
  unfold payG aPayG
  rw [if_neg (by rw [lit_0]; exact nI_nlt (Nat.zero_le _) (by omega)), if_neg (by rw [lit_12]; exact nI_ge h1 (by omega)), if_neg (by rw [lit_0]; exact nI_nlt (Nat.zero_le _) (by omega)), if_pos (by rw [lit_12]; exact nI_lt h2 (by omega))]
  rw [pu_rd (Nat.lt_trans h1 (by decide)) (by decide), pu_rd (Nat.lt_trans h2 (by decide)) (by decide)]
  by_cases a : n < 0
  · rw [if_pos a, if_pos a, wrA_id]
  · rw [if_neg a, if_neg a]
    show (if n ≤ u 0 fr then _ else _) = _
    by_cases b : n ≤ u 0 fr
    · rw [if_pos b, if_pos b]
      by_cases c : fr = to
      · rw [if_pos (by rw [c]), if_pos c, wrA_id]
      · rw [if_neg (fun q => c ((nI_eq (by omega) (by omega)).mp q)), if_neg c]
        show (if n ≤ M - u 0 to then _ else _) = _
        by_cases d : n ≤ M - u 0 to
        · rw [if_pos d, if_pos d]
          show (wrO u 0 70 (nI fr) (u 0 fr - n)).bind _ = _
          rw [pu_wr (Nat.lt_trans h1 (by decide)) (by decide)]
          show (rdO (wr u 0 fr (u 0 fr - n) 0) 70 (nI to)).bind _ = _
          rw [pu_rd (Nat.lt_trans h2 (by decide)) (by decide), wr_s]
          show (wrO (wr u 0 fr (u 0 fr - n)) 0 70 (nI to) (upd (u 0) fr (u 0 fr - n) to + n)).bind _ = _
          rw [pu_wr (Nat.lt_trans h2 (by decide)) (by decide), wr_wr_A]
          rfl
        · rw [if_neg d, if_neg d, wrA_id]
    · rw [if_neg b, if_neg b, wrA_id]
theorem payG_C {x1 x2 x3 : Int32} {u : Ug} : fC_State_pay x1 x2 x3 u = payG 1000000000 x1 x2 x3 u := rfl
theorem C_pay {u : Ug} {fr to : Nat} {n : Int32} (h1 : fr < 12) (h2 : to < 12) : fC_State_pay (nI fr) (nI to) n u = some ((aPay (u 0) fr to n).1, wrA u 0 (aPay (u 0) fr to n).2) := by
  rw [payG_C, payG_eq h1 h2]
  rfl
