/-! PURE: a CALL from outside, in the reference, whole. -/
theorem M_out_pre {x1 x2 x3 x4 : Int32} {u : Ug} : fM_outside x1 x2 x3 x4 u =
    (fM_keep (0 : Int32) (uS u)).bind fun q7 =>
    if (lg_cmp (q7.2 8 0).toInt64 (20000 : Int64)) = (0 : Int32) then
      (fM_raise (7 : Int32) (7 : Int32) q7.2).bind fun q14 =>
      (kM_outside 4096) x1 x2 x3 x4 (7 : Int32) q14.2
    else
      (slO q7.2 8 ((q7.2 8 0).toInt64 + (1 : Int64))).bind fun u9 =>
      (fM_pay x1 ((8 : Int32) + (x2 / (3 : Int32))) x4 u9).bind fun q10 =>
      if q10.1 ≤ (0 : Int32) then
        (fM_enter x2 x3 q10.2).bind fun q12 =>
        (kM_outside 4096) x1 x2 x3 x4 q10.1 q12.2
      else
        (fM_raise q10.1 q10.1 q10.2).bind fun q13 =>
        (kM_outside 4096) x1 x2 x3 x4 q10.1 q13.2 := by
  unfold fM_outside uS
  simp only [pu_sc, pu_sb00, Option.bind_some]
theorem M_keepS {u : Ug} : fM_keep 0 (uS u) = some (0, uK u) := M_keep0
