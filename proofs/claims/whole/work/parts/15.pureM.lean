/-! THE PURE FUNCTIONS. -/
def fM_in (x1 : Int64) (x2 : Int64) (x3 : Int64) (u : Ug) : Option (Int32 × Ug) :=
  if (lg_cmp x1 x2) < (0 : Int32) then
    some ((0 : Int32), u)
  else
    if (0 : Int32) < (lg_cmp x1 x3) then
      some ((0 : Int32), u)
    else
      some ((1 : Int32), u)
def fM_isAccount (x1 : Int32) (u : Ug) : Option (Int32 × Ug) :=
  (fM_in x1.toInt64 (0 : Int64) (11 : Int64) u).bind fun q1 =>
  if bz q1.1 then some (q1.1, q1.2) else none
def fM_account (x1 : Int32) (x2 : Int32) (u : Ug) : Option (Int32 × Ug) :=
  (fM_isAccount x1 u).bind fun q1 =>
  if q1.1 = (0 : Int32) then
    some ((-1 : Int32), q1.2)
  else
    (fM_in x2.toInt64 (0 : Int64) (1000000000 : Int64) q1.2).bind fun q3 =>
    if q3.1 = (0 : Int32) then
      some ((-1 : Int32), q3.2)
    else
      (wrO q3.2 0 70 x1 x2).bind fun u5 =>
      some ((1 : Int32), u5)
def fM_contract (u : Ug) : Option (Int32 × Ug) :=
  if (u 1 0) = (4 : Int32) then
    some ((-2 : Int32), u)
  else
    (scO u 1 ((u 1 0) + (1 : Int32))).bind fun u2 =>
    some (((u2 1 0) - (1 : Int32)), u2)
def fM_isMember (x1 : Int32) (x2 : Int32) (u : Ug) : Option (Int32 × Ug) :=
  (fM_in x1.toInt64 (0 : Int64) (((u 1 0) - (1 : Int32))).toInt64 u).bind fun q1 =>
  if q1.1 = (0 : Int32) then
    some ((0 : Int32), q1.2)
  else
    (fM_in x2.toInt64 (0 : Int64) (2 : Int64) q1.2).bind fun q3 =>
    if q3.1 = (0 : Int32) then
      some ((0 : Int32), q3.2)
    else
      some ((1 : Int32), q3.2)
def fM_fits (x1 : Int32) (x2 : Int32) (u : Ug) : Option (Int32 × Ug) :=
  if x1 = (0 : Int32) then
    (fM_in x2.toInt64 (0 : Int64) (3 : Int64) u).bind fun q1 =>
    if bz q1.1 then some (q1.1, q1.2) else none
  else
  if x1 = (1 : Int32) then
    (fM_in x2.toInt64 (0 : Int64) (3 : Int64) u).bind fun q2 =>
    if bz q2.1 then some (q2.1, q2.2) else none
  else
  if x1 = (3 : Int32) then
    (fM_in x2.toInt64 (0 : Int64) (3 : Int64) u).bind fun q3 =>
    if bz q3.1 then some (q3.1, q3.2) else none
  else
  if x1 = (4 : Int32) then
    (fM_in x2.toInt64 (0 : Int64) (9 : Int64) u).bind fun q4 =>
    if bz q4.1 then some (q4.1, q4.2) else none
  else
  if x1 = (5 : Int32) then
    (fM_isAccount x2 u).bind fun q5 =>
    if bz q5.1 then some (q5.1, q5.2) else none
  else
  if x1 = (7 : Int32) then
    (fM_in x2.toInt64 (1 : Int64) (7 : Int64) u).bind fun q6 =>
    if bz q6.1 then some (q6.1, q6.2) else none
  else
  if x1 = (8 : Int32) then
    (fM_in x2.toInt64 (0 : Int64) (3 : Int64) u).bind fun q7 =>
    if bz q7.1 then some (q7.1, q7.2) else none
  else
  if x1 = (9 : Int32) then
    (fM_in x2.toInt64 (1 : Int64) (7 : Int64) u).bind fun q8 =>
    if bz q8.1 then some (q8.1, q8.2) else none
  else
  if x1 = (11 : Int32) then
    (fM_in x2.toInt64 (0 : Int64) (3 : Int64) u).bind fun q9 =>
    if bz q9.1 then some (q9.1, q9.2) else none
  else
    some ((1 : Int32), u)
def fM_step (x1 : Int32) (x2 : Int32) (x3 : Int32) (x4 : Int32) (x5 : Int32) (u : Ug) : Option (Int32 × Ug) :=
  (fM_isMember x1 x2 u).bind fun q1 =>
  if q1.1 = (0 : Int32) then
    some ((-1 : Int32), q1.2)
  else
    (fM_in x3.toInt64 (0 : Int64) (11 : Int64) q1.2).bind fun q3 =>
    if q3.1 = (0 : Int32) then
      some ((-1 : Int32), q3.2)
    else
      (fM_fits x3 x4 q3.2).bind fun q5 =>
      if q5.1 = (0 : Int32) then
        some ((-1 : Int32), q5.2)
      else
        (rdO (q5.2 2) 12 (((3 : Int32) * x1) + x2)).bind fun y7 =>
        if y7 = (8 : Int32) then
          some ((-2 : Int32), q5.2)
        else
          (rdO (q5.2 2) 12 (((3 : Int32) * x1) + x2)).bind fun y9 =>
          (wrO q5.2 3 96 (((8 : Int32) * (((3 : Int32) * x1) + x2)) + y9) x3).bind fun u10 =>
          (rdO (u10 2) 12 (((3 : Int32) * x1) + x2)).bind fun y11 =>
          (wrO u10 4 96 (((8 : Int32) * (((3 : Int32) * x1) + x2)) + y11) x4).bind fun u12 =>
          (rdO (u12 2) 12 (((3 : Int32) * x1) + x2)).bind fun y13 =>
          (wrO u12 5 96 (((8 : Int32) * (((3 : Int32) * x1) + x2)) + y13) x5).bind fun u14 =>
          (rdO (u14 2) 12 (((3 : Int32) * x1) + x2)).bind fun y15 =>
          (wrO u14 2 12 (((3 : Int32) * x1) + x2) (y15 + (1 : Int32))).bind fun u16 =>
          (rdO (u16 2) 12 (((3 : Int32) * x1) + x2)).bind fun y17 =>
          some (y17, u16)
def fM_bind (x1 : Int32) (x2 : Int32) (x3 : Int32) (u : Ug) : Option (Int32 × Ug) :=
  (fM_in x1.toInt64 (0 : Int64) (3 : Int64) u).bind fun q1 =>
  if q1.1 = (0 : Int32) then
    some ((-1 : Int32), q1.2)
  else
    if x2 = (-1 : Int32) then
      if (0 : Int32) ≤ x2 then
        (wrO q1.2 7 4 x1 (((3 : Int32) * x2) + x3)).bind fun u5 =>
        some ((1 : Int32), u5)
      else
        (wrO q1.2 7 4 x1 (-1 : Int32)).bind fun u6 =>
        some ((1 : Int32), u6)
    else
      (fM_isMember x2 x3 q1.2).bind fun q7 =>
      if q7.1 = (0 : Int32) then
        some ((-1 : Int32), q7.2)
      else
        if (0 : Int32) ≤ x2 then
          (wrO q7.2 7 4 x1 (((3 : Int32) * x2) + x3)).bind fun u10 =>
          some ((1 : Int32), u10)
        else
          (wrO q7.2 7 4 x1 (-1 : Int32)).bind fun u11 =>
          some ((1 : Int32), u11)
def fM_time (x1 : Int32) (u : Ug) : Option (Int32 × Ug) :=
  (fM_in x1.toInt64 (0 : Int64) (1000 : Int64) u).bind fun q1 =>
  if q1.1 = (0 : Int32) then
    some ((-1 : Int32), q1.2)
  else
    (rdO (q1.2 0) 70 (28 : Int32)).bind fun y3 =>
    (wrO q1.2 0 70 (28 : Int32) (y3 + x1)).bind fun u4 =>
    (rdO (u4 0) 70 (28 : Int32)).bind fun y5 =>
    some (y5, u4)
def sM_keep_2 (k2 : Int32 → Int32 → Ug → Option (Int32 × Ug)) (v1 : Int32) (v2 : Int32) (u : Ug) : Option (Int32 × Ug) :=
  if (70 : Int32) ≤ v2 then
    some ((0 : Int32), u)
  else
    (rdO (u 0) 70 v2).bind fun y2 =>
    (wrO u 20 2800 (((70 : Int32) * v1) + v2) y2).bind fun u3 =>
    k2 v1 (v2 + (1 : Int32)) u3
def kM_keep : Nat → Int32 → Int32 → Ug → Option (Int32 × Ug)
  | 0 => fun _ _ _ => none
  | n + 1 => sM_keep_2 (kM_keep n)
def fM_keep (x1 : Int32) (u : Ug) : Option (Int32 × Ug) :=
  (kM_keep 4096) x1 (0 : Int32) u
def fM_pay (x1 : Int32) (x2 : Int32) (x3 : Int32) (u : Ug) : Option (Int32 × Ug) :=
  if x3 < (0 : Int32) then
    some ((1 : Int32), u)
  else
    (rdO (u 0) 70 x1).bind fun y2 =>
    if x3 ≤ y2 then
      if x1 = x2 then
        some ((0 : Int32), u)
      else
        (rdO (u 0) 70 x2).bind fun y5 =>
        if (lg_cmp (y5.toInt64 + x3.toInt64) (1000000000 : Int64)) ≤ (0 : Int32) then
          (rdO (u 0) 70 x1).bind fun y7 =>
          (wrO u 0 70 x1 (y7 - x3)).bind fun u8 =>
          (rdO (u8 0) 70 x2).bind fun y9 =>
          (wrO u8 0 70 x2 (y9 + x3)).bind fun u10 =>
          some ((0 : Int32), u10)
        else
          some ((2 : Int32), u)
    else
      some ((1 : Int32), u)
def fM_enter (x1 : Int32) (x2 : Int32) (u : Ug) : Option (Int32 × Ug) :=
  (wrO u 15 4 (u 14 0) x1).bind fun u1 =>
  (wrO u1 16 4 (u1 14 0) x2).bind fun u2 =>
  (wrO u2 17 4 (u2 14 0) (0 : Int32)).bind fun u3 =>
  (wrO u3 18 4 (u3 14 0) (0 : Int32)).bind fun u4 =>
  (scO u4 14 ((u4 14 0) + (1 : Int32))).bind fun u5 =>
  some ((0 : Int32), u5)
def sM_restore_2 (k2 : Int32 → Int32 → Ug → Option (Int32 × Ug)) (v1 : Int32) (v2 : Int32) (u : Ug) : Option (Int32 × Ug) :=
  if (70 : Int32) ≤ v2 then
    some ((0 : Int32), u)
  else
    (rdO (u 20) 2800 (((70 : Int32) * v1) + v2)).bind fun y2 =>
    (wrO u 0 70 v2 y2).bind fun u3 =>
    k2 v1 (v2 + (1 : Int32)) u3
def kM_restore : Nat → Int32 → Int32 → Ug → Option (Int32 × Ug)
  | 0 => fun _ _ _ => none
  | n + 1 => sM_restore_2 (kM_restore n)
def fM_restore (x1 : Int32) (u : Ug) : Option (Int32 × Ug) :=
  (kM_restore 4096) x1 (0 : Int32) u
def sM_raise_5 (k5 : Int32 → Int32 → Int32 → Int32 → Ug → Option (Int32 × Ug)) (v1 : Int32) (v2 : Int32) (v3 : Int32) (v4 : Int32) (u : Ug) : Option (Int32 × Ug) :=
  if (u 14 0) ≤ (0 : Int32) then
    (scO u 22 v3).bind fun u2 =>
    (scO u2 23 v4).bind fun u3 =>
    (sbO u3 25 (1 : Int32)).bind fun u4 =>
    some ((0 : Int32), u4)
  else
    if v3 = (7 : Int32) then
      (fM_restore ((10 : Int32) * ((u 14 0) - (1 : Int32))) u).bind fun q6 =>
      (scO q6.2 14 ((q6.2 14 0) - (1 : Int32))).bind fun u7 =>
      if v3 = (7 : Int32) then
        k5 v1 v2 v3 v4 u7
      else
        if (u7 14 0) = (0 : Int32) then
          k5 v1 v2 v3 v4 u7
        else
          k5 v1 v2 (5 : Int32) v4 u7
    else
      (rdO (u 18) 4 ((u 14 0) - (1 : Int32))).bind fun y10 =>
      if y10 ≤ (0 : Int32) then
        (fM_restore ((10 : Int32) * ((u 14 0) - (1 : Int32))) u).bind fun q12 =>
        (scO q12.2 14 ((q12.2 14 0) - (1 : Int32))).bind fun u13 =>
        if v3 = (7 : Int32) then
          k5 v1 v2 v3 v4 u13
        else
          if (u13 14 0) = (0 : Int32) then
            k5 v1 v2 v3 v4 u13
          else
            k5 v1 v2 (5 : Int32) v4 u13
      else
        (rdO (u 18) 4 ((u 14 0) - (1 : Int32))).bind fun y16 =>
        (wrO u 18 4 ((u 14 0) - (1 : Int32)) (y16 - (1 : Int32))).bind fun u17 =>
        (rdO (u17 18) 4 ((u 14 0) - (1 : Int32))).bind fun y18 =>
        (fM_restore ((((10 : Int32) * ((u 14 0) - (1 : Int32))) + (1 : Int32)) + y18) u17).bind fun q19 =>
        (wrO q19.2 16 4 ((u 14 0) - (1 : Int32)) v3).bind fun u20 =>
        (rdO (u20 18) 4 ((u 14 0) - (1 : Int32))).bind fun y21 =>
        (rdO (u20 19) 40 (((10 : Int32) * ((u 14 0) - (1 : Int32))) + y21)).bind fun y22 =>
        (wrO u20 17 4 ((u 14 0) - (1 : Int32)) y22).bind fun u23 =>
        some ((0 : Int32), u23)
def kM_raise : Nat → Int32 → Int32 → Int32 → Int32 → Ug → Option (Int32 × Ug)
  | 0 => fun _ _ _ _ _ => none
  | n + 1 => sM_raise_5 (kM_raise n)
def fM_raise (x1 : Int32) (x2 : Int32) (u : Ug) : Option (Int32 × Ug) :=
  (kM_raise 4096) x1 x2 x1 x2 u
def fM_end (x1 : Int32) (u : Ug) : Option (Int32 × Ug) :=
  (rdO (u 18) 4 x1).bind fun y1 =>
  if y1 ≤ (0 : Int32) then
    (rdO (u 15) 4 x1).bind fun y3 =>
    (rdO (u 2) 12 y3).bind fun y4 =>
    some (y4, u)
  else
    (rdO (u 18) 4 x1).bind fun y5 =>
    (rdO (u 19) 40 ((((10 : Int32) * x1) + y5) - (1 : Int32))).bind fun y6 =>
    some (y6, u)
def fM_pass (x1 : Int32) (x2 : Int32) (x3 : Int32) (x4 : Int32) (u : Ug) : Option (Int32 × Ug) :=
  (rdO (u 15) 4 x1).bind fun y1 =>
  (rdO (u 6) 12 y1).bind fun y2 =>
  if x3 = (0 : Int32) then
    (wrO u 6 12 y1 (y2 ||| ((1 : Int32) <<< ((x2 + (16 : Int32)) &&& 31)))).bind fun u4 =>
    (rdO (u4 17) 4 x1).bind fun y5 =>
    if x3 = (0 : Int32) then
      (rdO (u4 17) 4 x1).bind fun y7 =>
      (wrO u4 17 4 x1 y7).bind fun u8 =>
      some ((0 : Int32), u8)
    else
      (fM_end x1 u4).bind fun q9 =>
      if q9.1 ≤ (y5 + x4) then
        (fM_end x1 q9.2).bind fun q11 =>
        (wrO q11.2 17 4 x1 q11.1).bind fun u12 =>
        some ((0 : Int32), u12)
      else
        (wrO q9.2 17 4 x1 (y5 + x4)).bind fun u13 =>
        some ((0 : Int32), u13)
  else
    (wrO u 6 12 y1 (y2 ||| ((1 : Int32) <<< ((x2 + (8 : Int32)) &&& 31)))).bind fun u14 =>
    (rdO (u14 17) 4 x1).bind fun y15 =>
    if x3 = (0 : Int32) then
      (rdO (u14 17) 4 x1).bind fun y17 =>
      (wrO u14 17 4 x1 y17).bind fun u18 =>
      some ((0 : Int32), u18)
    else
      (fM_end x1 u14).bind fun q19 =>
      if q19.1 ≤ (y15 + x4) then
        (fM_end x1 q19.2).bind fun q21 =>
        (wrO q21.2 17 4 x1 q21.1).bind fun u22 =>
        some ((0 : Int32), u22)
      else
        (wrO q19.2 17 4 x1 (y15 + x4)).bind fun u23 =>
        some ((0 : Int32), u23)
def fM_ask (x1 : Int32) (x2 : Int32) (u : Ug) : Option (Int32 × Ug) :=
  (rdO (u 30) 4 x2).bind fun y1 =>
  if y1 = (1 : Int32) then
    (rdO (u 31) 4 x2).bind fun y19 =>
    (wrO u 16 4 x1 y19).bind fun u20 =>
    some ((0 : Int32), u20)
  else
    (rdO (u 30) 4 x2).bind fun y3 =>
    if y3 = (2 : Int32) then
      (rdO (u 31) 4 x2).bind fun y17 =>
      (fM_raise (5 : Int32) y17 u).bind fun q18 =>
      some ((0 : Int32), q18.2)
    else
      (rdO (u 7) 4 x2).bind fun y5 =>
      if (0 : Int32) ≤ y5 then
        if (u 14 0) = (4 : Int32) then
          (fM_raise (5 : Int32) (4 : Int32) u).bind fun q15 =>
          some ((0 : Int32), q15.2)
        else
          if (lg_cmp (u 8 0).toInt64 (20000 : Int64)) = (0 : Int32) then
            (fM_raise (7 : Int32) (7 : Int32) u).bind fun q14 =>
            some ((0 : Int32), q14.2)
          else
            (slO u 8 ((u 8 0).toInt64 + (1 : Int64))).bind fun u9 =>
            (fM_keep ((10 : Int32) * (u9 14 0)) u9).bind fun q10 =>
            (rdO (q10.2 7) 4 x2).bind fun y11 =>
            (rdO (q10.2 16) 4 x1).bind fun y12 =>
            (fM_enter y11 y12 q10.2).bind fun q13 =>
            some ((0 : Int32), q13.2)
      else
        (fM_raise (5 : Int32) (3 : Int32) u).bind fun q16 =>
        some ((0 : Int32), q16.2)
def jM_work_80 (v1 : Int32) (v2 : Int32) (v3 : Int32) (v4 : Int32) (v5 : Int32) (v6 : Int32) (v7 : Int32) (v8 : Int32) (u : Ug) : Option (Int32 × Ug) :=
  if v4 = (0 : Int32) then
    (wrO u 0 70 v7 v8).bind fun u11 =>
    some ((0 : Int32), u11)
  else
  if v4 = (1 : Int32) then
    (rdO (u 0) 70 v7).bind fun y12 =>
    (wrO u 16 4 v1 y12).bind fun u13 =>
    some ((0 : Int32), u13)
  else
  if v4 = (2 : Int32) then
    if v3 = (0 : Int32) then
      (wrO u 16 4 v1 (v8 + v6)).bind fun u18 =>
      some ((0 : Int32), u18)
    else
      if v3 = (1 : Int32) then
        (wrO u 16 4 v1 (v8 + (v6 + (1 : Int32)))).bind fun u17 =>
        some ((0 : Int32), u17)
      else
        (wrO u 16 4 v1 (v8 - v6)).bind fun u16 =>
        some ((0 : Int32), u16)
  else
  if v4 = (3 : Int32) then
    (rdO (u 0) 70 v7).bind fun y19 =>
    (wrO u 16 4 v1 (v8 - y19)).bind fun u20 =>
    some ((0 : Int32), u20)
  else
  if v4 = (4 : Int32) then
    if (2 : Int32) ≤ v3 then
      some ((0 : Int32), u)
    else
      if v3 = (1 : Int32) then
        if (v6 + (1 : Int32)) ≤ v8 then
          some ((0 : Int32), u)
        else
          (fM_raise ((10 : Int32) + v5) ((10 : Int32) + v5) u).bind fun q26 =>
          some ((0 : Int32), q26.2)
      else
        if v6 ≤ v8 then
          some ((0 : Int32), u)
        else
          (fM_raise ((10 : Int32) + v5) ((10 : Int32) + v5) u).bind fun q24 =>
          some ((0 : Int32), q24.2)
  else
  if v4 = (5 : Int32) then
    (rdO (u 15) 4 v1).bind fun y27 =>
    if v3 = (0 : Int32) then
      (fM_pay ((8 : Int32) + (y27 / (3 : Int32))) v5 v8 u).bind fun q32 =>
      if q32.1 ≤ (0 : Int32) then
        some ((0 : Int32), q32.2)
      else
        (fM_raise q32.1 q32.1 q32.2).bind fun q34 =>
        some ((0 : Int32), q34.2)
    else
      (fM_pay ((8 : Int32) + (y27 / (3 : Int32))) ((v5 + (1 : Int32)) - (v5 + (1 : Int32)) / (12 : Int32) * (12 : Int32)) v8 u).bind fun q29 =>
      if q29.1 ≤ (0 : Int32) then
        some ((0 : Int32), q29.2)
      else
        (fM_raise q29.1 q29.1 q29.2).bind fun q31 =>
        some ((0 : Int32), q31.2)
  else
  if v4 = (6 : Int32) then
    (rdO (u 0) 70 (29 : Int32)).bind fun y35 =>
    if (40 : Int32) ≤ y35 then
      some ((0 : Int32), u)
    else
      (rdO (u 0) 70 (29 : Int32)).bind fun y37 =>
      (wrO u 0 70 ((30 : Int32) + y37) v8).bind fun u38 =>
      (rdO (u38 0) 70 (29 : Int32)).bind fun y39 =>
      (wrO u38 0 70 (29 : Int32) (y39 + (1 : Int32))).bind fun u40 =>
      some ((0 : Int32), u40)
  else
  if v4 = (7 : Int32) then
    if v6 ≤ v8 then
      if (2 : Int32) ≤ v3 then
        if v3 = (1 : Int32) then
          (fM_pass v1 (v2 - v2 / (8 : Int32) * (8 : Int32)) (1 : Int32) (v5 + (1 : Int32)) u).bind fun q45 =>
          some ((0 : Int32), q45.2)
        else
          (fM_pass v1 (v2 - v2 / (8 : Int32) * (8 : Int32)) (1 : Int32) v5 u).bind fun q44 =>
          some ((0 : Int32), q44.2)
      else
        if v3 = (1 : Int32) then
          (fM_pass v1 (v2 - v2 / (8 : Int32) * (8 : Int32)) (0 : Int32) (v5 + (1 : Int32)) u).bind fun q48 =>
          some ((0 : Int32), q48.2)
        else
          (fM_pass v1 (v2 - v2 / (8 : Int32) * (8 : Int32)) (0 : Int32) v5 u).bind fun q47 =>
          some ((0 : Int32), q47.2)
    else
      if (2 : Int32) ≤ v3 then
        if v3 = (1 : Int32) then
          (fM_pass v1 (v2 - v2 / (8 : Int32) * (8 : Int32)) (0 : Int32) (v5 + (1 : Int32)) u).bind fun q52 =>
          some ((0 : Int32), q52.2)
        else
          (fM_pass v1 (v2 - v2 / (8 : Int32) * (8 : Int32)) (0 : Int32) v5 u).bind fun q51 =>
          some ((0 : Int32), q51.2)
      else
        if v3 = (1 : Int32) then
          (fM_pass v1 (v2 - v2 / (8 : Int32) * (8 : Int32)) (1 : Int32) (v5 + (1 : Int32)) u).bind fun q55 =>
          some ((0 : Int32), q55.2)
        else
          (fM_pass v1 (v2 - v2 / (8 : Int32) * (8 : Int32)) (1 : Int32) v5 u).bind fun q54 =>
          some ((0 : Int32), q54.2)
  else
  if v4 = (8 : Int32) then
    (fM_ask v1 v5 u).bind fun q56 =>
    some ((0 : Int32), q56.2)
  else
  if v4 = (9 : Int32) then
    (rdO (u 17) 4 v1).bind fun y57 =>
    (fM_end v1 u).bind fun q58 =>
    if q58.1 ≤ (y57 + v5) then
      (fM_end v1 q58.2).bind fun q60 =>
      (rdO (q60.2 18) 4 v1).bind fun y61 =>
      (fM_keep ((((10 : Int32) * v1) + (1 : Int32)) + y61) q60.2).bind fun q62 =>
      (rdO (q62.2 18) 4 v1).bind fun y63 =>
      (wrO q62.2 19 40 (((10 : Int32) * v1) + y63) q60.1).bind fun u64 =>
      (rdO (u64 18) 4 v1).bind fun y65 =>
      (wrO u64 18 4 v1 (y65 + (1 : Int32))).bind fun u66 =>
      some ((0 : Int32), u66)
    else
      (rdO (q58.2 18) 4 v1).bind fun y67 =>
      (fM_keep ((((10 : Int32) * v1) + (1 : Int32)) + y67) q58.2).bind fun q68 =>
      (rdO (q68.2 18) 4 v1).bind fun y69 =>
      (wrO q68.2 19 40 (((10 : Int32) * v1) + y69) (y57 + v5)).bind fun u70 =>
      (rdO (u70 18) 4 v1).bind fun y71 =>
      (wrO u70 18 4 v1 (y71 + (1 : Int32))).bind fun u72 =>
      some ((0 : Int32), u72)
  else
  if v4 = (10 : Int32) then
    (rdO (u 0) 70 (28 : Int32)).bind fun y73 =>
    (wrO u 16 4 v1 y73).bind fun u74 =>
    some ((0 : Int32), u74)
  else
    (rdO (u 0) 70 v7).bind fun y75 =>
    if y75 = (0 : Int32) then
      (fM_raise (6 : Int32) (6 : Int32) u).bind fun q83 =>
      some ((0 : Int32), q83.2)
    else
      (rdO (u 0) 70 v7).bind fun y77 =>
      if y77 = (-1 : Int32) then
        (wrO u 16 4 v1 (-v8)).bind fun u82 =>
        some ((0 : Int32), u82)
      else
        (rdO (u 0) 70 v7).bind fun y79 =>
        if y79 = (0 : Int32) then none else
        (wrO u 16 4 v1 (v8 / y79)).bind fun u81 =>
        some ((0 : Int32), u81)
def fM_work (x1 : Int32) (x2 : Int32) (x3 : Int32) (u : Ug) : Option (Int32 × Ug) :=
  (rdO (u 3) 96 x2).bind fun y1 =>
  (rdO (u 4) 96 x2).bind fun y2 =>
  (rdO (u 5) 96 x2).bind fun y3 =>
  (rdO (u 15) 4 x1).bind fun y4 =>
  (rdO (u 16) 4 x1).bind fun y5 =>
  if x3 ≤ (0 : Int32) then
    jM_work_80 x1 x2 x3 y1 y2 y3 (((12 : Int32) + ((4 : Int32) * (y4 / (3 : Int32)))) + y2) y5 u
  else
    if y1 = (2 : Int32) then
      jM_work_80 x1 x2 x3 y1 y2 y3 (((12 : Int32) + ((4 : Int32) * (y4 / (3 : Int32)))) + y2) y5 u
    else
      if y1 = (4 : Int32) then
        jM_work_80 x1 x2 x3 y1 y2 y3 (((12 : Int32) + ((4 : Int32) * (y4 / (3 : Int32)))) + y2) y5 u
      else
        if y1 = (7 : Int32) then
          jM_work_80 x1 x2 x3 y1 y2 y3 (((12 : Int32) + ((4 : Int32) * (y4 / (3 : Int32)))) + y2) y5 u
        else
          if y1 = (5 : Int32) then
            jM_work_80 x1 x2 x3 y1 y2 y3 (((12 : Int32) + ((4 : Int32) * (y4 / (3 : Int32)))) + y2) y5 u
          else
            some ((0 : Int32), u)
def fM_goOn (u : Ug) : Option (Int32 × Ug) :=
  (rdO (u 17) 4 ((u 14 0) - (1 : Int32))).bind fun y1 =>
  (fM_end ((u 14 0) - (1 : Int32)) u).bind fun q2 =>
  if y1 = q2.1 then
    (rdO (q2.2 18) 4 ((u 14 0) - (1 : Int32))).bind fun y23 =>
    if y23 ≤ (0 : Int32) then
      (scO q2.2 14 ((q2.2 14 0) - (1 : Int32))).bind fun u25 =>
      if (u25 14 0) = (0 : Int32) then
        (rdO (u25 16) 4 ((u 14 0) - (1 : Int32))).bind fun y29 =>
        (scO u25 24 y29).bind fun u30 =>
        (sbO u30 25 (1 : Int32)).bind fun u31 =>
        some ((0 : Int32), u31)
      else
        (rdO (u25 16) 4 ((u 14 0) - (1 : Int32))).bind fun y27 =>
        (wrO u25 16 4 ((u25 14 0) - (1 : Int32)) y27).bind fun u28 =>
        some ((0 : Int32), u28)
    else
      (rdO (q2.2 18) 4 ((u 14 0) - (1 : Int32))).bind fun y32 =>
      (wrO q2.2 18 4 ((u 14 0) - (1 : Int32)) (y32 - (1 : Int32))).bind fun u33 =>
      some ((0 : Int32), u33)
  else
    if (q2.2 21 0) = (100 : Int32) then
      (fM_raise (7 : Int32) (7 : Int32) q2.2).bind fun q5 =>
      some ((0 : Int32), q5.2)
    else
      if (lg_cmp (q2.2 8 0).toInt64 (20000 : Int64)) = (0 : Int32) then
        (fM_raise (7 : Int32) (7 : Int32) q2.2).bind fun q22 =>
        some ((0 : Int32), q22.2)
      else
        (scO q2.2 21 ((q2.2 21 0) + (1 : Int32))).bind fun u7 =>
        (slO u7 8 ((u7 8 0).toInt64 + (1 : Int64))).bind fun u8 =>
        (rdO (u8 15) 4 ((u 14 0) - (1 : Int32))).bind fun y9 =>
        (rdO (u8 17) 4 ((u 14 0) - (1 : Int32))).bind fun y10 =>
        (rdO (u8 15) 4 ((u 14 0) - (1 : Int32))).bind fun y11 =>
        (rdO (u8 6) 12 y11).bind fun y12 =>
        (rdO (u8 17) 4 ((u 14 0) - (1 : Int32))).bind fun y13 =>
        (wrO u8 6 12 y11 (y12 ||| ((1 : Int32) <<< (y13 &&& 31)))).bind fun u14 =>
        (rdO (u14 17) 4 ((u 14 0) - (1 : Int32))).bind fun y15 =>
        (wrO u14 17 4 ((u 14 0) - (1 : Int32)) (y15 + (1 : Int32))).bind fun u16 =>
        if (u16 33 0) ≤ (0 : Int32) then
          (fM_work ((u 14 0) - (1 : Int32)) (((8 : Int32) * y9) + y10) (0 : Int32) u16).bind fun q18 =>
          some ((0 : Int32), q18.2)
        else
          if (((8 : Int32) * y9) + y10) = (u16 32 0) then
            (fM_work ((u 14 0) - (1 : Int32)) (((8 : Int32) * y9) + y10) (u16 33 0) u16).bind fun q21 =>
            some ((0 : Int32), q21.2)
          else
            (fM_work ((u 14 0) - (1 : Int32)) (((8 : Int32) * y9) + y10) (0 : Int32) u16).bind fun q20 =>
            some ((0 : Int32), q20.2)
def sM_outside_106 (k106 : Int32 → Int32 → Int32 → Int32 → Int32 → Ug → Option (Int32 × Ug)) (v1 : Int32) (v2 : Int32) (v3 : Int32) (v4 : Int32) (v5 : Int32) (u : Ug) : Option (Int32 × Ug) :=
  if (u 25 0) = (0 : Int32) then
    (fM_goOn u).bind fun q25 =>
    k106 v1 v2 v3 v4 v5 q25.2
  else
    if (u 22 0) ≤ (0 : Int32) then
      (scO u 26 (u 24 0)).bind fun u17 =>
      (scO u17 27 (u17 22 0)).bind fun u18 =>
      (scO u18 28 (u18 23 0)).bind fun u19 =>
      (scO u19 29 (u19 21 0)).bind fun u20 =>
      some ((0 : Int32), u20)
    else
      (scO u 26 (0 : Int32)).bind fun u21 =>
      (scO u21 27 (u21 22 0)).bind fun u22 =>
      (scO u22 28 (u22 23 0)).bind fun u23 =>
      (scO u23 29 (u23 21 0)).bind fun u24 =>
      some ((0 : Int32), u24)
def kM_outside : Nat → Int32 → Int32 → Int32 → Int32 → Int32 → Ug → Option (Int32 × Ug)
  | 0 => fun _ _ _ _ _ _ => none
  | n + 1 => sM_outside_106 (kM_outside n)
def fM_outside (x1 : Int32) (x2 : Int32) (x3 : Int32) (x4 : Int32) (u : Ug) : Option (Int32 × Ug) :=
  (scO u 21 (0 : Int32)).bind fun u1 =>
  (scO u1 22 (0 : Int32)).bind fun u2 =>
  (scO u2 23 (0 : Int32)).bind fun u3 =>
  (scO u3 24 (0 : Int32)).bind fun u4 =>
  (sbO u4 25 (0 : Int32)).bind fun u5 =>
  (scO u5 14 (0 : Int32)).bind fun u6 =>
  (fM_keep (0 : Int32) u6).bind fun q7 =>
  if (lg_cmp (q7.2 8 0).toInt64 (20000 : Int64)) = (0 : Int32) then
    (fM_raise (7 : Int32) (7 : Int32) q7.2).bind fun q14 =>
    (kM_outside 4096) x1 x2 x3 x4 (7 : Int32) q14.2
  else
    (slO q7.2 8 ((q7.2 8 0).toInt64 + (1 : Int64))).bind fun u9 =>
    (fM_pay x1 ((8 : Int32) + (x2 / (3 : Int32))) x4 u9).bind fun q10 =>
    if q10.1 ≤ (0 : Int32) then
      (fM_enter x2 x3 q10.2).bind fun q12 =>
      (kM_outside 4096) x1 x2 x3 x4 q10.1 q12.2
    else
      (fM_raise q10.1 q10.1 q10.2).bind fun q13 =>
      (kM_outside 4096) x1 x2 x3 x4 q10.1 q13.2
def fM_call (x1 : Int32) (x2 : Int32) (x3 : Int32) (x4 : Int32) (x5 : Int32) (u : Ug) : Option (Int32 × Ug) :=
  (fM_isAccount x1 u).bind fun q1 =>
  if q1.1 = (0 : Int32) then
    some ((-1 : Int32), q1.2)
  else
    (fM_isMember x2 x3 q1.2).bind fun q3 =>
    if q3.1 = (0 : Int32) then
      some ((-1 : Int32), q3.2)
    else
      if (0 : Int32) ≤ x5 then
        (fM_outside x1 (((3 : Int32) * x2) + x3) x4 x5 q3.2).bind fun q6 =>
        if (q6.2 27 0) ≤ (0 : Int32) then
          some ((1 : Int32), q6.2)
        else
          some (((-10 : Int32) - (q6.2 27 0)), q6.2)
      else
        some ((-1 : Int32), q3.2)
def fM_told (x1 : Int32) (u : Ug) : Option (Int32 × Ug) :=
  if x1 = (0 : Int32) then
    some ((u 26 0), u)
  else
    if x1 = (1 : Int32) then
      some ((u 27 0), u)
    else
      if x1 = (2 : Int32) then
        some ((u 28 0), u)
      else
        if x1 = (3 : Int32) then
          some ((u 29 0), u)
        else
          some ((0 : Int32), u)
def sM_line_6 (k6 : Int32 → Int64 → Int32 → Int32 → Int32 → Int32 → Int32 → Ug → Option (Int32 × Ug)) (v1 : Int32) (v2 : Int64) (v4 : Int32) (v5 : Int32) (v6 : Int32) (v7 : Int32) (v8 : Int32) (u : Ug) : Option (Int32 × Ug) :=
  if (14 : Int32) ≤ v8 then
    (fM_in v1.toInt64 (0 : Int64) (5 : Int64) u).bind fun q2 =>
    if q2.1 = (0 : Int32) then
      some ((-1 : Int32), q2.2)
    else
      if (0 : Int32) ≤ v7 then
        (rdO (q2.2 9) 6 v1).bind fun y5 =>
        if y5 = (16 : Int32) then
          some ((-2 : Int32), q2.2)
        else
          (rdO (q2.2 9) 6 v1).bind fun y7 =>
          (wrO q2.2 10 96 (((16 : Int32) * v1) + y7) v7).bind fun u8 =>
          (wrO u8 11 96 (((16 : Int32) * v1) + y7) v4).bind fun u9 =>
          (wrO u9 12 96 (((16 : Int32) * v1) + y7) v5).bind fun u10 =>
          (wrO u10 13 96 (((16 : Int32) * v1) + y7) v6).bind fun u11 =>
          (rdO (u11 9) 6 v1).bind fun y12 =>
          (wrO u11 9 6 v1 (y12 + (1 : Int32))).bind fun u13 =>
          (rdO (u13 9) 6 v1).bind fun y14 =>
          some (y14, u13)
      else
        some ((-1 : Int32), q2.2)
  else
    (tbO tw 14 v8).bind fun y15 =>
    if (lg_cmp y15 v2) = (0 : Int32) then
      k6 v1 v2 v4 v5 v6 v8 (v8 + (1 : Int32)) u
    else
      k6 v1 v2 v4 v5 v6 v7 (v8 + (1 : Int32)) u
def kM_line : Nat → Int32 → Int64 → Int32 → Int32 → Int32 → Int32 → Int32 → Ug → Option (Int32 × Ug)
  | 0 => fun _ _ _ _ _ _ _ _ => none
  | n + 1 => sM_line_6 (kM_line n)
def fM_line (x1 : Int32) (x2 : Int64) (x3 : Int32) (x4 : Int32) (x5 : Int32) (u : Ug) : Option (Int32 × Ug) :=
  (kM_line 4096) x1 x2 x3 x4 x5 (-1 : Int32) (0 : Int32) u
def fM_clear (x1 : Int32) (u : Ug) : Option (Int32 × Ug) :=
  (fM_in x1.toInt64 (0 : Int64) (5 : Int64) u).bind fun q1 =>
  if q1.1 = (0 : Int32) then
    some ((-1 : Int32), q1.2)
  else
    (rdO (q1.2 9) 6 x1).bind fun y3 =>
    (wrO q1.2 9 6 x1 (0 : Int32)).bind fun u4 =>
    some (y3, u4)
def fM_calls (x1 : Int32) (x2 : Int32) (x3 : Int32) (x4 : Int32) (x5 : Int32) (u : Ug) : Option (Int32 × Ug) :=
  (fM_isMember x3 x4 u).bind fun q1 =>
  if q1.1 = (0 : Int32) then
    some ((0 : Int32), q1.2)
  else
    (sbO q1.2 39 (1 : Int32)).bind fun u3 =>
    (fM_outside (u3 37 0) (((3 : Int32) * x3) + x4) x5 (u3 38 0) u3).bind fun q4 =>
    (rdO (q4.2 9) 6 x1).bind fun y5 =>
    if y5 ≤ (x2 + (1 : Int32)) then
      if (q4.2 27 0) = (0 : Int32) then
        some ((1 : Int32), q4.2)
      else
        some ((0 : Int32), q4.2)
    else
      (rdO (q4.2 10) 96 ((((16 : Int32) * x1) + x2) + (1 : Int32))).bind fun y8 =>
      if y8 = (3 : Int32) then
        if (q4.2 27 0) = (0 : Int32) then
          some ((1 : Int32), q4.2)
        else
          some ((1 : Int32), q4.2)
      else
        if (q4.2 27 0) = (0 : Int32) then
          some ((1 : Int32), q4.2)
        else
          some ((0 : Int32), q4.2)
def sM_sum_4 (k4 : Int64 → Int32 → Ug → Option (Int64 × Ug)) (v1 : Int64) (v3 : Int32) (u : Ug) : Option (Int64 × Ug) :=
  if (12 : Int32) ≤ v3 then
    some (v1, u)
  else
    (rdO (u 0) 70 v3).bind fun y2 =>
    k4 (v1 + y2.toInt64) (v3 + (1 : Int32)) u
def kM_sum : Nat → Int64 → Int32 → Ug → Option (Int64 × Ug)
  | 0 => fun _ _ _ => none
  | n + 1 => sM_sum_4 (kM_sum n)
def fM_sum (u : Ug) : Option (Int64 × Ug) :=
  (kM_sum 4096) (0 : Int64) (0 : Int32) u
def sM_forked_29 (k29 : Int32 → Int32 → Int32 → Ug → Option (Int32 × Ug)) (v1 : Int32) (v2 : Int32) (v3 : Int32) (u : Ug) : Option (Int32 × Ug) :=
  if (70 : Int32) ≤ v3 then
    (wbO u 36 3 v2 (1 : Int32)).bind fun u7 =>
    some ((1 : Int32), u7)
  else
    if v1 = (0 : Int32) then
      (rdO (u 0) 70 v3).bind fun y9 =>
      (wrO u 35 210 (((70 : Int32) * v2) + v3) y9).bind fun u10 =>
      k29 v1 v2 (v3 + (1 : Int32)) u10
    else
      (rdO (u 35) 210 (((70 : Int32) * v2) + v3)).bind fun y11 =>
      (wrO u 0 70 v3 y11).bind fun u12 =>
      k29 v1 v2 (v3 + (1 : Int32)) u12
def kM_forked : Nat → Int32 → Int32 → Int32 → Ug → Option (Int32 × Ug)
  | 0 => fun _ _ _ _ => none
  | n + 1 => sM_forked_29 (kM_forked n)
def fM_forked (x1 : Int32) (x2 : Int32) (u : Ug) : Option (Int32 × Ug) :=
  (fM_in x2.toInt64 (0 : Int64) (2 : Int64) u).bind fun q1 =>
  if q1.1 = (0 : Int32) then
    some ((0 : Int32), q1.2)
  else
    if x1 = (0 : Int32) then
      (kM_forked 4096) x1 x2 (0 : Int32) q1.2
    else
      (rdO (q1.2 36) 3 x2).bind fun y4 =>
      if y4 = (0 : Int32) then
        some ((0 : Int32), q1.2)
      else
        (kM_forked 4096) x1 x2 (0 : Int32) q1.2
def fM_doubles (x1 : Int32) (x2 : Int32) (x3 : Int32) (u : Ug) : Option (Int32 × Ug) :=
  (fM_in x2.toInt64 (0 : Int64) (3 : Int64) u).bind fun q1 =>
  if q1.1 = (0 : Int32) then
    some ((0 : Int32), q1.2)
  else
    if x1 = (2 : Int32) then
      (fM_in x3.toInt64 (0 : Int64) (5 : Int64) q1.2).bind fun q8 =>
      if q8.1 = (0 : Int32) then
        some ((0 : Int32), q8.2)
      else
        (wrO q8.2 30 4 x2 x1).bind fun u10 =>
        if x1 = (1 : Int32) then
          (wrO u10 31 4 x2 x3).bind fun u13 =>
          some ((1 : Int32), u13)
        else
          (wrO u10 31 4 x2 ((20 : Int32) + x3)).bind fun u12 =>
          some ((1 : Int32), u12)
    else
      (wrO q1.2 30 4 x2 x1).bind fun u4 =>
      if x1 = (1 : Int32) then
        (wrO u4 31 4 x2 x3).bind fun u7 =>
        some ((1 : Int32), u7)
      else
        (wrO u4 31 4 x2 ((20 : Int32) + x3)).bind fun u6 =>
        some ((1 : Int32), u6)
def fM_isAsTold (x1 : Int32) (x2 : Int32) (u : Ug) : Option (Int32 × Ug) :=
  (rdO (u 11) 96 (((16 : Int32) * x1) + x2)).bind fun y1 =>
  (rdO (u 12) 96 (((16 : Int32) * x1) + x2)).bind fun y2 =>
  (rdO (u 13) 96 (((16 : Int32) * x1) + x2)).bind fun y3 =>
  (rdO (u 10) 96 (((16 : Int32) * x1) + x2)).bind fun y4 =>
  if y4 = (0 : Int32) then
    (fM_isAccount y1 u).bind fun q5 =>
    if q5.1 = (0 : Int32) then
      some ((0 : Int32), q5.2)
    else
      if (0 : Int32) ≤ y2 then
        (scO q5.2 37 y1).bind fun u8 =>
        (scO u8 38 y2).bind fun u9 =>
        some ((1 : Int32), u9)
      else
        some ((0 : Int32), q5.2)
  else
  if y4 = (1 : Int32) then
    (fM_calls x1 x2 y1 y2 y3 u).bind fun q10 =>
    if bz q10.1 then some (q10.1, q10.2) else none
  else
  if y4 = (2 : Int32) then
    if (u 39 0) = (0 : Int32) then
      some ((0 : Int32), u)
    else
      if (u 27 0) = (0 : Int32) then
        if (u 26 0) = y1 then
          some ((1 : Int32), u)
        else
          some ((0 : Int32), u)
      else
        some ((0 : Int32), u)
  else
  if y4 = (3 : Int32) then
    if (u 39 0) = (0 : Int32) then
      some ((0 : Int32), u)
    else
      if (u 27 0) ≤ (0 : Int32) then
        some ((0 : Int32), u)
      else
        if (u 27 0) = y1 then
          if (u 28 0) = y2 then
            some ((1 : Int32), u)
          else
            some ((0 : Int32), u)
        else
          some ((0 : Int32), u)
  else
  if y4 = (4 : Int32) then
    if (u 39 0) = (0 : Int32) then
      some ((0 : Int32), u)
    else
      if y1 < (u 29 0) then
        some ((0 : Int32), u)
      else
        some ((1 : Int32), u)
  else
  if y4 = (5 : Int32) then
    (fM_isAccount y1 u).bind fun q20 =>
    if q20.1 = (0 : Int32) then
      some ((0 : Int32), q20.2)
    else
      (rdO (q20.2 0) 70 y1).bind fun y22 =>
      if y22 = y2 then
        some ((1 : Int32), q20.2)
      else
        some ((0 : Int32), q20.2)
  else
  if y4 = (6 : Int32) then
    (fM_in y1.toInt64 (0 : Int64) (((u 1 0) - (1 : Int32))).toInt64 u).bind fun q24 =>
    if q24.1 = (0 : Int32) then
      some ((0 : Int32), q24.2)
    else
      (fM_in y2.toInt64 (0 : Int64) (3 : Int64) q24.2).bind fun q26 =>
      if q26.1 = (0 : Int32) then
        some ((0 : Int32), q26.2)
      else
        (rdO (q26.2 0) 70 (((12 : Int32) + ((4 : Int32) * y1)) + y2)).bind fun y28 =>
        if y28 = y3 then
          some ((1 : Int32), q26.2)
        else
          some ((0 : Int32), q26.2)
  else
  if y4 = (7 : Int32) then
    (fM_in y1.toInt64 (0 : Int64) (40 : Int64) u).bind fun q30 =>
    if q30.1 = (0 : Int32) then
      some ((0 : Int32), q30.2)
    else
      (rdO (q30.2 34) 70 (29 : Int32)).bind fun y32 =>
      (rdO (q30.2 0) 70 (29 : Int32)).bind fun y33 =>
      if y33 ≤ (y32 + y1) then
        some ((0 : Int32), q30.2)
      else
        (rdO (q30.2 34) 70 (29 : Int32)).bind fun y35 =>
        (rdO (q30.2 0) 70 (((30 : Int32) + y35) + y1)).bind fun y36 =>
        if y36 = y2 then
          some ((1 : Int32), q30.2)
        else
          some ((0 : Int32), q30.2)
  else
  if y4 = (8 : Int32) then
    (fM_sum u).bind fun q38 =>
    if (lg_cmp q38.1 y1.toInt64) = (0 : Int32) then
      some ((1 : Int32), q38.2)
    else
      some ((0 : Int32), q38.2)
  else
  if y4 = (9 : Int32) then
    (rdO (u 0) 70 (28 : Int32)).bind fun y40 =>
    (fM_in y1.toInt64 (0 : Int64) (1000 : Int64) u).bind fun q41 =>
    if q41.1 = (0 : Int32) then
      (wrO q41.2 0 70 (28 : Int32) (y40 + (0 : Int32))).bind fun u43 =>
      (fM_in y1.toInt64 (0 : Int64) (1000 : Int64) u43).bind fun q44 =>
      if bz q44.1 then some (q44.1, q44.2) else none
    else
      (wrO q41.2 0 70 (28 : Int32) (y40 + y1)).bind fun u45 =>
      (fM_in y1.toInt64 (0 : Int64) (1000 : Int64) u45).bind fun q46 =>
      if bz q46.1 then some (q46.1, q46.2) else none
  else
  if y4 = (10 : Int32) then
    (fM_forked (0 : Int32) y1 u).bind fun q47 =>
    if bz q47.1 then some (q47.1, q47.2) else none
  else
  if y4 = (11 : Int32) then
    (fM_forked (1 : Int32) y1 u).bind fun q48 =>
    if bz q48.1 then some (q48.1, q48.2) else none
  else
  if y4 = (12 : Int32) then
    (fM_doubles (1 : Int32) y1 y2 u).bind fun q49 =>
    if bz q49.1 then some (q49.1, q49.2) else none
  else
    (fM_doubles (2 : Int32) y1 y2 u).bind fun q50 =>
    if bz q50.1 then some (q50.1, q50.2) else none
def sM_runs_2 (k2 : Int32 → Int32 → Ug → Option (Int32 × Ug)) (k28 : Int32 → Int32 → Ug → Option (Int32 × Ug)) (k48 : Int32 → Int32 → Ug → Option (Int32 × Ug)) (k83 : Int32 → Int32 → Ug → Option (Int32 × Ug)) (k110 : Int32 → Int32 → Int32 → Ug → Option (Int32 × Ug)) (k136 : Int32 → Int32 → Int32 → Ug → Option (Int32 × Ug)) (v1 : Int32) (v2 : Int32) (u : Ug) : Option (Int32 × Ug) :=
  if (70 : Int32) ≤ v2 then
    k28 v1 (0 : Int32) u
  else
    (rdO (u 0) 70 v2).bind fun y2 =>
    (wrO u 34 70 v2 y2).bind fun u3 =>
    k2 v1 (v2 + (1 : Int32)) u3
def sM_runs_28 (k2 : Int32 → Int32 → Ug → Option (Int32 × Ug)) (k28 : Int32 → Int32 → Ug → Option (Int32 × Ug)) (k48 : Int32 → Int32 → Ug → Option (Int32 × Ug)) (k83 : Int32 → Int32 → Ug → Option (Int32 × Ug)) (k110 : Int32 → Int32 → Int32 → Ug → Option (Int32 × Ug)) (k136 : Int32 → Int32 → Int32 → Ug → Option (Int32 × Ug)) (v1 : Int32) (v2 : Int32) (u : Ug) : Option (Int32 × Ug) :=
  if (4 : Int32) ≤ v2 then
    k48 v1 (0 : Int32) u
  else
    (wrO u 30 4 v2 (0 : Int32)).bind fun u5 =>
    k28 v1 (v2 + (1 : Int32)) u5
def sM_runs_48 (k2 : Int32 → Int32 → Ug → Option (Int32 × Ug)) (k28 : Int32 → Int32 → Ug → Option (Int32 × Ug)) (k48 : Int32 → Int32 → Ug → Option (Int32 × Ug)) (k83 : Int32 → Int32 → Ug → Option (Int32 × Ug)) (k110 : Int32 → Int32 → Int32 → Ug → Option (Int32 × Ug)) (k136 : Int32 → Int32 → Int32 → Ug → Option (Int32 × Ug)) (v1 : Int32) (v2 : Int32) (u : Ug) : Option (Int32 × Ug) :=
  if (3 : Int32) ≤ v2 then
    (scO u 37 (0 : Int32)).bind fun u7 =>
    (scO u7 38 (0 : Int32)).bind fun u8 =>
    (sbO u8 39 (0 : Int32)).bind fun u9 =>
    k83 v1 (0 : Int32) u9
  else
    (wbO u 36 3 v2 (0 : Int32)).bind fun u10 =>
    k48 v1 (v2 + (1 : Int32)) u10
def sM_runs_83 (k2 : Int32 → Int32 → Ug → Option (Int32 × Ug)) (k28 : Int32 → Int32 → Ug → Option (Int32 × Ug)) (k48 : Int32 → Int32 → Ug → Option (Int32 × Ug)) (k83 : Int32 → Int32 → Ug → Option (Int32 × Ug)) (k110 : Int32 → Int32 → Int32 → Ug → Option (Int32 × Ug)) (k136 : Int32 → Int32 → Int32 → Ug → Option (Int32 × Ug)) (v1 : Int32) (v2 : Int32) (u : Ug) : Option (Int32 × Ug) :=
  (rdO (u 9) 6 v1).bind fun y11 =>
  if y11 ≤ v2 then
    k110 v1 v2 (0 : Int32) u
  else
    (fM_isAsTold v1 v2 u).bind fun q13 =>
    if q13.1 = (0 : Int32) then
      k110 v1 v2 (0 : Int32) q13.2
    else
      k83 v1 (v2 + (1 : Int32)) q13.2
def sM_runs_110 (k2 : Int32 → Int32 → Ug → Option (Int32 × Ug)) (k28 : Int32 → Int32 → Ug → Option (Int32 × Ug)) (k48 : Int32 → Int32 → Ug → Option (Int32 × Ug)) (k83 : Int32 → Int32 → Ug → Option (Int32 × Ug)) (k110 : Int32 → Int32 → Int32 → Ug → Option (Int32 × Ug)) (k136 : Int32 → Int32 → Int32 → Ug → Option (Int32 × Ug)) (v1 : Int32) (v2 : Int32) (v3 : Int32) (u : Ug) : Option (Int32 × Ug) :=
  if (70 : Int32) ≤ v3 then
    k136 v1 v2 (0 : Int32) u
  else
    (rdO (u 34) 70 v3).bind fun y16 =>
    (wrO u 0 70 v3 y16).bind fun u17 =>
    k110 v1 v2 (v3 + (1 : Int32)) u17
def sM_runs_136 (k2 : Int32 → Int32 → Ug → Option (Int32 × Ug)) (k28 : Int32 → Int32 → Ug → Option (Int32 × Ug)) (k48 : Int32 → Int32 → Ug → Option (Int32 × Ug)) (k83 : Int32 → Int32 → Ug → Option (Int32 × Ug)) (k110 : Int32 → Int32 → Int32 → Ug → Option (Int32 × Ug)) (k136 : Int32 → Int32 → Int32 → Ug → Option (Int32 × Ug)) (v1 : Int32) (v2 : Int32) (v3 : Int32) (u : Ug) : Option (Int32 × Ug) :=
  if (4 : Int32) ≤ v3 then
    (rdO (u 9) 6 v1).bind fun y19 =>
    if v2 = y19 then
      some ((-1 : Int32), u)
    else
      some (v2, u)
  else
    (wrO u 30 4 v3 (0 : Int32)).bind fun u21 =>
    k136 v1 v2 (v3 + (1 : Int32)) u21
def kM_runs : Nat → (Int32 → Int32 → Ug → Option (Int32 × Ug)) × (Int32 → Int32 → Ug → Option (Int32 × Ug)) × (Int32 → Int32 → Ug → Option (Int32 × Ug)) × (Int32 → Int32 → Ug → Option (Int32 × Ug)) × (Int32 → Int32 → Int32 → Ug → Option (Int32 × Ug)) × (Int32 → Int32 → Int32 → Ug → Option (Int32 × Ug))
  | 0 => (fun _ _ _ => none, fun _ _ _ => none, fun _ _ _ => none, fun _ _ _ => none, fun _ _ _ _ => none, fun _ _ _ _ => none)
  | n + 1 => (sM_runs_2 (kM_runs n).1 (kM_runs n).2.1 (kM_runs n).2.2.1 (kM_runs n).2.2.2.1 (kM_runs n).2.2.2.2.1 (kM_runs n).2.2.2.2.2, sM_runs_28 (kM_runs n).1 (kM_runs n).2.1 (kM_runs n).2.2.1 (kM_runs n).2.2.2.1 (kM_runs n).2.2.2.2.1 (kM_runs n).2.2.2.2.2, sM_runs_48 (kM_runs n).1 (kM_runs n).2.1 (kM_runs n).2.2.1 (kM_runs n).2.2.2.1 (kM_runs n).2.2.2.2.1 (kM_runs n).2.2.2.2.2, sM_runs_83 (kM_runs n).1 (kM_runs n).2.1 (kM_runs n).2.2.1 (kM_runs n).2.2.2.1 (kM_runs n).2.2.2.2.1 (kM_runs n).2.2.2.2.2, sM_runs_110 (kM_runs n).1 (kM_runs n).2.1 (kM_runs n).2.2.1 (kM_runs n).2.2.2.1 (kM_runs n).2.2.2.2.1 (kM_runs n).2.2.2.2.2, sM_runs_136 (kM_runs n).1 (kM_runs n).2.1 (kM_runs n).2.2.1 (kM_runs n).2.2.2.1 (kM_runs n).2.2.2.2.1 (kM_runs n).2.2.2.2.2)
def fM_runs (x1 : Int32) (u : Ug) : Option (Int32 × Ug) :=
  (kM_runs 4096).1 x1 (0 : Int32) u
def fM_run (x1 : Int32) (u : Ug) : Option (Int32 × Ug) :=
  (fM_in x1.toInt64 (0 : Int64) (5 : Int64) u).bind fun q1 =>
  if q1.1 = (0 : Int32) then
    some ((-2 : Int32), q1.2)
  else
    (fM_runs x1 q1.2).bind fun q3 =>
    some (q3.1, q3.2)
def fM_ways (x1 : Int32) (u : Ug) : Option (Int32 × Ug) :=
  if x1 = (2 : Int32) then
    some ((2 : Int32), u)
  else
    if x1 = (4 : Int32) then
      some ((2 : Int32), u)
    else
      if x1 = (7 : Int32) then
        some ((2 : Int32), u)
      else
        some ((1 : Int32), u)
def sM_mutants_24 (k24 : Int32 → Int32 → Int32 → Ug → Option (Int32 × Ug)) (k36 : Int32 → Int32 → Int32 → Int32 → Ug → Option (Int32 × Ug)) (v1 : Int32) (v2 : Int32) (v3 : Int32) (u : Ug) : Option (Int32 × Ug) :=
  if (((3 : Int32) * v1) + (3 : Int32)) ≤ v3 then
    some (v2, u)
  else
    k36 v1 v2 v3 (0 : Int32) u
def sM_mutants_36 (k24 : Int32 → Int32 → Int32 → Ug → Option (Int32 × Ug)) (k36 : Int32 → Int32 → Int32 → Int32 → Ug → Option (Int32 × Ug)) (v1 : Int32) (v2 : Int32) (v3 : Int32) (v4 : Int32) (u : Ug) : Option (Int32 × Ug) :=
  (rdO (u 2) 12 v3).bind fun y4 =>
  if y4 ≤ v4 then
    k24 v1 v2 (v3 + (1 : Int32)) u
  else
    (rdO (u 3) 96 (((8 : Int32) * v3) + v4)).bind fun y6 =>
    (fM_ways y6 u).bind fun q7 =>
    k36 v1 (v2 + q7.1) v3 (v4 + (1 : Int32)) q7.2
def kM_mutants : Nat → (Int32 → Int32 → Int32 → Ug → Option (Int32 × Ug)) × (Int32 → Int32 → Int32 → Int32 → Ug → Option (Int32 × Ug))
  | 0 => (fun _ _ _ _ => none, fun _ _ _ _ _ => none)
  | n + 1 => (sM_mutants_24 (kM_mutants n).1 (kM_mutants n).2, sM_mutants_36 (kM_mutants n).1 (kM_mutants n).2)
def fM_mutants (x1 : Int32) (u : Ug) : Option (Int32 × Ug) :=
  (fM_in x1.toInt64 (0 : Int64) (((u 1 0) - (1 : Int32))).toInt64 u).bind fun q1 =>
  if q1.1 = (0 : Int32) then
    some ((-1 : Int32), q1.2)
  else
    (kM_mutants 4096).1 x1 (0 : Int32) ((3 : Int32) * x1) q1.2
def sM_find_7 (k7 : Int32 → Int32 → Int32 → Int32 → Ug → Option (Int32 × Ug)) (k20 : Int32 → Int32 → Int32 → Int32 → Int32 → Ug → Option (Int32 × Ug)) (v1 : Int32) (v2 : Int32) (v3 : Int32) (v4 : Int32) (u : Ug) : Option (Int32 × Ug) :=
  if (((3 : Int32) * v1) + (3 : Int32)) ≤ v4 then
    some ((-1 : Int32), u)
  else
    k20 v1 v2 v3 v4 (0 : Int32) u
def sM_find_20 (k7 : Int32 → Int32 → Int32 → Int32 → Ug → Option (Int32 × Ug)) (k20 : Int32 → Int32 → Int32 → Int32 → Int32 → Ug → Option (Int32 × Ug)) (v1 : Int32) (v2 : Int32) (v3 : Int32) (v4 : Int32) (v5 : Int32) (u : Ug) : Option (Int32 × Ug) :=
  (rdO (u 2) 12 v4).bind fun y2 =>
  if y2 ≤ v5 then
    k7 v1 v2 v3 (v4 + (1 : Int32)) u
  else
    (rdO (u 3) 96 (((8 : Int32) * v4) + v5)).bind fun y4 =>
    (fM_ways y4 u).bind fun q5 =>
    (fM_in v3.toInt64 (0 : Int64) ((q5.1 - (1 : Int32))).toInt64 q5.2).bind fun q6 =>
    if q6.1 = (0 : Int32) then
      (rdO (q6.2 3) 96 (((8 : Int32) * v4) + v5)).bind fun y8 =>
      (fM_ways y8 q6.2).bind fun q9 =>
      k20 v1 v2 (v3 - q9.1) v4 (v5 + (1 : Int32)) q9.2
    else
      some ((((2 : Int32) * (((8 : Int32) * v4) + v5)) + v3), q6.2)
def kM_find : Nat → (Int32 → Int32 → Int32 → Int32 → Ug → Option (Int32 × Ug)) × (Int32 → Int32 → Int32 → Int32 → Int32 → Ug → Option (Int32 × Ug))
  | 0 => (fun _ _ _ _ _ => none, fun _ _ _ _ _ _ => none)
  | n + 1 => (sM_find_7 (kM_find n).1 (kM_find n).2, sM_find_20 (kM_find n).1 (kM_find n).2)
def fM_find (x1 : Int32) (x2 : Int32) (u : Ug) : Option (Int32 × Ug) :=
  (kM_find 4096).1 x1 x2 x2 ((3 : Int32) * x1) u
def fM_mutant (x1 : Int32) (x2 : Int32) (x3 : Int32) (u : Ug) : Option (Int32 × Ug) :=
  (fM_in x1.toInt64 (0 : Int64) (((u 1 0) - (1 : Int32))).toInt64 u).bind fun q1 =>
  if q1.1 = (0 : Int32) then
    some ((-1 : Int32), q1.2)
  else
    (fM_mutants x1 q1.2).bind fun q3 =>
    (fM_in x2.toInt64 (0 : Int64) ((q3.1 - (1 : Int32))).toInt64 q3.2).bind fun q4 =>
    if q4.1 = (0 : Int32) then
      some ((-1 : Int32), q4.2)
    else
      (fM_in x3.toInt64 (0 : Int64) (2 : Int64) q4.2).bind fun q6 =>
      if q6.1 = (0 : Int32) then
        some ((-1 : Int32), q6.2)
      else
        (fM_find x1 x2 q6.2).bind fun q8 =>
        if x3 = (0 : Int32) then
          some ((((q8.1 / (2 : Int32)) / (8 : Int32)) - ((q8.1 / (2 : Int32)) / (8 : Int32)) / (3 : Int32) * (3 : Int32)), q8.2)
        else
          if x3 = (1 : Int32) then
            some (((q8.1 / (2 : Int32)) - (q8.1 / (2 : Int32)) / (8 : Int32) * (8 : Int32)), q8.2)
          else
            some ((q8.1 - q8.1 / (2 : Int32) * (2 : Int32)), q8.2)
def sM_judge_22 (k22 : Int32 → Int32 → Int32 → Ug → Option (Int32 × Ug)) (k68 : Int32 → Int32 → Int32 → Int32 → Ug → Option (Int32 × Ug)) (k112 : Int32 → Int32 → Int32 → Int32 → Int32 → Int32 → Int32 → Ug → Option (Int32 × Ug)) (v1 : Int32) (v2 : Int32) (v3 : Int32) (u : Ug) : Option (Int32 × Ug) :=
  if (6 : Int32) ≤ v3 then
    (fM_mutants v1 u).bind fun q4 =>
    (wrO q4.2 40 4 v1 q4.1).bind fun u5 =>
    k68 v1 v2 (0 : Int32) (0 : Int32) u5
  else
    (fM_runs v3 u).bind fun q6 =>
    if (0 : Int32) ≤ q6.1 then
      k22 v1 (v2 ||| (0 : Int32)) (v3 + (1 : Int32)) q6.2
    else
      k22 v1 (v2 ||| ((1 : Int32) <<< (v3 &&& 31))) (v3 + (1 : Int32)) q6.2
def sM_judge_68 (k22 : Int32 → Int32 → Int32 → Ug → Option (Int32 × Ug)) (k68 : Int32 → Int32 → Int32 → Int32 → Ug → Option (Int32 × Ug)) (k112 : Int32 → Int32 → Int32 → Int32 → Int32 → Int32 → Int32 → Ug → Option (Int32 × Ug)) (v1 : Int32) (v2 : Int32) (v3 : Int32) (v4 : Int32) (u : Ug) : Option (Int32 × Ug) :=
  (rdO (u 40) 4 v1).bind fun y8 =>
  if y8 ≤ v4 then
    (scO u 33 (0 : Int32)).bind fun u10 =>
    some (v3, u10)
  else
    (fM_find v1 v4 u).bind fun q11 =>
    (scO q11.2 32 (q11.1 / (2 : Int32))).bind fun u12 =>
    (scO u12 33 ((1 : Int32) + (q11.1 - q11.1 / (2 : Int32) * (2 : Int32)))).bind fun u13 =>
    k112 v1 v2 v3 v4 q11.1 (-1 : Int32) (0 : Int32) u13
def sM_judge_112 (k22 : Int32 → Int32 → Int32 → Ug → Option (Int32 × Ug)) (k68 : Int32 → Int32 → Int32 → Int32 → Ug → Option (Int32 × Ug)) (k112 : Int32 → Int32 → Int32 → Int32 → Int32 → Int32 → Int32 → Ug → Option (Int32 × Ug)) (v1 : Int32) (v2 : Int32) (v3 : Int32) (v4 : Int32) (v5 : Int32) (v6 : Int32) (v7 : Int32) (u : Ug) : Option (Int32 × Ug) :=
  if (6 : Int32) ≤ v7 then
    (wrO u 41 192 (((48 : Int32) * v1) + v4) v6).bind fun u15 =>
    if (0 : Int32) ≤ v6 then
      k68 v1 v2 (v3 + (1 : Int32)) (v4 + (1 : Int32)) u15
    else
      k68 v1 v2 (v3 + (0 : Int32)) (v4 + (1 : Int32)) u15
  else
    if (0 : Int32) ≤ v6 then
      (wrO u 41 192 (((48 : Int32) * v1) + v4) v6).bind fun u18 =>
      if (0 : Int32) ≤ v6 then
        k68 v1 v2 (v3 + (1 : Int32)) (v4 + (1 : Int32)) u18
      else
        k68 v1 v2 (v3 + (0 : Int32)) (v4 + (1 : Int32)) u18
    else
      if ((v2 >>> (v7 &&& 31)) &&& (1 : Int32)) = (1 : Int32) then
        (fM_runs v7 u).bind fun q21 =>
        if q21.1 < (0 : Int32) then
          k112 v1 v2 v3 v4 v5 (-1 : Int32) (v7 + (1 : Int32)) q21.2
        else
          k112 v1 v2 v3 v4 v5 v7 (v7 + (1 : Int32)) q21.2
      else
        k112 v1 v2 v3 v4 v5 (-1 : Int32) (v7 + (1 : Int32)) u
def kM_judge : Nat → (Int32 → Int32 → Int32 → Ug → Option (Int32 × Ug)) × (Int32 → Int32 → Int32 → Int32 → Ug → Option (Int32 × Ug)) × (Int32 → Int32 → Int32 → Int32 → Int32 → Int32 → Int32 → Ug → Option (Int32 × Ug))
  | 0 => (fun _ _ _ _ => none, fun _ _ _ _ _ => none, fun _ _ _ _ _ _ _ _ => none)
  | n + 1 => (sM_judge_22 (kM_judge n).1 (kM_judge n).2.1 (kM_judge n).2.2, sM_judge_68 (kM_judge n).1 (kM_judge n).2.1 (kM_judge n).2.2, sM_judge_112 (kM_judge n).1 (kM_judge n).2.1 (kM_judge n).2.2)
def fM_judge (x1 : Int32) (u : Ug) : Option (Int32 × Ug) :=
  (fM_in x1.toInt64 (0 : Int64) (((u 1 0) - (1 : Int32))).toInt64 u).bind fun q1 =>
  if q1.1 = (0 : Int32) then
    some ((-1 : Int32), q1.2)
  else
    (kM_judge 4096).1 x1 (0 : Int32) (0 : Int32) q1.2
def fM_killer (x1 : Int32) (x2 : Int32) (u : Ug) : Option (Int32 × Ug) :=
  (fM_in x1.toInt64 (0 : Int64) (((u 1 0) - (1 : Int32))).toInt64 u).bind fun q1 =>
  if q1.1 = (0 : Int32) then
    some ((-2 : Int32), q1.2)
  else
    (rdO (q1.2 40) 4 x1).bind fun y3 =>
    (fM_in x2.toInt64 (0 : Int64) ((y3 - (1 : Int32))).toInt64 q1.2).bind fun q4 =>
    if q4.1 = (0 : Int32) then
      some ((-2 : Int32), q4.2)
    else
      (rdO (q4.2 41) 192 (((48 : Int32) * x1) + x2)).bind fun y6 =>
      some (y6, q4.2)
def fM_put (x1 : Int32) (x2 : Int32) (u : Ug) : Option (Int32 × Ug) :=
  (rdO (u 10) 96 x2).bind fun y1 =>
  (wrO u 10 96 x1 y1).bind fun u2 =>
  (rdO (u2 11) 96 x2).bind fun y3 =>
  (wrO u2 11 96 x1 y3).bind fun u4 =>
  (rdO (u4 12) 96 x2).bind fun y5 =>
  (wrO u4 12 96 x1 y5).bind fun u6 =>
  (rdO (u6 13) 96 x2).bind fun y7 =>
  (wrO u6 13 96 x1 y7).bind fun u8 =>
  some ((0 : Int32), u8)
def sM_remove_58 (k58 : Int32 → Int32 → Int32 → Int32 → Ug → Option (Int32 × Ug)) (v1 : Int32) (v2 : Int32) (v3 : Int32) (v4 : Int32) (u : Ug) : Option (Int32 × Ug) :=
  (rdO (u 9) 6 v1).bind fun y9 =>
  if y9 ≤ (v4 + (1 : Int32)) then
    (rdO (u 9) 6 v1).bind fun y11 =>
    (wrO u 9 6 v1 (y11 - (1 : Int32))).bind fun u12 =>
    some ((0 : Int32), u12)
  else
    (fM_put (((16 : Int32) * v1) + v4) ((((16 : Int32) * v1) + v4) + (1 : Int32)) u).bind fun q13 =>
    k58 v1 v2 v3 (v4 + (1 : Int32)) q13.2
def kM_remove : Nat → Int32 → Int32 → Int32 → Int32 → Ug → Option (Int32 × Ug)
  | 0 => fun _ _ _ _ _ => none
  | n + 1 => sM_remove_58 (kM_remove n)
def fM_remove (x1 : Int32) (x2 : Int32) (u : Ug) : Option (Int32 × Ug) :=
  (rdO (u 10) 96 (((16 : Int32) * x1) + x2)).bind fun y1 =>
  (wrO u 42 4 (0 : Int32) y1).bind fun u2 =>
  (rdO (u2 11) 96 (((16 : Int32) * x1) + x2)).bind fun y3 =>
  (wrO u2 42 4 (1 : Int32) y3).bind fun u4 =>
  (rdO (u4 12) 96 (((16 : Int32) * x1) + x2)).bind fun y5 =>
  (wrO u4 42 4 (2 : Int32) y5).bind fun u6 =>
  (rdO (u6 13) 96 (((16 : Int32) * x1) + x2)).bind fun y7 =>
  (wrO u6 42 4 (3 : Int32) y7).bind fun u8 =>
  (kM_remove 4096) x1 x2 (((16 : Int32) * x1) + x2) x2 u8
def sM_giveBack_7 (k7 : Int32 → Int32 → Int32 → Ug → Option (Int32 × Ug)) (v1 : Int32) (v2 : Int32) (v3 : Int32) (u : Ug) : Option (Int32 × Ug) :=
  if v3 ≤ v2 then
    (rdO (u 9) 6 v1).bind fun y3 =>
    (wrO u 9 6 v1 (y3 + (1 : Int32))).bind fun u4 =>
    (rdO (u4 42) 4 (0 : Int32)).bind fun y5 =>
    (wrO u4 10 96 (((16 : Int32) * v1) + v2) y5).bind fun u6 =>
    (rdO (u6 42) 4 (1 : Int32)).bind fun y7 =>
    (wrO u6 11 96 (((16 : Int32) * v1) + v2) y7).bind fun u8 =>
    (rdO (u8 42) 4 (2 : Int32)).bind fun y9 =>
    (wrO u8 12 96 (((16 : Int32) * v1) + v2) y9).bind fun u10 =>
    (rdO (u10 42) 4 (3 : Int32)).bind fun y11 =>
    (wrO u10 13 96 (((16 : Int32) * v1) + v2) y11).bind fun u12 =>
    some ((0 : Int32), u12)
  else
    (fM_put (((16 : Int32) * v1) + v3) ((((16 : Int32) * v1) + v3) - (1 : Int32)) u).bind fun q13 =>
    k7 v1 v2 (v3 + (-1 : Int32)) q13.2
def kM_giveBack : Nat → Int32 → Int32 → Int32 → Ug → Option (Int32 × Ug)
  | 0 => fun _ _ _ _ => none
  | n + 1 => sM_giveBack_7 (kM_giveBack n)
def fM_giveBack (x1 : Int32) (x2 : Int32) (u : Ug) : Option (Int32 × Ug) :=
  (rdO (u 9) 6 x1).bind fun y1 =>
  (kM_giveBack 4096) x1 x2 y1 u
def sM_shrink_29 (k29 : Int32 → Int32 → Int32 → Ug → Option (Int32 × Ug)) (k38 : Int32 → Int32 → Int32 → Int32 → Ug → Option (Int32 × Ug)) (v1 : Int32) (v2 : Int32) (v3 : Int32) (u : Ug) : Option (Int32 × Ug) :=
  if v3 = (0 : Int32) then
    (rdO (u 9) 6 v1).bind fun y6 =>
    some (y6, u)
  else
    k38 v1 v2 (0 : Int32) (0 : Int32) u
def sM_shrink_38 (k29 : Int32 → Int32 → Int32 → Ug → Option (Int32 × Ug)) (k38 : Int32 → Int32 → Int32 → Int32 → Ug → Option (Int32 × Ug)) (v1 : Int32) (v2 : Int32) (v3 : Int32) (v4 : Int32) (u : Ug) : Option (Int32 × Ug) :=
  (rdO (u 9) 6 v1).bind fun y7 =>
  if y7 ≤ v4 then
    k29 v1 v2 v3 u
  else
    (fM_remove v1 v4 u).bind fun q9 =>
    if v2 ≤ v4 then
      if v4 = v2 then
        (fM_runs v1 q9.2).bind fun q15 =>
        if q15.1 = (16 : Int32) then
          k38 v1 (16 : Int32) (1 : Int32) v4 q15.2
        else
          (fM_giveBack v1 v4 q15.2).bind fun q17 =>
          k38 v1 v2 v3 (v4 + (1 : Int32)) q17.2
      else
        (fM_runs v1 q9.2).bind fun q12 =>
        if q12.1 = v2 then
          k38 v1 v2 (1 : Int32) v4 q12.2
        else
          (fM_giveBack v1 v4 q12.2).bind fun q14 =>
          k38 v1 v2 v3 (v4 + (1 : Int32)) q14.2
    else
      (fM_runs v1 q9.2).bind fun q18 =>
      if q18.1 = (v2 - (1 : Int32)) then
        k38 v1 (v2 - (1 : Int32)) (1 : Int32) v4 q18.2
      else
        (fM_giveBack v1 v4 q18.2).bind fun q20 =>
        k38 v1 v2 v3 (v4 + (1 : Int32)) q20.2
def kM_shrink : Nat → (Int32 → Int32 → Int32 → Ug → Option (Int32 × Ug)) × (Int32 → Int32 → Int32 → Int32 → Ug → Option (Int32 × Ug))
  | 0 => (fun _ _ _ _ => none, fun _ _ _ _ _ => none)
  | n + 1 => (sM_shrink_29 (kM_shrink n).1 (kM_shrink n).2, sM_shrink_38 (kM_shrink n).1 (kM_shrink n).2)
def fM_shrink (x1 : Int32) (u : Ug) : Option (Int32 × Ug) :=
  (fM_in x1.toInt64 (0 : Int64) (5 : Int64) u).bind fun q1 =>
  if q1.1 = (0 : Int32) then
    some ((-2 : Int32), q1.2)
  else
    (fM_runs x1 q1.2).bind fun q3 =>
    if (0 : Int32) ≤ q3.1 then
      (kM_shrink 4096).1 x1 q3.1 (1 : Int32) q3.2
    else
      some ((-1 : Int32), q3.2)
def fM_lineOf (x1 : Int32) (x2 : Int32) (x3 : Int32) (u : Ug) : Option (Int32 × Ug) :=
  (fM_in x1.toInt64 (0 : Int64) (5 : Int64) u).bind fun q1 =>
  if q1.1 = (0 : Int32) then
    some ((0 : Int32), q1.2)
  else
    (rdO (q1.2 9) 6 x1).bind fun y3 =>
    (fM_in x2.toInt64 (0 : Int64) ((y3 - (1 : Int32))).toInt64 q1.2).bind fun q4 =>
    if q4.1 = (0 : Int32) then
      some ((0 : Int32), q4.2)
    else
      (fM_in x3.toInt64 (0 : Int64) (3 : Int64) q4.2).bind fun q6 =>
      if q6.1 = (0 : Int32) then
        some ((0 : Int32), q6.2)
      else
        if x3 = (0 : Int32) then
          (rdO (q6.2 10) 96 (((16 : Int32) * x1) + x2)).bind fun y14 =>
          some (y14, q6.2)
        else
          if x3 = (1 : Int32) then
            (rdO (q6.2 11) 96 (((16 : Int32) * x1) + x2)).bind fun y13 =>
            some (y13, q6.2)
          else
            if x3 = (2 : Int32) then
              (rdO (q6.2 12) 96 (((16 : Int32) * x1) + x2)).bind fun y12 =>
              some (y12, q6.2)
            else
              (rdO (q6.2 13) 96 (((16 : Int32) * x1) + x2)).bind fun y11 =>
              some (y11, q6.2)
def fM_covered (x1 : Int32) (x2 : Int32) (u : Ug) : Option (Int32 × Ug) :=
  (fM_isMember x1 x2 u).bind fun q1 =>
  if q1.1 = (0 : Int32) then
    some ((-1 : Int32), q1.2)
  else
    (rdO (q1.2 6) 12 (((3 : Int32) * x1) + x2)).bind fun y3 =>
    some (y3, q1.2)
def fM_coins (x1 : Int32) (u : Ug) : Option (Int32 × Ug) :=
  (fM_isAccount x1 u).bind fun q1 =>
  if q1.1 = (0 : Int32) then
    some ((-1 : Int32), q1.2)
  else
    (rdO (q1.2 0) 70 x1).bind fun y3 =>
    some (y3, q1.2)
def fM_cell (x1 : Int32) (x2 : Int32) (u : Ug) : Option (Int32 × Ug) :=
  (fM_in x1.toInt64 (0 : Int64) (((u 1 0) - (1 : Int32))).toInt64 u).bind fun q1 =>
  if q1.1 = (0 : Int32) then
    some ((0 : Int32), q1.2)
  else
    (fM_in x2.toInt64 (0 : Int64) (3 : Int64) q1.2).bind fun q3 =>
    if q3.1 = (0 : Int32) then
      some ((0 : Int32), q3.2)
    else
      (rdO (q3.2 0) 70 (((12 : Int32) + ((4 : Int32) * x1)) + x2)).bind fun y5 =>
      some (y5, q3.2)
def fM_event (x1 : Int32) (u : Ug) : Option (Int32 × Ug) :=
  (rdO (u 0) 70 (29 : Int32)).bind fun y1 =>
  (fM_in x1.toInt64 (0 : Int64) ((y1 - (1 : Int32))).toInt64 u).bind fun q2 =>
  if q2.1 = (0 : Int32) then
    some ((0 : Int32), q2.2)
  else
    (rdO (q2.2 0) 70 ((30 : Int32) + x1)).bind fun y4 =>
    some (y4, q2.2)
def sM_count_27 (k27 : Int32 → Int32 → Int32 → Ug → Option (Int32 × Ug)) (v1 : Int32) (v2 : Int32) (v3 : Int32) (u : Ug) : Option (Int32 × Ug) :=
  if (4 : Int32) ≤ v3 then
    if v1 = (0 : Int32) then
      (rdO (u 0) 70 (28 : Int32)).bind fun y11 =>
      some (y11, u)
    else
      if v1 = (1 : Int32) then
        (rdO (u 0) 70 (29 : Int32)).bind fun y10 =>
        some (y10, u)
      else
        if v1 = (2 : Int32) then
          some ((u 1 0), u)
        else
          if v1 = (3 : Int32) then
            some (((u 8 0).toInt64).toInt32, u)
          else
            if v1 = (10 : Int32) then
              some (v2, u)
            else
              some ((-1 : Int32), u)
  else
    (rdO (u 7) 4 v3).bind fun y12 =>
    if (0 : Int32) ≤ y12 then
      k27 v1 (v2 + (1 : Int32)) (v3 + (1 : Int32)) u
    else
      k27 v1 (v2 + (0 : Int32)) (v3 + (1 : Int32)) u
def kM_count : Nat → Int32 → Int32 → Int32 → Ug → Option (Int32 × Ug)
  | 0 => fun _ _ _ _ => none
  | n + 1 => sM_count_27 (kM_count n)
def fM_count (x1 : Int32) (u : Ug) : Option (Int32 × Ug) :=
  (fM_in x1.toInt64 (4 : Int64) (9 : Int64) u).bind fun q1 =>
  if q1.1 = (0 : Int32) then
    (kM_count 4096) x1 (0 : Int32) (0 : Int32) q1.2
  else
    (rdO (q1.2 9) 6 (x1 - (4 : Int32))).bind fun y3 =>
    some (y3, q1.2)
