/-! THE PURE FUNCTIONS. -/
def fC_State_putCoins (x1 : Int32) (x2 : Int32) (u : Ug) : Option (Int32 × Ug) :=
  if x1 < (0 : Int32) then
    some ((0 : Int32), u)
  else
    if (12 : Int32) ≤ x1 then
      some ((0 : Int32), u)
    else
      if x2 < (0 : Int32) then
        some ((0 : Int32), u)
      else
        if x2 ≤ (1000000000 : Int32) then
          (wrO u 0 70 x1 x2).bind fun u5 =>
          some ((1 : Int32), u5)
        else
          some ((0 : Int32), u)
def fC_account (x1 : Int32) (x2 : Int32) (u : Ug) : Option (Int32 × Ug) :=
  (fC_State_putCoins x1 x2 u).bind fun q1 =>
  if q1.1 = (0 : Int32) then
    some ((-1 : Int32), q1.2)
  else
    some ((1 : Int32), q1.2)
def fC_Code_newContract (u : Ug) : Option (Int32 × Ug) :=
  if (u 18 0) < (4 : Int32) then
    (scO u 18 ((u 18 0) + (1 : Int32))).bind fun u2 =>
    some (((u2 18 0) - (1 : Int32)), u2)
  else
    some ((-2 : Int32), u)
def fC_contract (u : Ug) : Option (Int32 × Ug) :=
  (fC_Code_newContract u).bind fun q1 =>
  some (q1.1, q1.2)
def fC_Code_placeOf (x1 : Int32) (x2 : Int32) (u : Ug) : Option (Int32 × Ug) :=
  if x1 < (0 : Int32) then
    some ((-1 : Int32), u)
  else
    if (u 18 0) ≤ x1 then
      some ((-1 : Int32), u)
    else
      if x2 < (0 : Int32) then
        some ((-1 : Int32), u)
      else
        if (3 : Int32) ≤ x2 then
          some ((-1 : Int32), u)
        else
          some (((x1 * (3 : Int32)) + x2), u)
def fC_State_isCell (x1 : Int32) (u : Ug) : Option (Int32 × Ug) :=
  if x1 < (0 : Int32) then
    some ((0 : Int32), u)
  else
    if (4 : Int32) ≤ x1 then
      some ((0 : Int32), u)
    else
      some ((1 : Int32), u)
def fC_State_isAccount (x1 : Int32) (u : Ug) : Option (Int32 × Ug) :=
  if x1 < (0 : Int32) then
    some ((0 : Int32), u)
  else
    if (12 : Int32) ≤ x1 then
      some ((0 : Int32), u)
    else
      some ((1 : Int32), u)
def fC_Faces_isFace (x1 : Int32) (u : Ug) : Option (Int32 × Ug) :=
  if x1 < (0 : Int32) then
    some ((0 : Int32), u)
  else
    if (4 : Int32) ≤ x1 then
      some ((0 : Int32), u)
    else
      some ((1 : Int32), u)
def fC_Code_fits (x1 : Int32) (x2 : Int32) (u : Ug) : Option (Int32 × Ug) :=
  if x1 = (0 : Int32) then
    (fC_State_isCell x2 u).bind fun q1 =>
    if bz q1.1 then some (q1.1, q1.2) else none
  else
  if x1 = (1 : Int32) then
    (fC_State_isCell x2 u).bind fun q2 =>
    if bz q2.1 then some (q2.1, q2.2) else none
  else
  if x1 = (2 : Int32) then
    some ((1 : Int32), u)
  else
  if x1 = (3 : Int32) then
    (fC_State_isCell x2 u).bind fun q3 =>
    if bz q3.1 then some (q3.1, q3.2) else none
  else
  if x1 = (4 : Int32) then
    if x2 < (0 : Int32) then
      some ((0 : Int32), u)
    else
      if (9 : Int32) < x2 then
        some ((0 : Int32), u)
      else
        some ((1 : Int32), u)
  else
  if x1 = (5 : Int32) then
    (fC_State_isAccount x2 u).bind fun q6 =>
    if bz q6.1 then some (q6.1, q6.2) else none
  else
  if x1 = (6 : Int32) then
    some ((1 : Int32), u)
  else
  if x1 = (7 : Int32) then
    if x2 < (1 : Int32) then
      some ((0 : Int32), u)
    else
      if (7 : Int32) < x2 then
        some ((0 : Int32), u)
      else
        some ((1 : Int32), u)
  else
  if x1 = (8 : Int32) then
    (fC_Faces_isFace x2 u).bind fun q9 =>
    if bz q9.1 then some (q9.1, q9.2) else none
  else
  if x1 = (9 : Int32) then
    if x2 < (1 : Int32) then
      some ((0 : Int32), u)
    else
      if (7 : Int32) < x2 then
        some ((0 : Int32), u)
      else
        some ((1 : Int32), u)
  else
  if x1 = (10 : Int32) then
    some ((1 : Int32), u)
  else
  if x1 = (11 : Int32) then
    (fC_State_isCell x2 u).bind fun q12 =>
    if bz q12.1 then some (q12.1, q12.2) else none
  else
    some ((0 : Int32), u)
def fC_Code_replace (x1 : Int32) (x2 : Int32) (x3 : Int32) (x4 : Int32) (u : Ug) : Option (Int32 × Ug) :=
  if x1 < (0 : Int32) then
    some ((0 : Int32), u)
  else
    if (96 : Int32) ≤ x1 then
      some ((0 : Int32), u)
    else
      (wrO u 3 96 x1 x2).bind fun u3 =>
      (wrO u3 4 96 x1 x3).bind fun u4 =>
      (wrO u4 5 96 x1 x4).bind fun u5 =>
      some ((0 : Int32), u5)
def fC_Code_append (x1 : Int32) (x2 : Int32) (x3 : Int32) (x4 : Int32) (u : Ug) : Option (Int32 × Ug) :=
  if x1 < (0 : Int32) then
    some ((-2 : Int32), u)
  else
    if (12 : Int32) ≤ x1 then
      some ((-2 : Int32), u)
    else
      (rdO (u 1) 12 x1).bind fun y3 =>
      if y3 < (8 : Int32) then
        (rdO (u 1) 12 x1).bind fun y5 =>
        (fC_Code_replace ((x1 * (8 : Int32)) + y5) x2 x3 x4 u).bind fun q6 =>
        (rdO (q6.2 1) 12 x1).bind fun y7 =>
        (wrO q6.2 1 12 x1 (y7 + (1 : Int32))).bind fun u8 =>
        (rdO (u8 1) 12 x1).bind fun y9 =>
        some (y9, u8)
      else
        some ((-2 : Int32), u)
def fC_step (x1 : Int32) (x2 : Int32) (x3 : Int32) (x4 : Int32) (x5 : Int32) (u : Ug) : Option (Int32 × Ug) :=
  (fC_Code_placeOf x1 x2 u).bind fun q1 =>
  if q1.1 < (0 : Int32) then
    some ((-1 : Int32), q1.2)
  else
    (fC_Code_fits x3 x4 q1.2).bind fun q3 =>
    if q3.1 = (0 : Int32) then
      some ((-1 : Int32), q3.2)
    else
      (fC_Code_append q1.1 x3 x4 x5 q3.2).bind fun q5 =>
      some (q5.1, q5.2)
def fC_Faces_bindTo (x1 : Int32) (x2 : Int32) (u : Ug) : Option (Int32 × Ug) :=
  if x1 < (0 : Int32) then
    some ((0 : Int32), u)
  else
    if (4 : Int32) ≤ x1 then
      some ((0 : Int32), u)
    else
      (wrO u 6 4 x1 x2).bind fun u3 =>
      some ((0 : Int32), u3)
def fC_bind (x1 : Int32) (x2 : Int32) (x3 : Int32) (u : Ug) : Option (Int32 × Ug) :=
  if x2 = (-1 : Int32) then
    (fC_Faces_isFace x1 u).bind fun q9 =>
    if q9.1 = (0 : Int32) then
      some ((-1 : Int32), q9.2)
    else
      if x2 = (-1 : Int32) then
        (fC_Faces_bindTo x1 (-1 : Int32) q9.2).bind fun q12 =>
        some ((1 : Int32), q12.2)
      else
        some ((-1 : Int32), q9.2)
  else
    (fC_Code_placeOf x2 x3 u).bind fun q2 =>
    (fC_Faces_isFace x1 q2.2).bind fun q3 =>
    if q3.1 = (0 : Int32) then
      some ((-1 : Int32), q3.2)
    else
      if x2 = (-1 : Int32) then
        (fC_Faces_bindTo x1 q2.1 q3.2).bind fun q6 =>
        some ((1 : Int32), q6.2)
      else
        if (0 : Int32) ≤ q2.1 then
          (fC_Faces_bindTo x1 q2.1 q3.2).bind fun q8 =>
          some ((1 : Int32), q8.2)
        else
          some ((-1 : Int32), q3.2)
def fC_State_age (x1 : Int32) (u : Ug) : Option (Int32 × Ug) :=
  if x1 < (0 : Int32) then
    some ((0 : Int32), u)
  else
    if x1 ≤ (1000 : Int32) then
      (rdO (u 0) 70 (28 : Int32)).bind fun y3 =>
      (wrO u 0 70 (28 : Int32) (y3 + x1)).bind fun u4 =>
      some ((1 : Int32), u4)
    else
      some ((0 : Int32), u)
def fC_State_height (u : Ug) : Option (Int32 × Ug) :=
  (rdO (u 0) 70 (28 : Int32)).bind fun y1 =>
  some (y1, u)
def fC_time (x1 : Int32) (u : Ug) : Option (Int32 × Ug) :=
  (fC_State_age x1 u).bind fun q1 =>
  if q1.1 = (0 : Int32) then
    some ((-1 : Int32), q1.2)
  else
    (fC_State_height q1.2).bind fun q3 =>
    some (q3.1, q3.2)
def fC_Machine_raise (x1 : Int32) (u : Ug) : Option (Int32 × Ug) :=
  (scO u 21 x1).bind fun u1 =>
  (scO u1 22 x1).bind fun u2 =>
  some ((0 : Int32), u2)
def fC_State_keepIn_14 (x2 : Int32) (u : Ug) : Option (Int32 × Ug) :=
  if x2 < (0 : Int32) then
    some ((0 : Int32), u)
  else
    if x2 < ((2520 : Int32) / (70 : Int32)) then
      (cpO u 0 70 (0 : Int32) 9 2520 (x2 * (70 : Int32)) (70 : Int32)).bind fun u3 =>
      some ((1 : Int32), u3)
    else
      some ((0 : Int32), u)
def fC_Machine_accountOf (x1 : Int32) (u : Ug) : Option (Int32 × Ug) :=
  some (((8 : Int32) + (x1 / (3 : Int32))), u)
def fC_State_pay (x1 : Int32) (x2 : Int32) (x3 : Int32) (u : Ug) : Option (Int32 × Ug) :=
  if x1 < (0 : Int32) then
    some ((1 : Int32), u)
  else
    if (12 : Int32) ≤ x1 then
      some ((1 : Int32), u)
    else
      if x2 < (0 : Int32) then
        some ((1 : Int32), u)
      else
        if x2 < (12 : Int32) then
          if x3 < (0 : Int32) then
            some ((1 : Int32), u)
          else
            (rdO (u 0) 70 x1).bind fun y6 =>
            if x3 ≤ y6 then
              if x1 = x2 then
                some ((0 : Int32), u)
              else
                (rdO (u 0) 70 x2).bind fun y9 =>
                if x3 ≤ ((1000000000 : Int32) - y9) then
                  (rdO (u 0) 70 x1).bind fun y11 =>
                  (wrO u 0 70 x1 (y11 - x3)).bind fun u12 =>
                  (rdO (u12 0) 70 x2).bind fun y13 =>
                  (wrO u12 0 70 x2 (y13 + x3)).bind fun u14 =>
                  some ((0 : Int32), u14)
                else
                  some ((2 : Int32), u)
            else
              some ((1 : Int32), u)
        else
          some ((1 : Int32), u)
def fC_Code_size (x1 : Int32) (u : Ug) : Option (Int32 × Ug) :=
  if x1 < (0 : Int32) then
    some ((0 : Int32), u)
  else
    if (12 : Int32) ≤ x1 then
      some ((0 : Int32), u)
    else
      (rdO (u 1) 12 x1).bind fun y3 =>
      some (y3, u)
def fC_Machine_threw (u : Ug) : Option (Int32 × Ug) :=
  if (u 21 0) = (0 : Int32) then
    some ((0 : Int32), u)
  else
    some ((1 : Int32), u)
def fC_Code_cover (x1 : Int32) (x2 : Int32) (u : Ug) : Option (Int32 × Ug) :=
  if x1 < (0 : Int32) then
    some ((0 : Int32), u)
  else
    if (12 : Int32) ≤ x1 then
      some ((0 : Int32), u)
    else
      (rdO (u 2) 12 x1).bind fun y3 =>
      (wrO u 2 12 x1 (y3 ||| ((1 : Int32) <<< (x2 &&& 31)))).bind fun u4 =>
      some ((0 : Int32), u4)
def fC_Machine_begins (x1 : Int32) (x2 : Int32) (u : Ug) : Option (Int32 × Ug) :=
  if (100 : Int32) ≤ (u 20 0) then
    (fC_Machine_raise (7 : Int32) u).bind fun q2 =>
    some ((0 : Int32), q2.2)
  else
    if (u 19 0) < (20000 : Int32) then
      (scO u 20 ((u 20 0) + (1 : Int32))).bind fun u4 =>
      (scO u4 19 ((u4 19 0) + (1 : Int32))).bind fun u5 =>
      (fC_Code_cover x1 x2 u5).bind fun q6 =>
      some ((1 : Int32), q6.2)
    else
      (fC_Machine_raise (7 : Int32) u).bind fun q7 =>
      some ((0 : Int32), q7.2)
def fC_Code_kind (x1 : Int32) (u : Ug) : Option (Int32 × Ug) :=
  if x1 < (0 : Int32) then
    some ((12 : Int32), u)
  else
    if (96 : Int32) ≤ x1 then
      some ((12 : Int32), u)
    else
      (rdO (u 3) 96 x1).bind fun y3 =>
      some (y3, u)
def fC_Code_b (x1 : Int32) (u : Ug) : Option (Int32 × Ug) :=
  if x1 < (0 : Int32) then
    some ((0 : Int32), u)
  else
    if (96 : Int32) ≤ x1 then
      some ((0 : Int32), u)
    else
      (rdO (u 5) 96 x1).bind fun y3 =>
      some (y3, u)
def fC_Code_a (x1 : Int32) (u : Ug) : Option (Int32 × Ug) :=
  if x1 < (0 : Int32) then
    some ((0 : Int32), u)
  else
    if (96 : Int32) ≤ x1 then
      some ((0 : Int32), u)
    else
      (rdO (u 4) 96 x1).bind fun y3 =>
      some (y3, u)
def fC_Machine_passedOver (x1 : Int32) (x2 : Int32) (x3 : Int32) (u : Ug) : Option (Int32 × Ug) :=
  (fC_Code_b ((x1 * (8 : Int32)) + x2) u).bind fun q1 =>
  if q1.1 ≤ x3 then
    (fC_Code_kind ((x1 * (8 : Int32)) + x2) q1.2).bind fun q3 =>
    if q3.1 = (13 : Int32) then
      (fC_Code_cover x1 (x2 + (8 : Int32)) q3.2).bind fun q6 =>
      (fC_Code_a ((x1 * (8 : Int32)) + x2) q6.2).bind fun q7 =>
      some (q7.1, q7.2)
    else
      (fC_Code_cover x1 (x2 + (16 : Int32)) q3.2).bind fun q5 =>
      some ((0 : Int32), q5.2)
  else
    (fC_Code_kind ((x1 * (8 : Int32)) + x2) q1.2).bind fun q8 =>
    if q8.1 = (13 : Int32) then
      (fC_Code_cover x1 (x2 + (16 : Int32)) q8.2).bind fun q12 =>
      some ((0 : Int32), q12.2)
    else
      (fC_Code_cover x1 (x2 + (8 : Int32)) q8.2).bind fun q10 =>
      (fC_Code_a ((x1 * (8 : Int32)) + x2) q10.2).bind fun q11 =>
      some (q11.1, q11.2)
def fC_State_putCell (x1 : Int32) (x2 : Int32) (x3 : Int32) (u : Ug) : Option (Int32 × Ug) :=
  if ((x1 * (4 : Int32)) + x2) < (0 : Int32) then
    some ((0 : Int32), u)
  else
    if (16 : Int32) ≤ ((x1 * (4 : Int32)) + x2) then
      some ((0 : Int32), u)
    else
      (wrO u 0 70 ((12 : Int32) + ((x1 * (4 : Int32)) + x2)) x3).bind fun u3 =>
      some ((0 : Int32), u3)
def fC_State_cellOf (x1 : Int32) (x2 : Int32) (u : Ug) : Option (Int32 × Ug) :=
  if ((x1 * (4 : Int32)) + x2) < (0 : Int32) then
    some ((0 : Int32), u)
  else
    if (16 : Int32) ≤ ((x1 * (4 : Int32)) + x2) then
      some ((0 : Int32), u)
    else
      (rdO (u 0) 70 ((12 : Int32) + ((x1 * (4 : Int32)) + x2))).bind fun y3 =>
      some (y3, u)
def fC_State_addEvent (x1 : Int32) (u : Ug) : Option (Int32 × Ug) :=
  (rdO (u 0) 70 (29 : Int32)).bind fun y1 =>
  if y1 < (0 : Int32) then
    some ((0 : Int32), u)
  else
    if (40 : Int32) ≤ y1 then
      some ((0 : Int32), u)
    else
      (wrO u 0 70 ((30 : Int32) + y1) x1).bind fun u4 =>
      (wrO u4 0 70 (29 : Int32) (y1 + (1 : Int32))).bind fun u5 =>
      some ((0 : Int32), u5)
def fC_Machine_plainStep (x1 : Int32) (x2 : Int32) (x3 : Int32) (u : Ug) : Option (Int32 × Ug) :=
  (fC_Code_a x2 u).bind fun q1 =>
  (fC_Code_b x2 q1.2).bind fun q2 =>
  (fC_Code_kind x2 q2.2).bind fun q3 =>
  if q3.1 = (0 : Int32) then
    (fC_State_putCell (x1 / (3 : Int32)) q1.1 x3 q3.2).bind fun q4 =>
    some (x3, q4.2)
  else
  if q3.1 = (1 : Int32) then
    (fC_State_cellOf (x1 / (3 : Int32)) q1.1 q3.2).bind fun q5 =>
    some (q5.1, q5.2)
  else
  if q3.1 = (2 : Int32) then
    some ((x3 + q2.1), q3.2)
  else
  if q3.1 = (3 : Int32) then
    (fC_State_cellOf (x1 / (3 : Int32)) q1.1 q3.2).bind fun q6 =>
    some ((x3 - q6.1), q6.2)
  else
  if q3.1 = (4 : Int32) then
    if q2.1 ≤ x3 then
      (fC_Machine_raise (0 : Int32) q3.2).bind fun q8 =>
      some (x3, q8.2)
    else
      (fC_Machine_raise ((10 : Int32) + q1.1) q3.2).bind fun q9 =>
      some (x3, q9.2)
  else
  if q3.1 = (5 : Int32) then
    (fC_Machine_accountOf x1 q3.2).bind fun q10 =>
    (fC_State_pay q10.1 q1.1 x3 q10.2).bind fun q11 =>
    (fC_Machine_raise q11.1 q11.2).bind fun q12 =>
    some (x3, q12.2)
  else
  if q3.1 = (6 : Int32) then
    (fC_State_addEvent x3 q3.2).bind fun q13 =>
    some (x3, q13.2)
  else
  if q3.1 = (10 : Int32) then
    (fC_State_height q3.2).bind fun q14 =>
    some (q14.1, q14.2)
  else
  if q3.1 = (11 : Int32) then
    (fC_State_cellOf (x1 / (3 : Int32)) q1.1 q3.2).bind fun q15 =>
    if q15.1 = (0 : Int32) then
      (fC_Machine_raise (6 : Int32) q15.2).bind fun q18 =>
      some (x3, q18.2)
    else
      if q15.1 = (0 : Int32) then none else
      some ((x3 / q15.1), q15.2)
  else
    some (x3, q3.2)
def fC_Faces_boundTo (x1 : Int32) (u : Ug) : Option (Int32 × Ug) :=
  if x1 < (0 : Int32) then
    some ((-1 : Int32), u)
  else
    if (4 : Int32) ≤ x1 then
      some ((-1 : Int32), u)
    else
      (rdO (u 6) 4 x1).bind fun y3 =>
      some (y3, u)
def fC_Faces_doubleOf (x1 : Int32) (u : Ug) : Option (Int32 × Ug) :=
  if x1 < (0 : Int32) then
    some ((0 : Int32), u)
  else
    if (4 : Int32) ≤ x1 then
      some ((0 : Int32), u)
    else
      (rdO (u 7) 4 x1).bind fun y3 =>
      some (y3, u)
def fC_Faces_numberOf (x1 : Int32) (u : Ug) : Option (Int32 × Ug) :=
  if x1 < (0 : Int32) then
    some ((0 : Int32), u)
  else
    if (4 : Int32) ≤ x1 then
      some ((0 : Int32), u)
    else
      (rdO (u 8) 4 x1).bind fun y3 =>
      some (y3, u)
def fC_State_bringFrom_14 (x2 : Int32) (u : Ug) : Option (Int32 × Ug) :=
  if x2 < (0 : Int32) then
    some ((0 : Int32), u)
  else
    if x2 < ((2520 : Int32) / (70 : Int32)) then
      (cpO u 9 2520 (x2 * (70 : Int32)) 0 70 (0 : Int32) (70 : Int32)).bind fun u3 =>
      some ((1 : Int32), u3)
    else
      some ((0 : Int32), u)
def gC_Machine_tried (k_C_Machine_asked : Int32 → Int32 → Int32 → Int32 → Int32 → Ug → Option (Int32 × Ug)) (k_C_Machine_block : Int32 → Int32 → Int32 → Int32 → Int32 → Int32 → Ug → Option (Int32 × Ug)) (k_C_Machine_oneCall : Int32 → Int32 → Int32 → Int32 → Int32 → Int32 → Ug → Option (Int32 × Ug)) (k_C_Machine_tried : Int32 → Int32 → Int32 → Int32 → Int32 → Int32 → Ug → Option (Int32 × Ug)) (x1 : Int32) (x2 : Int32) (x3 : Int32) (x4 : Int32) (x5 : Int32) (x6 : Int32) (u : Ug) : Option (Int32 × Ug) :=
  (fC_State_keepIn_14 x6 u).bind fun q1 =>
  if q1.1 = (0 : Int32) then
    (fC_Machine_raise (7 : Int32) q1.2).bind fun q9 =>
    some (x4, q9.2)
  else
    (k_C_Machine_block x1 x2 x3 x4 x5 (x6 + (1 : Int32)) q1.2).bind fun q3 =>
    (fC_Machine_threw q3.2).bind fun q4 =>
    if q4.1 = (0 : Int32) then
      some (q3.1, q4.2)
    else
      if (q4.2 21 0) = (7 : Int32) then
        some (q3.1, q4.2)
      else
        (fC_Machine_raise (0 : Int32) q4.2).bind fun q7 =>
        (fC_State_bringFrom_14 x6 q7.2).bind fun q8 =>
        some ((q4.2 21 0), q8.2)
def gC_Machine_asked (k_C_Machine_asked : Int32 → Int32 → Int32 → Int32 → Int32 → Ug → Option (Int32 × Ug)) (k_C_Machine_block : Int32 → Int32 → Int32 → Int32 → Int32 → Int32 → Ug → Option (Int32 × Ug)) (k_C_Machine_oneCall : Int32 → Int32 → Int32 → Int32 → Int32 → Int32 → Ug → Option (Int32 × Ug)) (k_C_Machine_tried : Int32 → Int32 → Int32 → Int32 → Int32 → Int32 → Ug → Option (Int32 × Ug)) (x1 : Int32) (x2 : Int32) (x3 : Int32) (x4 : Int32) (x5 : Int32) (u : Ug) : Option (Int32 × Ug) :=
  (fC_Faces_boundTo x1 u).bind fun q1 =>
  (fC_Faces_doubleOf x1 q1.2).bind fun q2 =>
  if q2.1 = (1 : Int32) then
    (fC_Faces_numberOf x1 q2.2).bind fun q29 =>
    (fC_Machine_threw q29.2).bind fun q30 =>
    if q30.1 = (0 : Int32) then
      some (q29.1, q30.2)
    else
      if (q30.2 21 0) = (7 : Int32) then
        some (q29.1, q30.2)
      else
        (scO q30.2 21 (5 : Int32)).bind fun u33 =>
        some (q29.1, u33)
  else
    (fC_Faces_doubleOf x1 q2.2).bind fun q4 =>
    if q4.1 = (2 : Int32) then
      (fC_Faces_numberOf x1 q4.2).bind fun q23 =>
      (fC_Machine_raise ((20 : Int32) + q23.1) q23.2).bind fun q24 =>
      (fC_Machine_threw q24.2).bind fun q25 =>
      if q25.1 = (0 : Int32) then
        some (x3, q25.2)
      else
        if (q25.2 21 0) = (7 : Int32) then
          some (x3, q25.2)
        else
          (scO q25.2 21 (5 : Int32)).bind fun u28 =>
          some (x3, u28)
    else
      if q1.1 = (-1 : Int32) then
        (fC_Machine_raise (3 : Int32) q4.2).bind fun q18 =>
        (fC_Machine_threw q18.2).bind fun q19 =>
        if q19.1 = (0 : Int32) then
          some (x3, q19.2)
        else
          if (q19.2 21 0) = (7 : Int32) then
            some (x3, q19.2)
          else
            (scO q19.2 21 (5 : Int32)).bind fun u22 =>
            some (x3, u22)
      else
        if x4 < (4 : Int32) then
          (k_C_Machine_oneCall x2 q1.1 x3 (0 : Int32) (x4 + (1 : Int32)) x5 q4.2).bind fun q8 =>
          (fC_Machine_threw q8.2).bind fun q9 =>
          if q9.1 = (0 : Int32) then
            some (q8.1, q9.2)
          else
            if (q9.2 21 0) = (7 : Int32) then
              some (q8.1, q9.2)
            else
              (scO q9.2 21 (5 : Int32)).bind fun u12 =>
              some (q8.1, u12)
        else
          (fC_Machine_raise (4 : Int32) q4.2).bind fun q13 =>
          (fC_Machine_threw q13.2).bind fun q14 =>
          if q14.1 = (0 : Int32) then
            some (x3, q14.2)
          else
            if (q14.2 21 0) = (7 : Int32) then
              some (x3, q14.2)
            else
              (scO q14.2 21 (5 : Int32)).bind fun u17 =>
              some (x3, u17)
def sC_Machine_block_10 (k_C_Machine_asked : Int32 → Int32 → Int32 → Int32 → Int32 → Ug → Option (Int32 × Ug)) (k_C_Machine_block : Int32 → Int32 → Int32 → Int32 → Int32 → Int32 → Ug → Option (Int32 × Ug)) (k_C_Machine_oneCall : Int32 → Int32 → Int32 → Int32 → Int32 → Int32 → Ug → Option (Int32 × Ug)) (k_C_Machine_tried : Int32 → Int32 → Int32 → Int32 → Int32 → Int32 → Ug → Option (Int32 × Ug)) (k10 : Int32 → Int32 → Int32 → Int32 → Int32 → Int32 → Int32 → Int32 → Int32 → Ug → Option (Int32 × Ug)) (v1 : Int32) (v2 : Int32) (v3 : Int32) (v4 : Int32) (v5 : Int32) (v6 : Int32) (v7 : Int32) (v8 : Int32) (v9 : Int32) (u : Ug) : Option (Int32 × Ug) :=
  if v3 ≤ v9 then
    some (v7, u)
  else
    if v9 < v8 then
      k10 v1 v2 v3 v4 v5 v6 v7 v8 (v9 + (1 : Int32)) u
    else
      (fC_Machine_threw u).bind fun q3 =>
      if q3.1 = (0 : Int32) then
        (fC_Machine_begins v1 v9 q3.2).bind fun q5 =>
        if q5.1 = (0 : Int32) then
          k10 v1 v2 v3 v4 v5 v6 v7 v8 (v9 + (1 : Int32)) q5.2
        else
          (fC_Code_kind ((v1 * (8 : Int32)) + v9) q5.2).bind fun q7 =>
          if q7.1 = (9 : Int32) then
            (fC_Code_a ((v1 * (8 : Int32)) + v9) q7.2).bind fun q18 =>
            (k_C_Machine_tried v1 (v9 + (1 : Int32)) (if ((v9 + (1 : Int32)) + q18.1) < v3 then ((v9 + (1 : Int32)) + q18.1) else v3) v7 v5 v6 q18.2).bind fun q19 =>
            k10 v1 v2 v3 v4 v5 v6 q19.1 (if ((v9 + (1 : Int32)) + q18.1) < v3 then ((v9 + (1 : Int32)) + q18.1) else v3) (v9 + (1 : Int32)) q19.2
          else
            if q7.1 = (7 : Int32) then
              (fC_Machine_passedOver v1 v9 v7 q7.2).bind fun q10 =>
              k10 v1 v2 v3 v4 v5 v6 v7 ((v9 + (1 : Int32)) + q10.1) (v9 + (1 : Int32)) q10.2
            else
              if q7.1 = (13 : Int32) then
                (fC_Machine_passedOver v1 v9 v7 q7.2).bind fun q17 =>
                k10 v1 v2 v3 v4 v5 v6 v7 ((v9 + (1 : Int32)) + q17.1) (v9 + (1 : Int32)) q17.2
              else
                if q7.1 = (8 : Int32) then
                  (fC_Code_a ((v1 * (8 : Int32)) + v9) q7.2).bind fun q14 =>
                  (fC_Machine_accountOf v1 q14.2).bind fun q15 =>
                  (k_C_Machine_asked q14.1 q15.1 v7 v5 v6 q15.2).bind fun q16 =>
                  k10 v1 v2 v3 v4 v5 v6 q16.1 v8 (v9 + (1 : Int32)) q16.2
                else
                  (fC_Machine_plainStep v1 ((v1 * (8 : Int32)) + v9) v7 q7.2).bind fun q13 =>
                  k10 v1 v2 v3 v4 v5 v6 q13.1 v8 (v9 + (1 : Int32)) q13.2
      else
        k10 v1 v2 v3 v4 v5 v6 v7 v8 (v9 + (1 : Int32)) q3.2
def kC_Machine_block (k_C_Machine_asked : Int32 → Int32 → Int32 → Int32 → Int32 → Ug → Option (Int32 × Ug)) (k_C_Machine_block : Int32 → Int32 → Int32 → Int32 → Int32 → Int32 → Ug → Option (Int32 × Ug)) (k_C_Machine_oneCall : Int32 → Int32 → Int32 → Int32 → Int32 → Int32 → Ug → Option (Int32 × Ug)) (k_C_Machine_tried : Int32 → Int32 → Int32 → Int32 → Int32 → Int32 → Ug → Option (Int32 × Ug)) : Nat → Int32 → Int32 → Int32 → Int32 → Int32 → Int32 → Int32 → Int32 → Int32 → Ug → Option (Int32 × Ug)
  | 0 => fun _ _ _ _ _ _ _ _ _ _ => none
  | n + 1 => sC_Machine_block_10 k_C_Machine_asked k_C_Machine_block k_C_Machine_oneCall k_C_Machine_tried (kC_Machine_block k_C_Machine_asked k_C_Machine_block k_C_Machine_oneCall k_C_Machine_tried n)
def gC_Machine_block (k_C_Machine_asked : Int32 → Int32 → Int32 → Int32 → Int32 → Ug → Option (Int32 × Ug)) (k_C_Machine_block : Int32 → Int32 → Int32 → Int32 → Int32 → Int32 → Ug → Option (Int32 × Ug)) (k_C_Machine_oneCall : Int32 → Int32 → Int32 → Int32 → Int32 → Int32 → Ug → Option (Int32 × Ug)) (k_C_Machine_tried : Int32 → Int32 → Int32 → Int32 → Int32 → Int32 → Ug → Option (Int32 × Ug)) (x1 : Int32) (x2 : Int32) (x3 : Int32) (x4 : Int32) (x5 : Int32) (x6 : Int32) (u : Ug) : Option (Int32 × Ug) :=
  (kC_Machine_block k_C_Machine_asked k_C_Machine_block k_C_Machine_oneCall k_C_Machine_tried 4096) x1 x2 x3 x4 x5 x6 x4 x2 x2 u
def gC_Machine_oneCall (k_C_Machine_asked : Int32 → Int32 → Int32 → Int32 → Int32 → Ug → Option (Int32 × Ug)) (k_C_Machine_block : Int32 → Int32 → Int32 → Int32 → Int32 → Int32 → Ug → Option (Int32 × Ug)) (k_C_Machine_oneCall : Int32 → Int32 → Int32 → Int32 → Int32 → Int32 → Ug → Option (Int32 × Ug)) (k_C_Machine_tried : Int32 → Int32 → Int32 → Int32 → Int32 → Int32 → Ug → Option (Int32 × Ug)) (x1 : Int32) (x2 : Int32) (x3 : Int32) (x4 : Int32) (x5 : Int32) (x6 : Int32) (u : Ug) : Option (Int32 × Ug) :=
  if (20000 : Int32) ≤ (u 19 0) then
    (fC_Machine_raise (7 : Int32) u).bind fun q2 =>
    some ((0 : Int32), q2.2)
  else
    if (4 : Int32) < x5 then
      (fC_Machine_raise (7 : Int32) u).bind fun q4 =>
      some ((0 : Int32), q4.2)
    else
      (fC_State_keepIn_14 x6 u).bind fun q5 =>
      if q5.1 = (0 : Int32) then
        (fC_Machine_raise (7 : Int32) q5.2).bind fun q16 =>
        some ((0 : Int32), q16.2)
      else
        (scO q5.2 19 ((q5.2 19 0) + (1 : Int32))).bind fun u7 =>
        (fC_Machine_accountOf x2 u7).bind fun q8 =>
        (fC_State_pay x1 q8.1 x4 q8.2).bind fun q9 =>
        (fC_Machine_raise q9.1 q9.2).bind fun q10 =>
        (fC_Code_size x2 q10.2).bind fun q11 =>
        (k_C_Machine_block x2 (0 : Int32) q11.1 x3 x5 (x6 + (1 : Int32)) q11.2).bind fun q12 =>
        (fC_Machine_threw q12.2).bind fun q13 =>
        if q13.1 = (0 : Int32) then
          some (q12.1, q13.2)
        else
          (fC_State_bringFrom_14 x6 q13.2).bind fun q15 =>
          some (q12.1, q15.2)
def rC : Nat → (Int32 → Int32 → Int32 → Int32 → Int32 → Ug → Option (Int32 × Ug)) × (Int32 → Int32 → Int32 → Int32 → Int32 → Int32 → Ug → Option (Int32 × Ug)) × (Int32 → Int32 → Int32 → Int32 → Int32 → Int32 → Ug → Option (Int32 × Ug)) × (Int32 → Int32 → Int32 → Int32 → Int32 → Int32 → Ug → Option (Int32 × Ug))
  | 0 => (fun _ _ _ _ _ _ => none, fun _ _ _ _ _ _ _ => none, fun _ _ _ _ _ _ _ => none, fun _ _ _ _ _ _ _ => none)
  | n + 1 => (gC_Machine_asked (rC n).1 (rC n).2.1 (rC n).2.2.1 (rC n).2.2.2, gC_Machine_block (rC n).1 (rC n).2.1 (rC n).2.2.1 (rC n).2.2.2, gC_Machine_oneCall (rC n).1 (rC n).2.1 (rC n).2.2.1 (rC n).2.2.2, gC_Machine_tried (rC n).1 (rC n).2.1 (rC n).2.2.1 (rC n).2.2.2)
def fC_Machine_asked (x1 : Int32) (x2 : Int32) (x3 : Int32) (x4 : Int32) (x5 : Int32) (u : Ug) : Option (Int32 × Ug) := (rC 100).1 x1 x2 x3 x4 x5 u
def fC_Machine_block (x1 : Int32) (x2 : Int32) (x3 : Int32) (x4 : Int32) (x5 : Int32) (x6 : Int32) (u : Ug) : Option (Int32 × Ug) := (rC 100).2.1 x1 x2 x3 x4 x5 x6 u
def fC_Machine_oneCall (x1 : Int32) (x2 : Int32) (x3 : Int32) (x4 : Int32) (x5 : Int32) (x6 : Int32) (u : Ug) : Option (Int32 × Ug) := (rC 100).2.2.1 x1 x2 x3 x4 x5 x6 u
def fC_Machine_tried (x1 : Int32) (x2 : Int32) (x3 : Int32) (x4 : Int32) (x5 : Int32) (x6 : Int32) (u : Ug) : Option (Int32 × Ug) := (rC 100).2.2.2 x1 x2 x3 x4 x5 x6 u
def fC_Machine_callFromOutside (x1 : Int32) (x2 : Int32) (x3 : Int32) (x4 : Int32) (u : Ug) : Option (Int32 × Ug) :=
  (scO u 20 (0 : Int32)).bind fun u1 =>
  (fC_Machine_raise (0 : Int32) u1).bind fun q2 =>
  (fC_Machine_oneCall x1 x2 x3 x4 (1 : Int32) (0 : Int32) q2.2).bind fun q3 =>
  (fC_Machine_threw q3.2).bind fun q4 =>
  if q4.1 = (0 : Int32) then
    (scO q4.2 23 q3.1).bind fun u6 =>
    some ((0 : Int32), u6)
  else
    (scO q4.2 23 (0 : Int32)).bind fun u7 =>
    some ((0 : Int32), u7)
def fC_Machine_thrown (u : Ug) : Option (Int32 × Ug) :=
  some ((u 21 0), u)
def fC_call (x1 : Int32) (x2 : Int32) (x3 : Int32) (x4 : Int32) (x5 : Int32) (u : Ug) : Option (Int32 × Ug) :=
  (fC_Code_placeOf x2 x3 u).bind fun q1 =>
  if q1.1 < (0 : Int32) then
    some ((-1 : Int32), q1.2)
  else
    (fC_State_isAccount x1 q1.2).bind fun q3 =>
    if q3.1 = (0 : Int32) then
      some ((-1 : Int32), q3.2)
    else
      if (0 : Int32) ≤ x5 then
        (fC_Machine_callFromOutside x1 q1.1 x4 x5 q3.2).bind fun q6 =>
        (fC_Machine_threw q6.2).bind fun q7 =>
        if q7.1 = (0 : Int32) then
          some ((1 : Int32), q7.2)
        else
          (fC_Machine_thrown q7.2).bind fun q9 =>
          some (((-10 : Int32) - q9.1), q9.2)
      else
        some ((-1 : Int32), q3.2)
def fC_Machine_answered (u : Ug) : Option (Int32 × Ug) :=
  some ((u 23 0), u)
def fC_Machine_lastCause (u : Ug) : Option (Int32 × Ug) :=
  some ((u 22 0), u)
def fC_Machine_stepsDone (u : Ug) : Option (Int32 × Ug) :=
  some ((u 20 0), u)
def fC_told (x1 : Int32) (u : Ug) : Option (Int32 × Ug) :=
  if x1 = (0 : Int32) then
    (fC_Machine_answered u).bind fun q1 =>
    some (q1.1, q1.2)
  else
  if x1 = (1 : Int32) then
    (fC_Machine_thrown u).bind fun q2 =>
    some (q2.1, q2.2)
  else
  if x1 = (2 : Int32) then
    (fC_Machine_lastCause u).bind fun q3 =>
    some (q3.1, q3.2)
  else
  if x1 = (3 : Int32) then
    (fC_Machine_stepsDone u).bind fun q4 =>
    some (q4.1, q4.2)
  else
    some ((0 : Int32), u)
def sC_Scripts_wordPlace_2 (k2 : Int64 → Int32 → Ug → Option (Int32 × Ug)) (v0 : Int64) (v2 : Int32) (u : Ug) : Option (Int32 × Ug) :=
  if (14 : Int32) ≤ v2 then
    some ((-1 : Int32), u)
  else
    (tbO tw 14 v2).bind fun y2 =>
    if (lg_cmp y2 v0) = (0 : Int32) then
      some (v2, u)
    else
      k2 v0 (v2 + (1 : Int32)) u
def kC_Scripts_wordPlace : Nat → Int64 → Int32 → Ug → Option (Int32 × Ug)
  | 0 => fun _ _ _ => none
  | n + 1 => sC_Scripts_wordPlace_2 (kC_Scripts_wordPlace n)
def fC_Scripts_wordPlace (x1 : Int64) (u : Ug) : Option (Int32 × Ug) :=
  (kC_Scripts_wordPlace 4096) x1 (0 : Int32) u
def fC_Scripts_isTest (x1 : Int32) (u : Ug) : Option (Int32 × Ug) :=
  if x1 < (0 : Int32) then
    some ((0 : Int32), u)
  else
    if (6 : Int32) ≤ x1 then
      some ((0 : Int32), u)
    else
      some ((1 : Int32), u)
def fC_Scripts_append (x1 : Int32) (x2 : Int32) (x3 : Int32) (x4 : Int32) (x5 : Int32) (u : Ug) : Option (Int32 × Ug) :=
  if x1 < (0 : Int32) then
    some ((-2 : Int32), u)
  else
    if (6 : Int32) ≤ x1 then
      some ((-2 : Int32), u)
    else
      (rdO (u 10) 6 x1).bind fun y3 =>
      if y3 < (0 : Int32) then
        some ((-2 : Int32), u)
      else
        (rdO (u 10) 6 x1).bind fun y5 =>
        if y5 < (16 : Int32) then
          (rdO (u 10) 6 x1).bind fun y7 =>
          (wrO u 11 96 ((x1 * (16 : Int32)) + y7) x2).bind fun u8 =>
          (wrO u8 12 96 ((x1 * (16 : Int32)) + y7) x3).bind fun u9 =>
          (wrO u9 13 96 ((x1 * (16 : Int32)) + y7) x4).bind fun u10 =>
          (wrO u10 14 96 ((x1 * (16 : Int32)) + y7) x5).bind fun u11 =>
          (rdO (u11 10) 6 x1).bind fun y12 =>
          (wrO u11 10 6 x1 (y12 + (1 : Int32))).bind fun u13 =>
          (rdO (u13 10) 6 x1).bind fun y14 =>
          some (y14, u13)
        else
          some ((-2 : Int32), u)
def fC_line (x1 : Int32) (x2 : Int64) (x3 : Int32) (x4 : Int32) (x5 : Int32) (u : Ug) : Option (Int32 × Ug) :=
  (fC_Scripts_wordPlace x2 u).bind fun q1 =>
  (fC_Scripts_isTest x1 q1.2).bind fun q2 =>
  if q2.1 = (0 : Int32) then
    some ((-1 : Int32), q2.2)
  else
    if (0 : Int32) ≤ q1.1 then
      (fC_Scripts_append x1 q1.1 x3 x4 x5 q2.2).bind fun q5 =>
      some (q5.1, q5.2)
    else
      some ((-1 : Int32), q2.2)
def fC_Scripts_empty (x1 : Int32) (u : Ug) : Option (Int32 × Ug) :=
  if x1 < (0 : Int32) then
    some ((0 : Int32), u)
  else
    if x1 < (6 : Int32) then
      (rdO (u 10) 6 x1).bind fun y3 =>
      (wrO u 10 6 x1 (0 : Int32)).bind fun u4 =>
      some (y3, u4)
    else
      some ((0 : Int32), u)
def fC_clear (x1 : Int32) (u : Ug) : Option (Int32 × Ug) :=
  (fC_Scripts_isTest x1 u).bind fun q1 =>
  if q1.1 = (0 : Int32) then
    some ((-1 : Int32), q1.2)
  else
    (fC_Scripts_empty x1 q1.2).bind fun q3 =>
    some (q3.1, q3.2)
def fC_State_keepIn_22 (x2 : Int32) (u : Ug) : Option (Int32 × Ug) :=
  if x2 < (0 : Int32) then
    some ((0 : Int32), u)
  else
    if x2 < ((280 : Int32) / (70 : Int32)) then
      (cpO u 0 70 (0 : Int32) 15 280 (x2 * (70 : Int32)) (70 : Int32)).bind fun u3 =>
      some ((1 : Int32), u3)
    else
      some ((0 : Int32), u)
def fC_State_eventCount (u : Ug) : Option (Int32 × Ug) :=
  (rdO (u 0) 70 (29 : Int32)).bind fun y1 =>
  some (y1, u)
def fC_Runner_begin (u : Ug) : Option (Int32 × Ug) :=
  (fC_State_keepIn_22 (3 : Int32) u).bind fun q1 =>
  (scO q1.2 24 (0 : Int32)).bind fun u2 =>
  (scO u2 25 (0 : Int32)).bind fun u3 =>
  (scO u3 26 (0 : Int32)).bind fun u4 =>
  (fC_State_eventCount u4).bind fun q5 =>
  (scO q5.2 27 q5.1).bind fun u6 =>
  (sbO u6 28 (0 : Int32)).bind fun u7 =>
  some ((0 : Int32), u7)
def fC_Scripts_size (x1 : Int32) (u : Ug) : Option (Int32 × Ug) :=
  if x1 < (0 : Int32) then
    some ((0 : Int32), u)
  else
    if (6 : Int32) ≤ x1 then
      some ((0 : Int32), u)
    else
      (rdO (u 10) 6 x1).bind fun y3 =>
      some (y3, u)
def sC_Faces_dropDoubles_2 (k2 : Int32 → Ug → Option (Int32 × Ug)) (v1 : Int32) (u : Ug) : Option (Int32 × Ug) :=
  if (4 : Int32) ≤ v1 then
    some ((0 : Int32), u)
  else
    (wrO u 7 4 v1 (0 : Int32)).bind fun u2 =>
    k2 (v1 + (1 : Int32)) u2
def kC_Faces_dropDoubles : Nat → Int32 → Ug → Option (Int32 × Ug)
  | 0 => fun _ _ => none
  | n + 1 => sC_Faces_dropDoubles_2 (kC_Faces_dropDoubles n)
def fC_Faces_dropDoubles (u : Ug) : Option (Int32 × Ug) :=
  (kC_Faces_dropDoubles 4096) (0 : Int32) u
def fC_State_bringFrom_22 (x2 : Int32) (u : Ug) : Option (Int32 × Ug) :=
  if x2 < (0 : Int32) then
    some ((0 : Int32), u)
  else
    if x2 < ((280 : Int32) / (70 : Int32)) then
      (cpO u 15 280 (x2 * (70 : Int32)) 0 70 (0 : Int32) (70 : Int32)).bind fun u3 =>
      some ((1 : Int32), u3)
    else
      some ((0 : Int32), u)
def fC_Scripts_slotOf (x1 : Int32) (x2 : Int32) (u : Ug) : Option (Int32 × Ug) :=
  if x1 < (0 : Int32) then
    some ((-1 : Int32), u)
  else
    if (6 : Int32) ≤ x1 then
      some ((-1 : Int32), u)
    else
      if x2 < (0 : Int32) then
        some ((-1 : Int32), u)
      else
        if (16 : Int32) ≤ x2 then
          some ((-1 : Int32), u)
        else
          (rdO (u 10) 6 x1).bind fun y5 =>
          if y5 ≤ x2 then
            some ((-1 : Int32), u)
          else
            some (((x1 * (16 : Int32)) + x2), u)
def fC_Scripts_word (x1 : Int32) (u : Ug) : Option (Int32 × Ug) :=
  if x1 < (0 : Int32) then
    some ((-1 : Int32), u)
  else
    if (96 : Int32) ≤ x1 then
      some ((-1 : Int32), u)
    else
      (rdO (u 11) 96 x1).bind fun y3 =>
      some (y3, u)
def fC_Scripts_a (x1 : Int32) (u : Ug) : Option (Int32 × Ug) :=
  if x1 < (0 : Int32) then
    some ((0 : Int32), u)
  else
    if (96 : Int32) ≤ x1 then
      some ((0 : Int32), u)
    else
      (rdO (u 12) 96 x1).bind fun y3 =>
      some (y3, u)
def fC_Scripts_b (x1 : Int32) (u : Ug) : Option (Int32 × Ug) :=
  if x1 < (0 : Int32) then
    some ((0 : Int32), u)
  else
    if (96 : Int32) ≤ x1 then
      some ((0 : Int32), u)
    else
      (rdO (u 13) 96 x1).bind fun y3 =>
      some (y3, u)
def fC_Runner_callsAreBy (x1 : Int32) (x2 : Int32) (u : Ug) : Option (Int32 × Ug) :=
  (fC_State_isAccount x1 u).bind fun q1 =>
  if q1.1 = (0 : Int32) then
    some ((0 : Int32), q1.2)
  else
    if (0 : Int32) ≤ x2 then
      (scO q1.2 24 x1).bind fun u4 =>
      (scO u4 25 x2).bind fun u5 =>
      some ((1 : Int32), u5)
    else
      some ((0 : Int32), q1.2)
def fC_Runner_threwThat (x1 : Int32) (x2 : Int32) (u : Ug) : Option (Int32 × Ug) :=
  (fC_Machine_threw u).bind fun q1 =>
  if q1.1 = (0 : Int32) then
    some ((0 : Int32), q1.2)
  else
    (fC_Machine_thrown q1.2).bind fun q3 =>
    if q3.1 = x1 then
      (fC_Machine_lastCause q3.2).bind fun q5 =>
      if q5.1 = x2 then
        some ((1 : Int32), q5.2)
      else
        some ((0 : Int32), q5.2)
    else
      some ((0 : Int32), q3.2)
def fC_State_coinsOf (x1 : Int32) (u : Ug) : Option (Int32 × Ug) :=
  if x1 < (0 : Int32) then
    some ((0 : Int32), u)
  else
    if (12 : Int32) ≤ x1 then
      some ((0 : Int32), u)
    else
      (rdO (u 0) 70 x1).bind fun y3 =>
      some (y3, u)
def fC_Scripts_c (x1 : Int32) (u : Ug) : Option (Int32 × Ug) :=
  if x1 < (0 : Int32) then
    some ((0 : Int32), u)
  else
    if (96 : Int32) ≤ x1 then
      some ((0 : Int32), u)
    else
      (rdO (u 14) 96 x1).bind fun y3 =>
      some (y3, u)
def fC_Code_isContract (x1 : Int32) (u : Ug) : Option (Int32 × Ug) :=
  if x1 < (0 : Int32) then
    some ((0 : Int32), u)
  else
    if (u 18 0) ≤ x1 then
      some ((0 : Int32), u)
    else
      some ((1 : Int32), u)
def fC_Runner_cellIs (x1 : Int32) (x2 : Int32) (x3 : Int32) (u : Ug) : Option (Int32 × Ug) :=
  (fC_Code_isContract x1 u).bind fun q1 =>
  if q1.1 = (0 : Int32) then
    some ((0 : Int32), q1.2)
  else
    (fC_State_isCell x2 q1.2).bind fun q3 =>
    if q3.1 = (0 : Int32) then
      some ((0 : Int32), q3.2)
    else
      (fC_State_cellOf x1 x2 q3.2).bind fun q5 =>
      if q5.1 = x3 then
        some ((1 : Int32), q5.2)
      else
        some ((0 : Int32), q5.2)
def fC_State_eventAt (x1 : Int32) (u : Ug) : Option (Int32 × Ug) :=
  if x1 < (0 : Int32) then
    some ((0 : Int32), u)
  else
    if (40 : Int32) ≤ x1 then
      some ((0 : Int32), u)
    else
      (rdO (u 0) 70 (29 : Int32)).bind fun y3 =>
      if y3 ≤ x1 then
        some ((0 : Int32), u)
      else
        (rdO (u 0) 70 ((30 : Int32) + x1)).bind fun y5 =>
        some (y5, u)
def fC_Runner_eventIs (x1 : Int32) (x2 : Int32) (u : Ug) : Option (Int32 × Ug) :=
  if x1 < (0 : Int32) then
    some ((0 : Int32), u)
  else
    (fC_State_eventCount u).bind fun q2 =>
    if (q2.1 - (q2.2 27 0)) ≤ x1 then
      some ((0 : Int32), q2.2)
    else
      (fC_State_eventAt ((q2.2 27 0) + x1) q2.2).bind fun q4 =>
      if q4.1 = x2 then
        some ((1 : Int32), q4.2)
      else
        some ((0 : Int32), q4.2)
def sC_State_allCoins_4 (k4 : Int64 → Int32 → Ug → Option (Int64 × Ug)) (v1 : Int64) (v3 : Int32) (u : Ug) : Option (Int64 × Ug) :=
  if (12 : Int32) ≤ v3 then
    some (v1, u)
  else
    (rdO (u 0) 70 v3).bind fun y2 =>
    k4 (v1 + y2.toInt64) (v3 + (1 : Int32)) u
def kC_State_allCoins : Nat → Int64 → Int32 → Ug → Option (Int64 × Ug)
  | 0 => fun _ _ _ => none
  | n + 1 => sC_State_allCoins_4 (kC_State_allCoins n)
def fC_State_allCoins (u : Ug) : Option (Int64 × Ug) :=
  (kC_State_allCoins 4096) (0 : Int64) (0 : Int32) u
def fC_Runner_isFork (x1 : Int32) (u : Ug) : Option (Int32 × Ug) :=
  if x1 < (0 : Int32) then
    some ((0 : Int32), u)
  else
    if (3 : Int32) ≤ x1 then
      some ((0 : Int32), u)
    else
      some ((1 : Int32), u)
def fC_Runner_keepsFork (x1 : Int32) (u : Ug) : Option (Int32 × Ug) :=
  (fC_Runner_isFork x1 u).bind fun q1 =>
  if q1.1 = (0 : Int32) then
    some ((0 : Int32), q1.2)
  else
    (scO q1.2 26 ((q1.2 26 0) ||| ((1 : Int32) <<< (x1 &&& 31)))).bind fun u3 =>
    (fC_State_keepIn_22 x1 u3).bind fun q4 =>
    if bz q4.1 then some (q4.1, q4.2) else none
def fC_Runner_goesBack (x1 : Int32) (u : Ug) : Option (Int32 × Ug) :=
  (fC_Runner_isFork x1 u).bind fun q1 =>
  if q1.1 = (0 : Int32) then
    some ((0 : Int32), q1.2)
  else
    if (((q1.2 26 0) >>> (x1 &&& 31)) &&& (1 : Int32)) = (1 : Int32) then
      (fC_State_bringFrom_22 x1 q1.2).bind fun q4 =>
      if q4.1 = (0 : Int32) then
        some ((0 : Int32), q4.2)
      else
        some ((1 : Int32), q4.2)
    else
      some ((0 : Int32), q1.2)
def fC_Faces_putDouble (x1 : Int32) (x2 : Int32) (x3 : Int32) (u : Ug) : Option (Int32 × Ug) :=
  if x1 < (0 : Int32) then
    some ((0 : Int32), u)
  else
    if x1 < (4 : Int32) then
      (wrO u 7 4 x1 x2).bind fun u3 =>
      (wrO u3 8 4 x1 x3).bind fun u4 =>
      some ((1 : Int32), u4)
    else
      some ((0 : Int32), u)
def fC_Runner_faceFails (x1 : Int32) (x2 : Int32) (u : Ug) : Option (Int32 × Ug) :=
  if x2 < (0 : Int32) then
    some ((0 : Int32), u)
  else
    if (5 : Int32) < x2 then
      some ((0 : Int32), u)
    else
      (fC_Faces_putDouble x1 (2 : Int32) x2 u).bind fun q3 =>
      if q3.1 = (0 : Int32) then
        some ((0 : Int32), q3.2)
      else
        some ((1 : Int32), q3.2)
def fC_Runner_asTold (x1 : Int32) (u : Ug) : Option (Int32 × Ug) :=
  (fC_Scripts_a x1 u).bind fun q1 =>
  (fC_Scripts_b x1 q1.2).bind fun q2 =>
  (fC_Scripts_word x1 q2.2).bind fun q3 =>
  if q3.1 = (0 : Int32) then
    (fC_Runner_callsAreBy q1.1 q2.1 q3.2).bind fun q4 =>
    if bz q4.1 then some (q4.1, q4.2) else none
  else
  if q3.1 = (2 : Int32) then
    if (q3.2 28 0) = (0 : Int32) then
      some ((0 : Int32), q3.2)
    else
      (fC_Machine_threw q3.2).bind fun q6 =>
      if q6.1 = (0 : Int32) then
        (fC_Machine_answered q6.2).bind fun q8 =>
        if q8.1 = q1.1 then
          some ((1 : Int32), q8.2)
        else
          some ((0 : Int32), q8.2)
      else
        some ((0 : Int32), q6.2)
  else
  if q3.1 = (3 : Int32) then
    if (q3.2 28 0) = (0 : Int32) then
      some ((0 : Int32), q3.2)
    else
      (fC_Runner_threwThat q1.1 q2.1 q3.2).bind fun q11 =>
      if q11.1 = (0 : Int32) then
        some ((0 : Int32), q11.2)
      else
        some ((1 : Int32), q11.2)
  else
  if q3.1 = (4 : Int32) then
    if (q3.2 28 0) = (0 : Int32) then
      some ((0 : Int32), q3.2)
    else
      (fC_Machine_stepsDone q3.2).bind fun q14 =>
      if q1.1 < q14.1 then
        some ((0 : Int32), q14.2)
      else
        some ((1 : Int32), q14.2)
  else
  if q3.1 = (5 : Int32) then
    (fC_State_isAccount q1.1 q3.2).bind fun q16 =>
    if q16.1 = (0 : Int32) then
      some ((0 : Int32), q16.2)
    else
      (fC_State_coinsOf q1.1 q16.2).bind fun q18 =>
      if q18.1 = q2.1 then
        some ((1 : Int32), q18.2)
      else
        some ((0 : Int32), q18.2)
  else
  if q3.1 = (6 : Int32) then
    (fC_Scripts_c x1 q3.2).bind fun q20 =>
    (fC_Runner_cellIs q1.1 q2.1 q20.1 q20.2).bind fun q21 =>
    if bz q21.1 then some (q21.1, q21.2) else none
  else
  if q3.1 = (7 : Int32) then
    (fC_Runner_eventIs q1.1 q2.1 q3.2).bind fun q22 =>
    if bz q22.1 then some (q22.1, q22.2) else none
  else
  if q3.1 = (8 : Int32) then
    (fC_State_allCoins q3.2).bind fun q23 =>
    if (lg_cmp q23.1 q1.1.toInt64) = (0 : Int32) then
      some ((1 : Int32), q23.2)
    else
      some ((0 : Int32), q23.2)
  else
  if q3.1 = (9 : Int32) then
    (fC_State_age q1.1 q3.2).bind fun q25 =>
    if bz q25.1 then some (q25.1, q25.2) else none
  else
  if q3.1 = (10 : Int32) then
    (fC_Runner_keepsFork q1.1 q3.2).bind fun q26 =>
    if bz q26.1 then some (q26.1, q26.2) else none
  else
  if q3.1 = (11 : Int32) then
    (fC_Runner_goesBack q1.1 q3.2).bind fun q27 =>
    if bz q27.1 then some (q27.1, q27.2) else none
  else
  if q3.1 = (12 : Int32) then
    (fC_Faces_putDouble q1.1 (1 : Int32) q2.1 q3.2).bind fun q28 =>
    if bz q28.1 then some (q28.1, q28.2) else none
  else
  if q3.1 = (13 : Int32) then
    (fC_Runner_faceFails q1.1 q2.1 q3.2).bind fun q29 =>
    if bz q29.1 then some (q29.1, q29.2) else none
  else
    some ((0 : Int32), q3.2)
def sC_Runner_nextIsThrows_15 (k15 : Int32 → Int32 → Int32 → Int32 → Int32 → Ug → Option (Int32 × Ug)) (v1 : Int32) (v2 : Int32) (v3 : Int32) (v4 : Int32) (v5 : Int32) (u : Ug) : Option (Int32 × Ug) :=
  if v4 ≤ v5 then
    some ((0 : Int32), u)
  else
    if ((v3 >>> (v5 &&& 31)) &&& (1 : Int32)) = (0 : Int32) then
      (fC_Scripts_slotOf v1 v5 u).bind fun q4 =>
      (fC_Scripts_word q4.1 q4.2).bind fun q5 =>
      if q5.1 = (3 : Int32) then
        some ((1 : Int32), q5.2)
      else
        some ((0 : Int32), q5.2)
    else
      k15 v1 v2 v3 v4 (v5 + (1 : Int32)) u
def kC_Runner_nextIsThrows : Nat → Int32 → Int32 → Int32 → Int32 → Int32 → Ug → Option (Int32 × Ug)
  | 0 => fun _ _ _ _ _ _ => none
  | n + 1 => sC_Runner_nextIsThrows_15 (kC_Runner_nextIsThrows n)
def fC_Runner_nextIsThrows (x1 : Int32) (x2 : Int32) (x3 : Int32) (u : Ug) : Option (Int32 × Ug) :=
  (fC_Scripts_size x1 u).bind fun q1 =>
  (kC_Runner_nextIsThrows 4096) x1 x2 x3 q1.1 (x2 + (1 : Int32)) q1.2
def fC_Runner_doesCall (x1 : Int32) (x2 : Int32) (x3 : Int32) (u : Ug) : Option (Int32 × Ug) :=
  (fC_Scripts_slotOf x1 x2 u).bind fun q1 =>
  (fC_Scripts_a q1.1 q1.2).bind fun q2 =>
  (fC_Scripts_b q1.1 q2.2).bind fun q3 =>
  (fC_Code_placeOf q2.1 q3.1 q3.2).bind fun q4 =>
  if (0 : Int32) ≤ q4.1 then
    (fC_Scripts_c q1.1 q4.2).bind fun q6 =>
    (fC_Machine_callFromOutside (q4.2 24 0) q4.1 q6.1 (q6.2 25 0) q6.2).bind fun q7 =>
    (sbO q7.2 28 (1 : Int32)).bind fun u8 =>
    (fC_Machine_threw u8).bind fun q9 =>
    if q9.1 = (0 : Int32) then
      some ((1 : Int32), q9.2)
    else
      (fC_Runner_nextIsThrows x1 x2 x3 q9.2).bind fun q11 =>
      if q11.1 = (0 : Int32) then
        some ((0 : Int32), q11.2)
      else
        some ((1 : Int32), q11.2)
  else
    some ((0 : Int32), q4.2)
def sC_Runner_failingLine_19 (k19 : Int32 → Int32 → Int32 → Int32 → Int32 → Ug → Option (Int32 × Ug)) (v1 : Int32) (v2 : Int32) (v3 : Int32) (v4 : Int32) (v5 : Int32) (u : Ug) : Option (Int32 × Ug) :=
  if v3 ≤ v5 then
    (fC_Faces_dropDoubles u).bind fun q4 =>
    (fC_State_bringFrom_22 (3 : Int32) q4.2).bind fun q5 =>
    some (v4, q5.2)
  else
    if v4 = (-1 : Int32) then
      if ((v2 >>> (v5 &&& 31)) &&& (1 : Int32)) = (1 : Int32) then
        k19 v1 v2 v3 v4 (v5 + (1 : Int32)) u
      else
        (fC_Scripts_slotOf v1 v5 u).bind fun q10 =>
        (fC_Scripts_word q10.1 q10.2).bind fun q11 =>
        if q11.1 = (1 : Int32) then
          (fC_Runner_doesCall v1 v5 v2 q11.2).bind fun q15 =>
          if q15.1 = (0 : Int32) then
            k19 v1 v2 v3 v5 (v5 + (1 : Int32)) q15.2
          else
            k19 v1 v2 v3 (-1 : Int32) (v5 + (1 : Int32)) q15.2
        else
          (fC_Runner_asTold q10.1 q11.2).bind fun q13 =>
          if q13.1 = (0 : Int32) then
            k19 v1 v2 v3 v5 (v5 + (1 : Int32)) q13.2
          else
            k19 v1 v2 v3 (-1 : Int32) (v5 + (1 : Int32)) q13.2
    else
      (fC_Faces_dropDoubles u).bind fun q7 =>
      (fC_State_bringFrom_22 (3 : Int32) q7.2).bind fun q8 =>
      some (v4, q8.2)
def kC_Runner_failingLine : Nat → Int32 → Int32 → Int32 → Int32 → Int32 → Ug → Option (Int32 × Ug)
  | 0 => fun _ _ _ _ _ _ => none
  | n + 1 => sC_Runner_failingLine_19 (kC_Runner_failingLine n)
def fC_Runner_failingLine (x1 : Int32) (x2 : Int32) (u : Ug) : Option (Int32 × Ug) :=
  (fC_Runner_begin u).bind fun q1 =>
  (fC_Scripts_size x1 q1.2).bind fun q2 =>
  (kC_Runner_failingLine 4096) x1 x2 q2.1 (-1 : Int32) (0 : Int32) q2.2
def fC_run (x1 : Int32) (u : Ug) : Option (Int32 × Ug) :=
  (fC_Scripts_isTest x1 u).bind fun q1 =>
  if q1.1 = (0 : Int32) then
    some ((-2 : Int32), q1.2)
  else
    (fC_Runner_failingLine x1 (0 : Int32) q1.2).bind fun q3 =>
    some (q3.1, q3.2)
def fC_Mutants_perStep (x1 : Int32) (u : Ug) : Option (Int32 × Ug) :=
  if x1 = (2 : Int32) then
    some ((2 : Int32), u)
  else
    if x1 = (4 : Int32) then
      some ((2 : Int32), u)
    else
      if x1 = (7 : Int32) then
        some ((2 : Int32), u)
      else
        some ((1 : Int32), u)
def sC_Mutants_howMany_4 (k4 : Int32 → Int32 → Int32 → Ug → Option (Int32 × Ug)) (k34 : Int32 → Int32 → Int32 → Int32 → Int32 → Int32 → Ug → Option (Int32 × Ug)) (v1 : Int32) (v2 : Int32) (v3 : Int32) (u : Ug) : Option (Int32 × Ug) :=
  if (3 : Int32) ≤ v3 then
    some (v2, u)
  else
    (fC_Code_placeOf v1 v3 u).bind fun q2 =>
    (fC_Code_size q2.1 q2.2).bind fun q3 =>
    k34 v1 v2 v3 q2.1 q3.1 (0 : Int32) q3.2
def sC_Mutants_howMany_34 (k4 : Int32 → Int32 → Int32 → Ug → Option (Int32 × Ug)) (k34 : Int32 → Int32 → Int32 → Int32 → Int32 → Int32 → Ug → Option (Int32 × Ug)) (v1 : Int32) (v2 : Int32) (v3 : Int32) (v4 : Int32) (v5 : Int32) (v6 : Int32) (u : Ug) : Option (Int32 × Ug) :=
  if v5 ≤ v6 then
    k4 v1 v2 (v3 + (1 : Int32)) u
  else
    (fC_Code_kind ((v4 * (8 : Int32)) + v6) u).bind fun q5 =>
    (fC_Mutants_perStep q5.1 q5.2).bind fun q6 =>
    k34 v1 (v2 + q6.1) v3 v4 v5 (v6 + (1 : Int32)) q6.2
def kC_Mutants_howMany : Nat → (Int32 → Int32 → Int32 → Ug → Option (Int32 × Ug)) × (Int32 → Int32 → Int32 → Int32 → Int32 → Int32 → Ug → Option (Int32 × Ug))
  | 0 => (fun _ _ _ _ => none, fun _ _ _ _ _ _ _ => none)
  | n + 1 => (sC_Mutants_howMany_4 (kC_Mutants_howMany n).1 (kC_Mutants_howMany n).2, sC_Mutants_howMany_34 (kC_Mutants_howMany n).1 (kC_Mutants_howMany n).2)
def fC_Mutants_howMany (x1 : Int32) (u : Ug) : Option (Int32 × Ug) :=
  (kC_Mutants_howMany 4096).1 x1 (0 : Int32) (0 : Int32) u
def fC_mutants (x1 : Int32) (u : Ug) : Option (Int32 × Ug) :=
  (fC_Code_isContract x1 u).bind fun q1 =>
  if q1.1 = (0 : Int32) then
    some ((-1 : Int32), q1.2)
  else
    (fC_Mutants_howMany x1 q1.2).bind fun q3 =>
    some (q3.1, q3.2)
def sC_Mutants_find_11 (k11 : Int32 → Int32 → Int32 → Int32 → Ug → Option (Int32 × Ug)) (k43 : Int32 → Int32 → Int32 → Int32 → Int32 → Int32 → Int32 → Ug → Option (Int32 × Ug)) (v1 : Int32) (v2 : Int32) (v3 : Int32) (v4 : Int32) (u : Ug) : Option (Int32 × Ug) :=
  if (3 : Int32) ≤ v4 then
    some ((-1 : Int32), u)
  else
    (fC_Code_placeOf v1 v4 u).bind fun q3 =>
    (fC_Code_size q3.1 q3.2).bind fun q4 =>
    k43 v1 v2 v3 v4 q3.1 q4.1 (0 : Int32) q4.2
def sC_Mutants_find_43 (k11 : Int32 → Int32 → Int32 → Int32 → Ug → Option (Int32 × Ug)) (k43 : Int32 → Int32 → Int32 → Int32 → Int32 → Int32 → Int32 → Ug → Option (Int32 × Ug)) (v1 : Int32) (v2 : Int32) (v3 : Int32) (v4 : Int32) (v5 : Int32) (v6 : Int32) (v7 : Int32) (u : Ug) : Option (Int32 × Ug) :=
  if v6 ≤ v7 then
    k11 v1 v2 v3 (v4 + (1 : Int32)) u
  else
    (fC_Code_kind ((v5 * (8 : Int32)) + v7) u).bind fun q6 =>
    (fC_Mutants_perStep q6.1 q6.2).bind fun q7 =>
    if q7.1 ≤ v3 then
      k43 v1 v2 (v3 - q7.1) v4 v5 v6 (v7 + (1 : Int32)) q7.2
    else
      some (((((v4 * (8 : Int32)) + v7) * (2 : Int32)) + v3), q7.2)
def kC_Mutants_find : Nat → (Int32 → Int32 → Int32 → Int32 → Ug → Option (Int32 × Ug)) × (Int32 → Int32 → Int32 → Int32 → Int32 → Int32 → Int32 → Ug → Option (Int32 × Ug))
  | 0 => (fun _ _ _ _ _ => none, fun _ _ _ _ _ _ _ _ => none)
  | n + 1 => (sC_Mutants_find_11 (kC_Mutants_find n).1 (kC_Mutants_find n).2, sC_Mutants_find_43 (kC_Mutants_find n).1 (kC_Mutants_find n).2)
def fC_Mutants_find (x1 : Int32) (x2 : Int32) (u : Ug) : Option (Int32 × Ug) :=
  if (0 : Int32) ≤ x2 then
    (kC_Mutants_find 4096).1 x1 x2 x2 (0 : Int32) u
  else
    some ((-1 : Int32), u)
def fC_Mutants_memberOf (x1 : Int32) (u : Ug) : Option (Int32 × Ug) :=
  some ((x1 / (16 : Int32)), u)
def fC_Mutants_stepOf (x1 : Int32) (u : Ug) : Option (Int32 × Ug) :=
  some (((x1 / (2 : Int32)) - (x1 / (2 : Int32)) / (8 : Int32) * (8 : Int32)), u)
def fC_Mutants_isSecond (x1 : Int32) (u : Ug) : Option (Int32 × Ug) :=
  if (x1 - x1 / (2 : Int32) * (2 : Int32)) = (1 : Int32) then
    some ((1 : Int32), u)
  else
    some ((0 : Int32), u)
def fC_mutant (x1 : Int32) (x2 : Int32) (x3 : Int32) (u : Ug) : Option (Int32 × Ug) :=
  (fC_Code_isContract x1 u).bind fun q1 =>
  if q1.1 = (0 : Int32) then
    some ((-1 : Int32), q1.2)
  else
    (fC_Mutants_find x1 x2 q1.2).bind fun q3 =>
    if (0 : Int32) ≤ q3.1 then
      if x3 = (0 : Int32) then
        (fC_Mutants_memberOf q3.1 q3.2).bind fun q5 =>
        some (q5.1, q5.2)
      else
      if x3 = (1 : Int32) then
        (fC_Mutants_stepOf q3.1 q3.2).bind fun q6 =>
        some (q6.1, q6.2)
      else
      if x3 = (2 : Int32) then
        (fC_Mutants_isSecond q3.1 q3.2).bind fun q7 =>
        if q7.1 = (0 : Int32) then
          some ((0 : Int32), q7.2)
        else
          some ((1 : Int32), q7.2)
      else
        some ((-1 : Int32), q3.2)
    else
      some ((-1 : Int32), q3.2)
def fC_Mutants_begin (x1 : Int32) (u : Ug) : Option (Int32 × Ug) :=
  (fC_Mutants_howMany x1 u).bind fun q1 =>
  if x1 < (0 : Int32) then
    some ((if (48 : Int32) < q1.1 then (48 : Int32) else q1.1), q1.2)
  else
    if (4 : Int32) ≤ x1 then
      some ((if (48 : Int32) < q1.1 then (48 : Int32) else q1.1), q1.2)
    else
      (wrO q1.2 16 4 x1 (if (48 : Int32) < q1.1 then (48 : Int32) else q1.1)).bind fun u4 =>
      some ((if (48 : Int32) < q1.1 then (48 : Int32) else q1.1), u4)
def fC_Mutants_putFirst (u : Ug) : Option (Int32 × Ug) :=
  if (u 30 0) = (2 : Int32) then
    (fC_Code_replace (u 29 0) (u 30 0) (u 31 0) ((u 32 0) + (1 : Int32)) u).bind fun q1 =>
    some ((0 : Int32), q1.2)
  else
  if (u 30 0) = (4 : Int32) then
    (fC_Code_replace (u 29 0) (u 30 0) (u 31 0) ((u 32 0) + (1 : Int32)) u).bind fun q2 =>
    some ((0 : Int32), q2.2)
  else
  if (u 30 0) = (5 : Int32) then
    (fC_Code_replace (u 29 0) (u 30 0) (((u 31 0) + (1 : Int32)) - ((u 31 0) + (1 : Int32)) / (12 : Int32) * (12 : Int32)) (u 32 0) u).bind fun q3 =>
    some ((0 : Int32), q3.2)
  else
  if (u 30 0) = (7 : Int32) then
    (fC_Code_replace (u 29 0) (u 30 0) ((u 31 0) + (1 : Int32)) (u 32 0) u).bind fun q4 =>
    some ((0 : Int32), q4.2)
  else
    (fC_Code_replace (u 29 0) (12 : Int32) (u 31 0) (u 32 0) u).bind fun q5 =>
    some ((0 : Int32), q5.2)
def fC_Mutants_putSecond (u : Ug) : Option (Int32 × Ug) :=
  if (u 30 0) = (2 : Int32) then
    (fC_Code_replace (u 29 0) (u 30 0) (u 31 0) (-(u 32 0)) u).bind fun q1 =>
    some ((0 : Int32), q1.2)
  else
  if (u 30 0) = (7 : Int32) then
    (fC_Code_replace (u 29 0) (13 : Int32) (u 31 0) (u 32 0) u).bind fun q2 =>
    some ((0 : Int32), q2.2)
  else
    (fC_Code_replace (u 29 0) (12 : Int32) (u 31 0) (u 32 0) u).bind fun q3 =>
    some ((0 : Int32), q3.2)
def fC_Mutants_putIn (x1 : Int32) (x2 : Int32) (u : Ug) : Option (Int32 × Ug) :=
  (fC_Mutants_find x1 x2 u).bind fun q1 =>
  if (0 : Int32) ≤ q1.1 then
    (scO q1.2 29 (((x1 * (3 : Int32)) * (8 : Int32)) + (q1.1 / (2 : Int32)))).bind fun u3 =>
    (fC_Code_kind (u3 29 0) u3).bind fun q4 =>
    (scO q4.2 30 q4.1).bind fun u5 =>
    (fC_Code_a (u5 29 0) u5).bind fun q6 =>
    (scO q6.2 31 q6.1).bind fun u7 =>
    (fC_Code_b (u7 29 0) u7).bind fun q8 =>
    (scO q8.2 32 q8.1).bind fun u9 =>
    (fC_Mutants_isSecond q1.1 u9).bind fun q10 =>
    if q10.1 = (0 : Int32) then
      (fC_Mutants_putFirst q10.2).bind fun q12 =>
      some ((0 : Int32), q12.2)
    else
      (fC_Mutants_putSecond q10.2).bind fun q13 =>
      some ((0 : Int32), q13.2)
  else
    (scO q1.2 29 (-1 : Int32)).bind fun u14 =>
    (fC_Code_kind (u14 29 0) u14).bind fun q15 =>
    (scO q15.2 30 q15.1).bind fun u16 =>
    (fC_Code_a (u16 29 0) u16).bind fun q17 =>
    (scO q17.2 31 q17.1).bind fun u18 =>
    (fC_Code_b (u18 29 0) u18).bind fun q19 =>
    (scO q19.2 32 q19.1).bind fun u20 =>
    (fC_Mutants_isSecond q1.1 u20).bind fun q21 =>
    if q21.1 = (0 : Int32) then
      (fC_Mutants_putFirst q21.2).bind fun q23 =>
      some ((0 : Int32), q23.2)
    else
      (fC_Mutants_putSecond q21.2).bind fun q24 =>
      some ((0 : Int32), q24.2)
def fC_Mutants_takeOut (x1 : Int32) (x2 : Int32) (x3 : Int32) (u : Ug) : Option (Int32 × Ug) :=
  (fC_Code_replace (u 29 0) (u 30 0) (u 31 0) (u 32 0) u).bind fun q1 =>
  if x1 < (0 : Int32) then
    some ((0 : Int32), q1.2)
  else
    if (4 : Int32) ≤ x1 then
      some ((0 : Int32), q1.2)
    else
      if x2 < (0 : Int32) then
        some ((0 : Int32), q1.2)
      else
        if (48 : Int32) ≤ x2 then
          some ((0 : Int32), q1.2)
        else
          (wrO q1.2 17 192 ((x1 * (48 : Int32)) + x2) x3).bind fun u6 =>
          some ((0 : Int32), u6)
def sC_judge_17 (k17 : Int32 → Int32 → Int32 → Ug → Option (Int32 × Ug)) (k63 : Int32 → Int32 → Int32 → Int32 → Int32 → Ug → Option (Int32 × Ug)) (k85 : Int32 → Int32 → Int32 → Int32 → Int32 → Int32 → Int32 → Ug → Option (Int32 × Ug)) (v1 : Int32) (v2 : Int32) (v3 : Int32) (u : Ug) : Option (Int32 × Ug) :=
  if (6 : Int32) ≤ v3 then
    (fC_Mutants_begin v1 u).bind fun q4 =>
    k63 v1 v2 q4.1 (0 : Int32) (0 : Int32) q4.2
  else
    (fC_Runner_failingLine v3 (0 : Int32) u).bind fun q5 =>
    if q5.1 = (-1 : Int32) then
      k17 v1 (v2 ||| ((1 : Int32) <<< (v3 &&& 31))) (v3 + (1 : Int32)) q5.2
    else
      k17 v1 v2 (v3 + (1 : Int32)) q5.2
def sC_judge_63 (k17 : Int32 → Int32 → Int32 → Ug → Option (Int32 × Ug)) (k63 : Int32 → Int32 → Int32 → Int32 → Int32 → Ug → Option (Int32 × Ug)) (k85 : Int32 → Int32 → Int32 → Int32 → Int32 → Int32 → Int32 → Ug → Option (Int32 × Ug)) (v1 : Int32) (v2 : Int32) (v3 : Int32) (v4 : Int32) (v5 : Int32) (u : Ug) : Option (Int32 × Ug) :=
  if v3 ≤ v5 then
    some (v4, u)
  else
    (fC_Mutants_putIn v1 v5 u).bind fun q8 =>
    k85 v1 v2 v3 v4 v5 (-1 : Int32) (0 : Int32) q8.2
def sC_judge_85 (k17 : Int32 → Int32 → Int32 → Ug → Option (Int32 × Ug)) (k63 : Int32 → Int32 → Int32 → Int32 → Int32 → Ug → Option (Int32 × Ug)) (k85 : Int32 → Int32 → Int32 → Int32 → Int32 → Int32 → Int32 → Ug → Option (Int32 × Ug)) (v1 : Int32) (v2 : Int32) (v3 : Int32) (v4 : Int32) (v5 : Int32) (v6 : Int32) (v7 : Int32) (u : Ug) : Option (Int32 × Ug) :=
  if (6 : Int32) ≤ v7 then
    (fC_Mutants_takeOut v1 v5 v6 u).bind fun q10 =>
    k63 v1 v2 v3 v4 (v5 + (1 : Int32)) q10.2
  else
    if v6 = (-1 : Int32) then
      if ((v2 >>> (v7 &&& 31)) &&& (1 : Int32)) = (1 : Int32) then
        (fC_Runner_failingLine v7 (0 : Int32) u).bind fun q14 =>
        if q14.1 = (-1 : Int32) then
          k85 v1 v2 v3 v4 v5 v6 (v7 + (1 : Int32)) q14.2
        else
          k85 v1 v2 v3 (v4 + (1 : Int32)) v5 v7 (v7 + (1 : Int32)) q14.2
      else
        k85 v1 v2 v3 v4 v5 v6 (v7 + (1 : Int32)) u
    else
      (fC_Mutants_takeOut v1 v5 v6 u).bind fun q12 =>
      k63 v1 v2 v3 v4 (v5 + (1 : Int32)) q12.2
def kC_judge : Nat → (Int32 → Int32 → Int32 → Ug → Option (Int32 × Ug)) × (Int32 → Int32 → Int32 → Int32 → Int32 → Ug → Option (Int32 × Ug)) × (Int32 → Int32 → Int32 → Int32 → Int32 → Int32 → Int32 → Ug → Option (Int32 × Ug))
  | 0 => (fun _ _ _ _ => none, fun _ _ _ _ _ _ => none, fun _ _ _ _ _ _ _ _ => none)
  | n + 1 => (sC_judge_17 (kC_judge n).1 (kC_judge n).2.1 (kC_judge n).2.2, sC_judge_63 (kC_judge n).1 (kC_judge n).2.1 (kC_judge n).2.2, sC_judge_85 (kC_judge n).1 (kC_judge n).2.1 (kC_judge n).2.2)
def fC_judge (x1 : Int32) (u : Ug) : Option (Int32 × Ug) :=
  (fC_Code_isContract x1 u).bind fun q1 =>
  if q1.1 = (0 : Int32) then
    some ((-1 : Int32), q1.2)
  else
    (kC_judge 4096).1 x1 (0 : Int32) (0 : Int32) q1.2
def fC_Mutants_killerOf (x1 : Int32) (x2 : Int32) (u : Ug) : Option (Int32 × Ug) :=
  if x1 < (0 : Int32) then
    some ((-2 : Int32), u)
  else
    if (4 : Int32) ≤ x1 then
      some ((-2 : Int32), u)
    else
      if x2 < (0 : Int32) then
        some ((-2 : Int32), u)
      else
        if (48 : Int32) ≤ x2 then
          some ((-2 : Int32), u)
        else
          (rdO (u 16) 4 x1).bind fun y5 =>
          if y5 ≤ x2 then
            some ((-2 : Int32), u)
          else
            (rdO (u 17) 192 ((x1 * (48 : Int32)) + x2)).bind fun y7 =>
            some (y7, u)
def fC_killer (x1 : Int32) (x2 : Int32) (u : Ug) : Option (Int32 × Ug) :=
  (fC_Mutants_killerOf x1 x2 u).bind fun q1 =>
  some (q1.1, q1.2)
def sC_Scripts_dropLines_9 (k9 : Int32 → Int32 → Int32 → Int32 → Ug → Option (Int32 × Ug)) (v1 : Int32) (v2 : Int32) (v3 : Int32) (v4 : Int32) (u : Ug) : Option (Int32 × Ug) :=
  if v3 ≤ v4 then
    (fC_Scripts_size v1 u).bind fun q3 =>
    some (q3.1, q3.2)
  else
    if ((v2 >>> (v4 &&& 31)) &&& (1 : Int32)) = (0 : Int32) then
      (fC_Scripts_word ((v1 * (16 : Int32)) + v4) u).bind fun q5 =>
      (fC_Scripts_a ((v1 * (16 : Int32)) + v4) q5.2).bind fun q6 =>
      (fC_Scripts_b ((v1 * (16 : Int32)) + v4) q6.2).bind fun q7 =>
      (fC_Scripts_c ((v1 * (16 : Int32)) + v4) q7.2).bind fun q8 =>
      (fC_Scripts_append v1 q5.1 q6.1 q7.1 q8.1 q8.2).bind fun q9 =>
      k9 v1 v2 v3 (v4 + (1 : Int32)) q9.2
    else
      k9 v1 v2 v3 (v4 + (1 : Int32)) u
def kC_Scripts_dropLines : Nat → Int32 → Int32 → Int32 → Int32 → Ug → Option (Int32 × Ug)
  | 0 => fun _ _ _ _ _ => none
  | n + 1 => sC_Scripts_dropLines_9 (kC_Scripts_dropLines n)
def fC_Scripts_dropLines (x1 : Int32) (x2 : Int32) (u : Ug) : Option (Int32 × Ug) :=
  (fC_Scripts_empty x1 u).bind fun q1 =>
  (kC_Scripts_dropLines 4096) x1 x2 q1.1 (0 : Int32) q1.2
def sC_shrink_45 (k45 : Int32 → Int32 → Int32 → Int32 → Int32 → Int32 → Ug → Option (Int32 × Ug)) (k62 : Int32 → Int32 → Int32 → Int32 → Int32 → Int32 → Int32 → Ug → Option (Int32 × Ug)) (v1 : Int32) (v2 : Int32) (v3 : Int32) (v4 : Int32) (v5 : Int32) (v6 : Int32) (u : Ug) : Option (Int32 × Ug) :=
  if v5 = (0 : Int32) then
    (fC_Scripts_dropLines v1 v4 u).bind fun q7 =>
    some (q7.1, q7.2)
  else
    if v3 < v6 then
      (fC_Scripts_dropLines v1 v4 u).bind fun q9 =>
      some (q9.1, q9.2)
    else
      k62 v1 v2 v3 v4 (0 : Int32) v6 (0 : Int32) u
def sC_shrink_62 (k45 : Int32 → Int32 → Int32 → Int32 → Int32 → Int32 → Ug → Option (Int32 × Ug)) (k62 : Int32 → Int32 → Int32 → Int32 → Int32 → Int32 → Int32 → Ug → Option (Int32 × Ug)) (v1 : Int32) (v2 : Int32) (v3 : Int32) (v4 : Int32) (v5 : Int32) (v6 : Int32) (v7 : Int32) (u : Ug) : Option (Int32 × Ug) :=
  if v3 ≤ v7 then
    k45 v1 v2 v3 v4 v5 (v6 + (1 : Int32)) u
  else
    if (v4 ||| ((1 : Int32) <<< (v7 &&& 31))) = v4 then
      k62 v1 v2 v3 v4 v5 v6 (v7 + (1 : Int32)) u
    else
      (fC_Runner_failingLine v1 (v4 ||| ((1 : Int32) <<< (v7 &&& 31))) u).bind fun q12 =>
      if q12.1 = v2 then
        k62 v1 v2 v3 (v4 ||| ((1 : Int32) <<< (v7 &&& 31))) (1 : Int32) v6 (v7 + (1 : Int32)) q12.2
      else
        k62 v1 v2 v3 v4 v5 v6 (v7 + (1 : Int32)) q12.2
def kC_shrink : Nat → (Int32 → Int32 → Int32 → Int32 → Int32 → Int32 → Ug → Option (Int32 × Ug)) × (Int32 → Int32 → Int32 → Int32 → Int32 → Int32 → Int32 → Ug → Option (Int32 × Ug))
  | 0 => (fun _ _ _ _ _ _ _ => none, fun _ _ _ _ _ _ _ _ => none)
  | n + 1 => (sC_shrink_45 (kC_shrink n).1 (kC_shrink n).2, sC_shrink_62 (kC_shrink n).1 (kC_shrink n).2)
def fC_shrink (x1 : Int32) (u : Ug) : Option (Int32 × Ug) :=
  (fC_Scripts_isTest x1 u).bind fun q1 =>
  if q1.1 = (0 : Int32) then
    some ((-2 : Int32), q1.2)
  else
    (fC_Runner_failingLine x1 (0 : Int32) q1.2).bind fun q3 =>
    if q3.1 = (-1 : Int32) then
      some ((-1 : Int32), q3.2)
    else
      (fC_Scripts_size x1 q3.2).bind fun q5 =>
      (kC_shrink 4096).1 x1 q3.1 q5.1 (0 : Int32) (1 : Int32) (0 : Int32) q5.2
def fC_lineOf (x1 : Int32) (x2 : Int32) (x3 : Int32) (u : Ug) : Option (Int32 × Ug) :=
  (fC_Scripts_slotOf x1 x2 u).bind fun q1 =>
  if (0 : Int32) ≤ q1.1 then
    if x3 = (0 : Int32) then
      (fC_Scripts_word q1.1 q1.2).bind fun q3 =>
      some (q3.1, q3.2)
    else
    if x3 = (1 : Int32) then
      (fC_Scripts_a q1.1 q1.2).bind fun q4 =>
      some (q4.1, q4.2)
    else
    if x3 = (2 : Int32) then
      (fC_Scripts_b q1.1 q1.2).bind fun q5 =>
      some (q5.1, q5.2)
    else
    if x3 = (3 : Int32) then
      (fC_Scripts_c q1.1 q1.2).bind fun q6 =>
      some (q6.1, q6.2)
    else
      some ((0 : Int32), q1.2)
  else
    some ((0 : Int32), q1.2)
def fC_Code_coveredBits (x1 : Int32) (u : Ug) : Option (Int32 × Ug) :=
  if x1 < (0 : Int32) then
    some ((0 : Int32), u)
  else
    if (12 : Int32) ≤ x1 then
      some ((0 : Int32), u)
    else
      (rdO (u 2) 12 x1).bind fun y3 =>
      some (y3, u)
def fC_covered (x1 : Int32) (x2 : Int32) (u : Ug) : Option (Int32 × Ug) :=
  (fC_Code_placeOf x1 x2 u).bind fun q1 =>
  if (0 : Int32) ≤ q1.1 then
    (fC_Code_coveredBits q1.1 q1.2).bind fun q3 =>
    some (q3.1, q3.2)
  else
    some ((-1 : Int32), q1.2)
def fC_coins (x1 : Int32) (u : Ug) : Option (Int32 × Ug) :=
  (fC_State_isAccount x1 u).bind fun q1 =>
  if q1.1 = (0 : Int32) then
    some ((-1 : Int32), q1.2)
  else
    (fC_State_coinsOf x1 q1.2).bind fun q3 =>
    some (q3.1, q3.2)
def fC_cell (x1 : Int32) (x2 : Int32) (u : Ug) : Option (Int32 × Ug) :=
  (fC_Code_isContract x1 u).bind fun q1 =>
  if q1.1 = (0 : Int32) then
    some ((0 : Int32), q1.2)
  else
    (fC_State_isCell x2 q1.2).bind fun q3 =>
    if q3.1 = (0 : Int32) then
      some ((0 : Int32), q3.2)
    else
      (fC_State_cellOf x1 x2 q3.2).bind fun q5 =>
      some (q5.1, q5.2)
def fC_event (x1 : Int32) (u : Ug) : Option (Int32 × Ug) :=
  (fC_State_eventAt x1 u).bind fun q1 =>
  some (q1.1, q1.2)
def fC_Code_contractCount (u : Ug) : Option (Int32 × Ug) :=
  some ((u 18 0), u)
def fC_Machine_inAll (u : Ug) : Option (Int32 × Ug) :=
  some ((u 19 0), u)
def sC_Faces_boundCount_4 (k4 : Int32 → Int32 → Ug → Option (Int32 × Ug)) (v1 : Int32) (v2 : Int32) (u : Ug) : Option (Int32 × Ug) :=
  if (4 : Int32) ≤ v2 then
    some (v1, u)
  else
    (rdO (u 6) 4 v2).bind fun y2 =>
    if y2 = (-1 : Int32) then
      k4 v1 (v2 + (1 : Int32)) u
    else
      k4 (v1 + (1 : Int32)) (v2 + (1 : Int32)) u
def kC_Faces_boundCount : Nat → Int32 → Int32 → Ug → Option (Int32 × Ug)
  | 0 => fun _ _ _ => none
  | n + 1 => sC_Faces_boundCount_4 (kC_Faces_boundCount n)
def fC_Faces_boundCount (u : Ug) : Option (Int32 × Ug) :=
  (kC_Faces_boundCount 4096) (0 : Int32) (0 : Int32) u
def fC_count (x1 : Int32) (u : Ug) : Option (Int32 × Ug) :=
  if x1 = (0 : Int32) then
    (fC_State_height u).bind fun q1 =>
    some (q1.1, q1.2)
  else
  if x1 = (1 : Int32) then
    (fC_State_eventCount u).bind fun q2 =>
    some (q2.1, q2.2)
  else
  if x1 = (2 : Int32) then
    (fC_Code_contractCount u).bind fun q3 =>
    some (q3.1, q3.2)
  else
  if x1 = (3 : Int32) then
    (fC_Machine_inAll u).bind fun q4 =>
    some (q4.1, q4.2)
  else
  if x1 = (10 : Int32) then
    (fC_Faces_boundCount u).bind fun q5 =>
    some (q5.1, q5.2)
  else
    (fC_Scripts_isTest (x1 - (4 : Int32)) u).bind fun q6 =>
    if q6.1 = (0 : Int32) then
      some ((-1 : Int32), q6.2)
    else
      (fC_Scripts_size (x1 - (4 : Int32)) q6.2).bind fun q8 =>
      some (q8.1, q8.2)
