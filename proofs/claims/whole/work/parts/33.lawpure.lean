/-! THE PURE LAW. -/
def sL (L : Nat) (xs : Nat → Int32) (k : Int32 → Ug → Ug → Option Int32) (v3 : Int32) (u w : Ug) : Option Int32 :=
  if ((Int32.ofNat L) - (7 : Int32)) < v3 then some (1 : Int32) else
  (rdO xs L v3).bind fun y0 =>
  if (y0 &&& (31 : Int32)) = (0 : Int32) then
    (rdO xs L (v3 + (1 : Int32))).bind fun y1 =>
    (rdO xs L (v3 + (2 : Int32))).bind fun y2 =>
    (fC_account y1 y2 u).bind fun q3 =>
    (rdO xs L (v3 + (1 : Int32))).bind fun y4 =>
    (rdO xs L (v3 + (2 : Int32))).bind fun y5 =>
    (fM_account y4 y5 w).bind fun q6 =>
    if q3.1 = q6.1 then k (v3 + (7 : Int32)) q3.2 q6.2 else some (0 : Int32)
  else
  if (y0 &&& (31 : Int32)) = (1 : Int32) then
    (fC_contract u).bind fun q8 =>
    (fM_contract w).bind fun q9 =>
    if q8.1 = q9.1 then k (v3 + (7 : Int32)) q8.2 q9.2 else some (0 : Int32)
  else
  if (y0 &&& (31 : Int32)) = (2 : Int32) then
    (rdO xs L (v3 + (1 : Int32))).bind fun y11 =>
    (rdO xs L (v3 + (2 : Int32))).bind fun y12 =>
    (rdO xs L (v3 + (3 : Int32))).bind fun y13 =>
    (rdO xs L (v3 + (4 : Int32))).bind fun y14 =>
    (rdO xs L (v3 + (5 : Int32))).bind fun y15 =>
    (fC_step y11 y12 y13 y14 y15 u).bind fun q16 =>
    (rdO xs L (v3 + (1 : Int32))).bind fun y17 =>
    (rdO xs L (v3 + (2 : Int32))).bind fun y18 =>
    (rdO xs L (v3 + (3 : Int32))).bind fun y19 =>
    (rdO xs L (v3 + (4 : Int32))).bind fun y20 =>
    (rdO xs L (v3 + (5 : Int32))).bind fun y21 =>
    (fM_step y17 y18 y19 y20 y21 w).bind fun q22 =>
    if q16.1 = q22.1 then k (v3 + (7 : Int32)) q16.2 q22.2 else some (0 : Int32)
  else
  if (y0 &&& (31 : Int32)) = (3 : Int32) then
    (rdO xs L (v3 + (1 : Int32))).bind fun y24 =>
    (rdO xs L (v3 + (2 : Int32))).bind fun y25 =>
    (rdO xs L (v3 + (3 : Int32))).bind fun y26 =>
    (fC_bind y24 y25 y26 u).bind fun q27 =>
    (rdO xs L (v3 + (1 : Int32))).bind fun y28 =>
    (rdO xs L (v3 + (2 : Int32))).bind fun y29 =>
    (rdO xs L (v3 + (3 : Int32))).bind fun y30 =>
    (fM_bind y28 y29 y30 w).bind fun q31 =>
    if q27.1 = q31.1 then k (v3 + (7 : Int32)) q27.2 q31.2 else some (0 : Int32)
  else
  if (y0 &&& (31 : Int32)) = (4 : Int32) then
    (rdO xs L (v3 + (1 : Int32))).bind fun y33 =>
    (fC_time y33 u).bind fun q34 =>
    (rdO xs L (v3 + (1 : Int32))).bind fun y35 =>
    (fM_time y35 w).bind fun q36 =>
    if q34.1 = q36.1 then k (v3 + (7 : Int32)) q34.2 q36.2 else some (0 : Int32)
  else
  if (y0 &&& (31 : Int32)) = (5 : Int32) then
    (rdO xs L (v3 + (1 : Int32))).bind fun y38 =>
    (rdO xs L (v3 + (2 : Int32))).bind fun y39 =>
    (rdO xs L (v3 + (3 : Int32))).bind fun y40 =>
    (rdO xs L (v3 + (4 : Int32))).bind fun y41 =>
    (rdO xs L (v3 + (5 : Int32))).bind fun y42 =>
    (fC_call y38 y39 y40 y41 y42 u).bind fun q43 =>
    (rdO xs L (v3 + (1 : Int32))).bind fun y44 =>
    (rdO xs L (v3 + (2 : Int32))).bind fun y45 =>
    (rdO xs L (v3 + (3 : Int32))).bind fun y46 =>
    (rdO xs L (v3 + (4 : Int32))).bind fun y47 =>
    (rdO xs L (v3 + (5 : Int32))).bind fun y48 =>
    (fM_call y44 y45 y46 y47 y48 w).bind fun q49 =>
    if q43.1 = q49.1 then k (v3 + (7 : Int32)) q43.2 q49.2 else some (0 : Int32)
  else
  if (y0 &&& (31 : Int32)) = (6 : Int32) then
    (rdO xs L (v3 + (1 : Int32))).bind fun y51 =>
    (fC_told y51 u).bind fun q52 =>
    (rdO xs L (v3 + (1 : Int32))).bind fun y53 =>
    (fM_told y53 w).bind fun q54 =>
    if q52.1 = q54.1 then k (v3 + (7 : Int32)) q52.2 q54.2 else some (0 : Int32)
  else
  if (y0 &&& (31 : Int32)) = (7 : Int32) then
    (rdO xs L (v3 + (1 : Int32))).bind fun y56 =>
    (rdO xs L (v3 + (2 : Int32))).bind fun y57 =>
    (rdO xs L (v3 + (3 : Int32))).bind fun y58 =>
    (rdO xs L (v3 + (4 : Int32))).bind fun y59 =>
    (rdO xs L (v3 + (5 : Int32))).bind fun y60 =>
    (rdO xs L (v3 + (6 : Int32))).bind fun y61 =>
    (fC_line y56 ((y57.toInt64 <<< ((32 : Int32).toInt64 &&& 63)) ||| (y58.toInt64 &&& (4294967295 : Int64))) y59 y60 y61 u).bind fun q62 =>
    (rdO xs L (v3 + (1 : Int32))).bind fun y63 =>
    (rdO xs L (v3 + (2 : Int32))).bind fun y64 =>
    (rdO xs L (v3 + (3 : Int32))).bind fun y65 =>
    (rdO xs L (v3 + (4 : Int32))).bind fun y66 =>
    (rdO xs L (v3 + (5 : Int32))).bind fun y67 =>
    (rdO xs L (v3 + (6 : Int32))).bind fun y68 =>
    (fM_line y63 ((y64.toInt64 <<< ((32 : Int32).toInt64 &&& 63)) ||| (y65.toInt64 &&& (4294967295 : Int64))) y66 y67 y68 w).bind fun q69 =>
    if q62.1 = q69.1 then k (v3 + (7 : Int32)) q62.2 q69.2 else some (0 : Int32)
  else
  if (y0 &&& (31 : Int32)) = (8 : Int32) then
    (rdO xs L (v3 + (1 : Int32))).bind fun y71 =>
    (fC_clear y71 u).bind fun q72 =>
    (rdO xs L (v3 + (1 : Int32))).bind fun y73 =>
    (fM_clear y73 w).bind fun q74 =>
    if q72.1 = q74.1 then k (v3 + (7 : Int32)) q72.2 q74.2 else some (0 : Int32)
  else
  if (y0 &&& (31 : Int32)) = (9 : Int32) then
    (rdO xs L (v3 + (1 : Int32))).bind fun y76 =>
    (fC_run y76 u).bind fun q77 =>
    (rdO xs L (v3 + (1 : Int32))).bind fun y78 =>
    (fM_run y78 w).bind fun q79 =>
    if q77.1 = q79.1 then k (v3 + (7 : Int32)) q77.2 q79.2 else some (0 : Int32)
  else
  if (y0 &&& (31 : Int32)) = (10 : Int32) then
    (rdO xs L (v3 + (1 : Int32))).bind fun y81 =>
    (fC_mutants y81 u).bind fun q82 =>
    (rdO xs L (v3 + (1 : Int32))).bind fun y83 =>
    (fM_mutants y83 w).bind fun q84 =>
    if q82.1 = q84.1 then k (v3 + (7 : Int32)) q82.2 q84.2 else some (0 : Int32)
  else
  if (y0 &&& (31 : Int32)) = (11 : Int32) then
    (rdO xs L (v3 + (1 : Int32))).bind fun y86 =>
    (rdO xs L (v3 + (2 : Int32))).bind fun y87 =>
    (rdO xs L (v3 + (3 : Int32))).bind fun y88 =>
    (fC_mutant y86 y87 y88 u).bind fun q89 =>
    (rdO xs L (v3 + (1 : Int32))).bind fun y90 =>
    (rdO xs L (v3 + (2 : Int32))).bind fun y91 =>
    (rdO xs L (v3 + (3 : Int32))).bind fun y92 =>
    (fM_mutant y90 y91 y92 w).bind fun q93 =>
    if q89.1 = q93.1 then k (v3 + (7 : Int32)) q89.2 q93.2 else some (0 : Int32)
  else
  if (y0 &&& (31 : Int32)) = (12 : Int32) then
    (rdO xs L (v3 + (1 : Int32))).bind fun y95 =>
    (fC_judge y95 u).bind fun q96 =>
    (rdO xs L (v3 + (1 : Int32))).bind fun y97 =>
    (fM_judge y97 w).bind fun q98 =>
    if q96.1 = q98.1 then k (v3 + (7 : Int32)) q96.2 q98.2 else some (0 : Int32)
  else
  if (y0 &&& (31 : Int32)) = (13 : Int32) then
    (rdO xs L (v3 + (1 : Int32))).bind fun y100 =>
    (rdO xs L (v3 + (2 : Int32))).bind fun y101 =>
    (fC_killer y100 y101 u).bind fun q102 =>
    (rdO xs L (v3 + (1 : Int32))).bind fun y103 =>
    (rdO xs L (v3 + (2 : Int32))).bind fun y104 =>
    (fM_killer y103 y104 w).bind fun q105 =>
    if q102.1 = q105.1 then k (v3 + (7 : Int32)) q102.2 q105.2 else some (0 : Int32)
  else
  if (y0 &&& (31 : Int32)) = (14 : Int32) then
    (rdO xs L (v3 + (1 : Int32))).bind fun y107 =>
    (fC_shrink y107 u).bind fun q108 =>
    (rdO xs L (v3 + (1 : Int32))).bind fun y109 =>
    (fM_shrink y109 w).bind fun q110 =>
    if q108.1 = q110.1 then k (v3 + (7 : Int32)) q108.2 q110.2 else some (0 : Int32)
  else
  if (y0 &&& (31 : Int32)) = (15 : Int32) then
    (rdO xs L (v3 + (1 : Int32))).bind fun y112 =>
    (rdO xs L (v3 + (2 : Int32))).bind fun y113 =>
    (rdO xs L (v3 + (3 : Int32))).bind fun y114 =>
    (fC_lineOf y112 y113 y114 u).bind fun q115 =>
    (rdO xs L (v3 + (1 : Int32))).bind fun y116 =>
    (rdO xs L (v3 + (2 : Int32))).bind fun y117 =>
    (rdO xs L (v3 + (3 : Int32))).bind fun y118 =>
    (fM_lineOf y116 y117 y118 w).bind fun q119 =>
    if q115.1 = q119.1 then k (v3 + (7 : Int32)) q115.2 q119.2 else some (0 : Int32)
  else
  if (y0 &&& (31 : Int32)) = (16 : Int32) then
    (rdO xs L (v3 + (1 : Int32))).bind fun y121 =>
    (rdO xs L (v3 + (2 : Int32))).bind fun y122 =>
    (fC_covered y121 y122 u).bind fun q123 =>
    (rdO xs L (v3 + (1 : Int32))).bind fun y124 =>
    (rdO xs L (v3 + (2 : Int32))).bind fun y125 =>
    (fM_covered y124 y125 w).bind fun q126 =>
    if q123.1 = q126.1 then k (v3 + (7 : Int32)) q123.2 q126.2 else some (0 : Int32)
  else
  if (y0 &&& (31 : Int32)) = (17 : Int32) then
    (rdO xs L (v3 + (1 : Int32))).bind fun y128 =>
    (fC_coins y128 u).bind fun q129 =>
    (rdO xs L (v3 + (1 : Int32))).bind fun y130 =>
    (fM_coins y130 w).bind fun q131 =>
    if q129.1 = q131.1 then k (v3 + (7 : Int32)) q129.2 q131.2 else some (0 : Int32)
  else
  if (y0 &&& (31 : Int32)) = (18 : Int32) then
    (rdO xs L (v3 + (1 : Int32))).bind fun y133 =>
    (rdO xs L (v3 + (2 : Int32))).bind fun y134 =>
    (fC_cell y133 y134 u).bind fun q135 =>
    (rdO xs L (v3 + (1 : Int32))).bind fun y136 =>
    (rdO xs L (v3 + (2 : Int32))).bind fun y137 =>
    (fM_cell y136 y137 w).bind fun q138 =>
    if q135.1 = q138.1 then k (v3 + (7 : Int32)) q135.2 q138.2 else some (0 : Int32)
  else
  if (y0 &&& (31 : Int32)) = (19 : Int32) then
    (rdO xs L (v3 + (1 : Int32))).bind fun y140 =>
    (fC_event y140 u).bind fun q141 =>
    (rdO xs L (v3 + (1 : Int32))).bind fun y142 =>
    (fM_event y142 w).bind fun q143 =>
    if q141.1 = q143.1 then k (v3 + (7 : Int32)) q141.2 q143.2 else some (0 : Int32)
  else
  if (y0 &&& (31 : Int32)) = (20 : Int32) then
    (rdO xs L (v3 + (1 : Int32))).bind fun y145 =>
    (fC_count y145 u).bind fun q146 =>
    (rdO xs L (v3 + (1 : Int32))).bind fun y147 =>
    (fM_count y147 w).bind fun q148 =>
    if q146.1 = q148.1 then k (v3 + (7 : Int32)) q146.2 q148.2 else some (0 : Int32)
  else
  k (v3 + (7 : Int32)) u w
def kL (L : Nat) (xs : Nat → Int32) : Nat → Int32 → Ug → Ug → Option Int32
  | 0 => fun _ _ _ => none
  | n + 1 => sL L xs (kL L xs n)
