/-! PURE: account, bind alike. -/
def putG (B : Int32) (x1 : Int32) (x2 : Int32) (u : Ug) : Option (Int32 × Ug) :=
  if x1 < (0 : Int32) then
    some ((0 : Int32), u)
  else
    if (12 : Int32) ≤ x1 then
      some ((0 : Int32), u)
    else
      if x2 < (0 : Int32) then
        some ((0 : Int32), u)
      else
        if x2 ≤ B then
          (wrO u 0 70 x1 x2).bind fun u5 =>
          some ((1 : Int32), u5)
        else
          some ((0 : Int32), u)
def acMG (B : Int64) (x1 : Int32) (x2 : Int32) (u : Ug) : Option (Int32 × Ug) :=
  (fM_isAccount x1 u).bind fun q1 =>
  if q1.1 = (0 : Int32) then
    some ((-1 : Int32), q1.2)
  else
    (fM_in x2.toInt64 (0 : Int64) B q1.2).bind fun q3 =>
    if q3.1 = (0 : Int32) then
      some ((-1 : Int32), q3.2)
    else
      (wrO q3.2 0 70 x1 x2).bind fun u5 =>
      some ((1 : Int32), u5)
theorem putG_C {x1 x2 : Int32} {u : Ug} : fC_State_putCoins x1 x2 u = putG 1000000000 x1 x2 u := rfl
theorem acMG_M {x1 x2 : Int32} {u : Ug} : fM_account x1 x2 u = acMG 1000000000 x1 x2 u := rfl
theorem putG_no {B : Nat} {x1 x2 : Int32} {u : Ug} (hB : B < 2 ^ 30) (h : (x1 < 0 ∨ nI 12 ≤ x1) ∨ (x2 < 0 ∨ nI (B + 1) ≤ x2)) : putG (nI B) x1 x2 u = some (0, u) := by
  unfold putG
  by_cases a : x1 < 0
  · rw [if_pos a]
  rw [if_neg a]
  by_cases b : (12 : Int32) ≤ x1
  · rw [if_pos b]
  rw [if_neg b]
  have h := h.resolve_left (by rintro (q | q); exact a q; exact b q)
  by_cases c : x2 < 0
  · rw [if_pos c]
  rw [if_neg c, if_neg (fun q => by
    have h1 := Int32.le_iff_toInt_le.mp (h.resolve_left c)
    have h2 := Int32.le_iff_toInt_le.mp q
    rw [nI_toInt (by omega)] at h1 h2
    omega)]
theorem putG_ok {B j c : Nat} {u : Ug} (hB : B < 2 ^ 30) (hj : j < 12) (hc : c ≤ B) : putG (nI B) (nI j) (nI c) u = some (1, wr u 0 j (nI c)) := by
  unfold putG
  rw [if_neg (show ¬ nI j < 0 by rw [lit_0]; exact nI_nlt (Nat.zero_le _) (by omega)), if_neg (show ¬ (12 : Int32) ≤ nI j by rw [lit_12]; exact nI_ge hj (by omega)), if_neg (show ¬ nI c < 0 by rw [lit_0]; exact nI_nlt (Nat.zero_le _) (by omega)), if_pos (nI_le hc (by omega)), pu_wr (by omega) (by omega)]
  rfl
theorem acMG_no {B : Nat} {x1 x2 : Int32} {u : Ug} (hB : B < 2 ^ 30) (h : (x1 < 0 ∨ nI 12 ≤ x1) ∨ (x2 < 0 ∨ nI (B + 1) ≤ x2)) : acMG (lN B) x1 x2 u = some (-1, u) := by
  unfold acMG
  rcases arg_ix x1 12 (by decide) with hx | ⟨j, hj, rfl⟩
  · rw [M_isAccount_no hx]
    rfl
  · rw [M_isAccount_ok hj]
    simp only [Option.bind_some]
    have h := h.resolve_left (by rintro (q | q); exact nI_nlt (Nat.zero_le _) (by omega) (show nI j < nI 0 from q); exact nI_ge hj (by omega) q)
    rw [if_neg (show ¬ ((1 : Int32) = 0) by decide), M_in_no (lo := 0) (hi := lN B) (a := 0) (b := B) rfl rfl (by decide) (by omega) h]
    rfl
theorem acMG_ok {B j c : Nat} {u : Ug} (hB : B < 2 ^ 30) (hj : j < 12) (hc : c ≤ B) : acMG (lN B) (nI j) (nI c) u = some (1, wr u 0 j (nI c)) := by
  unfold acMG
  rw [M_isAccount_ok hj]
  simp only [Option.bind_some]
  rw [if_neg (show ¬ ((1 : Int32) = 0) by decide), M_in_ok (lo := 0) (hi := lN B) (a := 0) (b := B) rfl rfl (by omega) (Nat.zero_le _) hc]
  simp only [Option.bind_some]
  rw [if_neg (show ¬ ((1 : Int32) = 0) by decide), pu_wr (by omega) (by omega)]
  rfl
theorem Inv.coin {uC uM : Ug} (h : Inv uC uM) {j c : Nat} (hj : j < 12) (hc : c ≤ 1000000000) : Inv (wr uC 0 j (nI c)) (wr uM 0 j (nI c)) := by
  refine ⟨⟨by rw [wr_s, wr_s, h.1.1], ?_⟩, h.2.1.of (fun r hr => wr_n (by omega)) (fun r hr => wr_n (by omega)), h.2.2.1.of (fun r hr => wr_n (by omega)) (fun r hr => wr_n (by omega)), h.2.2.2.1.of (fun r hr => wr_n (by omega)) (fun r hr => wr_n (by omega)), h.2.2.2.2.1.of (fun r hr => wr_n (by omega)) (fun r hr => wr_n (by omega)), h.2.2.2.2.2.of (fun r hr => wr_n (by omega)) (fun r hr => wr_n (by omega))⟩
  rw [wr_s]
  refine ⟨fun i hi => ?_, by rw [upd_n (by omega)]; exact h.1.2.2.1, fun i hi => by rw [upd_n (by omega)]; exact h.1.2.2.2 i hi⟩
  by_cases z : i = j
  · rw [z, upd_s]; exact ⟨c, hc, rfl⟩
  · rw [upd_n z]; exact h.1.2.1 i hi
theorem Alike_account (x1 x2 : Int32) : Alike (fC_account x1 x2) (fM_account x1 x2) := by
  intro uC uM h
  unfold fC_account
  rw [putG_C, acMG_M, lit_big, litL_big]
  have hB : (1000000000 : Nat) < 2 ^ 30 := by decide
  have hcase : ((x1 < 0 ∨ nI 12 ≤ x1) ∨ (x2 < 0 ∨ nI (1000000000 + 1) ≤ x2)) ∨ ∃ j c : Nat, j < 12 ∧ c ≤ 1000000000 ∧ x1 = nI j ∧ x2 = nI c := by
    rcases arg_ix x1 12 (by decide) with q | ⟨j, hj, e1⟩
    · exact Or.inl (Or.inl q)
    · rcases arg_ix x2 (1000000000 + 1) (by decide) with q | ⟨c, hc, e2⟩
      · exact Or.inl (Or.inr q)
      · exact Or.inr ⟨j, c, hj, by omega, e1, e2⟩
  have fin : ∀ B : Nat, B < 2 ^ 30 → (((x1 < 0 ∨ nI 12 ≤ x1) ∨ (x2 < 0 ∨ nI (B + 1) ≤ x2)) ∨ ∃ j c : Nat, j < 12 ∧ c ≤ B ∧ x1 = nI j ∧ x2 = nI c) → (∀ j c : Nat, j < 12 → c ≤ B → Inv (wr uC 0 j (nI c)) (wr uM 0 j (nI c))) → ∃ (r : Int32) (vC vM : Ug), ((putG (nI B) x1 x2 uC).bind fun q1 => if q1.1 = (0 : Int32) then some ((-1 : Int32), q1.2) else some ((1 : Int32), q1.2)) = some (r, vC) ∧ acMG (lN B) x1 x2 uM = some (r, vM) ∧ Inv vC vM := by
    intro B hB hcase hI
    rcases hcase with hno | ⟨j, c, hj, hc, rfl, rfl⟩
    · rw [putG_no hB hno, acMG_no hB hno]
      exact ⟨_, _, _, rfl, rfl, h⟩
    · rw [putG_ok hB hj hc, acMG_ok hB hj hc]
      exact ⟨_, _, _, rfl, rfl, hI j c hj hc⟩
  exact fin 1000000000 hB hcase (fun j c hj hc => h.coin hj hc)
