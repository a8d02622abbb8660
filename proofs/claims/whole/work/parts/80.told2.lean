/-! PURE: a RUN: LINES event, sum, age, fork, back, answers, fails. -/
section
variable {σ : Nat → Int32} {uC uM : Ug}
theorem ev_neg0 : ∀ x : Fin 41, 0 < x.1 → -(nI x.1) < 0 := by decide
theorem ev_neg {e e0 : Nat} (h : e < e0) (h0 : e0 ≤ 40) : nI e - nI e0 < 0 := by
  rw [← Int32.neg_sub, pk_sub (by omega)]
  exact ev_neg0 ⟨e0 - e, by omega⟩ (by show 0 < e0 - e; omega)
theorem told_event (h : OnR σ uC uM) (a b : Int32) : Told σ uC uM (fC_Runner_eventIs a b uC) ((fM_in a.toInt64 (0 : Int64) (40 : Int64) uM).bind fun q30 =>
    if q30.1 = (0 : Int32) then
      some ((0 : Int32), q30.2)
    else
      (rdO (q30.2 34) 70 (29 : Int32)).bind fun y32 =>
      (rdO (q30.2 0) 70 (29 : Int32)).bind fun y33 =>
      if y33 ≤ (y32 + a) then
        some ((0 : Int32), q30.2)
      else
        (rdO (q30.2 34) 70 (29 : Int32)).bind fun y35 =>
        (rdO (q30.2 0) 70 (((30 : Int32) + y35) + a)).bind fun y36 =>
        if y36 = b then
          some ((1 : Int32), q30.2)
        else
          some ((0 : Int32), q30.2)) := by
  obtain ⟨⟨o1, ⟨-, ⟨e, he, h29⟩, -⟩, -⟩, -, -, -, ⟨⟨-, ⟨e0, he0, s29⟩, -⟩, -, f34, f27⟩, -⟩ := id h
  have h34 : uM 34 29 = nI e0 := by
    have := congrFun f34 29
    rw [s29] at this
    unfold fkS at this
    rw [if_pos (show 29 < 70 by decide), Nat.zero_add] at this
    exact this
  rw [s29] at f27
  unfold fC_Runner_eventIs fC_State_eventCount
  rw [lit_29, pu_rd (show 29 < 70 by decide) (by decide)]
  simp only [Option.bind_some]
  rw [h29, f27]
  rcases arg_ix a 41 (by decide) with hx | ⟨j, hj, rfl⟩
  · rw [M_in_no (lo := 0) (hi := 40) (a := 0) (b := 40) rfl rfl (by decide) (by decide) hx]
    by_cases a0 : a < 0
    · rw [if_pos a0]; exact Told.no h
    rw [if_neg a0, if_pos]
    · exact Told.no h
    · have h1 := hx.resolve_left a0
      obtain ⟨k, hk, rfl⟩ := nI_of a0
      have h2 := (nI_leI (by decide) hk).mp h1
      by_cases c : e0 ≤ e
      · rw [pk_sub c]; exact nI_le (by omega) hk
      · have e3 : nI e - nI e0 < 0 := by
          exact ev_neg (by omega) he0
        exact Int32.le_of_lt (Int32.lt_of_lt_of_le e3 (nI_pos' hk))
  rw [M_in_ok (lo := 0) (hi := 40) (a := 0) (b := 40) rfl rfl (by decide) (Nat.zero_le _) (by omega), if_neg (show ¬ nI j < 0 by rw [lit_0]; exact nI_nlt (Nat.zero_le _) (by omega)), Option.bind_some]
  dsimp only
  rw [if_neg (show ¬ ((1 : Int32) = 0) by decide), pu_rd (show 29 < 70 by decide) (by decide), pu_rd (show 29 < 70 by decide) (by decide), h34, ← o1, h29]
  simp only [Option.bind_some]
  rw [nI_add]
  by_cases c : e ≤ e0 + j
  · rw [if_pos (nI_le c (by omega)), if_pos]
    · exact Told.no h
    · by_cases c2 : e0 ≤ e
      · rw [pk_sub c2]; exact nI_le (by omega) (by omega)
      · have e3 : nI e - nI e0 < 0 := by
          exact ev_neg (by omega) he0
        exact Int32.le_of_lt (Int32.lt_of_lt_of_le e3 (nI_pos' (by omega)))
  · rw [if_neg (nI_ge (by omega) (by omega)), pk_sub (by omega), if_neg (nI_ge (by omega) (by omega)), lit_30, nI_add, nI_add, pu_rd (show 30 + e0 + j < 70 by omega) (by omega)]
    unfold fC_State_eventAt
    rw [if_neg (show ¬ nI (e0 + j) < 0 by rw [lit_0]; exact nI_nlt (Nat.zero_le _) (by omega)), if_neg (show ¬ (40 : Int32) ≤ nI (e0 + j) by rw [lit_40]; exact nI_ge (by omega) (by omega)), lit_29, pu_rd (show 29 < 70 by decide) (by decide)]
    simp only [Option.bind_some]
    rw [h29, if_neg (nI_ge (by omega) (by omega)), lit_30, nI_add, pu_rd (show 30 + (e0 + j) < 70 by omega) (by omega), Nat.add_assoc 30]
    simp only [Option.bind_some]
    exact Told.iff h Iff.rfl
theorem sum_both (e : uC 0 = uM 0) : ∀ (d n i : Nat) (v : Int64), i + d = 12 → d < n → ∃ x : Int64, kC_State_allCoins n v (nI i) uC = some (x, uC) ∧ kM_sum n v (nI i) uM = some (x, uM) := by
  intro d
  induction d with
  | zero =>
    intro n i v hi hn
    obtain ⟨n, rfl⟩ : ∃ n', n = n' + 1 := ⟨n - 1, by omega⟩
    refine ⟨v, ?_, ?_⟩
    · show sC_State_allCoins_4 _ _ _ _ = _
      unfold sC_State_allCoins_4
      rw [if_pos (by rw [lit_12]; exact nI_le (by omega) (by omega))]
    · show sM_sum_4 _ _ _ _ = _
      unfold sM_sum_4
      rw [if_pos (by rw [lit_12]; exact nI_le (by omega) (by omega))]
  | succ d ih =>
    intro n i v hi hn
    obtain ⟨n, rfl⟩ : ∃ n', n = n' + 1 := ⟨n - 1, by omega⟩
    obtain ⟨x, e1, e2⟩ := ih n (i + 1) (v + (uM 0 i).toInt64) (by omega) (by omega)
    refine ⟨x, ?_, ?_⟩
    · show sC_State_allCoins_4 (kC_State_allCoins n) _ _ _ = _
      unfold sC_State_allCoins_4
      rw [if_neg (by rw [lit_12]; exact nI_ge (by omega) (by omega)), pu_rd (show i < 70 by omega) (by omega), e]
      simp only [Option.bind_some]
      rw [nI_1, e1]
    · show sM_sum_4 (kM_sum n) _ _ _ = _
      unfold sM_sum_4
      rw [if_neg (by rw [lit_12]; exact nI_ge (by omega) (by omega)), pu_rd (show i < 70 by omega) (by omega)]
      simp only [Option.bind_some]
      rw [nI_1, e2]
theorem told_sum (h : OnR σ uC uM) (a : Int32) : Told σ uC uM ((fC_State_allCoins uC).bind fun q23 =>
    if (lg_cmp q23.1 a.toInt64) = (0 : Int32) then
      some ((1 : Int32), q23.2)
    else
      some ((0 : Int32), q23.2)) ((fM_sum uM).bind fun q38 =>
    if (lg_cmp q38.1 a.toInt64) = (0 : Int32) then
      some ((1 : Int32), q38.2)
    else
      some ((0 : Int32), q38.2)) := by
  unfold fC_State_allCoins fM_sum
  obtain ⟨x, e1, e2⟩ := sum_both h.1.1 12 4096 0 0 (by decide) (by decide)
  rw [lit_0, e1, e2]
  simp only [Option.bind_some]
  exact Told.iff h Iff.rfl
theorem told_age (h : OnR σ uC uM) (a : Int32) : Told σ uC uM (fC_State_age a uC) ((rdO (uM 0) 70 (28 : Int32)).bind fun y40 =>
    (fM_in a.toInt64 (0 : Int64) (1000 : Int64) uM).bind fun q41 =>
    if q41.1 = (0 : Int32) then
      (wrO q41.2 0 70 (28 : Int32) (y40 + (0 : Int32))).bind fun u43 =>
      (fM_in a.toInt64 (0 : Int64) (1000 : Int64) u43).bind fun q44 =>
      if bz q44.1 then some (q44.1, q44.2) else none
    else
      (wrO q41.2 0 70 (28 : Int32) (y40 + a)).bind fun u45 =>
      (fM_in a.toInt64 (0 : Int64) (1000 : Int64) u45).bind fun q46 =>
      if bz q46.1 then some (q46.1, q46.2) else none) := by
  unfold fC_State_age
  rw [lit_28, pu_rd (show 28 < 70 by decide) (by decide), pu_rd (show 28 < 70 by decide) (by decide)]
  simp only [Option.bind_some]
  rcases arg_ix a 1001 (by decide) with hx | ⟨j, hj, rfl⟩
  · rw [M_in_no (lo := 0) (hi := 1000) (a := 0) (b := 1000) rfl rfl (by decide) (by decide) hx]
    simp only [Option.bind_some]
    have e : wr uM 0 28 (uM 0 28 + 0) = uM := by
      rw [Int32.add_zero]
      funext q
      by_cases hq : q = 0
      · subst hq
        rw [wr_s]
        funext j
        by_cases hj : j = 28
        · subst hj; rw [upd_s]
        · rw [upd_n hj]
      · rw [wr_n hq]
    rw [if_pos trivial, pu_wr (by decide) (by decide), pu_wr (by decide) (by decide), e]
    simp only [Option.bind_some]
    rw [M_in_no (lo := 0) (hi := 1000) (a := 0) (b := 1000) rfl rfl (by decide) (by decide) hx]
    by_cases a0 : a < 0
    · rw [if_pos a0]; exact Told.no h
    · rw [if_neg a0, if_neg (fun q => by
        have h1 := Int32.le_iff_toInt_le.mp (hx.resolve_left a0)
        have h2 := Int32.le_iff_toInt_le.mp (show a ≤ nI 1000 from q)
        rw [nI_toInt (by decide)] at h1 h2
        omega)]
      exact Told.no h
  · rw [M_in_ok (lo := 0) (hi := 1000) (a := 0) (b := 1000) rfl rfl (by decide) (Nat.zero_le _) (by omega)]
    simp only [Option.bind_some]
    rw [if_neg (show ¬ nI j < 0 by rw [lit_0]; exact nI_nlt (Nat.zero_le _) (by omega)), if_pos (show nI j ≤ (1000 : Int32) by rw [lit_1000]; exact nI_le (by omega) (by omega)), if_neg (show ¬ ((1 : Int32) = 0) by decide), pu_wr (by decide) (by decide), pu_wr (by decide) (by decide)]
    simp only [Option.bind_some]
    rw [M_in_ok (lo := 0) (hi := 1000) (a := 0) (b := 1000) rfl rfl (by decide) (Nat.zero_le _) (by omega)]
    simp only [Option.bind_some]
    obtain ⟨⟨o1, o2, o3, o4⟩, h2, h3, h4, h5, h6, h7⟩ := h
    have eC : ∀ (x : Int32) r, r ≠ 0 → wr uC 0 28 x r = uC r := fun x r a => wr_n a
    have eM : ∀ (x : Int32) r, r ≠ 0 → wr uM 0 28 x r = uM r := fun x r a => wr_n a
    refine ⟨1, wr uC 0 28 (uC 0 28 + nI j), wr uM 0 28 (uM 0 28 + nI j), Or.inr rfl, rfl, rfl, ⟨⟨?_, ?_, ?_, ?_⟩, h2.of (fun r hr => eC _ r (by omega)) (fun r hr => eM _ r (by omega)), h3.of (fun r hr => eC _ r (by omega)) (fun r hr => eM _ r (by omega)), h4.of (fun r hr => eC _ r (by omega)) (fun r hr => eM _ r (by omega)), h5.of (fun r hr => eC _ r (by omega)) (eM _ _ (by omega)), h6.of (fun r hr => eC _ r (by omega)) (fun r hr => eM _ r (by omega)), ?_⟩, fun r hr => eC _ r (by omega), fun r hr => eM _ r (by omega)⟩
    · rw [wr_s, wr_s, o1]
    · rw [wr_s]
      exact ⟨fun i hi => by rw [upd_n (by omega)]; exact o2.1 i hi, by rw [upd_n (by decide)]; exact o2.2.1, fun i hi => by rw [upd_n (by omega)]; exact o2.2.2 i hi⟩
    · rw [eC _ 2 (by decide), eM _ 6 (by decide)]; exact o3
    · rw [eC _ 19 (by decide), eM _ 8 (by decide)]; exact o4
    · rw [eC _ 28 (by decide), eM _ 39 (by decide)]; exact h7
/-- doubles -/
theorem OnR.double (h : OnR σ uC uM) {f : Nat} {x y z : Int32} (hf : f < 4) (h1 : x = 1 → z = y) (h2 : x = 2 → (∃ b : Nat, b ≤ 5 ∧ y = nI b) ∧ z = 20 + y) : OnR σ (wr (wr uC 7 f x) 8 f y) (wr (wr uM 30 f x) 31 f z) ∧ KpC uC (wr (wr uC 7 f x) 8 f y) ∧ KpM uM (wr (wr uM 30 f x) 31 f z) := by
  obtain ⟨g1, g2, g3, g4, g5, g6, g7⟩ := h
  have eC : ∀ r, r ≠ 7 → r ≠ 8 → wr (wr uC 7 f x) 8 f y r = uC r := fun r a c => by rw [wr_n c, wr_n a]
  have eM : ∀ r, r ≠ 30 → r ≠ 31 → wr (wr uM 30 f x) 31 f z r = uM r := fun r a c => by rw [wr_n c, wr_n a]
  refine ⟨⟨g1.of (fun r hr => eC r (by omega) (by omega)) (fun r hr => eM r (by omega) (by omega)), g2.of (fun r hr => eC r (by omega) (by omega)) (fun r hr => eM r (by omega) (by omega)), fun q hq => ?_, g4.of (fun r hr => eC r (by omega) (by omega)) (fun r hr => eM r (by omega) (by omega)), g5.of (fun r hr => eC r (by omega) (by omega)) (eM _ (by omega) (by omega)), g6.of (fun r hr => eC r (by omega) (by omega)) (fun r hr => eM r (by omega) (by omega)), ?_⟩, fun r hr => eC r (by omega) (by omega), fun r hr => eM r (by omega) (by omega)⟩
  · rw [wr_n (show (7 : Nat) ≠ 8 by decide), wr_n (show (30 : Nat) ≠ 31 by decide), wr_s, wr_s, wr_s, wr_s, wr_n (show (8 : Nat) ≠ 7 by decide), wr_n (show (31 : Nat) ≠ 30 by decide)]
    by_cases e : q = f
    · subst e
      rw [upd_s, upd_s, upd_s, upd_s]
      exact ⟨rfl, h1, h2⟩
    · rw [upd_n e, upd_n e, upd_n e, upd_n e]
      exact g3 q hq
  · rw [eC 28 (by decide) (by decide), eM 39 (by decide) (by decide)]; exact g7
theorem C_putDouble_no {x y z : Int32} {u : Ug} (h : x < 0 ∨ nI 4 ≤ x) : fC_Faces_putDouble x y z u = some (0, u) := by
  unfold fC_Faces_putDouble
  by_cases a : x < 0
  · rw [if_pos a]
  · rw [if_neg a, if_neg (show ¬ x < (4 : Int32) from Int32.not_lt.mpr (h.resolve_left a))]
theorem C_putDouble_ok {f : Nat} {y z : Int32} {u : Ug} (h : f < 4) : fC_Faces_putDouble (nI f) y z u = some (1, wr (wr u 7 f y) 8 f z) := by
  unfold fC_Faces_putDouble
  rw [if_neg (show ¬ nI f < 0 by rw [lit_0]; exact nI_nlt (Nat.zero_le _) (by omega)), if_pos (show nI f < (4 : Int32) by rw [lit_4]; exact nI_lt h (by omega)), pu_wr h (by omega)]
  simp only [Option.bind_some]
  rw [pu_wr h (by omega)]
  rfl
theorem told_answers (h : OnR σ uC uM) (a b : Int32) : Told σ uC uM (fC_Faces_putDouble a (1 : Int32) b uC) (fM_doubles (1 : Int32) a b uM) := by
  unfold fM_doubles
  rcases arg_ix a 4 (by decide) with hx | ⟨f, hf, rfl⟩
  · rw [C_putDouble_no hx, M_in_no (lo := 0) (hi := 3) (a := 0) (b := 3) rfl rfl (by decide) (by decide) hx]
    exact Told.no h
  rw [C_putDouble_ok hf, M_in_ok (lo := 0) (hi := 3) (a := 0) (b := 3) rfl rfl (by decide) (Nat.zero_le _) (by omega)]
  simp only [Option.bind_some]
  rw [if_neg (show ¬ ((1 : Int32) = 0) by decide), if_neg (show ¬ ((1 : Int32) = 2) by decide), pu_wr hf (by omega)]
  simp only [Option.bind_some]
  rw [if_pos trivial, pu_wr hf (by omega)]
  obtain ⟨g1, g2, g3⟩ := h.double (x := 1) (y := b) (z := b) hf (fun _ => rfl) (fun q => absurd q (by decide))
  exact ⟨1, _, _, Or.inr rfl, rfl, rfl, g1, g2, g3⟩
theorem told_fails (h : OnR σ uC uM) (a b : Int32) : Told σ uC uM (fC_Runner_faceFails a b uC) (fM_doubles (2 : Int32) a b uM) := by
  unfold fM_doubles fC_Runner_faceFails
  have hb : (b < 0 ∨ nI 6 ≤ b) → (if b < (0 : Int32) then
    some ((0 : Int32), uC)
  else
    if (5 : Int32) < b then
      some ((0 : Int32), uC)
    else
      (fC_Faces_putDouble a (2 : Int32) b uC).bind fun q3 =>
      if q3.1 = (0 : Int32) then
        some ((0 : Int32), q3.2)
      else
        some ((1 : Int32), q3.2)) = some (0, uC) := fun hy => by
    by_cases b0 : b < 0
    · rw [if_pos b0]
    · rw [if_neg b0, if_pos]
      exact Int32.lt_of_lt_of_le (show (5 : Int32) < nI 6 by decide) (hy.resolve_left b0)
  rcases arg_ix a 4 (by decide) with hx | ⟨f, hf, rfl⟩
  · rw [M_in_no (lo := 0) (hi := 3) (a := 0) (b := 3) rfl rfl (by decide) (by decide) hx]
    have e : (if b < (0 : Int32) then
      some ((0 : Int32), uC)
    else
      if (5 : Int32) < b then
        some ((0 : Int32), uC)
      else
        (fC_Faces_putDouble a (2 : Int32) b uC).bind fun q3 =>
        if q3.1 = (0 : Int32) then
          some ((0 : Int32), q3.2)
        else
          some ((1 : Int32), q3.2)) = some (0, uC) := by
      rcases arg_ix b 6 (by decide) with hy | ⟨j, hj, rfl⟩
      · exact hb hy
      · rw [if_neg (show ¬ nI j < 0 by rw [lit_0]; exact nI_nlt (Nat.zero_le _) (by omega)), if_neg (show ¬ (5 : Int32) < nI j by rw [lit_5]; exact nI_nlt (by omega) (by omega)), C_putDouble_no hx]
        rfl
    rw [e]
    exact Told.no h
  rw [M_in_ok (lo := 0) (hi := 3) (a := 0) (b := 3) rfl rfl (by decide) (Nat.zero_le _) (by omega)]
  simp only [Option.bind_some]
  rw [if_neg (show ¬ ((1 : Int32) = 0) by decide), if_pos trivial]
  rcases arg_ix b 6 (by decide) with hy | ⟨j, hj, rfl⟩
  · rw [hb hy, M_in_no (lo := 0) (hi := 5) (a := 0) (b := 5) rfl rfl (by decide) (by decide) hy]
    exact Told.no h
  rw [M_in_ok (lo := 0) (hi := 5) (a := 0) (b := 5) rfl rfl (by decide) (Nat.zero_le _) (by omega), if_neg (show ¬ nI j < 0 by rw [lit_0]; exact nI_nlt (Nat.zero_le _) (by omega)), if_neg (show ¬ (5 : Int32) < nI j by rw [lit_5]; exact nI_nlt (by omega) (by omega)), C_putDouble_ok hf]
  simp only [Option.bind_some]
  rw [if_neg (show ¬ ((1 : Int32) = 0) by decide), if_neg (show ¬ ((1 : Int32) = 0) by decide), pu_wr hf (by omega)]
  simp only [Option.bind_some]
  rw [if_neg (show ¬ ((2 : Int32) = 1) by decide), pu_wr hf (by omega)]
  obtain ⟨g1, g2, g3⟩ := h.double (x := 2) (y := nI j) (z := 20 + nI j) hf (fun q => absurd q (by decide)) (fun _ => ⟨⟨j, by omega, rfl⟩, rfl⟩)
  exact ⟨1, _, _, Or.inr rfl, rfl, rfl, g1, g2, g3⟩
end
