/-! PURE: a RUN: what stands still, what goes on alike, and the LINES but call. -/
def KpC (u v : Ug) : Prop := ∀ r, r = 1 ∨ (3 ≤ r ∧ r ≤ 6) ∨ (10 ≤ r ∧ r ≤ 14) ∨ (16 ≤ r ∧ r ≤ 18) ∨ 29 ≤ r → v r = u r
def KpM (u v : Ug) : Prop := ∀ r, (1 ≤ r ∧ r ≤ 5) ∨ r = 7 ∨ (9 ≤ r ∧ r ≤ 13) ∨ r = 32 ∨ r = 33 ∨ 40 ≤ r → v r = u r
theorem KpC.rf {u : Ug} : KpC u u := fun _ _ => rfl
theorem KpM.rf {u : Ug} : KpM u u := fun _ _ => rfl
theorem KpC.tr {u v w : Ug} (h : KpC u v) (g : KpC v w) : KpC u w := fun r hr => (g r hr).trans (h r hr)
theorem KpM.tr {u v w : Ug} (h : KpM u v) (g : KpM v w) : KpM u w := fun r hr => (g r hr).trans (h r hr)
/-- CONTRACTS, STEPS, FACES, a MUTANT or none -/
def RE (uC uM : Ug) : Prop := (∃ k : Nat, k ≤ 4 ∧ uC 18 0 = nI k ∧ uM 1 0 = nI k) ∧ ∃ sz : Nat → Nat, (∀ s, s < 96 → WfS (uC 3 s) (uC 4 s)) ∧ (∀ m, m < 12 → sz m ≤ 8 ∧ uC 1 m = nI (sz m) ∧ uM 2 m = nI (sz m)) ∧ (∀ f, f < 4 → uC 6 f = uM 7 f ∧ (uC 6 f = -1 ∨ ∃ m : Nat, m < 12 ∧ uC 6 f = nI m)) ∧ ∃ mw : Nat, mw ≤ 2 ∧ uM 33 0 = nI mw ∧ ∀ s, s < 96 → (∃ k : Nat, k ≤ 11 ∧ uM 3 s = nI k) ∧ (uC 3 s, uC 4 s, uC 5 s) = mutS (if 0 < mw ∧ nI s = uM 32 0 then mw else 0) (uM 3 s) (uM 4 s) (uM 5 s)
theorem RE.of {uC uM vC vM : Ug} (h : RE uC uM) (hC : KpC uC vC) (hM : KpM uM vM) : RE vC vM := by
  unfold RE
  rw [hC 18 (by omega), hC 3 (by omega), hC 4 (by omega), hC 5 (by omega), hC 1 (by omega), hC 6 (by omega), hM 1 (by omega), hM 2 (by omega), hM 3 (by omega), hM 4 (by omega), hM 5 (by omega), hM 7 (by omega), hM 32 (by omega), hM 33 (by omega)]
  exact h
def DbR (uC uM : Ug) : Prop := ∀ f, f < 4 → uC 7 f = uM 30 f ∧ (uC 7 f = 1 → uM 31 f = uC 8 f) ∧ (uC 7 f = 2 → (∃ b : Nat, b ≤ 5 ∧ uC 8 f = nI b) ∧ uM 31 f = 20 + uC 8 f)
def fkS (f : Nat → Int32) (p : Nat) : Nat → Int32 := fun j => if j < 70 then f (p + j) else 0
def FkR (uC uM : Ug) : Prop := ∃ m : Nat, m < 8 ∧ uC 26 0 = nI m ∧ ∀ f, f < 3 → uM 36 f = (if m.testBit f = true then 1 else 0) ∧ (m.testBit f = true → fkS (uC 15) (70 * f) = fkS (uM 35) (70 * f) ∧ SgOk (fkS (uC 15) (70 * f)))
def AhR (σ : Nat → Int32) (uC uM : Ug) : Prop := SgOk σ ∧ fkS (uC 15) 210 = σ ∧ fkS (uM 34) 0 = σ ∧ uC 27 0 = σ 29
def ByR (uC uM : Ug) : Prop := (∃ b : Nat, b < 12 ∧ uC 24 0 = nI b ∧ uM 37 0 = nI b) ∧ uC 25 0 = uM 38 0
def OnR (σ : Nat → Int32) (uC uM : Ug) : Prop := OnC uC uM ∧ IvT uC uM ∧ DbR uC uM ∧ FkR uC uM ∧ AhR σ uC uM ∧ ByR uC uM ∧ uC 28 0 = uM 39 0
theorem OnC.of {uC uM vC vM : Ug} (h : OnC uC uM) (hC : ∀ r, r = 0 ∨ r = 2 ∨ r = 19 → vC r = uC r) (hM : ∀ r, r = 0 ∨ r = 6 ∨ r = 8 → vM r = uM r) : OnC vC vM := by
  unfold OnC
  rw [hC 0 (by omega), hC 2 (by omega), hC 19 (by omega), hM 0 (by omega), hM 6 (by omega), hM 8 (by omega)]
  exact h
theorem DbR.of {uC uM vC vM : Ug} (h : DbR uC uM) (hC : ∀ r, r = 7 ∨ r = 8 → vC r = uC r) (hM : ∀ r, r = 30 ∨ r = 31 → vM r = uM r) : DbR vC vM := by
  unfold DbR
  rw [hC 7 (by omega), hC 8 (by omega), hM 30 (by omega), hM 31 (by omega)]
  exact h
theorem FkR.of {uC uM vC vM : Ug} (h : FkR uC uM) (hC : ∀ r, r = 15 ∨ r = 26 → vC r = uC r) (hM : ∀ r, r = 35 ∨ r = 36 → vM r = uM r) : FkR vC vM := by
  unfold FkR
  rw [hC 15 (by omega), hC 26 (by omega), hM 35 (by omega), hM 36 (by omega)]
  exact h
theorem AhR.of {σ : Nat → Int32} {uC uM vC vM : Ug} (h : AhR σ uC uM) (hC : ∀ r, r = 15 ∨ r = 27 → vC r = uC r) (hM : vM 34 = uM 34) : AhR σ vC vM := by
  unfold AhR
  rw [hC 15 (by omega), hC 27 (by omega), hM]
  exact h
theorem ByR.of {uC uM vC vM : Ug} (h : ByR uC uM) (hC : ∀ r, r = 24 ∨ r = 25 → vC r = uC r) (hM : ∀ r, r = 37 ∨ r = 38 → vM r = uM r) : ByR vC vM := by
  unfold ByR
  rw [hC 24 (by omega), hC 25 (by omega), hM 37 (by omega), hM 38 (by omega)]
  exact h
theorem RE.env {uC uM : Ug} (h : RE uC uM) (hd : DbR uC uM) : ∃ sz : Nat → Nat, EnOk (uC 3) (uC 4) sz (uC 6) (uC 7) (uC 8) ∧ CE uC (uC 3) (uC 4) (uC 5) sz (uC 6) (uC 7) (uC 8) ∧ MX uM (uC 3) (uC 4) (uC 5) sz (uC 6) (uC 7) (uC 8) := by
  obtain ⟨-, sz, h1, h2, h3, mw, m1, m2, m3⟩ := h
  exact ⟨sz, ⟨h1, fun m hm => (h2 m hm).1, fun f hf => (h3 f hf).2, fun f hf q => ((hd f hf).2.2 q).1⟩, ⟨rfl, rfl, rfl, fun m hm => (h2 m hm).2.1, rfl, rfl, rfl⟩, ⟨mw, m1, m2, m3⟩, fun m hm => (h2 m hm).2.2, fun f hf => ⟨(h3 f hf).1.symm, (hd f hf).1.symm, (hd f hf).2.1, fun q => ((hd f hf).2.2 q).2⟩⟩
/-- one LINE is as told, or isn't, in both -/
def Told (σ : Nat → Int32) (uC uM : Ug) (fC fM : Option (Int32 × Ug)) : Prop := ∃ (b : Int32) (vC vM : Ug), (b = 0 ∨ b = 1) ∧ fC = some (b, vC) ∧ fM = some (b, vM) ∧ OnR σ vC vM ∧ KpC uC vC ∧ KpM uM vM
section
variable {σ : Nat → Int32} {uC uM : Ug}
theorem Told.no (h : OnR σ uC uM) : Told σ uC uM (some (0, uC)) (some (0, uM)) := ⟨0, uC, uM, Or.inl rfl, rfl, rfl, h, KpC.rf, KpM.rf⟩
theorem Told.yes (h : OnR σ uC uM) : Told σ uC uM (some (1, uC)) (some (1, uM)) := ⟨1, uC, uM, Or.inr rfl, rfl, rfl, h, KpC.rf, KpM.rf⟩
theorem Told.iff (h : OnR σ uC uM) {p q : Prop} [Decidable p] [Decidable q] (e : p ↔ q) : Told σ uC uM (if p then some (1, uC) else some (0, uC)) (if q then some (1, uM) else some (0, uM)) := by
  by_cases hp : p
  · rw [if_pos hp, if_pos (e.mp hp)]; exact Told.yes h
  · rw [if_neg hp, if_neg (fun z => hp (e.mpr z))]; exact Told.no h
theorem Told.bind {fC fM : Option (Int32 × Ug)} (h : Told σ uC uM fC fM) {gC gM : Int32 × Ug → Option (Int32 × Ug)} (hC : ∀ b v, b = 0 ∨ b = 1 → gC (b, v) = some (b, v)) (hM : ∀ b v, b = 0 ∨ b = 1 → gM (b, v) = some (b, v)) : Told σ uC uM (fC.bind gC) (fM.bind gM) := by
  obtain ⟨b, vC, vM, hb, e1, e2, r⟩ := h
  rw [e1, e2]
  exact ⟨b, vC, vM, hb, hC b vC hb, hM b vM hb, r⟩
theorem Told.bindC {fC fM : Option (Int32 × Ug)} (h : Told σ uC uM fC fM) {gC : Int32 × Ug → Option (Int32 × Ug)} (hC : ∀ b v, b = 0 ∨ b = 1 → gC (b, v) = some (b, v)) : Told σ uC uM (fC.bind gC) fM := by
  obtain ⟨b, vC, vM, hb, e1, e2, r⟩ := h
  rw [e1, e2]
  exact ⟨b, vC, vM, hb, hC b vC hb, rfl, r⟩
theorem gz1 : ∀ (b : Int32) (v : Ug), b = 0 ∨ b = 1 → (fun q : Int32 × Ug => if bz q.1 = true then some (q.1, q.2) else none) (b, v) = some (b, v) := by
  intro b v h
  rcases h with rfl | rfl <;> rfl
theorem gz2 : ∀ (b : Int32) (v : Ug), b = 0 ∨ b = 1 → (fun q : Int32 × Ug => if q.1 = (0 : Int32) then some ((0 : Int32), q.2) else some ((1 : Int32), q.2)) (b, v) = some (b, v) := by
  intro b v h
  rcases h with rfl | rfl <;> rfl
theorem told_by (h : OnR σ uC uM) (a b : Int32) : Told σ uC uM (fC_Runner_callsAreBy a b uC) ((fM_isAccount a uM).bind fun q5 =>
    if q5.1 = (0 : Int32) then
      some ((0 : Int32), q5.2)
    else
      if (0 : Int32) ≤ b then
        (scO q5.2 37 a).bind fun u8 =>
        (scO u8 38 b).bind fun u9 =>
        some ((1 : Int32), u9)
      else
        some ((0 : Int32), q5.2)) := by
  unfold fC_Runner_callsAreBy
  rcases arg_ix a 12 (by decide) with hx | ⟨j, hj, rfl⟩
  · rw [C_isAccount_no hx, M_isAccount_no hx]
    exact Told.no h
  rw [C_isAccount_ok hj, M_isAccount_ok hj]
  simp only [Option.bind_some]
  rw [if_neg (show ¬ ((1 : Int32) = 0) by decide), if_neg (show ¬ ((1 : Int32) = 0) by decide)]
  by_cases q : (0 : Int32) ≤ b
  · rw [if_pos q, if_pos q]
    obtain ⟨h1, h2, h3, h4, h5, h6, h7⟩ := h
    have eC : ∀ r, r ≠ 24 → r ≠ 25 → wr (wr uC 24 0 (nI j)) 25 0 b r = uC r := fun r a c => by rw [wr_n c, wr_n a]
    have eM : ∀ r, r ≠ 37 → r ≠ 38 → wr (wr uM 37 0 (nI j)) 38 0 b r = uM r := fun r a c => by rw [wr_n c, wr_n a]
    refine ⟨1, wr (wr uC 24 0 (nI j)) 25 0 b, wr (wr uM 37 0 (nI j)) 38 0 b, Or.inr rfl, rfl, rfl, ⟨h1.of (fun r hr => eC r (by omega) (by omega)) (fun r hr => eM r (by omega) (by omega)), h2.of (fun r hr => eC r (by omega) (by omega)) (fun r hr => eM r (by omega) (by omega)), h3.of (fun r hr => eC r (by omega) (by omega)) (fun r hr => eM r (by omega) (by omega)), h4.of (fun r hr => eC r (by omega) (by omega)) (fun r hr => eM r (by omega) (by omega)), h5.of (fun r hr => eC r (by omega) (by omega)) (eM _ (by omega) (by omega)), ⟨⟨j, hj, ?_, ?_⟩, ?_⟩, ?_⟩, fun r hr => eC r (by omega) (by omega), fun r hr => eM r (by omega) (by omega)⟩
    · rw [wr_n (by decide), wr_s, upd_s]
    · rw [wr_n (by decide), wr_s, upd_s]
    · rw [wr_s, wr_s, upd_s, upd_s]
    · rw [eC 28 (by decide) (by decide), eM 39 (by decide) (by decide)]; exact h7
  · rw [if_neg q, if_neg q]; exact Told.no h
theorem told_gives (h : OnR σ uC uM) (a : Int32) : Told σ uC uM (if (uC 28 0) = (0 : Int32) then
      some ((0 : Int32), uC)
    else
      (fC_Machine_threw uC).bind fun q6 =>
      if q6.1 = (0 : Int32) then
        (fC_Machine_answered q6.2).bind fun q8 =>
        if q8.1 = a then
          some ((1 : Int32), q8.2)
        else
          some ((0 : Int32), q8.2)
      else
        some ((0 : Int32), q6.2)) (if (uM 39 0) = (0 : Int32) then
      some ((0 : Int32), uM)
    else
      if (uM 27 0) = (0 : Int32) then
        if (uM 26 0) = a then
          some ((1 : Int32), uM)
        else
          some ((0 : Int32), uM)
      else
        some ((0 : Int32), uM)) := by
  obtain ⟨-, ⟨t1, t2, t3, t4, t5⟩, -, -, -, -, hc⟩ := id h
  rw [hc]
  by_cases c0 : uM 39 0 = 0
  · rw [if_pos c0, if_pos c0]; exact Told.no h
  rw [if_neg c0, if_neg c0, C_threw, t2]
  simp only [Option.bind_some]
  by_cases x0 : uM 27 0 = 0
  · rw [if_pos x0, if_pos x0, if_pos rfl]
    unfold fC_Machine_answered
    simp only [Option.bind_some]
    exact Told.iff h (by rw [t1])
  · rw [if_neg x0, if_neg x0, if_neg (by decide)]; exact Told.no h
theorem told_throws (h : OnR σ uC uM) (a b : Int32) : Told σ uC uM (if (uC 28 0) = (0 : Int32) then
      some ((0 : Int32), uC)
    else
      (fC_Runner_threwThat a b uC).bind fun q11 =>
      if q11.1 = (0 : Int32) then
        some ((0 : Int32), q11.2)
      else
        some ((1 : Int32), q11.2)) (if (uM 39 0) = (0 : Int32) then
      some ((0 : Int32), uM)
    else
      if (uM 27 0) ≤ (0 : Int32) then
        some ((0 : Int32), uM)
      else
        if (uM 27 0) = a then
          if (uM 28 0) = b then
            some ((1 : Int32), uM)
          else
            some ((0 : Int32), uM)
        else
          some ((0 : Int32), uM)) := by
  obtain ⟨-, ⟨t1, t2, t3, t4, t5⟩, -, -, -, -, hc⟩ := id h
  rw [hc]
  by_cases c0 : uM 39 0 = 0
  · rw [if_pos c0, if_pos c0]; exact Told.no h
  rw [if_neg c0, if_neg c0]
  unfold fC_Runner_threwThat fC_Machine_thrown fC_Machine_lastCause
  rw [t2] at t5
  rw [C_threw, t2]
  simp only [Option.bind_some]
  by_cases x0 : uM 27 0 = 0
  · rw [if_pos x0, if_pos (t5.pos.mpr x0)]; exact Told.no h
  rw [if_neg x0, if_neg (show ¬ ((1 : Int32) = 0) by decide), if_neg (fun z => x0 (t5.pos.mp z)), t2, t3]
  by_cases xa : uM 27 0 = a
  · rw [if_pos xa, if_pos xa]
    by_cases xb : uM 28 0 = b
    · rw [if_pos xb, if_pos xb]; exact Told.yes h
    · rw [if_neg xb, if_neg xb]; exact Told.no h
  · rw [if_neg xa, if_neg xa]; exact Told.no h
theorem told_within (h : OnR σ uC uM) (a : Int32) : Told σ uC uM (if (uC 28 0) = (0 : Int32) then
      some ((0 : Int32), uC)
    else
      (fC_Machine_stepsDone uC).bind fun q14 =>
      if a < q14.1 then
        some ((0 : Int32), q14.2)
      else
        some ((1 : Int32), q14.2)) (if (uM 39 0) = (0 : Int32) then
      some ((0 : Int32), uM)
    else
      if a < (uM 29 0) then
        some ((0 : Int32), uM)
      else
        some ((1 : Int32), uM)) := by
  obtain ⟨-, ⟨t1, t2, t3, t4, t5⟩, -, -, -, -, hc⟩ := id h
  rw [hc]
  by_cases c0 : uM 39 0 = 0
  · rw [if_pos c0, if_pos c0]; exact Told.no h
  rw [if_neg c0, if_neg c0]
  unfold fC_Machine_stepsDone
  rw [t4]
  simp only [Option.bind_some]
  by_cases x0 : a < uM 29 0
  · rw [if_pos x0, if_pos x0]; exact Told.no h
  · rw [if_neg x0, if_neg x0]; exact Told.yes h
theorem told_coins (h : OnR σ uC uM) (a b : Int32) : Told σ uC uM ((fC_State_isAccount a uC).bind fun q16 =>
    if q16.1 = (0 : Int32) then
      some ((0 : Int32), q16.2)
    else
      (fC_State_coinsOf a q16.2).bind fun q18 =>
      if q18.1 = b then
        some ((1 : Int32), q18.2)
      else
        some ((0 : Int32), q18.2)) ((fM_isAccount a uM).bind fun q20 =>
    if q20.1 = (0 : Int32) then
      some ((0 : Int32), q20.2)
    else
      (rdO (q20.2 0) 70 a).bind fun y22 =>
      if y22 = b then
        some ((1 : Int32), q20.2)
      else
        some ((0 : Int32), q20.2)) := by
  rcases arg_ix a 12 (by decide) with hx | ⟨j, hj, rfl⟩
  · rw [C_isAccount_no hx, M_isAccount_no hx]
    exact Told.no h
  rw [C_isAccount_ok hj, M_isAccount_ok hj]
  simp only [Option.bind_some]
  unfold fC_State_coinsOf
  rw [if_neg (show ¬ ((1 : Int32) = 0) by decide), if_neg (show ¬ ((1 : Int32) = 0) by decide), if_neg (show ¬ nI j < 0 by rw [lit_0]; exact nI_nlt (Nat.zero_le _) (by omega)), if_neg (show ¬ (12 : Int32) ≤ nI j by rw [lit_12]; exact nI_ge hj (by omega)), pu_rd (by omega) (by omega), pu_rd (by omega) (by omega), h.1.1]
  simp only [Option.bind_some]
  exact Told.iff h Iff.rfl
theorem told_cell (h : OnR σ uC uM) (hE : RE uC uM) (a b c : Int32) : Told σ uC uM (fC_Runner_cellIs a b c uC) ((fM_in a.toInt64 (0 : Int64) (((uM 1 0) - (1 : Int32))).toInt64 uM).bind fun q24 =>
    if q24.1 = (0 : Int32) then
      some ((0 : Int32), q24.2)
    else
      (fM_in b.toInt64 (0 : Int64) (3 : Int64) q24.2).bind fun q26 =>
      if q26.1 = (0 : Int32) then
        some ((0 : Int32), q26.2)
      else
        (rdO (q26.2 0) 70 (((12 : Int32) + ((4 : Int32) * a)) + b)).bind fun y28 =>
        if y28 = c then
          some ((1 : Int32), q26.2)
        else
          some ((0 : Int32), q26.2)) := by
  obtain ⟨⟨k, hk4, hkC, hkM⟩, -⟩ := hE
  unfold fC_Runner_cellIs
  rw [hkM]
  rcases arg_ix a k (by omega) with hx | ⟨i, hi, rfl⟩
  · rw [C_isContract_no hkC hx, M_inC_no hk4 hx]
    exact Told.no h
  rw [C_isContract_ok hkC hk4 hi, M_inC_ok hk4 hi]
  simp only [Option.bind_some]
  rw [if_neg (show ¬ ((1 : Int32) = 0) by decide), if_neg (show ¬ ((1 : Int32) = 0) by decide)]
  rcases arg_ix b 4 (by decide) with hx | ⟨j, hj, rfl⟩
  · rw [C_isCell_no hx, M_in_no (lo := 0) (hi := 3) (a := 0) (b := 3) rfl rfl (by decide) (by decide) hx]
    exact Told.no h
  rw [C_isCell_ok hj, M_in_ok (lo := 0) (hi := 3) (a := 0) (b := 3) rfl rfl (by decide) (Nat.zero_le _) (by omega)]
  simp only [Option.bind_some]
  have e := C_cellOf (u := uC) (pl := 3 * i) (j := j) (by omega) hj
  rw [lit_3, pu_div (by omega) (by decide) (by decide), Nat.mul_div_cancel_left i (by decide : 0 < 3)] at e
  rw [if_neg (show ¬ ((1 : Int32) = 0) by decide), if_neg (show ¬ ((1 : Int32) = 0) by decide), e, lit_4, lit_12, pk_mul, nI_add, nI_add, pu_rd (show 12 + 4 * i + j < 70 by omega) (by omega), h.1.1, Nat.add_assoc 12]
  simp only [Option.bind_some]
  exact Told.iff h Iff.rfl
end
