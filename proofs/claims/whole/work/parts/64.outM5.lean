/-! PURE: a CALL from outside, in the reference: what the evaluator says. -/
theorem M_outside {kd av bv : Nat → Int32} {sz : Nat → Nat} {bd db nb : Nat → Int32} (hE : EnOk kd av sz bd db nb) {by_ pl : Nat} {arg co : Int32} {u : Ug} {ia : Nat} (hb : by_ < 12) (hp : pl < 12) (hS : SgOk (u 0)) (hia : ia ≤ 20000) (h8 : u 8 0 = nI ia) (hX : MX u kd av bv sz bd db nb) :
    ∃ u1 : Ug, fM_outside (nI by_) (nI pl) arg co u = some (0, u1) ∧ MO u u1 (aOut kd av bv sz bd db nb by_ pl arg co (u 0) (u 6) ia) := by
  rw [M_out_pre, M_keepS, Option.bind_some]
  dsimp only
  have k0 : uK u 0 = u 0 := uK_r (by omega)
  have k8 : uK u 8 0 = nI ia := by rw [uK_r (by omega)]; exact h8
  have k14 : uK u 14 0 = nI 0 := uK_z (by omega)
  have k21 : uK u 21 0 = nI 0 := uK_z (by omega)
  simp only [k8, litL_20000]
  by_cases c1 : 20000 ≤ ia
  · have ec : lg_cmp (nI ia).toInt64 (lN 20000) = 0 := (pu_cmp0 (by omega) (by omega)).mpr (by omega)
    rw [if_pos ec, aOut_1 c1]
    exact M_early 7 (uK u) (0, (u 0, u 6, ia, 0), 7, 7) (ThOk.of (k := 7) (by decide) (by decide)) k14 k0 (uK_r (by omega)) k8 k21 rfl rfl (by decide) (fun r _ _ _ d => uK_r d)
  have ec : ¬ lg_cmp (nI ia).toInt64 (lN 20000) = 0 := fun z => by have := (pu_cmp0 (a := ia) (b := 20000) (by omega) (by omega)).mp z; omega
  rw [if_neg ec, pu_sl (by omega)]
  simp only [Option.bind_some]
  have e8 : (8 : Int32) + nI pl / (3 : Int32) = nI (8 + pl / 3) := by rw [lit_8, lit_3, pu_div (by omega) (by omega) (by omega), nI_add]
  obtain ⟨u9, hu9⟩ : ∃ u9 : Ug, u9 = wr (uK u) 8 0 (nI (ia + 1)) := ⟨_, rfl⟩
  rw [← hu9]
  have r9 : ∀ r, r ≠ 8 → u9 r = uK u r := fun r h => by rw [hu9, wr_n h]
  have n8 : u9 8 0 = nI (ia + 1) := by rw [hu9, wr_s]; exact upd_s
  have n0 : u9 0 = u 0 := (r9 0 (by decide)).trans k0
  rw [e8, M_pay hb (by omega) (by rw [n0]; exact hS), n0]
  simp only [Option.bind_some]
  have hPok := aPay_ok (n := co) hb (show 8 + pl / 3 < 12 by omega) hS
  have hPth : ThOk (aPay (u 0) by_ (8 + pl / 3) co).1 := by
    rcases aPay_th (σ := u 0) (fr := by_) (to := 8 + pl / 3) (n := co) with h | h | h
    · rw [h]; exact Or.inl rfl
    · rw [h]; exact ThOk.of (k := 1) (by decide) (by decide)
    · rw [h]; exact ThOk.of (k := 2) (by decide) (by decide)
  have hPsame : (aPay (u 0) by_ (8 + pl / 3) co).1 ≠ 0 → (aPay (u 0) by_ (8 + pl / 3) co).2 = u 0 := aPay_same
  obtain ⟨P, hP⟩ : ∃ P, P = aPay (u 0) by_ (8 + pl / 3) co := ⟨_, rfl⟩
  rw [← hP] at hPok hPth hPsame ⊢
  by_cases p0 : P.1 = 0
  · rw [if_pos (hPth.pos.mpr p0), aOut_3 c1 (by rw [← hP]; exact p0), ← hP]
    have ue14 : (wrA u9 0 P.2) 14 0 = nI 0 := by rw [wrA_n (by decide), r9 14 (by decide)]; exact k14
    rw [M_enter (d := 0) ue14 (by decide)]
    simp only [Option.bind_some]
    obtain ⟨ue, hue⟩ : ∃ ue : Ug, ue = wr (wr (wr (wr (wr (wrA u9 0 P.2) 15 0 (nI pl)) 16 0 arg) 17 0 0) 18 0 0) 14 0 (nI (0 + 1)) := ⟨_, rfl⟩
    rw [← hue]
    have re : ∀ r, r ≠ 0 → r ≠ 14 → r ≠ 15 → r ≠ 16 → r ≠ 17 → r ≠ 18 → ue r = u9 r := fun r h0 h14 h15 h16 h17 h18 => by rw [hue, wr_n h14, wr_n h18, wr_n h17, wr_n h16, wr_n h15, wrA_n h0]
    have z0 : ue 0 = P.2 := by rw [hue, wr_n (by decide), wr_n (by decide), wr_n (by decide), wr_n (by decide), wr_n (by decide), wrA_s]
    have reu : ∀ r, r ≠ 0 → r ≠ 8 → ¬ (14 ≤ r ∧ r ≤ 29) → ue r = u r := fun r h0 h8 h => by rw [re r h0 (by omega) (by omega) (by omega) (by omega) (by omega), r9 r h8]; exact uK_r h
    have z8 : ue 8 0 = nI (ia + 1) := by rw [re 8 (by decide) (by decide) (by decide) (by decide) (by decide) (by decide)]; exact n8
    have zz : ∀ r, r = 21 ∨ r = 22 ∨ r = 23 ∨ r = 24 ∨ r = 25 → ue r 0 = 0 := fun r hr => by rw [re r (by omega) (by omega) (by omega) (by omega) (by omega) (by omega), r9 r (by omega)]; exact uK_z (by omega)
    have hXe : MX ue kd av bv sz bd db nb := by
      unfold MX
      rw [reu 2 (by decide) (by decide) (by omega), reu 3 (by decide) (by decide) (by omega), reu 4 (by decide) (by decide) (by omega), reu 5 (by decide) (by decide) (by omega), reu 7 (by decide) (by decide) (by omega), reu 30 (by decide) (by decide) (by omega), reu 31 (by decide) (by decide) (by omega), reu 32 (by decide) (by decide) (by omega), reu 33 (by decide) (by decide) (by omega)]
      exact hX
    exact M_loop (N := 40) hE (by decide) hS hp ⟨hPok, by show ia + 1 ≤ _; omega, Nat.zero_le _⟩ ⟨z0, reu 6 (by decide) (by decide) (by omega), z8, zz 21 (by omega)⟩
      ⟨by rw [hue, wr_s]; exact upd_s, by rw [hue, wr_n (by decide), wr_n (by decide), wr_n (by decide), wr_n (by decide), wr_s]; exact upd_s, by rw [hue, wr_n (by decide), wr_n (by decide), wr_s, upd_s]; rfl, by rw [hue, wr_n (by decide), wr_n (by decide), wr_n (by decide), wr_s]; exact upd_s, fun g hg => by rw [show g = 0 by omega, hue, wr_n (by decide), wr_s, upd_s]; rfl, zz 25 (by omega)⟩
      (by rw [reu 2 (by decide) (by decide) (by omega)]; exact hX.2.1 pl hp) hXe (zz 22 (by omega)) (zz 23 (by omega)) (fun j hj => by rw [re 20 (by decide) (by decide) (by decide) (by decide) (by decide) (by decide), r9 20 (by decide)]; exact uK_k j hj) reu
  · rw [if_neg (fun z => p0 (hPth.pos.mp z)), aOut_2 c1 (by rw [← hP]; exact p0), ← hP]
    exact M_early P.1 (wrA u9 0 P.2) (0, (u 0, u 6, ia + 1, 0), P.1, P.1) hPth (by rw [wrA_n (by decide), r9 14 (by decide)]; exact k14) (by rw [wrA_s]; exact hPsame p0) (by rw [wrA_n (by decide), r9 6 (by decide)]; exact uK_r (by omega)) (by rw [wrA_n (by decide)]; exact n8) (by rw [wrA_n (by decide), r9 21 (by decide)]; exact k21) rfl rfl p0 (fun r a _ c d => by rw [wrA_n a, r9 r c]; exact uK_r d)
