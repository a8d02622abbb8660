/-! PURE: one turn of the reference's loop. -/
theorem M_goOn_step {u : Ug} {f pl i en ia st t mw : Nat} (hf : f < 4) (h14 : u 14 0 = nI (f + 1)) (hp : u 15 f = nI pl) (hp2 : pl < 12) (h17 : u 17 f = nI i) (h18 : u 18 f = nI t) (ht : t ≤ 8) (he : (if t = 0 then u 2 pl else u 19 (10 * f + t - 1)) = nI en) (hi : i < en) (he2 : en ≤ 8) (h21 : u 21 0 = nI st) (h8 : u 8 0 = nI ia) (hst : st < 100) (hia : ia < 20000) (hmw : u 33 0 = nI mw) (hmw2 : mw ≤ 2) : fM_goOn u = (fM_work (nI f) (nI (8 * pl + i)) (nI (if 0 < mw ∧ nI (8 * pl + i) = u 32 0 then mw else 0)) (wr (wr (wr (wr u 21 0 (nI (st + 1))) 8 0 (nI (ia + 1))) 6 pl (u 6 pl ||| aBit i)) 17 f (nI (i + 1)))).bind fun q => some ((0 : Int32), q.2) := by
  unfold fM_goOn
  have e1 : nI (f + 1) - (1 : Int32) = nI f := nI_pred f
  rw [h14, e1, pu_rd hf (by omega)]
  simp only [Option.bind_some]
  rw [M_end hf h18 (by omega) hp hp2, he]
  simp only [Option.bind_some]
  rw [h17, if_neg (fun z => by have := (nI_eq (by omega) (by omega)).mp z; omega), h21, if_neg (by rw [lit_100]; exact fun z => by have := (nI_eq (by omega) (by omega)).mp z; omega), h8, litL_20000, if_neg (fun z => by have := (pu_cmp0 (by omega) (by omega)).mp z; omega), pu_sc]
  simp only [Option.bind_some]
  rw [nI_1, wr_n (show (8 : Nat) ≠ 21 by decide), h8, pu_sl (by omega)]
  simp only [Option.bind_some]
  obtain ⟨u8, hu8⟩ : ∃ u8 : Ug, u8 = wr (wr u 21 0 (nI (st + 1))) 8 0 (nI (ia + 1)) := ⟨_, rfl⟩
  rw [← hu8]
  have r8 : ∀ r, r ≠ 21 → r ≠ 8 → u8 r = u r := fun r a b => by rw [hu8, wr_n b, wr_n a]
  rw [r8 15 (by decide) (by decide), r8 17 (by decide) (by decide), r8 6 (by decide) (by decide), pu_rd hf (by omega), pu_rd hf (by omega)]
  simp only [Option.bind_some]
  rw [hp, h17, pu_rd hp2 (by omega)]
  simp only [Option.bind_some]
  rw [pu_wr hp2 (by omega)]
  simp only [Option.bind_some]
  rw [wr_n (show (17 : Nat) ≠ 6 by decide), r8 17 (by decide) (by decide), pu_rd hf (by omega)]
  simp only [Option.bind_some]
  rw [h17, nI_1, pu_wr hf (by omega)]
  simp only [Option.bind_some]
  have eb : (u 6 pl ||| (1 : Int32) <<< (nI i &&& 31)) = (u 6 pl ||| aBit i) := rfl
  rw [eb]
  obtain ⟨ub, hub⟩ : ∃ ub : Ug, ub = wr (wr u8 6 pl (u 6 pl ||| aBit i)) 17 f (nI (i + 1)) := ⟨_, rfl⟩
  rw [← hub]
  have rb : ∀ r, r ≠ 21 → r ≠ 8 → r ≠ 6 → r ≠ 17 → ub r = u r := fun r a b c d => by rw [hub, wr_n d, wr_n c, r8 r a b]
  have es : (8 : Int32) * nI pl + nI i = nI (8 * pl + i) := by rw [lit_8, pk_mul, nI_add]
  rw [es, rb 33 (by decide) (by decide) (by decide) (by decide), rb 32 (by decide) (by decide) (by decide) (by decide), hmw]
  by_cases w0 : mw = 0
  · rw [if_pos (by rw [w0]; decide), if_neg (fun q => by omega)]
    rfl
  · rw [if_neg (by rw [lit_0]; exact nI_ge (by omega) (by omega))]
    by_cases q : nI (8 * pl + i) = u 32 0
    · rw [if_pos q, if_pos ⟨by omega, q⟩]
    · rw [if_neg q, if_neg (fun z => q z.2)]
      rfl
theorem M_goOn_lim {u : Ug} {f pl i en ia st : Nat} {tr : Nat → Nat} (hf : f < 4) (h14 : u 14 0 = nI (f + 1)) (hp : u 15 f = nI pl) (hp2 : pl < 12) (h17 : u 17 f = nI i) (htr : ∀ g, g < 4 → tr g ≤ 8) (h18 : ∀ g, g ≤ f → u 18 g = nI (tr g)) (he : (if tr f = 0 then u 2 pl else u 19 (10 * f + tr f - 1)) = nI en) (hi : i < en) (he2 : en ≤ 8) (h21 : u 21 0 = nI st) (h8 : u 8 0 = nI ia) (hst : st ≤ 100) (hia : ia ≤ 20000) (hl : 100 ≤ st ∨ 20000 ≤ ia) : fM_goOn u = some (0, aRaise tr (f + 1) 7 7 u) := by
  unfold fM_goOn
  have e1 : nI (f + 1) - (1 : Int32) = nI f := nI_pred f
  have ht := htr f hf
  rw [h14, e1, pu_rd hf (by omega)]
  simp only [Option.bind_some]
  rw [M_end hf (h18 f (Nat.le_refl f)) (by omega) hp hp2, he]
  simp only [Option.bind_some]
  rw [h17, if_neg (fun z => by have := (nI_eq (by omega) (by omega)).mp z; omega), h21]
  by_cases c : st = 100
  · rw [if_pos (by rw [c]; rfl), M_raise htr (show f + 1 ≤ 4 by omega) h14 (fun g hg => h18 g (by omega))]
    rfl
  · rw [if_neg (by rw [lit_100]; exact fun z => by have := (nI_eq (by omega) (by omega)).mp z; omega), h8, litL_20000, if_pos ((pu_cmp0 (by omega) (by omega)).mpr (by omega)), M_raise htr (show f + 1 ≤ 4 by omega) h14 (fun g hg => h18 g (by omega))]
    rfl
theorem M_goOn_try {u : Ug} {f pl en t : Nat} (hf : f < 4) (h14 : u 14 0 = nI (f + 1)) (hp : u 15 f = nI pl) (hp2 : pl < 12) (h17 : u 17 f = nI en) (h18 : u 18 f = nI (t + 1)) (ht : t ≤ 8) (he : u 19 (10 * f + t) = nI en) : fM_goOn u = some (0, wr u 18 f (nI t)) := by
  unfold fM_goOn
  have e1 : nI (f + 1) - (1 : Int32) = nI f := nI_pred f
  rw [h14, e1, pu_rd hf (by omega)]
  simp only [Option.bind_some]
  rw [M_end hf h18 (by omega) hp hp2, if_neg (by omega), show 10 * f + (t + 1) - 1 = 10 * f + t by omega, he]
  simp only [Option.bind_some]
  rw [h17, if_pos rfl, pu_rd hf (by omega)]
  simp only [Option.bind_some]
  rw [h18, if_neg (by rw [lit_0]; exact nI_ge (by omega) (by omega)), nI_pred, pu_wr hf (by omega)]
  rfl
theorem M_goOn_ret {u : Ug} {f pl en : Nat} (hf : f + 1 < 4) (h14 : u 14 0 = nI (f + 1 + 1)) (hp : u 15 (f + 1) = nI pl) (hp2 : pl < 12) (h17 : u 17 (f + 1) = nI en) (h18 : u 18 (f + 1) = nI 0) (he : u 2 pl = nI en) : fM_goOn u = some (0, wr (wr u 14 0 (nI (f + 1))) 16 f (u 16 (f + 1))) := by
  unfold fM_goOn
  have e1 : nI (f + 1 + 1) - (1 : Int32) = nI (f + 1) := nI_pred (f + 1)
  rw [h14, e1, pu_rd hf (by omega)]
  simp only [Option.bind_some]
  rw [M_end hf h18 (by omega) hp hp2, if_pos rfl, he]
  simp only [Option.bind_some]
  rw [h17, if_pos rfl, pu_rd hf (by omega)]
  simp only [Option.bind_some]
  rw [h18, if_pos (by decide), pu_sc]
  simp only [Option.bind_some]
  have w14 : (wr u 14 0 (nI (f + 1))) 14 0 = nI (f + 1) := by rw [wr_s]; exact upd_s
  rw [h14, e1, w14, if_neg (by rw [lit_0]; exact fun z => by have := (nI_eq (by omega) (by omega)).mp z; omega), wr_n (show (16 : Nat) ≠ 14 by decide), pu_rd hf (by omega)]
  simp only [Option.bind_some]
  rw [nI_pred, pu_wr (by omega) (by omega)]
  rfl
theorem M_goOn_out {u : Ug} {pl en : Nat} (h14 : u 14 0 = nI (0 + 1)) (hp : u 15 0 = nI pl) (hp2 : pl < 12) (h17 : u 17 0 = nI en) (h18 : u 18 0 = nI 0) (he : u 2 pl = nI en) : fM_goOn u = some (0, wr (wr (wr u 14 0 (nI 0)) 24 0 (u 16 0)) 25 0 1) := by
  unfold fM_goOn
  have e1 : nI (0 + 1) - (1 : Int32) = nI 0 := nI_pred 0
  rw [h14, e1, pu_rd (by omega) (by omega)]
  simp only [Option.bind_some]
  rw [M_end (by omega) h18 (by omega) hp hp2, if_pos rfl, he]
  simp only [Option.bind_some]
  rw [h17, if_pos rfl, pu_rd (by omega) (by omega)]
  simp only [Option.bind_some]
  rw [h18, if_pos (by decide), pu_sc]
  simp only [Option.bind_some]
  have w14 : (wr u 14 0 (nI 0)) 14 0 = nI 0 := by rw [wr_s]; exact upd_s
  rw [h14, e1, w14, if_pos (by decide), wr_n (show (16 : Nat) ≠ 14 by decide), pu_rd (by omega) (by omega)]
  rfl
/-- so many turns of the loop -/
def goN : Nat → Ug → Option Ug
  | 0, u => some u
  | k + 1, u => if u 25 0 = 0 then (fM_goOn u).bind fun q => goN k q.2 else none
theorem goN_add {a b : Nat} : ∀ {u u1 u2 : Ug}, goN a u = some u1 → goN b u1 = some u2 → goN (a + b) u = some u2 := by
  induction a with
  | zero => intro u u1 u2 h1 h2; cases h1; rw [Nat.zero_add]; exact h2
  | succ a ih =>
    intro u u1 u2 h1 h2
    rw [show a + 1 + b = (a + b) + 1 by omega]
    unfold goN at h1 ⊢
    by_cases c : u 25 0 = 0
    · rw [if_pos c] at h1 ⊢
      obtain ⟨q, hq, h1⟩ := en_bnd h1
      rw [hq]
      exact ih h1 h2
    · rw [if_neg c] at h1; cases h1
theorem goN_1 {u u1 : Ug} {x : Int32} (h0 : u 25 0 = 0) (h : fM_goOn u = some (x, u1)) : goN 1 u = some u1 := by
  unfold goN
  rw [if_pos h0, h]
  rfl
theorem kM_goN {v1 v2 v3 v4 v5 : Int32} {n : Nat} : ∀ {k : Nat} {u u1 : Ug}, goN k u = some u1 → kM_outside (n + k) v1 v2 v3 v4 v5 u = kM_outside n v1 v2 v3 v4 v5 u1 := by
  intro k
  induction k with
  | zero => intro u u1 h; cases h; rfl
  | succ k ih =>
    intro u u1 h
    unfold goN at h
    by_cases c : u 25 0 = 0
    · rw [if_pos c] at h
      obtain ⟨q, hq, h⟩ := en_bnd h
      show sM_outside_106 (kM_outside (n + k)) _ _ _ _ _ _ = _
      unfold sM_outside_106
      rw [if_pos c, hq]
      exact ih h
    · rw [if_neg c] at h; cases h
theorem aBlock_st {kd av bv : Nat → Int32} {sz : Nat → Nat} {bd db nb : Nat → Int32} : ∀ (n pl i en : Nat) (v : Int32) (op : Nat) (S : AS), S.2.2.2 ≤ (aBlock kd av bv sz bd db nb n pl i en v op S).2.1.2.2.2 := by
  intro n
  induction n with
  | zero => intro pl i en v op S; exact Nat.le_refl _
  | succ n ih =>
    intro pl i en v op S
    unfold aBlock
    by_cases c1 : en ≤ i
    · rw [if_pos c1]; exact Nat.le_refl _
    rw [if_neg c1]
    by_cases c2 : 100 ≤ S.2.2.2 ∨ 20000 ≤ S.2.2.1
    · rw [if_pos c2]; exact Nat.le_refl _
    rw [if_neg c2]
    have step : ∀ (pl' i' en' : Nat) (v' : Int32) (op' : Nat) (σ cov : Nat → Int32) (ia : Nat), S.2.2.2 ≤ (aBlock kd av bv sz bd db nb n pl' i' en' v' op' (σ, cov, ia, S.2.2.2 + 1)).2.1.2.2.2 := fun pl' i' en' v' op' σ cov ia => Nat.le_trans (Nat.le_succ _) (ih pl' i' en' v' op' (σ, cov, ia, S.2.2.2 + 1))
    by_cases k9 : kd (8 * pl + i) = 9
    · rw [if_pos k9]
      have hr := step pl (i + 1) (min (i + 1 + (av (8 * pl + i)).toNatClampNeg) en) v op S.1 (aCov S.2.1 pl i) (S.2.2.1 + 1)
      generalize aBlock kd av bv sz bd db nb n pl (i + 1) (min (i + 1 + (av (8 * pl + i)).toNatClampNeg) en) v op (S.1, aCov S.2.1 pl i, S.2.2.1 + 1, S.2.2.2 + 1) = r at hr ⊢
      show _ ≤ (if r.2.2.1 = 0 then _ else _ : AO).2.1.2.2.2
      by_cases r0 : r.2.2.1 = 0
      · rw [if_pos r0]; exact Nat.le_trans hr (ih _ _ _ _ _ _)
      rw [if_neg r0]
      by_cases r7 : r.2.2.1 = 7
      · rw [if_pos r7]; exact hr
      · rw [if_neg r7]; exact Nat.le_trans hr (ih _ _ _ _ _ (S.1, r.2.1.2))
    rw [if_neg k9]
    by_cases k7 : kd (8 * pl + i) = 7 ∨ kd (8 * pl + i) = 13
    · rw [if_pos k7]; exact step _ _ _ _ _ _ _ _
    rw [if_neg k7]
    by_cases k8 : kd (8 * pl + i) = 8
    · rw [if_pos k8]
      generalize (av (8 * pl + i)).toNatClampNeg = f
      show _ ≤ (if db f = 1 then _ else _ : AO).2.1.2.2.2
      by_cases d1 : db f = 1
      · rw [if_pos d1]; exact step _ _ _ _ _ _ _ _
      rw [if_neg d1]
      by_cases d2 : db f = 2
      · rw [if_pos d2]; exact Nat.le_succ _
      rw [if_neg d2]
      by_cases d3 : bd f = -1
      · rw [if_pos d3]; exact Nat.le_succ _
      rw [if_neg d3]
      by_cases d4 : 4 ≤ op
      · rw [if_pos d4]; exact Nat.le_succ _
      rw [if_neg d4]
      by_cases d5 : 20000 ≤ S.2.2.1 + 1
      · rw [if_pos d5]; exact Nat.le_succ _
      rw [if_neg d5]
      have hr := step (bd f).toNatClampNeg 0 (sz (bd f).toNatClampNeg) v (op + 1) S.1 (aCov S.2.1 pl i) (S.2.2.1 + 2)
      generalize aBlock kd av bv sz bd db nb n (bd f).toNatClampNeg 0 (sz (bd f).toNatClampNeg) v (op + 1) (S.1, aCov S.2.1 pl i, S.2.2.1 + 2, S.2.2.2 + 1) = r at hr ⊢
      have hb : S.2.2.2 ≤ (aBack S.1 r).2.1.2.2.2 := by unfold aBack; split <;> exact hr
      show _ ≤ (if (aBack S.1 r).2.2.1 = 0 then _ else _ : AO).2.1.2.2.2
      by_cases r0 : (aBack S.1 r).2.2.1 = 0
      · rw [if_pos r0]; exact Nat.le_trans hb (ih _ _ _ _ _ _)
      · rw [if_neg r0]; exact hb
    rw [if_neg k8]
    generalize aPlain (kd (8 * pl + i)) (av (8 * pl + i)) (bv (8 * pl + i)) pl v S.1 = q
    show _ ≤ (if q.2.2 = 0 then _ else _ : AO).2.1.2.2.2
    by_cases q0 : q.2.2 = 0
    · rw [if_pos q0]; exact step _ _ _ _ _ _ _ _
    · rw [if_neg q0]; exact Nat.le_succ _
