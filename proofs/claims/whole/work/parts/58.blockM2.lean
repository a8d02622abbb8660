/-! PURE: the reference's loop, whole. -/
theorem M_block {kd av bv : Nat → Int32} {sz : Nat → Nat} {bd db nb : Nat → Int32} (hE : EnOk kd av sz bd db nb) : ∀ n : Nat, MB kd av bv sz bd db nb n := by
  intro n
  induction n with
  | zero => intro f pl i en v tr S u hn; omega
  | succ n ih =>
    intro f pl i en v tr S u hn hi he hp hf ht htr hS hR hC hEn hX
    obtain ⟨c14, c15, c17, c16, c18, c25⟩ := id hC
    obtain ⟨m0, m6, m8, m21⟩ := id hR
    have htf := htr f hf
    unfold aBlock
    by_cases c1 : en ≤ i
    · rw [if_pos c1]
      have : i = en := by omega
      subst this
      exact Or.inl ⟨rfl, 0, u, Nat.zero_le _, rfl, hR, hC, MF.rf⟩
    rw [if_neg c1]
    have hia := hS.2.1
    have hst := hS.2.2
    by_cases c2 : 100 ≤ S.2.2.2 ∨ 20000 ≤ S.2.2.1
    · rw [if_pos c2]
      refine Or.inr ⟨show (7 : Int32) ≠ 0 by decide, 1, u, tr, by omega, goN_1 c25 (M_goOn_lim hf c14 c15 hp c17 htr c18 hEn (by omega) he m21 m8 hst hia c2), hR, c14, htr, c18, fun _ _ => rfl, fun _ => rfl, MF.rf, c25⟩
    rw [if_neg c2]
    obtain ⟨⟨mw, hmw, h33, hmut⟩, hsz, hfa⟩ := id hX
    have hs : 8 * pl + i < 96 := by omega
    have wf := hE.1 _ hs
    have hS1 : ∀ cov, StOk (S.1, cov, S.2.2.1 + 1, S.2.2.2 + 1) := fun cov => ⟨hS.1, by show S.2.2.1 + 1 ≤ _; omega, by show S.2.2.2 + 1 ≤ _; omega⟩
    have hgo := M_goOn_step hf c14 c15 hp c17 (c18 f (Nat.le_refl f)) htf hEn (by omega) he m21 m8 (by omega) (by omega) h33 hmw
    obtain ⟨ub, hub⟩ : ∃ ub : Ug, ub = wr (wr (wr (wr u 21 0 (nI (S.2.2.2 + 1))) 8 0 (nI (S.2.2.1 + 1))) 6 pl (u 6 pl ||| aBit i)) 17 f (nI (i + 1)) := ⟨_, rfl⟩
    rw [← hub] at hgo
    have rb : ∀ r, r ≠ 21 → r ≠ 8 → r ≠ 6 → r ≠ 17 → ub r = u r := fun r a b c d => by rw [hub, wr_n d, wr_n c, wr_n b, wr_n a]
    have b6 : ub 6 = aCov S.2.1 pl i := by rw [hub, wr_n (by decide), wr_s, wr_n (by decide), wr_n (by decide), m6]; rfl
    have b8 : ub 8 0 = nI (S.2.2.1 + 1) := by rw [hub, wr_n (by decide), wr_n (by decide), wr_s]; exact upd_s
    have b21 : ub 21 0 = nI (S.2.2.2 + 1) := by rw [hub, wr_n (by decide), wr_n (by decide), wr_n (by decide), wr_s]; exact upd_s
    have b17 : ub 17 f = nI (i + 1) := by rw [hub, wr_s]; exact upd_s
    have b17n : ∀ g, g ≠ f → ub 17 g = u 17 g := fun g hg => by rw [hub, wr_s, upd_n hg, wr_n (by decide), wr_n (by decide), wr_n (by decide)]
    have b0 : ub 0 = S.1 := by rw [rb 0 (by decide) (by decide) (by decide) (by decide)]; exact m0
    have bR : MR ub (S.1, aCov S.2.1 pl i, S.2.2.1 + 1, S.2.2.2 + 1) := ⟨b0, b6, b8, b21⟩
    have b14 : ub 14 0 = nI (f + 1) := by rw [rb 14 (by decide) (by decide) (by decide) (by decide)]; exact c14
    have b15 : ub 15 f = nI pl := by rw [rb 15 (by decide) (by decide) (by decide) (by decide)]; exact c15
    have b16 : ub 16 f = v := by rw [rb 16 (by decide) (by decide) (by decide) (by decide)]; exact c16
    have b18 : ∀ g, g ≤ f → ub 18 g = nI (tr g) := fun g hg => by rw [rb 18 (by decide) (by decide) (by decide) (by decide)]; exact c18 g hg
    have b25 : ub 25 0 = 0 := by rw [rb 25 (by decide) (by decide) (by decide) (by decide)]; exact c25
    have bC : MC ub f pl (i + 1) v tr := ⟨b14, b15, b17, b16, b18, b25⟩
    have bF : MF f (tr f) u ub := ⟨fun r _ h6 h8 _ _ _ h17 _ _ _ h21 => rb r h21 h8 h6 h17, fun g hg => ⟨by rw [rb 15 (by decide) (by decide) (by decide) (by decide)], by rw [rb 16 (by decide) (by decide) (by decide) (by decide)], b17n g (by omega), by rw [rb 18 (by decide) (by decide) (by decide) (by decide)]⟩, by rw [rb 15 (by decide) (by decide) (by decide) (by decide)], fun k _ => by rw [rb 19 (by decide) (by decide) (by decide) (by decide)], fun j _ => by rw [rb 20 (by decide) (by decide) (by decide) (by decide)]⟩
    have b19 : (if tr f = 0 then ub 2 pl else ub 19 (10 * f + tr f - 1)) = nI en := by rw [rb 2 (by decide) (by decide) (by decide) (by decide), rb 19 (by decide) (by decide) (by decide) (by decide)]; exact hEn
    have b2 : ub 2 = u 2 := rb 2 (by decide) (by decide) (by decide) (by decide)
    have b3 : ub 3 = u 3 := rb 3 (by decide) (by decide) (by decide) (by decide)
    have b4 : ub 4 = u 4 := rb 4 (by decide) (by decide) (by decide) (by decide)
    have b5 : ub 5 = u 5 := rb 5 (by decide) (by decide) (by decide) (by decide)
    obtain ⟨w, hw⟩ : ∃ w, w = if 0 < mw ∧ nI (8 * pl + i) = u 32 0 then mw else 0 := ⟨_, rfl⟩
    have hw2 : w ≤ 2 := by rw [hw]; split <;> omega
    rw [← hw] at hgo
    obtain ⟨⟨k, hk11, ek⟩, eff⟩ := hmut _ hs
    rw [← hw] at eff
    have ekd : kd (8 * pl + i) = (mutS w (u 3 (8 * pl + i)) (u 4 (8 * pl + i)) (u 5 (8 * pl + i))).1 := congrArg (fun z => z.1) eff
    have eav : av (8 * pl + i) = (mutS w (u 3 (8 * pl + i)) (u 4 (8 * pl + i)) (u 5 (8 * pl + i))).2.1 := congrArg (fun z => z.2.1) eff
    have ebv : bv (8 * pl + i) = (mutS w (u 3 (8 * pl + i)) (u 4 (8 * pl + i)) (u 5 (8 * pl + i))).2.2 := congrArg (fun z => z.2.2) eff
    -- one turn, and on
    have one : ∀ u2 : Ug, fM_work (nI f) (nI (8 * pl + i)) (nI w) ub = some (0, u2) → goN 1 u = some u2 := fun u2 h => goN_1 (x := 0) c25 (by rw [hgo, h]; rfl)
    have fin : ∀ (kp : Nat) (u2 : Ug) (S2 : AS) (e2 : Nat) (v2 : Int32), goN kp u = some u2 → kp ≤ 2 * (S2.2.2.2 - S.2.2.2) → S.2.2.2 ≤ S2.2.2.2 → MF f (tr f) u u2 → StOk S2 → MR u2 S2 → MC u2 f pl e2 v2 tr → i + 1 ≤ e2 → e2 ≤ en → MS f pl en tr S u (aBlock kd av bv sz bd db nb n pl e2 en v2 (f + 1) S2) := by
      intro kp u2 S2 e2 v2 g1 g2 g3 g4 g5 g6 g7 g8 g9
      have hEn2 : (if tr f = 0 then u2 2 pl else u2 19 (10 * f + tr f - 1)) = nI en := by
        rw [g4.1 2 (by decide) (by decide) (by decide) (by decide) (by decide) (by decide) (by decide) (by decide) (by decide) (by decide) (by decide)]
        by_cases t0 : tr f = 0
        · rw [if_pos t0] at hEn ⊢; exact hEn
        · rw [if_neg t0] at hEn ⊢; rw [g4.2.2.2.1 _ (by omega)]; exact hEn
      have hmono := aBlock_st (kd := kd) (av := av) (bv := bv) (sz := sz) (bd := bd) (db := db) (nb := nb) n pl e2 en v2 (f + 1) S2
      rcases ih f pl e2 en v2 tr S2 u2 (by omega) g9 he hp hf (by omega) htr g5 g6 g7 hEn2 (hX.of g4) with ⟨r0, k2, u3, q1, q2, q3, q4, q5⟩ | ⟨r0, k2, w2, tr1, q1, q2, q3, q4, q5, q6, q7, q8, q9, q10⟩
      · exact Or.inl ⟨r0, kp + k2, u3, by omega, goN_add g1 q2, q3, q4, MF.tr g4 q5 (Nat.le_refl _)⟩
      · exact Or.inr ⟨r0, kp + k2, w2, tr1, by omega, goN_add g1 q2, q3, q4, q5, q6, q7, q8, MF.tr g4 q9 (Nat.le_refl _), q10⟩
    have thr : ∀ (r : AO), r.2.2.1 ≠ 0 → r.2.1.2.2.2 = S.2.2.2 + 1 → ∀ w2 : Ug, fM_work (nI f) (nI (8 * pl + i)) (nI w) ub = some (0, aRaise tr (f + 1) r.2.2.1 r.2.2.2 w2) → MR w2 r.2.1 → w2 14 0 = nI (f + 1) → (∀ g, g ≤ f → w2 18 g = nI (tr g)) → MF f (tr f) u w2 → w2 25 0 = 0 → MS f pl en tr S u r := by
      intro r r0 rs w2 g1 g2 g3 g4 g5 g6
      exact Or.inr ⟨r0, 1, w2, tr, by omega, one _ g1, g2, g3, htr, g4, fun _ _ => rfl, fun _ => rfl, g5, g6⟩
    by_cases k9 : kd (8 * pl + i) = 9
    · rw [if_pos k9]
      sorry
    rw [if_neg k9]
    by_cases k7 : kd (8 * pl + i) = 7 ∨ kd (8 * pl + i) = 13
    · rw [if_pos k7]
      have kk : k = 7 := mutS_7 hk11 (by rw [← ek, ← ekd]; exact k7)
      have ek7 : u 3 (8 * pl + i) = 7 := by rw [ek, kk]; rfl
      obtain ⟨a, ha, ea⟩ := wf.2.2.1 (by rcases k7 with k7 | k7; exact Or.inl k7; exact Or.inr (Or.inr k7))
      have hwk := M_unless (u := ub) (f := f) (s := 8 * pl + i) (pl := pl) (pos := i + 1) (e := en) (t := tr f) (w := w) (j := a) (v := v) hf hs hw2 b16 b15 hp (by rw [b3]; exact ek7) (by rw [b3, b4, b5, ← eav]; exact ea) ha b17 (by omega) (b18 f (Nat.le_refl f)) (by omega) b19 he
      rw [b3, b4, b5, ← ekd, ← ebv] at hwk
      rw [ea, nI_clamp (by omega)]
      generalize hps : aPass (kd (8 * pl + i)) (bv (8 * pl + i)) v = ps at hwk ⊢
      have e8 : (8 * pl + i) % 8 = i := by omega
      rw [e8] at hwk
      have emin : (if ps = true then min (i + 1 + a) en else i + 1) = min (i + 1 + if ps = true then a else 0) en := by
        cases ps
        · show i + 1 = min (i + 1 + 0) en; omega
        · rfl
      rw [emin] at hwk
      refine fin 1 _ (S.1, aCov (aCov S.2.1 pl i) pl (i + if ps = true then 8 else 16), S.2.2.1 + 1, S.2.2.2 + 1) _ v (one _ hwk) (by show 1 ≤ 2 * (S.2.2.2 + 1 - S.2.2.2); omega) (by show S.2.2.2 ≤ S.2.2.2 + 1; omega) ?_ (hS1 _) ?_ ?_ ?_ (by omega)
      · refine MF.tr bF ⟨fun r _ h6 _ _ _ _ h17 _ _ _ _ => by rw [wr_n h17, wr_n h6], fun g hg => ⟨by rw [wr_n (by decide), wr_n (by decide)], by rw [wr_n (by decide), wr_n (by decide)], by rw [wr_s, upd_n (by omega), wr_n (by decide)], by rw [wr_n (by decide), wr_n (by decide)]⟩, by rw [wr_n (by decide), wr_n (by decide)], fun k _ => by rw [wr_n (by decide), wr_n (by decide)], fun j _ => by rw [wr_n (by decide), wr_n (by decide)]⟩ (Nat.le_refl _)
      · refine ⟨by rw [wr_n (by decide), wr_n (by decide)]; exact b0, by rw [wr_n (by decide), wr_s, b6]; rfl, by rw [wr_n (by decide), wr_n (by decide)]; exact b8, by rw [wr_n (by decide), wr_n (by decide)]; exact b21⟩
      · refine ⟨by rw [wr_n (by decide), wr_n (by decide)]; exact b14, by rw [wr_n (by decide), wr_n (by decide)]; exact b15, by rw [wr_s]; exact upd_s, by rw [wr_n (by decide), wr_n (by decide)]; exact b16, fun g hg => by rw [wr_n (by decide), wr_n (by decide)]; exact b18 g hg, by rw [wr_n (by decide), wr_n (by decide)]; exact b25⟩
      · omega
    rw [if_neg k7]
    by_cases k8 : kd (8 * pl + i) = 8
    · rw [if_pos k8]
      sorry
    rw [if_neg k8]
    have hwk := M_plain (u := ub) (f := f) (s := 8 * pl + i) (pl := pl) (w := w) (k := k) (v := v) (tr := tr) hf hs hw2 b16 b15 hp (by rw [b3]; exact ek) hk11 (by rw [b3, b4, b5, ← ekd, ← eav]; exact wf) (by rw [b0]; exact hS.1) htr b14 b18 (fun z => k7 (by rw [ekd, ek, z]; exact mutS_is7 hw2)) (by
        by_cases w0 : w = 0
        · refine Or.inl (fun z => k8 ?_)
          rw [ekd, ek, z, w0]; rfl
        · exact Or.inr (by omega)) (by
        by_cases w0 : w = 0
        · refine Or.inl (fun z => k9 ?_)
          rw [ekd, ek, z, w0]; rfl
        · exact Or.inr (by omega))
    rw [b3, b4, b5, ← ekd, ← eav, ← ebv, b0] at hwk
    have hq := aPlain_ok (b := bv (8 * pl + i)) (v := v) hp wf hS.1
    generalize aPlain (kd (8 * pl + i)) (av (8 * pl + i)) (bv (8 * pl + i)) pl v S.1 = q at hwk hq ⊢
    show MS f pl en tr S u (if q.2.2 = 0 then _ else _ : AO)
    unfold aDone at hwk
    by_cases q0 : q.2.2 = 0
    · rw [if_pos q0] at hwk ⊢
      refine fin 1 _ (q.2.1, aCov S.2.1 pl i, S.2.2.1 + 1, S.2.2.2 + 1) (i + 1) q.1 (one _ hwk) (by show 1 ≤ 2 * (S.2.2.2 + 1 - S.2.2.2); omega) (by show S.2.2.2 ≤ S.2.2.2 + 1; omega) ?_ ⟨hq, (hS1 (aCov S.2.1 pl i)).2⟩ ?_ ?_ (Nat.le_refl _) (by omega)
      · refine MF.tr bF ⟨fun r h0 _ _ _ _ h16 _ _ _ _ _ => by rw [wrA_n h0, wr_n h16], fun g hg => ⟨by rw [wrA_n (by decide), wr_n (by decide)], by rw [wrA_n (by decide), wr_s, upd_n (by omega)], by rw [wrA_n (by decide), wr_n (by decide)], by rw [wrA_n (by decide), wr_n (by decide)]⟩, by rw [wrA_n (by decide), wr_n (by decide)], fun k _ => by rw [wrA_n (by decide), wr_n (by decide)], fun j _ => by rw [wrA_n (by decide), wr_n (by decide)]⟩ (Nat.le_refl _)
      · exact ⟨wrA_s, by rw [wrA_n (by decide), wr_n (by decide)]; exact b6, by rw [wrA_n (by decide), wr_n (by decide)]; exact b8, by rw [wrA_n (by decide), wr_n (by decide)]; exact b21⟩
      · exact ⟨by rw [wrA_n (by decide), wr_n (by decide)]; exact b14, by rw [wrA_n (by decide), wr_n (by decide)]; exact b15, by rw [wrA_n (by decide), wr_n (by decide)]; exact b17, by rw [wrA_n (by decide), wr_s]; exact upd_s, fun g hg => by rw [wrA_n (by decide), wr_n (by decide)]; exact b18 g hg, by rw [wrA_n (by decide), wr_n (by decide)]; exact b25⟩
    · rw [if_neg q0] at hwk ⊢
      refine thr (v, (q.2.1, aCov S.2.1 pl i, S.2.2.1 + 1, S.2.2.2 + 1), q.2.2, q.2.2) q0 rfl _ hwk ?_ (by rw [wrA_n (by decide)]; exact b14) (fun g hg => by rw [wrA_n (by decide)]; exact b18 g hg) ?_ (by rw [wrA_n (by decide)]; exact b25)
      · exact ⟨wrA_s, by rw [wrA_n (by decide)]; exact b6, by rw [wrA_n (by decide)]; exact b8, by rw [wrA_n (by decide)]; exact b21⟩
      · refine MF.tr bF ⟨fun r h0 _ _ _ _ _ _ _ _ _ _ => wrA_n h0, fun g hg => ⟨by rw [wrA_n (by decide)], by rw [wrA_n (by decide)], by rw [wrA_n (by decide)], by rw [wrA_n (by decide)]⟩, by rw [wrA_n (by decide)], fun k _ => by rw [wrA_n (by decide)], fun j _ => by rw [wrA_n (by decide)]⟩ (Nat.le_refl _)
