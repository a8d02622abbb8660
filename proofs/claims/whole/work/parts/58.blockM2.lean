/-! PURE: the reference's loop, whole. -/
theorem M_block {kd av bv : Nat → Int32} {sz : Nat → Nat} {bd db nb : Nat → Int32} (hE : EnOk kd av sz bd db nb) : ∀ n : Nat, MB kd av bv sz bd db nb n := by
  intro n
  induction n with
  | zero => intro f pl i en v tr S u hn; omega
  | succ n ih =>
    intro f pl i en v tr S u hn hi he hp hf ht htr hS hR hC hEn hX
    obtain ⟨c14, c15, c17, c16, c18, c25⟩ := id hC
    obtain ⟨m0, m6, m8, m21⟩ := id hR
    have htf := htr f hf
    unfold aBlock
    by_cases c1 : en ≤ i
    · rw [if_pos c1]
      have : i = en := by omega
      subst this
      exact Or.inl ⟨rfl, 0, u, Nat.zero_le _, rfl, hR, hC, MF.rf⟩
    rw [if_neg c1]
    have hia := hS.2.1
    have hst := hS.2.2
    by_cases c2 : 100 ≤ S.2.2.2 ∨ 20000 ≤ S.2.2.1
    · rw [if_pos c2]
      refine Or.inr ⟨show (7 : Int32) ≠ 0 by decide, 1, u, tr, by omega, goN_1 c25 (M_goOn_lim hf c14 c15 hp c17 htr c18 hEn (by omega) he m21 m8 hst hia c2), hR, c14, htr, c18, fun _ _ => rfl, fun _ => rfl, MF.rf, c25⟩
    rw [if_neg c2]
    obtain ⟨⟨mw, hmw, h33, hmut⟩, hsz, hfa⟩ := id hX
    have hs : 8 * pl + i < 96 := by omega
    have wf := hE.1 _ hs
    have hS1 : ∀ cov, StOk (S.1, cov, S.2.2.1 + 1, S.2.2.2 + 1) := fun cov => ⟨hS.1, by show S.2.2.1 + 1 ≤ _; omega, by show S.2.2.2 + 1 ≤ _; omega⟩
    have hgo := M_goOn_step hf c14 c15 hp c17 (c18 f (Nat.le_refl f)) htf hEn (by omega) he m21 m8 (by omega) (by omega) h33 hmw
    obtain ⟨ub, hub⟩ : ∃ ub : Ug, ub = wr (wr (wr (wr u 21 0 (nI (S.2.2.2 + 1))) 8 0 (nI (S.2.2.1 + 1))) 6 pl (u 6 pl ||| aBit i)) 17 f (nI (i + 1)) := ⟨_, rfl⟩
    rw [← hub] at hgo
    have rb : ∀ r, r ≠ 21 → r ≠ 8 → r ≠ 6 → r ≠ 17 → ub r = u r := fun r a b c d => by rw [hub, wr_n d, wr_n c, wr_n b, wr_n a]
    have b6 : ub 6 = aCov S.2.1 pl i := by rw [hub, wr_n (by decide), wr_s, wr_n (by decide), wr_n (by decide), m6]; rfl
    have b8 : ub 8 0 = nI (S.2.2.1 + 1) := by rw [hub, wr_n (by decide), wr_n (by decide), wr_s]; exact upd_s
    have b21 : ub 21 0 = nI (S.2.2.2 + 1) := by rw [hub, wr_n (by decide), wr_n (by decide), wr_n (by decide), wr_s]; exact upd_s
    have b17 : ub 17 f = nI (i + 1) := by rw [hub, wr_s]; exact upd_s
    have b17n : ∀ g, g ≠ f → ub 17 g = u 17 g := fun g hg => by rw [hub, wr_s, upd_n hg, wr_n (by decide), wr_n (by decide), wr_n (by decide)]
    have b0 : ub 0 = S.1 := by rw [rb 0 (by decide) (by decide) (by decide) (by decide)]; exact m0
    have bR : MR ub (S.1, aCov S.2.1 pl i, S.2.2.1 + 1, S.2.2.2 + 1) := ⟨b0, b6, b8, b21⟩
    have b14 : ub 14 0 = nI (f + 1) := by rw [rb 14 (by decide) (by decide) (by decide) (by decide)]; exact c14
    have b15 : ub 15 f = nI pl := by rw [rb 15 (by decide) (by decide) (by decide) (by decide)]; exact c15
    have b16 : ub 16 f = v := by rw [rb 16 (by decide) (by decide) (by decide) (by decide)]; exact c16
    have b18 : ∀ g, g ≤ f → ub 18 g = nI (tr g) := fun g hg => by rw [rb 18 (by decide) (by decide) (by decide) (by decide)]; exact c18 g hg
    have b25 : ub 25 0 = 0 := by rw [rb 25 (by decide) (by decide) (by decide) (by decide)]; exact c25
    have bC : MC ub f pl (i + 1) v tr := ⟨b14, b15, b17, b16, b18, b25⟩
    have bF : MF f (tr f) u ub := ⟨fun r _ h6 h8 _ _ _ h17 _ _ _ h21 => rb r h21 h8 h6 h17, fun g hg => ⟨by rw [rb 15 (by decide) (by decide) (by decide) (by decide)], by rw [rb 16 (by decide) (by decide) (by decide) (by decide)], b17n g (by omega), by rw [rb 18 (by decide) (by decide) (by decide) (by decide)]⟩, by rw [rb 15 (by decide) (by decide) (by decide) (by decide)], fun k _ => by rw [rb 19 (by decide) (by decide) (by decide) (by decide)], fun j _ => by rw [rb 20 (by decide) (by decide) (by decide) (by decide)]⟩
    have b19 : (if tr f = 0 then ub 2 pl else ub 19 (10 * f + tr f - 1)) = nI en := by rw [rb 2 (by decide) (by decide) (by decide) (by decide), rb 19 (by decide) (by decide) (by decide) (by decide)]; exact hEn
    have b2 : ub 2 = u 2 := rb 2 (by decide) (by decide) (by decide) (by decide)
    have b3 : ub 3 = u 3 := rb 3 (by decide) (by decide) (by decide) (by decide)
    have b4 : ub 4 = u 4 := rb 4 (by decide) (by decide) (by decide) (by decide)
    have b5 : ub 5 = u 5 := rb 5 (by decide) (by decide) (by decide) (by decide)
    obtain ⟨w, hw⟩ : ∃ w, w = if 0 < mw ∧ nI (8 * pl + i) = u 32 0 then mw else 0 := ⟨_, rfl⟩
    have hw2 : w ≤ 2 := by rw [hw]; split <;> omega
    rw [← hw] at hgo
    obtain ⟨⟨k, hk11, ek⟩, eff⟩ := hmut _ hs
    rw [← hw] at eff
    have ekd : kd (8 * pl + i) = (mutS w (u 3 (8 * pl + i)) (u 4 (8 * pl + i)) (u 5 (8 * pl + i))).1 := congrArg (fun z => z.1) eff
    have eav : av (8 * pl + i) = (mutS w (u 3 (8 * pl + i)) (u 4 (8 * pl + i)) (u 5 (8 * pl + i))).2.1 := congrArg (fun z => z.2.1) eff
    have ebv : bv (8 * pl + i) = (mutS w (u 3 (8 * pl + i)) (u 4 (8 * pl + i)) (u 5 (8 * pl + i))).2.2 := congrArg (fun z => z.2.2) eff
    -- one turn, and on
    have one : ∀ u2 : Ug, fM_work (nI f) (nI (8 * pl + i)) (nI w) ub = some (0, u2) → goN 1 u = some u2 := fun u2 h => goN_1 (x := 0) c25 (by rw [hgo, h]; rfl)
    have fin : ∀ (kp : Nat) (u2 : Ug) (S2 : AS) (e2 : Nat) (v2 : Int32), goN kp u = some u2 → kp ≤ 2 * (S2.2.2.2 - S.2.2.2) → S.2.2.2 ≤ S2.2.2.2 → MF f (tr f) u u2 → StOk S2 → MR u2 S2 → MC u2 f pl e2 v2 tr → i + 1 ≤ e2 → e2 ≤ en → MS f pl en tr S u (aBlock kd av bv sz bd db nb n pl e2 en v2 (f + 1) S2) := by
      intro kp u2 S2 e2 v2 g1 g2 g3 g4 g5 g6 g7 g8 g9
      have hEn2 : (if tr f = 0 then u2 2 pl else u2 19 (10 * f + tr f - 1)) = nI en := by
        rw [g4.1 2 (by decide) (by decide) (by decide) (by decide) (by decide) (by decide) (by decide) (by decide) (by decide) (by decide) (by decide)]
        by_cases t0 : tr f = 0
        · rw [if_pos t0] at hEn ⊢; exact hEn
        · rw [if_neg t0] at hEn ⊢; rw [g4.2.2.2.1 _ (by omega)]; exact hEn
      have hmono := aBlock_st (kd := kd) (av := av) (bv := bv) (sz := sz) (bd := bd) (db := db) (nb := nb) n pl e2 en v2 (f + 1) S2
      rcases ih f pl e2 en v2 tr S2 u2 (by omega) g9 he hp hf (by omega) htr g5 g6 g7 hEn2 (hX.of g4) with ⟨r0, k2, u3, q1, q2, q3, q4, q5⟩ | ⟨r0, k2, w2, tr1, q1, q2, q3, q4, q5, q6, q7, q8, q9, q10⟩
      · exact Or.inl ⟨r0, kp + k2, u3, by omega, goN_add g1 q2, q3, q4, MF.tr g4 q5 (Nat.le_refl _)⟩
      · exact Or.inr ⟨r0, kp + k2, w2, tr1, by omega, goN_add g1 q2, q3, q4, q5, q6, q7, q8, MF.tr g4 q9 (Nat.le_refl _), q10⟩
    have thr : ∀ (r : AO), r.2.2.1 ≠ 0 → r.2.1.2.2.2 = S.2.2.2 + 1 → ∀ w2 : Ug, fM_work (nI f) (nI (8 * pl + i)) (nI w) ub = some (0, aRaise tr (f + 1) r.2.2.1 r.2.2.2 w2) → MR w2 r.2.1 → w2 14 0 = nI (f + 1) → (∀ g, g ≤ f → w2 18 g = nI (tr g)) → MF f (tr f) u w2 → w2 25 0 = 0 → MS f pl en tr S u r := by
      intro r r0 rs w2 g1 g2 g3 g4 g5 g6
      exact Or.inr ⟨r0, 1, w2, tr, by omega, one _ g1, g2, g3, htr, g4, fun _ _ => rfl, fun _ => rfl, g5, g6⟩
    by_cases k9 : kd (8 * pl + i) = 9
    · rw [if_pos k9]
      obtain ⟨w0, k90⟩ := mutS_9 (by rw [← ekd]; exact k9)
      subst w0
      obtain ⟨a, ha, ea⟩ := wf.2.2.1 (Or.inr (Or.inl k9))
      have ea4 : u 4 (8 * pl + i) = nI a := by rw [← ea, eav]; rfl
      have hwk := M_try (u := ub) (f := f) (s := 8 * pl + i) (pl := pl) (pos := i + 1) (e := en) (t := tr f) (j := a) hf hs b15 hp (by rw [b3]; exact k90) (by rw [b4]; exact ea4) ha b17 (by omega) (b18 f (Nat.le_refl f)) (by omega) b19 he
      obtain ⟨ut, hut⟩ : ∃ ut : Ug, ut = wr (wr (wrA ub 20 (va_cpy (ub 0) (ub 20) 0 (70 * (10 * f + 1 + tr f)) 70)) 19 (10 * f + tr f) (nI (min (i + 1 + a) en))) 18 f (nI (tr f + 1)) := ⟨_, rfl⟩
      rw [← hut] at hwk
      rw [ea, nI_clamp (by omega)]
      obtain ⟨e2, he2⟩ : ∃ e2, e2 = min (i + 1 + a) en := ⟨_, rfl⟩
      rw [← he2] at hut ⊢
      have q1 : i + 1 ≤ e2 := by omega
      have q2 : e2 ≤ en := by omega
      have rt : ∀ r, r ≠ 18 → r ≠ 19 → r ≠ 20 → ut r = ub r := fun r x y z => by rw [hut, wr_n x, wr_n y, wrA_n z]
      have t18 : ut 18 f = nI (tr f + 1) := by rw [hut, wr_s]; exact upd_s
      have t18n : ∀ g, g ≠ f → ut 18 g = ub 18 g := fun g hg => by rw [hut, wr_s, upd_n hg, wr_n (by decide), wrA_n (by decide)]
      have t19 : ut 19 (10 * f + tr f) = nI e2 := by rw [hut, wr_n (by decide), wr_s]; exact upd_s
      have t19n : ∀ x, x ≠ 10 * f + tr f → ut 19 x = ub 19 x := fun x hx => by rw [hut, wr_n (by decide), wr_s, upd_n hx, wrA_n (by decide)]
      have t20 : ut 20 = va_cpy (ub 0) (ub 20) 0 (70 * (10 * f + 1 + tr f)) 70 := by rw [hut, wr_n (by decide), wr_n (by decide), wrA_s]
      obtain ⟨tr2, htr2⟩ : ∃ tr2 : Nat → Nat, tr2 = fun g => if g = f then tr f + 1 else tr g := ⟨_, rfl⟩
      have tr2f : tr2 f = tr f + 1 := by rw [htr2]; exact if_pos rfl
      have tr2n : ∀ g, g ≠ f → tr2 g = tr g := fun g hg => by rw [htr2]; exact if_neg hg
      have tF : MF f (tr f) u ut := MF.tr bF ⟨fun r _ _ _ _ _ _ _ h18 h19 h20 _ => rt r h18 h19 h20, fun g hg => ⟨by rw [rt 15 (by decide) (by decide) (by decide)], by rw [rt 16 (by decide) (by decide) (by decide)], by rw [rt 17 (by decide) (by decide) (by decide)], t18n g (by omega)⟩, by rw [rt 15 (by decide) (by decide) (by decide)], fun x hx => t19n x (by omega), fun j hj => by rw [t20, pk_cpy_out (Or.inl hj)]⟩ (Nat.le_refl _)
      have hgo1 := one ut hwk
      have htr2b : ∀ g, g < 4 → tr2 g ≤ 8 := by
        intro g hg
        by_cases z : g = f
        · rw [z, tr2f]; omega
        · rw [tr2n g z]; exact htr g hg
      have t18a : ∀ g, g ≤ f → ut 18 g = nI (tr2 g) := by
        intro g hg
        by_cases z : g = f
        · rw [z, tr2f]; exact t18
        · rw [tr2n g z, t18n g z]; exact b18 g hg
      have hOk := aBlock_ok (bv := bv) hE n pl (i + 1) e2 v (f + 1) _ hp (by omega) (hS1 (aCov S.2.1 pl i))
      have hmono := aBlock_st (kd := kd) (av := av) (bv := bv) (sz := sz) (bd := bd) (db := db) (nb := nb) n pl (i + 1) e2 v (f + 1) (S.1, aCov S.2.1 pl i, S.2.2.1 + 1, S.2.2.2 + 1)
      have hms := ih f pl (i + 1) e2 v tr2 (S.1, aCov S.2.1 pl i, S.2.2.1 + 1, S.2.2.2 + 1) ut (by omega) q1 (by omega) hp hf (by rw [tr2f]; omega) htr2b (hS1 _) ⟨by rw [rt 0 (by decide) (by decide) (by decide)]; exact b0, by rw [rt 6 (by decide) (by decide) (by decide)]; exact b6, by rw [rt 8 (by decide) (by decide) (by decide)]; exact b8, by rw [rt 21 (by decide) (by decide) (by decide)]; exact b21⟩
        ⟨by rw [rt 14 (by decide) (by decide) (by decide)]; exact b14, by rw [rt 15 (by decide) (by decide) (by decide)]; exact b15, by rw [rt 17 (by decide) (by decide) (by decide)]; exact b17, by rw [rt 16 (by decide) (by decide) (by decide)]; exact b16, t18a, by rw [rt 25 (by decide) (by decide) (by decide)]; exact b25⟩
        (by rw [tr2f, if_neg (by omega), show 10 * f + (tr f + 1) - 1 = 10 * f + tr f by omega]; exact t19) (hX.of tF)
      generalize aBlock kd av bv sz bd db nb n pl (i + 1) e2 v (f + 1) (S.1, aCov S.2.1 pl i, S.2.2.1 + 1, S.2.2.2 + 1) = r at hms hOk hmono ⊢
      have hmono : S.2.2.2 + 1 ≤ r.2.1.2.2.2 := hmono
      show MS f pl en tr S u (if r.2.2.1 = 0 then _ else _ : AO)
      rcases hms with ⟨r0, k1, u1, p1, p2, p3, p4, p5⟩ | ⟨r0, k1, w2, tr1, p1, p2, p3, p4, p5, p6, p7, p8, p9, p10⟩
      · rw [if_pos r0]
        have p1 : k1 ≤ 2 * (r.2.1.2.2.2 - (S.2.2.2 + 1)) := p1
        obtain ⟨x14, x15, x17, x16, x18, x25⟩ := p4
        rw [tr2f] at p5
        have y18 : u1 18 f = nI (tr f + 1) := by rw [x18 f (Nat.le_refl f), tr2f]
        have hret := M_goOn_try hf x14 x15 hp x17 y18 htf (by rw [p5.2.2.2.1 _ (by omega)]; exact t19)
        refine fin (1 + k1 + 1) (wr u1 18 f (nI (tr f))) r.2.1 e2 r.1 (goN_add (goN_add hgo1 p2) (goN_1 x25 hret)) (by omega) (by omega) ?_ hOk ?_ ?_ q1 q2
        · refine MF.tr (MF.tr tF p5 (Nat.le_succ _)) ⟨fun r _ _ _ _ _ _ _ h18 _ _ _ => wr_n h18, fun g hg => ⟨by rw [wr_n (by decide)], by rw [wr_n (by decide)], by rw [wr_n (by decide)], by rw [wr_s, upd_n (by omega)]⟩, by rw [wr_n (by decide)], fun x _ => by rw [wr_n (by decide)], fun j _ => by rw [wr_n (by decide)]⟩ (Nat.le_refl _)
        · exact ⟨by rw [wr_n (by decide)]; exact p3.1, by rw [wr_n (by decide)]; exact p3.2.1, by rw [wr_n (by decide)]; exact p3.2.2.1, by rw [wr_n (by decide)]; exact p3.2.2.2⟩
        · refine ⟨by rw [wr_n (by decide)]; exact x14, by rw [wr_n (by decide)]; exact x15, by rw [wr_n (by decide)]; exact x17, by rw [wr_n (by decide)]; exact x16, fun g hg => ?_, by rw [wr_n (by decide)]; exact x25⟩
          by_cases z : g = f
          · rw [z, wr_s]; exact upd_s
          · rw [wr_s, upd_n z, x18 g hg, tr2n g z]
      · rw [if_neg r0]
        have p1 : k1 ≤ 2 * (r.2.1.2.2.2 - (S.2.2.2 + 1)) + 1 := p1
        rw [tr2f] at p9
        by_cases r7 : r.2.2.1 = 7
        · rw [if_pos r7]
          exact Or.inr ⟨r0, 1 + k1, w2, tr1, by omega, goN_add hgo1 p2, p3, p4, p5, p6, fun g hg => by rw [p7 g hg, tr2n g (by omega)], fun z => absurd r7 z, MF.tr tF p9 (Nat.le_succ _), p10⟩
        · rw [if_neg r7]
          have tr1f : tr1 f = tr f + 1 := by rw [p8 r7, tr2f]
          obtain ⟨w1, hw1⟩ : ∃ w1 : Ug, w1 = aRest (10 * f + (tr f + 1)) (wr w2 18 f (nI (tr f))) := ⟨_, rfl⟩
          have hra : aRaise tr1 (f + 1) r.2.2.1 r.2.2.2 w2 = wr (wr w1 16 f r.2.2.1) 17 f (w1 19 (10 * f + tr f)) := by
            show (if r.2.2.1 ≠ 7 ∧ 0 < tr1 f then _ else _ : Ug) = _
            rw [if_pos ⟨r7, by omega⟩, tr1f, Nat.add_sub_cancel, ← hw1]
          rw [hra] at p2
          have x1 : ∀ r, r ≠ 0 → r ≠ 18 → w1 r = w2 r := fun r h0 h18 => by rw [hw1]; unfold aRest; rw [wrA_n h0, wr_n h18]
          have x18 : w1 18 = upd (w2 18) f (nI (tr f)) := by rw [hw1]; unfold aRest; rw [wrA_n (by decide), wr_s]
          have x19 : w1 19 (10 * f + tr f) = nI e2 := by rw [x1 19 (by decide) (by decide), p9.2.2.2.1 _ (by omega)]; exact t19
          have x0 : w1 0 = S.1 := by
            rw [hw1]; unfold aRest
            rw [wrA_s, wr_n (show (20 : Nat) ≠ 18 by decide), wr_n (show (0 : Nat) ≠ 18 by decide), show 10 * f + (tr f + 1) = 10 * f + 1 + tr f by omega]
            refine C_kept hS.1.2.2 (fun j hj => by rw [p3.1]; exact hOk.1.2.2 j hj) (fun j hj => ?_)
            rw [p9.2.2.2.2 _ (by omega), t20, pk_cpy_in (by omega) (by omega), b0]
            rw [show 0 + (70 * (10 * f + 1 + tr f) + j - 70 * (10 * f + 1 + tr f)) = j by omega]
          rw [x19] at p2
          refine fin (1 + k1) _ (S.1, r.2.1.2) e2 r.2.2.1 (goN_add hgo1 p2) (by show 1 + k1 ≤ 2 * (r.2.1.2.2.2 - S.2.2.2); omega) (by show S.2.2.2 ≤ r.2.1.2.2.2; omega) ?_ ⟨hS.1, hOk.2⟩ ?_ ?_ q1 q2
          · refine MF.tr (MF.tr tF p9 (Nat.le_succ _)) ⟨fun r h0 _ _ _ _ h16 h17 h18 _ _ _ => by rw [wr_n h17, wr_n h16, x1 r h0 h18], fun g hg => ⟨by rw [wr_n (by decide), wr_n (by decide), x1 15 (by decide) (by decide)], by rw [wr_n (by decide), wr_s, upd_n (by omega), x1 16 (by decide) (by decide)], by rw [wr_s, upd_n (by omega), wr_n (by decide), x1 17 (by decide) (by decide)], by rw [wr_n (by decide), wr_n (by decide), x18, upd_n (by omega)]⟩, by rw [wr_n (by decide), wr_n (by decide), x1 15 (by decide) (by decide)], fun x _ => by rw [wr_n (by decide), wr_n (by decide), x1 19 (by decide) (by decide)], fun j _ => by rw [wr_n (by decide), wr_n (by decide), x1 20 (by decide) (by decide)]⟩ (Nat.le_refl _)
          · exact ⟨by rw [wr_n (by decide), wr_n (by decide)]; exact x0, by rw [wr_n (by decide), wr_n (by decide), x1 6 (by decide) (by decide)]; exact p3.2.1, by rw [wr_n (by decide), wr_n (by decide), x1 8 (by decide) (by decide)]; exact p3.2.2.1, by rw [wr_n (by decide), wr_n (by decide), x1 21 (by decide) (by decide)]; exact p3.2.2.2⟩
          · refine ⟨by rw [wr_n (by decide), wr_n (by decide), x1 14 (by decide) (by decide)]; exact p4, ?_, by rw [wr_s]; exact upd_s, by rw [wr_n (by decide), wr_s]; exact upd_s, fun g hg => ?_, by rw [wr_n (by decide), wr_n (by decide), x1 25 (by decide) (by decide)]; exact p10⟩
            · rw [wr_n (by decide), wr_n (by decide), x1 15 (by decide) (by decide), p9.2.2.1, rt 15 (by decide) (by decide) (by decide)]; exact b15
            · rw [wr_n (by decide), wr_n (by decide), x18]
              by_cases z : g = f
              · rw [z]; exact upd_s
              · rw [upd_n z, p6 g hg, p7 g (by omega), tr2n g z]
    rw [if_neg k9]
    by_cases k7 : kd (8 * pl + i) = 7 ∨ kd (8 * pl + i) = 13
    · rw [if_pos k7]
      have kk : k = 7 := mutS_7 hk11 (by rw [← ek, ← ekd]; exact k7)
      have ek7 : u 3 (8 * pl + i) = 7 := by rw [ek, kk]; rfl
      obtain ⟨a, ha, ea⟩ := wf.2.2.1 (by rcases k7 with k7 | k7; exact Or.inl k7; exact Or.inr (Or.inr k7))
      have hwk := M_unless (u := ub) (f := f) (s := 8 * pl + i) (pl := pl) (pos := i + 1) (e := en) (t := tr f) (w := w) (j := a) (v := v) hf hs hw2 b16 b15 hp (by rw [b3]; exact ek7) (by rw [b3, b4, b5, ← eav]; exact ea) ha b17 (by omega) (b18 f (Nat.le_refl f)) (by omega) b19 he
      rw [b3, b4, b5, ← ekd, ← ebv] at hwk
      rw [ea, nI_clamp (by omega)]
      generalize hps : aPass (kd (8 * pl + i)) (bv (8 * pl + i)) v = ps at hwk ⊢
      have e8 : (8 * pl + i) % 8 = i := by omega
      rw [e8] at hwk
      have emin : (if ps = true then min (i + 1 + a) en else i + 1) = min (i + 1 + if ps = true then a else 0) en := by
        cases ps
        · show i + 1 = min (i + 1 + 0) en; omega
        · rfl
      rw [emin] at hwk
      refine fin 1 _ (S.1, aCov (aCov S.2.1 pl i) pl (i + if ps = true then 8 else 16), S.2.2.1 + 1, S.2.2.2 + 1) _ v (one _ hwk) (by show 1 ≤ 2 * (S.2.2.2 + 1 - S.2.2.2); omega) (by show S.2.2.2 ≤ S.2.2.2 + 1; omega) ?_ (hS1 _) ?_ ?_ ?_ (by omega)
      · refine MF.tr bF ⟨fun r _ h6 _ _ _ _ h17 _ _ _ _ => by rw [wr_n h17, wr_n h6], fun g hg => ⟨by rw [wr_n (by decide), wr_n (by decide)], by rw [wr_n (by decide), wr_n (by decide)], by rw [wr_s, upd_n (by omega), wr_n (by decide)], by rw [wr_n (by decide), wr_n (by decide)]⟩, by rw [wr_n (by decide), wr_n (by decide)], fun k _ => by rw [wr_n (by decide), wr_n (by decide)], fun j _ => by rw [wr_n (by decide), wr_n (by decide)]⟩ (Nat.le_refl _)
      · refine ⟨by rw [wr_n (by decide), wr_n (by decide)]; exact b0, by rw [wr_n (by decide), wr_s, b6]; rfl, by rw [wr_n (by decide), wr_n (by decide)]; exact b8, by rw [wr_n (by decide), wr_n (by decide)]; exact b21⟩
      · refine ⟨by rw [wr_n (by decide), wr_n (by decide)]; exact b14, by rw [wr_n (by decide), wr_n (by decide)]; exact b15, by rw [wr_s]; exact upd_s, by rw [wr_n (by decide), wr_n (by decide)]; exact b16, fun g hg => by rw [wr_n (by decide), wr_n (by decide)]; exact b18 g hg, by rw [wr_n (by decide), wr_n (by decide)]; exact b25⟩
      · omega
    rw [if_neg k7]
    by_cases k8 : kd (8 * pl + i) = 8
    · rw [if_pos k8]
      obtain ⟨w0, k80⟩ := mutS_8 (by rw [← ekd]; exact k8)
      subst w0
      obtain ⟨fc, hfc, efc⟩ := wf.1 (Or.inr (Or.inr (Or.inr (Or.inr k8))))
      have ea4 : u 4 (8 * pl + i) = nI fc := by rw [← efc, eav]; rfl
      obtain ⟨f7, f30, f31, f32⟩ := hfa fc hfc
      have y7 : ub 7 fc = bd fc := by rw [rb 7 (by decide) (by decide) (by decide) (by decide)]; exact f7
      have y30 : ub 30 fc = db fc := by rw [rb 30 (by decide) (by decide) (by decide) (by decide)]; exact f30
      have y31 : ub 31 fc = u 31 fc := by rw [rb 31 (by decide) (by decide) (by decide) (by decide)]
      have hwk := M_ask (u := ub) (f := f) (s := 8 * pl + i) (face := fc) (ia := S.2.2.1 + 1) (v := v) (tr := tr) hf hs b16 (by rw [b3]; exact k80) (by rw [b4]; exact ea4) hfc htr b14 b18 b8 (by omega) (by rw [y7]; exact hE.2.2.1 fc hfc)
      rw [y7, y30, y31] at hwk
      rw [efc, nI_clamp (by omega)]
      show MS f pl en tr S u (if db fc = 1 then _ else _ : AO)
      by_cases d1 : db fc = 1
      · rw [if_pos d1] at hwk ⊢
        rw [f31 d1] at hwk
        refine fin 1 _ (S.1, aCov S.2.1 pl i, S.2.2.1 + 1, S.2.2.2 + 1) (i + 1) (nb fc) (one _ hwk) (by show 1 ≤ 2 * (S.2.2.2 + 1 - S.2.2.2); omega) (by show S.2.2.2 ≤ S.2.2.2 + 1; omega) ?_ (hS1 _) ?_ ?_ (Nat.le_refl _) (by omega)
        · refine MF.tr bF ⟨fun r _ _ _ _ _ h16 _ _ _ _ _ => wr_n h16, fun g hg => ⟨by rw [wr_n (by decide)], by rw [wr_s, upd_n (by omega)], by rw [wr_n (by decide)], by rw [wr_n (by decide)]⟩, by rw [wr_n (by decide)], fun x _ => by rw [wr_n (by decide)], fun j _ => by rw [wr_n (by decide)]⟩ (Nat.le_refl _)
        · exact ⟨by rw [wr_n (by decide)]; exact b0, by rw [wr_n (by decide)]; exact b6, by rw [wr_n (by decide)]; exact b8, by rw [wr_n (by decide)]; exact b21⟩
        · exact ⟨by rw [wr_n (by decide)]; exact b14, by rw [wr_n (by decide)]; exact b15, by rw [wr_n (by decide)]; exact b17, by rw [wr_s]; exact upd_s, fun g hg => by rw [wr_n (by decide)]; exact b18 g hg, by rw [wr_n (by decide)]; exact b25⟩
      rw [if_neg d1] at hwk ⊢
      by_cases d2 : db fc = 2
      · rw [if_pos d2] at hwk ⊢
        rw [f32 d2] at hwk
        exact thr (v, (S.1, aCov S.2.1 pl i, S.2.2.1 + 1, S.2.2.2 + 1), 5, 20 + nb fc) (show (5 : Int32) ≠ 0 by decide) rfl ub hwk bR b14 b18 bF b25
      rw [if_neg d2] at hwk ⊢
      by_cases d3 : bd fc = -1
      · rw [if_pos d3] at hwk ⊢
        exact thr (v, (S.1, aCov S.2.1 pl i, S.2.2.1 + 1, S.2.2.2 + 1), 5, 3) (show (5 : Int32) ≠ 0 by decide) rfl ub hwk bR b14 b18 bF b25
      rw [if_neg d3] at hwk ⊢
      by_cases d4 : 4 ≤ f + 1
      · rw [if_pos d4] at hwk ⊢
        exact thr (v, (S.1, aCov S.2.1 pl i, S.2.2.1 + 1, S.2.2.2 + 1), 5, 4) (show (5 : Int32) ≠ 0 by decide) rfl ub hwk bR b14 b18 bF b25
      rw [if_neg d4] at hwk ⊢
      by_cases d5 : 20000 ≤ S.2.2.1 + 1
      · rw [if_pos d5] at hwk ⊢
        exact thr (v, (S.1, aCov S.2.1 pl i, S.2.2.1 + 1, S.2.2.2 + 1), 7, 7) (show (7 : Int32) ≠ 0 by decide) rfl ub hwk bR b14 b18 bF b25
      rw [if_neg d5] at hwk ⊢
      obtain ⟨m, hm, em⟩ := (hE.2.2.1 fc hfc).resolve_left d3
      rw [em] at hwk ⊢
      rw [nI_clamp (by omega)]
      obtain ⟨u2, hu2⟩ : ∃ u2 : Ug, u2 = wr (wr (wr (wr (wr (wrA (wr ub 8 0 (nI (S.2.2.1 + 1 + 1))) 20 (va_cpy (ub 0) (ub 20) 0 (70 * (10 * (f + 1))) 70)) 15 (f + 1) (nI m)) 16 (f + 1) v) 17 (f + 1) 0) 18 (f + 1) 0) 14 0 (nI (f + 1 + 1)) := ⟨_, rfl⟩
      rw [← hu2] at hwk
      have r2 : ∀ r, r ≠ 8 → r ≠ 14 → r ≠ 15 → r ≠ 16 → r ≠ 17 → r ≠ 18 → r ≠ 20 → u2 r = ub r := fun r h8 h14 h15 h16 h17 h18 h20 => by rw [hu2, wr_n h14, wr_n h18, wr_n h17, wr_n h16, wr_n h15, wrA_n h20, wr_n h8]
      have z8 : u2 8 0 = nI (S.2.2.1 + 2) := by rw [hu2, wr_n (by decide), wr_n (by decide), wr_n (by decide), wr_n (by decide), wr_n (by decide), wrA_n (by decide), wr_s]; exact upd_s
      have z14 : u2 14 0 = nI (f + 1 + 1) := by rw [hu2, wr_s]; exact upd_s
      have z15 : u2 15 = upd (ub 15) (f + 1) (nI m) := by rw [hu2, wr_n (by decide), wr_n (by decide), wr_n (by decide), wr_n (by decide), wr_s, wrA_n (by decide), wr_n (by decide)]
      have z16 : u2 16 = upd (ub 16) (f + 1) v := by rw [hu2, wr_n (by decide), wr_n (by decide), wr_n (by decide), wr_s, wr_n (by decide), wrA_n (by decide), wr_n (by decide)]
      have z17 : u2 17 = upd (ub 17) (f + 1) 0 := by rw [hu2, wr_n (by decide), wr_n (by decide), wr_s, wr_n (by decide), wr_n (by decide), wrA_n (by decide), wr_n (by decide)]
      have z18 : u2 18 = upd (ub 18) (f + 1) 0 := by rw [hu2, wr_n (by decide), wr_s, wr_n (by decide), wr_n (by decide), wr_n (by decide), wrA_n (by decide), wr_n (by decide)]
      have z20 : u2 20 = va_cpy (ub 0) (ub 20) 0 (70 * (10 * (f + 1))) 70 := by rw [hu2, wr_n (by decide), wr_n (by decide), wr_n (by decide), wr_n (by decide), wr_n (by decide), wrA_s]
      have r2' : ∀ r, r = 0 ∨ r = 2 ∨ r = 6 ∨ r = 19 ∨ r = 21 ∨ r = 25 → u2 r = ub r := fun r hr => r2 r (by omega) (by omega) (by omega) (by omega) (by omega) (by omega) (by omega)
      have aF : MF f (tr f) u u2 := MF.tr bF ⟨fun r _ _ h8 h14 h15 h16 h17 h18 _ h20 _ => r2 r h8 h14 h15 h16 h17 h18 h20, fun g hg => ⟨by rw [z15, upd_n (by omega)], by rw [z16, upd_n (by omega)], by rw [z17, upd_n (by omega)], by rw [z18, upd_n (by omega)]⟩, by rw [z15, upd_n (by omega)], fun x _ => by rw [r2' 19 (by omega)], fun j hj => by rw [z20, pk_cpy_out (Or.inl (by omega))]⟩ (Nat.le_refl _)
      obtain ⟨tr2, htr2⟩ : ∃ tr2 : Nat → Nat, tr2 = fun g => if g = f + 1 then 0 else tr g := ⟨_, rfl⟩
      have tr2f : tr2 (f + 1) = 0 := by rw [htr2]; exact if_pos rfl
      have tr2n : ∀ g, g ≠ f + 1 → tr2 g = tr g := fun g hg => by rw [htr2]; exact if_neg hg
      have htr2b : ∀ g, g < 4 → tr2 g ≤ 8 := by
        intro g hg
        by_cases z : g = f + 1
        · rw [z, tr2f]; omega
        · rw [tr2n g z]; exact htr g hg
      have z18a : ∀ g, g ≤ f + 1 → u2 18 g = nI (tr2 g) := by
        intro g hg
        by_cases z : g = f + 1
        · rw [z, tr2f, z18, upd_s]; rfl
        · rw [tr2n g z, z18, upd_n z]; exact b18 g (by omega)
      have hS2 : StOk (S.1, aCov S.2.1 pl i, S.2.2.1 + 2, S.2.2.2 + 1) := ⟨hS.1, by show S.2.2.1 + 2 ≤ _; omega, (hS1 (aCov S.2.1 pl i)).2.2⟩
      have hszm := hE.2.1 m hm
      have hgo1 := one u2 hwk
      have hOk := aBlock_ok (bv := bv) hE n m 0 (sz m) v (f + 1 + 1) _ hm hszm hS2
      have hmono := aBlock_st (kd := kd) (av := av) (bv := bv) (sz := sz) (bd := bd) (db := db) (nb := nb) n m 0 (sz m) v (f + 1 + 1) (S.1, aCov S.2.1 pl i, S.2.2.1 + 2, S.2.2.2 + 1)
      have hms := ih (f + 1) m 0 (sz m) v tr2 (S.1, aCov S.2.1 pl i, S.2.2.1 + 2, S.2.2.2 + 1) u2 (by omega) (Nat.zero_le _) hszm hm (by omega) (by rw [tr2f]; omega) htr2b hS2 ⟨by rw [r2' 0 (by omega)]; exact b0, by rw [r2' 6 (by omega)]; exact b6, z8, by rw [r2' 21 (by omega)]; exact b21⟩
        ⟨z14, by rw [z15]; exact upd_s, by rw [z17, upd_s]; rfl, by rw [z16]; exact upd_s, z18a, by rw [r2' 25 (by omega)]; exact b25⟩ (by rw [tr2f, if_pos rfl, r2' 2 (by omega), b2]; exact hsz m hm) (hX.of aF)
      generalize aBlock kd av bv sz bd db nb n m 0 (sz m) v (f + 1 + 1) (S.1, aCov S.2.1 pl i, S.2.2.1 + 2, S.2.2.2 + 1) = r at hms hOk hmono ⊢
      have hmono : S.2.2.2 + 1 ≤ r.2.1.2.2.2 := hmono
      show MS f pl en tr S u (if (aBack S.1 r).2.2.1 = 0 then _ else _ : AO)
      rcases hms with ⟨r0, k1, u3, p1, p2, p3, p4, p5⟩ | ⟨r0, k1, w2, tr1, p1, p2, p3, p4, p5, p6, p7, p8, p9, p10⟩
      · have eb : aBack S.1 r = r := by unfold aBack; rw [if_pos r0]
        rw [eb, if_pos r0]
        have p1 : k1 ≤ 2 * (r.2.1.2.2.2 - (S.2.2.2 + 1)) := p1
        obtain ⟨x14, x15, x17, x16, x18, x25⟩ := p4
        rw [tr2f] at p5
        have y18 : u3 18 (f + 1) = nI 0 := by rw [x18 (f + 1) (Nat.le_refl _), tr2f]
        have y2 : u3 2 m = nI (sz m) := by rw [p5.1 2 (by decide) (by decide) (by decide) (by decide) (by decide) (by decide) (by decide) (by decide) (by decide) (by decide) (by decide), r2' 2 (by omega), b2]; exact hsz m hm
        have hret := M_goOn_ret (by omega) x14 x15 hm x17 y18 y2
        rw [x16] at hret
        have g3 := p5.2.1 f (by omega)
        refine fin (1 + k1 + 1) _ r.2.1 (i + 1) r.1 (goN_add (goN_add hgo1 p2) (goN_1 x25 hret)) (by omega) (by omega) ?_ hOk ?_ ?_ (Nat.le_refl _) (by omega)
        · refine MF.tr (MF.up aF htf p5) ⟨fun r _ _ _ h14 _ h16 _ _ _ _ _ => by rw [wr_n h16, wr_n h14], fun g hg => ⟨by rw [wr_n (by decide), wr_n (by decide)], by rw [wr_s, upd_n (by omega), wr_n (by decide)], by rw [wr_n (by decide), wr_n (by decide)], by rw [wr_n (by decide), wr_n (by decide)]⟩, by rw [wr_n (by decide), wr_n (by decide)], fun x _ => by rw [wr_n (by decide), wr_n (by decide)], fun j _ => by rw [wr_n (by decide), wr_n (by decide)]⟩ (Nat.le_refl _)
        · exact ⟨by rw [wr_n (by decide), wr_n (by decide)]; exact p3.1, by rw [wr_n (by decide), wr_n (by decide)]; exact p3.2.1, by rw [wr_n (by decide), wr_n (by decide)]; exact p3.2.2.1, by rw [wr_n (by decide), wr_n (by decide)]; exact p3.2.2.2⟩
        · refine ⟨by rw [wr_n (by decide), wr_s]; exact upd_s, ?_, ?_, by rw [wr_s]; exact upd_s, fun g hg => ?_, by rw [wr_n (by decide), wr_n (by decide)]; exact x25⟩
          · rw [wr_n (by decide), wr_n (by decide), g3.1, z15, upd_n (by omega)]; exact b15
          · rw [wr_n (by decide), wr_n (by decide), g3.2.2.1, z17, upd_n (by omega)]; exact b17
          · rw [wr_n (by decide), wr_n (by decide), x18 g (by omega), tr2n g (by omega)]
      · have n0 : ¬ (aBack S.1 r).2.2.1 = 0 := by
          unfold aBack
          rw [if_neg r0]
          show ¬ (if r.2.2.1 = 7 then (7 : Int32) else 5) = 0
          split <;> decide
        rw [if_neg n0]
        have p1 : k1 ≤ 2 * (r.2.1.2.2.2 - (S.2.2.2 + 1)) + 1 := p1
        rw [tr2f] at p9
        obtain ⟨w3, hw3⟩ : ∃ w3 : Ug, w3 = wr (aRest (10 * (f + 1)) w2) 14 0 (nI (f + 1)) := ⟨_, rfl⟩
        have hra : aRaise tr1 (f + 1 + 1) r.2.2.1 r.2.2.2 w2 = aRaise tr1 (f + 1) (if r.2.2.1 = 7 then 7 else 5) r.2.2.2 w3 := by
          show (if r.2.2.1 ≠ 7 ∧ 0 < tr1 (f + 1) then _ else _ : Ug) = _
          rw [if_neg (fun z => by have := p8 z.1; rw [tr2f] at this; omega), ← hw3]
          by_cases r7 : r.2.2.1 = 7
          · rw [if_pos (Or.inl r7), if_pos r7, r7]
          · rw [if_neg (by rintro (z | z); exact r7 z; omega), if_neg r7]
        rw [hra] at p2
        have x1 : ∀ r, r ≠ 0 → r ≠ 14 → w3 r = w2 r := fun r h0 h14 => by rw [hw3, wr_n h14]; unfold aRest; rw [wrA_n h0]
        have x0 : w3 0 = S.1 := by
          rw [hw3, wr_n (by decide)]; unfold aRest
          rw [wrA_s]
          refine C_kept hS.1.2.2 (fun j hj => by rw [p3.1]; exact hOk.1.2.2 j hj) (fun j hj => ?_)
          rw [p9.2.2.2.2 _ (by omega), z20, pk_cpy_in (by omega) (by omega), b0, show 0 + (70 * (10 * (f + 1)) + j - 70 * (10 * (f + 1))) = j by omega]
        have eb : aBack S.1 r = (r.1, (S.1, r.2.1.2), if r.2.2.1 = 7 then 7 else 5, r.2.2.2) := by unfold aBack; rw [if_neg r0]
        rw [eb] at n0 ⊢
        refine Or.inr ⟨n0, 1 + k1, w3, tr1, ?_, goN_add hgo1 p2, ?_, by rw [hw3, wr_s]; exact upd_s, p5, fun g hg => ?_, fun g hg => ?_, fun _ => ?_, ?_, by rw [x1 25 (by decide) (by decide)]; exact p10⟩
        · show 1 + k1 ≤ 2 * (r.2.1.2.2.2 - S.2.2.2) + 1
          omega
        · exact ⟨x0, by rw [x1 6 (by decide) (by decide)]; exact p3.2.1, by rw [x1 8 (by decide) (by decide)]; exact p3.2.2.1, by rw [x1 21 (by decide) (by decide)]; exact p3.2.2.2⟩
        · rw [x1 18 (by decide) (by decide)]; exact p6 g (by omega)
        · rw [p7 g (by omega), tr2n g (by omega)]
        · rw [p7 f (by omega), tr2n f (by omega)]
        · refine MF.tr (MF.up aF htf p9) ⟨fun r h0 _ _ h14 _ _ _ _ _ _ _ => x1 r h0 h14, fun g hg => ⟨by rw [x1 15 (by decide) (by decide)], by rw [x1 16 (by decide) (by decide)], by rw [x1 17 (by decide) (by decide)], by rw [x1 18 (by decide) (by decide)]⟩, by rw [x1 15 (by decide) (by decide)], fun x _ => by rw [x1 19 (by decide) (by decide)], fun j _ => by rw [x1 20 (by decide) (by decide)]⟩ (Nat.le_refl _)
    rw [if_neg k8]
    have hwk := M_plain (u := ub) (f := f) (s := 8 * pl + i) (pl := pl) (w := w) (k := k) (v := v) (tr := tr) hf hs hw2 b16 b15 hp (by rw [b3]; exact ek) hk11 (by rw [b3, b4, b5, ← ekd, ← eav]; exact wf) (by rw [b0]; exact hS.1) htr b14 b18 (fun z => k7 (by rw [ekd, ek, z]; exact mutS_is7 hw2)) (by
        by_cases w0 : w = 0
        · refine Or.inl (fun z => k8 ?_)
          rw [ekd, ek, z, w0]; rfl
        · exact Or.inr (by omega)) (by
        by_cases w0 : w = 0
        · refine Or.inl (fun z => k9 ?_)
          rw [ekd, ek, z, w0]; rfl
        · exact Or.inr (by omega))
    rw [b3, b4, b5, ← ekd, ← eav, ← ebv, b0] at hwk
    have hq := aPlain_ok (b := bv (8 * pl + i)) (v := v) hp wf hS.1
    generalize aPlain (kd (8 * pl + i)) (av (8 * pl + i)) (bv (8 * pl + i)) pl v S.1 = q at hwk hq ⊢
    show MS f pl en tr S u (if q.2.2 = 0 then _ else _ : AO)
    unfold aDone at hwk
    by_cases q0 : q.2.2 = 0
    · rw [if_pos q0] at hwk ⊢
      refine fin 1 _ (q.2.1, aCov S.2.1 pl i, S.2.2.1 + 1, S.2.2.2 + 1) (i + 1) q.1 (one _ hwk) (by show 1 ≤ 2 * (S.2.2.2 + 1 - S.2.2.2); omega) (by show S.2.2.2 ≤ S.2.2.2 + 1; omega) ?_ ⟨hq, (hS1 (aCov S.2.1 pl i)).2⟩ ?_ ?_ (Nat.le_refl _) (by omega)
      · refine MF.tr bF ⟨fun r h0 _ _ _ _ h16 _ _ _ _ _ => by rw [wrA_n h0, wr_n h16], fun g hg => ⟨by rw [wrA_n (by decide), wr_n (by decide)], by rw [wrA_n (by decide), wr_s, upd_n (by omega)], by rw [wrA_n (by decide), wr_n (by decide)], by rw [wrA_n (by decide), wr_n (by decide)]⟩, by rw [wrA_n (by decide), wr_n (by decide)], fun k _ => by rw [wrA_n (by decide), wr_n (by decide)], fun j _ => by rw [wrA_n (by decide), wr_n (by decide)]⟩ (Nat.le_refl _)
      · exact ⟨wrA_s, by rw [wrA_n (by decide), wr_n (by decide)]; exact b6, by rw [wrA_n (by decide), wr_n (by decide)]; exact b8, by rw [wrA_n (by decide), wr_n (by decide)]; exact b21⟩
      · exact ⟨by rw [wrA_n (by decide), wr_n (by decide)]; exact b14, by rw [wrA_n (by decide), wr_n (by decide)]; exact b15, by rw [wrA_n (by decide), wr_n (by decide)]; exact b17, by rw [wrA_n (by decide), wr_s]; exact upd_s, fun g hg => by rw [wrA_n (by decide), wr_n (by decide)]; exact b18 g hg, by rw [wrA_n (by decide), wr_n (by decide)]; exact b25⟩
    · rw [if_neg q0] at hwk ⊢
      refine thr (v, (q.2.1, aCov S.2.1 pl i, S.2.2.1 + 1, S.2.2.2 + 1), q.2.2, q.2.2) q0 rfl _ hwk ?_ (by rw [wrA_n (by decide)]; exact b14) (fun g hg => by rw [wrA_n (by decide)]; exact b18 g hg) ?_ (by rw [wrA_n (by decide)]; exact b25)
      · exact ⟨wrA_s, by rw [wrA_n (by decide)]; exact b6, by rw [wrA_n (by decide)]; exact b8, by rw [wrA_n (by decide)]; exact b21⟩
      · refine MF.tr bF ⟨fun r h0 _ _ _ _ _ _ _ _ _ _ => wrA_n h0, fun g hg => ⟨by rw [wrA_n (by decide)], by rw [wrA_n (by decide)], by rw [wrA_n (by decide)], by rw [wrA_n (by decide)]⟩, by rw [wrA_n (by decide)], fun k _ => by rw [wrA_n (by decide)], fun j _ => by rw [wrA_n (by decide)]⟩ (Nat.le_refl _)
