/-! PURE: the class's block, whole. -/
theorem C_block {kd av bv : Nat → Int32} {sz : Nat → Nat} {bd db nb : Nat → Int32} (hE : EnOk kd av sz bd db nb) : ∀ n : Nat, CB kd av bv sz bd db nb n := by
  intro n
  induction n with
  | zero => intro m j pl i en nx v op lev S u x2 x4 hn; omega
  | succ n ih =>
    intro m j pl i en nx v op lev S u x2 x4 hn hm hj hi hnx hx hp he h1 h4 hl hS hC hX
    obtain ⟨j0, rfl⟩ : ∃ j0, j = j0 + 1 := ⟨j - 1, by omega⟩
    show ∃ v1 u1, sC_Machine_block_10 _ _ _ _ (kC_Machine_block (rC m).1 (rC m).2.1 (rC m).2.2.1 (rC m).2.2.2 j0) _ _ _ _ _ _ _ _ _ _ = _ ∧ _
    unfold sC_Machine_block_10 aBlock
    by_cases c1 : en ≤ i
    · rw [if_pos (nI_le c1 (by omega)), if_pos c1]
      exact ⟨_, _, rfl, hC, CF.rf, fun _ => rfl⟩
    rw [if_neg (nI_ge (by omega) (by omega)), if_neg c1, if_neg (nI_nlt (by omega) (by omega)), C_threw]
    simp only [Option.bind_some]
    obtain ⟨a0, a2, a19, a20, a21, a22⟩ := id hC
    have hia := hS.2.1
    have hst := hS.2.2
    rw [a21, if_pos rfl, if_pos rfl, C_begins hp a19 a20 hia hst, nI_1]
    by_cases c2 : 100 ≤ S.2.2.2 ∨ 20000 ≤ S.2.2.1
    · rw [if_pos c2, if_pos c2]
      simp only [Option.bind_some]
      rw [if_pos trivial, C_thr he hx (by rw [wr_n (by decide), wr_s, upd_s]; decide) j0 (i + 1) (by omega) (by omega)]
      exact ⟨_, _, rfl, CR.raise hC, CF.raise, fun q => absurd (show (7 : Int32) = 0 from q) (by decide)⟩
    rw [if_neg c2, if_neg c2]
    simp only [Option.bind_some]
    rw [if_neg (by decide)]
    obtain ⟨ub, hub⟩ : ∃ ub : Ug, ub = wr (wr (wr u 20 0 (nI (S.2.2.2 + 1))) 19 0 (nI (S.2.2.1 + 1))) 2 pl (u 2 pl ||| aBit i) := ⟨_, rfl⟩
    rw [← hub]
    have b2 : ub 2 = aCov S.2.1 pl i := by
      rw [hub, wr_s, wr_n (by decide), wr_n (by decide), a2]; rfl
    have bR : CR ub (S.1, aCov S.2.1 pl i, S.2.2.1 + 1, S.2.2.2 + 1) 0 0 := by
      refine ⟨?_, b2, ?_, ?_, ?_, ?_⟩
      · rw [hub, wr_n (by decide), wr_n (by decide), wr_n (by decide)]; exact a0
      · rw [hub, wr_n (by decide), wr_s]; exact upd_s
      · rw [hub, wr_n (by decide), wr_n (by decide), wr_s]; exact upd_s
      · rw [hub, wr_n (by decide), wr_n (by decide), wr_n (by decide)]; exact a21
      · rw [hub, wr_n (by decide), wr_n (by decide), wr_n (by decide)]; exact a22
    have bF : CF lev u ub := ⟨fun r _ h2 _ h19 h20 _ _ => by rw [hub, wr_n h2, wr_n h19, wr_n h20], fun j _ => by rw [hub, wr_n (by decide), wr_n (by decide), wr_n (by decide)]⟩
    have bX := hX.of bF
    have hs : 8 * pl + i < 96 := by omega
    have wf := hE.1 _ hs
    have hS1 : ∀ cov, StOk (S.1, cov, S.2.2.1 + 1, S.2.2.2 + 1) := fun cov => ⟨hS.1, by show S.2.2.1 + 1 ≤ _; omega, by show S.2.2.2 + 1 ≤ _; omega⟩
    have es : nI pl * (8 : Int32) + nI i = nI (8 * pl + i) := by rw [lit_8, pk_mul, nI_add, Nat.mul_comm]
    rw [es, C_kind hs]
    simp only [Option.bind_some]
    rw [bX.1]
    have cont : ∀ (v' : Int32) (S' : AS) (u' : Ug) (e2 nx' : Nat), CR u' S' 0 0 → CF lev u u' → StOk S' → i + 1 ≤ e2 → e2 ≤ en → e2 ≤ nx' → (nx' ≤ e2 ∨ en ≤ e2) → nx' < 100 → ∃ (v1 : Int32) (u1 : Ug), kC_Machine_block (rC m).1 (rC m).2.1 (rC m).2.2.1 (rC m).2.2.2 j0 (nI pl) x2 (nI en) x4 (nI op) (nI lev) v' (nI nx') (nI (i + 1)) u' = some (v1, u1) ∧ CR u1 (aBlock kd av bv sz bd db nb n pl e2 en v' op S').2.1 (aBlock kd av bv sz bd db nb n pl e2 en v' op S').2.2.1 (aBlock kd av bv sz bd db nb n pl e2 en v' op S').2.2.2 ∧ CF lev u u1 ∧ ((aBlock kd av bv sz bd db nb n pl e2 en v' op S').2.2.1 = 0 → v1 = (aBlock kd av bv sz bd db nb n pl e2 en v' op S').1) := by
      intro v' S' u' e2 nx' hR hF hO q1 q2 q3 q4 q5
      obtain ⟨j1, hj1⟩ : ∃ j1, j0 = j1 + (e2 - (i + 1)) := ⟨j0 - (e2 - (i + 1)), by omega⟩
      rw [hj1, C_skip he q5 (e2 - (i + 1)) j1 (i + 1) (by omega) (by omega), show i + 1 + (e2 - (i + 1)) = e2 by omega]
      obtain ⟨v1, u1, g1, g2, g3, g4⟩ := ih m j1 pl e2 en nx' v' op lev S' u' x2 x4 (by omega) (by omega) (by omega) q2 q4 q5 hp he h1 h4 (by omega) hO hR (hX.of hF)
      exact ⟨v1, u1, g1, g2, CF.tr hF g3 (Nat.le_refl lev), g4⟩
    have cont0 : ∀ (v' : Int32) (S' : AS) (u' : Ug), CR u' S' 0 0 → CF lev u u' → StOk S' → ∃ (v1 : Int32) (u1 : Ug), kC_Machine_block (rC m).1 (rC m).2.1 (rC m).2.2.1 (rC m).2.2.2 j0 (nI pl) x2 (nI en) x4 (nI op) (nI lev) v' (nI nx) (nI (i + 1)) u' = some (v1, u1) ∧ CR u1 (aBlock kd av bv sz bd db nb n pl (i + 1) en v' op S').2.1 (aBlock kd av bv sz bd db nb n pl (i + 1) en v' op S').2.2.1 (aBlock kd av bv sz bd db nb n pl (i + 1) en v' op S').2.2.2 ∧ CF lev u u1 ∧ ((aBlock kd av bv sz bd db nb n pl (i + 1) en v' op S').2.2.1 = 0 → v1 = (aBlock kd av bv sz bd db nb n pl (i + 1) en v' op S').1) := by
      intro v' S' u' hR hF hO
      obtain ⟨v1, u1, g1, g2, g3, g4⟩ := ih m j0 pl (i + 1) en nx v' op lev S' u' x2 x4 (by omega) (by omega) (by omega) (by omega) (Or.inl (by omega)) hx hp he h1 h4 (by omega) hO hR (hX.of hF)
      exact ⟨v1, u1, g1, g2, CF.tr hF g3 (Nat.le_refl lev), g4⟩
    by_cases k9 : kd (8 * pl + i) = 9
    · rw [if_pos k9, if_pos k9, C_a hs]
      simp only [Option.bind_some]
      obtain ⟨a, ha, ea⟩ := wf.2.2.1 (Or.inr (Or.inl k9))
      rw [bX.2.1, ea, nI_add, nI_clamp (by omega)]
      obtain ⟨m', rfl⟩ : ∃ m', m = m' + 2 := ⟨m - 2, by omega⟩
      have emin : (if nI (i + 1 + a) < nI en then nI (i + 1 + a) else nI en) = nI (min (i + 1 + a) en) := by
        by_cases q : i + 1 + a < en
        · rw [if_pos (nI_lt q (by omega)), Nat.min_eq_left (by omega)]
        · rw [if_neg (nI_nlt (by omega) (by omega)), Nat.min_eq_right (by omega)]
      rw [emin]
      obtain ⟨e2, he2⟩ : ∃ e2, e2 = min (i + 1 + a) en := ⟨_, rfl⟩
      rw [← he2]
      have q1 : i + 1 ≤ e2 := by omega
      have q2 : e2 ≤ en := by omega
      obtain ⟨v1, u1, t1, t2, t3⟩ := C_tried hE ih (m := m') (pl := pl) (i := i + 1) (e2 := e2) (v := v) (op := op) (lev := lev) (S := (S.1, aCov S.2.1 pl i, S.2.2.1 + 1, S.2.2.2 + 1)) (u := ub) (by omega) (by omega) q1 hp (by omega) h1 h4 (by omega) (hS1 _) bR bX
      rw [t1]
      simp only [Option.bind_some]
      have hOk := aBlock_ok (bv := bv) hE n pl (i + 1) e2 v op _ hp (by omega) (hS1 (aCov S.2.1 pl i))
      generalize aBlock kd av bv sz bd db nb n pl (i + 1) e2 v op (S.1, aCov S.2.1 pl i, S.2.2.1 + 1, S.2.2.2 + 1) = r at t3 hOk ⊢
      have hF := CF.tr bF t2 (Nat.le_refl lev)
      rcases t3 with ⟨r0, rv, rR⟩ | ⟨r7, rR⟩ | ⟨r0, r7, rv, rR⟩
      · rw [rv]
        show ∃ v1 u1, _ ∧ CR u1 (if r.2.2.1 = 0 then _ else _ : AO).2.1 (if r.2.2.1 = 0 then _ else _ : AO).2.2.1 (if r.2.2.1 = 0 then _ else _ : AO).2.2.2 ∧ CF lev u u1 ∧ ((if r.2.2.1 = 0 then _ else _ : AO).2.2.1 = 0 → v1 = (if r.2.2.1 = 0 then _ else _ : AO).1)
        rw [if_pos r0]
        exact cont r.1 r.2.1 u1 e2 e2 rR hF hOk q1 q2 (Nat.le_refl _) (Or.inl (Nat.le_refl _)) (by omega)
      · show ∃ v1 u1, _ ∧ CR u1 (if r.2.2.1 = 0 then _ else _ : AO).2.1 (if r.2.2.1 = 0 then _ else _ : AO).2.2.1 (if r.2.2.1 = 0 then _ else _ : AO).2.2.2 ∧ CF lev u u1 ∧ ((if r.2.2.1 = 0 then _ else _ : AO).2.2.1 = 0 → v1 = (if r.2.2.1 = 0 then _ else _ : AO).1)
        have n0 : ¬ r.2.2.1 = 0 := by rw [r7]; decide
        rw [if_neg n0, if_pos r7, C_thr he (by omega) (by rw [rR.2.2.2.2.1]; decide) j0 (i + 1) (by omega) (by omega)]
        refine ⟨_, _, rfl, ?_, hF, fun q => absurd q n0⟩
        rw [r7]; exact rR
      · rw [rv]
        show ∃ v1 u1, _ ∧ CR u1 (if r.2.2.1 = 0 then _ else _ : AO).2.1 (if r.2.2.1 = 0 then _ else _ : AO).2.2.1 (if r.2.2.1 = 0 then _ else _ : AO).2.2.2 ∧ CF lev u u1 ∧ ((if r.2.2.1 = 0 then _ else _ : AO).2.2.1 = 0 → v1 = (if r.2.2.1 = 0 then _ else _ : AO).1)
        rw [if_neg r0, if_neg r7]
        exact cont r.2.2.1 (S.1, r.2.1.2) u1 e2 e2 rR hF ⟨hS.1, hOk.2⟩ q1 q2 (Nat.le_refl _) (Or.inl (Nat.le_refl _)) (by omega)
    rw [if_neg k9, if_neg k9]
    by_cases k7 : kd (8 * pl + i) = 7 ∨ kd (8 * pl + i) = 13
    · rw [if_pos k7]
      obtain ⟨a, ha, ea⟩ := wf.2.2.1 (by rcases k7 with k7 | k7; exact Or.inl k7; exact Or.inr (Or.inr k7))
      have ea2 : ub 4 (8 * pl + i) = nI a := by rw [bX.2.1, ea]
      have hpo := C_passedOver (v := v) (i := i) hp (by omega) ea2
      rw [bX.1, bX.2.2.1] at hpo
      rw [hpo, ea, nI_clamp (by omega)]
      generalize aPass (kd (8 * pl + i)) (bv (8 * pl + i)) v = ps
      obtain ⟨w, hw⟩ : ∃ w, w = if ps = true then a else 0 := ⟨_, rfl⟩
      have ew : (if ps = true then nI a else (0 : Int32)) = nI w := by rw [hw]; cases ps <;> rfl
      have hwb : w ≤ 8 := by rw [hw]; cases ps <;> simp <;> omega
      rw [ew, ← hw]
      simp only [Option.bind_some]
      rw [nI_add]
      have fin : ∃ (v1 : Int32) (u1 : Ug), kC_Machine_block (rC m).1 (rC m).2.1 (rC m).2.2.1 (rC m).2.2.2 j0 (nI pl) x2 (nI en) x4 (nI op) (nI lev) v (nI (i + 1 + w)) (nI (i + 1)) (wr ub 2 pl (ub 2 pl ||| aBit (i + if ps = true then 8 else 16))) = some (v1, u1) ∧ _ := cont v (S.1, aCov (aCov S.2.1 pl i) pl (i + if ps = true then 8 else 16), S.2.2.1 + 1, S.2.2.2 + 1) (wr ub 2 pl (ub 2 pl ||| aBit (i + if ps = true then 8 else 16))) (min (i + 1 + w) en) (i + 1 + w) (by
          obtain ⟨c0, c2', c19, c20, c21, c22⟩ := bR
          exact ⟨by rw [wr_n (by decide)]; exact c0, by rw [wr_s, c2']; rfl, by rw [wr_n (by decide)]; exact c19, by rw [wr_n (by decide)]; exact c20, by rw [wr_n (by decide)]; exact c21, by rw [wr_n (by decide)]; exact c22⟩)
        (CF.tr bF ⟨fun r _ h2 _ _ _ _ _ => wr_n h2, fun j _ => by rw [wr_n (by decide)]⟩ (Nat.le_refl lev)) (hS1 _) (by omega) (by omega) (by omega) (by omega) (by omega)
      rcases Decidable.em (kd (8 * pl + i) = 7) with z | z
      · rw [if_pos z]; exact fin
      · rw [if_neg z, if_pos (k7.resolve_left z)]; exact fin
    rw [if_neg k7, if_neg (fun q => k7 (Or.inl q)), if_neg (fun q => k7 (Or.inr q))]
    by_cases k8 : kd (8 * pl + i) = 8
    · rw [if_pos k8, if_pos k8, C_a hs]
      simp only [Option.bind_some]
      obtain ⟨f, hf, ef⟩ := wf.1 (Or.inr (Or.inr (Or.inr (Or.inr k8))))
      rw [bX.2.1, ef, nI_clamp (by omega), C_accountOf hp]
      simp only [Option.bind_some]
      obtain ⟨m', rfl⟩ : ∃ m', m = m' + 3 := ⟨m - 3, by omega⟩
      obtain ⟨v1, u1, t1, t2, t3, t4⟩ := C_asked hE ih (m := m') (pl := pl) (f := f) (v := v) (op := op) (lev := lev) (S := (S.1, aCov S.2.1 pl i, S.2.2.1 + 1, S.2.2.2 + 1)) (u := ub) (by omega) (by omega) hf hp h1 h4 (by omega) (hS1 _) bR bX
      rw [t1]
      simp only [Option.bind_some]
      have hF := CF.tr bF t2 (Nat.le_refl lev)
      unfold aAsk at t3 t4
      have thrown : ∀ r : AO, r.2.2.1 ≠ 0 → CR u1 r.2.1 r.2.2.1 r.2.2.2 → ∃ (w1 : Int32) (w2 : Ug), kC_Machine_block (rC (m' + 3)).1 (rC (m' + 3)).2.1 (rC (m' + 3)).2.2.1 (rC (m' + 3)).2.2.2 j0 (nI pl) x2 (nI en) x4 (nI op) (nI lev) v1 (nI nx) (nI (i + 1)) u1 = some (w1, w2) ∧ CR w2 r.2.1 r.2.2.1 r.2.2.2 ∧ CF lev u w2 ∧ (r.2.2.1 = 0 → w1 = r.1) := by
        intro r hr hR
        rw [C_thr he hx (by rw [hR.2.2.2.2.1]; exact hr) j0 (i + 1) (by omega) (by omega)]
        exact ⟨_, _, rfl, hR, hF, fun q => absurd q hr⟩
      show ∃ w1 w2, _ ∧ CR w2 (if db f = 1 then _ else _ : AO).2.1 (if db f = 1 then _ else _ : AO).2.2.1 (if db f = 1 then _ else _ : AO).2.2.2 ∧ CF lev u w2 ∧ ((if db f = 1 then _ else _ : AO).2.2.1 = 0 → w1 = (if db f = 1 then _ else _ : AO).1)
      by_cases d1 : db f = 1
      · rw [if_pos d1] at t3 t4 ⊢
        rw [t4 rfl]
        exact cont0 (nb f) _ u1 t3 hF (hS1 _)
      rw [if_neg d1] at t3 t4 ⊢
      by_cases d2 : db f = 2
      · rw [if_pos d2] at t3 t4 ⊢
        exact thrown (v, (S.1, aCov S.2.1 pl i, S.2.2.1 + 1, S.2.2.2 + 1), 5, 20 + nb f) (show (5 : Int32) ≠ 0 by decide) t3
      rw [if_neg d2] at t3 t4 ⊢
      by_cases d3 : bd f = -1
      · rw [if_pos d3] at t3 t4 ⊢
        exact thrown (v, (S.1, aCov S.2.1 pl i, S.2.2.1 + 1, S.2.2.2 + 1), 5, 3) (show (5 : Int32) ≠ 0 by decide) t3
      rw [if_neg d3] at t3 t4 ⊢
      by_cases d4 : 4 ≤ op
      · rw [if_pos d4] at t3 t4 ⊢
        exact thrown (v, (S.1, aCov S.2.1 pl i, S.2.2.1 + 1, S.2.2.2 + 1), 5, 4) (show (5 : Int32) ≠ 0 by decide) t3
      rw [if_neg d4] at t3 t4 ⊢
      by_cases d5 : 20000 ≤ S.2.2.1 + 1
      · rw [if_pos d5] at t3 t4 ⊢
        exact thrown (v, (S.1, aCov S.2.1 pl i, S.2.2.1 + 1, S.2.2.2 + 1), 7, 7) (show (7 : Int32) ≠ 0 by decide) t3
      rw [if_neg d5] at t3 t4 ⊢
      obtain ⟨mq, hmq, emq⟩ := (hE.2.2.1 f hf).resolve_left d3
      have hOk := aBlock_ok (bv := bv) hE n (bd f).toNatClampNeg 0 (sz (bd f).toNatClampNeg) v (op + 1) (S.1, aCov S.2.1 pl i, S.2.2.1 + 1 + 1, S.2.2.2 + 1) (by rw [emq, nI_clamp (by omega)]; exact hmq) (by rw [emq, nI_clamp (by omega)]; exact hE.2.1 mq hmq) ⟨hS.1, by show S.2.2.1 + 1 + 1 ≤ _; omega, (hS1 (aCov S.2.1 pl i)).2.2⟩
      have hb : StOk (aBack S.1 (aBlock kd av bv sz bd db nb n (bd f).toNatClampNeg 0 (sz (bd f).toNatClampNeg) v (op + 1) (S.1, aCov S.2.1 pl i, S.2.2.1 + 1 + 1, S.2.2.2 + 1))).2.1 := by
        unfold aBack
        split
        · exact hOk
        · exact ⟨hS.1, hOk.2⟩
      have hbc : (aBack S.1 (aBlock kd av bv sz bd db nb n (bd f).toNatClampNeg 0 (sz (bd f).toNatClampNeg) v (op + 1) (S.1, aCov S.2.1 pl i, S.2.2.1 + 1 + 1, S.2.2.2 + 1))).2.2.1 = 0 → (aBack S.1 (aBlock kd av bv sz bd db nb n (bd f).toNatClampNeg 0 (sz (bd f).toNatClampNeg) v (op + 1) (S.1, aCov S.2.1 pl i, S.2.2.1 + 1 + 1, S.2.2.2 + 1))).2.2.2 = 0 := by
        unfold aBack
        split
        · exact aBlock_ca _ _ _ _ _ _ _
        · intro q
          exfalso
          revert q
          show ¬ (if _ then (7 : Int32) else 5) = 0
          split <;> decide
      have t3' : CR u1 (aBack S.1 (aBlock kd av bv sz bd db nb n (bd f).toNatClampNeg 0 (sz (bd f).toNatClampNeg) v (op + 1) (S.1, aCov S.2.1 pl i, S.2.2.1 + 1 + 1, S.2.2.2 + 1))).2.1 (aBack S.1 (aBlock kd av bv sz bd db nb n (bd f).toNatClampNeg 0 (sz (bd f).toNatClampNeg) v (op + 1) (S.1, aCov S.2.1 pl i, S.2.2.1 + 1 + 1, S.2.2.2 + 1))).2.2.1 (aBack S.1 (aBlock kd av bv sz bd db nb n (bd f).toNatClampNeg 0 (sz (bd f).toNatClampNeg) v (op + 1) (S.1, aCov S.2.1 pl i, S.2.2.1 + 1 + 1, S.2.2.2 + 1))).2.2.2 := t3
      have t4' : (aBack S.1 (aBlock kd av bv sz bd db nb n (bd f).toNatClampNeg 0 (sz (bd f).toNatClampNeg) v (op + 1) (S.1, aCov S.2.1 pl i, S.2.2.1 + 1 + 1, S.2.2.2 + 1))).2.2.1 = 0 → v1 = (aBack S.1 (aBlock kd av bv sz bd db nb n (bd f).toNatClampNeg 0 (sz (bd f).toNatClampNeg) v (op + 1) (S.1, aCov S.2.1 pl i, S.2.2.1 + 1 + 1, S.2.2.2 + 1))).1 := t4
      show ∃ w1 w2, _ ∧ CR w2 (if (aBack S.1 (aBlock kd av bv sz bd db nb n (bd f).toNatClampNeg 0 (sz (bd f).toNatClampNeg) v (op + 1) (S.1, aCov S.2.1 pl i, S.2.2.1 + 1 + 1, S.2.2.2 + 1))).2.2.1 = 0 then _ else _ : AO).2.1 (if (aBack S.1 (aBlock kd av bv sz bd db nb n (bd f).toNatClampNeg 0 (sz (bd f).toNatClampNeg) v (op + 1) (S.1, aCov S.2.1 pl i, S.2.2.1 + 1 + 1, S.2.2.2 + 1))).2.2.1 = 0 then _ else _ : AO).2.2.1 (if (aBack S.1 (aBlock kd av bv sz bd db nb n (bd f).toNatClampNeg 0 (sz (bd f).toNatClampNeg) v (op + 1) (S.1, aCov S.2.1 pl i, S.2.2.1 + 1 + 1, S.2.2.2 + 1))).2.2.1 = 0 then _ else _ : AO).2.2.2 ∧ CF lev u w2 ∧ ((if (aBack S.1 (aBlock kd av bv sz bd db nb n (bd f).toNatClampNeg 0 (sz (bd f).toNatClampNeg) v (op + 1) (S.1, aCov S.2.1 pl i, S.2.2.1 + 1 + 1, S.2.2.2 + 1))).2.2.1 = 0 then _ else _ : AO).2.2.1 = 0 → w1 = (if (aBack S.1 (aBlock kd av bv sz bd db nb n (bd f).toNatClampNeg 0 (sz (bd f).toNatClampNeg) v (op + 1) (S.1, aCov S.2.1 pl i, S.2.2.1 + 1 + 1, S.2.2.2 + 1))).2.2.1 = 0 then _ else _ : AO).1)
      generalize aBack S.1 (aBlock kd av bv sz bd db nb n (bd f).toNatClampNeg 0 (sz (bd f).toNatClampNeg) v (op + 1) (S.1, aCov S.2.1 pl i, S.2.2.1 + 1 + 1, S.2.2.2 + 1)) = r at t3' t4' hb hbc ⊢
      by_cases r0 : r.2.2.1 = 0
      · rw [if_pos r0, t4' r0]
        exact cont0 r.1 r.2.1 u1 (by rw [r0, hbc r0] at t3'; exact t3') hF hb
      · rw [if_neg r0]
        exact thrown r r0 t3'
    rw [if_neg k8, if_neg k8]
    obtain ⟨e, he1, he2⟩ := hS.1.2.1
    obtain ⟨u1, p1, p2, p3, p4, p5⟩ := C_plain (v := v) hp hs (u := ub) (by rw [bX.1, bX.2.1]; exact wf) (by rw [bR.1]; exact he2) he1 bR.2.2.2.2.1 bR.2.2.2.2.2
    rw [bX.1, bX.2.1, bX.2.2.1, bR.1] at p1 p2 p3 p4
    rw [p1]
    simp only [Option.bind_some]
    have hq := aPlain_ok (b := bv (8 * pl + i)) (v := v) hp wf hS.1
    generalize aPlain (kd (8 * pl + i)) (av (8 * pl + i)) (bv (8 * pl + i)) pl v S.1 = q at p1 p2 p3 p4 hq ⊢
    have pF : CF lev u u1 := CF.tr bF ⟨fun r h0 _ _ _ _ h21 h22 => p5 r h0 h21 h22, fun j _ => by rw [p5 9 (by decide) (by decide) (by decide)]⟩ (Nat.le_refl lev)
    have pR : CR u1 (q.2.1, aCov S.2.1 pl i, S.2.2.1 + 1, S.2.2.2 + 1) q.2.2 q.2.2 := ⟨p2, by rw [p5 2 (by decide) (by decide) (by decide)]; exact b2, by rw [p5 19 (by decide) (by decide) (by decide)]; exact bR.2.2.1, by rw [p5 20 (by decide) (by decide) (by decide)]; exact bR.2.2.2.1, p3, p4⟩
    show ∃ v1 u1, _ ∧ CR u1 (if q.2.2 = 0 then _ else _ : AO).2.1 (if q.2.2 = 0 then _ else _ : AO).2.2.1 (if q.2.2 = 0 then _ else _ : AO).2.2.2 ∧ CF lev u u1 ∧ ((if q.2.2 = 0 then _ else _ : AO).2.2.1 = 0 → v1 = (if q.2.2 = 0 then _ else _ : AO).1)
    by_cases q0 : q.2.2 = 0
    · rw [if_pos q0]
      rw [q0] at pR
      exact cont0 q.1 _ u1 pR pF ⟨hq, (hS1 (aCov S.2.1 pl i)).2⟩
    · rw [if_neg q0, C_thr he hx (by rw [pR.2.2.2.2.1]; exact q0) j0 (i + 1) (by omega) (by omega)]
      exact ⟨_, _, rfl, pR, pF, fun z => absurd z q0⟩
