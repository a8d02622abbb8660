/-! PURE: a CALL from outside, in the reference, whole. -/
theorem M_loop {kd av bv : Nat → Int32} {sz : Nat → Nat} {bd db nb : Nat → Int32} (hE : EnOk kd av sz bd db nb) {N pl ia : Nat} (hN : 36 ≤ N) {arg v1 v2 v3 v4 v5 : Int32} {ue u : Ug} {σ0 σ1 cov : Nat → Int32} (hS : SgOk σ0) (hp : pl < 12) (hS2 : StOk (σ1, cov, ia, 0)) (hR : MR ue (σ1, cov, ia, 0)) (hC : MC ue 0 pl 0 arg (fun _ => 0)) (zsz : ue 2 pl = nI (sz pl)) (hXe : MX ue kd av bv sz bd db nb) (z22 : ue 22 0 = 0) (z23 : ue 23 0 = 0) (k20 : ∀ j, j < 70 → ue 20 (70 * 0 + j) = σ0 j) (reu : ∀ r, r ≠ 0 → r ≠ 8 → ¬ (14 ≤ r ∧ r ≤ 29) → ue r = u r) :
    ∃ u1 : Ug, kM_outside 4096 v1 v2 v3 v4 v5 ue = some (0, u1) ∧ MO u u1 (if (aBlock kd av bv sz bd db nb N pl 0 (sz pl) arg 1 (σ1, cov, ia, 0)).2.2.1 = 0 then aBlock kd av bv sz bd db nb N pl 0 (sz pl) arg 1 (σ1, cov, ia, 0) else ((aBlock kd av bv sz bd db nb N pl 0 (sz pl) arg 1 (σ1, cov, ia, 0)).1, (σ0, (aBlock kd av bv sz bd db nb N pl 0 (sz pl) arg 1 (σ1, cov, ia, 0)).2.1.2), (aBlock kd av bv sz bd db nb N pl 0 (sz pl) arg 1 (σ1, cov, ia, 0)).2.2.1, (aBlock kd av bv sz bd db nb N pl 0 (sz pl) arg 1 (σ1, cov, ia, 0)).2.2.2)) := by
  have tr0 : ∀ g, g < 4 → (fun _ : Nat => 0) g ≤ 8 := fun _ _ => Nat.zero_le _
  have hszb := hE.2.1 pl hp
  have hOk := aBlock_ok (bv := bv) hE N pl 0 (sz pl) arg 1 _ hp hszb hS2
  have hth := aBlock_th (bv := bv) hE N pl 0 (sz pl) arg 1 (σ1, cov, ia, 0) hp hszb
  have hca := aBlock_ca (kd := kd) (av := av) (bv := bv) (sz := sz) (bd := bd) (db := db) (nb := nb) N pl 0 (sz pl) arg 1 (σ1, cov, ia, 0)
  have hms : MS 0 pl (sz pl) (fun _ => 0) (σ1, cov, ia, 0) ue (aBlock kd av bv sz bd db nb N pl 0 (sz pl) arg 1 (σ1, cov, ia, 0)) := M_block (bv := bv) hE N 0 pl 0 (sz pl) arg (fun _ => 0) (σ1, cov, ia, 0) ue (by omega) (Nat.zero_le _) hszb hp (by decide) (Nat.le_refl 0) tr0 hS2 hR hC (by rw [if_pos rfl]; exact zsz) hXe
  generalize aBlock kd av bv sz bd db nb N pl 0 (sz pl) arg 1 (σ1, cov, ia, 0) = r at hms hOk hth hca ⊢
  have hr100 := hOk.2.2
  rcases hms with ⟨r0, k1, u3, p1, p2, p3, p4, p5⟩ | ⟨r0, k1, w2, tr1, p1, p2, p3, p4, p5, p6, p7, p8, p9, p10⟩
  · rw [if_pos r0]
    have p1 : k1 ≤ 2 * (r.2.1.2.2.2 - 0) := p1
    obtain ⟨x14, x15, x17, x16, x18, x25⟩ := p4
    have y2 : u3 2 pl = nI (sz pl) := by rw [p5.1 2 (by decide) (by decide) (by decide) (by decide) (by decide) (by decide) (by decide) (by decide) (by decide) (by decide) (by decide)]; exact zsz
    have hret := M_goOn_out x14 x15 hp x17 (x18 0 (Nat.le_refl 0)) y2
    have hg := goN_add p2 (goN_1 x25 hret)
    have hk := kM_goN (v1 := v1) (v2 := v2) (v3 := v3) (v4 := v4) (v5 := v5) (n := 4095 - (k1 + 1) + 1) hg
    rw [show 4095 - (k1 + 1) + 1 + (k1 + 1) = 4096 by omega] at hk
    rw [hk]
    have f5 : ∀ q, q = 22 ∨ q = 23 → u3 q 0 = 0 := fun q hq => by
      rw [p5.1 q (by omega) (by omega) (by omega) (by omega) (by omega) (by omega) (by omega) (by omega) (by omega) (by omega) (by omega)]
      rcases hq with rfl | rfl
      · exact z22
      · exact z23
    refine M_fin ?_ ?_ ?_ ?_ ?_ ?_ (fun _ => ?_) ?_ (fun q a b c d => ?_) hth
    · rw [wr_n (by decide), wr_n (by decide), wr_n (by decide)]; exact p3.1
    · rw [wr_n (by decide), wr_n (by decide), wr_n (by decide)]; exact p3.2.1
    · rw [wr_n (by decide), wr_n (by decide), wr_n (by decide)]; exact p3.2.2.1
    · rw [wr_n (by decide), wr_n (by decide), wr_n (by decide)]; exact p3.2.2.2
    · rw [wr_n (by decide), wr_n (by decide), wr_n (by decide), f5 22 (Or.inl rfl)]; exact r0.symm
    · rw [wr_n (by decide), wr_n (by decide), wr_n (by decide), f5 23 (Or.inr rfl)]; exact (hca r0).symm
    · rw [wr_n (by decide), wr_s, upd_s]; exact x16
    · rw [wr_s]; exact upd_s
    · rw [wr_n (by omega), wr_n (by omega), wr_n (by omega), p5.1 q a b c (by omega) (by omega) (by omega) (by omega) (by omega) (by omega) (by omega) (by omega)]; exact reu q a c d
  · rw [if_neg r0]
    have p1 : k1 ≤ 2 * (r.2.1.2.2.2 - 0) + 1 := p1
    obtain ⟨w3, hw3⟩ : ∃ w3 : Ug, w3 = wr (aRest (10 * 0) w2) 14 0 (nI 0) := ⟨_, rfl⟩
    have hra : aRaise tr1 (0 + 1) r.2.2.1 r.2.2.2 w2 = wr (wr (wr w3 22 0 r.2.2.1) 23 0 r.2.2.2) 25 0 1 := by
      show (if r.2.2.1 ≠ 7 ∧ 0 < tr1 0 then _ else _ : Ug) = _
      rw [if_neg (fun z => by have h9 : tr1 0 = 0 := p8 z.1; omega), if_pos (Or.inr rfl), ← hw3]
      rfl
    rw [hra] at p2
    have hk := kM_goN (v1 := v1) (v2 := v2) (v3 := v3) (v4 := v4) (v5 := v5) (n := 4095 - k1 + 1) p2
    rw [show 4095 - k1 + 1 + k1 = 4096 by omega] at hk
    rw [hk]
    have x1 : ∀ q, q ≠ 0 → q ≠ 14 → w3 q = w2 q := fun q h0 h14 => by rw [hw3, wr_n h14]; unfold aRest; rw [wrA_n h0]
    have x0 : w3 0 = σ0 := by
      rw [hw3, wr_n (by decide)]; unfold aRest
      rw [wrA_s]
      refine C_kept (lev := 10 * 0) hS.2.2 (fun j hj => by rw [p3.1]; exact hOk.1.2.2 j hj) (fun j hj => ?_)
      rw [p9.2.2.2.2 _ (by omega)]
      exact k20 j hj
    refine M_fin (A := (r.1, (σ0, r.2.1.2), r.2.2.1, r.2.2.2)) ?_ ?_ ?_ ?_ ?_ ?_ (fun q => absurd q r0) ?_ (fun q a b c d => ?_) hth
    · rw [wr_n (by decide), wr_n (by decide), wr_n (by decide)]; exact x0
    · rw [wr_n (by decide), wr_n (by decide), wr_n (by decide), x1 6 (by decide) (by decide)]; exact p3.2.1
    · rw [wr_n (by decide), wr_n (by decide), wr_n (by decide), x1 8 (by decide) (by decide)]; exact p3.2.2.1
    · rw [wr_n (by decide), wr_n (by decide), wr_n (by decide), x1 21 (by decide) (by decide)]; exact p3.2.2.2
    · rw [wr_n (by decide), wr_n (by decide), wr_s]; exact upd_s
    · rw [wr_n (by decide), wr_s]; exact upd_s
    · rw [wr_s]; exact upd_s
    · rw [wr_n (by omega), wr_n (by omega), wr_n (by omega), x1 q a (by omega), p9.1 q a b c (by omega) (by omega) (by omega) (by omega) (by omega) (by omega) (by omega) (by omega)]; exact reu q a c d
