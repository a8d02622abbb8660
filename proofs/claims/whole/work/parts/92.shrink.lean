/-! PURE: shrink. -/
def ShR (uC uM : Ug) (t n : Nat) (mk : Int32) : Prop := EndR (uC 0) uC uM ∧ IvC uC uM ∧ uM 33 0 = 0 ∧ IvJ uC uM ∧ LnR uC uM t n mk ∧ ∀ t', t' < 6 → t' ≠ t → IvL1 uC uM t'
section
variable {t n i0 : Nat}
/-- one LINE tried: it goes in both, or stays in both -/
theorem S3 {mk : Int32} {uC uM : Ug} {i : Nat} (h : ShR uC uM t n mk) (hi : i < n) (b : ¬ loB mk i = true) (h0 : i0 < n) (b0 : ¬ loB mk i0 = true) :
    ∃ (v : Ug) (rC rM : Int32) (vC vM : Ug), fM_remove (nI t) (nI (kp mk i)) uM = some (0, v) ∧ fC_Runner_failingLine (nI t) (mk ||| ((1 : Int32) <<< (nI i &&& 31))) uC = some (rC, vC) ∧ fM_runs (nI t) v = some (rM, vM) ∧ Same (mk ||| ((1 : Int32) <<< (nI i &&& 31))) n rC rM ∧ ShR vC vM t n (mk ||| ((1 : Int32) <<< (nI i &&& 31))) ∧ ∃ z : Ug, fM_giveBack (nI t) (nI (kp mk i)) vM = some (0, z) ∧ ShR vC z t n mk := by
  obtain ⟨h1, h2, h3, h4, h5, h6⟩ := h
  obtain ⟨ht, hn, l1, l2, l3⟩ := id h5
  have hk := kp_le (mk := mk) n
  have hj := kp_lt b hi
  obtain ⟨v, a1, a2, a3, a4, a5⟩ := M_remove ht (show kp mk n ≤ 16 by omega) hj l2
  have L1 := h5.remove hi b a2 a3
  have R1 : EndR (uC 0) uC v := h1.of (fun r _ => rfl) (fun r hr => a4 r (by omega) (by omega) (by omega))
  have C1 : IvC uC v := h2.of (fun r _ => rfl) (fun r hr => a4 r (by omega) (by omega) (by omega))
  have v33 : v 33 0 = 0 := by rw [a4 33 (by omega) (by omega) (by omega)]; exact h3
  obtain ⟨rC, rM, vC, vM, e1, e2, hs, hR, kC, kM⟩ := run_both R1 (C1.re v33) L1
  have s0 : vC 0 = uC 0 := hR.2.2.1
  refine ⟨v, rC, rM, vC, vM, a1, e1, e2, hs, ⟨by rw [s0]; exact hR, C1.of (fun r hr => kC r (by omega)) (fun r hr => kM r (by omega)), by rw [kM 33 (by omega)]; exact v33, ?_, L1.of kC kM, fun t' ht' ne => ?_⟩, ?_⟩
  · exact h4.of (fun r hr => kC r (by omega)) (fun r hr => by rw [kM r (by omega), a4 r (by omega) (by omega) (by omega)])
  · refine (h6 t' ht' ne).of (by rw [kC 10 (by omega)]) (by rw [kM 9 (by omega), a2, upd_n ne]) (fun x hx i hi => by rw [kC x (by omega)]) (fun x hx i hi => ?_)
    rw [kM x (by omega), a3 x hx, if_neg (by omega)]
  · obtain ⟨z, f1, f2, f3⟩ := M_back ht (show kp mk n ≤ 16 by omega) hj l2 a2 a3 a5 kM
    have ez : ∀ r, (1 ≤ r ∧ r ≤ 5) ∨ r = 7 ∨ (9 ≤ r ∧ r ≤ 13) ∨ r = 33 ∨ r = 40 ∨ r = 41 → z r = uM r := by
      intro r hr
      by_cases c : 9 ≤ r ∧ r ≤ 13
      · exact f2 r c
      · rw [f3 r c, kM r (by omega), a4 r (by omega) (by omega) (by omega)]
    refine ⟨z, f1, ?_, h2.of (fun r hr => kC r (by omega)) (fun r hr => ez r (by omega)), by rw [ez 33 (by omega)]; exact h3, h4.of (fun r hr => kC r (by omega)) (fun r hr => ez r (by omega)), ?_, fun t' ht' ne => ?_⟩
    · rw [s0]
      exact hR.of (fun r _ => rfl) (fun r hr => f3 r (by omega))
    · unfold LnR
      rw [kC 10 (by omega), kC 11 (by omega), kC 12 (by omega), kC 13 (by omega), kC 14 (by omega), ez 9 (by omega), ez 10 (by omega), ez 11 (by omega), ez 12 (by omega), ez 13 (by omega)]
      exact h5
    · exact (h6 t' ht' ne).of (by rw [kC 10 (by omega)]) (by rw [ez 9 (by omega)]) (fun x hx i hi => by rw [kC x (by omega)]) (fun x hx i hi => by rw [ez x (by omega)])
/-- one round over the LINES -/
theorem S2 {rd : Int32} (h0 : i0 < n) : ∀ (d qC qM i : Nat) (mk wt : Int32) (uC uM : Ug), i + d = n → d < qC → d < qM → ShR uC uM t n mk → ¬ loB mk i0 = true → ∃ (mk' wt' : Int32) (qC' qM' : Nat) (vC vM : Ug), qC ≤ qC' + d + 1 ∧ qM ≤ qM' + d + 1 ∧ (kC_shrink qC).2 (nI t) (nI i0) (nI n) mk wt rd (nI i) uC = (kC_shrink qC').1 (nI t) (nI i0) (nI n) mk' wt' (rd + 1) vC ∧ (kM_shrink qM).2 (nI t) (nI (kp mk i0)) wt (nI (kp mk i)) uM = (kM_shrink qM').1 (nI t) (nI (kp mk' i0)) wt' vM ∧ ShR vC vM t n mk' ∧ ¬ loB mk' i0 = true ∧ ((wt' = wt ∧ mk' = mk) ∨ (wt' = 1 ∧ kp mk' n < kp mk n)) := by
  intro d
  induction d with
  | zero =>
    intro qC qM i mk wt uC uM hi hC hM h b0
    obtain ⟨qC, rfl⟩ : ∃ q', qC = q' + 1 := ⟨qC - 1, by omega⟩
    obtain ⟨qM, rfl⟩ : ∃ q', qM = q' + 1 := ⟨qM - 1, by omega⟩
    have e : i = n := by omega
    subst e
    obtain ⟨ht, hn, l1, l2, -⟩ := id h.2.2.2.2.1
    have hk := kp_le (mk := mk) i
    refine ⟨mk, wt, qC, qM, uC, uM, by omega, by omega, ?_, ?_, h, b0, Or.inl ⟨rfl, rfl⟩⟩
    · show sC_shrink_62 (kC_shrink qC).1 (kC_shrink qC).2 _ _ _ _ _ _ _ _ = _
      unfold sC_shrink_62
      rw [if_pos (nI_le (Nat.le_refl _) (by omega))]
    · show sM_shrink_38 (kM_shrink qM).1 (kM_shrink qM).2 _ _ _ _ _ = _
      unfold sM_shrink_38
      rw [pu_rd ht (by omega), Option.bind_some, l2, if_pos (nI_le (Nat.le_refl _) (by omega))]
  | succ d ih =>
    intro qC qM i mk wt uC uM hi hC hM h b0
    obtain ⟨qC, rfl⟩ : ∃ q', qC = q' + 1 := ⟨qC - 1, by omega⟩
    obtain ⟨ht, hn, l1, l2, -⟩ := id h.2.2.2.2.1
    have eC : (kC_shrink (qC + 1)).2 (nI t) (nI i0) (nI n) mk wt rd (nI i) uC = if (mk ||| ((1 : Int32) <<< (nI i &&& 31))) = mk then (kC_shrink qC).2 (nI t) (nI i0) (nI n) mk wt rd (nI (i + 1)) uC else
      (fC_Runner_failingLine (nI t) (mk ||| ((1 : Int32) <<< (nI i &&& 31))) uC).bind fun q12 =>
      if q12.1 = nI i0 then
        (kC_shrink qC).2 (nI t) (nI i0) (nI n) (mk ||| ((1 : Int32) <<< (nI i &&& 31))) (1 : Int32) rd (nI (i + 1)) q12.2
      else
        (kC_shrink qC).2 (nI t) (nI i0) (nI n) mk wt rd (nI (i + 1)) q12.2 := by
      show sC_shrink_62 (kC_shrink qC).1 (kC_shrink qC).2 _ _ _ _ _ _ _ _ = _
      unfold sC_shrink_62
      rw [if_neg (nI_ge (by omega) (by omega)), nI_1]
    rw [eC]
    by_cases b : loB mk i = true
    · rw [if_pos ((or_eq (by omega)).mpr b)]
      obtain ⟨mk', wt', qC', qM', vC, vM, y1, y2, y3, y4, y5⟩ := ih qC qM (i + 1) mk wt uC uM (by omega) (by omega) (by omega) h b0
      rw [kp_in b] at y4
      exact ⟨mk', wt', qC', qM', vC, vM, by omega, by omega, y3, y4, y5⟩
    rw [if_neg (fun z => b ((or_eq (by omega)).mp z))]
    obtain ⟨qM, rfl⟩ : ∃ q', qM = q' + 1 := ⟨qM - 1, by omega⟩
    have hk := kp_le (mk := mk) n
    have hj := kp_lt b (show i < n by omega)
    have hj0 := kp_lt b0 h0
    obtain ⟨v, rC, rM, vC, vM, a1, a2, a3, hs, hS, z, a4, hZ⟩ := S3 h (show i < n by omega) b h0 b0
    have bo := lo_or (m := mk) (show i < 32 by omega) (show i0 < 32 by omega)
    have hkn := kp_or (mk := mk) (show i < 32 by omega) b (q := n) (by omega) (by omega)
    have hki := kp_or_le (mk := mk) (show i < 32 by omega) i (Nat.le_refl _)
    obtain ⟨m, hm⟩ : ∃ m, m = (mk ||| ((1 : Int32) <<< (nI i &&& 31))) := ⟨_, rfl⟩
    rw [← hm] at a2 hs hS bo hkn hki
    rw [← hm, a2, Option.bind_some]
    dsimp only
    have bm : loB m i = true := by
      have := lo_or (m := mk) (show i < 32 by omega) (show i < 32 by omega)
      rw [← hm] at this
      rw [this]; simp
    -- the reference's turn, up to its decision
    have eM : ∀ x : Int32, (x = if kp mk i0 ≤ kp mk i then (if kp mk i = kp mk i0 then 16 else nI (kp mk i0)) else nI (kp mk i0 - 1)) → (kM_shrink (qM + 1)).2 (nI t) (nI (kp mk i0)) wt (nI (kp mk i)) uM = if rM = x then (kM_shrink qM).2 (nI t) x 1 (nI (kp mk i)) vM else (kM_shrink qM).2 (nI t) (nI (kp mk i0)) wt (nI (kp mk i + 1)) z := by
      intro x hx
      show sM_shrink_38 (kM_shrink qM).1 (kM_shrink qM).2 _ _ _ _ _ = _
      unfold sM_shrink_38
      rw [pu_rd ht (by omega), Option.bind_some, l2, if_neg (nI_ge hj (by omega)), a1, Option.bind_some]
      dsimp only
      rw [a3]
      simp only [Option.bind_some]
      rw [a4]
      simp only [Option.bind_some]
      rw [nI_1]
      by_cases c1 : kp mk i0 ≤ kp mk i
      · rw [if_pos (nI_le c1 (by omega))]
        rw [if_pos c1] at hx
        by_cases c2 : kp mk i = kp mk i0
        · rw [if_pos c2] at hx
          rw [if_pos (by rw [c2]), hx]
        · rw [if_neg c2] at hx
          rw [if_neg (fun q => c2 ((nI_eq (by omega) (by omega)).mp q)), hx]
      · rw [if_neg (nI_ge (by omega) (by omega))]
        rw [if_neg c1] at hx
        have es : nI (kp mk i0) - (1 : Int32) = nI (kp mk i0 - 1) := by rw [lit_1, pk_sub (by omega)]
        rw [es, hx]
    -- the LINE that FAILS itself
    have stay : ¬ rC = nI i0 → (kM_shrink (qM + 1)).2 (nI t) (nI (kp mk i0)) wt (nI (kp mk i)) uM = (kM_shrink qM).2 (nI t) (nI (kp mk i0)) wt (nI (kp mk i + 1)) z → ∃ (mk' wt' : Int32) (qC' qM' : Nat) (wC wM : Ug), qC + 1 ≤ qC' + (d + 1) + 1 ∧ qM + 1 ≤ qM' + (d + 1) + 1 ∧ (if rC = nI i0 then (kC_shrink qC).2 (nI t) (nI i0) (nI n) m (1 : Int32) rd (nI (i + 1)) vC else (kC_shrink qC).2 (nI t) (nI i0) (nI n) mk wt rd (nI (i + 1)) vC) = (kC_shrink qC').1 (nI t) (nI i0) (nI n) mk' wt' (rd + 1) wC ∧ (kM_shrink (qM + 1)).2 (nI t) (nI (kp mk i0)) wt (nI (kp mk i)) uM = (kM_shrink qM').1 (nI t) (nI (kp mk' i0)) wt' wM ∧ ShR wC wM t n mk' ∧ ¬ loB mk' i0 = true ∧ ((wt' = wt ∧ mk' = mk) ∨ (wt' = 1 ∧ kp mk' n < kp mk n)) := by
      intro n1 n2
      obtain ⟨mk', wt', qC', qM', wC, wM, y1, y2, y3, y4, y5⟩ := ih qC qM (i + 1) mk wt vC z (by omega) (by omega) (by omega) hZ b0
      rw [kp_out b] at y4
      exact ⟨mk', wt', qC', qM', wC, wM, by omega, by omega, by rw [if_neg n1]; exact y3, n2.trans y4, y5⟩
    by_cases c : i = i0
    · subst c
      have r1 : ¬ rC = nI i := by
        intro q
        rcases hs with ⟨g1, -⟩ | ⟨p, hp, bp, g1, -⟩
        · rw [g1] at q
          have := pu_ne_m1 (show i < 2 ^ 31 by omega)
          exact absurd q.symm (by rw [this]; exact id)
        · rw [g1] at q
          have := (nI_eq (by omega) (by omega)).mp q
          subst this
          exact bp bm
      have r2 : ¬ rM = (16 : Int32) := by
        intro q
        rcases hs with ⟨-, g1⟩ | ⟨p, hp, bp, -, g1⟩
        · rw [g1] at q; exact absurd q (by decide)
        · rw [g1, lit_16] at q
          have k1 := kp_le (mk := m) p
          have := (nI_eq (by omega) (by omega)).mp q
          omega
      refine stay r1 ?_
      rw [eM 16 (by rw [if_pos (Nat.le_refl _), if_pos rfl]), if_neg r2]
    · have b1 : ¬ loB m i0 = true := by
        rw [bo]
        have : decide (i0 = i) = false := by simp; omega
        rw [this, Bool.or_false]; exact b0
      have hx : nI (kp m i0) = if kp mk i0 ≤ kp mk i then (if kp mk i = kp mk i0 then 16 else nI (kp mk i0)) else nI (kp mk i0 - 1) := by
        by_cases lt : i < i0
        · have y1 := kp_lt b lt
          have y2 := kp_or (mk := mk) (show i < 32 by omega) b (q := i0) (by omega) lt
          rw [← hm] at y2
          rw [if_neg (by omega), show kp m i0 = kp mk i0 - 1 by omega]
        · have y1 := kp_lt b0 (show i0 < i by omega)
          have y2 := kp_or_le (mk := mk) (show i < 32 by omega) i0 (by omega)
          rw [← hm] at y2
          rw [if_pos (by omega), if_neg (by omega), y2]
      have iff := hs.iff hn h0 b1
      have em := eM _ hx
      by_cases r1 : rC = nI i0
      · obtain ⟨mk', wt', qC', qM', wC, wM, y1, y2, y3, y4, y5, y6, y7⟩ := ih qC qM (i + 1) m 1 vC vM (by omega) (by omega) (by omega) hS b1
        rw [kp_in bm, hki] at y4
        refine ⟨mk', wt', qC', qM', wC, wM, by omega, by omega, by rw [if_pos r1]; exact y3, ?_, y5, y6, ?_⟩
        · rw [em, if_pos (iff.mp r1)]; exact y4
        · rcases y7 with ⟨g1, g2⟩ | ⟨g1, g2⟩
          · exact Or.inr ⟨g1, by rw [g2]; omega⟩
          · exact Or.inr ⟨g1, by omega⟩
      · exact stay r1 (by rw [em, if_neg (fun q => r1 (iff.mpr q))])
/-- the end: the LINES that are left out go in the class too -/
theorem S0 {mk : Int32} {uC uM : Ug} (h : ShR uC uM t n mk) : ∃ v : Ug, fC_Scripts_dropLines (nI t) mk uC = some (nI (kp mk n), v) ∧ Inv v uM := by
  obtain ⟨h1, h2, h3, h4, ⟨ht, hn, l1, l2, l3⟩, h6⟩ := h
  have hk := kp_le (mk := mk) n
  obtain ⟨v, e1, e2, e3, e4, e5⟩ := C_dropLines (mk := mk) ht hn l1
  have R : EndR (uC 0) v uM := h1.of (fun r hr => e5 r (by omega)) (fun r _ => rfl)
  refine ⟨v, e1, ⟨R.1.1, R.1.2.1⟩, h2.of (fun r hr => e5 r (by omega)) (fun r _ => rfl), ⟨R.1.2.2.1, R.1.2.2.2, R.2.2.2, h3⟩, R.2.1, fun t' ht' => ?_, h4.of (fun r hr => e5 r (by omega)) (fun r _ => rfl)⟩
  by_cases c : t' = t
  · subst c
    refine ⟨kp mk n, by omega, by rw [e2, upd_s], l2, fun p hp => ?_⟩
    obtain ⟨q, hq, bq, eq⟩ := kp_surj n p hp
    subst eq
    rw [e3 11 (by omega) q hq bq, e3 12 (by omega) q hq bq, e3 13 (by omega) q hq bq, e3 14 (by omega) q hq bq]
    exact l3 q hq bq
  · exact (h6 t' ht' c).of (by rw [e2, upd_n c]) rfl (fun x hx i hi => e4 x hx _ (by omega)) (fun x hx i hi => rfl)
theorem S1 (h0 : i0 < n) : ∀ (K qC qM rd : Nat) (mk : Int32) (uC uM : Ug), kp mk n ≤ K → rd + kp mk n ≤ n → 20 * K + 40 ≤ qC → 20 * K + 40 ≤ qM → ShR uC uM t n mk → ¬ loB mk i0 = true → ∃ (r : Int32) (vC vM : Ug), (kC_shrink qC).1 (nI t) (nI i0) (nI n) mk 1 (nI rd) uC = some (r, vC) ∧ (kM_shrink qM).1 (nI t) (nI (kp mk i0)) 1 uM = some (r, vM) ∧ Inv vC vM := by
  intro K
  induction K with
  | zero =>
    intro qC qM rd mk uC uM hK hrd hC hM h b0
    have := kp_lt b0 h0
    omega
  | succ K ih =>
    intro qC qM rd mk uC uM hK hrd hC hM h b0
    obtain ⟨ht, hn, -, -, -⟩ := id h.2.2.2.2.1
    obtain ⟨qC, rfl⟩ : ∃ q', qC = q' + 1 := ⟨qC - 1, by omega⟩
    obtain ⟨qM, rfl⟩ : ∃ q', qM = q' + 1 := ⟨qM - 1, by omega⟩
    obtain ⟨mk', wt', qC', qM', vC, vM, y1, y2, y3, y4, y5, y6, y7⟩ := S2 (rd := nI rd) h0 n qC qM 0 mk 0 uC uM (by omega) (by omega) (by omega) h b0
    have e1 : (kC_shrink (qC + 1)).1 (nI t) (nI i0) (nI n) mk 1 (nI rd) uC = (kC_shrink qC).2 (nI t) (nI i0) (nI n) mk 0 (nI rd) (nI 0) uC := by
      show sC_shrink_45 (kC_shrink qC).1 (kC_shrink qC).2 (nI t) (nI i0) (nI n) mk 1 (nI rd) uC = _
      unfold sC_shrink_45
      rw [if_neg (show ¬ ((1 : Int32) = 0) by decide), if_neg (nI_nlt (by omega) (by omega))]
      rfl
    have e2 : (kM_shrink (qM + 1)).1 (nI t) (nI (kp mk i0)) 1 uM = (kM_shrink qM).2 (nI t) (nI (kp mk i0)) 0 (nI 0) uM := by
      show sM_shrink_29 (kM_shrink qM).1 (kM_shrink qM).2 (nI t) (nI (kp mk i0)) 1 uM = _
      unfold sM_shrink_29
      rw [if_neg (show ¬ ((1 : Int32) = 0) by decide)]
      rfl
    rw [e1, e2, y3]
    have y4 : (kM_shrink qM).2 (nI t) (nI (kp mk i0)) 0 (nI 0) uM = (kM_shrink qM').1 (nI t) (nI (kp mk' i0)) wt' vM := y4
    rw [y4]
    rcases y7 with ⟨g1, g2⟩ | ⟨g1, g2⟩
    · obtain ⟨qC', rfl⟩ : ∃ q', qC' = q' + 1 := ⟨qC' - 1, by omega⟩
      obtain ⟨qM', rfl⟩ : ∃ q', qM' = q' + 1 := ⟨qM' - 1, by omega⟩
      obtain ⟨w, f1, f2⟩ := S0 y5
      refine ⟨nI (kp mk' n), w, vM, ?_, ?_, f2⟩
      · show sC_shrink_45 (kC_shrink qC').1 (kC_shrink qC').2 (nI t) (nI i0) (nI n) mk' wt' (nI rd + 1) vC = _
        unfold sC_shrink_45
        rw [if_pos g1, f1, Option.bind_some]
      · show sM_shrink_29 (kM_shrink qM').1 (kM_shrink qM').2 (nI t) (nI (kp mk' i0)) wt' vM = _
        unfold sM_shrink_29
        rw [if_pos g1, pu_rd ht (by omega), Option.bind_some, y5.2.2.2.2.1.2.2.2.1]
    · subst g1
      rw [nI_1]
      exact ih qC' qM' (rd + 1) mk' vC vM (by omega) (by omega) (by omega) (by omega) y5 y6
end
theorem Alike_shrink (x : Int32) : Alike (fC_shrink x) (fM_shrink x) := by
  intro uC uM h
  unfold fC_shrink fM_shrink
  generalize hKC : kC_shrink 4096 = KC
  generalize hKM : kM_shrink 4096 = KM
  rcases arg_ix x 6 (by decide) with hx | ⟨t, ht, rfl⟩
  · rw [C_isTest_no hx, M_in_no (lo := 0) (hi := 5) (a := 0) (b := 5) rfl rfl (by decide) (by decide) hx]
    exact ⟨-2, uC, uM, rfl, rfl, h⟩
  rw [C_isTest_ok ht, M_in_ok (lo := 0) (hi := 5) (a := 0) (b := 5) rfl rfl (by decide) (Nat.zero_le _) (by omega), Option.bind_some, Option.bind_some]
  dsimp only
  obtain ⟨n, hL⟩ := h.2.2.2.2.1.ln ht
  obtain ⟨rC, rM, vC, vM, e1, e2, hs, hR, kC, kM⟩ := run_both h.endR (h.2.1.re h.2.2.1.2.2.2) hL
  have hI := h.run hR kC kM
  have hL2 := hL.of kC kM
  rw [if_neg (show ¬ ((1 : Int32) = 0) by decide), if_neg (show ¬ ((1 : Int32) = 0) by decide), e1, e2, Option.bind_some, Option.bind_some]
  dsimp only
  rcases hs with ⟨g1, g2⟩ | ⟨i0, h0, b0, g1, g2⟩
  · rw [g1, g2]
    exact ⟨-1, vC, vM, if_pos rfl, if_neg (by decide), hI⟩
  · rw [kp_zero] at g2
    have hn := hL.2.1
    rw [g1, g2, if_neg (by rw [pu_ne_m1 (by omega)]; exact id), if_pos (show (0 : Int32) ≤ nI i0 by rw [lit_0]; exact nI_le (Nat.zero_le _) (by omega)), C_ssize ht, Option.bind_some, hL2.2.2.1]
    have hS : ShR vC vM t n 0 := ⟨hI.endR, hI.2.1, hI.2.2.1.2.2.2, hI.2.2.2.2.2, hL2, fun t' ht' _ => hI.2.2.2.2.1 t' ht'⟩
    obtain ⟨r, wC, wM, f1, f2, f3⟩ := S1 h0 16 4096 4096 0 0 vC vM (by rw [kp_zero]; exact hn) (by rw [kp_zero]; omega) (by decide) (by decide) hS b0
    rw [kp_zero] at f2
    rw [hKC] at f1
    rw [hKM] at f2
    exact ⟨r, wC, wM, f1, f2, f3⟩
