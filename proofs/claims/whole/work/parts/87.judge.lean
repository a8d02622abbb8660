/-! PURE: judge. -/
theorem EndR.of {σ : Nat → Int32} {uC uM vC vM : Ug} (h : EndR σ uC uM) (hC : ∀ r, r = 0 ∨ r = 2 ∨ r = 7 ∨ (19 ≤ r ∧ r ≤ 23) → vC r = uC r) (hM : ∀ r, r = 0 ∨ r = 6 ∨ r = 8 ∨ (26 ≤ r ∧ r ≤ 30) → vM r = uM r) : EndR σ vC vM :=
  ⟨h.1.of (fun r hr => hC r (by omega)) (fun r hr => hM r (by omega)), h.2.1.of (fun r hr => hC r (by omega)) (fun r hr => hM r (by omega)), by rw [hC 0 (by omega)]; exact h.2.2.1, fun f hf => by rw [hC 7 (by omega), hM 30 (by omega)]; exact h.2.2.2 f hf⟩
theorem upd_back {f : Nat → Int32} {s : Nat} {x : Int32} : upd (upd f s x) s (f s) = f := by
  funext j
  by_cases e : j = s
  · subst e; rw [upd_s]
  · rw [upd_n e, upd_n e]
/-- TESTS run one after the other: which of them pass -/
theorem J1 {c : Nat} : ∀ (d qC qM t : Nat) (mk : Int32) (uC uM : Ug), t + d = 6 → d < qC → d < qM → Inv uC uM → ∃ (mk' : Int32) (qC' qM' : Nat) (vC vM : Ug), qC = qC' + d + 1 ∧ qM = qM' + d + 1 ∧ (kC_judge qC).1 (nI c) mk (nI t) uC = ((fC_Mutants_begin (nI c) vC).bind fun q4 => (kC_judge qC').2.1 (nI c) mk' q4.1 (0 : Int32) (0 : Int32) q4.2) ∧ (kM_judge qM).1 (nI c) mk (nI t) uM = ((fM_mutants (nI c) vM).bind fun q4 => (wrO q4.2 40 4 (nI c) q4.1).bind fun u5 => (kM_judge qM').2.1 (nI c) mk' (0 : Int32) (0 : Int32) u5) ∧ Inv vC vM ∧ vC 18 = uC 18 := by
  intro d
  induction d with
  | zero =>
    intro qC qM t mk uC uM ht hC hM h
    obtain ⟨qC, rfl⟩ : ∃ q', qC = q' + 1 := ⟨qC - 1, by omega⟩
    obtain ⟨qM, rfl⟩ : ∃ q', qM = q' + 1 := ⟨qM - 1, by omega⟩
    refine ⟨mk, qC, qM, uC, uM, rfl, rfl, ?_, ?_, h, rfl⟩
    · show sC_judge_17 (kC_judge qC).1 (kC_judge qC).2.1 (kC_judge qC).2.2 (nI c) mk (nI t) uC = _
      unfold sC_judge_17
      rw [if_pos (by rw [lit_6]; exact nI_le (by omega) (by omega))]
    · show sM_judge_22 (kM_judge qM).1 (kM_judge qM).2.1 (kM_judge qM).2.2 (nI c) mk (nI t) uM = _
      unfold sM_judge_22
      rw [if_pos (by rw [lit_6]; exact nI_le (by omega) (by omega))]
  | succ d ih =>
    intro qC qM t mk uC uM ht hC hM h
    obtain ⟨qC, rfl⟩ : ∃ q', qC = q' + 1 := ⟨qC - 1, by omega⟩
    obtain ⟨qM, rfl⟩ : ∃ q', qM = q' + 1 := ⟨qM - 1, by omega⟩
    obtain ⟨n, hL⟩ := h.2.2.2.2.1.ln (show t < 6 by omega)
    obtain ⟨rC, rM, wC, wM, e1, e2, hs, hR, kC, kM⟩ := run_both h.endR (h.2.1.re h.2.2.1.2.2.2) hL
    obtain ⟨e, hr⟩ := hs.zero hL.2.1
    subst e
    have hI := h.run hR kC kM
    have k18 : wC 18 = uC 18 := kC 18 (by omega)
    have eC : (kC_judge (qC + 1)).1 (nI c) mk (nI t) uC = (kC_judge qC).1 (nI c) (if rC = (-1 : Int32) then mk ||| ((1 : Int32) <<< (nI t &&& 31)) else mk) (nI (t + 1)) wC := by
      show sC_judge_17 (kC_judge qC).1 (kC_judge qC).2.1 (kC_judge qC).2.2 (nI c) mk (nI t) uC = _
      unfold sC_judge_17
      rw [if_neg (by rw [lit_6]; exact nI_ge (by omega) (by omega)), e1]
      simp only [Option.bind_some]
      rw [nI_1]
      by_cases z : rC = -1
      · rw [if_pos z, if_pos z]
      · rw [if_neg z, if_neg z]
    have eM : (kM_judge (qM + 1)).1 (nI c) mk (nI t) uM = (kM_judge qM).1 (nI c) (if rC = (-1 : Int32) then mk ||| ((1 : Int32) <<< (nI t &&& 31)) else mk) (nI (t + 1)) wM := by
      show sM_judge_22 (kM_judge qM).1 (kM_judge qM).2.1 (kM_judge qM).2.2 (nI c) mk (nI t) uM = _
      unfold sM_judge_22
      rw [if_neg (by rw [lit_6]; exact nI_ge (by omega) (by omega)), e2]
      simp only [Option.bind_some]
      rw [nI_1]
      rcases hr with rfl | ⟨i, hi, rfl⟩
      · rw [if_neg (show ¬ (0 : Int32) ≤ -1 by decide), if_pos rfl]
      · rw [if_pos (nI_pos' (by omega)), if_neg (by rw [pu_ne_m1 (by omega)]; exact id), Int32.or_zero]
    rw [eC, eM]
    obtain ⟨mk', qC', qM', vC, vM, a1, a2, a3, a4, a5, a6⟩ := ih qC qM (t + 1) _ wC wM (by omega) (by omega) (by omega) hI
    exact ⟨mk', qC', qM', vC, vM, by omega, by omega, a3, a4, a5, by rw [a6, k18]⟩
/-- one MUTANT is in: who notices it -/
theorem J3 {c l : Nat} {mk x3 x5 : Int32} {σ : Nat → Int32} (hc : c < 4) (hl : l < 48) : ∀ (d qC qM t : Nat) (cnt : Int32) (uC uM : Ug), t + d = 6 → d < qC → d < qM → EndR σ uC uM → RE uC uM → IvL uC uM → ∃ (kl kb : Int32) (qC' qM' : Nat) (vC vM : Ug), qC ≤ qC' + d + 2 ∧ qM ≤ qM' + d + 2 ∧ (kC_judge qC).2.2 (nI c) mk x3 cnt (nI l) (-1) (nI t) uC = ((fC_Mutants_takeOut (nI c) (nI l) kl vC).bind fun q => (kC_judge qC').2.1 (nI c) mk x3 (cnt + kb) (nI (l + 1)) q.2) ∧ (kM_judge qM).2.2 (nI c) mk cnt (nI l) x5 (-1) (nI t) uM = (kM_judge qM').2.1 (nI c) mk (cnt + kb) (nI (l + 1)) (wr vM 41 (48 * c + l) kl) ∧ EndR σ vC vM ∧ KpC uC vC ∧ KpM uM vM := by
  have ew : ∀ (u : Ug) (x : Int32), wrO u 41 192 ((48 : Int32) * nI c + nI l) x = some (wr u 41 (48 * c + l) x) := fun u x => by
    rw [lit_48, pk_mul, nI_add, pu_wr (by omega) (by omega)]
  intro d
  induction d with
  | zero =>
    intro qC qM t cnt uC uM ht hC hM h hE hL
    obtain ⟨qC, rfl⟩ : ∃ q', qC = q' + 1 := ⟨qC - 1, by omega⟩
    obtain ⟨qM, rfl⟩ : ∃ q', qM = q' + 1 := ⟨qM - 1, by omega⟩
    refine ⟨-1, 0, qC, qM, uC, uM, by omega, by omega, ?_, ?_, h, KpC.rf, KpM.rf⟩
    · show sC_judge_85 (kC_judge qC).1 (kC_judge qC).2.1 (kC_judge qC).2.2 (nI c) mk x3 cnt (nI l) (-1) (nI t) uC = _
      unfold sC_judge_85
      rw [if_pos (by rw [lit_6]; exact nI_le (by omega) (by omega)), nI_1, Int32.add_zero]
    · show sM_judge_112 (kM_judge qM).1 (kM_judge qM).2.1 (kM_judge qM).2.2 (nI c) mk cnt (nI l) x5 (-1) (nI t) uM = _
      unfold sM_judge_112
      rw [if_pos (by rw [lit_6]; exact nI_le (by omega) (by omega)), ew]
      simp only [Option.bind_some]
      rw [if_neg (show ¬ (0 : Int32) ≤ -1 by decide), nI_1]
  | succ d ih =>
    intro qC qM t cnt uC uM ht hC hM h hE hL
    obtain ⟨qC, rfl⟩ : ∃ q', qC = q' + 1 := ⟨qC - 1, by omega⟩
    obtain ⟨qM, rfl⟩ : ∃ q', qM = q' + 1 := ⟨qM - 1, by omega⟩
    obtain ⟨n, hLn⟩ := hL.ln (show t < 6 by omega)
    obtain ⟨rC, rM, wC, wM, e1, e2, hs, hR, kC, kM⟩ := run_both h hE hLn
    obtain ⟨e, hr⟩ := hs.zero hLn.2.1
    subst e
    have hL2 : IvL wC wM := hL.of (fun r hr => kC r (by omega)) (fun r hr => kM r (by omega))
    have sC : (kC_judge (qC + 1)).2.2 (nI c) mk x3 cnt (nI l) (-1) (nI t) uC = (if ((mk >>> (nI t &&& 31)) &&& (1 : Int32)) = (1 : Int32) then (if rC = (-1 : Int32) then (kC_judge qC).2.2 (nI c) mk x3 cnt (nI l) (-1) (nI (t + 1)) wC else (kC_judge qC).2.2 (nI c) mk x3 (cnt + 1) (nI l) (nI t) (nI (t + 1)) wC) else (kC_judge qC).2.2 (nI c) mk x3 cnt (nI l) (-1) (nI (t + 1)) uC) := by
      show sC_judge_85 (kC_judge qC).1 (kC_judge qC).2.1 (kC_judge qC).2.2 (nI c) mk x3 cnt (nI l) (-1) (nI t) uC = _
      unfold sC_judge_85
      rw [if_neg (by rw [lit_6]; exact nI_ge (by omega) (by omega)), if_pos rfl, e1]
      simp only [Option.bind_some]
      rw [nI_1]
    have sM : (kM_judge (qM + 1)).2.2 (nI c) mk cnt (nI l) x5 (-1) (nI t) uM = (if ((mk >>> (nI t &&& 31)) &&& (1 : Int32)) = (1 : Int32) then (if rC < (0 : Int32) then (kM_judge qM).2.2 (nI c) mk cnt (nI l) x5 (-1) (nI (t + 1)) wM else (kM_judge qM).2.2 (nI c) mk cnt (nI l) x5 (nI t) (nI (t + 1)) wM) else (kM_judge qM).2.2 (nI c) mk cnt (nI l) x5 (-1) (nI (t + 1)) uM) := by
      show sM_judge_112 (kM_judge qM).1 (kM_judge qM).2.1 (kM_judge qM).2.2 (nI c) mk cnt (nI l) x5 (-1) (nI t) uM = _
      unfold sM_judge_112
      rw [if_neg (by rw [lit_6]; exact nI_ge (by omega) (by omega)), if_neg (show ¬ (0 : Int32) ≤ -1 by decide), e2]
      simp only [Option.bind_some]
      rw [nI_1]
    rw [sC, sM]
    by_cases b : ((mk >>> (nI t &&& 31)) &&& (1 : Int32)) = (1 : Int32)
    · rw [if_pos b, if_pos b]
      rcases hr with rfl | ⟨i, hi, rfl⟩
      · rw [if_pos rfl, if_pos (show (-1 : Int32) < 0 by decide)]
        obtain ⟨kl, kb, qC', qM', vC, vM, a1, a2, a3, a4, a5, a6, a7⟩ := ih qC qM (t + 1) cnt wC wM (by omega) (by omega) (by omega) hR (hE.of kC kM) hL2
        exact ⟨kl, kb, qC', qM', vC, vM, by omega, by omega, a3, a4, a5, kC.tr a6, kM.tr a7⟩
      · rw [if_neg (by rw [pu_ne_m1 (by omega)]; exact id), if_neg (show ¬ nI i < 0 by rw [lit_0]; exact nI_nlt (Nat.zero_le _) (by omega))]
        obtain ⟨qC, rfl⟩ : ∃ q', qC = q' + 1 := ⟨qC - 1, by omega⟩
        obtain ⟨qM, rfl⟩ : ∃ q', qM = q' + 1 := ⟨qM - 1, by omega⟩
        refine ⟨nI t, 1, qC, qM, wC, wM, by omega, by omega, ?_, ?_, hR, kC, kM⟩
        · show sC_judge_85 (kC_judge qC).1 (kC_judge qC).2.1 (kC_judge qC).2.2 (nI c) mk x3 (cnt + 1) (nI l) (nI t) (nI (t + 1)) wC = _
          unfold sC_judge_85
          rw [nI_1, if_neg (show ¬ nI t = (-1 : Int32) by rw [pu_ne_m1 (by omega)]; exact id), ite_self]
        · show sM_judge_112 (kM_judge qM).1 (kM_judge qM).2.1 (kM_judge qM).2.2 (nI c) mk cnt (nI l) x5 (nI t) (nI (t + 1)) wM = _
          unfold sM_judge_112
          rw [ew, nI_1, if_pos (show (0 : Int32) ≤ nI t from nI_pos' (by omega))]
          simp only [Option.bind_some]
          rw [ite_self, if_pos (show (0 : Int32) ≤ nI t from nI_pos' (by omega))]
    · rw [if_neg b, if_neg b]
      obtain ⟨kl, kb, qC', qM', vC, vM, a1, a2, a3, a4, a5, a6, a7⟩ := ih qC qM (t + 1) cnt uC uM (by omega) (by omega) (by omega) h hE hL
      exact ⟨kl, kb, qC', qM', vC, vM, by omega, by omega, a3, a4, a5, a6, a7⟩
