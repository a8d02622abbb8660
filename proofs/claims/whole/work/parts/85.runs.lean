/-! PURE: run. -/
theorem kp_zero : ∀ i, kp 0 i = i := by
  intro i
  induction i with
  | zero => rfl
  | succ i ih =>
    rw [kp_out (by rw [lo_zero]; decide), ih]
section
variable {uC uM : Ug}
theorem IvL.ln (h : IvL uC uM) {t : Nat} (ht : t < 6) : ∃ n, LnR uC uM t n 0 := by
  obtain ⟨n, hn, e1, e2, e3⟩ := h t ht
  refine ⟨n, ht, hn, e1, by rw [kp_zero]; exact e2, fun i hi _ => ?_⟩
  rw [kp_zero]
  exact e3 i hi
theorem Same.zero {n : Nat} {rC rM : Int32} (hn : n ≤ 16) (h : Same 0 n rC rM) : rC = rM ∧ (rC = -1 ∨ ∃ i, i < 16 ∧ rC = nI i) := by
  rcases h with ⟨e1, e2⟩ | ⟨i, hi, -, e1, e2⟩
  · exact ⟨by rw [e1, e2], Or.inl e1⟩
  · rw [kp_zero] at e2
    exact ⟨by rw [e1, e2], Or.inr ⟨i, by omega, e1⟩⟩
theorem Inv.endR (h : Inv uC uM) : EndR (uC 0) uC uM := ⟨h.on, h.2.2.2.1, rfl, h.2.2.1.2.2.1⟩
/-- CONTRACTS and STEPS as they are: no MUTANT -/
theorem IvC.re (h : IvC uC uM) (hm : uM 33 0 = 0) : RE uC uM := by
  obtain ⟨hk, ⟨hs, h1⟩, ⟨g3, g4, g5⟩, h2, h3, h4⟩ := h
  have hsz : ∀ m, m < 12 → uC 1 m = nI (uC 1 m).toNatClampNeg ∧ (uC 1 m).toNatClampNeg ≤ 8 := fun m hm => by
    obtain ⟨n, hn, e⟩ := h1 m hm
    rw [e, nI_clamp (by omega)]
    exact ⟨rfl, hn⟩
  refine ⟨hk, fun m => (uC 1 m).toNatClampNeg, fun s hs => (h2 s hs).2.1, fun m hm => ⟨(hsz m hm).2, (hsz m hm).1, by rw [← hs]; exact (hsz m hm).1⟩, fun f hf => ⟨by rw [h3], h4 f hf⟩, 0, by decide, hm, fun s hs2 => ⟨?_, ?_⟩⟩
  · rw [← g3]; exact (h2 s hs2).1
  · rw [if_neg (fun z => Nat.lt_irrefl 0 z.1), mutS0, ← g3, ← g4, ← g5]
theorem Inv.run {vC vM : Ug} {σ : Nat → Int32} (h : Inv uC uM) (he : EndR σ vC vM) (kC : KpC uC vC) (kM : KpM uM vM) : Inv vC vM :=
  ⟨⟨he.1.1, he.1.2.1⟩, h.2.1.of (fun r hr => kC r (by omega)) (fun r hr => kM r (by omega)), ⟨he.1.2.2.1, he.1.2.2.2, he.2.2.2, by rw [kM 33 (by omega)]; exact h.2.2.1.2.2.2⟩, he.2.1, h.2.2.2.2.1.of (fun r hr => kC r (by omega)) (fun r hr => kM r (by omega)), h.2.2.2.2.2.of (fun r hr => kC r (by omega)) (fun r hr => kM r (by omega))⟩
theorem run_inv (h : Inv uC uM) {t : Nat} (ht : t < 6) : ∃ (r : Int32) (vC vM : Ug), fC_Runner_failingLine (nI t) 0 uC = some (r, vC) ∧ fM_runs (nI t) uM = some (r, vM) ∧ (r = -1 ∨ ∃ i, i < 16 ∧ r = nI i) ∧ Inv vC vM := by
  obtain ⟨n, hL⟩ := h.2.2.2.2.1.ln ht
  obtain ⟨rC, rM, vC, vM, e1, e2, hs, hR, kC, kM⟩ := run_both h.endR (h.2.1.re h.2.2.1.2.2.2) hL
  obtain ⟨e, hr⟩ := hs.zero hL.2.1
  exact ⟨rC, vC, vM, e1, by rw [e]; exact e2, hr, h.run hR kC kM⟩
end
theorem Alike_run (x : Int32) : Alike (fC_run x) (fM_run x) := by
  intro uC uM h
  unfold fC_run fM_run
  rcases arg_ix x 6 (by decide) with hx | ⟨t, ht, rfl⟩
  · rw [C_isTest_no hx, M_in_no (lo := 0) (hi := 5) (a := 0) (b := 5) rfl rfl (by decide) (by decide) hx]
    exact ⟨_, _, _, rfl, rfl, h⟩
  rw [C_isTest_ok ht, M_in_ok (lo := 0) (hi := 5) (a := 0) (b := 5) rfl rfl (by decide) (Nat.zero_le _) (by omega)]
  simp only [Option.bind_some]
  obtain ⟨r, vC, vM, e1, e2, -, hI⟩ := run_inv h ht
  rw [if_neg (show ¬ ((1 : Int32) = 0) by decide), if_neg (show ¬ ((1 : Int32) = 0) by decide), e1, e2]
  exact ⟨_, _, _, rfl, rfl, hI⟩
