/-! PURE: a whole RUN. -/
theorem z_step {g : Nat → Int32} {k f N : Nat} (hk : k < N) : (if k + 1 ≤ f ∧ f < N then 0 else upd g k 0 f) = (if k ≤ f ∧ f < N then 0 else g f) := by
  by_cases e : f = k
  · subst e
    rw [if_neg (by omega), if_pos (by omega), upd_s]
  · rw [upd_n e]
    by_cases c : k ≤ f ∧ f < N
    · rw [if_pos c, if_pos (by omega)]
    · rw [if_neg c, if_neg (by omega)]
theorem C_drop : ∀ (d n k : Nat) (u : Ug), k + d = 4 → d < n → ∃ v : Ug, kC_Faces_dropDoubles n (nI k) u = some (0, v) ∧ (∀ r, r ≠ 7 → v r = u r) ∧ ∀ f, v 7 f = if k ≤ f ∧ f < 4 then 0 else u 7 f := by
  intro d
  induction d with
  | zero =>
    intro n k u hk hn
    obtain ⟨n, rfl⟩ : ∃ n', n = n' + 1 := ⟨n - 1, by omega⟩
    refine ⟨u, ?_, fun r _ => rfl, fun f => ?_⟩
    · show sC_Faces_dropDoubles_2 _ _ _ = _
      unfold sC_Faces_dropDoubles_2
      rw [if_pos (by rw [lit_4]; exact nI_le (by omega) (by omega))]
    · rw [if_neg (by omega)]
  | succ d ih =>
    intro n k u hk hn
    obtain ⟨n, rfl⟩ : ∃ n', n = n' + 1 := ⟨n - 1, by omega⟩
    obtain ⟨v, e1, e2, e3⟩ := ih n (k + 1) (wr u 7 k 0) (by omega) (by omega)
    refine ⟨v, ?_, fun r hr => (e2 r hr).trans (wr_n hr), fun f => ?_⟩
    · show sC_Faces_dropDoubles_2 (kC_Faces_dropDoubles n) _ _ = _
      unfold sC_Faces_dropDoubles_2
      rw [if_neg (by rw [lit_4]; exact nI_ge (by omega) (by omega)), pu_wr (by omega) (by omega)]
      simp only [Option.bind_some]
      rw [nI_1, e1]
    · rw [e3 f, wr_s, z_step (by omega)]
theorem M_runs2 {x : Int32} : ∀ (d n k : Nat) (u : Ug), k + d = 70 → d < n → ∃ n', n = n' + d + 1 ∧ (kM_runs n).1 x (nI k) u = (kM_runs n').2.1 x (nI 0) (wrA u 34 (va_cpy (u 0) (u 34) k k d)) := by
  intro d
  induction d with
  | zero =>
    intro n k u hk hn
    obtain ⟨n, rfl⟩ : ∃ n', n = n' + 1 := ⟨n - 1, by omega⟩
    refine ⟨n, rfl, ?_⟩
    have e : va_cpy (u 0) (u 34) k k 0 = u 34 := by funext j; exact pk_cpy_out (by omega)
    rw [e, wrA_id]
    show sM_runs_2 (kM_runs n).1 (kM_runs n).2.1 (kM_runs n).2.2.1 (kM_runs n).2.2.2.1 (kM_runs n).2.2.2.2.1 (kM_runs n).2.2.2.2.2 x (nI k) u = _
    unfold sM_runs_2
    rw [if_pos (by rw [lit_70]; exact nI_le (by omega) (by omega))]
    rfl
  | succ d ih =>
    intro n k u hk hn
    obtain ⟨n, rfl⟩ : ∃ n', n = n' + 1 := ⟨n - 1, by omega⟩
    obtain ⟨n', e, e1⟩ := ih n (k + 1) (wr u 34 k (u 0 k)) (by omega) (by omega)
    refine ⟨n', by omega, ?_⟩
    show sM_runs_2 (kM_runs n).1 (kM_runs n).2.1 (kM_runs n).2.2.1 (kM_runs n).2.2.2.1 (kM_runs n).2.2.2.2.1 (kM_runs n).2.2.2.2.2 x (nI k) u = _
    unfold sM_runs_2
    rw [if_neg (by rw [lit_70]; exact nI_ge (by omega) (by omega)), pu_rd (show k < 70 by omega) (by omega)]
    simp only [Option.bind_some]
    rw [pu_wr (by omega) (by omega)]
    simp only [Option.bind_some]
    rw [nI_1, e1, wr_n (show (0 : Nat) ≠ 34 by decide), wr_s, cpy_step, wrA_wr]
theorem M_runs28 {x : Int32} : ∀ (d n k : Nat) (u : Ug), k + d = 4 → d < n → ∃ (n' : Nat) (v : Ug), n = n' + d + 1 ∧ (kM_runs n).2.1 x (nI k) u = (kM_runs n').2.2.1 x (nI 0) v ∧ (∀ r, r ≠ 30 → v r = u r) ∧ ∀ f, v 30 f = if k ≤ f ∧ f < 4 then 0 else u 30 f := by
  intro d
  induction d with
  | zero =>
    intro n k u hk hn
    obtain ⟨n, rfl⟩ : ∃ n', n = n' + 1 := ⟨n - 1, by omega⟩
    refine ⟨n, u, rfl, ?_, fun r _ => rfl, fun f => ?_⟩
    · show sM_runs_28 (kM_runs n).1 (kM_runs n).2.1 (kM_runs n).2.2.1 (kM_runs n).2.2.2.1 (kM_runs n).2.2.2.2.1 (kM_runs n).2.2.2.2.2 x (nI k) u = _
      unfold sM_runs_28
      rw [if_pos (by rw [lit_4]; exact nI_le (by omega) (by omega))]
      rfl
    · rw [if_neg (by omega)]
  | succ d ih =>
    intro n k u hk hn
    obtain ⟨n, rfl⟩ : ∃ n', n = n' + 1 := ⟨n - 1, by omega⟩
    obtain ⟨n', v, e, e1, e2, e3⟩ := ih n (k + 1) (wr u 30 k 0) (by omega) (by omega)
    refine ⟨n', v, by omega, ?_, fun r hr => (e2 r hr).trans (wr_n hr), fun f => ?_⟩
    · show sM_runs_28 (kM_runs n).1 (kM_runs n).2.1 (kM_runs n).2.2.1 (kM_runs n).2.2.2.1 (kM_runs n).2.2.2.2.1 (kM_runs n).2.2.2.2.2 x (nI k) u = _
      unfold sM_runs_28
      rw [if_neg (by rw [lit_4]; exact nI_ge (by omega) (by omega)), pu_wr (by omega) (by omega)]
      simp only [Option.bind_some]
      rw [nI_1, e1]
    · rw [e3 f, wr_s, z_step (by omega)]
theorem M_runs48 {x : Int32} : ∀ (d n k : Nat) (u : Ug), k + d = 3 → d < n → ∃ (n' : Nat) (v : Ug), n = n' + d + 1 ∧ (kM_runs n).2.2.1 x (nI k) u = (kM_runs n').2.2.2.1 x (nI 0) v ∧ (∀ r, ¬ (36 ≤ r ∧ r ≤ 39) → v r = u r) ∧ (∀ f, v 36 f = if k ≤ f ∧ f < 3 then 0 else u 36 f) ∧ v 37 0 = 0 ∧ v 38 0 = 0 ∧ v 39 0 = 0 := by
  intro d
  induction d with
  | zero =>
    intro n k u hk hn
    obtain ⟨n, rfl⟩ : ∃ n', n = n' + 1 := ⟨n - 1, by omega⟩
    refine ⟨n, wr (wr (wr u 37 0 0) 38 0 0) 39 0 0, rfl, ?_, fun r hr => ?_, fun f => ?_, ?_, ?_, ?_⟩
    · show sM_runs_48 (kM_runs n).1 (kM_runs n).2.1 (kM_runs n).2.2.1 (kM_runs n).2.2.2.1 (kM_runs n).2.2.2.2.1 (kM_runs n).2.2.2.2.2 x (nI k) u = _
      unfold sM_runs_48
      rw [if_pos (by rw [lit_3]; exact nI_le (by omega) (by omega))]
      rfl
    · rw [wr_n (by omega), wr_n (by omega), wr_n (by omega)]
    · rw [if_neg (by omega), wr_n (by decide), wr_n (by decide), wr_n (by decide)]
    · rw [wr_n (by decide), wr_n (by decide), wr_s, upd_s]
    · rw [wr_n (by decide), wr_s, upd_s]
    · rw [wr_s, upd_s]
  | succ d ih =>
    intro n k u hk hn
    obtain ⟨n, rfl⟩ : ∃ n', n = n' + 1 := ⟨n - 1, by omega⟩
    obtain ⟨n', v, e, e1, e2, e3, e4⟩ := ih n (k + 1) (wr u 36 k 0) (by omega) (by omega)
    refine ⟨n', v, by omega, ?_, fun r hr => (e2 r hr).trans (wr_n (by omega)), fun f => ?_, e4⟩
    · show sM_runs_48 (kM_runs n).1 (kM_runs n).2.1 (kM_runs n).2.2.1 (kM_runs n).2.2.2.1 (kM_runs n).2.2.2.2.1 (kM_runs n).2.2.2.2.2 x (nI k) u = _
      unfold sM_runs_48
      rw [if_neg (by rw [lit_3]; exact nI_ge (by omega) (by omega)), show wbO u 36 3 (nI k) 0 = wrO u 36 3 (nI k) 0 from rfl, pu_wr (by omega) (by omega)]
      simp only [Option.bind_some]
      rw [nI_1, e1]
    · rw [e3 f, wr_s, z_step (by omega)]
theorem M_runs110 {x y : Int32} : ∀ (d n k : Nat) (u : Ug), k + d = 70 → d < n → ∃ n', n = n' + d + 1 ∧ (kM_runs n).2.2.2.2.1 x y (nI k) u = (kM_runs n').2.2.2.2.2 x y (nI 0) (wrA u 0 (va_cpy (u 34) (u 0) k k d)) := by
  intro d
  induction d with
  | zero =>
    intro n k u hk hn
    obtain ⟨n, rfl⟩ : ∃ n', n = n' + 1 := ⟨n - 1, by omega⟩
    refine ⟨n, rfl, ?_⟩
    have e : va_cpy (u 34) (u 0) k k 0 = u 0 := by funext j; exact pk_cpy_out (by omega)
    rw [e, wrA_id]
    show sM_runs_110 (kM_runs n).1 (kM_runs n).2.1 (kM_runs n).2.2.1 (kM_runs n).2.2.2.1 (kM_runs n).2.2.2.2.1 (kM_runs n).2.2.2.2.2 x y (nI k) u = _
    unfold sM_runs_110
    rw [if_pos (by rw [lit_70]; exact nI_le (by omega) (by omega))]
    rfl
  | succ d ih =>
    intro n k u hk hn
    obtain ⟨n, rfl⟩ : ∃ n', n = n' + 1 := ⟨n - 1, by omega⟩
    obtain ⟨n', e, e1⟩ := ih n (k + 1) (wr u 0 k (u 34 k)) (by omega) (by omega)
    refine ⟨n', by omega, ?_⟩
    show sM_runs_110 (kM_runs n).1 (kM_runs n).2.1 (kM_runs n).2.2.1 (kM_runs n).2.2.2.1 (kM_runs n).2.2.2.2.1 (kM_runs n).2.2.2.2.2 x y (nI k) u = _
    unfold sM_runs_110
    rw [if_neg (by rw [lit_70]; exact nI_ge (by omega) (by omega)), pu_rd (show k < 70 by omega) (by omega)]
    simp only [Option.bind_some]
    rw [pu_wr (by omega) (by omega)]
    simp only [Option.bind_some]
    rw [nI_1, e1, wr_n (show (34 : Nat) ≠ 0 by decide), wr_s, cpy_step, wrA_wr]
theorem M_runs136 {y : Int32} {t : Nat} (ht : t < 6) : ∀ (d n k : Nat) (u : Ug), k + d = 4 → d < n → ∃ v : Ug, (kM_runs n).2.2.2.2.2 (nI t) y (nI k) u = some (if y = u 9 t then -1 else y, v) ∧ (∀ r, r ≠ 30 → v r = u r) ∧ ∀ f, v 30 f = if k ≤ f ∧ f < 4 then 0 else u 30 f := by
  intro d
  induction d with
  | zero =>
    intro n k u hk hn
    obtain ⟨n, rfl⟩ : ∃ n', n = n' + 1 := ⟨n - 1, by omega⟩
    refine ⟨u, ?_, fun r _ => rfl, fun f => ?_⟩
    · show sM_runs_136 (kM_runs n).1 (kM_runs n).2.1 (kM_runs n).2.2.1 (kM_runs n).2.2.2.1 (kM_runs n).2.2.2.2.1 (kM_runs n).2.2.2.2.2 (nI t) y (nI k) u = _
      unfold sM_runs_136
      rw [if_pos (by rw [lit_4]; exact nI_le (by omega) (by omega)), pu_rd ht (by omega)]
      simp only [Option.bind_some]
      by_cases z : y = u 9 t
      · rw [if_pos z, if_pos z]
      · rw [if_neg z, if_neg z]
    · rw [if_neg (by omega)]
  | succ d ih =>
    intro n k u hk hn
    obtain ⟨n, rfl⟩ : ∃ n', n = n' + 1 := ⟨n - 1, by omega⟩
    obtain ⟨v, e1, e2, e3⟩ := ih n (k + 1) (wr u 30 k 0) (by omega) (by omega)
    refine ⟨v, ?_, fun r hr => (e2 r hr).trans (wr_n hr), fun f => ?_⟩
    · show sM_runs_136 (kM_runs n).1 (kM_runs n).2.1 (kM_runs n).2.2.1 (kM_runs n).2.2.2.1 (kM_runs n).2.2.2.2.1 (kM_runs n).2.2.2.2.2 (nI t) y (nI k) u = _
      unfold sM_runs_136
      rw [if_neg (by rw [lit_4]; exact nI_ge (by omega) (by omega)), pu_wr (by omega) (by omega)]
      simp only [Option.bind_some]
      rw [nI_1, e1, wr_n (by decide)]
    · rw [e3 f, wr_s, z_step (by omega)]
/-- before and after a RUN -/
def EndR (σ : Nat → Int32) (uC uM : Ug) : Prop := OnC uC uM ∧ IvT uC uM ∧ uC 0 = σ ∧ ∀ f, f < 4 → uC 7 f = 0 ∧ uM 30 f = 0
section
variable {σ : Nat → Int32} {uC uM : Ug}
theorem run_start (h : EndR σ uC uM) (t : Nat) : ∃ (n' : Nat) (vC vM : Ug), 4000 ≤ n' ∧ fC_Runner_begin uC = some (0, vC) ∧ fM_runs (nI t) uM = (kM_runs n').2.2.2.1 (nI t) (nI 0) vM ∧ OnR σ vC vM ∧ KpC uC vC ∧ KpM uM vM := by
  obtain ⟨hO, hT, h0, hd⟩ := h
  obtain ⟨n1, a1, a2⟩ := M_runs2 (x := nI t) 70 4096 0 uM (by decide) (by decide)
  obtain ⟨n2, v2, b1, b2, b3, b4⟩ := M_runs28 (x := nI t) 4 n1 0 (wrA uM 34 (va_cpy (uM 0) (uM 34) 0 0 70)) (by decide) (by omega)
  obtain ⟨n3, v3, c1, c2, c3, c4, c5, c6, c7⟩ := M_runs48 (x := nI t) 3 n2 0 v2 (by decide) (by omega)
  have eM : ∀ r, r ≠ 30 → r ≠ 34 → ¬ (36 ≤ r ∧ r ≤ 39) → v3 r = uM r := fun r x y z => by rw [c3 r z, b3 r x, wrA_n y]
  obtain ⟨vC, hv⟩ : ∃ vC : Ug, vC = wr (wr (wr (wr (wr (wrA uC 15 (va_cpy (uC 0) (uC 15) 0 210 70)) 24 0 0) 25 0 0) 26 0 0) 27 0 (uC 0 29)) 28 0 0 := ⟨_, rfl⟩
  have eC : ∀ r, r ≠ 15 → ¬ (24 ≤ r ∧ r ≤ 28) → vC r = uC r := fun r x y => by rw [hv, wr_n (by omega), wr_n (by omega), wr_n (by omega), wr_n (by omega), wr_n (by omega), wrA_n x]
  refine ⟨n3, vC, v3, by omega, ?_, (a2.trans b2).trans c2, ⟨hO.of (fun r hr => eC r (by omega) (by omega)) (fun r hr => eM r (by omega) (by omega) (by omega)), hT.of (fun r hr => eC r (by omega) (by omega)) (fun r hr => eM r (by omega) (by omega) (by omega)), fun f hf => ?_, ⟨0, by decide, ?_, fun f hf => ?_⟩, ⟨?_, ?_, ?_, ?_⟩, ⟨⟨0, by decide, ?_, ?_⟩, ?_⟩, ?_⟩, fun r hr => eC r (by omega) (by omega), fun r hr => eM r (by omega) (by omega) (by omega)⟩
  · unfold fC_Runner_begin
    rw [show fC_State_keepIn_22 (3 : Int32) uC = fC_State_keepIn_22 (nI 3) uC from rfl, C_keep22 (by decide)]
    simp only [Option.bind_some, pu_sc]
    unfold fC_State_eventCount
    rw [lit_29, pu_rd (by decide) (by decide), wr_n (by decide), wr_n (by decide), wr_n (by decide), wrA_n (by decide), hv]
    rfl
  · have z : vC 7 f = 0 := by rw [eC 7 (by decide) (by decide)]; exact (hd f hf).1
    have z2 : v3 30 f = 0 := by rw [c3 30 (by decide), b4 f, if_pos ⟨Nat.zero_le _, hf⟩]
    rw [z, z2]
    exact ⟨rfl, fun q => absurd q (by decide), fun q => absurd q (by decide)⟩
  · rw [hv, wr_n (by decide), wr_n (by decide), wr_s, upd_s]; rfl
  · rw [c4 f, if_pos ⟨Nat.zero_le _, hf⟩, Nat.zero_testBit]
    exact ⟨rfl, fun q => absurd q (by decide)⟩
  · rw [← h0]; exact hO.2.1
  · rw [hv, wr_n (by decide), wr_n (by decide), wr_n (by decide), wr_n (by decide), wr_n (by decide), wrA_s, fkS_same, fkS_id hO.2.1.2.2, h0]
  · rw [c3 34 (by decide), b3 34 (by decide), wrA_s, fkS_same, fkS_id (by rw [← hO.1]; exact hO.2.1.2.2), ← hO.1, h0]
  · rw [hv, wr_n (by decide), wr_s, upd_s, h0]
  · rw [hv, wr_n (by decide), wr_n (by decide), wr_n (by decide), wr_n (by decide), wr_s, upd_s]; rfl
  · rw [c5]; rfl
  · rw [hv, wr_n (by decide), wr_n (by decide), wr_n (by decide), wr_s, upd_s, c6]
  · rw [hv, wr_s, upd_s, c7]
theorem run_end (h : OnR σ uC uM) {t n : Nat} (ht : t < 6) (hn : 100 ≤ n) (y : Int32) : ∃ vC vM : Ug, (∀ x : Int32, ((fC_Faces_dropDoubles uC).bind fun q4 => (fC_State_bringFrom_22 (3 : Int32) q4.2).bind fun q5 => some (x, q5.2)) = some (x, vC)) ∧ (kM_runs n).2.2.2.2.1 (nI t) y (nI 0) uM = some (if y = uM 9 t then -1 else y, vM) ∧ EndR σ vC vM ∧ KpC uC vC ∧ KpM uM vM := by
  obtain ⟨hO, hT, -, -, ⟨s1, s2, s3, s4⟩, -⟩ := h
  obtain ⟨v1, a1, a2, a3⟩ := C_drop 4 4096 0 uC (by decide) (by decide)
  obtain ⟨n1, b1, b2⟩ := M_runs110 (x := nI t) (y := y) 70 n 0 uM (by decide) (by omega)
  obtain ⟨v2, c1, c2, c3⟩ := M_runs136 (y := y) ht 4 n1 0 (wrA uM 0 (va_cpy (uM 34) (uM 0) 0 0 70)) (by decide) (by omega)
  have g0 : v1 0 = uC 0 := a2 0 (by decide)
  have eC : ∀ r, r ≠ 0 → r ≠ 7 → (wrA v1 0 σ) r = uC r := fun r x y => by rw [wrA_n x, a2 r y]
  have eM : ∀ r, r ≠ 0 → r ≠ 30 → v2 r = uM r := fun r x y => by rw [c2 r y, wrA_n x]
  have z0 : v2 0 = σ := by rw [c2 0 (by decide), wrA_s, cpy_fkS (by rw [← hO.1]; exact hO.2.1.2.2), s3]
  refine ⟨wrA v1 0 σ, v2, fun x => ?_, ?_, ⟨⟨?_, ?_, ?_, ?_⟩, hT.of (fun r hr => eC r (by omega) (by omega)) (fun r hr => eM r (by omega) (by omega)), wrA_s, fun f hf => ⟨?_, ?_⟩⟩, fun r hr => eC r (by omega) (by omega), fun r hr => eM r (by omega) (by omega)⟩
  · unfold fC_Faces_dropDoubles
    rw [lit_0, a1]
    simp only [Option.bind_some]
    rw [show fC_State_bringFrom_22 (3 : Int32) v1 = fC_State_bringFrom_22 (nI 3) v1 from rfl, C_bring22 (by decide)]
    simp only [Option.bind_some]
    rw [cpy_fkS (by rw [g0]; exact hO.2.1.2.2), a2 15 (by decide), s2]
  · rw [b2, c1, wrA_n (by decide)]
  · rw [wrA_s, z0]
  · rw [wrA_s]; exact s1
  · rw [eC 2 (by decide) (by decide), eM 6 (by decide) (by decide)]; exact hO.2.2.1
  · rw [eC 19 (by decide) (by decide), eM 8 (by decide) (by decide)]; exact hO.2.2.2
  · rw [wrA_n (by decide), a3 f, if_pos ⟨Nat.zero_le _, hf⟩]
  · rw [c3 f, if_pos ⟨Nat.zero_le _, hf⟩]
/-- the first LINE that is not as told: in the class its place among all, in the reference among those not left out -/
def Same (mk : Int32) (n : Nat) (rC rM : Int32) : Prop := (rC = -1 ∧ rM = -1) ∨ ∃ i, i < n ∧ ¬ loB mk i = true ∧ rC = nI i ∧ rM = nI (kp mk i)
theorem run_loop {t n : Nat} {mk : Int32} : ∀ (d qC qM i : Nat) (uC uM : Ug), i + d = n → d < qC → d + 200 ≤ qM → OnR σ uC uM → RE uC uM → LnR uC uM t n mk → ∃ (rC rM : Int32) (vC vM : Ug), kC_Runner_failingLine qC (nI t) mk (nI n) (-1) (nI i) uC = some (rC, vC) ∧ (kM_runs qM).2.2.2.1 (nI t) (nI (kp mk i)) uM = some (rM, vM) ∧ Same mk n rC rM ∧ EndR σ vC vM ∧ KpC uC vC ∧ KpM uM vM := by
  intro d
  induction d with
  | zero =>
    intro qC qM i uC uM hi hC hM h hE hL
    obtain ⟨qC, rfl⟩ : ∃ q', qC = q' + 1 := ⟨qC - 1, by omega⟩
    obtain ⟨qM, rfl⟩ : ∃ q', qM = q' + 1 := ⟨qM - 1, by omega⟩
    obtain ⟨ht, hn, l1, l2, -⟩ := hL
    have e : i = n := by omega
    subst e
    have hk := kp_le (mk := mk) i
    obtain ⟨vC, vM, e1, e2, r⟩ := run_end h ht (show 100 ≤ qM by omega) (nI (kp mk i))
    refine ⟨-1, -1, vC, vM, ?_, ?_, Or.inl ⟨rfl, rfl⟩, r⟩
    · show sC_Runner_failingLine_19 (kC_Runner_failingLine qC) _ _ _ _ _ _ = _
      unfold sC_Runner_failingLine_19
      rw [if_pos (nI_le (Nat.le_refl _) (by omega))]
      exact e1 _
    · show sM_runs_83 (kM_runs qM).1 (kM_runs qM).2.1 (kM_runs qM).2.2.1 (kM_runs qM).2.2.2.1 (kM_runs qM).2.2.2.2.1 (kM_runs qM).2.2.2.2.2 (nI t) (nI (kp mk i)) uM = _
      unfold sM_runs_83
      rw [pu_rd ht (by omega), l2]
      simp only [Option.bind_some]
      rw [if_pos (nI_le (Nat.le_refl _) (by omega)), lit_0, e2, l2, if_pos rfl]
  | succ d ih =>
    intro qC qM i uC uM hi hC hM h hE hL
    obtain ⟨qC, rfl⟩ : ∃ q', qC = q' + 1 := ⟨qC - 1, by omega⟩
    obtain ⟨ht, hn, l1, l2, l3⟩ := id hL
    show ∃ (rC rM : Int32) (vC vM : Ug), sC_Runner_failingLine_19 (kC_Runner_failingLine qC) (nI t) mk (nI n) (-1) (nI i) uC = some (rC, vC) ∧ _
    unfold sC_Runner_failingLine_19
    rw [if_neg (nI_ge (by omega) (by omega)), if_pos rfl, lo_iff (by omega)]
    by_cases b : loB mk i = true
    · rw [if_pos b, if_pos rfl, nI_1]
      have := ih qC qM (i + 1) uC uM (by omega) (by omega) (by omega) h hE hL
      rw [kp_in b] at this
      exact this
    obtain ⟨qM, rfl⟩ : ∃ q', qM = q' + 1 := ⟨qM - 1, by omega⟩
    obtain ⟨⟨w, hw, w1⟩, m1, m2, m3, m4⟩ := l3 i (by omega) b
    have hj := kp_lt b (show i < n by omega)
    have hjn := kp_le (mk := mk) n
    rw [if_neg b, if_neg (show ¬ ((0 : Int32) = 1) by decide), C_slotOf_ok ht l1 hn (by omega)]
    simp only [Option.bind_some]
    rw [C_sword (by omega)]
    simp only [Option.bind_some]
    -- what follows a LINE
    have go : ∀ (fC : Option (Int32 × Ug)), Told σ uC uM fC (fM_isAsTold (nI t) (nI (kp mk i)) uM) → ∃ (rC rM : Int32) (vC vM : Ug), (fC.bind fun q15 =>
          if q15.1 = (0 : Int32) then
            (kC_Runner_failingLine qC) (nI t) mk (nI n) (nI i) (nI i + (1 : Int32)) q15.2
          else
            (kC_Runner_failingLine qC) (nI t) mk (nI n) (-1 : Int32) (nI i + (1 : Int32)) q15.2) = some (rC, vC) ∧ (kM_runs (qM + 1)).2.2.2.1 (nI t) (nI (kp mk i)) uM = some (rM, vM) ∧ Same mk n rC rM ∧ EndR σ vC vM ∧ KpC uC vC ∧ KpM uM vM := by
      rintro fC ⟨x, wC, wM, hx, f1, f2, hR, kC, kM⟩
      have eM : (kM_runs (qM + 1)).2.2.2.1 (nI t) (nI (kp mk i)) uM = if x = (0 : Int32) then (kM_runs qM).2.2.2.2.1 (nI t) (nI (kp mk i)) (nI 0) wM else (kM_runs qM).2.2.2.1 (nI t) (nI (kp mk i + 1)) wM := by
        show sM_runs_83 (kM_runs qM).1 (kM_runs qM).2.1 (kM_runs qM).2.2.1 (kM_runs qM).2.2.2.1 (kM_runs qM).2.2.2.2.1 (kM_runs qM).2.2.2.2.2 (nI t) (nI (kp mk i)) uM = _
        unfold sM_runs_83
        rw [pu_rd ht (by omega), l2]
        simp only [Option.bind_some]
        rw [if_neg (nI_ge hj (by omega)), f2]
        simp only [Option.bind_some]
        rw [nI_1]
        rfl
      rw [eM, f1]
      simp only [Option.bind_some]
      rw [nI_1]
      have hL2 := hL.of kC kM
      have hE2 := hE.of kC kM
      rcases hx with rfl | rfl
      · rw [if_pos rfl, if_pos rfl]
        obtain ⟨vC, vM, e1, e2, r1, r2, r3⟩ := run_end hR ht (show 100 ≤ qM by omega) (nI (kp mk i))
        refine ⟨nI i, nI (kp mk i), vC, vM, ?_, ?_, Or.inr ⟨i, by omega, b, rfl, rfl⟩, r1, kC.tr r2, kM.tr r3⟩
        · obtain ⟨qC, rfl⟩ : ∃ q', qC = q' + 1 := ⟨qC - 1, by omega⟩
          show sC_Runner_failingLine_19 (kC_Runner_failingLine qC) (nI t) mk (nI n) (nI i) (nI (i + 1)) wC = _
          unfold sC_Runner_failingLine_19
          by_cases z : nI n ≤ nI (i + 1)
          · rw [if_pos z]; exact e1 _
          · rw [if_neg z, if_neg (by rw [pu_ne_m1 (by omega)]; exact id)]; exact e1 _
        · rw [e2, hL2.2.2.2.1, if_neg]
          intro z
          have := (nI_eq (by omega) (by omega)).mp z
          omega
      · rw [if_neg (show ¬ ((1 : Int32) = 0) by decide), if_neg (show ¬ ((1 : Int32) = 0) by decide)]
        obtain ⟨rC, rM, vC, vM, e1, e2, r1, r2, r3, r4⟩ := ih qC qM (i + 1) wC wM (by omega) (by omega) (by omega) hR hE2 hL2
        rw [kp_out b] at e2
        exact ⟨rC, rM, vC, vM, e1, e2, r1, r2, kC.tr r3, kM.tr r4⟩
    by_cases wc : w = 1
    · subst wc
      rw [w1, if_pos (show nI 1 = (1 : Int32) from rfl)]
      exact go _ (told_call h hE hL (by omega) b w1)
    · rw [w1, if_neg (show ¬ nI w = (1 : Int32) from fun z => wc ((nI_eq (by omega) (by omega)).mp z))]
      exact go _ (both_told h hE (by omega) ht (by omega) hw wc w1 m1 m2 m3 m4)
/-- a RUN, LINES of it left out: alike -/
theorem run_both {t n : Nat} {mk : Int32} (h : EndR σ uC uM) (hE : RE uC uM) (hL : LnR uC uM t n mk) : ∃ (rC rM : Int32) (vC vM : Ug), fC_Runner_failingLine (nI t) mk uC = some (rC, vC) ∧ fM_runs (nI t) uM = some (rM, vM) ∧ Same mk n rC rM ∧ EndR σ vC vM ∧ KpC uC vC ∧ KpM uM vM := by
  obtain ⟨n', wC, wM, a1, a2, a3, a4, a5, a6⟩ := run_start h t
  have hL2 := hL.of a5 a6
  have hn := hL.2.1
  obtain ⟨rC, rM, vC, vM, e1, e2, r1, r2, r3, r4⟩ := run_loop (σ := σ) n 4096 n' 0 wC wM (by omega) (by omega) (by omega) a4 (hE.of a5 a6) hL2
  refine ⟨rC, rM, vC, vM, ?_, a3.trans e2, r1, r2, a5.tr r3, a6.tr r4⟩
  have ht := hL.1
  unfold fC_Runner_failingLine fC_Scripts_size
  rw [a2]
  simp only [Option.bind_some]
  rw [if_neg (show ¬ nI t < 0 by rw [lit_0]; exact nI_nlt (Nat.zero_le _) (by omega)), if_neg (show ¬ (6 : Int32) ≤ nI t by rw [lit_6]; exact nI_ge ht (by omega)), pu_rd ht (by omega), hL2.2.2.1]
  exact e1
end
