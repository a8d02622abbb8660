/-! PURE: judge: MUTANT after MUTANT. -/
def IvJ1 (uC uM : Ug) (c : Nat) : Prop := ∃ n : Nat, n ≤ 48 ∧ uC 16 c = nI n ∧ (uM 40 c = nI n ∨ (n = 0 ∧ uM 40 c = -1)) ∧ (∀ k : Nat, uC 18 0 = nI k → k ≤ c → n = 0) ∧ ∀ i, i < n → uC 17 (48 * c + i) = uM 41 (48 * c + i)
def JvR (c l N : Nat) (uC uM : Ug) : Prop := EndR (uC 0) uC uM ∧ IvC uC uM ∧ IvL uC uM ∧ (∀ c', c' < 4 → c' ≠ c → IvJ1 uC uM c') ∧ (uC 16 c = nI N ∧ uM 40 c = nI N ∧ ∀ i, i < l → uC 17 (48 * c + i) = uM 41 (48 * c + i)) ∧ ∃ sz : Nat → Nat, (∀ m, m < 12 → uC 1 m = nI (sz m)) ∧ (∀ m, m < 12 → uM 2 m = nI (sz m)) ∧ (∀ m, m < 12 → sz m ≤ 8) ∧ muT (uC 3) sz c = N
/-- RE with the MUTANT in -/
theorem RE.mutant {uC uM vC vM : Ug} {s w : Nat} (h : IvC uC uM) (hs : s < 96) (hw : w < nW (uC 3 s)) (hC : ∀ r, r = 1 ∨ r = 6 ∨ r = 18 → vC r = uC r) (h3 : vC 3 = upd (uC 3) s (mutS (1 + w) (uC 3 s) (uC 4 s) (uC 5 s)).1) (h4 : vC 4 = upd (uC 4) s (mutS (1 + w) (uC 3 s) (uC 4 s) (uC 5 s)).2.1) (h5 : vC 5 = upd (uC 5) s (mutS (1 + w) (uC 3 s) (uC 4 s) (uC 5 s)).2.2) (hM : ∀ r, r = 1 ∨ r = 2 ∨ r = 3 ∨ r = 4 ∨ r = 5 ∨ r = 7 → vM r = uM r) (h32 : vM 32 0 = nI s) (h33 : vM 33 0 = nI (1 + w)) : RE vC vM := by
  obtain ⟨hk, ⟨hz, h1⟩, ⟨g3, g4, g5⟩, h2, f3, f4⟩ := h
  have hb := (nW_b (k := uC 3 s)).2
  have hsz : ∀ m, m < 12 → uC 1 m = nI (uC 1 m).toNatClampNeg ∧ (uC 1 m).toNatClampNeg ≤ 8 := fun m hm => by
    obtain ⟨n, hn, e⟩ := h1 m hm
    rw [e, nI_clamp (by omega)]
    exact ⟨rfl, hn⟩
  unfold RE
  rw [hC 1 (by omega), hC 6 (by omega), hC 18 (by omega), hM 1 (by omega), hM 2 (by omega), hM 3 (by omega), hM 4 (by omega), hM 5 (by omega), hM 7 (by omega), h3, h4, h5, h32, h33]
  refine ⟨hk, fun m => (uC 1 m).toNatClampNeg, fun q hq => ?_, fun m hm => ⟨(hsz m hm).2, (hsz m hm).1, by rw [← hz]; exact (hsz m hm).1⟩, fun f hf => ⟨by rw [f3], f4 f hf⟩, 1 + w, by omega, rfl, fun q hq => ⟨?_, ?_⟩⟩
  · by_cases e : q = s
    · subst e
      rw [upd_s, upd_s]
      exact mutS_wf hw (h2 q hq).2.1 (h2 q hq).2.2
    · rw [upd_n e, upd_n e]; exact (h2 q hq).2.1
  · rw [← g3]; exact (h2 q hq).1
  · by_cases e : q = s
    · subst e
      rw [upd_s, upd_s, upd_s, if_pos ⟨by omega, rfl⟩, ← g3, ← g4, ← g5]
    · rw [upd_n e, upd_n e, upd_n e, if_neg (fun z => e ((nI_eq (by omega) (by omega)).mp z.2)), mutS0, ← g3, ← g4, ← g5]
theorem J2 {c k N : Nat} {mk : Int32} (hk4 : k ≤ 4) (hc : c < k) : ∀ (d qC qM l : Nat) (cnt : Int32) (uC uM : Ug), l + d = N → 10 * d + 10 ≤ qC → 10 * d + 10 ≤ qM → uC 18 0 = nI k → JvR c l N uC uM → ∃ (r : Int32) (vC vM : Ug), (kC_judge qC).2.1 (nI c) mk (nI N) cnt (nI l) uC = some (r, vC) ∧ (kM_judge qM).2.1 (nI c) mk cnt (nI l) uM = some (r, vM) ∧ Inv vC vM := by
  intro d
  induction d with
  | zero =>
    intro qC qM l cnt uC uM hl hC hM hk h
    obtain ⟨qC, rfl⟩ : ∃ q', qC = q' + 1 := ⟨qC - 1, by omega⟩
    obtain ⟨qM, rfl⟩ : ∃ q', qM = q' + 1 := ⟨qM - 1, by omega⟩
    obtain ⟨h1, h2, h3, h4, ⟨h5, h6, h7⟩, sz, z1, z2, z3, z4⟩ := h
    have hN := muT_le (kd := uC 3) (c := c) (by omega) z3
    rw [z4] at hN
    have eM : ∀ r, r ≠ 33 → wr uM 33 0 0 r = uM r := fun r hr => wr_n hr
    refine ⟨cnt, uC, wr uM 33 0 0, ?_, ?_, ⟨h1.1.1, h1.1.2.1⟩, h2.of (fun r hr => rfl) (fun r hr => eM r (by omega)), ⟨?_, ?_, ?_, ?_⟩, h1.2.1.of (fun r hr => rfl) (fun r hr => eM r (by omega)), h3.of (fun r hr => rfl) (fun r hr => eM r (by omega)), fun c' hc' => ?_⟩
    · show sC_judge_63 (kC_judge qC).1 (kC_judge qC).2.1 (kC_judge qC).2.2 (nI c) mk (nI N) cnt (nI l) uC = _
      unfold sC_judge_63
      rw [if_pos (nI_le (by omega) (by omega))]
    · show sM_judge_68 (kM_judge qM).1 (kM_judge qM).2.1 (kM_judge qM).2.2 (nI c) mk cnt (nI l) uM = _
      unfold sM_judge_68
      rw [pu_rd (show c < 4 by omega) (by omega), h6]
      simp only [Option.bind_some]
      rw [if_pos (nI_le (by omega) (by omega))]
      rfl
    · rw [eM 6 (by decide)]; exact h1.1.2.2.1
    · rw [eM 8 (by decide)]; exact h1.1.2.2.2
    · intro f hf; rw [eM 30 (by decide)]; exact h1.2.2.2 f hf
    · rw [wr_s, upd_s]
    · rw [eM 40 (by decide), eM 41 (by decide)]
      by_cases e : c' = c
      · subst e
        refine ⟨N, hN, h5, Or.inl h6, fun k' hk' hkc => ?_, fun i hi => h7 i (by omega)⟩
        rw [hk] at hk'
        have := (nI_eq (by omega) (by omega)).mp hk'
        omega
      · exact h4 c' hc' e
  | succ d ih =>
    intro qC qM l cnt uC uM hl hC hM hk h
    obtain ⟨qC, rfl⟩ : ∃ q', qC = q' + 1 := ⟨qC - 1, by omega⟩
    obtain ⟨qM, rfl⟩ : ∃ q', qM = q' + 1 := ⟨qM - 1, by omega⟩
    obtain ⟨h1, h2, h3, h4, ⟨h5, h6, h7⟩, sz, z1, z2, z3, z4⟩ := h
    have hN := muT_le (kd := uC 3) (c := c) (by omega) z3
    have g3 : uC 3 = uM 3 := h2.2.2.1.1
    have hlt : l < muT (uC 3) sz c := by omega
    have p1 := C_putIn hk hk4 hc z1 z3 hlt
    have p2 := M_find_ok (u := uM) (c := c) (l := l) (by omega) z2 z3 (by rw [← g3]; exact hlt)
    obtain ⟨a1, a2, a3⟩ := fiC_in (kd := uC 3) (by omega) z3 hlt
    rw [← g3] at p2
    generalize fiC (uC 3) sz c l = F at p1 p2 a1 a2 a3
    obtain ⟨s, w⟩ := F
    have a1 : 24 * c ≤ s := a1
    have a2 : s < 24 * c + 24 := a2
    have a3 : w < nW (uC 3 s) := a3
    have hw := (nW_b (k := uC 3 s)).2
    have hs : s < 96 := by omega
    have p1 : fC_Mutants_putIn (nI c) (nI l) uC = some (0, PIm (mk4 uC s) s (mutS (1 + w) (uC 3 s) (uC 4 s) (uC 5 s))) := p1
    have p2 : fM_find (nI c) (nI l) uM = some (nI (2 * s + w), uM) := p2
    obtain ⟨m, hm⟩ : ∃ m, m = mutS (1 + w) (uC 3 s) (uC 4 s) (uC 5 s) := ⟨_, rfl⟩
    rw [← hm] at p1
    -- with the MUTANT in
    have eC1 : ∀ r, ¬ (3 ≤ r ∧ r ≤ 5) → ¬ (29 ≤ r ∧ r ≤ 32) → PIm (mk4 uC s) s m r = uC r := fun r x y => by
      unfold PIm; rw [PI_n x, mk4_n y]
    have eM1 : ∀ r, r ≠ 32 → r ≠ 33 → wr (wr uM 32 0 (nI s)) 33 0 (nI (1 + w)) r = uM r := fun r x y => by rw [wr_n y, wr_n x]
    have q3 : PIm (mk4 uC s) s m 3 = upd (uC 3) s m.1 := by unfold PIm; rw [PI_3, mk4_n (by decide)]
    have q4 : PIm (mk4 uC s) s m 4 = upd (uC 4) s m.2.1 := by unfold PIm; rw [PI_4, mk4_n (by decide)]
    have q5 : PIm (mk4 uC s) s m 5 = upd (uC 5) s m.2.2 := by unfold PIm; rw [PI_5, mk4_n (by decide)]
    have hE1 : RE (PIm (mk4 uC s) s m) (wr (wr uM 32 0 (nI s)) 33 0 (nI (1 + w))) := by
      refine RE.mutant h2 hs a3 (fun r hr => eC1 r (by omega) (by omega)) (by rw [q3, hm]) (by rw [q4, hm]) (by rw [q5, hm]) (fun r hr => eM1 r (by omega) (by omega)) ?_ ?_
      · rw [wr_n (by decide), wr_s, upd_s]
      · rw [wr_s, upd_s]
    have hR1 : EndR (uC 0) (PIm (mk4 uC s) s m) (wr (wr uM 32 0 (nI s)) 33 0 (nI (1 + w))) := h1.of (fun r hr => eC1 r (by omega) (by omega)) (fun r hr => eM1 r (by omega) (by omega))
    have hL1 : IvL (PIm (mk4 uC s) s m) (wr (wr uM 32 0 (nI s)) 33 0 (nI (1 + w))) := h3.of (fun r hr => eC1 r (by omega) (by omega)) (fun r hr => eM1 r (by omega) (by omega))
    obtain ⟨kl, kb, qC', qM', vC, vM, b1, b2, b3, b4, b5, b6, b7⟩ := J3 (c := c) (l := l) (mk := mk) (x3 := nI N) (x5 := nI (2 * s + w)) (show c < 4 by omega) (show l < 48 by omega) 6 qC qM 0 cnt _ _ (by decide) (by omega) (by omega) hR1 hE1 hL1
    -- the MUTANT taken out
    have r29 : vC 29 0 = nI s := by rw [b6 29 (by omega)]; unfold PIm; rw [PI_n (by decide)]; exact mk4_29
    have r30 : vC 30 0 = uC 3 s := by rw [b6 30 (by omega)]; unfold PIm; rw [PI_n (by decide)]; exact mk4_30
    have r31 : vC 31 0 = uC 4 s := by rw [b6 31 (by omega)]; unfold PIm; rw [PI_n (by decide)]; exact mk4_31
    have r32 : vC 32 0 = uC 5 s := by rw [b6 32 (by omega)]; unfold PIm; rw [PI_n (by decide)]; exact mk4_32
    have t1 := C_takeOut (c := c) (l := l) (x := kl) hs (show c < 4 by omega) (show l < 48 by omega) r29 r30 r31 r32
    have k3 : ∀ r, r = 3 ∨ r = 4 ∨ r = 5 → wr (PI vC s (uC 3 s) (uC 4 s) (uC 5 s)) 17 (48 * c + l) kl r = uC r := by
      intro r hr
      rw [wr_n (by omega)]
      rcases hr with rfl | rfl | rfl
      · rw [PI_3, b6 3 (by omega), q3, upd_back]
      · rw [PI_4, b6 4 (by omega), q4, upd_back]
      · rw [PI_5, b6 5 (by omega), q5, upd_back]
    have eC2 : ∀ r, r = 1 ∨ (3 ≤ r ∧ r ≤ 6) ∨ (10 ≤ r ∧ r ≤ 14) ∨ r = 16 ∨ r = 18 → wr (PI vC s (uC 3 s) (uC 4 s) (uC 5 s)) 17 (48 * c + l) kl r = uC r := by
      intro r hr
      by_cases x : 3 ≤ r ∧ r ≤ 5
      · exact k3 r (by omega)
      · rw [wr_n (by omega), PI_n x, b6 r (by omega), eC1 r x (by omega)]
    have eC3 : ∀ r, r ≠ 17 → ¬ (3 ≤ r ∧ r ≤ 5) → wr (PI vC s (uC 3 s) (uC 4 s) (uC 5 s)) 17 (48 * c + l) kl r = vC r := fun r x y => by rw [wr_n x, PI_n y]
    have eM2 : ∀ r, (1 ≤ r ∧ r ≤ 5) ∨ r = 7 ∨ (9 ≤ r ∧ r ≤ 13) ∨ r = 40 → wr vM 41 (48 * c + l) kl r = uM r := fun r hr => by rw [wr_n (by omega), b7 r (by omega), eM1 r (by omega) (by omega)]
    have c17 : wr (PI vC s (uC 3 s) (uC 4 s) (uC 5 s)) 17 (48 * c + l) kl 17 = upd (uC 17) (48 * c + l) kl := by rw [wr_s, PI_n (by decide), b6 17 (by omega), eC1 17 (by decide) (by decide)]
    have m41 : wr vM 41 (48 * c + l) kl 41 = upd (uM 41) (48 * c + l) kl := by rw [wr_s, b7 41 (by omega), eM1 41 (by decide) (by decide)]
    have hJ : JvR c (l + 1) N (wr (PI vC s (uC 3 s) (uC 4 s) (uC 5 s)) 17 (48 * c + l) kl) (wr vM 41 (48 * c + l) kl) := by
      refine ⟨?_, h2.of (fun r hr => eC2 r (by omega)) (fun r hr => eM2 r (by omega)), h3.of (fun r hr => eC2 r (by omega)) (fun r hr => eM2 r (by omega)), fun c' hc' e => ?_, ⟨?_, ?_, fun i hi => ?_⟩, sz, ?_, ?_, z3, ?_⟩
      · have := b5.of (vC := wr (PI vC s (uC 3 s) (uC 4 s) (uC 5 s)) 17 (48 * c + l) kl) (vM := wr vM 41 (48 * c + l) kl) (fun r hr => eC3 r (by omega) (by omega)) (fun r hr => wr_n (by omega))
        rw [eC3 0 (by decide) (by decide), b5.2.2.1]
        exact this
      · obtain ⟨n, y1, y2, y3, y4, y5⟩ := h4 c' hc' e
        refine ⟨n, y1, by rw [eC2 16 (by omega)]; exact y2, by rw [eM2 40 (by omega)]; exact y3, by rw [eC2 18 (by omega)]; exact y4, fun i hi => ?_⟩
        rw [c17, m41, upd_n (by omega), upd_n (by omega)]
        exact y5 i hi
      · rw [eC2 16 (by omega)]; exact h5
      · rw [eM2 40 (by omega)]; exact h6
      · rw [c17, m41]
        by_cases e : i = l
        · subst e; rw [upd_s, upd_s]
        · rw [upd_n (by omega), upd_n (by omega)]; exact h7 i (by omega)
      · rw [eC2 1 (by omega)]; exact z1
      · rw [eM2 2 (by omega)]; exact z2
      · rw [eC2 3 (by omega)]; exact z4
    obtain ⟨r, wC, wM, f1, f2, f3⟩ := ih qC' qM' (l + 1) (cnt + kb) _ _ (by omega) (by omega) (by omega) (by rw [eC2 18 (by omega)]; exact hk) hJ
    refine ⟨r, wC, wM, ?_, ?_, f3⟩
    · show sC_judge_63 (kC_judge qC).1 (kC_judge qC).2.1 (kC_judge qC).2.2 (nI c) mk (nI N) cnt (nI l) uC = _
      unfold sC_judge_63
      rw [if_neg (nI_ge (by omega) (by omega)), p1]
      simp only [Option.bind_some]
      refine (show _ = _ from b3).trans ?_
      rw [t1]
      exact f1
    · show sM_judge_68 (kM_judge qM).1 (kM_judge qM).2.1 (kM_judge qM).2.2 (nI c) mk cnt (nI l) uM = _
      unfold sM_judge_68
      rw [pu_rd (show c < 4 by omega) (by omega), h6]
      simp only [Option.bind_some]
      rw [if_neg (nI_ge (by omega) (by omega)), p2]
      simp only [Option.bind_some, pu_sc]
      have d2 : nI (2 * s + w) / (2 : Int32) = nI s := by
        rw [lit_2, pk_div (by omega) (by decide) (by decide)]; congr 1; omega
      have d3 : (1 : Int32) + (nI (2 * s + w) - nI (2 * s + w) / (2 : Int32) * (2 : Int32)) = nI (1 + w) := by
        rw [lit_2, pk_rem (by omega) (by decide) (by decide), show (2 * s + w) % 2 = w by omega, lit_1, nI_add]
      rw [d3, d2]
      exact (show _ = _ from b4).trans f2
theorem Alike_judge (x : Int32) : Alike (fC_judge x) (fM_judge x) := by
  intro uC uM h
  obtain ⟨⟨k, hk4, hkC, hkM⟩, -⟩ := id h.2.1
  unfold fC_judge fM_judge
  rw [hkM]
  generalize hKC : kC_judge 4096 = KC
  generalize hKM : kM_judge 4096 = KM
  rcases arg_ix x k (by omega) with hx | ⟨c, hc, rfl⟩
  · rw [C_isContract_no hkC hx, M_inC_no hk4 hx, Option.bind_some, Option.bind_some]
    exact ⟨-1, uC, uM, if_pos rfl, if_pos rfl, h⟩
  rw [C_isContract_ok hkC hk4 hc, M_inC_ok hk4 hc, Option.bind_some, Option.bind_some]
  dsimp only
  rw [if_neg (show ¬ ((1 : Int32) = 0) by decide), if_neg (show ¬ ((1 : Int32) = 0) by decide)]
  obtain ⟨mk, qC, qM, vC, vM, a1, a2, a3, a4, hI, a6⟩ := J1 (c := c) 6 4096 4096 0 (nI 0) uC uM (by decide) (by decide) (by decide) h
  rw [hKC] at a3
  rw [hKM] at a4
  rw [lit_0, a3, a4]
  obtain ⟨⟨k', hk4', hkC', hkM'⟩, -, ⟨e3, -, -⟩, -⟩ := id hI.2.1
  have ek : k' = k := by
    rw [a6, hkC] at hkC'
    exact ((nI_eq (by omega) (by omega)).mp hkC').symm
  subst ek
  obtain ⟨sz, sC, sM, h8⟩ := hI.sizes
  have hN := muT_le (kd := vC 3) (c := c) (by omega) h8
  unfold fC_Mutants_begin
  rw [C_howMany hkC' hk4' hc sC h8, M_mutants hkM' hk4' hc sM h8, ← e3]
  simp only [Option.bind_some]
  rw [if_neg (show ¬ nI c < 0 by rw [lit_0]; exact nI_nlt (Nat.zero_le _) (by omega)), if_neg (show ¬ (4 : Int32) ≤ nI c by rw [lit_4]; exact nI_ge (by omega) (by omega)), if_neg (show ¬ (48 : Int32) < nI (muT (vC 3) sz c) by rw [lit_48]; exact nI_nlt hN (by omega)), pu_wr (show c < 4 by omega) (by omega), pu_wr (show c < 4 by omega) (by omega)]
  simp only [Option.bind_some]
  have eC : ∀ r, r ≠ 16 → wr vC 16 c (nI (muT (vC 3) sz c)) r = vC r := fun r hr => wr_n hr
  have eM : ∀ r, r ≠ 40 → wr vM 40 c (nI (muT (vC 3) sz c)) r = vM r := fun r hr => wr_n hr
  have hJ : JvR c 0 (muT (vC 3) sz c) (wr vC 16 c (nI (muT (vC 3) sz c))) (wr vM 40 c (nI (muT (vC 3) sz c))) := by
    refine ⟨?_, hI.2.1.of (fun r hr => eC r (by omega)) (fun r hr => eM r (by omega)), hI.2.2.2.2.1.of (fun r hr => eC r (by omega)) (fun r hr => eM r (by omega)), fun c' hc' e => ?_, ⟨by rw [wr_s, upd_s], by rw [wr_s, upd_s], fun i hi => by omega⟩, sz, by rw [eC 1 (by decide)]; exact sC, by rw [eM 2 (by decide)]; exact sM, h8, by rw [eC 3 (by decide)]⟩
    · rw [eC 0 (by decide)]
      exact hI.endR.of (fun r hr => eC r (by omega)) (fun r hr => eM r (by omega))
    · have := hI.2.2.2.2.2 c' hc'
      unfold IvJ1
      rw [wr_s, wr_s, upd_n e, upd_n e, eC 18 (by decide), eC 17 (by decide), eM 41 (by decide)]
      exact this
  exact J2 hk4' hc (muT (vC 3) sz c) qC qM 0 0 _ _ (by omega) (by omega) (by omega) (by rw [eC 18 (by decide)]; exact hkC') hJ
