/-! PURE: a RUN: LINES fork and back; its beginning and its end. -/
theorem fkS_same {a b : Nat → Int32} {p : Nat} : fkS (va_cpy a b 0 p 70) p = fkS a 0 := by
  funext j
  unfold fkS
  by_cases h : j < 70
  · rw [if_pos h, if_pos h, pk_cpy_in (by omega) (by omega), show 0 + (p + j - p) = 0 + j by omega]
  · rw [if_neg h, if_neg h]
theorem fkS_other {a b : Nat → Int32} {s p q : Nat} (h : q + 70 ≤ p ∨ p + 70 ≤ q) : fkS (va_cpy a b s p 70) q = fkS b q := by
  funext j
  unfold fkS
  by_cases hj : j < 70
  · rw [if_pos hj, if_pos hj, pk_cpy_out (by omega)]
  · rw [if_neg hj, if_neg hj]
theorem fkS_id {a : Nat → Int32} (h : ∀ j, 70 ≤ j → a j = 0) : fkS a 0 = a := by
  funext j
  unfold fkS
  by_cases hj : j < 70
  · rw [if_pos hj, Nat.zero_add]
  · rw [if_neg hj, h j (by omega)]
theorem cpy_fkS {a b : Nat → Int32} {p : Nat} (h : ∀ j, 70 ≤ j → b j = 0) : va_cpy a b p 0 70 = fkS a p := by
  funext j
  unfold fkS
  by_cases hj : j < 70
  · rw [if_pos hj, pk_cpy_in (Nat.zero_le _) (by omega), Nat.sub_zero]
  · rw [if_neg hj, pk_cpy_out (by omega), h j (by omega)]
theorem bitI : ∀ m : Fin 8, ∀ f : Fin 3, nI m.1 ||| ((1 : Int32) <<< (nI f.1 &&& 31)) = nI (m.1 ||| 1 <<< f.1) := by decide
theorem bitL : ∀ m : Fin 8, ∀ f : Fin 3, m.1 ||| 1 <<< f.1 < 8 := by decide
theorem bitS : ∀ m : Fin 8, ∀ f : Fin 3, (m.1 ||| 1 <<< f.1).testBit f.1 = true := by decide
theorem bitN : ∀ m : Fin 8, ∀ f g : Fin 3, g ≠ f → (m.1 ||| 1 <<< f.1).testBit g.1 = m.1.testBit g.1 := by decide
theorem bitT : ∀ m : Fin 8, ∀ f : Fin 3, ((nI m.1 >>> (nI f.1 &&& 31)) &&& (1 : Int32)) = (1 : Int32) ↔ m.1.testBit f.1 = true := by decide
theorem C_keep22 {u : Ug} {lv : Nat} (h : lv < 4) : fC_State_keepIn_22 (nI lv) u = some (1, wrA u 15 (va_cpy (u 0) (u 15) 0 (70 * lv) 70)) := by
  unfold fC_State_keepIn_22
  have e : nI lv * (70 : Int32) = nI (70 * lv) := by rw [lit_70, pk_mul, Nat.mul_comm]
  have e2 : (280 : Int32) / (70 : Int32) = nI 4 := by decide
  rw [e, e2, if_neg (by rw [lit_0]; exact nI_nlt (Nat.zero_le _) (by omega)), if_pos (nI_lt h (by omega)), lit_0, lit_70, pu_cp (by omega) (by omega) (by omega) (by omega)]
  rfl
theorem C_bring22 {u : Ug} {lv : Nat} (h : lv < 4) : fC_State_bringFrom_22 (nI lv) u = some (1, wrA u 0 (va_cpy (u 15) (u 0) (70 * lv) 0 70)) := by
  unfold fC_State_bringFrom_22
  have e : nI lv * (70 : Int32) = nI (70 * lv) := by rw [lit_70, pk_mul, Nat.mul_comm]
  have e2 : (280 : Int32) / (70 : Int32) = nI 4 := by decide
  rw [e, e2, if_neg (by rw [lit_0]; exact nI_nlt (Nat.zero_le _) (by omega)), if_pos (nI_lt h (by omega)), lit_0, lit_70, pu_cp (by omega) (by omega) (by omega) (by omega)]
  rfl
theorem M_fork_keep {f : Nat} (hf : f < 3) : ∀ (d n k : Nat) (u : Ug), k + d = 70 → d < n → kM_forked n 0 (nI f) (nI k) u = some (1, wr (wrA u 35 (va_cpy (u 0) (u 35) k (70 * f + k) d)) 36 f 1) := by
  intro d
  induction d with
  | zero =>
    intro n k u hk hn
    obtain ⟨n, rfl⟩ : ∃ n', n = n' + 1 := ⟨n - 1, by omega⟩
    show sM_forked_29 _ _ _ _ _ = _
    unfold sM_forked_29
    have e : va_cpy (u 0) (u 35) k (70 * f + k) 0 = u 35 := by funext j; exact pk_cpy_out (by omega)
    rw [if_pos (by rw [lit_70]; exact nI_le (by omega) (by omega)), show wbO u 36 3 (nI f) 1 = wrO u 36 3 (nI f) 1 from rfl, pu_wr hf (by omega), e, wrA_id]
    rfl
  | succ d ih =>
    intro n k u hk hn
    obtain ⟨n, rfl⟩ : ∃ n', n = n' + 1 := ⟨n - 1, by omega⟩
    show sM_forked_29 (kM_forked n) _ _ _ _ = _
    unfold sM_forked_29
    have e1 : (70 : Int32) * nI f + nI k = nI (70 * f + k) := by rw [lit_70, pk_mul, nI_add]
    rw [if_neg (by rw [lit_70]; exact nI_ge (by omega) (by omega)), if_pos rfl, e1, pu_rd (show k < 70 by omega) (by omega)]
    simp only [Option.bind_some]
    rw [pu_wr (by omega) (by omega)]
    simp only [Option.bind_some]
    rw [nI_1, ih n (k + 1) _ (by omega) (by omega)]
    rw [wr_n (show (0 : Nat) ≠ 35 by decide), wr_s, show 70 * f + (k + 1) = 70 * f + k + 1 by omega, cpy_step, wrA_wr]
theorem M_fork_back {f : Nat} (hf : f < 3) : ∀ (d n k : Nat) (u : Ug), k + d = 70 → d < n → kM_forked n 1 (nI f) (nI k) u = some (1, wr (wrA u 0 (va_cpy (u 35) (u 0) (70 * f + k) k d)) 36 f 1) := by
  intro d
  induction d with
  | zero =>
    intro n k u hk hn
    obtain ⟨n, rfl⟩ : ∃ n', n = n' + 1 := ⟨n - 1, by omega⟩
    show sM_forked_29 _ _ _ _ _ = _
    unfold sM_forked_29
    have e : va_cpy (u 35) (u 0) (70 * f + k) k 0 = u 0 := by funext j; exact pk_cpy_out (by omega)
    rw [if_pos (by rw [lit_70]; exact nI_le (by omega) (by omega)), show wbO u 36 3 (nI f) 1 = wrO u 36 3 (nI f) 1 from rfl, pu_wr hf (by omega), e, wrA_id]
    rfl
  | succ d ih =>
    intro n k u hk hn
    obtain ⟨n, rfl⟩ : ∃ n', n = n' + 1 := ⟨n - 1, by omega⟩
    show sM_forked_29 (kM_forked n) _ _ _ _ = _
    unfold sM_forked_29
    have e1 : (70 : Int32) * nI f + nI k = nI (70 * f + k) := by rw [lit_70, pk_mul, nI_add]
    rw [if_neg (by rw [lit_70]; exact nI_ge (by omega) (by omega)), if_neg (show ¬ ((1 : Int32) = 0) by decide), e1, pu_rd (show 70 * f + k < 210 by omega) (by omega)]
    simp only [Option.bind_some]
    rw [pu_wr (by omega) (by omega)]
    simp only [Option.bind_some]
    rw [nI_1, ih n (k + 1) _ (by omega) (by omega)]
    rw [wr_n (show (35 : Nat) ≠ 0 by decide), wr_s, show 70 * f + (k + 1) = 70 * f + k + 1 by omega, cpy_step, wrA_wr]
section
variable {σ : Nat → Int32} {uC uM : Ug}
theorem C_isFork_no {x : Int32} {u : Ug} (h : x < 0 ∨ nI 3 ≤ x) : fC_Runner_isFork x u = some (0, u) := by
  unfold fC_Runner_isFork
  by_cases a : x < 0
  · rw [if_pos a]
  · rw [if_neg a, if_pos (show (3 : Int32) ≤ x from h.resolve_left a)]
theorem C_isFork_ok {j : Nat} {u : Ug} (h : j < 3) : fC_Runner_isFork (nI j) u = some (1, u) := by
  unfold fC_Runner_isFork
  rw [if_neg (by rw [lit_0]; exact nI_nlt (Nat.zero_le _) (by omega)), if_neg (by rw [lit_3]; exact nI_ge h (by omega))]
theorem told_fork (h : OnR σ uC uM) (a : Int32) : Told σ uC uM (fC_Runner_keepsFork a uC) (fM_forked (0 : Int32) a uM) := by
  unfold fC_Runner_keepsFork fM_forked
  rcases arg_ix a 3 (by decide) with hx | ⟨f, hf, rfl⟩
  · rw [C_isFork_no hx, M_in_no (lo := 0) (hi := 2) (a := 0) (b := 2) rfl rfl (by decide) (by decide) hx]
    exact Told.no h
  obtain ⟨h1, h2, h3, ⟨m, hm, k1, k2⟩, ⟨s1, s2, s3, s4⟩, h6, h7⟩ := h
  rw [C_isFork_ok hf, M_in_ok (lo := 0) (hi := 2) (a := 0) (b := 2) rfl rfl (by decide) (Nat.zero_le _) (by omega)]
  simp only [Option.bind_some, pu_sc]
  rw [if_neg (show ¬ ((1 : Int32) = 0) by decide), if_neg (show ¬ ((1 : Int32) = 0) by decide), if_pos trivial, C_keep22 (by omega), k1, bitI ⟨m, hm⟩ ⟨f, hf⟩, lit_0, ← lit_0, show kM_forked 4096 0 (nI f) 0 uM = kM_forked 4096 0 (nI f) (nI 0) uM from rfl, M_fork_keep hf 70 4096 0 uM (by decide) (by decide)]
  simp only [Option.bind_some]
  have eC : ∀ (x : Int32) (g : Nat → Int32) r, r ≠ 26 → r ≠ 15 → wrA (wr uC 26 0 x) 15 g r = uC r := fun x g r a c => by rw [wrA_n c, wr_n a]
  have eM : ∀ (x : Int32) (g : Nat → Int32) r, r ≠ 35 → r ≠ 36 → wr (wrA uM 35 g) 36 f x r = uM r := fun x g r a c => by rw [wr_n c, wrA_n a]
  refine ⟨1, _, _, Or.inr rfl, rfl, rfl, ⟨h1.of (fun r hr => eC _ _ r (by omega) (by omega)) (fun r hr => eM _ _ r (by omega) (by omega)), h2.of (fun r hr => eC _ _ r (by omega) (by omega)) (fun r hr => eM _ _ r (by omega) (by omega)), h3.of (fun r hr => eC _ _ r (by omega) (by omega)) (fun r hr => eM _ _ r (by omega) (by omega)), ⟨m ||| 1 <<< f, bitL ⟨m, hm⟩ ⟨f, hf⟩, ?_, fun g hg => ?_⟩, ⟨s1, ?_, ?_, ?_⟩, h6.of (fun r hr => eC _ _ r (by omega) (by omega)) (fun r hr => eM _ _ r (by omega) (by omega)), ?_⟩, fun r hr => eC _ _ r (by omega) (by omega), fun r hr => eM _ _ r (by omega) (by omega)⟩
  · rw [wrA_n (by decide), wr_s, upd_s]
  · rw [wr_s, wrA_s, wr_n (show (35 : Nat) ≠ 36 by decide), wrA_s, wrA_n (show (36 : Nat) ≠ 35 by decide), wr_n (show (0 : Nat) ≠ 26 by decide), wr_n (show (15 : Nat) ≠ 26 by decide)]
    by_cases e : g = f
    · subst e
      have b := bitS ⟨m, hm⟩ ⟨g, hf⟩
      have b : (m ||| 1 <<< g).testBit g = true := b
      rw [upd_s, if_pos b, Nat.add_zero, fkS_same, fkS_same, h1.1]
      exact ⟨rfl, fun _ => ⟨rfl, by rw [fkS_id (by rw [← h1.1]; exact h1.2.1.2.2), ← h1.1]; exact h1.2.1⟩⟩
    · have b := bitN ⟨m, hm⟩ ⟨f, hf⟩ ⟨g, hg⟩ (fun z => e (congrArg Fin.val z))
      have b : (m ||| 1 <<< f).testBit g = m.testBit g := b
      rw [upd_n e, b, fkS_other (by omega), fkS_other (by omega)]
      exact k2 g hg
  · rw [wrA_s, fkS_other (by omega), wr_n (by decide)]; exact s2
  · rw [eM _ _ 34 (by decide) (by decide)]; exact s3
  · rw [eC _ _ 27 (by decide) (by decide)]; exact s4
  · rw [eC _ _ 28 (by decide) (by decide), eM _ _ 39 (by decide) (by decide)]; exact h7
theorem told_back (h : OnR σ uC uM) (a : Int32) : Told σ uC uM (fC_Runner_goesBack a uC) (fM_forked (1 : Int32) a uM) := by
  unfold fC_Runner_goesBack fM_forked
  rcases arg_ix a 3 (by decide) with hx | ⟨f, hf, rfl⟩
  · rw [C_isFork_no hx, M_in_no (lo := 0) (hi := 2) (a := 0) (b := 2) rfl rfl (by decide) (by decide) hx]
    exact Told.no h
  obtain ⟨h1, h2, h3, ⟨m, hm, k1, k2⟩, h5, h6, h7⟩ := id h
  obtain ⟨y1, y2⟩ := k2 f hf
  rw [C_isFork_ok hf, M_in_ok (lo := 0) (hi := 2) (a := 0) (b := 2) rfl rfl (by decide) (Nat.zero_le _) (by omega)]
  simp only [Option.bind_some]
  rw [if_neg (show ¬ ((1 : Int32) = 0) by decide), if_neg (show ¬ ((1 : Int32) = 0) by decide), if_neg (show ¬ ((1 : Int32) = 0) by decide), pu_rd hf (by omega), k1, y1]
  simp only [Option.bind_some]
  by_cases b : m.testBit f = true
  · obtain ⟨y2, y3⟩ := y2 b
    rw [if_pos ((bitT ⟨m, hm⟩ ⟨f, hf⟩).mpr b), if_pos b, C_bring22 (by omega), if_neg (show ¬ ((1 : Int32) = 0) by decide), show kM_forked 4096 1 (nI f) 0 uM = kM_forked 4096 1 (nI f) (nI 0) uM from rfl, M_fork_back hf 70 4096 0 uM (by decide) (by decide)]
    simp only [Option.bind_some]
    rw [if_neg (show ¬ ((1 : Int32) = 0) by decide), Nat.add_zero, cpy_fkS h1.2.1.2.2, cpy_fkS (by rw [← h1.1]; exact h1.2.1.2.2), ← y2]
    have eC : ∀ (g : Nat → Int32) r, r ≠ 0 → wrA uC 0 g r = uC r := fun g r a => wrA_n a
    have eM : ∀ (x : Int32) (g : Nat → Int32) r, r ≠ 0 → r ≠ 36 → wr (wrA uM 0 g) 36 f x r = uM r := fun x g r a c => by rw [wr_n c, wrA_n a]
    refine ⟨1, _, _, Or.inr rfl, rfl, rfl, ⟨⟨?_, ?_, ?_, ?_⟩, h2.of (fun r hr => eC _ r (by omega)) (fun r hr => eM _ _ r (by omega) (by omega)), h3.of (fun r hr => eC _ r (by omega)) (fun r hr => eM _ _ r (by omega) (by omega)), ⟨m, hm, ?_, fun g hg => ?_⟩, h5.of (fun r hr => eC _ r (by omega)) (eM _ _ _ (by omega) (by omega)), h6.of (fun r hr => eC _ r (by omega)) (fun r hr => eM _ _ r (by omega) (by omega)), ?_⟩, fun r hr => eC _ r (by omega), fun r hr => eM _ _ r (by omega) (by omega)⟩
    · rw [wrA_s, wr_n (by decide), wrA_s]
    · rw [wrA_s]; exact y3
    · rw [eC _ 2 (by decide), eM _ _ 6 (by decide) (by decide)]; exact h1.2.2.1
    · rw [eC _ 19 (by decide), eM _ _ 8 (by decide) (by decide)]; exact h1.2.2.2
    · rw [eC _ 26 (by decide)]; exact k1
    · rw [eC _ 15 (by decide), eM _ _ 35 (by decide) (by decide), wr_s, wrA_n (by decide)]
      by_cases e : g = f
      · subst e
        rw [upd_s, if_pos b]
        exact ⟨rfl, (k2 g hg).2⟩
      · rw [upd_n e]; exact k2 g hg
    · rw [eC _ 28 (by decide), eM _ _ 39 (by decide) (by decide)]; exact h7
  · rw [if_neg (fun z => b ((bitT ⟨m, hm⟩ ⟨f, hf⟩).mp z)), if_neg b]
    exact Told.no h
end
