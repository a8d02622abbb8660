/-! PURE: a MUTANT is put in, and taken out. -/
def PI (u : Ug) (s : Nat) (k a b : Int32) : Ug := wr (wr (wr u 3 s k) 4 s a) 5 s b
def mk4 (u : Ug) (s : Nat) : Ug := wr (wr (wr (wr u 29 0 (nI s)) 30 0 (u 3 s)) 31 0 (u 4 s)) 32 0 (u 5 s)
theorem PI_n {u : Ug} {s r : Nat} {k a b : Int32} (h : ¬ (3 ≤ r ∧ r ≤ 5)) : PI u s k a b r = u r := by
  unfold PI
  rw [wr_n (by omega), wr_n (by omega), wr_n (by omega)]
theorem PI_3 {u : Ug} {s : Nat} {k a b : Int32} : PI u s k a b 3 = upd (u 3) s k := by
  unfold PI
  rw [wr_n (by decide), wr_n (by decide), wr_s]
theorem PI_4 {u : Ug} {s : Nat} {k a b : Int32} : PI u s k a b 4 = upd (u 4) s a := by
  unfold PI
  rw [wr_n (by decide), wr_s, wr_n (by decide)]
theorem PI_5 {u : Ug} {s : Nat} {k a b : Int32} : PI u s k a b 5 = upd (u 5) s b := by
  unfold PI
  rw [wr_s, wr_n (by decide), wr_n (by decide)]
theorem mk4_n {u : Ug} {s r : Nat} (h : ¬ (29 ≤ r ∧ r ≤ 32)) : mk4 u s r = u r := by
  unfold mk4
  rw [wr_n (by omega), wr_n (by omega), wr_n (by omega), wr_n (by omega)]
theorem mk4_29 {u : Ug} {s : Nat} : mk4 u s 29 0 = nI s := by
  unfold mk4
  rw [wr_n (by decide), wr_n (by decide), wr_n (by decide), wr_s, upd_s]
theorem mk4_30 {u : Ug} {s : Nat} : mk4 u s 30 0 = u 3 s := by
  unfold mk4
  rw [wr_n (by decide), wr_n (by decide), wr_s, upd_s]
theorem mk4_31 {u : Ug} {s : Nat} : mk4 u s 31 0 = u 4 s := by
  unfold mk4
  rw [wr_n (by decide), wr_s, upd_s]
theorem mk4_32 {u : Ug} {s : Nat} : mk4 u s 32 0 = u 5 s := by
  unfold mk4
  rw [wr_s, upd_s]
theorem C_replace {u : Ug} {s : Nat} {k a b : Int32} (h : s < 96) : fC_Code_replace (nI s) k a b u = some (0, PI u s k a b) := by
  unfold fC_Code_replace
  rw [if_neg (show ¬ nI s < 0 by rw [lit_0]; exact nI_nlt (Nat.zero_le _) (by omega)), if_neg (show ¬ (96 : Int32) ≤ nI s by rw [lit_96]; exact nI_ge h (by omega)), pu_wr h (by omega)]
  simp only [Option.bind_some]
  rw [pu_wr h (by omega)]
  simp only [Option.bind_some]
  rw [pu_wr h (by omega)]
  rfl
def PIm (u : Ug) (s : Nat) (m : Int32 × Int32 × Int32) : Ug := PI u s m.1 m.2.1 m.2.2
theorem C_putFirst {u : Ug} {s : Nat} {k a b : Int32} (hs : s < 96) (h29 : u 29 0 = nI s) (h30 : u 30 0 = k) (h31 : u 31 0 = a) (h32 : u 32 0 = b) : fC_Mutants_putFirst u = some (0, PIm u s (mutS 1 k a b)) := by
  unfold fC_Mutants_putFirst mutS
  rw [h29, h30, h31, h32, if_neg (show ¬ ((1 : Nat) = 0) by decide)]
  by_cases k2 : k = 2
  · rw [if_pos k2, if_pos k2, C_replace hs, if_pos rfl, k2]; rfl
  rw [if_neg k2, if_neg k2]
  by_cases k4 : k = 4
  · rw [if_pos k4, if_pos k4, C_replace hs, if_pos rfl, k4]; rfl
  rw [if_neg k4, if_neg k4]
  by_cases k5 : k = 5
  · rw [if_pos k5, if_pos k5, C_replace hs, if_neg (show ¬ k = 7 by rw [k5]; decide), k5]; rfl
  rw [if_neg k5, if_neg k5]
  by_cases k7 : k = 7
  · rw [if_pos k7, if_pos k7, C_replace hs, if_pos rfl, k7]; rfl
  rw [if_neg k7, if_neg k7, C_replace hs]; rfl
theorem C_putSecond {u : Ug} {s : Nat} {k a b : Int32} (hs : s < 96) (h29 : u 29 0 = nI s) (h30 : u 30 0 = k) (h31 : u 31 0 = a) (h32 : u 32 0 = b) (hk : k = 2 ∨ k = 4 ∨ k = 7) : fC_Mutants_putSecond u = some (0, PIm u s (mutS 2 k a b)) := by
  unfold fC_Mutants_putSecond mutS
  rw [h29, h30, h31, h32, if_neg (show ¬ ((2 : Nat) = 0) by decide)]
  by_cases k2 : k = 2
  · rw [if_pos k2, if_pos k2, C_replace hs, if_neg (show ¬ ((2 : Nat) = 1) by decide), k2]; rfl
  rw [if_neg k2, if_neg k2]
  by_cases k4 : k = 4
  · rw [if_neg (show ¬ k = 7 by rw [k4]; decide), if_pos k4, C_replace hs, if_neg (show ¬ ((2 : Nat) = 1) by decide)]; rfl
  have k7 : k = 7 := by rcases hk with h | h | h; exact absurd h k2; exact absurd h k4; exact h
  rw [if_neg k4, if_pos k7, if_pos k7, C_replace hs, if_neg (show ¬ ((2 : Nat) = 1) by decide)]; rfl
theorem nW_2 {k : Int32} (h : nW k = 2) : k = 2 ∨ k = 4 ∨ k = 7 := by
  unfold nW at h
  by_cases a : k = 2
  · exact Or.inl a
  rw [if_neg a] at h
  by_cases b : k = 4
  · exact Or.inr (Or.inl b)
  rw [if_neg b] at h
  by_cases c : k = 7
  · exact Or.inr (Or.inr c)
  rw [if_neg c] at h
  exact absurd h (by decide)
theorem C_putIn {u : Ug} {sz : Nat → Nat} {k c l : Nat} (hk : u 18 0 = nI k) (hk4 : k ≤ 4) (hc : c < k) (hsz : ∀ m, m < 12 → u 1 m = nI (sz m)) (h8 : ∀ m, m < 12 → sz m ≤ 8) (hl : l < muT (u 3) sz c) : fC_Mutants_putIn (nI c) (nI l) u = some (0, PIm (mk4 u (fiC (u 3) sz c l).1) (fiC (u 3) sz c l).1 (mutS (1 + (fiC (u 3) sz c l).2) (u 3 (fiC (u 3) sz c l).1) (u 4 (fiC (u 3) sz c l).1) (u 5 (fiC (u 3) sz c l).1))) := by
  unfold fC_Mutants_putIn
  rw [C_find_ok hk hk4 hc hsz h8 hl]
  obtain ⟨a1, a2, a3⟩ := fiC_in (kd := u 3) (by omega) h8 hl
  have hw := (nW_b (k := u 3 (fiC (u 3) sz c l).1)).2
  generalize fiC (u 3) sz c l = F at a1 a2 a3 hw
  obtain ⟨s, w⟩ := F
  have hs1 : 24 * c ≤ s := a1
  have hs2 : s < 24 * c + 24 := a2
  have hs : s < 96 := by omega
  have a3 : w < nW (u 3 s) := a3
  have hw : nW (u 3 s) ≤ 2 := hw
  show ((some (nI (2 * (s - 24 * c) + w), u)).bind fun q1 => _) = some (0, PIm (mk4 u s) s (mutS (1 + w) (u 3 s) (u 4 s) (u 5 s)))
  simp only [Option.bind_some, pu_sc]
  have es : nI c * (3 : Int32) * (8 : Int32) + nI (2 * (s - 24 * c) + w) / (2 : Int32) = nI s := by
    rw [lit_2, lit_3, lit_8, pk_div (by omega) (by decide) (by decide), pk_mul, pk_mul, nI_add]
    congr 1
    omega
  rw [if_pos (nI_pos' (by omega)), es, wr_s, upd_s, C_kind hs, wr_n (show (3 : Nat) ≠ 29 by decide)]
  simp only [Option.bind_some]
  rw [wr_n (show (29 : Nat) ≠ 30 by decide), wr_s, upd_s, C_a hs, wr_n (show (4 : Nat) ≠ 30 by decide), wr_n (show (4 : Nat) ≠ 29 by decide)]
  simp only [Option.bind_some]
  rw [wr_n (show (29 : Nat) ≠ 31 by decide), wr_n (show (29 : Nat) ≠ 30 by decide), wr_s, upd_s, C_b hs, wr_n (show (5 : Nat) ≠ 31 by decide), wr_n (show (5 : Nat) ≠ 30 by decide), wr_n (show (5 : Nat) ≠ 29 by decide)]
  simp only [Option.bind_some]
  unfold fC_Mutants_isSecond
  rw [show nI (2 * (s - 24 * c) + w) - nI (2 * (s - 24 * c) + w) / (2 : Int32) * (2 : Int32) = nI w by
    rw [lit_2, pk_rem (by omega) (by decide) (by decide)]; congr 1; omega]
  show (Option.bind (if nI w = 1 then some (1, mk4 u s) else some (0, mk4 u s)) fun q10 => _) = _
  rcases (show w = 0 ∨ w = 1 by omega) with rfl | rfl
  · rw [if_neg (show ¬ nI 0 = (1 : Int32) by decide)]
    simp only [Option.bind_some]
    rw [if_pos trivial, C_putFirst hs mk4_29 mk4_30 mk4_31 mk4_32]
    rfl
  · rw [if_pos (show nI 1 = (1 : Int32) from rfl)]
    simp only [Option.bind_some]
    rw [if_neg (show ¬ ((1 : Int32) = 0) by decide), C_putSecond hs mk4_29 mk4_30 mk4_31 mk4_32 (nW_2 (by omega))]
    rfl
theorem C_takeOut {u : Ug} {s c l : Nat} {k a b x : Int32} (hs : s < 96) (hc : c < 4) (hl : l < 48) (h29 : u 29 0 = nI s) (h30 : u 30 0 = k) (h31 : u 31 0 = a) (h32 : u 32 0 = b) : fC_Mutants_takeOut (nI c) (nI l) x u = some (0, wr (PI u s k a b) 17 (48 * c + l) x) := by
  unfold fC_Mutants_takeOut
  rw [h29, h30, h31, h32, C_replace hs]
  simp only [Option.bind_some]
  rw [if_neg (show ¬ nI c < 0 by rw [lit_0]; exact nI_nlt (Nat.zero_le _) (by omega)), if_neg (show ¬ (4 : Int32) ≤ nI c by rw [lit_4]; exact nI_ge hc (by omega)), if_neg (show ¬ nI l < 0 by rw [lit_0]; exact nI_nlt (Nat.zero_le _) (by omega)), if_neg (show ¬ (48 : Int32) ≤ nI l by rw [lit_48]; exact nI_ge hl (by omega)), lit_48, pk_mul, nI_add, Nat.mul_comm c 48, pu_wr (by omega) (by omega)]
  rfl
/-- with the MUTANT in, the STEPS are as they must be -/
theorem mutS_wf {k a b : Int32} {w : Nat} (hw : w < nW k) (h : WfS k a) (h7 : k = 7 → ∃ j : Nat, j ≤ 7 ∧ a = nI j) : WfS (mutS (1 + w) k a b).1 (mutS (1 + w) k a b).2.1 := by
  have hb := (nW_b (k := k)).2
  unfold mutS
  rw [if_neg (show ¬ 1 + w = 0 by omega)]
  have no : ∀ (x : Int32) (y : Int32), x = 2 ∨ x = 12 → WfS x y := by
    intro x y hx
    rcases hx with rfl | rfl
    · exact ⟨fun q => absurd q (by decide), fun q => absurd q (by decide), fun q => absurd q (by decide), fun q => absurd q (by decide)⟩
    · exact ⟨fun q => absurd q (by decide), fun q => absurd q (by decide), fun q => absurd q (by decide), fun q => absurd q (by decide)⟩
  by_cases k2 : k = 2
  · rw [if_pos k2]; exact no _ _ (Or.inl rfl)
  rw [if_neg k2]
  by_cases k4 : k = 4
  · rw [if_pos k4]
    by_cases w1 : 1 + w = 1
    · rw [if_pos w1]; rw [k4] at h; exact h
    · rw [if_neg w1]; exact no _ _ (Or.inr rfl)
  rw [if_neg k4]
  by_cases k7 : k = 7
  · rw [if_pos k7]
    obtain ⟨j, hj, rfl⟩ := h7 k7
    by_cases w1 : 1 + w = 1
    · rw [if_pos w1]
      show WfS 7 (nI j + 1)
      exact ⟨fun q => absurd q (by decide), fun q => absurd q (by decide), fun _ => ⟨j + 1, by omega, nI_1 _⟩, fun q => absurd q (by decide)⟩
    · rw [if_neg w1]
      show WfS 13 (nI j)
      exact ⟨fun q => absurd q (by decide), fun q => absurd q (by decide), fun _ => ⟨j, by omega, rfl⟩, fun q => absurd q (by decide)⟩
  rw [if_neg k7]
  by_cases k5 : k = 5
  · rw [if_pos k5]
    obtain ⟨j, hj, rfl⟩ := h.2.1 k5
    show WfS 5 (nI j + 1 - (nI j + 1) / 12 * 12)
    refine ⟨fun q => absurd q (by decide), fun _ => ⟨(j + 1) % 12, Nat.mod_lt _ (by decide), ?_⟩, fun q => absurd q (by decide), fun q => absurd q (by decide)⟩
    show nI j + 1 - (nI j + 1) / 12 * 12 = _
    rw [nI_1, lit_12, pk_rem (by omega) (by decide) (by decide)]
  rw [if_neg k5]
  exact no _ _ (Or.inr rfl)
