/-! PURE: line alike. -/
def fiW (w : Int64) : Nat → Nat → Int32
  | 0, _ => -1
  | d + 1, k => if tw k = w then nI k else fiW w d (k + 1)
def laW (w : Int64) : Nat → Nat → Int32 → Int32
  | 0, _, a => a
  | d + 1, k, a => laW w d (k + 1) (if tw k = w then nI k else a)
theorem pu_tb {f : Nat → Int64} {n i : Nat} (h : i < n) (hn : n < 2 ^ 31) : tbO f n (nI i) = some (f i) := by
  unfold tbO
  rw [if_pos (en_in_iff.mpr (vp_in_nI h hn)), nI_clamp (by omega)]
theorem lit_14 : (14 : Int32) = nI 14 := rfl
theorem C_word {u : Ug} {w : Int64} : ∀ (d n k : Nat), k + d = 14 → d < n → kC_Scripts_wordPlace n w (nI k) u = some (fiW w d k, u) := by
  intro d
  induction d with
  | zero =>
    intro n k hk hn
    obtain ⟨n, rfl⟩ : ∃ n', n = n' + 1 := ⟨n - 1, by omega⟩
    show sC_Scripts_wordPlace_2 _ _ _ _ = _
    unfold sC_Scripts_wordPlace_2
    rw [if_pos (by rw [lit_14]; exact nI_le (by omega) (by omega))]
    rfl
  | succ d ih =>
    intro n k hk hn
    obtain ⟨n, rfl⟩ : ∃ n', n = n' + 1 := ⟨n - 1, by omega⟩
    show sC_Scripts_wordPlace_2 (kC_Scripts_wordPlace n) _ _ _ = some (if tw k = w then nI k else fiW w d (k + 1), u)
    unfold sC_Scripts_wordPlace_2
    rw [if_neg (by rw [lit_14]; exact nI_ge (by omega) (by omega)), pu_tb (show k < 14 by omega) (by omega)]
    simp only [Option.bind_some]
    rw [nI_1, ih n (k + 1) (by omega) (by omega)]
    by_cases q : tw k = w
    · rw [if_pos ((lg_cmp_eq _ _).mpr q), if_pos q]
    · rw [if_neg (fun z => q ((lg_cmp_eq _ _).mp z)), if_neg q]
theorem M_word {u : Ug} {w : Int64} {x1 x3 x4 x5 : Int32} : ∀ (d n k : Nat) (a : Int32), k + d = 14 → d < n → kM_line n x1 w x3 x4 x5 a (nI k) u = sM_line_6 (kM_line 0) x1 w x3 x4 x5 (laW w d k a) (nI 14) u := by
  intro d
  induction d with
  | zero =>
    intro n k a hk hn
    obtain ⟨n, rfl⟩ : ∃ n', n = n' + 1 := ⟨n - 1, by omega⟩
    obtain rfl : k = 14 := by omega
    show sM_line_6 (kM_line n) x1 w x3 x4 x5 a (nI 14) u = sM_line_6 (kM_line 0) x1 w x3 x4 x5 a (nI 14) u
    unfold sM_line_6
    rw [if_pos (show (14 : Int32) ≤ nI 14 by decide), if_pos (show (14 : Int32) ≤ nI 14 by decide)]
  | succ d ih =>
    intro n k a hk hn
    obtain ⟨n, rfl⟩ : ∃ n', n = n' + 1 := ⟨n - 1, by omega⟩
    have hs : kM_line (n + 1) x1 w x3 x4 x5 a (nI k) u = kM_line n x1 w x3 x4 x5 (if tw k = w then nI k else a) (nI (k + 1)) u := by
      show sM_line_6 (kM_line n) _ _ _ _ _ _ _ _ = _
      unfold sM_line_6
      rw [if_neg (show ¬ (14 : Int32) ≤ nI k by rw [lit_14]; exact nI_ge (by omega) (by omega)), pu_tb (show k < 14 by omega) (by omega)]
      simp only [Option.bind_some]
      rw [nI_1]
      by_cases q : tw k = w
      · rw [if_pos ((lg_cmp_eq _ _).mpr q), if_pos q]
      · rw [if_neg (fun z => q ((lg_cmp_eq _ _).mp z)), if_neg q]
    rw [hs, ih n (k + 1) _ (by omega) (by omega)]
    rfl
theorem fiW_no {w : Int64} : ∀ (d k : Nat), (∀ j, j < d → tw (k + j) ≠ w) → fiW w d k = -1 := by
  intro d
  induction d with
  | zero => intro k h; rfl
  | succ d ih =>
    intro k h
    show (if tw k = w then nI k else fiW w d (k + 1)) = -1
    rw [if_neg (show ¬ tw k = w from h 0 (by omega)), ih (k + 1) (fun j hj => by rw [show k + 1 + j = k + (j + 1) by omega]; exact h (j + 1) (by omega))]
theorem laW_no {w : Int64} : ∀ (d k : Nat) (a : Int32), (∀ j, j < d → tw (k + j) ≠ w) → laW w d k a = a := by
  intro d
  induction d with
  | zero => intro k a h; rfl
  | succ d ih =>
    intro k a h
    show laW w d (k + 1) (if tw k = w then nI k else a) = a
    rw [if_neg (show ¬ tw k = w from h 0 (by omega)), ih (k + 1) a (fun j hj => by rw [show k + 1 + j = k + (j + 1) by omega]; exact h (j + 1) (by omega))]
theorem word_both (w : Int64) : (fiW w 14 0 = -1 ∧ laW w 14 0 (-1) = -1) ∨ ∃ j : Nat, j < 14 ∧ fiW w 14 0 = nI j ∧ laW w 14 0 (-1) = nI j := by
  by_cases h : ∀ j, j < 14 → tw (0 + j) ≠ w
  · exact Or.inl ⟨fiW_no 14 0 h, laW_no 14 0 _ h⟩
  · obtain ⟨j, hj⟩ := Classical.not_forall.mp h
    obtain ⟨hj, e⟩ := Classical.not_imp.mp hj
    have e : tw (0 + j) = w := Classical.not_not.mp e
    refine Or.inr ⟨j, hj, ?_⟩
    rw [← e]
    have : ∀ i : Fin 14, fiW (tw (0 + i.val)) 14 0 = nI i.val ∧ laW (tw (0 + i.val)) 14 0 (-1) = nI i.val := by decide +kernel
    exact this ⟨j, hj⟩
/-- a LINE more: a TEST's size, and the four rows at its place -/
def LwC (u : Ug) (s t n : Nat) (w a b c : Int32) : Ug := wr (wr (wr (wr (wr u 11 s w) 12 s a) 13 s b) 14 s c) 10 t (nI n)
def LwM (u : Ug) (s t n : Nat) (w a b c : Int32) : Ug := wr (wr (wr (wr (wr u 10 s w) 11 s a) 12 s b) 13 s c) 9 t (nI n)
theorem LwC_r {u : Ug} {s t n : Nat} {w a b c : Int32} {r : Nat} (h : ¬ (10 ≤ r ∧ r ≤ 14)) : LwC u s t n w a b c r = u r := by
  unfold LwC; rw [wr_n (by omega), wr_n (by omega), wr_n (by omega), wr_n (by omega), wr_n (by omega)]
theorem LwM_r {u : Ug} {s t n : Nat} {w a b c : Int32} {r : Nat} (h : ¬ (9 ≤ r ∧ r ≤ 13)) : LwM u s t n w a b c r = u r := by
  unfold LwM; rw [wr_n (by omega), wr_n (by omega), wr_n (by omega), wr_n (by omega), wr_n (by omega)]
theorem LwC_l {u : Ug} {s t n : Nat} {w a b c : Int32} : LwC u s t n w a b c 10 = upd (u 10) t (nI n) ∧ LwC u s t n w a b c 11 = upd (u 11) s w ∧ LwC u s t n w a b c 12 = upd (u 12) s a ∧ LwC u s t n w a b c 13 = upd (u 13) s b ∧ LwC u s t n w a b c 14 = upd (u 14) s c := by
  unfold LwC
  refine ⟨?_, ?_, ?_, ?_, ?_⟩
  · rw [wr_s, wr_n (by decide), wr_n (by decide), wr_n (by decide), wr_n (by decide)]
  · rw [wr_n (by decide), wr_n (by decide), wr_n (by decide), wr_n (by decide), wr_s]
  · rw [wr_n (by decide), wr_n (by decide), wr_n (by decide), wr_s, wr_n (by decide)]
  · rw [wr_n (by decide), wr_n (by decide), wr_s, wr_n (by decide), wr_n (by decide)]
  · rw [wr_n (by decide), wr_s, wr_n (by decide), wr_n (by decide), wr_n (by decide)]
theorem LwM_l {u : Ug} {s t n : Nat} {w a b c : Int32} : LwM u s t n w a b c 9 = upd (u 9) t (nI n) ∧ LwM u s t n w a b c 10 = upd (u 10) s w ∧ LwM u s t n w a b c 11 = upd (u 11) s a ∧ LwM u s t n w a b c 12 = upd (u 12) s b ∧ LwM u s t n w a b c 13 = upd (u 13) s c := by
  unfold LwM
  refine ⟨?_, ?_, ?_, ?_, ?_⟩
  · rw [wr_s, wr_n (by decide), wr_n (by decide), wr_n (by decide), wr_n (by decide)]
  · rw [wr_n (by decide), wr_n (by decide), wr_n (by decide), wr_n (by decide), wr_s]
  · rw [wr_n (by decide), wr_n (by decide), wr_n (by decide), wr_s, wr_n (by decide)]
  · rw [wr_n (by decide), wr_n (by decide), wr_s, wr_n (by decide), wr_n (by decide)]
  · rw [wr_n (by decide), wr_s, wr_n (by decide), wr_n (by decide), wr_n (by decide)]
/-- the class's append at a TEST that isn't full -/
theorem C_append {u : Ug} {t n : Nat} {w a b c : Int32} (ht : t < 6) (hn : n < 16) (e : u 10 t = nI n) : fC_Scripts_append (nI t) w a b c u = some (nI (n + 1), LwC u (16 * t + n) t (n + 1) w a b c) := by
  have es : nI t * (16 : Int32) + nI n = nI (16 * t + n) := by rw [lit_16, pk_mul, nI_add, Nat.mul_comm]
  unfold fC_Scripts_append
  rw [if_neg (show ¬ nI t < 0 by rw [lit_0]; exact nI_nlt (Nat.zero_le _) (by omega)), if_neg (show ¬ (6 : Int32) ≤ nI t by rw [lit_6]; exact nI_ge ht (by omega)), pu_rd ht (by omega)]
  simp only [Option.bind_some]
  rw [e, if_neg (show ¬ nI n < 0 by rw [lit_0]; exact nI_nlt (Nat.zero_le _) (by omega)), if_pos (show nI n < (16 : Int32) by rw [lit_16]; exact nI_lt hn (by omega)), es, pu_wr (show 16 * t + n < 96 by omega) (by omega)]
  simp only [Option.bind_some]
  rw [pu_wr (show 16 * t + n < 96 by omega) (by omega)]
  simp only [Option.bind_some]
  rw [pu_wr (show 16 * t + n < 96 by omega) (by omega)]
  simp only [Option.bind_some]
  rw [pu_wr (show 16 * t + n < 96 by omega) (by omega)]
  simp only [Option.bind_some]
  rw [wr_n (show (10 : Nat) ≠ 14 by decide), wr_n (show (10 : Nat) ≠ 13 by decide), wr_n (show (10 : Nat) ≠ 12 by decide), wr_n (show (10 : Nat) ≠ 11 by decide), pu_rd ht (by omega), e]
  simp only [Option.bind_some]
  rw [nI_1, pu_wr ht (by omega)]
  simp only [Option.bind_some]
  rw [pu_rd ht (by omega), wr_s, upd_s]
  rfl
theorem C_append_full {u : Ug} {t : Nat} {w a b c : Int32} (ht : t < 6) (e : u 10 t = nI 16) : fC_Scripts_append (nI t) w a b c u = some (-2, u) := by
  unfold fC_Scripts_append
  rw [if_neg (show ¬ nI t < 0 by rw [lit_0]; exact nI_nlt (Nat.zero_le _) (by omega)), if_neg (show ¬ (6 : Int32) ≤ nI t by rw [lit_6]; exact nI_ge ht (by omega)), pu_rd ht (by omega)]
  simp only [Option.bind_some]
  rw [e, if_neg (show ¬ nI 16 < 0 by decide), if_neg (show ¬ nI 16 < (16 : Int32) by decide)]
theorem Inv.line {uC uM : Ug} (h : Inv uC uM) {t n j : Nat} {a b c : Int32} (ht : t < 6) (hn : n < 16) (e : uC 10 t = nI n) (hj : j < 14) : Inv (LwC uC (16 * t + n) t (n + 1) (nI j) a b c) (LwM uM (16 * t + n) t (n + 1) (nI j) a b c) := by
  refine ⟨h.1.of (LwC_r (by omega)) (LwM_r (by omega)), h.2.1.of (fun r hr => LwC_r (by omega)) (fun r hr => LwM_r (by omega)), h.2.2.1.of (fun r hr => LwC_r (by omega)) (fun r hr => LwM_r (by omega)), h.2.2.2.1.of (fun r hr => LwC_r (by omega)) (fun r hr => LwM_r (by omega)), ?_, h.2.2.2.2.2.of (fun r hr => LwC_r (by omega)) (fun r hr => LwM_r (by omega))⟩
  obtain ⟨c0, c1, c2, c3, c4⟩ := LwC_l (u := uC) (s := 16 * t + n) (t := t) (n := n + 1) (w := nI j) (a := a) (b := b) (c := c)
  obtain ⟨m0, m1, m2, m3, m4⟩ := LwM_l (u := uM) (s := 16 * t + n) (t := t) (n := n + 1) (w := nI j) (a := a) (b := b) (c := c)
  intro t2 ht2
  rw [c0, c1, c2, c3, c4, m0, m1, m2, m3, m4]
  obtain ⟨n2, hn2, g1, g2, g3⟩ := h.2.2.2.2.1 t2 ht2
  by_cases z : t2 = t
  · subst z
    have : n2 = n := (nI_eq (by omega) (by omega)).mp (g1.symm.trans e)
    subst this
    refine ⟨n2 + 1, by omega, upd_s, upd_s, fun i hi => ?_⟩
    by_cases zi : i = n2
    · subst zi
      rw [upd_s, upd_s, upd_s, upd_s, upd_s, upd_s, upd_s, upd_s]
      exact ⟨⟨j, hj, rfl⟩, rfl, rfl, rfl, rfl⟩
    · rw [upd_n (by omega), upd_n (by omega), upd_n (by omega), upd_n (by omega), upd_n (by omega), upd_n (by omega), upd_n (by omega), upd_n (by omega)]
      exact g3 i (by omega)
  · refine ⟨n2, hn2, by rw [upd_n z]; exact g1, by rw [upd_n z]; exact g2, fun i hi => ?_⟩
    rw [upd_n (by omega), upd_n (by omega), upd_n (by omega), upd_n (by omega), upd_n (by omega), upd_n (by omega), upd_n (by omega), upd_n (by omega)]
    exact g3 i hi
theorem Alike_line (x1 : Int32) (w : Int64) (x3 x4 x5 : Int32) : Alike (fC_line x1 w x3 x4 x5) (fM_line x1 w x3 x4 x5) := by
  intro uC uM h
  unfold fC_line fM_line fC_Scripts_wordPlace
  rw [lit_0, C_word 14 4096 0 (by decide) (by decide), M_word 14 4096 0 _ (by decide) (by decide)]
  unfold sM_line_6
  rw [if_pos (show (14 : Int32) ≤ nI 14 by decide)]
  simp only [Option.bind_some]
  rcases arg_ix x1 6 (by decide) with hx | ⟨t, ht, rfl⟩
  · rw [C_isTest_no hx, M_in_no (lo := 0) (hi := 5) (a := 0) (b := 5) rfl rfl (by decide) (by decide) hx]
    exact ⟨_, _, _, rfl, rfl, h⟩
  rw [C_isTest_ok ht, M_in_ok (lo := 0) (hi := 5) (a := 0) (b := 5) rfl rfl (by decide) (Nat.zero_le _) (by omega)]
  simp only [Option.bind_some]
  rw [if_neg (show ¬ ((1 : Int32) = nI 0) by decide), if_neg (show ¬ ((1 : Int32) = 0) by decide)]
  rcases word_both w with ⟨e1, e2⟩ | ⟨j, hj, e1, e2⟩
  · rw [e1, e2, if_neg (show ¬ nI 0 ≤ (-1 : Int32) by decide), if_neg (show ¬ (0 : Int32) ≤ -1 by decide)]
    exact ⟨_, _, _, rfl, rfl, h⟩
  · rw [e1, e2, if_pos (show nI 0 ≤ nI j from nI_le (Nat.zero_le _) (by omega)), if_pos (show (0 : Int32) ≤ nI j by rw [lit_0]; exact nI_le (Nat.zero_le _) (by omega))]
    obtain ⟨n, hn, g1, g2, -⟩ := h.2.2.2.2.1 t ht
    rw [pu_rd ht (by omega)]
    simp only [Option.bind_some]
    rw [g2]
    by_cases n16 : n = 16
    · subst n16
      rw [C_append_full ht g1, if_pos (show nI 16 = (16 : Int32) from rfl)]
      exact ⟨_, _, _, rfl, rfl, h⟩
    · have es : (16 : Int32) * nI t + nI n = nI (16 * t + n) := by rw [lit_16, pk_mul, nI_add]
      rw [C_append ht (by omega) g1, if_neg (show ¬ nI n = (16 : Int32) by rw [lit_16]; exact fun z => by have := (nI_eq (by omega) (by omega)).mp z; omega), es, pu_wr (show 16 * t + n < 96 by omega) (by omega)]
      simp only [Option.bind_some]
      rw [pu_wr (show 16 * t + n < 96 by omega) (by omega)]
      simp only [Option.bind_some]
      rw [pu_wr (show 16 * t + n < 96 by omega) (by omega)]
      simp only [Option.bind_some]
      rw [pu_wr (show 16 * t + n < 96 by omega) (by omega)]
      simp only [Option.bind_some]
      rw [wr_n (show (9 : Nat) ≠ 13 by decide), wr_n (show (9 : Nat) ≠ 12 by decide), wr_n (show (9 : Nat) ≠ 11 by decide), wr_n (show (9 : Nat) ≠ 10 by decide), pu_rd ht (by omega), g2]
      simp only [Option.bind_some]
      rw [nI_1, pu_wr ht (by omega)]
      simp only [Option.bind_some]
      rw [pu_rd ht (by omega), wr_s, upd_s]
      exact ⟨_, _, _, rfl, rfl, h.line ht (by omega) g1 hj⟩
