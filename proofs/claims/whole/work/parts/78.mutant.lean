/-! PURE: the MUTANT number l. -/
section
variable {u : Ug} {sz : Nat → Nat} {k c : Nat} {x2 : Int32}
theorem fiP_lt {kd : Nat → Int32} {d s l : Nat} (q : l < nW (kd s)) : fiP kd (d + 1) s l = (s, l) := if_pos q
theorem fiP_ge {kd : Nat → Int32} {d s l : Nat} (q : ¬ l < nW (kd s)) : fiP kd (d + 1) s l = fiP kd d (s + 1) (l - nW (kd s)) := if_neg q
/-- one MEMBER of the class: found there -/
theorem C_fi2_in (h8 : ∀ m, m < 12 → sz m ≤ 8) {p m : Nat} (hp2 : p < 12) (hm : m < 3) : ∀ (d n at_ l : Nat), at_ + d = sz p → d < n → l < swS (u 3) d (8 * p + at_) → (kC_Mutants_find n).2 (nI c) x2 (nI l) (nI m) (nI p) (nI (sz p)) (nI at_) u = some (nI (2 * (8 * m + ((fiP (u 3) d (8 * p + at_) l).1 - 8 * p)) + (fiP (u 3) d (8 * p + at_) l).2), u) := by
  have := h8 p hp2
  intro d
  induction d with
  | zero => intro n at_ l h hn hl; exact absurd hl (Nat.not_lt_zero _)
  | succ d ih =>
    intro n at_ l h hn hl
    obtain ⟨n, rfl⟩ : ∃ n', n = n' + 1 := ⟨n - 1, by omega⟩
    have hl : l < nW (u 3 (8 * p + at_)) + swS (u 3) d (8 * p + at_ + 1) := hl
    have hb := swS_le (kd := u 3) d (8 * p + at_ + 1)
    have hw := nW_b (k := u 3 (8 * p + at_))
    show sC_Mutants_find_43 (kC_Mutants_find n).1 (kC_Mutants_find n).2 _ _ _ _ _ _ _ _ = _
    unfold sC_Mutants_find_43
    rw [if_neg (nI_ge (by omega) (by omega)), lit_8, pk_mul, nI_add, Nat.mul_comm p 8, C_kind (by omega)]
    simp only [Option.bind_some]
    rw [C_perStep]
    simp only [Option.bind_some]
    by_cases q : l < nW (u 3 (8 * p + at_))
    · rw [if_neg (nI_ge q (by omega)), fiP_lt q, lit_2, pk_mul, nI_add, pk_mul, nI_add]
      congr 3
      show (m * 8 + at_) * 2 + l = 2 * (8 * m + (8 * p + at_ - 8 * p)) + l
      omega
    · rw [if_pos (nI_le (by omega) (by omega)), fiP_ge q, pk_sub (by omega), nI_1, ih n (at_ + 1) _ (by omega) (by omega) (by rw [← Nat.add_assoc]; omega)]
      rfl
/-- one MEMBER of the class: not there -/
theorem C_fi2_out (h8 : ∀ m, m < 12 → sz m ≤ 8) {p m : Nat} (hp2 : p < 12) : ∀ (d n at_ l : Nat), at_ + d = sz p → d < n → l < 2 ^ 31 → swS (u 3) d (8 * p + at_) ≤ l → ∃ n', n = n' + d + 1 ∧ (kC_Mutants_find n).2 (nI c) x2 (nI l) (nI m) (nI p) (nI (sz p)) (nI at_) u = (kC_Mutants_find n').1 (nI c) x2 (nI (l - swS (u 3) d (8 * p + at_))) (nI (m + 1)) u := by
  have := h8 p hp2
  intro d
  induction d with
  | zero =>
    intro n at_ l h hn hl2 hl
    obtain ⟨n, rfl⟩ : ∃ n', n = n' + 1 := ⟨n - 1, by omega⟩
    refine ⟨n, rfl, ?_⟩
    show sC_Mutants_find_43 (kC_Mutants_find n).1 (kC_Mutants_find n).2 _ _ _ _ _ _ _ _ = _
    unfold sC_Mutants_find_43
    rw [if_pos (nI_le (by omega) (by omega)), nI_1]
    rfl
  | succ d ih =>
    intro n at_ l h hn hl2 hl
    obtain ⟨n, rfl⟩ : ∃ n', n = n' + 1 := ⟨n - 1, by omega⟩
    have hl : nW (u 3 (8 * p + at_)) + swS (u 3) d (8 * p + (at_ + 1)) ≤ l := hl
    obtain ⟨n', e, hh⟩ := ih n (at_ + 1) (l - nW (u 3 (8 * p + at_))) (by omega) (by omega) (by omega) (by omega)
    refine ⟨n', by omega, ?_⟩
    have ee : l - swS (u 3) (d + 1) (8 * p + at_) = l - nW (u 3 (8 * p + at_)) - swS (u 3) d (8 * p + (at_ + 1)) := by
      show l - (nW (u 3 (8 * p + at_)) + swS (u 3) d (8 * p + at_ + 1)) = _
      rw [Nat.add_assoc (8 * p)]; omega
    show sC_Mutants_find_43 (kC_Mutants_find n).1 (kC_Mutants_find n).2 _ _ _ _ _ _ _ _ = _
    unfold sC_Mutants_find_43
    rw [if_neg (nI_ge (by omega) (by omega)), lit_8, pk_mul, nI_add, Nat.mul_comm p 8, C_kind (by omega)]
    simp only [Option.bind_some]
    rw [C_perStep]
    simp only [Option.bind_some]
    rw [if_pos (nI_le (by omega) (by omega)), pk_sub (by omega), nI_1, hh, ee]
theorem C_fi1_in (hk : u 18 0 = nI k) (hk4 : k ≤ 4) (hc : c < k) (hsz : ∀ m, m < 12 → u 1 m = nI (sz m)) (h8 : ∀ m, m < 12 → sz m ≤ 8) {m : Nat} (hm : m < 3) (n l : Nat) (hn : 10 ≤ n) (hl : l < swS (u 3) (sz (3 * c + m)) (8 * (3 * c + m))) : (kC_Mutants_find n).1 (nI c) x2 (nI l) (nI m) u = some (nI (2 * (8 * m + ((fiP (u 3) (sz (3 * c + m)) (8 * (3 * c + m)) l).1 - 8 * (3 * c + m))) + (fiP (u 3) (sz (3 * c + m)) (8 * (3 * c + m)) l).2), u) := by
  have := h8 (3 * c + m) (by omega)
  obtain ⟨n, rfl⟩ : ∃ n', n = n' + 1 := ⟨n - 1, by omega⟩
  have hh := C_fi2_in (u := u) (c := c) (x2 := x2) h8 (show 3 * c + m < 12 by omega) hm (sz (3 * c + m)) n 0 l (by omega) (by omega) hl
  show sC_Mutants_find_11 (kC_Mutants_find n).1 (kC_Mutants_find n).2 _ _ _ _ _ = _
  unfold sC_Mutants_find_11
  rw [if_neg (by rw [lit_3]; exact nI_ge hm (by omega)), C_placeOf_ok hk hk4 hc hm]
  simp only [Option.bind_some]
  rw [C_size (by omega), hsz _ (by omega)]
  simp only [Option.bind_some]
  rw [lit_0, hh]
  rfl
theorem C_fi1_out (hk : u 18 0 = nI k) (hk4 : k ≤ 4) (hc : c < k) (hsz : ∀ m, m < 12 → u 1 m = nI (sz m)) (h8 : ∀ m, m < 12 → sz m ≤ 8) {m : Nat} (hm : m < 3) (n l : Nat) (hn : 10 ≤ n) (hl2 : l < 2 ^ 31) (hl : swS (u 3) (sz (3 * c + m)) (8 * (3 * c + m)) ≤ l) : ∃ n', n - 10 ≤ n' ∧ (kC_Mutants_find n).1 (nI c) x2 (nI l) (nI m) u = (kC_Mutants_find n').1 (nI c) x2 (nI (l - swS (u 3) (sz (3 * c + m)) (8 * (3 * c + m)))) (nI (m + 1)) u := by
  have := h8 (3 * c + m) (by omega)
  obtain ⟨n, rfl⟩ : ∃ n', n = n' + 1 := ⟨n - 1, by omega⟩
  obtain ⟨n', e, hh⟩ := C_fi2_out (u := u) (c := c) (x2 := x2) h8 (m := m) (show 3 * c + m < 12 by omega) (sz (3 * c + m)) n 0 l (by omega) (by omega) hl2 hl
  refine ⟨n', by omega, ?_⟩
  show sC_Mutants_find_11 (kC_Mutants_find n).1 (kC_Mutants_find n).2 _ _ _ _ _ = _
  unfold sC_Mutants_find_11
  rw [if_neg (by rw [lit_3]; exact nI_ge hm (by omega)), C_placeOf_ok hk hk4 hc hm]
  simp only [Option.bind_some]
  rw [C_size (by omega), hsz _ (by omega)]
  simp only [Option.bind_some]
  rw [lit_0, hh]
  rfl
theorem C_find_ok (hk : u 18 0 = nI k) (hk4 : k ≤ 4) (hc : c < k) (hsz : ∀ m, m < 12 → u 1 m = nI (sz m)) (h8 : ∀ m, m < 12 → sz m ≤ 8) {l : Nat} (hl : l < muT (u 3) sz c) : fC_Mutants_find (nI c) (nI l) u = some (nI (2 * ((fiC (u 3) sz c l).1 - 24 * c) + (fiC (u 3) sz c l).2), u) := by
  have h48 := muT_le (kd := u 3) (c := c) (by omega) h8
  have hl48 : l < 48 := Nat.lt_of_lt_of_le hl h48
  unfold fC_Mutants_find
  rw [if_pos (nI_pos' (by omega)), lit_0]
  unfold muT at hl
  unfold fiC
  by_cases a : l < swS (u 3) (sz (3 * c)) (8 * (3 * c))
  · rw [if_pos a]
    refine (C_fi1_in hk hk4 hc hsz h8 (m := 0) (by decide) 4096 l (by decide) a).trans ?_
    obtain ⟨x, y, z⟩ := fiP_in _ _ _ a
    show some (nI (2 * (8 * 0 + ((fiP (u 3) (sz (3 * c)) (8 * (3 * c)) l).1 - 8 * (3 * c))) + (fiP (u 3) (sz (3 * c)) (8 * (3 * c)) l).2), u) = _
    congr 3
    omega
  rw [if_neg a]
  obtain ⟨n1, b1, e1⟩ := C_fi1_out (x2 := nI l) hk hk4 hc hsz h8 (m := 0) (by decide) 4096 l (by decide) (by omega) (Nat.le_of_not_lt a)
  refine e1.trans ?_
  show (kC_Mutants_find n1).1 (nI c) (nI l) (nI (l - swS (u 3) (sz (3 * c)) (8 * (3 * c)))) (nI 1) u = _
  by_cases b : l - swS (u 3) (sz (3 * c)) (8 * (3 * c)) < swS (u 3) (sz (3 * c + 1)) (8 * (3 * c + 1))
  · rw [if_pos b]
    refine (C_fi1_in hk hk4 hc hsz h8 (m := 1) (by decide) n1 _ (by omega) b).trans ?_
    obtain ⟨x, y, z⟩ := fiP_in _ _ _ b
    congr 3
    omega
  rw [if_neg b]
  obtain ⟨n2, b2, e2⟩ := C_fi1_out (x2 := nI l) hk hk4 hc hsz h8 (m := 1) (by decide) n1 _ (by omega) (by omega) (Nat.le_of_not_lt b)
  refine e2.trans ?_
  have d : l - swS (u 3) (sz (3 * c)) (8 * (3 * c)) - swS (u 3) (sz (3 * c + 1)) (8 * (3 * c + 1)) < swS (u 3) (sz (3 * c + 2)) (8 * (3 * c + 2)) := by omega
  refine (C_fi1_in hk hk4 hc hsz h8 (m := 2) (by decide) n2 _ (by omega) d).trans ?_
  obtain ⟨x, y, z⟩ := fiP_in _ _ _ d
  congr 3
  omega
theorem C_find_no (hk : u 18 0 = nI k) (hk4 : k ≤ 4) (hc : c < k) (hsz : ∀ m, m < 12 → u 1 m = nI (sz m)) (h8 : ∀ m, m < 12 → sz m ≤ 8) {x : Int32} (hx : x < 0 ∨ nI (muT (u 3) sz c) ≤ x) : fC_Mutants_find (nI c) x u = some (-1, u) := by
  have h48 := muT_le (kd := u 3) (c := c) (by omega) h8
  unfold fC_Mutants_find
  by_cases q : x < 0
  · rw [if_neg (Int32.not_le.mpr q)]
  rw [if_pos (Int32.not_lt.mp q), lit_0]
  obtain ⟨l, hl, rfl⟩ := nI_of q
  have hx := (nI_leI (by omega) hl).mp (hx.resolve_left q)
  unfold muT at hx
  obtain ⟨n1, b1, e1⟩ := C_fi1_out (x2 := nI l) hk hk4 hc hsz h8 (m := 0) (by decide) 4096 l (by decide) (by omega) (show swS (u 3) (sz (3 * c)) (8 * (3 * c)) ≤ l by omega)
  refine e1.trans ?_
  show (kC_Mutants_find n1).1 (nI c) (nI l) (nI (l - swS (u 3) (sz (3 * c)) (8 * (3 * c)))) (nI 1) u = _
  obtain ⟨n2, b2, e2⟩ := C_fi1_out (x2 := nI l) hk hk4 hc hsz h8 (m := 1) (by decide) n1 (l - swS (u 3) (sz (3 * c)) (8 * (3 * c))) (by omega) (by omega) (by omega)
  refine e2.trans ?_
  obtain ⟨n3, b3, e3⟩ := C_fi1_out (x2 := nI l) hk hk4 hc hsz h8 (m := 2) (by decide) n2 (l - swS (u 3) (sz (3 * c)) (8 * (3 * c)) - swS (u 3) (sz (3 * c + 1)) (8 * (3 * c + 1))) (by omega) (by omega) (by omega)
  refine e3.trans ?_
  obtain ⟨n, rfl⟩ : ∃ n', n3 = n' + 1 := ⟨n3 - 1, by omega⟩
  show sC_Mutants_find_11 (kC_Mutants_find n).1 (kC_Mutants_find n).2 (nI c) (nI l) (nI (l - swS (u 3) (sz (3 * c)) (8 * (3 * c)) - swS (u 3) (sz (3 * c + 1)) (8 * (3 * c + 1)) - swS (u 3) (sz (3 * c + 2)) (8 * (3 * c + 2)))) (nI 3) u = _
  unfold sC_Mutants_find_11
  rw [if_pos (show (3 : Int32) ≤ nI 3 by decide)]
/-- the reference -/
theorem M_fi2_in (hsz : ∀ m, m < 12 → u 2 m = nI (sz m)) (h8 : ∀ m, m < 12 → sz m ≤ 8) {p : Nat} (hp2 : p < 12) : ∀ (d n at_ l : Nat), at_ + d = sz p → d < n → l < swS (u 3) d (8 * p + at_) → (kM_find n).2 (nI c) x2 (nI l) (nI p) (nI at_) u = some (nI (2 * (fiP (u 3) d (8 * p + at_) l).1 + (fiP (u 3) d (8 * p + at_) l).2), u) := by
  have := h8 p hp2
  intro d
  induction d with
  | zero => intro n at_ l h hn hl; exact absurd hl (Nat.not_lt_zero _)
  | succ d ih =>
    intro n at_ l h hn hl
    obtain ⟨n, rfl⟩ : ∃ n', n = n' + 1 := ⟨n - 1, by omega⟩
    have hl : l < nW (u 3 (8 * p + at_)) + swS (u 3) d (8 * p + at_ + 1) := hl
    have hb := swS_le (kd := u 3) d (8 * p + at_ + 1)
    have hw := nW_b (k := u 3 (8 * p + at_))
    show sM_find_20 (kM_find n).1 (kM_find n).2 _ _ _ _ _ _ = _
    unfold sM_find_20
    rw [pu_rd hp2 (by omega), hsz p hp2]
    simp only [Option.bind_some]
    rw [if_neg (nI_ge (by omega) (by omega)), lit_8, pk_mul, nI_add, pu_rd (by omega) (by omega)]
    simp only [Option.bind_some]
    rw [M_ways]
    simp only [Option.bind_some]
    by_cases q : l < nW (u 3 (8 * p + at_))
    · rw [M_inN_ok (by omega) q]
      simp only [Option.bind_some]
      rw [if_neg (show ¬ ((1 : Int32) = 0) by decide), fiP_lt q, lit_2, pk_mul, nI_add]
    · rw [M_inN_no (by omega) (Or.inr (nI_le (by omega) (by omega)))]
      simp only [Option.bind_some]
      rw [if_pos trivial, pu_rd (by omega) (by omega)]
      simp only [Option.bind_some]
      rw [M_ways]
      simp only [Option.bind_some]
      rw [fiP_ge q, pk_sub (by omega), nI_1, ih n (at_ + 1) _ (by omega) (by omega) (by rw [← Nat.add_assoc]; omega)]
      rfl
theorem M_fi2_out (hsz : ∀ m, m < 12 → u 2 m = nI (sz m)) (h8 : ∀ m, m < 12 → sz m ≤ 8) {p : Nat} (hp2 : p < 12) : ∀ (d n at_ l : Nat), at_ + d = sz p → d < n → l < 2 ^ 30 → swS (u 3) d (8 * p + at_) ≤ l → ∃ n', n = n' + d + 1 ∧ (kM_find n).2 (nI c) x2 (nI l) (nI p) (nI at_) u = (kM_find n').1 (nI c) x2 (nI (l - swS (u 3) d (8 * p + at_))) (nI (p + 1)) u := by
  have := h8 p hp2
  intro d
  induction d with
  | zero =>
    intro n at_ l h hn hl2 hl
    obtain ⟨n, rfl⟩ : ∃ n', n = n' + 1 := ⟨n - 1, by omega⟩
    refine ⟨n, rfl, ?_⟩
    show sM_find_20 (kM_find n).1 (kM_find n).2 _ _ _ _ _ _ = _
    unfold sM_find_20
    rw [pu_rd hp2 (by omega), hsz p hp2]
    simp only [Option.bind_some]
    rw [if_pos (nI_le (by omega) (by omega)), nI_1]
    rfl
  | succ d ih =>
    intro n at_ l h hn hl2 hl
    obtain ⟨n, rfl⟩ : ∃ n', n = n' + 1 := ⟨n - 1, by omega⟩
    have hl : nW (u 3 (8 * p + at_)) + swS (u 3) d (8 * p + (at_ + 1)) ≤ l := hl
    have hw := nW_b (k := u 3 (8 * p + at_))
    obtain ⟨n', e, hh⟩ := ih n (at_ + 1) (l - nW (u 3 (8 * p + at_))) (by omega) (by omega) (by omega) (by omega)
    refine ⟨n', by omega, ?_⟩
    have ee : l - swS (u 3) (d + 1) (8 * p + at_) = l - nW (u 3 (8 * p + at_)) - swS (u 3) d (8 * p + (at_ + 1)) := by
      show l - (nW (u 3 (8 * p + at_)) + swS (u 3) d (8 * p + at_ + 1)) = _
      rw [Nat.add_assoc (8 * p)]; omega
    show sM_find_20 (kM_find n).1 (kM_find n).2 _ _ _ _ _ _ = _
    unfold sM_find_20
    rw [pu_rd hp2 (by omega), hsz p hp2]
    simp only [Option.bind_some]
    rw [if_neg (nI_ge (by omega) (by omega)), lit_8, pk_mul, nI_add, pu_rd (by omega) (by omega)]
    simp only [Option.bind_some]
    rw [M_ways]
    simp only [Option.bind_some]
    rw [M_inN_no (by omega) (Or.inr (nI_le (by omega) (by omega)))]
    simp only [Option.bind_some]
    rw [if_pos trivial, pu_rd (by omega) (by omega)]
    simp only [Option.bind_some]
    rw [M_ways]
    simp only [Option.bind_some]
    rw [pk_sub (by omega), nI_1, hh, ee]
theorem M_fi1_in (hc : c < 4) (hsz : ∀ m, m < 12 → u 2 m = nI (sz m)) (h8 : ∀ m, m < 12 → sz m ≤ 8) {m : Nat} (hm : m < 3) (n l : Nat) (hn : 10 ≤ n) (hl : l < swS (u 3) (sz (3 * c + m)) (8 * (3 * c + m))) : (kM_find n).1 (nI c) x2 (nI l) (nI (3 * c + m)) u = some (nI (2 * (fiP (u 3) (sz (3 * c + m)) (8 * (3 * c + m)) l).1 + (fiP (u 3) (sz (3 * c + m)) (8 * (3 * c + m)) l).2), u) := by
  have := h8 (3 * c + m) (by omega)
  obtain ⟨n, rfl⟩ : ∃ n', n = n' + 1 := ⟨n - 1, by omega⟩
  have hh := M_fi2_in (u := u) (c := c) (x2 := x2) hsz h8 (show 3 * c + m < 12 by omega) (sz (3 * c + m)) n 0 l (by omega) (by omega) hl
  show sM_find_7 (kM_find n).1 (kM_find n).2 _ _ _ _ _ = _
  unfold sM_find_7
  rw [lit_3, pk_mul, nI_add, if_neg (nI_ge (by omega) (by omega)), lit_0, hh]
  rfl
theorem M_fi1_out (hc : c < 4) (hsz : ∀ m, m < 12 → u 2 m = nI (sz m)) (h8 : ∀ m, m < 12 → sz m ≤ 8) {m : Nat} (hm : m < 3) (n l : Nat) (hn : 10 ≤ n) (hl2 : l < 2 ^ 30) (hl : swS (u 3) (sz (3 * c + m)) (8 * (3 * c + m)) ≤ l) : ∃ n', n - 10 ≤ n' ∧ (kM_find n).1 (nI c) x2 (nI l) (nI (3 * c + m)) u = (kM_find n').1 (nI c) x2 (nI (l - swS (u 3) (sz (3 * c + m)) (8 * (3 * c + m)))) (nI (3 * c + m + 1)) u := by
  have := h8 (3 * c + m) (by omega)
  obtain ⟨n, rfl⟩ : ∃ n', n = n' + 1 := ⟨n - 1, by omega⟩
  obtain ⟨n', e, hh⟩ := M_fi2_out (u := u) (c := c) (x2 := x2) hsz h8 (show 3 * c + m < 12 by omega) (sz (3 * c + m)) n 0 l (by omega) (by omega) hl2 hl
  refine ⟨n', by omega, ?_⟩
  show sM_find_7 (kM_find n).1 (kM_find n).2 _ _ _ _ _ = _
  unfold sM_find_7
  rw [lit_3, pk_mul, nI_add, if_neg (nI_ge (by omega) (by omega)), lit_0, hh]
  rfl
theorem M_find_ok (hc : c < 4) (hsz : ∀ m, m < 12 → u 2 m = nI (sz m)) (h8 : ∀ m, m < 12 → sz m ≤ 8) {l : Nat} (hl : l < muT (u 3) sz c) : fM_find (nI c) (nI l) u = some (nI (2 * (fiC (u 3) sz c l).1 + (fiC (u 3) sz c l).2), u) := by
  have h48 := muT_le (kd := u 3) hc h8
  have hl48 : l < 48 := Nat.lt_of_lt_of_le hl h48
  unfold fM_find
  rw [lit_3, pk_mul]
  unfold muT at hl
  unfold fiC
  by_cases a : l < swS (u 3) (sz (3 * c)) (8 * (3 * c))
  · rw [if_pos a]
    exact M_fi1_in hc hsz h8 (m := 0) (by decide) 4096 l (by decide) a
  rw [if_neg a]
  obtain ⟨n1, b1, e1⟩ := M_fi1_out (x2 := nI l) hc hsz h8 (m := 0) (by decide) 4096 l (by decide) (by omega) (Nat.le_of_not_lt a)
  refine e1.trans ?_
  show (kM_find n1).1 (nI c) (nI l) (nI (l - swS (u 3) (sz (3 * c)) (8 * (3 * c)))) (nI (3 * c + 1)) u = _
  by_cases b : l - swS (u 3) (sz (3 * c)) (8 * (3 * c)) < swS (u 3) (sz (3 * c + 1)) (8 * (3 * c + 1))
  · rw [if_pos b]
    exact M_fi1_in hc hsz h8 (m := 1) (by decide) n1 _ (by omega) b
  rw [if_neg b]
  obtain ⟨n2, b2, e2⟩ := M_fi1_out (x2 := nI l) hc hsz h8 (m := 1) (by decide) n1 _ (by omega) (by omega) (Nat.le_of_not_lt b)
  refine e2.trans ?_
  exact M_fi1_in hc hsz h8 (m := 2) (by decide) n2 _ (by omega) (by omega)
end
theorem Alike_mutant (x1 x2 x3 : Int32) : Alike (fC_mutant x1 x2 x3) (fM_mutant x1 x2 x3) := by
  intro uC uM h
  obtain ⟨⟨k, hk4, hkC, hkM⟩, -, ⟨e3, -, -⟩, -⟩ := id h.2.1
  obtain ⟨sz, sC, sM, h8⟩ := h.sizes
  unfold fC_mutant fM_mutant
  rw [hkM]
  rcases arg_ix x1 k (by omega) with hx | ⟨c, hc, rfl⟩
  · rw [C_isContract_no hkC hx, M_inC_no hk4 hx]
    exact ⟨_, _, _, rfl, rfl, h⟩
  rw [C_isContract_ok hkC hk4 hc, M_inC_ok hk4 hc]
  simp only [Option.bind_some]
  have h48 := muT_le (kd := uC 3) (c := c) (by omega) h8
  rw [if_neg (show ¬ ((1 : Int32) = 0) by decide), if_neg (show ¬ ((1 : Int32) = 0) by decide), M_mutants hkM hk4 hc sM h8, ← e3]
  simp only [Option.bind_some]
  rcases arg_ix x2 (muT (uC 3) sz c) (by omega) with hy | ⟨l, hl, rfl⟩
  · rw [C_find_no hkC hk4 hc sC h8 hy, M_inN_no (by omega) hy]
    simp only [Option.bind_some]
    rw [if_neg (show ¬ (0 : Int32) ≤ -1 by decide)]
    exact ⟨_, _, _, rfl, rfl, h⟩
  rw [C_find_ok hkC hk4 hc sC h8 hl, M_inN_ok (by omega) hl]
  simp only [Option.bind_some]
  obtain ⟨a1, a2, a3⟩ := fiC_in (kd := uC 3) (by omega) h8 hl
  have hw := (nW_b (k := uC 3 (fiC (uC 3) sz c l).1)).2
  have hf := M_find_ok (u := uM) (c := c) (l := l) (by omega) sM h8 (by rw [← e3]; exact hl)
  rw [← e3] at hf
  generalize fiC (uC 3) sz c l = F at a1 a2 a3 hw hf
  obtain ⟨s, w⟩ := F
  have hs1 : 24 * c ≤ s := a1
  have hs2 : s < 24 * c + 24 := a2
  have hw2 : w < 2 := by have : w < nW (uC 3 s) := a3; have : nW (uC 3 s) ≤ 2 := hw; omega
  have hf : fM_find (nI c) (nI l) uM = some (nI (2 * s + w), uM) := hf
  rw [if_neg (show ¬ ((1 : Int32) = 0) by decide)]
  show ∃ r vC vM, (if (0 : Int32) ≤ nI (2 * (s - 24 * c) + w) then _ else _) = _ ∧ _
  rw [if_pos (nI_pos' (by omega))]
  dsimp only
  rcases arg_ix x3 3 (by decide) with hz | ⟨q, hq, rfl⟩
  · have nn : ∀ j : Nat, j < 3 → ¬ x3 = nI j := fun j hj e => by
      subst e
      rcases hz with hz | hz
      · exact nI_nlt (Nat.zero_le _) (by omega) (show nI j < nI 0 from hz)
      · exact nI_ge hj (by omega) hz
    rw [M_in_no (lo := 0) (hi := 2) (a := 0) (b := 2) rfl rfl (by decide) (by decide) hz, if_neg (show ¬ x3 = (0 : Int32) from nn 0 (by decide)), if_neg (show ¬ x3 = (1 : Int32) from nn 1 (by decide)), if_neg (show ¬ x3 = (2 : Int32) from nn 2 (by decide))]
    exact ⟨_, _, _, rfl, rfl, h⟩
  rw [M_in_ok (lo := 0) (hi := 2) (a := 0) (b := 2) rfl rfl (by decide) (Nat.zero_le _) (by omega)]
  simp only [Option.bind_some]
  rw [if_neg (show ¬ ((1 : Int32) = 0) by decide), hf]
  simp only [Option.bind_some]
  unfold fC_Mutants_memberOf fC_Mutants_stepOf fC_Mutants_isSecond
  have hd : 2 * s + w < 2 ^ 31 := by omega
  have d1 : nI (2 * (s - 24 * c) + w) / (2 : Int32) = nI (s - 24 * c) := by
    rw [lit_2, pk_div (by omega) (by decide) (by decide)]; congr 1; omega
  have d2 : nI (2 * s + w) / (2 : Int32) = nI s := by
    rw [lit_2, pk_div (by omega) (by decide) (by decide)]; congr 1; omega
  have d3 : nI (2 * (s - 24 * c) + w) / (16 : Int32) = nI ((s - 24 * c) / 8) := by
    rw [lit_16, pk_div (by omega) (by decide) (by decide)]; congr 1; omega
  have d4 : nI s / (8 : Int32) = nI (s / 8) := by rw [lit_8, pk_div (by omega) (by decide) (by decide)]
  have d5 : nI (s - 24 * c) / (8 : Int32) = nI ((s - 24 * c) / 8) := by rw [lit_8, pk_div (by omega) (by decide) (by decide)]
  rcases (show q = 0 ∨ q = 1 ∨ q = 2 by omega) with rfl | rfl | rfl
  · rw [if_pos (show nI 0 = (0 : Int32) from rfl), if_pos (show nI 0 = (0 : Int32) from rfl), d2, d3, d4, lit_3, pk_rem (by omega) (by decide) (by decide)]
    refine ⟨_, _, _, rfl, ?_, h⟩
    congr 3
    omega
  · rw [if_neg (show ¬ nI 1 = (0 : Int32) by decide), if_pos (show nI 1 = (1 : Int32) from rfl), if_neg (show ¬ nI 1 = (0 : Int32) by decide), if_pos (show nI 1 = (1 : Int32) from rfl), d1, d2, lit_8, pk_rem (by omega) (by decide) (by decide), pk_rem (by omega) (by decide) (by decide)]
    refine ⟨_, _, _, rfl, ?_, h⟩
    congr 3
    omega
  · rw [if_neg (show ¬ nI 2 = (0 : Int32) by decide), if_neg (show ¬ nI 2 = (1 : Int32) by decide), if_pos (show nI 2 = (2 : Int32) from rfl), if_neg (show ¬ nI 2 = (0 : Int32) by decide), if_neg (show ¬ nI 2 = (1 : Int32) by decide), lit_2, pk_rem (by omega) (by decide) (by decide), pk_rem (by omega) (by decide) (by decide)]
    rw [show (2 * (s - 24 * c) + w) % 2 = w by omega, show (2 * s + w) % 2 = w by omega]
    rcases (show w = 0 ∨ w = 1 by omega) with rfl | rfl
    · rw [if_neg (show ¬ nI 0 = (1 : Int32) by decide)]
      exact ⟨_, _, _, rfl, rfl, h⟩
    · rw [if_pos (show nI 1 = (1 : Int32) from rfl)]
      exact ⟨_, _, _, rfl, rfl, h⟩
