/-! PURE: how many MUTANTS, and which. -/
def nW (k : Int32) : Nat := if k = 2 then 2 else if k = 4 then 2 else if k = 7 then 2 else 1
theorem nW_b {k : Int32} : 1 ≤ nW k ∧ nW k ≤ 2 := by
  unfold nW
  by_cases a : k = 2
  · rw [if_pos a]; decide
  rw [if_neg a]
  by_cases b : k = 4
  · rw [if_pos b]; decide
  rw [if_neg b]
  by_cases c : k = 7
  · rw [if_pos c]; decide
  rw [if_neg c]; decide
theorem C_perStep {k : Int32} {u : Ug} : fC_Mutants_perStep k u = some (nI (nW k), u) := by
  unfold fC_Mutants_perStep nW
  by_cases a : k = 2
  · rw [if_pos a, if_pos a]; rfl
  rw [if_neg a, if_neg a]
  by_cases b : k = 4
  · rw [if_pos b, if_pos b]; rfl
  rw [if_neg b, if_neg b]
  by_cases c : k = 7
  · rw [if_pos c, if_pos c]; rfl
  rw [if_neg c, if_neg c]; rfl
theorem M_ways {k : Int32} {u : Ug} : fM_ways k u = some (nI (nW k), u) := by
  unfold fM_ways nW
  by_cases a : k = 2
  · rw [if_pos a, if_pos a]; rfl
  rw [if_neg a, if_neg a]
  by_cases b : k = 4
  · rw [if_pos b, if_pos b]; rfl
  rw [if_neg b, if_neg b]
  by_cases c : k = 7
  · rw [if_pos c, if_pos c]; rfl
  rw [if_neg c, if_neg c]; rfl
def swS (kd : Nat → Int32) : Nat → Nat → Nat
  | 0, _ => 0
  | d + 1, s => nW (kd s) + swS kd d (s + 1)
theorem swS_le {kd : Nat → Int32} : ∀ d s, swS kd d s ≤ 2 * d := by
  intro d
  induction d with
  | zero => intro s; exact Nat.le_refl _
  | succ d ih => intro s; show nW (kd s) + swS kd d (s + 1) ≤ _; have := ih (s + 1); have := (nW_b (k := kd s)).2; omega
def fiP (kd : Nat → Int32) : Nat → Nat → Nat → Nat × Nat
  | 0, s, l => (s, l)
  | d + 1, s, l => if l < nW (kd s) then (s, l) else fiP kd d (s + 1) (l - nW (kd s))
theorem fiP_in {kd : Nat → Int32} : ∀ d s l, l < swS kd d s → s ≤ (fiP kd d s l).1 ∧ (fiP kd d s l).1 < s + d ∧ (fiP kd d s l).2 < nW (kd (fiP kd d s l).1) := by
  intro d
  induction d with
  | zero => intro s l h; exact absurd h (Nat.not_lt_zero _)
  | succ d ih =>
    intro s l h
    have h : l < nW (kd s) + swS kd d (s + 1) := h
    by_cases q : l < nW (kd s)
    · have e : fiP kd (d + 1) s l = (s, l) := if_pos q
      rw [e]; exact ⟨Nat.le_refl _, by show s < s + (d + 1); omega, q⟩
    · have e : fiP kd (d + 1) s l = fiP kd d (s + 1) (l - nW (kd s)) := if_neg q
      rw [e]
      obtain ⟨a, b, c⟩ := ih (s + 1) (l - nW (kd s)) (by omega)
      exact ⟨by omega, by omega, c⟩
def muT (kd : Nat → Int32) (sz : Nat → Nat) (c : Nat) : Nat := swS kd (sz (3 * c)) (8 * (3 * c)) + swS kd (sz (3 * c + 1)) (8 * (3 * c + 1)) + swS kd (sz (3 * c + 2)) (8 * (3 * c + 2))
def fiC (kd : Nat → Int32) (sz : Nat → Nat) (c l : Nat) : Nat × Nat :=
  if l < swS kd (sz (3 * c)) (8 * (3 * c)) then fiP kd (sz (3 * c)) (8 * (3 * c)) l
  else if l - swS kd (sz (3 * c)) (8 * (3 * c)) < swS kd (sz (3 * c + 1)) (8 * (3 * c + 1)) then fiP kd (sz (3 * c + 1)) (8 * (3 * c + 1)) (l - swS kd (sz (3 * c)) (8 * (3 * c)))
  else fiP kd (sz (3 * c + 2)) (8 * (3 * c + 2)) (l - swS kd (sz (3 * c)) (8 * (3 * c)) - swS kd (sz (3 * c + 1)) (8 * (3 * c + 1)))
theorem muT_le {kd : Nat → Int32} {sz : Nat → Nat} {c : Nat} (hc : c < 4) (h8 : ∀ m, m < 12 → sz m ≤ 8) : muT kd sz c ≤ 48 := by
  unfold muT
  have a := swS_le (kd := kd) (sz (3 * c)) (8 * (3 * c))
  have b := swS_le (kd := kd) (sz (3 * c + 1)) (8 * (3 * c + 1))
  have d := swS_le (kd := kd) (sz (3 * c + 2)) (8 * (3 * c + 2))
  have := h8 (3 * c) (by omega)
  have := h8 (3 * c + 1) (by omega)
  have := h8 (3 * c + 2) (by omega)
  omega
theorem fiC_in {kd : Nat → Int32} {sz : Nat → Nat} {c l : Nat} (hc : c < 4) (h8 : ∀ m, m < 12 → sz m ≤ 8) (h : l < muT kd sz c) : 24 * c ≤ (fiC kd sz c l).1 ∧ (fiC kd sz c l).1 < 24 * c + 24 ∧ (fiC kd sz c l).2 < nW (kd (fiC kd sz c l).1) := by
  unfold muT at h
  unfold fiC
  have := h8 (3 * c) (by omega)
  have := h8 (3 * c + 1) (by omega)
  have := h8 (3 * c + 2) (by omega)
  by_cases a : l < swS kd (sz (3 * c)) (8 * (3 * c))
  · rw [if_pos a]
    obtain ⟨x, y, z⟩ := fiP_in _ _ _ a
    exact ⟨by omega, by omega, z⟩
  rw [if_neg a]
  by_cases b : l - swS kd (sz (3 * c)) (8 * (3 * c)) < swS kd (sz (3 * c + 1)) (8 * (3 * c + 1))
  · rw [if_pos b]
    obtain ⟨x, y, z⟩ := fiP_in _ _ _ b
    exact ⟨by omega, by omega, z⟩
  rw [if_neg b]
  obtain ⟨x, y, z⟩ := fiP_in (kd := kd) (sz (3 * c + 2)) (8 * (3 * c + 2)) (l - swS kd (sz (3 * c)) (8 * (3 * c)) - swS kd (sz (3 * c + 1)) (8 * (3 * c + 1))) (by omega)
  exact ⟨by omega, by omega, z⟩
section
variable {u : Ug} {sz : Nat → Nat} {k c : Nat}
theorem C_hm2 (hp : ∀ m, m < 12 → sz m ≤ 8) {p m a : Nat} (hp2 : p < 12) : ∀ (d n at_ a : Nat), at_ + d = sz p → d < n → ∃ n', n = n' + d + 1 ∧ (kC_Mutants_howMany n).2 (nI c) (nI a) (nI m) (nI p) (nI (sz p)) (nI at_) u = (kC_Mutants_howMany n').1 (nI c) (nI (a + swS (u 3) d (8 * p + at_))) (nI (m + 1)) u := by
  have := hp p hp2
  intro d
  induction d with
  | zero =>
    intro n at_ a h hn
    obtain ⟨n, rfl⟩ : ∃ n', n = n' + 1 := ⟨n - 1, by omega⟩
    refine ⟨n, rfl, ?_⟩
    show sC_Mutants_howMany_34 (kC_Mutants_howMany n).1 (kC_Mutants_howMany n).2 _ _ _ _ _ _ _ = _
    unfold sC_Mutants_howMany_34
    rw [if_pos (nI_le (by omega) (by omega)), nI_1]
    rfl
  | succ d ih =>
    intro n at_ a h hn
    obtain ⟨n, rfl⟩ : ∃ n', n = n' + 1 := ⟨n - 1, by omega⟩
    obtain ⟨n', e, hh⟩ := ih n (at_ + 1) (a + nW (u 3 (8 * p + at_))) (by omega) (by omega)
    refine ⟨n', by omega, ?_⟩
    show sC_Mutants_howMany_34 (kC_Mutants_howMany n).1 (kC_Mutants_howMany n).2 _ _ _ _ _ _ _ = _
    unfold sC_Mutants_howMany_34
    rw [if_neg (nI_ge (by omega) (by omega)), lit_8, pk_mul, nI_add, Nat.mul_comm p 8, C_kind (by omega)]
    simp only [Option.bind_some]
    rw [C_perStep]
    simp only [Option.bind_some]
    have ee : a + swS (u 3) (d + 1) (8 * p + at_) = a + nW (u 3 (8 * p + at_)) + swS (u 3) d (8 * p + (at_ + 1)) := by
      show a + (nW (u 3 (8 * p + at_)) + swS (u 3) d (8 * p + at_ + 1)) = _
      rw [Nat.add_assoc a, Nat.add_assoc (8 * p)]
    rw [nI_add, nI_1, hh, ee]
theorem C_hm1 (hk : u 18 0 = nI k) (hk4 : k ≤ 4) (hc : c < k) (hsz : ∀ m, m < 12 → u 1 m = nI (sz m)) (h8 : ∀ m, m < 12 → sz m ≤ 8) {m : Nat} (hm : m < 3) (n a : Nat) (hn : 10 ≤ n) : ∃ n', n - 10 ≤ n' ∧ (kC_Mutants_howMany n).1 (nI c) (nI a) (nI m) u = (kC_Mutants_howMany n').1 (nI c) (nI (a + swS (u 3) (sz (3 * c + m)) (8 * (3 * c + m)))) (nI (m + 1)) u := by
  have := h8 (3 * c + m) (by omega)
  obtain ⟨n, rfl⟩ : ∃ n', n = n' + 1 := ⟨n - 1, by omega⟩
  obtain ⟨n', e, hh⟩ := C_hm2 (u := u) (c := c) (a := a) h8 (m := m) (show 3 * c + m < 12 by omega) (sz (3 * c + m)) n 0 a (by omega) (by omega)
  refine ⟨n', by omega, ?_⟩
  show sC_Mutants_howMany_4 (kC_Mutants_howMany n).1 (kC_Mutants_howMany n).2 _ _ _ _ = _
  unfold sC_Mutants_howMany_4
  rw [if_neg (by rw [lit_3]; exact nI_ge hm (by omega)), C_placeOf_ok hk hk4 hc hm]
  simp only [Option.bind_some]
  rw [C_size (by omega), hsz _ (by omega)]
  simp only [Option.bind_some]
  rw [lit_0, hh]
  rfl
theorem C_howMany (hk : u 18 0 = nI k) (hk4 : k ≤ 4) (hc : c < k) (hsz : ∀ m, m < 12 → u 1 m = nI (sz m)) (h8 : ∀ m, m < 12 → sz m ≤ 8) : fC_Mutants_howMany (nI c) u = some (nI (muT (u 3) sz c), u) := by
  unfold fC_Mutants_howMany
  obtain ⟨n1, b1, e1⟩ := C_hm1 hk hk4 hc hsz h8 (m := 0) (by decide) 4096 0 (by decide)
  obtain ⟨n2, b2, e2⟩ := C_hm1 hk hk4 hc hsz h8 (m := 1) (by decide) n1 (0 + swS (u 3) (sz (3 * c)) (8 * (3 * c))) (by omega)
  obtain ⟨n3, b3, e3⟩ := C_hm1 hk hk4 hc hsz h8 (m := 2) (by decide) n2 (0 + swS (u 3) (sz (3 * c)) (8 * (3 * c)) + swS (u 3) (sz (3 * c + 1)) (8 * (3 * c + 1))) (by omega)
  rw [lit_0, e1]
  refine e2.trans (e3.trans ?_)
  obtain ⟨n, rfl⟩ : ∃ n', n3 = n' + 1 := ⟨n3 - 1, by omega⟩
  show sC_Mutants_howMany_4 (kC_Mutants_howMany n).1 (kC_Mutants_howMany n).2 (nI c) _ (nI 3) u = _
  unfold sC_Mutants_howMany_4
  rw [if_pos (show (3 : Int32) ≤ nI 3 by decide), Nat.zero_add]
  rfl
theorem M_hm2 (hsz : ∀ m, m < 12 → u 2 m = nI (sz m)) (h8 : ∀ m, m < 12 → sz m ≤ 8) {p : Nat} (hp2 : p < 12) : ∀ (d n at_ a : Nat), at_ + d = sz p → d < n → ∃ n', n = n' + d + 1 ∧ (kM_mutants n).2 (nI c) (nI a) (nI p) (nI at_) u = (kM_mutants n').1 (nI c) (nI (a + swS (u 3) d (8 * p + at_))) (nI (p + 1)) u := by
  have := h8 p hp2
  intro d
  induction d with
  | zero =>
    intro n at_ a h hn
    obtain ⟨n, rfl⟩ : ∃ n', n = n' + 1 := ⟨n - 1, by omega⟩
    refine ⟨n, rfl, ?_⟩
    show sM_mutants_36 (kM_mutants n).1 (kM_mutants n).2 _ _ _ _ _ = _
    unfold sM_mutants_36
    rw [pu_rd hp2 (by omega), hsz p hp2]
    simp only [Option.bind_some]
    rw [if_pos (nI_le (by omega) (by omega)), nI_1]
    rfl
  | succ d ih =>
    intro n at_ a h hn
    obtain ⟨n, rfl⟩ : ∃ n', n = n' + 1 := ⟨n - 1, by omega⟩
    obtain ⟨n', e, hh⟩ := ih n (at_ + 1) (a + nW (u 3 (8 * p + at_))) (by omega) (by omega)
    refine ⟨n', by omega, ?_⟩
    show sM_mutants_36 (kM_mutants n).1 (kM_mutants n).2 _ _ _ _ _ = _
    unfold sM_mutants_36
    rw [pu_rd hp2 (by omega), hsz p hp2]
    simp only [Option.bind_some]
    rw [if_neg (nI_ge (by omega) (by omega)), lit_8, pk_mul, nI_add, pu_rd (by omega) (by omega)]
    simp only [Option.bind_some]
    rw [M_ways]
    simp only [Option.bind_some]
    have ee : a + swS (u 3) (d + 1) (8 * p + at_) = a + nW (u 3 (8 * p + at_)) + swS (u 3) d (8 * p + (at_ + 1)) := by
      show a + (nW (u 3 (8 * p + at_)) + swS (u 3) d (8 * p + at_ + 1)) = _
      rw [Nat.add_assoc a, Nat.add_assoc (8 * p)]
    rw [nI_add, nI_1, hh, ee]
theorem M_hm1 (hc : c < 4) (hsz : ∀ m, m < 12 → u 2 m = nI (sz m)) (h8 : ∀ m, m < 12 → sz m ≤ 8) {m : Nat} (hm : m < 3) (n a : Nat) (hn : 10 ≤ n) : ∃ n', n - 10 ≤ n' ∧ (kM_mutants n).1 (nI c) (nI a) (nI (3 * c + m)) u = (kM_mutants n').1 (nI c) (nI (a + swS (u 3) (sz (3 * c + m)) (8 * (3 * c + m)))) (nI (3 * c + m + 1)) u := by
  have := h8 (3 * c + m) (by omega)
  obtain ⟨n, rfl⟩ : ∃ n', n = n' + 1 := ⟨n - 1, by omega⟩
  obtain ⟨n', e, hh⟩ := M_hm2 (u := u) (c := c) hsz h8 (show 3 * c + m < 12 by omega) (sz (3 * c + m)) n 0 a (by omega) (by omega)
  refine ⟨n', by omega, ?_⟩
  show sM_mutants_24 (kM_mutants n).1 (kM_mutants n).2 _ _ _ _ = _
  unfold sM_mutants_24
  rw [lit_3, pk_mul, nI_add, if_neg (nI_ge (by omega) (by omega)), lit_0, hh]
  rfl
theorem M_mutants (hk : u 1 0 = nI k) (hk4 : k ≤ 4) (hc : c < k) (hsz : ∀ m, m < 12 → u 2 m = nI (sz m)) (h8 : ∀ m, m < 12 → sz m ≤ 8) : fM_mutants (nI c) u = some (nI (muT (u 3) sz c), u) := by
  unfold fM_mutants
  rw [hk, M_inC_ok hk4 hc]
  simp only [Option.bind_some]
  rw [if_neg (show ¬ ((1 : Int32) = 0) by decide), lit_3, pk_mul, lit_0]
  obtain ⟨n1, b1, e1⟩ := M_hm1 (c := c) (by omega) hsz h8 (m := 0) (by decide) 4096 0 (by decide)
  obtain ⟨n2, b2, e2⟩ := M_hm1 (c := c) (by omega) hsz h8 (m := 1) (by decide) n1 (0 + swS (u 3) (sz (3 * c)) (8 * (3 * c))) (by omega)
  obtain ⟨n3, b3, e3⟩ := M_hm1 (c := c) (by omega) hsz h8 (m := 2) (by decide) n2 (0 + swS (u 3) (sz (3 * c)) (8 * (3 * c)) + swS (u 3) (sz (3 * c + 1)) (8 * (3 * c + 1))) (by omega)
  refine e1.trans (e2.trans (e3.trans ?_))
  obtain ⟨n, rfl⟩ : ∃ n', n3 = n' + 1 := ⟨n3 - 1, by omega⟩
  show sM_mutants_24 (kM_mutants n).1 (kM_mutants n).2 _ _ _ _ = _
  unfold sM_mutants_24
  rw [lit_3, pk_mul, nI_add, if_pos (nI_le (by omega) (by omega)), Nat.zero_add]
  rfl
theorem M_mutants_no {x : Int32} (hk : u 1 0 = nI k) (hk4 : k ≤ 4) (h : x < 0 ∨ nI k ≤ x) : fM_mutants x u = some (-1, u) := by
  unfold fM_mutants
  rw [hk, M_inC_no hk4 h]
  rfl
end
/-- the sizes, as numbers -/
theorem Inv.sizes {uC uM : Ug} (h : Inv uC uM) : ∃ sz : Nat → Nat, (∀ m, m < 12 → uC 1 m = nI (sz m)) ∧ (∀ m, m < 12 → uM 2 m = nI (sz m)) ∧ ∀ m, m < 12 → sz m ≤ 8 := by
  obtain ⟨-, ⟨hs, h1⟩, -⟩ := h.2.1
  have hsz : ∀ m, m < 12 → uC 1 m = nI (uC 1 m).toNatClampNeg ∧ (uC 1 m).toNatClampNeg ≤ 8 := fun m hm => by
    obtain ⟨n, hn, e⟩ := h1 m hm
    rw [e, nI_clamp (by omega)]
    exact ⟨rfl, hn⟩
  exact ⟨fun m => (uC 1 m).toNatClampNeg, fun m hm => (hsz m hm).1, fun m hm => by rw [← hs]; exact (hsz m hm).1, fun m hm => (hsz m hm).2⟩
theorem Alike_mutants (x : Int32) : Alike (fC_mutants x) (fM_mutants x) := by
  intro uC uM h
  obtain ⟨⟨k, hk4, hkC, hkM⟩, -, ⟨e3, -, -⟩, -⟩ := id h.2.1
  obtain ⟨sz, sC, sM, h8⟩ := h.sizes
  unfold fC_mutants
  rcases arg_ix x k (by omega) with hx | ⟨c, hc, rfl⟩
  · rw [C_isContract_no hkC hx, M_mutants_no hkM hk4 hx]
    exact ⟨_, _, _, rfl, rfl, h⟩
  · rw [C_isContract_ok hkC hk4 hc, M_mutants hkM hk4 hc sM h8]
    simp only [Option.bind_some]
    rw [if_neg (show ¬ ((1 : Int32) = 0) by decide), C_howMany hkC hk4 hc sC h8, e3]
    exact ⟨_, _, _, rfl, rfl, h⟩
