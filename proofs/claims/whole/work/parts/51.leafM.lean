/-! PURE: the reference's small methods. -/
theorem cpy_step {f g : Nat → Int32} {sp dp d : Nat} : va_cpy f (upd g dp (f sp)) (sp + 1) (dp + 1) d = va_cpy f g sp dp (d + 1) := by
  funext j
  by_cases h1 : j < dp
  · rw [pk_cpy_out (Or.inl (by omega)), pk_cpy_out (Or.inl h1), upd_n (by omega)]
  by_cases h2 : j = dp
  · subst h2
    rw [pk_cpy_out (Or.inl (by omega)), pk_cpy_in (Nat.le_refl _) (by omega), upd_s, Nat.sub_self, Nat.add_zero]
  by_cases h3 : j < dp + (d + 1)
  · rw [pk_cpy_in (by omega) (by omega), pk_cpy_in (by omega) h3, show sp + 1 + (j - (dp + 1)) = sp + (j - dp) by omega]
  · rw [pk_cpy_out (Or.inr (by omega)), pk_cpy_out (Or.inr (by omega)), upd_n (by omega)]
theorem wrA_wr {u : Ug} {k i : Nat} {x : Int32} {f : Nat → Int32} : wrA (wr u k i x) k f = wrA u k f := by
  funext q; by_cases h : q = k <;> simp [wr, wrA, h]
theorem M_keep_loop {r : Nat} (hr : r < 40) : ∀ (d n k : Nat) (u : Ug), k + d = 70 → d < n → kM_keep n (nI r) (nI k) u = some (0, wrA u 20 (va_cpy (u 0) (u 20) k (70 * r + k) d)) := by
  intro d
  induction d with
  | zero =>
    intro n k u hk hn
    obtain ⟨n, rfl⟩ : ∃ n', n = n' + 1 := ⟨n - 1, by omega⟩
    show sM_keep_2 _ _ _ _ = _
    unfold sM_keep_2
    rw [if_pos (by rw [lit_70]; exact nI_le (by omega) (by omega))]
    have e : va_cpy (u 0) (u 20) k (70 * r + k) 0 = u 20 := by funext j; exact pk_cpy_out (by omega)
    rw [e, wrA_id]
  | succ d ih =>
    intro n k u hk hn
    obtain ⟨n, rfl⟩ : ∃ n', n = n' + 1 := ⟨n - 1, by omega⟩
    show sM_keep_2 (kM_keep n) _ _ _ = _
    unfold sM_keep_2
    have e1 : (70 : Int32) * nI r + nI k = nI (70 * r + k) := by rw [lit_70, pk_mul, nI_add]
    rw [if_neg (by rw [lit_70]; exact nI_ge (by omega) (by omega)), e1, pu_rd (show k < 70 by omega) (by omega)]
    simp only [Option.bind_some]
    rw [pu_wr (by omega) (by omega)]
    simp only [Option.bind_some]
    rw [nI_1, ih n (k + 1) _ (by omega) (by omega)]
    rw [wr_n (show (0 : Nat) ≠ 20 by decide), wr_s, show 70 * r + (k + 1) = 70 * r + k + 1 by omega, cpy_step, wrA_wr]
theorem M_keep {r : Nat} {u : Ug} (hr : r < 40) : fM_keep (nI r) u = some (0, wrA u 20 (va_cpy (u 0) (u 20) 0 (70 * r) 70)) := by
  unfold fM_keep
  rw [lit_0]
  exact M_keep_loop hr 70 4096 0 u (by decide) (by decide)
theorem M_restore_loop {r : Nat} (hr : r < 40) : ∀ (d n k : Nat) (u : Ug), k + d = 70 → d < n → kM_restore n (nI r) (nI k) u = some (0, wrA u 0 (va_cpy (u 20) (u 0) (70 * r + k) k d)) := by
  intro d
  induction d with
  | zero =>
    intro n k u hk hn
    obtain ⟨n, rfl⟩ : ∃ n', n = n' + 1 := ⟨n - 1, by omega⟩
    show sM_restore_2 _ _ _ _ = _
    unfold sM_restore_2
    rw [if_pos (by rw [lit_70]; exact nI_le (by omega) (by omega))]
    have e : va_cpy (u 20) (u 0) (70 * r + k) k 0 = u 0 := by funext j; exact pk_cpy_out (by omega)
    rw [e, wrA_id]
  | succ d ih =>
    intro n k u hk hn
    obtain ⟨n, rfl⟩ : ∃ n', n = n' + 1 := ⟨n - 1, by omega⟩
    show sM_restore_2 (kM_restore n) _ _ _ = _
    unfold sM_restore_2
    have e1 : (70 : Int32) * nI r + nI k = nI (70 * r + k) := by rw [lit_70, pk_mul, nI_add]
    rw [if_neg (by rw [lit_70]; exact nI_ge (by omega) (by omega)), e1, pu_rd (show 70 * r + k < 2800 by omega) (by omega)]
    simp only [Option.bind_some]
    rw [pu_wr (by omega) (by omega)]
    simp only [Option.bind_some]
    rw [nI_1, ih n (k + 1) _ (by omega) (by omega)]
    rw [wr_n (show (20 : Nat) ≠ 0 by decide), wr_s, show 70 * r + (k + 1) = 70 * r + k + 1 by omega, cpy_step, wrA_wr]
theorem M_restore {r : Nat} {u : Ug} (hr : r < 40) : fM_restore (nI r) u = some (0, wrA u 0 (va_cpy (u 20) (u 0) (70 * r) 0 70)) := by
  unfold fM_restore
  rw [lit_0]
  exact M_restore_loop hr 70 4096 0 u (by decide) (by decide)
theorem M_end {u : Ug} {f t pl : Nat} (hf : f < 4) (ht : u 18 f = nI t) (ht2 : t ≤ 9) (hp : u 15 f = nI pl) (hp2 : pl < 12) : fM_end (nI f) u = some (if t = 0 then u 2 pl else u 19 (10 * f + t - 1), u) := by
  unfold fM_end
  rw [pu_rd hf (by omega)]
  simp only [Option.bind_some]
  rw [ht]
  by_cases h0 : t = 0
  · subst h0
    rw [if_pos (by decide), if_pos rfl, pu_rd hf (by omega)]
    simp only [Option.bind_some]
    rw [hp, pu_rd hp2 (by omega)]
    rfl
  · rw [if_neg (by rw [lit_0]; exact nI_ge (by omega) (by omega)), if_neg h0]
    have e1 : (10 : Int32) * nI f + nI t - 1 = nI (10 * f + t - 1) := by rw [lit_10, pk_mul, nI_add, lit_1, pk_sub (by omega)]
    rw [e1, pu_rd (by omega) (by omega)]
    rfl
theorem M_enter {u : Ug} {d : Nat} {m v : Int32} (h : u 14 0 = nI d) (hd : d < 4) : fM_enter m v u = some (0, wr (wr (wr (wr (wr u 15 d m) 16 d v) 17 d 0) 18 d 0) 14 0 (nI (d + 1))) := by
  unfold fM_enter
  rw [h, pu_wr hd (by omega)]
  simp only [Option.bind_some]
  rw [wr_n (show (14 : Nat) ≠ 15 by decide), h, pu_wr hd (by omega)]
  simp only [Option.bind_some]
  rw [wr_n (show (14 : Nat) ≠ 16 by decide), wr_n (show (14 : Nat) ≠ 15 by decide), h, pu_wr hd (by omega)]
  simp only [Option.bind_some]
  rw [wr_n (show (14 : Nat) ≠ 17 by decide), wr_n (show (14 : Nat) ≠ 16 by decide), wr_n (show (14 : Nat) ≠ 15 by decide), h, pu_wr hd (by omega)]
  simp only [Option.bind_some]
  rw [wr_n (show (14 : Nat) ≠ 18 by decide), wr_n (show (14 : Nat) ≠ 17 by decide), wr_n (show (14 : Nat) ≠ 16 by decide), wr_n (show (14 : Nat) ≠ 15 by decide), h, nI_1, pu_sc]
  rfl
