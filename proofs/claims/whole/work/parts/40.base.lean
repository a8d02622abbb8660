/-! PURE, base: numbers, reads and writes. -/
theorem pu_rd {f : Nat → Int32} {n i : Nat} (h : i < n) (hn : n < 2 ^ 31) : rdO f n (nI i) = some (f i) := by
  unfold rdO
  rw [if_pos (en_in_iff.mpr (vp_in_nI h hn)), nI_clamp (by omega)]
theorem pu_wr {u : Ug} {k n i : Nat} {x : Int32} (h : i < n) (hn : n < 2 ^ 31) : wrO u k n (nI i) x = some (wr u k i x) := by
  unfold wrO
  rw [if_pos (en_in_iff.mpr (vp_in_nI h hn)), nI_clamp (by omega)]
theorem pu_sc {u : Ug} {k : Nat} {x : Int32} : scO u k x = some (wr u k 0 x) := rfl
theorem pu_sb0 {u : Ug} {k : Nat} : sbO u k (nI 0) = some (wr u k 0 (nI 0)) := rfl
theorem pu_sb1 {u : Ug} {k : Nat} : sbO u k (nI 1) = some (wr u k 0 (nI 1)) := rfl
theorem pu_sl {u : Ug} {k a : Nat} (h : a + 1 < 2 ^ 31) : slO u k ((nI a).toInt64 + 1) = some (wr u k 0 (nI (a + 1))) := by
  unfold slO
  have e : (nI a).toInt64 + 1 = lN (a + 1) := by rw [nI_l (by omega), lN_1]
  rw [e, lN_i, nI_l h, if_pos rfl]
theorem pu_cp {u : Ug} {k1 n1 k2 n2 sp dp n : Nat} (h1 : sp + n ≤ n1) (h2 : dp + n ≤ n2) (h3 : n1 < 2 ^ 31) (h4 : n2 < 2 ^ 31) : cpO u k1 n1 (nI sp) k2 n2 (nI dp) (nI n) = some (wrA u k2 (va_cpy (u k1) (u k2) sp dp n)) := by
  unfold cpO
  rw [nI_clamp (by omega), nI_clamp (by omega), nI_clamp (by omega), if_pos ⟨nI_pos (by omega), nI_pos (by omega), nI_pos (by omega), h1, h2⟩]
theorem pu_cmp0 {a b : Nat} (ha : a < 2 ^ 31) (hb : b < 2 ^ 31) : lg_cmp (nI a).toInt64 (lN b) = 0 ↔ a = b := by
  rw [nI_l ha]
  unfold lg_cmp
  have h1 := lN_lt ha hb
  have h2 := lN_eq ha hb
  by_cases e : a = b
  · subst e; simp
  · have e2 : ¬ lN a = lN b := fun q => e (h2.mp q)
    by_cases e3 : lN b < lN a <;> simp [e, e2, e3]
theorem lit_0 : (0 : Int32) = nI 0 := rfl
theorem lit_1 : (1 : Int32) = nI 1 := rfl
theorem lit_2 : (2 : Int32) = nI 2 := rfl
theorem lit_3 : (3 : Int32) = nI 3 := rfl
theorem lit_4 : (4 : Int32) = nI 4 := rfl
theorem lit_5 : (5 : Int32) = nI 5 := rfl
theorem lit_6 : (6 : Int32) = nI 6 := rfl
theorem lit_7 : (7 : Int32) = nI 7 := rfl
theorem lit_8 : (8 : Int32) = nI 8 := rfl
theorem lit_9 : (9 : Int32) = nI 9 := rfl
theorem lit_10 : (10 : Int32) = nI 10 := rfl
theorem lit_11 : (11 : Int32) = nI 11 := rfl
theorem lit_12 : (12 : Int32) = nI 12 := rfl
theorem lit_13 : (13 : Int32) = nI 13 := rfl
theorem lit_16 : (16 : Int32) = nI 16 := rfl
theorem lit_20 : (20 : Int32) = nI 20 := rfl
theorem lit_28 : (28 : Int32) = nI 28 := rfl
theorem lit_29 : (29 : Int32) = nI 29 := rfl
theorem lit_30 : (30 : Int32) = nI 30 := rfl
theorem lit_40 : (40 : Int32) = nI 40 := rfl
theorem lit_48 : (48 : Int32) = nI 48 := rfl
theorem lit_70 : (70 : Int32) = nI 70 := rfl
theorem lit_96 : (96 : Int32) = nI 96 := rfl
theorem lit_100 : (100 : Int32) = nI 100 := rfl
theorem lit_280 : (280 : Int32) = nI 280 := rfl
theorem lit_1000 : (1000 : Int32) = nI 1000 := rfl
theorem lit_2520 : (2520 : Int32) = nI 2520 := rfl
theorem lit_20000 : (20000 : Int32) = nI 20000 := rfl
theorem lit_big : (1000000000 : Int32) = nI 1000000000 := rfl
theorem litL_20000 : (20000 : Int64) = lN 20000 := rfl
theorem pu_ne_m1 {a : Nat} (h : a < 2 ^ 31) : (nI a = (-1 : Int32)) = False := by
  have h1 := nI_toInt h
  refine eq_false (fun q => ?_)
  rw [q] at h1
  have h2 : (-1 : Int32).toInt = -1 := by decide
  omega
theorem pu_m1_neg : ((-1 : Int32) < nI 0) = True := by decide
theorem pu_m1_ge : (nI 0 ≤ (-1 : Int32)) = False := by decide
theorem wr_s {u : Ug} {k j : Nat} {x : Int32} : wr u k j x k = upd (u k) j x := by simp [wr]
theorem wr_n {u : Ug} {k k2 j : Nat} {x : Int32} (h : k2 ≠ k) : wr u k j x k2 = u k2 := by simp [wr, h]
theorem wrA_s {u : Ug} {k : Nat} {f : Nat → Int32} : wrA u k f k = f := by simp [wrA]
theorem wrA_n {u : Ug} {k k2 : Nat} {f : Nat → Int32} (h : k2 ≠ k) : wrA u k f k2 = u k2 := by simp [wrA, h]
theorem upd_s {f : Nat → Int32} {k : Nat} {x : Int32} : upd f k x k = x := by simp [upd]
theorem upd_n {f : Nat → Int32} {k j : Nat} {x : Int32} (h : j ≠ k) : upd f k x j = f j := by simp [upd, h]
theorem upd_uu {f : Nat → Int32} {k : Nat} {x y : Int32} : upd (upd f k x) k y = upd f k y := by
  funext j; by_cases h : j = k <;> simp [upd, h]
theorem pu_ge0 {a b : Nat} (ha : a < 2 ^ 31) (hb : b < 2 ^ 31) : (nI a ≤ nI b) = (a ≤ b) := propext (nI_leI ha hb)
theorem pu_lt0 {a b : Nat} (ha : a < 2 ^ 31) (hb : b < 2 ^ 31) : (nI a < nI b) = (a < b) := propext (nI_ltI ha hb)
theorem pu_eq0 {a b : Nat} (ha : a < 2 ^ 31) (hb : b < 2 ^ 31) : (nI a = nI b) = (a = b) := propext (nI_eq ha hb)
theorem pu_div {a d : Nat} (ha : a < 2 ^ 31) (h0 : 0 < d) (hd : d < 2 ^ 31) : nI a / nI d = nI (a / d) := pk_div ha h0 hd
/-- leaf functions of the class -/
theorem C_cellOf {u : Ug} {pl j : Nat} (hp : pl < 12) (hj : j < 4) : fC_State_cellOf (nI pl / 3) (nI j) u = some (u 0 (12 + (4 * (pl / 3) + j)), u) := by
  unfold fC_State_cellOf
  simp (disch := omega) only [lit_0, lit_3, lit_4, lit_12, lit_16, pu_div, pk_mul, nI_add, pu_lt0, pu_ge0, pu_rd, Option.bind_some]
  rw [if_neg (by omega), if_neg (by omega), Nat.mul_comm]
theorem C_putCell {u : Ug} {pl j : Nat} {x : Int32} (hp : pl < 12) (hj : j < 4) : fC_State_putCell (nI pl / 3) (nI j) x u = some (0, wr u 0 (12 + (4 * (pl / 3) + j)) x) := by
  unfold fC_State_putCell
  simp (disch := omega) only [lit_0, lit_3, lit_4, lit_12, lit_16, pu_div, pk_mul, nI_add, pu_lt0, pu_ge0, pu_wr, Option.bind_some]
  rw [if_neg (by omega), if_neg (by omega), Nat.mul_comm]
