/-! PURE: the class's small methods, as they answer within their bounds. -/
theorem wr_wr_A {u : Ug} {k i j : Nat} {x y : Int32} : wr (wr u k i x) k j y = wrA u k (upd (upd (u k) i x) j y) := by
  funext r; by_cases h : r = k <;> simp [wr, wrA, h]
theorem wrA_id {u : Ug} {k : Nat} : wrA u k (u k) = u := by
  funext r; by_cases h : r = k <;> simp [wrA, h]
theorem C_threw {u : Ug} : fC_Machine_threw u = some (if u 21 0 = 0 then 0 else 1, u) := by
  unfold fC_Machine_threw
  by_cases h : u 21 0 = 0 <;> simp [h]
theorem C_raise {u : Ug} {x : Int32} : fC_Machine_raise x u = some (0, wr (wr u 21 0 x) 22 0 x) := rfl
theorem C_kind {u : Ug} {s : Nat} (h : s < 96) : fC_Code_kind (nI s) u = some (u 3 s, u) := by
  unfold fC_Code_kind
  simp (disch := omega) only [lit_0, lit_96, pu_lt0, pu_ge0, pu_rd, Option.bind_some]
  rw [if_neg (by omega), if_neg (by omega)]
theorem C_a {u : Ug} {s : Nat} (h : s < 96) : fC_Code_a (nI s) u = some (u 4 s, u) := by
  unfold fC_Code_a
  simp (disch := omega) only [lit_0, lit_96, pu_lt0, pu_ge0, pu_rd, Option.bind_some]
  rw [if_neg (by omega), if_neg (by omega)]
theorem C_b {u : Ug} {s : Nat} (h : s < 96) : fC_Code_b (nI s) u = some (u 5 s, u) := by
  unfold fC_Code_b
  simp (disch := omega) only [lit_0, lit_96, pu_lt0, pu_ge0, pu_rd, Option.bind_some]
  rw [if_neg (by omega), if_neg (by omega)]
theorem C_size {u : Ug} {s : Nat} (h : s < 12) : fC_Code_size (nI s) u = some (u 1 s, u) := by
  unfold fC_Code_size
  simp (disch := omega) only [lit_0, lit_12, pu_lt0, pu_ge0, pu_rd, Option.bind_some]
  rw [if_neg (by omega), if_neg (by omega)]
theorem C_boundTo {u : Ug} {s : Nat} (h : s < 4) : fC_Faces_boundTo (nI s) u = some (u 6 s, u) := by
  unfold fC_Faces_boundTo
  simp (disch := omega) only [lit_0, lit_4, pu_lt0, pu_ge0, pu_rd, Option.bind_some]
  rw [if_neg (by omega), if_neg (by omega)]
theorem C_doubleOf {u : Ug} {s : Nat} (h : s < 4) : fC_Faces_doubleOf (nI s) u = some (u 7 s, u) := by
  unfold fC_Faces_doubleOf
  simp (disch := omega) only [lit_0, lit_4, pu_lt0, pu_ge0, pu_rd, Option.bind_some]
  rw [if_neg (by omega), if_neg (by omega)]
theorem C_numberOf {u : Ug} {s : Nat} (h : s < 4) : fC_Faces_numberOf (nI s) u = some (u 8 s, u) := by
  unfold fC_Faces_numberOf
  simp (disch := omega) only [lit_0, lit_4, pu_lt0, pu_ge0, pu_rd, Option.bind_some]
  rw [if_neg (by omega), if_neg (by omega)]
theorem C_accountOf {u : Ug} {pl : Nat} (h : pl < 12) : fC_Machine_accountOf (nI pl) u = some (nI (8 + pl / 3), u) := by
  unfold fC_Machine_accountOf
  simp (disch := omega) only [lit_3, lit_8, pu_div, nI_add]
theorem C_cover {u : Ug} {pl k : Nat} (h : pl < 12) : fC_Code_cover (nI pl) (nI k) u = some (0, wr u 2 pl (u 2 pl ||| aBit k)) := by
  unfold fC_Code_cover
  have e : ∀ x : Int32, (nI pl < x) = (nI pl < x) := fun _ => rfl
  rw [if_neg (by rw [lit_0]; exact nI_nlt (Nat.zero_le _) (by omega)), if_neg (by rw [lit_12]; exact nI_ge h (by omega)), pu_rd h (by omega)]
  simp (disch := omega) only [pu_wr, Option.bind_some]
  rfl
theorem C_begins {u : Ug} {pl i ia st : Nat} (h : pl < 12) (hi : u 19 0 = nI ia) (hs : u 20 0 = nI st) (h1 : ia ≤ 20000) (h2 : st ≤ 100) : fC_Machine_begins (nI pl) (nI i) u = if 100 ≤ st ∨ 20000 ≤ ia then some (0, wr (wr u 21 0 7) 22 0 7) else some (1, wr (wr (wr u 20 0 (nI (st + 1))) 19 0 (nI (ia + 1))) 2 pl (u 2 pl ||| aBit i)) := by
  unfold fC_Machine_begins
  rw [hi, hs]
  by_cases h3 : 100 ≤ st
  · rw [if_pos (by rw [lit_100]; exact nI_le h3 (by omega)), if_pos (Or.inl h3), C_raise]; rfl
  · rw [if_neg (by rw [lit_100]; exact nI_ge (by omega) (by omega))]
    by_cases h4 : 20000 ≤ ia
    · rw [if_neg (by rw [lit_20000]; exact nI_nlt h4 (by omega)), if_pos (Or.inr h4), C_raise]; rfl
    · rw [if_pos (by rw [lit_20000]; exact nI_lt (by omega) (by omega)), if_neg (by omega)]
      simp only [pu_sc, Option.bind_some]
      rw [C_cover h]
      simp [wr, hi, nI_1]
theorem C_passedOver {u : Ug} {pl i j : Nat} {v : Int32} (h : pl < 12) (hi : i < 8) (hj : u 4 (8 * pl + i) = nI j) : fC_Machine_passedOver (nI pl) (nI i) v u = some (if aPass (u 3 (8 * pl + i)) (u 5 (8 * pl + i)) v = true then nI j else 0, wr u 2 pl (u 2 pl ||| aBit (i + if aPass (u 3 (8 * pl + i)) (u 5 (8 * pl + i)) v = true then 8 else 16))) := by
  unfold fC_Machine_passedOver
  have e : (nI pl * (8 : Int32)) + nI i = nI (8 * pl + i) := by rw [lit_8, pk_mul, nI_add, Nat.mul_comm]
  have e8 : nI i + (8 : Int32) = nI (i + 8) := by rw [lit_8, nI_add]
  have e16 : nI i + (16 : Int32) = nI (i + 16) := by rw [lit_16, nI_add]
  rw [e, e8, e16, C_b (by omega)]
  simp only [Option.bind_some]
  rw [C_kind (by omega)]
  simp only [Option.bind_some, C_cover h]
  have hk : ∀ w : Ug, w 4 = u 4 → fC_Code_a (nI (8 * pl + i)) w = some (nI j, w) := fun w hw => by rw [C_a (by omega), hw, hj]
  by_cases h1 : u 5 (8 * pl + i) ≤ v
  · rw [if_pos h1]
    by_cases h2 : u 3 (8 * pl + i) = 13
    · rw [if_pos h2, hk _ (by simp [wr])]
      simp [aPass, h1, h2]
    · rw [if_neg h2]
      simp [aPass, h1, h2]
  · rw [if_neg h1]
    by_cases h2 : u 3 (8 * pl + i) = 13
    · rw [if_pos h2]
      simp [aPass, h1, h2]
    · rw [if_neg h2, hk _ (by simp [wr])]
      simp [aPass, h1, h2]
theorem C_keep {u : Ug} {lv : Nat} (h : lv < 36) : fC_State_keepIn_14 (nI lv) u = some (1, wrA u 9 (va_cpy (u 0) (u 9) 0 (70 * lv) 70)) := by
  unfold fC_State_keepIn_14
  have e : nI lv * (70 : Int32) = nI (70 * lv) := by rw [lit_70, pk_mul, Nat.mul_comm]
  have e2 : (2520 : Int32) / (70 : Int32) = nI 36 := by decide
  rw [e, e2, if_neg (by rw [lit_0]; exact nI_nlt (Nat.zero_le _) (by omega)), if_pos (nI_lt h (by omega)), lit_0, lit_70, pu_cp (by omega) (by omega) (by omega) (by omega)]
  rfl
theorem C_bring {u : Ug} {lv : Nat} (h : lv < 36) : fC_State_bringFrom_14 (nI lv) u = some (1, wrA u 0 (va_cpy (u 9) (u 0) (70 * lv) 0 70)) := by
  unfold fC_State_bringFrom_14
  have e : nI lv * (70 : Int32) = nI (70 * lv) := by rw [lit_70, pk_mul, Nat.mul_comm]
  have e2 : (2520 : Int32) / (70 : Int32) = nI 36 := by decide
  rw [e, e2, if_neg (by rw [lit_0]; exact nI_nlt (Nat.zero_le _) (by omega)), if_pos (nI_lt h (by omega)), lit_0, lit_70, pu_cp (by omega) (by omega) (by omega) (by omega)]
  rfl
theorem C_height {u : Ug} : fC_State_height u = some (u 0 28, u) := by
  unfold fC_State_height
  simp (disch := omega) only [lit_28, pu_rd, Option.bind_some]
theorem C_addEvent {u : Ug} {e : Nat} {v : Int32} (he : u 0 29 = nI e) (h : e ≤ 40) : fC_State_addEvent v u = some (0, wrA u 0 (aEv (u 0) v)) := by
  have hid : wrA u 0 (u 0) = u := by funext r; by_cases hr : r = 0 <;> simp [wrA, hr]
  unfold fC_State_addEvent aEv
  have hc : (nI e).toNatClampNeg = e := nI_clamp (by omega)
  simp (disch := omega) only [lit_0, lit_1, lit_29, lit_30, lit_40, pu_rd, Option.bind_some, he, hc, pu_lt0, pu_ge0]
  rw [if_neg (by omega)]
  by_cases h4 : 40 ≤ e
  · rw [if_pos h4, if_pos h4, hid]
  · rw [if_neg h4, if_neg h4]
    simp (disch := omega) only [nI_add, pu_wr, Option.bind_some]
    rw [wr_wr_A]
