/-! PURE: numbers that are told from outside: too small, too large, or one of those that there are. -/
theorem le64 {x y : Int32} : (x.toInt64 ≤ y.toInt64) ↔ x ≤ y := by
  rw [Int64.le_iff_toInt_le, Int32.le_iff_toInt_le, Int32.toInt_toInt64, Int32.toInt_toInt64]
theorem lt64 {x y : Int32} : (x.toInt64 < y.toInt64) ↔ x < y := by
  rw [Int64.lt_iff_toInt_lt, Int32.lt_iff_toInt_lt, Int32.toInt_toInt64, Int32.toInt_toInt64]
theorem M_in {x y z : Int32} {u : Ug} : fM_in x.toInt64 y.toInt64 z.toInt64 u = some (if y ≤ x ∧ x ≤ z then 1 else 0, u) := by
  unfold fM_in
  by_cases a : x < y
  · rw [if_pos ((lg_cmp_lt _ _).mpr (lt64.mpr a)), if_neg (fun q => Int32.not_le.mpr a q.1)]
  · rw [if_neg (fun q => a (lt64.mp ((lg_cmp_lt _ _).mp q)))]
    by_cases b : z < x
    · rw [if_pos ((lg_cmp_gt _ _).mpr (lt64.mpr b)), if_neg (fun q => Int32.not_le.mpr b q.2)]
    · rw [if_neg (fun q => b (lt64.mp ((lg_cmp_gt _ _).mp q))), if_pos ⟨Int32.not_lt.mp a, Int32.not_lt.mp b⟩]
/-- from a to b: too small, or too large, or one of them -/
theorem M_in_no {x : Int32} {lo hi : Int64} {a b : Nat} {u : Ug} (hlo : lo = lN a) (hhi : hi = lN b) (ha : a < 2 ^ 31) (hb : b + 1 < 2 ^ 31) (h : x < nI a ∨ nI (b + 1) ≤ x) : fM_in x.toInt64 lo hi u = some (0, u) := by
  rw [hlo, hhi, ← nI_l ha, ← nI_l (by omega), M_in, if_neg]
  rintro ⟨q1, q2⟩
  rcases h with h | h
  · exact Int32.not_le.mpr h q1
  · have h1 := Int32.le_iff_toInt_le.mp h
    have h2 := Int32.le_iff_toInt_le.mp q2
    rw [nI_toInt (by omega)] at h1 h2
    omega
theorem M_in_ok {j : Nat} {lo hi : Int64} {a b : Nat} {u : Ug} (hlo : lo = lN a) (hhi : hi = lN b) (hb : b + 1 < 2 ^ 31) (h1 : a ≤ j) (h2 : j ≤ b) : fM_in (nI j).toInt64 lo hi u = some (1, u) := by
  rw [hlo, hhi, ← nI_l (show a < 2 ^ 31 by omega), ← nI_l (show b < 2 ^ 31 by omega), M_in, if_pos ⟨nI_le h1 (by omega), nI_le h2 (by omega)⟩]
theorem M_isAccount_no {x : Int32} {u : Ug} (h : x < 0 ∨ nI 12 ≤ x) : fM_isAccount x u = some (0, u) := by
  unfold fM_isAccount
  rw [M_in_no (lo := 0) (hi := 11) (a := 0) (b := 11) rfl rfl (by decide) (by decide) h]
  rfl
theorem M_isAccount_ok {j : Nat} {u : Ug} (h : j < 12) : fM_isAccount (nI j) u = some (1, u) := by
  unfold fM_isAccount
  rw [M_in_ok (lo := 0) (hi := 11) (a := 0) (b := 11) rfl rfl (by decide) (Nat.zero_le _) (by omega)]
  rfl
theorem C_isAccount_no {x : Int32} {u : Ug} (h : x < 0 ∨ nI 12 ≤ x) : fC_State_isAccount x u = some (0, u) := by
  unfold fC_State_isAccount
  by_cases a : x < 0
  · rw [if_pos a]
  · rw [if_neg a, if_pos (show (12 : Int32) ≤ x from h.resolve_left a)]
theorem C_isAccount_ok {j : Nat} {u : Ug} (h : j < 12) : fC_State_isAccount (nI j) u = some (1, u) := by
  unfold fC_State_isAccount
  rw [if_neg (by rw [lit_0]; exact nI_nlt (Nat.zero_le _) (by omega)), if_neg (by rw [lit_12]; exact nI_ge h (by omega))]
theorem C_isCell_no {x : Int32} {u : Ug} (h : x < 0 ∨ nI 4 ≤ x) : fC_State_isCell x u = some (0, u) := by
  unfold fC_State_isCell
  by_cases a : x < 0
  · rw [if_pos a]
  · rw [if_neg a, if_pos (show (4 : Int32) ≤ x from h.resolve_left a)]
theorem C_isCell_ok {j : Nat} {u : Ug} (h : j < 4) : fC_State_isCell (nI j) u = some (1, u) := by
  unfold fC_State_isCell
  rw [if_neg (by rw [lit_0]; exact nI_nlt (Nat.zero_le _) (by omega)), if_neg (by rw [lit_4]; exact nI_ge h (by omega))]
theorem C_isFace_no {x : Int32} {u : Ug} (h : x < 0 ∨ nI 4 ≤ x) : fC_Faces_isFace x u = some (0, u) := by
  unfold fC_Faces_isFace
  by_cases a : x < 0
  · rw [if_pos a]
  · rw [if_neg a, if_pos (show (4 : Int32) ≤ x from h.resolve_left a)]
theorem C_isFace_ok {j : Nat} {u : Ug} (h : j < 4) : fC_Faces_isFace (nI j) u = some (1, u) := by
  unfold fC_Faces_isFace
  rw [if_neg (by rw [lit_0]; exact nI_nlt (Nat.zero_le _) (by omega)), if_neg (by rw [lit_4]; exact nI_ge h (by omega))]
theorem C_isTest_no {x : Int32} {u : Ug} (h : x < 0 ∨ nI 6 ≤ x) : fC_Scripts_isTest x u = some (0, u) := by
  unfold fC_Scripts_isTest
  by_cases a : x < 0
  · rw [if_pos a]
  · rw [if_neg a, if_pos (show (6 : Int32) ≤ x from h.resolve_left a)]
theorem C_isTest_ok {j : Nat} {u : Ug} (h : j < 6) : fC_Scripts_isTest (nI j) u = some (1, u) := by
  unfold fC_Scripts_isTest
  rw [if_neg (by rw [lit_0]; exact nI_nlt (Nat.zero_le _) (by omega)), if_neg (by rw [lit_6]; exact nI_ge h (by omega))]
/-- one number: not there, or there -/
theorem arg_ix (x : Int32) (n : Nat) (hn : n < 2 ^ 31) : (x < 0 ∨ nI n ≤ x) ∨ ∃ j : Nat, j < n ∧ x = nI j := by
  rcases pk_ix x hn with h | h | h
  · exact Or.inl (Or.inl h)
  · exact Or.inl (Or.inr h)
  · exact Or.inr h
/-- a MEMBER's place -/
theorem C_placeOf_no {x y : Int32} {u : Ug} {k : Nat} (hk : u 18 0 = nI k) (h : (x < 0 ∨ nI k ≤ x) ∨ (y < 0 ∨ nI 3 ≤ y)) : fC_Code_placeOf x y u = some (-1, u) := by
  unfold fC_Code_placeOf
  rw [hk]
  by_cases a : x < 0
  · rw [if_pos a]
  rw [if_neg a]
  by_cases b : nI k ≤ x
  · rw [if_pos b]
  rw [if_neg b]
  have h := h.resolve_left (by rintro (q | q); exact a q; exact b q)
  by_cases c : y < 0
  · rw [if_pos c]
  rw [if_neg c, if_pos (show (3 : Int32) ≤ y from h.resolve_left c)]
theorem C_placeOf_ok {u : Ug} {k c m : Nat} (hk : u 18 0 = nI k) (hk4 : k ≤ 4) (hc : c < k) (hm : m < 3) : fC_Code_placeOf (nI c) (nI m) u = some (nI (3 * c + m), u) := by
  unfold fC_Code_placeOf
  rw [hk, if_neg (by rw [lit_0]; exact nI_nlt (Nat.zero_le _) (by omega)), if_neg (nI_ge hc (by omega)), if_neg (by rw [lit_0]; exact nI_nlt (Nat.zero_le _) (by omega)), if_neg (by rw [lit_3]; exact nI_ge hm (by omega)), lit_3, pk_mul, nI_add, Nat.mul_comm]
theorem nI_sub1 {k : Nat} (hk : k ≤ 4) : (nI k - (1 : Int32)).toInt64 = (if k = 0 then (-1 : Int64) else lN (k - 1)) := by
  rcases (show k = 0 ∨ k = 1 ∨ k = 2 ∨ k = 3 ∨ k = 4 by omega) with rfl | rfl | rfl | rfl | rfl <;> decide
/-- a CONTRACT, in the reference -/
theorem M_inC_no {x : Int32} {u : Ug} {k : Nat} (hk4 : k ≤ 4) (h : x < 0 ∨ nI k ≤ x) : fM_in x.toInt64 (0 : Int64) (nI k - (1 : Int32)).toInt64 u = some (0, u) := by
  have e : (0 : Int64) = (0 : Int32).toInt64 := rfl
  rw [e, M_in, if_neg]
  rintro ⟨q1, q2⟩
  rcases h with h | h
  · exact Int32.not_le.mpr h q1
  · have h3 := Int32.le_iff_toInt_le.mp (show nI k ≤ nI k - 1 from Int32.le_trans h q2)
    have h4 : (nI k - 1).toInt < (nI k).toInt := by
      rcases (show k = 0 ∨ k = 1 ∨ k = 2 ∨ k = 3 ∨ k = 4 by omega) with rfl | rfl | rfl | rfl | rfl <;> decide
    omega
theorem M_inC_ok {u : Ug} {k c : Nat} (hk4 : k ≤ 4) (hc : c < k) : fM_in (nI c).toInt64 (0 : Int64) (nI k - (1 : Int32)).toInt64 u = some (1, u) := by
  have e : nI k - (1 : Int32) = nI (k - 1) := by rw [lit_1, pk_sub (by omega)]
  rw [e, nI_l (show k - 1 < 2 ^ 31 by omega)]
  exact M_in_ok (a := 0) (b := k - 1) rfl rfl (by omega) (Nat.zero_le _) (by omega)
theorem M_isMember_no {x y : Int32} {u : Ug} {k : Nat} (hk : u 1 0 = nI k) (hk4 : k ≤ 4) (h : (x < 0 ∨ nI k ≤ x) ∨ (y < 0 ∨ nI 3 ≤ y)) : fM_isMember x y u = some (0, u) := by
  unfold fM_isMember
  rw [hk]
  rcases arg_ix x k (by omega) with hx | ⟨c, hc, rfl⟩
  · rw [M_inC_no hk4 hx]
    simp only [Option.bind_some]
    rw [if_pos trivial]
  · rw [M_inC_ok hk4 hc]
    simp only [Option.bind_some]
    have h := h.resolve_left (by rintro (q | q); exact nI_nlt (Nat.zero_le _) (by omega) (show nI c < nI 0 from q); exact nI_ge hc (by omega) q)
    rw [if_neg (by decide), M_in_no (lo := 0) (hi := 2) (a := 0) (b := 2) rfl rfl (by decide) (by decide) h]
    rfl
theorem M_isMember_ok {u : Ug} {k c m : Nat} (hk : u 1 0 = nI k) (hk4 : k ≤ 4) (hc : c < k) (hm : m < 3) : fM_isMember (nI c) (nI m) u = some (1, u) := by
  unfold fM_isMember
  rw [hk, M_inC_ok hk4 hc]
  simp only [Option.bind_some]
  rw [if_neg (by decide), M_in_ok (lo := 0) (hi := 2) (a := 0) (b := 2) rfl rfl (by decide) (Nat.zero_le _) (by omega)]
  rfl
