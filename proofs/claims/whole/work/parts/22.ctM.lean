/-! CONTRACTS. -/
set_option maxHeartbeats 4000000 in
set_option maxRecDepth 100000 in
theorem ctM_in {l : Launch} {D : va_G} {K : en_K} {ad : Nat → Nat} (x1 : Int64) (x2 : Int64) (x3 : Int64) (u : Ug) (r0 : Int32) (u0 : Ug) (hf : fM_in x1 x2 x3 u = some (r0, u0)) : CT l D (en_ty K) ad (1) yX8_in cX8_in 6 (some .boolean) [.long x1, .long x2, .long x3] (wdM K u) (en_RI (wdM K) r0 u0) := by
  refine CT.of (by decide) [some (.long x1), none, some (.long x2), none, some (.long x3), none] rfl (Nat.le_of_ble_eq_true rfl) ?_
  intro p e R s m args below meth c sz C
  unfold fM_in at hf
  refine g_lload_n_0 C dX8_in_0 ?_
  refine g_lload_n_2 C dX8_in_1 ?_
  refine g_lcmp C dX8_in_2 ?_
  refine g_if_lt (tgt := 17) C dX8_in_3 (by decide) (fun c1 => ?_) (fun c1 => ?_)
  · rw [if_pos c1] at hf
    refine g_iconst (v := (0 : Int32)) C dX8_in_17 (by decide) ?_
    exact g_zret C rfl dX8_in_18 (en_finI hf)
  · rw [if_neg c1] at hf
    refine g_lload_n_0 C dX8_in_6 ?_
    refine g_lload_4 C dX8_in_7 ?_
    refine g_lcmp C dX8_in_9 ?_
    refine g_if_gt (tgt := 17) C dX8_in_10 (by decide) (fun c2 => ?_) (fun c2 => ?_)
    · rw [if_pos c2] at hf
      refine g_iconst (v := (0 : Int32)) C dX8_in_17 (by decide) ?_
      exact g_zret C rfl dX8_in_18 (en_finI hf)
    · rw [if_neg c2] at hf
      refine g_iconst (v := (1 : Int32)) C dX8_in_13 (by decide) ?_
      refine g_goto (tgt := 18) C dX8_in_14 (by decide) ?_
      exact g_zret C rfl dX8_in_18 (en_finI hf)
set_option maxHeartbeats 4000000 in
set_option maxRecDepth 100000 in
theorem ctM_isAccount {l : Launch} {D : va_G} {K : en_K} {ad : Nat → Nat} (x1 : Int32) (u : Ug) (r0 : Int32) (u0 : Ug) (hf : fM_isAccount x1 u = some (r0, u0)) : CT l D (en_ty K) ad (2) yX8_isAccount cX8_isAccount 1 (some .boolean) [.int x1] (wdM K u) (en_RI (wdM K) r0 u0) := by
  refine CT.of (by decide) [some (.int x1)] rfl (Nat.le_of_ble_eq_true rfl) ?_
  intro p e R s m args below meth c sz C
  unfold fM_isAccount at hf
  refine g_iload_n_0 C dX8_isAccount_0 ?_
  refine g_i2l C dX8_isAccount_1 ?_
  refine g_lconst (v := (0 : Int64)) C dX8_isAccount_2 (by decide) ?_
  refine gl_X8_121 C dX8_isAccount_3 ?_
  obtain ⟨q1, hq1, hf⟩ := en_bnd hf
  refine gc_X8_123_M_in C (ctM_in _ _ _ _ q1.1 q1.2 hq1) (by decide) (Nat.le_of_ble_eq_true rfl) dX8_isAccount_6 ?_
  obtain ⟨hz, hf⟩ := en_ite hf
  exact g_zret C hz dX8_isAccount_9 (en_finI hf)
set_option maxHeartbeats 4000000 in
set_option maxRecDepth 100000 in
theorem ctM_account {l : Launch} {D : va_G} {K : en_K} {ad : Nat → Nat} (x1 : Int32) (x2 : Int32) (u : Ug) (r0 : Int32) (u0 : Ug) (hf : fM_account x1 x2 u = some (r0, u0)) : CT l D (en_ty K) ad (3) yX8_account cX8_account 3 (some .int) [.ref 0, .int x1, .int x2] (wdM K u) (en_RI (wdM K) r0 u0) := by
  refine CT.of (by decide) [some (.ref 0), some (.int x1), some (.int x2)] rfl (Nat.le_of_ble_eq_true rfl) ?_
  intro p e R s m args below meth c sz C
  unfold fM_account at hf
  refine g_iload_n_1 C dX8_account_0 ?_
  obtain ⟨q1, hq1, hf⟩ := en_bnd hf
  refine gc_X8_133_M_isAccount C (ctM_isAccount _ _ q1.1 q1.2 hq1) (by decide) (Nat.le_of_ble_eq_true rfl) dX8_account_1 ?_
  refine g_if_eq (tgt := 19) C dX8_account_4 (by decide) (fun c2 => ?_) (fun c2 => ?_)
  · rw [if_pos c2] at hf
    refine g_iconst (v := (-1 : Int32)) C dX8_account_19 (by decide) ?_
    exact g_iret C dX8_account_20 (en_finI hf)
  · rw [if_neg c2] at hf
    refine g_iload_n_2 C dX8_account_7 ?_
    refine g_i2l C dX8_account_8 ?_
    refine g_lconst (v := (0 : Int64)) C dX8_account_9 (by decide) ?_
    refine gl_X8_137 C dX8_account_10 ?_
    obtain ⟨q3, hq3, hf⟩ := en_bnd hf
    refine gc_X8_123_M_in C (ctM_in _ _ _ _ q3.1 q3.2 hq3) (by decide) (Nat.le_of_ble_eq_true rfl) dX8_account_13 ?_
    refine g_if_ne (tgt := 21) C dX8_account_16 (by decide) (fun c4 => ?_) (fun c4 => ?_)
    · rw [if_neg c4] at hf
      refine g_aload_n_0 C dX8_account_21 ?_
      refine gf_X8_7 C dX8_account_22 ?_
      refine g_iload_n_1 C dX8_account_25 ?_
      refine g_iload_n_2 C dX8_account_26 ?_
      obtain ⟨u5, hu5, hf⟩ := en_bnd hf
      refine gaM_st_1 C hu5 dX8_account_27 ?_
      refine g_iconst (v := (1 : Int32)) C dX8_account_28 (by decide) ?_
      exact g_iret C dX8_account_29 (en_finI hf)
    · rw [if_pos c4] at hf
      refine g_iconst (v := (-1 : Int32)) C dX8_account_19 (by decide) ?_
      exact g_iret C dX8_account_20 (en_finI hf)
set_option maxHeartbeats 4000000 in
set_option maxRecDepth 100000 in
theorem ctM_contract {l : Launch} {D : va_G} {K : en_K} {ad : Nat → Nat} (u : Ug) (r0 : Int32) (u0 : Ug) (hf : fM_contract u = some (r0, u0)) : CT l D (en_ty K) ad (1) yX8_contract cX8_contract 1 (some .int) [.ref 0] (wdM K u) (en_RI (wdM K) r0 u0) := by
  refine CT.of (by decide) [some (.ref 0)] rfl (Nat.le_of_ble_eq_true rfl) ?_
  intro p e R s m args below meth c sz C
  unfold fM_contract at hf
  refine g_aload_n_0 C dX8_contract_0 ?_
  refine gf_X8_127 C dX8_contract_1 ?_
  refine g_iconst (v := (4 : Int32)) C dX8_contract_4 (by decide) ?_
  refine g_if_icmp_ne (tgt := 11) C dX8_contract_5 (by decide) (fun c1 => ?_) (fun c1 => ?_)
  · rw [if_neg c1] at hf
    refine g_aload_n_0 C dX8_contract_11 ?_
    refine g_dup C dX8_contract_12 rfl ?_
    refine gf_X8_127 C dX8_contract_13 ?_
    refine g_iconst (v := (1 : Int32)) C dX8_contract_16 (by decide) ?_
    refine g_iadd C dX8_contract_17 ?_
    obtain ⟨u2, hu2, hf⟩ := en_bnd hf
    refine gp_X8_127 C hu2 dX8_contract_18 ?_
    refine g_aload_n_0 C dX8_contract_21 ?_
    refine gf_X8_127 C dX8_contract_22 ?_
    refine g_iconst (v := (1 : Int32)) C dX8_contract_25 (by decide) ?_
    refine g_isub C dX8_contract_26 ?_
    exact g_iret C dX8_contract_27 (en_finI hf)
  · rw [if_pos c1] at hf
    refine g_bipush (v := (-2 : Int32)) C dX8_contract_8 (by decide) ?_
    exact g_iret C dX8_contract_10 (en_finI hf)
set_option maxHeartbeats 4000000 in
set_option maxRecDepth 100000 in
theorem ctM_isMember {l : Launch} {D : va_G} {K : en_K} {ad : Nat → Nat} (x1 : Int32) (x2 : Int32) (u : Ug) (r0 : Int32) (u0 : Ug) (hf : fM_isMember x1 x2 u = some (r0, u0)) : CT l D (en_ty K) ad (2) yX8_isMember cX8_isMember 3 (some .boolean) [.ref 0, .int x1, .int x2] (wdM K u) (en_RI (wdM K) r0 u0) := by
  refine CT.of (by decide) [some (.ref 0), some (.int x1), some (.int x2)] rfl (Nat.le_of_ble_eq_true rfl) ?_
  intro p e R s m args below meth c sz C
  unfold fM_isMember at hf
  refine g_iload_n_1 C dX8_isMember_0 ?_
  refine g_i2l C dX8_isMember_1 ?_
  refine g_lconst (v := (0 : Int64)) C dX8_isMember_2 (by decide) ?_
  refine g_aload_n_0 C dX8_isMember_3 ?_
  refine gf_X8_127 C dX8_isMember_4 ?_
  refine g_iconst (v := (1 : Int32)) C dX8_isMember_7 (by decide) ?_
  refine g_isub C dX8_isMember_8 ?_
  refine g_i2l C dX8_isMember_9 ?_
  obtain ⟨q1, hq1, hf⟩ := en_bnd hf
  refine gc_X8_123_M_in C (ctM_in _ _ _ _ q1.1 q1.2 hq1) (by decide) (Nat.le_of_ble_eq_true rfl) dX8_isMember_10 ?_
  refine g_if_eq (tgt := 32) C dX8_isMember_13 (by decide) (fun c2 => ?_) (fun c2 => ?_)
  · rw [if_pos c2] at hf
    refine g_iconst (v := (0 : Int32)) C dX8_isMember_32 (by decide) ?_
    exact g_zret C rfl dX8_isMember_33 (en_finI hf)
  · rw [if_neg c2] at hf
    refine g_iload_n_2 C dX8_isMember_16 ?_
    refine g_i2l C dX8_isMember_17 ?_
    refine g_lconst (v := (0 : Int64)) C dX8_isMember_18 (by decide) ?_
    refine gl_X8_131 C dX8_isMember_19 ?_
    obtain ⟨q3, hq3, hf⟩ := en_bnd hf
    refine gc_X8_123_M_in C (ctM_in _ _ _ _ q3.1 q3.2 hq3) (by decide) (Nat.le_of_ble_eq_true rfl) dX8_isMember_22 ?_
    refine g_if_eq (tgt := 32) C dX8_isMember_25 (by decide) (fun c4 => ?_) (fun c4 => ?_)
    · rw [if_pos c4] at hf
      refine g_iconst (v := (0 : Int32)) C dX8_isMember_32 (by decide) ?_
      exact g_zret C rfl dX8_isMember_33 (en_finI hf)
    · rw [if_neg c4] at hf
      refine g_iconst (v := (1 : Int32)) C dX8_isMember_28 (by decide) ?_
      refine g_goto (tgt := 33) C dX8_isMember_29 (by decide) ?_
      exact g_zret C rfl dX8_isMember_33 (en_finI hf)
set_option maxHeartbeats 4000000 in
set_option maxRecDepth 100000 in
theorem ctM_fits {l : Launch} {D : va_G} {K : en_K} {ad : Nat → Nat} (x1 : Int32) (x2 : Int32) (u : Ug) (r0 : Int32) (u0 : Ug) (hf : fM_fits x1 x2 u = some (r0, u0)) : CT l D (en_ty K) ad (3) yX8_fits cX8_fits 2 (some .boolean) [.int x1, .int x2] (wdM K u) (en_RI (wdM K) r0 u0) := by
  refine CT.of (by decide) [some (.int x1), some (.int x2)] rfl (Nat.le_of_ble_eq_true rfl) ?_
  intro p e R s m args below meth c sz C
  unfold fM_fits at hf
  refine g_iload_n_0 C dX8_fits_0 ?_
  rcases Decidable.em (x1 = (0 : Int32)) with s1_0 | s1_0
  · rw [if_pos s1_0] at hf
    refine g_tsw (z := (0 : Int32)) (tgt := 64) C dX8_fits_1 s1_0 (by decide) (by decide) rfl (by decide) ?_
    refine g_iload_n_1 C dX8_fits_64 ?_
    refine g_i2l C dX8_fits_65 ?_
    refine g_lconst (v := (0 : Int64)) C dX8_fits_66 (by decide) ?_
    refine gl_X8_139 C dX8_fits_67 ?_
    obtain ⟨q1, hq1, hf⟩ := en_bnd hf
    refine gc_X8_123_M_in C (ctM_in _ _ _ _ q1.1 q1.2 hq1) (by decide) (Nat.le_of_ble_eq_true rfl) dX8_fits_70 ?_
    obtain ⟨hz, hf⟩ := en_ite hf
    exact g_zret C hz dX8_fits_73 (en_finI hf)
  rw [if_neg s1_0] at hf
  rcases Decidable.em (x1 = (1 : Int32)) with s1_1 | s1_1
  · rw [if_pos s1_1] at hf
    refine g_tsw (z := (1 : Int32)) (tgt := 64) C dX8_fits_1 s1_1 (by decide) (by decide) rfl (by decide) ?_
    refine g_iload_n_1 C dX8_fits_64 ?_
    refine g_i2l C dX8_fits_65 ?_
    refine g_lconst (v := (0 : Int64)) C dX8_fits_66 (by decide) ?_
    refine gl_X8_139 C dX8_fits_67 ?_
    obtain ⟨q2, hq2, hf⟩ := en_bnd hf
    refine gc_X8_123_M_in C (ctM_in _ _ _ _ q2.1 q2.2 hq2) (by decide) (Nat.le_of_ble_eq_true rfl) dX8_fits_70 ?_
    obtain ⟨hz, hf⟩ := en_ite hf
    exact g_zret C hz dX8_fits_73 (en_finI hf)
  rw [if_neg s1_1] at hf
  rcases Decidable.em (x1 = (3 : Int32)) with s1_3 | s1_3
  · rw [if_pos s1_3] at hf
    refine g_tsw (z := (3 : Int32)) (tgt := 64) C dX8_fits_1 s1_3 (by decide) (by decide) rfl (by decide) ?_
    refine g_iload_n_1 C dX8_fits_64 ?_
    refine g_i2l C dX8_fits_65 ?_
    refine g_lconst (v := (0 : Int64)) C dX8_fits_66 (by decide) ?_
    refine gl_X8_139 C dX8_fits_67 ?_
    obtain ⟨q3, hq3, hf⟩ := en_bnd hf
    refine gc_X8_123_M_in C (ctM_in _ _ _ _ q3.1 q3.2 hq3) (by decide) (Nat.le_of_ble_eq_true rfl) dX8_fits_70 ?_
    obtain ⟨hz, hf⟩ := en_ite hf
    exact g_zret C hz dX8_fits_73 (en_finI hf)
  rw [if_neg s1_3] at hf
  rcases Decidable.em (x1 = (4 : Int32)) with s1_4 | s1_4
  · rw [if_pos s1_4] at hf
    refine g_tsw (z := (4 : Int32)) (tgt := 74) C dX8_fits_1 s1_4 (by decide) (by decide) rfl (by decide) ?_
    refine g_iload_n_1 C dX8_fits_74 ?_
    refine g_i2l C dX8_fits_75 ?_
    refine g_lconst (v := (0 : Int64)) C dX8_fits_76 (by decide) ?_
    refine gl_X8_141 C dX8_fits_77 ?_
    obtain ⟨q4, hq4, hf⟩ := en_bnd hf
    refine gc_X8_123_M_in C (ctM_in _ _ _ _ q4.1 q4.2 hq4) (by decide) (Nat.le_of_ble_eq_true rfl) dX8_fits_80 ?_
    obtain ⟨hz, hf⟩ := en_ite hf
    exact g_zret C hz dX8_fits_83 (en_finI hf)
  rw [if_neg s1_4] at hf
  rcases Decidable.em (x1 = (5 : Int32)) with s1_5 | s1_5
  · rw [if_pos s1_5] at hf
    refine g_tsw (z := (5 : Int32)) (tgt := 84) C dX8_fits_1 s1_5 (by decide) (by decide) rfl (by decide) ?_
    refine g_iload_n_1 C dX8_fits_84 ?_
    obtain ⟨q5, hq5, hf⟩ := en_bnd hf
    refine gc_X8_133_M_isAccount C (ctM_isAccount _ _ q5.1 q5.2 hq5) (by decide) (Nat.le_of_ble_eq_true rfl) dX8_fits_85 ?_
    obtain ⟨hz, hf⟩ := en_ite hf
    exact g_zret C hz dX8_fits_88 (en_finI hf)
  rw [if_neg s1_5] at hf
  rcases Decidable.em (x1 = (7 : Int32)) with s1_7 | s1_7
  · rw [if_pos s1_7] at hf
    refine g_tsw (z := (7 : Int32)) (tgt := 89) C dX8_fits_1 s1_7 (by decide) (by decide) rfl (by decide) ?_
    refine g_iload_n_1 C dX8_fits_89 ?_
    refine g_i2l C dX8_fits_90 ?_
    refine g_lconst (v := (1 : Int64)) C dX8_fits_91 (by decide) ?_
    refine gl_X8_143 C dX8_fits_92 ?_
    obtain ⟨q6, hq6, hf⟩ := en_bnd hf
    refine gc_X8_123_M_in C (ctM_in _ _ _ _ q6.1 q6.2 hq6) (by decide) (Nat.le_of_ble_eq_true rfl) dX8_fits_95 ?_
    obtain ⟨hz, hf⟩ := en_ite hf
    exact g_zret C hz dX8_fits_98 (en_finI hf)
  rw [if_neg s1_7] at hf
  rcases Decidable.em (x1 = (8 : Int32)) with s1_8 | s1_8
  · rw [if_pos s1_8] at hf
    refine g_tsw (z := (8 : Int32)) (tgt := 64) C dX8_fits_1 s1_8 (by decide) (by decide) rfl (by decide) ?_
    refine g_iload_n_1 C dX8_fits_64 ?_
    refine g_i2l C dX8_fits_65 ?_
    refine g_lconst (v := (0 : Int64)) C dX8_fits_66 (by decide) ?_
    refine gl_X8_139 C dX8_fits_67 ?_
    obtain ⟨q7, hq7, hf⟩ := en_bnd hf
    refine gc_X8_123_M_in C (ctM_in _ _ _ _ q7.1 q7.2 hq7) (by decide) (Nat.le_of_ble_eq_true rfl) dX8_fits_70 ?_
    obtain ⟨hz, hf⟩ := en_ite hf
    exact g_zret C hz dX8_fits_73 (en_finI hf)
  rw [if_neg s1_8] at hf
  rcases Decidable.em (x1 = (9 : Int32)) with s1_9 | s1_9
  · rw [if_pos s1_9] at hf
    refine g_tsw (z := (9 : Int32)) (tgt := 89) C dX8_fits_1 s1_9 (by decide) (by decide) rfl (by decide) ?_
    refine g_iload_n_1 C dX8_fits_89 ?_
    refine g_i2l C dX8_fits_90 ?_
    refine g_lconst (v := (1 : Int64)) C dX8_fits_91 (by decide) ?_
    refine gl_X8_143 C dX8_fits_92 ?_
    obtain ⟨q8, hq8, hf⟩ := en_bnd hf
    refine gc_X8_123_M_in C (ctM_in _ _ _ _ q8.1 q8.2 hq8) (by decide) (Nat.le_of_ble_eq_true rfl) dX8_fits_95 ?_
    obtain ⟨hz, hf⟩ := en_ite hf
    exact g_zret C hz dX8_fits_98 (en_finI hf)
  rw [if_neg s1_9] at hf
  rcases Decidable.em (x1 = (11 : Int32)) with s1_11 | s1_11
  · rw [if_pos s1_11] at hf
    refine g_tsw (z := (11 : Int32)) (tgt := 64) C dX8_fits_1 s1_11 (by decide) (by decide) rfl (by decide) ?_
    refine g_iload_n_1 C dX8_fits_64 ?_
    refine g_i2l C dX8_fits_65 ?_
    refine g_lconst (v := (0 : Int64)) C dX8_fits_66 (by decide) ?_
    refine gl_X8_139 C dX8_fits_67 ?_
    obtain ⟨q9, hq9, hf⟩ := en_bnd hf
    refine gc_X8_123_M_in C (ctM_in _ _ _ _ q9.1 q9.2 hq9) (by decide) (Nat.le_of_ble_eq_true rfl) dX8_fits_70 ?_
    obtain ⟨hz, hf⟩ := en_ite hf
    exact g_zret C hz dX8_fits_73 (en_finI hf)
  rw [if_neg s1_11] at hf
  refine g_tswD (tgt := 99) C [(0 : Int32), (1 : Int32), (3 : Int32), (4 : Int32), (5 : Int32), (7 : Int32), (8 : Int32), (9 : Int32), (11 : Int32)] dX8_fits_1 (And.intro s1_0 (And.intro s1_1 (And.intro s1_3 (And.intro s1_4 (And.intro s1_5 (And.intro s1_7 (And.intro s1_8 (And.intro s1_9 (And.intro s1_11 trivial))))))))) 12 (by decide) (by decide) (by decide) ?_
  refine g_iconst (v := (1 : Int32)) C dX8_fits_99 (by decide) ?_
  exact g_zret C rfl dX8_fits_100 (en_finI hf)
set_option maxHeartbeats 4000000 in
set_option maxRecDepth 100000 in
theorem ctM_step {l : Launch} {D : va_G} {K : en_K} {ad : Nat → Nat} (x1 : Int32) (x2 : Int32) (x3 : Int32) (x4 : Int32) (x5 : Int32) (u : Ug) (r0 : Int32) (u0 : Ug) (hf : fM_step x1 x2 x3 x4 x5 u = some (r0, u0)) : CT l D (en_ty K) ad (4) yX8_step cX8_step 7 (some .int) [.ref 0, .int x1, .int x2, .int x3, .int x4, .int x5] (wdM K u) (en_RI (wdM K) r0 u0) := by
  refine CT.of (by decide) [some (.ref 0), some (.int x1), some (.int x2), some (.int x3), some (.int x4), some (.int x5), none] rfl (Nat.le_of_ble_eq_true rfl) ?_
  intro p e R s m args below meth c sz C
  unfold fM_step at hf
  refine g_aload_n_0 C dX8_step_0 ?_
  refine g_iload_n_1 C dX8_step_1 ?_
  refine g_iload_n_2 C dX8_step_2 ?_
  obtain ⟨q1, hq1, hf⟩ := en_bnd hf
  refine gc_X8_145_M_isMember C (ctM_isMember _ _ _ q1.1 q1.2 hq1) (by decide) (Nat.le_of_ble_eq_true rfl) dX8_step_3 ?_
  refine g_if_eq (tgt := 30) C dX8_step_6 (by decide) (fun c2 => ?_) (fun c2 => ?_)
  · rw [if_pos c2] at hf
    refine g_iconst (v := (-1 : Int32)) C dX8_step_30 (by decide) ?_
    exact g_iret C dX8_step_31 (en_finI hf)
  · rw [if_neg c2] at hf
    refine g_iload_n_3 C dX8_step_9 ?_
    refine g_i2l C dX8_step_10 ?_
    refine g_lconst (v := (0 : Int64)) C dX8_step_11 (by decide) ?_
    refine gl_X8_121 C dX8_step_12 ?_
    obtain ⟨q3, hq3, hf⟩ := en_bnd hf
    refine gc_X8_123_M_in C (ctM_in _ _ _ _ q3.1 q3.2 hq3) (by decide) (Nat.le_of_ble_eq_true rfl) dX8_step_15 ?_
    refine g_if_eq (tgt := 30) C dX8_step_18 (by decide) (fun c4 => ?_) (fun c4 => ?_)
    · rw [if_pos c4] at hf
      refine g_iconst (v := (-1 : Int32)) C dX8_step_30 (by decide) ?_
      exact g_iret C dX8_step_31 (en_finI hf)
    · rw [if_neg c4] at hf
      refine g_iload_n_3 C dX8_step_21 ?_
      refine g_iload_4 C dX8_step_22 ?_
      obtain ⟨q5, hq5, hf⟩ := en_bnd hf
      refine gc_X8_149_M_fits C (ctM_fits _ _ _ q5.1 q5.2 hq5) (by decide) (Nat.le_of_ble_eq_true rfl) dX8_step_24 ?_
      refine g_if_ne (tgt := 32) C dX8_step_27 (by decide) (fun c6 => ?_) (fun c6 => ?_)
      · rw [if_neg c6] at hf
        refine g_iconst (v := (3 : Int32)) C dX8_step_32 (by decide) ?_
        refine g_iload_n_1 C dX8_step_33 ?_
        refine g_imul C dX8_step_34 ?_
        refine g_iload_n_2 C dX8_step_35 ?_
        refine g_iadd C dX8_step_36 ?_
        refine g_istore_6 C dX8_step_37 (by decide) rfl ?_
        refine g_aload_n_0 C dX8_step_39 ?_
        refine gf_X8_13 C dX8_step_40 ?_
        refine g_iload_6 C dX8_step_43 ?_
        obtain ⟨y7, hy7, hf⟩ := en_bnd hf
        refine gaM_ld_2 C hy7 dX8_step_45 ?_
        refine g_bipush (v := (8 : Int32)) C dX8_step_46 (by decide) ?_
        refine g_if_icmp_ne (tgt := 54) C dX8_step_48 (by decide) (fun c8 => ?_) (fun c8 => ?_)
        · rw [if_neg c8] at hf
          refine g_aload_n_0 C dX8_step_54 ?_
          refine gf_X8_16 C dX8_step_55 ?_
          refine g_bipush (v := (8 : Int32)) C dX8_step_58 (by decide) ?_
          refine g_iload_6 C dX8_step_60 ?_
          refine g_imul C dX8_step_62 ?_
          refine g_aload_n_0 C dX8_step_63 ?_
          refine gf_X8_13 C dX8_step_64 ?_
          refine g_iload_6 C dX8_step_67 ?_
          obtain ⟨y9, hy9, hf⟩ := en_bnd hf
          refine gaM_ld_2 C hy9 dX8_step_69 ?_
          refine g_iadd C dX8_step_70 ?_
          refine g_iload_n_3 C dX8_step_71 ?_
          obtain ⟨u10, hu10, hf⟩ := en_bnd hf
          refine gaM_st_3 C hu10 dX8_step_72 ?_
          refine g_aload_n_0 C dX8_step_73 ?_
          refine gf_X8_19 C dX8_step_74 ?_
          refine g_bipush (v := (8 : Int32)) C dX8_step_77 (by decide) ?_
          refine g_iload_6 C dX8_step_79 ?_
          refine g_imul C dX8_step_81 ?_
          refine g_aload_n_0 C dX8_step_82 ?_
          refine gf_X8_13 C dX8_step_83 ?_
          refine g_iload_6 C dX8_step_86 ?_
          obtain ⟨y11, hy11, hf⟩ := en_bnd hf
          refine gaM_ld_2 C hy11 dX8_step_88 ?_
          refine g_iadd C dX8_step_89 ?_
          refine g_iload_4 C dX8_step_90 ?_
          obtain ⟨u12, hu12, hf⟩ := en_bnd hf
          refine gaM_st_4 C hu12 dX8_step_92 ?_
          refine g_aload_n_0 C dX8_step_93 ?_
          refine gf_X8_22 C dX8_step_94 ?_
          refine g_bipush (v := (8 : Int32)) C dX8_step_97 (by decide) ?_
          refine g_iload_6 C dX8_step_99 ?_
          refine g_imul C dX8_step_101 ?_
          refine g_aload_n_0 C dX8_step_102 ?_
          refine gf_X8_13 C dX8_step_103 ?_
          refine g_iload_6 C dX8_step_106 ?_
          obtain ⟨y13, hy13, hf⟩ := en_bnd hf
          refine gaM_ld_2 C hy13 dX8_step_108 ?_
          refine g_iadd C dX8_step_109 ?_
          refine g_iload_5 C dX8_step_110 ?_
          obtain ⟨u14, hu14, hf⟩ := en_bnd hf
          refine gaM_st_5 C hu14 dX8_step_112 ?_
          refine g_aload_n_0 C dX8_step_113 ?_
          refine gf_X8_13 C dX8_step_114 ?_
          refine g_iload_6 C dX8_step_117 ?_
          refine g_dup2 C dX8_step_119 rfl rfl ?_
          obtain ⟨y15, hy15, hf⟩ := en_bnd hf
          refine gaM_ld_2 C hy15 dX8_step_120 ?_
          refine g_iconst (v := (1 : Int32)) C dX8_step_121 (by decide) ?_
          refine g_iadd C dX8_step_122 ?_
          obtain ⟨u16, hu16, hf⟩ := en_bnd hf
          refine gaM_st_2 C hu16 dX8_step_123 ?_
          refine g_aload_n_0 C dX8_step_124 ?_
          refine gf_X8_13 C dX8_step_125 ?_
          refine g_iload_6 C dX8_step_128 ?_
          obtain ⟨y17, hy17, hf⟩ := en_bnd hf
          refine gaM_ld_2 C hy17 dX8_step_130 ?_
          exact g_iret C dX8_step_131 (en_finI hf)
        · rw [if_pos c8] at hf
          refine g_bipush (v := (-2 : Int32)) C dX8_step_51 (by decide) ?_
          exact g_iret C dX8_step_53 (en_finI hf)
      · rw [if_pos c6] at hf
        refine g_iconst (v := (-1 : Int32)) C dX8_step_30 (by decide) ?_
        exact g_iret C dX8_step_31 (en_finI hf)
set_option maxHeartbeats 4000000 in
set_option maxRecDepth 100000 in
theorem ctM_bind {l : Launch} {D : va_G} {K : en_K} {ad : Nat → Nat} (x1 : Int32) (x2 : Int32) (x3 : Int32) (u : Ug) (r0 : Int32) (u0 : Ug) (hf : fM_bind x1 x2 x3 u = some (r0, u0)) : CT l D (en_ty K) ad (3) yX8_bind cX8_bind 4 (some .int) [.ref 0, .int x1, .int x2, .int x3] (wdM K u) (en_RI (wdM K) r0 u0) := by
  refine CT.of (by decide) [some (.ref 0), some (.int x1), some (.int x2), some (.int x3)] rfl (Nat.le_of_ble_eq_true rfl) ?_
  intro p e R s m args below meth c sz C
  unfold fM_bind at hf
  refine g_iload_n_1 C dX8_bind_0 ?_
  refine g_i2l C dX8_bind_1 ?_
  refine g_lconst (v := (0 : Int64)) C dX8_bind_2 (by decide) ?_
  refine gl_X8_139 C dX8_bind_3 ?_
  obtain ⟨q1, hq1, hf⟩ := en_bnd hf
  refine gc_X8_123_M_in C (ctM_in _ _ _ _ q1.1 q1.2 hq1) (by decide) (Nat.le_of_ble_eq_true rfl) dX8_bind_6 ?_
  refine g_if_eq (tgt := 26) C dX8_bind_9 (by decide) (fun c2 => ?_) (fun c2 => ?_)
  · rw [if_pos c2] at hf
    refine g_iconst (v := (-1 : Int32)) C dX8_bind_26 (by decide) ?_
    exact g_iret C dX8_bind_27 (en_finI hf)
  · rw [if_neg c2] at hf
    refine g_iload_n_2 C dX8_bind_12 ?_
    refine g_iconst (v := (-1 : Int32)) C dX8_bind_13 (by decide) ?_
    refine g_if_icmp_eq (tgt := 28) C dX8_bind_14 (by decide) (fun c3 => ?_) (fun c3 => ?_)
    · rw [if_pos c3] at hf
      refine g_aload_n_0 C dX8_bind_28 ?_
      refine gf_X8_28 C dX8_bind_29 ?_
      refine g_iload_n_1 C dX8_bind_32 ?_
      refine g_iload_n_2 C dX8_bind_33 ?_
      refine g_if_ge (tgt := 41) C dX8_bind_34 (by decide) (fun c4 => ?_) (fun c4 => ?_)
      · rw [if_pos c4] at hf
        refine g_iconst (v := (3 : Int32)) C dX8_bind_41 (by decide) ?_
        refine g_iload_n_2 C dX8_bind_42 ?_
        refine g_imul C dX8_bind_43 ?_
        refine g_iload_n_3 C dX8_bind_44 ?_
        refine g_iadd C dX8_bind_45 ?_
        obtain ⟨u5, hu5, hf⟩ := en_bnd hf
        refine gaM_st_7 C hu5 dX8_bind_46 ?_
        refine g_iconst (v := (1 : Int32)) C dX8_bind_47 (by decide) ?_
        exact g_iret C dX8_bind_48 (en_finI hf)
      · rw [if_neg c4] at hf
        refine g_iconst (v := (-1 : Int32)) C dX8_bind_37 (by decide) ?_
        refine g_goto (tgt := 46) C dX8_bind_38 (by decide) ?_
        obtain ⟨u6, hu6, hf⟩ := en_bnd hf
        refine gaM_st_7 C hu6 dX8_bind_46 ?_
        refine g_iconst (v := (1 : Int32)) C dX8_bind_47 (by decide) ?_
        exact g_iret C dX8_bind_48 (en_finI hf)
    · rw [if_neg c3] at hf
      refine g_aload_n_0 C dX8_bind_17 ?_
      refine g_iload_n_2 C dX8_bind_18 ?_
      refine g_iload_n_3 C dX8_bind_19 ?_
      obtain ⟨q7, hq7, hf⟩ := en_bnd hf
      refine gc_X8_145_M_isMember C (ctM_isMember _ _ _ q7.1 q7.2 hq7) (by decide) (Nat.le_of_ble_eq_true rfl) dX8_bind_20 ?_
      refine g_if_ne (tgt := 28) C dX8_bind_23 (by decide) (fun c8 => ?_) (fun c8 => ?_)
      · rw [if_neg c8] at hf
        refine g_aload_n_0 C dX8_bind_28 ?_
        refine gf_X8_28 C dX8_bind_29 ?_
        refine g_iload_n_1 C dX8_bind_32 ?_
        refine g_iload_n_2 C dX8_bind_33 ?_
        refine g_if_ge (tgt := 41) C dX8_bind_34 (by decide) (fun c9 => ?_) (fun c9 => ?_)
        · rw [if_pos c9] at hf
          refine g_iconst (v := (3 : Int32)) C dX8_bind_41 (by decide) ?_
          refine g_iload_n_2 C dX8_bind_42 ?_
          refine g_imul C dX8_bind_43 ?_
          refine g_iload_n_3 C dX8_bind_44 ?_
          refine g_iadd C dX8_bind_45 ?_
          obtain ⟨u10, hu10, hf⟩ := en_bnd hf
          refine gaM_st_7 C hu10 dX8_bind_46 ?_
          refine g_iconst (v := (1 : Int32)) C dX8_bind_47 (by decide) ?_
          exact g_iret C dX8_bind_48 (en_finI hf)
        · rw [if_neg c9] at hf
          refine g_iconst (v := (-1 : Int32)) C dX8_bind_37 (by decide) ?_
          refine g_goto (tgt := 46) C dX8_bind_38 (by decide) ?_
          obtain ⟨u11, hu11, hf⟩ := en_bnd hf
          refine gaM_st_7 C hu11 dX8_bind_46 ?_
          refine g_iconst (v := (1 : Int32)) C dX8_bind_47 (by decide) ?_
          exact g_iret C dX8_bind_48 (en_finI hf)
      · rw [if_pos c8] at hf
        refine g_iconst (v := (-1 : Int32)) C dX8_bind_26 (by decide) ?_
        exact g_iret C dX8_bind_27 (en_finI hf)
set_option maxHeartbeats 4000000 in
set_option maxRecDepth 100000 in
theorem ctM_time {l : Launch} {D : va_G} {K : en_K} {ad : Nat → Nat} (x1 : Int32) (u : Ug) (r0 : Int32) (u0 : Ug) (hf : fM_time x1 u = some (r0, u0)) : CT l D (en_ty K) ad (2) yX8_time cX8_time 2 (some .int) [.ref 0, .int x1] (wdM K u) (en_RI (wdM K) r0 u0) := by
  refine CT.of (by decide) [some (.ref 0), some (.int x1)] rfl (Nat.le_of_ble_eq_true rfl) ?_
  intro p e R s m args below meth c sz C
  unfold fM_time at hf
  refine g_iload_n_1 C dX8_time_0 ?_
  refine g_i2l C dX8_time_1 ?_
  refine g_lconst (v := (0 : Int64)) C dX8_time_2 (by decide) ?_
  refine gl_X8_152 C dX8_time_3 ?_
  obtain ⟨q1, hq1, hf⟩ := en_bnd hf
  refine gc_X8_123_M_in C (ctM_in _ _ _ _ q1.1 q1.2 hq1) (by decide) (Nat.le_of_ble_eq_true rfl) dX8_time_6 ?_
  refine g_if_ne (tgt := 14) C dX8_time_9 (by decide) (fun c2 => ?_) (fun c2 => ?_)
  · rw [if_neg c2] at hf
    refine g_aload_n_0 C dX8_time_14 ?_
    refine gf_X8_7 C dX8_time_15 ?_
    refine g_bipush (v := (28 : Int32)) C dX8_time_18 (by decide) ?_
    refine g_dup2 C dX8_time_20 rfl rfl ?_
    obtain ⟨y3, hy3, hf⟩ := en_bnd hf
    refine gaM_ld_1 C hy3 dX8_time_21 ?_
    refine g_iload_n_1 C dX8_time_22 ?_
    refine g_iadd C dX8_time_23 ?_
    obtain ⟨u4, hu4, hf⟩ := en_bnd hf
    refine gaM_st_1 C hu4 dX8_time_24 ?_
    refine g_aload_n_0 C dX8_time_25 ?_
    refine gf_X8_7 C dX8_time_26 ?_
    refine g_bipush (v := (28 : Int32)) C dX8_time_29 (by decide) ?_
    obtain ⟨y5, hy5, hf⟩ := en_bnd hf
    refine gaM_ld_1 C hy5 dX8_time_31 ?_
    exact g_iret C dX8_time_32 (en_finI hf)
  · rw [if_pos c2] at hf
    refine g_iconst (v := (-1 : Int32)) C dX8_time_12 (by decide) ?_
    exact g_iret C dX8_time_13 (en_finI hf)
set_option maxHeartbeats 4000000 in
set_option maxRecDepth 100000 in
theorem ctM_keep {l : Launch} {D : va_G} {K : en_K} {ad : Nat → Nat} (x1 : Int32) (u : Ug) (r0 : Int32) (u0 : Ug) (hf : fM_keep x1 u = some (r0, u0)) : CT l D (en_ty K) ad (1) yX8_keep cX8_keep 3 none [.ref 0, .int x1] (wdM K u) (en_RV (wdM K) u0) := by
  refine CT.of (by decide) [some (.ref 0), some (.int x1), none] rfl (Nat.le_of_ble_eq_true rfl) ?_
  intro p e R s m args below meth c sz C
  have L : ∀ n : Nat, (∀ (v1 : Int32) (v2 : Int32) (w : Ug), (kM_keep n) v1 v2 w = some (r0, u0) → G p l e R s m args below meth c D (va_A (en_ws ad (wdM K u)) sz) 3 ad 0 0 (en_Q below D (en_ty K) ad (wdM K u) sz (en_RV (wdM K) u0) args s) 2 [some (.ref 0), some (.int v1), some (.int v2)] [] (wdM K w)) := by
    intro n
    induction n with
    | zero => exact fun _ _ _ hf => absurd hf (by intro q; cases q)
    | succ n ih =>
      intro v1 v2 u hf
      have hf : sM_keep_2 (kM_keep n) v1 v2 u = some (r0, u0) := hf
      unfold sM_keep_2 at hf
      refine g_iload_n_2 C dX8_keep_2 ?_
      refine g_bipush (v := (70 : Int32)) C dX8_keep_3 (by decide) ?_
      refine g_if_icmp_ge (tgt := 31) C dX8_keep_5 (by decide) (fun c1 => ?_) (fun c1 => ?_)
      · rw [if_pos c1] at hf
        exact g_vret C dX8_keep_31 (en_finV hf)
      · rw [if_neg c1] at hf
        refine g_aload_n_0 C dX8_keep_8 ?_
        refine gf_X8_65 C dX8_keep_9 ?_
        refine g_bipush (v := (70 : Int32)) C dX8_keep_12 (by decide) ?_
        refine g_iload_n_1 C dX8_keep_14 ?_
        refine g_imul C dX8_keep_15 ?_
        refine g_iload_n_2 C dX8_keep_16 ?_
        refine g_iadd C dX8_keep_17 ?_
        refine g_aload_n_0 C dX8_keep_18 ?_
        refine gf_X8_7 C dX8_keep_19 ?_
        refine g_iload_n_2 C dX8_keep_22 ?_
        obtain ⟨y2, hy2, hf⟩ := en_bnd hf
        refine gaM_ld_1 C hy2 dX8_keep_23 ?_
        obtain ⟨u3, hu3, hf⟩ := en_bnd hf
        refine gaM_st_19 C hu3 dX8_keep_24 ?_
        refine g_iinc_2 (z := (1 : Int32)) C dX8_keep_25 (by decide) (by decide) rfl ?_
        refine g_goto (tgt := 2) C dX8_keep_28 (by decide) ?_
        exact g_weak (ih _ _ _ hf) (And.intro rfl (And.intro rfl (And.intro rfl trivial)))
  unfold fM_keep at hf
  refine g_iconst (v := (0 : Int32)) C dX8_keep_0 (by decide) ?_
  refine g_istore_n_2 C dX8_keep_1 (by decide) rfl ?_
  exact g_weak ((L _) _ _ _ hf) (And.intro rfl (And.intro rfl (And.intro rfl trivial)))
set_option maxHeartbeats 4000000 in
set_option maxRecDepth 100000 in
theorem ctM_pay {l : Launch} {D : va_G} {K : en_K} {ad : Nat → Nat} (x1 : Int32) (x2 : Int32) (x3 : Int32) (u : Ug) (r0 : Int32) (u0 : Ug) (hf : fM_pay x1 x2 x3 u = some (r0, u0)) : CT l D (en_ty K) ad (1) yX8_pay cX8_pay 4 (some .int) [.ref 0, .int x1, .int x2, .int x3] (wdM K u) (en_RI (wdM K) r0 u0) := by
  refine CT.of (by decide) [some (.ref 0), some (.int x1), some (.int x2), some (.int x3)] rfl (Nat.le_of_ble_eq_true rfl) ?_
  intro p e R s m args below meth c sz C
  unfold fM_pay at hf
  refine g_iload_n_3 C dX8_pay_0 ?_
  refine g_if_lt (tgt := 14) C dX8_pay_1 (by decide) (fun c1 => ?_) (fun c1 => ?_)
  · rw [if_pos c1] at hf
    refine g_iconst (v := (1 : Int32)) C dX8_pay_14 (by decide) ?_
    exact g_iret C dX8_pay_15 (en_finI hf)
  · rw [if_neg c1] at hf
    refine g_iload_n_3 C dX8_pay_4 ?_
    refine g_aload_n_0 C dX8_pay_5 ?_
    refine gf_X8_7 C dX8_pay_6 ?_
    refine g_iload_n_1 C dX8_pay_9 ?_
    obtain ⟨y2, hy2, hf⟩ := en_bnd hf
    refine gaM_ld_1 C hy2 dX8_pay_10 ?_
    refine g_if_icmp_le (tgt := 16) C dX8_pay_11 (by decide) (fun c3 => ?_) (fun c3 => ?_)
    · rw [if_pos c3] at hf
      refine g_iload_n_1 C dX8_pay_16 ?_
      refine g_iload_n_2 C dX8_pay_17 ?_
      refine g_if_icmp_eq (tgt := 60) C dX8_pay_18 (by decide) (fun c4 => ?_) (fun c4 => ?_)
      · rw [if_pos c4] at hf
        refine g_iconst (v := (0 : Int32)) C dX8_pay_60 (by decide) ?_
        exact g_iret C dX8_pay_61 (en_finI hf)
      · rw [if_neg c4] at hf
        refine g_aload_n_0 C dX8_pay_21 ?_
        refine gf_X8_7 C dX8_pay_22 ?_
        refine g_iload_n_2 C dX8_pay_25 ?_
        obtain ⟨y5, hy5, hf⟩ := en_bnd hf
        refine gaM_ld_1 C hy5 dX8_pay_26 ?_
        refine g_i2l C dX8_pay_27 ?_
        refine g_iload_n_3 C dX8_pay_28 ?_
        refine g_i2l C dX8_pay_29 ?_
        refine g_ladd C dX8_pay_30 ?_
        refine gl_X8_137 C dX8_pay_31 ?_
        refine g_lcmp C dX8_pay_34 ?_
        refine g_if_le (tgt := 40) C dX8_pay_35 (by decide) (fun c6 => ?_) (fun c6 => ?_)
        · rw [if_pos c6] at hf
          refine g_aload_n_0 C dX8_pay_40 ?_
          refine gf_X8_7 C dX8_pay_41 ?_
          refine g_iload_n_1 C dX8_pay_44 ?_
          refine g_dup2 C dX8_pay_45 rfl rfl ?_
          obtain ⟨y7, hy7, hf⟩ := en_bnd hf
          refine gaM_ld_1 C hy7 dX8_pay_46 ?_
          refine g_iload_n_3 C dX8_pay_47 ?_
          refine g_isub C dX8_pay_48 ?_
          obtain ⟨u8, hu8, hf⟩ := en_bnd hf
          refine gaM_st_1 C hu8 dX8_pay_49 ?_
          refine g_aload_n_0 C dX8_pay_50 ?_
          refine gf_X8_7 C dX8_pay_51 ?_
          refine g_iload_n_2 C dX8_pay_54 ?_
          refine g_dup2 C dX8_pay_55 rfl rfl ?_
          obtain ⟨y9, hy9, hf⟩ := en_bnd hf
          refine gaM_ld_1 C hy9 dX8_pay_56 ?_
          refine g_iload_n_3 C dX8_pay_57 ?_
          refine g_iadd C dX8_pay_58 ?_
          obtain ⟨u10, hu10, hf⟩ := en_bnd hf
          refine gaM_st_1 C hu10 dX8_pay_59 ?_
          refine g_iconst (v := (0 : Int32)) C dX8_pay_60 (by decide) ?_
          exact g_iret C dX8_pay_61 (en_finI hf)
        · rw [if_neg c6] at hf
          refine g_iconst (v := (2 : Int32)) C dX8_pay_38 (by decide) ?_
          exact g_iret C dX8_pay_39 (en_finI hf)
    · rw [if_neg c3] at hf
      refine g_iconst (v := (1 : Int32)) C dX8_pay_14 (by decide) ?_
      exact g_iret C dX8_pay_15 (en_finI hf)
set_option maxHeartbeats 4000000 in
set_option maxRecDepth 100000 in
theorem ctM_enter {l : Launch} {D : va_G} {K : en_K} {ad : Nat → Nat} (x1 : Int32) (x2 : Int32) (u : Ug) (r0 : Int32) (u0 : Ug) (hf : fM_enter x1 x2 u = some (r0, u0)) : CT l D (en_ty K) ad (1) yX8_enter cX8_enter 3 none [.ref 0, .int x1, .int x2] (wdM K u) (en_RV (wdM K) u0) := by
  refine CT.of (by decide) [some (.ref 0), some (.int x1), some (.int x2)] rfl (Nat.le_of_ble_eq_true rfl) ?_
  intro p e R s m args below meth c sz C
  unfold fM_enter at hf
  refine g_aload_n_0 C dX8_enter_0 ?_
  refine gf_X8_50 C dX8_enter_1 ?_
  refine g_aload_n_0 C dX8_enter_4 ?_
  refine gf_X8_154 C dX8_enter_5 ?_
  refine g_iload_n_1 C dX8_enter_8 ?_
  obtain ⟨u1, hu1, hf⟩ := en_bnd hf
  refine gaM_st_14 C hu1 dX8_enter_9 ?_
  refine g_aload_n_0 C dX8_enter_10 ?_
  refine gf_X8_53 C dX8_enter_11 ?_
  refine g_aload_n_0 C dX8_enter_14 ?_
  refine gf_X8_154 C dX8_enter_15 ?_
  refine g_iload_n_2 C dX8_enter_18 ?_
  obtain ⟨u2, hu2, hf⟩ := en_bnd hf
  refine gaM_st_15 C hu2 dX8_enter_19 ?_
  refine g_aload_n_0 C dX8_enter_20 ?_
  refine gf_X8_56 C dX8_enter_21 ?_
  refine g_aload_n_0 C dX8_enter_24 ?_
  refine gf_X8_154 C dX8_enter_25 ?_
  refine g_iconst (v := (0 : Int32)) C dX8_enter_28 (by decide) ?_
  obtain ⟨u3, hu3, hf⟩ := en_bnd hf
  refine gaM_st_16 C hu3 dX8_enter_29 ?_
  refine g_aload_n_0 C dX8_enter_30 ?_
  refine gf_X8_59 C dX8_enter_31 ?_
  refine g_aload_n_0 C dX8_enter_34 ?_
  refine gf_X8_154 C dX8_enter_35 ?_
  refine g_iconst (v := (0 : Int32)) C dX8_enter_38 (by decide) ?_
  obtain ⟨u4, hu4, hf⟩ := en_bnd hf
  refine gaM_st_17 C hu4 dX8_enter_39 ?_
  refine g_aload_n_0 C dX8_enter_40 ?_
  refine g_dup C dX8_enter_41 rfl ?_
  refine gf_X8_154 C dX8_enter_42 ?_
  refine g_iconst (v := (1 : Int32)) C dX8_enter_45 (by decide) ?_
  refine g_iadd C dX8_enter_46 ?_
  obtain ⟨u5, hu5, hf⟩ := en_bnd hf
  refine gp_X8_154 C hu5 dX8_enter_47 ?_
  exact g_vret C dX8_enter_50 (en_finV hf)
set_option maxHeartbeats 4000000 in
set_option maxRecDepth 100000 in
theorem ctM_restore {l : Launch} {D : va_G} {K : en_K} {ad : Nat → Nat} (x1 : Int32) (u : Ug) (r0 : Int32) (u0 : Ug) (hf : fM_restore x1 u = some (r0, u0)) : CT l D (en_ty K) ad (1) yX8_restore cX8_restore 3 none [.ref 0, .int x1] (wdM K u) (en_RV (wdM K) u0) := by
  refine CT.of (by decide) [some (.ref 0), some (.int x1), none] rfl (Nat.le_of_ble_eq_true rfl) ?_
  intro p e R s m args below meth c sz C
  have L : ∀ n : Nat, (∀ (v1 : Int32) (v2 : Int32) (w : Ug), (kM_restore n) v1 v2 w = some (r0, u0) → G p l e R s m args below meth c D (va_A (en_ws ad (wdM K u)) sz) 3 ad 0 0 (en_Q below D (en_ty K) ad (wdM K u) sz (en_RV (wdM K) u0) args s) 2 [some (.ref 0), some (.int v1), some (.int v2)] [] (wdM K w)) := by
    intro n
    induction n with
    | zero => exact fun _ _ _ hf => absurd hf (by intro q; cases q)
    | succ n ih =>
      intro v1 v2 u hf
      have hf : sM_restore_2 (kM_restore n) v1 v2 u = some (r0, u0) := hf
      unfold sM_restore_2 at hf
      refine g_iload_n_2 C dX8_restore_2 ?_
      refine g_bipush (v := (70 : Int32)) C dX8_restore_3 (by decide) ?_
      refine g_if_icmp_ge (tgt := 31) C dX8_restore_5 (by decide) (fun c1 => ?_) (fun c1 => ?_)
      · rw [if_pos c1] at hf
        exact g_vret C dX8_restore_31 (en_finV hf)
      · rw [if_neg c1] at hf
        refine g_aload_n_0 C dX8_restore_8 ?_
        refine gf_X8_7 C dX8_restore_9 ?_
        refine g_iload_n_2 C dX8_restore_12 ?_
        refine g_aload_n_0 C dX8_restore_13 ?_
        refine gf_X8_65 C dX8_restore_14 ?_
        refine g_bipush (v := (70 : Int32)) C dX8_restore_17 (by decide) ?_
        refine g_iload_n_1 C dX8_restore_19 ?_
        refine g_imul C dX8_restore_20 ?_
        refine g_iload_n_2 C dX8_restore_21 ?_
        refine g_iadd C dX8_restore_22 ?_
        obtain ⟨y2, hy2, hf⟩ := en_bnd hf
        refine gaM_ld_19 C hy2 dX8_restore_23 ?_
        obtain ⟨u3, hu3, hf⟩ := en_bnd hf
        refine gaM_st_1 C hu3 dX8_restore_24 ?_
        refine g_iinc_2 (z := (1 : Int32)) C dX8_restore_25 (by decide) (by decide) rfl ?_
        refine g_goto (tgt := 2) C dX8_restore_28 (by decide) ?_
        exact g_weak (ih _ _ _ hf) (And.intro rfl (And.intro rfl (And.intro rfl trivial)))
  unfold fM_restore at hf
  refine g_iconst (v := (0 : Int32)) C dX8_restore_0 (by decide) ?_
  refine g_istore_n_2 C dX8_restore_1 (by decide) rfl ?_
  exact g_weak ((L _) _ _ _ hf) (And.intro rfl (And.intro rfl (And.intro rfl trivial)))
set_option maxHeartbeats 4000000 in
set_option maxRecDepth 100000 in
theorem ctM_raise {l : Launch} {D : va_G} {K : en_K} {ad : Nat → Nat} (x1 : Int32) (x2 : Int32) (u : Ug) (r0 : Int32) (u0 : Ug) (hf : fM_raise x1 x2 u = some (r0, u0)) : CT l D (en_ty K) ad (2) yX8_raise cX8_raise 6 none [.ref 0, .int x1, .int x2] (wdM K u) (en_RV (wdM K) u0) := by
  refine CT.of (by decide) [some (.ref 0), some (.int x1), some (.int x2), none, none, none] rfl (Nat.le_of_ble_eq_true rfl) ?_
  intro p e R s m args below meth c sz C
  have L : ∀ n : Nat, (∀ (v1 : Int32) (v2 : Int32) (v3 : Int32) (v4 : Int32) (w : Ug), (kM_raise n) v1 v2 v3 v4 w = some (r0, u0) → G p l e R s m args below meth c D (va_A (en_ws ad (wdM K u)) sz) 6 ad 0 0 (en_Q below D (en_ty K) ad (wdM K u) sz (en_RV (wdM K) u0) args s) 5 [some (.ref 0), some (.int v1), some (.int v2), some (.int v3), some (.int v4), none] [] (wdM K w)) := by
    intro n
    induction n with
    | zero => exact fun _ _ _ _ _ hf => absurd hf (by intro q; cases q)
    | succ n ih =>
      intro v1 v2 v3 v4 u hf
      have hf : sM_raise_5 (kM_raise n) v1 v2 v3 v4 u = some (r0, u0) := hf
      unfold sM_raise_5 at hf
      refine g_aload_n_0 C dX8_raise_5 ?_
      refine gf_X8_154 C dX8_raise_6 ?_
      refine g_if_le (tgt := 141) C dX8_raise_9 (by decide) (fun c1 => ?_) (fun c1 => ?_)
      · rw [if_pos c1] at hf
        refine g_aload_n_0 C dX8_raise_141 ?_
        refine g_iload_n_3 C dX8_raise_142 ?_
        obtain ⟨u2, hu2, hf⟩ := en_bnd hf
        refine gp_X8_161 C hu2 dX8_raise_143 ?_
        refine g_aload_n_0 C dX8_raise_146 ?_
        refine g_iload_4 C dX8_raise_147 ?_
        obtain ⟨u3, hu3, hf⟩ := en_bnd hf
        refine gp_X8_164 C hu3 dX8_raise_149 ?_
        refine g_aload_n_0 C dX8_raise_152 ?_
        refine g_iconst (v := (1 : Int32)) C dX8_raise_153 (by decide) ?_
        obtain ⟨u4, hu4, hf⟩ := en_bnd hf
        refine gp_X8_167 C hu4 dX8_raise_154 ?_
        exact g_vret C dX8_raise_157 (en_finV hf)
      · rw [if_neg c1] at hf
        refine g_aload_n_0 C dX8_raise_12 ?_
        refine gf_X8_154 C dX8_raise_13 ?_
        refine g_iconst (v := (1 : Int32)) C dX8_raise_16 (by decide) ?_
        refine g_isub C dX8_raise_17 ?_
        refine g_istore_5 C dX8_raise_18 (by decide) rfl ?_
        refine g_iload_n_3 C dX8_raise_20 ?_
        refine g_bipush (v := (7 : Int32)) C dX8_raise_21 (by decide) ?_
        refine g_if_icmp_eq (tgt := 100) C dX8_raise_23 (by decide) (fun c5 => ?_) (fun c5 => ?_)
        · rw [if_pos c5] at hf
          refine g_aload_n_0 C dX8_raise_100 ?_
          refine g_bipush (v := (10 : Int32)) C dX8_raise_101 (by decide) ?_
          refine g_iload_5 C dX8_raise_103 ?_
          refine g_imul C dX8_raise_105 ?_
          obtain ⟨q6, hq6, hf⟩ := en_bnd hf
          refine gc_X8_157_M_restore C (ctM_restore _ _ q6.1 q6.2 hq6) (by decide) (Nat.le_of_ble_eq_true rfl) dX8_raise_106 ?_
          refine g_aload_n_0 C dX8_raise_109 ?_
          refine g_dup C dX8_raise_110 rfl ?_
          refine gf_X8_154 C dX8_raise_111 ?_
          refine g_iconst (v := (1 : Int32)) C dX8_raise_114 (by decide) ?_
          refine g_isub C dX8_raise_115 ?_
          obtain ⟨u7, hu7, hf⟩ := en_bnd hf
          refine gp_X8_154 C hu7 dX8_raise_116 ?_
          refine g_iload_n_3 C dX8_raise_119 ?_
          refine g_bipush (v := (7 : Int32)) C dX8_raise_120 (by decide) ?_
          refine g_if_icmp_eq (tgt := 132) C dX8_raise_122 (by decide) (fun c8 => ?_) (fun c8 => ?_)
          · rw [if_pos c8] at hf
            refine g_iload_n_3 C dX8_raise_132 ?_
            refine g_goto (tgt := 137) C dX8_raise_133 (by decide) ?_
            refine g_istore_n_3 C dX8_raise_137 (by decide) rfl ?_
            refine g_goto (tgt := 5) C dX8_raise_138 (by decide) ?_
            exact g_weak (ih _ _ _ _ _ hf) (And.intro rfl (And.intro rfl (And.intro rfl (And.intro rfl (And.intro rfl trivial)))))
          · rw [if_neg c8] at hf
            refine g_aload_n_0 C dX8_raise_125 ?_
            refine gf_X8_154 C dX8_raise_126 ?_
            refine g_if_ne (tgt := 136) C dX8_raise_129 (by decide) (fun c9 => ?_) (fun c9 => ?_)
            · rw [if_neg c9] at hf
              refine g_iconst (v := (5 : Int32)) C dX8_raise_136 (by decide) ?_
              refine g_istore_n_3 C dX8_raise_137 (by decide) rfl ?_
              refine g_goto (tgt := 5) C dX8_raise_138 (by decide) ?_
              exact g_weak (ih _ _ _ _ _ hf) (And.intro rfl (And.intro rfl (And.intro rfl (And.intro rfl (And.intro rfl trivial)))))
            · rw [if_pos c9] at hf
              refine g_iload_n_3 C dX8_raise_132 ?_
              refine g_goto (tgt := 137) C dX8_raise_133 (by decide) ?_
              refine g_istore_n_3 C dX8_raise_137 (by decide) rfl ?_
              refine g_goto (tgt := 5) C dX8_raise_138 (by decide) ?_
              exact g_weak (ih _ _ _ _ _ hf) (And.intro rfl (And.intro rfl (And.intro rfl (And.intro rfl (And.intro rfl trivial)))))
        · rw [if_neg c5] at hf
          refine g_aload_n_0 C dX8_raise_26 ?_
          refine gf_X8_59 C dX8_raise_27 ?_
          refine g_iload_5 C dX8_raise_30 ?_
          obtain ⟨y10, hy10, hf⟩ := en_bnd hf
          refine gaM_ld_17 C hy10 dX8_raise_32 ?_
          refine g_if_le (tgt := 100) C dX8_raise_33 (by decide) (fun c11 => ?_) (fun c11 => ?_)
          · rw [if_pos c11] at hf
            refine g_aload_n_0 C dX8_raise_100 ?_
            refine g_bipush (v := (10 : Int32)) C dX8_raise_101 (by decide) ?_
            refine g_iload_5 C dX8_raise_103 ?_
            refine g_imul C dX8_raise_105 ?_
            obtain ⟨q12, hq12, hf⟩ := en_bnd hf
            refine gc_X8_157_M_restore C (ctM_restore _ _ q12.1 q12.2 hq12) (by decide) (Nat.le_of_ble_eq_true rfl) dX8_raise_106 ?_
            refine g_aload_n_0 C dX8_raise_109 ?_
            refine g_dup C dX8_raise_110 rfl ?_
            refine gf_X8_154 C dX8_raise_111 ?_
            refine g_iconst (v := (1 : Int32)) C dX8_raise_114 (by decide) ?_
            refine g_isub C dX8_raise_115 ?_
            obtain ⟨u13, hu13, hf⟩ := en_bnd hf
            refine gp_X8_154 C hu13 dX8_raise_116 ?_
            refine g_iload_n_3 C dX8_raise_119 ?_
            refine g_bipush (v := (7 : Int32)) C dX8_raise_120 (by decide) ?_
            refine g_if_icmp_eq (tgt := 132) C dX8_raise_122 (by decide) (fun c14 => ?_) (fun c14 => ?_)
            · rw [if_pos c14] at hf
              refine g_iload_n_3 C dX8_raise_132 ?_
              refine g_goto (tgt := 137) C dX8_raise_133 (by decide) ?_
              refine g_istore_n_3 C dX8_raise_137 (by decide) rfl ?_
              refine g_goto (tgt := 5) C dX8_raise_138 (by decide) ?_
              exact g_weak (ih _ _ _ _ _ hf) (And.intro rfl (And.intro rfl (And.intro rfl (And.intro rfl (And.intro rfl trivial)))))
            · rw [if_neg c14] at hf
              refine g_aload_n_0 C dX8_raise_125 ?_
              refine gf_X8_154 C dX8_raise_126 ?_
              refine g_if_ne (tgt := 136) C dX8_raise_129 (by decide) (fun c15 => ?_) (fun c15 => ?_)
              · rw [if_neg c15] at hf
                refine g_iconst (v := (5 : Int32)) C dX8_raise_136 (by decide) ?_
                refine g_istore_n_3 C dX8_raise_137 (by decide) rfl ?_
                refine g_goto (tgt := 5) C dX8_raise_138 (by decide) ?_
                exact g_weak (ih _ _ _ _ _ hf) (And.intro rfl (And.intro rfl (And.intro rfl (And.intro rfl (And.intro rfl trivial)))))
              · rw [if_pos c15] at hf
                refine g_iload_n_3 C dX8_raise_132 ?_
                refine g_goto (tgt := 137) C dX8_raise_133 (by decide) ?_
                refine g_istore_n_3 C dX8_raise_137 (by decide) rfl ?_
                refine g_goto (tgt := 5) C dX8_raise_138 (by decide) ?_
                exact g_weak (ih _ _ _ _ _ hf) (And.intro rfl (And.intro rfl (And.intro rfl (And.intro rfl (And.intro rfl trivial)))))
          · rw [if_neg c11] at hf
            refine g_aload_n_0 C dX8_raise_36 ?_
            refine gf_X8_59 C dX8_raise_37 ?_
            refine g_iload_5 C dX8_raise_40 ?_
            refine g_dup2 C dX8_raise_42 rfl rfl ?_
            obtain ⟨y16, hy16, hf⟩ := en_bnd hf
            refine gaM_ld_17 C hy16 dX8_raise_43 ?_
            refine g_iconst (v := (1 : Int32)) C dX8_raise_44 (by decide) ?_
            refine g_isub C dX8_raise_45 ?_
            obtain ⟨u17, hu17, hf⟩ := en_bnd hf
            refine gaM_st_17 C hu17 dX8_raise_46 ?_
            refine g_aload_n_0 C dX8_raise_47 ?_
            refine g_bipush (v := (10 : Int32)) C dX8_raise_48 (by decide) ?_
            refine g_iload_5 C dX8_raise_50 ?_
            refine g_imul C dX8_raise_52 ?_
            refine g_iconst (v := (1 : Int32)) C dX8_raise_53 (by decide) ?_
            refine g_iadd C dX8_raise_54 ?_
            refine g_aload_n_0 C dX8_raise_55 ?_
            refine gf_X8_59 C dX8_raise_56 ?_
            refine g_iload_5 C dX8_raise_59 ?_
            obtain ⟨y18, hy18, hf⟩ := en_bnd hf
            refine gaM_ld_17 C hy18 dX8_raise_61 ?_
            refine g_iadd C dX8_raise_62 ?_
            obtain ⟨q19, hq19, hf⟩ := en_bnd hf
            refine gc_X8_157_M_restore C (ctM_restore _ _ q19.1 q19.2 hq19) (by decide) (Nat.le_of_ble_eq_true rfl) dX8_raise_63 ?_
            refine g_aload_n_0 C dX8_raise_66 ?_
            refine gf_X8_53 C dX8_raise_67 ?_
            refine g_iload_5 C dX8_raise_70 ?_
            refine g_iload_n_3 C dX8_raise_72 ?_
            obtain ⟨u20, hu20, hf⟩ := en_bnd hf
            refine gaM_st_15 C hu20 dX8_raise_73 ?_
            refine g_aload_n_0 C dX8_raise_74 ?_
            refine gf_X8_56 C dX8_raise_75 ?_
            refine g_iload_5 C dX8_raise_78 ?_
            refine g_aload_n_0 C dX8_raise_80 ?_
            refine gf_X8_62 C dX8_raise_81 ?_
            refine g_bipush (v := (10 : Int32)) C dX8_raise_84 (by decide) ?_
            refine g_iload_5 C dX8_raise_86 ?_
            refine g_imul C dX8_raise_88 ?_
            refine g_aload_n_0 C dX8_raise_89 ?_
            refine gf_X8_59 C dX8_raise_90 ?_
            refine g_iload_5 C dX8_raise_93 ?_
            obtain ⟨y21, hy21, hf⟩ := en_bnd hf
            refine gaM_ld_17 C hy21 dX8_raise_95 ?_
            refine g_iadd C dX8_raise_96 ?_
            obtain ⟨y22, hy22, hf⟩ := en_bnd hf
            refine gaM_ld_18 C hy22 dX8_raise_97 ?_
            obtain ⟨u23, hu23, hf⟩ := en_bnd hf
            refine gaM_st_16 C hu23 dX8_raise_98 ?_
            exact g_vret C dX8_raise_99 (en_finV hf)
  unfold fM_raise at hf
  refine g_iload_n_1 C dX8_raise_0 ?_
  refine g_istore_n_3 C dX8_raise_1 (by decide) rfl ?_
  refine g_iload_n_2 C dX8_raise_2 ?_
  refine g_istore_4 C dX8_raise_3 (by decide) rfl ?_
  exact g_weak ((L _) _ _ _ _ _ hf) (And.intro rfl (And.intro rfl (And.intro rfl (And.intro rfl (And.intro rfl trivial)))))
set_option maxHeartbeats 4000000 in
set_option maxRecDepth 100000 in
theorem ctM_end {l : Launch} {D : va_G} {K : en_K} {ad : Nat → Nat} (x1 : Int32) (u : Ug) (r0 : Int32) (u0 : Ug) (hf : fM_end x1 u = some (r0, u0)) : CT l D (en_ty K) ad (1) yX8_end cX8_end 2 (some .int) [.ref 0, .int x1] (wdM K u) (en_RI (wdM K) r0 u0) := by
  refine CT.of (by decide) [some (.ref 0), some (.int x1)] rfl (Nat.le_of_ble_eq_true rfl) ?_
  intro p e R s m args below meth c sz C
  unfold fM_end at hf
  refine g_aload_n_0 C dX8_end_0 ?_
  refine gf_X8_59 C dX8_end_1 ?_
  refine g_iload_n_1 C dX8_end_4 ?_
  obtain ⟨y1, hy1, hf⟩ := en_bnd hf
  refine gaM_ld_17 C hy1 dX8_end_5 ?_
  refine g_if_le (tgt := 30) C dX8_end_6 (by decide) (fun c2 => ?_) (fun c2 => ?_)
  · rw [if_pos c2] at hf
    refine g_aload_n_0 C dX8_end_30 ?_
    refine gf_X8_13 C dX8_end_31 ?_
    refine g_aload_n_0 C dX8_end_34 ?_
    refine gf_X8_50 C dX8_end_35 ?_
    refine g_iload_n_1 C dX8_end_38 ?_
    obtain ⟨y3, hy3, hf⟩ := en_bnd hf
    refine gaM_ld_14 C hy3 dX8_end_39 ?_
    obtain ⟨y4, hy4, hf⟩ := en_bnd hf
    refine gaM_ld_2 C hy4 dX8_end_40 ?_
    exact g_iret C dX8_end_41 (en_finI hf)
  · rw [if_neg c2] at hf
    refine g_aload_n_0 C dX8_end_9 ?_
    refine gf_X8_62 C dX8_end_10 ?_
    refine g_bipush (v := (10 : Int32)) C dX8_end_13 (by decide) ?_
    refine g_iload_n_1 C dX8_end_15 ?_
    refine g_imul C dX8_end_16 ?_
    refine g_aload_n_0 C dX8_end_17 ?_
    refine gf_X8_59 C dX8_end_18 ?_
    refine g_iload_n_1 C dX8_end_21 ?_
    obtain ⟨y5, hy5, hf⟩ := en_bnd hf
    refine gaM_ld_17 C hy5 dX8_end_22 ?_
    refine g_iadd C dX8_end_23 ?_
    refine g_iconst (v := (1 : Int32)) C dX8_end_24 (by decide) ?_
    refine g_isub C dX8_end_25 ?_
    obtain ⟨y6, hy6, hf⟩ := en_bnd hf
    refine gaM_ld_18 C hy6 dX8_end_26 ?_
    refine g_goto (tgt := 41) C dX8_end_27 (by decide) ?_
    exact g_iret C dX8_end_41 (en_finI hf)
set_option maxHeartbeats 4000000 in
set_option maxRecDepth 100000 in
theorem ctM_pass {l : Launch} {D : va_G} {K : en_K} {ad : Nat → Nat} (x1 : Int32) (x2 : Int32) (x3 : Int32) (x4 : Int32) (u : Ug) (r0 : Int32) (u0 : Ug) (hf : fM_pass x1 x2 x3 x4 u = some (r0, u0)) : CT l D (en_ty K) ad (2) yX8_pass cX8_pass 6 none [.ref 0, .int x1, .int x2, .int x3, .int x4] (wdM K u) (en_RV (wdM K) u0) := by
  refine CT.of (by decide) [some (.ref 0), some (.int x1), some (.int x2), some (.int x3), some (.int x4), none] rfl (Nat.le_of_ble_eq_true rfl) ?_
  intro p e R s m args below meth c sz C
  unfold fM_pass at hf
  refine g_aload_n_0 C dX8_pass_0 ?_
  refine gf_X8_25 C dX8_pass_1 ?_
  refine g_aload_n_0 C dX8_pass_4 ?_
  refine gf_X8_50 C dX8_pass_5 ?_
  refine g_iload_n_1 C dX8_pass_8 ?_
  obtain ⟨y1, hy1, hf⟩ := en_bnd hf
  refine gaM_ld_14 C hy1 dX8_pass_9 ?_
  refine g_dup2 C dX8_pass_10 rfl rfl ?_
  obtain ⟨y2, hy2, hf⟩ := en_bnd hf
  refine gaM_ld_6 C hy2 dX8_pass_11 ?_
  refine g_iconst (v := (1 : Int32)) C dX8_pass_12 (by decide) ?_
  refine g_iload_n_2 C dX8_pass_13 ?_
  refine g_iload_n_3 C dX8_pass_14 ?_
  refine g_if_eq (tgt := 23) C dX8_pass_15 (by decide) (fun c3 => ?_) (fun c3 => ?_)
  · rw [if_pos c3] at hf
    refine g_bipush (v := (16 : Int32)) C dX8_pass_23 (by decide) ?_
    refine g_iadd C dX8_pass_25 ?_
    refine g_ishl C dX8_pass_26 ?_
    refine g_ior C dX8_pass_27 ?_
    obtain ⟨u4, hu4, hf⟩ := en_bnd hf
    refine gaM_st_6 C hu4 dX8_pass_28 ?_
    refine g_aload_n_0 C dX8_pass_29 ?_
    refine gf_X8_56 C dX8_pass_30 ?_
    refine g_iload_n_1 C dX8_pass_33 ?_
    obtain ⟨y5, hy5, hf⟩ := en_bnd hf
    refine gaM_ld_16 C hy5 dX8_pass_34 ?_
    refine g_iload_4 C dX8_pass_35 ?_
    refine g_iadd C dX8_pass_37 ?_
    refine g_istore_5 C dX8_pass_38 (by decide) rfl ?_
    refine g_aload_n_0 C dX8_pass_40 ?_
    refine gf_X8_56 C dX8_pass_41 ?_
    refine g_iload_n_1 C dX8_pass_44 ?_
    refine g_iload_n_3 C dX8_pass_45 ?_
    refine g_if_eq (tgt := 72) C dX8_pass_46 (by decide) (fun c6 => ?_) (fun c6 => ?_)
    · rw [if_pos c6] at hf
      refine g_aload_n_0 C dX8_pass_72 ?_
      refine gf_X8_56 C dX8_pass_73 ?_
      refine g_iload_n_1 C dX8_pass_76 ?_
      obtain ⟨y7, hy7, hf⟩ := en_bnd hf
      refine gaM_ld_16 C hy7 dX8_pass_77 ?_
      obtain ⟨u8, hu8, hf⟩ := en_bnd hf
      refine gaM_st_16 C hu8 dX8_pass_78 ?_
      exact g_vret C dX8_pass_79 (en_finV hf)
    · rw [if_neg c6] at hf
      refine g_iload_5 C dX8_pass_49 ?_
      refine g_aload_n_0 C dX8_pass_51 ?_
      refine g_iload_n_1 C dX8_pass_52 ?_
      obtain ⟨q9, hq9, hf⟩ := en_bnd hf
      refine gc_X8_171_M_end C (ctM_end _ _ q9.1 q9.2 hq9) (by decide) (Nat.le_of_ble_eq_true rfl) dX8_pass_53 ?_
      refine g_if_icmp_ge (tgt := 64) C dX8_pass_56 (by decide) (fun c10 => ?_) (fun c10 => ?_)
      · rw [if_pos c10] at hf
        refine g_aload_n_0 C dX8_pass_64 ?_
        refine g_iload_n_1 C dX8_pass_65 ?_
        obtain ⟨q11, hq11, hf⟩ := en_bnd hf
        refine gc_X8_171_M_end C (ctM_end _ _ q11.1 q11.2 hq11) (by decide) (Nat.le_of_ble_eq_true rfl) dX8_pass_66 ?_
        refine g_goto (tgt := 78) C dX8_pass_69 (by decide) ?_
        obtain ⟨u12, hu12, hf⟩ := en_bnd hf
        refine gaM_st_16 C hu12 dX8_pass_78 ?_
        exact g_vret C dX8_pass_79 (en_finV hf)
      · rw [if_neg c10] at hf
        refine g_iload_5 C dX8_pass_59 ?_
        refine g_goto (tgt := 78) C dX8_pass_61 (by decide) ?_
        obtain ⟨u13, hu13, hf⟩ := en_bnd hf
        refine gaM_st_16 C hu13 dX8_pass_78 ?_
        exact g_vret C dX8_pass_79 (en_finV hf)
  · rw [if_neg c3] at hf
    refine g_bipush (v := (8 : Int32)) C dX8_pass_18 (by decide) ?_
    refine g_goto (tgt := 25) C dX8_pass_20 (by decide) ?_
    refine g_iadd C dX8_pass_25 ?_
    refine g_ishl C dX8_pass_26 ?_
    refine g_ior C dX8_pass_27 ?_
    obtain ⟨u14, hu14, hf⟩ := en_bnd hf
    refine gaM_st_6 C hu14 dX8_pass_28 ?_
    refine g_aload_n_0 C dX8_pass_29 ?_
    refine gf_X8_56 C dX8_pass_30 ?_
    refine g_iload_n_1 C dX8_pass_33 ?_
    obtain ⟨y15, hy15, hf⟩ := en_bnd hf
    refine gaM_ld_16 C hy15 dX8_pass_34 ?_
    refine g_iload_4 C dX8_pass_35 ?_
    refine g_iadd C dX8_pass_37 ?_
    refine g_istore_5 C dX8_pass_38 (by decide) rfl ?_
    refine g_aload_n_0 C dX8_pass_40 ?_
    refine gf_X8_56 C dX8_pass_41 ?_
    refine g_iload_n_1 C dX8_pass_44 ?_
    refine g_iload_n_3 C dX8_pass_45 ?_
    refine g_if_eq (tgt := 72) C dX8_pass_46 (by decide) (fun c16 => ?_) (fun c16 => ?_)
    · rw [if_pos c16] at hf
      refine g_aload_n_0 C dX8_pass_72 ?_
      refine gf_X8_56 C dX8_pass_73 ?_
      refine g_iload_n_1 C dX8_pass_76 ?_
      obtain ⟨y17, hy17, hf⟩ := en_bnd hf
      refine gaM_ld_16 C hy17 dX8_pass_77 ?_
      obtain ⟨u18, hu18, hf⟩ := en_bnd hf
      refine gaM_st_16 C hu18 dX8_pass_78 ?_
      exact g_vret C dX8_pass_79 (en_finV hf)
    · rw [if_neg c16] at hf
      refine g_iload_5 C dX8_pass_49 ?_
      refine g_aload_n_0 C dX8_pass_51 ?_
      refine g_iload_n_1 C dX8_pass_52 ?_
      obtain ⟨q19, hq19, hf⟩ := en_bnd hf
      refine gc_X8_171_M_end C (ctM_end _ _ q19.1 q19.2 hq19) (by decide) (Nat.le_of_ble_eq_true rfl) dX8_pass_53 ?_
      refine g_if_icmp_ge (tgt := 64) C dX8_pass_56 (by decide) (fun c20 => ?_) (fun c20 => ?_)
      · rw [if_pos c20] at hf
        refine g_aload_n_0 C dX8_pass_64 ?_
        refine g_iload_n_1 C dX8_pass_65 ?_
        obtain ⟨q21, hq21, hf⟩ := en_bnd hf
        refine gc_X8_171_M_end C (ctM_end _ _ q21.1 q21.2 hq21) (by decide) (Nat.le_of_ble_eq_true rfl) dX8_pass_66 ?_
        refine g_goto (tgt := 78) C dX8_pass_69 (by decide) ?_
        obtain ⟨u22, hu22, hf⟩ := en_bnd hf
        refine gaM_st_16 C hu22 dX8_pass_78 ?_
        exact g_vret C dX8_pass_79 (en_finV hf)
      · rw [if_neg c20] at hf
        refine g_iload_5 C dX8_pass_59 ?_
        refine g_goto (tgt := 78) C dX8_pass_61 (by decide) ?_
        obtain ⟨u23, hu23, hf⟩ := en_bnd hf
        refine gaM_st_16 C hu23 dX8_pass_78 ?_
        exact g_vret C dX8_pass_79 (en_finV hf)
set_option maxHeartbeats 4000000 in
set_option maxRecDepth 100000 in
theorem ctM_ask {l : Launch} {D : va_G} {K : en_K} {ad : Nat → Nat} (x1 : Int32) (x2 : Int32) (u : Ug) (r0 : Int32) (u0 : Ug) (hf : fM_ask x1 x2 u = some (r0, u0)) : CT l D (en_ty K) ad (3) yX8_ask cX8_ask 3 none [.ref 0, .int x1, .int x2] (wdM K u) (en_RV (wdM K) u0) := by
  refine CT.of (by decide) [some (.ref 0), some (.int x1), some (.int x2)] rfl (Nat.le_of_ble_eq_true rfl) ?_
  intro p e R s m args below meth c sz C
  unfold fM_ask at hf
  refine g_aload_n_0 C dX8_ask_0 ?_
  refine gf_X8_68 C dX8_ask_1 ?_
  refine g_iload_n_2 C dX8_ask_4 ?_
  obtain ⟨y1, hy1, hf⟩ := en_bnd hf
  refine gaM_ld_20 C hy1 dX8_ask_5 ?_
  refine g_iconst (v := (1 : Int32)) C dX8_ask_6 (by decide) ?_
  refine g_if_icmp_ne (tgt := 25) C dX8_ask_7 (by decide) (fun c2 => ?_) (fun c2 => ?_)
  · rw [if_neg c2] at hf
    refine g_aload_n_0 C dX8_ask_25 ?_
    refine gf_X8_68 C dX8_ask_26 ?_
    refine g_iload_n_2 C dX8_ask_29 ?_
    obtain ⟨y3, hy3, hf⟩ := en_bnd hf
    refine gaM_ld_20 C hy3 dX8_ask_30 ?_
    refine g_iconst (v := (2 : Int32)) C dX8_ask_31 (by decide) ?_
    refine g_if_icmp_ne (tgt := 49) C dX8_ask_32 (by decide) (fun c4 => ?_) (fun c4 => ?_)
    · rw [if_neg c4] at hf
      refine g_aload_n_0 C dX8_ask_49 ?_
      refine gf_X8_28 C dX8_ask_50 ?_
      refine g_iload_n_2 C dX8_ask_53 ?_
      obtain ⟨y5, hy5, hf⟩ := en_bnd hf
      refine gaM_ld_7 C hy5 dX8_ask_54 ?_
      refine g_if_ge (tgt := 67) C dX8_ask_55 (by decide) (fun c6 => ?_) (fun c6 => ?_)
      · rw [if_pos c6] at hf
        refine g_aload_n_0 C dX8_ask_67 ?_
        refine gf_X8_154 C dX8_ask_68 ?_
        refine g_iconst (v := (4 : Int32)) C dX8_ask_71 (by decide) ?_
        refine g_if_icmp_ne (tgt := 84) C dX8_ask_72 (by decide) (fun c7 => ?_) (fun c7 => ?_)
        · rw [if_neg c7] at hf
          refine g_aload_n_0 C dX8_ask_84 ?_
          refine gf_X8_181 C dX8_ask_85 ?_
          refine gl_X8_185 C dX8_ask_88 ?_
          refine g_lcmp C dX8_ask_91 ?_
          refine g_if_ne (tgt := 106) C dX8_ask_92 (by decide) (fun c8 => ?_) (fun c8 => ?_)
          · rw [if_neg c8] at hf
            refine g_aload_n_0 C dX8_ask_106 ?_
            refine g_dup C dX8_ask_107 rfl ?_
            refine gf_X8_181 C dX8_ask_108 ?_
            refine g_lconst (v := (1 : Int64)) C dX8_ask_111 (by decide) ?_
            refine g_ladd C dX8_ask_112 ?_
            obtain ⟨u9, hu9, hf⟩ := en_bnd hf
            refine gp_X8_181 C hu9 dX8_ask_113 ?_
            refine g_aload_n_0 C dX8_ask_116 ?_
            refine g_bipush (v := (10 : Int32)) C dX8_ask_117 (by decide) ?_
            refine g_aload_n_0 C dX8_ask_119 ?_
            refine gf_X8_154 C dX8_ask_120 ?_
            refine g_imul C dX8_ask_123 ?_
            obtain ⟨q10, hq10, hf⟩ := en_bnd hf
            refine gc_X8_212_M_keep C (ctM_keep _ _ q10.1 q10.2 hq10) (by decide) (Nat.le_of_ble_eq_true rfl) dX8_ask_124 ?_
            refine g_aload_n_0 C dX8_ask_127 ?_
            refine g_aload_n_0 C dX8_ask_128 ?_
            refine gf_X8_28 C dX8_ask_129 ?_
            refine g_iload_n_2 C dX8_ask_132 ?_
            obtain ⟨y11, hy11, hf⟩ := en_bnd hf
            refine gaM_ld_7 C hy11 dX8_ask_133 ?_
            refine g_aload_n_0 C dX8_ask_134 ?_
            refine gf_X8_53 C dX8_ask_135 ?_
            refine g_iload_n_1 C dX8_ask_138 ?_
            obtain ⟨y12, hy12, hf⟩ := en_bnd hf
            refine gaM_ld_15 C hy12 dX8_ask_139 ?_
            obtain ⟨q13, hq13, hf⟩ := en_bnd hf
            refine gc_X8_215_M_enter C (ctM_enter _ _ _ q13.1 q13.2 hq13) (by decide) (Nat.le_of_ble_eq_true rfl) dX8_ask_140 ?_
            exact g_vret C dX8_ask_143 (en_finV hf)
          · rw [if_pos c8] at hf
            refine g_aload_n_0 C dX8_ask_95 ?_
            refine g_bipush (v := (7 : Int32)) C dX8_ask_96 (by decide) ?_
            refine g_bipush (v := (7 : Int32)) C dX8_ask_98 (by decide) ?_
            obtain ⟨q14, hq14, hf⟩ := en_bnd hf
            refine gc_X8_187_M_raise C (ctM_raise _ _ _ q14.1 q14.2 hq14) (by decide) (Nat.le_of_ble_eq_true rfl) dX8_ask_100 ?_
            refine g_goto (tgt := 143) C dX8_ask_103 (by decide) ?_
            exact g_vret C dX8_ask_143 (en_finV hf)
        · rw [if_pos c7] at hf
          refine g_aload_n_0 C dX8_ask_75 ?_
          refine g_iconst (v := (5 : Int32)) C dX8_ask_76 (by decide) ?_
          refine g_iconst (v := (4 : Int32)) C dX8_ask_77 (by decide) ?_
          obtain ⟨q15, hq15, hf⟩ := en_bnd hf
          refine gc_X8_187_M_raise C (ctM_raise _ _ _ q15.1 q15.2 hq15) (by decide) (Nat.le_of_ble_eq_true rfl) dX8_ask_78 ?_
          refine g_goto (tgt := 143) C dX8_ask_81 (by decide) ?_
          exact g_vret C dX8_ask_143 (en_finV hf)
      · rw [if_neg c6] at hf
        refine g_aload_n_0 C dX8_ask_58 ?_
        refine g_iconst (v := (5 : Int32)) C dX8_ask_59 (by decide) ?_
        refine g_iconst (v := (3 : Int32)) C dX8_ask_60 (by decide) ?_
        obtain ⟨q16, hq16, hf⟩ := en_bnd hf
        refine gc_X8_187_M_raise C (ctM_raise _ _ _ q16.1 q16.2 hq16) (by decide) (Nat.le_of_ble_eq_true rfl) dX8_ask_61 ?_
        refine g_goto (tgt := 143) C dX8_ask_64 (by decide) ?_
        exact g_vret C dX8_ask_143 (en_finV hf)
    · rw [if_pos c4] at hf
      refine g_aload_n_0 C dX8_ask_35 ?_
      refine g_iconst (v := (5 : Int32)) C dX8_ask_36 (by decide) ?_
      refine g_aload_n_0 C dX8_ask_37 ?_
      refine gf_X8_71 C dX8_ask_38 ?_
      refine g_iload_n_2 C dX8_ask_41 ?_
      obtain ⟨y17, hy17, hf⟩ := en_bnd hf
      refine gaM_ld_21 C hy17 dX8_ask_42 ?_
      obtain ⟨q18, hq18, hf⟩ := en_bnd hf
      refine gc_X8_187_M_raise C (ctM_raise _ _ _ q18.1 q18.2 hq18) (by decide) (Nat.le_of_ble_eq_true rfl) dX8_ask_43 ?_
      refine g_goto (tgt := 143) C dX8_ask_46 (by decide) ?_
      exact g_vret C dX8_ask_143 (en_finV hf)
  · rw [if_pos c2] at hf
    refine g_aload_n_0 C dX8_ask_10 ?_
    refine gf_X8_53 C dX8_ask_11 ?_
    refine g_iload_n_1 C dX8_ask_14 ?_
    refine g_aload_n_0 C dX8_ask_15 ?_
    refine gf_X8_71 C dX8_ask_16 ?_
    refine g_iload_n_2 C dX8_ask_19 ?_
    obtain ⟨y19, hy19, hf⟩ := en_bnd hf
    refine gaM_ld_21 C hy19 dX8_ask_20 ?_
    obtain ⟨u20, hu20, hf⟩ := en_bnd hf
    refine gaM_st_15 C hu20 dX8_ask_21 ?_
    refine g_goto (tgt := 143) C dX8_ask_22 (by decide) ?_
    exact g_vret C dX8_ask_143 (en_finV hf)
