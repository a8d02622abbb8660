/-! CONTRACTS. -/
set_option maxHeartbeats 4000000 in
set_option maxRecDepth 100000 in
theorem ctC_State_putCoins {l : Launch} {D : va_G} {K : en_K} {ad : Nat → Nat} (x1 : Int32) (x2 : Int32) (u : Ug) (r0 : Int32) (u0 : Ug) (hf : fC_State_putCoins x1 x2 u = some (r0, u0)) : CT l D (en_ty K) ad (1) yX6_putCoins cX6_putCoins 3 (some .boolean) [.ref 1, .int x1, .int x2] (wdC K u) (en_RI (wdC K) r0 u0) := by
  refine CT.of (by decide) [some (.ref 1), some (.int x1), some (.int x2)] rfl (Nat.le_of_ble_eq_true rfl) ?_
  intro p e R s m args below meth c sz C
  unfold fC_State_putCoins at hf
  refine g_iload_n_1 C dX6_putCoins_0 ?_
  refine g_if_lt (tgt := 20) C dX6_putCoins_1 (by decide) (fun c1 => ?_) (fun c1 => ?_)
  · rw [if_pos c1] at hf
    refine g_iconst (v := (0 : Int32)) C dX6_putCoins_20 (by decide) ?_
    exact g_zret C rfl dX6_putCoins_21 (en_finI hf)
  · rw [if_neg c1] at hf
    refine g_iload_n_1 C dX6_putCoins_4 ?_
    refine g_bipush (v := (12 : Int32)) C dX6_putCoins_5 (by decide) ?_
    refine g_if_icmp_ge (tgt := 20) C dX6_putCoins_7 (by decide) (fun c2 => ?_) (fun c2 => ?_)
    · rw [if_pos c2] at hf
      refine g_iconst (v := (0 : Int32)) C dX6_putCoins_20 (by decide) ?_
      exact g_zret C rfl dX6_putCoins_21 (en_finI hf)
    · rw [if_neg c2] at hf
      refine g_iload_n_2 C dX6_putCoins_10 ?_
      refine g_if_lt (tgt := 20) C dX6_putCoins_11 (by decide) (fun c3 => ?_) (fun c3 => ?_)
      · rw [if_pos c3] at hf
        refine g_iconst (v := (0 : Int32)) C dX6_putCoins_20 (by decide) ?_
        exact g_zret C rfl dX6_putCoins_21 (en_finI hf)
      · rw [if_neg c3] at hf
        refine g_iload_n_2 C dX6_putCoins_14 ?_
        refine gl_X6_15 C dX6_putCoins_15 ?_
        refine g_if_icmp_le (tgt := 22) C dX6_putCoins_17 (by decide) (fun c4 => ?_) (fun c4 => ?_)
        · rw [if_pos c4] at hf
          refine g_aload_n_0 C dX6_putCoins_22 ?_
          refine gf_X6_11 C dX6_putCoins_23 ?_
          refine g_iload_n_1 C dX6_putCoins_26 ?_
          refine g_iload_n_2 C dX6_putCoins_27 ?_
          obtain ⟨u5, hu5, hf⟩ := en_bnd hf
          refine gaC_st_2 C hu5 dX6_putCoins_28 ?_
          refine g_iconst (v := (1 : Int32)) C dX6_putCoins_29 (by decide) ?_
          exact g_zret C rfl dX6_putCoins_30 (en_finI hf)
        · rw [if_neg c4] at hf
          refine g_iconst (v := (0 : Int32)) C dX6_putCoins_20 (by decide) ?_
          exact g_zret C rfl dX6_putCoins_21 (en_finI hf)
set_option maxHeartbeats 4000000 in
set_option maxRecDepth 100000 in
theorem ctC_account {l : Launch} {D : va_G} {K : en_K} {ad : Nat → Nat} (x1 : Int32) (x2 : Int32) (u : Ug) (r0 : Int32) (u0 : Ug) (hf : fC_account x1 x2 u = some (r0, u0)) : CT l D (en_ty K) ad (2) yX7_account cX7_account 3 (some .int) [.ref 0, .int x1, .int x2] (wdC K u) (en_RI (wdC K) r0 u0) := by
  refine CT.of (by decide) [some (.ref 0), some (.int x1), some (.int x2)] rfl (Nat.le_of_ble_eq_true rfl) ?_
  intro p e R s m args below meth c sz C
  unfold fC_account at hf
  refine g_aload_n_0 C dX7_account_0 ?_
  refine gf_X7_10 C dX7_account_1 ?_
  refine g_iload_n_1 C dX7_account_4 ?_
  refine g_iload_n_2 C dX7_account_5 ?_
  obtain ⟨q1, hq1, hf⟩ := en_bnd hf
  refine gc_X7_64_C_State_putCoins C (ctC_State_putCoins _ _ _ q1.1 q1.2 hq1) (by decide) (Nat.le_of_ble_eq_true rfl) dX7_account_6 ?_
  refine g_if_eq (tgt := 16) C dX7_account_9 (by decide) (fun c2 => ?_) (fun c2 => ?_)
  · rw [if_pos c2] at hf
    refine g_iconst (v := (-1 : Int32)) C dX7_account_16 (by decide) ?_
    exact g_iret C dX7_account_17 (en_finI hf)
  · rw [if_neg c2] at hf
    refine g_iconst (v := (1 : Int32)) C dX7_account_12 (by decide) ?_
    refine g_goto (tgt := 17) C dX7_account_13 (by decide) ?_
    exact g_iret C dX7_account_17 (en_finI hf)
set_option maxHeartbeats 4000000 in
set_option maxRecDepth 100000 in
theorem ctC_Code_newContract {l : Launch} {D : va_G} {K : en_K} {ad : Nat → Nat} (u : Ug) (r0 : Int32) (u0 : Ug) (hf : fC_Code_newContract u = some (r0, u0)) : CT l D (en_ty K) ad (1) yX0_newContract cX0_newContract 1 (some .int) [.ref 3] (wdC K u) (en_RI (wdC K) r0 u0) := by
  refine CT.of (by decide) [some (.ref 3)] rfl (Nat.le_of_ble_eq_true rfl) ?_
  intro p e R s m args below meth c sz C
  unfold fC_Code_newContract at hf
  refine g_aload_n_0 C dX0_newContract_0 ?_
  refine gf_X0_11 C dX0_newContract_1 ?_
  refine g_iconst (v := (4 : Int32)) C dX0_newContract_4 (by decide) ?_
  refine g_if_icmp_lt (tgt := 11) C dX0_newContract_5 (by decide) (fun c1 => ?_) (fun c1 => ?_)
  · rw [if_pos c1] at hf
    refine g_aload_n_0 C dX0_newContract_11 ?_
    refine g_dup C dX0_newContract_12 rfl ?_
    refine gf_X0_11 C dX0_newContract_13 ?_
    refine g_iconst (v := (1 : Int32)) C dX0_newContract_16 (by decide) ?_
    refine g_iadd C dX0_newContract_17 ?_
    obtain ⟨u2, hu2, hf⟩ := en_bnd hf
    refine gp_X0_11 C hu2 dX0_newContract_18 ?_
    refine g_aload_n_0 C dX0_newContract_21 ?_
    refine gf_X0_11 C dX0_newContract_22 ?_
    refine g_iconst (v := (1 : Int32)) C dX0_newContract_25 (by decide) ?_
    refine g_isub C dX0_newContract_26 ?_
    exact g_iret C dX0_newContract_27 (en_finI hf)
  · rw [if_neg c1] at hf
    refine g_bipush (v := (-2 : Int32)) C dX0_newContract_8 (by decide) ?_
    exact g_iret C dX0_newContract_10 (en_finI hf)
set_option maxHeartbeats 4000000 in
set_option maxRecDepth 100000 in
theorem ctC_contract {l : Launch} {D : va_G} {K : en_K} {ad : Nat → Nat} (u : Ug) (r0 : Int32) (u0 : Ug) (hf : fC_contract u = some (r0, u0)) : CT l D (en_ty K) ad (2) yX7_contract cX7_contract 1 (some .int) [.ref 0] (wdC K u) (en_RI (wdC K) r0 u0) := by
  refine CT.of (by decide) [some (.ref 0)] rfl (Nat.le_of_ble_eq_true rfl) ?_
  intro p e R s m args below meth c sz C
  unfold fC_contract at hf
  refine g_aload_n_0 C dX7_contract_0 ?_
  refine gf_X7_19 C dX7_contract_1 ?_
  obtain ⟨q1, hq1, hf⟩ := en_bnd hf
  refine gc_X7_68_C_Code_newContract C (ctC_Code_newContract _ q1.1 q1.2 hq1) (by decide) (Nat.le_of_ble_eq_true rfl) dX7_contract_4 ?_
  exact g_iret C dX7_contract_7 (en_finI hf)
set_option maxHeartbeats 4000000 in
set_option maxRecDepth 100000 in
theorem ctC_Code_placeOf {l : Launch} {D : va_G} {K : en_K} {ad : Nat → Nat} (x1 : Int32) (x2 : Int32) (u : Ug) (r0 : Int32) (u0 : Ug) (hf : fC_Code_placeOf x1 x2 u = some (r0, u0)) : CT l D (en_ty K) ad (1) yX0_placeOf cX0_placeOf 4 (some .int) [.ref 3, .int x1, .int x2] (wdC K u) (en_RI (wdC K) r0 u0) := by
  refine CT.of (by decide) [some (.ref 3), some (.int x1), some (.int x2), none] rfl (Nat.le_of_ble_eq_true rfl) ?_
  intro p e R s m args below meth c sz C
  unfold fC_Code_placeOf at hf
  refine g_iload_n_1 C dX0_placeOf_0 ?_
  refine g_if_lt (tgt := 25) C dX0_placeOf_1 (by decide) (fun c1 => ?_) (fun c1 => ?_)
  · rw [if_pos c1] at hf
    refine g_iconst (v := (0 : Int32)) C dX0_placeOf_25 (by decide) ?_
    refine g_istore_n_3 C dX0_placeOf_26 (by decide) rfl ?_
    refine g_iload_n_3 C dX0_placeOf_27 ?_
    refine g_if_eq (tgt := 39) C dX0_placeOf_28 (by decide) (fun _ => ?_) (fun q => absurd q (by decide))
    refine g_iconst (v := (-1 : Int32)) C dX0_placeOf_39 (by decide) ?_
    exact g_iret C dX0_placeOf_40 (en_finI hf)
  · rw [if_neg c1] at hf
    refine g_iload_n_1 C dX0_placeOf_4 ?_
    refine g_aload_n_0 C dX0_placeOf_5 ?_
    refine gf_X0_11 C dX0_placeOf_6 ?_
    refine g_if_icmp_ge (tgt := 25) C dX0_placeOf_9 (by decide) (fun c2 => ?_) (fun c2 => ?_)
    · rw [if_pos c2] at hf
      refine g_iconst (v := (0 : Int32)) C dX0_placeOf_25 (by decide) ?_
      refine g_istore_n_3 C dX0_placeOf_26 (by decide) rfl ?_
      refine g_iload_n_3 C dX0_placeOf_27 ?_
      refine g_if_eq (tgt := 39) C dX0_placeOf_28 (by decide) (fun _ => ?_) (fun q => absurd q (by decide))
      refine g_iconst (v := (-1 : Int32)) C dX0_placeOf_39 (by decide) ?_
      exact g_iret C dX0_placeOf_40 (en_finI hf)
    · rw [if_neg c2] at hf
      refine g_iload_n_2 C dX0_placeOf_12 ?_
      refine g_if_lt (tgt := 25) C dX0_placeOf_13 (by decide) (fun c3 => ?_) (fun c3 => ?_)
      · rw [if_pos c3] at hf
        refine g_iconst (v := (0 : Int32)) C dX0_placeOf_25 (by decide) ?_
        refine g_istore_n_3 C dX0_placeOf_26 (by decide) rfl ?_
        refine g_iload_n_3 C dX0_placeOf_27 ?_
        refine g_if_eq (tgt := 39) C dX0_placeOf_28 (by decide) (fun _ => ?_) (fun q => absurd q (by decide))
        refine g_iconst (v := (-1 : Int32)) C dX0_placeOf_39 (by decide) ?_
        exact g_iret C dX0_placeOf_40 (en_finI hf)
      · rw [if_neg c3] at hf
        refine g_iload_n_2 C dX0_placeOf_16 ?_
        refine g_iconst (v := (3 : Int32)) C dX0_placeOf_17 (by decide) ?_
        refine g_if_icmp_ge (tgt := 25) C dX0_placeOf_18 (by decide) (fun c4 => ?_) (fun c4 => ?_)
        · rw [if_pos c4] at hf
          refine g_iconst (v := (0 : Int32)) C dX0_placeOf_25 (by decide) ?_
          refine g_istore_n_3 C dX0_placeOf_26 (by decide) rfl ?_
          refine g_iload_n_3 C dX0_placeOf_27 ?_
          refine g_if_eq (tgt := 39) C dX0_placeOf_28 (by decide) (fun _ => ?_) (fun q => absurd q (by decide))
          refine g_iconst (v := (-1 : Int32)) C dX0_placeOf_39 (by decide) ?_
          exact g_iret C dX0_placeOf_40 (en_finI hf)
        · rw [if_neg c4] at hf
          refine g_iconst (v := (1 : Int32)) C dX0_placeOf_21 (by decide) ?_
          refine g_goto (tgt := 26) C dX0_placeOf_22 (by decide) ?_
          refine g_istore_n_3 C dX0_placeOf_26 (by decide) rfl ?_
          refine g_iload_n_3 C dX0_placeOf_27 ?_
          refine g_if_eq (tgt := 39) C dX0_placeOf_28 (by decide) (fun q => absurd q (by decide)) (fun _ => ?_)
          refine g_iload_n_1 C dX0_placeOf_31 ?_
          refine g_iconst (v := (3 : Int32)) C dX0_placeOf_32 (by decide) ?_
          refine g_imul C dX0_placeOf_33 ?_
          refine g_iload_n_2 C dX0_placeOf_34 ?_
          refine g_iadd C dX0_placeOf_35 ?_
          refine g_goto (tgt := 40) C dX0_placeOf_36 (by decide) ?_
          exact g_iret C dX0_placeOf_40 (en_finI hf)
set_option maxHeartbeats 4000000 in
set_option maxRecDepth 100000 in
theorem ctC_State_isCell {l : Launch} {D : va_G} {K : en_K} {ad : Nat → Nat} (x1 : Int32) (u : Ug) (r0 : Int32) (u0 : Ug) (hf : fC_State_isCell x1 u = some (r0, u0)) : CT l D (en_ty K) ad (1) yX6_isCell cX6_isCell 1 (some .boolean) [.int x1] (wdC K u) (en_RI (wdC K) r0 u0) := by
  refine CT.of (by decide) [some (.int x1)] rfl (Nat.le_of_ble_eq_true rfl) ?_
  intro p e R s m args below meth c sz C
  unfold fC_State_isCell at hf
  refine g_iload_n_0 C dX6_isCell_0 ?_
  refine g_if_lt (tgt := 13) C dX6_isCell_1 (by decide) (fun c1 => ?_) (fun c1 => ?_)
  · rw [if_pos c1] at hf
    refine g_iconst (v := (0 : Int32)) C dX6_isCell_13 (by decide) ?_
    exact g_zret C rfl dX6_isCell_14 (en_finI hf)
  · rw [if_neg c1] at hf
    refine g_iload_n_0 C dX6_isCell_4 ?_
    refine g_iconst (v := (4 : Int32)) C dX6_isCell_5 (by decide) ?_
    refine g_if_icmp_ge (tgt := 13) C dX6_isCell_6 (by decide) (fun c2 => ?_) (fun c2 => ?_)
    · rw [if_pos c2] at hf
      refine g_iconst (v := (0 : Int32)) C dX6_isCell_13 (by decide) ?_
      exact g_zret C rfl dX6_isCell_14 (en_finI hf)
    · rw [if_neg c2] at hf
      refine g_iconst (v := (1 : Int32)) C dX6_isCell_9 (by decide) ?_
      refine g_goto (tgt := 14) C dX6_isCell_10 (by decide) ?_
      exact g_zret C rfl dX6_isCell_14 (en_finI hf)
set_option maxHeartbeats 4000000 in
set_option maxRecDepth 100000 in
theorem ctC_State_isAccount {l : Launch} {D : va_G} {K : en_K} {ad : Nat → Nat} (x1 : Int32) (u : Ug) (r0 : Int32) (u0 : Ug) (hf : fC_State_isAccount x1 u = some (r0, u0)) : CT l D (en_ty K) ad (1) yX6_isAccount cX6_isAccount 1 (some .boolean) [.int x1] (wdC K u) (en_RI (wdC K) r0 u0) := by
  refine CT.of (by decide) [some (.int x1)] rfl (Nat.le_of_ble_eq_true rfl) ?_
  intro p e R s m args below meth c sz C
  unfold fC_State_isAccount at hf
  refine g_iload_n_0 C dX6_isAccount_0 ?_
  refine g_if_lt (tgt := 14) C dX6_isAccount_1 (by decide) (fun c1 => ?_) (fun c1 => ?_)
  · rw [if_pos c1] at hf
    refine g_iconst (v := (0 : Int32)) C dX6_isAccount_14 (by decide) ?_
    exact g_zret C rfl dX6_isAccount_15 (en_finI hf)
  · rw [if_neg c1] at hf
    refine g_iload_n_0 C dX6_isAccount_4 ?_
    refine g_bipush (v := (12 : Int32)) C dX6_isAccount_5 (by decide) ?_
    refine g_if_icmp_ge (tgt := 14) C dX6_isAccount_7 (by decide) (fun c2 => ?_) (fun c2 => ?_)
    · rw [if_pos c2] at hf
      refine g_iconst (v := (0 : Int32)) C dX6_isAccount_14 (by decide) ?_
      exact g_zret C rfl dX6_isAccount_15 (en_finI hf)
    · rw [if_neg c2] at hf
      refine g_iconst (v := (1 : Int32)) C dX6_isAccount_10 (by decide) ?_
      refine g_goto (tgt := 15) C dX6_isAccount_11 (by decide) ?_
      exact g_zret C rfl dX6_isAccount_15 (en_finI hf)
set_option maxHeartbeats 4000000 in
set_option maxRecDepth 100000 in
theorem ctC_Faces_isFace {l : Launch} {D : va_G} {K : en_K} {ad : Nat → Nat} (x1 : Int32) (u : Ug) (r0 : Int32) (u0 : Ug) (hf : fC_Faces_isFace x1 u = some (r0, u0)) : CT l D (en_ty K) ad (1) yX1_isFace cX1_isFace 1 (some .boolean) [.int x1] (wdC K u) (en_RI (wdC K) r0 u0) := by
  refine CT.of (by decide) [some (.int x1)] rfl (Nat.le_of_ble_eq_true rfl) ?_
  intro p e R s m args below meth c sz C
  unfold fC_Faces_isFace at hf
  refine g_iload_n_0 C dX1_isFace_0 ?_
  refine g_if_lt (tgt := 13) C dX1_isFace_1 (by decide) (fun c1 => ?_) (fun c1 => ?_)
  · rw [if_pos c1] at hf
    refine g_iconst (v := (0 : Int32)) C dX1_isFace_13 (by decide) ?_
    exact g_zret C rfl dX1_isFace_14 (en_finI hf)
  · rw [if_neg c1] at hf
    refine g_iload_n_0 C dX1_isFace_4 ?_
    refine g_iconst (v := (4 : Int32)) C dX1_isFace_5 (by decide) ?_
    refine g_if_icmp_ge (tgt := 13) C dX1_isFace_6 (by decide) (fun c2 => ?_) (fun c2 => ?_)
    · rw [if_pos c2] at hf
      refine g_iconst (v := (0 : Int32)) C dX1_isFace_13 (by decide) ?_
      exact g_zret C rfl dX1_isFace_14 (en_finI hf)
    · rw [if_neg c2] at hf
      refine g_iconst (v := (1 : Int32)) C dX1_isFace_9 (by decide) ?_
      refine g_goto (tgt := 14) C dX1_isFace_10 (by decide) ?_
      exact g_zret C rfl dX1_isFace_14 (en_finI hf)
set_option maxHeartbeats 4000000 in
set_option maxRecDepth 100000 in
theorem ctC_Code_fits {l : Launch} {D : va_G} {K : en_K} {ad : Nat → Nat} (x1 : Int32) (x2 : Int32) (u : Ug) (r0 : Int32) (u0 : Ug) (hf : fC_Code_fits x1 x2 u = some (r0, u0)) : CT l D (en_ty K) ad (2) yX0_fits cX0_fits 2 (some .boolean) [.int x1, .int x2] (wdC K u) (en_RI (wdC K) r0 u0) := by
  refine CT.of (by decide) [some (.int x1), some (.int x2)] rfl (Nat.le_of_ble_eq_true rfl) ?_
  intro p e R s m args below meth c sz C
  unfold fC_Code_fits at hf
  refine g_iload_n_0 C dX0_fits_0 ?_
  rcases Decidable.em (x1 = (0 : Int32)) with s1_0 | s1_0
  · rw [if_pos s1_0] at hf
    refine g_tsw (z := (0 : Int32)) (tgt := 64) C dX0_fits_1 s1_0 (by decide) (by decide) rfl (by decide) ?_
    refine g_iload_n_1 C dX0_fits_64 ?_
    obtain ⟨q1, hq1, hf⟩ := en_bnd hf
    refine gc_X0_31_C_State_isCell C (ctC_State_isCell _ _ q1.1 q1.2 hq1) (by decide) (Nat.le_of_ble_eq_true rfl) dX0_fits_65 ?_
    obtain ⟨hz, hf⟩ := en_ite hf
    exact g_zret C hz dX0_fits_68 (en_finI hf)
  rw [if_neg s1_0] at hf
  rcases Decidable.em (x1 = (1 : Int32)) with s1_1 | s1_1
  · rw [if_pos s1_1] at hf
    refine g_tsw (z := (1 : Int32)) (tgt := 64) C dX0_fits_1 s1_1 (by decide) (by decide) rfl (by decide) ?_
    refine g_iload_n_1 C dX0_fits_64 ?_
    obtain ⟨q2, hq2, hf⟩ := en_bnd hf
    refine gc_X0_31_C_State_isCell C (ctC_State_isCell _ _ q2.1 q2.2 hq2) (by decide) (Nat.le_of_ble_eq_true rfl) dX0_fits_65 ?_
    obtain ⟨hz, hf⟩ := en_ite hf
    exact g_zret C hz dX0_fits_68 (en_finI hf)
  rw [if_neg s1_1] at hf
  rcases Decidable.em (x1 = (2 : Int32)) with s1_2 | s1_2
  · rw [if_pos s1_2] at hf
    refine g_tsw (z := (2 : Int32)) (tgt := 112) C dX0_fits_1 s1_2 (by decide) (by decide) rfl (by decide) ?_
    refine g_iconst (v := (1 : Int32)) C dX0_fits_112 (by decide) ?_
    exact g_zret C rfl dX0_fits_113 (en_finI hf)
  rw [if_neg s1_2] at hf
  rcases Decidable.em (x1 = (3 : Int32)) with s1_3 | s1_3
  · rw [if_pos s1_3] at hf
    refine g_tsw (z := (3 : Int32)) (tgt := 64) C dX0_fits_1 s1_3 (by decide) (by decide) rfl (by decide) ?_
    refine g_iload_n_1 C dX0_fits_64 ?_
    obtain ⟨q3, hq3, hf⟩ := en_bnd hf
    refine gc_X0_31_C_State_isCell C (ctC_State_isCell _ _ q3.1 q3.2 hq3) (by decide) (Nat.le_of_ble_eq_true rfl) dX0_fits_65 ?_
    obtain ⟨hz, hf⟩ := en_ite hf
    exact g_zret C hz dX0_fits_68 (en_finI hf)
  rw [if_neg s1_3] at hf
  rcases Decidable.em (x1 = (4 : Int32)) with s1_4 | s1_4
  · rw [if_pos s1_4] at hf
    refine g_tsw (z := (4 : Int32)) (tgt := 69) C dX0_fits_1 s1_4 (by decide) (by decide) rfl (by decide) ?_
    refine g_iload_n_1 C dX0_fits_69 ?_
    refine g_if_lt (tgt := 83) C dX0_fits_70 (by decide) (fun c4 => ?_) (fun c4 => ?_)
    · rw [if_pos c4] at hf
      refine g_iconst (v := (0 : Int32)) C dX0_fits_83 (by decide) ?_
      exact g_zret C rfl dX0_fits_84 (en_finI hf)
    · rw [if_neg c4] at hf
      refine g_iload_n_1 C dX0_fits_73 ?_
      refine g_bipush (v := (9 : Int32)) C dX0_fits_74 (by decide) ?_
      refine g_if_icmp_gt (tgt := 83) C dX0_fits_76 (by decide) (fun c5 => ?_) (fun c5 => ?_)
      · rw [if_pos c5] at hf
        refine g_iconst (v := (0 : Int32)) C dX0_fits_83 (by decide) ?_
        exact g_zret C rfl dX0_fits_84 (en_finI hf)
      · rw [if_neg c5] at hf
        refine g_iconst (v := (1 : Int32)) C dX0_fits_79 (by decide) ?_
        refine g_goto (tgt := 84) C dX0_fits_80 (by decide) ?_
        exact g_zret C rfl dX0_fits_84 (en_finI hf)
  rw [if_neg s1_4] at hf
  rcases Decidable.em (x1 = (5 : Int32)) with s1_5 | s1_5
  · rw [if_pos s1_5] at hf
    refine g_tsw (z := (5 : Int32)) (tgt := 85) C dX0_fits_1 s1_5 (by decide) (by decide) rfl (by decide) ?_
    refine g_iload_n_1 C dX0_fits_85 ?_
    obtain ⟨q6, hq6, hf⟩ := en_bnd hf
    refine gc_X0_37_C_State_isAccount C (ctC_State_isAccount _ _ q6.1 q6.2 hq6) (by decide) (Nat.le_of_ble_eq_true rfl) dX0_fits_86 ?_
    obtain ⟨hz, hf⟩ := en_ite hf
    exact g_zret C hz dX0_fits_89 (en_finI hf)
  rw [if_neg s1_5] at hf
  rcases Decidable.em (x1 = (6 : Int32)) with s1_6 | s1_6
  · rw [if_pos s1_6] at hf
    refine g_tsw (z := (6 : Int32)) (tgt := 112) C dX0_fits_1 s1_6 (by decide) (by decide) rfl (by decide) ?_
    refine g_iconst (v := (1 : Int32)) C dX0_fits_112 (by decide) ?_
    exact g_zret C rfl dX0_fits_113 (en_finI hf)
  rw [if_neg s1_6] at hf
  rcases Decidable.em (x1 = (7 : Int32)) with s1_7 | s1_7
  · rw [if_pos s1_7] at hf
    refine g_tsw (z := (7 : Int32)) (tgt := 90) C dX0_fits_1 s1_7 (by decide) (by decide) rfl (by decide) ?_
    refine g_iload_n_1 C dX0_fits_90 ?_
    refine g_iconst (v := (1 : Int32)) C dX0_fits_91 (by decide) ?_
    refine g_if_icmp_lt (tgt := 105) C dX0_fits_92 (by decide) (fun c7 => ?_) (fun c7 => ?_)
    · rw [if_pos c7] at hf
      refine g_iconst (v := (0 : Int32)) C dX0_fits_105 (by decide) ?_
      exact g_zret C rfl dX0_fits_106 (en_finI hf)
    · rw [if_neg c7] at hf
      refine g_iload_n_1 C dX0_fits_95 ?_
      refine g_bipush (v := (7 : Int32)) C dX0_fits_96 (by decide) ?_
      refine g_if_icmp_gt (tgt := 105) C dX0_fits_98 (by decide) (fun c8 => ?_) (fun c8 => ?_)
      · rw [if_pos c8] at hf
        refine g_iconst (v := (0 : Int32)) C dX0_fits_105 (by decide) ?_
        exact g_zret C rfl dX0_fits_106 (en_finI hf)
      · rw [if_neg c8] at hf
        refine g_iconst (v := (1 : Int32)) C dX0_fits_101 (by decide) ?_
        refine g_goto (tgt := 106) C dX0_fits_102 (by decide) ?_
        exact g_zret C rfl dX0_fits_106 (en_finI hf)
  rw [if_neg s1_7] at hf
  rcases Decidable.em (x1 = (8 : Int32)) with s1_8 | s1_8
  · rw [if_pos s1_8] at hf
    refine g_tsw (z := (8 : Int32)) (tgt := 107) C dX0_fits_1 s1_8 (by decide) (by decide) rfl (by decide) ?_
    refine g_iload_n_1 C dX0_fits_107 ?_
    obtain ⟨q9, hq9, hf⟩ := en_bnd hf
    refine gc_X0_40_C_Faces_isFace C (ctC_Faces_isFace _ _ q9.1 q9.2 hq9) (by decide) (Nat.le_of_ble_eq_true rfl) dX0_fits_108 ?_
    obtain ⟨hz, hf⟩ := en_ite hf
    exact g_zret C hz dX0_fits_111 (en_finI hf)
  rw [if_neg s1_8] at hf
  rcases Decidable.em (x1 = (9 : Int32)) with s1_9 | s1_9
  · rw [if_pos s1_9] at hf
    refine g_tsw (z := (9 : Int32)) (tgt := 90) C dX0_fits_1 s1_9 (by decide) (by decide) rfl (by decide) ?_
    refine g_iload_n_1 C dX0_fits_90 ?_
    refine g_iconst (v := (1 : Int32)) C dX0_fits_91 (by decide) ?_
    refine g_if_icmp_lt (tgt := 105) C dX0_fits_92 (by decide) (fun c10 => ?_) (fun c10 => ?_)
    · rw [if_pos c10] at hf
      refine g_iconst (v := (0 : Int32)) C dX0_fits_105 (by decide) ?_
      exact g_zret C rfl dX0_fits_106 (en_finI hf)
    · rw [if_neg c10] at hf
      refine g_iload_n_1 C dX0_fits_95 ?_
      refine g_bipush (v := (7 : Int32)) C dX0_fits_96 (by decide) ?_
      refine g_if_icmp_gt (tgt := 105) C dX0_fits_98 (by decide) (fun c11 => ?_) (fun c11 => ?_)
      · rw [if_pos c11] at hf
        refine g_iconst (v := (0 : Int32)) C dX0_fits_105 (by decide) ?_
        exact g_zret C rfl dX0_fits_106 (en_finI hf)
      · rw [if_neg c11] at hf
        refine g_iconst (v := (1 : Int32)) C dX0_fits_101 (by decide) ?_
        refine g_goto (tgt := 106) C dX0_fits_102 (by decide) ?_
        exact g_zret C rfl dX0_fits_106 (en_finI hf)
  rw [if_neg s1_9] at hf
  rcases Decidable.em (x1 = (10 : Int32)) with s1_10 | s1_10
  · rw [if_pos s1_10] at hf
    refine g_tsw (z := (10 : Int32)) (tgt := 112) C dX0_fits_1 s1_10 (by decide) (by decide) rfl (by decide) ?_
    refine g_iconst (v := (1 : Int32)) C dX0_fits_112 (by decide) ?_
    exact g_zret C rfl dX0_fits_113 (en_finI hf)
  rw [if_neg s1_10] at hf
  rcases Decidable.em (x1 = (11 : Int32)) with s1_11 | s1_11
  · rw [if_pos s1_11] at hf
    refine g_tsw (z := (11 : Int32)) (tgt := 64) C dX0_fits_1 s1_11 (by decide) (by decide) rfl (by decide) ?_
    refine g_iload_n_1 C dX0_fits_64 ?_
    obtain ⟨q12, hq12, hf⟩ := en_bnd hf
    refine gc_X0_31_C_State_isCell C (ctC_State_isCell _ _ q12.1 q12.2 hq12) (by decide) (Nat.le_of_ble_eq_true rfl) dX0_fits_65 ?_
    obtain ⟨hz, hf⟩ := en_ite hf
    exact g_zret C hz dX0_fits_68 (en_finI hf)
  rw [if_neg s1_11] at hf
  refine g_tswD (tgt := 114) C [(0 : Int32), (1 : Int32), (2 : Int32), (3 : Int32), (4 : Int32), (5 : Int32), (6 : Int32), (7 : Int32), (8 : Int32), (9 : Int32), (10 : Int32), (11 : Int32)] dX0_fits_1 (And.intro s1_0 (And.intro s1_1 (And.intro s1_2 (And.intro s1_3 (And.intro s1_4 (And.intro s1_5 (And.intro s1_6 (And.intro s1_7 (And.intro s1_8 (And.intro s1_9 (And.intro s1_10 (And.intro s1_11 trivial)))))))))))) 12 (by decide) (by decide) (by decide) ?_
  refine g_iconst (v := (0 : Int32)) C dX0_fits_114 (by decide) ?_
  exact g_zret C rfl dX0_fits_115 (en_finI hf)
set_option maxHeartbeats 4000000 in
set_option maxRecDepth 100000 in
theorem ctC_Code_replace {l : Launch} {D : va_G} {K : en_K} {ad : Nat → Nat} (x1 : Int32) (x2 : Int32) (x3 : Int32) (x4 : Int32) (u : Ug) (r0 : Int32) (u0 : Ug) (hf : fC_Code_replace x1 x2 x3 x4 u = some (r0, u0)) : CT l D (en_ty K) ad (1) yX0_replace cX0_replace 5 none [.ref 3, .int x1, .int x2, .int x3, .int x4] (wdC K u) (en_RV (wdC K) u0) := by
  refine CT.of (by decide) [some (.ref 3), some (.int x1), some (.int x2), some (.int x3), some (.int x4)] rfl (Nat.le_of_ble_eq_true rfl) ?_
  intro p e R s m args below meth c sz C
  unfold fC_Code_replace at hf
  refine g_iload_n_1 C dX0_replace_0 ?_
  refine g_if_lt (tgt := 32) C dX0_replace_1 (by decide) (fun c1 => ?_) (fun c1 => ?_)
  · rw [if_pos c1] at hf
    exact g_vret C dX0_replace_32 (en_finV hf)
  · rw [if_neg c1] at hf
    refine g_iload_n_1 C dX0_replace_4 ?_
    refine g_bipush (v := (96 : Int32)) C dX0_replace_5 (by decide) ?_
    refine g_if_icmp_ge (tgt := 32) C dX0_replace_7 (by decide) (fun c2 => ?_) (fun c2 => ?_)
    · rw [if_pos c2] at hf
      exact g_vret C dX0_replace_32 (en_finV hf)
    · rw [if_neg c2] at hf
      refine g_aload_n_0 C dX0_replace_10 ?_
      refine gf_X0_22 C dX0_replace_11 ?_
      refine g_iload_n_1 C dX0_replace_14 ?_
      refine g_iload_n_2 C dX0_replace_15 ?_
      obtain ⟨u3, hu3, hf⟩ := en_bnd hf
      refine gaC_st_6 C hu3 dX0_replace_16 ?_
      refine g_aload_n_0 C dX0_replace_17 ?_
      refine gf_X0_25 C dX0_replace_18 ?_
      refine g_iload_n_1 C dX0_replace_21 ?_
      refine g_iload_n_3 C dX0_replace_22 ?_
      obtain ⟨u4, hu4, hf⟩ := en_bnd hf
      refine gaC_st_7 C hu4 dX0_replace_23 ?_
      refine g_aload_n_0 C dX0_replace_24 ?_
      refine gf_X0_28 C dX0_replace_25 ?_
      refine g_iload_n_1 C dX0_replace_28 ?_
      refine g_iload_4 C dX0_replace_29 ?_
      obtain ⟨u5, hu5, hf⟩ := en_bnd hf
      refine gaC_st_8 C hu5 dX0_replace_31 ?_
      exact g_vret C dX0_replace_32 (en_finV hf)
set_option maxHeartbeats 4000000 in
set_option maxRecDepth 100000 in
theorem ctC_Code_append {l : Launch} {D : va_G} {K : en_K} {ad : Nat → Nat} (x1 : Int32) (x2 : Int32) (x3 : Int32) (x4 : Int32) (u : Ug) (r0 : Int32) (u0 : Ug) (hf : fC_Code_append x1 x2 x3 x4 u = some (r0, u0)) : CT l D (en_ty K) ad (2) yX0_append cX0_append 5 (some .int) [.ref 3, .int x1, .int x2, .int x3, .int x4] (wdC K u) (en_RI (wdC K) r0 u0) := by
  refine CT.of (by decide) [some (.ref 3), some (.int x1), some (.int x2), some (.int x3), some (.int x4)] rfl (Nat.le_of_ble_eq_true rfl) ?_
  intro p e R s m args below meth c sz C
  unfold fC_Code_append at hf
  refine g_iload_n_1 C dX0_append_0 ?_
  refine g_if_lt (tgt := 21) C dX0_append_1 (by decide) (fun c1 => ?_) (fun c1 => ?_)
  · rw [if_pos c1] at hf
    refine g_bipush (v := (-2 : Int32)) C dX0_append_21 (by decide) ?_
    exact g_iret C dX0_append_23 (en_finI hf)
  · rw [if_neg c1] at hf
    refine g_iload_n_1 C dX0_append_4 ?_
    refine g_bipush (v := (12 : Int32)) C dX0_append_5 (by decide) ?_
    refine g_if_icmp_ge (tgt := 21) C dX0_append_7 (by decide) (fun c2 => ?_) (fun c2 => ?_)
    · rw [if_pos c2] at hf
      refine g_bipush (v := (-2 : Int32)) C dX0_append_21 (by decide) ?_
      exact g_iret C dX0_append_23 (en_finI hf)
    · rw [if_neg c2] at hf
      refine g_aload_n_0 C dX0_append_10 ?_
      refine gf_X0_15 C dX0_append_11 ?_
      refine g_iload_n_1 C dX0_append_14 ?_
      obtain ⟨y3, hy3, hf⟩ := en_bnd hf
      refine gaC_ld_4 C hy3 dX0_append_15 ?_
      refine g_bipush (v := (8 : Int32)) C dX0_append_16 (by decide) ?_
      refine g_if_icmp_lt (tgt := 24) C dX0_append_18 (by decide) (fun c4 => ?_) (fun c4 => ?_)
      · rw [if_pos c4] at hf
        refine g_aload_n_0 C dX0_append_24 ?_
        refine g_iload_n_1 C dX0_append_25 ?_
        refine g_bipush (v := (8 : Int32)) C dX0_append_26 (by decide) ?_
        refine g_imul C dX0_append_28 ?_
        refine g_aload_n_0 C dX0_append_29 ?_
        refine gf_X0_15 C dX0_append_30 ?_
        refine g_iload_n_1 C dX0_append_33 ?_
        obtain ⟨y5, hy5, hf⟩ := en_bnd hf
        refine gaC_ld_4 C hy5 dX0_append_34 ?_
        refine g_iadd C dX0_append_35 ?_
        refine g_iload_n_2 C dX0_append_36 ?_
        refine g_iload_n_3 C dX0_append_37 ?_
        refine g_iload_4 C dX0_append_38 ?_
        obtain ⟨q6, hq6, hf⟩ := en_bnd hf
        refine gc_X0_45_C_Code_replace C (ctC_Code_replace _ _ _ _ _ q6.1 q6.2 hq6) (by decide) (Nat.le_of_ble_eq_true rfl) dX0_append_40 ?_
        refine g_aload_n_0 C dX0_append_43 ?_
        refine gf_X0_15 C dX0_append_44 ?_
        refine g_iload_n_1 C dX0_append_47 ?_
        refine g_dup2 C dX0_append_48 rfl rfl ?_
        obtain ⟨y7, hy7, hf⟩ := en_bnd hf
        refine gaC_ld_4 C hy7 dX0_append_49 ?_
        refine g_iconst (v := (1 : Int32)) C dX0_append_50 (by decide) ?_
        refine g_iadd C dX0_append_51 ?_
        obtain ⟨u8, hu8, hf⟩ := en_bnd hf
        refine gaC_st_4 C hu8 dX0_append_52 ?_
        refine g_aload_n_0 C dX0_append_53 ?_
        refine gf_X0_15 C dX0_append_54 ?_
        refine g_iload_n_1 C dX0_append_57 ?_
        obtain ⟨y9, hy9, hf⟩ := en_bnd hf
        refine gaC_ld_4 C hy9 dX0_append_58 ?_
        exact g_iret C dX0_append_59 (en_finI hf)
      · rw [if_neg c4] at hf
        refine g_bipush (v := (-2 : Int32)) C dX0_append_21 (by decide) ?_
        exact g_iret C dX0_append_23 (en_finI hf)
set_option maxHeartbeats 4000000 in
set_option maxRecDepth 100000 in
theorem ctC_step {l : Launch} {D : va_G} {K : en_K} {ad : Nat → Nat} (x1 : Int32) (x2 : Int32) (x3 : Int32) (x4 : Int32) (x5 : Int32) (u : Ug) (r0 : Int32) (u0 : Ug) (hf : fC_step x1 x2 x3 x4 x5 u = some (r0, u0)) : CT l D (en_ty K) ad (3) yX7_step cX7_step 7 (some .int) [.ref 0, .int x1, .int x2, .int x3, .int x4, .int x5] (wdC K u) (en_RI (wdC K) r0 u0) := by
  refine CT.of (by decide) [some (.ref 0), some (.int x1), some (.int x2), some (.int x3), some (.int x4), some (.int x5), none] rfl (Nat.le_of_ble_eq_true rfl) ?_
  intro p e R s m args below meth c sz C
  unfold fC_step at hf
  refine g_aload_n_0 C dX7_step_0 ?_
  refine gf_X7_19 C dX7_step_1 ?_
  refine g_iload_n_1 C dX7_step_4 ?_
  refine g_iload_n_2 C dX7_step_5 ?_
  obtain ⟨q1, hq1, hf⟩ := en_bnd hf
  refine gc_X7_72_C_Code_placeOf C (ctC_Code_placeOf _ _ _ q1.1 q1.2 hq1) (by decide) (Nat.le_of_ble_eq_true rfl) dX7_step_6 ?_
  refine g_istore_6 C dX7_step_9 (by decide) rfl ?_
  refine g_iload_6 C dX7_step_11 ?_
  refine g_if_lt (tgt := 25) C dX7_step_13 (by decide) (fun c2 => ?_) (fun c2 => ?_)
  · rw [if_pos c2] at hf
    refine g_iconst (v := (-1 : Int32)) C dX7_step_25 (by decide) ?_
    exact g_iret C dX7_step_26 (en_finI hf)
  · rw [if_neg c2] at hf
    refine g_iload_n_3 C dX7_step_16 ?_
    refine g_iload_4 C dX7_step_17 ?_
    obtain ⟨q3, hq3, hf⟩ := en_bnd hf
    refine gc_X7_76_C_Code_fits C (ctC_Code_fits _ _ _ q3.1 q3.2 hq3) (by decide) (Nat.le_of_ble_eq_true rfl) dX7_step_19 ?_
    refine g_if_ne (tgt := 27) C dX7_step_22 (by decide) (fun c4 => ?_) (fun c4 => ?_)
    · rw [if_neg c4] at hf
      refine g_aload_n_0 C dX7_step_27 ?_
      refine gf_X7_19 C dX7_step_28 ?_
      refine g_iload_6 C dX7_step_31 ?_
      refine g_iload_n_3 C dX7_step_33 ?_
      refine g_iload_4 C dX7_step_34 ?_
      refine g_iload_5 C dX7_step_36 ?_
      obtain ⟨q5, hq5, hf⟩ := en_bnd hf
      refine gc_X7_79_C_Code_append C (ctC_Code_append _ _ _ _ _ q5.1 q5.2 hq5) (by decide) (Nat.le_of_ble_eq_true rfl) dX7_step_38 ?_
      exact g_iret C dX7_step_41 (en_finI hf)
    · rw [if_pos c4] at hf
      refine g_iconst (v := (-1 : Int32)) C dX7_step_25 (by decide) ?_
      exact g_iret C dX7_step_26 (en_finI hf)
set_option maxHeartbeats 4000000 in
set_option maxRecDepth 100000 in
theorem ctC_Faces_bindTo {l : Launch} {D : va_G} {K : en_K} {ad : Nat → Nat} (x1 : Int32) (x2 : Int32) (u : Ug) (r0 : Int32) (u0 : Ug) (hf : fC_Faces_bindTo x1 x2 u = some (r0, u0)) : CT l D (en_ty K) ad (1) yX1_bindTo cX1_bindTo 3 none [.ref 9, .int x1, .int x2] (wdC K u) (en_RV (wdC K) u0) := by
  refine CT.of (by decide) [some (.ref 9), some (.int x1), some (.int x2)] rfl (Nat.le_of_ble_eq_true rfl) ?_
  intro p e R s m args below meth c sz C
  unfold fC_Faces_bindTo at hf
  refine g_iload_n_1 C dX1_bindTo_0 ?_
  refine g_if_lt (tgt := 16) C dX1_bindTo_1 (by decide) (fun c1 => ?_) (fun c1 => ?_)
  · rw [if_pos c1] at hf
    exact g_vret C dX1_bindTo_16 (en_finV hf)
  · rw [if_neg c1] at hf
    refine g_iload_n_1 C dX1_bindTo_4 ?_
    refine g_iconst (v := (4 : Int32)) C dX1_bindTo_5 (by decide) ?_
    refine g_if_icmp_ge (tgt := 16) C dX1_bindTo_6 (by decide) (fun c2 => ?_) (fun c2 => ?_)
    · rw [if_pos c2] at hf
      exact g_vret C dX1_bindTo_16 (en_finV hf)
    · rw [if_neg c2] at hf
      refine g_aload_n_0 C dX1_bindTo_9 ?_
      refine gf_X1_9 C dX1_bindTo_10 ?_
      refine g_iload_n_1 C dX1_bindTo_13 ?_
      refine g_iload_n_2 C dX1_bindTo_14 ?_
      obtain ⟨u3, hu3, hf⟩ := en_bnd hf
      refine gaC_st_10 C hu3 dX1_bindTo_15 ?_
      exact g_vret C dX1_bindTo_16 (en_finV hf)
set_option maxHeartbeats 4000000 in
set_option maxRecDepth 100000 in
theorem ctC_bind {l : Launch} {D : va_G} {K : en_K} {ad : Nat → Nat} (x1 : Int32) (x2 : Int32) (x3 : Int32) (u : Ug) (r0 : Int32) (u0 : Ug) (hf : fC_bind x1 x2 x3 u = some (r0, u0)) : CT l D (en_ty K) ad (2) yX7_bind cX7_bind 5 (some .int) [.ref 0, .int x1, .int x2, .int x3] (wdC K u) (en_RI (wdC K) r0 u0) := by
  refine CT.of (by decide) [some (.ref 0), some (.int x1), some (.int x2), some (.int x3), none] rfl (Nat.le_of_ble_eq_true rfl) ?_
  intro p e R s m args below meth c sz C
  unfold fC_bind at hf
  refine g_iload_n_2 C dX7_bind_0 ?_
  refine g_iconst (v := (-1 : Int32)) C dX7_bind_1 (by decide) ?_
  refine g_if_icmp_ne (tgt := 9) C dX7_bind_2 (by decide) (fun c1 => ?_) (fun c1 => ?_)
  · rw [if_neg c1] at hf
    refine g_aload_n_0 C dX7_bind_9 ?_
    refine gf_X7_19 C dX7_bind_10 ?_
    refine g_iload_n_2 C dX7_bind_13 ?_
    refine g_iload_n_3 C dX7_bind_14 ?_
    obtain ⟨q2, hq2, hf⟩ := en_bnd hf
    refine gc_X7_72_C_Code_placeOf C (ctC_Code_placeOf _ _ _ q2.1 q2.2 hq2) (by decide) (Nat.le_of_ble_eq_true rfl) dX7_bind_15 ?_
    refine g_istore_4 C dX7_bind_18 (by decide) rfl ?_
    refine g_iload_n_1 C dX7_bind_20 ?_
    obtain ⟨q3, hq3, hf⟩ := en_bnd hf
    refine gc_X7_83_C_Faces_isFace C (ctC_Faces_isFace _ _ q3.1 q3.2 hq3) (by decide) (Nat.le_of_ble_eq_true rfl) dX7_bind_21 ?_
    refine g_if_eq (tgt := 37) C dX7_bind_24 (by decide) (fun c4 => ?_) (fun c4 => ?_)
    · rw [if_pos c4] at hf
      refine g_iconst (v := (-1 : Int32)) C dX7_bind_37 (by decide) ?_
      exact g_iret C dX7_bind_38 (en_finI hf)
    · rw [if_neg c4] at hf
      refine g_iload_n_2 C dX7_bind_27 ?_
      refine g_iconst (v := (-1 : Int32)) C dX7_bind_28 (by decide) ?_
      refine g_if_icmp_eq (tgt := 39) C dX7_bind_29 (by decide) (fun c5 => ?_) (fun c5 => ?_)
      · rw [if_pos c5] at hf
        refine g_aload_n_0 C dX7_bind_39 ?_
        refine gf_X7_26 C dX7_bind_40 ?_
        refine g_iload_n_1 C dX7_bind_43 ?_
        refine g_iload_4 C dX7_bind_44 ?_
        obtain ⟨q6, hq6, hf⟩ := en_bnd hf
        refine gc_X7_87_C_Faces_bindTo C (ctC_Faces_bindTo _ _ _ q6.1 q6.2 hq6) (by decide) (Nat.le_of_ble_eq_true rfl) dX7_bind_46 ?_
        refine g_iconst (v := (1 : Int32)) C dX7_bind_49 (by decide) ?_
        exact g_iret C dX7_bind_50 (en_finI hf)
      · rw [if_neg c5] at hf
        refine g_iload_4 C dX7_bind_32 ?_
        refine g_if_ge (tgt := 39) C dX7_bind_34 (by decide) (fun c7 => ?_) (fun c7 => ?_)
        · rw [if_pos c7] at hf
          refine g_aload_n_0 C dX7_bind_39 ?_
          refine gf_X7_26 C dX7_bind_40 ?_
          refine g_iload_n_1 C dX7_bind_43 ?_
          refine g_iload_4 C dX7_bind_44 ?_
          obtain ⟨q8, hq8, hf⟩ := en_bnd hf
          refine gc_X7_87_C_Faces_bindTo C (ctC_Faces_bindTo _ _ _ q8.1 q8.2 hq8) (by decide) (Nat.le_of_ble_eq_true rfl) dX7_bind_46 ?_
          refine g_iconst (v := (1 : Int32)) C dX7_bind_49 (by decide) ?_
          exact g_iret C dX7_bind_50 (en_finI hf)
        · rw [if_neg c7] at hf
          refine g_iconst (v := (-1 : Int32)) C dX7_bind_37 (by decide) ?_
          exact g_iret C dX7_bind_38 (en_finI hf)
  · rw [if_pos c1] at hf
    refine g_iconst (v := (-1 : Int32)) C dX7_bind_5 (by decide) ?_
    refine g_goto (tgt := 18) C dX7_bind_6 (by decide) ?_
    refine g_istore_4 C dX7_bind_18 (by decide) rfl ?_
    refine g_iload_n_1 C dX7_bind_20 ?_
    obtain ⟨q9, hq9, hf⟩ := en_bnd hf
    refine gc_X7_83_C_Faces_isFace C (ctC_Faces_isFace _ _ q9.1 q9.2 hq9) (by decide) (Nat.le_of_ble_eq_true rfl) dX7_bind_21 ?_
    refine g_if_eq (tgt := 37) C dX7_bind_24 (by decide) (fun c10 => ?_) (fun c10 => ?_)
    · rw [if_pos c10] at hf
      refine g_iconst (v := (-1 : Int32)) C dX7_bind_37 (by decide) ?_
      exact g_iret C dX7_bind_38 (en_finI hf)
    · rw [if_neg c10] at hf
      refine g_iload_n_2 C dX7_bind_27 ?_
      refine g_iconst (v := (-1 : Int32)) C dX7_bind_28 (by decide) ?_
      refine g_if_icmp_eq (tgt := 39) C dX7_bind_29 (by decide) (fun c11 => ?_) (fun c11 => ?_)
      · rw [if_pos c11] at hf
        refine g_aload_n_0 C dX7_bind_39 ?_
        refine gf_X7_26 C dX7_bind_40 ?_
        refine g_iload_n_1 C dX7_bind_43 ?_
        refine g_iload_4 C dX7_bind_44 ?_
        obtain ⟨q12, hq12, hf⟩ := en_bnd hf
        refine gc_X7_87_C_Faces_bindTo C (ctC_Faces_bindTo _ _ _ q12.1 q12.2 hq12) (by decide) (Nat.le_of_ble_eq_true rfl) dX7_bind_46 ?_
        refine g_iconst (v := (1 : Int32)) C dX7_bind_49 (by decide) ?_
        exact g_iret C dX7_bind_50 (en_finI hf)
      · rw [if_neg c11] at hf
        refine g_iload_4 C dX7_bind_32 ?_
        refine g_if_ge (tgt := 39) C dX7_bind_34 (by decide) (fun q => absurd q (by decide)) (fun _ => ?_)
        refine g_iconst (v := (-1 : Int32)) C dX7_bind_37 (by decide) ?_
        exact g_iret C dX7_bind_38 (en_finI hf)
set_option maxHeartbeats 4000000 in
set_option maxRecDepth 100000 in
theorem ctC_State_age {l : Launch} {D : va_G} {K : en_K} {ad : Nat → Nat} (x1 : Int32) (u : Ug) (r0 : Int32) (u0 : Ug) (hf : fC_State_age x1 u = some (r0, u0)) : CT l D (en_ty K) ad (1) yX6_age cX6_age 2 (some .boolean) [.ref 1, .int x1] (wdC K u) (en_RI (wdC K) r0 u0) := by
  refine CT.of (by decide) [some (.ref 1), some (.int x1)] rfl (Nat.le_of_ble_eq_true rfl) ?_
  intro p e R s m args below meth c sz C
  unfold fC_State_age at hf
  refine g_iload_n_1 C dX6_age_0 ?_
  refine g_if_lt (tgt := 11) C dX6_age_1 (by decide) (fun c1 => ?_) (fun c1 => ?_)
  · rw [if_pos c1] at hf
    refine g_iconst (v := (0 : Int32)) C dX6_age_11 (by decide) ?_
    exact g_zret C rfl dX6_age_12 (en_finI hf)
  · rw [if_neg c1] at hf
    refine g_iload_n_1 C dX6_age_4 ?_
    refine g_sipush (v := (1000 : Int32)) C dX6_age_5 (by decide) ?_
    refine g_if_icmp_le (tgt := 13) C dX6_age_8 (by decide) (fun c2 => ?_) (fun c2 => ?_)
    · rw [if_pos c2] at hf
      refine g_aload_n_0 C dX6_age_13 ?_
      refine gf_X6_11 C dX6_age_14 ?_
      refine g_bipush (v := (28 : Int32)) C dX6_age_17 (by decide) ?_
      refine g_dup2 C dX6_age_19 rfl rfl ?_
      obtain ⟨y3, hy3, hf⟩ := en_bnd hf
      refine gaC_ld_2 C hy3 dX6_age_20 ?_
      refine g_iload_n_1 C dX6_age_21 ?_
      refine g_iadd C dX6_age_22 ?_
      obtain ⟨u4, hu4, hf⟩ := en_bnd hf
      refine gaC_st_2 C hu4 dX6_age_23 ?_
      refine g_iconst (v := (1 : Int32)) C dX6_age_24 (by decide) ?_
      exact g_zret C rfl dX6_age_25 (en_finI hf)
    · rw [if_neg c2] at hf
      refine g_iconst (v := (0 : Int32)) C dX6_age_11 (by decide) ?_
      exact g_zret C rfl dX6_age_12 (en_finI hf)
set_option maxHeartbeats 4000000 in
set_option maxRecDepth 100000 in
theorem ctC_State_height {l : Launch} {D : va_G} {K : en_K} {ad : Nat → Nat} (u : Ug) (r0 : Int32) (u0 : Ug) (hf : fC_State_height u = some (r0, u0)) : CT l D (en_ty K) ad (1) yX6_height cX6_height 1 (some .int) [.ref 1] (wdC K u) (en_RI (wdC K) r0 u0) := by
  refine CT.of (by decide) [some (.ref 1)] rfl (Nat.le_of_ble_eq_true rfl) ?_
  intro p e R s m args below meth c sz C
  unfold fC_State_height at hf
  refine g_aload_n_0 C dX6_height_0 ?_
  refine gf_X6_11 C dX6_height_1 ?_
  refine g_bipush (v := (28 : Int32)) C dX6_height_4 (by decide) ?_
  obtain ⟨y1, hy1, hf⟩ := en_bnd hf
  refine gaC_ld_2 C hy1 dX6_height_6 ?_
  exact g_iret C dX6_height_7 (en_finI hf)
set_option maxHeartbeats 4000000 in
set_option maxRecDepth 100000 in
theorem ctC_time {l : Launch} {D : va_G} {K : en_K} {ad : Nat → Nat} (x1 : Int32) (u : Ug) (r0 : Int32) (u0 : Ug) (hf : fC_time x1 u = some (r0, u0)) : CT l D (en_ty K) ad (2) yX7_time cX7_time 2 (some .int) [.ref 0, .int x1] (wdC K u) (en_RI (wdC K) r0 u0) := by
  refine CT.of (by decide) [some (.ref 0), some (.int x1)] rfl (Nat.le_of_ble_eq_true rfl) ?_
  intro p e R s m args below meth c sz C
  unfold fC_time at hf
  refine g_aload_n_0 C dX7_time_0 ?_
  refine gf_X7_10 C dX7_time_1 ?_
  refine g_iload_n_1 C dX7_time_4 ?_
  obtain ⟨q1, hq1, hf⟩ := en_bnd hf
  refine gc_X7_91_C_State_age C (ctC_State_age _ _ q1.1 q1.2 hq1) (by decide) (Nat.le_of_ble_eq_true rfl) dX7_time_5 ?_
  refine g_if_eq (tgt := 21) C dX7_time_8 (by decide) (fun c2 => ?_) (fun c2 => ?_)
  · rw [if_pos c2] at hf
    refine g_iconst (v := (-1 : Int32)) C dX7_time_21 (by decide) ?_
    exact g_iret C dX7_time_22 (en_finI hf)
  · rw [if_neg c2] at hf
    refine g_aload_n_0 C dX7_time_11 ?_
    refine gf_X7_10 C dX7_time_12 ?_
    obtain ⟨q3, hq3, hf⟩ := en_bnd hf
    refine gc_X7_94_C_State_height C (ctC_State_height _ q3.1 q3.2 hq3) (by decide) (Nat.le_of_ble_eq_true rfl) dX7_time_15 ?_
    refine g_goto (tgt := 22) C dX7_time_18 (by decide) ?_
    exact g_iret C dX7_time_22 (en_finI hf)
set_option maxHeartbeats 4000000 in
set_option maxRecDepth 100000 in
theorem ctC_Machine_raise {l : Launch} {D : va_G} {K : en_K} {ad : Nat → Nat} (x1 : Int32) (u : Ug) (r0 : Int32) (u0 : Ug) (hf : fC_Machine_raise x1 u = some (r0, u0)) : CT l D (en_ty K) ad (1) yX2_raise cX2_raise 2 none [.ref 13, .int x1] (wdC K u) (en_RV (wdC K) u0) := by
  refine CT.of (by decide) [some (.ref 13), some (.int x1)] rfl (Nat.le_of_ble_eq_true rfl) ?_
  intro p e R s m args below meth c sz C
  unfold fC_Machine_raise at hf
  refine g_aload_n_0 C dX2_raise_0 ?_
  refine g_iload_n_1 C dX2_raise_1 ?_
  obtain ⟨u1, hu1, hf⟩ := en_bnd hf
  refine gp_X2_24 C hu1 dX2_raise_2 ?_
  refine g_aload_n_0 C dX2_raise_5 ?_
  refine g_iload_n_1 C dX2_raise_6 ?_
  obtain ⟨u2, hu2, hf⟩ := en_bnd hf
  refine gp_X2_27 C hu2 dX2_raise_7 ?_
  exact g_vret C dX2_raise_10 (en_finV hf)
set_option maxHeartbeats 4000000 in
set_option maxRecDepth 100000 in
theorem ctC_State_keepIn_14 {l : Launch} {D : va_G} {K : en_K} {ad : Nat → Nat} (x2 : Int32) (u : Ug) (r0 : Int32) (u0 : Ug) (hf : fC_State_keepIn_14 x2 u = some (r0, u0)) : CT l D (en_ty K) ad (1) yX6_keepIn cX6_keepIn 3 (some .boolean) [.ref 1, .ref 14, .int x2] (wdC K u) (en_RI (wdC K) r0 u0) := by
  refine CT.of (by decide) [some (.ref 1), some (.ref 14), some (.int x2)] rfl (Nat.le_of_ble_eq_true rfl) ?_
  intro p e R s m args below meth c sz C
  unfold fC_State_keepIn_14 at hf
  refine g_aload_n_1 C dX6_keepIn_0 ?_
  refine g_ifnull C dX6_keepIn_1 ?_
  refine g_iload_n_2 C dX6_keepIn_4 ?_
  refine g_if_lt (tgt := 17) C dX6_keepIn_5 (by decide) (fun c1 => ?_) (fun c1 => ?_)
  · rw [if_pos c1] at hf
    refine g_iconst (v := (0 : Int32)) C dX6_keepIn_17 (by decide) ?_
    exact g_zret C rfl dX6_keepIn_18 (en_finI hf)
  · rw [if_neg c1] at hf
    refine g_iload_n_2 C dX6_keepIn_8 ?_
    refine g_aload_n_1 C dX6_keepIn_9 ?_
    refine gaC_len_14 C dX6_keepIn_10 ?_
    refine g_bipush (v := (70 : Int32)) C dX6_keepIn_11 (by decide) ?_
    refine g_idiv C dX6_keepIn_13 (by decide) ?_
    refine g_if_icmp_lt (tgt := 19) C dX6_keepIn_14 (by decide) (fun c2 => ?_) (fun c2 => ?_)
    · rw [if_pos c2] at hf
      refine g_aload_n_0 C dX6_keepIn_19 ?_
      refine gf_X6_11 C dX6_keepIn_20 ?_
      refine g_iconst (v := (0 : Int32)) C dX6_keepIn_23 (by decide) ?_
      refine g_aload_n_1 C dX6_keepIn_24 ?_
      refine g_iload_n_2 C dX6_keepIn_25 ?_
      refine g_bipush (v := (70 : Int32)) C dX6_keepIn_26 (by decide) ?_
      refine g_imul C dX6_keepIn_28 ?_
      refine g_bipush (v := (70 : Int32)) C dX6_keepIn_29 (by decide) ?_
      obtain ⟨u3, hu3, hf⟩ := en_bnd hf
      refine gy_X6_18_2_14 C (by decide) (Nat.le_of_ble_eq_true rfl) hu3 dX6_keepIn_31 ?_
      refine g_iconst (v := (1 : Int32)) C dX6_keepIn_34 (by decide) ?_
      exact g_zret C rfl dX6_keepIn_35 (en_finI hf)
    · rw [if_neg c2] at hf
      refine g_iconst (v := (0 : Int32)) C dX6_keepIn_17 (by decide) ?_
      exact g_zret C rfl dX6_keepIn_18 (en_finI hf)
set_option maxHeartbeats 4000000 in
set_option maxRecDepth 100000 in
theorem ctC_Machine_accountOf {l : Launch} {D : va_G} {K : en_K} {ad : Nat → Nat} (x1 : Int32) (u : Ug) (r0 : Int32) (u0 : Ug) (hf : fC_Machine_accountOf x1 u = some (r0, u0)) : CT l D (en_ty K) ad (1) yX2_accountOf cX2_accountOf 1 (some .int) [.int x1] (wdC K u) (en_RI (wdC K) r0 u0) := by
  refine CT.of (by decide) [some (.int x1)] rfl (Nat.le_of_ble_eq_true rfl) ?_
  intro p e R s m args below meth c sz C
  unfold fC_Machine_accountOf at hf
  refine g_bipush (v := (8 : Int32)) C dX2_accountOf_0 (by decide) ?_
  refine g_iload_n_0 C dX2_accountOf_2 ?_
  refine g_iconst (v := (3 : Int32)) C dX2_accountOf_3 (by decide) ?_
  refine g_idiv C dX2_accountOf_4 (by decide) ?_
  refine g_iadd C dX2_accountOf_5 ?_
  exact g_iret C dX2_accountOf_6 (en_finI hf)
set_option maxHeartbeats 4000000 in
set_option maxRecDepth 100000 in
theorem ctC_State_pay {l : Launch} {D : va_G} {K : en_K} {ad : Nat → Nat} (x1 : Int32) (x2 : Int32) (x3 : Int32) (u : Ug) (r0 : Int32) (u0 : Ug) (hf : fC_State_pay x1 x2 x3 u = some (r0, u0)) : CT l D (en_ty K) ad (1) yX6_pay cX6_pay 4 (some .int) [.ref 1, .int x1, .int x2, .int x3] (wdC K u) (en_RI (wdC K) r0 u0) := by
  refine CT.of (by decide) [some (.ref 1), some (.int x1), some (.int x2), some (.int x3)] rfl (Nat.le_of_ble_eq_true rfl) ?_
  intro p e R s m args below meth c sz C
  unfold fC_State_pay at hf
  refine g_iload_n_1 C dX6_pay_0 ?_
  refine g_if_lt (tgt := 20) C dX6_pay_1 (by decide) (fun c1 => ?_) (fun c1 => ?_)
  · rw [if_pos c1] at hf
    refine g_iconst (v := (1 : Int32)) C dX6_pay_20 (by decide) ?_
    exact g_iret C dX6_pay_21 (en_finI hf)
  · rw [if_neg c1] at hf
    refine g_iload_n_1 C dX6_pay_4 ?_
    refine g_bipush (v := (12 : Int32)) C dX6_pay_5 (by decide) ?_
    refine g_if_icmp_ge (tgt := 20) C dX6_pay_7 (by decide) (fun c2 => ?_) (fun c2 => ?_)
    · rw [if_pos c2] at hf
      refine g_iconst (v := (1 : Int32)) C dX6_pay_20 (by decide) ?_
      exact g_iret C dX6_pay_21 (en_finI hf)
    · rw [if_neg c2] at hf
      refine g_iload_n_2 C dX6_pay_10 ?_
      refine g_if_lt (tgt := 20) C dX6_pay_11 (by decide) (fun c3 => ?_) (fun c3 => ?_)
      · rw [if_pos c3] at hf
        refine g_iconst (v := (1 : Int32)) C dX6_pay_20 (by decide) ?_
        exact g_iret C dX6_pay_21 (en_finI hf)
      · rw [if_neg c3] at hf
        refine g_iload_n_2 C dX6_pay_14 ?_
        refine g_bipush (v := (12 : Int32)) C dX6_pay_15 (by decide) ?_
        refine g_if_icmp_lt (tgt := 22) C dX6_pay_17 (by decide) (fun c4 => ?_) (fun c4 => ?_)
        · rw [if_pos c4] at hf
          refine g_iload_n_3 C dX6_pay_22 ?_
          refine g_if_lt (tgt := 36) C dX6_pay_23 (by decide) (fun c5 => ?_) (fun c5 => ?_)
          · rw [if_pos c5] at hf
            refine g_iconst (v := (1 : Int32)) C dX6_pay_36 (by decide) ?_
            exact g_iret C dX6_pay_37 (en_finI hf)
          · rw [if_neg c5] at hf
            refine g_iload_n_3 C dX6_pay_26 ?_
            refine g_aload_n_0 C dX6_pay_27 ?_
            refine gf_X6_11 C dX6_pay_28 ?_
            refine g_iload_n_1 C dX6_pay_31 ?_
            obtain ⟨y6, hy6, hf⟩ := en_bnd hf
            refine gaC_ld_2 C hy6 dX6_pay_32 ?_
            refine g_if_icmp_le (tgt := 38) C dX6_pay_33 (by decide) (fun c7 => ?_) (fun c7 => ?_)
            · rw [if_pos c7] at hf
              refine g_iload_n_1 C dX6_pay_38 ?_
              refine g_iload_n_2 C dX6_pay_39 ?_
              refine g_if_icmp_ne (tgt := 45) C dX6_pay_40 (by decide) (fun c8 => ?_) (fun c8 => ?_)
              · rw [if_neg c8] at hf
                refine g_iload_n_3 C dX6_pay_45 ?_
                refine gl_X6_15 C dX6_pay_46 ?_
                refine g_aload_n_0 C dX6_pay_48 ?_
                refine gf_X6_11 C dX6_pay_49 ?_
                refine g_iload_n_2 C dX6_pay_52 ?_
                obtain ⟨y9, hy9, hf⟩ := en_bnd hf
                refine gaC_ld_2 C hy9 dX6_pay_53 ?_
                refine g_isub C dX6_pay_54 ?_
                refine g_if_icmp_le (tgt := 60) C dX6_pay_55 (by decide) (fun c10 => ?_) (fun c10 => ?_)
                · rw [if_pos c10] at hf
                  refine g_aload_n_0 C dX6_pay_60 ?_
                  refine gf_X6_11 C dX6_pay_61 ?_
                  refine g_iload_n_1 C dX6_pay_64 ?_
                  refine g_dup2 C dX6_pay_65 rfl rfl ?_
                  obtain ⟨y11, hy11, hf⟩ := en_bnd hf
                  refine gaC_ld_2 C hy11 dX6_pay_66 ?_
                  refine g_iload_n_3 C dX6_pay_67 ?_
                  refine g_isub C dX6_pay_68 ?_
                  obtain ⟨u12, hu12, hf⟩ := en_bnd hf
                  refine gaC_st_2 C hu12 dX6_pay_69 ?_
                  refine g_aload_n_0 C dX6_pay_70 ?_
                  refine gf_X6_11 C dX6_pay_71 ?_
                  refine g_iload_n_2 C dX6_pay_74 ?_
                  refine g_dup2 C dX6_pay_75 rfl rfl ?_
                  obtain ⟨y13, hy13, hf⟩ := en_bnd hf
                  refine gaC_ld_2 C hy13 dX6_pay_76 ?_
                  refine g_iload_n_3 C dX6_pay_77 ?_
                  refine g_iadd C dX6_pay_78 ?_
                  obtain ⟨u14, hu14, hf⟩ := en_bnd hf
                  refine gaC_st_2 C hu14 dX6_pay_79 ?_
                  refine g_iconst (v := (0 : Int32)) C dX6_pay_80 (by decide) ?_
                  exact g_iret C dX6_pay_81 (en_finI hf)
                · rw [if_neg c10] at hf
                  refine g_iconst (v := (2 : Int32)) C dX6_pay_58 (by decide) ?_
                  exact g_iret C dX6_pay_59 (en_finI hf)
              · rw [if_pos c8] at hf
                refine g_iconst (v := (0 : Int32)) C dX6_pay_43 (by decide) ?_
                exact g_iret C dX6_pay_44 (en_finI hf)
            · rw [if_neg c7] at hf
              refine g_iconst (v := (1 : Int32)) C dX6_pay_36 (by decide) ?_
              exact g_iret C dX6_pay_37 (en_finI hf)
        · rw [if_neg c4] at hf
          refine g_iconst (v := (1 : Int32)) C dX6_pay_20 (by decide) ?_
          exact g_iret C dX6_pay_21 (en_finI hf)
set_option maxHeartbeats 4000000 in
set_option maxRecDepth 100000 in
theorem ctC_Code_size {l : Launch} {D : va_G} {K : en_K} {ad : Nat → Nat} (x1 : Int32) (u : Ug) (r0 : Int32) (u0 : Ug) (hf : fC_Code_size x1 u = some (r0, u0)) : CT l D (en_ty K) ad (1) yX0_size cX0_size 2 (some .int) [.ref 3, .int x1] (wdC K u) (en_RI (wdC K) r0 u0) := by
  refine CT.of (by decide) [some (.ref 3), some (.int x1)] rfl (Nat.le_of_ble_eq_true rfl) ?_
  intro p e R s m args below meth c sz C
  unfold fC_Code_size at hf
  refine g_iload_n_1 C dX0_size_0 ?_
  refine g_if_lt (tgt := 19) C dX0_size_1 (by decide) (fun c1 => ?_) (fun c1 => ?_)
  · rw [if_pos c1] at hf
    refine g_iconst (v := (0 : Int32)) C dX0_size_19 (by decide) ?_
    exact g_iret C dX0_size_20 (en_finI hf)
  · rw [if_neg c1] at hf
    refine g_iload_n_1 C dX0_size_4 ?_
    refine g_bipush (v := (12 : Int32)) C dX0_size_5 (by decide) ?_
    refine g_if_icmp_ge (tgt := 19) C dX0_size_7 (by decide) (fun c2 => ?_) (fun c2 => ?_)
    · rw [if_pos c2] at hf
      refine g_iconst (v := (0 : Int32)) C dX0_size_19 (by decide) ?_
      exact g_iret C dX0_size_20 (en_finI hf)
    · rw [if_neg c2] at hf
      refine g_aload_n_0 C dX0_size_10 ?_
      refine gf_X0_15 C dX0_size_11 ?_
      refine g_iload_n_1 C dX0_size_14 ?_
      obtain ⟨y3, hy3, hf⟩ := en_bnd hf
      refine gaC_ld_4 C hy3 dX0_size_15 ?_
      refine g_goto (tgt := 20) C dX0_size_16 (by decide) ?_
      exact g_iret C dX0_size_20 (en_finI hf)
set_option maxHeartbeats 4000000 in
set_option maxRecDepth 100000 in
theorem ctC_Machine_threw {l : Launch} {D : va_G} {K : en_K} {ad : Nat → Nat} (u : Ug) (r0 : Int32) (u0 : Ug) (hf : fC_Machine_threw u = some (r0, u0)) : CT l D (en_ty K) ad (1) yX2_threw cX2_threw 1 (some .boolean) [.ref 13] (wdC K u) (en_RI (wdC K) r0 u0) := by
  refine CT.of (by decide) [some (.ref 13)] rfl (Nat.le_of_ble_eq_true rfl) ?_
  intro p e R s m args below meth c sz C
  unfold fC_Machine_threw at hf
  refine g_aload_n_0 C dX2_threw_0 ?_
  refine gf_X2_24 C dX2_threw_1 ?_
  refine g_if_eq (tgt := 11) C dX2_threw_4 (by decide) (fun c1 => ?_) (fun c1 => ?_)
  · rw [if_pos c1] at hf
    refine g_iconst (v := (0 : Int32)) C dX2_threw_11 (by decide) ?_
    exact g_zret C rfl dX2_threw_12 (en_finI hf)
  · rw [if_neg c1] at hf
    refine g_iconst (v := (1 : Int32)) C dX2_threw_7 (by decide) ?_
    refine g_goto (tgt := 12) C dX2_threw_8 (by decide) ?_
    exact g_zret C rfl dX2_threw_12 (en_finI hf)
set_option maxHeartbeats 4000000 in
set_option maxRecDepth 100000 in
theorem ctC_Code_cover {l : Launch} {D : va_G} {K : en_K} {ad : Nat → Nat} (x1 : Int32) (x2 : Int32) (u : Ug) (r0 : Int32) (u0 : Ug) (hf : fC_Code_cover x1 x2 u = some (r0, u0)) : CT l D (en_ty K) ad (1) yX0_cover cX0_cover 3 none [.ref 3, .int x1, .int x2] (wdC K u) (en_RV (wdC K) u0) := by
  refine CT.of (by decide) [some (.ref 3), some (.int x1), some (.int x2)] rfl (Nat.le_of_ble_eq_true rfl) ?_
  intro p e R s m args below meth c sz C
  unfold fC_Code_cover at hf
  refine g_iload_n_1 C dX0_cover_0 ?_
  refine g_if_lt (tgt := 22) C dX0_cover_1 (by decide) (fun c1 => ?_) (fun c1 => ?_)
  · rw [if_pos c1] at hf
    exact g_vret C dX0_cover_22 (en_finV hf)
  · rw [if_neg c1] at hf
    refine g_iload_n_1 C dX0_cover_4 ?_
    refine g_bipush (v := (12 : Int32)) C dX0_cover_5 (by decide) ?_
    refine g_if_icmp_ge (tgt := 22) C dX0_cover_7 (by decide) (fun c2 => ?_) (fun c2 => ?_)
    · rw [if_pos c2] at hf
      exact g_vret C dX0_cover_22 (en_finV hf)
    · rw [if_neg c2] at hf
      refine g_aload_n_0 C dX0_cover_10 ?_
      refine gf_X0_19 C dX0_cover_11 ?_
      refine g_iload_n_1 C dX0_cover_14 ?_
      refine g_dup2 C dX0_cover_15 rfl rfl ?_
      obtain ⟨y3, hy3, hf⟩ := en_bnd hf
      refine gaC_ld_5 C hy3 dX0_cover_16 ?_
      refine g_iconst (v := (1 : Int32)) C dX0_cover_17 (by decide) ?_
      refine g_iload_n_2 C dX0_cover_18 ?_
      refine g_ishl C dX0_cover_19 ?_
      refine g_ior C dX0_cover_20 ?_
      obtain ⟨u4, hu4, hf⟩ := en_bnd hf
      refine gaC_st_5 C hu4 dX0_cover_21 ?_
      exact g_vret C dX0_cover_22 (en_finV hf)
set_option maxHeartbeats 4000000 in
set_option maxRecDepth 100000 in
theorem ctC_Machine_begins {l : Launch} {D : va_G} {K : en_K} {ad : Nat → Nat} (x1 : Int32) (x2 : Int32) (u : Ug) (r0 : Int32) (u0 : Ug) (hf : fC_Machine_begins x1 x2 u = some (r0, u0)) : CT l D (en_ty K) ad (2) yX2_begins cX2_begins 3 (some .boolean) [.ref 13, .int x1, .int x2] (wdC K u) (en_RI (wdC K) r0 u0) := by
  refine CT.of (by decide) [some (.ref 13), some (.int x1), some (.int x2)] rfl (Nat.le_of_ble_eq_true rfl) ?_
  intro p e R s m args below meth c sz C
  unfold fC_Machine_begins at hf
  refine g_aload_n_0 C dX2_begins_0 ?_
  refine gf_X2_21 C dX2_begins_1 ?_
  refine g_bipush (v := (100 : Int32)) C dX2_begins_4 (by decide) ?_
  refine g_if_icmp_ge (tgt := 19) C dX2_begins_6 (by decide) (fun c1 => ?_) (fun c1 => ?_)
  · rw [if_pos c1] at hf
    refine g_aload_n_0 C dX2_begins_19 ?_
    refine g_bipush (v := (7 : Int32)) C dX2_begins_20 (by decide) ?_
    obtain ⟨q2, hq2, hf⟩ := en_bnd hf
    refine gc_X2_45_C_Machine_raise C (ctC_Machine_raise _ _ q2.1 q2.2 hq2) (by decide) (Nat.le_of_ble_eq_true rfl) dX2_begins_22 ?_
    refine g_iconst (v := (0 : Int32)) C dX2_begins_25 (by decide) ?_
    exact g_zret C rfl dX2_begins_26 (en_finI hf)
  · rw [if_neg c1] at hf
    refine g_aload_n_0 C dX2_begins_9 ?_
    refine gf_X2_17 C dX2_begins_10 ?_
    refine g_sipush (v := (20000 : Int32)) C dX2_begins_13 (by decide) ?_
    refine g_if_icmp_lt (tgt := 27) C dX2_begins_16 (by decide) (fun c3 => ?_) (fun c3 => ?_)
    · rw [if_pos c3] at hf
      refine g_aload_n_0 C dX2_begins_27 ?_
      refine g_dup C dX2_begins_28 rfl ?_
      refine gf_X2_21 C dX2_begins_29 ?_
      refine g_iconst (v := (1 : Int32)) C dX2_begins_32 (by decide) ?_
      refine g_iadd C dX2_begins_33 ?_
      obtain ⟨u4, hu4, hf⟩ := en_bnd hf
      refine gp_X2_21 C hu4 dX2_begins_34 ?_
      refine g_aload_n_0 C dX2_begins_37 ?_
      refine g_dup C dX2_begins_38 rfl ?_
      refine gf_X2_17 C dX2_begins_39 ?_
      refine g_iconst (v := (1 : Int32)) C dX2_begins_42 (by decide) ?_
      refine g_iadd C dX2_begins_43 ?_
      obtain ⟨u5, hu5, hf⟩ := en_bnd hf
      refine gp_X2_17 C hu5 dX2_begins_44 ?_
      refine g_aload_n_0 C dX2_begins_47 ?_
      refine gf_X2_37 C dX2_begins_48 ?_
      refine g_iload_n_1 C dX2_begins_51 ?_
      refine g_iload_n_2 C dX2_begins_52 ?_
      obtain ⟨q6, hq6, hf⟩ := en_bnd hf
      refine gc_X2_107_C_Code_cover C (ctC_Code_cover _ _ _ q6.1 q6.2 hq6) (by decide) (Nat.le_of_ble_eq_true rfl) dX2_begins_53 ?_
      refine g_iconst (v := (1 : Int32)) C dX2_begins_56 (by decide) ?_
      exact g_zret C rfl dX2_begins_57 (en_finI hf)
    · rw [if_neg c3] at hf
      refine g_aload_n_0 C dX2_begins_19 ?_
      refine g_bipush (v := (7 : Int32)) C dX2_begins_20 (by decide) ?_
      obtain ⟨q7, hq7, hf⟩ := en_bnd hf
      refine gc_X2_45_C_Machine_raise C (ctC_Machine_raise _ _ q7.1 q7.2 hq7) (by decide) (Nat.le_of_ble_eq_true rfl) dX2_begins_22 ?_
      refine g_iconst (v := (0 : Int32)) C dX2_begins_25 (by decide) ?_
      exact g_zret C rfl dX2_begins_26 (en_finI hf)
set_option maxHeartbeats 4000000 in
set_option maxRecDepth 100000 in
theorem ctC_Code_kind {l : Launch} {D : va_G} {K : en_K} {ad : Nat → Nat} (x1 : Int32) (u : Ug) (r0 : Int32) (u0 : Ug) (hf : fC_Code_kind x1 u = some (r0, u0)) : CT l D (en_ty K) ad (1) yX0_kind cX0_kind 2 (some .int) [.ref 3, .int x1] (wdC K u) (en_RI (wdC K) r0 u0) := by
  refine CT.of (by decide) [some (.ref 3), some (.int x1)] rfl (Nat.le_of_ble_eq_true rfl) ?_
  intro p e R s m args below meth c sz C
  unfold fC_Code_kind at hf
  refine g_iload_n_1 C dX0_kind_0 ?_
  refine g_if_lt (tgt := 19) C dX0_kind_1 (by decide) (fun c1 => ?_) (fun c1 => ?_)
  · rw [if_pos c1] at hf
    refine g_bipush (v := (12 : Int32)) C dX0_kind_19 (by decide) ?_
    exact g_iret C dX0_kind_21 (en_finI hf)
  · rw [if_neg c1] at hf
    refine g_iload_n_1 C dX0_kind_4 ?_
    refine g_bipush (v := (96 : Int32)) C dX0_kind_5 (by decide) ?_
    refine g_if_icmp_ge (tgt := 19) C dX0_kind_7 (by decide) (fun c2 => ?_) (fun c2 => ?_)
    · rw [if_pos c2] at hf
      refine g_bipush (v := (12 : Int32)) C dX0_kind_19 (by decide) ?_
      exact g_iret C dX0_kind_21 (en_finI hf)
    · rw [if_neg c2] at hf
      refine g_aload_n_0 C dX0_kind_10 ?_
      refine gf_X0_22 C dX0_kind_11 ?_
      refine g_iload_n_1 C dX0_kind_14 ?_
      obtain ⟨y3, hy3, hf⟩ := en_bnd hf
      refine gaC_ld_6 C hy3 dX0_kind_15 ?_
      refine g_goto (tgt := 21) C dX0_kind_16 (by decide) ?_
      exact g_iret C dX0_kind_21 (en_finI hf)
set_option maxHeartbeats 4000000 in
set_option maxRecDepth 100000 in
theorem ctC_Code_b {l : Launch} {D : va_G} {K : en_K} {ad : Nat → Nat} (x1 : Int32) (u : Ug) (r0 : Int32) (u0 : Ug) (hf : fC_Code_b x1 u = some (r0, u0)) : CT l D (en_ty K) ad (1) yX0_b cX0_b 2 (some .int) [.ref 3, .int x1] (wdC K u) (en_RI (wdC K) r0 u0) := by
  refine CT.of (by decide) [some (.ref 3), some (.int x1)] rfl (Nat.le_of_ble_eq_true rfl) ?_
  intro p e R s m args below meth c sz C
  unfold fC_Code_b at hf
  refine g_iload_n_1 C dX0_b_0 ?_
  refine g_if_lt (tgt := 19) C dX0_b_1 (by decide) (fun c1 => ?_) (fun c1 => ?_)
  · rw [if_pos c1] at hf
    refine g_iconst (v := (0 : Int32)) C dX0_b_19 (by decide) ?_
    exact g_iret C dX0_b_20 (en_finI hf)
  · rw [if_neg c1] at hf
    refine g_iload_n_1 C dX0_b_4 ?_
    refine g_bipush (v := (96 : Int32)) C dX0_b_5 (by decide) ?_
    refine g_if_icmp_ge (tgt := 19) C dX0_b_7 (by decide) (fun c2 => ?_) (fun c2 => ?_)
    · rw [if_pos c2] at hf
      refine g_iconst (v := (0 : Int32)) C dX0_b_19 (by decide) ?_
      exact g_iret C dX0_b_20 (en_finI hf)
    · rw [if_neg c2] at hf
      refine g_aload_n_0 C dX0_b_10 ?_
      refine gf_X0_28 C dX0_b_11 ?_
      refine g_iload_n_1 C dX0_b_14 ?_
      obtain ⟨y3, hy3, hf⟩ := en_bnd hf
      refine gaC_ld_8 C hy3 dX0_b_15 ?_
      refine g_goto (tgt := 20) C dX0_b_16 (by decide) ?_
      exact g_iret C dX0_b_20 (en_finI hf)
set_option maxHeartbeats 4000000 in
set_option maxRecDepth 100000 in
theorem ctC_Code_a {l : Launch} {D : va_G} {K : en_K} {ad : Nat → Nat} (x1 : Int32) (u : Ug) (r0 : Int32) (u0 : Ug) (hf : fC_Code_a x1 u = some (r0, u0)) : CT l D (en_ty K) ad (1) yX0_a cX0_a 2 (some .int) [.ref 3, .int x1] (wdC K u) (en_RI (wdC K) r0 u0) := by
  refine CT.of (by decide) [some (.ref 3), some (.int x1)] rfl (Nat.le_of_ble_eq_true rfl) ?_
  intro p e R s m args below meth c sz C
  unfold fC_Code_a at hf
  refine g_iload_n_1 C dX0_a_0 ?_
  refine g_if_lt (tgt := 19) C dX0_a_1 (by decide) (fun c1 => ?_) (fun c1 => ?_)
  · rw [if_pos c1] at hf
    refine g_iconst (v := (0 : Int32)) C dX0_a_19 (by decide) ?_
    exact g_iret C dX0_a_20 (en_finI hf)
  · rw [if_neg c1] at hf
    refine g_iload_n_1 C dX0_a_4 ?_
    refine g_bipush (v := (96 : Int32)) C dX0_a_5 (by decide) ?_
    refine g_if_icmp_ge (tgt := 19) C dX0_a_7 (by decide) (fun c2 => ?_) (fun c2 => ?_)
    · rw [if_pos c2] at hf
      refine g_iconst (v := (0 : Int32)) C dX0_a_19 (by decide) ?_
      exact g_iret C dX0_a_20 (en_finI hf)
    · rw [if_neg c2] at hf
      refine g_aload_n_0 C dX0_a_10 ?_
      refine gf_X0_25 C dX0_a_11 ?_
      refine g_iload_n_1 C dX0_a_14 ?_
      obtain ⟨y3, hy3, hf⟩ := en_bnd hf
      refine gaC_ld_7 C hy3 dX0_a_15 ?_
      refine g_goto (tgt := 20) C dX0_a_16 (by decide) ?_
      exact g_iret C dX0_a_20 (en_finI hf)
