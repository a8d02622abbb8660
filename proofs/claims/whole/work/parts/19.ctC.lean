/-! CONTRACTS. -/
set_option maxHeartbeats 4000000 in
set_option maxRecDepth 100000 in
theorem ctC_State_coinsOf {l : Launch} {D : va_G} {K : en_K} {ad : Nat → Nat} (x1 : Int32) (u : Ug) (r0 : Int32) (u0 : Ug) (hf : fC_State_coinsOf x1 u = some (r0, u0)) : CT l D (en_ty K) ad (1) yX6_coinsOf cX6_coinsOf 2 (some .int) [.ref 1, .int x1] (wdC K u) (en_RI (wdC K) r0 u0) := by
  refine CT.of (by decide) [some (.ref 1), some (.int x1)] rfl (Nat.le_of_ble_eq_true rfl) ?_
  intro p e R s m args below meth c sz C
  unfold fC_State_coinsOf at hf
  refine g_iload_n_1 C dX6_coinsOf_0 ?_
  refine g_if_lt (tgt := 19) C dX6_coinsOf_1 (by decide) (fun c1 => ?_) (fun c1 => ?_)
  · rw [if_pos c1] at hf
    refine g_iconst (v := (0 : Int32)) C dX6_coinsOf_19 (by decide) ?_
    exact g_iret C dX6_coinsOf_20 (en_finI hf)
  · rw [if_neg c1] at hf
    refine g_iload_n_1 C dX6_coinsOf_4 ?_
    refine g_bipush (v := (12 : Int32)) C dX6_coinsOf_5 (by decide) ?_
    refine g_if_icmp_ge (tgt := 19) C dX6_coinsOf_7 (by decide) (fun c2 => ?_) (fun c2 => ?_)
    · rw [if_pos c2] at hf
      refine g_iconst (v := (0 : Int32)) C dX6_coinsOf_19 (by decide) ?_
      exact g_iret C dX6_coinsOf_20 (en_finI hf)
    · rw [if_neg c2] at hf
      refine g_aload_n_0 C dX6_coinsOf_10 ?_
      refine gf_X6_11 C dX6_coinsOf_11 ?_
      refine g_iload_n_1 C dX6_coinsOf_14 ?_
      obtain ⟨y3, hy3, hf⟩ := en_bnd hf
      refine gaC_ld_2 C hy3 dX6_coinsOf_15 ?_
      refine g_goto (tgt := 20) C dX6_coinsOf_16 (by decide) ?_
      exact g_iret C dX6_coinsOf_20 (en_finI hf)
set_option maxHeartbeats 4000000 in
set_option maxRecDepth 100000 in
theorem ctC_Scripts_c {l : Launch} {D : va_G} {K : en_K} {ad : Nat → Nat} (x1 : Int32) (u : Ug) (r0 : Int32) (u0 : Ug) (hf : fC_Scripts_c x1 u = some (r0, u0)) : CT l D (en_ty K) ad (1) yX5_c cX5_c 2 (some .int) [.ref 15, .int x1] (wdC K u) (en_RI (wdC K) r0 u0) := by
  refine CT.of (by decide) [some (.ref 15), some (.int x1)] rfl (Nat.le_of_ble_eq_true rfl) ?_
  intro p e R s m args below meth c sz C
  unfold fC_Scripts_c at hf
  refine g_iload_n_1 C dX5_c_0 ?_
  refine g_if_lt (tgt := 19) C dX5_c_1 (by decide) (fun c1 => ?_) (fun c1 => ?_)
  · rw [if_pos c1] at hf
    refine g_iconst (v := (0 : Int32)) C dX5_c_19 (by decide) ?_
    exact g_iret C dX5_c_20 (en_finI hf)
  · rw [if_neg c1] at hf
    refine g_iload_n_1 C dX5_c_4 ?_
    refine g_bipush (v := (96 : Int32)) C dX5_c_5 (by decide) ?_
    refine g_if_icmp_ge (tgt := 19) C dX5_c_7 (by decide) (fun c2 => ?_) (fun c2 => ?_)
    · rw [if_pos c2] at hf
      refine g_iconst (v := (0 : Int32)) C dX5_c_19 (by decide) ?_
      exact g_iret C dX5_c_20 (en_finI hf)
    · rw [if_neg c2] at hf
      refine g_aload_n_0 C dX5_c_10 ?_
      refine gf_X5_24 C dX5_c_11 ?_
      refine g_iload_n_1 C dX5_c_14 ?_
      obtain ⟨y3, hy3, hf⟩ := en_bnd hf
      refine gaC_ld_20 C hy3 dX5_c_15 ?_
      refine g_goto (tgt := 20) C dX5_c_16 (by decide) ?_
      exact g_iret C dX5_c_20 (en_finI hf)
set_option maxHeartbeats 4000000 in
set_option maxRecDepth 100000 in
theorem ctC_Code_isContract {l : Launch} {D : va_G} {K : en_K} {ad : Nat → Nat} (x1 : Int32) (u : Ug) (r0 : Int32) (u0 : Ug) (hf : fC_Code_isContract x1 u = some (r0, u0)) : CT l D (en_ty K) ad (1) yX0_isContract cX0_isContract 2 (some .boolean) [.ref 3, .int x1] (wdC K u) (en_RI (wdC K) r0 u0) := by
  refine CT.of (by decide) [some (.ref 3), some (.int x1)] rfl (Nat.le_of_ble_eq_true rfl) ?_
  intro p e R s m args below meth c sz C
  unfold fC_Code_isContract at hf
  refine g_iload_n_1 C dX0_isContract_0 ?_
  refine g_if_lt (tgt := 16) C dX0_isContract_1 (by decide) (fun c1 => ?_) (fun c1 => ?_)
  · rw [if_pos c1] at hf
    refine g_iconst (v := (0 : Int32)) C dX0_isContract_16 (by decide) ?_
    exact g_zret C rfl dX0_isContract_17 (en_finI hf)
  · rw [if_neg c1] at hf
    refine g_iload_n_1 C dX0_isContract_4 ?_
    refine g_aload_n_0 C dX0_isContract_5 ?_
    refine gf_X0_11 C dX0_isContract_6 ?_
    refine g_if_icmp_ge (tgt := 16) C dX0_isContract_9 (by decide) (fun c2 => ?_) (fun c2 => ?_)
    · rw [if_pos c2] at hf
      refine g_iconst (v := (0 : Int32)) C dX0_isContract_16 (by decide) ?_
      exact g_zret C rfl dX0_isContract_17 (en_finI hf)
    · rw [if_neg c2] at hf
      refine g_iconst (v := (1 : Int32)) C dX0_isContract_12 (by decide) ?_
      refine g_goto (tgt := 17) C dX0_isContract_13 (by decide) ?_
      exact g_zret C rfl dX0_isContract_17 (en_finI hf)
set_option maxHeartbeats 4000000 in
set_option maxRecDepth 100000 in
theorem ctC_Runner_cellIs {l : Launch} {D : va_G} {K : en_K} {ad : Nat → Nat} (x1 : Int32) (x2 : Int32) (x3 : Int32) (u : Ug) (r0 : Int32) (u0 : Ug) (hf : fC_Runner_cellIs x1 x2 x3 u = some (r0, u0)) : CT l D (en_ty K) ad (2) yX4_cellIs cX4_cellIs 4 (some .boolean) [.ref 21, .int x1, .int x2, .int x3] (wdC K u) (en_RI (wdC K) r0 u0) := by
  refine CT.of (by decide) [some (.ref 21), some (.int x1), some (.int x2), some (.int x3)] rfl (Nat.le_of_ble_eq_true rfl) ?_
  intro p e R s m args below meth c sz C
  unfold fC_Runner_cellIs at hf
  refine g_aload_n_0 C dX4_cellIs_0 ?_
  refine gf_X4_38 C dX4_cellIs_1 ?_
  refine g_iload_n_1 C dX4_cellIs_4 ?_
  obtain ⟨q1, hq1, hf⟩ := en_bnd hf
  refine gc_X4_171_C_Code_isContract C (ctC_Code_isContract _ _ q1.1 q1.2 hq1) (by decide) (Nat.le_of_ble_eq_true rfl) dX4_cellIs_5 ?_
  refine g_if_eq (tgt := 35) C dX4_cellIs_8 (by decide) (fun c2 => ?_) (fun c2 => ?_)
  · rw [if_pos c2] at hf
    refine g_iconst (v := (0 : Int32)) C dX4_cellIs_35 (by decide) ?_
    exact g_zret C rfl dX4_cellIs_36 (en_finI hf)
  · rw [if_neg c2] at hf
    refine g_iload_n_2 C dX4_cellIs_11 ?_
    obtain ⟨q3, hq3, hf⟩ := en_bnd hf
    refine gc_X4_174_C_State_isCell C (ctC_State_isCell _ _ q3.1 q3.2 hq3) (by decide) (Nat.le_of_ble_eq_true rfl) dX4_cellIs_12 ?_
    refine g_if_eq (tgt := 35) C dX4_cellIs_15 (by decide) (fun c4 => ?_) (fun c4 => ?_)
    · rw [if_pos c4] at hf
      refine g_iconst (v := (0 : Int32)) C dX4_cellIs_35 (by decide) ?_
      exact g_zret C rfl dX4_cellIs_36 (en_finI hf)
    · rw [if_neg c4] at hf
      refine g_aload_n_0 C dX4_cellIs_18 ?_
      refine gf_X4_34 C dX4_cellIs_19 ?_
      refine g_iload_n_1 C dX4_cellIs_22 ?_
      refine g_iload_n_2 C dX4_cellIs_23 ?_
      obtain ⟨q5, hq5, hf⟩ := en_bnd hf
      refine gc_X4_177_C_State_cellOf C (ctC_State_cellOf _ _ _ q5.1 q5.2 hq5) (by decide) (Nat.le_of_ble_eq_true rfl) dX4_cellIs_24 ?_
      refine g_iload_n_3 C dX4_cellIs_27 ?_
      refine g_if_icmp_ne (tgt := 35) C dX4_cellIs_28 (by decide) (fun c6 => ?_) (fun c6 => ?_)
      · rw [if_neg c6] at hf
        refine g_iconst (v := (0 : Int32)) C dX4_cellIs_35 (by decide) ?_
        exact g_zret C rfl dX4_cellIs_36 (en_finI hf)
      · rw [if_pos c6] at hf
        refine g_iconst (v := (1 : Int32)) C dX4_cellIs_31 (by decide) ?_
        refine g_goto (tgt := 36) C dX4_cellIs_32 (by decide) ?_
        exact g_zret C rfl dX4_cellIs_36 (en_finI hf)
set_option maxHeartbeats 4000000 in
set_option maxRecDepth 100000 in
theorem ctC_State_eventAt {l : Launch} {D : va_G} {K : en_K} {ad : Nat → Nat} (x1 : Int32) (u : Ug) (r0 : Int32) (u0 : Ug) (hf : fC_State_eventAt x1 u = some (r0, u0)) : CT l D (en_ty K) ad (1) yX6_eventAt cX6_eventAt 3 (some .int) [.ref 1, .int x1] (wdC K u) (en_RI (wdC K) r0 u0) := by
  refine CT.of (by decide) [some (.ref 1), some (.int x1), none] rfl (Nat.le_of_ble_eq_true rfl) ?_
  intro p e R s m args below meth c sz C
  unfold fC_State_eventAt at hf
  refine g_iload_n_1 C dX6_eventAt_0 ?_
  refine g_if_lt (tgt := 25) C dX6_eventAt_1 (by decide) (fun c1 => ?_) (fun c1 => ?_)
  · rw [if_pos c1] at hf
    refine g_iconst (v := (0 : Int32)) C dX6_eventAt_25 (by decide) ?_
    refine g_istore_n_2 C dX6_eventAt_26 (by decide) rfl ?_
    refine g_iload_n_2 C dX6_eventAt_27 ?_
    refine g_if_eq (tgt := 43) C dX6_eventAt_28 (by decide) (fun _ => ?_) (fun q => absurd q (by decide))
    refine g_iconst (v := (0 : Int32)) C dX6_eventAt_43 (by decide) ?_
    exact g_iret C dX6_eventAt_44 (en_finI hf)
  · rw [if_neg c1] at hf
    refine g_iload_n_1 C dX6_eventAt_4 ?_
    refine g_bipush (v := (40 : Int32)) C dX6_eventAt_5 (by decide) ?_
    refine g_if_icmp_ge (tgt := 25) C dX6_eventAt_7 (by decide) (fun c2 => ?_) (fun c2 => ?_)
    · rw [if_pos c2] at hf
      refine g_iconst (v := (0 : Int32)) C dX6_eventAt_25 (by decide) ?_
      refine g_istore_n_2 C dX6_eventAt_26 (by decide) rfl ?_
      refine g_iload_n_2 C dX6_eventAt_27 ?_
      refine g_if_eq (tgt := 43) C dX6_eventAt_28 (by decide) (fun _ => ?_) (fun q => absurd q (by decide))
      refine g_iconst (v := (0 : Int32)) C dX6_eventAt_43 (by decide) ?_
      exact g_iret C dX6_eventAt_44 (en_finI hf)
    · rw [if_neg c2] at hf
      refine g_iload_n_1 C dX6_eventAt_10 ?_
      refine g_aload_n_0 C dX6_eventAt_11 ?_
      refine gf_X6_11 C dX6_eventAt_12 ?_
      refine g_bipush (v := (29 : Int32)) C dX6_eventAt_15 (by decide) ?_
      obtain ⟨y3, hy3, hf⟩ := en_bnd hf
      refine gaC_ld_2 C hy3 dX6_eventAt_17 ?_
      refine g_if_icmp_ge (tgt := 25) C dX6_eventAt_18 (by decide) (fun c4 => ?_) (fun c4 => ?_)
      · rw [if_pos c4] at hf
        refine g_iconst (v := (0 : Int32)) C dX6_eventAt_25 (by decide) ?_
        refine g_istore_n_2 C dX6_eventAt_26 (by decide) rfl ?_
        refine g_iload_n_2 C dX6_eventAt_27 ?_
        refine g_if_eq (tgt := 43) C dX6_eventAt_28 (by decide) (fun _ => ?_) (fun q => absurd q (by decide))
        refine g_iconst (v := (0 : Int32)) C dX6_eventAt_43 (by decide) ?_
        exact g_iret C dX6_eventAt_44 (en_finI hf)
      · rw [if_neg c4] at hf
        refine g_iconst (v := (1 : Int32)) C dX6_eventAt_21 (by decide) ?_
        refine g_goto (tgt := 26) C dX6_eventAt_22 (by decide) ?_
        refine g_istore_n_2 C dX6_eventAt_26 (by decide) rfl ?_
        refine g_iload_n_2 C dX6_eventAt_27 ?_
        refine g_if_eq (tgt := 43) C dX6_eventAt_28 (by decide) (fun q => absurd q (by decide)) (fun _ => ?_)
        refine g_aload_n_0 C dX6_eventAt_31 ?_
        refine gf_X6_11 C dX6_eventAt_32 ?_
        refine g_bipush (v := (30 : Int32)) C dX6_eventAt_35 (by decide) ?_
        refine g_iload_n_1 C dX6_eventAt_37 ?_
        refine g_iadd C dX6_eventAt_38 ?_
        obtain ⟨y5, hy5, hf⟩ := en_bnd hf
        refine gaC_ld_2 C hy5 dX6_eventAt_39 ?_
        refine g_goto (tgt := 44) C dX6_eventAt_40 (by decide) ?_
        exact g_iret C dX6_eventAt_44 (en_finI hf)
set_option maxHeartbeats 4000000 in
set_option maxRecDepth 100000 in
theorem ctC_Runner_eventIs {l : Launch} {D : va_G} {K : en_K} {ad : Nat → Nat} (x1 : Int32) (x2 : Int32) (u : Ug) (r0 : Int32) (u0 : Ug) (hf : fC_Runner_eventIs x1 x2 u = some (r0, u0)) : CT l D (en_ty K) ad (2) yX4_eventIs cX4_eventIs 3 (some .boolean) [.ref 21, .int x1, .int x2] (wdC K u) (en_RI (wdC K) r0 u0) := by
  refine CT.of (by decide) [some (.ref 21), some (.int x1), some (.int x2)] rfl (Nat.le_of_ble_eq_true rfl) ?_
  intro p e R s m args below meth c sz C
  unfold fC_Runner_eventIs at hf
  refine g_iload_n_1 C dX4_eventIs_0 ?_
  refine g_if_lt (tgt := 41) C dX4_eventIs_1 (by decide) (fun c1 => ?_) (fun c1 => ?_)
  · rw [if_pos c1] at hf
    refine g_iconst (v := (0 : Int32)) C dX4_eventIs_41 (by decide) ?_
    exact g_zret C rfl dX4_eventIs_42 (en_finI hf)
  · rw [if_neg c1] at hf
    refine g_iload_n_1 C dX4_eventIs_4 ?_
    refine g_aload_n_0 C dX4_eventIs_5 ?_
    refine gf_X4_34 C dX4_eventIs_6 ?_
    obtain ⟨q2, hq2, hf⟩ := en_bnd hf
    refine gc_X4_90_C_State_eventCount C (ctC_State_eventCount _ q2.1 q2.2 hq2) (by decide) (Nat.le_of_ble_eq_true rfl) dX4_eventIs_9 ?_
    refine g_aload_n_0 C dX4_eventIs_12 ?_
    refine gf_X4_27 C dX4_eventIs_13 ?_
    refine g_isub C dX4_eventIs_16 ?_
    refine g_if_icmp_ge (tgt := 41) C dX4_eventIs_17 (by decide) (fun c3 => ?_) (fun c3 => ?_)
    · rw [if_pos c3] at hf
      refine g_iconst (v := (0 : Int32)) C dX4_eventIs_41 (by decide) ?_
      exact g_zret C rfl dX4_eventIs_42 (en_finI hf)
    · rw [if_neg c3] at hf
      refine g_aload_n_0 C dX4_eventIs_20 ?_
      refine gf_X4_34 C dX4_eventIs_21 ?_
      refine g_aload_n_0 C dX4_eventIs_24 ?_
      refine gf_X4_27 C dX4_eventIs_25 ?_
      refine g_iload_n_1 C dX4_eventIs_28 ?_
      refine g_iadd C dX4_eventIs_29 ?_
      obtain ⟨q4, hq4, hf⟩ := en_bnd hf
      refine gc_X4_180_C_State_eventAt C (ctC_State_eventAt _ _ q4.1 q4.2 hq4) (by decide) (Nat.le_of_ble_eq_true rfl) dX4_eventIs_30 ?_
      refine g_iload_n_2 C dX4_eventIs_33 ?_
      refine g_if_icmp_ne (tgt := 41) C dX4_eventIs_34 (by decide) (fun c5 => ?_) (fun c5 => ?_)
      · rw [if_neg c5] at hf
        refine g_iconst (v := (0 : Int32)) C dX4_eventIs_41 (by decide) ?_
        exact g_zret C rfl dX4_eventIs_42 (en_finI hf)
      · rw [if_pos c5] at hf
        refine g_iconst (v := (1 : Int32)) C dX4_eventIs_37 (by decide) ?_
        refine g_goto (tgt := 42) C dX4_eventIs_38 (by decide) ?_
        exact g_zret C rfl dX4_eventIs_42 (en_finI hf)
set_option maxHeartbeats 4000000 in
set_option maxRecDepth 100000 in
theorem ctC_State_allCoins {l : Launch} {D : va_G} {K : en_K} {ad : Nat → Nat} (u : Ug) (r0 : Int64) (u0 : Ug) (hf : fC_State_allCoins u = some (r0, u0)) : CT l D (en_ty K) ad (1) yX6_allCoins cX6_allCoins 4 (some .long) [.ref 1] (wdC K u) (en_RL (wdC K) r0 u0) := by
  refine CT.of (by decide) [some (.ref 1), none, none, none] rfl (Nat.le_of_ble_eq_true rfl) ?_
  intro p e R s m args below meth c sz C
  have L : ∀ n : Nat, (∀ (v1 : Int64) (v3 : Int32) (w : Ug), (kC_State_allCoins n) v1 v3 w = some (r0, u0) → G p l e R s m args below meth c D (va_A (en_ws ad (wdC K u)) sz) 4 ad 0 0 (en_Q below D (en_ty K) ad (wdC K u) sz (en_RL (wdC K) r0 u0) args s) 4 [some (.ref 1), some (.long v1), none, some (.int v3)] [] (wdC K w)) := by
    intro n
    induction n with
    | zero => exact fun _ _ _ hf => absurd hf (by intro q; cases q)
    | succ n ih =>
      intro v1 v3 u hf
      have hf : sC_State_allCoins_4 (kC_State_allCoins n) v1 v3 u = some (r0, u0) := hf
      unfold sC_State_allCoins_4 at hf
      refine g_iload_n_3 C dX6_allCoins_4 ?_
      refine g_bipush (v := (12 : Int32)) C dX6_allCoins_5 (by decide) ?_
      refine g_if_icmp_ge (tgt := 26) C dX6_allCoins_7 (by decide) (fun c1 => ?_) (fun c1 => ?_)
      · rw [if_pos c1] at hf
        refine g_lload_n_1 C dX6_allCoins_26 ?_
        exact g_lret C dX6_allCoins_27 (en_finL hf)
      · rw [if_neg c1] at hf
        refine g_lload_n_1 C dX6_allCoins_10 ?_
        refine g_aload_n_0 C dX6_allCoins_11 ?_
        refine gf_X6_11 C dX6_allCoins_12 ?_
        refine g_iload_n_3 C dX6_allCoins_15 ?_
        obtain ⟨y2, hy2, hf⟩ := en_bnd hf
        refine gaC_ld_2 C hy2 dX6_allCoins_16 ?_
        refine g_i2l C dX6_allCoins_17 ?_
        refine g_ladd C dX6_allCoins_18 ?_
        refine g_lstore_n_1 C dX6_allCoins_19 (by decide) rfl ?_
        refine g_iinc_3 (z := (1 : Int32)) C dX6_allCoins_20 (by decide) (by decide) rfl ?_
        refine g_goto (tgt := 4) C dX6_allCoins_23 (by decide) ?_
        exact g_weak (ih _ _ _ hf) (And.intro rfl (And.intro rfl (And.intro rfl trivial)))
  unfold fC_State_allCoins at hf
  refine g_lconst (v := (0 : Int64)) C dX6_allCoins_0 (by decide) ?_
  refine g_lstore_n_1 C dX6_allCoins_1 (by decide) rfl ?_
  refine g_iconst (v := (0 : Int32)) C dX6_allCoins_2 (by decide) ?_
  refine g_istore_n_3 C dX6_allCoins_3 (by decide) rfl ?_
  exact g_weak ((L _) _ _ _ hf) (And.intro rfl (And.intro rfl (And.intro rfl trivial)))
set_option maxHeartbeats 4000000 in
set_option maxRecDepth 100000 in
theorem ctC_Runner_isFork {l : Launch} {D : va_G} {K : en_K} {ad : Nat → Nat} (x1 : Int32) (u : Ug) (r0 : Int32) (u0 : Ug) (hf : fC_Runner_isFork x1 u = some (r0, u0)) : CT l D (en_ty K) ad (1) yX4_isFork cX4_isFork 1 (some .boolean) [.int x1] (wdC K u) (en_RI (wdC K) r0 u0) := by
  refine CT.of (by decide) [some (.int x1)] rfl (Nat.le_of_ble_eq_true rfl) ?_
  intro p e R s m args below meth c sz C
  unfold fC_Runner_isFork at hf
  refine g_iload_n_0 C dX4_isFork_0 ?_
  refine g_if_lt (tgt := 13) C dX4_isFork_1 (by decide) (fun c1 => ?_) (fun c1 => ?_)
  · rw [if_pos c1] at hf
    refine g_iconst (v := (0 : Int32)) C dX4_isFork_13 (by decide) ?_
    exact g_zret C rfl dX4_isFork_14 (en_finI hf)
  · rw [if_neg c1] at hf
    refine g_iload_n_0 C dX4_isFork_4 ?_
    refine g_iconst (v := (3 : Int32)) C dX4_isFork_5 (by decide) ?_
    refine g_if_icmp_ge (tgt := 13) C dX4_isFork_6 (by decide) (fun c2 => ?_) (fun c2 => ?_)
    · rw [if_pos c2] at hf
      refine g_iconst (v := (0 : Int32)) C dX4_isFork_13 (by decide) ?_
      exact g_zret C rfl dX4_isFork_14 (en_finI hf)
    · rw [if_neg c2] at hf
      refine g_iconst (v := (1 : Int32)) C dX4_isFork_9 (by decide) ?_
      refine g_goto (tgt := 14) C dX4_isFork_10 (by decide) ?_
      exact g_zret C rfl dX4_isFork_14 (en_finI hf)
set_option maxHeartbeats 4000000 in
set_option maxRecDepth 100000 in
theorem ctC_Runner_keepsFork {l : Launch} {D : va_G} {K : en_K} {ad : Nat → Nat} (x1 : Int32) (u : Ug) (r0 : Int32) (u0 : Ug) (hf : fC_Runner_keepsFork x1 u = some (r0, u0)) : CT l D (en_ty K) ad (2) yX4_keepsFork cX4_keepsFork 2 (some .boolean) [.ref 21, .int x1] (wdC K u) (en_RI (wdC K) r0 u0) := by
  refine CT.of (by decide) [some (.ref 21), some (.int x1)] rfl (Nat.le_of_ble_eq_true rfl) ?_
  intro p e R s m args below meth c sz C
  unfold fC_Runner_keepsFork at hf
  refine g_iload_n_1 C dX4_keepsFork_0 ?_
  obtain ⟨q1, hq1, hf⟩ := en_bnd hf
  refine gc_X4_183_C_Runner_isFork C (ctC_Runner_isFork _ _ q1.1 q1.2 hq1) (by decide) (Nat.le_of_ble_eq_true rfl) dX4_keepsFork_1 ?_
  refine g_if_ne (tgt := 9) C dX4_keepsFork_4 (by decide) (fun c2 => ?_) (fun c2 => ?_)
  · rw [if_neg c2] at hf
    refine g_aload_n_0 C dX4_keepsFork_9 ?_
    refine g_dup C dX4_keepsFork_10 rfl ?_
    refine gf_X4_24 C dX4_keepsFork_11 ?_
    refine g_iconst (v := (1 : Int32)) C dX4_keepsFork_14 (by decide) ?_
    refine g_iload_n_1 C dX4_keepsFork_15 ?_
    refine g_ishl C dX4_keepsFork_16 ?_
    refine g_ior C dX4_keepsFork_17 ?_
    obtain ⟨u3, hu3, hf⟩ := en_bnd hf
    refine gp_X4_24 C hu3 dX4_keepsFork_18 ?_
    refine g_aload_n_0 C dX4_keepsFork_21 ?_
    refine gf_X4_34 C dX4_keepsFork_22 ?_
    refine g_aload_n_0 C dX4_keepsFork_25 ?_
    refine gf_X4_13 C dX4_keepsFork_26 ?_
    refine g_iload_n_1 C dX4_keepsFork_29 ?_
    obtain ⟨q4, hq4, hf⟩ := en_bnd hf
    refine gc_X4_87_C_State_keepIn_22 C (ctC_State_keepIn_22 _ _ q4.1 q4.2 hq4) (by decide) (Nat.le_of_ble_eq_true rfl) dX4_keepsFork_30 ?_
    obtain ⟨hz, hf⟩ := en_ite hf
    exact g_zret C hz dX4_keepsFork_33 (en_finI hf)
  · rw [if_pos c2] at hf
    refine g_iconst (v := (0 : Int32)) C dX4_keepsFork_7 (by decide) ?_
    exact g_zret C rfl dX4_keepsFork_8 (en_finI hf)
set_option maxHeartbeats 4000000 in
set_option maxRecDepth 100000 in
theorem ctC_Runner_goesBack {l : Launch} {D : va_G} {K : en_K} {ad : Nat → Nat} (x1 : Int32) (u : Ug) (r0 : Int32) (u0 : Ug) (hf : fC_Runner_goesBack x1 u = some (r0, u0)) : CT l D (en_ty K) ad (2) yX4_goesBack cX4_goesBack 2 (some .boolean) [.ref 21, .int x1] (wdC K u) (en_RI (wdC K) r0 u0) := by
  refine CT.of (by decide) [some (.ref 21), some (.int x1)] rfl (Nat.le_of_ble_eq_true rfl) ?_
  intro p e R s m args below meth c sz C
  unfold fC_Runner_goesBack at hf
  refine g_iload_n_1 C dX4_goesBack_0 ?_
  obtain ⟨q1, hq1, hf⟩ := en_bnd hf
  refine gc_X4_183_C_Runner_isFork C (ctC_Runner_isFork _ _ q1.1 q1.2 hq1) (by decide) (Nat.le_of_ble_eq_true rfl) dX4_goesBack_1 ?_
  refine g_if_eq (tgt := 38) C dX4_goesBack_4 (by decide) (fun c2 => ?_) (fun c2 => ?_)
  · rw [if_pos c2] at hf
    refine g_iconst (v := (0 : Int32)) C dX4_goesBack_38 (by decide) ?_
    exact g_zret C rfl dX4_goesBack_39 (en_finI hf)
  · rw [if_neg c2] at hf
    refine g_aload_n_0 C dX4_goesBack_7 ?_
    refine gf_X4_24 C dX4_goesBack_8 ?_
    refine g_iload_n_1 C dX4_goesBack_11 ?_
    refine g_ishr C dX4_goesBack_12 ?_
    refine g_iconst (v := (1 : Int32)) C dX4_goesBack_13 (by decide) ?_
    refine g_iand C dX4_goesBack_14 ?_
    refine g_iconst (v := (1 : Int32)) C dX4_goesBack_15 (by decide) ?_
    refine g_if_icmp_ne (tgt := 38) C dX4_goesBack_16 (by decide) (fun c3 => ?_) (fun c3 => ?_)
    · rw [if_neg c3] at hf
      refine g_iconst (v := (0 : Int32)) C dX4_goesBack_38 (by decide) ?_
      exact g_zret C rfl dX4_goesBack_39 (en_finI hf)
    · rw [if_pos c3] at hf
      refine g_aload_n_0 C dX4_goesBack_19 ?_
      refine gf_X4_34 C dX4_goesBack_20 ?_
      refine g_aload_n_0 C dX4_goesBack_23 ?_
      refine gf_X4_13 C dX4_goesBack_24 ?_
      refine g_iload_n_1 C dX4_goesBack_27 ?_
      obtain ⟨q4, hq4, hf⟩ := en_bnd hf
      refine gc_X4_83_C_State_bringFrom_22 C (ctC_State_bringFrom_22 _ _ q4.1 q4.2 hq4) (by decide) (Nat.le_of_ble_eq_true rfl) dX4_goesBack_28 ?_
      refine g_if_eq (tgt := 38) C dX4_goesBack_31 (by decide) (fun c5 => ?_) (fun c5 => ?_)
      · rw [if_pos c5] at hf
        refine g_iconst (v := (0 : Int32)) C dX4_goesBack_38 (by decide) ?_
        exact g_zret C rfl dX4_goesBack_39 (en_finI hf)
      · rw [if_neg c5] at hf
        refine g_iconst (v := (1 : Int32)) C dX4_goesBack_34 (by decide) ?_
        refine g_goto (tgt := 39) C dX4_goesBack_35 (by decide) ?_
        exact g_zret C rfl dX4_goesBack_39 (en_finI hf)
set_option maxHeartbeats 4000000 in
set_option maxRecDepth 100000 in
theorem ctC_Faces_putDouble {l : Launch} {D : va_G} {K : en_K} {ad : Nat → Nat} (x1 : Int32) (x2 : Int32) (x3 : Int32) (u : Ug) (r0 : Int32) (u0 : Ug) (hf : fC_Faces_putDouble x1 x2 x3 u = some (r0, u0)) : CT l D (en_ty K) ad (1) yX1_putDouble cX1_putDouble 4 (some .boolean) [.ref 9, .int x1, .int x2, .int x3] (wdC K u) (en_RI (wdC K) r0 u0) := by
  refine CT.of (by decide) [some (.ref 9), some (.int x1), some (.int x2), some (.int x3)] rfl (Nat.le_of_ble_eq_true rfl) ?_
  intro p e R s m args below meth c sz C
  unfold fC_Faces_putDouble at hf
  refine g_iload_n_1 C dX1_putDouble_0 ?_
  refine g_if_lt (tgt := 9) C dX1_putDouble_1 (by decide) (fun c1 => ?_) (fun c1 => ?_)
  · rw [if_pos c1] at hf
    refine g_iconst (v := (0 : Int32)) C dX1_putDouble_9 (by decide) ?_
    exact g_zret C rfl dX1_putDouble_10 (en_finI hf)
  · rw [if_neg c1] at hf
    refine g_iload_n_1 C dX1_putDouble_4 ?_
    refine g_iconst (v := (4 : Int32)) C dX1_putDouble_5 (by decide) ?_
    refine g_if_icmp_lt (tgt := 11) C dX1_putDouble_6 (by decide) (fun c2 => ?_) (fun c2 => ?_)
    · rw [if_pos c2] at hf
      refine g_aload_n_0 C dX1_putDouble_11 ?_
      refine gf_X1_13 C dX1_putDouble_12 ?_
      refine g_iload_n_1 C dX1_putDouble_15 ?_
      refine g_iload_n_2 C dX1_putDouble_16 ?_
      obtain ⟨u3, hu3, hf⟩ := en_bnd hf
      refine gaC_st_11 C hu3 dX1_putDouble_17 ?_
      refine g_aload_n_0 C dX1_putDouble_18 ?_
      refine gf_X1_16 C dX1_putDouble_19 ?_
      refine g_iload_n_1 C dX1_putDouble_22 ?_
      refine g_iload_n_3 C dX1_putDouble_23 ?_
      obtain ⟨u4, hu4, hf⟩ := en_bnd hf
      refine gaC_st_12 C hu4 dX1_putDouble_24 ?_
      refine g_iconst (v := (1 : Int32)) C dX1_putDouble_25 (by decide) ?_
      exact g_zret C rfl dX1_putDouble_26 (en_finI hf)
    · rw [if_neg c2] at hf
      refine g_iconst (v := (0 : Int32)) C dX1_putDouble_9 (by decide) ?_
      exact g_zret C rfl dX1_putDouble_10 (en_finI hf)
set_option maxHeartbeats 4000000 in
set_option maxRecDepth 100000 in
theorem ctC_Runner_faceFails {l : Launch} {D : va_G} {K : en_K} {ad : Nat → Nat} (x1 : Int32) (x2 : Int32) (u : Ug) (r0 : Int32) (u0 : Ug) (hf : fC_Runner_faceFails x1 x2 u = some (r0, u0)) : CT l D (en_ty K) ad (2) yX4_faceFails cX4_faceFails 3 (some .boolean) [.ref 21, .int x1, .int x2] (wdC K u) (en_RI (wdC K) r0 u0) := by
  refine CT.of (by decide) [some (.ref 21), some (.int x1), some (.int x2)] rfl (Nat.le_of_ble_eq_true rfl) ?_
  intro p e R s m args below meth c sz C
  unfold fC_Runner_faceFails at hf
  refine g_iload_n_2 C dX4_faceFails_0 ?_
  refine g_if_lt (tgt := 26) C dX4_faceFails_1 (by decide) (fun c1 => ?_) (fun c1 => ?_)
  · rw [if_pos c1] at hf
    refine g_iconst (v := (0 : Int32)) C dX4_faceFails_26 (by decide) ?_
    exact g_zret C rfl dX4_faceFails_27 (en_finI hf)
  · rw [if_neg c1] at hf
    refine g_iload_n_2 C dX4_faceFails_4 ?_
    refine g_iconst (v := (5 : Int32)) C dX4_faceFails_5 (by decide) ?_
    refine g_if_icmp_gt (tgt := 26) C dX4_faceFails_6 (by decide) (fun c2 => ?_) (fun c2 => ?_)
    · rw [if_pos c2] at hf
      refine g_iconst (v := (0 : Int32)) C dX4_faceFails_26 (by decide) ?_
      exact g_zret C rfl dX4_faceFails_27 (en_finI hf)
    · rw [if_neg c2] at hf
      refine g_aload_n_0 C dX4_faceFails_9 ?_
      refine gf_X4_42 C dX4_faceFails_10 ?_
      refine g_iload_n_1 C dX4_faceFails_13 ?_
      refine g_iconst (v := (2 : Int32)) C dX4_faceFails_14 (by decide) ?_
      refine g_iload_n_2 C dX4_faceFails_15 ?_
      obtain ⟨q3, hq3, hf⟩ := en_bnd hf
      refine gc_X4_159_C_Faces_putDouble C (ctC_Faces_putDouble _ _ _ _ q3.1 q3.2 hq3) (by decide) (Nat.le_of_ble_eq_true rfl) dX4_faceFails_16 ?_
      refine g_if_eq (tgt := 26) C dX4_faceFails_19 (by decide) (fun c4 => ?_) (fun c4 => ?_)
      · rw [if_pos c4] at hf
        refine g_iconst (v := (0 : Int32)) C dX4_faceFails_26 (by decide) ?_
        exact g_zret C rfl dX4_faceFails_27 (en_finI hf)
      · rw [if_neg c4] at hf
        refine g_iconst (v := (1 : Int32)) C dX4_faceFails_22 (by decide) ?_
        refine g_goto (tgt := 27) C dX4_faceFails_23 (by decide) ?_
        exact g_zret C rfl dX4_faceFails_27 (en_finI hf)
set_option maxHeartbeats 4000000 in
set_option maxRecDepth 100000 in
theorem ctC_Runner_asTold {l : Launch} {D : va_G} {K : en_K} {ad : Nat → Nat} (x1 : Int32) (u : Ug) (r0 : Int32) (u0 : Ug) (hf : fC_Runner_asTold x1 u = some (r0, u0)) : CT l D (en_ty K) ad (3) yX4_asTold cX4_asTold 4 (some .boolean) [.ref 21, .int x1] (wdC K u) (en_RI (wdC K) r0 u0) := by
  refine CT.of (by decide) [some (.ref 21), some (.int x1), none, none] rfl (Nat.le_of_ble_eq_true rfl) ?_
  intro p e R s m args below meth c sz C
  unfold fC_Runner_asTold at hf
  refine g_aload_n_0 C dX4_asTold_0 ?_
  refine gf_X4_50 C dX4_asTold_1 ?_
  refine g_iload_n_1 C dX4_asTold_4 ?_
  obtain ⟨q1, hq1, hf⟩ := en_bnd hf
  refine gc_X4_94_C_Scripts_a C (ctC_Scripts_a _ _ q1.1 q1.2 hq1) (by decide) (Nat.le_of_ble_eq_true rfl) dX4_asTold_5 ?_
  refine g_istore_n_2 C dX4_asTold_8 (by decide) rfl ?_
  refine g_aload_n_0 C dX4_asTold_9 ?_
  refine gf_X4_50 C dX4_asTold_10 ?_
  refine g_iload_n_1 C dX4_asTold_13 ?_
  obtain ⟨q2, hq2, hf⟩ := en_bnd hf
  refine gc_X4_97_C_Scripts_b C (ctC_Scripts_b _ _ q2.1 q2.2 hq2) (by decide) (Nat.le_of_ble_eq_true rfl) dX4_asTold_14 ?_
  refine g_istore_n_3 C dX4_asTold_17 (by decide) rfl ?_
  refine g_aload_n_0 C dX4_asTold_18 ?_
  refine gf_X4_50 C dX4_asTold_19 ?_
  refine g_iload_n_1 C dX4_asTold_22 ?_
  obtain ⟨q3, hq3, hf⟩ := en_bnd hf
  refine gc_X4_67_C_Scripts_word C (ctC_Scripts_word _ _ q3.1 q3.2 hq3) (by decide) (Nat.le_of_ble_eq_true rfl) dX4_asTold_23 ?_
  rcases Decidable.em (q3.1 = (0 : Int32)) with s26_0 | s26_0
  · rw [if_pos s26_0] at hf
    refine g_tsw (z := (0 : Int32)) (tgt := 96) C dX4_asTold_26 s26_0 (by decide) (by decide) rfl (by decide) ?_
    refine g_aload_n_0 C dX4_asTold_96 ?_
    refine g_iload_n_2 C dX4_asTold_97 ?_
    refine g_iload_n_3 C dX4_asTold_98 ?_
    obtain ⟨q4, hq4, hf⟩ := en_bnd hf
    refine gc_X4_121_C_Runner_callsAreBy C (ctC_Runner_callsAreBy _ _ _ q4.1 q4.2 hq4) (by decide) (Nat.le_of_ble_eq_true rfl) dX4_asTold_99 ?_
    obtain ⟨hz, hf⟩ := en_ite hf
    exact g_zret C hz dX4_asTold_102 (en_finI hf)
  rw [if_neg s26_0] at hf
  rcases Decidable.em (q3.1 = (2 : Int32)) with s26_2 | s26_2
  · rw [if_pos s26_2] at hf
    refine g_tsw (z := (2 : Int32)) (tgt := 103) C dX4_asTold_26 s26_2 (by decide) (by decide) rfl (by decide) ?_
    refine g_aload_n_0 C dX4_asTold_103 ?_
    refine gf_X4_30 C dX4_asTold_104 ?_
    refine g_if_eq (tgt := 135) C dX4_asTold_107 (by decide) (fun c5 => ?_) (fun c5 => ?_)
    · rw [if_pos c5] at hf
      refine g_iconst (v := (0 : Int32)) C dX4_asTold_135 (by decide) ?_
      exact g_zret C rfl dX4_asTold_136 (en_finI hf)
    · rw [if_neg c5] at hf
      refine g_aload_n_0 C dX4_asTold_110 ?_
      refine gf_X4_46 C dX4_asTold_111 ?_
      obtain ⟨q6, hq6, hf⟩ := en_bnd hf
      refine gc_X4_114_C_Machine_threw C (ctC_Machine_threw _ q6.1 q6.2 hq6) (by decide) (Nat.le_of_ble_eq_true rfl) dX4_asTold_114 ?_
      refine g_if_ne (tgt := 135) C dX4_asTold_117 (by decide) (fun c7 => ?_) (fun c7 => ?_)
      · rw [if_neg c7] at hf
        refine g_iconst (v := (0 : Int32)) C dX4_asTold_135 (by decide) ?_
        exact g_zret C rfl dX4_asTold_136 (en_finI hf)
      · rw [if_pos c7] at hf
        refine g_aload_n_0 C dX4_asTold_120 ?_
        refine gf_X4_46 C dX4_asTold_121 ?_
        obtain ⟨q8, hq8, hf⟩ := en_bnd hf
        refine gc_X4_125_C_Machine_answered C (ctC_Machine_answered _ q8.1 q8.2 hq8) (by decide) (Nat.le_of_ble_eq_true rfl) dX4_asTold_124 ?_
        refine g_iload_n_2 C dX4_asTold_127 ?_
        refine g_if_icmp_ne (tgt := 135) C dX4_asTold_128 (by decide) (fun c9 => ?_) (fun c9 => ?_)
        · rw [if_neg c9] at hf
          refine g_iconst (v := (0 : Int32)) C dX4_asTold_135 (by decide) ?_
          exact g_zret C rfl dX4_asTold_136 (en_finI hf)
        · rw [if_pos c9] at hf
          refine g_iconst (v := (1 : Int32)) C dX4_asTold_131 (by decide) ?_
          refine g_goto (tgt := 136) C dX4_asTold_132 (by decide) ?_
          exact g_zret C rfl dX4_asTold_136 (en_finI hf)
  rw [if_neg s26_2] at hf
  rcases Decidable.em (q3.1 = (3 : Int32)) with s26_3 | s26_3
  · rw [if_pos s26_3] at hf
    refine g_tsw (z := (3 : Int32)) (tgt := 137) C dX4_asTold_26 s26_3 (by decide) (by decide) rfl (by decide) ?_
    refine g_aload_n_0 C dX4_asTold_137 ?_
    refine gf_X4_30 C dX4_asTold_138 ?_
    refine g_if_eq (tgt := 157) C dX4_asTold_141 (by decide) (fun c10 => ?_) (fun c10 => ?_)
    · rw [if_pos c10] at hf
      refine g_iconst (v := (0 : Int32)) C dX4_asTold_157 (by decide) ?_
      exact g_zret C rfl dX4_asTold_158 (en_finI hf)
    · rw [if_neg c10] at hf
      refine g_aload_n_0 C dX4_asTold_144 ?_
      refine g_iload_n_2 C dX4_asTold_145 ?_
      refine g_iload_n_3 C dX4_asTold_146 ?_
      obtain ⟨q11, hq11, hf⟩ := en_bnd hf
      refine gc_X4_128_C_Runner_threwThat C (ctC_Runner_threwThat _ _ _ q11.1 q11.2 hq11) (by decide) (Nat.le_of_ble_eq_true rfl) dX4_asTold_147 ?_
      refine g_if_eq (tgt := 157) C dX4_asTold_150 (by decide) (fun c12 => ?_) (fun c12 => ?_)
      · rw [if_pos c12] at hf
        refine g_iconst (v := (0 : Int32)) C dX4_asTold_157 (by decide) ?_
        exact g_zret C rfl dX4_asTold_158 (en_finI hf)
      · rw [if_neg c12] at hf
        refine g_iconst (v := (1 : Int32)) C dX4_asTold_153 (by decide) ?_
        refine g_goto (tgt := 158) C dX4_asTold_154 (by decide) ?_
        exact g_zret C rfl dX4_asTold_158 (en_finI hf)
  rw [if_neg s26_3] at hf
  rcases Decidable.em (q3.1 = (4 : Int32)) with s26_4 | s26_4
  · rw [if_pos s26_4] at hf
    refine g_tsw (z := (4 : Int32)) (tgt := 159) C dX4_asTold_26 s26_4 (by decide) (by decide) rfl (by decide) ?_
    refine g_aload_n_0 C dX4_asTold_159 ?_
    refine gf_X4_30 C dX4_asTold_160 ?_
    refine g_if_eq (tgt := 181) C dX4_asTold_163 (by decide) (fun c13 => ?_) (fun c13 => ?_)
    · rw [if_pos c13] at hf
      refine g_iconst (v := (0 : Int32)) C dX4_asTold_181 (by decide) ?_
      exact g_zret C rfl dX4_asTold_182 (en_finI hf)
    · rw [if_neg c13] at hf
      refine g_aload_n_0 C dX4_asTold_166 ?_
      refine gf_X4_46 C dX4_asTold_167 ?_
      obtain ⟨q14, hq14, hf⟩ := en_bnd hf
      refine gc_X4_131_C_Machine_stepsDone C (ctC_Machine_stepsDone _ q14.1 q14.2 hq14) (by decide) (Nat.le_of_ble_eq_true rfl) dX4_asTold_170 ?_
      refine g_iload_n_2 C dX4_asTold_173 ?_
      refine g_if_icmp_gt (tgt := 181) C dX4_asTold_174 (by decide) (fun c15 => ?_) (fun c15 => ?_)
      · rw [if_pos c15] at hf
        refine g_iconst (v := (0 : Int32)) C dX4_asTold_181 (by decide) ?_
        exact g_zret C rfl dX4_asTold_182 (en_finI hf)
      · rw [if_neg c15] at hf
        refine g_iconst (v := (1 : Int32)) C dX4_asTold_177 (by decide) ?_
        refine g_goto (tgt := 182) C dX4_asTold_178 (by decide) ?_
        exact g_zret C rfl dX4_asTold_182 (en_finI hf)
  rw [if_neg s26_4] at hf
  rcases Decidable.em (q3.1 = (5 : Int32)) with s26_5 | s26_5
  · rw [if_pos s26_5] at hf
    refine g_tsw (z := (5 : Int32)) (tgt := 183) C dX4_asTold_26 s26_5 (by decide) (by decide) rfl (by decide) ?_
    refine g_iload_n_2 C dX4_asTold_183 ?_
    obtain ⟨q16, hq16, hf⟩ := en_bnd hf
    refine gc_X4_134_C_State_isAccount C (ctC_State_isAccount _ _ q16.1 q16.2 hq16) (by decide) (Nat.le_of_ble_eq_true rfl) dX4_asTold_184 ?_
    refine g_if_eq (tgt := 206) C dX4_asTold_187 (by decide) (fun c17 => ?_) (fun c17 => ?_)
    · rw [if_pos c17] at hf
      refine g_iconst (v := (0 : Int32)) C dX4_asTold_206 (by decide) ?_
      exact g_zret C rfl dX4_asTold_207 (en_finI hf)
    · rw [if_neg c17] at hf
      refine g_aload_n_0 C dX4_asTold_190 ?_
      refine gf_X4_34 C dX4_asTold_191 ?_
      refine g_iload_n_2 C dX4_asTold_194 ?_
      obtain ⟨q18, hq18, hf⟩ := en_bnd hf
      refine gc_X4_137_C_State_coinsOf C (ctC_State_coinsOf _ _ q18.1 q18.2 hq18) (by decide) (Nat.le_of_ble_eq_true rfl) dX4_asTold_195 ?_
      refine g_iload_n_3 C dX4_asTold_198 ?_
      refine g_if_icmp_ne (tgt := 206) C dX4_asTold_199 (by decide) (fun c19 => ?_) (fun c19 => ?_)
      · rw [if_neg c19] at hf
        refine g_iconst (v := (0 : Int32)) C dX4_asTold_206 (by decide) ?_
        exact g_zret C rfl dX4_asTold_207 (en_finI hf)
      · rw [if_pos c19] at hf
        refine g_iconst (v := (1 : Int32)) C dX4_asTold_202 (by decide) ?_
        refine g_goto (tgt := 207) C dX4_asTold_203 (by decide) ?_
        exact g_zret C rfl dX4_asTold_207 (en_finI hf)
  rw [if_neg s26_5] at hf
  rcases Decidable.em (q3.1 = (6 : Int32)) with s26_6 | s26_6
  · rw [if_pos s26_6] at hf
    refine g_tsw (z := (6 : Int32)) (tgt := 208) C dX4_asTold_26 s26_6 (by decide) (by decide) rfl (by decide) ?_
    refine g_aload_n_0 C dX4_asTold_208 ?_
    refine g_iload_n_2 C dX4_asTold_209 ?_
    refine g_iload_n_3 C dX4_asTold_210 ?_
    refine g_aload_n_0 C dX4_asTold_211 ?_
    refine gf_X4_50 C dX4_asTold_212 ?_
    refine g_iload_n_1 C dX4_asTold_215 ?_
    obtain ⟨q20, hq20, hf⟩ := en_bnd hf
    refine gc_X4_105_C_Scripts_c C (ctC_Scripts_c _ _ q20.1 q20.2 hq20) (by decide) (Nat.le_of_ble_eq_true rfl) dX4_asTold_216 ?_
    obtain ⟨q21, hq21, hf⟩ := en_bnd hf
    refine gc_X4_140_C_Runner_cellIs C (ctC_Runner_cellIs _ _ _ _ q21.1 q21.2 hq21) (by decide) (Nat.le_of_ble_eq_true rfl) dX4_asTold_219 ?_
    obtain ⟨hz, hf⟩ := en_ite hf
    exact g_zret C hz dX4_asTold_222 (en_finI hf)
  rw [if_neg s26_6] at hf
  rcases Decidable.em (q3.1 = (7 : Int32)) with s26_7 | s26_7
  · rw [if_pos s26_7] at hf
    refine g_tsw (z := (7 : Int32)) (tgt := 223) C dX4_asTold_26 s26_7 (by decide) (by decide) rfl (by decide) ?_
    refine g_aload_n_0 C dX4_asTold_223 ?_
    refine g_iload_n_2 C dX4_asTold_224 ?_
    refine g_iload_n_3 C dX4_asTold_225 ?_
    obtain ⟨q22, hq22, hf⟩ := en_bnd hf
    refine gc_X4_143_C_Runner_eventIs C (ctC_Runner_eventIs _ _ _ q22.1 q22.2 hq22) (by decide) (Nat.le_of_ble_eq_true rfl) dX4_asTold_226 ?_
    obtain ⟨hz, hf⟩ := en_ite hf
    exact g_zret C hz dX4_asTold_229 (en_finI hf)
  rw [if_neg s26_7] at hf
  rcases Decidable.em (q3.1 = (8 : Int32)) with s26_8 | s26_8
  · rw [if_pos s26_8] at hf
    refine g_tsw (z := (8 : Int32)) (tgt := 230) C dX4_asTold_26 s26_8 (by decide) (by decide) rfl (by decide) ?_
    refine g_aload_n_0 C dX4_asTold_230 ?_
    refine gf_X4_34 C dX4_asTold_231 ?_
    obtain ⟨q23, hq23, hf⟩ := en_bnd hf
    refine gc_X4_146_C_State_allCoins C (ctC_State_allCoins _ q23.1 q23.2 hq23) (by decide) (Nat.le_of_ble_eq_true rfl) dX4_asTold_234 ?_
    refine g_iload_n_2 C dX4_asTold_237 ?_
    refine g_i2l C dX4_asTold_238 ?_
    refine g_lcmp C dX4_asTold_239 ?_
    refine g_if_ne (tgt := 247) C dX4_asTold_240 (by decide) (fun c24 => ?_) (fun c24 => ?_)
    · rw [if_neg c24] at hf
      refine g_iconst (v := (0 : Int32)) C dX4_asTold_247 (by decide) ?_
      exact g_zret C rfl dX4_asTold_248 (en_finI hf)
    · rw [if_pos c24] at hf
      refine g_iconst (v := (1 : Int32)) C dX4_asTold_243 (by decide) ?_
      refine g_goto (tgt := 248) C dX4_asTold_244 (by decide) ?_
      exact g_zret C rfl dX4_asTold_248 (en_finI hf)
  rw [if_neg s26_8] at hf
  rcases Decidable.em (q3.1 = (9 : Int32)) with s26_9 | s26_9
  · rw [if_pos s26_9] at hf
    refine g_tsw (z := (9 : Int32)) (tgt := 249) C dX4_asTold_26 s26_9 (by decide) (by decide) rfl (by decide) ?_
    refine g_aload_n_0 C dX4_asTold_249 ?_
    refine gf_X4_34 C dX4_asTold_250 ?_
    refine g_iload_n_2 C dX4_asTold_253 ?_
    obtain ⟨q25, hq25, hf⟩ := en_bnd hf
    refine gc_X4_150_C_State_age C (ctC_State_age _ _ q25.1 q25.2 hq25) (by decide) (Nat.le_of_ble_eq_true rfl) dX4_asTold_254 ?_
    obtain ⟨hz, hf⟩ := en_ite hf
    exact g_zret C hz dX4_asTold_257 (en_finI hf)
  rw [if_neg s26_9] at hf
  rcases Decidable.em (q3.1 = (10 : Int32)) with s26_10 | s26_10
  · rw [if_pos s26_10] at hf
    refine g_tsw (z := (10 : Int32)) (tgt := 258) C dX4_asTold_26 s26_10 (by decide) (by decide) rfl (by decide) ?_
    refine g_aload_n_0 C dX4_asTold_258 ?_
    refine g_iload_n_2 C dX4_asTold_259 ?_
    obtain ⟨q26, hq26, hf⟩ := en_bnd hf
    refine gc_X4_153_C_Runner_keepsFork C (ctC_Runner_keepsFork _ _ q26.1 q26.2 hq26) (by decide) (Nat.le_of_ble_eq_true rfl) dX4_asTold_260 ?_
    obtain ⟨hz, hf⟩ := en_ite hf
    exact g_zret C hz dX4_asTold_263 (en_finI hf)
  rw [if_neg s26_10] at hf
  rcases Decidable.em (q3.1 = (11 : Int32)) with s26_11 | s26_11
  · rw [if_pos s26_11] at hf
    refine g_tsw (z := (11 : Int32)) (tgt := 264) C dX4_asTold_26 s26_11 (by decide) (by decide) rfl (by decide) ?_
    refine g_aload_n_0 C dX4_asTold_264 ?_
    refine g_iload_n_2 C dX4_asTold_265 ?_
    obtain ⟨q27, hq27, hf⟩ := en_bnd hf
    refine gc_X4_156_C_Runner_goesBack C (ctC_Runner_goesBack _ _ q27.1 q27.2 hq27) (by decide) (Nat.le_of_ble_eq_true rfl) dX4_asTold_266 ?_
    obtain ⟨hz, hf⟩ := en_ite hf
    exact g_zret C hz dX4_asTold_269 (en_finI hf)
  rw [if_neg s26_11] at hf
  rcases Decidable.em (q3.1 = (12 : Int32)) with s26_12 | s26_12
  · rw [if_pos s26_12] at hf
    refine g_tsw (z := (12 : Int32)) (tgt := 270) C dX4_asTold_26 s26_12 (by decide) (by decide) rfl (by decide) ?_
    refine g_aload_n_0 C dX4_asTold_270 ?_
    refine gf_X4_42 C dX4_asTold_271 ?_
    refine g_iload_n_2 C dX4_asTold_274 ?_
    refine g_iconst (v := (1 : Int32)) C dX4_asTold_275 (by decide) ?_
    refine g_iload_n_3 C dX4_asTold_276 ?_
    obtain ⟨q28, hq28, hf⟩ := en_bnd hf
    refine gc_X4_159_C_Faces_putDouble C (ctC_Faces_putDouble _ _ _ _ q28.1 q28.2 hq28) (by decide) (Nat.le_of_ble_eq_true rfl) dX4_asTold_277 ?_
    obtain ⟨hz, hf⟩ := en_ite hf
    exact g_zret C hz dX4_asTold_280 (en_finI hf)
  rw [if_neg s26_12] at hf
  rcases Decidable.em (q3.1 = (13 : Int32)) with s26_13 | s26_13
  · rw [if_pos s26_13] at hf
    refine g_tsw (z := (13 : Int32)) (tgt := 281) C dX4_asTold_26 s26_13 (by decide) (by decide) rfl (by decide) ?_
    refine g_aload_n_0 C dX4_asTold_281 ?_
    refine g_iload_n_2 C dX4_asTold_282 ?_
    refine g_iload_n_3 C dX4_asTold_283 ?_
    obtain ⟨q29, hq29, hf⟩ := en_bnd hf
    refine gc_X4_162_C_Runner_faceFails C (ctC_Runner_faceFails _ _ _ q29.1 q29.2 hq29) (by decide) (Nat.le_of_ble_eq_true rfl) dX4_asTold_284 ?_
    obtain ⟨hz, hf⟩ := en_ite hf
    exact g_zret C hz dX4_asTold_287 (en_finI hf)
  rw [if_neg s26_13] at hf
  refine g_tswD (tgt := 288) C [(0 : Int32), (2 : Int32), (3 : Int32), (4 : Int32), (5 : Int32), (6 : Int32), (7 : Int32), (8 : Int32), (9 : Int32), (10 : Int32), (11 : Int32), (12 : Int32), (13 : Int32)] dX4_asTold_26 (And.intro s26_0 (And.intro s26_2 (And.intro s26_3 (And.intro s26_4 (And.intro s26_5 (And.intro s26_6 (And.intro s26_7 (And.intro s26_8 (And.intro s26_9 (And.intro s26_10 (And.intro s26_11 (And.intro s26_12 (And.intro s26_13 trivial))))))))))))) 14 (by decide) (by decide) (by decide) ?_
  refine g_iconst (v := (0 : Int32)) C dX4_asTold_288 (by decide) ?_
  exact g_zret C rfl dX4_asTold_289 (en_finI hf)
set_option maxHeartbeats 4000000 in
set_option maxRecDepth 100000 in
theorem ctC_Runner_nextIsThrows {l : Launch} {D : va_G} {K : en_K} {ad : Nat → Nat} (x1 : Int32) (x2 : Int32) (x3 : Int32) (u : Ug) (r0 : Int32) (u0 : Ug) (hf : fC_Runner_nextIsThrows x1 x2 x3 u = some (r0, u0)) : CT l D (en_ty K) ad (2) yX4_nextIsThrows cX4_nextIsThrows 6 (some .boolean) [.ref 21, .int x1, .int x2, .int x3] (wdC K u) (en_RI (wdC K) r0 u0) := by
  refine CT.of (by decide) [some (.ref 21), some (.int x1), some (.int x2), some (.int x3), none, none] rfl (Nat.le_of_ble_eq_true rfl) ?_
  intro p e R s m args below meth c sz C
  have L : ∀ n : Nat, (∀ (v1 : Int32) (v2 : Int32) (v3 : Int32) (v4 : Int32) (v5 : Int32) (w : Ug), (kC_Runner_nextIsThrows n) v1 v2 v3 v4 v5 w = some (r0, u0) → G p l e R s m args below meth c D (va_A (en_ws ad (wdC K u)) sz) 6 ad 0 0 (en_Q below D (en_ty K) ad (wdC K u) sz (en_RI (wdC K) r0 u0) args s) 15 [some (.ref 21), some (.int v1), some (.int v2), some (.int v3), some (.int v4), some (.int v5)] [] (wdC K w)) := by
    intro n
    induction n with
    | zero => exact fun _ _ _ _ _ _ hf => absurd hf (by intro q; cases q)
    | succ n ih =>
      intro v1 v2 v3 v4 v5 u hf
      have hf : sC_Runner_nextIsThrows_15 (kC_Runner_nextIsThrows n) v1 v2 v3 v4 v5 u = some (r0, u0) := hf
      unfold sC_Runner_nextIsThrows_15 at hf
      refine g_iload_5 C dX4_nextIsThrows_15 ?_
      refine g_iload_4 C dX4_nextIsThrows_17 ?_
      refine g_if_icmp_ge (tgt := 64) C dX4_nextIsThrows_19 (by decide) (fun c2 => ?_) (fun c2 => ?_)
      · rw [if_pos c2] at hf
        refine g_iconst (v := (0 : Int32)) C dX4_nextIsThrows_64 (by decide) ?_
        exact g_zret C rfl dX4_nextIsThrows_65 (en_finI hf)
      · rw [if_neg c2] at hf
        refine g_iload_n_3 C dX4_nextIsThrows_22 ?_
        refine g_iload_5 C dX4_nextIsThrows_23 ?_
        refine g_ishr C dX4_nextIsThrows_25 ?_
        refine g_iconst (v := (1 : Int32)) C dX4_nextIsThrows_26 (by decide) ?_
        refine g_iand C dX4_nextIsThrows_27 ?_
        refine g_if_ne (tgt := 58) C dX4_nextIsThrows_28 (by decide) (fun c3 => ?_) (fun c3 => ?_)
        · rw [if_neg c3] at hf
          refine g_iinc_5 (z := (1 : Int32)) C dX4_nextIsThrows_58 (by decide) (by decide) rfl ?_
          refine g_goto (tgt := 15) C dX4_nextIsThrows_61 (by decide) ?_
          exact g_weak (ih _ _ _ _ _ _ hf) (And.intro rfl (And.intro rfl (And.intro rfl (And.intro rfl (And.intro rfl (And.intro rfl trivial))))))
        · rw [if_pos c3] at hf
          refine g_aload_n_0 C dX4_nextIsThrows_31 ?_
          refine gf_X4_50 C dX4_nextIsThrows_32 ?_
          refine g_aload_n_0 C dX4_nextIsThrows_35 ?_
          refine gf_X4_50 C dX4_nextIsThrows_36 ?_
          refine g_iload_n_1 C dX4_nextIsThrows_39 ?_
          refine g_iload_5 C dX4_nextIsThrows_40 ?_
          obtain ⟨q4, hq4, hf⟩ := en_bnd hf
          refine gc_X4_63_C_Scripts_slotOf C (ctC_Scripts_slotOf _ _ _ q4.1 q4.2 hq4) (by decide) (Nat.le_of_ble_eq_true rfl) dX4_nextIsThrows_42 ?_
          obtain ⟨q5, hq5, hf⟩ := en_bnd hf
          refine gc_X4_67_C_Scripts_word C (ctC_Scripts_word _ _ q5.1 q5.2 hq5) (by decide) (Nat.le_of_ble_eq_true rfl) dX4_nextIsThrows_45 ?_
          refine g_iconst (v := (3 : Int32)) C dX4_nextIsThrows_48 (by decide) ?_
          refine g_if_icmp_ne (tgt := 56) C dX4_nextIsThrows_49 (by decide) (fun c6 => ?_) (fun c6 => ?_)
          · rw [if_neg c6] at hf
            refine g_iconst (v := (0 : Int32)) C dX4_nextIsThrows_56 (by decide) ?_
            exact g_zret C rfl dX4_nextIsThrows_57 (en_finI hf)
          · rw [if_pos c6] at hf
            refine g_iconst (v := (1 : Int32)) C dX4_nextIsThrows_52 (by decide) ?_
            refine g_goto (tgt := 57) C dX4_nextIsThrows_53 (by decide) ?_
            exact g_zret C rfl dX4_nextIsThrows_57 (en_finI hf)
  unfold fC_Runner_nextIsThrows at hf
  refine g_aload_n_0 C dX4_nextIsThrows_0 ?_
  refine gf_X4_50 C dX4_nextIsThrows_1 ?_
  refine g_iload_n_1 C dX4_nextIsThrows_4 ?_
  obtain ⟨q1, hq1, hf⟩ := en_bnd hf
  refine gc_X4_57_C_Scripts_size C (ctC_Scripts_size _ _ q1.1 q1.2 hq1) (by decide) (Nat.le_of_ble_eq_true rfl) dX4_nextIsThrows_5 ?_
  refine g_istore_4 C dX4_nextIsThrows_8 (by decide) rfl ?_
  refine g_iload_n_2 C dX4_nextIsThrows_10 ?_
  refine g_iconst (v := (1 : Int32)) C dX4_nextIsThrows_11 (by decide) ?_
  refine g_iadd C dX4_nextIsThrows_12 ?_
  refine g_istore_5 C dX4_nextIsThrows_13 (by decide) rfl ?_
  exact g_weak ((L _) _ _ _ _ _ _ hf) (And.intro rfl (And.intro rfl (And.intro rfl (And.intro rfl (And.intro rfl (And.intro rfl trivial))))))
set_option maxHeartbeats 4000000 in
set_option maxRecDepth 100000 in
theorem ctC_Runner_doesCall {l : Launch} {D : va_G} {K : en_K} {ad : Nat → Nat} (x1 : Int32) (x2 : Int32) (x3 : Int32) (u : Ug) (r0 : Int32) (u0 : Ug) (hf : fC_Runner_doesCall x1 x2 x3 u = some (r0, u0)) : CT l D (en_ty K) ad (105) yX4_doesCall cX4_doesCall 6 (some .boolean) [.ref 21, .int x1, .int x2, .int x3] (wdC K u) (en_RI (wdC K) r0 u0) := by
  refine CT.of (by decide) [some (.ref 21), some (.int x1), some (.int x2), some (.int x3), none, none] rfl (Nat.le_of_ble_eq_true rfl) ?_
  intro p e R s m args below meth c sz C
  unfold fC_Runner_doesCall at hf
  refine g_aload_n_0 C dX4_doesCall_0 ?_
  refine gf_X4_50 C dX4_doesCall_1 ?_
  refine g_iload_n_1 C dX4_doesCall_4 ?_
  refine g_iload_n_2 C dX4_doesCall_5 ?_
  obtain ⟨q1, hq1, hf⟩ := en_bnd hf
  refine gc_X4_63_C_Scripts_slotOf C (ctC_Scripts_slotOf _ _ _ q1.1 q1.2 hq1) (by decide) (Nat.le_of_ble_eq_true rfl) dX4_doesCall_6 ?_
  refine g_istore_4 C dX4_doesCall_9 (by decide) rfl ?_
  refine g_aload_n_0 C dX4_doesCall_11 ?_
  refine gf_X4_38 C dX4_doesCall_12 ?_
  refine g_aload_n_0 C dX4_doesCall_15 ?_
  refine gf_X4_50 C dX4_doesCall_16 ?_
  refine g_iload_4 C dX4_doesCall_19 ?_
  obtain ⟨q2, hq2, hf⟩ := en_bnd hf
  refine gc_X4_94_C_Scripts_a C (ctC_Scripts_a _ _ q2.1 q2.2 hq2) (by decide) (Nat.le_of_ble_eq_true rfl) dX4_doesCall_21 ?_
  refine g_aload_n_0 C dX4_doesCall_24 ?_
  refine gf_X4_50 C dX4_doesCall_25 ?_
  refine g_iload_4 C dX4_doesCall_28 ?_
  obtain ⟨q3, hq3, hf⟩ := en_bnd hf
  refine gc_X4_97_C_Scripts_b C (ctC_Scripts_b _ _ q3.1 q3.2 hq3) (by decide) (Nat.le_of_ble_eq_true rfl) dX4_doesCall_30 ?_
  obtain ⟨q4, hq4, hf⟩ := en_bnd hf
  refine gc_X4_100_C_Code_placeOf C (ctC_Code_placeOf _ _ _ q4.1 q4.2 hq4) (by decide) (Nat.le_of_ble_eq_true rfl) dX4_doesCall_33 ?_
  refine g_istore_5 C dX4_doesCall_36 (by decide) rfl ?_
  refine g_iload_5 C dX4_doesCall_38 ?_
  refine g_if_ge (tgt := 45) C dX4_doesCall_40 (by decide) (fun c5 => ?_) (fun c5 => ?_)
  · rw [if_pos c5] at hf
    refine g_aload_n_0 C dX4_doesCall_45 ?_
    refine gf_X4_46 C dX4_doesCall_46 ?_
    refine g_aload_n_0 C dX4_doesCall_49 ?_
    refine gf_X4_17 C dX4_doesCall_50 ?_
    refine g_iload_5 C dX4_doesCall_53 ?_
    refine g_aload_n_0 C dX4_doesCall_55 ?_
    refine gf_X4_50 C dX4_doesCall_56 ?_
    refine g_iload_4 C dX4_doesCall_59 ?_
    obtain ⟨q6, hq6, hf⟩ := en_bnd hf
    refine gc_X4_105_C_Scripts_c C (ctC_Scripts_c _ _ q6.1 q6.2 hq6) (by decide) (Nat.le_of_ble_eq_true rfl) dX4_doesCall_61 ?_
    refine g_aload_n_0 C dX4_doesCall_64 ?_
    refine gf_X4_21 C dX4_doesCall_65 ?_
    obtain ⟨q7, hq7, hf⟩ := en_bnd hf
    refine gc_X4_108_C_Machine_callFromOutside C (ctC_Machine_callFromOutside _ _ _ _ _ q7.1 q7.2 hq7) (by decide) (Nat.le_of_ble_eq_true rfl) dX4_doesCall_68 ?_
    refine g_aload_n_0 C dX4_doesCall_71 ?_
    refine g_iconst (v := (1 : Int32)) C dX4_doesCall_72 (by decide) ?_
    obtain ⟨u8, hu8, hf⟩ := en_bnd hf
    refine gp_X4_30 C hu8 dX4_doesCall_73 ?_
    refine g_aload_n_0 C dX4_doesCall_76 ?_
    refine gf_X4_46 C dX4_doesCall_77 ?_
    obtain ⟨q9, hq9, hf⟩ := en_bnd hf
    refine gc_X4_114_C_Machine_threw C (ctC_Machine_threw _ q9.1 q9.2 hq9) (by decide) (Nat.le_of_ble_eq_true rfl) dX4_doesCall_80 ?_
    refine g_if_eq (tgt := 96) C dX4_doesCall_83 (by decide) (fun c10 => ?_) (fun c10 => ?_)
    · rw [if_pos c10] at hf
      refine g_iconst (v := (1 : Int32)) C dX4_doesCall_96 (by decide) ?_
      refine g_goto (tgt := 101) C dX4_doesCall_97 (by decide) ?_
      exact g_zret C rfl dX4_doesCall_101 (en_finI hf)
    · rw [if_neg c10] at hf
      refine g_aload_n_0 C dX4_doesCall_86 ?_
      refine g_iload_n_1 C dX4_doesCall_87 ?_
      refine g_iload_n_2 C dX4_doesCall_88 ?_
      refine g_iload_n_3 C dX4_doesCall_89 ?_
      obtain ⟨q11, hq11, hf⟩ := en_bnd hf
      refine gc_X4_118_C_Runner_nextIsThrows C (ctC_Runner_nextIsThrows _ _ _ _ q11.1 q11.2 hq11) (by decide) (Nat.le_of_ble_eq_true rfl) dX4_doesCall_90 ?_
      refine g_if_eq (tgt := 100) C dX4_doesCall_93 (by decide) (fun c12 => ?_) (fun c12 => ?_)
      · rw [if_pos c12] at hf
        refine g_iconst (v := (0 : Int32)) C dX4_doesCall_100 (by decide) ?_
        exact g_zret C rfl dX4_doesCall_101 (en_finI hf)
      · rw [if_neg c12] at hf
        refine g_iconst (v := (1 : Int32)) C dX4_doesCall_96 (by decide) ?_
        refine g_goto (tgt := 101) C dX4_doesCall_97 (by decide) ?_
        exact g_zret C rfl dX4_doesCall_101 (en_finI hf)
  · rw [if_neg c5] at hf
    refine g_iconst (v := (0 : Int32)) C dX4_doesCall_43 (by decide) ?_
    exact g_zret C rfl dX4_doesCall_44 (en_finI hf)
set_option maxHeartbeats 4000000 in
set_option maxRecDepth 100000 in
theorem ctC_Runner_failingLine {l : Launch} {D : va_G} {K : en_K} {ad : Nat → Nat} (x1 : Int32) (x2 : Int32) (u : Ug) (r0 : Int32) (u0 : Ug) (hf : fC_Runner_failingLine x1 x2 u = some (r0, u0)) : CT l D (en_ty K) ad (106) yX4_failingLine cX4_failingLine 9 (some .int) [.ref 21, .int x1, .int x2] (wdC K u) (en_RI (wdC K) r0 u0) := by
  refine CT.of (by decide) [some (.ref 21), some (.int x1), some (.int x2), none, none, none, none, none, none] rfl (Nat.le_of_ble_eq_true rfl) ?_
  intro p e R s m args below meth c sz C
  have L : ∀ n : Nat, (∀ (v1 : Int32) (v2 : Int32) (v3 : Int32) (v4 : Int32) (v5 : Int32) (w : Ug), (kC_Runner_failingLine n) v1 v2 v3 v4 v5 w = some (r0, u0) → G p l e R s m args below meth c D (va_A (en_ws ad (wdC K u)) sz) 9 ad 0 0 (en_Q below D (en_ty K) ad (wdC K u) sz (en_RI (wdC K) r0 u0) args s) 19 [some (.ref 21), some (.int v1), some (.int v2), some (.int v3), some (.int v4), some (.int v5), none, none, none] [] (wdC K w)) := by
    intro n
    induction n with
    | zero => exact fun _ _ _ _ _ _ hf => absurd hf (by intro q; cases q)
    | succ n ih =>
      intro v1 v2 v3 v4 v5 u hf
      have hf : sC_Runner_failingLine_19 (kC_Runner_failingLine n) v1 v2 v3 v4 v5 u = some (r0, u0) := hf
      unfold sC_Runner_failingLine_19 at hf
      refine g_iload_5 C dX4_failingLine_19 ?_
      refine g_iload_n_3 C dX4_failingLine_21 ?_
      refine g_if_icmp_ge (tgt := 119) C dX4_failingLine_22 (by decide) (fun c3 => ?_) (fun c3 => ?_)
      · rw [if_pos c3] at hf
        refine g_aload_n_0 C dX4_failingLine_119 ?_
        refine gf_X4_42 C dX4_failingLine_120 ?_
        obtain ⟨q4, hq4, hf⟩ := en_bnd hf
        refine gc_X4_78_C_Faces_dropDoubles C (ctC_Faces_dropDoubles _ q4.1 q4.2 hq4) (by decide) (Nat.le_of_ble_eq_true rfl) dX4_failingLine_123 ?_
        refine g_aload_n_0 C dX4_failingLine_126 ?_
        refine gf_X4_34 C dX4_failingLine_127 ?_
        refine g_aload_n_0 C dX4_failingLine_130 ?_
        refine gf_X4_13 C dX4_failingLine_131 ?_
        refine g_iconst (v := (3 : Int32)) C dX4_failingLine_134 (by decide) ?_
        obtain ⟨q5, hq5, hf⟩ := en_bnd hf
        refine gc_X4_83_C_State_bringFrom_22 C (ctC_State_bringFrom_22 _ _ q5.1 q5.2 hq5) (by decide) (Nat.le_of_ble_eq_true rfl) dX4_failingLine_135 ?_
        refine g_pop C dX4_failingLine_138 rfl ?_
        refine g_iload_4 C dX4_failingLine_139 ?_
        exact g_iret C dX4_failingLine_141 (en_finI hf)
      · rw [if_neg c3] at hf
        refine g_iload_4 C dX4_failingLine_25 ?_
        refine g_iconst (v := (-1 : Int32)) C dX4_failingLine_27 (by decide) ?_
        refine g_if_icmp_ne (tgt := 119) C dX4_failingLine_28 (by decide) (fun c6 => ?_) (fun c6 => ?_)
        · rw [if_neg c6] at hf
          refine g_aload_n_0 C dX4_failingLine_119 ?_
          refine gf_X4_42 C dX4_failingLine_120 ?_
          obtain ⟨q7, hq7, hf⟩ := en_bnd hf
          refine gc_X4_78_C_Faces_dropDoubles C (ctC_Faces_dropDoubles _ q7.1 q7.2 hq7) (by decide) (Nat.le_of_ble_eq_true rfl) dX4_failingLine_123 ?_
          refine g_aload_n_0 C dX4_failingLine_126 ?_
          refine gf_X4_34 C dX4_failingLine_127 ?_
          refine g_aload_n_0 C dX4_failingLine_130 ?_
          refine gf_X4_13 C dX4_failingLine_131 ?_
          refine g_iconst (v := (3 : Int32)) C dX4_failingLine_134 (by decide) ?_
          obtain ⟨q8, hq8, hf⟩ := en_bnd hf
          refine gc_X4_83_C_State_bringFrom_22 C (ctC_State_bringFrom_22 _ _ q8.1 q8.2 hq8) (by decide) (Nat.le_of_ble_eq_true rfl) dX4_failingLine_135 ?_
          refine g_pop C dX4_failingLine_138 rfl ?_
          refine g_iload_4 C dX4_failingLine_139 ?_
          exact g_iret C dX4_failingLine_141 (en_finI hf)
        · rw [if_pos c6] at hf
          refine g_iload_n_2 C dX4_failingLine_31 ?_
          refine g_iload_5 C dX4_failingLine_32 ?_
          refine g_ishr C dX4_failingLine_34 ?_
          refine g_iconst (v := (1 : Int32)) C dX4_failingLine_35 (by decide) ?_
          refine g_iand C dX4_failingLine_36 ?_
          refine g_iconst (v := (1 : Int32)) C dX4_failingLine_37 (by decide) ?_
          refine g_if_icmp_ne (tgt := 44) C dX4_failingLine_38 (by decide) (fun c9 => ?_) (fun c9 => ?_)
          · rw [if_neg c9] at hf
            refine g_aload_n_0 C dX4_failingLine_44 ?_
            refine gf_X4_50 C dX4_failingLine_45 ?_
            refine g_iload_n_1 C dX4_failingLine_48 ?_
            refine g_iload_5 C dX4_failingLine_49 ?_
            obtain ⟨q10, hq10, hf⟩ := en_bnd hf
            refine gc_X4_63_C_Scripts_slotOf C (ctC_Scripts_slotOf _ _ _ q10.1 q10.2 hq10) (by decide) (Nat.le_of_ble_eq_true rfl) dX4_failingLine_51 ?_
            refine g_istore_6 C dX4_failingLine_54 (by decide) rfl ?_
            refine g_aload_n_0 C dX4_failingLine_56 ?_
            refine gf_X4_50 C dX4_failingLine_57 ?_
            refine g_iload_6 C dX4_failingLine_60 ?_
            obtain ⟨q11, hq11, hf⟩ := en_bnd hf
            refine gc_X4_67_C_Scripts_word C (ctC_Scripts_word _ _ q11.1 q11.2 hq11) (by decide) (Nat.le_of_ble_eq_true rfl) dX4_failingLine_62 ?_
            refine g_iconst (v := (1 : Int32)) C dX4_failingLine_65 (by decide) ?_
            refine g_if_icmp_ne (tgt := 73) C dX4_failingLine_66 (by decide) (fun c12 => ?_) (fun c12 => ?_)
            · rw [if_neg c12] at hf
              refine g_iconst (v := (0 : Int32)) C dX4_failingLine_73 (by decide) ?_
              refine g_istore_7 C dX4_failingLine_74 (by decide) rfl ?_
              refine g_iload_7 C dX4_failingLine_76 ?_
              refine g_if_eq (tgt := 92) C dX4_failingLine_78 (by decide) (fun _ => ?_) (fun q => absurd q (by decide))
              refine g_aload_n_0 C dX4_failingLine_92 ?_
              refine g_iload_6 C dX4_failingLine_93 ?_
              obtain ⟨q13, hq13, hf⟩ := en_bnd hf
              refine gc_X4_74_C_Runner_asTold C (ctC_Runner_asTold _ _ q13.1 q13.2 hq13) (by decide) (Nat.le_of_ble_eq_true rfl) dX4_failingLine_95 ?_
              refine g_istore_8 C dX4_failingLine_98 (by decide) rfl ?_
              refine g_iload_8 C dX4_failingLine_100 ?_
              refine g_if_eq (tgt := 109) C dX4_failingLine_102 (by decide) (fun c14 => ?_) (fun c14 => ?_)
              · rw [if_pos c14] at hf
                refine g_iload_5 C dX4_failingLine_109 ?_
                refine g_istore_4 C dX4_failingLine_111 (by decide) rfl ?_
                refine g_iinc_5 (z := (1 : Int32)) C dX4_failingLine_113 (by decide) (by decide) rfl ?_
                refine g_goto (tgt := 19) C dX4_failingLine_116 (by decide) ?_
                exact g_weak (ih _ _ _ _ _ _ hf) (And.intro rfl (And.intro rfl (And.intro rfl (And.intro rfl (And.intro rfl (And.intro rfl trivial))))))
              · rw [if_neg c14] at hf
                refine g_iconst (v := (-1 : Int32)) C dX4_failingLine_105 (by decide) ?_
                refine g_goto (tgt := 111) C dX4_failingLine_106 (by decide) ?_
                refine g_istore_4 C dX4_failingLine_111 (by decide) rfl ?_
                refine g_iinc_5 (z := (1 : Int32)) C dX4_failingLine_113 (by decide) (by decide) rfl ?_
                refine g_goto (tgt := 19) C dX4_failingLine_116 (by decide) ?_
                exact g_weak (ih _ _ _ _ _ _ hf) (And.intro rfl (And.intro rfl (And.intro rfl (And.intro rfl (And.intro rfl (And.intro rfl trivial))))))
            · rw [if_pos c12] at hf
              refine g_iconst (v := (1 : Int32)) C dX4_failingLine_69 (by decide) ?_
              refine g_goto (tgt := 74) C dX4_failingLine_70 (by decide) ?_
              refine g_istore_7 C dX4_failingLine_74 (by decide) rfl ?_
              refine g_iload_7 C dX4_failingLine_76 ?_
              refine g_if_eq (tgt := 92) C dX4_failingLine_78 (by decide) (fun q => absurd q (by decide)) (fun _ => ?_)
              refine g_aload_n_0 C dX4_failingLine_81 ?_
              refine g_iload_n_1 C dX4_failingLine_82 ?_
              refine g_iload_5 C dX4_failingLine_83 ?_
              refine g_iload_n_2 C dX4_failingLine_85 ?_
              obtain ⟨q15, hq15, hf⟩ := en_bnd hf
              refine gc_X4_70_C_Runner_doesCall C (ctC_Runner_doesCall _ _ _ _ q15.1 q15.2 hq15) (by decide) (Nat.le_of_ble_eq_true rfl) dX4_failingLine_86 ?_
              refine g_goto (tgt := 98) C dX4_failingLine_89 (by decide) ?_
              refine g_istore_8 C dX4_failingLine_98 (by decide) rfl ?_
              refine g_iload_8 C dX4_failingLine_100 ?_
              refine g_if_eq (tgt := 109) C dX4_failingLine_102 (by decide) (fun c16 => ?_) (fun c16 => ?_)
              · rw [if_pos c16] at hf
                refine g_iload_5 C dX4_failingLine_109 ?_
                refine g_istore_4 C dX4_failingLine_111 (by decide) rfl ?_
                refine g_iinc_5 (z := (1 : Int32)) C dX4_failingLine_113 (by decide) (by decide) rfl ?_
                refine g_goto (tgt := 19) C dX4_failingLine_116 (by decide) ?_
                exact g_weak (ih _ _ _ _ _ _ hf) (And.intro rfl (And.intro rfl (And.intro rfl (And.intro rfl (And.intro rfl (And.intro rfl trivial))))))
              · rw [if_neg c16] at hf
                refine g_iconst (v := (-1 : Int32)) C dX4_failingLine_105 (by decide) ?_
                refine g_goto (tgt := 111) C dX4_failingLine_106 (by decide) ?_
                refine g_istore_4 C dX4_failingLine_111 (by decide) rfl ?_
                refine g_iinc_5 (z := (1 : Int32)) C dX4_failingLine_113 (by decide) (by decide) rfl ?_
                refine g_goto (tgt := 19) C dX4_failingLine_116 (by decide) ?_
                exact g_weak (ih _ _ _ _ _ _ hf) (And.intro rfl (And.intro rfl (And.intro rfl (And.intro rfl (And.intro rfl (And.intro rfl trivial))))))
          · rw [if_pos c9] at hf
            refine g_goto (tgt := 113) C dX4_failingLine_41 (by decide) ?_
            refine g_iinc_5 (z := (1 : Int32)) C dX4_failingLine_113 (by decide) (by decide) rfl ?_
            refine g_goto (tgt := 19) C dX4_failingLine_116 (by decide) ?_
            exact g_weak (ih _ _ _ _ _ _ hf) (And.intro rfl (And.intro rfl (And.intro rfl (And.intro rfl (And.intro rfl (And.intro rfl trivial))))))
  unfold fC_Runner_failingLine at hf
  refine g_aload_n_0 C dX4_failingLine_0 ?_
  obtain ⟨q1, hq1, hf⟩ := en_bnd hf
  refine gc_X4_54_C_Runner_begin C (ctC_Runner_begin _ q1.1 q1.2 hq1) (by decide) (Nat.le_of_ble_eq_true rfl) dX4_failingLine_1 ?_
  refine g_aload_n_0 C dX4_failingLine_4 ?_
  refine gf_X4_50 C dX4_failingLine_5 ?_
  refine g_iload_n_1 C dX4_failingLine_8 ?_
  obtain ⟨q2, hq2, hf⟩ := en_bnd hf
  refine gc_X4_57_C_Scripts_size C (ctC_Scripts_size _ _ q2.1 q2.2 hq2) (by decide) (Nat.le_of_ble_eq_true rfl) dX4_failingLine_9 ?_
  refine g_istore_n_3 C dX4_failingLine_12 (by decide) rfl ?_
  refine g_iconst (v := (-1 : Int32)) C dX4_failingLine_13 (by decide) ?_
  refine g_istore_4 C dX4_failingLine_14 (by decide) rfl ?_
  refine g_iconst (v := (0 : Int32)) C dX4_failingLine_16 (by decide) ?_
  refine g_istore_5 C dX4_failingLine_17 (by decide) rfl ?_
  exact g_weak ((L _) _ _ _ _ _ _ hf) (And.intro rfl (And.intro rfl (And.intro rfl (And.intro rfl (And.intro rfl (And.intro rfl trivial))))))
