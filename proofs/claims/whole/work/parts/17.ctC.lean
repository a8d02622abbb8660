/-! CONTRACTS. -/
set_option maxHeartbeats 4000000 in
set_option maxRecDepth 100000 in
theorem ctC_Machine_passedOver {l : Launch} {D : va_G} {K : en_K} {ad : Nat → Nat} (x1 : Int32) (x2 : Int32) (x3 : Int32) (u : Ug) (r0 : Int32) (u0 : Ug) (hf : fC_Machine_passedOver x1 x2 x3 u = some (r0, u0)) : CT l D (en_ty K) ad (2) yX2_passedOver cX2_passedOver 7 (some .int) [.ref 13, .int x1, .int x2, .int x3] (wdC K u) (en_RI (wdC K) r0 u0) := by
  refine CT.of (by decide) [some (.ref 13), some (.int x1), some (.int x2), some (.int x3), none, none, none] rfl (Nat.le_of_ble_eq_true rfl) ?_
  intro p e R s m args below meth c sz C
  unfold fC_Machine_passedOver at hf
  refine g_iload_n_1 C dX2_passedOver_0 ?_
  refine g_bipush (v := (8 : Int32)) C dX2_passedOver_1 (by decide) ?_
  refine g_imul C dX2_passedOver_3 ?_
  refine g_iload_n_2 C dX2_passedOver_4 ?_
  refine g_iadd C dX2_passedOver_5 ?_
  refine g_istore_4 C dX2_passedOver_6 (by decide) rfl ?_
  refine g_iload_n_3 C dX2_passedOver_8 ?_
  refine g_aload_n_0 C dX2_passedOver_9 ?_
  refine gf_X2_37 C dX2_passedOver_10 ?_
  refine g_iload_4 C dX2_passedOver_13 ?_
  obtain ⟨q1, hq1, hf⟩ := en_bnd hf
  refine gc_X2_111_C_Code_b C (ctC_Code_b _ _ q1.1 q1.2 hq1) (by decide) (Nat.le_of_ble_eq_true rfl) dX2_passedOver_15 ?_
  refine g_if_icmp_ge (tgt := 25) C dX2_passedOver_18 (by decide) (fun c2 => ?_) (fun c2 => ?_)
  · rw [if_pos c2] at hf
    refine g_iconst (v := (0 : Int32)) C dX2_passedOver_25 (by decide) ?_
    refine g_istore_5 C dX2_passedOver_26 (by decide) rfl ?_
    refine g_aload_n_0 C dX2_passedOver_28 ?_
    refine gf_X2_37 C dX2_passedOver_29 ?_
    refine g_iload_4 C dX2_passedOver_32 ?_
    obtain ⟨q3, hq3, hf⟩ := en_bnd hf
    refine gc_X2_82_C_Code_kind C (ctC_Code_kind _ _ q3.1 q3.2 hq3) (by decide) (Nat.le_of_ble_eq_true rfl) dX2_passedOver_34 ?_
    refine g_bipush (v := (13 : Int32)) C dX2_passedOver_37 (by decide) ?_
    refine g_if_icmp_ne (tgt := 55) C dX2_passedOver_39 (by decide) (fun c4 => ?_) (fun c4 => ?_)
    · rw [if_neg c4] at hf
      refine g_iload_5 C dX2_passedOver_55 ?_
      refine g_istore_6 C dX2_passedOver_57 (by decide) rfl ?_
      refine g_aload_n_0 C dX2_passedOver_59 ?_
      refine gf_X2_37 C dX2_passedOver_60 ?_
      refine g_iload_n_1 C dX2_passedOver_63 ?_
      refine g_iload_n_2 C dX2_passedOver_64 ?_
      refine g_iload_6 C dX2_passedOver_65 ?_
      refine g_if_eq (tgt := 75) C dX2_passedOver_67 (by decide) (fun _ => ?_) (fun q => absurd q (by decide))
      refine g_bipush (v := (16 : Int32)) C dX2_passedOver_75 (by decide) ?_
      refine g_iadd C dX2_passedOver_77 ?_
      obtain ⟨q5, hq5, hf⟩ := en_bnd hf
      refine gc_X2_107_C_Code_cover C (ctC_Code_cover _ _ _ q5.1 q5.2 hq5) (by decide) (Nat.le_of_ble_eq_true rfl) dX2_passedOver_78 ?_
      refine g_iload_6 C dX2_passedOver_81 ?_
      refine g_if_eq (tgt := 98) C dX2_passedOver_83 (by decide) (fun _ => ?_) (fun q => absurd q (by decide))
      refine g_iconst (v := (0 : Int32)) C dX2_passedOver_98 (by decide) ?_
      exact g_iret C dX2_passedOver_99 (en_finI hf)
    · rw [if_pos c4] at hf
      refine g_iload_5 C dX2_passedOver_42 ?_
      refine g_if_ne (tgt := 51) C dX2_passedOver_44 (by decide) (fun q => absurd q (by decide)) (fun _ => ?_)
      refine g_iconst (v := (1 : Int32)) C dX2_passedOver_47 (by decide) ?_
      refine g_goto (tgt := 57) C dX2_passedOver_48 (by decide) ?_
      refine g_istore_6 C dX2_passedOver_57 (by decide) rfl ?_
      refine g_aload_n_0 C dX2_passedOver_59 ?_
      refine gf_X2_37 C dX2_passedOver_60 ?_
      refine g_iload_n_1 C dX2_passedOver_63 ?_
      refine g_iload_n_2 C dX2_passedOver_64 ?_
      refine g_iload_6 C dX2_passedOver_65 ?_
      refine g_if_eq (tgt := 75) C dX2_passedOver_67 (by decide) (fun q => absurd q (by decide)) (fun _ => ?_)
      refine g_bipush (v := (8 : Int32)) C dX2_passedOver_70 (by decide) ?_
      refine g_goto (tgt := 77) C dX2_passedOver_72 (by decide) ?_
      refine g_iadd C dX2_passedOver_77 ?_
      obtain ⟨q6, hq6, hf⟩ := en_bnd hf
      refine gc_X2_107_C_Code_cover C (ctC_Code_cover _ _ _ q6.1 q6.2 hq6) (by decide) (Nat.le_of_ble_eq_true rfl) dX2_passedOver_78 ?_
      refine g_iload_6 C dX2_passedOver_81 ?_
      refine g_if_eq (tgt := 98) C dX2_passedOver_83 (by decide) (fun q => absurd q (by decide)) (fun _ => ?_)
      refine g_aload_n_0 C dX2_passedOver_86 ?_
      refine gf_X2_37 C dX2_passedOver_87 ?_
      refine g_iload_4 C dX2_passedOver_90 ?_
      obtain ⟨q7, hq7, hf⟩ := en_bnd hf
      refine gc_X2_85_C_Code_a C (ctC_Code_a _ _ q7.1 q7.2 hq7) (by decide) (Nat.le_of_ble_eq_true rfl) dX2_passedOver_92 ?_
      refine g_goto (tgt := 99) C dX2_passedOver_95 (by decide) ?_
      exact g_iret C dX2_passedOver_99 (en_finI hf)
  · rw [if_neg c2] at hf
    refine g_iconst (v := (1 : Int32)) C dX2_passedOver_21 (by decide) ?_
    refine g_goto (tgt := 26) C dX2_passedOver_22 (by decide) ?_
    refine g_istore_5 C dX2_passedOver_26 (by decide) rfl ?_
    refine g_aload_n_0 C dX2_passedOver_28 ?_
    refine gf_X2_37 C dX2_passedOver_29 ?_
    refine g_iload_4 C dX2_passedOver_32 ?_
    obtain ⟨q8, hq8, hf⟩ := en_bnd hf
    refine gc_X2_82_C_Code_kind C (ctC_Code_kind _ _ q8.1 q8.2 hq8) (by decide) (Nat.le_of_ble_eq_true rfl) dX2_passedOver_34 ?_
    refine g_bipush (v := (13 : Int32)) C dX2_passedOver_37 (by decide) ?_
    refine g_if_icmp_ne (tgt := 55) C dX2_passedOver_39 (by decide) (fun c9 => ?_) (fun c9 => ?_)
    · rw [if_neg c9] at hf
      refine g_iload_5 C dX2_passedOver_55 ?_
      refine g_istore_6 C dX2_passedOver_57 (by decide) rfl ?_
      refine g_aload_n_0 C dX2_passedOver_59 ?_
      refine gf_X2_37 C dX2_passedOver_60 ?_
      refine g_iload_n_1 C dX2_passedOver_63 ?_
      refine g_iload_n_2 C dX2_passedOver_64 ?_
      refine g_iload_6 C dX2_passedOver_65 ?_
      refine g_if_eq (tgt := 75) C dX2_passedOver_67 (by decide) (fun q => absurd q (by decide)) (fun _ => ?_)
      refine g_bipush (v := (8 : Int32)) C dX2_passedOver_70 (by decide) ?_
      refine g_goto (tgt := 77) C dX2_passedOver_72 (by decide) ?_
      refine g_iadd C dX2_passedOver_77 ?_
      obtain ⟨q10, hq10, hf⟩ := en_bnd hf
      refine gc_X2_107_C_Code_cover C (ctC_Code_cover _ _ _ q10.1 q10.2 hq10) (by decide) (Nat.le_of_ble_eq_true rfl) dX2_passedOver_78 ?_
      refine g_iload_6 C dX2_passedOver_81 ?_
      refine g_if_eq (tgt := 98) C dX2_passedOver_83 (by decide) (fun q => absurd q (by decide)) (fun _ => ?_)
      refine g_aload_n_0 C dX2_passedOver_86 ?_
      refine gf_X2_37 C dX2_passedOver_87 ?_
      refine g_iload_4 C dX2_passedOver_90 ?_
      obtain ⟨q11, hq11, hf⟩ := en_bnd hf
      refine gc_X2_85_C_Code_a C (ctC_Code_a _ _ q11.1 q11.2 hq11) (by decide) (Nat.le_of_ble_eq_true rfl) dX2_passedOver_92 ?_
      refine g_goto (tgt := 99) C dX2_passedOver_95 (by decide) ?_
      exact g_iret C dX2_passedOver_99 (en_finI hf)
    · rw [if_pos c9] at hf
      refine g_iload_5 C dX2_passedOver_42 ?_
      refine g_if_ne (tgt := 51) C dX2_passedOver_44 (by decide) (fun _ => ?_) (fun q => absurd q (by decide))
      refine g_iconst (v := (0 : Int32)) C dX2_passedOver_51 (by decide) ?_
      refine g_goto (tgt := 57) C dX2_passedOver_52 (by decide) ?_
      refine g_istore_6 C dX2_passedOver_57 (by decide) rfl ?_
      refine g_aload_n_0 C dX2_passedOver_59 ?_
      refine gf_X2_37 C dX2_passedOver_60 ?_
      refine g_iload_n_1 C dX2_passedOver_63 ?_
      refine g_iload_n_2 C dX2_passedOver_64 ?_
      refine g_iload_6 C dX2_passedOver_65 ?_
      refine g_if_eq (tgt := 75) C dX2_passedOver_67 (by decide) (fun _ => ?_) (fun q => absurd q (by decide))
      refine g_bipush (v := (16 : Int32)) C dX2_passedOver_75 (by decide) ?_
      refine g_iadd C dX2_passedOver_77 ?_
      obtain ⟨q12, hq12, hf⟩ := en_bnd hf
      refine gc_X2_107_C_Code_cover C (ctC_Code_cover _ _ _ q12.1 q12.2 hq12) (by decide) (Nat.le_of_ble_eq_true rfl) dX2_passedOver_78 ?_
      refine g_iload_6 C dX2_passedOver_81 ?_
      refine g_if_eq (tgt := 98) C dX2_passedOver_83 (by decide) (fun _ => ?_) (fun q => absurd q (by decide))
      refine g_iconst (v := (0 : Int32)) C dX2_passedOver_98 (by decide) ?_
      exact g_iret C dX2_passedOver_99 (en_finI hf)
set_option maxHeartbeats 4000000 in
set_option maxRecDepth 100000 in
theorem ctC_State_putCell {l : Launch} {D : va_G} {K : en_K} {ad : Nat → Nat} (x1 : Int32) (x2 : Int32) (x3 : Int32) (u : Ug) (r0 : Int32) (u0 : Ug) (hf : fC_State_putCell x1 x2 x3 u = some (r0, u0)) : CT l D (en_ty K) ad (1) yX6_putCell cX6_putCell 5 none [.ref 1, .int x1, .int x2, .int x3] (wdC K u) (en_RV (wdC K) u0) := by
  refine CT.of (by decide) [some (.ref 1), some (.int x1), some (.int x2), some (.int x3), none] rfl (Nat.le_of_ble_eq_true rfl) ?_
  intro p e R s m args below meth c sz C
  unfold fC_State_putCell at hf
  refine g_iload_n_1 C dX6_putCell_0 ?_
  refine g_iconst (v := (4 : Int32)) C dX6_putCell_1 (by decide) ?_
  refine g_imul C dX6_putCell_2 ?_
  refine g_iload_n_2 C dX6_putCell_3 ?_
  refine g_iadd C dX6_putCell_4 ?_
  refine g_istore_4 C dX6_putCell_5 (by decide) rfl ?_
  refine g_iload_4 C dX6_putCell_7 ?_
  refine g_if_lt (tgt := 30) C dX6_putCell_9 (by decide) (fun c1 => ?_) (fun c1 => ?_)
  · rw [if_pos c1] at hf
    exact g_vret C dX6_putCell_30 (en_finV hf)
  · rw [if_neg c1] at hf
    refine g_iload_4 C dX6_putCell_12 ?_
    refine g_bipush (v := (16 : Int32)) C dX6_putCell_14 (by decide) ?_
    refine g_if_icmp_ge (tgt := 30) C dX6_putCell_16 (by decide) (fun c2 => ?_) (fun c2 => ?_)
    · rw [if_pos c2] at hf
      exact g_vret C dX6_putCell_30 (en_finV hf)
    · rw [if_neg c2] at hf
      refine g_aload_n_0 C dX6_putCell_19 ?_
      refine gf_X6_11 C dX6_putCell_20 ?_
      refine g_bipush (v := (12 : Int32)) C dX6_putCell_23 (by decide) ?_
      refine g_iload_4 C dX6_putCell_25 ?_
      refine g_iadd C dX6_putCell_27 ?_
      refine g_iload_n_3 C dX6_putCell_28 ?_
      obtain ⟨u3, hu3, hf⟩ := en_bnd hf
      refine gaC_st_2 C hu3 dX6_putCell_29 ?_
      exact g_vret C dX6_putCell_30 (en_finV hf)
set_option maxHeartbeats 4000000 in
set_option maxRecDepth 100000 in
theorem ctC_State_cellOf {l : Launch} {D : va_G} {K : en_K} {ad : Nat → Nat} (x1 : Int32) (x2 : Int32) (u : Ug) (r0 : Int32) (u0 : Ug) (hf : fC_State_cellOf x1 x2 u = some (r0, u0)) : CT l D (en_ty K) ad (1) yX6_cellOf cX6_cellOf 4 (some .int) [.ref 1, .int x1, .int x2] (wdC K u) (en_RI (wdC K) r0 u0) := by
  refine CT.of (by decide) [some (.ref 1), some (.int x1), some (.int x2), none] rfl (Nat.le_of_ble_eq_true rfl) ?_
  intro p e R s m args below meth c sz C
  unfold fC_State_cellOf at hf
  refine g_iload_n_1 C dX6_cellOf_0 ?_
  refine g_iconst (v := (4 : Int32)) C dX6_cellOf_1 (by decide) ?_
  refine g_imul C dX6_cellOf_2 ?_
  refine g_iload_n_2 C dX6_cellOf_3 ?_
  refine g_iadd C dX6_cellOf_4 ?_
  refine g_istore_n_3 C dX6_cellOf_5 (by decide) rfl ?_
  refine g_iload_n_3 C dX6_cellOf_6 ?_
  refine g_if_lt (tgt := 28) C dX6_cellOf_7 (by decide) (fun c1 => ?_) (fun c1 => ?_)
  · rw [if_pos c1] at hf
    refine g_iconst (v := (0 : Int32)) C dX6_cellOf_28 (by decide) ?_
    exact g_iret C dX6_cellOf_29 (en_finI hf)
  · rw [if_neg c1] at hf
    refine g_iload_n_3 C dX6_cellOf_10 ?_
    refine g_bipush (v := (16 : Int32)) C dX6_cellOf_11 (by decide) ?_
    refine g_if_icmp_ge (tgt := 28) C dX6_cellOf_13 (by decide) (fun c2 => ?_) (fun c2 => ?_)
    · rw [if_pos c2] at hf
      refine g_iconst (v := (0 : Int32)) C dX6_cellOf_28 (by decide) ?_
      exact g_iret C dX6_cellOf_29 (en_finI hf)
    · rw [if_neg c2] at hf
      refine g_aload_n_0 C dX6_cellOf_16 ?_
      refine gf_X6_11 C dX6_cellOf_17 ?_
      refine g_bipush (v := (12 : Int32)) C dX6_cellOf_20 (by decide) ?_
      refine g_iload_n_3 C dX6_cellOf_22 ?_
      refine g_iadd C dX6_cellOf_23 ?_
      obtain ⟨y3, hy3, hf⟩ := en_bnd hf
      refine gaC_ld_2 C hy3 dX6_cellOf_24 ?_
      refine g_goto (tgt := 29) C dX6_cellOf_25 (by decide) ?_
      exact g_iret C dX6_cellOf_29 (en_finI hf)
set_option maxHeartbeats 4000000 in
set_option maxRecDepth 100000 in
theorem ctC_State_addEvent {l : Launch} {D : va_G} {K : en_K} {ad : Nat → Nat} (x1 : Int32) (u : Ug) (r0 : Int32) (u0 : Ug) (hf : fC_State_addEvent x1 u = some (r0, u0)) : CT l D (en_ty K) ad (1) yX6_addEvent cX6_addEvent 3 none [.ref 1, .int x1] (wdC K u) (en_RV (wdC K) u0) := by
  refine CT.of (by decide) [some (.ref 1), some (.int x1), none] rfl (Nat.le_of_ble_eq_true rfl) ?_
  intro p e R s m args below meth c sz C
  unfold fC_State_addEvent at hf
  refine g_aload_n_0 C dX6_addEvent_0 ?_
  refine gf_X6_11 C dX6_addEvent_1 ?_
  refine g_bipush (v := (29 : Int32)) C dX6_addEvent_4 (by decide) ?_
  obtain ⟨y1, hy1, hf⟩ := en_bnd hf
  refine gaC_ld_2 C hy1 dX6_addEvent_6 ?_
  refine g_istore_n_2 C dX6_addEvent_7 (by decide) rfl ?_
  refine g_iload_n_2 C dX6_addEvent_8 ?_
  refine g_if_lt (tgt := 38) C dX6_addEvent_9 (by decide) (fun c2 => ?_) (fun c2 => ?_)
  · rw [if_pos c2] at hf
    exact g_vret C dX6_addEvent_38 (en_finV hf)
  · rw [if_neg c2] at hf
    refine g_iload_n_2 C dX6_addEvent_12 ?_
    refine g_bipush (v := (40 : Int32)) C dX6_addEvent_13 (by decide) ?_
    refine g_if_icmp_ge (tgt := 38) C dX6_addEvent_15 (by decide) (fun c3 => ?_) (fun c3 => ?_)
    · rw [if_pos c3] at hf
      exact g_vret C dX6_addEvent_38 (en_finV hf)
    · rw [if_neg c3] at hf
      refine g_aload_n_0 C dX6_addEvent_18 ?_
      refine gf_X6_11 C dX6_addEvent_19 ?_
      refine g_bipush (v := (30 : Int32)) C dX6_addEvent_22 (by decide) ?_
      refine g_iload_n_2 C dX6_addEvent_24 ?_
      refine g_iadd C dX6_addEvent_25 ?_
      refine g_iload_n_1 C dX6_addEvent_26 ?_
      obtain ⟨u4, hu4, hf⟩ := en_bnd hf
      refine gaC_st_2 C hu4 dX6_addEvent_27 ?_
      refine g_aload_n_0 C dX6_addEvent_28 ?_
      refine gf_X6_11 C dX6_addEvent_29 ?_
      refine g_bipush (v := (29 : Int32)) C dX6_addEvent_32 (by decide) ?_
      refine g_iload_n_2 C dX6_addEvent_34 ?_
      refine g_iconst (v := (1 : Int32)) C dX6_addEvent_35 (by decide) ?_
      refine g_iadd C dX6_addEvent_36 ?_
      obtain ⟨u5, hu5, hf⟩ := en_bnd hf
      refine gaC_st_2 C hu5 dX6_addEvent_37 ?_
      exact g_vret C dX6_addEvent_38 (en_finV hf)
set_option maxHeartbeats 4000000 in
set_option maxRecDepth 100000 in
theorem ctC_Machine_plainStep {l : Launch} {D : va_G} {K : en_K} {ad : Nat → Nat} (x1 : Int32) (x2 : Int32) (x3 : Int32) (u : Ug) (r0 : Int32) (u0 : Ug) (hf : fC_Machine_plainStep x1 x2 x3 u = some (r0, u0)) : CT l D (en_ty K) ad (2) yX2_plainStep cX2_plainStep 8 (some .int) [.ref 13, .int x1, .int x2, .int x3] (wdC K u) (en_RI (wdC K) r0 u0) := by
  refine CT.of (by decide) [some (.ref 13), some (.int x1), some (.int x2), some (.int x3), none, none, none, none] rfl (Nat.le_of_ble_eq_true rfl) ?_
  intro p e R s m args below meth c sz C
  unfold fC_Machine_plainStep at hf
  refine g_iload_n_1 C dX2_plainStep_0 ?_
  refine g_iconst (v := (3 : Int32)) C dX2_plainStep_1 (by decide) ?_
  refine g_idiv C dX2_plainStep_2 (by decide) ?_
  refine g_istore_4 C dX2_plainStep_3 (by decide) rfl ?_
  refine g_aload_n_0 C dX2_plainStep_5 ?_
  refine gf_X2_37 C dX2_plainStep_6 ?_
  refine g_iload_n_2 C dX2_plainStep_9 ?_
  obtain ⟨q1, hq1, hf⟩ := en_bnd hf
  refine gc_X2_85_C_Code_a C (ctC_Code_a _ _ q1.1 q1.2 hq1) (by decide) (Nat.le_of_ble_eq_true rfl) dX2_plainStep_10 ?_
  refine g_istore_5 C dX2_plainStep_13 (by decide) rfl ?_
  refine g_aload_n_0 C dX2_plainStep_15 ?_
  refine gf_X2_37 C dX2_plainStep_16 ?_
  refine g_iload_n_2 C dX2_plainStep_19 ?_
  obtain ⟨q2, hq2, hf⟩ := en_bnd hf
  refine gc_X2_111_C_Code_b C (ctC_Code_b _ _ q2.1 q2.2 hq2) (by decide) (Nat.le_of_ble_eq_true rfl) dX2_plainStep_20 ?_
  refine g_istore_6 C dX2_plainStep_23 (by decide) rfl ?_
  refine g_aload_n_0 C dX2_plainStep_25 ?_
  refine gf_X2_37 C dX2_plainStep_26 ?_
  refine g_iload_n_2 C dX2_plainStep_29 ?_
  obtain ⟨q3, hq3, hf⟩ := en_bnd hf
  refine gc_X2_82_C_Code_kind C (ctC_Code_kind _ _ q3.1 q3.2 hq3) (by decide) (Nat.le_of_ble_eq_true rfl) dX2_plainStep_30 ?_
  rcases Decidable.em (q3.1 = (0 : Int32)) with s33_0 | s33_0
  · rw [if_pos s33_0] at hf
    refine g_tsw (z := (0 : Int32)) (tgt := 96) C dX2_plainStep_33 s33_0 (by decide) (by decide) rfl (by decide) ?_
    refine g_aload_n_0 C dX2_plainStep_96 ?_
    refine gf_X2_33 C dX2_plainStep_97 ?_
    refine g_iload_4 C dX2_plainStep_100 ?_
    refine g_iload_5 C dX2_plainStep_102 ?_
    refine g_iload_n_3 C dX2_plainStep_104 ?_
    obtain ⟨q4, hq4, hf⟩ := en_bnd hf
    refine gc_X2_125_C_State_putCell C (ctC_State_putCell _ _ _ _ q4.1 q4.2 hq4) (by decide) (Nat.le_of_ble_eq_true rfl) dX2_plainStep_105 ?_
    refine g_iload_n_3 C dX2_plainStep_108 ?_
    exact g_iret C dX2_plainStep_109 (en_finI hf)
  rw [if_neg s33_0] at hf
  rcases Decidable.em (q3.1 = (1 : Int32)) with s33_1 | s33_1
  · rw [if_pos s33_1] at hf
    refine g_tsw (z := (1 : Int32)) (tgt := 110) C dX2_plainStep_33 s33_1 (by decide) (by decide) rfl (by decide) ?_
    refine g_aload_n_0 C dX2_plainStep_110 ?_
    refine gf_X2_33 C dX2_plainStep_111 ?_
    refine g_iload_4 C dX2_plainStep_114 ?_
    refine g_iload_5 C dX2_plainStep_116 ?_
    obtain ⟨q5, hq5, hf⟩ := en_bnd hf
    refine gc_X2_129_C_State_cellOf C (ctC_State_cellOf _ _ _ q5.1 q5.2 hq5) (by decide) (Nat.le_of_ble_eq_true rfl) dX2_plainStep_118 ?_
    exact g_iret C dX2_plainStep_121 (en_finI hf)
  rw [if_neg s33_1] at hf
  rcases Decidable.em (q3.1 = (2 : Int32)) with s33_2 | s33_2
  · rw [if_pos s33_2] at hf
    refine g_tsw (z := (2 : Int32)) (tgt := 122) C dX2_plainStep_33 s33_2 (by decide) (by decide) rfl (by decide) ?_
    refine g_iload_n_3 C dX2_plainStep_122 ?_
    refine g_iload_6 C dX2_plainStep_123 ?_
    refine g_iadd C dX2_plainStep_125 ?_
    exact g_iret C dX2_plainStep_126 (en_finI hf)
  rw [if_neg s33_2] at hf
  rcases Decidable.em (q3.1 = (3 : Int32)) with s33_3 | s33_3
  · rw [if_pos s33_3] at hf
    refine g_tsw (z := (3 : Int32)) (tgt := 127) C dX2_plainStep_33 s33_3 (by decide) (by decide) rfl (by decide) ?_
    refine g_iload_n_3 C dX2_plainStep_127 ?_
    refine g_aload_n_0 C dX2_plainStep_128 ?_
    refine gf_X2_33 C dX2_plainStep_129 ?_
    refine g_iload_4 C dX2_plainStep_132 ?_
    refine g_iload_5 C dX2_plainStep_134 ?_
    obtain ⟨q6, hq6, hf⟩ := en_bnd hf
    refine gc_X2_129_C_State_cellOf C (ctC_State_cellOf _ _ _ q6.1 q6.2 hq6) (by decide) (Nat.le_of_ble_eq_true rfl) dX2_plainStep_136 ?_
    refine g_isub C dX2_plainStep_139 ?_
    exact g_iret C dX2_plainStep_140 (en_finI hf)
  rw [if_neg s33_3] at hf
  rcases Decidable.em (q3.1 = (4 : Int32)) with s33_4 | s33_4
  · rw [if_pos s33_4] at hf
    refine g_tsw (z := (4 : Int32)) (tgt := 141) C dX2_plainStep_33 s33_4 (by decide) (by decide) rfl (by decide) ?_
    refine g_aload_n_0 C dX2_plainStep_141 ?_
    refine g_iload_n_3 C dX2_plainStep_142 ?_
    refine g_iload_6 C dX2_plainStep_143 ?_
    refine g_if_icmp_ge (tgt := 156) C dX2_plainStep_145 (by decide) (fun c7 => ?_) (fun c7 => ?_)
    · rw [if_pos c7] at hf
      refine g_iconst (v := (0 : Int32)) C dX2_plainStep_156 (by decide) ?_
      obtain ⟨q8, hq8, hf⟩ := en_bnd hf
      refine gc_X2_45_C_Machine_raise C (ctC_Machine_raise _ _ q8.1 q8.2 hq8) (by decide) (Nat.le_of_ble_eq_true rfl) dX2_plainStep_157 ?_
      refine g_iload_n_3 C dX2_plainStep_160 ?_
      exact g_iret C dX2_plainStep_161 (en_finI hf)
    · rw [if_neg c7] at hf
      refine g_bipush (v := (10 : Int32)) C dX2_plainStep_148 (by decide) ?_
      refine g_iload_5 C dX2_plainStep_150 ?_
      refine g_iadd C dX2_plainStep_152 ?_
      refine g_goto (tgt := 157) C dX2_plainStep_153 (by decide) ?_
      obtain ⟨q9, hq9, hf⟩ := en_bnd hf
      refine gc_X2_45_C_Machine_raise C (ctC_Machine_raise _ _ q9.1 q9.2 hq9) (by decide) (Nat.le_of_ble_eq_true rfl) dX2_plainStep_157 ?_
      refine g_iload_n_3 C dX2_plainStep_160 ?_
      exact g_iret C dX2_plainStep_161 (en_finI hf)
  rw [if_neg s33_4] at hf
  rcases Decidable.em (q3.1 = (5 : Int32)) with s33_5 | s33_5
  · rw [if_pos s33_5] at hf
    refine g_tsw (z := (5 : Int32)) (tgt := 162) C dX2_plainStep_33 s33_5 (by decide) (by decide) rfl (by decide) ?_
    refine g_aload_n_0 C dX2_plainStep_162 ?_
    refine g_aload_n_0 C dX2_plainStep_163 ?_
    refine gf_X2_33 C dX2_plainStep_164 ?_
    refine g_iload_n_1 C dX2_plainStep_167 ?_
    obtain ⟨q10, hq10, hf⟩ := en_bnd hf
    refine gc_X2_61_C_Machine_accountOf C (ctC_Machine_accountOf _ _ q10.1 q10.2 hq10) (by decide) (Nat.le_of_ble_eq_true rfl) dX2_plainStep_168 ?_
    refine g_iload_5 C dX2_plainStep_171 ?_
    refine g_iload_n_3 C dX2_plainStep_173 ?_
    obtain ⟨q11, hq11, hf⟩ := en_bnd hf
    refine gc_X2_65_C_State_pay C (ctC_State_pay _ _ _ _ q11.1 q11.2 hq11) (by decide) (Nat.le_of_ble_eq_true rfl) dX2_plainStep_174 ?_
    obtain ⟨q12, hq12, hf⟩ := en_bnd hf
    refine gc_X2_45_C_Machine_raise C (ctC_Machine_raise _ _ q12.1 q12.2 hq12) (by decide) (Nat.le_of_ble_eq_true rfl) dX2_plainStep_177 ?_
    refine g_iload_n_3 C dX2_plainStep_180 ?_
    exact g_iret C dX2_plainStep_181 (en_finI hf)
  rw [if_neg s33_5] at hf
  rcases Decidable.em (q3.1 = (6 : Int32)) with s33_6 | s33_6
  · rw [if_pos s33_6] at hf
    refine g_tsw (z := (6 : Int32)) (tgt := 182) C dX2_plainStep_33 s33_6 (by decide) (by decide) rfl (by decide) ?_
    refine g_aload_n_0 C dX2_plainStep_182 ?_
    refine gf_X2_33 C dX2_plainStep_183 ?_
    refine g_iload_n_3 C dX2_plainStep_186 ?_
    obtain ⟨q13, hq13, hf⟩ := en_bnd hf
    refine gc_X2_132_C_State_addEvent C (ctC_State_addEvent _ _ q13.1 q13.2 hq13) (by decide) (Nat.le_of_ble_eq_true rfl) dX2_plainStep_187 ?_
    refine g_iload_n_3 C dX2_plainStep_190 ?_
    exact g_iret C dX2_plainStep_191 (en_finI hf)
  rw [if_neg s33_6] at hf
  rcases Decidable.em (q3.1 = (10 : Int32)) with s33_10 | s33_10
  · rw [if_pos s33_10] at hf
    refine g_tsw (z := (10 : Int32)) (tgt := 192) C dX2_plainStep_33 s33_10 (by decide) (by decide) rfl (by decide) ?_
    refine g_aload_n_0 C dX2_plainStep_192 ?_
    refine gf_X2_33 C dX2_plainStep_193 ?_
    obtain ⟨q14, hq14, hf⟩ := en_bnd hf
    refine gc_X2_135_C_State_height C (ctC_State_height _ q14.1 q14.2 hq14) (by decide) (Nat.le_of_ble_eq_true rfl) dX2_plainStep_196 ?_
    exact g_iret C dX2_plainStep_199 (en_finI hf)
  rw [if_neg s33_10] at hf
  rcases Decidable.em (q3.1 = (11 : Int32)) with s33_11 | s33_11
  · rw [if_pos s33_11] at hf
    refine g_tsw (z := (11 : Int32)) (tgt := 200) C dX2_plainStep_33 s33_11 (by decide) (by decide) rfl (by decide) ?_
    refine g_aload_n_0 C dX2_plainStep_200 ?_
    refine gf_X2_33 C dX2_plainStep_201 ?_
    refine g_iload_4 C dX2_plainStep_204 ?_
    refine g_iload_5 C dX2_plainStep_206 ?_
    obtain ⟨q15, hq15, hf⟩ := en_bnd hf
    refine gc_X2_129_C_State_cellOf C (ctC_State_cellOf _ _ _ q15.1 q15.2 hq15) (by decide) (Nat.le_of_ble_eq_true rfl) dX2_plainStep_208 ?_
    refine g_istore_7 C dX2_plainStep_211 (by decide) rfl ?_
    refine g_iload_7 C dX2_plainStep_213 ?_
    refine g_if_ne (tgt := 226) C dX2_plainStep_215 (by decide) (fun c16 => ?_) (fun c16 => ?_)
    · rw [if_neg c16] at hf
      refine g_iload_n_3 C dX2_plainStep_226 ?_
      refine g_iload_7 C dX2_plainStep_227 ?_
      obtain ⟨c17, hf⟩ := en_nz hf
      refine g_idiv C dX2_plainStep_229 c17 ?_
      exact g_iret C dX2_plainStep_230 (en_finI hf)
    · rw [if_pos c16] at hf
      refine g_aload_n_0 C dX2_plainStep_218 ?_
      refine g_bipush (v := (6 : Int32)) C dX2_plainStep_219 (by decide) ?_
      obtain ⟨q18, hq18, hf⟩ := en_bnd hf
      refine gc_X2_45_C_Machine_raise C (ctC_Machine_raise _ _ q18.1 q18.2 hq18) (by decide) (Nat.le_of_ble_eq_true rfl) dX2_plainStep_221 ?_
      refine g_iload_n_3 C dX2_plainStep_224 ?_
      exact g_iret C dX2_plainStep_225 (en_finI hf)
  rw [if_neg s33_11] at hf
  refine g_tswD (tgt := 231) C [(0 : Int32), (1 : Int32), (2 : Int32), (3 : Int32), (4 : Int32), (5 : Int32), (6 : Int32), (10 : Int32), (11 : Int32)] dX2_plainStep_33 (And.intro s33_0 (And.intro s33_1 (And.intro s33_2 (And.intro s33_3 (And.intro s33_4 (And.intro s33_5 (And.intro s33_6 (And.intro s33_10 (And.intro s33_11 trivial))))))))) 12 (by decide) (by decide) (by decide) ?_
  refine g_iload_n_3 C dX2_plainStep_231 ?_
  exact g_iret C dX2_plainStep_232 (en_finI hf)
set_option maxHeartbeats 4000000 in
set_option maxRecDepth 100000 in
theorem ctC_Faces_boundTo {l : Launch} {D : va_G} {K : en_K} {ad : Nat → Nat} (x1 : Int32) (u : Ug) (r0 : Int32) (u0 : Ug) (hf : fC_Faces_boundTo x1 u = some (r0, u0)) : CT l D (en_ty K) ad (1) yX1_boundTo cX1_boundTo 2 (some .int) [.ref 9, .int x1] (wdC K u) (en_RI (wdC K) r0 u0) := by
  refine CT.of (by decide) [some (.ref 9), some (.int x1)] rfl (Nat.le_of_ble_eq_true rfl) ?_
  intro p e R s m args below meth c sz C
  unfold fC_Faces_boundTo at hf
  refine g_iload_n_1 C dX1_boundTo_0 ?_
  refine g_if_lt (tgt := 18) C dX1_boundTo_1 (by decide) (fun c1 => ?_) (fun c1 => ?_)
  · rw [if_pos c1] at hf
    refine g_iconst (v := (-1 : Int32)) C dX1_boundTo_18 (by decide) ?_
    exact g_iret C dX1_boundTo_19 (en_finI hf)
  · rw [if_neg c1] at hf
    refine g_iload_n_1 C dX1_boundTo_4 ?_
    refine g_iconst (v := (4 : Int32)) C dX1_boundTo_5 (by decide) ?_
    refine g_if_icmp_ge (tgt := 18) C dX1_boundTo_6 (by decide) (fun c2 => ?_) (fun c2 => ?_)
    · rw [if_pos c2] at hf
      refine g_iconst (v := (-1 : Int32)) C dX1_boundTo_18 (by decide) ?_
      exact g_iret C dX1_boundTo_19 (en_finI hf)
    · rw [if_neg c2] at hf
      refine g_aload_n_0 C dX1_boundTo_9 ?_
      refine gf_X1_9 C dX1_boundTo_10 ?_
      refine g_iload_n_1 C dX1_boundTo_13 ?_
      obtain ⟨y3, hy3, hf⟩ := en_bnd hf
      refine gaC_ld_10 C hy3 dX1_boundTo_14 ?_
      refine g_goto (tgt := 19) C dX1_boundTo_15 (by decide) ?_
      exact g_iret C dX1_boundTo_19 (en_finI hf)
set_option maxHeartbeats 4000000 in
set_option maxRecDepth 100000 in
theorem ctC_Faces_doubleOf {l : Launch} {D : va_G} {K : en_K} {ad : Nat → Nat} (x1 : Int32) (u : Ug) (r0 : Int32) (u0 : Ug) (hf : fC_Faces_doubleOf x1 u = some (r0, u0)) : CT l D (en_ty K) ad (1) yX1_doubleOf cX1_doubleOf 2 (some .int) [.ref 9, .int x1] (wdC K u) (en_RI (wdC K) r0 u0) := by
  refine CT.of (by decide) [some (.ref 9), some (.int x1)] rfl (Nat.le_of_ble_eq_true rfl) ?_
  intro p e R s m args below meth c sz C
  unfold fC_Faces_doubleOf at hf
  refine g_iload_n_1 C dX1_doubleOf_0 ?_
  refine g_if_lt (tgt := 18) C dX1_doubleOf_1 (by decide) (fun c1 => ?_) (fun c1 => ?_)
  · rw [if_pos c1] at hf
    refine g_iconst (v := (0 : Int32)) C dX1_doubleOf_18 (by decide) ?_
    exact g_iret C dX1_doubleOf_19 (en_finI hf)
  · rw [if_neg c1] at hf
    refine g_iload_n_1 C dX1_doubleOf_4 ?_
    refine g_iconst (v := (4 : Int32)) C dX1_doubleOf_5 (by decide) ?_
    refine g_if_icmp_ge (tgt := 18) C dX1_doubleOf_6 (by decide) (fun c2 => ?_) (fun c2 => ?_)
    · rw [if_pos c2] at hf
      refine g_iconst (v := (0 : Int32)) C dX1_doubleOf_18 (by decide) ?_
      exact g_iret C dX1_doubleOf_19 (en_finI hf)
    · rw [if_neg c2] at hf
      refine g_aload_n_0 C dX1_doubleOf_9 ?_
      refine gf_X1_13 C dX1_doubleOf_10 ?_
      refine g_iload_n_1 C dX1_doubleOf_13 ?_
      obtain ⟨y3, hy3, hf⟩ := en_bnd hf
      refine gaC_ld_11 C hy3 dX1_doubleOf_14 ?_
      refine g_goto (tgt := 19) C dX1_doubleOf_15 (by decide) ?_
      exact g_iret C dX1_doubleOf_19 (en_finI hf)
set_option maxHeartbeats 4000000 in
set_option maxRecDepth 100000 in
theorem ctC_Faces_numberOf {l : Launch} {D : va_G} {K : en_K} {ad : Nat → Nat} (x1 : Int32) (u : Ug) (r0 : Int32) (u0 : Ug) (hf : fC_Faces_numberOf x1 u = some (r0, u0)) : CT l D (en_ty K) ad (1) yX1_numberOf cX1_numberOf 2 (some .int) [.ref 9, .int x1] (wdC K u) (en_RI (wdC K) r0 u0) := by
  refine CT.of (by decide) [some (.ref 9), some (.int x1)] rfl (Nat.le_of_ble_eq_true rfl) ?_
  intro p e R s m args below meth c sz C
  unfold fC_Faces_numberOf at hf
  refine g_iload_n_1 C dX1_numberOf_0 ?_
  refine g_if_lt (tgt := 18) C dX1_numberOf_1 (by decide) (fun c1 => ?_) (fun c1 => ?_)
  · rw [if_pos c1] at hf
    refine g_iconst (v := (0 : Int32)) C dX1_numberOf_18 (by decide) ?_
    exact g_iret C dX1_numberOf_19 (en_finI hf)
  · rw [if_neg c1] at hf
    refine g_iload_n_1 C dX1_numberOf_4 ?_
    refine g_iconst (v := (4 : Int32)) C dX1_numberOf_5 (by decide) ?_
    refine g_if_icmp_ge (tgt := 18) C dX1_numberOf_6 (by decide) (fun c2 => ?_) (fun c2 => ?_)
    · rw [if_pos c2] at hf
      refine g_iconst (v := (0 : Int32)) C dX1_numberOf_18 (by decide) ?_
      exact g_iret C dX1_numberOf_19 (en_finI hf)
    · rw [if_neg c2] at hf
      refine g_aload_n_0 C dX1_numberOf_9 ?_
      refine gf_X1_16 C dX1_numberOf_10 ?_
      refine g_iload_n_1 C dX1_numberOf_13 ?_
      obtain ⟨y3, hy3, hf⟩ := en_bnd hf
      refine gaC_ld_12 C hy3 dX1_numberOf_14 ?_
      refine g_goto (tgt := 19) C dX1_numberOf_15 (by decide) ?_
      exact g_iret C dX1_numberOf_19 (en_finI hf)
set_option maxHeartbeats 4000000 in
set_option maxRecDepth 100000 in
theorem ctC_State_bringFrom_14 {l : Launch} {D : va_G} {K : en_K} {ad : Nat → Nat} (x2 : Int32) (u : Ug) (r0 : Int32) (u0 : Ug) (hf : fC_State_bringFrom_14 x2 u = some (r0, u0)) : CT l D (en_ty K) ad (1) yX6_bringFrom cX6_bringFrom 3 (some .boolean) [.ref 1, .ref 14, .int x2] (wdC K u) (en_RI (wdC K) r0 u0) := by
  refine CT.of (by decide) [some (.ref 1), some (.ref 14), some (.int x2)] rfl (Nat.le_of_ble_eq_true rfl) ?_
  intro p e R s m args below meth c sz C
  unfold fC_State_bringFrom_14 at hf
  refine g_aload_n_1 C dX6_bringFrom_0 ?_
  refine g_ifnull C dX6_bringFrom_1 ?_
  refine g_iload_n_2 C dX6_bringFrom_4 ?_
  refine g_if_lt (tgt := 17) C dX6_bringFrom_5 (by decide) (fun c1 => ?_) (fun c1 => ?_)
  · rw [if_pos c1] at hf
    refine g_iconst (v := (0 : Int32)) C dX6_bringFrom_17 (by decide) ?_
    exact g_zret C rfl dX6_bringFrom_18 (en_finI hf)
  · rw [if_neg c1] at hf
    refine g_iload_n_2 C dX6_bringFrom_8 ?_
    refine g_aload_n_1 C dX6_bringFrom_9 ?_
    refine gaC_len_14 C dX6_bringFrom_10 ?_
    refine g_bipush (v := (70 : Int32)) C dX6_bringFrom_11 (by decide) ?_
    refine g_idiv C dX6_bringFrom_13 (by decide) ?_
    refine g_if_icmp_lt (tgt := 19) C dX6_bringFrom_14 (by decide) (fun c2 => ?_) (fun c2 => ?_)
    · rw [if_pos c2] at hf
      refine g_aload_n_1 C dX6_bringFrom_19 ?_
      refine g_iload_n_2 C dX6_bringFrom_20 ?_
      refine g_bipush (v := (70 : Int32)) C dX6_bringFrom_21 (by decide) ?_
      refine g_imul C dX6_bringFrom_23 ?_
      refine g_aload_n_0 C dX6_bringFrom_24 ?_
      refine gf_X6_11 C dX6_bringFrom_25 ?_
      refine g_iconst (v := (0 : Int32)) C dX6_bringFrom_28 (by decide) ?_
      refine g_bipush (v := (70 : Int32)) C dX6_bringFrom_29 (by decide) ?_
      obtain ⟨u3, hu3, hf⟩ := en_bnd hf
      refine gy_X6_18_14_2 C (by decide) (Nat.le_of_ble_eq_true rfl) hu3 dX6_bringFrom_31 ?_
      refine g_iconst (v := (1 : Int32)) C dX6_bringFrom_34 (by decide) ?_
      exact g_zret C rfl dX6_bringFrom_35 (en_finI hf)
    · rw [if_neg c2] at hf
      refine g_iconst (v := (0 : Int32)) C dX6_bringFrom_17 (by decide) ?_
      exact g_zret C rfl dX6_bringFrom_18 (en_finI hf)
set_option maxHeartbeats 4000000 in
set_option maxRecDepth 100000 in
theorem ctC_Machine_tried_open {l : Launch} {D : va_G} {K : en_K} {ad : Nat → Nat} {k_C_Machine_asked : Int32 → Int32 → Int32 → Int32 → Int32 → Ug → Option (Int32 × Ug)} {k_C_Machine_block : Int32 → Int32 → Int32 → Int32 → Int32 → Int32 → Ug → Option (Int32 × Ug)} {k_C_Machine_oneCall : Int32 → Int32 → Int32 → Int32 → Int32 → Int32 → Ug → Option (Int32 × Ug)} {k_C_Machine_tried : Int32 → Int32 → Int32 → Int32 → Int32 → Int32 → Ug → Option (Int32 × Ug)} {d : Nat} (hb : 3 ≤ d) (h_C_Machine_asked : ∀ (x1 : Int32) (x2 : Int32) (x3 : Int32) (x4 : Int32) (x5 : Int32) (u : Ug) (r0 : Int32) (u0 : Ug), k_C_Machine_asked x1 x2 x3 x4 x5 u = some (r0, u0) → CT l D (en_ty K) ad (d) yX2_asked cX2_asked 8 (some .int) [.ref 13, .int x1, .int x2, .int x3, .int x4, .int x5] (wdC K u) (en_RI (wdC K) r0 u0)) (h_C_Machine_block : ∀ (x1 : Int32) (x2 : Int32) (x3 : Int32) (x4 : Int32) (x5 : Int32) (x6 : Int32) (u : Ug) (r0 : Int32) (u0 : Ug), k_C_Machine_block x1 x2 x3 x4 x5 x6 u = some (r0, u0) → CT l D (en_ty K) ad (d) yX2_block cX2_block 12 (some .int) [.ref 13, .int x1, .int x2, .int x3, .int x4, .int x5, .int x6] (wdC K u) (en_RI (wdC K) r0 u0)) (h_C_Machine_oneCall : ∀ (x1 : Int32) (x2 : Int32) (x3 : Int32) (x4 : Int32) (x5 : Int32) (x6 : Int32) (u : Ug) (r0 : Int32) (u0 : Ug), k_C_Machine_oneCall x1 x2 x3 x4 x5 x6 u = some (r0, u0) → CT l D (en_ty K) ad (d) yX2_oneCall cX2_oneCall 8 (some .int) [.ref 13, .int x1, .int x2, .int x3, .int x4, .int x5, .int x6] (wdC K u) (en_RI (wdC K) r0 u0)) (h_C_Machine_tried : ∀ (x1 : Int32) (x2 : Int32) (x3 : Int32) (x4 : Int32) (x5 : Int32) (x6 : Int32) (u : Ug) (r0 : Int32) (u0 : Ug), k_C_Machine_tried x1 x2 x3 x4 x5 x6 u = some (r0, u0) → CT l D (en_ty K) ad (d) yX2_tried cX2_tried 9 (some .int) [.ref 13, .int x1, .int x2, .int x3, .int x4, .int x5, .int x6] (wdC K u) (en_RI (wdC K) r0 u0)) (x1 : Int32) (x2 : Int32) (x3 : Int32) (x4 : Int32) (x5 : Int32) (x6 : Int32) (u : Ug) (r0 : Int32) (u0 : Ug) (hf : gC_Machine_tried k_C_Machine_asked k_C_Machine_block k_C_Machine_oneCall k_C_Machine_tried x1 x2 x3 x4 x5 x6 u = some (r0, u0)) : CT l D (en_ty K) ad (d + 1) yX2_tried cX2_tried 9 (some .int) [.ref 13, .int x1, .int x2, .int x3, .int x4, .int x5, .int x6] (wdC K u) (en_RI (wdC K) r0 u0) := by
  refine CT.of (by decide) [some (.ref 13), some (.int x1), some (.int x2), some (.int x3), some (.int x4), some (.int x5), some (.int x6), none, none] rfl (Nat.le_of_ble_eq_true rfl) ?_
  intro p e R s m args below meth c sz C
  unfold gC_Machine_tried at hf
  refine g_aload_n_0 C dX2_tried_0 ?_
  refine gf_X2_33 C dX2_tried_1 ?_
  refine g_aload_n_0 C dX2_tried_4 ?_
  refine gf_X2_13 C dX2_tried_5 ?_
  refine g_iload_6 C dX2_tried_8 ?_
  obtain ⟨q1, hq1, hf⟩ := en_bnd hf
  refine gc_X2_57_C_State_keepIn_14 C (ctC_State_keepIn_14 _ _ q1.1 q1.2 hq1) (by omega) (Nat.le_of_ble_eq_true rfl) dX2_tried_10 ?_
  refine g_if_ne (tgt := 25) C dX2_tried_13 (by decide) (fun c2 => ?_) (fun c2 => ?_)
  · rw [if_neg c2] at hf
    refine g_aload_n_0 C dX2_tried_25 ?_
    refine g_iload_n_1 C dX2_tried_26 ?_
    refine g_iload_n_2 C dX2_tried_27 ?_
    refine g_iload_n_3 C dX2_tried_28 ?_
    refine g_iload_4 C dX2_tried_29 ?_
    refine g_iload_5 C dX2_tried_31 ?_
    refine g_iload_6 C dX2_tried_33 ?_
    refine g_iconst (v := (1 : Int32)) C dX2_tried_35 (by decide) ?_
    refine g_iadd C dX2_tried_36 ?_
    obtain ⟨q3, hq3, hf⟩ := en_bnd hf
    refine gc_X2_72_C_Machine_block C (h_C_Machine_block _ _ _ _ _ _ _ q3.1 q3.2 hq3) (by omega) (Nat.le_of_ble_eq_true rfl) dX2_tried_37 ?_
    refine g_istore_7 C dX2_tried_40 (by decide) rfl ?_
    refine g_aload_n_0 C dX2_tried_42 ?_
    obtain ⟨q4, hq4, hf⟩ := en_bnd hf
    refine gc_X2_53_C_Machine_threw C (ctC_Machine_threw _ q4.1 q4.2 hq4) (by omega) (Nat.le_of_ble_eq_true rfl) dX2_tried_43 ?_
    refine g_if_eq (tgt := 58) C dX2_tried_46 (by decide) (fun c5 => ?_) (fun c5 => ?_)
    · rw [if_pos c5] at hf
      refine g_iload_7 C dX2_tried_58 ?_
      exact g_iret C dX2_tried_60 (en_finI hf)
    · rw [if_neg c5] at hf
      refine g_aload_n_0 C dX2_tried_49 ?_
      refine gf_X2_24 C dX2_tried_50 ?_
      refine g_bipush (v := (7 : Int32)) C dX2_tried_53 (by decide) ?_
      refine g_if_icmp_ne (tgt := 61) C dX2_tried_55 (by decide) (fun c6 => ?_) (fun c6 => ?_)
      · rw [if_neg c6] at hf
        refine g_aload_n_0 C dX2_tried_61 ?_
        refine gf_X2_24 C dX2_tried_62 ?_
        refine g_istore_8 C dX2_tried_65 (by decide) rfl ?_
        refine g_aload_n_0 C dX2_tried_67 ?_
        refine g_iconst (v := (0 : Int32)) C dX2_tried_68 (by decide) ?_
        obtain ⟨q7, hq7, hf⟩ := en_bnd hf
        refine gc_X2_45_C_Machine_raise C (ctC_Machine_raise _ _ q7.1 q7.2 hq7) (by omega) (Nat.le_of_ble_eq_true rfl) dX2_tried_69 ?_
        refine g_aload_n_0 C dX2_tried_72 ?_
        refine gf_X2_33 C dX2_tried_73 ?_
        refine g_aload_n_0 C dX2_tried_76 ?_
        refine gf_X2_13 C dX2_tried_77 ?_
        refine g_iload_6 C dX2_tried_80 ?_
        obtain ⟨q8, hq8, hf⟩ := en_bnd hf
        refine gc_X2_75_C_State_bringFrom_14 C (ctC_State_bringFrom_14 _ _ q8.1 q8.2 hq8) (by omega) (Nat.le_of_ble_eq_true rfl) dX2_tried_82 ?_
        refine g_pop C dX2_tried_85 rfl ?_
        refine g_iload_8 C dX2_tried_86 ?_
        exact g_iret C dX2_tried_88 (en_finI hf)
      · rw [if_pos c6] at hf
        refine g_iload_7 C dX2_tried_58 ?_
        exact g_iret C dX2_tried_60 (en_finI hf)
  · rw [if_pos c2] at hf
    refine g_aload_n_0 C dX2_tried_16 ?_
    refine g_bipush (v := (7 : Int32)) C dX2_tried_17 (by decide) ?_
    obtain ⟨q9, hq9, hf⟩ := en_bnd hf
    refine gc_X2_45_C_Machine_raise C (ctC_Machine_raise _ _ q9.1 q9.2 hq9) (by omega) (Nat.le_of_ble_eq_true rfl) dX2_tried_19 ?_
    refine g_iload_4 C dX2_tried_22 ?_
    exact g_iret C dX2_tried_24 (en_finI hf)
set_option maxHeartbeats 4000000 in
set_option maxRecDepth 100000 in
theorem ctC_Machine_asked_open {l : Launch} {D : va_G} {K : en_K} {ad : Nat → Nat} {k_C_Machine_asked : Int32 → Int32 → Int32 → Int32 → Int32 → Ug → Option (Int32 × Ug)} {k_C_Machine_block : Int32 → Int32 → Int32 → Int32 → Int32 → Int32 → Ug → Option (Int32 × Ug)} {k_C_Machine_oneCall : Int32 → Int32 → Int32 → Int32 → Int32 → Int32 → Ug → Option (Int32 × Ug)} {k_C_Machine_tried : Int32 → Int32 → Int32 → Int32 → Int32 → Int32 → Ug → Option (Int32 × Ug)} {d : Nat} (hb : 3 ≤ d) (h_C_Machine_asked : ∀ (x1 : Int32) (x2 : Int32) (x3 : Int32) (x4 : Int32) (x5 : Int32) (u : Ug) (r0 : Int32) (u0 : Ug), k_C_Machine_asked x1 x2 x3 x4 x5 u = some (r0, u0) → CT l D (en_ty K) ad (d) yX2_asked cX2_asked 8 (some .int) [.ref 13, .int x1, .int x2, .int x3, .int x4, .int x5] (wdC K u) (en_RI (wdC K) r0 u0)) (h_C_Machine_block : ∀ (x1 : Int32) (x2 : Int32) (x3 : Int32) (x4 : Int32) (x5 : Int32) (x6 : Int32) (u : Ug) (r0 : Int32) (u0 : Ug), k_C_Machine_block x1 x2 x3 x4 x5 x6 u = some (r0, u0) → CT l D (en_ty K) ad (d) yX2_block cX2_block 12 (some .int) [.ref 13, .int x1, .int x2, .int x3, .int x4, .int x5, .int x6] (wdC K u) (en_RI (wdC K) r0 u0)) (h_C_Machine_oneCall : ∀ (x1 : Int32) (x2 : Int32) (x3 : Int32) (x4 : Int32) (x5 : Int32) (x6 : Int32) (u : Ug) (r0 : Int32) (u0 : Ug), k_C_Machine_oneCall x1 x2 x3 x4 x5 x6 u = some (r0, u0) → CT l D (en_ty K) ad (d) yX2_oneCall cX2_oneCall 8 (some .int) [.ref 13, .int x1, .int x2, .int x3, .int x4, .int x5, .int x6] (wdC K u) (en_RI (wdC K) r0 u0)) (h_C_Machine_tried : ∀ (x1 : Int32) (x2 : Int32) (x3 : Int32) (x4 : Int32) (x5 : Int32) (x6 : Int32) (u : Ug) (r0 : Int32) (u0 : Ug), k_C_Machine_tried x1 x2 x3 x4 x5 x6 u = some (r0, u0) → CT l D (en_ty K) ad (d) yX2_tried cX2_tried 9 (some .int) [.ref 13, .int x1, .int x2, .int x3, .int x4, .int x5, .int x6] (wdC K u) (en_RI (wdC K) r0 u0)) (x1 : Int32) (x2 : Int32) (x3 : Int32) (x4 : Int32) (x5 : Int32) (u : Ug) (r0 : Int32) (u0 : Ug) (hf : gC_Machine_asked k_C_Machine_asked k_C_Machine_block k_C_Machine_oneCall k_C_Machine_tried x1 x2 x3 x4 x5 u = some (r0, u0)) : CT l D (en_ty K) ad (d + 1) yX2_asked cX2_asked 8 (some .int) [.ref 13, .int x1, .int x2, .int x3, .int x4, .int x5] (wdC K u) (en_RI (wdC K) r0 u0) := by
  refine CT.of (by decide) [some (.ref 13), some (.int x1), some (.int x2), some (.int x3), some (.int x4), some (.int x5), none, none] rfl (Nat.le_of_ble_eq_true rfl) ?_
  intro p e R s m args below meth c sz C
  unfold gC_Machine_asked at hf
  refine g_iload_n_3 C dX2_asked_0 ?_
  refine g_istore_6 C dX2_asked_1 (by decide) rfl ?_
  refine g_aload_n_0 C dX2_asked_3 ?_
  refine gf_X2_41 C dX2_asked_4 ?_
  refine g_iload_n_1 C dX2_asked_7 ?_
  obtain ⟨q1, hq1, hf⟩ := en_bnd hf
  refine gc_X2_114_C_Faces_boundTo C (ctC_Faces_boundTo _ _ q1.1 q1.2 hq1) (by omega) (Nat.le_of_ble_eq_true rfl) dX2_asked_8 ?_
  refine g_istore_7 C dX2_asked_11 (by decide) rfl ?_
  refine g_aload_n_0 C dX2_asked_13 ?_
  refine gf_X2_41 C dX2_asked_14 ?_
  refine g_iload_n_1 C dX2_asked_17 ?_
  obtain ⟨q2, hq2, hf⟩ := en_bnd hf
  refine gc_X2_119_C_Faces_doubleOf C (ctC_Faces_doubleOf _ _ q2.1 q2.2 hq2) (by omega) (Nat.le_of_ble_eq_true rfl) dX2_asked_18 ?_
  refine g_iconst (v := (1 : Int32)) C dX2_asked_21 (by decide) ?_
  refine g_if_icmp_ne (tgt := 38) C dX2_asked_22 (by decide) (fun c3 => ?_) (fun c3 => ?_)
  · rw [if_neg c3] at hf
    refine g_aload_n_0 C dX2_asked_38 ?_
    refine gf_X2_41 C dX2_asked_39 ?_
    refine g_iload_n_1 C dX2_asked_42 ?_
    obtain ⟨q4, hq4, hf⟩ := en_bnd hf
    refine gc_X2_119_C_Faces_doubleOf C (ctC_Faces_doubleOf _ _ q4.1 q4.2 hq4) (by omega) (Nat.le_of_ble_eq_true rfl) dX2_asked_43 ?_
    refine g_iconst (v := (2 : Int32)) C dX2_asked_46 (by decide) ?_
    refine g_if_icmp_ne (tgt := 68) C dX2_asked_47 (by decide) (fun c5 => ?_) (fun c5 => ?_)
    · rw [if_neg c5] at hf
      refine g_iload_7 C dX2_asked_68 ?_
      refine g_iconst (v := (-1 : Int32)) C dX2_asked_70 (by decide) ?_
      refine g_if_icmp_ne (tgt := 82) C dX2_asked_71 (by decide) (fun c6 => ?_) (fun c6 => ?_)
      · rw [if_neg c6] at hf
        refine g_iload_4 C dX2_asked_82 ?_
        refine g_iconst (v := (4 : Int32)) C dX2_asked_84 (by decide) ?_
        refine g_if_icmp_lt (tgt := 96) C dX2_asked_85 (by decide) (fun c7 => ?_) (fun c7 => ?_)
        · rw [if_pos c7] at hf
          refine g_aload_n_0 C dX2_asked_96 ?_
          refine g_iload_n_2 C dX2_asked_97 ?_
          refine g_iload_7 C dX2_asked_98 ?_
          refine g_iload_n_3 C dX2_asked_100 ?_
          refine g_iconst (v := (0 : Int32)) C dX2_asked_101 (by decide) ?_
          refine g_iload_4 C dX2_asked_102 ?_
          refine g_iconst (v := (1 : Int32)) C dX2_asked_104 (by decide) ?_
          refine g_iadd C dX2_asked_105 ?_
          refine g_iload_5 C dX2_asked_106 ?_
          obtain ⟨q8, hq8, hf⟩ := en_bnd hf
          refine gc_X2_49_C_Machine_oneCall C (h_C_Machine_oneCall _ _ _ _ _ _ _ q8.1 q8.2 hq8) (by omega) (Nat.le_of_ble_eq_true rfl) dX2_asked_108 ?_
          refine g_istore_6 C dX2_asked_111 (by decide) rfl ?_
          refine g_aload_n_0 C dX2_asked_113 ?_
          obtain ⟨q9, hq9, hf⟩ := en_bnd hf
          refine gc_X2_53_C_Machine_threw C (ctC_Machine_threw _ q9.1 q9.2 hq9) (by omega) (Nat.le_of_ble_eq_true rfl) dX2_asked_114 ?_
          refine g_if_eq (tgt := 134) C dX2_asked_117 (by decide) (fun c10 => ?_) (fun c10 => ?_)
          · rw [if_pos c10] at hf
            refine g_iload_6 C dX2_asked_134 ?_
            exact g_iret C dX2_asked_136 (en_finI hf)
          · rw [if_neg c10] at hf
            refine g_aload_n_0 C dX2_asked_120 ?_
            refine gf_X2_24 C dX2_asked_121 ?_
            refine g_bipush (v := (7 : Int32)) C dX2_asked_124 (by decide) ?_
            refine g_if_icmp_eq (tgt := 134) C dX2_asked_126 (by decide) (fun c11 => ?_) (fun c11 => ?_)
            · rw [if_pos c11] at hf
              refine g_iload_6 C dX2_asked_134 ?_
              exact g_iret C dX2_asked_136 (en_finI hf)
            · rw [if_neg c11] at hf
              refine g_aload_n_0 C dX2_asked_129 ?_
              refine g_iconst (v := (5 : Int32)) C dX2_asked_130 (by decide) ?_
              obtain ⟨u12, hu12, hf⟩ := en_bnd hf
              refine gp_X2_24 C hu12 dX2_asked_131 ?_
              refine g_iload_6 C dX2_asked_134 ?_
              exact g_iret C dX2_asked_136 (en_finI hf)
        · rw [if_neg c7] at hf
          refine g_aload_n_0 C dX2_asked_88 ?_
          refine g_iconst (v := (4 : Int32)) C dX2_asked_89 (by decide) ?_
          obtain ⟨q13, hq13, hf⟩ := en_bnd hf
          refine gc_X2_45_C_Machine_raise C (ctC_Machine_raise _ _ q13.1 q13.2 hq13) (by omega) (Nat.le_of_ble_eq_true rfl) dX2_asked_90 ?_
          refine g_goto (tgt := 113) C dX2_asked_93 (by decide) ?_
          refine g_aload_n_0 C dX2_asked_113 ?_
          obtain ⟨q14, hq14, hf⟩ := en_bnd hf
          refine gc_X2_53_C_Machine_threw C (ctC_Machine_threw _ q14.1 q14.2 hq14) (by omega) (Nat.le_of_ble_eq_true rfl) dX2_asked_114 ?_
          refine g_if_eq (tgt := 134) C dX2_asked_117 (by decide) (fun c15 => ?_) (fun c15 => ?_)
          · rw [if_pos c15] at hf
            refine g_iload_6 C dX2_asked_134 ?_
            exact g_iret C dX2_asked_136 (en_finI hf)
          · rw [if_neg c15] at hf
            refine g_aload_n_0 C dX2_asked_120 ?_
            refine gf_X2_24 C dX2_asked_121 ?_
            refine g_bipush (v := (7 : Int32)) C dX2_asked_124 (by decide) ?_
            refine g_if_icmp_eq (tgt := 134) C dX2_asked_126 (by decide) (fun c16 => ?_) (fun c16 => ?_)
            · rw [if_pos c16] at hf
              refine g_iload_6 C dX2_asked_134 ?_
              exact g_iret C dX2_asked_136 (en_finI hf)
            · rw [if_neg c16] at hf
              refine g_aload_n_0 C dX2_asked_129 ?_
              refine g_iconst (v := (5 : Int32)) C dX2_asked_130 (by decide) ?_
              obtain ⟨u17, hu17, hf⟩ := en_bnd hf
              refine gp_X2_24 C hu17 dX2_asked_131 ?_
              refine g_iload_6 C dX2_asked_134 ?_
              exact g_iret C dX2_asked_136 (en_finI hf)
      · rw [if_pos c6] at hf
        refine g_aload_n_0 C dX2_asked_74 ?_
        refine g_iconst (v := (3 : Int32)) C dX2_asked_75 (by decide) ?_
        obtain ⟨q18, hq18, hf⟩ := en_bnd hf
        refine gc_X2_45_C_Machine_raise C (ctC_Machine_raise _ _ q18.1 q18.2 hq18) (by omega) (Nat.le_of_ble_eq_true rfl) dX2_asked_76 ?_
        refine g_goto (tgt := 113) C dX2_asked_79 (by decide) ?_
        refine g_aload_n_0 C dX2_asked_113 ?_
        obtain ⟨q19, hq19, hf⟩ := en_bnd hf
        refine gc_X2_53_C_Machine_threw C (ctC_Machine_threw _ q19.1 q19.2 hq19) (by omega) (Nat.le_of_ble_eq_true rfl) dX2_asked_114 ?_
        refine g_if_eq (tgt := 134) C dX2_asked_117 (by decide) (fun c20 => ?_) (fun c20 => ?_)
        · rw [if_pos c20] at hf
          refine g_iload_6 C dX2_asked_134 ?_
          exact g_iret C dX2_asked_136 (en_finI hf)
        · rw [if_neg c20] at hf
          refine g_aload_n_0 C dX2_asked_120 ?_
          refine gf_X2_24 C dX2_asked_121 ?_
          refine g_bipush (v := (7 : Int32)) C dX2_asked_124 (by decide) ?_
          refine g_if_icmp_eq (tgt := 134) C dX2_asked_126 (by decide) (fun c21 => ?_) (fun c21 => ?_)
          · rw [if_pos c21] at hf
            refine g_iload_6 C dX2_asked_134 ?_
            exact g_iret C dX2_asked_136 (en_finI hf)
          · rw [if_neg c21] at hf
            refine g_aload_n_0 C dX2_asked_129 ?_
            refine g_iconst (v := (5 : Int32)) C dX2_asked_130 (by decide) ?_
            obtain ⟨u22, hu22, hf⟩ := en_bnd hf
            refine gp_X2_24 C hu22 dX2_asked_131 ?_
            refine g_iload_6 C dX2_asked_134 ?_
            exact g_iret C dX2_asked_136 (en_finI hf)
    · rw [if_pos c5] at hf
      refine g_aload_n_0 C dX2_asked_50 ?_
      refine g_bipush (v := (20 : Int32)) C dX2_asked_51 (by decide) ?_
      refine g_aload_n_0 C dX2_asked_53 ?_
      refine gf_X2_41 C dX2_asked_54 ?_
      refine g_iload_n_1 C dX2_asked_57 ?_
      obtain ⟨q23, hq23, hf⟩ := en_bnd hf
      refine gc_X2_122_C_Faces_numberOf C (ctC_Faces_numberOf _ _ q23.1 q23.2 hq23) (by omega) (Nat.le_of_ble_eq_true rfl) dX2_asked_58 ?_
      refine g_iadd C dX2_asked_61 ?_
      obtain ⟨q24, hq24, hf⟩ := en_bnd hf
      refine gc_X2_45_C_Machine_raise C (ctC_Machine_raise _ _ q24.1 q24.2 hq24) (by omega) (Nat.le_of_ble_eq_true rfl) dX2_asked_62 ?_
      refine g_goto (tgt := 113) C dX2_asked_65 (by decide) ?_
      refine g_aload_n_0 C dX2_asked_113 ?_
      obtain ⟨q25, hq25, hf⟩ := en_bnd hf
      refine gc_X2_53_C_Machine_threw C (ctC_Machine_threw _ q25.1 q25.2 hq25) (by omega) (Nat.le_of_ble_eq_true rfl) dX2_asked_114 ?_
      refine g_if_eq (tgt := 134) C dX2_asked_117 (by decide) (fun c26 => ?_) (fun c26 => ?_)
      · rw [if_pos c26] at hf
        refine g_iload_6 C dX2_asked_134 ?_
        exact g_iret C dX2_asked_136 (en_finI hf)
      · rw [if_neg c26] at hf
        refine g_aload_n_0 C dX2_asked_120 ?_
        refine gf_X2_24 C dX2_asked_121 ?_
        refine g_bipush (v := (7 : Int32)) C dX2_asked_124 (by decide) ?_
        refine g_if_icmp_eq (tgt := 134) C dX2_asked_126 (by decide) (fun c27 => ?_) (fun c27 => ?_)
        · rw [if_pos c27] at hf
          refine g_iload_6 C dX2_asked_134 ?_
          exact g_iret C dX2_asked_136 (en_finI hf)
        · rw [if_neg c27] at hf
          refine g_aload_n_0 C dX2_asked_129 ?_
          refine g_iconst (v := (5 : Int32)) C dX2_asked_130 (by decide) ?_
          obtain ⟨u28, hu28, hf⟩ := en_bnd hf
          refine gp_X2_24 C hu28 dX2_asked_131 ?_
          refine g_iload_6 C dX2_asked_134 ?_
          exact g_iret C dX2_asked_136 (en_finI hf)
  · rw [if_pos c3] at hf
    refine g_aload_n_0 C dX2_asked_25 ?_
    refine gf_X2_41 C dX2_asked_26 ?_
    refine g_iload_n_1 C dX2_asked_29 ?_
    obtain ⟨q29, hq29, hf⟩ := en_bnd hf
    refine gc_X2_122_C_Faces_numberOf C (ctC_Faces_numberOf _ _ q29.1 q29.2 hq29) (by omega) (Nat.le_of_ble_eq_true rfl) dX2_asked_30 ?_
    refine g_istore_6 C dX2_asked_33 (by decide) rfl ?_
    refine g_goto (tgt := 113) C dX2_asked_35 (by decide) ?_
    refine g_aload_n_0 C dX2_asked_113 ?_
    obtain ⟨q30, hq30, hf⟩ := en_bnd hf
    refine gc_X2_53_C_Machine_threw C (ctC_Machine_threw _ q30.1 q30.2 hq30) (by omega) (Nat.le_of_ble_eq_true rfl) dX2_asked_114 ?_
    refine g_if_eq (tgt := 134) C dX2_asked_117 (by decide) (fun c31 => ?_) (fun c31 => ?_)
    · rw [if_pos c31] at hf
      refine g_iload_6 C dX2_asked_134 ?_
      exact g_iret C dX2_asked_136 (en_finI hf)
    · rw [if_neg c31] at hf
      refine g_aload_n_0 C dX2_asked_120 ?_
      refine gf_X2_24 C dX2_asked_121 ?_
      refine g_bipush (v := (7 : Int32)) C dX2_asked_124 (by decide) ?_
      refine g_if_icmp_eq (tgt := 134) C dX2_asked_126 (by decide) (fun c32 => ?_) (fun c32 => ?_)
      · rw [if_pos c32] at hf
        refine g_iload_6 C dX2_asked_134 ?_
        exact g_iret C dX2_asked_136 (en_finI hf)
      · rw [if_neg c32] at hf
        refine g_aload_n_0 C dX2_asked_129 ?_
        refine g_iconst (v := (5 : Int32)) C dX2_asked_130 (by decide) ?_
        obtain ⟨u33, hu33, hf⟩ := en_bnd hf
        refine gp_X2_24 C hu33 dX2_asked_131 ?_
        refine g_iload_6 C dX2_asked_134 ?_
        exact g_iret C dX2_asked_136 (en_finI hf)
set_option maxHeartbeats 4000000 in
set_option maxRecDepth 100000 in
theorem ctC_Machine_block_open {l : Launch} {D : va_G} {K : en_K} {ad : Nat → Nat} {k_C_Machine_asked : Int32 → Int32 → Int32 → Int32 → Int32 → Ug → Option (Int32 × Ug)} {k_C_Machine_block : Int32 → Int32 → Int32 → Int32 → Int32 → Int32 → Ug → Option (Int32 × Ug)} {k_C_Machine_oneCall : Int32 → Int32 → Int32 → Int32 → Int32 → Int32 → Ug → Option (Int32 × Ug)} {k_C_Machine_tried : Int32 → Int32 → Int32 → Int32 → Int32 → Int32 → Ug → Option (Int32 × Ug)} {d : Nat} (hb : 3 ≤ d) (h_C_Machine_asked : ∀ (x1 : Int32) (x2 : Int32) (x3 : Int32) (x4 : Int32) (x5 : Int32) (u : Ug) (r0 : Int32) (u0 : Ug), k_C_Machine_asked x1 x2 x3 x4 x5 u = some (r0, u0) → CT l D (en_ty K) ad (d) yX2_asked cX2_asked 8 (some .int) [.ref 13, .int x1, .int x2, .int x3, .int x4, .int x5] (wdC K u) (en_RI (wdC K) r0 u0)) (h_C_Machine_block : ∀ (x1 : Int32) (x2 : Int32) (x3 : Int32) (x4 : Int32) (x5 : Int32) (x6 : Int32) (u : Ug) (r0 : Int32) (u0 : Ug), k_C_Machine_block x1 x2 x3 x4 x5 x6 u = some (r0, u0) → CT l D (en_ty K) ad (d) yX2_block cX2_block 12 (some .int) [.ref 13, .int x1, .int x2, .int x3, .int x4, .int x5, .int x6] (wdC K u) (en_RI (wdC K) r0 u0)) (h_C_Machine_oneCall : ∀ (x1 : Int32) (x2 : Int32) (x3 : Int32) (x4 : Int32) (x5 : Int32) (x6 : Int32) (u : Ug) (r0 : Int32) (u0 : Ug), k_C_Machine_oneCall x1 x2 x3 x4 x5 x6 u = some (r0, u0) → CT l D (en_ty K) ad (d) yX2_oneCall cX2_oneCall 8 (some .int) [.ref 13, .int x1, .int x2, .int x3, .int x4, .int x5, .int x6] (wdC K u) (en_RI (wdC K) r0 u0)) (h_C_Machine_tried : ∀ (x1 : Int32) (x2 : Int32) (x3 : Int32) (x4 : Int32) (x5 : Int32) (x6 : Int32) (u : Ug) (r0 : Int32) (u0 : Ug), k_C_Machine_tried x1 x2 x3 x4 x5 x6 u = some (r0, u0) → CT l D (en_ty K) ad (d) yX2_tried cX2_tried 9 (some .int) [.ref 13, .int x1, .int x2, .int x3, .int x4, .int x5, .int x6] (wdC K u) (en_RI (wdC K) r0 u0)) (x1 : Int32) (x2 : Int32) (x3 : Int32) (x4 : Int32) (x5 : Int32) (x6 : Int32) (u : Ug) (r0 : Int32) (u0 : Ug) (hf : gC_Machine_block k_C_Machine_asked k_C_Machine_block k_C_Machine_oneCall k_C_Machine_tried x1 x2 x3 x4 x5 x6 u = some (r0, u0)) : CT l D (en_ty K) ad (d + 1) yX2_block cX2_block 12 (some .int) [.ref 13, .int x1, .int x2, .int x3, .int x4, .int x5, .int x6] (wdC K u) (en_RI (wdC K) r0 u0) := by
  refine CT.of (by decide) [some (.ref 13), some (.int x1), some (.int x2), some (.int x3), some (.int x4), some (.int x5), some (.int x6), none, none, none, none, none] rfl (Nat.le_of_ble_eq_true rfl) ?_
  intro p e R s m args below meth c sz C
  have L : ∀ n : Nat, (∀ (v1 : Int32) (v2 : Int32) (v3 : Int32) (v4 : Int32) (v5 : Int32) (v6 : Int32) (v7 : Int32) (v8 : Int32) (v9 : Int32) (w : Ug), (kC_Machine_block k_C_Machine_asked k_C_Machine_block k_C_Machine_oneCall k_C_Machine_tried n) v1 v2 v3 v4 v5 v6 v7 v8 v9 w = some (r0, u0) → G p l e R s m args below meth c D (va_A (en_ws ad (wdC K u)) sz) 12 ad 0 0 (en_Q below D (en_ty K) ad (wdC K u) sz (en_RI (wdC K) r0 u0) args s) 10 [some (.ref 13), some (.int v1), some (.int v2), some (.int v3), some (.int v4), some (.int v5), some (.int v6), some (.int v7), some (.int v8), some (.int v9), none, none] [] (wdC K w)) := by
    intro n
    induction n with
    | zero => exact fun _ _ _ _ _ _ _ _ _ _ hf => absurd hf (by intro q; cases q)
    | succ n ih =>
      intro v1 v2 v3 v4 v5 v6 v7 v8 v9 u hf
      have hf : sC_Machine_block_10 k_C_Machine_asked k_C_Machine_block k_C_Machine_oneCall k_C_Machine_tried (kC_Machine_block k_C_Machine_asked k_C_Machine_block k_C_Machine_oneCall k_C_Machine_tried n) v1 v2 v3 v4 v5 v6 v7 v8 v9 u = some (r0, u0) := hf
      unfold sC_Machine_block_10 at hf
      refine g_iload_9 C dX2_block_10 ?_
      refine g_iload_n_3 C dX2_block_12 ?_
      refine g_if_icmp_ge (tgt := 197) C dX2_block_13 (by decide) (fun c1 => ?_) (fun c1 => ?_)
      · rw [if_pos c1] at hf
        refine g_iload_7 C dX2_block_197 ?_
        exact g_iret C dX2_block_199 (en_finI hf)
      · rw [if_neg c1] at hf
        refine g_iload_9 C dX2_block_16 ?_
        refine g_iload_8 C dX2_block_18 ?_
        refine g_if_icmp_lt (tgt := 191) C dX2_block_20 (by decide) (fun c2 => ?_) (fun c2 => ?_)
        · rw [if_pos c2] at hf
          refine g_iinc_9 (z := (1 : Int32)) C dX2_block_191 (by decide) (by decide) rfl ?_
          refine g_goto (tgt := 10) C dX2_block_194 (by decide) ?_
          exact g_weak (ih _ _ _ _ _ _ _ _ _ _ hf) (And.intro rfl (And.intro rfl (And.intro rfl (And.intro rfl (And.intro rfl (And.intro rfl (And.intro rfl (And.intro rfl (And.intro rfl (And.intro rfl trivial))))))))))
        · rw [if_neg c2] at hf
          refine g_aload_n_0 C dX2_block_23 ?_
          obtain ⟨q3, hq3, hf⟩ := en_bnd hf
          refine gc_X2_53_C_Machine_threw C (ctC_Machine_threw _ q3.1 q3.2 hq3) (by omega) (Nat.le_of_ble_eq_true rfl) dX2_block_24 ?_
          refine g_if_ne (tgt := 191) C dX2_block_27 (by decide) (fun c4 => ?_) (fun c4 => ?_)
          · rw [if_neg c4] at hf
            refine g_iinc_9 (z := (1 : Int32)) C dX2_block_191 (by decide) (by decide) rfl ?_
            refine g_goto (tgt := 10) C dX2_block_194 (by decide) ?_
            exact g_weak (ih _ _ _ _ _ _ _ _ _ _ hf) (And.intro rfl (And.intro rfl (And.intro rfl (And.intro rfl (And.intro rfl (And.intro rfl (And.intro rfl (And.intro rfl (And.intro rfl (And.intro rfl trivial))))))))))
          · rw [if_pos c4] at hf
            refine g_aload_n_0 C dX2_block_30 ?_
            refine g_iload_n_1 C dX2_block_31 ?_
            refine g_iload_9 C dX2_block_32 ?_
            obtain ⟨q5, hq5, hf⟩ := en_bnd hf
            refine gc_X2_78_C_Machine_begins C (ctC_Machine_begins _ _ _ q5.1 q5.2 hq5) (by omega) (Nat.le_of_ble_eq_true rfl) dX2_block_34 ?_
            refine g_if_ne (tgt := 43) C dX2_block_37 (by decide) (fun c6 => ?_) (fun c6 => ?_)
            · rw [if_neg c6] at hf
              refine g_iload_n_1 C dX2_block_43 ?_
              refine g_bipush (v := (8 : Int32)) C dX2_block_44 (by decide) ?_
              refine g_imul C dX2_block_46 ?_
              refine g_iload_9 C dX2_block_47 ?_
              refine g_iadd C dX2_block_49 ?_
              refine g_istore_10 C dX2_block_50 (by decide) rfl ?_
              refine g_aload_n_0 C dX2_block_52 ?_
              refine gf_X2_37 C dX2_block_53 ?_
              refine g_iload_10 C dX2_block_56 ?_
              obtain ⟨q7, hq7, hf⟩ := en_bnd hf
              refine gc_X2_82_C_Code_kind C (ctC_Code_kind _ _ q7.1 q7.2 hq7) (by omega) (Nat.le_of_ble_eq_true rfl) dX2_block_58 ?_
              refine g_istore_11 C dX2_block_61 (by decide) rfl ?_
              refine g_iload_11 C dX2_block_63 ?_
              refine g_bipush (v := (9 : Int32)) C dX2_block_65 (by decide) ?_
              refine g_if_icmp_ne (tgt := 112) C dX2_block_67 (by decide) (fun c8 => ?_) (fun c8 => ?_)
              · rw [if_neg c8] at hf
                refine g_iload_11 C dX2_block_112 ?_
                refine g_bipush (v := (7 : Int32)) C dX2_block_114 (by decide) ?_
                refine g_if_icmp_eq (tgt := 126) C dX2_block_116 (by decide) (fun c9 => ?_) (fun c9 => ?_)
                · rw [if_pos c9] at hf
                  refine g_iload_9 C dX2_block_126 ?_
                  refine g_iconst (v := (1 : Int32)) C dX2_block_128 (by decide) ?_
                  refine g_iadd C dX2_block_129 ?_
                  refine g_aload_n_0 C dX2_block_130 ?_
                  refine g_iload_n_1 C dX2_block_131 ?_
                  refine g_iload_9 C dX2_block_132 ?_
                  refine g_iload_7 C dX2_block_134 ?_
                  obtain ⟨q10, hq10, hf⟩ := en_bnd hf
                  refine gc_X2_97_C_Machine_passedOver C (ctC_Machine_passedOver _ _ _ _ q10.1 q10.2 hq10) (by omega) (Nat.le_of_ble_eq_true rfl) dX2_block_136 ?_
                  refine g_iadd C dX2_block_139 ?_
                  refine g_istore_8 C dX2_block_140 (by decide) rfl ?_
                  refine g_goto (tgt := 191) C dX2_block_142 (by decide) ?_
                  refine g_iinc_9 (z := (1 : Int32)) C dX2_block_191 (by decide) (by decide) rfl ?_
                  refine g_goto (tgt := 10) C dX2_block_194 (by decide) ?_
                  exact g_weak (ih _ _ _ _ _ _ _ _ _ _ hf) (And.intro rfl (And.intro rfl (And.intro rfl (And.intro rfl (And.intro rfl (And.intro rfl (And.intro rfl (And.intro rfl (And.intro rfl (And.intro rfl trivial))))))))))
                · rw [if_neg c9] at hf
                  refine g_iload_11 C dX2_block_119 ?_
                  refine g_bipush (v := (13 : Int32)) C dX2_block_121 (by decide) ?_
                  refine g_if_icmp_ne (tgt := 145) C dX2_block_123 (by decide) (fun c11 => ?_) (fun c11 => ?_)
                  · rw [if_neg c11] at hf
                    refine g_iload_11 C dX2_block_145 ?_
                    refine g_bipush (v := (8 : Int32)) C dX2_block_147 (by decide) ?_
                    refine g_if_icmp_ne (tgt := 180) C dX2_block_149 (by decide) (fun c12 => ?_) (fun c12 => ?_)
                    · rw [if_neg c12] at hf
                      refine g_aload_n_0 C dX2_block_180 ?_
                      refine g_iload_n_1 C dX2_block_181 ?_
                      refine g_iload_10 C dX2_block_182 ?_
                      refine g_iload_7 C dX2_block_184 ?_
                      obtain ⟨q13, hq13, hf⟩ := en_bnd hf
                      refine gc_X2_104_C_Machine_plainStep C (ctC_Machine_plainStep _ _ _ _ q13.1 q13.2 hq13) (by omega) (Nat.le_of_ble_eq_true rfl) dX2_block_186 ?_
                      refine g_istore_7 C dX2_block_189 (by decide) rfl ?_
                      refine g_iinc_9 (z := (1 : Int32)) C dX2_block_191 (by decide) (by decide) rfl ?_
                      refine g_goto (tgt := 10) C dX2_block_194 (by decide) ?_
                      exact g_weak (ih _ _ _ _ _ _ _ _ _ _ hf) (And.intro rfl (And.intro rfl (And.intro rfl (And.intro rfl (And.intro rfl (And.intro rfl (And.intro rfl (And.intro rfl (And.intro rfl (And.intro rfl trivial))))))))))
                    · rw [if_pos c12] at hf
                      refine g_aload_n_0 C dX2_block_152 ?_
                      refine g_aload_n_0 C dX2_block_153 ?_
                      refine gf_X2_37 C dX2_block_154 ?_
                      refine g_iload_10 C dX2_block_157 ?_
                      obtain ⟨q14, hq14, hf⟩ := en_bnd hf
                      refine gc_X2_85_C_Code_a C (ctC_Code_a _ _ q14.1 q14.2 hq14) (by omega) (Nat.le_of_ble_eq_true rfl) dX2_block_159 ?_
                      refine g_iload_n_1 C dX2_block_162 ?_
                      obtain ⟨q15, hq15, hf⟩ := en_bnd hf
                      refine gc_X2_61_C_Machine_accountOf C (ctC_Machine_accountOf _ _ q15.1 q15.2 hq15) (by omega) (Nat.le_of_ble_eq_true rfl) dX2_block_163 ?_
                      refine g_iload_7 C dX2_block_166 ?_
                      refine g_iload_5 C dX2_block_168 ?_
                      refine g_iload_6 C dX2_block_170 ?_
                      obtain ⟨q16, hq16, hf⟩ := en_bnd hf
                      refine gc_X2_100_C_Machine_asked C (h_C_Machine_asked _ _ _ _ _ _ q16.1 q16.2 hq16) (by omega) (Nat.le_of_ble_eq_true rfl) dX2_block_172 ?_
                      refine g_istore_7 C dX2_block_175 (by decide) rfl ?_
                      refine g_goto (tgt := 191) C dX2_block_177 (by decide) ?_
                      refine g_iinc_9 (z := (1 : Int32)) C dX2_block_191 (by decide) (by decide) rfl ?_
                      refine g_goto (tgt := 10) C dX2_block_194 (by decide) ?_
                      exact g_weak (ih _ _ _ _ _ _ _ _ _ _ hf) (And.intro rfl (And.intro rfl (And.intro rfl (And.intro rfl (And.intro rfl (And.intro rfl (And.intro rfl (And.intro rfl (And.intro rfl (And.intro rfl trivial))))))))))
                  · rw [if_pos c11] at hf
                    refine g_iload_9 C dX2_block_126 ?_
                    refine g_iconst (v := (1 : Int32)) C dX2_block_128 (by decide) ?_
                    refine g_iadd C dX2_block_129 ?_
                    refine g_aload_n_0 C dX2_block_130 ?_
                    refine g_iload_n_1 C dX2_block_131 ?_
                    refine g_iload_9 C dX2_block_132 ?_
                    refine g_iload_7 C dX2_block_134 ?_
                    obtain ⟨q17, hq17, hf⟩ := en_bnd hf
                    refine gc_X2_97_C_Machine_passedOver C (ctC_Machine_passedOver _ _ _ _ q17.1 q17.2 hq17) (by omega) (Nat.le_of_ble_eq_true rfl) dX2_block_136 ?_
                    refine g_iadd C dX2_block_139 ?_
                    refine g_istore_8 C dX2_block_140 (by decide) rfl ?_
                    refine g_goto (tgt := 191) C dX2_block_142 (by decide) ?_
                    refine g_iinc_9 (z := (1 : Int32)) C dX2_block_191 (by decide) (by decide) rfl ?_
                    refine g_goto (tgt := 10) C dX2_block_194 (by decide) ?_
                    exact g_weak (ih _ _ _ _ _ _ _ _ _ _ hf) (And.intro rfl (And.intro rfl (And.intro rfl (And.intro rfl (And.intro rfl (And.intro rfl (And.intro rfl (And.intro rfl (And.intro rfl (And.intro rfl trivial))))))))))
              · rw [if_pos c8] at hf
                refine g_iload_n_3 C dX2_block_70 ?_
                refine g_iload_9 C dX2_block_71 ?_
                refine g_iconst (v := (1 : Int32)) C dX2_block_73 (by decide) ?_
                refine g_iadd C dX2_block_74 ?_
                refine g_aload_n_0 C dX2_block_75 ?_
                refine gf_X2_37 C dX2_block_76 ?_
                refine g_iload_10 C dX2_block_79 ?_
                obtain ⟨q18, hq18, hf⟩ := en_bnd hf
                refine gc_X2_85_C_Code_a C (ctC_Code_a _ _ q18.1 q18.2 hq18) (by omega) (Nat.le_of_ble_eq_true rfl) dX2_block_81 ?_
                refine g_iadd C dX2_block_84 ?_
                refine gm_X2_88 C (by omega) (Nat.le_of_ble_eq_true rfl) dX2_block_85 ?_
                refine g_istore_8 C dX2_block_88 (by decide) rfl ?_
                refine g_aload_n_0 C dX2_block_90 ?_
                refine g_iload_n_1 C dX2_block_91 ?_
                refine g_iload_9 C dX2_block_92 ?_
                refine g_iconst (v := (1 : Int32)) C dX2_block_94 (by decide) ?_
                refine g_iadd C dX2_block_95 ?_
                refine g_iload_8 C dX2_block_96 ?_
                refine g_iload_7 C dX2_block_98 ?_
                refine g_iload_5 C dX2_block_100 ?_
                refine g_iload_6 C dX2_block_102 ?_
                obtain ⟨q19, hq19, hf⟩ := en_bnd hf
                refine gc_X2_94_C_Machine_tried C (h_C_Machine_tried _ _ _ _ _ _ _ q19.1 q19.2 hq19) (by omega) (Nat.le_of_ble_eq_true rfl) dX2_block_104 ?_
                refine g_istore_7 C dX2_block_107 (by decide) rfl ?_
                refine g_goto (tgt := 191) C dX2_block_109 (by decide) ?_
                refine g_iinc_9 (z := (1 : Int32)) C dX2_block_191 (by decide) (by decide) rfl ?_
                refine g_goto (tgt := 10) C dX2_block_194 (by decide) ?_
                exact g_weak (ih _ _ _ _ _ _ _ _ _ _ hf) (And.intro rfl (And.intro rfl (And.intro rfl (And.intro rfl (And.intro rfl (And.intro rfl (And.intro rfl (And.intro rfl (And.intro rfl (And.intro rfl trivial))))))))))
            · rw [if_pos c6] at hf
              refine g_goto (tgt := 191) C dX2_block_40 (by decide) ?_
              refine g_iinc_9 (z := (1 : Int32)) C dX2_block_191 (by decide) (by decide) rfl ?_
              refine g_goto (tgt := 10) C dX2_block_194 (by decide) ?_
              exact g_weak (ih _ _ _ _ _ _ _ _ _ _ hf) (And.intro rfl (And.intro rfl (And.intro rfl (And.intro rfl (And.intro rfl (And.intro rfl (And.intro rfl (And.intro rfl (And.intro rfl (And.intro rfl trivial))))))))))
  unfold gC_Machine_block at hf
  refine g_iload_4 C dX2_block_0 ?_
  refine g_istore_7 C dX2_block_2 (by decide) rfl ?_
  refine g_iload_n_2 C dX2_block_4 ?_
  refine g_istore_8 C dX2_block_5 (by decide) rfl ?_
  refine g_iload_n_2 C dX2_block_7 ?_
  refine g_istore_9 C dX2_block_8 (by decide) rfl ?_
  exact g_weak ((L _) _ _ _ _ _ _ _ _ _ _ hf) (And.intro rfl (And.intro rfl (And.intro rfl (And.intro rfl (And.intro rfl (And.intro rfl (And.intro rfl (And.intro rfl (And.intro rfl (And.intro rfl trivial))))))))))
