/-! CONTRACTS. -/
set_option maxHeartbeats 4000000 in
set_option maxRecDepth 100000 in
theorem ctC_Machine_oneCall_open {l : Launch} {D : va_G} {K : en_K} {ad : Nat → Nat} {k_C_Machine_asked : Int32 → Int32 → Int32 → Int32 → Int32 → Ug → Option (Int32 × Ug)} {k_C_Machine_block : Int32 → Int32 → Int32 → Int32 → Int32 → Int32 → Ug → Option (Int32 × Ug)} {k_C_Machine_oneCall : Int32 → Int32 → Int32 → Int32 → Int32 → Int32 → Ug → Option (Int32 × Ug)} {k_C_Machine_tried : Int32 → Int32 → Int32 → Int32 → Int32 → Int32 → Ug → Option (Int32 × Ug)} {d : Nat} (hb : 3 ≤ d) (h_C_Machine_asked : ∀ (x1 : Int32) (x2 : Int32) (x3 : Int32) (x4 : Int32) (x5 : Int32) (u : Ug) (r0 : Int32) (u0 : Ug), k_C_Machine_asked x1 x2 x3 x4 x5 u = some (r0, u0) → CT l D (en_ty K) ad (d) yX2_asked cX2_asked 8 (some .int) [.ref 13, .int x1, .int x2, .int x3, .int x4, .int x5] (wdC K u) (en_RI (wdC K) r0 u0)) (h_C_Machine_block : ∀ (x1 : Int32) (x2 : Int32) (x3 : Int32) (x4 : Int32) (x5 : Int32) (x6 : Int32) (u : Ug) (r0 : Int32) (u0 : Ug), k_C_Machine_block x1 x2 x3 x4 x5 x6 u = some (r0, u0) → CT l D (en_ty K) ad (d) yX2_block cX2_block 12 (some .int) [.ref 13, .int x1, .int x2, .int x3, .int x4, .int x5, .int x6] (wdC K u) (en_RI (wdC K) r0 u0)) (h_C_Machine_oneCall : ∀ (x1 : Int32) (x2 : Int32) (x3 : Int32) (x4 : Int32) (x5 : Int32) (x6 : Int32) (u : Ug) (r0 : Int32) (u0 : Ug), k_C_Machine_oneCall x1 x2 x3 x4 x5 x6 u = some (r0, u0) → CT l D (en_ty K) ad (d) yX2_oneCall cX2_oneCall 8 (some .int) [.ref 13, .int x1, .int x2, .int x3, .int x4, .int x5, .int x6] (wdC K u) (en_RI (wdC K) r0 u0)) (h_C_Machine_tried : ∀ (x1 : Int32) (x2 : Int32) (x3 : Int32) (x4 : Int32) (x5 : Int32) (x6 : Int32) (u : Ug) (r0 : Int32) (u0 : Ug), k_C_Machine_tried x1 x2 x3 x4 x5 x6 u = some (r0, u0) → CT l D (en_ty K) ad (d) yX2_tried cX2_tried 9 (some .int) [.ref 13, .int x1, .int x2, .int x3, .int x4, .int x5, .int x6] (wdC K u) (en_RI (wdC K) r0 u0)) (x1 : Int32) (x2 : Int32) (x3 : Int32) (x4 : Int32) (x5 : Int32) (x6 : Int32) (u : Ug) (r0 : Int32) (u0 : Ug) (hf : gC_Machine_oneCall k_C_Machine_asked k_C_Machine_block k_C_Machine_oneCall k_C_Machine_tried x1 x2 x3 x4 x5 x6 u = some (r0, u0)) : CT l D (en_ty K) ad (d + 1) yX2_oneCall cX2_oneCall 8 (some .int) [.ref 13, .int x1, .int x2, .int x3, .int x4, .int x5, .int x6] (wdC K u) (en_RI (wdC K) r0 u0) := by
  refine CT.of (by decide) [some (.ref 13), some (.int x1), some (.int x2), some (.int x3), some (.int x4), some (.int x5), some (.int x6), none] rfl (Nat.le_of_ble_eq_true rfl) ?_
  intro p e R s m args below meth c sz C
  unfold gC_Machine_oneCall at hf
  refine g_aload_n_0 C dX2_oneCall_0 ?_
  refine gf_X2_17 C dX2_oneCall_1 ?_
  refine g_sipush (v := (20000 : Int32)) C dX2_oneCall_4 (by decide) ?_
  refine g_if_icmp_ge (tgt := 32) C dX2_oneCall_7 (by decide) (fun c1 => ?_) (fun c1 => ?_)
  · rw [if_pos c1] at hf
    refine g_aload_n_0 C dX2_oneCall_32 ?_
    refine g_bipush (v := (7 : Int32)) C dX2_oneCall_33 (by decide) ?_
    obtain ⟨q2, hq2, hf⟩ := en_bnd hf
    refine gc_X2_45_C_Machine_raise C (ctC_Machine_raise _ _ q2.1 q2.2 hq2) (by omega) (Nat.le_of_ble_eq_true rfl) dX2_oneCall_35 ?_
    refine g_iconst (v := (0 : Int32)) C dX2_oneCall_38 (by decide) ?_
    exact g_iret C dX2_oneCall_39 (en_finI hf)
  · rw [if_neg c1] at hf
    refine g_iload_5 C dX2_oneCall_10 ?_
    refine g_iconst (v := (4 : Int32)) C dX2_oneCall_12 (by decide) ?_
    refine g_if_icmp_gt (tgt := 32) C dX2_oneCall_13 (by decide) (fun c3 => ?_) (fun c3 => ?_)
    · rw [if_pos c3] at hf
      refine g_aload_n_0 C dX2_oneCall_32 ?_
      refine g_bipush (v := (7 : Int32)) C dX2_oneCall_33 (by decide) ?_
      obtain ⟨q4, hq4, hf⟩ := en_bnd hf
      refine gc_X2_45_C_Machine_raise C (ctC_Machine_raise _ _ q4.1 q4.2 hq4) (by omega) (Nat.le_of_ble_eq_true rfl) dX2_oneCall_35 ?_
      refine g_iconst (v := (0 : Int32)) C dX2_oneCall_38 (by decide) ?_
      exact g_iret C dX2_oneCall_39 (en_finI hf)
    · rw [if_neg c3] at hf
      refine g_aload_n_0 C dX2_oneCall_16 ?_
      refine gf_X2_33 C dX2_oneCall_17 ?_
      refine g_aload_n_0 C dX2_oneCall_20 ?_
      refine gf_X2_13 C dX2_oneCall_21 ?_
      refine g_iload_6 C dX2_oneCall_24 ?_
      obtain ⟨q5, hq5, hf⟩ := en_bnd hf
      refine gc_X2_57_C_State_keepIn_14 C (ctC_State_keepIn_14 _ _ q5.1 q5.2 hq5) (by omega) (Nat.le_of_ble_eq_true rfl) dX2_oneCall_26 ?_
      refine g_if_ne (tgt := 40) C dX2_oneCall_29 (by decide) (fun c6 => ?_) (fun c6 => ?_)
      · rw [if_neg c6] at hf
        refine g_aload_n_0 C dX2_oneCall_40 ?_
        refine g_dup C dX2_oneCall_41 rfl ?_
        refine gf_X2_17 C dX2_oneCall_42 ?_
        refine g_iconst (v := (1 : Int32)) C dX2_oneCall_45 (by decide) ?_
        refine g_iadd C dX2_oneCall_46 ?_
        obtain ⟨u7, hu7, hf⟩ := en_bnd hf
        refine gp_X2_17 C hu7 dX2_oneCall_47 ?_
        refine g_aload_n_0 C dX2_oneCall_50 ?_
        refine g_aload_n_0 C dX2_oneCall_51 ?_
        refine gf_X2_33 C dX2_oneCall_52 ?_
        refine g_iload_n_1 C dX2_oneCall_55 ?_
        refine g_iload_n_2 C dX2_oneCall_56 ?_
        obtain ⟨q8, hq8, hf⟩ := en_bnd hf
        refine gc_X2_61_C_Machine_accountOf C (ctC_Machine_accountOf _ _ q8.1 q8.2 hq8) (by omega) (Nat.le_of_ble_eq_true rfl) dX2_oneCall_57 ?_
        refine g_iload_4 C dX2_oneCall_60 ?_
        obtain ⟨q9, hq9, hf⟩ := en_bnd hf
        refine gc_X2_65_C_State_pay C (ctC_State_pay _ _ _ _ q9.1 q9.2 hq9) (by omega) (Nat.le_of_ble_eq_true rfl) dX2_oneCall_62 ?_
        obtain ⟨q10, hq10, hf⟩ := en_bnd hf
        refine gc_X2_45_C_Machine_raise C (ctC_Machine_raise _ _ q10.1 q10.2 hq10) (by omega) (Nat.le_of_ble_eq_true rfl) dX2_oneCall_65 ?_
        refine g_aload_n_0 C dX2_oneCall_68 ?_
        refine g_iload_n_2 C dX2_oneCall_69 ?_
        refine g_iconst (v := (0 : Int32)) C dX2_oneCall_70 (by decide) ?_
        refine g_aload_n_0 C dX2_oneCall_71 ?_
        refine gf_X2_37 C dX2_oneCall_72 ?_
        refine g_iload_n_2 C dX2_oneCall_75 ?_
        obtain ⟨q11, hq11, hf⟩ := en_bnd hf
        refine gc_X2_69_C_Code_size C (ctC_Code_size _ _ q11.1 q11.2 hq11) (by omega) (Nat.le_of_ble_eq_true rfl) dX2_oneCall_76 ?_
        refine g_iload_n_3 C dX2_oneCall_79 ?_
        refine g_iload_5 C dX2_oneCall_80 ?_
        refine g_iload_6 C dX2_oneCall_82 ?_
        refine g_iconst (v := (1 : Int32)) C dX2_oneCall_84 (by decide) ?_
        refine g_iadd C dX2_oneCall_85 ?_
        obtain ⟨q12, hq12, hf⟩ := en_bnd hf
        refine gc_X2_72_C_Machine_block C (h_C_Machine_block _ _ _ _ _ _ _ q12.1 q12.2 hq12) (by omega) (Nat.le_of_ble_eq_true rfl) dX2_oneCall_86 ?_
        refine g_istore_7 C dX2_oneCall_89 (by decide) rfl ?_
        refine g_aload_n_0 C dX2_oneCall_91 ?_
        obtain ⟨q13, hq13, hf⟩ := en_bnd hf
        refine gc_X2_53_C_Machine_threw C (ctC_Machine_threw _ q13.1 q13.2 hq13) (by omega) (Nat.le_of_ble_eq_true rfl) dX2_oneCall_92 ?_
        refine g_if_eq (tgt := 112) C dX2_oneCall_95 (by decide) (fun c14 => ?_) (fun c14 => ?_)
        · rw [if_pos c14] at hf
          refine g_iload_7 C dX2_oneCall_112 ?_
          exact g_iret C dX2_oneCall_114 (en_finI hf)
        · rw [if_neg c14] at hf
          refine g_aload_n_0 C dX2_oneCall_98 ?_
          refine gf_X2_33 C dX2_oneCall_99 ?_
          refine g_aload_n_0 C dX2_oneCall_102 ?_
          refine gf_X2_13 C dX2_oneCall_103 ?_
          refine g_iload_6 C dX2_oneCall_106 ?_
          obtain ⟨q15, hq15, hf⟩ := en_bnd hf
          refine gc_X2_75_C_State_bringFrom_14 C (ctC_State_bringFrom_14 _ _ q15.1 q15.2 hq15) (by omega) (Nat.le_of_ble_eq_true rfl) dX2_oneCall_108 ?_
          refine g_pop C dX2_oneCall_111 rfl ?_
          refine g_iload_7 C dX2_oneCall_112 ?_
          exact g_iret C dX2_oneCall_114 (en_finI hf)
      · rw [if_pos c6] at hf
        refine g_aload_n_0 C dX2_oneCall_32 ?_
        refine g_bipush (v := (7 : Int32)) C dX2_oneCall_33 (by decide) ?_
        obtain ⟨q16, hq16, hf⟩ := en_bnd hf
        refine gc_X2_45_C_Machine_raise C (ctC_Machine_raise _ _ q16.1 q16.2 hq16) (by omega) (Nat.le_of_ble_eq_true rfl) dX2_oneCall_35 ?_
        refine g_iconst (v := (0 : Int32)) C dX2_oneCall_38 (by decide) ?_
        exact g_iret C dX2_oneCall_39 (en_finI hf)
set_option maxRecDepth 100000 in
theorem ctrC {l : Launch} {D : va_G} {K : en_K} {ad : Nat → Nat} : ∀ n : Nat, (∀ (x1 : Int32) (x2 : Int32) (x3 : Int32) (x4 : Int32) (x5 : Int32) (u : Ug) (r0 : Int32) (u0 : Ug), (rC n).1 x1 x2 x3 x4 x5 u = some (r0, u0) → CT l D (en_ty K) ad (3 + n) yX2_asked cX2_asked 8 (some .int) [.ref 13, .int x1, .int x2, .int x3, .int x4, .int x5] (wdC K u) (en_RI (wdC K) r0 u0)) ∧ (∀ (x1 : Int32) (x2 : Int32) (x3 : Int32) (x4 : Int32) (x5 : Int32) (x6 : Int32) (u : Ug) (r0 : Int32) (u0 : Ug), (rC n).2.1 x1 x2 x3 x4 x5 x6 u = some (r0, u0) → CT l D (en_ty K) ad (3 + n) yX2_block cX2_block 12 (some .int) [.ref 13, .int x1, .int x2, .int x3, .int x4, .int x5, .int x6] (wdC K u) (en_RI (wdC K) r0 u0)) ∧ (∀ (x1 : Int32) (x2 : Int32) (x3 : Int32) (x4 : Int32) (x5 : Int32) (x6 : Int32) (u : Ug) (r0 : Int32) (u0 : Ug), (rC n).2.2.1 x1 x2 x3 x4 x5 x6 u = some (r0, u0) → CT l D (en_ty K) ad (3 + n) yX2_oneCall cX2_oneCall 8 (some .int) [.ref 13, .int x1, .int x2, .int x3, .int x4, .int x5, .int x6] (wdC K u) (en_RI (wdC K) r0 u0)) ∧ (∀ (x1 : Int32) (x2 : Int32) (x3 : Int32) (x4 : Int32) (x5 : Int32) (x6 : Int32) (u : Ug) (r0 : Int32) (u0 : Ug), (rC n).2.2.2 x1 x2 x3 x4 x5 x6 u = some (r0, u0) → CT l D (en_ty K) ad (3 + n) yX2_tried cX2_tried 9 (some .int) [.ref 13, .int x1, .int x2, .int x3, .int x4, .int x5, .int x6] (wdC K u) (en_RI (wdC K) r0 u0)) := by
  intro n
  induction n with
  | zero => exact ⟨fun _ _ _ _ _ _ _ _ hf => absurd hf (by intro q; cases q), fun _ _ _ _ _ _ _ _ _ hf => absurd hf (by intro q; cases q), fun _ _ _ _ _ _ _ _ _ hf => absurd hf (by intro q; cases q), fun _ _ _ _ _ _ _ _ _ hf => absurd hf (by intro q; cases q)⟩
  | succ n ih => exact ⟨fun x1 x2 x3 x4 x5 u r0 u0 hf => ctC_Machine_asked_open (d := 3 + n) (by omega) ih.1 ih.2.1 ih.2.2.1 ih.2.2.2 x1 x2 x3 x4 x5 u r0 u0 hf, fun x1 x2 x3 x4 x5 x6 u r0 u0 hf => ctC_Machine_block_open (d := 3 + n) (by omega) ih.1 ih.2.1 ih.2.2.1 ih.2.2.2 x1 x2 x3 x4 x5 x6 u r0 u0 hf, fun x1 x2 x3 x4 x5 x6 u r0 u0 hf => ctC_Machine_oneCall_open (d := 3 + n) (by omega) ih.1 ih.2.1 ih.2.2.1 ih.2.2.2 x1 x2 x3 x4 x5 x6 u r0 u0 hf, fun x1 x2 x3 x4 x5 x6 u r0 u0 hf => ctC_Machine_tried_open (d := 3 + n) (by omega) ih.1 ih.2.1 ih.2.2.1 ih.2.2.2 x1 x2 x3 x4 x5 x6 u r0 u0 hf⟩
theorem ctC_Machine_asked {l : Launch} {D : va_G} {K : en_K} {ad : Nat → Nat} (x1 : Int32) (x2 : Int32) (x3 : Int32) (x4 : Int32) (x5 : Int32) (u : Ug) (r0 : Int32) (u0 : Ug) (hf : fC_Machine_asked x1 x2 x3 x4 x5 u = some (r0, u0)) : CT l D (en_ty K) ad (3 + 100) yX2_asked cX2_asked 8 (some .int) [.ref 13, .int x1, .int x2, .int x3, .int x4, .int x5] (wdC K u) (en_RI (wdC K) r0 u0) := (ctrC 100).1 x1 x2 x3 x4 x5 u r0 u0 hf
theorem ctC_Machine_block {l : Launch} {D : va_G} {K : en_K} {ad : Nat → Nat} (x1 : Int32) (x2 : Int32) (x3 : Int32) (x4 : Int32) (x5 : Int32) (x6 : Int32) (u : Ug) (r0 : Int32) (u0 : Ug) (hf : fC_Machine_block x1 x2 x3 x4 x5 x6 u = some (r0, u0)) : CT l D (en_ty K) ad (3 + 100) yX2_block cX2_block 12 (some .int) [.ref 13, .int x1, .int x2, .int x3, .int x4, .int x5, .int x6] (wdC K u) (en_RI (wdC K) r0 u0) := (ctrC 100).2.1 x1 x2 x3 x4 x5 x6 u r0 u0 hf
theorem ctC_Machine_oneCall {l : Launch} {D : va_G} {K : en_K} {ad : Nat → Nat} (x1 : Int32) (x2 : Int32) (x3 : Int32) (x4 : Int32) (x5 : Int32) (x6 : Int32) (u : Ug) (r0 : Int32) (u0 : Ug) (hf : fC_Machine_oneCall x1 x2 x3 x4 x5 x6 u = some (r0, u0)) : CT l D (en_ty K) ad (3 + 100) yX2_oneCall cX2_oneCall 8 (some .int) [.ref 13, .int x1, .int x2, .int x3, .int x4, .int x5, .int x6] (wdC K u) (en_RI (wdC K) r0 u0) := (ctrC 100).2.2.1 x1 x2 x3 x4 x5 x6 u r0 u0 hf
theorem ctC_Machine_tried {l : Launch} {D : va_G} {K : en_K} {ad : Nat → Nat} (x1 : Int32) (x2 : Int32) (x3 : Int32) (x4 : Int32) (x5 : Int32) (x6 : Int32) (u : Ug) (r0 : Int32) (u0 : Ug) (hf : fC_Machine_tried x1 x2 x3 x4 x5 x6 u = some (r0, u0)) : CT l D (en_ty K) ad (3 + 100) yX2_tried cX2_tried 9 (some .int) [.ref 13, .int x1, .int x2, .int x3, .int x4, .int x5, .int x6] (wdC K u) (en_RI (wdC K) r0 u0) := (ctrC 100).2.2.2 x1 x2 x3 x4 x5 x6 u r0 u0 hf
set_option maxHeartbeats 4000000 in
set_option maxRecDepth 100000 in
theorem ctC_Machine_callFromOutside {l : Launch} {D : va_G} {K : en_K} {ad : Nat → Nat} (x1 : Int32) (x2 : Int32) (x3 : Int32) (x4 : Int32) (u : Ug) (r0 : Int32) (u0 : Ug) (hf : fC_Machine_callFromOutside x1 x2 x3 x4 u = some (r0, u0)) : CT l D (en_ty K) ad (104) yX2_callFromOutside cX2_callFromOutside 6 none [.ref 13, .int x1, .int x2, .int x3, .int x4] (wdC K u) (en_RV (wdC K) u0) := by
  refine CT.of (by decide) [some (.ref 13), some (.int x1), some (.int x2), some (.int x3), some (.int x4), none] rfl (Nat.le_of_ble_eq_true rfl) ?_
  intro p e R s m args below meth c sz C
  unfold fC_Machine_callFromOutside at hf
  refine g_aload_n_0 C dX2_callFromOutside_0 ?_
  refine g_iconst (v := (0 : Int32)) C dX2_callFromOutside_1 (by decide) ?_
  obtain ⟨u1, hu1, hf⟩ := en_bnd hf
  refine gp_X2_21 C hu1 dX2_callFromOutside_2 ?_
  refine g_aload_n_0 C dX2_callFromOutside_5 ?_
  refine g_iconst (v := (0 : Int32)) C dX2_callFromOutside_6 (by decide) ?_
  obtain ⟨q2, hq2, hf⟩ := en_bnd hf
  refine gc_X2_45_C_Machine_raise C (ctC_Machine_raise _ _ q2.1 q2.2 hq2) (by decide) (Nat.le_of_ble_eq_true rfl) dX2_callFromOutside_7 ?_
  refine g_aload_n_0 C dX2_callFromOutside_10 ?_
  refine g_iload_n_1 C dX2_callFromOutside_11 ?_
  refine g_iload_n_2 C dX2_callFromOutside_12 ?_
  refine g_iload_n_3 C dX2_callFromOutside_13 ?_
  refine g_iload_4 C dX2_callFromOutside_14 ?_
  refine g_iconst (v := (1 : Int32)) C dX2_callFromOutside_16 (by decide) ?_
  refine g_iconst (v := (0 : Int32)) C dX2_callFromOutside_17 (by decide) ?_
  obtain ⟨q3, hq3, hf⟩ := en_bnd hf
  refine gc_X2_49_C_Machine_oneCall C (ctC_Machine_oneCall _ _ _ _ _ _ _ q3.1 q3.2 hq3) (by decide) (Nat.le_of_ble_eq_true rfl) dX2_callFromOutside_18 ?_
  refine g_istore_5 C dX2_callFromOutside_21 (by decide) rfl ?_
  refine g_aload_n_0 C dX2_callFromOutside_23 ?_
  refine g_aload_n_0 C dX2_callFromOutside_24 ?_
  obtain ⟨q4, hq4, hf⟩ := en_bnd hf
  refine gc_X2_53_C_Machine_threw C (ctC_Machine_threw _ q4.1 q4.2 hq4) (by decide) (Nat.le_of_ble_eq_true rfl) dX2_callFromOutside_25 ?_
  refine g_if_eq (tgt := 35) C dX2_callFromOutside_28 (by decide) (fun c5 => ?_) (fun c5 => ?_)
  · rw [if_pos c5] at hf
    refine g_iload_5 C dX2_callFromOutside_35 ?_
    obtain ⟨u6, hu6, hf⟩ := en_bnd hf
    refine gp_X2_30 C hu6 dX2_callFromOutside_37 ?_
    exact g_vret C dX2_callFromOutside_40 (en_finV hf)
  · rw [if_neg c5] at hf
    refine g_iconst (v := (0 : Int32)) C dX2_callFromOutside_31 (by decide) ?_
    refine g_goto (tgt := 37) C dX2_callFromOutside_32 (by decide) ?_
    obtain ⟨u7, hu7, hf⟩ := en_bnd hf
    refine gp_X2_30 C hu7 dX2_callFromOutside_37 ?_
    exact g_vret C dX2_callFromOutside_40 (en_finV hf)
set_option maxHeartbeats 4000000 in
set_option maxRecDepth 100000 in
theorem ctC_Machine_thrown {l : Launch} {D : va_G} {K : en_K} {ad : Nat → Nat} (u : Ug) (r0 : Int32) (u0 : Ug) (hf : fC_Machine_thrown u = some (r0, u0)) : CT l D (en_ty K) ad (1) yX2_thrown cX2_thrown 1 (some .int) [.ref 13] (wdC K u) (en_RI (wdC K) r0 u0) := by
  refine CT.of (by decide) [some (.ref 13)] rfl (Nat.le_of_ble_eq_true rfl) ?_
  intro p e R s m args below meth c sz C
  unfold fC_Machine_thrown at hf
  refine g_aload_n_0 C dX2_thrown_0 ?_
  refine gf_X2_24 C dX2_thrown_1 ?_
  exact g_iret C dX2_thrown_4 (en_finI hf)
set_option maxHeartbeats 4000000 in
set_option maxRecDepth 100000 in
theorem ctC_call {l : Launch} {D : va_G} {K : en_K} {ad : Nat → Nat} (x1 : Int32) (x2 : Int32) (x3 : Int32) (x4 : Int32) (x5 : Int32) (u : Ug) (r0 : Int32) (u0 : Ug) (hf : fC_call x1 x2 x3 x4 x5 u = some (r0, u0)) : CT l D (en_ty K) ad (105) yX7_call cX7_call 7 (some .int) [.ref 0, .int x1, .int x2, .int x3, .int x4, .int x5] (wdC K u) (en_RI (wdC K) r0 u0) := by
  refine CT.of (by decide) [some (.ref 0), some (.int x1), some (.int x2), some (.int x3), some (.int x4), some (.int x5), none] rfl (Nat.le_of_ble_eq_true rfl) ?_
  intro p e R s m args below meth c sz C
  unfold fC_call at hf
  refine g_aload_n_0 C dX7_call_0 ?_
  refine gf_X7_19 C dX7_call_1 ?_
  refine g_iload_n_2 C dX7_call_4 ?_
  refine g_iload_n_3 C dX7_call_5 ?_
  obtain ⟨q1, hq1, hf⟩ := en_bnd hf
  refine gc_X7_72_C_Code_placeOf C (ctC_Code_placeOf _ _ _ q1.1 q1.2 hq1) (by decide) (Nat.le_of_ble_eq_true rfl) dX7_call_6 ?_
  refine g_istore_6 C dX7_call_9 (by decide) rfl ?_
  refine g_iload_6 C dX7_call_11 ?_
  refine g_if_lt (tgt := 28) C dX7_call_13 (by decide) (fun c2 => ?_) (fun c2 => ?_)
  · rw [if_pos c2] at hf
    refine g_iconst (v := (-1 : Int32)) C dX7_call_28 (by decide) ?_
    exact g_iret C dX7_call_29 (en_finI hf)
  · rw [if_neg c2] at hf
    refine g_iload_n_1 C dX7_call_16 ?_
    obtain ⟨q3, hq3, hf⟩ := en_bnd hf
    refine gc_X7_97_C_State_isAccount C (ctC_State_isAccount _ _ q3.1 q3.2 hq3) (by decide) (Nat.le_of_ble_eq_true rfl) dX7_call_17 ?_
    refine g_if_eq (tgt := 28) C dX7_call_20 (by decide) (fun c4 => ?_) (fun c4 => ?_)
    · rw [if_pos c4] at hf
      refine g_iconst (v := (-1 : Int32)) C dX7_call_28 (by decide) ?_
      exact g_iret C dX7_call_29 (en_finI hf)
    · rw [if_neg c4] at hf
      refine g_iload_5 C dX7_call_23 ?_
      refine g_if_ge (tgt := 30) C dX7_call_25 (by decide) (fun c5 => ?_) (fun c5 => ?_)
      · rw [if_pos c5] at hf
        refine g_aload_n_0 C dX7_call_30 ?_
        refine gf_X7_35 C dX7_call_31 ?_
        refine g_iload_n_1 C dX7_call_34 ?_
        refine g_iload_6 C dX7_call_35 ?_
        refine g_iload_4 C dX7_call_37 ?_
        refine g_iload_5 C dX7_call_39 ?_
        obtain ⟨q6, hq6, hf⟩ := en_bnd hf
        refine gc_X7_100_C_Machine_callFromOutside C (ctC_Machine_callFromOutside _ _ _ _ _ q6.1 q6.2 hq6) (by decide) (Nat.le_of_ble_eq_true rfl) dX7_call_41 ?_
        refine g_aload_n_0 C dX7_call_44 ?_
        refine gf_X7_35 C dX7_call_45 ?_
        obtain ⟨q7, hq7, hf⟩ := en_bnd hf
        refine gc_X7_104_C_Machine_threw C (ctC_Machine_threw _ q7.1 q7.2 hq7) (by decide) (Nat.le_of_ble_eq_true rfl) dX7_call_48 ?_
        refine g_if_eq (tgt := 67) C dX7_call_51 (by decide) (fun c8 => ?_) (fun c8 => ?_)
        · rw [if_pos c8] at hf
          refine g_iconst (v := (1 : Int32)) C dX7_call_67 (by decide) ?_
          exact g_iret C dX7_call_68 (en_finI hf)
        · rw [if_neg c8] at hf
          refine g_bipush (v := (-10 : Int32)) C dX7_call_54 (by decide) ?_
          refine g_aload_n_0 C dX7_call_56 ?_
          refine gf_X7_35 C dX7_call_57 ?_
          obtain ⟨q9, hq9, hf⟩ := en_bnd hf
          refine gc_X7_108_C_Machine_thrown C (ctC_Machine_thrown _ q9.1 q9.2 hq9) (by decide) (Nat.le_of_ble_eq_true rfl) dX7_call_60 ?_
          refine g_isub C dX7_call_63 ?_
          refine g_goto (tgt := 68) C dX7_call_64 (by decide) ?_
          exact g_iret C dX7_call_68 (en_finI hf)
      · rw [if_neg c5] at hf
        refine g_iconst (v := (-1 : Int32)) C dX7_call_28 (by decide) ?_
        exact g_iret C dX7_call_29 (en_finI hf)
set_option maxHeartbeats 4000000 in
set_option maxRecDepth 100000 in
theorem ctC_Machine_answered {l : Launch} {D : va_G} {K : en_K} {ad : Nat → Nat} (u : Ug) (r0 : Int32) (u0 : Ug) (hf : fC_Machine_answered u = some (r0, u0)) : CT l D (en_ty K) ad (1) yX2_answered cX2_answered 1 (some .int) [.ref 13] (wdC K u) (en_RI (wdC K) r0 u0) := by
  refine CT.of (by decide) [some (.ref 13)] rfl (Nat.le_of_ble_eq_true rfl) ?_
  intro p e R s m args below meth c sz C
  unfold fC_Machine_answered at hf
  refine g_aload_n_0 C dX2_answered_0 ?_
  refine gf_X2_30 C dX2_answered_1 ?_
  exact g_iret C dX2_answered_4 (en_finI hf)
set_option maxHeartbeats 4000000 in
set_option maxRecDepth 100000 in
theorem ctC_Machine_lastCause {l : Launch} {D : va_G} {K : en_K} {ad : Nat → Nat} (u : Ug) (r0 : Int32) (u0 : Ug) (hf : fC_Machine_lastCause u = some (r0, u0)) : CT l D (en_ty K) ad (1) yX2_lastCause cX2_lastCause 1 (some .int) [.ref 13] (wdC K u) (en_RI (wdC K) r0 u0) := by
  refine CT.of (by decide) [some (.ref 13)] rfl (Nat.le_of_ble_eq_true rfl) ?_
  intro p e R s m args below meth c sz C
  unfold fC_Machine_lastCause at hf
  refine g_aload_n_0 C dX2_lastCause_0 ?_
  refine gf_X2_27 C dX2_lastCause_1 ?_
  exact g_iret C dX2_lastCause_4 (en_finI hf)
set_option maxHeartbeats 4000000 in
set_option maxRecDepth 100000 in
theorem ctC_Machine_stepsDone {l : Launch} {D : va_G} {K : en_K} {ad : Nat → Nat} (u : Ug) (r0 : Int32) (u0 : Ug) (hf : fC_Machine_stepsDone u = some (r0, u0)) : CT l D (en_ty K) ad (1) yX2_stepsDone cX2_stepsDone 1 (some .int) [.ref 13] (wdC K u) (en_RI (wdC K) r0 u0) := by
  refine CT.of (by decide) [some (.ref 13)] rfl (Nat.le_of_ble_eq_true rfl) ?_
  intro p e R s m args below meth c sz C
  unfold fC_Machine_stepsDone at hf
  refine g_aload_n_0 C dX2_stepsDone_0 ?_
  refine gf_X2_21 C dX2_stepsDone_1 ?_
  exact g_iret C dX2_stepsDone_4 (en_finI hf)
set_option maxHeartbeats 4000000 in
set_option maxRecDepth 100000 in
theorem ctC_told {l : Launch} {D : va_G} {K : en_K} {ad : Nat → Nat} (x1 : Int32) (u : Ug) (r0 : Int32) (u0 : Ug) (hf : fC_told x1 u = some (r0, u0)) : CT l D (en_ty K) ad (2) yX7_told cX7_told 2 (some .int) [.ref 0, .int x1] (wdC K u) (en_RI (wdC K) r0 u0) := by
  refine CT.of (by decide) [some (.ref 0), some (.int x1)] rfl (Nat.le_of_ble_eq_true rfl) ?_
  intro p e R s m args below meth c sz C
  unfold fC_told at hf
  refine g_iload_n_1 C dX7_told_0 ?_
  rcases Decidable.em (x1 = (0 : Int32)) with s1_0 | s1_0
  · rw [if_pos s1_0] at hf
    refine g_tsw (z := (0 : Int32)) (tgt := 32) C dX7_told_1 s1_0 (by decide) (by decide) rfl (by decide) ?_
    refine g_aload_n_0 C dX7_told_32 ?_
    refine gf_X7_35 C dX7_told_33 ?_
    obtain ⟨q1, hq1, hf⟩ := en_bnd hf
    refine gc_X7_111_C_Machine_answered C (ctC_Machine_answered _ q1.1 q1.2 hq1) (by decide) (Nat.le_of_ble_eq_true rfl) dX7_told_36 ?_
    exact g_iret C dX7_told_39 (en_finI hf)
  rw [if_neg s1_0] at hf
  rcases Decidable.em (x1 = (1 : Int32)) with s1_1 | s1_1
  · rw [if_pos s1_1] at hf
    refine g_tsw (z := (1 : Int32)) (tgt := 40) C dX7_told_1 s1_1 (by decide) (by decide) rfl (by decide) ?_
    refine g_aload_n_0 C dX7_told_40 ?_
    refine gf_X7_35 C dX7_told_41 ?_
    obtain ⟨q2, hq2, hf⟩ := en_bnd hf
    refine gc_X7_108_C_Machine_thrown C (ctC_Machine_thrown _ q2.1 q2.2 hq2) (by decide) (Nat.le_of_ble_eq_true rfl) dX7_told_44 ?_
    exact g_iret C dX7_told_47 (en_finI hf)
  rw [if_neg s1_1] at hf
  rcases Decidable.em (x1 = (2 : Int32)) with s1_2 | s1_2
  · rw [if_pos s1_2] at hf
    refine g_tsw (z := (2 : Int32)) (tgt := 48) C dX7_told_1 s1_2 (by decide) (by decide) rfl (by decide) ?_
    refine g_aload_n_0 C dX7_told_48 ?_
    refine gf_X7_35 C dX7_told_49 ?_
    obtain ⟨q3, hq3, hf⟩ := en_bnd hf
    refine gc_X7_114_C_Machine_lastCause C (ctC_Machine_lastCause _ q3.1 q3.2 hq3) (by decide) (Nat.le_of_ble_eq_true rfl) dX7_told_52 ?_
    exact g_iret C dX7_told_55 (en_finI hf)
  rw [if_neg s1_2] at hf
  rcases Decidable.em (x1 = (3 : Int32)) with s1_3 | s1_3
  · rw [if_pos s1_3] at hf
    refine g_tsw (z := (3 : Int32)) (tgt := 56) C dX7_told_1 s1_3 (by decide) (by decide) rfl (by decide) ?_
    refine g_aload_n_0 C dX7_told_56 ?_
    refine gf_X7_35 C dX7_told_57 ?_
    obtain ⟨q4, hq4, hf⟩ := en_bnd hf
    refine gc_X7_117_C_Machine_stepsDone C (ctC_Machine_stepsDone _ q4.1 q4.2 hq4) (by decide) (Nat.le_of_ble_eq_true rfl) dX7_told_60 ?_
    exact g_iret C dX7_told_63 (en_finI hf)
  rw [if_neg s1_3] at hf
  refine g_tswD (tgt := 64) C [(0 : Int32), (1 : Int32), (2 : Int32), (3 : Int32)] dX7_told_1 (And.intro s1_0 (And.intro s1_1 (And.intro s1_2 (And.intro s1_3 trivial)))) 4 (by decide) (by decide) (by decide) ?_
  refine g_iconst (v := (0 : Int32)) C dX7_told_64 (by decide) ?_
  exact g_iret C dX7_told_65 (en_finI hf)
set_option maxHeartbeats 4000000 in
set_option maxRecDepth 100000 in
theorem ctC_Scripts_wordPlace {l : Launch} {D : va_G} {K : en_K} {ad : Nat → Nat} (x1 : Int64) (u : Ug) (r0 : Int32) (u0 : Ug) (hf : fC_Scripts_wordPlace x1 u = some (r0, u0)) : CT l D (en_ty K) ad (1) yX5_wordPlace cX5_wordPlace 3 (some .int) [.long x1] (wdC K u) (en_RI (wdC K) r0 u0) := by
  refine CT.of (by decide) [some (.long x1), none, none] rfl (Nat.le_of_ble_eq_true rfl) ?_
  intro p e R s m args below meth c sz C
  have L : ∀ n : Nat, (∀ (v0 : Int64) (v2 : Int32) (w : Ug), (kC_Scripts_wordPlace n) v0 v2 w = some (r0, u0) → G p l e R s m args below meth c D (va_A (en_ws ad (wdC K u)) sz) 3 ad 0 0 (en_Q below D (en_ty K) ad (wdC K u) sz (en_RI (wdC K) r0 u0) args s) 2 [some (.long v0), none, some (.int v2)] [] (wdC K w)) := by
    intro n
    induction n with
    | zero => exact fun _ _ _ hf => absurd hf (by intro q; cases q)
    | succ n ih =>
      intro v0 v2 u hf
      have hf : sC_Scripts_wordPlace_2 (kC_Scripts_wordPlace n) v0 v2 u = some (r0, u0) := hf
      unfold sC_Scripts_wordPlace_2 at hf
      refine g_iload_n_2 C dX5_wordPlace_2 ?_
      refine gs_X5_27 C dX5_wordPlace_3 ?_
      refine g_tlen C dX5_wordPlace_6 ?_
      refine g_if_icmp_ge (tgt := 28) C dX5_wordPlace_7 (by decide) (fun c1 => ?_) (fun c1 => ?_)
      · rw [if_pos c1] at hf
        refine g_iconst (v := (-1 : Int32)) C dX5_wordPlace_28 (by decide) ?_
        exact g_iret C dX5_wordPlace_29 (en_finI hf)
      · rw [if_neg c1] at hf
        refine gs_X5_27 C dX5_wordPlace_10 ?_
        refine g_iload_n_2 C dX5_wordPlace_13 ?_
        obtain ⟨y2, hy2, hf⟩ := en_bnd hf
        refine g_tl C hy2 dX5_wordPlace_14 ?_
        refine g_lload_n_0 C dX5_wordPlace_15 ?_
        refine g_lcmp C dX5_wordPlace_16 ?_
        refine g_if_ne (tgt := 22) C dX5_wordPlace_17 (by decide) (fun c3 => ?_) (fun c3 => ?_)
        · rw [if_neg c3] at hf
          refine g_iinc_2 (z := (1 : Int32)) C dX5_wordPlace_22 (by decide) (by decide) rfl ?_
          refine g_goto (tgt := 2) C dX5_wordPlace_25 (by decide) ?_
          exact g_weak (ih _ _ _ hf) (And.intro rfl (And.intro rfl trivial))
        · rw [if_pos c3] at hf
          refine g_iload_n_2 C dX5_wordPlace_20 ?_
          exact g_iret C dX5_wordPlace_21 (en_finI hf)
  unfold fC_Scripts_wordPlace at hf
  refine g_iconst (v := (0 : Int32)) C dX5_wordPlace_0 (by decide) ?_
  refine g_istore_n_2 C dX5_wordPlace_1 (by decide) rfl ?_
  exact g_weak ((L _) _ _ _ hf) (And.intro rfl (And.intro rfl trivial))
set_option maxHeartbeats 4000000 in
set_option maxRecDepth 100000 in
theorem ctC_Scripts_isTest {l : Launch} {D : va_G} {K : en_K} {ad : Nat → Nat} (x1 : Int32) (u : Ug) (r0 : Int32) (u0 : Ug) (hf : fC_Scripts_isTest x1 u = some (r0, u0)) : CT l D (en_ty K) ad (1) yX5_isTest cX5_isTest 1 (some .boolean) [.int x1] (wdC K u) (en_RI (wdC K) r0 u0) := by
  refine CT.of (by decide) [some (.int x1)] rfl (Nat.le_of_ble_eq_true rfl) ?_
  intro p e R s m args below meth c sz C
  unfold fC_Scripts_isTest at hf
  refine g_iload_n_0 C dX5_isTest_0 ?_
  refine g_if_lt (tgt := 14) C dX5_isTest_1 (by decide) (fun c1 => ?_) (fun c1 => ?_)
  · rw [if_pos c1] at hf
    refine g_iconst (v := (0 : Int32)) C dX5_isTest_14 (by decide) ?_
    exact g_zret C rfl dX5_isTest_15 (en_finI hf)
  · rw [if_neg c1] at hf
    refine g_iload_n_0 C dX5_isTest_4 ?_
    refine g_bipush (v := (6 : Int32)) C dX5_isTest_5 (by decide) ?_
    refine g_if_icmp_ge (tgt := 14) C dX5_isTest_7 (by decide) (fun c2 => ?_) (fun c2 => ?_)
    · rw [if_pos c2] at hf
      refine g_iconst (v := (0 : Int32)) C dX5_isTest_14 (by decide) ?_
      exact g_zret C rfl dX5_isTest_15 (en_finI hf)
    · rw [if_neg c2] at hf
      refine g_iconst (v := (1 : Int32)) C dX5_isTest_10 (by decide) ?_
      refine g_goto (tgt := 15) C dX5_isTest_11 (by decide) ?_
      exact g_zret C rfl dX5_isTest_15 (en_finI hf)
set_option maxHeartbeats 4000000 in
set_option maxRecDepth 100000 in
theorem ctC_Scripts_append {l : Launch} {D : va_G} {K : en_K} {ad : Nat → Nat} (x1 : Int32) (x2 : Int32) (x3 : Int32) (x4 : Int32) (x5 : Int32) (u : Ug) (r0 : Int32) (u0 : Ug) (hf : fC_Scripts_append x1 x2 x3 x4 x5 u = some (r0, u0)) : CT l D (en_ty K) ad (1) yX5_append cX5_append 7 (some .int) [.ref 15, .int x1, .int x2, .int x3, .int x4, .int x5] (wdC K u) (en_RI (wdC K) r0 u0) := by
  refine CT.of (by decide) [some (.ref 15), some (.int x1), some (.int x2), some (.int x3), some (.int x4), some (.int x5), none] rfl (Nat.le_of_ble_eq_true rfl) ?_
  intro p e R s m args below meth c sz C
  unfold fC_Scripts_append at hf
  refine g_iload_n_1 C dX5_append_0 ?_
  refine g_if_lt (tgt := 30) C dX5_append_1 (by decide) (fun c1 => ?_) (fun c1 => ?_)
  · rw [if_pos c1] at hf
    refine g_bipush (v := (-2 : Int32)) C dX5_append_30 (by decide) ?_
    exact g_iret C dX5_append_32 (en_finI hf)
  · rw [if_neg c1] at hf
    refine g_iload_n_1 C dX5_append_4 ?_
    refine g_bipush (v := (6 : Int32)) C dX5_append_5 (by decide) ?_
    refine g_if_icmp_ge (tgt := 30) C dX5_append_7 (by decide) (fun c2 => ?_) (fun c2 => ?_)
    · rw [if_pos c2] at hf
      refine g_bipush (v := (-2 : Int32)) C dX5_append_30 (by decide) ?_
      exact g_iret C dX5_append_32 (en_finI hf)
    · rw [if_neg c2] at hf
      refine g_aload_n_0 C dX5_append_10 ?_
      refine gf_X5_11 C dX5_append_11 ?_
      refine g_iload_n_1 C dX5_append_14 ?_
      obtain ⟨y3, hy3, hf⟩ := en_bnd hf
      refine gaC_ld_16 C hy3 dX5_append_15 ?_
      refine g_if_lt (tgt := 30) C dX5_append_16 (by decide) (fun c4 => ?_) (fun c4 => ?_)
      · rw [if_pos c4] at hf
        refine g_bipush (v := (-2 : Int32)) C dX5_append_30 (by decide) ?_
        exact g_iret C dX5_append_32 (en_finI hf)
      · rw [if_neg c4] at hf
        refine g_aload_n_0 C dX5_append_19 ?_
        refine gf_X5_11 C dX5_append_20 ?_
        refine g_iload_n_1 C dX5_append_23 ?_
        obtain ⟨y5, hy5, hf⟩ := en_bnd hf
        refine gaC_ld_16 C hy5 dX5_append_24 ?_
        refine g_bipush (v := (16 : Int32)) C dX5_append_25 (by decide) ?_
        refine g_if_icmp_lt (tgt := 33) C dX5_append_27 (by decide) (fun c6 => ?_) (fun c6 => ?_)
        · rw [if_pos c6] at hf
          refine g_iload_n_1 C dX5_append_33 ?_
          refine g_bipush (v := (16 : Int32)) C dX5_append_34 (by decide) ?_
          refine g_imul C dX5_append_36 ?_
          refine g_aload_n_0 C dX5_append_37 ?_
          refine gf_X5_11 C dX5_append_38 ?_
          refine g_iload_n_1 C dX5_append_41 ?_
          obtain ⟨y7, hy7, hf⟩ := en_bnd hf
          refine gaC_ld_16 C hy7 dX5_append_42 ?_
          refine g_iadd C dX5_append_43 ?_
          refine g_istore_6 C dX5_append_44 (by decide) rfl ?_
          refine g_aload_n_0 C dX5_append_46 ?_
          refine gf_X5_15 C dX5_append_47 ?_
          refine g_iload_6 C dX5_append_50 ?_
          refine g_iload_n_2 C dX5_append_52 ?_
          obtain ⟨u8, hu8, hf⟩ := en_bnd hf
          refine gaC_st_17 C hu8 dX5_append_53 ?_
          refine g_aload_n_0 C dX5_append_54 ?_
          refine gf_X5_18 C dX5_append_55 ?_
          refine g_iload_6 C dX5_append_58 ?_
          refine g_iload_n_3 C dX5_append_60 ?_
          obtain ⟨u9, hu9, hf⟩ := en_bnd hf
          refine gaC_st_18 C hu9 dX5_append_61 ?_
          refine g_aload_n_0 C dX5_append_62 ?_
          refine gf_X5_21 C dX5_append_63 ?_
          refine g_iload_6 C dX5_append_66 ?_
          refine g_iload_4 C dX5_append_68 ?_
          obtain ⟨u10, hu10, hf⟩ := en_bnd hf
          refine gaC_st_19 C hu10 dX5_append_70 ?_
          refine g_aload_n_0 C dX5_append_71 ?_
          refine gf_X5_24 C dX5_append_72 ?_
          refine g_iload_6 C dX5_append_75 ?_
          refine g_iload_5 C dX5_append_77 ?_
          obtain ⟨u11, hu11, hf⟩ := en_bnd hf
          refine gaC_st_20 C hu11 dX5_append_79 ?_
          refine g_aload_n_0 C dX5_append_80 ?_
          refine gf_X5_11 C dX5_append_81 ?_
          refine g_iload_n_1 C dX5_append_84 ?_
          refine g_dup2 C dX5_append_85 rfl rfl ?_
          obtain ⟨y12, hy12, hf⟩ := en_bnd hf
          refine gaC_ld_16 C hy12 dX5_append_86 ?_
          refine g_iconst (v := (1 : Int32)) C dX5_append_87 (by decide) ?_
          refine g_iadd C dX5_append_88 ?_
          obtain ⟨u13, hu13, hf⟩ := en_bnd hf
          refine gaC_st_16 C hu13 dX5_append_89 ?_
          refine g_aload_n_0 C dX5_append_90 ?_
          refine gf_X5_11 C dX5_append_91 ?_
          refine g_iload_n_1 C dX5_append_94 ?_
          obtain ⟨y14, hy14, hf⟩ := en_bnd hf
          refine gaC_ld_16 C hy14 dX5_append_95 ?_
          exact g_iret C dX5_append_96 (en_finI hf)
        · rw [if_neg c6] at hf
          refine g_bipush (v := (-2 : Int32)) C dX5_append_30 (by decide) ?_
          exact g_iret C dX5_append_32 (en_finI hf)
set_option maxHeartbeats 4000000 in
set_option maxRecDepth 100000 in
theorem ctC_line {l : Launch} {D : va_G} {K : en_K} {ad : Nat → Nat} (x1 : Int32) (x2 : Int64) (x3 : Int32) (x4 : Int32) (x5 : Int32) (u : Ug) (r0 : Int32) (u0 : Ug) (hf : fC_line x1 x2 x3 x4 x5 u = some (r0, u0)) : CT l D (en_ty K) ad (2) yX7_line cX7_line 8 (some .int) [.ref 0, .int x1, .long x2, .int x3, .int x4, .int x5] (wdC K u) (en_RI (wdC K) r0 u0) := by
  refine CT.of (by decide) [some (.ref 0), some (.int x1), some (.long x2), none, some (.int x3), some (.int x4), some (.int x5), none] rfl (Nat.le_of_ble_eq_true rfl) ?_
  intro p e R s m args below meth c sz C
  unfold fC_line at hf
  refine g_lload_n_2 C dX7_line_0 ?_
  obtain ⟨q1, hq1, hf⟩ := en_bnd hf
  refine gc_X7_120_C_Scripts_wordPlace C (ctC_Scripts_wordPlace _ _ q1.1 q1.2 hq1) (by decide) (Nat.le_of_ble_eq_true rfl) dX7_line_1 ?_
  refine g_istore_7 C dX7_line_4 (by decide) rfl ?_
  refine g_iload_n_1 C dX7_line_6 ?_
  obtain ⟨q2, hq2, hf⟩ := en_bnd hf
  refine gc_X7_124_C_Scripts_isTest C (ctC_Scripts_isTest _ _ q2.1 q2.2 hq2) (by decide) (Nat.le_of_ble_eq_true rfl) dX7_line_7 ?_
  refine g_if_eq (tgt := 18) C dX7_line_10 (by decide) (fun c3 => ?_) (fun c3 => ?_)
  · rw [if_pos c3] at hf
    refine g_iconst (v := (-1 : Int32)) C dX7_line_18 (by decide) ?_
    exact g_iret C dX7_line_19 (en_finI hf)
  · rw [if_neg c3] at hf
    refine g_iload_7 C dX7_line_13 ?_
    refine g_if_ge (tgt := 20) C dX7_line_15 (by decide) (fun c4 => ?_) (fun c4 => ?_)
    · rw [if_pos c4] at hf
      refine g_aload_n_0 C dX7_line_20 ?_
      refine gf_X7_42 C dX7_line_21 ?_
      refine g_iload_n_1 C dX7_line_24 ?_
      refine g_iload_7 C dX7_line_25 ?_
      refine g_iload_4 C dX7_line_27 ?_
      refine g_iload_5 C dX7_line_29 ?_
      refine g_iload_6 C dX7_line_31 ?_
      obtain ⟨q5, hq5, hf⟩ := en_bnd hf
      refine gc_X7_127_C_Scripts_append C (ctC_Scripts_append _ _ _ _ _ _ q5.1 q5.2 hq5) (by decide) (Nat.le_of_ble_eq_true rfl) dX7_line_33 ?_
      exact g_iret C dX7_line_36 (en_finI hf)
    · rw [if_neg c4] at hf
      refine g_iconst (v := (-1 : Int32)) C dX7_line_18 (by decide) ?_
      exact g_iret C dX7_line_19 (en_finI hf)
set_option maxHeartbeats 4000000 in
set_option maxRecDepth 100000 in
theorem ctC_Scripts_empty {l : Launch} {D : va_G} {K : en_K} {ad : Nat → Nat} (x1 : Int32) (u : Ug) (r0 : Int32) (u0 : Ug) (hf : fC_Scripts_empty x1 u = some (r0, u0)) : CT l D (en_ty K) ad (1) yX5_empty cX5_empty 3 (some .int) [.ref 15, .int x1] (wdC K u) (en_RI (wdC K) r0 u0) := by
  refine CT.of (by decide) [some (.ref 15), some (.int x1), none] rfl (Nat.le_of_ble_eq_true rfl) ?_
  intro p e R s m args below meth c sz C
  unfold fC_Scripts_empty at hf
  refine g_iload_n_1 C dX5_empty_0 ?_
  refine g_if_lt (tgt := 10) C dX5_empty_1 (by decide) (fun c1 => ?_) (fun c1 => ?_)
  · rw [if_pos c1] at hf
    refine g_iconst (v := (0 : Int32)) C dX5_empty_10 (by decide) ?_
    exact g_iret C dX5_empty_11 (en_finI hf)
  · rw [if_neg c1] at hf
    refine g_iload_n_1 C dX5_empty_4 ?_
    refine g_bipush (v := (6 : Int32)) C dX5_empty_5 (by decide) ?_
    refine g_if_icmp_lt (tgt := 12) C dX5_empty_7 (by decide) (fun c2 => ?_) (fun c2 => ?_)
    · rw [if_pos c2] at hf
      refine g_aload_n_0 C dX5_empty_12 ?_
      refine gf_X5_11 C dX5_empty_13 ?_
      refine g_iload_n_1 C dX5_empty_16 ?_
      obtain ⟨y3, hy3, hf⟩ := en_bnd hf
      refine gaC_ld_16 C hy3 dX5_empty_17 ?_
      refine g_istore_n_2 C dX5_empty_18 (by decide) rfl ?_
      refine g_aload_n_0 C dX5_empty_19 ?_
      refine gf_X5_11 C dX5_empty_20 ?_
      refine g_iload_n_1 C dX5_empty_23 ?_
      refine g_iconst (v := (0 : Int32)) C dX5_empty_24 (by decide) ?_
      obtain ⟨u4, hu4, hf⟩ := en_bnd hf
      refine gaC_st_16 C hu4 dX5_empty_25 ?_
      refine g_iload_n_2 C dX5_empty_26 ?_
      exact g_iret C dX5_empty_27 (en_finI hf)
    · rw [if_neg c2] at hf
      refine g_iconst (v := (0 : Int32)) C dX5_empty_10 (by decide) ?_
      exact g_iret C dX5_empty_11 (en_finI hf)
set_option maxHeartbeats 4000000 in
set_option maxRecDepth 100000 in
theorem ctC_clear {l : Launch} {D : va_G} {K : en_K} {ad : Nat → Nat} (x1 : Int32) (u : Ug) (r0 : Int32) (u0 : Ug) (hf : fC_clear x1 u = some (r0, u0)) : CT l D (en_ty K) ad (2) yX7_clear cX7_clear 2 (some .int) [.ref 0, .int x1] (wdC K u) (en_RI (wdC K) r0 u0) := by
  refine CT.of (by decide) [some (.ref 0), some (.int x1)] rfl (Nat.le_of_ble_eq_true rfl) ?_
  intro p e R s m args below meth c sz C
  unfold fC_clear at hf
  refine g_iload_n_1 C dX7_clear_0 ?_
  obtain ⟨q1, hq1, hf⟩ := en_bnd hf
  refine gc_X7_124_C_Scripts_isTest C (ctC_Scripts_isTest _ _ q1.1 q1.2 hq1) (by decide) (Nat.le_of_ble_eq_true rfl) dX7_clear_1 ?_
  refine g_if_eq (tgt := 18) C dX7_clear_4 (by decide) (fun c2 => ?_) (fun c2 => ?_)
  · rw [if_pos c2] at hf
    refine g_iconst (v := (-1 : Int32)) C dX7_clear_18 (by decide) ?_
    exact g_iret C dX7_clear_19 (en_finI hf)
  · rw [if_neg c2] at hf
    refine g_aload_n_0 C dX7_clear_7 ?_
    refine gf_X7_42 C dX7_clear_8 ?_
    refine g_iload_n_1 C dX7_clear_11 ?_
    obtain ⟨q3, hq3, hf⟩ := en_bnd hf
    refine gc_X7_130_C_Scripts_empty C (ctC_Scripts_empty _ _ q3.1 q3.2 hq3) (by decide) (Nat.le_of_ble_eq_true rfl) dX7_clear_12 ?_
    refine g_goto (tgt := 19) C dX7_clear_15 (by decide) ?_
    exact g_iret C dX7_clear_19 (en_finI hf)
set_option maxHeartbeats 4000000 in
set_option maxRecDepth 100000 in
theorem ctC_State_keepIn_22 {l : Launch} {D : va_G} {K : en_K} {ad : Nat → Nat} (x2 : Int32) (u : Ug) (r0 : Int32) (u0 : Ug) (hf : fC_State_keepIn_22 x2 u = some (r0, u0)) : CT l D (en_ty K) ad (1) yX6_keepIn cX6_keepIn 3 (some .boolean) [.ref 1, .ref 22, .int x2] (wdC K u) (en_RI (wdC K) r0 u0) := by
  refine CT.of (by decide) [some (.ref 1), some (.ref 22), some (.int x2)] rfl (Nat.le_of_ble_eq_true rfl) ?_
  intro p e R s m args below meth c sz C
  unfold fC_State_keepIn_22 at hf
  refine g_aload_n_1 C dX6_keepIn_0 ?_
  refine g_ifnull C dX6_keepIn_1 ?_
  refine g_iload_n_2 C dX6_keepIn_4 ?_
  refine g_if_lt (tgt := 17) C dX6_keepIn_5 (by decide) (fun c1 => ?_) (fun c1 => ?_)
  · rw [if_pos c1] at hf
    refine g_iconst (v := (0 : Int32)) C dX6_keepIn_17 (by decide) ?_
    exact g_zret C rfl dX6_keepIn_18 (en_finI hf)
  · rw [if_neg c1] at hf
    refine g_iload_n_2 C dX6_keepIn_8 ?_
    refine g_aload_n_1 C dX6_keepIn_9 ?_
    refine gaC_len_22 C dX6_keepIn_10 ?_
    refine g_bipush (v := (70 : Int32)) C dX6_keepIn_11 (by decide) ?_
    refine g_idiv C dX6_keepIn_13 (by decide) ?_
    refine g_if_icmp_lt (tgt := 19) C dX6_keepIn_14 (by decide) (fun c2 => ?_) (fun c2 => ?_)
    · rw [if_pos c2] at hf
      refine g_aload_n_0 C dX6_keepIn_19 ?_
      refine gf_X6_11 C dX6_keepIn_20 ?_
      refine g_iconst (v := (0 : Int32)) C dX6_keepIn_23 (by decide) ?_
      refine g_aload_n_1 C dX6_keepIn_24 ?_
      refine g_iload_n_2 C dX6_keepIn_25 ?_
      refine g_bipush (v := (70 : Int32)) C dX6_keepIn_26 (by decide) ?_
      refine g_imul C dX6_keepIn_28 ?_
      refine g_bipush (v := (70 : Int32)) C dX6_keepIn_29 (by decide) ?_
      obtain ⟨u3, hu3, hf⟩ := en_bnd hf
      refine gy_X6_18_2_22 C (by decide) (Nat.le_of_ble_eq_true rfl) hu3 dX6_keepIn_31 ?_
      refine g_iconst (v := (1 : Int32)) C dX6_keepIn_34 (by decide) ?_
      exact g_zret C rfl dX6_keepIn_35 (en_finI hf)
    · rw [if_neg c2] at hf
      refine g_iconst (v := (0 : Int32)) C dX6_keepIn_17 (by decide) ?_
      exact g_zret C rfl dX6_keepIn_18 (en_finI hf)
set_option maxHeartbeats 4000000 in
set_option maxRecDepth 100000 in
theorem ctC_State_eventCount {l : Launch} {D : va_G} {K : en_K} {ad : Nat → Nat} (u : Ug) (r0 : Int32) (u0 : Ug) (hf : fC_State_eventCount u = some (r0, u0)) : CT l D (en_ty K) ad (1) yX6_eventCount cX6_eventCount 1 (some .int) [.ref 1] (wdC K u) (en_RI (wdC K) r0 u0) := by
  refine CT.of (by decide) [some (.ref 1)] rfl (Nat.le_of_ble_eq_true rfl) ?_
  intro p e R s m args below meth c sz C
  unfold fC_State_eventCount at hf
  refine g_aload_n_0 C dX6_eventCount_0 ?_
  refine gf_X6_11 C dX6_eventCount_1 ?_
  refine g_bipush (v := (29 : Int32)) C dX6_eventCount_4 (by decide) ?_
  obtain ⟨y1, hy1, hf⟩ := en_bnd hf
  refine gaC_ld_2 C hy1 dX6_eventCount_6 ?_
  exact g_iret C dX6_eventCount_7 (en_finI hf)
set_option maxHeartbeats 4000000 in
set_option maxRecDepth 100000 in
theorem ctC_Runner_begin {l : Launch} {D : va_G} {K : en_K} {ad : Nat → Nat} (u : Ug) (r0 : Int32) (u0 : Ug) (hf : fC_Runner_begin u = some (r0, u0)) : CT l D (en_ty K) ad (2) yX4_begin cX4_begin 1 none [.ref 21] (wdC K u) (en_RV (wdC K) u0) := by
  refine CT.of (by decide) [some (.ref 21)] rfl (Nat.le_of_ble_eq_true rfl) ?_
  intro p e R s m args below meth c sz C
  unfold fC_Runner_begin at hf
  refine g_aload_n_0 C dX4_begin_0 ?_
  refine gf_X4_34 C dX4_begin_1 ?_
  refine g_aload_n_0 C dX4_begin_4 ?_
  refine gf_X4_13 C dX4_begin_5 ?_
  refine g_iconst (v := (3 : Int32)) C dX4_begin_8 (by decide) ?_
  obtain ⟨q1, hq1, hf⟩ := en_bnd hf
  refine gc_X4_87_C_State_keepIn_22 C (ctC_State_keepIn_22 _ _ q1.1 q1.2 hq1) (by decide) (Nat.le_of_ble_eq_true rfl) dX4_begin_9 ?_
  refine g_pop C dX4_begin_12 rfl ?_
  refine g_aload_n_0 C dX4_begin_13 ?_
  refine g_iconst (v := (0 : Int32)) C dX4_begin_14 (by decide) ?_
  obtain ⟨u2, hu2, hf⟩ := en_bnd hf
  refine gp_X4_17 C hu2 dX4_begin_15 ?_
  refine g_aload_n_0 C dX4_begin_18 ?_
  refine g_iconst (v := (0 : Int32)) C dX4_begin_19 (by decide) ?_
  obtain ⟨u3, hu3, hf⟩ := en_bnd hf
  refine gp_X4_21 C hu3 dX4_begin_20 ?_
  refine g_aload_n_0 C dX4_begin_23 ?_
  refine g_iconst (v := (0 : Int32)) C dX4_begin_24 (by decide) ?_
  obtain ⟨u4, hu4, hf⟩ := en_bnd hf
  refine gp_X4_24 C hu4 dX4_begin_25 ?_
  refine g_aload_n_0 C dX4_begin_28 ?_
  refine g_aload_n_0 C dX4_begin_29 ?_
  refine gf_X4_34 C dX4_begin_30 ?_
  obtain ⟨q5, hq5, hf⟩ := en_bnd hf
  refine gc_X4_90_C_State_eventCount C (ctC_State_eventCount _ q5.1 q5.2 hq5) (by decide) (Nat.le_of_ble_eq_true rfl) dX4_begin_33 ?_
  obtain ⟨u6, hu6, hf⟩ := en_bnd hf
  refine gp_X4_27 C hu6 dX4_begin_36 ?_
  refine g_aload_n_0 C dX4_begin_39 ?_
  refine g_iconst (v := (0 : Int32)) C dX4_begin_40 (by decide) ?_
  obtain ⟨u7, hu7, hf⟩ := en_bnd hf
  refine gp_X4_30 C hu7 dX4_begin_41 ?_
  exact g_vret C dX4_begin_44 (en_finV hf)
set_option maxHeartbeats 4000000 in
set_option maxRecDepth 100000 in
theorem ctC_Scripts_size {l : Launch} {D : va_G} {K : en_K} {ad : Nat → Nat} (x1 : Int32) (u : Ug) (r0 : Int32) (u0 : Ug) (hf : fC_Scripts_size x1 u = some (r0, u0)) : CT l D (en_ty K) ad (1) yX5_size cX5_size 2 (some .int) [.ref 15, .int x1] (wdC K u) (en_RI (wdC K) r0 u0) := by
  refine CT.of (by decide) [some (.ref 15), some (.int x1)] rfl (Nat.le_of_ble_eq_true rfl) ?_
  intro p e R s m args below meth c sz C
  unfold fC_Scripts_size at hf
  refine g_iload_n_1 C dX5_size_0 ?_
  refine g_if_lt (tgt := 19) C dX5_size_1 (by decide) (fun c1 => ?_) (fun c1 => ?_)
  · rw [if_pos c1] at hf
    refine g_iconst (v := (0 : Int32)) C dX5_size_19 (by decide) ?_
    exact g_iret C dX5_size_20 (en_finI hf)
  · rw [if_neg c1] at hf
    refine g_iload_n_1 C dX5_size_4 ?_
    refine g_bipush (v := (6 : Int32)) C dX5_size_5 (by decide) ?_
    refine g_if_icmp_ge (tgt := 19) C dX5_size_7 (by decide) (fun c2 => ?_) (fun c2 => ?_)
    · rw [if_pos c2] at hf
      refine g_iconst (v := (0 : Int32)) C dX5_size_19 (by decide) ?_
      exact g_iret C dX5_size_20 (en_finI hf)
    · rw [if_neg c2] at hf
      refine g_aload_n_0 C dX5_size_10 ?_
      refine gf_X5_11 C dX5_size_11 ?_
      refine g_iload_n_1 C dX5_size_14 ?_
      obtain ⟨y3, hy3, hf⟩ := en_bnd hf
      refine gaC_ld_16 C hy3 dX5_size_15 ?_
      refine g_goto (tgt := 20) C dX5_size_16 (by decide) ?_
      exact g_iret C dX5_size_20 (en_finI hf)
set_option maxHeartbeats 4000000 in
set_option maxRecDepth 100000 in
theorem ctC_Faces_dropDoubles {l : Launch} {D : va_G} {K : en_K} {ad : Nat → Nat} (u : Ug) (r0 : Int32) (u0 : Ug) (hf : fC_Faces_dropDoubles u = some (r0, u0)) : CT l D (en_ty K) ad (1) yX1_dropDoubles cX1_dropDoubles 2 none [.ref 9] (wdC K u) (en_RV (wdC K) u0) := by
  refine CT.of (by decide) [some (.ref 9), none] rfl (Nat.le_of_ble_eq_true rfl) ?_
  intro p e R s m args below meth c sz C
  have L : ∀ n : Nat, (∀ (v1 : Int32) (w : Ug), (kC_Faces_dropDoubles n) v1 w = some (r0, u0) → G p l e R s m args below meth c D (va_A (en_ws ad (wdC K u)) sz) 2 ad 0 0 (en_Q below D (en_ty K) ad (wdC K u) sz (en_RV (wdC K) u0) args s) 2 [some (.ref 9), some (.int v1)] [] (wdC K w)) := by
    intro n
    induction n with
    | zero => exact fun _ _ hf => absurd hf (by intro q; cases q)
    | succ n ih =>
      intro v1 u hf
      have hf : sC_Faces_dropDoubles_2 (kC_Faces_dropDoubles n) v1 u = some (r0, u0) := hf
      unfold sC_Faces_dropDoubles_2 at hf
      refine g_iload_n_1 C dX1_dropDoubles_2 ?_
      refine g_iconst (v := (4 : Int32)) C dX1_dropDoubles_3 (by decide) ?_
      refine g_if_icmp_ge (tgt := 20) C dX1_dropDoubles_4 (by decide) (fun c1 => ?_) (fun c1 => ?_)
      · rw [if_pos c1] at hf
        exact g_vret C dX1_dropDoubles_20 (en_finV hf)
      · rw [if_neg c1] at hf
        refine g_aload_n_0 C dX1_dropDoubles_7 ?_
        refine gf_X1_13 C dX1_dropDoubles_8 ?_
        refine g_iload_n_1 C dX1_dropDoubles_11 ?_
        refine g_iconst (v := (0 : Int32)) C dX1_dropDoubles_12 (by decide) ?_
        obtain ⟨u2, hu2, hf⟩ := en_bnd hf
        refine gaC_st_11 C hu2 dX1_dropDoubles_13 ?_
        refine g_iinc_1 (z := (1 : Int32)) C dX1_dropDoubles_14 (by decide) (by decide) rfl ?_
        refine g_goto (tgt := 2) C dX1_dropDoubles_17 (by decide) ?_
        exact g_weak (ih _ _ hf) (And.intro rfl (And.intro rfl trivial))
  unfold fC_Faces_dropDoubles at hf
  refine g_iconst (v := (0 : Int32)) C dX1_dropDoubles_0 (by decide) ?_
  refine g_istore_n_1 C dX1_dropDoubles_1 (by decide) rfl ?_
  exact g_weak ((L _) _ _ hf) (And.intro rfl (And.intro rfl trivial))
set_option maxHeartbeats 4000000 in
set_option maxRecDepth 100000 in
theorem ctC_State_bringFrom_22 {l : Launch} {D : va_G} {K : en_K} {ad : Nat → Nat} (x2 : Int32) (u : Ug) (r0 : Int32) (u0 : Ug) (hf : fC_State_bringFrom_22 x2 u = some (r0, u0)) : CT l D (en_ty K) ad (1) yX6_bringFrom cX6_bringFrom 3 (some .boolean) [.ref 1, .ref 22, .int x2] (wdC K u) (en_RI (wdC K) r0 u0) := by
  refine CT.of (by decide) [some (.ref 1), some (.ref 22), some (.int x2)] rfl (Nat.le_of_ble_eq_true rfl) ?_
  intro p e R s m args below meth c sz C
  unfold fC_State_bringFrom_22 at hf
  refine g_aload_n_1 C dX6_bringFrom_0 ?_
  refine g_ifnull C dX6_bringFrom_1 ?_
  refine g_iload_n_2 C dX6_bringFrom_4 ?_
  refine g_if_lt (tgt := 17) C dX6_bringFrom_5 (by decide) (fun c1 => ?_) (fun c1 => ?_)
  · rw [if_pos c1] at hf
    refine g_iconst (v := (0 : Int32)) C dX6_bringFrom_17 (by decide) ?_
    exact g_zret C rfl dX6_bringFrom_18 (en_finI hf)
  · rw [if_neg c1] at hf
    refine g_iload_n_2 C dX6_bringFrom_8 ?_
    refine g_aload_n_1 C dX6_bringFrom_9 ?_
    refine gaC_len_22 C dX6_bringFrom_10 ?_
    refine g_bipush (v := (70 : Int32)) C dX6_bringFrom_11 (by decide) ?_
    refine g_idiv C dX6_bringFrom_13 (by decide) ?_
    refine g_if_icmp_lt (tgt := 19) C dX6_bringFrom_14 (by decide) (fun c2 => ?_) (fun c2 => ?_)
    · rw [if_pos c2] at hf
      refine g_aload_n_1 C dX6_bringFrom_19 ?_
      refine g_iload_n_2 C dX6_bringFrom_20 ?_
      refine g_bipush (v := (70 : Int32)) C dX6_bringFrom_21 (by decide) ?_
      refine g_imul C dX6_bringFrom_23 ?_
      refine g_aload_n_0 C dX6_bringFrom_24 ?_
      refine gf_X6_11 C dX6_bringFrom_25 ?_
      refine g_iconst (v := (0 : Int32)) C dX6_bringFrom_28 (by decide) ?_
      refine g_bipush (v := (70 : Int32)) C dX6_bringFrom_29 (by decide) ?_
      obtain ⟨u3, hu3, hf⟩ := en_bnd hf
      refine gy_X6_18_22_2 C (by decide) (Nat.le_of_ble_eq_true rfl) hu3 dX6_bringFrom_31 ?_
      refine g_iconst (v := (1 : Int32)) C dX6_bringFrom_34 (by decide) ?_
      exact g_zret C rfl dX6_bringFrom_35 (en_finI hf)
    · rw [if_neg c2] at hf
      refine g_iconst (v := (0 : Int32)) C dX6_bringFrom_17 (by decide) ?_
      exact g_zret C rfl dX6_bringFrom_18 (en_finI hf)
set_option maxHeartbeats 4000000 in
set_option maxRecDepth 100000 in
theorem ctC_Scripts_slotOf {l : Launch} {D : va_G} {K : en_K} {ad : Nat → Nat} (x1 : Int32) (x2 : Int32) (u : Ug) (r0 : Int32) (u0 : Ug) (hf : fC_Scripts_slotOf x1 x2 u = some (r0, u0)) : CT l D (en_ty K) ad (1) yX5_slotOf cX5_slotOf 4 (some .int) [.ref 15, .int x1, .int x2] (wdC K u) (en_RI (wdC K) r0 u0) := by
  refine CT.of (by decide) [some (.ref 15), some (.int x1), some (.int x2), none] rfl (Nat.le_of_ble_eq_true rfl) ?_
  intro p e R s m args below meth c sz C
  unfold fC_Scripts_slotOf at hf
  refine g_iload_n_1 C dX5_slotOf_0 ?_
  refine g_if_lt (tgt := 34) C dX5_slotOf_1 (by decide) (fun c1 => ?_) (fun c1 => ?_)
  · rw [if_pos c1] at hf
    refine g_iconst (v := (0 : Int32)) C dX5_slotOf_34 (by decide) ?_
    refine g_istore_n_3 C dX5_slotOf_35 (by decide) rfl ?_
    refine g_iload_n_3 C dX5_slotOf_36 ?_
    refine g_if_eq (tgt := 49) C dX5_slotOf_37 (by decide) (fun _ => ?_) (fun q => absurd q (by decide))
    refine g_iconst (v := (-1 : Int32)) C dX5_slotOf_49 (by decide) ?_
    exact g_iret C dX5_slotOf_50 (en_finI hf)
  · rw [if_neg c1] at hf
    refine g_iload_n_1 C dX5_slotOf_4 ?_
    refine g_bipush (v := (6 : Int32)) C dX5_slotOf_5 (by decide) ?_
    refine g_if_icmp_ge (tgt := 34) C dX5_slotOf_7 (by decide) (fun c2 => ?_) (fun c2 => ?_)
    · rw [if_pos c2] at hf
      refine g_iconst (v := (0 : Int32)) C dX5_slotOf_34 (by decide) ?_
      refine g_istore_n_3 C dX5_slotOf_35 (by decide) rfl ?_
      refine g_iload_n_3 C dX5_slotOf_36 ?_
      refine g_if_eq (tgt := 49) C dX5_slotOf_37 (by decide) (fun _ => ?_) (fun q => absurd q (by decide))
      refine g_iconst (v := (-1 : Int32)) C dX5_slotOf_49 (by decide) ?_
      exact g_iret C dX5_slotOf_50 (en_finI hf)
    · rw [if_neg c2] at hf
      refine g_iload_n_2 C dX5_slotOf_10 ?_
      refine g_if_lt (tgt := 34) C dX5_slotOf_11 (by decide) (fun c3 => ?_) (fun c3 => ?_)
      · rw [if_pos c3] at hf
        refine g_iconst (v := (0 : Int32)) C dX5_slotOf_34 (by decide) ?_
        refine g_istore_n_3 C dX5_slotOf_35 (by decide) rfl ?_
        refine g_iload_n_3 C dX5_slotOf_36 ?_
        refine g_if_eq (tgt := 49) C dX5_slotOf_37 (by decide) (fun _ => ?_) (fun q => absurd q (by decide))
        refine g_iconst (v := (-1 : Int32)) C dX5_slotOf_49 (by decide) ?_
        exact g_iret C dX5_slotOf_50 (en_finI hf)
      · rw [if_neg c3] at hf
        refine g_iload_n_2 C dX5_slotOf_14 ?_
        refine g_bipush (v := (16 : Int32)) C dX5_slotOf_15 (by decide) ?_
        refine g_if_icmp_ge (tgt := 34) C dX5_slotOf_17 (by decide) (fun c4 => ?_) (fun c4 => ?_)
        · rw [if_pos c4] at hf
          refine g_iconst (v := (0 : Int32)) C dX5_slotOf_34 (by decide) ?_
          refine g_istore_n_3 C dX5_slotOf_35 (by decide) rfl ?_
          refine g_iload_n_3 C dX5_slotOf_36 ?_
          refine g_if_eq (tgt := 49) C dX5_slotOf_37 (by decide) (fun _ => ?_) (fun q => absurd q (by decide))
          refine g_iconst (v := (-1 : Int32)) C dX5_slotOf_49 (by decide) ?_
          exact g_iret C dX5_slotOf_50 (en_finI hf)
        · rw [if_neg c4] at hf
          refine g_iload_n_2 C dX5_slotOf_20 ?_
          refine g_aload_n_0 C dX5_slotOf_21 ?_
          refine gf_X5_11 C dX5_slotOf_22 ?_
          refine g_iload_n_1 C dX5_slotOf_25 ?_
          obtain ⟨y5, hy5, hf⟩ := en_bnd hf
          refine gaC_ld_16 C hy5 dX5_slotOf_26 ?_
          refine g_if_icmp_ge (tgt := 34) C dX5_slotOf_27 (by decide) (fun c6 => ?_) (fun c6 => ?_)
          · rw [if_pos c6] at hf
            refine g_iconst (v := (0 : Int32)) C dX5_slotOf_34 (by decide) ?_
            refine g_istore_n_3 C dX5_slotOf_35 (by decide) rfl ?_
            refine g_iload_n_3 C dX5_slotOf_36 ?_
            refine g_if_eq (tgt := 49) C dX5_slotOf_37 (by decide) (fun _ => ?_) (fun q => absurd q (by decide))
            refine g_iconst (v := (-1 : Int32)) C dX5_slotOf_49 (by decide) ?_
            exact g_iret C dX5_slotOf_50 (en_finI hf)
          · rw [if_neg c6] at hf
            refine g_iconst (v := (1 : Int32)) C dX5_slotOf_30 (by decide) ?_
            refine g_goto (tgt := 35) C dX5_slotOf_31 (by decide) ?_
            refine g_istore_n_3 C dX5_slotOf_35 (by decide) rfl ?_
            refine g_iload_n_3 C dX5_slotOf_36 ?_
            refine g_if_eq (tgt := 49) C dX5_slotOf_37 (by decide) (fun q => absurd q (by decide)) (fun _ => ?_)
            refine g_iload_n_1 C dX5_slotOf_40 ?_
            refine g_bipush (v := (16 : Int32)) C dX5_slotOf_41 (by decide) ?_
            refine g_imul C dX5_slotOf_43 ?_
            refine g_iload_n_2 C dX5_slotOf_44 ?_
            refine g_iadd C dX5_slotOf_45 ?_
            refine g_goto (tgt := 50) C dX5_slotOf_46 (by decide) ?_
            exact g_iret C dX5_slotOf_50 (en_finI hf)
set_option maxHeartbeats 4000000 in
set_option maxRecDepth 100000 in
theorem ctC_Scripts_word {l : Launch} {D : va_G} {K : en_K} {ad : Nat → Nat} (x1 : Int32) (u : Ug) (r0 : Int32) (u0 : Ug) (hf : fC_Scripts_word x1 u = some (r0, u0)) : CT l D (en_ty K) ad (1) yX5_word cX5_word 2 (some .int) [.ref 15, .int x1] (wdC K u) (en_RI (wdC K) r0 u0) := by
  refine CT.of (by decide) [some (.ref 15), some (.int x1)] rfl (Nat.le_of_ble_eq_true rfl) ?_
  intro p e R s m args below meth c sz C
  unfold fC_Scripts_word at hf
  refine g_iload_n_1 C dX5_word_0 ?_
  refine g_if_lt (tgt := 19) C dX5_word_1 (by decide) (fun c1 => ?_) (fun c1 => ?_)
  · rw [if_pos c1] at hf
    refine g_iconst (v := (-1 : Int32)) C dX5_word_19 (by decide) ?_
    exact g_iret C dX5_word_20 (en_finI hf)
  · rw [if_neg c1] at hf
    refine g_iload_n_1 C dX5_word_4 ?_
    refine g_bipush (v := (96 : Int32)) C dX5_word_5 (by decide) ?_
    refine g_if_icmp_ge (tgt := 19) C dX5_word_7 (by decide) (fun c2 => ?_) (fun c2 => ?_)
    · rw [if_pos c2] at hf
      refine g_iconst (v := (-1 : Int32)) C dX5_word_19 (by decide) ?_
      exact g_iret C dX5_word_20 (en_finI hf)
    · rw [if_neg c2] at hf
      refine g_aload_n_0 C dX5_word_10 ?_
      refine gf_X5_15 C dX5_word_11 ?_
      refine g_iload_n_1 C dX5_word_14 ?_
      obtain ⟨y3, hy3, hf⟩ := en_bnd hf
      refine gaC_ld_17 C hy3 dX5_word_15 ?_
      refine g_goto (tgt := 20) C dX5_word_16 (by decide) ?_
      exact g_iret C dX5_word_20 (en_finI hf)
set_option maxHeartbeats 4000000 in
set_option maxRecDepth 100000 in
theorem ctC_Scripts_a {l : Launch} {D : va_G} {K : en_K} {ad : Nat → Nat} (x1 : Int32) (u : Ug) (r0 : Int32) (u0 : Ug) (hf : fC_Scripts_a x1 u = some (r0, u0)) : CT l D (en_ty K) ad (1) yX5_a cX5_a 2 (some .int) [.ref 15, .int x1] (wdC K u) (en_RI (wdC K) r0 u0) := by
  refine CT.of (by decide) [some (.ref 15), some (.int x1)] rfl (Nat.le_of_ble_eq_true rfl) ?_
  intro p e R s m args below meth c sz C
  unfold fC_Scripts_a at hf
  refine g_iload_n_1 C dX5_a_0 ?_
  refine g_if_lt (tgt := 19) C dX5_a_1 (by decide) (fun c1 => ?_) (fun c1 => ?_)
  · rw [if_pos c1] at hf
    refine g_iconst (v := (0 : Int32)) C dX5_a_19 (by decide) ?_
    exact g_iret C dX5_a_20 (en_finI hf)
  · rw [if_neg c1] at hf
    refine g_iload_n_1 C dX5_a_4 ?_
    refine g_bipush (v := (96 : Int32)) C dX5_a_5 (by decide) ?_
    refine g_if_icmp_ge (tgt := 19) C dX5_a_7 (by decide) (fun c2 => ?_) (fun c2 => ?_)
    · rw [if_pos c2] at hf
      refine g_iconst (v := (0 : Int32)) C dX5_a_19 (by decide) ?_
      exact g_iret C dX5_a_20 (en_finI hf)
    · rw [if_neg c2] at hf
      refine g_aload_n_0 C dX5_a_10 ?_
      refine gf_X5_18 C dX5_a_11 ?_
      refine g_iload_n_1 C dX5_a_14 ?_
      obtain ⟨y3, hy3, hf⟩ := en_bnd hf
      refine gaC_ld_18 C hy3 dX5_a_15 ?_
      refine g_goto (tgt := 20) C dX5_a_16 (by decide) ?_
      exact g_iret C dX5_a_20 (en_finI hf)
set_option maxHeartbeats 4000000 in
set_option maxRecDepth 100000 in
theorem ctC_Scripts_b {l : Launch} {D : va_G} {K : en_K} {ad : Nat → Nat} (x1 : Int32) (u : Ug) (r0 : Int32) (u0 : Ug) (hf : fC_Scripts_b x1 u = some (r0, u0)) : CT l D (en_ty K) ad (1) yX5_b cX5_b 2 (some .int) [.ref 15, .int x1] (wdC K u) (en_RI (wdC K) r0 u0) := by
  refine CT.of (by decide) [some (.ref 15), some (.int x1)] rfl (Nat.le_of_ble_eq_true rfl) ?_
  intro p e R s m args below meth c sz C
  unfold fC_Scripts_b at hf
  refine g_iload_n_1 C dX5_b_0 ?_
  refine g_if_lt (tgt := 19) C dX5_b_1 (by decide) (fun c1 => ?_) (fun c1 => ?_)
  · rw [if_pos c1] at hf
    refine g_iconst (v := (0 : Int32)) C dX5_b_19 (by decide) ?_
    exact g_iret C dX5_b_20 (en_finI hf)
  · rw [if_neg c1] at hf
    refine g_iload_n_1 C dX5_b_4 ?_
    refine g_bipush (v := (96 : Int32)) C dX5_b_5 (by decide) ?_
    refine g_if_icmp_ge (tgt := 19) C dX5_b_7 (by decide) (fun c2 => ?_) (fun c2 => ?_)
    · rw [if_pos c2] at hf
      refine g_iconst (v := (0 : Int32)) C dX5_b_19 (by decide) ?_
      exact g_iret C dX5_b_20 (en_finI hf)
    · rw [if_neg c2] at hf
      refine g_aload_n_0 C dX5_b_10 ?_
      refine gf_X5_21 C dX5_b_11 ?_
      refine g_iload_n_1 C dX5_b_14 ?_
      obtain ⟨y3, hy3, hf⟩ := en_bnd hf
      refine gaC_ld_19 C hy3 dX5_b_15 ?_
      refine g_goto (tgt := 20) C dX5_b_16 (by decide) ?_
      exact g_iret C dX5_b_20 (en_finI hf)
set_option maxHeartbeats 4000000 in
set_option maxRecDepth 100000 in
theorem ctC_Runner_callsAreBy {l : Launch} {D : va_G} {K : en_K} {ad : Nat → Nat} (x1 : Int32) (x2 : Int32) (u : Ug) (r0 : Int32) (u0 : Ug) (hf : fC_Runner_callsAreBy x1 x2 u = some (r0, u0)) : CT l D (en_ty K) ad (2) yX4_callsAreBy cX4_callsAreBy 3 (some .boolean) [.ref 21, .int x1, .int x2] (wdC K u) (en_RI (wdC K) r0 u0) := by
  refine CT.of (by decide) [some (.ref 21), some (.int x1), some (.int x2)] rfl (Nat.le_of_ble_eq_true rfl) ?_
  intro p e R s m args below meth c sz C
  unfold fC_Runner_callsAreBy at hf
  refine g_iload_n_1 C dX4_callsAreBy_0 ?_
  obtain ⟨q1, hq1, hf⟩ := en_bnd hf
  refine gc_X4_134_C_State_isAccount C (ctC_State_isAccount _ _ q1.1 q1.2 hq1) (by decide) (Nat.le_of_ble_eq_true rfl) dX4_callsAreBy_1 ?_
  refine g_if_eq (tgt := 11) C dX4_callsAreBy_4 (by decide) (fun c2 => ?_) (fun c2 => ?_)
  · rw [if_pos c2] at hf
    refine g_iconst (v := (0 : Int32)) C dX4_callsAreBy_11 (by decide) ?_
    exact g_zret C rfl dX4_callsAreBy_12 (en_finI hf)
  · rw [if_neg c2] at hf
    refine g_iload_n_2 C dX4_callsAreBy_7 ?_
    refine g_if_ge (tgt := 13) C dX4_callsAreBy_8 (by decide) (fun c3 => ?_) (fun c3 => ?_)
    · rw [if_pos c3] at hf
      refine g_aload_n_0 C dX4_callsAreBy_13 ?_
      refine g_iload_n_1 C dX4_callsAreBy_14 ?_
      obtain ⟨u4, hu4, hf⟩ := en_bnd hf
      refine gp_X4_17 C hu4 dX4_callsAreBy_15 ?_
      refine g_aload_n_0 C dX4_callsAreBy_18 ?_
      refine g_iload_n_2 C dX4_callsAreBy_19 ?_
      obtain ⟨u5, hu5, hf⟩ := en_bnd hf
      refine gp_X4_21 C hu5 dX4_callsAreBy_20 ?_
      refine g_iconst (v := (1 : Int32)) C dX4_callsAreBy_23 (by decide) ?_
      exact g_zret C rfl dX4_callsAreBy_24 (en_finI hf)
    · rw [if_neg c3] at hf
      refine g_iconst (v := (0 : Int32)) C dX4_callsAreBy_11 (by decide) ?_
      exact g_zret C rfl dX4_callsAreBy_12 (en_finI hf)
set_option maxHeartbeats 4000000 in
set_option maxRecDepth 100000 in
theorem ctC_Runner_threwThat {l : Launch} {D : va_G} {K : en_K} {ad : Nat → Nat} (x1 : Int32) (x2 : Int32) (u : Ug) (r0 : Int32) (u0 : Ug) (hf : fC_Runner_threwThat x1 x2 u = some (r0, u0)) : CT l D (en_ty K) ad (2) yX4_threwThat cX4_threwThat 3 (some .boolean) [.ref 21, .int x1, .int x2] (wdC K u) (en_RI (wdC K) r0 u0) := by
  refine CT.of (by decide) [some (.ref 21), some (.int x1), some (.int x2)] rfl (Nat.le_of_ble_eq_true rfl) ?_
  intro p e R s m args below meth c sz C
  unfold fC_Runner_threwThat at hf
  refine g_aload_n_0 C dX4_threwThat_0 ?_
  refine gf_X4_46 C dX4_threwThat_1 ?_
  obtain ⟨q1, hq1, hf⟩ := en_bnd hf
  refine gc_X4_114_C_Machine_threw C (ctC_Machine_threw _ q1.1 q1.2 hq1) (by decide) (Nat.le_of_ble_eq_true rfl) dX4_threwThat_4 ?_
  refine g_if_eq (tgt := 36) C dX4_threwThat_7 (by decide) (fun c2 => ?_) (fun c2 => ?_)
  · rw [if_pos c2] at hf
    refine g_iconst (v := (0 : Int32)) C dX4_threwThat_36 (by decide) ?_
    exact g_zret C rfl dX4_threwThat_37 (en_finI hf)
  · rw [if_neg c2] at hf
    refine g_aload_n_0 C dX4_threwThat_10 ?_
    refine gf_X4_46 C dX4_threwThat_11 ?_
    obtain ⟨q3, hq3, hf⟩ := en_bnd hf
    refine gc_X4_165_C_Machine_thrown C (ctC_Machine_thrown _ q3.1 q3.2 hq3) (by decide) (Nat.le_of_ble_eq_true rfl) dX4_threwThat_14 ?_
    refine g_iload_n_1 C dX4_threwThat_17 ?_
    refine g_if_icmp_ne (tgt := 36) C dX4_threwThat_18 (by decide) (fun c4 => ?_) (fun c4 => ?_)
    · rw [if_neg c4] at hf
      refine g_iconst (v := (0 : Int32)) C dX4_threwThat_36 (by decide) ?_
      exact g_zret C rfl dX4_threwThat_37 (en_finI hf)
    · rw [if_pos c4] at hf
      refine g_aload_n_0 C dX4_threwThat_21 ?_
      refine gf_X4_46 C dX4_threwThat_22 ?_
      obtain ⟨q5, hq5, hf⟩ := en_bnd hf
      refine gc_X4_168_C_Machine_lastCause C (ctC_Machine_lastCause _ q5.1 q5.2 hq5) (by decide) (Nat.le_of_ble_eq_true rfl) dX4_threwThat_25 ?_
      refine g_iload_n_2 C dX4_threwThat_28 ?_
      refine g_if_icmp_ne (tgt := 36) C dX4_threwThat_29 (by decide) (fun c6 => ?_) (fun c6 => ?_)
      · rw [if_neg c6] at hf
        refine g_iconst (v := (0 : Int32)) C dX4_threwThat_36 (by decide) ?_
        exact g_zret C rfl dX4_threwThat_37 (en_finI hf)
      · rw [if_pos c6] at hf
        refine g_iconst (v := (1 : Int32)) C dX4_threwThat_32 (by decide) ?_
        refine g_goto (tgt := 37) C dX4_threwThat_33 (by decide) ?_
        exact g_zret C rfl dX4_threwThat_37 (en_finI hf)
