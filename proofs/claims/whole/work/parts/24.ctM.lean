/-! CONTRACTS. -/
set_option maxHeartbeats 4000000 in
set_option maxRecDepth 100000 in
theorem ctM_clear {l : Launch} {D : va_G} {K : en_K} {ad : Nat → Nat} (x1 : Int32) (u : Ug) (r0 : Int32) (u0 : Ug) (hf : fM_clear x1 u = some (r0, u0)) : CT l D (en_ty K) ad (2) yX8_clear cX8_clear 3 (some .int) [.ref 0, .int x1] (wdM K u) (en_RI (wdM K) r0 u0) := by
  refine CT.of (by decide) [some (.ref 0), some (.int x1), none] rfl (Nat.le_of_ble_eq_true rfl) ?_
  intro p e R s m args below meth c sz C
  unfold fM_clear at hf
  refine g_iload_n_1 C dX8_clear_0 ?_
  refine g_i2l C dX8_clear_1 ?_
  refine g_lconst (v := (0 : Int64)) C dX8_clear_2 (by decide) ?_
  refine gl_X8_237 C dX8_clear_3 ?_
  obtain ⟨q1, hq1, hf⟩ := en_bnd hf
  refine gc_X8_123_M_in C (ctM_in _ _ _ _ q1.1 q1.2 hq1) (by decide) (Nat.le_of_ble_eq_true rfl) dX8_clear_6 ?_
  refine g_if_ne (tgt := 14) C dX8_clear_9 (by decide) (fun c2 => ?_) (fun c2 => ?_)
  · rw [if_neg c2] at hf
    refine g_aload_n_0 C dX8_clear_14 ?_
    refine gf_X8_35 C dX8_clear_15 ?_
    refine g_iload_n_1 C dX8_clear_18 ?_
    obtain ⟨y3, hy3, hf⟩ := en_bnd hf
    refine gaM_ld_9 C hy3 dX8_clear_19 ?_
    refine g_istore_n_2 C dX8_clear_20 (by decide) rfl ?_
    refine g_aload_n_0 C dX8_clear_21 ?_
    refine gf_X8_35 C dX8_clear_22 ?_
    refine g_iload_n_1 C dX8_clear_25 ?_
    refine g_iconst (v := (0 : Int32)) C dX8_clear_26 (by decide) ?_
    obtain ⟨u4, hu4, hf⟩ := en_bnd hf
    refine gaM_st_9 C hu4 dX8_clear_27 ?_
    refine g_iload_n_2 C dX8_clear_28 ?_
    exact g_iret C dX8_clear_29 (en_finI hf)
  · rw [if_pos c2] at hf
    refine g_iconst (v := (-1 : Int32)) C dX8_clear_12 (by decide) ?_
    exact g_iret C dX8_clear_13 (en_finI hf)
set_option maxHeartbeats 4000000 in
set_option maxRecDepth 100000 in
theorem ctM_calls {l : Launch} {D : va_G} {K : en_K} {ad : Nat → Nat} (x1 : Int32) (x2 : Int32) (x3 : Int32) (x4 : Int32) (x5 : Int32) (u : Ug) (r0 : Int32) (u0 : Ug) (hf : fM_calls x1 x2 x3 x4 x5 u = some (r0, u0)) : CT l D (en_ty K) ad (7) yX8_calls cX8_calls 7 (some .boolean) [.ref 0, .int x1, .int x2, .int x3, .int x4, .int x5] (wdM K u) (en_RI (wdM K) r0 u0) := by
  refine CT.of (by decide) [some (.ref 0), some (.int x1), some (.int x2), some (.int x3), some (.int x4), some (.int x5), none] rfl (Nat.le_of_ble_eq_true rfl) ?_
  intro p e R s m args below meth c sz C
  unfold fM_calls at hf
  refine g_aload_n_0 C dX8_calls_0 ?_
  refine g_iload_n_3 C dX8_calls_1 ?_
  refine g_iload_4 C dX8_calls_2 ?_
  obtain ⟨q1, hq1, hf⟩ := en_bnd hf
  refine gc_X8_145_M_isMember C (ctM_isMember _ _ _ q1.1 q1.2 hq1) (by decide) (Nat.le_of_ble_eq_true rfl) dX8_calls_4 ?_
  refine g_if_ne (tgt := 12) C dX8_calls_7 (by decide) (fun c2 => ?_) (fun c2 => ?_)
  · rw [if_neg c2] at hf
    refine g_aload_n_0 C dX8_calls_12 ?_
    refine g_iconst (v := (1 : Int32)) C dX8_calls_13 (by decide) ?_
    obtain ⟨u3, hu3, hf⟩ := en_bnd hf
    refine gp_X8_239 C hu3 dX8_calls_14 ?_
    refine g_aload_n_0 C dX8_calls_17 ?_
    refine g_aload_n_0 C dX8_calls_18 ?_
    refine gf_X8_242 C dX8_calls_19 ?_
    refine g_iconst (v := (3 : Int32)) C dX8_calls_22 (by decide) ?_
    refine g_iload_n_3 C dX8_calls_23 ?_
    refine g_imul C dX8_calls_24 ?_
    refine g_iload_4 C dX8_calls_25 ?_
    refine g_iadd C dX8_calls_27 ?_
    refine g_iload_5 C dX8_calls_28 ?_
    refine g_aload_n_0 C dX8_calls_30 ?_
    refine gf_X8_245 C dX8_calls_31 ?_
    obtain ⟨q4, hq4, hf⟩ := en_bnd hf
    refine gc_X8_233_M_outside C (ctM_outside _ _ _ _ _ q4.1 q4.2 hq4) (by decide) (Nat.le_of_ble_eq_true rfl) dX8_calls_34 ?_
    refine g_iload_n_2 C dX8_calls_37 ?_
    refine g_iconst (v := (1 : Int32)) C dX8_calls_38 (by decide) ?_
    refine g_iadd C dX8_calls_39 ?_
    refine g_aload_n_0 C dX8_calls_40 ?_
    refine gf_X8_35 C dX8_calls_41 ?_
    refine g_iload_n_1 C dX8_calls_44 ?_
    obtain ⟨y5, hy5, hf⟩ := en_bnd hf
    refine gaM_ld_9 C hy5 dX8_calls_45 ?_
    refine g_if_icmp_ge (tgt := 70) C dX8_calls_46 (by decide) (fun c6 => ?_) (fun c6 => ?_)
    · rw [if_pos c6] at hf
      refine g_iconst (v := (0 : Int32)) C dX8_calls_70 (by decide) ?_
      refine g_istore_6 C dX8_calls_71 (by decide) rfl ?_
      refine g_aload_n_0 C dX8_calls_73 ?_
      refine gf_X8_224 C dX8_calls_74 ?_
      refine g_if_eq (tgt := 85) C dX8_calls_77 (by decide) (fun c7 => ?_) (fun c7 => ?_)
      · rw [if_pos c7] at hf
        refine g_iconst (v := (1 : Int32)) C dX8_calls_85 (by decide) ?_
        refine g_goto (tgt := 90) C dX8_calls_86 (by decide) ?_
        exact g_zret C rfl dX8_calls_90 (en_finI hf)
      · rw [if_neg c7] at hf
        refine g_iload_6 C dX8_calls_80 ?_
        refine g_if_eq (tgt := 89) C dX8_calls_82 (by decide) (fun _ => ?_) (fun q => absurd q (by decide))
        refine g_iconst (v := (0 : Int32)) C dX8_calls_89 (by decide) ?_
        exact g_zret C rfl dX8_calls_90 (en_finI hf)
    · rw [if_neg c6] at hf
      refine g_aload_n_0 C dX8_calls_49 ?_
      refine gf_X8_38 C dX8_calls_50 ?_
      refine g_bipush (v := (16 : Int32)) C dX8_calls_53 (by decide) ?_
      refine g_iload_n_1 C dX8_calls_55 ?_
      refine g_imul C dX8_calls_56 ?_
      refine g_iload_n_2 C dX8_calls_57 ?_
      refine g_iadd C dX8_calls_58 ?_
      refine g_iconst (v := (1 : Int32)) C dX8_calls_59 (by decide) ?_
      refine g_iadd C dX8_calls_60 ?_
      obtain ⟨y8, hy8, hf⟩ := en_bnd hf
      refine gaM_ld_10 C hy8 dX8_calls_61 ?_
      refine g_iconst (v := (3 : Int32)) C dX8_calls_62 (by decide) ?_
      refine g_if_icmp_ne (tgt := 70) C dX8_calls_63 (by decide) (fun c9 => ?_) (fun c9 => ?_)
      · rw [if_neg c9] at hf
        refine g_iconst (v := (0 : Int32)) C dX8_calls_70 (by decide) ?_
        refine g_istore_6 C dX8_calls_71 (by decide) rfl ?_
        refine g_aload_n_0 C dX8_calls_73 ?_
        refine gf_X8_224 C dX8_calls_74 ?_
        refine g_if_eq (tgt := 85) C dX8_calls_77 (by decide) (fun c10 => ?_) (fun c10 => ?_)
        · rw [if_pos c10] at hf
          refine g_iconst (v := (1 : Int32)) C dX8_calls_85 (by decide) ?_
          refine g_goto (tgt := 90) C dX8_calls_86 (by decide) ?_
          exact g_zret C rfl dX8_calls_90 (en_finI hf)
        · rw [if_neg c10] at hf
          refine g_iload_6 C dX8_calls_80 ?_
          refine g_if_eq (tgt := 89) C dX8_calls_82 (by decide) (fun _ => ?_) (fun q => absurd q (by decide))
          refine g_iconst (v := (0 : Int32)) C dX8_calls_89 (by decide) ?_
          exact g_zret C rfl dX8_calls_90 (en_finI hf)
      · rw [if_pos c9] at hf
        refine g_iconst (v := (1 : Int32)) C dX8_calls_66 (by decide) ?_
        refine g_goto (tgt := 71) C dX8_calls_67 (by decide) ?_
        refine g_istore_6 C dX8_calls_71 (by decide) rfl ?_
        refine g_aload_n_0 C dX8_calls_73 ?_
        refine gf_X8_224 C dX8_calls_74 ?_
        refine g_if_eq (tgt := 85) C dX8_calls_77 (by decide) (fun c11 => ?_) (fun c11 => ?_)
        · rw [if_pos c11] at hf
          refine g_iconst (v := (1 : Int32)) C dX8_calls_85 (by decide) ?_
          refine g_goto (tgt := 90) C dX8_calls_86 (by decide) ?_
          exact g_zret C rfl dX8_calls_90 (en_finI hf)
        · rw [if_neg c11] at hf
          refine g_iload_6 C dX8_calls_80 ?_
          refine g_if_eq (tgt := 89) C dX8_calls_82 (by decide) (fun q => absurd q (by decide)) (fun _ => ?_)
          refine g_iconst (v := (1 : Int32)) C dX8_calls_85 (by decide) ?_
          refine g_goto (tgt := 90) C dX8_calls_86 (by decide) ?_
          exact g_zret C rfl dX8_calls_90 (en_finI hf)
  · rw [if_pos c2] at hf
    refine g_iconst (v := (0 : Int32)) C dX8_calls_10 (by decide) ?_
    exact g_zret C rfl dX8_calls_11 (en_finI hf)
set_option maxHeartbeats 4000000 in
set_option maxRecDepth 100000 in
theorem ctM_sum {l : Launch} {D : va_G} {K : en_K} {ad : Nat → Nat} (u : Ug) (r0 : Int64) (u0 : Ug) (hf : fM_sum u = some (r0, u0)) : CT l D (en_ty K) ad (1) yX8_sum cX8_sum 4 (some .long) [.ref 0] (wdM K u) (en_RL (wdM K) r0 u0) := by
  refine CT.of (by decide) [some (.ref 0), none, none, none] rfl (Nat.le_of_ble_eq_true rfl) ?_
  intro p e R s m args below meth c sz C
  have L : ∀ n : Nat, (∀ (v1 : Int64) (v3 : Int32) (w : Ug), (kM_sum n) v1 v3 w = some (r0, u0) → G p l e R s m args below meth c D (va_A (en_ws ad (wdM K u)) sz) 4 ad 0 0 (en_Q below D (en_ty K) ad (wdM K u) sz (en_RL (wdM K) r0 u0) args s) 4 [some (.ref 0), some (.long v1), none, some (.int v3)] [] (wdM K w)) := by
    intro n
    induction n with
    | zero => exact fun _ _ _ hf => absurd hf (by intro q; cases q)
    | succ n ih =>
      intro v1 v3 u hf
      have hf : sM_sum_4 (kM_sum n) v1 v3 u = some (r0, u0) := hf
      unfold sM_sum_4 at hf
      refine g_iload_n_3 C dX8_sum_4 ?_
      refine g_bipush (v := (12 : Int32)) C dX8_sum_5 (by decide) ?_
      refine g_if_icmp_ge (tgt := 26) C dX8_sum_7 (by decide) (fun c1 => ?_) (fun c1 => ?_)
      · rw [if_pos c1] at hf
        refine g_lload_n_1 C dX8_sum_26 ?_
        exact g_lret C dX8_sum_27 (en_finL hf)
      · rw [if_neg c1] at hf
        refine g_lload_n_1 C dX8_sum_10 ?_
        refine g_aload_n_0 C dX8_sum_11 ?_
        refine gf_X8_7 C dX8_sum_12 ?_
        refine g_iload_n_3 C dX8_sum_15 ?_
        obtain ⟨y2, hy2, hf⟩ := en_bnd hf
        refine gaM_ld_1 C hy2 dX8_sum_16 ?_
        refine g_i2l C dX8_sum_17 ?_
        refine g_ladd C dX8_sum_18 ?_
        refine g_lstore_n_1 C dX8_sum_19 (by decide) rfl ?_
        refine g_iinc_3 (z := (1 : Int32)) C dX8_sum_20 (by decide) (by decide) rfl ?_
        refine g_goto (tgt := 4) C dX8_sum_23 (by decide) ?_
        exact g_weak (ih _ _ _ hf) (And.intro rfl (And.intro rfl (And.intro rfl trivial)))
  unfold fM_sum at hf
  refine g_lconst (v := (0 : Int64)) C dX8_sum_0 (by decide) ?_
  refine g_lstore_n_1 C dX8_sum_1 (by decide) rfl ?_
  refine g_iconst (v := (0 : Int32)) C dX8_sum_2 (by decide) ?_
  refine g_istore_n_3 C dX8_sum_3 (by decide) rfl ?_
  exact g_weak ((L _) _ _ _ hf) (And.intro rfl (And.intro rfl (And.intro rfl trivial)))
set_option maxHeartbeats 4000000 in
set_option maxRecDepth 100000 in
theorem ctM_forked {l : Launch} {D : va_G} {K : en_K} {ad : Nat → Nat} (x1 : Int32) (x2 : Int32) (u : Ug) (r0 : Int32) (u0 : Ug) (hf : fM_forked x1 x2 u = some (r0, u0)) : CT l D (en_ty K) ad (2) yX8_forked cX8_forked 4 (some .boolean) [.ref 0, .int x1, .int x2] (wdM K u) (en_RI (wdM K) r0 u0) := by
  refine CT.of (by decide) [some (.ref 0), some (.int x1), some (.int x2), none] rfl (Nat.le_of_ble_eq_true rfl) ?_
  intro p e R s m args below meth c sz C
  have L : ∀ n : Nat, (∀ (v1 : Int32) (v2 : Int32) (v3 : Int32) (w : Ug), (kM_forked n) v1 v2 v3 w = some (r0, u0) → G p l e R s m args below meth c D (va_A (en_ws ad (wdM K u)) sz) 4 ad 0 0 (en_Q below D (en_ty K) ad (wdM K u) sz (en_RI (wdM K) r0 u0) args s) 29 [some (.ref 0), some (.int v1), some (.int v2), some (.int v3)] [] (wdM K w)) := by
    intro n
    induction n with
    | zero => exact fun _ _ _ _ hf => absurd hf (by intro q; cases q)
    | succ n ih =>
      intro v1 v2 v3 u hf
      have hf : sM_forked_29 (kM_forked n) v1 v2 v3 u = some (r0, u0) := hf
      unfold sM_forked_29 at hf
      refine g_iload_n_3 C dX8_forked_29 ?_
      refine g_bipush (v := (70 : Int32)) C dX8_forked_30 (by decide) ?_
      refine g_if_icmp_ge (tgt := 82) C dX8_forked_32 (by decide) (fun c6 => ?_) (fun c6 => ?_)
      · rw [if_pos c6] at hf
        refine g_aload_n_0 C dX8_forked_82 ?_
        refine gf_X8_80 C dX8_forked_83 ?_
        refine g_iload_n_2 C dX8_forked_86 ?_
        refine g_iconst (v := (1 : Int32)) C dX8_forked_87 (by decide) ?_
        obtain ⟨u7, hu7, hf⟩ := en_bnd hf
        refine gaM_st_24 C hu7 dX8_forked_88 ?_
        refine g_iconst (v := (1 : Int32)) C dX8_forked_89 (by decide) ?_
        exact g_zret C rfl dX8_forked_90 (en_finI hf)
      · rw [if_neg c6] at hf
        refine g_iload_n_1 C dX8_forked_35 ?_
        refine g_if_eq (tgt := 59) C dX8_forked_36 (by decide) (fun c8 => ?_) (fun c8 => ?_)
        · rw [if_pos c8] at hf
          refine g_aload_n_0 C dX8_forked_59 ?_
          refine gf_X8_77 C dX8_forked_60 ?_
          refine g_bipush (v := (70 : Int32)) C dX8_forked_63 (by decide) ?_
          refine g_iload_n_2 C dX8_forked_65 ?_
          refine g_imul C dX8_forked_66 ?_
          refine g_iload_n_3 C dX8_forked_67 ?_
          refine g_iadd C dX8_forked_68 ?_
          refine g_aload_n_0 C dX8_forked_69 ?_
          refine gf_X8_7 C dX8_forked_70 ?_
          refine g_iload_n_3 C dX8_forked_73 ?_
          obtain ⟨y9, hy9, hf⟩ := en_bnd hf
          refine gaM_ld_1 C hy9 dX8_forked_74 ?_
          obtain ⟨u10, hu10, hf⟩ := en_bnd hf
          refine gaM_st_23 C hu10 dX8_forked_75 ?_
          refine g_iinc_3 (z := (1 : Int32)) C dX8_forked_76 (by decide) (by decide) rfl ?_
          refine g_goto (tgt := 29) C dX8_forked_79 (by decide) ?_
          exact g_weak (ih _ _ _ _ hf) (And.intro rfl (And.intro rfl (And.intro rfl (And.intro rfl trivial))))
        · rw [if_neg c8] at hf
          refine g_aload_n_0 C dX8_forked_39 ?_
          refine gf_X8_7 C dX8_forked_40 ?_
          refine g_iload_n_3 C dX8_forked_43 ?_
          refine g_aload_n_0 C dX8_forked_44 ?_
          refine gf_X8_77 C dX8_forked_45 ?_
          refine g_bipush (v := (70 : Int32)) C dX8_forked_48 (by decide) ?_
          refine g_iload_n_2 C dX8_forked_50 ?_
          refine g_imul C dX8_forked_51 ?_
          refine g_iload_n_3 C dX8_forked_52 ?_
          refine g_iadd C dX8_forked_53 ?_
          obtain ⟨y11, hy11, hf⟩ := en_bnd hf
          refine gaM_ld_23 C hy11 dX8_forked_54 ?_
          obtain ⟨u12, hu12, hf⟩ := en_bnd hf
          refine gaM_st_1 C hu12 dX8_forked_55 ?_
          refine g_goto (tgt := 76) C dX8_forked_56 (by decide) ?_
          refine g_iinc_3 (z := (1 : Int32)) C dX8_forked_76 (by decide) (by decide) rfl ?_
          refine g_goto (tgt := 29) C dX8_forked_79 (by decide) ?_
          exact g_weak (ih _ _ _ _ hf) (And.intro rfl (And.intro rfl (And.intro rfl (And.intro rfl trivial))))
  unfold fM_forked at hf
  refine g_iload_n_2 C dX8_forked_0 ?_
  refine g_i2l C dX8_forked_1 ?_
  refine g_lconst (v := (0 : Int64)) C dX8_forked_2 (by decide) ?_
  refine gl_X8_131 C dX8_forked_3 ?_
  obtain ⟨q1, hq1, hf⟩ := en_bnd hf
  refine gc_X8_123_M_in C (ctM_in _ _ _ _ q1.1 q1.2 hq1) (by decide) (Nat.le_of_ble_eq_true rfl) dX8_forked_6 ?_
  refine g_if_eq (tgt := 25) C dX8_forked_9 (by decide) (fun c2 => ?_) (fun c2 => ?_)
  · rw [if_pos c2] at hf
    refine g_iconst (v := (0 : Int32)) C dX8_forked_25 (by decide) ?_
    exact g_zret C rfl dX8_forked_26 (en_finI hf)
  · rw [if_neg c2] at hf
    refine g_iload_n_1 C dX8_forked_12 ?_
    refine g_if_eq (tgt := 27) C dX8_forked_13 (by decide) (fun c3 => ?_) (fun c3 => ?_)
    · rw [if_pos c3] at hf
      refine g_iconst (v := (0 : Int32)) C dX8_forked_27 (by decide) ?_
      refine g_istore_n_3 C dX8_forked_28 (by decide) rfl ?_
      exact g_weak ((L _) _ _ _ _ hf) (And.intro rfl (And.intro rfl (And.intro rfl (And.intro rfl trivial))))
    · rw [if_neg c3] at hf
      refine g_aload_n_0 C dX8_forked_16 ?_
      refine gf_X8_80 C dX8_forked_17 ?_
      refine g_iload_n_2 C dX8_forked_20 ?_
      obtain ⟨y4, hy4, hf⟩ := en_bnd hf
      refine gaM_ld_24 C hy4 dX8_forked_21 ?_
      refine g_if_ne (tgt := 27) C dX8_forked_22 (by decide) (fun c5 => ?_) (fun c5 => ?_)
      · rw [if_neg c5] at hf
        refine g_iconst (v := (0 : Int32)) C dX8_forked_27 (by decide) ?_
        refine g_istore_n_3 C dX8_forked_28 (by decide) rfl ?_
        exact g_weak ((L _) _ _ _ _ hf) (And.intro rfl (And.intro rfl (And.intro rfl (And.intro rfl trivial))))
      · rw [if_pos c5] at hf
        refine g_iconst (v := (0 : Int32)) C dX8_forked_25 (by decide) ?_
        exact g_zret C rfl dX8_forked_26 (en_finI hf)
set_option maxHeartbeats 4000000 in
set_option maxRecDepth 100000 in
theorem ctM_doubles {l : Launch} {D : va_G} {K : en_K} {ad : Nat → Nat} (x1 : Int32) (x2 : Int32) (x3 : Int32) (u : Ug) (r0 : Int32) (u0 : Ug) (hf : fM_doubles x1 x2 x3 u = some (r0, u0)) : CT l D (en_ty K) ad (2) yX8_doubles cX8_doubles 4 (some .boolean) [.ref 0, .int x1, .int x2, .int x3] (wdM K u) (en_RI (wdM K) r0 u0) := by
  refine CT.of (by decide) [some (.ref 0), some (.int x1), some (.int x2), some (.int x3)] rfl (Nat.le_of_ble_eq_true rfl) ?_
  intro p e R s m args below meth c sz C
  unfold fM_doubles at hf
  refine g_iload_n_2 C dX8_doubles_0 ?_
  refine g_i2l C dX8_doubles_1 ?_
  refine g_lconst (v := (0 : Int64)) C dX8_doubles_2 (by decide) ?_
  refine gl_X8_139 C dX8_doubles_3 ?_
  obtain ⟨q1, hq1, hf⟩ := en_bnd hf
  refine gc_X8_123_M_in C (ctM_in _ _ _ _ q1.1 q1.2 hq1) (by decide) (Nat.le_of_ble_eq_true rfl) dX8_doubles_6 ?_
  refine g_if_eq (tgt := 29) C dX8_doubles_9 (by decide) (fun c2 => ?_) (fun c2 => ?_)
  · rw [if_pos c2] at hf
    refine g_iconst (v := (0 : Int32)) C dX8_doubles_29 (by decide) ?_
    exact g_zret C rfl dX8_doubles_30 (en_finI hf)
  · rw [if_neg c2] at hf
    refine g_iload_n_1 C dX8_doubles_12 ?_
    refine g_iconst (v := (2 : Int32)) C dX8_doubles_13 (by decide) ?_
    refine g_if_icmp_ne (tgt := 31) C dX8_doubles_14 (by decide) (fun c3 => ?_) (fun c3 => ?_)
    · rw [if_neg c3] at hf
      refine g_aload_n_0 C dX8_doubles_31 ?_
      refine gf_X8_68 C dX8_doubles_32 ?_
      refine g_iload_n_2 C dX8_doubles_35 ?_
      refine g_iload_n_1 C dX8_doubles_36 ?_
      obtain ⟨u4, hu4, hf⟩ := en_bnd hf
      refine gaM_st_20 C hu4 dX8_doubles_37 ?_
      refine g_aload_n_0 C dX8_doubles_38 ?_
      refine gf_X8_71 C dX8_doubles_39 ?_
      refine g_iload_n_2 C dX8_doubles_42 ?_
      refine g_iload_n_1 C dX8_doubles_43 ?_
      refine g_iconst (v := (1 : Int32)) C dX8_doubles_44 (by decide) ?_
      refine g_if_icmp_ne (tgt := 52) C dX8_doubles_45 (by decide) (fun c5 => ?_) (fun c5 => ?_)
      · rw [if_neg c5] at hf
        refine g_bipush (v := (20 : Int32)) C dX8_doubles_52 (by decide) ?_
        refine g_iload_n_3 C dX8_doubles_54 ?_
        refine g_iadd C dX8_doubles_55 ?_
        obtain ⟨u6, hu6, hf⟩ := en_bnd hf
        refine gaM_st_21 C hu6 dX8_doubles_56 ?_
        refine g_iconst (v := (1 : Int32)) C dX8_doubles_57 (by decide) ?_
        exact g_zret C rfl dX8_doubles_58 (en_finI hf)
      · rw [if_pos c5] at hf
        refine g_iload_n_3 C dX8_doubles_48 ?_
        refine g_goto (tgt := 56) C dX8_doubles_49 (by decide) ?_
        obtain ⟨u7, hu7, hf⟩ := en_bnd hf
        refine gaM_st_21 C hu7 dX8_doubles_56 ?_
        refine g_iconst (v := (1 : Int32)) C dX8_doubles_57 (by decide) ?_
        exact g_zret C rfl dX8_doubles_58 (en_finI hf)
    · rw [if_pos c3] at hf
      refine g_iload_n_3 C dX8_doubles_17 ?_
      refine g_i2l C dX8_doubles_18 ?_
      refine g_lconst (v := (0 : Int64)) C dX8_doubles_19 (by decide) ?_
      refine gl_X8_237 C dX8_doubles_20 ?_
      obtain ⟨q8, hq8, hf⟩ := en_bnd hf
      refine gc_X8_123_M_in C (ctM_in _ _ _ _ q8.1 q8.2 hq8) (by decide) (Nat.le_of_ble_eq_true rfl) dX8_doubles_23 ?_
      refine g_if_ne (tgt := 31) C dX8_doubles_26 (by decide) (fun c9 => ?_) (fun c9 => ?_)
      · rw [if_neg c9] at hf
        refine g_aload_n_0 C dX8_doubles_31 ?_
        refine gf_X8_68 C dX8_doubles_32 ?_
        refine g_iload_n_2 C dX8_doubles_35 ?_
        refine g_iload_n_1 C dX8_doubles_36 ?_
        obtain ⟨u10, hu10, hf⟩ := en_bnd hf
        refine gaM_st_20 C hu10 dX8_doubles_37 ?_
        refine g_aload_n_0 C dX8_doubles_38 ?_
        refine gf_X8_71 C dX8_doubles_39 ?_
        refine g_iload_n_2 C dX8_doubles_42 ?_
        refine g_iload_n_1 C dX8_doubles_43 ?_
        refine g_iconst (v := (1 : Int32)) C dX8_doubles_44 (by decide) ?_
        refine g_if_icmp_ne (tgt := 52) C dX8_doubles_45 (by decide) (fun c11 => ?_) (fun c11 => ?_)
        · rw [if_neg c11] at hf
          refine g_bipush (v := (20 : Int32)) C dX8_doubles_52 (by decide) ?_
          refine g_iload_n_3 C dX8_doubles_54 ?_
          refine g_iadd C dX8_doubles_55 ?_
          obtain ⟨u12, hu12, hf⟩ := en_bnd hf
          refine gaM_st_21 C hu12 dX8_doubles_56 ?_
          refine g_iconst (v := (1 : Int32)) C dX8_doubles_57 (by decide) ?_
          exact g_zret C rfl dX8_doubles_58 (en_finI hf)
        · rw [if_pos c11] at hf
          refine g_iload_n_3 C dX8_doubles_48 ?_
          refine g_goto (tgt := 56) C dX8_doubles_49 (by decide) ?_
          obtain ⟨u13, hu13, hf⟩ := en_bnd hf
          refine gaM_st_21 C hu13 dX8_doubles_56 ?_
          refine g_iconst (v := (1 : Int32)) C dX8_doubles_57 (by decide) ?_
          exact g_zret C rfl dX8_doubles_58 (en_finI hf)
      · rw [if_pos c9] at hf
        refine g_iconst (v := (0 : Int32)) C dX8_doubles_29 (by decide) ?_
        exact g_zret C rfl dX8_doubles_30 (en_finI hf)
set_option maxHeartbeats 4000000 in
set_option maxRecDepth 100000 in
theorem ctM_isAsTold {l : Launch} {D : va_G} {K : en_K} {ad : Nat → Nat} (x1 : Int32) (x2 : Int32) (u : Ug) (r0 : Int32) (u0 : Ug) (hf : fM_isAsTold x1 x2 u = some (r0, u0)) : CT l D (en_ty K) ad (8) yX8_isAsTold cX8_isAsTold 7 (some .boolean) [.ref 0, .int x1, .int x2] (wdM K u) (en_RI (wdM K) r0 u0) := by
  refine CT.of (by decide) [some (.ref 0), some (.int x1), some (.int x2), none, none, none, none] rfl (Nat.le_of_ble_eq_true rfl) ?_
  intro p e R s m args below meth c sz C
  unfold fM_isAsTold at hf
  refine g_bipush (v := (16 : Int32)) C dX8_isAsTold_0 (by decide) ?_
  refine g_iload_n_1 C dX8_isAsTold_2 ?_
  refine g_imul C dX8_isAsTold_3 ?_
  refine g_iload_n_2 C dX8_isAsTold_4 ?_
  refine g_iadd C dX8_isAsTold_5 ?_
  refine g_istore_n_3 C dX8_isAsTold_6 (by decide) rfl ?_
  refine g_aload_n_0 C dX8_isAsTold_7 ?_
  refine gf_X8_41 C dX8_isAsTold_8 ?_
  refine g_iload_n_3 C dX8_isAsTold_11 ?_
  obtain ⟨y1, hy1, hf⟩ := en_bnd hf
  refine gaM_ld_11 C hy1 dX8_isAsTold_12 ?_
  refine g_istore_4 C dX8_isAsTold_13 (by decide) rfl ?_
  refine g_aload_n_0 C dX8_isAsTold_15 ?_
  refine gf_X8_44 C dX8_isAsTold_16 ?_
  refine g_iload_n_3 C dX8_isAsTold_19 ?_
  obtain ⟨y2, hy2, hf⟩ := en_bnd hf
  refine gaM_ld_12 C hy2 dX8_isAsTold_20 ?_
  refine g_istore_5 C dX8_isAsTold_21 (by decide) rfl ?_
  refine g_aload_n_0 C dX8_isAsTold_23 ?_
  refine gf_X8_47 C dX8_isAsTold_24 ?_
  refine g_iload_n_3 C dX8_isAsTold_27 ?_
  obtain ⟨y3, hy3, hf⟩ := en_bnd hf
  refine gaM_ld_13 C hy3 dX8_isAsTold_28 ?_
  refine g_istore_6 C dX8_isAsTold_29 (by decide) rfl ?_
  refine g_aload_n_0 C dX8_isAsTold_31 ?_
  refine gf_X8_38 C dX8_isAsTold_32 ?_
  refine g_iload_n_3 C dX8_isAsTold_35 ?_
  obtain ⟨y4, hy4, hf⟩ := en_bnd hf
  refine gaM_ld_10 C hy4 dX8_isAsTold_36 ?_
  rcases Decidable.em (y4 = (0 : Int32)) with s37_0 | s37_0
  · rw [if_pos s37_0] at hf
    refine g_tsw (z := (0 : Int32)) (tgt := 104) C dX8_isAsTold_37 s37_0 (by decide) (by decide) rfl (by decide) ?_
    refine g_iload_4 C dX8_isAsTold_104 ?_
    obtain ⟨q5, hq5, hf⟩ := en_bnd hf
    refine gc_X8_133_M_isAccount C (ctM_isAccount _ _ q5.1 q5.2 hq5) (by decide) (Nat.le_of_ble_eq_true rfl) dX8_isAsTold_106 ?_
    refine g_if_eq (tgt := 117) C dX8_isAsTold_109 (by decide) (fun c6 => ?_) (fun c6 => ?_)
    · rw [if_pos c6] at hf
      refine g_iconst (v := (0 : Int32)) C dX8_isAsTold_117 (by decide) ?_
      exact g_zret C rfl dX8_isAsTold_118 (en_finI hf)
    · rw [if_neg c6] at hf
      refine g_iload_5 C dX8_isAsTold_112 ?_
      refine g_if_ge (tgt := 119) C dX8_isAsTold_114 (by decide) (fun c7 => ?_) (fun c7 => ?_)
      · rw [if_pos c7] at hf
        refine g_aload_n_0 C dX8_isAsTold_119 ?_
        refine g_iload_4 C dX8_isAsTold_120 ?_
        obtain ⟨u8, hu8, hf⟩ := en_bnd hf
        refine gp_X8_242 C hu8 dX8_isAsTold_122 ?_
        refine g_aload_n_0 C dX8_isAsTold_125 ?_
        refine g_iload_5 C dX8_isAsTold_126 ?_
        obtain ⟨u9, hu9, hf⟩ := en_bnd hf
        refine gp_X8_245 C hu9 dX8_isAsTold_128 ?_
        refine g_iconst (v := (1 : Int32)) C dX8_isAsTold_131 (by decide) ?_
        exact g_zret C rfl dX8_isAsTold_132 (en_finI hf)
      · rw [if_neg c7] at hf
        refine g_iconst (v := (0 : Int32)) C dX8_isAsTold_117 (by decide) ?_
        exact g_zret C rfl dX8_isAsTold_118 (en_finI hf)
  rw [if_neg s37_0] at hf
  rcases Decidable.em (y4 = (1 : Int32)) with s37_1 | s37_1
  · rw [if_pos s37_1] at hf
    refine g_tsw (z := (1 : Int32)) (tgt := 133) C dX8_isAsTold_37 s37_1 (by decide) (by decide) rfl (by decide) ?_
    refine g_aload_n_0 C dX8_isAsTold_133 ?_
    refine g_iload_n_1 C dX8_isAsTold_134 ?_
    refine g_iload_n_2 C dX8_isAsTold_135 ?_
    refine g_iload_4 C dX8_isAsTold_136 ?_
    refine g_iload_5 C dX8_isAsTold_138 ?_
    refine g_iload_6 C dX8_isAsTold_140 ?_
    obtain ⟨q10, hq10, hf⟩ := en_bnd hf
    refine gc_X8_248_M_calls C (ctM_calls _ _ _ _ _ _ q10.1 q10.2 hq10) (by decide) (Nat.le_of_ble_eq_true rfl) dX8_isAsTold_142 ?_
    obtain ⟨hz, hf⟩ := en_ite hf
    exact g_zret C hz dX8_isAsTold_145 (en_finI hf)
  rw [if_neg s37_1] at hf
  rcases Decidable.em (y4 = (2 : Int32)) with s37_2 | s37_2
  · rw [if_pos s37_2] at hf
    refine g_tsw (z := (2 : Int32)) (tgt := 146) C dX8_isAsTold_37 s37_2 (by decide) (by decide) rfl (by decide) ?_
    refine g_aload_n_0 C dX8_isAsTold_146 ?_
    refine gf_X8_239 C dX8_isAsTold_147 ?_
    refine g_if_eq (tgt := 173) C dX8_isAsTold_150 (by decide) (fun c11 => ?_) (fun c11 => ?_)
    · rw [if_pos c11] at hf
      refine g_iconst (v := (0 : Int32)) C dX8_isAsTold_173 (by decide) ?_
      exact g_zret C rfl dX8_isAsTold_174 (en_finI hf)
    · rw [if_neg c11] at hf
      refine g_aload_n_0 C dX8_isAsTold_153 ?_
      refine gf_X8_224 C dX8_isAsTold_154 ?_
      refine g_if_ne (tgt := 173) C dX8_isAsTold_157 (by decide) (fun c12 => ?_) (fun c12 => ?_)
      · rw [if_neg c12] at hf
        refine g_iconst (v := (0 : Int32)) C dX8_isAsTold_173 (by decide) ?_
        exact g_zret C rfl dX8_isAsTold_174 (en_finI hf)
      · rw [if_pos c12] at hf
        refine g_aload_n_0 C dX8_isAsTold_160 ?_
        refine gf_X8_221 C dX8_isAsTold_161 ?_
        refine g_iload_4 C dX8_isAsTold_164 ?_
        refine g_if_icmp_ne (tgt := 173) C dX8_isAsTold_166 (by decide) (fun c13 => ?_) (fun c13 => ?_)
        · rw [if_neg c13] at hf
          refine g_iconst (v := (0 : Int32)) C dX8_isAsTold_173 (by decide) ?_
          exact g_zret C rfl dX8_isAsTold_174 (en_finI hf)
        · rw [if_pos c13] at hf
          refine g_iconst (v := (1 : Int32)) C dX8_isAsTold_169 (by decide) ?_
          refine g_goto (tgt := 174) C dX8_isAsTold_170 (by decide) ?_
          exact g_zret C rfl dX8_isAsTold_174 (en_finI hf)
  rw [if_neg s37_2] at hf
  rcases Decidable.em (y4 = (3 : Int32)) with s37_3 | s37_3
  · rw [if_pos s37_3] at hf
    refine g_tsw (z := (3 : Int32)) (tgt := 175) C dX8_isAsTold_37 s37_3 (by decide) (by decide) rfl (by decide) ?_
    refine g_aload_n_0 C dX8_isAsTold_175 ?_
    refine gf_X8_239 C dX8_isAsTold_176 ?_
    refine g_if_eq (tgt := 211) C dX8_isAsTold_179 (by decide) (fun c14 => ?_) (fun c14 => ?_)
    · rw [if_pos c14] at hf
      refine g_iconst (v := (0 : Int32)) C dX8_isAsTold_211 (by decide) ?_
      exact g_zret C rfl dX8_isAsTold_212 (en_finI hf)
    · rw [if_neg c14] at hf
      refine g_aload_n_0 C dX8_isAsTold_182 ?_
      refine gf_X8_224 C dX8_isAsTold_183 ?_
      refine g_if_le (tgt := 211) C dX8_isAsTold_186 (by decide) (fun c15 => ?_) (fun c15 => ?_)
      · rw [if_pos c15] at hf
        refine g_iconst (v := (0 : Int32)) C dX8_isAsTold_211 (by decide) ?_
        exact g_zret C rfl dX8_isAsTold_212 (en_finI hf)
      · rw [if_neg c15] at hf
        refine g_aload_n_0 C dX8_isAsTold_189 ?_
        refine gf_X8_224 C dX8_isAsTold_190 ?_
        refine g_iload_4 C dX8_isAsTold_193 ?_
        refine g_if_icmp_ne (tgt := 211) C dX8_isAsTold_195 (by decide) (fun c16 => ?_) (fun c16 => ?_)
        · rw [if_neg c16] at hf
          refine g_iconst (v := (0 : Int32)) C dX8_isAsTold_211 (by decide) ?_
          exact g_zret C rfl dX8_isAsTold_212 (en_finI hf)
        · rw [if_pos c16] at hf
          refine g_aload_n_0 C dX8_isAsTold_198 ?_
          refine gf_X8_227 C dX8_isAsTold_199 ?_
          refine g_iload_5 C dX8_isAsTold_202 ?_
          refine g_if_icmp_ne (tgt := 211) C dX8_isAsTold_204 (by decide) (fun c17 => ?_) (fun c17 => ?_)
          · rw [if_neg c17] at hf
            refine g_iconst (v := (0 : Int32)) C dX8_isAsTold_211 (by decide) ?_
            exact g_zret C rfl dX8_isAsTold_212 (en_finI hf)
          · rw [if_pos c17] at hf
            refine g_iconst (v := (1 : Int32)) C dX8_isAsTold_207 (by decide) ?_
            refine g_goto (tgt := 212) C dX8_isAsTold_208 (by decide) ?_
            exact g_zret C rfl dX8_isAsTold_212 (en_finI hf)
  rw [if_neg s37_3] at hf
  rcases Decidable.em (y4 = (4 : Int32)) with s37_4 | s37_4
  · rw [if_pos s37_4] at hf
    refine g_tsw (z := (4 : Int32)) (tgt := 213) C dX8_isAsTold_37 s37_4 (by decide) (by decide) rfl (by decide) ?_
    refine g_aload_n_0 C dX8_isAsTold_213 ?_
    refine gf_X8_239 C dX8_isAsTold_214 ?_
    refine g_if_eq (tgt := 233) C dX8_isAsTold_217 (by decide) (fun c18 => ?_) (fun c18 => ?_)
    · rw [if_pos c18] at hf
      refine g_iconst (v := (0 : Int32)) C dX8_isAsTold_233 (by decide) ?_
      exact g_zret C rfl dX8_isAsTold_234 (en_finI hf)
    · rw [if_neg c18] at hf
      refine g_aload_n_0 C dX8_isAsTold_220 ?_
      refine gf_X8_230 C dX8_isAsTold_221 ?_
      refine g_iload_4 C dX8_isAsTold_224 ?_
      refine g_if_icmp_gt (tgt := 233) C dX8_isAsTold_226 (by decide) (fun c19 => ?_) (fun c19 => ?_)
      · rw [if_pos c19] at hf
        refine g_iconst (v := (0 : Int32)) C dX8_isAsTold_233 (by decide) ?_
        exact g_zret C rfl dX8_isAsTold_234 (en_finI hf)
      · rw [if_neg c19] at hf
        refine g_iconst (v := (1 : Int32)) C dX8_isAsTold_229 (by decide) ?_
        refine g_goto (tgt := 234) C dX8_isAsTold_230 (by decide) ?_
        exact g_zret C rfl dX8_isAsTold_234 (en_finI hf)
  rw [if_neg s37_4] at hf
  rcases Decidable.em (y4 = (5 : Int32)) with s37_5 | s37_5
  · rw [if_pos s37_5] at hf
    refine g_tsw (z := (5 : Int32)) (tgt := 235) C dX8_isAsTold_37 s37_5 (by decide) (by decide) rfl (by decide) ?_
    refine g_iload_4 C dX8_isAsTold_235 ?_
    obtain ⟨q20, hq20, hf⟩ := en_bnd hf
    refine gc_X8_133_M_isAccount C (ctM_isAccount _ _ q20.1 q20.2 hq20) (by decide) (Nat.le_of_ble_eq_true rfl) dX8_isAsTold_237 ?_
    refine g_if_eq (tgt := 259) C dX8_isAsTold_240 (by decide) (fun c21 => ?_) (fun c21 => ?_)
    · rw [if_pos c21] at hf
      refine g_iconst (v := (0 : Int32)) C dX8_isAsTold_259 (by decide) ?_
      exact g_zret C rfl dX8_isAsTold_260 (en_finI hf)
    · rw [if_neg c21] at hf
      refine g_aload_n_0 C dX8_isAsTold_243 ?_
      refine gf_X8_7 C dX8_isAsTold_244 ?_
      refine g_iload_4 C dX8_isAsTold_247 ?_
      obtain ⟨y22, hy22, hf⟩ := en_bnd hf
      refine gaM_ld_1 C hy22 dX8_isAsTold_249 ?_
      refine g_iload_5 C dX8_isAsTold_250 ?_
      refine g_if_icmp_ne (tgt := 259) C dX8_isAsTold_252 (by decide) (fun c23 => ?_) (fun c23 => ?_)
      · rw [if_neg c23] at hf
        refine g_iconst (v := (0 : Int32)) C dX8_isAsTold_259 (by decide) ?_
        exact g_zret C rfl dX8_isAsTold_260 (en_finI hf)
      · rw [if_pos c23] at hf
        refine g_iconst (v := (1 : Int32)) C dX8_isAsTold_255 (by decide) ?_
        refine g_goto (tgt := 260) C dX8_isAsTold_256 (by decide) ?_
        exact g_zret C rfl dX8_isAsTold_260 (en_finI hf)
  rw [if_neg s37_5] at hf
  rcases Decidable.em (y4 = (6 : Int32)) with s37_6 | s37_6
  · rw [if_pos s37_6] at hf
    refine g_tsw (z := (6 : Int32)) (tgt := 261) C dX8_isAsTold_37 s37_6 (by decide) (by decide) rfl (by decide) ?_
    refine g_iload_4 C dX8_isAsTold_261 ?_
    refine g_i2l C dX8_isAsTold_263 ?_
    refine g_lconst (v := (0 : Int64)) C dX8_isAsTold_264 (by decide) ?_
    refine g_aload_n_0 C dX8_isAsTold_265 ?_
    refine gf_X8_127 C dX8_isAsTold_266 ?_
    refine g_iconst (v := (1 : Int32)) C dX8_isAsTold_269 (by decide) ?_
    refine g_isub C dX8_isAsTold_270 ?_
    refine g_i2l C dX8_isAsTold_271 ?_
    obtain ⟨q24, hq24, hf⟩ := en_bnd hf
    refine gc_X8_123_M_in C (ctM_in _ _ _ _ q24.1 q24.2 hq24) (by decide) (Nat.le_of_ble_eq_true rfl) dX8_isAsTold_272 ?_
    refine g_if_eq (tgt := 315) C dX8_isAsTold_275 (by decide) (fun c25 => ?_) (fun c25 => ?_)
    · rw [if_pos c25] at hf
      refine g_iconst (v := (0 : Int32)) C dX8_isAsTold_315 (by decide) ?_
      exact g_zret C rfl dX8_isAsTold_316 (en_finI hf)
    · rw [if_neg c25] at hf
      refine g_iload_5 C dX8_isAsTold_278 ?_
      refine g_i2l C dX8_isAsTold_280 ?_
      refine g_lconst (v := (0 : Int64)) C dX8_isAsTold_281 (by decide) ?_
      refine gl_X8_139 C dX8_isAsTold_282 ?_
      obtain ⟨q26, hq26, hf⟩ := en_bnd hf
      refine gc_X8_123_M_in C (ctM_in _ _ _ _ q26.1 q26.2 hq26) (by decide) (Nat.le_of_ble_eq_true rfl) dX8_isAsTold_285 ?_
      refine g_if_eq (tgt := 315) C dX8_isAsTold_288 (by decide) (fun c27 => ?_) (fun c27 => ?_)
      · rw [if_pos c27] at hf
        refine g_iconst (v := (0 : Int32)) C dX8_isAsTold_315 (by decide) ?_
        exact g_zret C rfl dX8_isAsTold_316 (en_finI hf)
      · rw [if_neg c27] at hf
        refine g_aload_n_0 C dX8_isAsTold_291 ?_
        refine gf_X8_7 C dX8_isAsTold_292 ?_
        refine g_bipush (v := (12 : Int32)) C dX8_isAsTold_295 (by decide) ?_
        refine g_iconst (v := (4 : Int32)) C dX8_isAsTold_297 (by decide) ?_
        refine g_iload_4 C dX8_isAsTold_298 ?_
        refine g_imul C dX8_isAsTold_300 ?_
        refine g_iadd C dX8_isAsTold_301 ?_
        refine g_iload_5 C dX8_isAsTold_302 ?_
        refine g_iadd C dX8_isAsTold_304 ?_
        obtain ⟨y28, hy28, hf⟩ := en_bnd hf
        refine gaM_ld_1 C hy28 dX8_isAsTold_305 ?_
        refine g_iload_6 C dX8_isAsTold_306 ?_
        refine g_if_icmp_ne (tgt := 315) C dX8_isAsTold_308 (by decide) (fun c29 => ?_) (fun c29 => ?_)
        · rw [if_neg c29] at hf
          refine g_iconst (v := (0 : Int32)) C dX8_isAsTold_315 (by decide) ?_
          exact g_zret C rfl dX8_isAsTold_316 (en_finI hf)
        · rw [if_pos c29] at hf
          refine g_iconst (v := (1 : Int32)) C dX8_isAsTold_311 (by decide) ?_
          refine g_goto (tgt := 316) C dX8_isAsTold_312 (by decide) ?_
          exact g_zret C rfl dX8_isAsTold_316 (en_finI hf)
  rw [if_neg s37_6] at hf
  rcases Decidable.em (y4 = (7 : Int32)) with s37_7 | s37_7
  · rw [if_pos s37_7] at hf
    refine g_tsw (z := (7 : Int32)) (tgt := 317) C dX8_isAsTold_37 s37_7 (by decide) (by decide) rfl (by decide) ?_
    refine g_iload_4 C dX8_isAsTold_317 ?_
    refine g_i2l C dX8_isAsTold_319 ?_
    refine g_lconst (v := (0 : Int64)) C dX8_isAsTold_320 (by decide) ?_
    refine gl_X8_252 C dX8_isAsTold_321 ?_
    obtain ⟨q30, hq30, hf⟩ := en_bnd hf
    refine gc_X8_123_M_in C (ctM_in _ _ _ _ q30.1 q30.2 hq30) (by decide) (Nat.le_of_ble_eq_true rfl) dX8_isAsTold_324 ?_
    refine g_if_eq (tgt := 377) C dX8_isAsTold_327 (by decide) (fun c31 => ?_) (fun c31 => ?_)
    · rw [if_pos c31] at hf
      refine g_iconst (v := (0 : Int32)) C dX8_isAsTold_377 (by decide) ?_
      exact g_zret C rfl dX8_isAsTold_378 (en_finI hf)
    · rw [if_neg c31] at hf
      refine g_aload_n_0 C dX8_isAsTold_330 ?_
      refine gf_X8_74 C dX8_isAsTold_331 ?_
      refine g_bipush (v := (29 : Int32)) C dX8_isAsTold_334 (by decide) ?_
      obtain ⟨y32, hy32, hf⟩ := en_bnd hf
      refine gaM_ld_22 C hy32 dX8_isAsTold_336 ?_
      refine g_iload_4 C dX8_isAsTold_337 ?_
      refine g_iadd C dX8_isAsTold_339 ?_
      refine g_aload_n_0 C dX8_isAsTold_340 ?_
      refine gf_X8_7 C dX8_isAsTold_341 ?_
      refine g_bipush (v := (29 : Int32)) C dX8_isAsTold_344 (by decide) ?_
      obtain ⟨y33, hy33, hf⟩ := en_bnd hf
      refine gaM_ld_1 C hy33 dX8_isAsTold_346 ?_
      refine g_if_icmp_ge (tgt := 377) C dX8_isAsTold_347 (by decide) (fun c34 => ?_) (fun c34 => ?_)
      · rw [if_pos c34] at hf
        refine g_iconst (v := (0 : Int32)) C dX8_isAsTold_377 (by decide) ?_
        exact g_zret C rfl dX8_isAsTold_378 (en_finI hf)
      · rw [if_neg c34] at hf
        refine g_aload_n_0 C dX8_isAsTold_350 ?_
        refine gf_X8_7 C dX8_isAsTold_351 ?_
        refine g_bipush (v := (30 : Int32)) C dX8_isAsTold_354 (by decide) ?_
        refine g_aload_n_0 C dX8_isAsTold_356 ?_
        refine gf_X8_74 C dX8_isAsTold_357 ?_
        refine g_bipush (v := (29 : Int32)) C dX8_isAsTold_360 (by decide) ?_
        obtain ⟨y35, hy35, hf⟩ := en_bnd hf
        refine gaM_ld_22 C hy35 dX8_isAsTold_362 ?_
        refine g_iadd C dX8_isAsTold_363 ?_
        refine g_iload_4 C dX8_isAsTold_364 ?_
        refine g_iadd C dX8_isAsTold_366 ?_
        obtain ⟨y36, hy36, hf⟩ := en_bnd hf
        refine gaM_ld_1 C hy36 dX8_isAsTold_367 ?_
        refine g_iload_5 C dX8_isAsTold_368 ?_
        refine g_if_icmp_ne (tgt := 377) C dX8_isAsTold_370 (by decide) (fun c37 => ?_) (fun c37 => ?_)
        · rw [if_neg c37] at hf
          refine g_iconst (v := (0 : Int32)) C dX8_isAsTold_377 (by decide) ?_
          exact g_zret C rfl dX8_isAsTold_378 (en_finI hf)
        · rw [if_pos c37] at hf
          refine g_iconst (v := (1 : Int32)) C dX8_isAsTold_373 (by decide) ?_
          refine g_goto (tgt := 378) C dX8_isAsTold_374 (by decide) ?_
          exact g_zret C rfl dX8_isAsTold_378 (en_finI hf)
  rw [if_neg s37_7] at hf
  rcases Decidable.em (y4 = (8 : Int32)) with s37_8 | s37_8
  · rw [if_pos s37_8] at hf
    refine g_tsw (z := (8 : Int32)) (tgt := 379) C dX8_isAsTold_37 s37_8 (by decide) (by decide) rfl (by decide) ?_
    refine g_aload_n_0 C dX8_isAsTold_379 ?_
    obtain ⟨q38, hq38, hf⟩ := en_bnd hf
    refine gc_X8_254_M_sum C (ctM_sum _ q38.1 q38.2 hq38) (by decide) (Nat.le_of_ble_eq_true rfl) dX8_isAsTold_380 ?_
    refine g_iload_4 C dX8_isAsTold_383 ?_
    refine g_i2l C dX8_isAsTold_385 ?_
    refine g_lcmp C dX8_isAsTold_386 ?_
    refine g_if_ne (tgt := 394) C dX8_isAsTold_387 (by decide) (fun c39 => ?_) (fun c39 => ?_)
    · rw [if_neg c39] at hf
      refine g_iconst (v := (0 : Int32)) C dX8_isAsTold_394 (by decide) ?_
      exact g_zret C rfl dX8_isAsTold_395 (en_finI hf)
    · rw [if_pos c39] at hf
      refine g_iconst (v := (1 : Int32)) C dX8_isAsTold_390 (by decide) ?_
      refine g_goto (tgt := 395) C dX8_isAsTold_391 (by decide) ?_
      exact g_zret C rfl dX8_isAsTold_395 (en_finI hf)
  rw [if_neg s37_8] at hf
  rcases Decidable.em (y4 = (9 : Int32)) with s37_9 | s37_9
  · rw [if_pos s37_9] at hf
    refine g_tsw (z := (9 : Int32)) (tgt := 396) C dX8_isAsTold_37 s37_9 (by decide) (by decide) rfl (by decide) ?_
    refine g_aload_n_0 C dX8_isAsTold_396 ?_
    refine gf_X8_7 C dX8_isAsTold_397 ?_
    refine g_bipush (v := (28 : Int32)) C dX8_isAsTold_400 (by decide) ?_
    refine g_dup2 C dX8_isAsTold_402 rfl rfl ?_
    obtain ⟨y40, hy40, hf⟩ := en_bnd hf
    refine gaM_ld_1 C hy40 dX8_isAsTold_403 ?_
    refine g_iload_4 C dX8_isAsTold_404 ?_
    refine g_i2l C dX8_isAsTold_406 ?_
    refine g_lconst (v := (0 : Int64)) C dX8_isAsTold_407 (by decide) ?_
    refine gl_X8_152 C dX8_isAsTold_408 ?_
    obtain ⟨q41, hq41, hf⟩ := en_bnd hf
    refine gc_X8_123_M_in C (ctM_in _ _ _ _ q41.1 q41.2 hq41) (by decide) (Nat.le_of_ble_eq_true rfl) dX8_isAsTold_411 ?_
    refine g_if_eq (tgt := 422) C dX8_isAsTold_414 (by decide) (fun c42 => ?_) (fun c42 => ?_)
    · rw [if_pos c42] at hf
      refine g_iconst (v := (0 : Int32)) C dX8_isAsTold_422 (by decide) ?_
      refine g_iadd C dX8_isAsTold_423 ?_
      obtain ⟨u43, hu43, hf⟩ := en_bnd hf
      refine gaM_st_1 C hu43 dX8_isAsTold_424 ?_
      refine g_iload_4 C dX8_isAsTold_425 ?_
      refine g_i2l C dX8_isAsTold_427 ?_
      refine g_lconst (v := (0 : Int64)) C dX8_isAsTold_428 (by decide) ?_
      refine gl_X8_152 C dX8_isAsTold_429 ?_
      obtain ⟨q44, hq44, hf⟩ := en_bnd hf
      refine gc_X8_123_M_in C (ctM_in _ _ _ _ q44.1 q44.2 hq44) (by decide) (Nat.le_of_ble_eq_true rfl) dX8_isAsTold_432 ?_
      obtain ⟨hz, hf⟩ := en_ite hf
      exact g_zret C hz dX8_isAsTold_435 (en_finI hf)
    · rw [if_neg c42] at hf
      refine g_iload_4 C dX8_isAsTold_417 ?_
      refine g_goto (tgt := 423) C dX8_isAsTold_419 (by decide) ?_
      refine g_iadd C dX8_isAsTold_423 ?_
      obtain ⟨u45, hu45, hf⟩ := en_bnd hf
      refine gaM_st_1 C hu45 dX8_isAsTold_424 ?_
      refine g_iload_4 C dX8_isAsTold_425 ?_
      refine g_i2l C dX8_isAsTold_427 ?_
      refine g_lconst (v := (0 : Int64)) C dX8_isAsTold_428 (by decide) ?_
      refine gl_X8_152 C dX8_isAsTold_429 ?_
      obtain ⟨q46, hq46, hf⟩ := en_bnd hf
      refine gc_X8_123_M_in C (ctM_in _ _ _ _ q46.1 q46.2 hq46) (by decide) (Nat.le_of_ble_eq_true rfl) dX8_isAsTold_432 ?_
      obtain ⟨hz, hf⟩ := en_ite hf
      exact g_zret C hz dX8_isAsTold_435 (en_finI hf)
  rw [if_neg s37_9] at hf
  rcases Decidable.em (y4 = (10 : Int32)) with s37_10 | s37_10
  · rw [if_pos s37_10] at hf
    refine g_tsw (z := (10 : Int32)) (tgt := 436) C dX8_isAsTold_37 s37_10 (by decide) (by decide) rfl (by decide) ?_
    refine g_aload_n_0 C dX8_isAsTold_436 ?_
    refine g_iconst (v := (0 : Int32)) C dX8_isAsTold_437 (by decide) ?_
    refine g_iload_4 C dX8_isAsTold_438 ?_
    obtain ⟨q47, hq47, hf⟩ := en_bnd hf
    refine gc_X8_258_M_forked C (ctM_forked _ _ _ q47.1 q47.2 hq47) (by decide) (Nat.le_of_ble_eq_true rfl) dX8_isAsTold_440 ?_
    obtain ⟨hz, hf⟩ := en_ite hf
    exact g_zret C hz dX8_isAsTold_443 (en_finI hf)
  rw [if_neg s37_10] at hf
  rcases Decidable.em (y4 = (11 : Int32)) with s37_11 | s37_11
  · rw [if_pos s37_11] at hf
    refine g_tsw (z := (11 : Int32)) (tgt := 444) C dX8_isAsTold_37 s37_11 (by decide) (by decide) rfl (by decide) ?_
    refine g_aload_n_0 C dX8_isAsTold_444 ?_
    refine g_iconst (v := (1 : Int32)) C dX8_isAsTold_445 (by decide) ?_
    refine g_iload_4 C dX8_isAsTold_446 ?_
    obtain ⟨q48, hq48, hf⟩ := en_bnd hf
    refine gc_X8_258_M_forked C (ctM_forked _ _ _ q48.1 q48.2 hq48) (by decide) (Nat.le_of_ble_eq_true rfl) dX8_isAsTold_448 ?_
    obtain ⟨hz, hf⟩ := en_ite hf
    exact g_zret C hz dX8_isAsTold_451 (en_finI hf)
  rw [if_neg s37_11] at hf
  rcases Decidable.em (y4 = (12 : Int32)) with s37_12 | s37_12
  · rw [if_pos s37_12] at hf
    refine g_tsw (z := (12 : Int32)) (tgt := 452) C dX8_isAsTold_37 s37_12 (by decide) (by decide) rfl (by decide) ?_
    refine g_aload_n_0 C dX8_isAsTold_452 ?_
    refine g_iconst (v := (1 : Int32)) C dX8_isAsTold_453 (by decide) ?_
    refine g_iload_4 C dX8_isAsTold_454 ?_
    refine g_iload_5 C dX8_isAsTold_456 ?_
    obtain ⟨q49, hq49, hf⟩ := en_bnd hf
    refine gc_X8_262_M_doubles C (ctM_doubles _ _ _ _ q49.1 q49.2 hq49) (by decide) (Nat.le_of_ble_eq_true rfl) dX8_isAsTold_458 ?_
    obtain ⟨hz, hf⟩ := en_ite hf
    exact g_zret C hz dX8_isAsTold_461 (en_finI hf)
  rw [if_neg s37_12] at hf
  refine g_tswD (tgt := 462) C [(0 : Int32), (1 : Int32), (2 : Int32), (3 : Int32), (4 : Int32), (5 : Int32), (6 : Int32), (7 : Int32), (8 : Int32), (9 : Int32), (10 : Int32), (11 : Int32), (12 : Int32)] dX8_isAsTold_37 (And.intro s37_0 (And.intro s37_1 (And.intro s37_2 (And.intro s37_3 (And.intro s37_4 (And.intro s37_5 (And.intro s37_6 (And.intro s37_7 (And.intro s37_8 (And.intro s37_9 (And.intro s37_10 (And.intro s37_11 (And.intro s37_12 trivial))))))))))))) 13 (by decide) (by decide) (by decide) ?_
  refine g_aload_n_0 C dX8_isAsTold_462 ?_
  refine g_iconst (v := (2 : Int32)) C dX8_isAsTold_463 (by decide) ?_
  refine g_iload_4 C dX8_isAsTold_464 ?_
  refine g_iload_5 C dX8_isAsTold_466 ?_
  obtain ⟨q50, hq50, hf⟩ := en_bnd hf
  refine gc_X8_262_M_doubles C (ctM_doubles _ _ _ _ q50.1 q50.2 hq50) (by decide) (Nat.le_of_ble_eq_true rfl) dX8_isAsTold_468 ?_
  obtain ⟨hz, hf⟩ := en_ite hf
  exact g_zret C hz dX8_isAsTold_471 (en_finI hf)
set_option maxHeartbeats 4000000 in
set_option maxRecDepth 100000 in
theorem ctM_runs {l : Launch} {D : va_G} {K : en_K} {ad : Nat → Nat} (x1 : Int32) (u : Ug) (r0 : Int32) (u0 : Ug) (hf : fM_runs x1 u = some (r0, u0)) : CT l D (en_ty K) ad (9) yX8_runs cX8_runs 4 (some .int) [.ref 0, .int x1] (wdM K u) (en_RI (wdM K) r0 u0) := by
  refine CT.of (by decide) [some (.ref 0), some (.int x1), none, none] rfl (Nat.le_of_ble_eq_true rfl) ?_
  intro p e R s m args below meth c sz C
  have L : ∀ n : Nat, (∀ (v1 : Int32) (v2 : Int32) (w : Ug), (kM_runs n).1 v1 v2 w = some (r0, u0) → G p l e R s m args below meth c D (va_A (en_ws ad (wdM K u)) sz) 4 ad 0 0 (en_Q below D (en_ty K) ad (wdM K u) sz (en_RI (wdM K) r0 u0) args s) 2 [some (.ref 0), some (.int v1), some (.int v2), none] [] (wdM K w)) ∧ (∀ (v1 : Int32) (v2 : Int32) (w : Ug), (kM_runs n).2.1 v1 v2 w = some (r0, u0) → G p l e R s m args below meth c D (va_A (en_ws ad (wdM K u)) sz) 4 ad 0 0 (en_Q below D (en_ty K) ad (wdM K u) sz (en_RI (wdM K) r0 u0) args s) 28 [some (.ref 0), some (.int v1), some (.int v2), none] [] (wdM K w)) ∧ (∀ (v1 : Int32) (v2 : Int32) (w : Ug), (kM_runs n).2.2.1 v1 v2 w = some (r0, u0) → G p l e R s m args below meth c D (va_A (en_ws ad (wdM K u)) sz) 4 ad 0 0 (en_Q below D (en_ty K) ad (wdM K u) sz (en_RI (wdM K) r0 u0) args s) 48 [some (.ref 0), some (.int v1), some (.int v2), none] [] (wdM K w)) ∧ (∀ (v1 : Int32) (v2 : Int32) (w : Ug), (kM_runs n).2.2.2.1 v1 v2 w = some (r0, u0) → G p l e R s m args below meth c D (va_A (en_ws ad (wdM K u)) sz) 4 ad 0 0 (en_Q below D (en_ty K) ad (wdM K u) sz (en_RI (wdM K) r0 u0) args s) 83 [some (.ref 0), some (.int v1), some (.int v2), none] [] (wdM K w)) ∧ (∀ (v1 : Int32) (v2 : Int32) (v3 : Int32) (w : Ug), (kM_runs n).2.2.2.2.1 v1 v2 v3 w = some (r0, u0) → G p l e R s m args below meth c D (va_A (en_ws ad (wdM K u)) sz) 4 ad 0 0 (en_Q below D (en_ty K) ad (wdM K u) sz (en_RI (wdM K) r0 u0) args s) 110 [some (.ref 0), some (.int v1), some (.int v2), some (.int v3)] [] (wdM K w)) ∧ (∀ (v1 : Int32) (v2 : Int32) (v3 : Int32) (w : Ug), (kM_runs n).2.2.2.2.2 v1 v2 v3 w = some (r0, u0) → G p l e R s m args below meth c D (va_A (en_ws ad (wdM K u)) sz) 4 ad 0 0 (en_Q below D (en_ty K) ad (wdM K u) sz (en_RI (wdM K) r0 u0) args s) 136 [some (.ref 0), some (.int v1), some (.int v2), some (.int v3)] [] (wdM K w)) := by
    intro n
    induction n with
    | zero => exact ⟨fun _ _ _ hf => absurd hf (by intro q; cases q), fun _ _ _ hf => absurd hf (by intro q; cases q), fun _ _ _ hf => absurd hf (by intro q; cases q), fun _ _ _ hf => absurd hf (by intro q; cases q), fun _ _ _ _ hf => absurd hf (by intro q; cases q), fun _ _ _ _ hf => absurd hf (by intro q; cases q)⟩
    | succ n ih =>
      refine ⟨?_, ?_, ?_, ?_, ?_, ?_⟩
      · intro v1 v2 u hf
        have hf : sM_runs_2 (kM_runs n).1 (kM_runs n).2.1 (kM_runs n).2.2.1 (kM_runs n).2.2.2.1 (kM_runs n).2.2.2.2.1 (kM_runs n).2.2.2.2.2 v1 v2 u = some (r0, u0) := hf
        unfold sM_runs_2 at hf
        refine g_iload_n_2 C dX8_runs_2 ?_
        refine g_bipush (v := (70 : Int32)) C dX8_runs_3 (by decide) ?_
        refine g_if_icmp_ge (tgt := 26) C dX8_runs_5 (by decide) (fun c1 => ?_) (fun c1 => ?_)
        · rw [if_pos c1] at hf
          refine g_iconst (v := (0 : Int32)) C dX8_runs_26 (by decide) ?_
          refine g_istore_n_2 C dX8_runs_27 (by decide) rfl ?_
          exact g_weak (ih.2.1 _ _ _ hf) (And.intro rfl (And.intro rfl (And.intro rfl trivial)))
        · rw [if_neg c1] at hf
          refine g_aload_n_0 C dX8_runs_8 ?_
          refine gf_X8_74 C dX8_runs_9 ?_
          refine g_iload_n_2 C dX8_runs_12 ?_
          refine g_aload_n_0 C dX8_runs_13 ?_
          refine gf_X8_7 C dX8_runs_14 ?_
          refine g_iload_n_2 C dX8_runs_17 ?_
          obtain ⟨y2, hy2, hf⟩ := en_bnd hf
          refine gaM_ld_1 C hy2 dX8_runs_18 ?_
          obtain ⟨u3, hu3, hf⟩ := en_bnd hf
          refine gaM_st_22 C hu3 dX8_runs_19 ?_
          refine g_iinc_2 (z := (1 : Int32)) C dX8_runs_20 (by decide) (by decide) rfl ?_
          refine g_goto (tgt := 2) C dX8_runs_23 (by decide) ?_
          exact g_weak (ih.1 _ _ _ hf) (And.intro rfl (And.intro rfl (And.intro rfl trivial)))
      · intro v1 v2 u hf
        have hf : sM_runs_28 (kM_runs n).1 (kM_runs n).2.1 (kM_runs n).2.2.1 (kM_runs n).2.2.2.1 (kM_runs n).2.2.2.2.1 (kM_runs n).2.2.2.2.2 v1 v2 u = some (r0, u0) := hf
        unfold sM_runs_28 at hf
        refine g_iload_n_2 C dX8_runs_28 ?_
        refine g_iconst (v := (4 : Int32)) C dX8_runs_29 (by decide) ?_
        refine g_if_icmp_ge (tgt := 46) C dX8_runs_30 (by decide) (fun c4 => ?_) (fun c4 => ?_)
        · rw [if_pos c4] at hf
          refine g_iconst (v := (0 : Int32)) C dX8_runs_46 (by decide) ?_
          refine g_istore_n_2 C dX8_runs_47 (by decide) rfl ?_
          exact g_weak (ih.2.2.1 _ _ _ hf) (And.intro rfl (And.intro rfl (And.intro rfl trivial)))
        · rw [if_neg c4] at hf
          refine g_aload_n_0 C dX8_runs_33 ?_
          refine gf_X8_68 C dX8_runs_34 ?_
          refine g_iload_n_2 C dX8_runs_37 ?_
          refine g_iconst (v := (0 : Int32)) C dX8_runs_38 (by decide) ?_
          obtain ⟨u5, hu5, hf⟩ := en_bnd hf
          refine gaM_st_20 C hu5 dX8_runs_39 ?_
          refine g_iinc_2 (z := (1 : Int32)) C dX8_runs_40 (by decide) (by decide) rfl ?_
          refine g_goto (tgt := 28) C dX8_runs_43 (by decide) ?_
          exact g_weak (ih.2.1 _ _ _ hf) (And.intro rfl (And.intro rfl (And.intro rfl trivial)))
      · intro v1 v2 u hf
        have hf : sM_runs_48 (kM_runs n).1 (kM_runs n).2.1 (kM_runs n).2.2.1 (kM_runs n).2.2.2.1 (kM_runs n).2.2.2.2.1 (kM_runs n).2.2.2.2.2 v1 v2 u = some (r0, u0) := hf
        unfold sM_runs_48 at hf
        refine g_iload_n_2 C dX8_runs_48 ?_
        refine g_iconst (v := (3 : Int32)) C dX8_runs_49 (by decide) ?_
        refine g_if_icmp_ge (tgt := 66) C dX8_runs_50 (by decide) (fun c6 => ?_) (fun c6 => ?_)
        · rw [if_pos c6] at hf
          refine g_aload_n_0 C dX8_runs_66 ?_
          refine g_iconst (v := (0 : Int32)) C dX8_runs_67 (by decide) ?_
          obtain ⟨u7, hu7, hf⟩ := en_bnd hf
          refine gp_X8_242 C hu7 dX8_runs_68 ?_
          refine g_aload_n_0 C dX8_runs_71 ?_
          refine g_iconst (v := (0 : Int32)) C dX8_runs_72 (by decide) ?_
          obtain ⟨u8, hu8, hf⟩ := en_bnd hf
          refine gp_X8_245 C hu8 dX8_runs_73 ?_
          refine g_aload_n_0 C dX8_runs_76 ?_
          refine g_iconst (v := (0 : Int32)) C dX8_runs_77 (by decide) ?_
          obtain ⟨u9, hu9, hf⟩ := en_bnd hf
          refine gp_X8_239 C hu9 dX8_runs_78 ?_
          refine g_iconst (v := (0 : Int32)) C dX8_runs_81 (by decide) ?_
          refine g_istore_n_2 C dX8_runs_82 (by decide) rfl ?_
          exact g_weak (ih.2.2.2.1 _ _ _ hf) (And.intro rfl (And.intro rfl (And.intro rfl trivial)))
        · rw [if_neg c6] at hf
          refine g_aload_n_0 C dX8_runs_53 ?_
          refine gf_X8_80 C dX8_runs_54 ?_
          refine g_iload_n_2 C dX8_runs_57 ?_
          refine g_iconst (v := (0 : Int32)) C dX8_runs_58 (by decide) ?_
          obtain ⟨u10, hu10, hf⟩ := en_bnd hf
          refine gaM_st_24 C hu10 dX8_runs_59 ?_
          refine g_iinc_2 (z := (1 : Int32)) C dX8_runs_60 (by decide) (by decide) rfl ?_
          refine g_goto (tgt := 48) C dX8_runs_63 (by decide) ?_
          exact g_weak (ih.2.2.1 _ _ _ hf) (And.intro rfl (And.intro rfl (And.intro rfl trivial)))
      · intro v1 v2 u hf
        have hf : sM_runs_83 (kM_runs n).1 (kM_runs n).2.1 (kM_runs n).2.2.1 (kM_runs n).2.2.2.1 (kM_runs n).2.2.2.2.1 (kM_runs n).2.2.2.2.2 v1 v2 u = some (r0, u0) := hf
        unfold sM_runs_83 at hf
        refine g_iload_n_2 C dX8_runs_83 ?_
        refine g_aload_n_0 C dX8_runs_84 ?_
        refine gf_X8_35 C dX8_runs_85 ?_
        refine g_iload_n_1 C dX8_runs_88 ?_
        obtain ⟨y11, hy11, hf⟩ := en_bnd hf
        refine gaM_ld_9 C hy11 dX8_runs_89 ?_
        refine g_if_icmp_ge (tgt := 108) C dX8_runs_90 (by decide) (fun c12 => ?_) (fun c12 => ?_)
        · rw [if_pos c12] at hf
          refine g_iconst (v := (0 : Int32)) C dX8_runs_108 (by decide) ?_
          refine g_istore_n_3 C dX8_runs_109 (by decide) rfl ?_
          exact g_weak (ih.2.2.2.2.1 _ _ _ _ hf) (And.intro rfl (And.intro rfl (And.intro rfl (And.intro rfl trivial))))
        · rw [if_neg c12] at hf
          refine g_aload_n_0 C dX8_runs_93 ?_
          refine g_iload_n_1 C dX8_runs_94 ?_
          refine g_iload_n_2 C dX8_runs_95 ?_
          obtain ⟨q13, hq13, hf⟩ := en_bnd hf
          refine gc_X8_265_M_isAsTold C (ctM_isAsTold _ _ _ q13.1 q13.2 hq13) (by decide) (Nat.le_of_ble_eq_true rfl) dX8_runs_96 ?_
          refine g_if_eq (tgt := 108) C dX8_runs_99 (by decide) (fun c14 => ?_) (fun c14 => ?_)
          · rw [if_pos c14] at hf
            refine g_iconst (v := (0 : Int32)) C dX8_runs_108 (by decide) ?_
            refine g_istore_n_3 C dX8_runs_109 (by decide) rfl ?_
            exact g_weak (ih.2.2.2.2.1 _ _ _ _ hf) (And.intro rfl (And.intro rfl (And.intro rfl (And.intro rfl trivial))))
          · rw [if_neg c14] at hf
            refine g_iinc_2 (z := (1 : Int32)) C dX8_runs_102 (by decide) (by decide) rfl ?_
            refine g_goto (tgt := 83) C dX8_runs_105 (by decide) ?_
            exact g_weak (ih.2.2.2.1 _ _ _ hf) (And.intro rfl (And.intro rfl (And.intro rfl trivial)))
      · intro v1 v2 v3 u hf
        have hf : sM_runs_110 (kM_runs n).1 (kM_runs n).2.1 (kM_runs n).2.2.1 (kM_runs n).2.2.2.1 (kM_runs n).2.2.2.2.1 (kM_runs n).2.2.2.2.2 v1 v2 v3 u = some (r0, u0) := hf
        unfold sM_runs_110 at hf
        refine g_iload_n_3 C dX8_runs_110 ?_
        refine g_bipush (v := (70 : Int32)) C dX8_runs_111 (by decide) ?_
        refine g_if_icmp_ge (tgt := 134) C dX8_runs_113 (by decide) (fun c15 => ?_) (fun c15 => ?_)
        · rw [if_pos c15] at hf
          refine g_iconst (v := (0 : Int32)) C dX8_runs_134 (by decide) ?_
          refine g_istore_n_3 C dX8_runs_135 (by decide) rfl ?_
          exact g_weak (ih.2.2.2.2.2 _ _ _ _ hf) (And.intro rfl (And.intro rfl (And.intro rfl (And.intro rfl trivial))))
        · rw [if_neg c15] at hf
          refine g_aload_n_0 C dX8_runs_116 ?_
          refine gf_X8_7 C dX8_runs_117 ?_
          refine g_iload_n_3 C dX8_runs_120 ?_
          refine g_aload_n_0 C dX8_runs_121 ?_
          refine gf_X8_74 C dX8_runs_122 ?_
          refine g_iload_n_3 C dX8_runs_125 ?_
          obtain ⟨y16, hy16, hf⟩ := en_bnd hf
          refine gaM_ld_22 C hy16 dX8_runs_126 ?_
          obtain ⟨u17, hu17, hf⟩ := en_bnd hf
          refine gaM_st_1 C hu17 dX8_runs_127 ?_
          refine g_iinc_3 (z := (1 : Int32)) C dX8_runs_128 (by decide) (by decide) rfl ?_
          refine g_goto (tgt := 110) C dX8_runs_131 (by decide) ?_
          exact g_weak (ih.2.2.2.2.1 _ _ _ _ hf) (And.intro rfl (And.intro rfl (And.intro rfl (And.intro rfl trivial))))
      · intro v1 v2 v3 u hf
        have hf : sM_runs_136 (kM_runs n).1 (kM_runs n).2.1 (kM_runs n).2.2.1 (kM_runs n).2.2.2.1 (kM_runs n).2.2.2.2.1 (kM_runs n).2.2.2.2.2 v1 v2 v3 u = some (r0, u0) := hf
        unfold sM_runs_136 at hf
        refine g_iload_n_3 C dX8_runs_136 ?_
        refine g_iconst (v := (4 : Int32)) C dX8_runs_137 (by decide) ?_
        refine g_if_icmp_ge (tgt := 154) C dX8_runs_138 (by decide) (fun c18 => ?_) (fun c18 => ?_)
        · rw [if_pos c18] at hf
          refine g_iload_n_2 C dX8_runs_154 ?_
          refine g_aload_n_0 C dX8_runs_155 ?_
          refine gf_X8_35 C dX8_runs_156 ?_
          refine g_iload_n_1 C dX8_runs_159 ?_
          obtain ⟨y19, hy19, hf⟩ := en_bnd hf
          refine gaM_ld_9 C hy19 dX8_runs_160 ?_
          refine g_if_icmp_ne (tgt := 168) C dX8_runs_161 (by decide) (fun c20 => ?_) (fun c20 => ?_)
          · rw [if_neg c20] at hf
            refine g_iload_n_2 C dX8_runs_168 ?_
            exact g_iret C dX8_runs_169 (en_finI hf)
          · rw [if_pos c20] at hf
            refine g_iconst (v := (-1 : Int32)) C dX8_runs_164 (by decide) ?_
            refine g_goto (tgt := 169) C dX8_runs_165 (by decide) ?_
            exact g_iret C dX8_runs_169 (en_finI hf)
        · rw [if_neg c18] at hf
          refine g_aload_n_0 C dX8_runs_141 ?_
          refine gf_X8_68 C dX8_runs_142 ?_
          refine g_iload_n_3 C dX8_runs_145 ?_
          refine g_iconst (v := (0 : Int32)) C dX8_runs_146 (by decide) ?_
          obtain ⟨u21, hu21, hf⟩ := en_bnd hf
          refine gaM_st_20 C hu21 dX8_runs_147 ?_
          refine g_iinc_3 (z := (1 : Int32)) C dX8_runs_148 (by decide) (by decide) rfl ?_
          refine g_goto (tgt := 136) C dX8_runs_151 (by decide) ?_
          exact g_weak (ih.2.2.2.2.2 _ _ _ _ hf) (And.intro rfl (And.intro rfl (And.intro rfl (And.intro rfl trivial))))
  unfold fM_runs at hf
  refine g_iconst (v := (0 : Int32)) C dX8_runs_0 (by decide) ?_
  refine g_istore_n_2 C dX8_runs_1 (by decide) rfl ?_
  exact g_weak ((L _).1 _ _ _ hf) (And.intro rfl (And.intro rfl (And.intro rfl trivial)))
set_option maxHeartbeats 4000000 in
set_option maxRecDepth 100000 in
theorem ctM_run {l : Launch} {D : va_G} {K : en_K} {ad : Nat → Nat} (x1 : Int32) (u : Ug) (r0 : Int32) (u0 : Ug) (hf : fM_run x1 u = some (r0, u0)) : CT l D (en_ty K) ad (10) yX8_run cX8_run 2 (some .int) [.ref 0, .int x1] (wdM K u) (en_RI (wdM K) r0 u0) := by
  refine CT.of (by decide) [some (.ref 0), some (.int x1)] rfl (Nat.le_of_ble_eq_true rfl) ?_
  intro p e R s m args below meth c sz C
  unfold fM_run at hf
  refine g_iload_n_1 C dX8_run_0 ?_
  refine g_i2l C dX8_run_1 ?_
  refine g_lconst (v := (0 : Int64)) C dX8_run_2 (by decide) ?_
  refine gl_X8_237 C dX8_run_3 ?_
  obtain ⟨q1, hq1, hf⟩ := en_bnd hf
  refine gc_X8_123_M_in C (ctM_in _ _ _ _ q1.1 q1.2 hq1) (by decide) (Nat.le_of_ble_eq_true rfl) dX8_run_6 ?_
  refine g_if_eq (tgt := 20) C dX8_run_9 (by decide) (fun c2 => ?_) (fun c2 => ?_)
  · rw [if_pos c2] at hf
    refine g_bipush (v := (-2 : Int32)) C dX8_run_20 (by decide) ?_
    exact g_iret C dX8_run_22 (en_finI hf)
  · rw [if_neg c2] at hf
    refine g_aload_n_0 C dX8_run_12 ?_
    refine g_iload_n_1 C dX8_run_13 ?_
    obtain ⟨q3, hq3, hf⟩ := en_bnd hf
    refine gc_X8_268_M_runs C (ctM_runs _ _ q3.1 q3.2 hq3) (by decide) (Nat.le_of_ble_eq_true rfl) dX8_run_14 ?_
    refine g_goto (tgt := 22) C dX8_run_17 (by decide) ?_
    exact g_iret C dX8_run_22 (en_finI hf)
set_option maxHeartbeats 4000000 in
set_option maxRecDepth 100000 in
theorem ctM_ways {l : Launch} {D : va_G} {K : en_K} {ad : Nat → Nat} (x1 : Int32) (u : Ug) (r0 : Int32) (u0 : Ug) (hf : fM_ways x1 u = some (r0, u0)) : CT l D (en_ty K) ad (1) yX8_ways cX8_ways 1 (some .int) [.int x1] (wdM K u) (en_RI (wdM K) r0 u0) := by
  refine CT.of (by decide) [some (.int x1)] rfl (Nat.le_of_ble_eq_true rfl) ?_
  intro p e R s m args below meth c sz C
  unfold fM_ways at hf
  refine g_iload_n_0 C dX8_ways_0 ?_
  refine g_iconst (v := (2 : Int32)) C dX8_ways_1 (by decide) ?_
  refine g_if_icmp_eq (tgt := 16) C dX8_ways_2 (by decide) (fun c1 => ?_) (fun c1 => ?_)
  · rw [if_pos c1] at hf
    refine g_iconst (v := (2 : Int32)) C dX8_ways_16 (by decide) ?_
    refine g_goto (tgt := 21) C dX8_ways_17 (by decide) ?_
    exact g_iret C dX8_ways_21 (en_finI hf)
  · rw [if_neg c1] at hf
    refine g_iload_n_0 C dX8_ways_5 ?_
    refine g_iconst (v := (4 : Int32)) C dX8_ways_6 (by decide) ?_
    refine g_if_icmp_eq (tgt := 16) C dX8_ways_7 (by decide) (fun c2 => ?_) (fun c2 => ?_)
    · rw [if_pos c2] at hf
      refine g_iconst (v := (2 : Int32)) C dX8_ways_16 (by decide) ?_
      refine g_goto (tgt := 21) C dX8_ways_17 (by decide) ?_
      exact g_iret C dX8_ways_21 (en_finI hf)
    · rw [if_neg c2] at hf
      refine g_iload_n_0 C dX8_ways_10 ?_
      refine g_bipush (v := (7 : Int32)) C dX8_ways_11 (by decide) ?_
      refine g_if_icmp_ne (tgt := 20) C dX8_ways_13 (by decide) (fun c3 => ?_) (fun c3 => ?_)
      · rw [if_neg c3] at hf
        refine g_iconst (v := (1 : Int32)) C dX8_ways_20 (by decide) ?_
        exact g_iret C dX8_ways_21 (en_finI hf)
      · rw [if_pos c3] at hf
        refine g_iconst (v := (2 : Int32)) C dX8_ways_16 (by decide) ?_
        refine g_goto (tgt := 21) C dX8_ways_17 (by decide) ?_
        exact g_iret C dX8_ways_21 (en_finI hf)
set_option maxHeartbeats 4000000 in
set_option maxRecDepth 100000 in
theorem ctM_mutants {l : Launch} {D : va_G} {K : en_K} {ad : Nat → Nat} (x1 : Int32) (u : Ug) (r0 : Int32) (u0 : Ug) (hf : fM_mutants x1 u = some (r0, u0)) : CT l D (en_ty K) ad (2) yX8_mutants cX8_mutants 5 (some .int) [.ref 0, .int x1] (wdM K u) (en_RI (wdM K) r0 u0) := by
  refine CT.of (by decide) [some (.ref 0), some (.int x1), none, none, none] rfl (Nat.le_of_ble_eq_true rfl) ?_
  intro p e R s m args below meth c sz C
  have L : ∀ n : Nat, (∀ (v1 : Int32) (v2 : Int32) (v3 : Int32) (w : Ug), (kM_mutants n).1 v1 v2 v3 w = some (r0, u0) → G p l e R s m args below meth c D (va_A (en_ws ad (wdM K u)) sz) 5 ad 0 0 (en_Q below D (en_ty K) ad (wdM K u) sz (en_RI (wdM K) r0 u0) args s) 24 [some (.ref 0), some (.int v1), some (.int v2), some (.int v3), none] [] (wdM K w)) ∧ (∀ (v1 : Int32) (v2 : Int32) (v3 : Int32) (v4 : Int32) (w : Ug), (kM_mutants n).2 v1 v2 v3 v4 w = some (r0, u0) → G p l e R s m args below meth c D (va_A (en_ws ad (wdM K u)) sz) 5 ad 0 0 (en_Q below D (en_ty K) ad (wdM K u) sz (en_RI (wdM K) r0 u0) args s) 36 [some (.ref 0), some (.int v1), some (.int v2), some (.int v3), some (.int v4)] [] (wdM K w)) := by
    intro n
    induction n with
    | zero => exact ⟨fun _ _ _ _ hf => absurd hf (by intro q; cases q), fun _ _ _ _ _ hf => absurd hf (by intro q; cases q)⟩
    | succ n ih =>
      refine ⟨?_, ?_⟩
      · intro v1 v2 v3 u hf
        have hf : sM_mutants_24 (kM_mutants n).1 (kM_mutants n).2 v1 v2 v3 u = some (r0, u0) := hf
        unfold sM_mutants_24 at hf
        refine g_iload_n_3 C dX8_mutants_24 ?_
        refine g_iconst (v := (3 : Int32)) C dX8_mutants_25 (by decide) ?_
        refine g_iload_n_1 C dX8_mutants_26 ?_
        refine g_imul C dX8_mutants_27 ?_
        refine g_iconst (v := (3 : Int32)) C dX8_mutants_28 (by decide) ?_
        refine g_iadd C dX8_mutants_29 ?_
        refine g_if_icmp_ge (tgt := 77) C dX8_mutants_30 (by decide) (fun c3 => ?_) (fun c3 => ?_)
        · rw [if_pos c3] at hf
          refine g_iload_n_2 C dX8_mutants_77 ?_
          exact g_iret C dX8_mutants_78 (en_finI hf)
        · rw [if_neg c3] at hf
          refine g_iconst (v := (0 : Int32)) C dX8_mutants_33 (by decide) ?_
          refine g_istore_4 C dX8_mutants_34 (by decide) rfl ?_
          exact g_weak (ih.2 _ _ _ _ _ hf) (And.intro rfl (And.intro rfl (And.intro rfl (And.intro rfl (And.intro rfl trivial)))))
      · intro v1 v2 v3 v4 u hf
        have hf : sM_mutants_36 (kM_mutants n).1 (kM_mutants n).2 v1 v2 v3 v4 u = some (r0, u0) := hf
        unfold sM_mutants_36 at hf
        refine g_iload_4 C dX8_mutants_36 ?_
        refine g_aload_n_0 C dX8_mutants_38 ?_
        refine gf_X8_13 C dX8_mutants_39 ?_
        refine g_iload_n_3 C dX8_mutants_42 ?_
        obtain ⟨y4, hy4, hf⟩ := en_bnd hf
        refine gaM_ld_2 C hy4 dX8_mutants_43 ?_
        refine g_if_icmp_ge (tgt := 71) C dX8_mutants_44 (by decide) (fun c5 => ?_) (fun c5 => ?_)
        · rw [if_pos c5] at hf
          refine g_iinc_3 (z := (1 : Int32)) C dX8_mutants_71 (by decide) (by decide) rfl ?_
          refine g_goto (tgt := 24) C dX8_mutants_74 (by decide) ?_
          exact g_weak (ih.1 _ _ _ _ hf) (And.intro rfl (And.intro rfl (And.intro rfl (And.intro rfl trivial))))
        · rw [if_neg c5] at hf
          refine g_iload_n_2 C dX8_mutants_47 ?_
          refine g_aload_n_0 C dX8_mutants_48 ?_
          refine gf_X8_16 C dX8_mutants_49 ?_
          refine g_bipush (v := (8 : Int32)) C dX8_mutants_52 (by decide) ?_
          refine g_iload_n_3 C dX8_mutants_54 ?_
          refine g_imul C dX8_mutants_55 ?_
          refine g_iload_4 C dX8_mutants_56 ?_
          refine g_iadd C dX8_mutants_58 ?_
          obtain ⟨y6, hy6, hf⟩ := en_bnd hf
          refine gaM_ld_3 C hy6 dX8_mutants_59 ?_
          obtain ⟨q7, hq7, hf⟩ := en_bnd hf
          refine gc_X8_271_M_ways C (ctM_ways _ _ q7.1 q7.2 hq7) (by decide) (Nat.le_of_ble_eq_true rfl) dX8_mutants_60 ?_
          refine g_iadd C dX8_mutants_63 ?_
          refine g_istore_n_2 C dX8_mutants_64 (by decide) rfl ?_
          refine g_iinc_4 (z := (1 : Int32)) C dX8_mutants_65 (by decide) (by decide) rfl ?_
          refine g_goto (tgt := 36) C dX8_mutants_68 (by decide) ?_
          exact g_weak (ih.2 _ _ _ _ _ hf) (And.intro rfl (And.intro rfl (And.intro rfl (And.intro rfl (And.intro rfl trivial)))))
  unfold fM_mutants at hf
  refine g_iload_n_1 C dX8_mutants_0 ?_
  refine g_i2l C dX8_mutants_1 ?_
  refine g_lconst (v := (0 : Int64)) C dX8_mutants_2 (by decide) ?_
  refine g_aload_n_0 C dX8_mutants_3 ?_
  refine gf_X8_127 C dX8_mutants_4 ?_
  refine g_iconst (v := (1 : Int32)) C dX8_mutants_7 (by decide) ?_
  refine g_isub C dX8_mutants_8 ?_
  refine g_i2l C dX8_mutants_9 ?_
  obtain ⟨q1, hq1, hf⟩ := en_bnd hf
  refine gc_X8_123_M_in C (ctM_in _ _ _ _ q1.1 q1.2 hq1) (by decide) (Nat.le_of_ble_eq_true rfl) dX8_mutants_10 ?_
  refine g_if_ne (tgt := 18) C dX8_mutants_13 (by decide) (fun c2 => ?_) (fun c2 => ?_)
  · rw [if_neg c2] at hf
    refine g_iconst (v := (0 : Int32)) C dX8_mutants_18 (by decide) ?_
    refine g_istore_n_2 C dX8_mutants_19 (by decide) rfl ?_
    refine g_iconst (v := (3 : Int32)) C dX8_mutants_20 (by decide) ?_
    refine g_iload_n_1 C dX8_mutants_21 ?_
    refine g_imul C dX8_mutants_22 ?_
    refine g_istore_n_3 C dX8_mutants_23 (by decide) rfl ?_
    exact g_weak ((L _).1 _ _ _ _ hf) (And.intro rfl (And.intro rfl (And.intro rfl (And.intro rfl trivial))))
  · rw [if_pos c2] at hf
    refine g_iconst (v := (-1 : Int32)) C dX8_mutants_16 (by decide) ?_
    exact g_iret C dX8_mutants_17 (en_finI hf)
