/-! CONTRACTS. -/
set_option maxHeartbeats 4000000 in
set_option maxRecDepth 100000 in
theorem ctM_find {l : Launch} {D : va_G} {K : en_K} {ad : Nat → Nat} (x1 : Int32) (x2 : Int32) (u : Ug) (r0 : Int32) (u0 : Ug) (hf : fM_find x1 x2 u = some (r0, u0)) : CT l D (en_ty K) ad (2) yX8_find cX8_find 7 (some .int) [.ref 0, .int x1, .int x2] (wdM K u) (en_RI (wdM K) r0 u0) := by
  refine CT.of (by decide) [some (.ref 0), some (.int x1), some (.int x2), none, none, none, none] rfl (Nat.le_of_ble_eq_true rfl) ?_
  intro p e R s m args below meth c sz C
  have L : ∀ n : Nat, (∀ (v1 : Int32) (v2 : Int32) (v3 : Int32) (v4 : Int32) (w : Ug), (kM_find n).1 v1 v2 v3 v4 w = some (r0, u0) → G p l e R s m args below meth c D (va_A (en_ws ad (wdM K u)) sz) 7 ad 0 0 (en_Q below D (en_ty K) ad (wdM K u) sz (en_RI (wdM K) r0 u0) args s) 7 [some (.ref 0), some (.int v1), some (.int v2), some (.int v3), some (.int v4), none, none] [] (wdM K w)) ∧ (∀ (v1 : Int32) (v2 : Int32) (v3 : Int32) (v4 : Int32) (v5 : Int32) (w : Ug), (kM_find n).2 v1 v2 v3 v4 v5 w = some (r0, u0) → G p l e R s m args below meth c D (va_A (en_ws ad (wdM K u)) sz) 7 ad 0 0 (en_Q below D (en_ty K) ad (wdM K u) sz (en_RI (wdM K) r0 u0) args s) 20 [some (.ref 0), some (.int v1), some (.int v2), some (.int v3), some (.int v4), some (.int v5), none] [] (wdM K w)) := by
    intro n
    induction n with
    | zero => exact ⟨fun _ _ _ _ _ hf => absurd hf (by intro q; cases q), fun _ _ _ _ _ _ hf => absurd hf (by intro q; cases q)⟩
    | succ n ih =>
      refine ⟨?_, ?_⟩
      · intro v1 v2 v3 v4 u hf
        have hf : sM_find_7 (kM_find n).1 (kM_find n).2 v1 v2 v3 v4 u = some (r0, u0) := hf
        unfold sM_find_7 at hf
        refine g_iload_4 C dX8_find_7 ?_
        refine g_iconst (v := (3 : Int32)) C dX8_find_9 (by decide) ?_
        refine g_iload_n_1 C dX8_find_10 ?_
        refine g_imul C dX8_find_11 ?_
        refine g_iconst (v := (3 : Int32)) C dX8_find_12 (by decide) ?_
        refine g_iadd C dX8_find_13 ?_
        refine g_if_icmp_ge (tgt := 96) C dX8_find_14 (by decide) (fun c1 => ?_) (fun c1 => ?_)
        · rw [if_pos c1] at hf
          refine g_iconst (v := (-1 : Int32)) C dX8_find_96 (by decide) ?_
          exact g_iret C dX8_find_97 (en_finI hf)
        · rw [if_neg c1] at hf
          refine g_iconst (v := (0 : Int32)) C dX8_find_17 (by decide) ?_
          refine g_istore_5 C dX8_find_18 (by decide) rfl ?_
          exact g_weak (ih.2 _ _ _ _ _ _ hf) (And.intro rfl (And.intro rfl (And.intro rfl (And.intro rfl (And.intro rfl (And.intro rfl trivial))))))
      · intro v1 v2 v3 v4 v5 u hf
        have hf : sM_find_20 (kM_find n).1 (kM_find n).2 v1 v2 v3 v4 v5 u = some (r0, u0) := hf
        unfold sM_find_20 at hf
        refine g_iload_5 C dX8_find_20 ?_
        refine g_aload_n_0 C dX8_find_22 ?_
        refine gf_X8_13 C dX8_find_23 ?_
        refine g_iload_4 C dX8_find_26 ?_
        obtain ⟨y2, hy2, hf⟩ := en_bnd hf
        refine gaM_ld_2 C hy2 dX8_find_28 ?_
        refine g_if_icmp_ge (tgt := 90) C dX8_find_29 (by decide) (fun c3 => ?_) (fun c3 => ?_)
        · rw [if_pos c3] at hf
          refine g_iinc_4 (z := (1 : Int32)) C dX8_find_90 (by decide) (by decide) rfl ?_
          refine g_goto (tgt := 7) C dX8_find_93 (by decide) ?_
          exact g_weak (ih.1 _ _ _ _ _ hf) (And.intro rfl (And.intro rfl (And.intro rfl (And.intro rfl (And.intro rfl trivial)))))
        · rw [if_neg c3] at hf
          refine g_bipush (v := (8 : Int32)) C dX8_find_32 (by decide) ?_
          refine g_iload_4 C dX8_find_34 ?_
          refine g_imul C dX8_find_36 ?_
          refine g_iload_5 C dX8_find_37 ?_
          refine g_iadd C dX8_find_39 ?_
          refine g_istore_6 C dX8_find_40 (by decide) rfl ?_
          refine g_iload_n_3 C dX8_find_42 ?_
          refine g_i2l C dX8_find_43 ?_
          refine g_lconst (v := (0 : Int64)) C dX8_find_44 (by decide) ?_
          refine g_aload_n_0 C dX8_find_45 ?_
          refine gf_X8_16 C dX8_find_46 ?_
          refine g_iload_6 C dX8_find_49 ?_
          obtain ⟨y4, hy4, hf⟩ := en_bnd hf
          refine gaM_ld_3 C hy4 dX8_find_51 ?_
          obtain ⟨q5, hq5, hf⟩ := en_bnd hf
          refine gc_X8_271_M_ways C (ctM_ways _ _ q5.1 q5.2 hq5) (by decide) (Nat.le_of_ble_eq_true rfl) dX8_find_52 ?_
          refine g_iconst (v := (1 : Int32)) C dX8_find_55 (by decide) ?_
          refine g_isub C dX8_find_56 ?_
          refine g_i2l C dX8_find_57 ?_
          obtain ⟨q6, hq6, hf⟩ := en_bnd hf
          refine gc_X8_123_M_in C (ctM_in _ _ _ _ q6.1 q6.2 hq6) (by decide) (Nat.le_of_ble_eq_true rfl) dX8_find_58 ?_
          refine g_if_eq (tgt := 71) C dX8_find_61 (by decide) (fun c7 => ?_) (fun c7 => ?_)
          · rw [if_pos c7] at hf
            refine g_iload_n_3 C dX8_find_71 ?_
            refine g_aload_n_0 C dX8_find_72 ?_
            refine gf_X8_16 C dX8_find_73 ?_
            refine g_iload_6 C dX8_find_76 ?_
            obtain ⟨y8, hy8, hf⟩ := en_bnd hf
            refine gaM_ld_3 C hy8 dX8_find_78 ?_
            obtain ⟨q9, hq9, hf⟩ := en_bnd hf
            refine gc_X8_271_M_ways C (ctM_ways _ _ q9.1 q9.2 hq9) (by decide) (Nat.le_of_ble_eq_true rfl) dX8_find_79 ?_
            refine g_isub C dX8_find_82 ?_
            refine g_istore_n_3 C dX8_find_83 (by decide) rfl ?_
            refine g_iinc_5 (z := (1 : Int32)) C dX8_find_84 (by decide) (by decide) rfl ?_
            refine g_goto (tgt := 20) C dX8_find_87 (by decide) ?_
            exact g_weak (ih.2 _ _ _ _ _ _ hf) (And.intro rfl (And.intro rfl (And.intro rfl (And.intro rfl (And.intro rfl (And.intro rfl trivial))))))
          · rw [if_neg c7] at hf
            refine g_iconst (v := (2 : Int32)) C dX8_find_64 (by decide) ?_
            refine g_iload_6 C dX8_find_65 ?_
            refine g_imul C dX8_find_67 ?_
            refine g_iload_n_3 C dX8_find_68 ?_
            refine g_iadd C dX8_find_69 ?_
            exact g_iret C dX8_find_70 (en_finI hf)
  unfold fM_find at hf
  refine g_iload_n_2 C dX8_find_0 ?_
  refine g_istore_n_3 C dX8_find_1 (by decide) rfl ?_
  refine g_iconst (v := (3 : Int32)) C dX8_find_2 (by decide) ?_
  refine g_iload_n_1 C dX8_find_3 ?_
  refine g_imul C dX8_find_4 ?_
  refine g_istore_4 C dX8_find_5 (by decide) rfl ?_
  exact g_weak ((L _).1 _ _ _ _ _ hf) (And.intro rfl (And.intro rfl (And.intro rfl (And.intro rfl (And.intro rfl trivial)))))
set_option maxHeartbeats 4000000 in
set_option maxRecDepth 100000 in
theorem ctM_mutant {l : Launch} {D : va_G} {K : en_K} {ad : Nat → Nat} (x1 : Int32) (x2 : Int32) (x3 : Int32) (u : Ug) (r0 : Int32) (u0 : Ug) (hf : fM_mutant x1 x2 x3 u = some (r0, u0)) : CT l D (en_ty K) ad (3) yX8_mutant cX8_mutant 5 (some .int) [.ref 0, .int x1, .int x2, .int x3] (wdM K u) (en_RI (wdM K) r0 u0) := by
  refine CT.of (by decide) [some (.ref 0), some (.int x1), some (.int x2), some (.int x3), none] rfl (Nat.le_of_ble_eq_true rfl) ?_
  intro p e R s m args below meth c sz C
  unfold fM_mutant at hf
  refine g_iload_n_1 C dX8_mutant_0 ?_
  refine g_i2l C dX8_mutant_1 ?_
  refine g_lconst (v := (0 : Int64)) C dX8_mutant_2 (by decide) ?_
  refine g_aload_n_0 C dX8_mutant_3 ?_
  refine gf_X8_127 C dX8_mutant_4 ?_
  refine g_iconst (v := (1 : Int32)) C dX8_mutant_7 (by decide) ?_
  refine g_isub C dX8_mutant_8 ?_
  refine g_i2l C dX8_mutant_9 ?_
  obtain ⟨q1, hq1, hf⟩ := en_bnd hf
  refine gc_X8_123_M_in C (ctM_in _ _ _ _ q1.1 q1.2 hq1) (by decide) (Nat.le_of_ble_eq_true rfl) dX8_mutant_10 ?_
  refine g_if_eq (tgt := 45) C dX8_mutant_13 (by decide) (fun c2 => ?_) (fun c2 => ?_)
  · rw [if_pos c2] at hf
    refine g_iconst (v := (-1 : Int32)) C dX8_mutant_45 (by decide) ?_
    exact g_iret C dX8_mutant_46 (en_finI hf)
  · rw [if_neg c2] at hf
    refine g_iload_n_2 C dX8_mutant_16 ?_
    refine g_i2l C dX8_mutant_17 ?_
    refine g_lconst (v := (0 : Int64)) C dX8_mutant_18 (by decide) ?_
    refine g_aload_n_0 C dX8_mutant_19 ?_
    refine g_iload_n_1 C dX8_mutant_20 ?_
    obtain ⟨q3, hq3, hf⟩ := en_bnd hf
    refine gc_X8_274_M_mutants C (ctM_mutants _ _ q3.1 q3.2 hq3) (by decide) (Nat.le_of_ble_eq_true rfl) dX8_mutant_21 ?_
    refine g_iconst (v := (1 : Int32)) C dX8_mutant_24 (by decide) ?_
    refine g_isub C dX8_mutant_25 ?_
    refine g_i2l C dX8_mutant_26 ?_
    obtain ⟨q4, hq4, hf⟩ := en_bnd hf
    refine gc_X8_123_M_in C (ctM_in _ _ _ _ q4.1 q4.2 hq4) (by decide) (Nat.le_of_ble_eq_true rfl) dX8_mutant_27 ?_
    refine g_if_eq (tgt := 45) C dX8_mutant_30 (by decide) (fun c5 => ?_) (fun c5 => ?_)
    · rw [if_pos c5] at hf
      refine g_iconst (v := (-1 : Int32)) C dX8_mutant_45 (by decide) ?_
      exact g_iret C dX8_mutant_46 (en_finI hf)
    · rw [if_neg c5] at hf
      refine g_iload_n_3 C dX8_mutant_33 ?_
      refine g_i2l C dX8_mutant_34 ?_
      refine g_lconst (v := (0 : Int64)) C dX8_mutant_35 (by decide) ?_
      refine gl_X8_131 C dX8_mutant_36 ?_
      obtain ⟨q6, hq6, hf⟩ := en_bnd hf
      refine gc_X8_123_M_in C (ctM_in _ _ _ _ q6.1 q6.2 hq6) (by decide) (Nat.le_of_ble_eq_true rfl) dX8_mutant_39 ?_
      refine g_if_ne (tgt := 47) C dX8_mutant_42 (by decide) (fun c7 => ?_) (fun c7 => ?_)
      · rw [if_neg c7] at hf
        refine g_aload_n_0 C dX8_mutant_47 ?_
        refine g_iload_n_1 C dX8_mutant_48 ?_
        refine g_iload_n_2 C dX8_mutant_49 ?_
        obtain ⟨q8, hq8, hf⟩ := en_bnd hf
        refine gc_X8_277_M_find C (ctM_find _ _ _ q8.1 q8.2 hq8) (by decide) (Nat.le_of_ble_eq_true rfl) dX8_mutant_50 ?_
        refine g_istore_4 C dX8_mutant_53 (by decide) rfl ?_
        refine g_iload_n_3 C dX8_mutant_55 ?_
        refine g_if_ne (tgt := 71) C dX8_mutant_56 (by decide) (fun c9 => ?_) (fun c9 => ?_)
        · rw [if_neg c9] at hf
          refine g_iload_n_3 C dX8_mutant_71 ?_
          refine g_iconst (v := (1 : Int32)) C dX8_mutant_72 (by decide) ?_
          refine g_if_icmp_ne (tgt := 86) C dX8_mutant_73 (by decide) (fun c10 => ?_) (fun c10 => ?_)
          · rw [if_neg c10] at hf
            refine g_iload_4 C dX8_mutant_86 ?_
            refine g_iconst (v := (2 : Int32)) C dX8_mutant_88 (by decide) ?_
            refine g_irem C dX8_mutant_89 (by decide) ?_
            exact g_iret C dX8_mutant_90 (en_finI hf)
          · rw [if_pos c10] at hf
            refine g_iload_4 C dX8_mutant_76 ?_
            refine g_iconst (v := (2 : Int32)) C dX8_mutant_78 (by decide) ?_
            refine g_idiv C dX8_mutant_79 (by decide) ?_
            refine g_bipush (v := (8 : Int32)) C dX8_mutant_80 (by decide) ?_
            refine g_irem C dX8_mutant_82 (by decide) ?_
            refine g_goto (tgt := 90) C dX8_mutant_83 (by decide) ?_
            exact g_iret C dX8_mutant_90 (en_finI hf)
        · rw [if_pos c9] at hf
          refine g_iload_4 C dX8_mutant_59 ?_
          refine g_iconst (v := (2 : Int32)) C dX8_mutant_61 (by decide) ?_
          refine g_idiv C dX8_mutant_62 (by decide) ?_
          refine g_bipush (v := (8 : Int32)) C dX8_mutant_63 (by decide) ?_
          refine g_idiv C dX8_mutant_65 (by decide) ?_
          refine g_iconst (v := (3 : Int32)) C dX8_mutant_66 (by decide) ?_
          refine g_irem C dX8_mutant_67 (by decide) ?_
          refine g_goto (tgt := 90) C dX8_mutant_68 (by decide) ?_
          exact g_iret C dX8_mutant_90 (en_finI hf)
      · rw [if_pos c7] at hf
        refine g_iconst (v := (-1 : Int32)) C dX8_mutant_45 (by decide) ?_
        exact g_iret C dX8_mutant_46 (en_finI hf)
set_option maxHeartbeats 4000000 in
set_option maxRecDepth 100000 in
theorem ctM_judge {l : Launch} {D : va_G} {K : en_K} {ad : Nat → Nat} (x1 : Int32) (u : Ug) (r0 : Int32) (u0 : Ug) (hf : fM_judge x1 u = some (r0, u0)) : CT l D (en_ty K) ad (10) yX8_judge cX8_judge 8 (some .int) [.ref 0, .int x1] (wdM K u) (en_RI (wdM K) r0 u0) := by
  refine CT.of (by decide) [some (.ref 0), some (.int x1), none, none, none, none, none, none] rfl (Nat.le_of_ble_eq_true rfl) ?_
  intro p e R s m args below meth c sz C
  have L : ∀ n : Nat, (∀ (v1 : Int32) (v2 : Int32) (v3 : Int32) (w : Ug), (kM_judge n).1 v1 v2 v3 w = some (r0, u0) → G p l e R s m args below meth c D (va_A (en_ws ad (wdM K u)) sz) 8 ad 0 0 (en_Q below D (en_ty K) ad (wdM K u) sz (en_RI (wdM K) r0 u0) args s) 22 [some (.ref 0), some (.int v1), some (.int v2), some (.int v3), none, none, none, none] [] (wdM K w)) ∧ (∀ (v1 : Int32) (v2 : Int32) (v3 : Int32) (v4 : Int32) (w : Ug), (kM_judge n).2.1 v1 v2 v3 v4 w = some (r0, u0) → G p l e R s m args below meth c D (va_A (en_ws ad (wdM K u)) sz) 8 ad 0 0 (en_Q below D (en_ty K) ad (wdM K u) sz (en_RI (wdM K) r0 u0) args s) 68 [some (.ref 0), some (.int v1), some (.int v2), some (.int v3), some (.int v4), none, none, none] [] (wdM K w)) ∧ (∀ (v1 : Int32) (v2 : Int32) (v3 : Int32) (v4 : Int32) (v5 : Int32) (v6 : Int32) (v7 : Int32) (w : Ug), (kM_judge n).2.2 v1 v2 v3 v4 v5 v6 v7 w = some (r0, u0) → G p l e R s m args below meth c D (va_A (en_ws ad (wdM K u)) sz) 8 ad 0 0 (en_Q below D (en_ty K) ad (wdM K u) sz (en_RI (wdM K) r0 u0) args s) 112 [some (.ref 0), some (.int v1), some (.int v2), some (.int v3), some (.int v4), some (.int v5), some (.int v6), some (.int v7)] [] (wdM K w)) := by
    intro n
    induction n with
    | zero => exact ⟨fun _ _ _ _ hf => absurd hf (by intro q; cases q), fun _ _ _ _ _ hf => absurd hf (by intro q; cases q), fun _ _ _ _ _ _ _ _ hf => absurd hf (by intro q; cases q)⟩
    | succ n ih =>
      refine ⟨?_, ?_, ?_⟩
      · intro v1 v2 v3 u hf
        have hf : sM_judge_22 (kM_judge n).1 (kM_judge n).2.1 (kM_judge n).2.2 v1 v2 v3 u = some (r0, u0) := hf
        unfold sM_judge_22 at hf
        refine g_iload_n_3 C dX8_judge_22 ?_
        refine g_bipush (v := (6 : Int32)) C dX8_judge_23 (by decide) ?_
        refine g_if_icmp_ge (tgt := 52) C dX8_judge_25 (by decide) (fun c3 => ?_) (fun c3 => ?_)
        · rw [if_pos c3] at hf
          refine g_aload_n_0 C dX8_judge_52 ?_
          refine gf_X8_84 C dX8_judge_53 ?_
          refine g_iload_n_1 C dX8_judge_56 ?_
          refine g_aload_n_0 C dX8_judge_57 ?_
          refine g_iload_n_1 C dX8_judge_58 ?_
          obtain ⟨q4, hq4, hf⟩ := en_bnd hf
          refine gc_X8_274_M_mutants C (ctM_mutants _ _ q4.1 q4.2 hq4) (by decide) (Nat.le_of_ble_eq_true rfl) dX8_judge_59 ?_
          obtain ⟨u5, hu5, hf⟩ := en_bnd hf
          refine gaM_st_25 C hu5 dX8_judge_62 ?_
          refine g_iconst (v := (0 : Int32)) C dX8_judge_63 (by decide) ?_
          refine g_istore_n_3 C dX8_judge_64 (by decide) rfl ?_
          refine g_iconst (v := (0 : Int32)) C dX8_judge_65 (by decide) ?_
          refine g_istore_4 C dX8_judge_66 (by decide) rfl ?_
          exact g_weak (ih.2.1 _ _ _ _ _ hf) (And.intro rfl (And.intro rfl (And.intro rfl (And.intro rfl (And.intro rfl trivial)))))
        · rw [if_neg c3] at hf
          refine g_iload_n_2 C dX8_judge_28 ?_
          refine g_aload_n_0 C dX8_judge_29 ?_
          refine g_iload_n_3 C dX8_judge_30 ?_
          obtain ⟨q6, hq6, hf⟩ := en_bnd hf
          refine gc_X8_268_M_runs C (ctM_runs _ _ q6.1 q6.2 hq6) (by decide) (Nat.le_of_ble_eq_true rfl) dX8_judge_31 ?_
          refine g_if_ge (tgt := 43) C dX8_judge_34 (by decide) (fun c7 => ?_) (fun c7 => ?_)
          · rw [if_pos c7] at hf
            refine g_iconst (v := (0 : Int32)) C dX8_judge_43 (by decide) ?_
            refine g_ior C dX8_judge_44 ?_
            refine g_istore_n_2 C dX8_judge_45 (by decide) rfl ?_
            refine g_iinc_3 (z := (1 : Int32)) C dX8_judge_46 (by decide) (by decide) rfl ?_
            refine g_goto (tgt := 22) C dX8_judge_49 (by decide) ?_
            exact g_weak (ih.1 _ _ _ _ hf) (And.intro rfl (And.intro rfl (And.intro rfl (And.intro rfl trivial))))
          · rw [if_neg c7] at hf
            refine g_iconst (v := (1 : Int32)) C dX8_judge_37 (by decide) ?_
            refine g_iload_n_3 C dX8_judge_38 ?_
            refine g_ishl C dX8_judge_39 ?_
            refine g_goto (tgt := 44) C dX8_judge_40 (by decide) ?_
            refine g_ior C dX8_judge_44 ?_
            refine g_istore_n_2 C dX8_judge_45 (by decide) rfl ?_
            refine g_iinc_3 (z := (1 : Int32)) C dX8_judge_46 (by decide) (by decide) rfl ?_
            refine g_goto (tgt := 22) C dX8_judge_49 (by decide) ?_
            exact g_weak (ih.1 _ _ _ _ hf) (And.intro rfl (And.intro rfl (And.intro rfl (And.intro rfl trivial))))
      · intro v1 v2 v3 v4 u hf
        have hf : sM_judge_68 (kM_judge n).1 (kM_judge n).2.1 (kM_judge n).2.2 v1 v2 v3 v4 u = some (r0, u0) := hf
        unfold sM_judge_68 at hf
        refine g_iload_4 C dX8_judge_68 ?_
        refine g_aload_n_0 C dX8_judge_70 ?_
        refine gf_X8_84 C dX8_judge_71 ?_
        refine g_iload_n_1 C dX8_judge_74 ?_
        obtain ⟨y8, hy8, hf⟩ := en_bnd hf
        refine gaM_ld_25 C hy8 dX8_judge_75 ?_
        refine g_if_icmp_ge (tgt := 190) C dX8_judge_76 (by decide) (fun c9 => ?_) (fun c9 => ?_)
        · rw [if_pos c9] at hf
          refine g_aload_n_0 C dX8_judge_190 ?_
          refine g_iconst (v := (0 : Int32)) C dX8_judge_191 (by decide) ?_
          obtain ⟨u10, hu10, hf⟩ := en_bnd hf
          refine gp_X8_191 C hu10 dX8_judge_192 ?_
          refine g_iload_n_3 C dX8_judge_195 ?_
          exact g_iret C dX8_judge_196 (en_finI hf)
        · rw [if_neg c9] at hf
          refine g_aload_n_0 C dX8_judge_79 ?_
          refine g_iload_n_1 C dX8_judge_80 ?_
          refine g_iload_4 C dX8_judge_81 ?_
          obtain ⟨q11, hq11, hf⟩ := en_bnd hf
          refine gc_X8_277_M_find C (ctM_find _ _ _ q11.1 q11.2 hq11) (by decide) (Nat.le_of_ble_eq_true rfl) dX8_judge_83 ?_
          refine g_istore_5 C dX8_judge_86 (by decide) rfl ?_
          refine g_aload_n_0 C dX8_judge_88 ?_
          refine g_iload_5 C dX8_judge_89 ?_
          refine g_iconst (v := (2 : Int32)) C dX8_judge_91 (by decide) ?_
          refine g_idiv C dX8_judge_92 (by decide) ?_
          obtain ⟨u12, hu12, hf⟩ := en_bnd hf
          refine gp_X8_194 C hu12 dX8_judge_93 ?_
          refine g_aload_n_0 C dX8_judge_96 ?_
          refine g_iconst (v := (1 : Int32)) C dX8_judge_97 (by decide) ?_
          refine g_iload_5 C dX8_judge_98 ?_
          refine g_iconst (v := (2 : Int32)) C dX8_judge_100 (by decide) ?_
          refine g_irem C dX8_judge_101 (by decide) ?_
          refine g_iadd C dX8_judge_102 ?_
          obtain ⟨u13, hu13, hf⟩ := en_bnd hf
          refine gp_X8_191 C hu13 dX8_judge_103 ?_
          refine g_iconst (v := (-1 : Int32)) C dX8_judge_106 (by decide) ?_
          refine g_istore_6 C dX8_judge_107 (by decide) rfl ?_
          refine g_iconst (v := (0 : Int32)) C dX8_judge_109 (by decide) ?_
          refine g_istore_7 C dX8_judge_110 (by decide) rfl ?_
          exact g_weak (ih.2.2 _ _ _ _ _ _ _ _ hf) (And.intro rfl (And.intro rfl (And.intro rfl (And.intro rfl (And.intro rfl (And.intro rfl (And.intro rfl (And.intro rfl trivial))))))))
      · intro v1 v2 v3 v4 v5 v6 v7 u hf
        have hf : sM_judge_112 (kM_judge n).1 (kM_judge n).2.1 (kM_judge n).2.2 v1 v2 v3 v4 v5 v6 v7 u = some (r0, u0) := hf
        unfold sM_judge_112 at hf
        refine g_iload_7 C dX8_judge_112 ?_
        refine g_bipush (v := (6 : Int32)) C dX8_judge_114 (by decide) ?_
        refine g_if_icmp_ge (tgt := 157) C dX8_judge_116 (by decide) (fun c14 => ?_) (fun c14 => ?_)
        · rw [if_pos c14] at hf
          refine g_aload_n_0 C dX8_judge_157 ?_
          refine gf_X8_87 C dX8_judge_158 ?_
          refine g_bipush (v := (48 : Int32)) C dX8_judge_161 (by decide) ?_
          refine g_iload_n_1 C dX8_judge_163 ?_
          refine g_imul C dX8_judge_164 ?_
          refine g_iload_4 C dX8_judge_165 ?_
          refine g_iadd C dX8_judge_167 ?_
          refine g_iload_6 C dX8_judge_168 ?_
          obtain ⟨u15, hu15, hf⟩ := en_bnd hf
          refine gaM_st_26 C hu15 dX8_judge_170 ?_
          refine g_iload_n_3 C dX8_judge_171 ?_
          refine g_iload_6 C dX8_judge_172 ?_
          refine g_if_ge (tgt := 181) C dX8_judge_174 (by decide) (fun c16 => ?_) (fun c16 => ?_)
          · rw [if_pos c16] at hf
            refine g_iconst (v := (1 : Int32)) C dX8_judge_181 (by decide) ?_
            refine g_iadd C dX8_judge_182 ?_
            refine g_istore_n_3 C dX8_judge_183 (by decide) rfl ?_
            refine g_iinc_4 (z := (1 : Int32)) C dX8_judge_184 (by decide) (by decide) rfl ?_
            refine g_goto (tgt := 68) C dX8_judge_187 (by decide) ?_
            exact g_weak (ih.2.1 _ _ _ _ _ hf) (And.intro rfl (And.intro rfl (And.intro rfl (And.intro rfl (And.intro rfl trivial)))))
          · rw [if_neg c16] at hf
            refine g_iconst (v := (0 : Int32)) C dX8_judge_177 (by decide) ?_
            refine g_goto (tgt := 182) C dX8_judge_178 (by decide) ?_
            refine g_iadd C dX8_judge_182 ?_
            refine g_istore_n_3 C dX8_judge_183 (by decide) rfl ?_
            refine g_iinc_4 (z := (1 : Int32)) C dX8_judge_184 (by decide) (by decide) rfl ?_
            refine g_goto (tgt := 68) C dX8_judge_187 (by decide) ?_
            exact g_weak (ih.2.1 _ _ _ _ _ hf) (And.intro rfl (And.intro rfl (And.intro rfl (And.intro rfl (And.intro rfl trivial)))))
        · rw [if_neg c14] at hf
          refine g_iload_6 C dX8_judge_119 ?_
          refine g_if_ge (tgt := 157) C dX8_judge_121 (by decide) (fun c17 => ?_) (fun c17 => ?_)
          · rw [if_pos c17] at hf
            refine g_aload_n_0 C dX8_judge_157 ?_
            refine gf_X8_87 C dX8_judge_158 ?_
            refine g_bipush (v := (48 : Int32)) C dX8_judge_161 (by decide) ?_
            refine g_iload_n_1 C dX8_judge_163 ?_
            refine g_imul C dX8_judge_164 ?_
            refine g_iload_4 C dX8_judge_165 ?_
            refine g_iadd C dX8_judge_167 ?_
            refine g_iload_6 C dX8_judge_168 ?_
            obtain ⟨u18, hu18, hf⟩ := en_bnd hf
            refine gaM_st_26 C hu18 dX8_judge_170 ?_
            refine g_iload_n_3 C dX8_judge_171 ?_
            refine g_iload_6 C dX8_judge_172 ?_
            refine g_if_ge (tgt := 181) C dX8_judge_174 (by decide) (fun c19 => ?_) (fun c19 => ?_)
            · rw [if_pos c19] at hf
              refine g_iconst (v := (1 : Int32)) C dX8_judge_181 (by decide) ?_
              refine g_iadd C dX8_judge_182 ?_
              refine g_istore_n_3 C dX8_judge_183 (by decide) rfl ?_
              refine g_iinc_4 (z := (1 : Int32)) C dX8_judge_184 (by decide) (by decide) rfl ?_
              refine g_goto (tgt := 68) C dX8_judge_187 (by decide) ?_
              exact g_weak (ih.2.1 _ _ _ _ _ hf) (And.intro rfl (And.intro rfl (And.intro rfl (And.intro rfl (And.intro rfl trivial)))))
            · rw [if_neg c19] at hf
              refine g_iconst (v := (0 : Int32)) C dX8_judge_177 (by decide) ?_
              refine g_goto (tgt := 182) C dX8_judge_178 (by decide) ?_
              refine g_iadd C dX8_judge_182 ?_
              refine g_istore_n_3 C dX8_judge_183 (by decide) rfl ?_
              refine g_iinc_4 (z := (1 : Int32)) C dX8_judge_184 (by decide) (by decide) rfl ?_
              refine g_goto (tgt := 68) C dX8_judge_187 (by decide) ?_
              exact g_weak (ih.2.1 _ _ _ _ _ hf) (And.intro rfl (And.intro rfl (And.intro rfl (And.intro rfl (And.intro rfl trivial)))))
          · rw [if_neg c17] at hf
            refine g_iload_n_2 C dX8_judge_124 ?_
            refine g_iload_7 C dX8_judge_125 ?_
            refine g_ishr C dX8_judge_127 ?_
            refine g_iconst (v := (1 : Int32)) C dX8_judge_128 (by decide) ?_
            refine g_iand C dX8_judge_129 ?_
            refine g_iconst (v := (1 : Int32)) C dX8_judge_130 (by decide) ?_
            refine g_if_icmp_ne (tgt := 148) C dX8_judge_131 (by decide) (fun c20 => ?_) (fun c20 => ?_)
            · rw [if_neg c20] at hf
              refine g_iconst (v := (-1 : Int32)) C dX8_judge_148 (by decide) ?_
              refine g_istore_6 C dX8_judge_149 (by decide) rfl ?_
              refine g_iinc_7 (z := (1 : Int32)) C dX8_judge_151 (by decide) (by decide) rfl ?_
              refine g_goto (tgt := 112) C dX8_judge_154 (by decide) ?_
              exact g_weak (ih.2.2 _ _ _ _ _ _ _ _ hf) (And.intro rfl (And.intro rfl (And.intro rfl (And.intro rfl (And.intro rfl (And.intro rfl (And.intro rfl (And.intro rfl trivial))))))))
            · rw [if_pos c20] at hf
              refine g_aload_n_0 C dX8_judge_134 ?_
              refine g_iload_7 C dX8_judge_135 ?_
              obtain ⟨q21, hq21, hf⟩ := en_bnd hf
              refine gc_X8_268_M_runs C (ctM_runs _ _ q21.1 q21.2 hq21) (by decide) (Nat.le_of_ble_eq_true rfl) dX8_judge_137 ?_
              refine g_if_lt (tgt := 148) C dX8_judge_140 (by decide) (fun c22 => ?_) (fun c22 => ?_)
              · rw [if_pos c22] at hf
                refine g_iconst (v := (-1 : Int32)) C dX8_judge_148 (by decide) ?_
                refine g_istore_6 C dX8_judge_149 (by decide) rfl ?_
                refine g_iinc_7 (z := (1 : Int32)) C dX8_judge_151 (by decide) (by decide) rfl ?_
                refine g_goto (tgt := 112) C dX8_judge_154 (by decide) ?_
                exact g_weak (ih.2.2 _ _ _ _ _ _ _ _ hf) (And.intro rfl (And.intro rfl (And.intro rfl (And.intro rfl (And.intro rfl (And.intro rfl (And.intro rfl (And.intro rfl trivial))))))))
              · rw [if_neg c22] at hf
                refine g_iload_7 C dX8_judge_143 ?_
                refine g_goto (tgt := 149) C dX8_judge_145 (by decide) ?_
                refine g_istore_6 C dX8_judge_149 (by decide) rfl ?_
                refine g_iinc_7 (z := (1 : Int32)) C dX8_judge_151 (by decide) (by decide) rfl ?_
                refine g_goto (tgt := 112) C dX8_judge_154 (by decide) ?_
                exact g_weak (ih.2.2 _ _ _ _ _ _ _ _ hf) (And.intro rfl (And.intro rfl (And.intro rfl (And.intro rfl (And.intro rfl (And.intro rfl (And.intro rfl (And.intro rfl trivial))))))))
  unfold fM_judge at hf
  refine g_iload_n_1 C dX8_judge_0 ?_
  refine g_i2l C dX8_judge_1 ?_
  refine g_lconst (v := (0 : Int64)) C dX8_judge_2 (by decide) ?_
  refine g_aload_n_0 C dX8_judge_3 ?_
  refine gf_X8_127 C dX8_judge_4 ?_
  refine g_iconst (v := (1 : Int32)) C dX8_judge_7 (by decide) ?_
  refine g_isub C dX8_judge_8 ?_
  refine g_i2l C dX8_judge_9 ?_
  obtain ⟨q1, hq1, hf⟩ := en_bnd hf
  refine gc_X8_123_M_in C (ctM_in _ _ _ _ q1.1 q1.2 hq1) (by decide) (Nat.le_of_ble_eq_true rfl) dX8_judge_10 ?_
  refine g_if_ne (tgt := 18) C dX8_judge_13 (by decide) (fun c2 => ?_) (fun c2 => ?_)
  · rw [if_neg c2] at hf
    refine g_iconst (v := (0 : Int32)) C dX8_judge_18 (by decide) ?_
    refine g_istore_n_2 C dX8_judge_19 (by decide) rfl ?_
    refine g_iconst (v := (0 : Int32)) C dX8_judge_20 (by decide) ?_
    refine g_istore_n_3 C dX8_judge_21 (by decide) rfl ?_
    exact g_weak ((L _).1 _ _ _ _ hf) (And.intro rfl (And.intro rfl (And.intro rfl (And.intro rfl trivial))))
  · rw [if_pos c2] at hf
    refine g_iconst (v := (-1 : Int32)) C dX8_judge_16 (by decide) ?_
    exact g_iret C dX8_judge_17 (en_finI hf)
set_option maxHeartbeats 4000000 in
set_option maxRecDepth 100000 in
theorem ctM_killer {l : Launch} {D : va_G} {K : en_K} {ad : Nat → Nat} (x1 : Int32) (x2 : Int32) (u : Ug) (r0 : Int32) (u0 : Ug) (hf : fM_killer x1 x2 u = some (r0, u0)) : CT l D (en_ty K) ad (2) yX8_killer cX8_killer 3 (some .int) [.ref 0, .int x1, .int x2] (wdM K u) (en_RI (wdM K) r0 u0) := by
  refine CT.of (by decide) [some (.ref 0), some (.int x1), some (.int x2)] rfl (Nat.le_of_ble_eq_true rfl) ?_
  intro p e R s m args below meth c sz C
  unfold fM_killer at hf
  refine g_iload_n_1 C dX8_killer_0 ?_
  refine g_i2l C dX8_killer_1 ?_
  refine g_lconst (v := (0 : Int64)) C dX8_killer_2 (by decide) ?_
  refine g_aload_n_0 C dX8_killer_3 ?_
  refine gf_X8_127 C dX8_killer_4 ?_
  refine g_iconst (v := (1 : Int32)) C dX8_killer_7 (by decide) ?_
  refine g_isub C dX8_killer_8 ?_
  refine g_i2l C dX8_killer_9 ?_
  obtain ⟨q1, hq1, hf⟩ := en_bnd hf
  refine gc_X8_123_M_in C (ctM_in _ _ _ _ q1.1 q1.2 hq1) (by decide) (Nat.le_of_ble_eq_true rfl) dX8_killer_10 ?_
  refine g_if_eq (tgt := 48) C dX8_killer_13 (by decide) (fun c2 => ?_) (fun c2 => ?_)
  · rw [if_pos c2] at hf
    refine g_bipush (v := (-2 : Int32)) C dX8_killer_48 (by decide) ?_
    exact g_iret C dX8_killer_50 (en_finI hf)
  · rw [if_neg c2] at hf
    refine g_iload_n_2 C dX8_killer_16 ?_
    refine g_i2l C dX8_killer_17 ?_
    refine g_lconst (v := (0 : Int64)) C dX8_killer_18 (by decide) ?_
    refine g_aload_n_0 C dX8_killer_19 ?_
    refine gf_X8_84 C dX8_killer_20 ?_
    refine g_iload_n_1 C dX8_killer_23 ?_
    obtain ⟨y3, hy3, hf⟩ := en_bnd hf
    refine gaM_ld_25 C hy3 dX8_killer_24 ?_
    refine g_iconst (v := (1 : Int32)) C dX8_killer_25 (by decide) ?_
    refine g_isub C dX8_killer_26 ?_
    refine g_i2l C dX8_killer_27 ?_
    obtain ⟨q4, hq4, hf⟩ := en_bnd hf
    refine gc_X8_123_M_in C (ctM_in _ _ _ _ q4.1 q4.2 hq4) (by decide) (Nat.le_of_ble_eq_true rfl) dX8_killer_28 ?_
    refine g_if_eq (tgt := 48) C dX8_killer_31 (by decide) (fun c5 => ?_) (fun c5 => ?_)
    · rw [if_pos c5] at hf
      refine g_bipush (v := (-2 : Int32)) C dX8_killer_48 (by decide) ?_
      exact g_iret C dX8_killer_50 (en_finI hf)
    · rw [if_neg c5] at hf
      refine g_aload_n_0 C dX8_killer_34 ?_
      refine gf_X8_87 C dX8_killer_35 ?_
      refine g_bipush (v := (48 : Int32)) C dX8_killer_38 (by decide) ?_
      refine g_iload_n_1 C dX8_killer_40 ?_
      refine g_imul C dX8_killer_41 ?_
      refine g_iload_n_2 C dX8_killer_42 ?_
      refine g_iadd C dX8_killer_43 ?_
      obtain ⟨y6, hy6, hf⟩ := en_bnd hf
      refine gaM_ld_26 C hy6 dX8_killer_44 ?_
      refine g_goto (tgt := 50) C dX8_killer_45 (by decide) ?_
      exact g_iret C dX8_killer_50 (en_finI hf)
set_option maxHeartbeats 4000000 in
set_option maxRecDepth 100000 in
theorem ctM_put {l : Launch} {D : va_G} {K : en_K} {ad : Nat → Nat} (x1 : Int32) (x2 : Int32) (u : Ug) (r0 : Int32) (u0 : Ug) (hf : fM_put x1 x2 u = some (r0, u0)) : CT l D (en_ty K) ad (1) yX8_put cX8_put 3 none [.ref 0, .int x1, .int x2] (wdM K u) (en_RV (wdM K) u0) := by
  refine CT.of (by decide) [some (.ref 0), some (.int x1), some (.int x2)] rfl (Nat.le_of_ble_eq_true rfl) ?_
  intro p e R s m args below meth c sz C
  unfold fM_put at hf
  refine g_aload_n_0 C dX8_put_0 ?_
  refine gf_X8_38 C dX8_put_1 ?_
  refine g_iload_n_1 C dX8_put_4 ?_
  refine g_aload_n_0 C dX8_put_5 ?_
  refine gf_X8_38 C dX8_put_6 ?_
  refine g_iload_n_2 C dX8_put_9 ?_
  obtain ⟨y1, hy1, hf⟩ := en_bnd hf
  refine gaM_ld_10 C hy1 dX8_put_10 ?_
  obtain ⟨u2, hu2, hf⟩ := en_bnd hf
  refine gaM_st_10 C hu2 dX8_put_11 ?_
  refine g_aload_n_0 C dX8_put_12 ?_
  refine gf_X8_41 C dX8_put_13 ?_
  refine g_iload_n_1 C dX8_put_16 ?_
  refine g_aload_n_0 C dX8_put_17 ?_
  refine gf_X8_41 C dX8_put_18 ?_
  refine g_iload_n_2 C dX8_put_21 ?_
  obtain ⟨y3, hy3, hf⟩ := en_bnd hf
  refine gaM_ld_11 C hy3 dX8_put_22 ?_
  obtain ⟨u4, hu4, hf⟩ := en_bnd hf
  refine gaM_st_11 C hu4 dX8_put_23 ?_
  refine g_aload_n_0 C dX8_put_24 ?_
  refine gf_X8_44 C dX8_put_25 ?_
  refine g_iload_n_1 C dX8_put_28 ?_
  refine g_aload_n_0 C dX8_put_29 ?_
  refine gf_X8_44 C dX8_put_30 ?_
  refine g_iload_n_2 C dX8_put_33 ?_
  obtain ⟨y5, hy5, hf⟩ := en_bnd hf
  refine gaM_ld_12 C hy5 dX8_put_34 ?_
  obtain ⟨u6, hu6, hf⟩ := en_bnd hf
  refine gaM_st_12 C hu6 dX8_put_35 ?_
  refine g_aload_n_0 C dX8_put_36 ?_
  refine gf_X8_47 C dX8_put_37 ?_
  refine g_iload_n_1 C dX8_put_40 ?_
  refine g_aload_n_0 C dX8_put_41 ?_
  refine gf_X8_47 C dX8_put_42 ?_
  refine g_iload_n_2 C dX8_put_45 ?_
  obtain ⟨y7, hy7, hf⟩ := en_bnd hf
  refine gaM_ld_13 C hy7 dX8_put_46 ?_
  obtain ⟨u8, hu8, hf⟩ := en_bnd hf
  refine gaM_st_13 C hu8 dX8_put_47 ?_
  exact g_vret C dX8_put_48 (en_finV hf)
set_option maxHeartbeats 4000000 in
set_option maxRecDepth 100000 in
theorem ctM_remove {l : Launch} {D : va_G} {K : en_K} {ad : Nat → Nat} (x1 : Int32) (x2 : Int32) (u : Ug) (r0 : Int32) (u0 : Ug) (hf : fM_remove x1 x2 u = some (r0, u0)) : CT l D (en_ty K) ad (2) yX8_remove cX8_remove 5 none [.ref 0, .int x1, .int x2] (wdM K u) (en_RV (wdM K) u0) := by
  refine CT.of (by decide) [some (.ref 0), some (.int x1), some (.int x2), none, none] rfl (Nat.le_of_ble_eq_true rfl) ?_
  intro p e R s m args below meth c sz C
  have L : ∀ n : Nat, (∀ (v1 : Int32) (v2 : Int32) (v3 : Int32) (v4 : Int32) (w : Ug), (kM_remove n) v1 v2 v3 v4 w = some (r0, u0) → G p l e R s m args below meth c D (va_A (en_ws ad (wdM K u)) sz) 5 ad 0 0 (en_Q below D (en_ty K) ad (wdM K u) sz (en_RV (wdM K) u0) args s) 58 [some (.ref 0), some (.int v1), some (.int v2), some (.int v3), some (.int v4)] [] (wdM K w)) := by
    intro n
    induction n with
    | zero => exact fun _ _ _ _ _ hf => absurd hf (by intro q; cases q)
    | succ n ih =>
      intro v1 v2 v3 v4 u hf
      have hf : sM_remove_58 (kM_remove n) v1 v2 v3 v4 u = some (r0, u0) := hf
      unfold sM_remove_58 at hf
      refine g_iload_4 C dX8_remove_58 ?_
      refine g_iconst (v := (1 : Int32)) C dX8_remove_60 (by decide) ?_
      refine g_iadd C dX8_remove_61 ?_
      refine g_aload_n_0 C dX8_remove_62 ?_
      refine gf_X8_35 C dX8_remove_63 ?_
      refine g_iload_n_1 C dX8_remove_66 ?_
      obtain ⟨y9, hy9, hf⟩ := en_bnd hf
      refine gaM_ld_9 C hy9 dX8_remove_67 ?_
      refine g_if_icmp_ge (tgt := 97) C dX8_remove_68 (by decide) (fun c10 => ?_) (fun c10 => ?_)
      · rw [if_pos c10] at hf
        refine g_aload_n_0 C dX8_remove_97 ?_
        refine gf_X8_35 C dX8_remove_98 ?_
        refine g_iload_n_1 C dX8_remove_101 ?_
        refine g_dup2 C dX8_remove_102 rfl rfl ?_
        obtain ⟨y11, hy11, hf⟩ := en_bnd hf
        refine gaM_ld_9 C hy11 dX8_remove_103 ?_
        refine g_iconst (v := (1 : Int32)) C dX8_remove_104 (by decide) ?_
        refine g_isub C dX8_remove_105 ?_
        obtain ⟨u12, hu12, hf⟩ := en_bnd hf
        refine gaM_st_9 C hu12 dX8_remove_106 ?_
        exact g_vret C dX8_remove_107 (en_finV hf)
      · rw [if_neg c10] at hf
        refine g_aload_n_0 C dX8_remove_71 ?_
        refine g_bipush (v := (16 : Int32)) C dX8_remove_72 (by decide) ?_
        refine g_iload_n_1 C dX8_remove_74 ?_
        refine g_imul C dX8_remove_75 ?_
        refine g_iload_4 C dX8_remove_76 ?_
        refine g_iadd C dX8_remove_78 ?_
        refine g_bipush (v := (16 : Int32)) C dX8_remove_79 (by decide) ?_
        refine g_iload_n_1 C dX8_remove_81 ?_
        refine g_imul C dX8_remove_82 ?_
        refine g_iload_4 C dX8_remove_83 ?_
        refine g_iadd C dX8_remove_85 ?_
        refine g_iconst (v := (1 : Int32)) C dX8_remove_86 (by decide) ?_
        refine g_iadd C dX8_remove_87 ?_
        obtain ⟨q13, hq13, hf⟩ := en_bnd hf
        refine gc_X8_281_M_put C (ctM_put _ _ _ q13.1 q13.2 hq13) (by decide) (Nat.le_of_ble_eq_true rfl) dX8_remove_88 ?_
        refine g_iinc_4 (z := (1 : Int32)) C dX8_remove_91 (by decide) (by decide) rfl ?_
        refine g_goto (tgt := 58) C dX8_remove_94 (by decide) ?_
        exact g_weak (ih _ _ _ _ _ hf) (And.intro rfl (And.intro rfl (And.intro rfl (And.intro rfl (And.intro rfl trivial)))))
  unfold fM_remove at hf
  refine g_bipush (v := (16 : Int32)) C dX8_remove_0 (by decide) ?_
  refine g_iload_n_1 C dX8_remove_2 ?_
  refine g_imul C dX8_remove_3 ?_
  refine g_iload_n_2 C dX8_remove_4 ?_
  refine g_iadd C dX8_remove_5 ?_
  refine g_istore_n_3 C dX8_remove_6 (by decide) rfl ?_
  refine g_aload_n_0 C dX8_remove_7 ?_
  refine gf_X8_90 C dX8_remove_8 ?_
  refine g_iconst (v := (0 : Int32)) C dX8_remove_11 (by decide) ?_
  refine g_aload_n_0 C dX8_remove_12 ?_
  refine gf_X8_38 C dX8_remove_13 ?_
  refine g_iload_n_3 C dX8_remove_16 ?_
  obtain ⟨y1, hy1, hf⟩ := en_bnd hf
  refine gaM_ld_10 C hy1 dX8_remove_17 ?_
  obtain ⟨u2, hu2, hf⟩ := en_bnd hf
  refine gaM_st_27 C hu2 dX8_remove_18 ?_
  refine g_aload_n_0 C dX8_remove_19 ?_
  refine gf_X8_90 C dX8_remove_20 ?_
  refine g_iconst (v := (1 : Int32)) C dX8_remove_23 (by decide) ?_
  refine g_aload_n_0 C dX8_remove_24 ?_
  refine gf_X8_41 C dX8_remove_25 ?_
  refine g_iload_n_3 C dX8_remove_28 ?_
  obtain ⟨y3, hy3, hf⟩ := en_bnd hf
  refine gaM_ld_11 C hy3 dX8_remove_29 ?_
  obtain ⟨u4, hu4, hf⟩ := en_bnd hf
  refine gaM_st_27 C hu4 dX8_remove_30 ?_
  refine g_aload_n_0 C dX8_remove_31 ?_
  refine gf_X8_90 C dX8_remove_32 ?_
  refine g_iconst (v := (2 : Int32)) C dX8_remove_35 (by decide) ?_
  refine g_aload_n_0 C dX8_remove_36 ?_
  refine gf_X8_44 C dX8_remove_37 ?_
  refine g_iload_n_3 C dX8_remove_40 ?_
  obtain ⟨y5, hy5, hf⟩ := en_bnd hf
  refine gaM_ld_12 C hy5 dX8_remove_41 ?_
  obtain ⟨u6, hu6, hf⟩ := en_bnd hf
  refine gaM_st_27 C hu6 dX8_remove_42 ?_
  refine g_aload_n_0 C dX8_remove_43 ?_
  refine gf_X8_90 C dX8_remove_44 ?_
  refine g_iconst (v := (3 : Int32)) C dX8_remove_47 (by decide) ?_
  refine g_aload_n_0 C dX8_remove_48 ?_
  refine gf_X8_47 C dX8_remove_49 ?_
  refine g_iload_n_3 C dX8_remove_52 ?_
  obtain ⟨y7, hy7, hf⟩ := en_bnd hf
  refine gaM_ld_13 C hy7 dX8_remove_53 ?_
  obtain ⟨u8, hu8, hf⟩ := en_bnd hf
  refine gaM_st_27 C hu8 dX8_remove_54 ?_
  refine g_iload_n_2 C dX8_remove_55 ?_
  refine g_istore_4 C dX8_remove_56 (by decide) rfl ?_
  exact g_weak ((L _) _ _ _ _ _ hf) (And.intro rfl (And.intro rfl (And.intro rfl (And.intro rfl (And.intro rfl trivial)))))
set_option maxHeartbeats 4000000 in
set_option maxRecDepth 100000 in
theorem ctM_giveBack {l : Launch} {D : va_G} {K : en_K} {ad : Nat → Nat} (x1 : Int32) (x2 : Int32) (u : Ug) (r0 : Int32) (u0 : Ug) (hf : fM_giveBack x1 x2 u = some (r0, u0)) : CT l D (en_ty K) ad (2) yX8_giveBack cX8_giveBack 4 none [.ref 0, .int x1, .int x2] (wdM K u) (en_RV (wdM K) u0) := by
  refine CT.of (by decide) [some (.ref 0), some (.int x1), some (.int x2), none] rfl (Nat.le_of_ble_eq_true rfl) ?_
  intro p e R s m args below meth c sz C
  have L : ∀ n : Nat, (∀ (v1 : Int32) (v2 : Int32) (v3 : Int32) (w : Ug), (kM_giveBack n) v1 v2 v3 w = some (r0, u0) → G p l e R s m args below meth c D (va_A (en_ws ad (wdM K u)) sz) 4 ad 0 0 (en_Q below D (en_ty K) ad (wdM K u) sz (en_RV (wdM K) u0) args s) 7 [some (.ref 0), some (.int v1), some (.int v2), some (.int v3)] [] (wdM K w)) := by
    intro n
    induction n with
    | zero => exact fun _ _ _ _ hf => absurd hf (by intro q; cases q)
    | succ n ih =>
      intro v1 v2 v3 u hf
      have hf : sM_giveBack_7 (kM_giveBack n) v1 v2 v3 u = some (r0, u0) := hf
      unfold sM_giveBack_7 at hf
      refine g_iload_n_3 C dX8_giveBack_7 ?_
      refine g_iload_n_2 C dX8_giveBack_8 ?_
      refine g_if_icmp_le (tgt := 36) C dX8_giveBack_9 (by decide) (fun c2 => ?_) (fun c2 => ?_)
      · rw [if_pos c2] at hf
        refine g_aload_n_0 C dX8_giveBack_36 ?_
        refine gf_X8_35 C dX8_giveBack_37 ?_
        refine g_iload_n_1 C dX8_giveBack_40 ?_
        refine g_dup2 C dX8_giveBack_41 rfl rfl ?_
        obtain ⟨y3, hy3, hf⟩ := en_bnd hf
        refine gaM_ld_9 C hy3 dX8_giveBack_42 ?_
        refine g_iconst (v := (1 : Int32)) C dX8_giveBack_43 (by decide) ?_
        refine g_iadd C dX8_giveBack_44 ?_
        obtain ⟨u4, hu4, hf⟩ := en_bnd hf
        refine gaM_st_9 C hu4 dX8_giveBack_45 ?_
        refine g_bipush (v := (16 : Int32)) C dX8_giveBack_46 (by decide) ?_
        refine g_iload_n_1 C dX8_giveBack_48 ?_
        refine g_imul C dX8_giveBack_49 ?_
        refine g_iload_n_2 C dX8_giveBack_50 ?_
        refine g_iadd C dX8_giveBack_51 ?_
        refine g_istore_n_3 C dX8_giveBack_52 (by decide) rfl ?_
        refine g_aload_n_0 C dX8_giveBack_53 ?_
        refine gf_X8_38 C dX8_giveBack_54 ?_
        refine g_iload_n_3 C dX8_giveBack_57 ?_
        refine g_aload_n_0 C dX8_giveBack_58 ?_
        refine gf_X8_90 C dX8_giveBack_59 ?_
        refine g_iconst (v := (0 : Int32)) C dX8_giveBack_62 (by decide) ?_
        obtain ⟨y5, hy5, hf⟩ := en_bnd hf
        refine gaM_ld_27 C hy5 dX8_giveBack_63 ?_
        obtain ⟨u6, hu6, hf⟩ := en_bnd hf
        refine gaM_st_10 C hu6 dX8_giveBack_64 ?_
        refine g_aload_n_0 C dX8_giveBack_65 ?_
        refine gf_X8_41 C dX8_giveBack_66 ?_
        refine g_iload_n_3 C dX8_giveBack_69 ?_
        refine g_aload_n_0 C dX8_giveBack_70 ?_
        refine gf_X8_90 C dX8_giveBack_71 ?_
        refine g_iconst (v := (1 : Int32)) C dX8_giveBack_74 (by decide) ?_
        obtain ⟨y7, hy7, hf⟩ := en_bnd hf
        refine gaM_ld_27 C hy7 dX8_giveBack_75 ?_
        obtain ⟨u8, hu8, hf⟩ := en_bnd hf
        refine gaM_st_11 C hu8 dX8_giveBack_76 ?_
        refine g_aload_n_0 C dX8_giveBack_77 ?_
        refine gf_X8_44 C dX8_giveBack_78 ?_
        refine g_iload_n_3 C dX8_giveBack_81 ?_
        refine g_aload_n_0 C dX8_giveBack_82 ?_
        refine gf_X8_90 C dX8_giveBack_83 ?_
        refine g_iconst (v := (2 : Int32)) C dX8_giveBack_86 (by decide) ?_
        obtain ⟨y9, hy9, hf⟩ := en_bnd hf
        refine gaM_ld_27 C hy9 dX8_giveBack_87 ?_
        obtain ⟨u10, hu10, hf⟩ := en_bnd hf
        refine gaM_st_12 C hu10 dX8_giveBack_88 ?_
        refine g_aload_n_0 C dX8_giveBack_89 ?_
        refine gf_X8_47 C dX8_giveBack_90 ?_
        refine g_iload_n_3 C dX8_giveBack_93 ?_
        refine g_aload_n_0 C dX8_giveBack_94 ?_
        refine gf_X8_90 C dX8_giveBack_95 ?_
        refine g_iconst (v := (3 : Int32)) C dX8_giveBack_98 (by decide) ?_
        obtain ⟨y11, hy11, hf⟩ := en_bnd hf
        refine gaM_ld_27 C hy11 dX8_giveBack_99 ?_
        obtain ⟨u12, hu12, hf⟩ := en_bnd hf
        refine gaM_st_13 C hu12 dX8_giveBack_100 ?_
        exact g_vret C dX8_giveBack_101 (en_finV hf)
      · rw [if_neg c2] at hf
        refine g_aload_n_0 C dX8_giveBack_12 ?_
        refine g_bipush (v := (16 : Int32)) C dX8_giveBack_13 (by decide) ?_
        refine g_iload_n_1 C dX8_giveBack_15 ?_
        refine g_imul C dX8_giveBack_16 ?_
        refine g_iload_n_3 C dX8_giveBack_17 ?_
        refine g_iadd C dX8_giveBack_18 ?_
        refine g_bipush (v := (16 : Int32)) C dX8_giveBack_19 (by decide) ?_
        refine g_iload_n_1 C dX8_giveBack_21 ?_
        refine g_imul C dX8_giveBack_22 ?_
        refine g_iload_n_3 C dX8_giveBack_23 ?_
        refine g_iadd C dX8_giveBack_24 ?_
        refine g_iconst (v := (1 : Int32)) C dX8_giveBack_25 (by decide) ?_
        refine g_isub C dX8_giveBack_26 ?_
        obtain ⟨q13, hq13, hf⟩ := en_bnd hf
        refine gc_X8_281_M_put C (ctM_put _ _ _ q13.1 q13.2 hq13) (by decide) (Nat.le_of_ble_eq_true rfl) dX8_giveBack_27 ?_
        refine g_iinc_3 (z := (-1 : Int32)) C dX8_giveBack_30 (by decide) (by decide) rfl ?_
        refine g_goto (tgt := 7) C dX8_giveBack_33 (by decide) ?_
        exact g_weak (ih _ _ _ _ hf) (And.intro rfl (And.intro rfl (And.intro rfl (And.intro rfl trivial))))
  unfold fM_giveBack at hf
  refine g_aload_n_0 C dX8_giveBack_0 ?_
  refine gf_X8_35 C dX8_giveBack_1 ?_
  refine g_iload_n_1 C dX8_giveBack_4 ?_
  obtain ⟨y1, hy1, hf⟩ := en_bnd hf
  refine gaM_ld_9 C hy1 dX8_giveBack_5 ?_
  refine g_istore_n_3 C dX8_giveBack_6 (by decide) rfl ?_
  exact g_weak ((L _) _ _ _ _ hf) (And.intro rfl (And.intro rfl (And.intro rfl (And.intro rfl trivial))))
set_option maxHeartbeats 4000000 in
set_option maxRecDepth 100000 in
theorem ctM_shrink {l : Launch} {D : va_G} {K : en_K} {ad : Nat → Nat} (x1 : Int32) (u : Ug) (r0 : Int32) (u0 : Ug) (hf : fM_shrink x1 u = some (r0, u0)) : CT l D (en_ty K) ad (10) yX8_shrink cX8_shrink 6 (some .int) [.ref 0, .int x1] (wdM K u) (en_RI (wdM K) r0 u0) := by
  refine CT.of (by decide) [some (.ref 0), some (.int x1), none, none, none, none] rfl (Nat.le_of_ble_eq_true rfl) ?_
  intro p e R s m args below meth c sz C
  have L : ∀ n : Nat, (∀ (v1 : Int32) (v2 : Int32) (v3 : Int32) (w : Ug), (kM_shrink n).1 v1 v2 v3 w = some (r0, u0) → G p l e R s m args below meth c D (va_A (en_ws ad (wdM K u)) sz) 6 ad 0 0 (en_Q below D (en_ty K) ad (wdM K u) sz (en_RI (wdM K) r0 u0) args s) 29 [some (.ref 0), some (.int v1), some (.int v2), some (.int v3), none, none] [] (wdM K w)) ∧ (∀ (v1 : Int32) (v2 : Int32) (v3 : Int32) (v4 : Int32) (w : Ug), (kM_shrink n).2 v1 v2 v3 v4 w = some (r0, u0) → G p l e R s m args below meth c D (va_A (en_ws ad (wdM K u)) sz) 6 ad 0 0 (en_Q below D (en_ty K) ad (wdM K u) sz (en_RI (wdM K) r0 u0) args s) 38 [some (.ref 0), some (.int v1), some (.int v2), some (.int v3), some (.int v4), none] [] (wdM K w)) := by
    intro n
    induction n with
    | zero => exact ⟨fun _ _ _ _ hf => absurd hf (by intro q; cases q), fun _ _ _ _ _ hf => absurd hf (by intro q; cases q)⟩
    | succ n ih =>
      refine ⟨?_, ?_⟩
      · intro v1 v2 v3 u hf
        have hf : sM_shrink_29 (kM_shrink n).1 (kM_shrink n).2 v1 v2 v3 u = some (r0, u0) := hf
        unfold sM_shrink_29 at hf
        refine g_iload_n_3 C dX8_shrink_29 ?_
        refine g_if_eq (tgt := 116) C dX8_shrink_30 (by decide) (fun c5 => ?_) (fun c5 => ?_)
        · rw [if_pos c5] at hf
          refine g_aload_n_0 C dX8_shrink_116 ?_
          refine gf_X8_35 C dX8_shrink_117 ?_
          refine g_iload_n_1 C dX8_shrink_120 ?_
          obtain ⟨y6, hy6, hf⟩ := en_bnd hf
          refine gaM_ld_9 C hy6 dX8_shrink_121 ?_
          exact g_iret C dX8_shrink_122 (en_finI hf)
        · rw [if_neg c5] at hf
          refine g_iconst (v := (0 : Int32)) C dX8_shrink_33 (by decide) ?_
          refine g_istore_n_3 C dX8_shrink_34 (by decide) rfl ?_
          refine g_iconst (v := (0 : Int32)) C dX8_shrink_35 (by decide) ?_
          refine g_istore_4 C dX8_shrink_36 (by decide) rfl ?_
          exact g_weak (ih.2 _ _ _ _ _ hf) (And.intro rfl (And.intro rfl (And.intro rfl (And.intro rfl (And.intro rfl trivial)))))
      · intro v1 v2 v3 v4 u hf
        have hf : sM_shrink_38 (kM_shrink n).1 (kM_shrink n).2 v1 v2 v3 v4 u = some (r0, u0) := hf
        unfold sM_shrink_38 at hf
        refine g_iload_4 C dX8_shrink_38 ?_
        refine g_aload_n_0 C dX8_shrink_40 ?_
        refine gf_X8_35 C dX8_shrink_41 ?_
        refine g_iload_n_1 C dX8_shrink_44 ?_
        obtain ⟨y7, hy7, hf⟩ := en_bnd hf
        refine gaM_ld_9 C hy7 dX8_shrink_45 ?_
        refine g_if_icmp_ge (tgt := 113) C dX8_shrink_46 (by decide) (fun c8 => ?_) (fun c8 => ?_)
        · rw [if_pos c8] at hf
          refine g_goto (tgt := 29) C dX8_shrink_113 (by decide) ?_
          exact g_weak (ih.1 _ _ _ _ hf) (And.intro rfl (And.intro rfl (And.intro rfl (And.intro rfl trivial))))
        · rw [if_neg c8] at hf
          refine g_aload_n_0 C dX8_shrink_49 ?_
          refine g_iload_n_1 C dX8_shrink_50 ?_
          refine g_iload_4 C dX8_shrink_51 ?_
          obtain ⟨q9, hq9, hf⟩ := en_bnd hf
          refine gc_X8_284_M_remove C (ctM_remove _ _ _ q9.1 q9.2 hq9) (by decide) (Nat.le_of_ble_eq_true rfl) dX8_shrink_53 ?_
          refine g_iload_4 C dX8_shrink_56 ?_
          refine g_iload_n_2 C dX8_shrink_58 ?_
          refine g_if_icmp_ge (tgt := 68) C dX8_shrink_59 (by decide) (fun c10 => ?_) (fun c10 => ?_)
          · rw [if_pos c10] at hf
            refine g_iload_4 C dX8_shrink_68 ?_
            refine g_iload_n_2 C dX8_shrink_70 ?_
            refine g_if_icmp_ne (tgt := 79) C dX8_shrink_71 (by decide) (fun c11 => ?_) (fun c11 => ?_)
            · rw [if_neg c11] at hf
              refine g_iload_n_2 C dX8_shrink_79 ?_
              refine g_istore_5 C dX8_shrink_80 (by decide) rfl ?_
              refine g_aload_n_0 C dX8_shrink_82 ?_
              refine g_iload_n_1 C dX8_shrink_83 ?_
              obtain ⟨q12, hq12, hf⟩ := en_bnd hf
              refine gc_X8_268_M_runs C (ctM_runs _ _ q12.1 q12.2 hq12) (by decide) (Nat.le_of_ble_eq_true rfl) dX8_shrink_84 ?_
              refine g_iload_5 C dX8_shrink_87 ?_
              refine g_if_icmp_ne (tgt := 100) C dX8_shrink_89 (by decide) (fun c13 => ?_) (fun c13 => ?_)
              · rw [if_neg c13] at hf
                refine g_aload_n_0 C dX8_shrink_100 ?_
                refine g_iload_n_1 C dX8_shrink_101 ?_
                refine g_iload_4 C dX8_shrink_102 ?_
                obtain ⟨q14, hq14, hf⟩ := en_bnd hf
                refine gc_X8_287_M_giveBack C (ctM_giveBack _ _ _ q14.1 q14.2 hq14) (by decide) (Nat.le_of_ble_eq_true rfl) dX8_shrink_104 ?_
                refine g_iinc_4 (z := (1 : Int32)) C dX8_shrink_107 (by decide) (by decide) rfl ?_
                refine g_goto (tgt := 38) C dX8_shrink_110 (by decide) ?_
                exact g_weak (ih.2 _ _ _ _ _ hf) (And.intro rfl (And.intro rfl (And.intro rfl (And.intro rfl (And.intro rfl trivial)))))
              · rw [if_pos c13] at hf
                refine g_iload_5 C dX8_shrink_92 ?_
                refine g_istore_n_2 C dX8_shrink_94 (by decide) rfl ?_
                refine g_iconst (v := (1 : Int32)) C dX8_shrink_95 (by decide) ?_
                refine g_istore_n_3 C dX8_shrink_96 (by decide) rfl ?_
                refine g_goto (tgt := 110) C dX8_shrink_97 (by decide) ?_
                refine g_goto (tgt := 38) C dX8_shrink_110 (by decide) ?_
                exact g_weak (ih.2 _ _ _ _ _ hf) (And.intro rfl (And.intro rfl (And.intro rfl (And.intro rfl (And.intro rfl trivial)))))
            · rw [if_pos c11] at hf
              refine g_bipush (v := (16 : Int32)) C dX8_shrink_74 (by decide) ?_
              refine g_goto (tgt := 80) C dX8_shrink_76 (by decide) ?_
              refine g_istore_5 C dX8_shrink_80 (by decide) rfl ?_
              refine g_aload_n_0 C dX8_shrink_82 ?_
              refine g_iload_n_1 C dX8_shrink_83 ?_
              obtain ⟨q15, hq15, hf⟩ := en_bnd hf
              refine gc_X8_268_M_runs C (ctM_runs _ _ q15.1 q15.2 hq15) (by decide) (Nat.le_of_ble_eq_true rfl) dX8_shrink_84 ?_
              refine g_iload_5 C dX8_shrink_87 ?_
              refine g_if_icmp_ne (tgt := 100) C dX8_shrink_89 (by decide) (fun c16 => ?_) (fun c16 => ?_)
              · rw [if_neg c16] at hf
                refine g_aload_n_0 C dX8_shrink_100 ?_
                refine g_iload_n_1 C dX8_shrink_101 ?_
                refine g_iload_4 C dX8_shrink_102 ?_
                obtain ⟨q17, hq17, hf⟩ := en_bnd hf
                refine gc_X8_287_M_giveBack C (ctM_giveBack _ _ _ q17.1 q17.2 hq17) (by decide) (Nat.le_of_ble_eq_true rfl) dX8_shrink_104 ?_
                refine g_iinc_4 (z := (1 : Int32)) C dX8_shrink_107 (by decide) (by decide) rfl ?_
                refine g_goto (tgt := 38) C dX8_shrink_110 (by decide) ?_
                exact g_weak (ih.2 _ _ _ _ _ hf) (And.intro rfl (And.intro rfl (And.intro rfl (And.intro rfl (And.intro rfl trivial)))))
              · rw [if_pos c16] at hf
                refine g_iload_5 C dX8_shrink_92 ?_
                refine g_istore_n_2 C dX8_shrink_94 (by decide) rfl ?_
                refine g_iconst (v := (1 : Int32)) C dX8_shrink_95 (by decide) ?_
                refine g_istore_n_3 C dX8_shrink_96 (by decide) rfl ?_
                refine g_goto (tgt := 110) C dX8_shrink_97 (by decide) ?_
                refine g_goto (tgt := 38) C dX8_shrink_110 (by decide) ?_
                exact g_weak (ih.2 _ _ _ _ _ hf) (And.intro rfl (And.intro rfl (And.intro rfl (And.intro rfl (And.intro rfl trivial)))))
          · rw [if_neg c10] at hf
            refine g_iload_n_2 C dX8_shrink_62 ?_
            refine g_iconst (v := (1 : Int32)) C dX8_shrink_63 (by decide) ?_
            refine g_isub C dX8_shrink_64 ?_
            refine g_goto (tgt := 80) C dX8_shrink_65 (by decide) ?_
            refine g_istore_5 C dX8_shrink_80 (by decide) rfl ?_
            refine g_aload_n_0 C dX8_shrink_82 ?_
            refine g_iload_n_1 C dX8_shrink_83 ?_
            obtain ⟨q18, hq18, hf⟩ := en_bnd hf
            refine gc_X8_268_M_runs C (ctM_runs _ _ q18.1 q18.2 hq18) (by decide) (Nat.le_of_ble_eq_true rfl) dX8_shrink_84 ?_
            refine g_iload_5 C dX8_shrink_87 ?_
            refine g_if_icmp_ne (tgt := 100) C dX8_shrink_89 (by decide) (fun c19 => ?_) (fun c19 => ?_)
            · rw [if_neg c19] at hf
              refine g_aload_n_0 C dX8_shrink_100 ?_
              refine g_iload_n_1 C dX8_shrink_101 ?_
              refine g_iload_4 C dX8_shrink_102 ?_
              obtain ⟨q20, hq20, hf⟩ := en_bnd hf
              refine gc_X8_287_M_giveBack C (ctM_giveBack _ _ _ q20.1 q20.2 hq20) (by decide) (Nat.le_of_ble_eq_true rfl) dX8_shrink_104 ?_
              refine g_iinc_4 (z := (1 : Int32)) C dX8_shrink_107 (by decide) (by decide) rfl ?_
              refine g_goto (tgt := 38) C dX8_shrink_110 (by decide) ?_
              exact g_weak (ih.2 _ _ _ _ _ hf) (And.intro rfl (And.intro rfl (And.intro rfl (And.intro rfl (And.intro rfl trivial)))))
            · rw [if_pos c19] at hf
              refine g_iload_5 C dX8_shrink_92 ?_
              refine g_istore_n_2 C dX8_shrink_94 (by decide) rfl ?_
              refine g_iconst (v := (1 : Int32)) C dX8_shrink_95 (by decide) ?_
              refine g_istore_n_3 C dX8_shrink_96 (by decide) rfl ?_
              refine g_goto (tgt := 110) C dX8_shrink_97 (by decide) ?_
              refine g_goto (tgt := 38) C dX8_shrink_110 (by decide) ?_
              exact g_weak (ih.2 _ _ _ _ _ hf) (And.intro rfl (And.intro rfl (And.intro rfl (And.intro rfl (And.intro rfl trivial)))))
  unfold fM_shrink at hf
  refine g_iload_n_1 C dX8_shrink_0 ?_
  refine g_i2l C dX8_shrink_1 ?_
  refine g_lconst (v := (0 : Int64)) C dX8_shrink_2 (by decide) ?_
  refine gl_X8_237 C dX8_shrink_3 ?_
  obtain ⟨q1, hq1, hf⟩ := en_bnd hf
  refine gc_X8_123_M_in C (ctM_in _ _ _ _ q1.1 q1.2 hq1) (by decide) (Nat.le_of_ble_eq_true rfl) dX8_shrink_6 ?_
  refine g_if_ne (tgt := 15) C dX8_shrink_9 (by decide) (fun c2 => ?_) (fun c2 => ?_)
  · rw [if_neg c2] at hf
    refine g_aload_n_0 C dX8_shrink_15 ?_
    refine g_iload_n_1 C dX8_shrink_16 ?_
    obtain ⟨q3, hq3, hf⟩ := en_bnd hf
    refine gc_X8_268_M_runs C (ctM_runs _ _ q3.1 q3.2 hq3) (by decide) (Nat.le_of_ble_eq_true rfl) dX8_shrink_17 ?_
    refine g_istore_n_2 C dX8_shrink_20 (by decide) rfl ?_
    refine g_iload_n_2 C dX8_shrink_21 ?_
    refine g_if_ge (tgt := 27) C dX8_shrink_22 (by decide) (fun c4 => ?_) (fun c4 => ?_)
    · rw [if_pos c4] at hf
      refine g_iconst (v := (1 : Int32)) C dX8_shrink_27 (by decide) ?_
      refine g_istore_n_3 C dX8_shrink_28 (by decide) rfl ?_
      exact g_weak ((L _).1 _ _ _ _ hf) (And.intro rfl (And.intro rfl (And.intro rfl (And.intro rfl trivial))))
    · rw [if_neg c4] at hf
      refine g_iconst (v := (-1 : Int32)) C dX8_shrink_25 (by decide) ?_
      exact g_iret C dX8_shrink_26 (en_finI hf)
  · rw [if_pos c2] at hf
    refine g_bipush (v := (-2 : Int32)) C dX8_shrink_12 (by decide) ?_
    exact g_iret C dX8_shrink_14 (en_finI hf)
set_option maxHeartbeats 4000000 in
set_option maxRecDepth 100000 in
theorem ctM_lineOf {l : Launch} {D : va_G} {K : en_K} {ad : Nat → Nat} (x1 : Int32) (x2 : Int32) (x3 : Int32) (u : Ug) (r0 : Int32) (u0 : Ug) (hf : fM_lineOf x1 x2 x3 u = some (r0, u0)) : CT l D (en_ty K) ad (2) yX8_lineOf cX8_lineOf 5 (some .int) [.ref 0, .int x1, .int x2, .int x3] (wdM K u) (en_RI (wdM K) r0 u0) := by
  refine CT.of (by decide) [some (.ref 0), some (.int x1), some (.int x2), some (.int x3), none] rfl (Nat.le_of_ble_eq_true rfl) ?_
  intro p e R s m args below meth c sz C
  unfold fM_lineOf at hf
  refine g_iload_n_1 C dX8_lineOf_0 ?_
  refine g_i2l C dX8_lineOf_1 ?_
  refine g_lconst (v := (0 : Int64)) C dX8_lineOf_2 (by decide) ?_
  refine gl_X8_237 C dX8_lineOf_3 ?_
  obtain ⟨q1, hq1, hf⟩ := en_bnd hf
  refine gc_X8_123_M_in C (ctM_in _ _ _ _ q1.1 q1.2 hq1) (by decide) (Nat.le_of_ble_eq_true rfl) dX8_lineOf_6 ?_
  refine g_if_eq (tgt := 42) C dX8_lineOf_9 (by decide) (fun c2 => ?_) (fun c2 => ?_)
  · rw [if_pos c2] at hf
    refine g_iconst (v := (0 : Int32)) C dX8_lineOf_42 (by decide) ?_
    exact g_iret C dX8_lineOf_43 (en_finI hf)
  · rw [if_neg c2] at hf
    refine g_iload_n_2 C dX8_lineOf_12 ?_
    refine g_i2l C dX8_lineOf_13 ?_
    refine g_lconst (v := (0 : Int64)) C dX8_lineOf_14 (by decide) ?_
    refine g_aload_n_0 C dX8_lineOf_15 ?_
    refine gf_X8_35 C dX8_lineOf_16 ?_
    refine g_iload_n_1 C dX8_lineOf_19 ?_
    obtain ⟨y3, hy3, hf⟩ := en_bnd hf
    refine gaM_ld_9 C hy3 dX8_lineOf_20 ?_
    refine g_iconst (v := (1 : Int32)) C dX8_lineOf_21 (by decide) ?_
    refine g_isub C dX8_lineOf_22 ?_
    refine g_i2l C dX8_lineOf_23 ?_
    obtain ⟨q4, hq4, hf⟩ := en_bnd hf
    refine gc_X8_123_M_in C (ctM_in _ _ _ _ q4.1 q4.2 hq4) (by decide) (Nat.le_of_ble_eq_true rfl) dX8_lineOf_24 ?_
    refine g_if_eq (tgt := 42) C dX8_lineOf_27 (by decide) (fun c5 => ?_) (fun c5 => ?_)
    · rw [if_pos c5] at hf
      refine g_iconst (v := (0 : Int32)) C dX8_lineOf_42 (by decide) ?_
      exact g_iret C dX8_lineOf_43 (en_finI hf)
    · rw [if_neg c5] at hf
      refine g_iload_n_3 C dX8_lineOf_30 ?_
      refine g_i2l C dX8_lineOf_31 ?_
      refine g_lconst (v := (0 : Int64)) C dX8_lineOf_32 (by decide) ?_
      refine gl_X8_139 C dX8_lineOf_33 ?_
      obtain ⟨q6, hq6, hf⟩ := en_bnd hf
      refine gc_X8_123_M_in C (ctM_in _ _ _ _ q6.1 q6.2 hq6) (by decide) (Nat.le_of_ble_eq_true rfl) dX8_lineOf_36 ?_
      refine g_if_ne (tgt := 44) C dX8_lineOf_39 (by decide) (fun c7 => ?_) (fun c7 => ?_)
      · rw [if_neg c7] at hf
        refine g_bipush (v := (16 : Int32)) C dX8_lineOf_44 (by decide) ?_
        refine g_iload_n_1 C dX8_lineOf_46 ?_
        refine g_imul C dX8_lineOf_47 ?_
        refine g_iload_n_2 C dX8_lineOf_48 ?_
        refine g_iadd C dX8_lineOf_49 ?_
        refine g_istore_4 C dX8_lineOf_50 (by decide) rfl ?_
        refine g_iload_n_3 C dX8_lineOf_52 ?_
        refine g_if_ne (tgt := 66) C dX8_lineOf_53 (by decide) (fun c8 => ?_) (fun c8 => ?_)
        · rw [if_neg c8] at hf
          refine g_iload_n_3 C dX8_lineOf_66 ?_
          refine g_iconst (v := (1 : Int32)) C dX8_lineOf_67 (by decide) ?_
          refine g_if_icmp_ne (tgt := 81) C dX8_lineOf_68 (by decide) (fun c9 => ?_) (fun c9 => ?_)
          · rw [if_neg c9] at hf
            refine g_iload_n_3 C dX8_lineOf_81 ?_
            refine g_iconst (v := (2 : Int32)) C dX8_lineOf_82 (by decide) ?_
            refine g_if_icmp_ne (tgt := 96) C dX8_lineOf_83 (by decide) (fun c10 => ?_) (fun c10 => ?_)
            · rw [if_neg c10] at hf
              refine g_aload_n_0 C dX8_lineOf_96 ?_
              refine gf_X8_47 C dX8_lineOf_97 ?_
              refine g_iload_4 C dX8_lineOf_100 ?_
              obtain ⟨y11, hy11, hf⟩ := en_bnd hf
              refine gaM_ld_13 C hy11 dX8_lineOf_102 ?_
              exact g_iret C dX8_lineOf_103 (en_finI hf)
            · rw [if_pos c10] at hf
              refine g_aload_n_0 C dX8_lineOf_86 ?_
              refine gf_X8_44 C dX8_lineOf_87 ?_
              refine g_iload_4 C dX8_lineOf_90 ?_
              obtain ⟨y12, hy12, hf⟩ := en_bnd hf
              refine gaM_ld_12 C hy12 dX8_lineOf_92 ?_
              refine g_goto (tgt := 103) C dX8_lineOf_93 (by decide) ?_
              exact g_iret C dX8_lineOf_103 (en_finI hf)
          · rw [if_pos c9] at hf
            refine g_aload_n_0 C dX8_lineOf_71 ?_
            refine gf_X8_41 C dX8_lineOf_72 ?_
            refine g_iload_4 C dX8_lineOf_75 ?_
            obtain ⟨y13, hy13, hf⟩ := en_bnd hf
            refine gaM_ld_11 C hy13 dX8_lineOf_77 ?_
            refine g_goto (tgt := 103) C dX8_lineOf_78 (by decide) ?_
            exact g_iret C dX8_lineOf_103 (en_finI hf)
        · rw [if_pos c8] at hf
          refine g_aload_n_0 C dX8_lineOf_56 ?_
          refine gf_X8_38 C dX8_lineOf_57 ?_
          refine g_iload_4 C dX8_lineOf_60 ?_
          obtain ⟨y14, hy14, hf⟩ := en_bnd hf
          refine gaM_ld_10 C hy14 dX8_lineOf_62 ?_
          refine g_goto (tgt := 103) C dX8_lineOf_63 (by decide) ?_
          exact g_iret C dX8_lineOf_103 (en_finI hf)
      · rw [if_pos c7] at hf
        refine g_iconst (v := (0 : Int32)) C dX8_lineOf_42 (by decide) ?_
        exact g_iret C dX8_lineOf_43 (en_finI hf)
set_option maxHeartbeats 4000000 in
set_option maxRecDepth 100000 in
theorem ctM_covered {l : Launch} {D : va_G} {K : en_K} {ad : Nat → Nat} (x1 : Int32) (x2 : Int32) (u : Ug) (r0 : Int32) (u0 : Ug) (hf : fM_covered x1 x2 u = some (r0, u0)) : CT l D (en_ty K) ad (3) yX8_covered cX8_covered 3 (some .int) [.ref 0, .int x1, .int x2] (wdM K u) (en_RI (wdM K) r0 u0) := by
  refine CT.of (by decide) [some (.ref 0), some (.int x1), some (.int x2)] rfl (Nat.le_of_ble_eq_true rfl) ?_
  intro p e R s m args below meth c sz C
  unfold fM_covered at hf
  refine g_aload_n_0 C dX8_covered_0 ?_
  refine g_iload_n_1 C dX8_covered_1 ?_
  refine g_iload_n_2 C dX8_covered_2 ?_
  obtain ⟨q1, hq1, hf⟩ := en_bnd hf
  refine gc_X8_145_M_isMember C (ctM_isMember _ _ _ q1.1 q1.2 hq1) (by decide) (Nat.le_of_ble_eq_true rfl) dX8_covered_3 ?_
  refine g_if_eq (tgt := 22) C dX8_covered_6 (by decide) (fun c2 => ?_) (fun c2 => ?_)
  · rw [if_pos c2] at hf
    refine g_iconst (v := (-1 : Int32)) C dX8_covered_22 (by decide) ?_
    exact g_iret C dX8_covered_23 (en_finI hf)
  · rw [if_neg c2] at hf
    refine g_aload_n_0 C dX8_covered_9 ?_
    refine gf_X8_25 C dX8_covered_10 ?_
    refine g_iconst (v := (3 : Int32)) C dX8_covered_13 (by decide) ?_
    refine g_iload_n_1 C dX8_covered_14 ?_
    refine g_imul C dX8_covered_15 ?_
    refine g_iload_n_2 C dX8_covered_16 ?_
    refine g_iadd C dX8_covered_17 ?_
    obtain ⟨y3, hy3, hf⟩ := en_bnd hf
    refine gaM_ld_6 C hy3 dX8_covered_18 ?_
    refine g_goto (tgt := 23) C dX8_covered_19 (by decide) ?_
    exact g_iret C dX8_covered_23 (en_finI hf)
