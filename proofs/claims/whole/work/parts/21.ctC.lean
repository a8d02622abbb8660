/-! CONTRACTS. -/
set_option maxHeartbeats 4000000 in
set_option maxRecDepth 100000 in
theorem ctC_killer {l : Launch} {D : va_G} {K : en_K} {ad : Nat → Nat} (x1 : Int32) (x2 : Int32) (u : Ug) (r0 : Int32) (u0 : Ug) (hf : fC_killer x1 x2 u = some (r0, u0)) : CT l D (en_ty K) ad (2) yX7_killer cX7_killer 3 (some .int) [.ref 0, .int x1, .int x2] (wdC K u) (en_RI (wdC K) r0 u0) := by
  refine CT.of (by decide) [some (.ref 0), some (.int x1), some (.int x2)] rfl (Nat.le_of_ble_eq_true rfl) ?_
  intro p e R s m args below meth c sz C
  unfold fC_killer at hf
  refine g_aload_n_0 C dX7_killer_0 ?_
  refine gf_X7_60 C dX7_killer_1 ?_
  refine g_iload_n_1 C dX7_killer_4 ?_
  refine g_iload_n_2 C dX7_killer_5 ?_
  obtain ⟨q1, hq1, hf⟩ := en_bnd hf
  refine gc_X7_165_C_Mutants_killerOf C (ctC_Mutants_killerOf _ _ _ q1.1 q1.2 hq1) (by decide) (Nat.le_of_ble_eq_true rfl) dX7_killer_6 ?_
  exact g_iret C dX7_killer_9 (en_finI hf)
set_option maxHeartbeats 4000000 in
set_option maxRecDepth 100000 in
theorem ctC_Scripts_dropLines {l : Launch} {D : va_G} {K : en_K} {ad : Nat → Nat} (x1 : Int32) (x2 : Int32) (u : Ug) (r0 : Int32) (u0 : Ug) (hf : fC_Scripts_dropLines x1 x2 u = some (r0, u0)) : CT l D (en_ty K) ad (2) yX5_dropLines cX5_dropLines 6 (some .int) [.ref 15, .int x1, .int x2] (wdC K u) (en_RI (wdC K) r0 u0) := by
  refine CT.of (by decide) [some (.ref 15), some (.int x1), some (.int x2), none, none, none] rfl (Nat.le_of_ble_eq_true rfl) ?_
  intro p e R s m args below meth c sz C
  have L : ∀ n : Nat, (∀ (v1 : Int32) (v2 : Int32) (v3 : Int32) (v4 : Int32) (w : Ug), (kC_Scripts_dropLines n) v1 v2 v3 v4 w = some (r0, u0) → G p l e R s m args below meth c D (va_A (en_ws ad (wdC K u)) sz) 6 ad 0 0 (en_Q below D (en_ty K) ad (wdC K u) sz (en_RI (wdC K) r0 u0) args s) 9 [some (.ref 15), some (.int v1), some (.int v2), some (.int v3), some (.int v4), none] [] (wdC K w)) := by
    intro n
    induction n with
    | zero => exact fun _ _ _ _ _ hf => absurd hf (by intro q; cases q)
    | succ n ih =>
      intro v1 v2 v3 v4 u hf
      have hf : sC_Scripts_dropLines_9 (kC_Scripts_dropLines n) v1 v2 v3 v4 u = some (r0, u0) := hf
      unfold sC_Scripts_dropLines_9 at hf
      refine g_iload_4 C dX5_dropLines_9 ?_
      refine g_iload_n_3 C dX5_dropLines_11 ?_
      refine g_if_icmp_ge (tgt := 69) C dX5_dropLines_12 (by decide) (fun c2 => ?_) (fun c2 => ?_)
      · rw [if_pos c2] at hf
        refine g_aload_n_0 C dX5_dropLines_69 ?_
        refine g_iload_n_1 C dX5_dropLines_70 ?_
        obtain ⟨q3, hq3, hf⟩ := en_bnd hf
        refine gc_X5_51_C_Scripts_size C (ctC_Scripts_size _ _ q3.1 q3.2 hq3) (by decide) (Nat.le_of_ble_eq_true rfl) dX5_dropLines_71 ?_
        exact g_iret C dX5_dropLines_74 (en_finI hf)
      · rw [if_neg c2] at hf
        refine g_iload_n_2 C dX5_dropLines_15 ?_
        refine g_iload_4 C dX5_dropLines_16 ?_
        refine g_ishr C dX5_dropLines_18 ?_
        refine g_iconst (v := (1 : Int32)) C dX5_dropLines_19 (by decide) ?_
        refine g_iand C dX5_dropLines_20 ?_
        refine g_if_ne (tgt := 63) C dX5_dropLines_21 (by decide) (fun c4 => ?_) (fun c4 => ?_)
        · rw [if_neg c4] at hf
          refine g_iinc_4 (z := (1 : Int32)) C dX5_dropLines_63 (by decide) (by decide) rfl ?_
          refine g_goto (tgt := 9) C dX5_dropLines_66 (by decide) ?_
          exact g_weak (ih _ _ _ _ _ hf) (And.intro rfl (And.intro rfl (And.intro rfl (And.intro rfl (And.intro rfl trivial)))))
        · rw [if_pos c4] at hf
          refine g_iload_n_1 C dX5_dropLines_24 ?_
          refine g_bipush (v := (16 : Int32)) C dX5_dropLines_25 (by decide) ?_
          refine g_imul C dX5_dropLines_27 ?_
          refine g_iload_4 C dX5_dropLines_28 ?_
          refine g_iadd C dX5_dropLines_30 ?_
          refine g_istore_5 C dX5_dropLines_31 (by decide) rfl ?_
          refine g_aload_n_0 C dX5_dropLines_33 ?_
          refine g_iload_n_1 C dX5_dropLines_34 ?_
          refine g_aload_n_0 C dX5_dropLines_35 ?_
          refine g_iload_5 C dX5_dropLines_36 ?_
          obtain ⟨q5, hq5, hf⟩ := en_bnd hf
          refine gc_X5_35_C_Scripts_word C (ctC_Scripts_word _ _ q5.1 q5.2 hq5) (by decide) (Nat.le_of_ble_eq_true rfl) dX5_dropLines_38 ?_
          refine g_aload_n_0 C dX5_dropLines_41 ?_
          refine g_iload_5 C dX5_dropLines_42 ?_
          obtain ⟨q6, hq6, hf⟩ := en_bnd hf
          refine gc_X5_38_C_Scripts_a C (ctC_Scripts_a _ _ q6.1 q6.2 hq6) (by decide) (Nat.le_of_ble_eq_true rfl) dX5_dropLines_44 ?_
          refine g_aload_n_0 C dX5_dropLines_47 ?_
          refine g_iload_5 C dX5_dropLines_48 ?_
          obtain ⟨q7, hq7, hf⟩ := en_bnd hf
          refine gc_X5_41_C_Scripts_b C (ctC_Scripts_b _ _ q7.1 q7.2 hq7) (by decide) (Nat.le_of_ble_eq_true rfl) dX5_dropLines_50 ?_
          refine g_aload_n_0 C dX5_dropLines_53 ?_
          refine g_iload_5 C dX5_dropLines_54 ?_
          obtain ⟨q8, hq8, hf⟩ := en_bnd hf
          refine gc_X5_44_C_Scripts_c C (ctC_Scripts_c _ _ q8.1 q8.2 hq8) (by decide) (Nat.le_of_ble_eq_true rfl) dX5_dropLines_56 ?_
          obtain ⟨q9, hq9, hf⟩ := en_bnd hf
          refine gc_X5_47_C_Scripts_append C (ctC_Scripts_append _ _ _ _ _ _ q9.1 q9.2 hq9) (by decide) (Nat.le_of_ble_eq_true rfl) dX5_dropLines_59 ?_
          refine g_pop C dX5_dropLines_62 rfl ?_
          refine g_iinc_4 (z := (1 : Int32)) C dX5_dropLines_63 (by decide) (by decide) rfl ?_
          refine g_goto (tgt := 9) C dX5_dropLines_66 (by decide) ?_
          exact g_weak (ih _ _ _ _ _ hf) (And.intro rfl (And.intro rfl (And.intro rfl (And.intro rfl (And.intro rfl trivial)))))
  unfold fC_Scripts_dropLines at hf
  refine g_aload_n_0 C dX5_dropLines_0 ?_
  refine g_iload_n_1 C dX5_dropLines_1 ?_
  obtain ⟨q1, hq1, hf⟩ := en_bnd hf
  refine gc_X5_31_C_Scripts_empty C (ctC_Scripts_empty _ _ q1.1 q1.2 hq1) (by decide) (Nat.le_of_ble_eq_true rfl) dX5_dropLines_2 ?_
  refine g_istore_n_3 C dX5_dropLines_5 (by decide) rfl ?_
  refine g_iconst (v := (0 : Int32)) C dX5_dropLines_6 (by decide) ?_
  refine g_istore_4 C dX5_dropLines_7 (by decide) rfl ?_
  exact g_weak ((L _) _ _ _ _ _ hf) (And.intro rfl (And.intro rfl (And.intro rfl (And.intro rfl (And.intro rfl trivial)))))
set_option maxHeartbeats 4000000 in
set_option maxRecDepth 100000 in
theorem ctC_shrink {l : Launch} {D : va_G} {K : en_K} {ad : Nat → Nat} (x1 : Int32) (u : Ug) (r0 : Int32) (u0 : Ug) (hf : fC_shrink x1 u = some (r0, u0)) : CT l D (en_ty K) ad (107) yX7_shrink cX7_shrink 9 (some .int) [.ref 0, .int x1] (wdC K u) (en_RI (wdC K) r0 u0) := by
  refine CT.of (by decide) [some (.ref 0), some (.int x1), none, none, none, none, none, none, none] rfl (Nat.le_of_ble_eq_true rfl) ?_
  intro p e R s m args below meth c sz C
  have L : ∀ n : Nat, (∀ (v1 : Int32) (v2 : Int32) (v3 : Int32) (v4 : Int32) (v5 : Int32) (v6 : Int32) (w : Ug), (kC_shrink n).1 v1 v2 v3 v4 v5 v6 w = some (r0, u0) → G p l e R s m args below meth c D (va_A (en_ws ad (wdC K u)) sz) 9 ad 0 0 (en_Q below D (en_ty K) ad (wdC K u) sz (en_RI (wdC K) r0 u0) args s) 45 [some (.ref 0), some (.int v1), some (.int v2), some (.int v3), some (.int v4), some (.int v5), some (.int v6), none, none] [] (wdC K w)) ∧ (∀ (v1 : Int32) (v2 : Int32) (v3 : Int32) (v4 : Int32) (v5 : Int32) (v6 : Int32) (v7 : Int32) (w : Ug), (kC_shrink n).2 v1 v2 v3 v4 v5 v6 v7 w = some (r0, u0) → G p l e R s m args below meth c D (va_A (en_ws ad (wdC K u)) sz) 9 ad 0 0 (en_Q below D (en_ty K) ad (wdC K u) sz (en_RI (wdC K) r0 u0) args s) 62 [some (.ref 0), some (.int v1), some (.int v2), some (.int v3), some (.int v4), some (.int v5), some (.int v6), some (.int v7), none] [] (wdC K w)) := by
    intro n
    induction n with
    | zero => exact ⟨fun _ _ _ _ _ _ _ hf => absurd hf (by intro q; cases q), fun _ _ _ _ _ _ _ _ hf => absurd hf (by intro q; cases q)⟩
    | succ n ih =>
      refine ⟨?_, ?_⟩
      · intro v1 v2 v3 v4 v5 v6 u hf
        have hf : sC_shrink_45 (kC_shrink n).1 (kC_shrink n).2 v1 v2 v3 v4 v5 v6 u = some (r0, u0) := hf
        unfold sC_shrink_45 at hf
        refine g_iload_5 C dX7_shrink_45 ?_
        refine g_if_eq (tgt := 117) C dX7_shrink_47 (by decide) (fun c6 => ?_) (fun c6 => ?_)
        · rw [if_pos c6] at hf
          refine g_aload_n_0 C dX7_shrink_117 ?_
          refine gf_X7_42 C dX7_shrink_118 ?_
          refine g_iload_n_1 C dX7_shrink_121 ?_
          refine g_iload_4 C dX7_shrink_122 ?_
          obtain ⟨q7, hq7, hf⟩ := en_bnd hf
          refine gc_X7_171_C_Scripts_dropLines C (ctC_Scripts_dropLines _ _ _ q7.1 q7.2 hq7) (by decide) (Nat.le_of_ble_eq_true rfl) dX7_shrink_124 ?_
          exact g_iret C dX7_shrink_127 (en_finI hf)
        · rw [if_neg c6] at hf
          refine g_iload_6 C dX7_shrink_50 ?_
          refine g_iload_n_3 C dX7_shrink_52 ?_
          refine g_if_icmp_gt (tgt := 117) C dX7_shrink_53 (by decide) (fun c8 => ?_) (fun c8 => ?_)
          · rw [if_pos c8] at hf
            refine g_aload_n_0 C dX7_shrink_117 ?_
            refine gf_X7_42 C dX7_shrink_118 ?_
            refine g_iload_n_1 C dX7_shrink_121 ?_
            refine g_iload_4 C dX7_shrink_122 ?_
            obtain ⟨q9, hq9, hf⟩ := en_bnd hf
            refine gc_X7_171_C_Scripts_dropLines C (ctC_Scripts_dropLines _ _ _ q9.1 q9.2 hq9) (by decide) (Nat.le_of_ble_eq_true rfl) dX7_shrink_124 ?_
            exact g_iret C dX7_shrink_127 (en_finI hf)
          · rw [if_neg c8] at hf
            refine g_iconst (v := (0 : Int32)) C dX7_shrink_56 (by decide) ?_
            refine g_istore_5 C dX7_shrink_57 (by decide) rfl ?_
            refine g_iconst (v := (0 : Int32)) C dX7_shrink_59 (by decide) ?_
            refine g_istore_7 C dX7_shrink_60 (by decide) rfl ?_
            exact g_weak (ih.2 _ _ _ _ _ _ _ _ hf) (And.intro rfl (And.intro rfl (And.intro rfl (And.intro rfl (And.intro rfl (And.intro rfl (And.intro rfl (And.intro rfl trivial))))))))
      · intro v1 v2 v3 v4 v5 v6 v7 u hf
        have hf : sC_shrink_62 (kC_shrink n).1 (kC_shrink n).2 v1 v2 v3 v4 v5 v6 v7 u = some (r0, u0) := hf
        unfold sC_shrink_62 at hf
        refine g_iload_7 C dX7_shrink_62 ?_
        refine g_iload_n_3 C dX7_shrink_64 ?_
        refine g_if_icmp_ge (tgt := 111) C dX7_shrink_65 (by decide) (fun c10 => ?_) (fun c10 => ?_)
        · rw [if_pos c10] at hf
          refine g_iinc_6 (z := (1 : Int32)) C dX7_shrink_111 (by decide) (by decide) rfl ?_
          refine g_goto (tgt := 45) C dX7_shrink_114 (by decide) ?_
          exact g_weak (ih.1 _ _ _ _ _ _ _ hf) (And.intro rfl (And.intro rfl (And.intro rfl (And.intro rfl (And.intro rfl (And.intro rfl (And.intro rfl trivial)))))))
        · rw [if_neg c10] at hf
          refine g_iload_4 C dX7_shrink_68 ?_
          refine g_iconst (v := (1 : Int32)) C dX7_shrink_70 (by decide) ?_
          refine g_iload_7 C dX7_shrink_71 ?_
          refine g_ishl C dX7_shrink_73 ?_
          refine g_ior C dX7_shrink_74 ?_
          refine g_istore_8 C dX7_shrink_75 (by decide) rfl ?_
          refine g_iload_8 C dX7_shrink_77 ?_
          refine g_iload_4 C dX7_shrink_79 ?_
          refine g_if_icmp_eq (tgt := 105) C dX7_shrink_81 (by decide) (fun c11 => ?_) (fun c11 => ?_)
          · rw [if_pos c11] at hf
            refine g_iinc_7 (z := (1 : Int32)) C dX7_shrink_105 (by decide) (by decide) rfl ?_
            refine g_goto (tgt := 62) C dX7_shrink_108 (by decide) ?_
            exact g_weak (ih.2 _ _ _ _ _ _ _ _ hf) (And.intro rfl (And.intro rfl (And.intro rfl (And.intro rfl (And.intro rfl (And.intro rfl (And.intro rfl (And.intro rfl trivial))))))))
          · rw [if_neg c11] at hf
            refine g_aload_n_0 C dX7_shrink_84 ?_
            refine gf_X7_51 C dX7_shrink_85 ?_
            refine g_iload_n_1 C dX7_shrink_88 ?_
            refine g_iload_8 C dX7_shrink_89 ?_
            obtain ⟨q12, hq12, hf⟩ := en_bnd hf
            refine gc_X7_134_C_Runner_failingLine C (ctC_Runner_failingLine _ _ _ q12.1 q12.2 hq12) (by decide) (Nat.le_of_ble_eq_true rfl) dX7_shrink_91 ?_
            refine g_iload_n_2 C dX7_shrink_94 ?_
            refine g_if_icmp_ne (tgt := 105) C dX7_shrink_95 (by decide) (fun c13 => ?_) (fun c13 => ?_)
            · rw [if_neg c13] at hf
              refine g_iinc_7 (z := (1 : Int32)) C dX7_shrink_105 (by decide) (by decide) rfl ?_
              refine g_goto (tgt := 62) C dX7_shrink_108 (by decide) ?_
              exact g_weak (ih.2 _ _ _ _ _ _ _ _ hf) (And.intro rfl (And.intro rfl (And.intro rfl (And.intro rfl (And.intro rfl (And.intro rfl (And.intro rfl (And.intro rfl trivial))))))))
            · rw [if_pos c13] at hf
              refine g_iload_8 C dX7_shrink_98 ?_
              refine g_istore_4 C dX7_shrink_100 (by decide) rfl ?_
              refine g_iconst (v := (1 : Int32)) C dX7_shrink_102 (by decide) ?_
              refine g_istore_5 C dX7_shrink_103 (by decide) rfl ?_
              refine g_iinc_7 (z := (1 : Int32)) C dX7_shrink_105 (by decide) (by decide) rfl ?_
              refine g_goto (tgt := 62) C dX7_shrink_108 (by decide) ?_
              exact g_weak (ih.2 _ _ _ _ _ _ _ _ hf) (And.intro rfl (And.intro rfl (And.intro rfl (And.intro rfl (And.intro rfl (And.intro rfl (And.intro rfl (And.intro rfl trivial))))))))
  unfold fC_shrink at hf
  refine g_iload_n_1 C dX7_shrink_0 ?_
  obtain ⟨q1, hq1, hf⟩ := en_bnd hf
  refine gc_X7_124_C_Scripts_isTest C (ctC_Scripts_isTest _ _ q1.1 q1.2 hq1) (by decide) (Nat.le_of_ble_eq_true rfl) dX7_shrink_1 ?_
  refine g_if_ne (tgt := 10) C dX7_shrink_4 (by decide) (fun c2 => ?_) (fun c2 => ?_)
  · rw [if_neg c2] at hf
    refine g_aload_n_0 C dX7_shrink_10 ?_
    refine gf_X7_51 C dX7_shrink_11 ?_
    refine g_iload_n_1 C dX7_shrink_14 ?_
    refine g_iconst (v := (0 : Int32)) C dX7_shrink_15 (by decide) ?_
    obtain ⟨q3, hq3, hf⟩ := en_bnd hf
    refine gc_X7_134_C_Runner_failingLine C (ctC_Runner_failingLine _ _ _ q3.1 q3.2 hq3) (by decide) (Nat.le_of_ble_eq_true rfl) dX7_shrink_16 ?_
    refine g_istore_n_2 C dX7_shrink_19 (by decide) rfl ?_
    refine g_iload_n_2 C dX7_shrink_20 ?_
    refine g_iconst (v := (-1 : Int32)) C dX7_shrink_21 (by decide) ?_
    refine g_if_icmp_ne (tgt := 27) C dX7_shrink_22 (by decide) (fun c4 => ?_) (fun c4 => ?_)
    · rw [if_neg c4] at hf
      refine g_aload_n_0 C dX7_shrink_27 ?_
      refine gf_X7_42 C dX7_shrink_28 ?_
      refine g_iload_n_1 C dX7_shrink_31 ?_
      obtain ⟨q5, hq5, hf⟩ := en_bnd hf
      refine gc_X7_168_C_Scripts_size C (ctC_Scripts_size _ _ q5.1 q5.2 hq5) (by decide) (Nat.le_of_ble_eq_true rfl) dX7_shrink_32 ?_
      refine g_istore_n_3 C dX7_shrink_35 (by decide) rfl ?_
      refine g_iconst (v := (0 : Int32)) C dX7_shrink_36 (by decide) ?_
      refine g_istore_4 C dX7_shrink_37 (by decide) rfl ?_
      refine g_iconst (v := (1 : Int32)) C dX7_shrink_39 (by decide) ?_
      refine g_istore_5 C dX7_shrink_40 (by decide) rfl ?_
      refine g_iconst (v := (0 : Int32)) C dX7_shrink_42 (by decide) ?_
      refine g_istore_6 C dX7_shrink_43 (by decide) rfl ?_
      exact g_weak ((L _).1 _ _ _ _ _ _ _ hf) (And.intro rfl (And.intro rfl (And.intro rfl (And.intro rfl (And.intro rfl (And.intro rfl (And.intro rfl trivial)))))))
    · rw [if_pos c4] at hf
      refine g_iconst (v := (-1 : Int32)) C dX7_shrink_25 (by decide) ?_
      exact g_iret C dX7_shrink_26 (en_finI hf)
  · rw [if_pos c2] at hf
    refine g_bipush (v := (-2 : Int32)) C dX7_shrink_7 (by decide) ?_
    exact g_iret C dX7_shrink_9 (en_finI hf)
set_option maxHeartbeats 4000000 in
set_option maxRecDepth 100000 in
theorem ctC_lineOf {l : Launch} {D : va_G} {K : en_K} {ad : Nat → Nat} (x1 : Int32) (x2 : Int32) (x3 : Int32) (u : Ug) (r0 : Int32) (u0 : Ug) (hf : fC_lineOf x1 x2 x3 u = some (r0, u0)) : CT l D (en_ty K) ad (2) yX7_lineOf cX7_lineOf 5 (some .int) [.ref 0, .int x1, .int x2, .int x3] (wdC K u) (en_RI (wdC K) r0 u0) := by
  refine CT.of (by decide) [some (.ref 0), some (.int x1), some (.int x2), some (.int x3), none] rfl (Nat.le_of_ble_eq_true rfl) ?_
  intro p e R s m args below meth c sz C
  unfold fC_lineOf at hf
  refine g_aload_n_0 C dX7_lineOf_0 ?_
  refine gf_X7_42 C dX7_lineOf_1 ?_
  refine g_iload_n_1 C dX7_lineOf_4 ?_
  refine g_iload_n_2 C dX7_lineOf_5 ?_
  obtain ⟨q1, hq1, hf⟩ := en_bnd hf
  refine gc_X7_174_C_Scripts_slotOf C (ctC_Scripts_slotOf _ _ _ q1.1 q1.2 hq1) (by decide) (Nat.le_of_ble_eq_true rfl) dX7_lineOf_6 ?_
  refine g_istore_4 C dX7_lineOf_9 (by decide) rfl ?_
  refine g_iload_4 C dX7_lineOf_11 ?_
  refine g_if_ge (tgt := 18) C dX7_lineOf_13 (by decide) (fun c2 => ?_) (fun c2 => ?_)
  · rw [if_pos c2] at hf
    refine g_iload_n_3 C dX7_lineOf_18 ?_
    rcases Decidable.em (x3 = (0 : Int32)) with s19_0 | s19_0
    · rw [if_pos s19_0] at hf
      refine g_tsw (z := (0 : Int32)) (tgt := 48) C dX7_lineOf_19 s19_0 (by decide) (by decide) rfl (by decide) ?_
      refine g_aload_n_0 C dX7_lineOf_48 ?_
      refine gf_X7_42 C dX7_lineOf_49 ?_
      refine g_iload_4 C dX7_lineOf_52 ?_
      obtain ⟨q3, hq3, hf⟩ := en_bnd hf
      refine gc_X7_177_C_Scripts_word C (ctC_Scripts_word _ _ q3.1 q3.2 hq3) (by decide) (Nat.le_of_ble_eq_true rfl) dX7_lineOf_54 ?_
      exact g_iret C dX7_lineOf_57 (en_finI hf)
    rw [if_neg s19_0] at hf
    rcases Decidable.em (x3 = (1 : Int32)) with s19_1 | s19_1
    · rw [if_pos s19_1] at hf
      refine g_tsw (z := (1 : Int32)) (tgt := 58) C dX7_lineOf_19 s19_1 (by decide) (by decide) rfl (by decide) ?_
      refine g_aload_n_0 C dX7_lineOf_58 ?_
      refine gf_X7_42 C dX7_lineOf_59 ?_
      refine g_iload_4 C dX7_lineOf_62 ?_
      obtain ⟨q4, hq4, hf⟩ := en_bnd hf
      refine gc_X7_180_C_Scripts_a C (ctC_Scripts_a _ _ q4.1 q4.2 hq4) (by decide) (Nat.le_of_ble_eq_true rfl) dX7_lineOf_64 ?_
      exact g_iret C dX7_lineOf_67 (en_finI hf)
    rw [if_neg s19_1] at hf
    rcases Decidable.em (x3 = (2 : Int32)) with s19_2 | s19_2
    · rw [if_pos s19_2] at hf
      refine g_tsw (z := (2 : Int32)) (tgt := 68) C dX7_lineOf_19 s19_2 (by decide) (by decide) rfl (by decide) ?_
      refine g_aload_n_0 C dX7_lineOf_68 ?_
      refine gf_X7_42 C dX7_lineOf_69 ?_
      refine g_iload_4 C dX7_lineOf_72 ?_
      obtain ⟨q5, hq5, hf⟩ := en_bnd hf
      refine gc_X7_183_C_Scripts_b C (ctC_Scripts_b _ _ q5.1 q5.2 hq5) (by decide) (Nat.le_of_ble_eq_true rfl) dX7_lineOf_74 ?_
      exact g_iret C dX7_lineOf_77 (en_finI hf)
    rw [if_neg s19_2] at hf
    rcases Decidable.em (x3 = (3 : Int32)) with s19_3 | s19_3
    · rw [if_pos s19_3] at hf
      refine g_tsw (z := (3 : Int32)) (tgt := 78) C dX7_lineOf_19 s19_3 (by decide) (by decide) rfl (by decide) ?_
      refine g_aload_n_0 C dX7_lineOf_78 ?_
      refine gf_X7_42 C dX7_lineOf_79 ?_
      refine g_iload_4 C dX7_lineOf_82 ?_
      obtain ⟨q6, hq6, hf⟩ := en_bnd hf
      refine gc_X7_186_C_Scripts_c C (ctC_Scripts_c _ _ q6.1 q6.2 hq6) (by decide) (Nat.le_of_ble_eq_true rfl) dX7_lineOf_84 ?_
      exact g_iret C dX7_lineOf_87 (en_finI hf)
    rw [if_neg s19_3] at hf
    refine g_tswD (tgt := 88) C [(0 : Int32), (1 : Int32), (2 : Int32), (3 : Int32)] dX7_lineOf_19 (And.intro s19_0 (And.intro s19_1 (And.intro s19_2 (And.intro s19_3 trivial)))) 4 (by decide) (by decide) (by decide) ?_
    refine g_iconst (v := (0 : Int32)) C dX7_lineOf_88 (by decide) ?_
    exact g_iret C dX7_lineOf_89 (en_finI hf)
  · rw [if_neg c2] at hf
    refine g_iconst (v := (0 : Int32)) C dX7_lineOf_16 (by decide) ?_
    exact g_iret C dX7_lineOf_17 (en_finI hf)
set_option maxHeartbeats 4000000 in
set_option maxRecDepth 100000 in
theorem ctC_Code_coveredBits {l : Launch} {D : va_G} {K : en_K} {ad : Nat → Nat} (x1 : Int32) (u : Ug) (r0 : Int32) (u0 : Ug) (hf : fC_Code_coveredBits x1 u = some (r0, u0)) : CT l D (en_ty K) ad (1) yX0_coveredBits cX0_coveredBits 2 (some .int) [.ref 3, .int x1] (wdC K u) (en_RI (wdC K) r0 u0) := by
  refine CT.of (by decide) [some (.ref 3), some (.int x1)] rfl (Nat.le_of_ble_eq_true rfl) ?_
  intro p e R s m args below meth c sz C
  unfold fC_Code_coveredBits at hf
  refine g_iload_n_1 C dX0_coveredBits_0 ?_
  refine g_if_lt (tgt := 19) C dX0_coveredBits_1 (by decide) (fun c1 => ?_) (fun c1 => ?_)
  · rw [if_pos c1] at hf
    refine g_iconst (v := (0 : Int32)) C dX0_coveredBits_19 (by decide) ?_
    exact g_iret C dX0_coveredBits_20 (en_finI hf)
  · rw [if_neg c1] at hf
    refine g_iload_n_1 C dX0_coveredBits_4 ?_
    refine g_bipush (v := (12 : Int32)) C dX0_coveredBits_5 (by decide) ?_
    refine g_if_icmp_ge (tgt := 19) C dX0_coveredBits_7 (by decide) (fun c2 => ?_) (fun c2 => ?_)
    · rw [if_pos c2] at hf
      refine g_iconst (v := (0 : Int32)) C dX0_coveredBits_19 (by decide) ?_
      exact g_iret C dX0_coveredBits_20 (en_finI hf)
    · rw [if_neg c2] at hf
      refine g_aload_n_0 C dX0_coveredBits_10 ?_
      refine gf_X0_19 C dX0_coveredBits_11 ?_
      refine g_iload_n_1 C dX0_coveredBits_14 ?_
      obtain ⟨y3, hy3, hf⟩ := en_bnd hf
      refine gaC_ld_5 C hy3 dX0_coveredBits_15 ?_
      refine g_goto (tgt := 20) C dX0_coveredBits_16 (by decide) ?_
      exact g_iret C dX0_coveredBits_20 (en_finI hf)
set_option maxHeartbeats 4000000 in
set_option maxRecDepth 100000 in
theorem ctC_covered {l : Launch} {D : va_G} {K : en_K} {ad : Nat → Nat} (x1 : Int32) (x2 : Int32) (u : Ug) (r0 : Int32) (u0 : Ug) (hf : fC_covered x1 x2 u = some (r0, u0)) : CT l D (en_ty K) ad (2) yX7_covered cX7_covered 4 (some .int) [.ref 0, .int x1, .int x2] (wdC K u) (en_RI (wdC K) r0 u0) := by
  refine CT.of (by decide) [some (.ref 0), some (.int x1), some (.int x2), none] rfl (Nat.le_of_ble_eq_true rfl) ?_
  intro p e R s m args below meth c sz C
  unfold fC_covered at hf
  refine g_aload_n_0 C dX7_covered_0 ?_
  refine gf_X7_19 C dX7_covered_1 ?_
  refine g_iload_n_1 C dX7_covered_4 ?_
  refine g_iload_n_2 C dX7_covered_5 ?_
  obtain ⟨q1, hq1, hf⟩ := en_bnd hf
  refine gc_X7_72_C_Code_placeOf C (ctC_Code_placeOf _ _ _ q1.1 q1.2 hq1) (by decide) (Nat.le_of_ble_eq_true rfl) dX7_covered_6 ?_
  refine g_istore_n_3 C dX7_covered_9 (by decide) rfl ?_
  refine g_iload_n_3 C dX7_covered_10 ?_
  refine g_if_ge (tgt := 18) C dX7_covered_11 (by decide) (fun c2 => ?_) (fun c2 => ?_)
  · rw [if_pos c2] at hf
    refine g_aload_n_0 C dX7_covered_18 ?_
    refine gf_X7_19 C dX7_covered_19 ?_
    refine g_iload_n_3 C dX7_covered_22 ?_
    obtain ⟨q3, hq3, hf⟩ := en_bnd hf
    refine gc_X7_189_C_Code_coveredBits C (ctC_Code_coveredBits _ _ q3.1 q3.2 hq3) (by decide) (Nat.le_of_ble_eq_true rfl) dX7_covered_23 ?_
    exact g_iret C dX7_covered_26 (en_finI hf)
  · rw [if_neg c2] at hf
    refine g_iconst (v := (-1 : Int32)) C dX7_covered_14 (by decide) ?_
    refine g_goto (tgt := 26) C dX7_covered_15 (by decide) ?_
    exact g_iret C dX7_covered_26 (en_finI hf)
set_option maxHeartbeats 4000000 in
set_option maxRecDepth 100000 in
theorem ctC_coins {l : Launch} {D : va_G} {K : en_K} {ad : Nat → Nat} (x1 : Int32) (u : Ug) (r0 : Int32) (u0 : Ug) (hf : fC_coins x1 u = some (r0, u0)) : CT l D (en_ty K) ad (2) yX7_coins cX7_coins 2 (some .int) [.ref 0, .int x1] (wdC K u) (en_RI (wdC K) r0 u0) := by
  refine CT.of (by decide) [some (.ref 0), some (.int x1)] rfl (Nat.le_of_ble_eq_true rfl) ?_
  intro p e R s m args below meth c sz C
  unfold fC_coins at hf
  refine g_iload_n_1 C dX7_coins_0 ?_
  obtain ⟨q1, hq1, hf⟩ := en_bnd hf
  refine gc_X7_97_C_State_isAccount C (ctC_State_isAccount _ _ q1.1 q1.2 hq1) (by decide) (Nat.le_of_ble_eq_true rfl) dX7_coins_1 ?_
  refine g_if_eq (tgt := 18) C dX7_coins_4 (by decide) (fun c2 => ?_) (fun c2 => ?_)
  · rw [if_pos c2] at hf
    refine g_iconst (v := (-1 : Int32)) C dX7_coins_18 (by decide) ?_
    exact g_iret C dX7_coins_19 (en_finI hf)
  · rw [if_neg c2] at hf
    refine g_aload_n_0 C dX7_coins_7 ?_
    refine gf_X7_10 C dX7_coins_8 ?_
    refine g_iload_n_1 C dX7_coins_11 ?_
    obtain ⟨q3, hq3, hf⟩ := en_bnd hf
    refine gc_X7_192_C_State_coinsOf C (ctC_State_coinsOf _ _ q3.1 q3.2 hq3) (by decide) (Nat.le_of_ble_eq_true rfl) dX7_coins_12 ?_
    refine g_goto (tgt := 19) C dX7_coins_15 (by decide) ?_
    exact g_iret C dX7_coins_19 (en_finI hf)
set_option maxHeartbeats 4000000 in
set_option maxRecDepth 100000 in
theorem ctC_cell {l : Launch} {D : va_G} {K : en_K} {ad : Nat → Nat} (x1 : Int32) (x2 : Int32) (u : Ug) (r0 : Int32) (u0 : Ug) (hf : fC_cell x1 x2 u = some (r0, u0)) : CT l D (en_ty K) ad (2) yX7_cell cX7_cell 3 (some .int) [.ref 0, .int x1, .int x2] (wdC K u) (en_RI (wdC K) r0 u0) := by
  refine CT.of (by decide) [some (.ref 0), some (.int x1), some (.int x2)] rfl (Nat.le_of_ble_eq_true rfl) ?_
  intro p e R s m args below meth c sz C
  unfold fC_cell at hf
  refine g_aload_n_0 C dX7_cell_0 ?_
  refine gf_X7_19 C dX7_cell_1 ?_
  refine g_iload_n_1 C dX7_cell_4 ?_
  obtain ⟨q1, hq1, hf⟩ := en_bnd hf
  refine gc_X7_137_C_Code_isContract C (ctC_Code_isContract _ _ q1.1 q1.2 hq1) (by decide) (Nat.le_of_ble_eq_true rfl) dX7_cell_5 ?_
  refine g_if_eq (tgt := 30) C dX7_cell_8 (by decide) (fun c2 => ?_) (fun c2 => ?_)
  · rw [if_pos c2] at hf
    refine g_iconst (v := (0 : Int32)) C dX7_cell_30 (by decide) ?_
    exact g_iret C dX7_cell_31 (en_finI hf)
  · rw [if_neg c2] at hf
    refine g_iload_n_2 C dX7_cell_11 ?_
    obtain ⟨q3, hq3, hf⟩ := en_bnd hf
    refine gc_X7_195_C_State_isCell C (ctC_State_isCell _ _ q3.1 q3.2 hq3) (by decide) (Nat.le_of_ble_eq_true rfl) dX7_cell_12 ?_
    refine g_if_eq (tgt := 30) C dX7_cell_15 (by decide) (fun c4 => ?_) (fun c4 => ?_)
    · rw [if_pos c4] at hf
      refine g_iconst (v := (0 : Int32)) C dX7_cell_30 (by decide) ?_
      exact g_iret C dX7_cell_31 (en_finI hf)
    · rw [if_neg c4] at hf
      refine g_aload_n_0 C dX7_cell_18 ?_
      refine gf_X7_10 C dX7_cell_19 ?_
      refine g_iload_n_1 C dX7_cell_22 ?_
      refine g_iload_n_2 C dX7_cell_23 ?_
      obtain ⟨q5, hq5, hf⟩ := en_bnd hf
      refine gc_X7_198_C_State_cellOf C (ctC_State_cellOf _ _ _ q5.1 q5.2 hq5) (by decide) (Nat.le_of_ble_eq_true rfl) dX7_cell_24 ?_
      refine g_goto (tgt := 31) C dX7_cell_27 (by decide) ?_
      exact g_iret C dX7_cell_31 (en_finI hf)
set_option maxHeartbeats 4000000 in
set_option maxRecDepth 100000 in
theorem ctC_event {l : Launch} {D : va_G} {K : en_K} {ad : Nat → Nat} (x1 : Int32) (u : Ug) (r0 : Int32) (u0 : Ug) (hf : fC_event x1 u = some (r0, u0)) : CT l D (en_ty K) ad (2) yX7_event cX7_event 2 (some .int) [.ref 0, .int x1] (wdC K u) (en_RI (wdC K) r0 u0) := by
  refine CT.of (by decide) [some (.ref 0), some (.int x1)] rfl (Nat.le_of_ble_eq_true rfl) ?_
  intro p e R s m args below meth c sz C
  unfold fC_event at hf
  refine g_aload_n_0 C dX7_event_0 ?_
  refine gf_X7_10 C dX7_event_1 ?_
  refine g_iload_n_1 C dX7_event_4 ?_
  obtain ⟨q1, hq1, hf⟩ := en_bnd hf
  refine gc_X7_201_C_State_eventAt C (ctC_State_eventAt _ _ q1.1 q1.2 hq1) (by decide) (Nat.le_of_ble_eq_true rfl) dX7_event_5 ?_
  exact g_iret C dX7_event_8 (en_finI hf)
set_option maxHeartbeats 4000000 in
set_option maxRecDepth 100000 in
theorem ctC_Code_contractCount {l : Launch} {D : va_G} {K : en_K} {ad : Nat → Nat} (u : Ug) (r0 : Int32) (u0 : Ug) (hf : fC_Code_contractCount u = some (r0, u0)) : CT l D (en_ty K) ad (1) yX0_contractCount cX0_contractCount 1 (some .int) [.ref 3] (wdC K u) (en_RI (wdC K) r0 u0) := by
  refine CT.of (by decide) [some (.ref 3)] rfl (Nat.le_of_ble_eq_true rfl) ?_
  intro p e R s m args below meth c sz C
  unfold fC_Code_contractCount at hf
  refine g_aload_n_0 C dX0_contractCount_0 ?_
  refine gf_X0_11 C dX0_contractCount_1 ?_
  exact g_iret C dX0_contractCount_4 (en_finI hf)
set_option maxHeartbeats 4000000 in
set_option maxRecDepth 100000 in
theorem ctC_Machine_inAll {l : Launch} {D : va_G} {K : en_K} {ad : Nat → Nat} (u : Ug) (r0 : Int32) (u0 : Ug) (hf : fC_Machine_inAll u = some (r0, u0)) : CT l D (en_ty K) ad (1) yX2_inAll cX2_inAll 1 (some .int) [.ref 13] (wdC K u) (en_RI (wdC K) r0 u0) := by
  refine CT.of (by decide) [some (.ref 13)] rfl (Nat.le_of_ble_eq_true rfl) ?_
  intro p e R s m args below meth c sz C
  unfold fC_Machine_inAll at hf
  refine g_aload_n_0 C dX2_inAll_0 ?_
  refine gf_X2_17 C dX2_inAll_1 ?_
  exact g_iret C dX2_inAll_4 (en_finI hf)
set_option maxHeartbeats 4000000 in
set_option maxRecDepth 100000 in
theorem ctC_Faces_boundCount {l : Launch} {D : va_G} {K : en_K} {ad : Nat → Nat} (u : Ug) (r0 : Int32) (u0 : Ug) (hf : fC_Faces_boundCount u = some (r0, u0)) : CT l D (en_ty K) ad (1) yX1_boundCount cX1_boundCount 3 (some .int) [.ref 9] (wdC K u) (en_RI (wdC K) r0 u0) := by
  refine CT.of (by decide) [some (.ref 9), none, none] rfl (Nat.le_of_ble_eq_true rfl) ?_
  intro p e R s m args below meth c sz C
  have L : ∀ n : Nat, (∀ (v1 : Int32) (v2 : Int32) (w : Ug), (kC_Faces_boundCount n) v1 v2 w = some (r0, u0) → G p l e R s m args below meth c D (va_A (en_ws ad (wdC K u)) sz) 3 ad 0 0 (en_Q below D (en_ty K) ad (wdC K u) sz (en_RI (wdC K) r0 u0) args s) 4 [some (.ref 9), some (.int v1), some (.int v2)] [] (wdC K w)) := by
    intro n
    induction n with
    | zero => exact fun _ _ _ hf => absurd hf (by intro q; cases q)
    | succ n ih =>
      intro v1 v2 u hf
      have hf : sC_Faces_boundCount_4 (kC_Faces_boundCount n) v1 v2 u = some (r0, u0) := hf
      unfold sC_Faces_boundCount_4 at hf
      refine g_iload_n_2 C dX1_boundCount_4 ?_
      refine g_iconst (v := (4 : Int32)) C dX1_boundCount_5 (by decide) ?_
      refine g_if_icmp_ge (tgt := 28) C dX1_boundCount_6 (by decide) (fun c1 => ?_) (fun c1 => ?_)
      · rw [if_pos c1] at hf
        refine g_iload_n_1 C dX1_boundCount_28 ?_
        exact g_iret C dX1_boundCount_29 (en_finI hf)
      · rw [if_neg c1] at hf
        refine g_aload_n_0 C dX1_boundCount_9 ?_
        refine gf_X1_9 C dX1_boundCount_10 ?_
        refine g_iload_n_2 C dX1_boundCount_13 ?_
        obtain ⟨y2, hy2, hf⟩ := en_bnd hf
        refine gaC_ld_10 C hy2 dX1_boundCount_14 ?_
        refine g_iconst (v := (-1 : Int32)) C dX1_boundCount_15 (by decide) ?_
        refine g_if_icmp_eq (tgt := 22) C dX1_boundCount_16 (by decide) (fun c3 => ?_) (fun c3 => ?_)
        · rw [if_pos c3] at hf
          refine g_iinc_2 (z := (1 : Int32)) C dX1_boundCount_22 (by decide) (by decide) rfl ?_
          refine g_goto (tgt := 4) C dX1_boundCount_25 (by decide) ?_
          exact g_weak (ih _ _ _ hf) (And.intro rfl (And.intro rfl (And.intro rfl trivial)))
        · rw [if_neg c3] at hf
          refine g_iinc_1 (z := (1 : Int32)) C dX1_boundCount_19 (by decide) (by decide) rfl ?_
          refine g_iinc_2 (z := (1 : Int32)) C dX1_boundCount_22 (by decide) (by decide) rfl ?_
          refine g_goto (tgt := 4) C dX1_boundCount_25 (by decide) ?_
          exact g_weak (ih _ _ _ hf) (And.intro rfl (And.intro rfl (And.intro rfl trivial)))
  unfold fC_Faces_boundCount at hf
  refine g_iconst (v := (0 : Int32)) C dX1_boundCount_0 (by decide) ?_
  refine g_istore_n_1 C dX1_boundCount_1 (by decide) rfl ?_
  refine g_iconst (v := (0 : Int32)) C dX1_boundCount_2 (by decide) ?_
  refine g_istore_n_2 C dX1_boundCount_3 (by decide) rfl ?_
  exact g_weak ((L _) _ _ _ hf) (And.intro rfl (And.intro rfl (And.intro rfl trivial)))
set_option maxHeartbeats 4000000 in
set_option maxRecDepth 100000 in
theorem ctC_count {l : Launch} {D : va_G} {K : en_K} {ad : Nat → Nat} (x1 : Int32) (u : Ug) (r0 : Int32) (u0 : Ug) (hf : fC_count x1 u = some (r0, u0)) : CT l D (en_ty K) ad (2) yX7_count cX7_count 2 (some .int) [.ref 0, .int x1] (wdC K u) (en_RI (wdC K) r0 u0) := by
  refine CT.of (by decide) [some (.ref 0), some (.int x1)] rfl (Nat.le_of_ble_eq_true rfl) ?_
  intro p e R s m args below meth c sz C
  unfold fC_count at hf
  refine g_iload_n_1 C dX7_count_0 ?_
  rcases Decidable.em (x1 = (0 : Int32)) with s1_0 | s1_0
  · rw [if_pos s1_0] at hf
    refine g_tsw (z := (0 : Int32)) (tgt := 60) C dX7_count_1 s1_0 (by decide) (by decide) rfl (by decide) ?_
    refine g_aload_n_0 C dX7_count_60 ?_
    refine gf_X7_10 C dX7_count_61 ?_
    obtain ⟨q1, hq1, hf⟩ := en_bnd hf
    refine gc_X7_94_C_State_height C (ctC_State_height _ q1.1 q1.2 hq1) (by decide) (Nat.le_of_ble_eq_true rfl) dX7_count_64 ?_
    exact g_iret C dX7_count_67 (en_finI hf)
  rw [if_neg s1_0] at hf
  rcases Decidable.em (x1 = (1 : Int32)) with s1_1 | s1_1
  · rw [if_pos s1_1] at hf
    refine g_tsw (z := (1 : Int32)) (tgt := 68) C dX7_count_1 s1_1 (by decide) (by decide) rfl (by decide) ?_
    refine g_aload_n_0 C dX7_count_68 ?_
    refine gf_X7_10 C dX7_count_69 ?_
    obtain ⟨q2, hq2, hf⟩ := en_bnd hf
    refine gc_X7_204_C_State_eventCount C (ctC_State_eventCount _ q2.1 q2.2 hq2) (by decide) (Nat.le_of_ble_eq_true rfl) dX7_count_72 ?_
    exact g_iret C dX7_count_75 (en_finI hf)
  rw [if_neg s1_1] at hf
  rcases Decidable.em (x1 = (2 : Int32)) with s1_2 | s1_2
  · rw [if_pos s1_2] at hf
    refine g_tsw (z := (2 : Int32)) (tgt := 76) C dX7_count_1 s1_2 (by decide) (by decide) rfl (by decide) ?_
    refine g_aload_n_0 C dX7_count_76 ?_
    refine gf_X7_19 C dX7_count_77 ?_
    obtain ⟨q3, hq3, hf⟩ := en_bnd hf
    refine gc_X7_207_C_Code_contractCount C (ctC_Code_contractCount _ q3.1 q3.2 hq3) (by decide) (Nat.le_of_ble_eq_true rfl) dX7_count_80 ?_
    exact g_iret C dX7_count_83 (en_finI hf)
  rw [if_neg s1_2] at hf
  rcases Decidable.em (x1 = (3 : Int32)) with s1_3 | s1_3
  · rw [if_pos s1_3] at hf
    refine g_tsw (z := (3 : Int32)) (tgt := 84) C dX7_count_1 s1_3 (by decide) (by decide) rfl (by decide) ?_
    refine g_aload_n_0 C dX7_count_84 ?_
    refine gf_X7_35 C dX7_count_85 ?_
    obtain ⟨q4, hq4, hf⟩ := en_bnd hf
    refine gc_X7_210_C_Machine_inAll C (ctC_Machine_inAll _ q4.1 q4.2 hq4) (by decide) (Nat.le_of_ble_eq_true rfl) dX7_count_88 ?_
    exact g_iret C dX7_count_91 (en_finI hf)
  rw [if_neg s1_3] at hf
  rcases Decidable.em (x1 = (10 : Int32)) with s1_10 | s1_10
  · rw [if_pos s1_10] at hf
    refine g_tsw (z := (10 : Int32)) (tgt := 92) C dX7_count_1 s1_10 (by decide) (by decide) rfl (by decide) ?_
    refine g_aload_n_0 C dX7_count_92 ?_
    refine gf_X7_26 C dX7_count_93 ?_
    obtain ⟨q5, hq5, hf⟩ := en_bnd hf
    refine gc_X7_213_C_Faces_boundCount C (ctC_Faces_boundCount _ q5.1 q5.2 hq5) (by decide) (Nat.le_of_ble_eq_true rfl) dX7_count_96 ?_
    exact g_iret C dX7_count_99 (en_finI hf)
  rw [if_neg s1_10] at hf
  refine g_tswD (tgt := 100) C [(0 : Int32), (1 : Int32), (2 : Int32), (3 : Int32), (10 : Int32)] dX7_count_1 (And.intro s1_0 (And.intro s1_1 (And.intro s1_2 (And.intro s1_3 (And.intro s1_10 trivial))))) 11 (by decide) (by decide) (by decide) ?_
  refine g_iload_n_1 C dX7_count_100 ?_
  refine g_iconst (v := (4 : Int32)) C dX7_count_101 (by decide) ?_
  refine g_isub C dX7_count_102 ?_
  obtain ⟨q6, hq6, hf⟩ := en_bnd hf
  refine gc_X7_124_C_Scripts_isTest C (ctC_Scripts_isTest _ _ q6.1 q6.2 hq6) (by decide) (Nat.le_of_ble_eq_true rfl) dX7_count_103 ?_
  refine g_if_eq (tgt := 122) C dX7_count_106 (by decide) (fun c7 => ?_) (fun c7 => ?_)
  · rw [if_pos c7] at hf
    refine g_iconst (v := (-1 : Int32)) C dX7_count_122 (by decide) ?_
    exact g_iret C dX7_count_123 (en_finI hf)
  · rw [if_neg c7] at hf
    refine g_aload_n_0 C dX7_count_109 ?_
    refine gf_X7_42 C dX7_count_110 ?_
    refine g_iload_n_1 C dX7_count_113 ?_
    refine g_iconst (v := (4 : Int32)) C dX7_count_114 (by decide) ?_
    refine g_isub C dX7_count_115 ?_
    obtain ⟨q8, hq8, hf⟩ := en_bnd hf
    refine gc_X7_168_C_Scripts_size C (ctC_Scripts_size _ _ q8.1 q8.2 hq8) (by decide) (Nat.le_of_ble_eq_true rfl) dX7_count_116 ?_
    refine g_goto (tgt := 123) C dX7_count_119 (by decide) ?_
    exact g_iret C dX7_count_123 (en_finI hf)
