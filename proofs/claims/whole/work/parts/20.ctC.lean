/-! CONTRACTS. -/
set_option maxHeartbeats 4000000 in
set_option maxRecDepth 100000 in
theorem ctC_run {l : Launch} {D : va_G} {K : en_K} {ad : Nat → Nat} (x1 : Int32) (u : Ug) (r0 : Int32) (u0 : Ug) (hf : fC_run x1 u = some (r0, u0)) : CT l D (en_ty K) ad (107) yX7_run cX7_run 2 (some .int) [.ref 0, .int x1] (wdC K u) (en_RI (wdC K) r0 u0) := by
  refine CT.of (by decide) [some (.ref 0), some (.int x1)] rfl (Nat.le_of_ble_eq_true rfl) ?_
  intro p e R s m args below meth c sz C
  unfold fC_run at hf
  refine g_iload_n_1 C dX7_run_0 ?_
  obtain ⟨q1, hq1, hf⟩ := en_bnd hf
  refine gc_X7_124_C_Scripts_isTest C (ctC_Scripts_isTest _ _ q1.1 q1.2 hq1) (by decide) (Nat.le_of_ble_eq_true rfl) dX7_run_1 ?_
  refine g_if_eq (tgt := 19) C dX7_run_4 (by decide) (fun c2 => ?_) (fun c2 => ?_)
  · rw [if_pos c2] at hf
    refine g_bipush (v := (-2 : Int32)) C dX7_run_19 (by decide) ?_
    exact g_iret C dX7_run_21 (en_finI hf)
  · rw [if_neg c2] at hf
    refine g_aload_n_0 C dX7_run_7 ?_
    refine gf_X7_51 C dX7_run_8 ?_
    refine g_iload_n_1 C dX7_run_11 ?_
    refine g_iconst (v := (0 : Int32)) C dX7_run_12 (by decide) ?_
    obtain ⟨q3, hq3, hf⟩ := en_bnd hf
    refine gc_X7_134_C_Runner_failingLine C (ctC_Runner_failingLine _ _ _ q3.1 q3.2 hq3) (by decide) (Nat.le_of_ble_eq_true rfl) dX7_run_13 ?_
    refine g_goto (tgt := 21) C dX7_run_16 (by decide) ?_
    exact g_iret C dX7_run_21 (en_finI hf)
set_option maxHeartbeats 4000000 in
set_option maxRecDepth 100000 in
theorem ctC_Mutants_perStep {l : Launch} {D : va_G} {K : en_K} {ad : Nat → Nat} (x1 : Int32) (u : Ug) (r0 : Int32) (u0 : Ug) (hf : fC_Mutants_perStep x1 u = some (r0, u0)) : CT l D (en_ty K) ad (1) yX3_perStep cX3_perStep 1 (some .int) [.int x1] (wdC K u) (en_RI (wdC K) r0 u0) := by
  refine CT.of (by decide) [some (.int x1)] rfl (Nat.le_of_ble_eq_true rfl) ?_
  intro p e R s m args below meth c sz C
  unfold fC_Mutants_perStep at hf
  refine g_iload_n_0 C dX3_perStep_0 ?_
  refine g_iconst (v := (2 : Int32)) C dX3_perStep_1 (by decide) ?_
  refine g_if_icmp_eq (tgt := 16) C dX3_perStep_2 (by decide) (fun c1 => ?_) (fun c1 => ?_)
  · rw [if_pos c1] at hf
    refine g_iconst (v := (2 : Int32)) C dX3_perStep_16 (by decide) ?_
    refine g_goto (tgt := 21) C dX3_perStep_17 (by decide) ?_
    exact g_iret C dX3_perStep_21 (en_finI hf)
  · rw [if_neg c1] at hf
    refine g_iload_n_0 C dX3_perStep_5 ?_
    refine g_iconst (v := (4 : Int32)) C dX3_perStep_6 (by decide) ?_
    refine g_if_icmp_eq (tgt := 16) C dX3_perStep_7 (by decide) (fun c2 => ?_) (fun c2 => ?_)
    · rw [if_pos c2] at hf
      refine g_iconst (v := (2 : Int32)) C dX3_perStep_16 (by decide) ?_
      refine g_goto (tgt := 21) C dX3_perStep_17 (by decide) ?_
      exact g_iret C dX3_perStep_21 (en_finI hf)
    · rw [if_neg c2] at hf
      refine g_iload_n_0 C dX3_perStep_10 ?_
      refine g_bipush (v := (7 : Int32)) C dX3_perStep_11 (by decide) ?_
      refine g_if_icmp_ne (tgt := 20) C dX3_perStep_13 (by decide) (fun c3 => ?_) (fun c3 => ?_)
      · rw [if_neg c3] at hf
        refine g_iconst (v := (1 : Int32)) C dX3_perStep_20 (by decide) ?_
        exact g_iret C dX3_perStep_21 (en_finI hf)
      · rw [if_pos c3] at hf
        refine g_iconst (v := (2 : Int32)) C dX3_perStep_16 (by decide) ?_
        refine g_goto (tgt := 21) C dX3_perStep_17 (by decide) ?_
        exact g_iret C dX3_perStep_21 (en_finI hf)
set_option maxHeartbeats 4000000 in
set_option maxRecDepth 100000 in
theorem ctC_Mutants_howMany {l : Launch} {D : va_G} {K : en_K} {ad : Nat → Nat} (x1 : Int32) (u : Ug) (r0 : Int32) (u0 : Ug) (hf : fC_Mutants_howMany x1 u = some (r0, u0)) : CT l D (en_ty K) ad (2) yX3_howMany cX3_howMany 7 (some .int) [.ref 23, .int x1] (wdC K u) (en_RI (wdC K) r0 u0) := by
  refine CT.of (by decide) [some (.ref 23), some (.int x1), none, none, none, none, none] rfl (Nat.le_of_ble_eq_true rfl) ?_
  intro p e R s m args below meth c sz C
  have L : ∀ n : Nat, (∀ (v1 : Int32) (v2 : Int32) (v3 : Int32) (w : Ug), (kC_Mutants_howMany n).1 v1 v2 v3 w = some (r0, u0) → G p l e R s m args below meth c D (va_A (en_ws ad (wdC K u)) sz) 7 ad 0 0 (en_Q below D (en_ty K) ad (wdC K u) sz (en_RI (wdC K) r0 u0) args s) 4 [some (.ref 23), some (.int v1), some (.int v2), some (.int v3), none, none, none] [] (wdC K w)) ∧ (∀ (v1 : Int32) (v2 : Int32) (v3 : Int32) (v4 : Int32) (v5 : Int32) (v6 : Int32) (w : Ug), (kC_Mutants_howMany n).2 v1 v2 v3 v4 v5 v6 w = some (r0, u0) → G p l e R s m args below meth c D (va_A (en_ws ad (wdC K u)) sz) 7 ad 0 0 (en_Q below D (en_ty K) ad (wdC K u) sz (en_RI (wdC K) r0 u0) args s) 34 [some (.ref 23), some (.int v1), some (.int v2), some (.int v3), some (.int v4), some (.int v5), some (.int v6)] [] (wdC K w)) := by
    intro n
    induction n with
    | zero => exact ⟨fun _ _ _ _ hf => absurd hf (by intro q; cases q), fun _ _ _ _ _ _ _ hf => absurd hf (by intro q; cases q)⟩
    | succ n ih =>
      refine ⟨?_, ?_⟩
      · intro v1 v2 v3 u hf
        have hf : sC_Mutants_howMany_4 (kC_Mutants_howMany n).1 (kC_Mutants_howMany n).2 v1 v2 v3 u = some (r0, u0) := hf
        unfold sC_Mutants_howMany_4 at hf
        refine g_iload_n_3 C dX3_howMany_4 ?_
        refine g_iconst (v := (3 : Int32)) C dX3_howMany_5 (by decide) ?_
        refine g_if_icmp_ge (tgt := 74) C dX3_howMany_6 (by decide) (fun c1 => ?_) (fun c1 => ?_)
        · rw [if_pos c1] at hf
          refine g_iload_n_2 C dX3_howMany_74 ?_
          exact g_iret C dX3_howMany_75 (en_finI hf)
        · rw [if_neg c1] at hf
          refine g_aload_n_0 C dX3_howMany_9 ?_
          refine gf_X3_31 C dX3_howMany_10 ?_
          refine g_iload_n_1 C dX3_howMany_13 ?_
          refine g_iload_n_3 C dX3_howMany_14 ?_
          obtain ⟨q2, hq2, hf⟩ := en_bnd hf
          refine gc_X3_35_C_Code_placeOf C (ctC_Code_placeOf _ _ _ q2.1 q2.2 hq2) (by decide) (Nat.le_of_ble_eq_true rfl) dX3_howMany_15 ?_
          refine g_istore_4 C dX3_howMany_18 (by decide) rfl ?_
          refine g_aload_n_0 C dX3_howMany_20 ?_
          refine gf_X3_31 C dX3_howMany_21 ?_
          refine g_iload_4 C dX3_howMany_24 ?_
          obtain ⟨q3, hq3, hf⟩ := en_bnd hf
          refine gc_X3_39_C_Code_size C (ctC_Code_size _ _ q3.1 q3.2 hq3) (by decide) (Nat.le_of_ble_eq_true rfl) dX3_howMany_26 ?_
          refine g_istore_5 C dX3_howMany_29 (by decide) rfl ?_
          refine g_iconst (v := (0 : Int32)) C dX3_howMany_31 (by decide) ?_
          refine g_istore_6 C dX3_howMany_32 (by decide) rfl ?_
          exact g_weak (ih.2 _ _ _ _ _ _ _ hf) (And.intro rfl (And.intro rfl (And.intro rfl (And.intro rfl (And.intro rfl (And.intro rfl (And.intro rfl trivial)))))))
      · intro v1 v2 v3 v4 v5 v6 u hf
        have hf : sC_Mutants_howMany_34 (kC_Mutants_howMany n).1 (kC_Mutants_howMany n).2 v1 v2 v3 v4 v5 v6 u = some (r0, u0) := hf
        unfold sC_Mutants_howMany_34 at hf
        refine g_iload_6 C dX3_howMany_34 ?_
        refine g_iload_5 C dX3_howMany_36 ?_
        refine g_if_icmp_ge (tgt := 68) C dX3_howMany_38 (by decide) (fun c4 => ?_) (fun c4 => ?_)
        · rw [if_pos c4] at hf
          refine g_iinc_3 (z := (1 : Int32)) C dX3_howMany_68 (by decide) (by decide) rfl ?_
          refine g_goto (tgt := 4) C dX3_howMany_71 (by decide) ?_
          exact g_weak (ih.1 _ _ _ _ hf) (And.intro rfl (And.intro rfl (And.intro rfl (And.intro rfl trivial))))
        · rw [if_neg c4] at hf
          refine g_iload_n_2 C dX3_howMany_41 ?_
          refine g_aload_n_0 C dX3_howMany_42 ?_
          refine gf_X3_31 C dX3_howMany_43 ?_
          refine g_iload_4 C dX3_howMany_46 ?_
          refine g_bipush (v := (8 : Int32)) C dX3_howMany_48 (by decide) ?_
          refine g_imul C dX3_howMany_50 ?_
          refine g_iload_6 C dX3_howMany_51 ?_
          refine g_iadd C dX3_howMany_53 ?_
          obtain ⟨q5, hq5, hf⟩ := en_bnd hf
          refine gc_X3_43_C_Code_kind C (ctC_Code_kind _ _ q5.1 q5.2 hq5) (by decide) (Nat.le_of_ble_eq_true rfl) dX3_howMany_54 ?_
          obtain ⟨q6, hq6, hf⟩ := en_bnd hf
          refine gc_X3_45_C_Mutants_perStep C (ctC_Mutants_perStep _ _ q6.1 q6.2 hq6) (by decide) (Nat.le_of_ble_eq_true rfl) dX3_howMany_57 ?_
          refine g_iadd C dX3_howMany_60 ?_
          refine g_istore_n_2 C dX3_howMany_61 (by decide) rfl ?_
          refine g_iinc_6 (z := (1 : Int32)) C dX3_howMany_62 (by decide) (by decide) rfl ?_
          refine g_goto (tgt := 34) C dX3_howMany_65 (by decide) ?_
          exact g_weak (ih.2 _ _ _ _ _ _ _ hf) (And.intro rfl (And.intro rfl (And.intro rfl (And.intro rfl (And.intro rfl (And.intro rfl (And.intro rfl trivial)))))))
  unfold fC_Mutants_howMany at hf
  refine g_iconst (v := (0 : Int32)) C dX3_howMany_0 (by decide) ?_
  refine g_istore_n_2 C dX3_howMany_1 (by decide) rfl ?_
  refine g_iconst (v := (0 : Int32)) C dX3_howMany_2 (by decide) ?_
  refine g_istore_n_3 C dX3_howMany_3 (by decide) rfl ?_
  exact g_weak ((L _).1 _ _ _ _ hf) (And.intro rfl (And.intro rfl (And.intro rfl (And.intro rfl trivial))))
set_option maxHeartbeats 4000000 in
set_option maxRecDepth 100000 in
theorem ctC_mutants {l : Launch} {D : va_G} {K : en_K} {ad : Nat → Nat} (x1 : Int32) (u : Ug) (r0 : Int32) (u0 : Ug) (hf : fC_mutants x1 u = some (r0, u0)) : CT l D (en_ty K) ad (3) yX7_mutants cX7_mutants 2 (some .int) [.ref 0, .int x1] (wdC K u) (en_RI (wdC K) r0 u0) := by
  refine CT.of (by decide) [some (.ref 0), some (.int x1)] rfl (Nat.le_of_ble_eq_true rfl) ?_
  intro p e R s m args below meth c sz C
  unfold fC_mutants at hf
  refine g_aload_n_0 C dX7_mutants_0 ?_
  refine gf_X7_19 C dX7_mutants_1 ?_
  refine g_iload_n_1 C dX7_mutants_4 ?_
  obtain ⟨q1, hq1, hf⟩ := en_bnd hf
  refine gc_X7_137_C_Code_isContract C (ctC_Code_isContract _ _ q1.1 q1.2 hq1) (by decide) (Nat.le_of_ble_eq_true rfl) dX7_mutants_5 ?_
  refine g_if_eq (tgt := 22) C dX7_mutants_8 (by decide) (fun c2 => ?_) (fun c2 => ?_)
  · rw [if_pos c2] at hf
    refine g_iconst (v := (-1 : Int32)) C dX7_mutants_22 (by decide) ?_
    exact g_iret C dX7_mutants_23 (en_finI hf)
  · rw [if_neg c2] at hf
    refine g_aload_n_0 C dX7_mutants_11 ?_
    refine gf_X7_60 C dX7_mutants_12 ?_
    refine g_iload_n_1 C dX7_mutants_15 ?_
    obtain ⟨q3, hq3, hf⟩ := en_bnd hf
    refine gc_X7_140_C_Mutants_howMany C (ctC_Mutants_howMany _ _ q3.1 q3.2 hq3) (by decide) (Nat.le_of_ble_eq_true rfl) dX7_mutants_16 ?_
    refine g_goto (tgt := 23) C dX7_mutants_19 (by decide) ?_
    exact g_iret C dX7_mutants_23 (en_finI hf)
set_option maxHeartbeats 4000000 in
set_option maxRecDepth 100000 in
theorem ctC_Mutants_find {l : Launch} {D : va_G} {K : en_K} {ad : Nat → Nat} (x1 : Int32) (x2 : Int32) (u : Ug) (r0 : Int32) (u0 : Ug) (hf : fC_Mutants_find x1 x2 u = some (r0, u0)) : CT l D (en_ty K) ad (2) yX3_find cX3_find 9 (some .int) [.ref 23, .int x1, .int x2] (wdC K u) (en_RI (wdC K) r0 u0) := by
  refine CT.of (by decide) [some (.ref 23), some (.int x1), some (.int x2), none, none, none, none, none, none] rfl (Nat.le_of_ble_eq_true rfl) ?_
  intro p e R s m args below meth c sz C
  have L : ∀ n : Nat, (∀ (v1 : Int32) (v2 : Int32) (v3 : Int32) (v4 : Int32) (w : Ug), (kC_Mutants_find n).1 v1 v2 v3 v4 w = some (r0, u0) → G p l e R s m args below meth c D (va_A (en_ws ad (wdC K u)) sz) 9 ad 0 0 (en_Q below D (en_ty K) ad (wdC K u) sz (en_RI (wdC K) r0 u0) args s) 11 [some (.ref 23), some (.int v1), some (.int v2), some (.int v3), some (.int v4), none, none, none, none] [] (wdC K w)) ∧ (∀ (v1 : Int32) (v2 : Int32) (v3 : Int32) (v4 : Int32) (v5 : Int32) (v6 : Int32) (v7 : Int32) (w : Ug), (kC_Mutants_find n).2 v1 v2 v3 v4 v5 v6 v7 w = some (r0, u0) → G p l e R s m args below meth c D (va_A (en_ws ad (wdC K u)) sz) 9 ad 0 0 (en_Q below D (en_ty K) ad (wdC K u) sz (en_RI (wdC K) r0 u0) args s) 43 [some (.ref 23), some (.int v1), some (.int v2), some (.int v3), some (.int v4), some (.int v5), some (.int v6), some (.int v7), none] [] (wdC K w)) := by
    intro n
    induction n with
    | zero => exact ⟨fun _ _ _ _ _ hf => absurd hf (by intro q; cases q), fun _ _ _ _ _ _ _ _ hf => absurd hf (by intro q; cases q)⟩
    | succ n ih =>
      refine ⟨?_, ?_⟩
      · intro v1 v2 v3 v4 u hf
        have hf : sC_Mutants_find_11 (kC_Mutants_find n).1 (kC_Mutants_find n).2 v1 v2 v3 v4 u = some (r0, u0) := hf
        unfold sC_Mutants_find_11 at hf
        refine g_iload_4 C dX3_find_11 ?_
        refine g_iconst (v := (3 : Int32)) C dX3_find_13 (by decide) ?_
        refine g_if_icmp_ge (tgt := 106) C dX3_find_14 (by decide) (fun c2 => ?_) (fun c2 => ?_)
        · rw [if_pos c2] at hf
          refine g_iconst (v := (-1 : Int32)) C dX3_find_106 (by decide) ?_
          exact g_iret C dX3_find_107 (en_finI hf)
        · rw [if_neg c2] at hf
          refine g_aload_n_0 C dX3_find_17 ?_
          refine gf_X3_31 C dX3_find_18 ?_
          refine g_iload_n_1 C dX3_find_21 ?_
          refine g_iload_4 C dX3_find_22 ?_
          obtain ⟨q3, hq3, hf⟩ := en_bnd hf
          refine gc_X3_35_C_Code_placeOf C (ctC_Code_placeOf _ _ _ q3.1 q3.2 hq3) (by decide) (Nat.le_of_ble_eq_true rfl) dX3_find_24 ?_
          refine g_istore_5 C dX3_find_27 (by decide) rfl ?_
          refine g_aload_n_0 C dX3_find_29 ?_
          refine gf_X3_31 C dX3_find_30 ?_
          refine g_iload_5 C dX3_find_33 ?_
          obtain ⟨q4, hq4, hf⟩ := en_bnd hf
          refine gc_X3_39_C_Code_size C (ctC_Code_size _ _ q4.1 q4.2 hq4) (by decide) (Nat.le_of_ble_eq_true rfl) dX3_find_35 ?_
          refine g_istore_6 C dX3_find_38 (by decide) rfl ?_
          refine g_iconst (v := (0 : Int32)) C dX3_find_40 (by decide) ?_
          refine g_istore_7 C dX3_find_41 (by decide) rfl ?_
          exact g_weak (ih.2 _ _ _ _ _ _ _ _ hf) (And.intro rfl (And.intro rfl (And.intro rfl (And.intro rfl (And.intro rfl (And.intro rfl (And.intro rfl (And.intro rfl trivial))))))))
      · intro v1 v2 v3 v4 v5 v6 v7 u hf
        have hf : sC_Mutants_find_43 (kC_Mutants_find n).1 (kC_Mutants_find n).2 v1 v2 v3 v4 v5 v6 v7 u = some (r0, u0) := hf
        unfold sC_Mutants_find_43 at hf
        refine g_iload_7 C dX3_find_43 ?_
        refine g_iload_6 C dX3_find_45 ?_
        refine g_if_icmp_ge (tgt := 100) C dX3_find_47 (by decide) (fun c5 => ?_) (fun c5 => ?_)
        · rw [if_pos c5] at hf
          refine g_iinc_4 (z := (1 : Int32)) C dX3_find_100 (by decide) (by decide) rfl ?_
          refine g_goto (tgt := 11) C dX3_find_103 (by decide) ?_
          exact g_weak (ih.1 _ _ _ _ _ hf) (And.intro rfl (And.intro rfl (And.intro rfl (And.intro rfl (And.intro rfl trivial)))))
        · rw [if_neg c5] at hf
          refine g_aload_n_0 C dX3_find_50 ?_
          refine gf_X3_31 C dX3_find_51 ?_
          refine g_iload_5 C dX3_find_54 ?_
          refine g_bipush (v := (8 : Int32)) C dX3_find_56 (by decide) ?_
          refine g_imul C dX3_find_58 ?_
          refine g_iload_7 C dX3_find_59 ?_
          refine g_iadd C dX3_find_61 ?_
          obtain ⟨q6, hq6, hf⟩ := en_bnd hf
          refine gc_X3_43_C_Code_kind C (ctC_Code_kind _ _ q6.1 q6.2 hq6) (by decide) (Nat.le_of_ble_eq_true rfl) dX3_find_62 ?_
          obtain ⟨q7, hq7, hf⟩ := en_bnd hf
          refine gc_X3_45_C_Mutants_perStep C (ctC_Mutants_perStep _ _ q7.1 q7.2 hq7) (by decide) (Nat.le_of_ble_eq_true rfl) dX3_find_65 ?_
          refine g_istore_8 C dX3_find_68 (by decide) rfl ?_
          refine g_iload_n_3 C dX3_find_70 ?_
          refine g_iload_8 C dX3_find_71 ?_
          refine g_if_icmp_ge (tgt := 89) C dX3_find_73 (by decide) (fun c8 => ?_) (fun c8 => ?_)
          · rw [if_pos c8] at hf
            refine g_iload_n_3 C dX3_find_89 ?_
            refine g_iload_8 C dX3_find_90 ?_
            refine g_isub C dX3_find_92 ?_
            refine g_istore_n_3 C dX3_find_93 (by decide) rfl ?_
            refine g_iinc_7 (z := (1 : Int32)) C dX3_find_94 (by decide) (by decide) rfl ?_
            refine g_goto (tgt := 43) C dX3_find_97 (by decide) ?_
            exact g_weak (ih.2 _ _ _ _ _ _ _ _ hf) (And.intro rfl (And.intro rfl (And.intro rfl (And.intro rfl (And.intro rfl (And.intro rfl (And.intro rfl (And.intro rfl trivial))))))))
          · rw [if_neg c8] at hf
            refine g_iload_4 C dX3_find_76 ?_
            refine g_bipush (v := (8 : Int32)) C dX3_find_78 (by decide) ?_
            refine g_imul C dX3_find_80 ?_
            refine g_iload_7 C dX3_find_81 ?_
            refine g_iadd C dX3_find_83 ?_
            refine g_iconst (v := (2 : Int32)) C dX3_find_84 (by decide) ?_
            refine g_imul C dX3_find_85 ?_
            refine g_iload_n_3 C dX3_find_86 ?_
            refine g_iadd C dX3_find_87 ?_
            exact g_iret C dX3_find_88 (en_finI hf)
  unfold fC_Mutants_find at hf
  refine g_iload_n_2 C dX3_find_0 ?_
  refine g_if_ge (tgt := 6) C dX3_find_1 (by decide) (fun c1 => ?_) (fun c1 => ?_)
  · rw [if_pos c1] at hf
    refine g_iload_n_2 C dX3_find_6 ?_
    refine g_istore_n_3 C dX3_find_7 (by decide) rfl ?_
    refine g_iconst (v := (0 : Int32)) C dX3_find_8 (by decide) ?_
    refine g_istore_4 C dX3_find_9 (by decide) rfl ?_
    exact g_weak ((L _).1 _ _ _ _ _ hf) (And.intro rfl (And.intro rfl (And.intro rfl (And.intro rfl (And.intro rfl trivial)))))
  · rw [if_neg c1] at hf
    refine g_iconst (v := (-1 : Int32)) C dX3_find_4 (by decide) ?_
    exact g_iret C dX3_find_5 (en_finI hf)
set_option maxHeartbeats 4000000 in
set_option maxRecDepth 100000 in
theorem ctC_Mutants_memberOf {l : Launch} {D : va_G} {K : en_K} {ad : Nat → Nat} (x1 : Int32) (u : Ug) (r0 : Int32) (u0 : Ug) (hf : fC_Mutants_memberOf x1 u = some (r0, u0)) : CT l D (en_ty K) ad (1) yX3_memberOf cX3_memberOf 1 (some .int) [.int x1] (wdC K u) (en_RI (wdC K) r0 u0) := by
  refine CT.of (by decide) [some (.int x1)] rfl (Nat.le_of_ble_eq_true rfl) ?_
  intro p e R s m args below meth c sz C
  unfold fC_Mutants_memberOf at hf
  refine g_iload_n_0 C dX3_memberOf_0 ?_
  refine g_bipush (v := (16 : Int32)) C dX3_memberOf_1 (by decide) ?_
  refine g_idiv C dX3_memberOf_3 (by decide) ?_
  exact g_iret C dX3_memberOf_4 (en_finI hf)
set_option maxHeartbeats 4000000 in
set_option maxRecDepth 100000 in
theorem ctC_Mutants_stepOf {l : Launch} {D : va_G} {K : en_K} {ad : Nat → Nat} (x1 : Int32) (u : Ug) (r0 : Int32) (u0 : Ug) (hf : fC_Mutants_stepOf x1 u = some (r0, u0)) : CT l D (en_ty K) ad (1) yX3_stepOf cX3_stepOf 1 (some .int) [.int x1] (wdC K u) (en_RI (wdC K) r0 u0) := by
  refine CT.of (by decide) [some (.int x1)] rfl (Nat.le_of_ble_eq_true rfl) ?_
  intro p e R s m args below meth c sz C
  unfold fC_Mutants_stepOf at hf
  refine g_iload_n_0 C dX3_stepOf_0 ?_
  refine g_iconst (v := (2 : Int32)) C dX3_stepOf_1 (by decide) ?_
  refine g_idiv C dX3_stepOf_2 (by decide) ?_
  refine g_bipush (v := (8 : Int32)) C dX3_stepOf_3 (by decide) ?_
  refine g_irem C dX3_stepOf_5 (by decide) ?_
  exact g_iret C dX3_stepOf_6 (en_finI hf)
set_option maxHeartbeats 4000000 in
set_option maxRecDepth 100000 in
theorem ctC_Mutants_isSecond {l : Launch} {D : va_G} {K : en_K} {ad : Nat → Nat} (x1 : Int32) (u : Ug) (r0 : Int32) (u0 : Ug) (hf : fC_Mutants_isSecond x1 u = some (r0, u0)) : CT l D (en_ty K) ad (1) yX3_isSecond cX3_isSecond 1 (some .boolean) [.int x1] (wdC K u) (en_RI (wdC K) r0 u0) := by
  refine CT.of (by decide) [some (.int x1)] rfl (Nat.le_of_ble_eq_true rfl) ?_
  intro p e R s m args below meth c sz C
  unfold fC_Mutants_isSecond at hf
  refine g_iload_n_0 C dX3_isSecond_0 ?_
  refine g_iconst (v := (2 : Int32)) C dX3_isSecond_1 (by decide) ?_
  refine g_irem C dX3_isSecond_2 (by decide) ?_
  refine g_iconst (v := (1 : Int32)) C dX3_isSecond_3 (by decide) ?_
  refine g_if_icmp_ne (tgt := 11) C dX3_isSecond_4 (by decide) (fun c1 => ?_) (fun c1 => ?_)
  · rw [if_neg c1] at hf
    refine g_iconst (v := (0 : Int32)) C dX3_isSecond_11 (by decide) ?_
    exact g_zret C rfl dX3_isSecond_12 (en_finI hf)
  · rw [if_pos c1] at hf
    refine g_iconst (v := (1 : Int32)) C dX3_isSecond_7 (by decide) ?_
    refine g_goto (tgt := 12) C dX3_isSecond_8 (by decide) ?_
    exact g_zret C rfl dX3_isSecond_12 (en_finI hf)
set_option maxHeartbeats 4000000 in
set_option maxRecDepth 100000 in
theorem ctC_mutant {l : Launch} {D : va_G} {K : en_K} {ad : Nat → Nat} (x1 : Int32) (x2 : Int32) (x3 : Int32) (u : Ug) (r0 : Int32) (u0 : Ug) (hf : fC_mutant x1 x2 x3 u = some (r0, u0)) : CT l D (en_ty K) ad (3) yX7_mutant cX7_mutant 5 (some .int) [.ref 0, .int x1, .int x2, .int x3] (wdC K u) (en_RI (wdC K) r0 u0) := by
  refine CT.of (by decide) [some (.ref 0), some (.int x1), some (.int x2), some (.int x3), none] rfl (Nat.le_of_ble_eq_true rfl) ?_
  intro p e R s m args below meth c sz C
  unfold fC_mutant at hf
  refine g_aload_n_0 C dX7_mutant_0 ?_
  refine gf_X7_19 C dX7_mutant_1 ?_
  refine g_iload_n_1 C dX7_mutant_4 ?_
  obtain ⟨q1, hq1, hf⟩ := en_bnd hf
  refine gc_X7_137_C_Code_isContract C (ctC_Code_isContract _ _ q1.1 q1.2 hq1) (by decide) (Nat.le_of_ble_eq_true rfl) dX7_mutant_5 ?_
  refine g_if_ne (tgt := 13) C dX7_mutant_8 (by decide) (fun c2 => ?_) (fun c2 => ?_)
  · rw [if_neg c2] at hf
    refine g_aload_n_0 C dX7_mutant_13 ?_
    refine gf_X7_60 C dX7_mutant_14 ?_
    refine g_iload_n_1 C dX7_mutant_17 ?_
    refine g_iload_n_2 C dX7_mutant_18 ?_
    obtain ⟨q3, hq3, hf⟩ := en_bnd hf
    refine gc_X7_143_C_Mutants_find C (ctC_Mutants_find _ _ _ q3.1 q3.2 hq3) (by decide) (Nat.le_of_ble_eq_true rfl) dX7_mutant_19 ?_
    refine g_istore_4 C dX7_mutant_22 (by decide) rfl ?_
    refine g_iload_4 C dX7_mutant_24 ?_
    refine g_if_ge (tgt := 31) C dX7_mutant_26 (by decide) (fun c4 => ?_) (fun c4 => ?_)
    · rw [if_pos c4] at hf
      refine g_iload_n_3 C dX7_mutant_31 ?_
      rcases Decidable.em (x3 = (0 : Int32)) with s32_0 | s32_0
      · rw [if_pos s32_0] at hf
        refine g_tsw (z := (0 : Int32)) (tgt := 60) C dX7_mutant_32 s32_0 (by decide) (by decide) rfl (by decide) ?_
        refine g_iload_4 C dX7_mutant_60 ?_
        obtain ⟨q5, hq5, hf⟩ := en_bnd hf
        refine gc_X7_146_C_Mutants_memberOf C (ctC_Mutants_memberOf _ _ q5.1 q5.2 hq5) (by decide) (Nat.le_of_ble_eq_true rfl) dX7_mutant_62 ?_
        exact g_iret C dX7_mutant_65 (en_finI hf)
      rw [if_neg s32_0] at hf
      rcases Decidable.em (x3 = (1 : Int32)) with s32_1 | s32_1
      · rw [if_pos s32_1] at hf
        refine g_tsw (z := (1 : Int32)) (tgt := 66) C dX7_mutant_32 s32_1 (by decide) (by decide) rfl (by decide) ?_
        refine g_iload_4 C dX7_mutant_66 ?_
        obtain ⟨q6, hq6, hf⟩ := en_bnd hf
        refine gc_X7_149_C_Mutants_stepOf C (ctC_Mutants_stepOf _ _ q6.1 q6.2 hq6) (by decide) (Nat.le_of_ble_eq_true rfl) dX7_mutant_68 ?_
        exact g_iret C dX7_mutant_71 (en_finI hf)
      rw [if_neg s32_1] at hf
      rcases Decidable.em (x3 = (2 : Int32)) with s32_2 | s32_2
      · rw [if_pos s32_2] at hf
        refine g_tsw (z := (2 : Int32)) (tgt := 72) C dX7_mutant_32 s32_2 (by decide) (by decide) rfl (by decide) ?_
        refine g_iload_4 C dX7_mutant_72 ?_
        obtain ⟨q7, hq7, hf⟩ := en_bnd hf
        refine gc_X7_152_C_Mutants_isSecond C (ctC_Mutants_isSecond _ _ q7.1 q7.2 hq7) (by decide) (Nat.le_of_ble_eq_true rfl) dX7_mutant_74 ?_
        refine g_if_eq (tgt := 84) C dX7_mutant_77 (by decide) (fun c8 => ?_) (fun c8 => ?_)
        · rw [if_pos c8] at hf
          refine g_iconst (v := (0 : Int32)) C dX7_mutant_84 (by decide) ?_
          exact g_iret C dX7_mutant_85 (en_finI hf)
        · rw [if_neg c8] at hf
          refine g_iconst (v := (1 : Int32)) C dX7_mutant_80 (by decide) ?_
          refine g_goto (tgt := 85) C dX7_mutant_81 (by decide) ?_
          exact g_iret C dX7_mutant_85 (en_finI hf)
      rw [if_neg s32_2] at hf
      refine g_tswD (tgt := 86) C [(0 : Int32), (1 : Int32), (2 : Int32)] dX7_mutant_32 (And.intro s32_0 (And.intro s32_1 (And.intro s32_2 trivial))) 3 (by decide) (by decide) (by decide) ?_
      refine g_iconst (v := (-1 : Int32)) C dX7_mutant_86 (by decide) ?_
      exact g_iret C dX7_mutant_87 (en_finI hf)
    · rw [if_neg c4] at hf
      refine g_iconst (v := (-1 : Int32)) C dX7_mutant_29 (by decide) ?_
      exact g_iret C dX7_mutant_30 (en_finI hf)
  · rw [if_pos c2] at hf
    refine g_iconst (v := (-1 : Int32)) C dX7_mutant_11 (by decide) ?_
    exact g_iret C dX7_mutant_12 (en_finI hf)
set_option maxHeartbeats 4000000 in
set_option maxRecDepth 100000 in
theorem ctC_Mutants_begin {l : Launch} {D : va_G} {K : en_K} {ad : Nat → Nat} (x1 : Int32) (u : Ug) (r0 : Int32) (u0 : Ug) (hf : fC_Mutants_begin x1 u = some (r0, u0)) : CT l D (en_ty K) ad (3) yX3_begin cX3_begin 3 (some .int) [.ref 23, .int x1] (wdC K u) (en_RI (wdC K) r0 u0) := by
  refine CT.of (by decide) [some (.ref 23), some (.int x1), none] rfl (Nat.le_of_ble_eq_true rfl) ?_
  intro p e R s m args below meth c sz C
  unfold fC_Mutants_begin at hf
  refine g_aload_n_0 C dX3_begin_0 ?_
  refine g_iload_n_1 C dX3_begin_1 ?_
  obtain ⟨q1, hq1, hf⟩ := en_bnd hf
  refine gc_X3_48_C_Mutants_howMany C (ctC_Mutants_howMany _ _ q1.1 q1.2 hq1) (by decide) (Nat.le_of_ble_eq_true rfl) dX3_begin_2 ?_
  refine g_bipush (v := (48 : Int32)) C dX3_begin_5 (by decide) ?_
  refine gm_X3_51 C (by decide) (Nat.le_of_ble_eq_true rfl) dX3_begin_7 ?_
  refine g_istore_n_2 C dX3_begin_10 (by decide) rfl ?_
  refine g_iload_n_1 C dX3_begin_11 ?_
  refine g_if_lt (tgt := 27) C dX3_begin_12 (by decide) (fun c2 => ?_) (fun c2 => ?_)
  · rw [if_pos c2] at hf
    refine g_iload_n_2 C dX3_begin_27 ?_
    exact g_iret C dX3_begin_28 (en_finI hf)
  · rw [if_neg c2] at hf
    refine g_iload_n_1 C dX3_begin_15 ?_
    refine g_iconst (v := (4 : Int32)) C dX3_begin_16 (by decide) ?_
    refine g_if_icmp_ge (tgt := 27) C dX3_begin_17 (by decide) (fun c3 => ?_) (fun c3 => ?_)
    · rw [if_pos c3] at hf
      refine g_iload_n_2 C dX3_begin_27 ?_
      exact g_iret C dX3_begin_28 (en_finI hf)
    · rw [if_neg c3] at hf
      refine g_aload_n_0 C dX3_begin_20 ?_
      refine gf_X3_9 C dX3_begin_21 ?_
      refine g_iload_n_1 C dX3_begin_24 ?_
      refine g_iload_n_2 C dX3_begin_25 ?_
      obtain ⟨u4, hu4, hf⟩ := en_bnd hf
      refine gaC_st_24 C hu4 dX3_begin_26 ?_
      refine g_iload_n_2 C dX3_begin_27 ?_
      exact g_iret C dX3_begin_28 (en_finI hf)
set_option maxHeartbeats 4000000 in
set_option maxRecDepth 100000 in
theorem ctC_Mutants_putFirst {l : Launch} {D : va_G} {K : en_K} {ad : Nat → Nat} (u : Ug) (r0 : Int32) (u0 : Ug) (hf : fC_Mutants_putFirst u = some (r0, u0)) : CT l D (en_ty K) ad (2) yX3_putFirst cX3_putFirst 1 none [.ref 23] (wdC K u) (en_RV (wdC K) u0) := by
  refine CT.of (by decide) [some (.ref 23)] rfl (Nat.le_of_ble_eq_true rfl) ?_
  intro p e R s m args below meth c sz C
  unfold fC_Mutants_putFirst at hf
  refine g_aload_n_0 C dX3_putFirst_0 ?_
  refine gf_X3_22 C dX3_putFirst_1 ?_
  rcases Decidable.em ((u 30 0) = (2 : Int32)) with s4_2 | s4_2
  · rw [if_pos s4_2] at hf
    refine g_tsw (z := (2 : Int32)) (tgt := 44) C dX3_putFirst_4 s4_2 (by decide) (by decide) rfl (by decide) ?_
    refine g_aload_n_0 C dX3_putFirst_44 ?_
    refine gf_X3_31 C dX3_putFirst_45 ?_
    refine g_aload_n_0 C dX3_putFirst_48 ?_
    refine gf_X3_18 C dX3_putFirst_49 ?_
    refine g_aload_n_0 C dX3_putFirst_52 ?_
    refine gf_X3_22 C dX3_putFirst_53 ?_
    refine g_aload_n_0 C dX3_putFirst_56 ?_
    refine gf_X3_25 C dX3_putFirst_57 ?_
    refine g_aload_n_0 C dX3_putFirst_60 ?_
    refine gf_X3_28 C dX3_putFirst_61 ?_
    refine g_iconst (v := (1 : Int32)) C dX3_putFirst_64 (by decide) ?_
    refine g_iadd C dX3_putFirst_65 ?_
    obtain ⟨q1, hq1, hf⟩ := en_bnd hf
    refine gc_X3_73_C_Code_replace C (ctC_Code_replace _ _ _ _ _ q1.1 q1.2 hq1) (by decide) (Nat.le_of_ble_eq_true rfl) dX3_putFirst_66 ?_
    refine g_goto (tgt := 152) C dX3_putFirst_69 (by decide) ?_
    exact g_vret C dX3_putFirst_152 (en_finV hf)
  rw [if_neg s4_2] at hf
  rcases Decidable.em ((u 30 0) = (4 : Int32)) with s4_4 | s4_4
  · rw [if_pos s4_4] at hf
    refine g_tsw (z := (4 : Int32)) (tgt := 44) C dX3_putFirst_4 s4_4 (by decide) (by decide) rfl (by decide) ?_
    refine g_aload_n_0 C dX3_putFirst_44 ?_
    refine gf_X3_31 C dX3_putFirst_45 ?_
    refine g_aload_n_0 C dX3_putFirst_48 ?_
    refine gf_X3_18 C dX3_putFirst_49 ?_
    refine g_aload_n_0 C dX3_putFirst_52 ?_
    refine gf_X3_22 C dX3_putFirst_53 ?_
    refine g_aload_n_0 C dX3_putFirst_56 ?_
    refine gf_X3_25 C dX3_putFirst_57 ?_
    refine g_aload_n_0 C dX3_putFirst_60 ?_
    refine gf_X3_28 C dX3_putFirst_61 ?_
    refine g_iconst (v := (1 : Int32)) C dX3_putFirst_64 (by decide) ?_
    refine g_iadd C dX3_putFirst_65 ?_
    obtain ⟨q2, hq2, hf⟩ := en_bnd hf
    refine gc_X3_73_C_Code_replace C (ctC_Code_replace _ _ _ _ _ q2.1 q2.2 hq2) (by decide) (Nat.le_of_ble_eq_true rfl) dX3_putFirst_66 ?_
    refine g_goto (tgt := 152) C dX3_putFirst_69 (by decide) ?_
    exact g_vret C dX3_putFirst_152 (en_finV hf)
  rw [if_neg s4_4] at hf
  rcases Decidable.em ((u 30 0) = (5 : Int32)) with s4_5 | s4_5
  · rw [if_pos s4_5] at hf
    refine g_tsw (z := (5 : Int32)) (tgt := 100) C dX3_putFirst_4 s4_5 (by decide) (by decide) rfl (by decide) ?_
    refine g_aload_n_0 C dX3_putFirst_100 ?_
    refine gf_X3_31 C dX3_putFirst_101 ?_
    refine g_aload_n_0 C dX3_putFirst_104 ?_
    refine gf_X3_18 C dX3_putFirst_105 ?_
    refine g_aload_n_0 C dX3_putFirst_108 ?_
    refine gf_X3_22 C dX3_putFirst_109 ?_
    refine g_aload_n_0 C dX3_putFirst_112 ?_
    refine gf_X3_25 C dX3_putFirst_113 ?_
    refine g_iconst (v := (1 : Int32)) C dX3_putFirst_116 (by decide) ?_
    refine g_iadd C dX3_putFirst_117 ?_
    refine g_bipush (v := (12 : Int32)) C dX3_putFirst_118 (by decide) ?_
    refine g_irem C dX3_putFirst_120 (by decide) ?_
    refine g_aload_n_0 C dX3_putFirst_121 ?_
    refine gf_X3_28 C dX3_putFirst_122 ?_
    obtain ⟨q3, hq3, hf⟩ := en_bnd hf
    refine gc_X3_73_C_Code_replace C (ctC_Code_replace _ _ _ _ _ q3.1 q3.2 hq3) (by decide) (Nat.le_of_ble_eq_true rfl) dX3_putFirst_125 ?_
    refine g_goto (tgt := 152) C dX3_putFirst_128 (by decide) ?_
    exact g_vret C dX3_putFirst_152 (en_finV hf)
  rw [if_neg s4_5] at hf
  rcases Decidable.em ((u 30 0) = (7 : Int32)) with s4_7 | s4_7
  · rw [if_pos s4_7] at hf
    refine g_tsw (z := (7 : Int32)) (tgt := 72) C dX3_putFirst_4 s4_7 (by decide) (by decide) rfl (by decide) ?_
    refine g_aload_n_0 C dX3_putFirst_72 ?_
    refine gf_X3_31 C dX3_putFirst_73 ?_
    refine g_aload_n_0 C dX3_putFirst_76 ?_
    refine gf_X3_18 C dX3_putFirst_77 ?_
    refine g_aload_n_0 C dX3_putFirst_80 ?_
    refine gf_X3_22 C dX3_putFirst_81 ?_
    refine g_aload_n_0 C dX3_putFirst_84 ?_
    refine gf_X3_25 C dX3_putFirst_85 ?_
    refine g_iconst (v := (1 : Int32)) C dX3_putFirst_88 (by decide) ?_
    refine g_iadd C dX3_putFirst_89 ?_
    refine g_aload_n_0 C dX3_putFirst_90 ?_
    refine gf_X3_28 C dX3_putFirst_91 ?_
    obtain ⟨q4, hq4, hf⟩ := en_bnd hf
    refine gc_X3_73_C_Code_replace C (ctC_Code_replace _ _ _ _ _ q4.1 q4.2 hq4) (by decide) (Nat.le_of_ble_eq_true rfl) dX3_putFirst_94 ?_
    refine g_goto (tgt := 152) C dX3_putFirst_97 (by decide) ?_
    exact g_vret C dX3_putFirst_152 (en_finV hf)
  rw [if_neg s4_7] at hf
  refine g_tswD (tgt := 131) C [(2 : Int32), (4 : Int32), (5 : Int32), (7 : Int32)] dX3_putFirst_4 (And.intro s4_2 (And.intro s4_4 (And.intro s4_5 (And.intro s4_7 trivial)))) 6 (by decide) (by decide) (by decide) ?_
  refine g_aload_n_0 C dX3_putFirst_131 ?_
  refine gf_X3_31 C dX3_putFirst_132 ?_
  refine g_aload_n_0 C dX3_putFirst_135 ?_
  refine gf_X3_18 C dX3_putFirst_136 ?_
  refine g_bipush (v := (12 : Int32)) C dX3_putFirst_139 (by decide) ?_
  refine g_aload_n_0 C dX3_putFirst_141 ?_
  refine gf_X3_25 C dX3_putFirst_142 ?_
  refine g_aload_n_0 C dX3_putFirst_145 ?_
  refine gf_X3_28 C dX3_putFirst_146 ?_
  obtain ⟨q5, hq5, hf⟩ := en_bnd hf
  refine gc_X3_73_C_Code_replace C (ctC_Code_replace _ _ _ _ _ q5.1 q5.2 hq5) (by decide) (Nat.le_of_ble_eq_true rfl) dX3_putFirst_149 ?_
  exact g_vret C dX3_putFirst_152 (en_finV hf)
set_option maxHeartbeats 4000000 in
set_option maxRecDepth 100000 in
theorem ctC_Mutants_putSecond {l : Launch} {D : va_G} {K : en_K} {ad : Nat → Nat} (u : Ug) (r0 : Int32) (u0 : Ug) (hf : fC_Mutants_putSecond u = some (r0, u0)) : CT l D (en_ty K) ad (2) yX3_putSecond cX3_putSecond 1 none [.ref 23] (wdC K u) (en_RV (wdC K) u0) := by
  refine CT.of (by decide) [some (.ref 23)] rfl (Nat.le_of_ble_eq_true rfl) ?_
  intro p e R s m args below meth c sz C
  unfold fC_Mutants_putSecond at hf
  refine g_aload_n_0 C dX3_putSecond_0 ?_
  refine gf_X3_22 C dX3_putSecond_1 ?_
  rcases Decidable.em ((u 30 0) = (2 : Int32)) with s4_2 | s4_2
  · rw [if_pos s4_2] at hf
    refine g_lsw (off := 28) (tgt := 32) C dX3_putSecond_4 (by decide) (by rw [s4_2]; try rfl) (by decide) ?_
    refine g_aload_n_0 C dX3_putSecond_32 ?_
    refine gf_X3_31 C dX3_putSecond_33 ?_
    refine g_aload_n_0 C dX3_putSecond_36 ?_
    refine gf_X3_18 C dX3_putSecond_37 ?_
    refine g_aload_n_0 C dX3_putSecond_40 ?_
    refine gf_X3_22 C dX3_putSecond_41 ?_
    refine g_aload_n_0 C dX3_putSecond_44 ?_
    refine gf_X3_25 C dX3_putSecond_45 ?_
    refine g_aload_n_0 C dX3_putSecond_48 ?_
    refine gf_X3_28 C dX3_putSecond_49 ?_
    refine g_ineg C dX3_putSecond_52 ?_
    obtain ⟨q1, hq1, hf⟩ := en_bnd hf
    refine gc_X3_73_C_Code_replace C (ctC_Code_replace _ _ _ _ _ q1.1 q1.2 hq1) (by decide) (Nat.le_of_ble_eq_true rfl) dX3_putSecond_53 ?_
    refine g_goto (tgt := 104) C dX3_putSecond_56 (by decide) ?_
    exact g_vret C dX3_putSecond_104 (en_finV hf)
  rw [if_neg s4_2] at hf
  rcases Decidable.em ((u 30 0) = (7 : Int32)) with s4_7 | s4_7
  · rw [if_pos s4_7] at hf
    refine g_lsw (off := 55) (tgt := 59) C dX3_putSecond_4 (by decide) (by rw [s4_7]; try rfl) (by decide) ?_
    refine g_aload_n_0 C dX3_putSecond_59 ?_
    refine gf_X3_31 C dX3_putSecond_60 ?_
    refine g_aload_n_0 C dX3_putSecond_63 ?_
    refine gf_X3_18 C dX3_putSecond_64 ?_
    refine g_bipush (v := (13 : Int32)) C dX3_putSecond_67 (by decide) ?_
    refine g_aload_n_0 C dX3_putSecond_69 ?_
    refine gf_X3_25 C dX3_putSecond_70 ?_
    refine g_aload_n_0 C dX3_putSecond_73 ?_
    refine gf_X3_28 C dX3_putSecond_74 ?_
    obtain ⟨q2, hq2, hf⟩ := en_bnd hf
    refine gc_X3_73_C_Code_replace C (ctC_Code_replace _ _ _ _ _ q2.1 q2.2 hq2) (by decide) (Nat.le_of_ble_eq_true rfl) dX3_putSecond_77 ?_
    refine g_goto (tgt := 104) C dX3_putSecond_80 (by decide) ?_
    exact g_vret C dX3_putSecond_104 (en_finV hf)
  rw [if_neg s4_7] at hf
  refine g_lsw (off := 79) (tgt := 83) C dX3_putSecond_4 (by decide) (by show Op.lookupswitch.offset [(2, 28), (7, 55)] 79 _ = _; rw [lv_osw (a := 2) s4_2 (by decide), lv_osw (a := 7) s4_7 (by decide)]; try rfl) (by decide) ?_
  refine g_aload_n_0 C dX3_putSecond_83 ?_
  refine gf_X3_31 C dX3_putSecond_84 ?_
  refine g_aload_n_0 C dX3_putSecond_87 ?_
  refine gf_X3_18 C dX3_putSecond_88 ?_
  refine g_bipush (v := (12 : Int32)) C dX3_putSecond_91 (by decide) ?_
  refine g_aload_n_0 C dX3_putSecond_93 ?_
  refine gf_X3_25 C dX3_putSecond_94 ?_
  refine g_aload_n_0 C dX3_putSecond_97 ?_
  refine gf_X3_28 C dX3_putSecond_98 ?_
  obtain ⟨q3, hq3, hf⟩ := en_bnd hf
  refine gc_X3_73_C_Code_replace C (ctC_Code_replace _ _ _ _ _ q3.1 q3.2 hq3) (by decide) (Nat.le_of_ble_eq_true rfl) dX3_putSecond_101 ?_
  exact g_vret C dX3_putSecond_104 (en_finV hf)
set_option maxHeartbeats 4000000 in
set_option maxRecDepth 100000 in
theorem ctC_Mutants_putIn {l : Launch} {D : va_G} {K : en_K} {ad : Nat → Nat} (x1 : Int32) (x2 : Int32) (u : Ug) (r0 : Int32) (u0 : Ug) (hf : fC_Mutants_putIn x1 x2 u = some (r0, u0)) : CT l D (en_ty K) ad (3) yX3_putIn cX3_putIn 4 none [.ref 23, .int x1, .int x2] (wdC K u) (en_RV (wdC K) u0) := by
  refine CT.of (by decide) [some (.ref 23), some (.int x1), some (.int x2), none] rfl (Nat.le_of_ble_eq_true rfl) ?_
  intro p e R s m args below meth c sz C
  unfold fC_Mutants_putIn at hf
  refine g_aload_n_0 C dX3_putIn_0 ?_
  refine g_iload_n_1 C dX3_putIn_1 ?_
  refine g_iload_n_2 C dX3_putIn_2 ?_
  obtain ⟨q1, hq1, hf⟩ := en_bnd hf
  refine gc_X3_56_C_Mutants_find C (ctC_Mutants_find _ _ _ q1.1 q1.2 hq1) (by decide) (Nat.le_of_ble_eq_true rfl) dX3_putIn_3 ?_
  refine g_istore_n_3 C dX3_putIn_6 (by decide) rfl ?_
  refine g_aload_n_0 C dX3_putIn_7 ?_
  refine g_iload_n_3 C dX3_putIn_8 ?_
  refine g_if_ge (tgt := 16) C dX3_putIn_9 (by decide) (fun c2 => ?_) (fun c2 => ?_)
  · rw [if_pos c2] at hf
    refine g_iload_n_1 C dX3_putIn_16 ?_
    refine g_iconst (v := (3 : Int32)) C dX3_putIn_17 (by decide) ?_
    refine g_imul C dX3_putIn_18 ?_
    refine g_bipush (v := (8 : Int32)) C dX3_putIn_19 (by decide) ?_
    refine g_imul C dX3_putIn_21 ?_
    refine g_iload_n_3 C dX3_putIn_22 ?_
    refine g_iconst (v := (2 : Int32)) C dX3_putIn_23 (by decide) ?_
    refine g_idiv C dX3_putIn_24 (by decide) ?_
    refine g_iadd C dX3_putIn_25 ?_
    obtain ⟨u3, hu3, hf⟩ := en_bnd hf
    refine gp_X3_18 C hu3 dX3_putIn_26 ?_
    refine g_aload_n_0 C dX3_putIn_29 ?_
    refine g_aload_n_0 C dX3_putIn_30 ?_
    refine gf_X3_31 C dX3_putIn_31 ?_
    refine g_aload_n_0 C dX3_putIn_34 ?_
    refine gf_X3_18 C dX3_putIn_35 ?_
    obtain ⟨q4, hq4, hf⟩ := en_bnd hf
    refine gc_X3_43_C_Code_kind C (ctC_Code_kind _ _ q4.1 q4.2 hq4) (by decide) (Nat.le_of_ble_eq_true rfl) dX3_putIn_38 ?_
    obtain ⟨u5, hu5, hf⟩ := en_bnd hf
    refine gp_X3_22 C hu5 dX3_putIn_41 ?_
    refine g_aload_n_0 C dX3_putIn_44 ?_
    refine g_aload_n_0 C dX3_putIn_45 ?_
    refine gf_X3_31 C dX3_putIn_46 ?_
    refine g_aload_n_0 C dX3_putIn_49 ?_
    refine gf_X3_18 C dX3_putIn_50 ?_
    obtain ⟨q6, hq6, hf⟩ := en_bnd hf
    refine gc_X3_59_C_Code_a C (ctC_Code_a _ _ q6.1 q6.2 hq6) (by decide) (Nat.le_of_ble_eq_true rfl) dX3_putIn_53 ?_
    obtain ⟨u7, hu7, hf⟩ := en_bnd hf
    refine gp_X3_25 C hu7 dX3_putIn_56 ?_
    refine g_aload_n_0 C dX3_putIn_59 ?_
    refine g_aload_n_0 C dX3_putIn_60 ?_
    refine gf_X3_31 C dX3_putIn_61 ?_
    refine g_aload_n_0 C dX3_putIn_64 ?_
    refine gf_X3_18 C dX3_putIn_65 ?_
    obtain ⟨q8, hq8, hf⟩ := en_bnd hf
    refine gc_X3_61_C_Code_b C (ctC_Code_b _ _ q8.1 q8.2 hq8) (by decide) (Nat.le_of_ble_eq_true rfl) dX3_putIn_68 ?_
    obtain ⟨u9, hu9, hf⟩ := en_bnd hf
    refine gp_X3_28 C hu9 dX3_putIn_71 ?_
    refine g_iload_n_3 C dX3_putIn_74 ?_
    obtain ⟨q10, hq10, hf⟩ := en_bnd hf
    refine gc_X3_63_C_Mutants_isSecond C (ctC_Mutants_isSecond _ _ q10.1 q10.2 hq10) (by decide) (Nat.le_of_ble_eq_true rfl) dX3_putIn_75 ?_
    refine g_if_eq (tgt := 88) C dX3_putIn_78 (by decide) (fun c11 => ?_) (fun c11 => ?_)
    · rw [if_pos c11] at hf
      refine g_aload_n_0 C dX3_putIn_88 ?_
      obtain ⟨q12, hq12, hf⟩ := en_bnd hf
      refine gc_X3_70_C_Mutants_putFirst C (ctC_Mutants_putFirst _ q12.1 q12.2 hq12) (by decide) (Nat.le_of_ble_eq_true rfl) dX3_putIn_89 ?_
      exact g_vret C dX3_putIn_92 (en_finV hf)
    · rw [if_neg c11] at hf
      refine g_aload_n_0 C dX3_putIn_81 ?_
      obtain ⟨q13, hq13, hf⟩ := en_bnd hf
      refine gc_X3_67_C_Mutants_putSecond C (ctC_Mutants_putSecond _ q13.1 q13.2 hq13) (by decide) (Nat.le_of_ble_eq_true rfl) dX3_putIn_82 ?_
      refine g_goto (tgt := 92) C dX3_putIn_85 (by decide) ?_
      exact g_vret C dX3_putIn_92 (en_finV hf)
  · rw [if_neg c2] at hf
    refine g_iconst (v := (-1 : Int32)) C dX3_putIn_12 (by decide) ?_
    refine g_goto (tgt := 26) C dX3_putIn_13 (by decide) ?_
    obtain ⟨u14, hu14, hf⟩ := en_bnd hf
    refine gp_X3_18 C hu14 dX3_putIn_26 ?_
    refine g_aload_n_0 C dX3_putIn_29 ?_
    refine g_aload_n_0 C dX3_putIn_30 ?_
    refine gf_X3_31 C dX3_putIn_31 ?_
    refine g_aload_n_0 C dX3_putIn_34 ?_
    refine gf_X3_18 C dX3_putIn_35 ?_
    obtain ⟨q15, hq15, hf⟩ := en_bnd hf
    refine gc_X3_43_C_Code_kind C (ctC_Code_kind _ _ q15.1 q15.2 hq15) (by decide) (Nat.le_of_ble_eq_true rfl) dX3_putIn_38 ?_
    obtain ⟨u16, hu16, hf⟩ := en_bnd hf
    refine gp_X3_22 C hu16 dX3_putIn_41 ?_
    refine g_aload_n_0 C dX3_putIn_44 ?_
    refine g_aload_n_0 C dX3_putIn_45 ?_
    refine gf_X3_31 C dX3_putIn_46 ?_
    refine g_aload_n_0 C dX3_putIn_49 ?_
    refine gf_X3_18 C dX3_putIn_50 ?_
    obtain ⟨q17, hq17, hf⟩ := en_bnd hf
    refine gc_X3_59_C_Code_a C (ctC_Code_a _ _ q17.1 q17.2 hq17) (by decide) (Nat.le_of_ble_eq_true rfl) dX3_putIn_53 ?_
    obtain ⟨u18, hu18, hf⟩ := en_bnd hf
    refine gp_X3_25 C hu18 dX3_putIn_56 ?_
    refine g_aload_n_0 C dX3_putIn_59 ?_
    refine g_aload_n_0 C dX3_putIn_60 ?_
    refine gf_X3_31 C dX3_putIn_61 ?_
    refine g_aload_n_0 C dX3_putIn_64 ?_
    refine gf_X3_18 C dX3_putIn_65 ?_
    obtain ⟨q19, hq19, hf⟩ := en_bnd hf
    refine gc_X3_61_C_Code_b C (ctC_Code_b _ _ q19.1 q19.2 hq19) (by decide) (Nat.le_of_ble_eq_true rfl) dX3_putIn_68 ?_
    obtain ⟨u20, hu20, hf⟩ := en_bnd hf
    refine gp_X3_28 C hu20 dX3_putIn_71 ?_
    refine g_iload_n_3 C dX3_putIn_74 ?_
    obtain ⟨q21, hq21, hf⟩ := en_bnd hf
    refine gc_X3_63_C_Mutants_isSecond C (ctC_Mutants_isSecond _ _ q21.1 q21.2 hq21) (by decide) (Nat.le_of_ble_eq_true rfl) dX3_putIn_75 ?_
    refine g_if_eq (tgt := 88) C dX3_putIn_78 (by decide) (fun c22 => ?_) (fun c22 => ?_)
    · rw [if_pos c22] at hf
      refine g_aload_n_0 C dX3_putIn_88 ?_
      obtain ⟨q23, hq23, hf⟩ := en_bnd hf
      refine gc_X3_70_C_Mutants_putFirst C (ctC_Mutants_putFirst _ q23.1 q23.2 hq23) (by decide) (Nat.le_of_ble_eq_true rfl) dX3_putIn_89 ?_
      exact g_vret C dX3_putIn_92 (en_finV hf)
    · rw [if_neg c22] at hf
      refine g_aload_n_0 C dX3_putIn_81 ?_
      obtain ⟨q24, hq24, hf⟩ := en_bnd hf
      refine gc_X3_67_C_Mutants_putSecond C (ctC_Mutants_putSecond _ q24.1 q24.2 hq24) (by decide) (Nat.le_of_ble_eq_true rfl) dX3_putIn_82 ?_
      refine g_goto (tgt := 92) C dX3_putIn_85 (by decide) ?_
      exact g_vret C dX3_putIn_92 (en_finV hf)
set_option maxHeartbeats 4000000 in
set_option maxRecDepth 100000 in
theorem ctC_Mutants_takeOut {l : Launch} {D : va_G} {K : en_K} {ad : Nat → Nat} (x1 : Int32) (x2 : Int32) (x3 : Int32) (u : Ug) (r0 : Int32) (u0 : Ug) (hf : fC_Mutants_takeOut x1 x2 x3 u = some (r0, u0)) : CT l D (en_ty K) ad (2) yX3_takeOut cX3_takeOut 4 none [.ref 23, .int x1, .int x2, .int x3] (wdC K u) (en_RV (wdC K) u0) := by
  refine CT.of (by decide) [some (.ref 23), some (.int x1), some (.int x2), some (.int x3)] rfl (Nat.le_of_ble_eq_true rfl) ?_
  intro p e R s m args below meth c sz C
  unfold fC_Mutants_takeOut at hf
  refine g_aload_n_0 C dX3_takeOut_0 ?_
  refine gf_X3_31 C dX3_takeOut_1 ?_
  refine g_aload_n_0 C dX3_takeOut_4 ?_
  refine gf_X3_18 C dX3_takeOut_5 ?_
  refine g_aload_n_0 C dX3_takeOut_8 ?_
  refine gf_X3_22 C dX3_takeOut_9 ?_
  refine g_aload_n_0 C dX3_takeOut_12 ?_
  refine gf_X3_25 C dX3_takeOut_13 ?_
  refine g_aload_n_0 C dX3_takeOut_16 ?_
  refine gf_X3_28 C dX3_takeOut_17 ?_
  obtain ⟨q1, hq1, hf⟩ := en_bnd hf
  refine gc_X3_73_C_Code_replace C (ctC_Code_replace _ _ _ _ _ q1.1 q1.2 hq1) (by decide) (Nat.le_of_ble_eq_true rfl) dX3_takeOut_20 ?_
  refine g_iload_n_1 C dX3_takeOut_23 ?_
  refine g_if_lt (tgt := 54) C dX3_takeOut_24 (by decide) (fun c2 => ?_) (fun c2 => ?_)
  · rw [if_pos c2] at hf
    exact g_vret C dX3_takeOut_54 (en_finV hf)
  · rw [if_neg c2] at hf
    refine g_iload_n_1 C dX3_takeOut_27 ?_
    refine g_iconst (v := (4 : Int32)) C dX3_takeOut_28 (by decide) ?_
    refine g_if_icmp_ge (tgt := 54) C dX3_takeOut_29 (by decide) (fun c3 => ?_) (fun c3 => ?_)
    · rw [if_pos c3] at hf
      exact g_vret C dX3_takeOut_54 (en_finV hf)
    · rw [if_neg c3] at hf
      refine g_iload_n_2 C dX3_takeOut_32 ?_
      refine g_if_lt (tgt := 54) C dX3_takeOut_33 (by decide) (fun c4 => ?_) (fun c4 => ?_)
      · rw [if_pos c4] at hf
        exact g_vret C dX3_takeOut_54 (en_finV hf)
      · rw [if_neg c4] at hf
        refine g_iload_n_2 C dX3_takeOut_36 ?_
        refine g_bipush (v := (48 : Int32)) C dX3_takeOut_37 (by decide) ?_
        refine g_if_icmp_ge (tgt := 54) C dX3_takeOut_39 (by decide) (fun c5 => ?_) (fun c5 => ?_)
        · rw [if_pos c5] at hf
          exact g_vret C dX3_takeOut_54 (en_finV hf)
        · rw [if_neg c5] at hf
          refine g_aload_n_0 C dX3_takeOut_42 ?_
          refine gf_X3_15 C dX3_takeOut_43 ?_
          refine g_iload_n_1 C dX3_takeOut_46 ?_
          refine g_bipush (v := (48 : Int32)) C dX3_takeOut_47 (by decide) ?_
          refine g_imul C dX3_takeOut_49 ?_
          refine g_iload_n_2 C dX3_takeOut_50 ?_
          refine g_iadd C dX3_takeOut_51 ?_
          refine g_iload_n_3 C dX3_takeOut_52 ?_
          obtain ⟨u6, hu6, hf⟩ := en_bnd hf
          refine gaC_st_25 C hu6 dX3_takeOut_53 ?_
          exact g_vret C dX3_takeOut_54 (en_finV hf)
set_option maxHeartbeats 4000000 in
set_option maxRecDepth 100000 in
theorem ctC_judge {l : Launch} {D : va_G} {K : en_K} {ad : Nat → Nat} (x1 : Int32) (u : Ug) (r0 : Int32) (u0 : Ug) (hf : fC_judge x1 u = some (r0, u0)) : CT l D (en_ty K) ad (107) yX7_judge cX7_judge 8 (some .int) [.ref 0, .int x1] (wdC K u) (en_RI (wdC K) r0 u0) := by
  refine CT.of (by decide) [some (.ref 0), some (.int x1), none, none, none, none, none, none] rfl (Nat.le_of_ble_eq_true rfl) ?_
  intro p e R s m args below meth c sz C
  have L : ∀ n : Nat, (∀ (v1 : Int32) (v2 : Int32) (v3 : Int32) (w : Ug), (kC_judge n).1 v1 v2 v3 w = some (r0, u0) → G p l e R s m args below meth c D (va_A (en_ws ad (wdC K u)) sz) 8 ad 0 0 (en_Q below D (en_ty K) ad (wdC K u) sz (en_RI (wdC K) r0 u0) args s) 17 [some (.ref 0), some (.int v1), some (.int v2), some (.int v3), none, none, none, none] [] (wdC K w)) ∧ (∀ (v1 : Int32) (v2 : Int32) (v3 : Int32) (v4 : Int32) (v5 : Int32) (w : Ug), (kC_judge n).2.1 v1 v2 v3 v4 v5 w = some (r0, u0) → G p l e R s m args below meth c D (va_A (en_ws ad (wdC K u)) sz) 8 ad 0 0 (en_Q below D (en_ty K) ad (wdC K u) sz (en_RI (wdC K) r0 u0) args s) 63 [some (.ref 0), some (.int v1), some (.int v2), some (.int v3), some (.int v4), some (.int v5), none, none] [] (wdC K w)) ∧ (∀ (v1 : Int32) (v2 : Int32) (v3 : Int32) (v4 : Int32) (v5 : Int32) (v6 : Int32) (v7 : Int32) (w : Ug), (kC_judge n).2.2 v1 v2 v3 v4 v5 v6 v7 w = some (r0, u0) → G p l e R s m args below meth c D (va_A (en_ws ad (wdC K u)) sz) 8 ad 0 0 (en_Q below D (en_ty K) ad (wdC K u) sz (en_RI (wdC K) r0 u0) args s) 85 [some (.ref 0), some (.int v1), some (.int v2), some (.int v3), some (.int v4), some (.int v5), some (.int v6), some (.int v7)] [] (wdC K w)) := by
    intro n
    induction n with
    | zero => exact ⟨fun _ _ _ _ hf => absurd hf (by intro q; cases q), fun _ _ _ _ _ _ hf => absurd hf (by intro q; cases q), fun _ _ _ _ _ _ _ _ hf => absurd hf (by intro q; cases q)⟩
    | succ n ih =>
      refine ⟨?_, ?_, ?_⟩
      · intro v1 v2 v3 u hf
        have hf : sC_judge_17 (kC_judge n).1 (kC_judge n).2.1 (kC_judge n).2.2 v1 v2 v3 u = some (r0, u0) := hf
        unfold sC_judge_17 at hf
        refine g_iload_n_3 C dX7_judge_17 ?_
        refine g_bipush (v := (6 : Int32)) C dX7_judge_18 (by decide) ?_
        refine g_if_icmp_ge (tgt := 48) C dX7_judge_20 (by decide) (fun c3 => ?_) (fun c3 => ?_)
        · rw [if_pos c3] at hf
          refine g_aload_n_0 C dX7_judge_48 ?_
          refine gf_X7_60 C dX7_judge_49 ?_
          refine g_iload_n_1 C dX7_judge_52 ?_
          obtain ⟨q4, hq4, hf⟩ := en_bnd hf
          refine gc_X7_155_C_Mutants_begin C (ctC_Mutants_begin _ _ q4.1 q4.2 hq4) (by decide) (Nat.le_of_ble_eq_true rfl) dX7_judge_53 ?_
          refine g_istore_n_3 C dX7_judge_56 (by decide) rfl ?_
          refine g_iconst (v := (0 : Int32)) C dX7_judge_57 (by decide) ?_
          refine g_istore_4 C dX7_judge_58 (by decide) rfl ?_
          refine g_iconst (v := (0 : Int32)) C dX7_judge_60 (by decide) ?_
          refine g_istore_5 C dX7_judge_61 (by decide) rfl ?_
          exact g_weak (ih.2.1 _ _ _ _ _ _ hf) (And.intro rfl (And.intro rfl (And.intro rfl (And.intro rfl (And.intro rfl (And.intro rfl trivial))))))
        · rw [if_neg c3] at hf
          refine g_aload_n_0 C dX7_judge_23 ?_
          refine gf_X7_51 C dX7_judge_24 ?_
          refine g_iload_n_3 C dX7_judge_27 ?_
          refine g_iconst (v := (0 : Int32)) C dX7_judge_28 (by decide) ?_
          obtain ⟨q5, hq5, hf⟩ := en_bnd hf
          refine gc_X7_134_C_Runner_failingLine C (ctC_Runner_failingLine _ _ _ q5.1 q5.2 hq5) (by decide) (Nat.le_of_ble_eq_true rfl) dX7_judge_29 ?_
          refine g_iconst (v := (-1 : Int32)) C dX7_judge_32 (by decide) ?_
          refine g_if_icmp_ne (tgt := 42) C dX7_judge_33 (by decide) (fun c6 => ?_) (fun c6 => ?_)
          · rw [if_neg c6] at hf
            refine g_iinc_3 (z := (1 : Int32)) C dX7_judge_42 (by decide) (by decide) rfl ?_
            refine g_goto (tgt := 17) C dX7_judge_45 (by decide) ?_
            exact g_weak (ih.1 _ _ _ _ hf) (And.intro rfl (And.intro rfl (And.intro rfl (And.intro rfl trivial))))
          · rw [if_pos c6] at hf
            refine g_iload_n_2 C dX7_judge_36 ?_
            refine g_iconst (v := (1 : Int32)) C dX7_judge_37 (by decide) ?_
            refine g_iload_n_3 C dX7_judge_38 ?_
            refine g_ishl C dX7_judge_39 ?_
            refine g_ior C dX7_judge_40 ?_
            refine g_istore_n_2 C dX7_judge_41 (by decide) rfl ?_
            refine g_iinc_3 (z := (1 : Int32)) C dX7_judge_42 (by decide) (by decide) rfl ?_
            refine g_goto (tgt := 17) C dX7_judge_45 (by decide) ?_
            exact g_weak (ih.1 _ _ _ _ hf) (And.intro rfl (And.intro rfl (And.intro rfl (And.intro rfl trivial))))
      · intro v1 v2 v3 v4 v5 u hf
        have hf : sC_judge_63 (kC_judge n).1 (kC_judge n).2.1 (kC_judge n).2.2 v1 v2 v3 v4 v5 u = some (r0, u0) := hf
        unfold sC_judge_63 at hf
        refine g_iload_5 C dX7_judge_63 ?_
        refine g_iload_n_3 C dX7_judge_65 ?_
        refine g_if_icmp_ge (tgt := 153) C dX7_judge_66 (by decide) (fun c7 => ?_) (fun c7 => ?_)
        · rw [if_pos c7] at hf
          refine g_iload_4 C dX7_judge_153 ?_
          exact g_iret C dX7_judge_155 (en_finI hf)
        · rw [if_neg c7] at hf
          refine g_aload_n_0 C dX7_judge_69 ?_
          refine gf_X7_60 C dX7_judge_70 ?_
          refine g_iload_n_1 C dX7_judge_73 ?_
          refine g_iload_5 C dX7_judge_74 ?_
          obtain ⟨q8, hq8, hf⟩ := en_bnd hf
          refine gc_X7_158_C_Mutants_putIn C (ctC_Mutants_putIn _ _ _ q8.1 q8.2 hq8) (by decide) (Nat.le_of_ble_eq_true rfl) dX7_judge_76 ?_
          refine g_iconst (v := (-1 : Int32)) C dX7_judge_79 (by decide) ?_
          refine g_istore_6 C dX7_judge_80 (by decide) rfl ?_
          refine g_iconst (v := (0 : Int32)) C dX7_judge_82 (by decide) ?_
          refine g_istore_7 C dX7_judge_83 (by decide) rfl ?_
          exact g_weak (ih.2.2 _ _ _ _ _ _ _ _ hf) (And.intro rfl (And.intro rfl (And.intro rfl (And.intro rfl (And.intro rfl (And.intro rfl (And.intro rfl (And.intro rfl trivial))))))))
      · intro v1 v2 v3 v4 v5 v6 v7 u hf
        have hf : sC_judge_85 (kC_judge n).1 (kC_judge n).2.1 (kC_judge n).2.2 v1 v2 v3 v4 v5 v6 v7 u = some (r0, u0) := hf
        unfold sC_judge_85 at hf
        refine g_iload_7 C dX7_judge_85 ?_
        refine g_bipush (v := (6 : Int32)) C dX7_judge_87 (by decide) ?_
        refine g_if_icmp_ge (tgt := 135) C dX7_judge_89 (by decide) (fun c9 => ?_) (fun c9 => ?_)
        · rw [if_pos c9] at hf
          refine g_aload_n_0 C dX7_judge_135 ?_
          refine gf_X7_60 C dX7_judge_136 ?_
          refine g_iload_n_1 C dX7_judge_139 ?_
          refine g_iload_5 C dX7_judge_140 ?_
          refine g_iload_6 C dX7_judge_142 ?_
          obtain ⟨q10, hq10, hf⟩ := en_bnd hf
          refine gc_X7_161_C_Mutants_takeOut C (ctC_Mutants_takeOut _ _ _ _ q10.1 q10.2 hq10) (by decide) (Nat.le_of_ble_eq_true rfl) dX7_judge_144 ?_
          refine g_iinc_5 (z := (1 : Int32)) C dX7_judge_147 (by decide) (by decide) rfl ?_
          refine g_goto (tgt := 63) C dX7_judge_150 (by decide) ?_
          exact g_weak (ih.2.1 _ _ _ _ _ _ hf) (And.intro rfl (And.intro rfl (And.intro rfl (And.intro rfl (And.intro rfl (And.intro rfl trivial))))))
        · rw [if_neg c9] at hf
          refine g_iload_6 C dX7_judge_92 ?_
          refine g_iconst (v := (-1 : Int32)) C dX7_judge_94 (by decide) ?_
          refine g_if_icmp_ne (tgt := 135) C dX7_judge_95 (by decide) (fun c11 => ?_) (fun c11 => ?_)
          · rw [if_neg c11] at hf
            refine g_aload_n_0 C dX7_judge_135 ?_
            refine gf_X7_60 C dX7_judge_136 ?_
            refine g_iload_n_1 C dX7_judge_139 ?_
            refine g_iload_5 C dX7_judge_140 ?_
            refine g_iload_6 C dX7_judge_142 ?_
            obtain ⟨q12, hq12, hf⟩ := en_bnd hf
            refine gc_X7_161_C_Mutants_takeOut C (ctC_Mutants_takeOut _ _ _ _ q12.1 q12.2 hq12) (by decide) (Nat.le_of_ble_eq_true rfl) dX7_judge_144 ?_
            refine g_iinc_5 (z := (1 : Int32)) C dX7_judge_147 (by decide) (by decide) rfl ?_
            refine g_goto (tgt := 63) C dX7_judge_150 (by decide) ?_
            exact g_weak (ih.2.1 _ _ _ _ _ _ hf) (And.intro rfl (And.intro rfl (And.intro rfl (And.intro rfl (And.intro rfl (And.intro rfl trivial))))))
          · rw [if_pos c11] at hf
            refine g_iload_n_2 C dX7_judge_98 ?_
            refine g_iload_7 C dX7_judge_99 ?_
            refine g_ishr C dX7_judge_101 ?_
            refine g_iconst (v := (1 : Int32)) C dX7_judge_102 (by decide) ?_
            refine g_iand C dX7_judge_103 ?_
            refine g_iconst (v := (1 : Int32)) C dX7_judge_104 (by decide) ?_
            refine g_if_icmp_ne (tgt := 129) C dX7_judge_105 (by decide) (fun c13 => ?_) (fun c13 => ?_)
            · rw [if_neg c13] at hf
              refine g_iinc_7 (z := (1 : Int32)) C dX7_judge_129 (by decide) (by decide) rfl ?_
              refine g_goto (tgt := 85) C dX7_judge_132 (by decide) ?_
              exact g_weak (ih.2.2 _ _ _ _ _ _ _ _ hf) (And.intro rfl (And.intro rfl (And.intro rfl (And.intro rfl (And.intro rfl (And.intro rfl (And.intro rfl (And.intro rfl trivial))))))))
            · rw [if_pos c13] at hf
              refine g_aload_n_0 C dX7_judge_108 ?_
              refine gf_X7_51 C dX7_judge_109 ?_
              refine g_iload_7 C dX7_judge_112 ?_
              refine g_iconst (v := (0 : Int32)) C dX7_judge_114 (by decide) ?_
              obtain ⟨q14, hq14, hf⟩ := en_bnd hf
              refine gc_X7_134_C_Runner_failingLine C (ctC_Runner_failingLine _ _ _ q14.1 q14.2 hq14) (by decide) (Nat.le_of_ble_eq_true rfl) dX7_judge_115 ?_
              refine g_iconst (v := (-1 : Int32)) C dX7_judge_118 (by decide) ?_
              refine g_if_icmp_eq (tgt := 129) C dX7_judge_119 (by decide) (fun c15 => ?_) (fun c15 => ?_)
              · rw [if_pos c15] at hf
                refine g_iinc_7 (z := (1 : Int32)) C dX7_judge_129 (by decide) (by decide) rfl ?_
                refine g_goto (tgt := 85) C dX7_judge_132 (by decide) ?_
                exact g_weak (ih.2.2 _ _ _ _ _ _ _ _ hf) (And.intro rfl (And.intro rfl (And.intro rfl (And.intro rfl (And.intro rfl (And.intro rfl (And.intro rfl (And.intro rfl trivial))))))))
              · rw [if_neg c15] at hf
                refine g_iload_7 C dX7_judge_122 ?_
                refine g_istore_6 C dX7_judge_124 (by decide) rfl ?_
                refine g_iinc_4 (z := (1 : Int32)) C dX7_judge_126 (by decide) (by decide) rfl ?_
                refine g_iinc_7 (z := (1 : Int32)) C dX7_judge_129 (by decide) (by decide) rfl ?_
                refine g_goto (tgt := 85) C dX7_judge_132 (by decide) ?_
                exact g_weak (ih.2.2 _ _ _ _ _ _ _ _ hf) (And.intro rfl (And.intro rfl (And.intro rfl (And.intro rfl (And.intro rfl (And.intro rfl (And.intro rfl (And.intro rfl trivial))))))))
  unfold fC_judge at hf
  refine g_aload_n_0 C dX7_judge_0 ?_
  refine gf_X7_19 C dX7_judge_1 ?_
  refine g_iload_n_1 C dX7_judge_4 ?_
  obtain ⟨q1, hq1, hf⟩ := en_bnd hf
  refine gc_X7_137_C_Code_isContract C (ctC_Code_isContract _ _ q1.1 q1.2 hq1) (by decide) (Nat.le_of_ble_eq_true rfl) dX7_judge_5 ?_
  refine g_if_ne (tgt := 13) C dX7_judge_8 (by decide) (fun c2 => ?_) (fun c2 => ?_)
  · rw [if_neg c2] at hf
    refine g_iconst (v := (0 : Int32)) C dX7_judge_13 (by decide) ?_
    refine g_istore_n_2 C dX7_judge_14 (by decide) rfl ?_
    refine g_iconst (v := (0 : Int32)) C dX7_judge_15 (by decide) ?_
    refine g_istore_n_3 C dX7_judge_16 (by decide) rfl ?_
    exact g_weak ((L _).1 _ _ _ _ hf) (And.intro rfl (And.intro rfl (And.intro rfl (And.intro rfl trivial))))
  · rw [if_pos c2] at hf
    refine g_iconst (v := (-1 : Int32)) C dX7_judge_11 (by decide) ?_
    exact g_iret C dX7_judge_12 (en_finI hf)
set_option maxHeartbeats 4000000 in
set_option maxRecDepth 100000 in
theorem ctC_Mutants_killerOf {l : Launch} {D : va_G} {K : en_K} {ad : Nat → Nat} (x1 : Int32) (x2 : Int32) (u : Ug) (r0 : Int32) (u0 : Ug) (hf : fC_Mutants_killerOf x1 x2 u = some (r0, u0)) : CT l D (en_ty K) ad (1) yX3_killerOf cX3_killerOf 4 (some .int) [.ref 23, .int x1, .int x2] (wdC K u) (en_RI (wdC K) r0 u0) := by
  refine CT.of (by decide) [some (.ref 23), some (.int x1), some (.int x2), none] rfl (Nat.le_of_ble_eq_true rfl) ?_
  intro p e R s m args below meth c sz C
  unfold fC_Mutants_killerOf at hf
  refine g_iload_n_1 C dX3_killerOf_0 ?_
  refine g_if_lt (tgt := 33) C dX3_killerOf_1 (by decide) (fun c1 => ?_) (fun c1 => ?_)
  · rw [if_pos c1] at hf
    refine g_iconst (v := (0 : Int32)) C dX3_killerOf_33 (by decide) ?_
    refine g_istore_n_3 C dX3_killerOf_34 (by decide) rfl ?_
    refine g_iload_n_3 C dX3_killerOf_35 ?_
    refine g_if_eq (tgt := 53) C dX3_killerOf_36 (by decide) (fun _ => ?_) (fun q => absurd q (by decide))
    refine g_bipush (v := (-2 : Int32)) C dX3_killerOf_53 (by decide) ?_
    exact g_iret C dX3_killerOf_55 (en_finI hf)
  · rw [if_neg c1] at hf
    refine g_iload_n_1 C dX3_killerOf_4 ?_
    refine g_iconst (v := (4 : Int32)) C dX3_killerOf_5 (by decide) ?_
    refine g_if_icmp_ge (tgt := 33) C dX3_killerOf_6 (by decide) (fun c2 => ?_) (fun c2 => ?_)
    · rw [if_pos c2] at hf
      refine g_iconst (v := (0 : Int32)) C dX3_killerOf_33 (by decide) ?_
      refine g_istore_n_3 C dX3_killerOf_34 (by decide) rfl ?_
      refine g_iload_n_3 C dX3_killerOf_35 ?_
      refine g_if_eq (tgt := 53) C dX3_killerOf_36 (by decide) (fun _ => ?_) (fun q => absurd q (by decide))
      refine g_bipush (v := (-2 : Int32)) C dX3_killerOf_53 (by decide) ?_
      exact g_iret C dX3_killerOf_55 (en_finI hf)
    · rw [if_neg c2] at hf
      refine g_iload_n_2 C dX3_killerOf_9 ?_
      refine g_if_lt (tgt := 33) C dX3_killerOf_10 (by decide) (fun c3 => ?_) (fun c3 => ?_)
      · rw [if_pos c3] at hf
        refine g_iconst (v := (0 : Int32)) C dX3_killerOf_33 (by decide) ?_
        refine g_istore_n_3 C dX3_killerOf_34 (by decide) rfl ?_
        refine g_iload_n_3 C dX3_killerOf_35 ?_
        refine g_if_eq (tgt := 53) C dX3_killerOf_36 (by decide) (fun _ => ?_) (fun q => absurd q (by decide))
        refine g_bipush (v := (-2 : Int32)) C dX3_killerOf_53 (by decide) ?_
        exact g_iret C dX3_killerOf_55 (en_finI hf)
      · rw [if_neg c3] at hf
        refine g_iload_n_2 C dX3_killerOf_13 ?_
        refine g_bipush (v := (48 : Int32)) C dX3_killerOf_14 (by decide) ?_
        refine g_if_icmp_ge (tgt := 33) C dX3_killerOf_16 (by decide) (fun c4 => ?_) (fun c4 => ?_)
        · rw [if_pos c4] at hf
          refine g_iconst (v := (0 : Int32)) C dX3_killerOf_33 (by decide) ?_
          refine g_istore_n_3 C dX3_killerOf_34 (by decide) rfl ?_
          refine g_iload_n_3 C dX3_killerOf_35 ?_
          refine g_if_eq (tgt := 53) C dX3_killerOf_36 (by decide) (fun _ => ?_) (fun q => absurd q (by decide))
          refine g_bipush (v := (-2 : Int32)) C dX3_killerOf_53 (by decide) ?_
          exact g_iret C dX3_killerOf_55 (en_finI hf)
        · rw [if_neg c4] at hf
          refine g_iload_n_2 C dX3_killerOf_19 ?_
          refine g_aload_n_0 C dX3_killerOf_20 ?_
          refine gf_X3_9 C dX3_killerOf_21 ?_
          refine g_iload_n_1 C dX3_killerOf_24 ?_
          obtain ⟨y5, hy5, hf⟩ := en_bnd hf
          refine gaC_ld_24 C hy5 dX3_killerOf_25 ?_
          refine g_if_icmp_ge (tgt := 33) C dX3_killerOf_26 (by decide) (fun c6 => ?_) (fun c6 => ?_)
          · rw [if_pos c6] at hf
            refine g_iconst (v := (0 : Int32)) C dX3_killerOf_33 (by decide) ?_
            refine g_istore_n_3 C dX3_killerOf_34 (by decide) rfl ?_
            refine g_iload_n_3 C dX3_killerOf_35 ?_
            refine g_if_eq (tgt := 53) C dX3_killerOf_36 (by decide) (fun _ => ?_) (fun q => absurd q (by decide))
            refine g_bipush (v := (-2 : Int32)) C dX3_killerOf_53 (by decide) ?_
            exact g_iret C dX3_killerOf_55 (en_finI hf)
          · rw [if_neg c6] at hf
            refine g_iconst (v := (1 : Int32)) C dX3_killerOf_29 (by decide) ?_
            refine g_goto (tgt := 34) C dX3_killerOf_30 (by decide) ?_
            refine g_istore_n_3 C dX3_killerOf_34 (by decide) rfl ?_
            refine g_iload_n_3 C dX3_killerOf_35 ?_
            refine g_if_eq (tgt := 53) C dX3_killerOf_36 (by decide) (fun q => absurd q (by decide)) (fun _ => ?_)
            refine g_aload_n_0 C dX3_killerOf_39 ?_
            refine gf_X3_15 C dX3_killerOf_40 ?_
            refine g_iload_n_1 C dX3_killerOf_43 ?_
            refine g_bipush (v := (48 : Int32)) C dX3_killerOf_44 (by decide) ?_
            refine g_imul C dX3_killerOf_46 ?_
            refine g_iload_n_2 C dX3_killerOf_47 ?_
            refine g_iadd C dX3_killerOf_48 ?_
            obtain ⟨y7, hy7, hf⟩ := en_bnd hf
            refine gaC_ld_25 C hy7 dX3_killerOf_49 ?_
            refine g_goto (tgt := 55) C dX3_killerOf_50 (by decide) ?_
            exact g_iret C dX3_killerOf_55 (en_finI hf)
