/-! CONTRACTS. -/
set_option maxHeartbeats 4000000 in
set_option maxRecDepth 100000 in
theorem ctM_coins {l : Launch} {D : va_G} {K : en_K} {ad : Nat → Nat} (x1 : Int32) (u : Ug) (r0 : Int32) (u0 : Ug) (hf : fM_coins x1 u = some (r0, u0)) : CT l D (en_ty K) ad (3) yX8_coins cX8_coins 2 (some .int) [.ref 0, .int x1] (wdM K u) (en_RI (wdM K) r0 u0) := by
  refine CT.of (by decide) [some (.ref 0), some (.int x1)] rfl (Nat.le_of_ble_eq_true rfl) ?_
  intro p e R s m args below meth c sz C
  unfold fM_coins at hf
  refine g_iload_n_1 C dX8_coins_0 ?_
  obtain ⟨q1, hq1, hf⟩ := en_bnd hf
  refine gc_X8_133_M_isAccount C (ctM_isAccount _ _ q1.1 q1.2 hq1) (by decide) (Nat.le_of_ble_eq_true rfl) dX8_coins_1 ?_
  refine g_if_eq (tgt := 16) C dX8_coins_4 (by decide) (fun c2 => ?_) (fun c2 => ?_)
  · rw [if_pos c2] at hf
    refine g_iconst (v := (-1 : Int32)) C dX8_coins_16 (by decide) ?_
    exact g_iret C dX8_coins_17 (en_finI hf)
  · rw [if_neg c2] at hf
    refine g_aload_n_0 C dX8_coins_7 ?_
    refine gf_X8_7 C dX8_coins_8 ?_
    refine g_iload_n_1 C dX8_coins_11 ?_
    obtain ⟨y3, hy3, hf⟩ := en_bnd hf
    refine gaM_ld_1 C hy3 dX8_coins_12 ?_
    refine g_goto (tgt := 17) C dX8_coins_13 (by decide) ?_
    exact g_iret C dX8_coins_17 (en_finI hf)
set_option maxHeartbeats 4000000 in
set_option maxRecDepth 100000 in
theorem ctM_cell {l : Launch} {D : va_G} {K : en_K} {ad : Nat → Nat} (x1 : Int32) (x2 : Int32) (u : Ug) (r0 : Int32) (u0 : Ug) (hf : fM_cell x1 x2 u = some (r0, u0)) : CT l D (en_ty K) ad (2) yX8_cell cX8_cell 3 (some .int) [.ref 0, .int x1, .int x2] (wdM K u) (en_RI (wdM K) r0 u0) := by
  refine CT.of (by decide) [some (.ref 0), some (.int x1), some (.int x2)] rfl (Nat.le_of_ble_eq_true rfl) ?_
  intro p e R s m args below meth c sz C
  unfold fM_cell at hf
  refine g_iload_n_1 C dX8_cell_0 ?_
  refine g_i2l C dX8_cell_1 ?_
  refine g_lconst (v := (0 : Int64)) C dX8_cell_2 (by decide) ?_
  refine g_aload_n_0 C dX8_cell_3 ?_
  refine gf_X8_127 C dX8_cell_4 ?_
  refine g_iconst (v := (1 : Int32)) C dX8_cell_7 (by decide) ?_
  refine g_isub C dX8_cell_8 ?_
  refine g_i2l C dX8_cell_9 ?_
  obtain ⟨q1, hq1, hf⟩ := en_bnd hf
  refine gc_X8_123_M_in C (ctM_in _ _ _ _ q1.1 q1.2 hq1) (by decide) (Nat.le_of_ble_eq_true rfl) dX8_cell_10 ?_
  refine g_if_eq (tgt := 44) C dX8_cell_13 (by decide) (fun c2 => ?_) (fun c2 => ?_)
  · rw [if_pos c2] at hf
    refine g_iconst (v := (0 : Int32)) C dX8_cell_44 (by decide) ?_
    exact g_iret C dX8_cell_45 (en_finI hf)
  · rw [if_neg c2] at hf
    refine g_iload_n_2 C dX8_cell_16 ?_
    refine g_i2l C dX8_cell_17 ?_
    refine g_lconst (v := (0 : Int64)) C dX8_cell_18 (by decide) ?_
    refine gl_X8_139 C dX8_cell_19 ?_
    obtain ⟨q3, hq3, hf⟩ := en_bnd hf
    refine gc_X8_123_M_in C (ctM_in _ _ _ _ q3.1 q3.2 hq3) (by decide) (Nat.le_of_ble_eq_true rfl) dX8_cell_22 ?_
    refine g_if_eq (tgt := 44) C dX8_cell_25 (by decide) (fun c4 => ?_) (fun c4 => ?_)
    · rw [if_pos c4] at hf
      refine g_iconst (v := (0 : Int32)) C dX8_cell_44 (by decide) ?_
      exact g_iret C dX8_cell_45 (en_finI hf)
    · rw [if_neg c4] at hf
      refine g_aload_n_0 C dX8_cell_28 ?_
      refine gf_X8_7 C dX8_cell_29 ?_
      refine g_bipush (v := (12 : Int32)) C dX8_cell_32 (by decide) ?_
      refine g_iconst (v := (4 : Int32)) C dX8_cell_34 (by decide) ?_
      refine g_iload_n_1 C dX8_cell_35 ?_
      refine g_imul C dX8_cell_36 ?_
      refine g_iadd C dX8_cell_37 ?_
      refine g_iload_n_2 C dX8_cell_38 ?_
      refine g_iadd C dX8_cell_39 ?_
      obtain ⟨y5, hy5, hf⟩ := en_bnd hf
      refine gaM_ld_1 C hy5 dX8_cell_40 ?_
      refine g_goto (tgt := 45) C dX8_cell_41 (by decide) ?_
      exact g_iret C dX8_cell_45 (en_finI hf)
set_option maxHeartbeats 4000000 in
set_option maxRecDepth 100000 in
theorem ctM_event {l : Launch} {D : va_G} {K : en_K} {ad : Nat → Nat} (x1 : Int32) (u : Ug) (r0 : Int32) (u0 : Ug) (hf : fM_event x1 u = some (r0, u0)) : CT l D (en_ty K) ad (2) yX8_event cX8_event 2 (some .int) [.ref 0, .int x1] (wdM K u) (en_RI (wdM K) r0 u0) := by
  refine CT.of (by decide) [some (.ref 0), some (.int x1)] rfl (Nat.le_of_ble_eq_true rfl) ?_
  intro p e R s m args below meth c sz C
  unfold fM_event at hf
  refine g_iload_n_1 C dX8_event_0 ?_
  refine g_i2l C dX8_event_1 ?_
  refine g_lconst (v := (0 : Int64)) C dX8_event_2 (by decide) ?_
  refine g_aload_n_0 C dX8_event_3 ?_
  refine gf_X8_7 C dX8_event_4 ?_
  refine g_bipush (v := (29 : Int32)) C dX8_event_7 (by decide) ?_
  obtain ⟨y1, hy1, hf⟩ := en_bnd hf
  refine gaM_ld_1 C hy1 dX8_event_9 ?_
  refine g_iconst (v := (1 : Int32)) C dX8_event_10 (by decide) ?_
  refine g_isub C dX8_event_11 ?_
  refine g_i2l C dX8_event_12 ?_
  obtain ⟨q2, hq2, hf⟩ := en_bnd hf
  refine gc_X8_123_M_in C (ctM_in _ _ _ _ q2.1 q2.2 hq2) (by decide) (Nat.le_of_ble_eq_true rfl) dX8_event_13 ?_
  refine g_if_eq (tgt := 31) C dX8_event_16 (by decide) (fun c3 => ?_) (fun c3 => ?_)
  · rw [if_pos c3] at hf
    refine g_iconst (v := (0 : Int32)) C dX8_event_31 (by decide) ?_
    exact g_iret C dX8_event_32 (en_finI hf)
  · rw [if_neg c3] at hf
    refine g_aload_n_0 C dX8_event_19 ?_
    refine gf_X8_7 C dX8_event_20 ?_
    refine g_bipush (v := (30 : Int32)) C dX8_event_23 (by decide) ?_
    refine g_iload_n_1 C dX8_event_25 ?_
    refine g_iadd C dX8_event_26 ?_
    obtain ⟨y4, hy4, hf⟩ := en_bnd hf
    refine gaM_ld_1 C hy4 dX8_event_27 ?_
    refine g_goto (tgt := 32) C dX8_event_28 (by decide) ?_
    exact g_iret C dX8_event_32 (en_finI hf)
set_option maxHeartbeats 4000000 in
set_option maxRecDepth 100000 in
theorem ctM_count {l : Launch} {D : va_G} {K : en_K} {ad : Nat → Nat} (x1 : Int32) (u : Ug) (r0 : Int32) (u0 : Ug) (hf : fM_count x1 u = some (r0, u0)) : CT l D (en_ty K) ad (2) yX8_count cX8_count 4 (some .int) [.ref 0, .int x1] (wdM K u) (en_RI (wdM K) r0 u0) := by
  refine CT.of (by decide) [some (.ref 0), some (.int x1), none, none] rfl (Nat.le_of_ble_eq_true rfl) ?_
  intro p e R s m args below meth c sz C
  have L : ∀ n : Nat, (∀ (v1 : Int32) (v2 : Int32) (v3 : Int32) (w : Ug), (kM_count n) v1 v2 v3 w = some (r0, u0) → G p l e R s m args below meth c D (va_A (en_ws ad (wdM K u)) sz) 4 ad 0 0 (en_Q below D (en_ty K) ad (wdM K u) sz (en_RI (wdM K) r0 u0) args s) 27 [some (.ref 0), some (.int v1), some (.int v2), some (.int v3)] [] (wdM K w)) := by
    intro n
    induction n with
    | zero => exact fun _ _ _ _ hf => absurd hf (by intro q; cases q)
    | succ n ih =>
      intro v1 v2 v3 u hf
      have hf : sM_count_27 (kM_count n) v1 v2 v3 u = some (r0, u0) := hf
      unfold sM_count_27 at hf
      refine g_iload_n_3 C dX8_count_27 ?_
      refine g_iconst (v := (4 : Int32)) C dX8_count_28 (by decide) ?_
      refine g_if_icmp_ge (tgt := 55) C dX8_count_29 (by decide) (fun c4 => ?_) (fun c4 => ?_)
      · rw [if_pos c4] at hf
        refine g_iload_n_1 C dX8_count_55 ?_
        refine g_if_ne (tgt := 69) C dX8_count_56 (by decide) (fun c5 => ?_) (fun c5 => ?_)
        · rw [if_neg c5] at hf
          refine g_iload_n_1 C dX8_count_69 ?_
          refine g_iconst (v := (1 : Int32)) C dX8_count_70 (by decide) ?_
          refine g_if_icmp_ne (tgt := 84) C dX8_count_71 (by decide) (fun c6 => ?_) (fun c6 => ?_)
          · rw [if_neg c6] at hf
            refine g_iload_n_1 C dX8_count_84 ?_
            refine g_iconst (v := (2 : Int32)) C dX8_count_85 (by decide) ?_
            refine g_if_icmp_ne (tgt := 96) C dX8_count_86 (by decide) (fun c7 => ?_) (fun c7 => ?_)
            · rw [if_neg c7] at hf
              refine g_iload_n_1 C dX8_count_96 ?_
              refine g_iconst (v := (3 : Int32)) C dX8_count_97 (by decide) ?_
              refine g_if_icmp_ne (tgt := 109) C dX8_count_98 (by decide) (fun c8 => ?_) (fun c8 => ?_)
              · rw [if_neg c8] at hf
                refine g_iload_n_1 C dX8_count_109 ?_
                refine g_bipush (v := (10 : Int32)) C dX8_count_110 (by decide) ?_
                refine g_if_icmp_ne (tgt := 119) C dX8_count_112 (by decide) (fun c9 => ?_) (fun c9 => ?_)
                · rw [if_neg c9] at hf
                  refine g_iconst (v := (-1 : Int32)) C dX8_count_119 (by decide) ?_
                  exact g_iret C dX8_count_120 (en_finI hf)
                · rw [if_pos c9] at hf
                  refine g_iload_n_2 C dX8_count_115 ?_
                  refine g_goto (tgt := 120) C dX8_count_116 (by decide) ?_
                  exact g_iret C dX8_count_120 (en_finI hf)
              · rw [if_pos c8] at hf
                refine g_aload_n_0 C dX8_count_101 ?_
                refine gf_X8_181 C dX8_count_102 ?_
                refine g_l2i C dX8_count_105 ?_
                refine g_goto (tgt := 120) C dX8_count_106 (by decide) ?_
                exact g_iret C dX8_count_120 (en_finI hf)
            · rw [if_pos c7] at hf
              refine g_aload_n_0 C dX8_count_89 ?_
              refine gf_X8_127 C dX8_count_90 ?_
              refine g_goto (tgt := 120) C dX8_count_93 (by decide) ?_
              exact g_iret C dX8_count_120 (en_finI hf)
          · rw [if_pos c6] at hf
            refine g_aload_n_0 C dX8_count_74 ?_
            refine gf_X8_7 C dX8_count_75 ?_
            refine g_bipush (v := (29 : Int32)) C dX8_count_78 (by decide) ?_
            obtain ⟨y10, hy10, hf⟩ := en_bnd hf
            refine gaM_ld_1 C hy10 dX8_count_80 ?_
            refine g_goto (tgt := 120) C dX8_count_81 (by decide) ?_
            exact g_iret C dX8_count_120 (en_finI hf)
        · rw [if_pos c5] at hf
          refine g_aload_n_0 C dX8_count_59 ?_
          refine gf_X8_7 C dX8_count_60 ?_
          refine g_bipush (v := (28 : Int32)) C dX8_count_63 (by decide) ?_
          obtain ⟨y11, hy11, hf⟩ := en_bnd hf
          refine gaM_ld_1 C hy11 dX8_count_65 ?_
          refine g_goto (tgt := 120) C dX8_count_66 (by decide) ?_
          exact g_iret C dX8_count_120 (en_finI hf)
      · rw [if_neg c4] at hf
        refine g_iload_n_2 C dX8_count_32 ?_
        refine g_aload_n_0 C dX8_count_33 ?_
        refine gf_X8_28 C dX8_count_34 ?_
        refine g_iload_n_3 C dX8_count_37 ?_
        obtain ⟨y12, hy12, hf⟩ := en_bnd hf
        refine gaM_ld_7 C hy12 dX8_count_38 ?_
        refine g_if_ge (tgt := 46) C dX8_count_39 (by decide) (fun c13 => ?_) (fun c13 => ?_)
        · rw [if_pos c13] at hf
          refine g_iconst (v := (1 : Int32)) C dX8_count_46 (by decide) ?_
          refine g_iadd C dX8_count_47 ?_
          refine g_istore_n_2 C dX8_count_48 (by decide) rfl ?_
          refine g_iinc_3 (z := (1 : Int32)) C dX8_count_49 (by decide) (by decide) rfl ?_
          refine g_goto (tgt := 27) C dX8_count_52 (by decide) ?_
          exact g_weak (ih _ _ _ _ hf) (And.intro rfl (And.intro rfl (And.intro rfl (And.intro rfl trivial))))
        · rw [if_neg c13] at hf
          refine g_iconst (v := (0 : Int32)) C dX8_count_42 (by decide) ?_
          refine g_goto (tgt := 47) C dX8_count_43 (by decide) ?_
          refine g_iadd C dX8_count_47 ?_
          refine g_istore_n_2 C dX8_count_48 (by decide) rfl ?_
          refine g_iinc_3 (z := (1 : Int32)) C dX8_count_49 (by decide) (by decide) rfl ?_
          refine g_goto (tgt := 27) C dX8_count_52 (by decide) ?_
          exact g_weak (ih _ _ _ _ hf) (And.intro rfl (And.intro rfl (And.intro rfl (And.intro rfl trivial))))
  unfold fM_count at hf
  refine g_iload_n_1 C dX8_count_0 ?_
  refine g_i2l C dX8_count_1 ?_
  refine gl_X8_290 C dX8_count_2 ?_
  refine gl_X8_141 C dX8_count_5 ?_
  obtain ⟨q1, hq1, hf⟩ := en_bnd hf
  refine gc_X8_123_M_in C (ctM_in _ _ _ _ q1.1 q1.2 hq1) (by decide) (Nat.le_of_ble_eq_true rfl) dX8_count_8 ?_
  refine g_if_eq (tgt := 23) C dX8_count_11 (by decide) (fun c2 => ?_) (fun c2 => ?_)
  · rw [if_pos c2] at hf
    refine g_iconst (v := (0 : Int32)) C dX8_count_23 (by decide) ?_
    refine g_istore_n_2 C dX8_count_24 (by decide) rfl ?_
    refine g_iconst (v := (0 : Int32)) C dX8_count_25 (by decide) ?_
    refine g_istore_n_3 C dX8_count_26 (by decide) rfl ?_
    exact g_weak ((L _) _ _ _ _ hf) (And.intro rfl (And.intro rfl (And.intro rfl (And.intro rfl trivial))))
  · rw [if_neg c2] at hf
    refine g_aload_n_0 C dX8_count_14 ?_
    refine gf_X8_35 C dX8_count_15 ?_
    refine g_iload_n_1 C dX8_count_18 ?_
    refine g_iconst (v := (4 : Int32)) C dX8_count_19 (by decide) ?_
    refine g_isub C dX8_count_20 ?_
    obtain ⟨y3, hy3, hf⟩ := en_bnd hf
    refine gaM_ld_9 C hy3 dX8_count_21 ?_
    exact g_iret C dX8_count_22 (en_finI hf)
