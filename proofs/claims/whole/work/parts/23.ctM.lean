/-! CONTRACTS. -/
set_option maxHeartbeats 4000000 in
set_option maxRecDepth 100000 in
theorem ctM_work {l : Launch} {D : va_G} {K : en_K} {ad : Nat → Nat} (x1 : Int32) (x2 : Int32) (x3 : Int32) (u : Ug) (r0 : Int32) (u0 : Ug) (hf : fM_work x1 x2 x3 u = some (r0, u0)) : CT l D (en_ty K) ad (4) yX8_work cX8_work 10 none [.ref 0, .int x1, .int x2, .int x3] (wdM K u) (en_RV (wdM K) u0) := by
  refine CT.of (by decide) [some (.ref 0), some (.int x1), some (.int x2), some (.int x3), none, none, none, none, none, none] rfl (Nat.le_of_ble_eq_true rfl) ?_
  intro p e R s m args below meth c sz C
  have J80 : ∀ (v1 : Int32) (v2 : Int32) (v3 : Int32) (v4 : Int32) (v5 : Int32) (v6 : Int32) (v7 : Int32) (v8 : Int32) (w : Ug), jM_work_80 v1 v2 v3 v4 v5 v6 v7 v8 w = some (r0, u0) → G p l e R s m args below meth c D (va_A (en_ws ad (wdM K u)) sz) 10 ad 0 0 (en_Q below D (en_ty K) ad (wdM K u) sz (en_RV (wdM K) u0) args s) 80 [some (.ref 0), some (.int v1), some (.int v2), some (.int v3), some (.int v4), some (.int v5), some (.int v6), some (.int v7), some (.int v8), none] [] (wdM K w) := by
    intro v1 v2 v3 v4 v5 v6 v7 v8 u hf
    unfold jM_work_80 at hf
    refine g_iload_4 C dX8_work_80 ?_
    rcases Decidable.em (v4 = (0 : Int32)) with s82_0 | s82_0
    · rw [if_pos s82_0] at hf
      refine g_tsw (z := (0 : Int32)) (tgt := 140) C dX8_work_82 s82_0 (by decide) (by decide) rfl (by decide) ?_
      refine g_aload_n_0 C dX8_work_140 ?_
      refine gf_X8_7 C dX8_work_141 ?_
      refine g_iload_7 C dX8_work_144 ?_
      refine g_iload_8 C dX8_work_146 ?_
      obtain ⟨u11, hu11, hf⟩ := en_bnd hf
      refine gaM_st_1 C hu11 dX8_work_148 ?_
      refine g_goto (tgt := 580) C dX8_work_149 (by decide) ?_
      exact g_vret C dX8_work_580 (en_finV hf)
    rw [if_neg s82_0] at hf
    rcases Decidable.em (v4 = (1 : Int32)) with s82_1 | s82_1
    · rw [if_pos s82_1] at hf
      refine g_tsw (z := (1 : Int32)) (tgt := 152) C dX8_work_82 s82_1 (by decide) (by decide) rfl (by decide) ?_
      refine g_aload_n_0 C dX8_work_152 ?_
      refine gf_X8_53 C dX8_work_153 ?_
      refine g_iload_n_1 C dX8_work_156 ?_
      refine g_aload_n_0 C dX8_work_157 ?_
      refine gf_X8_7 C dX8_work_158 ?_
      refine g_iload_7 C dX8_work_161 ?_
      obtain ⟨y12, hy12, hf⟩ := en_bnd hf
      refine gaM_ld_1 C hy12 dX8_work_163 ?_
      obtain ⟨u13, hu13, hf⟩ := en_bnd hf
      refine gaM_st_15 C hu13 dX8_work_164 ?_
      refine g_goto (tgt := 580) C dX8_work_165 (by decide) ?_
      exact g_vret C dX8_work_580 (en_finV hf)
    rw [if_neg s82_1] at hf
    rcases Decidable.em (v4 = (2 : Int32)) with s82_2 | s82_2
    · rw [if_pos s82_2] at hf
      refine g_tsw (z := (2 : Int32)) (tgt := 168) C dX8_work_82 s82_2 (by decide) (by decide) rfl (by decide) ?_
      refine g_aload_n_0 C dX8_work_168 ?_
      refine gf_X8_53 C dX8_work_169 ?_
      refine g_iload_n_1 C dX8_work_172 ?_
      refine g_iload_n_3 C dX8_work_173 ?_
      refine g_if_ne (tgt := 185) C dX8_work_174 (by decide) (fun c14 => ?_) (fun c14 => ?_)
      · rw [if_neg c14] at hf
        refine g_iload_n_3 C dX8_work_185 ?_
        refine g_iconst (v := (1 : Int32)) C dX8_work_186 (by decide) ?_
        refine g_if_icmp_ne (tgt := 200) C dX8_work_187 (by decide) (fun c15 => ?_) (fun c15 => ?_)
        · rw [if_neg c15] at hf
          refine g_iload_8 C dX8_work_200 ?_
          refine g_iload_6 C dX8_work_202 ?_
          refine g_isub C dX8_work_204 ?_
          obtain ⟨u16, hu16, hf⟩ := en_bnd hf
          refine gaM_st_15 C hu16 dX8_work_205 ?_
          refine g_goto (tgt := 580) C dX8_work_206 (by decide) ?_
          exact g_vret C dX8_work_580 (en_finV hf)
        · rw [if_pos c15] at hf
          refine g_iload_8 C dX8_work_190 ?_
          refine g_iload_6 C dX8_work_192 ?_
          refine g_iconst (v := (1 : Int32)) C dX8_work_194 (by decide) ?_
          refine g_iadd C dX8_work_195 ?_
          refine g_iadd C dX8_work_196 ?_
          refine g_goto (tgt := 205) C dX8_work_197 (by decide) ?_
          obtain ⟨u17, hu17, hf⟩ := en_bnd hf
          refine gaM_st_15 C hu17 dX8_work_205 ?_
          refine g_goto (tgt := 580) C dX8_work_206 (by decide) ?_
          exact g_vret C dX8_work_580 (en_finV hf)
      · rw [if_pos c14] at hf
        refine g_iload_8 C dX8_work_177 ?_
        refine g_iload_6 C dX8_work_179 ?_
        refine g_iadd C dX8_work_181 ?_
        refine g_goto (tgt := 205) C dX8_work_182 (by decide) ?_
        obtain ⟨u18, hu18, hf⟩ := en_bnd hf
        refine gaM_st_15 C hu18 dX8_work_205 ?_
        refine g_goto (tgt := 580) C dX8_work_206 (by decide) ?_
        exact g_vret C dX8_work_580 (en_finV hf)
    rw [if_neg s82_2] at hf
    rcases Decidable.em (v4 = (3 : Int32)) with s82_3 | s82_3
    · rw [if_pos s82_3] at hf
      refine g_tsw (z := (3 : Int32)) (tgt := 209) C dX8_work_82 s82_3 (by decide) (by decide) rfl (by decide) ?_
      refine g_aload_n_0 C dX8_work_209 ?_
      refine gf_X8_53 C dX8_work_210 ?_
      refine g_iload_n_1 C dX8_work_213 ?_
      refine g_iload_8 C dX8_work_214 ?_
      refine g_aload_n_0 C dX8_work_216 ?_
      refine gf_X8_7 C dX8_work_217 ?_
      refine g_iload_7 C dX8_work_220 ?_
      obtain ⟨y19, hy19, hf⟩ := en_bnd hf
      refine gaM_ld_1 C hy19 dX8_work_222 ?_
      refine g_isub C dX8_work_223 ?_
      obtain ⟨u20, hu20, hf⟩ := en_bnd hf
      refine gaM_st_15 C hu20 dX8_work_224 ?_
      refine g_goto (tgt := 580) C dX8_work_225 (by decide) ?_
      exact g_vret C dX8_work_580 (en_finV hf)
    rw [if_neg s82_3] at hf
    rcases Decidable.em (v4 = (4 : Int32)) with s82_4 | s82_4
    · rw [if_pos s82_4] at hf
      refine g_tsw (z := (4 : Int32)) (tgt := 228) C dX8_work_82 s82_4 (by decide) (by decide) rfl (by decide) ?_
      refine g_iload_n_3 C dX8_work_228 ?_
      refine g_iconst (v := (2 : Int32)) C dX8_work_229 (by decide) ?_
      refine g_if_icmp_ge (tgt := 580) C dX8_work_230 (by decide) (fun c21 => ?_) (fun c21 => ?_)
      · rw [if_pos c21] at hf
        exact g_vret C dX8_work_580 (en_finV hf)
      · rw [if_neg c21] at hf
        refine g_iload_8 C dX8_work_233 ?_
        refine g_iload_n_3 C dX8_work_235 ?_
        refine g_iconst (v := (1 : Int32)) C dX8_work_236 (by decide) ?_
        refine g_if_icmp_ne (tgt := 247) C dX8_work_237 (by decide) (fun c22 => ?_) (fun c22 => ?_)
        · rw [if_neg c22] at hf
          refine g_iload_6 C dX8_work_247 ?_
          refine g_if_icmp_ge (tgt := 580) C dX8_work_249 (by decide) (fun c23 => ?_) (fun c23 => ?_)
          · rw [if_pos c23] at hf
            exact g_vret C dX8_work_580 (en_finV hf)
          · rw [if_neg c23] at hf
            refine g_aload_n_0 C dX8_work_252 ?_
            refine g_bipush (v := (10 : Int32)) C dX8_work_253 (by decide) ?_
            refine g_iload_5 C dX8_work_255 ?_
            refine g_iadd C dX8_work_257 ?_
            refine g_bipush (v := (10 : Int32)) C dX8_work_258 (by decide) ?_
            refine g_iload_5 C dX8_work_260 ?_
            refine g_iadd C dX8_work_262 ?_
            obtain ⟨q24, hq24, hf⟩ := en_bnd hf
            refine gc_X8_187_M_raise C (ctM_raise _ _ _ q24.1 q24.2 hq24) (by decide) (Nat.le_of_ble_eq_true rfl) dX8_work_263 ?_
            refine g_goto (tgt := 580) C dX8_work_266 (by decide) ?_
            exact g_vret C dX8_work_580 (en_finV hf)
        · rw [if_pos c22] at hf
          refine g_iload_6 C dX8_work_240 ?_
          refine g_iconst (v := (1 : Int32)) C dX8_work_242 (by decide) ?_
          refine g_iadd C dX8_work_243 ?_
          refine g_goto (tgt := 249) C dX8_work_244 (by decide) ?_
          refine g_if_icmp_ge (tgt := 580) C dX8_work_249 (by decide) (fun c25 => ?_) (fun c25 => ?_)
          · rw [if_pos c25] at hf
            exact g_vret C dX8_work_580 (en_finV hf)
          · rw [if_neg c25] at hf
            refine g_aload_n_0 C dX8_work_252 ?_
            refine g_bipush (v := (10 : Int32)) C dX8_work_253 (by decide) ?_
            refine g_iload_5 C dX8_work_255 ?_
            refine g_iadd C dX8_work_257 ?_
            refine g_bipush (v := (10 : Int32)) C dX8_work_258 (by decide) ?_
            refine g_iload_5 C dX8_work_260 ?_
            refine g_iadd C dX8_work_262 ?_
            obtain ⟨q26, hq26, hf⟩ := en_bnd hf
            refine gc_X8_187_M_raise C (ctM_raise _ _ _ q26.1 q26.2 hq26) (by decide) (Nat.le_of_ble_eq_true rfl) dX8_work_263 ?_
            refine g_goto (tgt := 580) C dX8_work_266 (by decide) ?_
            exact g_vret C dX8_work_580 (en_finV hf)
    rw [if_neg s82_4] at hf
    rcases Decidable.em (v4 = (5 : Int32)) with s82_5 | s82_5
    · rw [if_pos s82_5] at hf
      refine g_tsw (z := (5 : Int32)) (tgt := 269) C dX8_work_82 s82_5 (by decide) (by decide) rfl (by decide) ?_
      refine g_aload_n_0 C dX8_work_269 ?_
      refine g_bipush (v := (8 : Int32)) C dX8_work_270 (by decide) ?_
      refine g_aload_n_0 C dX8_work_272 ?_
      refine gf_X8_50 C dX8_work_273 ?_
      refine g_iload_n_1 C dX8_work_276 ?_
      obtain ⟨y27, hy27, hf⟩ := en_bnd hf
      refine gaM_ld_14 C hy27 dX8_work_277 ?_
      refine g_iconst (v := (3 : Int32)) C dX8_work_278 (by decide) ?_
      refine g_idiv C dX8_work_279 (by decide) ?_
      refine g_iadd C dX8_work_280 ?_
      refine g_iload_n_3 C dX8_work_281 ?_
      refine g_if_ne (tgt := 290) C dX8_work_282 (by decide) (fun c28 => ?_) (fun c28 => ?_)
      · rw [if_neg c28] at hf
        refine g_iload_5 C dX8_work_290 ?_
        refine g_iconst (v := (1 : Int32)) C dX8_work_292 (by decide) ?_
        refine g_iadd C dX8_work_293 ?_
        refine g_bipush (v := (12 : Int32)) C dX8_work_294 (by decide) ?_
        refine g_irem C dX8_work_296 (by decide) ?_
        refine g_iload_8 C dX8_work_297 ?_
        obtain ⟨q29, hq29, hf⟩ := en_bnd hf
        refine gc_X8_201_M_pay C (ctM_pay _ _ _ _ q29.1 q29.2 hq29) (by decide) (Nat.le_of_ble_eq_true rfl) dX8_work_299 ?_
        refine g_istore_9 C dX8_work_302 (by decide) rfl ?_
        refine g_iload_9 C dX8_work_304 ?_
        refine g_if_le (tgt := 580) C dX8_work_306 (by decide) (fun c30 => ?_) (fun c30 => ?_)
        · rw [if_pos c30] at hf
          exact g_vret C dX8_work_580 (en_finV hf)
        · rw [if_neg c30] at hf
          refine g_aload_n_0 C dX8_work_309 ?_
          refine g_iload_9 C dX8_work_310 ?_
          refine g_iload_9 C dX8_work_312 ?_
          obtain ⟨q31, hq31, hf⟩ := en_bnd hf
          refine gc_X8_187_M_raise C (ctM_raise _ _ _ q31.1 q31.2 hq31) (by decide) (Nat.le_of_ble_eq_true rfl) dX8_work_314 ?_
          refine g_goto (tgt := 580) C dX8_work_317 (by decide) ?_
          exact g_vret C dX8_work_580 (en_finV hf)
      · rw [if_pos c28] at hf
        refine g_iload_5 C dX8_work_285 ?_
        refine g_goto (tgt := 297) C dX8_work_287 (by decide) ?_
        refine g_iload_8 C dX8_work_297 ?_
        obtain ⟨q32, hq32, hf⟩ := en_bnd hf
        refine gc_X8_201_M_pay C (ctM_pay _ _ _ _ q32.1 q32.2 hq32) (by decide) (Nat.le_of_ble_eq_true rfl) dX8_work_299 ?_
        refine g_istore_9 C dX8_work_302 (by decide) rfl ?_
        refine g_iload_9 C dX8_work_304 ?_
        refine g_if_le (tgt := 580) C dX8_work_306 (by decide) (fun c33 => ?_) (fun c33 => ?_)
        · rw [if_pos c33] at hf
          exact g_vret C dX8_work_580 (en_finV hf)
        · rw [if_neg c33] at hf
          refine g_aload_n_0 C dX8_work_309 ?_
          refine g_iload_9 C dX8_work_310 ?_
          refine g_iload_9 C dX8_work_312 ?_
          obtain ⟨q34, hq34, hf⟩ := en_bnd hf
          refine gc_X8_187_M_raise C (ctM_raise _ _ _ q34.1 q34.2 hq34) (by decide) (Nat.le_of_ble_eq_true rfl) dX8_work_314 ?_
          refine g_goto (tgt := 580) C dX8_work_317 (by decide) ?_
          exact g_vret C dX8_work_580 (en_finV hf)
    rw [if_neg s82_5] at hf
    rcases Decidable.em (v4 = (6 : Int32)) with s82_6 | s82_6
    · rw [if_pos s82_6] at hf
      refine g_tsw (z := (6 : Int32)) (tgt := 320) C dX8_work_82 s82_6 (by decide) (by decide) rfl (by decide) ?_
      refine g_aload_n_0 C dX8_work_320 ?_
      refine gf_X8_7 C dX8_work_321 ?_
      refine g_bipush (v := (29 : Int32)) C dX8_work_324 (by decide) ?_
      obtain ⟨y35, hy35, hf⟩ := en_bnd hf
      refine gaM_ld_1 C hy35 dX8_work_326 ?_
      refine g_bipush (v := (40 : Int32)) C dX8_work_327 (by decide) ?_
      refine g_if_icmp_ge (tgt := 580) C dX8_work_329 (by decide) (fun c36 => ?_) (fun c36 => ?_)
      · rw [if_pos c36] at hf
        exact g_vret C dX8_work_580 (en_finV hf)
      · rw [if_neg c36] at hf
        refine g_aload_n_0 C dX8_work_332 ?_
        refine gf_X8_7 C dX8_work_333 ?_
        refine g_bipush (v := (30 : Int32)) C dX8_work_336 (by decide) ?_
        refine g_aload_n_0 C dX8_work_338 ?_
        refine gf_X8_7 C dX8_work_339 ?_
        refine g_bipush (v := (29 : Int32)) C dX8_work_342 (by decide) ?_
        obtain ⟨y37, hy37, hf⟩ := en_bnd hf
        refine gaM_ld_1 C hy37 dX8_work_344 ?_
        refine g_iadd C dX8_work_345 ?_
        refine g_iload_8 C dX8_work_346 ?_
        obtain ⟨u38, hu38, hf⟩ := en_bnd hf
        refine gaM_st_1 C hu38 dX8_work_348 ?_
        refine g_aload_n_0 C dX8_work_349 ?_
        refine gf_X8_7 C dX8_work_350 ?_
        refine g_bipush (v := (29 : Int32)) C dX8_work_353 (by decide) ?_
        refine g_dup2 C dX8_work_355 rfl rfl ?_
        obtain ⟨y39, hy39, hf⟩ := en_bnd hf
        refine gaM_ld_1 C hy39 dX8_work_356 ?_
        refine g_iconst (v := (1 : Int32)) C dX8_work_357 (by decide) ?_
        refine g_iadd C dX8_work_358 ?_
        obtain ⟨u40, hu40, hf⟩ := en_bnd hf
        refine gaM_st_1 C hu40 dX8_work_359 ?_
        refine g_goto (tgt := 580) C dX8_work_360 (by decide) ?_
        exact g_vret C dX8_work_580 (en_finV hf)
    rw [if_neg s82_6] at hf
    rcases Decidable.em (v4 = (7 : Int32)) with s82_7 | s82_7
    · rw [if_pos s82_7] at hf
      refine g_tsw (z := (7 : Int32)) (tgt := 363) C dX8_work_82 s82_7 (by decide) (by decide) rfl (by decide) ?_
      refine g_aload_n_0 C dX8_work_363 ?_
      refine g_iload_n_1 C dX8_work_364 ?_
      refine g_iload_n_2 C dX8_work_365 ?_
      refine g_bipush (v := (8 : Int32)) C dX8_work_366 (by decide) ?_
      refine g_irem C dX8_work_368 (by decide) ?_
      refine g_iload_8 C dX8_work_369 ?_
      refine g_iload_6 C dX8_work_371 ?_
      refine g_if_icmp_ge (tgt := 380) C dX8_work_373 (by decide) (fun c41 => ?_) (fun c41 => ?_)
      · rw [if_pos c41] at hf
        refine g_iconst (v := (0 : Int32)) C dX8_work_380 (by decide) ?_
        refine g_iload_n_3 C dX8_work_381 ?_
        refine g_iconst (v := (2 : Int32)) C dX8_work_382 (by decide) ?_
        refine g_if_icmp_ge (tgt := 390) C dX8_work_383 (by decide) (fun c42 => ?_) (fun c42 => ?_)
        · rw [if_pos c42] at hf
          refine g_iconst (v := (0 : Int32)) C dX8_work_390 (by decide) ?_
          refine g_if_icmp_ne (tgt := 398) C dX8_work_391 (by decide) (fun q => absurd q (by decide)) (fun _ => ?_)
          refine g_iconst (v := (1 : Int32)) C dX8_work_394 (by decide) ?_
          refine g_goto (tgt := 399) C dX8_work_395 (by decide) ?_
          refine g_iload_n_3 C dX8_work_399 ?_
          refine g_iconst (v := (1 : Int32)) C dX8_work_400 (by decide) ?_
          refine g_if_icmp_ne (tgt := 411) C dX8_work_401 (by decide) (fun c43 => ?_) (fun c43 => ?_)
          · rw [if_neg c43] at hf
            refine g_iload_5 C dX8_work_411 ?_
            obtain ⟨q44, hq44, hf⟩ := en_bnd hf
            refine gc_X8_205_M_pass C (ctM_pass _ _ _ _ _ q44.1 q44.2 hq44) (by decide) (Nat.le_of_ble_eq_true rfl) dX8_work_413 ?_
            refine g_goto (tgt := 580) C dX8_work_416 (by decide) ?_
            exact g_vret C dX8_work_580 (en_finV hf)
          · rw [if_pos c43] at hf
            refine g_iload_5 C dX8_work_404 ?_
            refine g_iconst (v := (1 : Int32)) C dX8_work_406 (by decide) ?_
            refine g_iadd C dX8_work_407 ?_
            refine g_goto (tgt := 413) C dX8_work_408 (by decide) ?_
            obtain ⟨q45, hq45, hf⟩ := en_bnd hf
            refine gc_X8_205_M_pass C (ctM_pass _ _ _ _ _ q45.1 q45.2 hq45) (by decide) (Nat.le_of_ble_eq_true rfl) dX8_work_413 ?_
            refine g_goto (tgt := 580) C dX8_work_416 (by decide) ?_
            exact g_vret C dX8_work_580 (en_finV hf)
        · rw [if_neg c42] at hf
          refine g_iconst (v := (1 : Int32)) C dX8_work_386 (by decide) ?_
          refine g_goto (tgt := 391) C dX8_work_387 (by decide) ?_
          refine g_if_icmp_ne (tgt := 398) C dX8_work_391 (by decide) (fun _ => ?_) (fun q => absurd q (by decide))
          refine g_iconst (v := (0 : Int32)) C dX8_work_398 (by decide) ?_
          refine g_iload_n_3 C dX8_work_399 ?_
          refine g_iconst (v := (1 : Int32)) C dX8_work_400 (by decide) ?_
          refine g_if_icmp_ne (tgt := 411) C dX8_work_401 (by decide) (fun c46 => ?_) (fun c46 => ?_)
          · rw [if_neg c46] at hf
            refine g_iload_5 C dX8_work_411 ?_
            obtain ⟨q47, hq47, hf⟩ := en_bnd hf
            refine gc_X8_205_M_pass C (ctM_pass _ _ _ _ _ q47.1 q47.2 hq47) (by decide) (Nat.le_of_ble_eq_true rfl) dX8_work_413 ?_
            refine g_goto (tgt := 580) C dX8_work_416 (by decide) ?_
            exact g_vret C dX8_work_580 (en_finV hf)
          · rw [if_pos c46] at hf
            refine g_iload_5 C dX8_work_404 ?_
            refine g_iconst (v := (1 : Int32)) C dX8_work_406 (by decide) ?_
            refine g_iadd C dX8_work_407 ?_
            refine g_goto (tgt := 413) C dX8_work_408 (by decide) ?_
            obtain ⟨q48, hq48, hf⟩ := en_bnd hf
            refine gc_X8_205_M_pass C (ctM_pass _ _ _ _ _ q48.1 q48.2 hq48) (by decide) (Nat.le_of_ble_eq_true rfl) dX8_work_413 ?_
            refine g_goto (tgt := 580) C dX8_work_416 (by decide) ?_
            exact g_vret C dX8_work_580 (en_finV hf)
      · rw [if_neg c41] at hf
        refine g_iconst (v := (1 : Int32)) C dX8_work_376 (by decide) ?_
        refine g_goto (tgt := 381) C dX8_work_377 (by decide) ?_
        refine g_iload_n_3 C dX8_work_381 ?_
        refine g_iconst (v := (2 : Int32)) C dX8_work_382 (by decide) ?_
        refine g_if_icmp_ge (tgt := 390) C dX8_work_383 (by decide) (fun c49 => ?_) (fun c49 => ?_)
        · rw [if_pos c49] at hf
          refine g_iconst (v := (0 : Int32)) C dX8_work_390 (by decide) ?_
          refine g_if_icmp_ne (tgt := 398) C dX8_work_391 (by decide) (fun _ => ?_) (fun q => absurd q (by decide))
          refine g_iconst (v := (0 : Int32)) C dX8_work_398 (by decide) ?_
          refine g_iload_n_3 C dX8_work_399 ?_
          refine g_iconst (v := (1 : Int32)) C dX8_work_400 (by decide) ?_
          refine g_if_icmp_ne (tgt := 411) C dX8_work_401 (by decide) (fun c50 => ?_) (fun c50 => ?_)
          · rw [if_neg c50] at hf
            refine g_iload_5 C dX8_work_411 ?_
            obtain ⟨q51, hq51, hf⟩ := en_bnd hf
            refine gc_X8_205_M_pass C (ctM_pass _ _ _ _ _ q51.1 q51.2 hq51) (by decide) (Nat.le_of_ble_eq_true rfl) dX8_work_413 ?_
            refine g_goto (tgt := 580) C dX8_work_416 (by decide) ?_
            exact g_vret C dX8_work_580 (en_finV hf)
          · rw [if_pos c50] at hf
            refine g_iload_5 C dX8_work_404 ?_
            refine g_iconst (v := (1 : Int32)) C dX8_work_406 (by decide) ?_
            refine g_iadd C dX8_work_407 ?_
            refine g_goto (tgt := 413) C dX8_work_408 (by decide) ?_
            obtain ⟨q52, hq52, hf⟩ := en_bnd hf
            refine gc_X8_205_M_pass C (ctM_pass _ _ _ _ _ q52.1 q52.2 hq52) (by decide) (Nat.le_of_ble_eq_true rfl) dX8_work_413 ?_
            refine g_goto (tgt := 580) C dX8_work_416 (by decide) ?_
            exact g_vret C dX8_work_580 (en_finV hf)
        · rw [if_neg c49] at hf
          refine g_iconst (v := (1 : Int32)) C dX8_work_386 (by decide) ?_
          refine g_goto (tgt := 391) C dX8_work_387 (by decide) ?_
          refine g_if_icmp_ne (tgt := 398) C dX8_work_391 (by decide) (fun q => absurd q (by decide)) (fun _ => ?_)
          refine g_iconst (v := (1 : Int32)) C dX8_work_394 (by decide) ?_
          refine g_goto (tgt := 399) C dX8_work_395 (by decide) ?_
          refine g_iload_n_3 C dX8_work_399 ?_
          refine g_iconst (v := (1 : Int32)) C dX8_work_400 (by decide) ?_
          refine g_if_icmp_ne (tgt := 411) C dX8_work_401 (by decide) (fun c53 => ?_) (fun c53 => ?_)
          · rw [if_neg c53] at hf
            refine g_iload_5 C dX8_work_411 ?_
            obtain ⟨q54, hq54, hf⟩ := en_bnd hf
            refine gc_X8_205_M_pass C (ctM_pass _ _ _ _ _ q54.1 q54.2 hq54) (by decide) (Nat.le_of_ble_eq_true rfl) dX8_work_413 ?_
            refine g_goto (tgt := 580) C dX8_work_416 (by decide) ?_
            exact g_vret C dX8_work_580 (en_finV hf)
          · rw [if_pos c53] at hf
            refine g_iload_5 C dX8_work_404 ?_
            refine g_iconst (v := (1 : Int32)) C dX8_work_406 (by decide) ?_
            refine g_iadd C dX8_work_407 ?_
            refine g_goto (tgt := 413) C dX8_work_408 (by decide) ?_
            obtain ⟨q55, hq55, hf⟩ := en_bnd hf
            refine gc_X8_205_M_pass C (ctM_pass _ _ _ _ _ q55.1 q55.2 hq55) (by decide) (Nat.le_of_ble_eq_true rfl) dX8_work_413 ?_
            refine g_goto (tgt := 580) C dX8_work_416 (by decide) ?_
            exact g_vret C dX8_work_580 (en_finV hf)
    rw [if_neg s82_7] at hf
    rcases Decidable.em (v4 = (8 : Int32)) with s82_8 | s82_8
    · rw [if_pos s82_8] at hf
      refine g_tsw (z := (8 : Int32)) (tgt := 419) C dX8_work_82 s82_8 (by decide) (by decide) rfl (by decide) ?_
      refine g_aload_n_0 C dX8_work_419 ?_
      refine g_iload_n_1 C dX8_work_420 ?_
      refine g_iload_5 C dX8_work_421 ?_
      obtain ⟨q56, hq56, hf⟩ := en_bnd hf
      refine gc_X8_209_M_ask C (ctM_ask _ _ _ q56.1 q56.2 hq56) (by decide) (Nat.le_of_ble_eq_true rfl) dX8_work_423 ?_
      refine g_goto (tgt := 580) C dX8_work_426 (by decide) ?_
      exact g_vret C dX8_work_580 (en_finV hf)
    rw [if_neg s82_8] at hf
    rcases Decidable.em (v4 = (9 : Int32)) with s82_9 | s82_9
    · rw [if_pos s82_9] at hf
      refine g_tsw (z := (9 : Int32)) (tgt := 429) C dX8_work_82 s82_9 (by decide) (by decide) rfl (by decide) ?_
      refine g_aload_n_0 C dX8_work_429 ?_
      refine gf_X8_56 C dX8_work_430 ?_
      refine g_iload_n_1 C dX8_work_433 ?_
      obtain ⟨y57, hy57, hf⟩ := en_bnd hf
      refine gaM_ld_16 C hy57 dX8_work_434 ?_
      refine g_iload_5 C dX8_work_435 ?_
      refine g_iadd C dX8_work_437 ?_
      refine g_istore_9 C dX8_work_438 (by decide) rfl ?_
      refine g_iload_9 C dX8_work_440 ?_
      refine g_aload_n_0 C dX8_work_442 ?_
      refine g_iload_n_1 C dX8_work_443 ?_
      obtain ⟨q58, hq58, hf⟩ := en_bnd hf
      refine gc_X8_171_M_end C (ctM_end _ _ q58.1 q58.2 hq58) (by decide) (Nat.le_of_ble_eq_true rfl) dX8_work_444 ?_
      refine g_if_icmp_ge (tgt := 455) C dX8_work_447 (by decide) (fun c59 => ?_) (fun c59 => ?_)
      · rw [if_pos c59] at hf
        refine g_aload_n_0 C dX8_work_455 ?_
        refine g_iload_n_1 C dX8_work_456 ?_
        obtain ⟨q60, hq60, hf⟩ := en_bnd hf
        refine gc_X8_171_M_end C (ctM_end _ _ q60.1 q60.2 hq60) (by decide) (Nat.le_of_ble_eq_true rfl) dX8_work_457 ?_
        refine g_istore_9 C dX8_work_460 (by decide) rfl ?_
        refine g_aload_n_0 C dX8_work_462 ?_
        refine g_bipush (v := (10 : Int32)) C dX8_work_463 (by decide) ?_
        refine g_iload_n_1 C dX8_work_465 ?_
        refine g_imul C dX8_work_466 ?_
        refine g_iconst (v := (1 : Int32)) C dX8_work_467 (by decide) ?_
        refine g_iadd C dX8_work_468 ?_
        refine g_aload_n_0 C dX8_work_469 ?_
        refine gf_X8_59 C dX8_work_470 ?_
        refine g_iload_n_1 C dX8_work_473 ?_
        obtain ⟨y61, hy61, hf⟩ := en_bnd hf
        refine gaM_ld_17 C hy61 dX8_work_474 ?_
        refine g_iadd C dX8_work_475 ?_
        obtain ⟨q62, hq62, hf⟩ := en_bnd hf
        refine gc_X8_212_M_keep C (ctM_keep _ _ q62.1 q62.2 hq62) (by decide) (Nat.le_of_ble_eq_true rfl) dX8_work_476 ?_
        refine g_aload_n_0 C dX8_work_479 ?_
        refine gf_X8_62 C dX8_work_480 ?_
        refine g_bipush (v := (10 : Int32)) C dX8_work_483 (by decide) ?_
        refine g_iload_n_1 C dX8_work_485 ?_
        refine g_imul C dX8_work_486 ?_
        refine g_aload_n_0 C dX8_work_487 ?_
        refine gf_X8_59 C dX8_work_488 ?_
        refine g_iload_n_1 C dX8_work_491 ?_
        obtain ⟨y63, hy63, hf⟩ := en_bnd hf
        refine gaM_ld_17 C hy63 dX8_work_492 ?_
        refine g_iadd C dX8_work_493 ?_
        refine g_iload_9 C dX8_work_494 ?_
        obtain ⟨u64, hu64, hf⟩ := en_bnd hf
        refine gaM_st_18 C hu64 dX8_work_496 ?_
        refine g_aload_n_0 C dX8_work_497 ?_
        refine gf_X8_59 C dX8_work_498 ?_
        refine g_iload_n_1 C dX8_work_501 ?_
        refine g_dup2 C dX8_work_502 rfl rfl ?_
        obtain ⟨y65, hy65, hf⟩ := en_bnd hf
        refine gaM_ld_17 C hy65 dX8_work_503 ?_
        refine g_iconst (v := (1 : Int32)) C dX8_work_504 (by decide) ?_
        refine g_iadd C dX8_work_505 ?_
        obtain ⟨u66, hu66, hf⟩ := en_bnd hf
        refine gaM_st_17 C hu66 dX8_work_506 ?_
        refine g_goto (tgt := 580) C dX8_work_507 (by decide) ?_
        exact g_vret C dX8_work_580 (en_finV hf)
      · rw [if_neg c59] at hf
        refine g_iload_9 C dX8_work_450 ?_
        refine g_goto (tgt := 460) C dX8_work_452 (by decide) ?_
        refine g_istore_9 C dX8_work_460 (by decide) rfl ?_
        refine g_aload_n_0 C dX8_work_462 ?_
        refine g_bipush (v := (10 : Int32)) C dX8_work_463 (by decide) ?_
        refine g_iload_n_1 C dX8_work_465 ?_
        refine g_imul C dX8_work_466 ?_
        refine g_iconst (v := (1 : Int32)) C dX8_work_467 (by decide) ?_
        refine g_iadd C dX8_work_468 ?_
        refine g_aload_n_0 C dX8_work_469 ?_
        refine gf_X8_59 C dX8_work_470 ?_
        refine g_iload_n_1 C dX8_work_473 ?_
        obtain ⟨y67, hy67, hf⟩ := en_bnd hf
        refine gaM_ld_17 C hy67 dX8_work_474 ?_
        refine g_iadd C dX8_work_475 ?_
        obtain ⟨q68, hq68, hf⟩ := en_bnd hf
        refine gc_X8_212_M_keep C (ctM_keep _ _ q68.1 q68.2 hq68) (by decide) (Nat.le_of_ble_eq_true rfl) dX8_work_476 ?_
        refine g_aload_n_0 C dX8_work_479 ?_
        refine gf_X8_62 C dX8_work_480 ?_
        refine g_bipush (v := (10 : Int32)) C dX8_work_483 (by decide) ?_
        refine g_iload_n_1 C dX8_work_485 ?_
        refine g_imul C dX8_work_486 ?_
        refine g_aload_n_0 C dX8_work_487 ?_
        refine gf_X8_59 C dX8_work_488 ?_
        refine g_iload_n_1 C dX8_work_491 ?_
        obtain ⟨y69, hy69, hf⟩ := en_bnd hf
        refine gaM_ld_17 C hy69 dX8_work_492 ?_
        refine g_iadd C dX8_work_493 ?_
        refine g_iload_9 C dX8_work_494 ?_
        obtain ⟨u70, hu70, hf⟩ := en_bnd hf
        refine gaM_st_18 C hu70 dX8_work_496 ?_
        refine g_aload_n_0 C dX8_work_497 ?_
        refine gf_X8_59 C dX8_work_498 ?_
        refine g_iload_n_1 C dX8_work_501 ?_
        refine g_dup2 C dX8_work_502 rfl rfl ?_
        obtain ⟨y71, hy71, hf⟩ := en_bnd hf
        refine gaM_ld_17 C hy71 dX8_work_503 ?_
        refine g_iconst (v := (1 : Int32)) C dX8_work_504 (by decide) ?_
        refine g_iadd C dX8_work_505 ?_
        obtain ⟨u72, hu72, hf⟩ := en_bnd hf
        refine gaM_st_17 C hu72 dX8_work_506 ?_
        refine g_goto (tgt := 580) C dX8_work_507 (by decide) ?_
        exact g_vret C dX8_work_580 (en_finV hf)
    rw [if_neg s82_9] at hf
    rcases Decidable.em (v4 = (10 : Int32)) with s82_10 | s82_10
    · rw [if_pos s82_10] at hf
      refine g_tsw (z := (10 : Int32)) (tgt := 510) C dX8_work_82 s82_10 (by decide) (by decide) rfl (by decide) ?_
      refine g_aload_n_0 C dX8_work_510 ?_
      refine gf_X8_53 C dX8_work_511 ?_
      refine g_iload_n_1 C dX8_work_514 ?_
      refine g_aload_n_0 C dX8_work_515 ?_
      refine gf_X8_7 C dX8_work_516 ?_
      refine g_bipush (v := (28 : Int32)) C dX8_work_519 (by decide) ?_
      obtain ⟨y73, hy73, hf⟩ := en_bnd hf
      refine gaM_ld_1 C hy73 dX8_work_521 ?_
      obtain ⟨u74, hu74, hf⟩ := en_bnd hf
      refine gaM_st_15 C hu74 dX8_work_522 ?_
      refine g_goto (tgt := 580) C dX8_work_523 (by decide) ?_
      exact g_vret C dX8_work_580 (en_finV hf)
    rw [if_neg s82_10] at hf
    refine g_tswD (tgt := 526) C [(0 : Int32), (1 : Int32), (2 : Int32), (3 : Int32), (4 : Int32), (5 : Int32), (6 : Int32), (7 : Int32), (8 : Int32), (9 : Int32), (10 : Int32)] dX8_work_82 (And.intro s82_0 (And.intro s82_1 (And.intro s82_2 (And.intro s82_3 (And.intro s82_4 (And.intro s82_5 (And.intro s82_6 (And.intro s82_7 (And.intro s82_8 (And.intro s82_9 (And.intro s82_10 trivial))))))))))) 11 (by decide) (by decide) (by decide) ?_
    refine g_aload_n_0 C dX8_work_526 ?_
    refine gf_X8_7 C dX8_work_527 ?_
    refine g_iload_7 C dX8_work_530 ?_
    obtain ⟨y75, hy75, hf⟩ := en_bnd hf
    refine gaM_ld_1 C hy75 dX8_work_532 ?_
    refine g_if_ne (tgt := 547) C dX8_work_533 (by decide) (fun c76 => ?_) (fun c76 => ?_)
    · rw [if_neg c76] at hf
      refine g_aload_n_0 C dX8_work_547 ?_
      refine gf_X8_53 C dX8_work_548 ?_
      refine g_iload_n_1 C dX8_work_551 ?_
      refine g_aload_n_0 C dX8_work_552 ?_
      refine gf_X8_7 C dX8_work_553 ?_
      refine g_iload_7 C dX8_work_556 ?_
      obtain ⟨y77, hy77, hf⟩ := en_bnd hf
      refine gaM_ld_1 C hy77 dX8_work_558 ?_
      refine g_iconst (v := (-1 : Int32)) C dX8_work_559 (by decide) ?_
      refine g_if_icmp_ne (tgt := 569) C dX8_work_560 (by decide) (fun c78 => ?_) (fun c78 => ?_)
      · rw [if_neg c78] at hf
        refine g_iload_8 C dX8_work_569 ?_
        refine g_aload_n_0 C dX8_work_571 ?_
        refine gf_X8_7 C dX8_work_572 ?_
        refine g_iload_7 C dX8_work_575 ?_
        obtain ⟨y79, hy79, hf⟩ := en_bnd hf
        refine gaM_ld_1 C hy79 dX8_work_577 ?_
        obtain ⟨c80, hf⟩ := en_nz hf
        refine g_idiv C dX8_work_578 c80 ?_
        obtain ⟨u81, hu81, hf⟩ := en_bnd hf
        refine gaM_st_15 C hu81 dX8_work_579 ?_
        exact g_vret C dX8_work_580 (en_finV hf)
      · rw [if_pos c78] at hf
        refine g_iload_8 C dX8_work_563 ?_
        refine g_ineg C dX8_work_565 ?_
        refine g_goto (tgt := 579) C dX8_work_566 (by decide) ?_
        obtain ⟨u82, hu82, hf⟩ := en_bnd hf
        refine gaM_st_15 C hu82 dX8_work_579 ?_
        exact g_vret C dX8_work_580 (en_finV hf)
    · rw [if_pos c76] at hf
      refine g_aload_n_0 C dX8_work_536 ?_
      refine g_bipush (v := (6 : Int32)) C dX8_work_537 (by decide) ?_
      refine g_bipush (v := (6 : Int32)) C dX8_work_539 (by decide) ?_
      obtain ⟨q83, hq83, hf⟩ := en_bnd hf
      refine gc_X8_187_M_raise C (ctM_raise _ _ _ q83.1 q83.2 hq83) (by decide) (Nat.le_of_ble_eq_true rfl) dX8_work_541 ?_
      refine g_goto (tgt := 580) C dX8_work_544 (by decide) ?_
      exact g_vret C dX8_work_580 (en_finV hf)
  unfold fM_work at hf
  refine g_aload_n_0 C dX8_work_0 ?_
  refine gf_X8_16 C dX8_work_1 ?_
  refine g_iload_n_2 C dX8_work_4 ?_
  obtain ⟨y1, hy1, hf⟩ := en_bnd hf
  refine gaM_ld_3 C hy1 dX8_work_5 ?_
  refine g_istore_4 C dX8_work_6 (by decide) rfl ?_
  refine g_aload_n_0 C dX8_work_8 ?_
  refine gf_X8_19 C dX8_work_9 ?_
  refine g_iload_n_2 C dX8_work_12 ?_
  obtain ⟨y2, hy2, hf⟩ := en_bnd hf
  refine gaM_ld_4 C hy2 dX8_work_13 ?_
  refine g_istore_5 C dX8_work_14 (by decide) rfl ?_
  refine g_aload_n_0 C dX8_work_16 ?_
  refine gf_X8_22 C dX8_work_17 ?_
  refine g_iload_n_2 C dX8_work_20 ?_
  obtain ⟨y3, hy3, hf⟩ := en_bnd hf
  refine gaM_ld_5 C hy3 dX8_work_21 ?_
  refine g_istore_6 C dX8_work_22 (by decide) rfl ?_
  refine g_bipush (v := (12 : Int32)) C dX8_work_24 (by decide) ?_
  refine g_iconst (v := (4 : Int32)) C dX8_work_26 (by decide) ?_
  refine g_aload_n_0 C dX8_work_27 ?_
  refine gf_X8_50 C dX8_work_28 ?_
  refine g_iload_n_1 C dX8_work_31 ?_
  obtain ⟨y4, hy4, hf⟩ := en_bnd hf
  refine gaM_ld_14 C hy4 dX8_work_32 ?_
  refine g_iconst (v := (3 : Int32)) C dX8_work_33 (by decide) ?_
  refine g_idiv C dX8_work_34 (by decide) ?_
  refine g_imul C dX8_work_35 ?_
  refine g_iadd C dX8_work_36 ?_
  refine g_iload_5 C dX8_work_37 ?_
  refine g_iadd C dX8_work_39 ?_
  refine g_istore_7 C dX8_work_40 (by decide) rfl ?_
  refine g_aload_n_0 C dX8_work_42 ?_
  refine gf_X8_53 C dX8_work_43 ?_
  refine g_iload_n_1 C dX8_work_46 ?_
  obtain ⟨y5, hy5, hf⟩ := en_bnd hf
  refine gaM_ld_15 C hy5 dX8_work_47 ?_
  refine g_istore_8 C dX8_work_48 (by decide) rfl ?_
  refine g_iload_n_3 C dX8_work_50 ?_
  refine g_if_le (tgt := 80) C dX8_work_51 (by decide) (fun c6 => ?_) (fun c6 => ?_)
  · rw [if_pos c6] at hf
    exact g_weak (J80 _ _ _ _ _ _ _ _ _ hf) (And.intro rfl (And.intro rfl (And.intro rfl (And.intro rfl (And.intro rfl (And.intro rfl (And.intro rfl (And.intro rfl (And.intro rfl trivial)))))))))
  · rw [if_neg c6] at hf
    refine g_iload_4 C dX8_work_54 ?_
    refine g_iconst (v := (2 : Int32)) C dX8_work_56 (by decide) ?_
    refine g_if_icmp_eq (tgt := 80) C dX8_work_57 (by decide) (fun c7 => ?_) (fun c7 => ?_)
    · rw [if_pos c7] at hf
      exact g_weak (J80 _ _ _ _ _ _ _ _ _ hf) (And.intro rfl (And.intro rfl (And.intro rfl (And.intro rfl (And.intro rfl (And.intro rfl (And.intro rfl (And.intro rfl (And.intro rfl trivial)))))))))
    · rw [if_neg c7] at hf
      refine g_iload_4 C dX8_work_60 ?_
      refine g_iconst (v := (4 : Int32)) C dX8_work_62 (by decide) ?_
      refine g_if_icmp_eq (tgt := 80) C dX8_work_63 (by decide) (fun c8 => ?_) (fun c8 => ?_)
      · rw [if_pos c8] at hf
        exact g_weak (J80 _ _ _ _ _ _ _ _ _ hf) (And.intro rfl (And.intro rfl (And.intro rfl (And.intro rfl (And.intro rfl (And.intro rfl (And.intro rfl (And.intro rfl (And.intro rfl trivial)))))))))
      · rw [if_neg c8] at hf
        refine g_iload_4 C dX8_work_66 ?_
        refine g_bipush (v := (7 : Int32)) C dX8_work_68 (by decide) ?_
        refine g_if_icmp_eq (tgt := 80) C dX8_work_70 (by decide) (fun c9 => ?_) (fun c9 => ?_)
        · rw [if_pos c9] at hf
          exact g_weak (J80 _ _ _ _ _ _ _ _ _ hf) (And.intro rfl (And.intro rfl (And.intro rfl (And.intro rfl (And.intro rfl (And.intro rfl (And.intro rfl (And.intro rfl (And.intro rfl trivial)))))))))
        · rw [if_neg c9] at hf
          refine g_iload_4 C dX8_work_73 ?_
          refine g_iconst (v := (5 : Int32)) C dX8_work_75 (by decide) ?_
          refine g_if_icmp_eq (tgt := 80) C dX8_work_76 (by decide) (fun c10 => ?_) (fun c10 => ?_)
          · rw [if_pos c10] at hf
            exact g_weak (J80 _ _ _ _ _ _ _ _ _ hf) (And.intro rfl (And.intro rfl (And.intro rfl (And.intro rfl (And.intro rfl (And.intro rfl (And.intro rfl (And.intro rfl (And.intro rfl trivial)))))))))
          · rw [if_neg c10] at hf
            exact g_vret C dX8_work_79 (en_finV hf)
set_option maxHeartbeats 4000000 in
set_option maxRecDepth 100000 in
theorem ctM_goOn {l : Launch} {D : va_G} {K : en_K} {ad : Nat → Nat} (u : Ug) (r0 : Int32) (u0 : Ug) (hf : fM_goOn u = some (r0, u0)) : CT l D (en_ty K) ad (5) yX8_goOn cX8_goOn 3 none [.ref 0] (wdM K u) (en_RV (wdM K) u0) := by
  refine CT.of (by decide) [some (.ref 0), none, none] rfl (Nat.le_of_ble_eq_true rfl) ?_
  intro p e R s m args below meth c sz C
  unfold fM_goOn at hf
  refine g_aload_n_0 C dX8_goOn_0 ?_
  refine gf_X8_154 C dX8_goOn_1 ?_
  refine g_iconst (v := (1 : Int32)) C dX8_goOn_4 (by decide) ?_
  refine g_isub C dX8_goOn_5 ?_
  refine g_istore_n_1 C dX8_goOn_6 (by decide) rfl ?_
  refine g_aload_n_0 C dX8_goOn_7 ?_
  refine gf_X8_56 C dX8_goOn_8 ?_
  refine g_iload_n_1 C dX8_goOn_11 ?_
  obtain ⟨y1, hy1, hf⟩ := en_bnd hf
  refine gaM_ld_16 C hy1 dX8_goOn_12 ?_
  refine g_aload_n_0 C dX8_goOn_13 ?_
  refine g_iload_n_1 C dX8_goOn_14 ?_
  obtain ⟨q2, hq2, hf⟩ := en_bnd hf
  refine gc_X8_171_M_end C (ctM_end _ _ q2.1 q2.2 hq2) (by decide) (Nat.le_of_ble_eq_true rfl) dX8_goOn_15 ?_
  refine g_if_icmp_ne (tgt := 94) C dX8_goOn_18 (by decide) (fun c3 => ?_) (fun c3 => ?_)
  · rw [if_neg c3] at hf
    refine g_aload_n_0 C dX8_goOn_94 ?_
    refine gf_X8_178 C dX8_goOn_95 ?_
    refine g_bipush (v := (100 : Int32)) C dX8_goOn_98 (by decide) ?_
    refine g_if_icmp_eq (tgt := 114) C dX8_goOn_100 (by decide) (fun c4 => ?_) (fun c4 => ?_)
    · rw [if_pos c4] at hf
      refine g_aload_n_0 C dX8_goOn_114 ?_
      refine g_bipush (v := (7 : Int32)) C dX8_goOn_115 (by decide) ?_
      refine g_bipush (v := (7 : Int32)) C dX8_goOn_117 (by decide) ?_
      obtain ⟨q5, hq5, hf⟩ := en_bnd hf
      refine gc_X8_187_M_raise C (ctM_raise _ _ _ q5.1 q5.2 hq5) (by decide) (Nat.le_of_ble_eq_true rfl) dX8_goOn_119 ?_
      exact g_vret C dX8_goOn_122 (en_finV hf)
    · rw [if_neg c4] at hf
      refine g_aload_n_0 C dX8_goOn_103 ?_
      refine gf_X8_181 C dX8_goOn_104 ?_
      refine gl_X8_185 C dX8_goOn_107 ?_
      refine g_lcmp C dX8_goOn_110 ?_
      refine g_if_ne (tgt := 123) C dX8_goOn_111 (by decide) (fun c6 => ?_) (fun c6 => ?_)
      · rw [if_neg c6] at hf
        refine g_aload_n_0 C dX8_goOn_123 ?_
        refine g_dup C dX8_goOn_124 rfl ?_
        refine gf_X8_178 C dX8_goOn_125 ?_
        refine g_iconst (v := (1 : Int32)) C dX8_goOn_128 (by decide) ?_
        refine g_iadd C dX8_goOn_129 ?_
        obtain ⟨u7, hu7, hf⟩ := en_bnd hf
        refine gp_X8_178 C hu7 dX8_goOn_130 ?_
        refine g_aload_n_0 C dX8_goOn_133 ?_
        refine g_dup C dX8_goOn_134 rfl ?_
        refine gf_X8_181 C dX8_goOn_135 ?_
        refine g_lconst (v := (1 : Int64)) C dX8_goOn_138 (by decide) ?_
        refine g_ladd C dX8_goOn_139 ?_
        obtain ⟨u8, hu8, hf⟩ := en_bnd hf
        refine gp_X8_181 C hu8 dX8_goOn_140 ?_
        refine g_bipush (v := (8 : Int32)) C dX8_goOn_143 (by decide) ?_
        refine g_aload_n_0 C dX8_goOn_145 ?_
        refine gf_X8_50 C dX8_goOn_146 ?_
        refine g_iload_n_1 C dX8_goOn_149 ?_
        obtain ⟨y9, hy9, hf⟩ := en_bnd hf
        refine gaM_ld_14 C hy9 dX8_goOn_150 ?_
        refine g_imul C dX8_goOn_151 ?_
        refine g_aload_n_0 C dX8_goOn_152 ?_
        refine gf_X8_56 C dX8_goOn_153 ?_
        refine g_iload_n_1 C dX8_goOn_156 ?_
        obtain ⟨y10, hy10, hf⟩ := en_bnd hf
        refine gaM_ld_16 C hy10 dX8_goOn_157 ?_
        refine g_iadd C dX8_goOn_158 ?_
        refine g_istore_n_2 C dX8_goOn_159 (by decide) rfl ?_
        refine g_aload_n_0 C dX8_goOn_160 ?_
        refine gf_X8_25 C dX8_goOn_161 ?_
        refine g_aload_n_0 C dX8_goOn_164 ?_
        refine gf_X8_50 C dX8_goOn_165 ?_
        refine g_iload_n_1 C dX8_goOn_168 ?_
        obtain ⟨y11, hy11, hf⟩ := en_bnd hf
        refine gaM_ld_14 C hy11 dX8_goOn_169 ?_
        refine g_dup2 C dX8_goOn_170 rfl rfl ?_
        obtain ⟨y12, hy12, hf⟩ := en_bnd hf
        refine gaM_ld_6 C hy12 dX8_goOn_171 ?_
        refine g_iconst (v := (1 : Int32)) C dX8_goOn_172 (by decide) ?_
        refine g_aload_n_0 C dX8_goOn_173 ?_
        refine gf_X8_56 C dX8_goOn_174 ?_
        refine g_iload_n_1 C dX8_goOn_177 ?_
        obtain ⟨y13, hy13, hf⟩ := en_bnd hf
        refine gaM_ld_16 C hy13 dX8_goOn_178 ?_
        refine g_ishl C dX8_goOn_179 ?_
        refine g_ior C dX8_goOn_180 ?_
        obtain ⟨u14, hu14, hf⟩ := en_bnd hf
        refine gaM_st_6 C hu14 dX8_goOn_181 ?_
        refine g_aload_n_0 C dX8_goOn_182 ?_
        refine gf_X8_56 C dX8_goOn_183 ?_
        refine g_iload_n_1 C dX8_goOn_186 ?_
        refine g_dup2 C dX8_goOn_187 rfl rfl ?_
        obtain ⟨y15, hy15, hf⟩ := en_bnd hf
        refine gaM_ld_16 C hy15 dX8_goOn_188 ?_
        refine g_iconst (v := (1 : Int32)) C dX8_goOn_189 (by decide) ?_
        refine g_iadd C dX8_goOn_190 ?_
        obtain ⟨u16, hu16, hf⟩ := en_bnd hf
        refine gaM_st_16 C hu16 dX8_goOn_191 ?_
        refine g_aload_n_0 C dX8_goOn_192 ?_
        refine g_iload_n_1 C dX8_goOn_193 ?_
        refine g_iload_n_2 C dX8_goOn_194 ?_
        refine g_aload_n_0 C dX8_goOn_195 ?_
        refine gf_X8_191 C dX8_goOn_196 ?_
        refine g_if_le (tgt := 217) C dX8_goOn_199 (by decide) (fun c17 => ?_) (fun c17 => ?_)
        · rw [if_pos c17] at hf
          refine g_iconst (v := (0 : Int32)) C dX8_goOn_217 (by decide) ?_
          obtain ⟨q18, hq18, hf⟩ := en_bnd hf
          refine gc_X8_197_M_work C (ctM_work _ _ _ _ q18.1 q18.2 hq18) (by decide) (Nat.le_of_ble_eq_true rfl) dX8_goOn_218 ?_
          exact g_vret C dX8_goOn_221 (en_finV hf)
        · rw [if_neg c17] at hf
          refine g_iload_n_2 C dX8_goOn_202 ?_
          refine g_aload_n_0 C dX8_goOn_203 ?_
          refine gf_X8_194 C dX8_goOn_204 ?_
          refine g_if_icmp_ne (tgt := 217) C dX8_goOn_207 (by decide) (fun c19 => ?_) (fun c19 => ?_)
          · rw [if_neg c19] at hf
            refine g_iconst (v := (0 : Int32)) C dX8_goOn_217 (by decide) ?_
            obtain ⟨q20, hq20, hf⟩ := en_bnd hf
            refine gc_X8_197_M_work C (ctM_work _ _ _ _ q20.1 q20.2 hq20) (by decide) (Nat.le_of_ble_eq_true rfl) dX8_goOn_218 ?_
            exact g_vret C dX8_goOn_221 (en_finV hf)
          · rw [if_pos c19] at hf
            refine g_aload_n_0 C dX8_goOn_210 ?_
            refine gf_X8_191 C dX8_goOn_211 ?_
            refine g_goto (tgt := 218) C dX8_goOn_214 (by decide) ?_
            obtain ⟨q21, hq21, hf⟩ := en_bnd hf
            refine gc_X8_197_M_work C (ctM_work _ _ _ _ q21.1 q21.2 hq21) (by decide) (Nat.le_of_ble_eq_true rfl) dX8_goOn_218 ?_
            exact g_vret C dX8_goOn_221 (en_finV hf)
      · rw [if_pos c6] at hf
        refine g_aload_n_0 C dX8_goOn_114 ?_
        refine g_bipush (v := (7 : Int32)) C dX8_goOn_115 (by decide) ?_
        refine g_bipush (v := (7 : Int32)) C dX8_goOn_117 (by decide) ?_
        obtain ⟨q22, hq22, hf⟩ := en_bnd hf
        refine gc_X8_187_M_raise C (ctM_raise _ _ _ q22.1 q22.2 hq22) (by decide) (Nat.le_of_ble_eq_true rfl) dX8_goOn_119 ?_
        exact g_vret C dX8_goOn_122 (en_finV hf)
  · rw [if_pos c3] at hf
    refine g_aload_n_0 C dX8_goOn_21 ?_
    refine gf_X8_59 C dX8_goOn_22 ?_
    refine g_iload_n_1 C dX8_goOn_25 ?_
    obtain ⟨y23, hy23, hf⟩ := en_bnd hf
    refine gaM_ld_17 C hy23 dX8_goOn_26 ?_
    refine g_if_le (tgt := 41) C dX8_goOn_27 (by decide) (fun c24 => ?_) (fun c24 => ?_)
    · rw [if_pos c24] at hf
      refine g_aload_n_0 C dX8_goOn_41 ?_
      refine g_dup C dX8_goOn_42 rfl ?_
      refine gf_X8_154 C dX8_goOn_43 ?_
      refine g_iconst (v := (1 : Int32)) C dX8_goOn_46 (by decide) ?_
      refine g_isub C dX8_goOn_47 ?_
      obtain ⟨u25, hu25, hf⟩ := en_bnd hf
      refine gp_X8_154 C hu25 dX8_goOn_48 ?_
      refine g_aload_n_0 C dX8_goOn_51 ?_
      refine gf_X8_154 C dX8_goOn_52 ?_
      refine g_if_ne (tgt := 76) C dX8_goOn_55 (by decide) (fun c26 => ?_) (fun c26 => ?_)
      · rw [if_neg c26] at hf
        refine g_aload_n_0 C dX8_goOn_76 ?_
        refine gf_X8_53 C dX8_goOn_77 ?_
        refine g_aload_n_0 C dX8_goOn_80 ?_
        refine gf_X8_154 C dX8_goOn_81 ?_
        refine g_iconst (v := (1 : Int32)) C dX8_goOn_84 (by decide) ?_
        refine g_isub C dX8_goOn_85 ?_
        refine g_aload_n_0 C dX8_goOn_86 ?_
        refine gf_X8_53 C dX8_goOn_87 ?_
        refine g_iload_n_1 C dX8_goOn_90 ?_
        obtain ⟨y27, hy27, hf⟩ := en_bnd hf
        refine gaM_ld_15 C hy27 dX8_goOn_91 ?_
        obtain ⟨u28, hu28, hf⟩ := en_bnd hf
        refine gaM_st_15 C hu28 dX8_goOn_92 ?_
        exact g_vret C dX8_goOn_93 (en_finV hf)
      · rw [if_pos c26] at hf
        refine g_aload_n_0 C dX8_goOn_58 ?_
        refine g_aload_n_0 C dX8_goOn_59 ?_
        refine gf_X8_53 C dX8_goOn_60 ?_
        refine g_iload_n_1 C dX8_goOn_63 ?_
        obtain ⟨y29, hy29, hf⟩ := en_bnd hf
        refine gaM_ld_15 C hy29 dX8_goOn_64 ?_
        obtain ⟨u30, hu30, hf⟩ := en_bnd hf
        refine gp_X8_175 C hu30 dX8_goOn_65 ?_
        refine g_aload_n_0 C dX8_goOn_68 ?_
        refine g_iconst (v := (1 : Int32)) C dX8_goOn_69 (by decide) ?_
        obtain ⟨u31, hu31, hf⟩ := en_bnd hf
        refine gp_X8_167 C hu31 dX8_goOn_70 ?_
        refine g_goto (tgt := 93) C dX8_goOn_73 (by decide) ?_
        exact g_vret C dX8_goOn_93 (en_finV hf)
    · rw [if_neg c24] at hf
      refine g_aload_n_0 C dX8_goOn_30 ?_
      refine gf_X8_59 C dX8_goOn_31 ?_
      refine g_iload_n_1 C dX8_goOn_34 ?_
      refine g_dup2 C dX8_goOn_35 rfl rfl ?_
      obtain ⟨y32, hy32, hf⟩ := en_bnd hf
      refine gaM_ld_17 C hy32 dX8_goOn_36 ?_
      refine g_iconst (v := (1 : Int32)) C dX8_goOn_37 (by decide) ?_
      refine g_isub C dX8_goOn_38 ?_
      obtain ⟨u33, hu33, hf⟩ := en_bnd hf
      refine gaM_st_17 C hu33 dX8_goOn_39 ?_
      exact g_vret C dX8_goOn_40 (en_finV hf)
set_option maxHeartbeats 4000000 in
set_option maxRecDepth 100000 in
theorem ctM_outside {l : Launch} {D : va_G} {K : en_K} {ad : Nat → Nat} (x1 : Int32) (x2 : Int32) (x3 : Int32) (x4 : Int32) (u : Ug) (r0 : Int32) (u0 : Ug) (hf : fM_outside x1 x2 x3 x4 u = some (r0, u0)) : CT l D (en_ty K) ad (6) yX8_outside cX8_outside 6 none [.ref 0, .int x1, .int x2, .int x3, .int x4] (wdM K u) (en_RV (wdM K) u0) := by
  refine CT.of (by decide) [some (.ref 0), some (.int x1), some (.int x2), some (.int x3), some (.int x4), none] rfl (Nat.le_of_ble_eq_true rfl) ?_
  intro p e R s m args below meth c sz C
  have L : ∀ n : Nat, (∀ (v1 : Int32) (v2 : Int32) (v3 : Int32) (v4 : Int32) (v5 : Int32) (w : Ug), (kM_outside n) v1 v2 v3 v4 v5 w = some (r0, u0) → G p l e R s m args below meth c D (va_A (en_ws ad (wdM K u)) sz) 6 ad 0 0 (en_Q below D (en_ty K) ad (wdM K u) sz (en_RV (wdM K) u0) args s) 106 [some (.ref 0), some (.int v1), some (.int v2), some (.int v3), some (.int v4), some (.int v5)] [] (wdM K w)) := by
    intro n
    induction n with
    | zero => exact fun _ _ _ _ _ _ hf => absurd hf (by intro q; cases q)
    | succ n ih =>
      intro v1 v2 v3 v4 v5 u hf
      have hf : sM_outside_106 (kM_outside n) v1 v2 v3 v4 v5 u = some (r0, u0) := hf
      unfold sM_outside_106 at hf
      refine g_aload_n_0 C dX8_outside_106 ?_
      refine gf_X8_167 C dX8_outside_107 ?_
      refine g_if_ne (tgt := 120) C dX8_outside_110 (by decide) (fun c15 => ?_) (fun c15 => ?_)
      · rw [if_neg c15] at hf
        refine g_aload_n_0 C dX8_outside_120 ?_
        refine g_aload_n_0 C dX8_outside_121 ?_
        refine gf_X8_161 C dX8_outside_122 ?_
        refine g_if_le (tgt := 132) C dX8_outside_125 (by decide) (fun c16 => ?_) (fun c16 => ?_)
        · rw [if_pos c16] at hf
          refine g_aload_n_0 C dX8_outside_132 ?_
          refine gf_X8_175 C dX8_outside_133 ?_
          obtain ⟨u17, hu17, hf⟩ := en_bnd hf
          refine gp_X8_221 C hu17 dX8_outside_136 ?_
          refine g_aload_n_0 C dX8_outside_139 ?_
          refine g_aload_n_0 C dX8_outside_140 ?_
          refine gf_X8_161 C dX8_outside_141 ?_
          obtain ⟨u18, hu18, hf⟩ := en_bnd hf
          refine gp_X8_224 C hu18 dX8_outside_144 ?_
          refine g_aload_n_0 C dX8_outside_147 ?_
          refine g_aload_n_0 C dX8_outside_148 ?_
          refine gf_X8_164 C dX8_outside_149 ?_
          obtain ⟨u19, hu19, hf⟩ := en_bnd hf
          refine gp_X8_227 C hu19 dX8_outside_152 ?_
          refine g_aload_n_0 C dX8_outside_155 ?_
          refine g_aload_n_0 C dX8_outside_156 ?_
          refine gf_X8_178 C dX8_outside_157 ?_
          obtain ⟨u20, hu20, hf⟩ := en_bnd hf
          refine gp_X8_230 C hu20 dX8_outside_160 ?_
          exact g_vret C dX8_outside_163 (en_finV hf)
        · rw [if_neg c16] at hf
          refine g_iconst (v := (0 : Int32)) C dX8_outside_128 (by decide) ?_
          refine g_goto (tgt := 136) C dX8_outside_129 (by decide) ?_
          obtain ⟨u21, hu21, hf⟩ := en_bnd hf
          refine gp_X8_221 C hu21 dX8_outside_136 ?_
          refine g_aload_n_0 C dX8_outside_139 ?_
          refine g_aload_n_0 C dX8_outside_140 ?_
          refine gf_X8_161 C dX8_outside_141 ?_
          obtain ⟨u22, hu22, hf⟩ := en_bnd hf
          refine gp_X8_224 C hu22 dX8_outside_144 ?_
          refine g_aload_n_0 C dX8_outside_147 ?_
          refine g_aload_n_0 C dX8_outside_148 ?_
          refine gf_X8_164 C dX8_outside_149 ?_
          obtain ⟨u23, hu23, hf⟩ := en_bnd hf
          refine gp_X8_227 C hu23 dX8_outside_152 ?_
          refine g_aload_n_0 C dX8_outside_155 ?_
          refine g_aload_n_0 C dX8_outside_156 ?_
          refine gf_X8_178 C dX8_outside_157 ?_
          obtain ⟨u24, hu24, hf⟩ := en_bnd hf
          refine gp_X8_230 C hu24 dX8_outside_160 ?_
          exact g_vret C dX8_outside_163 (en_finV hf)
      · rw [if_pos c15] at hf
        refine g_aload_n_0 C dX8_outside_113 ?_
        obtain ⟨q25, hq25, hf⟩ := en_bnd hf
        refine gc_X8_218_M_goOn C (ctM_goOn _ q25.1 q25.2 hq25) (by decide) (Nat.le_of_ble_eq_true rfl) dX8_outside_114 ?_
        refine g_goto (tgt := 106) C dX8_outside_117 (by decide) ?_
        exact g_weak (ih _ _ _ _ _ _ hf) (And.intro rfl (And.intro rfl (And.intro rfl (And.intro rfl (And.intro rfl (And.intro rfl trivial))))))
  unfold fM_outside at hf
  refine g_aload_n_0 C dX8_outside_0 ?_
  refine g_iconst (v := (0 : Int32)) C dX8_outside_1 (by decide) ?_
  obtain ⟨u1, hu1, hf⟩ := en_bnd hf
  refine gp_X8_178 C hu1 dX8_outside_2 ?_
  refine g_aload_n_0 C dX8_outside_5 ?_
  refine g_iconst (v := (0 : Int32)) C dX8_outside_6 (by decide) ?_
  obtain ⟨u2, hu2, hf⟩ := en_bnd hf
  refine gp_X8_161 C hu2 dX8_outside_7 ?_
  refine g_aload_n_0 C dX8_outside_10 ?_
  refine g_iconst (v := (0 : Int32)) C dX8_outside_11 (by decide) ?_
  obtain ⟨u3, hu3, hf⟩ := en_bnd hf
  refine gp_X8_164 C hu3 dX8_outside_12 ?_
  refine g_aload_n_0 C dX8_outside_15 ?_
  refine g_iconst (v := (0 : Int32)) C dX8_outside_16 (by decide) ?_
  obtain ⟨u4, hu4, hf⟩ := en_bnd hf
  refine gp_X8_175 C hu4 dX8_outside_17 ?_
  refine g_aload_n_0 C dX8_outside_20 ?_
  refine g_iconst (v := (0 : Int32)) C dX8_outside_21 (by decide) ?_
  obtain ⟨u5, hu5, hf⟩ := en_bnd hf
  refine gp_X8_167 C hu5 dX8_outside_22 ?_
  refine g_aload_n_0 C dX8_outside_25 ?_
  refine g_iconst (v := (0 : Int32)) C dX8_outside_26 (by decide) ?_
  obtain ⟨u6, hu6, hf⟩ := en_bnd hf
  refine gp_X8_154 C hu6 dX8_outside_27 ?_
  refine g_aload_n_0 C dX8_outside_30 ?_
  refine g_iconst (v := (0 : Int32)) C dX8_outside_31 (by decide) ?_
  obtain ⟨q7, hq7, hf⟩ := en_bnd hf
  refine gc_X8_212_M_keep C (ctM_keep _ _ q7.1 q7.2 hq7) (by decide) (Nat.le_of_ble_eq_true rfl) dX8_outside_32 ?_
  refine g_aload_n_0 C dX8_outside_35 ?_
  refine gf_X8_181 C dX8_outside_36 ?_
  refine gl_X8_185 C dX8_outside_39 ?_
  refine g_lcmp C dX8_outside_42 ?_
  refine g_if_ne (tgt := 51) C dX8_outside_43 (by decide) (fun c8 => ?_) (fun c8 => ?_)
  · rw [if_neg c8] at hf
    refine g_iconst (v := (0 : Int32)) C dX8_outside_51 (by decide) ?_
    refine g_istore_5 C dX8_outside_52 (by decide) rfl ?_
    refine g_iload_5 C dX8_outside_54 ?_
    refine g_if_ne (tgt := 84) C dX8_outside_56 (by decide) (fun q => absurd q (by decide)) (fun _ => ?_)
    refine g_aload_n_0 C dX8_outside_59 ?_
    refine g_dup C dX8_outside_60 rfl ?_
    refine gf_X8_181 C dX8_outside_61 ?_
    refine g_lconst (v := (1 : Int64)) C dX8_outside_64 (by decide) ?_
    refine g_ladd C dX8_outside_65 ?_
    obtain ⟨u9, hu9, hf⟩ := en_bnd hf
    refine gp_X8_181 C hu9 dX8_outside_66 ?_
    refine g_aload_n_0 C dX8_outside_69 ?_
    refine g_iload_n_1 C dX8_outside_70 ?_
    refine g_bipush (v := (8 : Int32)) C dX8_outside_71 (by decide) ?_
    refine g_iload_n_2 C dX8_outside_73 ?_
    refine g_iconst (v := (3 : Int32)) C dX8_outside_74 (by decide) ?_
    refine g_idiv C dX8_outside_75 (by decide) ?_
    refine g_iadd C dX8_outside_76 ?_
    refine g_iload_4 C dX8_outside_77 ?_
    obtain ⟨q10, hq10, hf⟩ := en_bnd hf
    refine gc_X8_201_M_pay C (ctM_pay _ _ _ _ q10.1 q10.2 hq10) (by decide) (Nat.le_of_ble_eq_true rfl) dX8_outside_79 ?_
    refine g_istore_5 C dX8_outside_82 (by decide) rfl ?_
    refine g_iload_5 C dX8_outside_84 ?_
    refine g_if_le (tgt := 100) C dX8_outside_86 (by decide) (fun c11 => ?_) (fun c11 => ?_)
    · rw [if_pos c11] at hf
      refine g_aload_n_0 C dX8_outside_100 ?_
      refine g_iload_n_2 C dX8_outside_101 ?_
      refine g_iload_n_3 C dX8_outside_102 ?_
      obtain ⟨q12, hq12, hf⟩ := en_bnd hf
      refine gc_X8_215_M_enter C (ctM_enter _ _ _ q12.1 q12.2 hq12) (by decide) (Nat.le_of_ble_eq_true rfl) dX8_outside_103 ?_
      exact g_weak ((L _) _ _ _ _ _ _ hf) (And.intro rfl (And.intro rfl (And.intro rfl (And.intro rfl (And.intro rfl (And.intro rfl trivial))))))
    · rw [if_neg c11] at hf
      refine g_aload_n_0 C dX8_outside_89 ?_
      refine g_iload_5 C dX8_outside_90 ?_
      refine g_iload_5 C dX8_outside_92 ?_
      obtain ⟨q13, hq13, hf⟩ := en_bnd hf
      refine gc_X8_187_M_raise C (ctM_raise _ _ _ q13.1 q13.2 hq13) (by decide) (Nat.le_of_ble_eq_true rfl) dX8_outside_94 ?_
      refine g_goto (tgt := 106) C dX8_outside_97 (by decide) ?_
      exact g_weak ((L _) _ _ _ _ _ _ hf) (And.intro rfl (And.intro rfl (And.intro rfl (And.intro rfl (And.intro rfl (And.intro rfl trivial))))))
  · rw [if_pos c8] at hf
    refine g_bipush (v := (7 : Int32)) C dX8_outside_46 (by decide) ?_
    refine g_goto (tgt := 52) C dX8_outside_48 (by decide) ?_
    refine g_istore_5 C dX8_outside_52 (by decide) rfl ?_
    refine g_iload_5 C dX8_outside_54 ?_
    refine g_if_ne (tgt := 84) C dX8_outside_56 (by decide) (fun _ => ?_) (fun q => absurd q (by decide))
    refine g_iload_5 C dX8_outside_84 ?_
    refine g_if_le (tgt := 100) C dX8_outside_86 (by decide) (fun q => absurd q (by decide)) (fun _ => ?_)
    refine g_aload_n_0 C dX8_outside_89 ?_
    refine g_iload_5 C dX8_outside_90 ?_
    refine g_iload_5 C dX8_outside_92 ?_
    obtain ⟨q14, hq14, hf⟩ := en_bnd hf
    refine gc_X8_187_M_raise C (ctM_raise _ _ _ q14.1 q14.2 hq14) (by decide) (Nat.le_of_ble_eq_true rfl) dX8_outside_94 ?_
    refine g_goto (tgt := 106) C dX8_outside_97 (by decide) ?_
    exact g_weak ((L _) _ _ _ _ _ _ hf) (And.intro rfl (And.intro rfl (And.intro rfl (And.intro rfl (And.intro rfl (And.intro rfl trivial))))))
set_option maxHeartbeats 4000000 in
set_option maxRecDepth 100000 in
theorem ctM_call {l : Launch} {D : va_G} {K : en_K} {ad : Nat → Nat} (x1 : Int32) (x2 : Int32) (x3 : Int32) (x4 : Int32) (x5 : Int32) (u : Ug) (r0 : Int32) (u0 : Ug) (hf : fM_call x1 x2 x3 x4 x5 u = some (r0, u0)) : CT l D (en_ty K) ad (7) yX8_call cX8_call 6 (some .int) [.ref 0, .int x1, .int x2, .int x3, .int x4, .int x5] (wdM K u) (en_RI (wdM K) r0 u0) := by
  refine CT.of (by decide) [some (.ref 0), some (.int x1), some (.int x2), some (.int x3), some (.int x4), some (.int x5)] rfl (Nat.le_of_ble_eq_true rfl) ?_
  intro p e R s m args below meth c sz C
  unfold fM_call at hf
  refine g_iload_n_1 C dX8_call_0 ?_
  obtain ⟨q1, hq1, hf⟩ := en_bnd hf
  refine gc_X8_133_M_isAccount C (ctM_isAccount _ _ q1.1 q1.2 hq1) (by decide) (Nat.le_of_ble_eq_true rfl) dX8_call_1 ?_
  refine g_if_eq (tgt := 21) C dX8_call_4 (by decide) (fun c2 => ?_) (fun c2 => ?_)
  · rw [if_pos c2] at hf
    refine g_iconst (v := (-1 : Int32)) C dX8_call_21 (by decide) ?_
    exact g_iret C dX8_call_22 (en_finI hf)
  · rw [if_neg c2] at hf
    refine g_aload_n_0 C dX8_call_7 ?_
    refine g_iload_n_2 C dX8_call_8 ?_
    refine g_iload_n_3 C dX8_call_9 ?_
    obtain ⟨q3, hq3, hf⟩ := en_bnd hf
    refine gc_X8_145_M_isMember C (ctM_isMember _ _ _ q3.1 q3.2 hq3) (by decide) (Nat.le_of_ble_eq_true rfl) dX8_call_10 ?_
    refine g_if_eq (tgt := 21) C dX8_call_13 (by decide) (fun c4 => ?_) (fun c4 => ?_)
    · rw [if_pos c4] at hf
      refine g_iconst (v := (-1 : Int32)) C dX8_call_21 (by decide) ?_
      exact g_iret C dX8_call_22 (en_finI hf)
    · rw [if_neg c4] at hf
      refine g_iload_5 C dX8_call_16 ?_
      refine g_if_ge (tgt := 23) C dX8_call_18 (by decide) (fun c5 => ?_) (fun c5 => ?_)
      · rw [if_pos c5] at hf
        refine g_aload_n_0 C dX8_call_23 ?_
        refine g_iload_n_1 C dX8_call_24 ?_
        refine g_iconst (v := (3 : Int32)) C dX8_call_25 (by decide) ?_
        refine g_iload_n_2 C dX8_call_26 ?_
        refine g_imul C dX8_call_27 ?_
        refine g_iload_n_3 C dX8_call_28 ?_
        refine g_iadd C dX8_call_29 ?_
        refine g_iload_4 C dX8_call_30 ?_
        refine g_iload_5 C dX8_call_32 ?_
        obtain ⟨q6, hq6, hf⟩ := en_bnd hf
        refine gc_X8_233_M_outside C (ctM_outside _ _ _ _ _ q6.1 q6.2 hq6) (by decide) (Nat.le_of_ble_eq_true rfl) dX8_call_34 ?_
        refine g_aload_n_0 C dX8_call_37 ?_
        refine gf_X8_224 C dX8_call_38 ?_
        refine g_if_le (tgt := 54) C dX8_call_41 (by decide) (fun c7 => ?_) (fun c7 => ?_)
        · rw [if_pos c7] at hf
          refine g_iconst (v := (1 : Int32)) C dX8_call_54 (by decide) ?_
          exact g_iret C dX8_call_55 (en_finI hf)
        · rw [if_neg c7] at hf
          refine g_bipush (v := (-10 : Int32)) C dX8_call_44 (by decide) ?_
          refine g_aload_n_0 C dX8_call_46 ?_
          refine gf_X8_224 C dX8_call_47 ?_
          refine g_isub C dX8_call_50 ?_
          refine g_goto (tgt := 55) C dX8_call_51 (by decide) ?_
          exact g_iret C dX8_call_55 (en_finI hf)
      · rw [if_neg c5] at hf
        refine g_iconst (v := (-1 : Int32)) C dX8_call_21 (by decide) ?_
        exact g_iret C dX8_call_22 (en_finI hf)
set_option maxHeartbeats 4000000 in
set_option maxRecDepth 100000 in
theorem ctM_told {l : Launch} {D : va_G} {K : en_K} {ad : Nat → Nat} (x1 : Int32) (u : Ug) (r0 : Int32) (u0 : Ug) (hf : fM_told x1 u = some (r0, u0)) : CT l D (en_ty K) ad (1) yX8_told cX8_told 2 (some .int) [.ref 0, .int x1] (wdM K u) (en_RI (wdM K) r0 u0) := by
  refine CT.of (by decide) [some (.ref 0), some (.int x1)] rfl (Nat.le_of_ble_eq_true rfl) ?_
  intro p e R s m args below meth c sz C
  unfold fM_told at hf
  refine g_iload_n_1 C dX8_told_0 ?_
  refine g_if_ne (tgt := 11) C dX8_told_1 (by decide) (fun c1 => ?_) (fun c1 => ?_)
  · rw [if_neg c1] at hf
    refine g_iload_n_1 C dX8_told_11 ?_
    refine g_iconst (v := (1 : Int32)) C dX8_told_12 (by decide) ?_
    refine g_if_icmp_ne (tgt := 23) C dX8_told_13 (by decide) (fun c2 => ?_) (fun c2 => ?_)
    · rw [if_neg c2] at hf
      refine g_iload_n_1 C dX8_told_23 ?_
      refine g_iconst (v := (2 : Int32)) C dX8_told_24 (by decide) ?_
      refine g_if_icmp_ne (tgt := 35) C dX8_told_25 (by decide) (fun c3 => ?_) (fun c3 => ?_)
      · rw [if_neg c3] at hf
        refine g_iload_n_1 C dX8_told_35 ?_
        refine g_iconst (v := (3 : Int32)) C dX8_told_36 (by decide) ?_
        refine g_if_icmp_ne (tgt := 47) C dX8_told_37 (by decide) (fun c4 => ?_) (fun c4 => ?_)
        · rw [if_neg c4] at hf
          refine g_iconst (v := (0 : Int32)) C dX8_told_47 (by decide) ?_
          exact g_iret C dX8_told_48 (en_finI hf)
        · rw [if_pos c4] at hf
          refine g_aload_n_0 C dX8_told_40 ?_
          refine gf_X8_230 C dX8_told_41 ?_
          refine g_goto (tgt := 48) C dX8_told_44 (by decide) ?_
          exact g_iret C dX8_told_48 (en_finI hf)
      · rw [if_pos c3] at hf
        refine g_aload_n_0 C dX8_told_28 ?_
        refine gf_X8_227 C dX8_told_29 ?_
        refine g_goto (tgt := 48) C dX8_told_32 (by decide) ?_
        exact g_iret C dX8_told_48 (en_finI hf)
    · rw [if_pos c2] at hf
      refine g_aload_n_0 C dX8_told_16 ?_
      refine gf_X8_224 C dX8_told_17 ?_
      refine g_goto (tgt := 48) C dX8_told_20 (by decide) ?_
      exact g_iret C dX8_told_48 (en_finI hf)
  · rw [if_pos c1] at hf
    refine g_aload_n_0 C dX8_told_4 ?_
    refine gf_X8_221 C dX8_told_5 ?_
    refine g_goto (tgt := 48) C dX8_told_8 (by decide) ?_
    exact g_iret C dX8_told_48 (en_finI hf)
set_option maxHeartbeats 4000000 in
set_option maxRecDepth 100000 in
theorem ctM_line {l : Launch} {D : va_G} {K : en_K} {ad : Nat → Nat} (x1 : Int32) (x2 : Int64) (x3 : Int32) (x4 : Int32) (x5 : Int32) (u : Ug) (r0 : Int32) (u0 : Ug) (hf : fM_line x1 x2 x3 x4 x5 u = some (r0, u0)) : CT l D (en_ty K) ad (2) yX8_line cX8_line 9 (some .int) [.ref 0, .int x1, .long x2, .int x3, .int x4, .int x5] (wdM K u) (en_RI (wdM K) r0 u0) := by
  refine CT.of (by decide) [some (.ref 0), some (.int x1), some (.long x2), none, some (.int x3), some (.int x4), some (.int x5), none, none] rfl (Nat.le_of_ble_eq_true rfl) ?_
  intro p e R s m args below meth c sz C
  have L : ∀ n : Nat, (∀ (v1 : Int32) (v2 : Int64) (v4 : Int32) (v5 : Int32) (v6 : Int32) (v7 : Int32) (v8 : Int32) (w : Ug), (kM_line n) v1 v2 v4 v5 v6 v7 v8 w = some (r0, u0) → G p l e R s m args below meth c D (va_A (en_ws ad (wdM K u)) sz) 9 ad 0 0 (en_Q below D (en_ty K) ad (wdM K u) sz (en_RI (wdM K) r0 u0) args s) 6 [some (.ref 0), some (.int v1), some (.long v2), none, some (.int v4), some (.int v5), some (.int v6), some (.int v7), some (.int v8)] [] (wdM K w)) := by
    intro n
    induction n with
    | zero => exact fun _ _ _ _ _ _ _ _ hf => absurd hf (by intro q; cases q)
    | succ n ih =>
      intro v1 v2 v4 v5 v6 v7 v8 u hf
      have hf : sM_line_6 (kM_line n) v1 v2 v4 v5 v6 v7 v8 u = some (r0, u0) := hf
      unfold sM_line_6 at hf
      refine g_iload_8 C dX8_line_6 ?_
      refine g_bipush (v := (14 : Int32)) C dX8_line_8 (by decide) ?_
      refine g_if_icmp_ge (tgt := 40) C dX8_line_10 (by decide) (fun c1 => ?_) (fun c1 => ?_)
      · rw [if_pos c1] at hf
        refine g_iload_n_1 C dX8_line_40 ?_
        refine g_i2l C dX8_line_41 ?_
        refine g_lconst (v := (0 : Int64)) C dX8_line_42 (by decide) ?_
        refine gl_X8_237 C dX8_line_43 ?_
        obtain ⟨q2, hq2, hf⟩ := en_bnd hf
        refine gc_X8_123_M_in C (ctM_in _ _ _ _ q2.1 q2.2 hq2) (by decide) (Nat.le_of_ble_eq_true rfl) dX8_line_46 ?_
        refine g_if_eq (tgt := 57) C dX8_line_49 (by decide) (fun c3 => ?_) (fun c3 => ?_)
        · rw [if_pos c3] at hf
          refine g_iconst (v := (-1 : Int32)) C dX8_line_57 (by decide) ?_
          exact g_iret C dX8_line_58 (en_finI hf)
        · rw [if_neg c3] at hf
          refine g_iload_7 C dX8_line_52 ?_
          refine g_if_ge (tgt := 59) C dX8_line_54 (by decide) (fun c4 => ?_) (fun c4 => ?_)
          · rw [if_pos c4] at hf
            refine g_aload_n_0 C dX8_line_59 ?_
            refine gf_X8_35 C dX8_line_60 ?_
            refine g_iload_n_1 C dX8_line_63 ?_
            obtain ⟨y5, hy5, hf⟩ := en_bnd hf
            refine gaM_ld_9 C hy5 dX8_line_64 ?_
            refine g_bipush (v := (16 : Int32)) C dX8_line_65 (by decide) ?_
            refine g_if_icmp_ne (tgt := 73) C dX8_line_67 (by decide) (fun c6 => ?_) (fun c6 => ?_)
            · rw [if_neg c6] at hf
              refine g_bipush (v := (16 : Int32)) C dX8_line_73 (by decide) ?_
              refine g_iload_n_1 C dX8_line_75 ?_
              refine g_imul C dX8_line_76 ?_
              refine g_aload_n_0 C dX8_line_77 ?_
              refine gf_X8_35 C dX8_line_78 ?_
              refine g_iload_n_1 C dX8_line_81 ?_
              obtain ⟨y7, hy7, hf⟩ := en_bnd hf
              refine gaM_ld_9 C hy7 dX8_line_82 ?_
              refine g_iadd C dX8_line_83 ?_
              refine g_istore_8 C dX8_line_84 (by decide) rfl ?_
              refine g_aload_n_0 C dX8_line_86 ?_
              refine gf_X8_38 C dX8_line_87 ?_
              refine g_iload_8 C dX8_line_90 ?_
              refine g_iload_7 C dX8_line_92 ?_
              obtain ⟨u8, hu8, hf⟩ := en_bnd hf
              refine gaM_st_10 C hu8 dX8_line_94 ?_
              refine g_aload_n_0 C dX8_line_95 ?_
              refine gf_X8_41 C dX8_line_96 ?_
              refine g_iload_8 C dX8_line_99 ?_
              refine g_iload_4 C dX8_line_101 ?_
              obtain ⟨u9, hu9, hf⟩ := en_bnd hf
              refine gaM_st_11 C hu9 dX8_line_103 ?_
              refine g_aload_n_0 C dX8_line_104 ?_
              refine gf_X8_44 C dX8_line_105 ?_
              refine g_iload_8 C dX8_line_108 ?_
              refine g_iload_5 C dX8_line_110 ?_
              obtain ⟨u10, hu10, hf⟩ := en_bnd hf
              refine gaM_st_12 C hu10 dX8_line_112 ?_
              refine g_aload_n_0 C dX8_line_113 ?_
              refine gf_X8_47 C dX8_line_114 ?_
              refine g_iload_8 C dX8_line_117 ?_
              refine g_iload_6 C dX8_line_119 ?_
              obtain ⟨u11, hu11, hf⟩ := en_bnd hf
              refine gaM_st_13 C hu11 dX8_line_121 ?_
              refine g_aload_n_0 C dX8_line_122 ?_
              refine gf_X8_35 C dX8_line_123 ?_
              refine g_iload_n_1 C dX8_line_126 ?_
              refine g_dup2 C dX8_line_127 rfl rfl ?_
              obtain ⟨y12, hy12, hf⟩ := en_bnd hf
              refine gaM_ld_9 C hy12 dX8_line_128 ?_
              refine g_iconst (v := (1 : Int32)) C dX8_line_129 (by decide) ?_
              refine g_iadd C dX8_line_130 ?_
              obtain ⟨u13, hu13, hf⟩ := en_bnd hf
              refine gaM_st_9 C hu13 dX8_line_131 ?_
              refine g_aload_n_0 C dX8_line_132 ?_
              refine gf_X8_35 C dX8_line_133 ?_
              refine g_iload_n_1 C dX8_line_136 ?_
              obtain ⟨y14, hy14, hf⟩ := en_bnd hf
              refine gaM_ld_9 C hy14 dX8_line_137 ?_
              exact g_iret C dX8_line_138 (en_finI hf)
            · rw [if_pos c6] at hf
              refine g_bipush (v := (-2 : Int32)) C dX8_line_70 (by decide) ?_
              exact g_iret C dX8_line_72 (en_finI hf)
          · rw [if_neg c4] at hf
            refine g_iconst (v := (-1 : Int32)) C dX8_line_57 (by decide) ?_
            exact g_iret C dX8_line_58 (en_finI hf)
      · rw [if_neg c1] at hf
        refine g_aload_n_0 C dX8_line_13 ?_
        refine gf_X8_31 C dX8_line_14 ?_
        refine g_iload_8 C dX8_line_17 ?_
        obtain ⟨y15, hy15, hf⟩ := en_bnd hf
        refine gaM_ld_8 C hy15 dX8_line_19 ?_
        refine g_lload_n_2 C dX8_line_20 ?_
        refine g_lcmp C dX8_line_21 ?_
        refine g_if_ne (tgt := 30) C dX8_line_22 (by decide) (fun c16 => ?_) (fun c16 => ?_)
        · rw [if_neg c16] at hf
          refine g_iload_7 C dX8_line_30 ?_
          refine g_istore_7 C dX8_line_32 (by decide) rfl ?_
          refine g_iinc_8 (z := (1 : Int32)) C dX8_line_34 (by decide) (by decide) rfl ?_
          refine g_goto (tgt := 6) C dX8_line_37 (by decide) ?_
          exact g_weak (ih _ _ _ _ _ _ _ _ hf) (And.intro rfl (And.intro rfl (And.intro rfl (And.intro rfl (And.intro rfl (And.intro rfl (And.intro rfl (And.intro rfl trivial))))))))
        · rw [if_pos c16] at hf
          refine g_iload_8 C dX8_line_25 ?_
          refine g_goto (tgt := 32) C dX8_line_27 (by decide) ?_
          refine g_istore_7 C dX8_line_32 (by decide) rfl ?_
          refine g_iinc_8 (z := (1 : Int32)) C dX8_line_34 (by decide) (by decide) rfl ?_
          refine g_goto (tgt := 6) C dX8_line_37 (by decide) ?_
          exact g_weak (ih _ _ _ _ _ _ _ _ hf) (And.intro rfl (And.intro rfl (And.intro rfl (And.intro rfl (And.intro rfl (And.intro rfl (And.intro rfl (And.intro rfl trivial))))))))
  unfold fM_line at hf
  refine g_iconst (v := (-1 : Int32)) C dX8_line_0 (by decide) ?_
  refine g_istore_7 C dX8_line_1 (by decide) rfl ?_
  refine g_iconst (v := (0 : Int32)) C dX8_line_3 (by decide) ?_
  refine g_istore_8 C dX8_line_4 (by decide) rfl ?_
  exact g_weak ((L _) _ _ _ _ _ _ _ _ hf) (And.intro rfl (And.intro rfl (And.intro rfl (And.intro rfl (And.intro rfl (And.intro rfl (And.intro rfl (And.intro rfl trivial))))))))
