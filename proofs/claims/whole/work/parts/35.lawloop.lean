/-! THE LAW's loop. -/
set_option maxHeartbeats 8000000 in
set_option maxRecDepth 100000 in
theorem law_loop {p : Program} {l : Launch} {e : Env} {s : State} {m : MethodId} {below : List Frame} {meth : Method} {c : Code} {D : va_G} {K : en_K} {ad : Nat → Nat} {b L cells slots : Nat} {xs : Nat → Int32} (hx : p.tables.exec = Jvm.exec) (hb : c.code = code) (hr : meth.sig.returnType = ret) (hlocks : meth.locks = false) (hcl : cells ≤ 600000) (hsl : slots ≤ 7302250) (hX : va_X (ad 2000) L xs s s.heap) (hbl : ad 2000 < s.heap.size) (hbA : ¬ (fun q : Nat => s.heap.size ≤ q) (ad 2000))
    (C : Cx p room_1 s m #[Value.ref b] meth c cL_law 4 RL ret D (en_ty K) (fun q : Nat => s.heap.size ≤ q) ad 120) : ∀ (n : Nat) (v3 : Int32) (u w : Ug), kL L xs n v3 u w = some 1 → G p l e room_1 s m #[Value.ref b] below meth c D (fun q : Nat => s.heap.size ≤ q) 4 ad cells slots (lw_Z below #[Value.ref b] s) 18 [some (.ref 2000), some (.ref 0), some (.ref 26), some (.int v3)] [] (hL K u w) := by
  intro n
  induction n with
  | zero => intro v3 u w hf; cases hf
  | succ n ih =>
    intro v3 u w hf
    have tail : ∀ (v3 : Int32) (u w : Ug), kL L xs n (v3 + (7 : Int32)) u w = some 1 → G p l e room_1 s m #[Value.ref b] below meth c D (fun q : Nat => s.heap.size ≤ q) 4 ad cells slots (lw_Z below #[Value.ref b] s) 857 [some (.ref 2000), some (.ref 0), some (.ref 26), some (.int v3)] [] (hL K u w) := by
      intro v3 u w hf
      refine g_iinc_3 (z := (7 : Int32)) C dL_law_857 (by decide) (by decide) rfl ?_
      refine g_goto (tgt := 18) C dL_law_860 (by decide) ?_
      exact ih _ _ _ hf
    have hf : sL L xs (kL L xs n) v3 u w = some 1 := hf
    unfold sL at hf
    refine g_iload_n_3 C dL_law_18 ?_
    refine g_aload_n_0 C dL_law_19 ?_
    refine g_slen C hX hbl hbA dL_law_20 ?_
    refine g_bipush (v := (7 : Int32)) C dL_law_21 (by decide) ?_
    refine g_isub C dL_law_23 ?_
    refine g_if_icmp_gt (tgt := 863) C dL_law_24 (by decide) (fun c1 => ?_) (fun c1 => ?_)
    · refine g_iconst (v := (1 : Int32)) C dL_law_863 (by decide) ?_
      intro H locs ls hP hD hS hl
      refine va_forget (fun q hq => hS.2.2 q hq) ?_
      refine W.widen (k := 600000) (n := 7302250) hcl hsl ?_
      exact lw_ret hx hb hr hlocks dL_law_864
    · rw [if_neg c1] at hf
      refine g_aload_n_0 C dL_law_27 ?_
      refine g_iload_n_3 C dL_law_28 ?_
      obtain ⟨y0, hy0, hf⟩ := en_bnd hf
      refine g_sld C hX hbl hbA hy0 dL_law_29 ?_
      refine g_bipush (v := (31 : Int32)) C dL_law_30 (by decide) ?_
      refine g_iand C dL_law_32 ?_
      rcases Decidable.em ((y0 &&& (31 : Int32)) = (0 : Int32)) with s0 | s0
      · rw [if_pos s0] at hf
        refine g_tsw (z := (0 : Int32)) (tgt := 132) C dL_law_33 s0 (by decide) (by decide) rfl (by decide) ?_
        refine g_aload_n_1 C dL_law_132 ?_
        refine g_aload_n_0 C dL_law_133 ?_
        refine g_iload_n_3 C dL_law_134 ?_
        refine g_iconst (v := (1 : Int32)) C dL_law_135 (by decide) ?_
        refine g_iadd C dL_law_136 ?_
        obtain ⟨y1, hy1, hf⟩ := en_bnd hf
        refine g_sld C hX hbl hbA hy1 dL_law_137 ?_
        refine g_aload_n_0 C dL_law_138 ?_
        refine g_iload_n_3 C dL_law_139 ?_
        refine g_iconst (v := (2 : Int32)) C dL_law_140 (by decide) ?_
        refine g_iadd C dL_law_141 ?_
        obtain ⟨y2, hy2, hf⟩ := en_bnd hf
        refine g_sld C hX hbl hbA hy2 dL_law_142 ?_
        obtain ⟨q3, hq3, hf⟩ := en_bnd hf
        refine gl_C_account C (ctC_account _ _ _ q3.1 q3.2 hq3) (by decide) (Nat.le_of_ble_eq_true rfl) hcl hsl dL_law_143 ?_
        refine g_aload_n_2 C dL_law_146 ?_
        refine g_aload_n_0 C dL_law_147 ?_
        refine g_iload_n_3 C dL_law_148 ?_
        refine g_iconst (v := (1 : Int32)) C dL_law_149 (by decide) ?_
        refine g_iadd C dL_law_150 ?_
        obtain ⟨y4, hy4, hf⟩ := en_bnd hf
        refine g_sld C hX hbl hbA hy4 dL_law_151 ?_
        refine g_aload_n_0 C dL_law_152 ?_
        refine g_iload_n_3 C dL_law_153 ?_
        refine g_iconst (v := (2 : Int32)) C dL_law_154 (by decide) ?_
        refine g_iadd C dL_law_155 ?_
        obtain ⟨y5, hy5, hf⟩ := en_bnd hf
        refine g_sld C hX hbl hbA hy5 dL_law_156 ?_
        obtain ⟨q6, hq6, hf⟩ := en_bnd hf
        refine gl_M_account C (ctM_account _ _ _ q6.1 q6.2 hq6) (by decide) (Nat.le_of_ble_eq_true rfl) hcl hsl dL_law_157 ?_
        refine g_if_icmp_eq (tgt := 857) C dL_law_160 (by decide) (fun c7 => ?_) (fun c7 => ?_)
        · rw [if_pos c7] at hf
          exact tail _ _ _ hf
        · rw [if_neg c7] at hf
          cases hf
      rw [if_neg s0] at hf
      rcases Decidable.em ((y0 &&& (31 : Int32)) = (1 : Int32)) with s1 | s1
      · rw [if_pos s1] at hf
        refine g_tsw (z := (1 : Int32)) (tgt := 165) C dL_law_33 s1 (by decide) (by decide) rfl (by decide) ?_
        refine g_aload_n_1 C dL_law_165 ?_
        obtain ⟨q8, hq8, hf⟩ := en_bnd hf
        refine gl_C_contract C (ctC_contract _ q8.1 q8.2 hq8) (by decide) (Nat.le_of_ble_eq_true rfl) hcl hsl dL_law_166 ?_
        refine g_aload_n_2 C dL_law_169 ?_
        obtain ⟨q9, hq9, hf⟩ := en_bnd hf
        refine gl_M_contract C (ctM_contract _ q9.1 q9.2 hq9) (by decide) (Nat.le_of_ble_eq_true rfl) hcl hsl dL_law_170 ?_
        refine g_if_icmp_eq (tgt := 857) C dL_law_173 (by decide) (fun c10 => ?_) (fun c10 => ?_)
        · rw [if_pos c10] at hf
          exact tail _ _ _ hf
        · rw [if_neg c10] at hf
          cases hf
      rw [if_neg s1] at hf
      rcases Decidable.em ((y0 &&& (31 : Int32)) = (2 : Int32)) with s2 | s2
      · rw [if_pos s2] at hf
        refine g_tsw (z := (2 : Int32)) (tgt := 178) C dL_law_33 s2 (by decide) (by decide) rfl (by decide) ?_
        refine g_aload_n_1 C dL_law_178 ?_
        refine g_aload_n_0 C dL_law_179 ?_
        refine g_iload_n_3 C dL_law_180 ?_
        refine g_iconst (v := (1 : Int32)) C dL_law_181 (by decide) ?_
        refine g_iadd C dL_law_182 ?_
        obtain ⟨y11, hy11, hf⟩ := en_bnd hf
        refine g_sld C hX hbl hbA hy11 dL_law_183 ?_
        refine g_aload_n_0 C dL_law_184 ?_
        refine g_iload_n_3 C dL_law_185 ?_
        refine g_iconst (v := (2 : Int32)) C dL_law_186 (by decide) ?_
        refine g_iadd C dL_law_187 ?_
        obtain ⟨y12, hy12, hf⟩ := en_bnd hf
        refine g_sld C hX hbl hbA hy12 dL_law_188 ?_
        refine g_aload_n_0 C dL_law_189 ?_
        refine g_iload_n_3 C dL_law_190 ?_
        refine g_iconst (v := (3 : Int32)) C dL_law_191 (by decide) ?_
        refine g_iadd C dL_law_192 ?_
        obtain ⟨y13, hy13, hf⟩ := en_bnd hf
        refine g_sld C hX hbl hbA hy13 dL_law_193 ?_
        refine g_aload_n_0 C dL_law_194 ?_
        refine g_iload_n_3 C dL_law_195 ?_
        refine g_iconst (v := (4 : Int32)) C dL_law_196 (by decide) ?_
        refine g_iadd C dL_law_197 ?_
        obtain ⟨y14, hy14, hf⟩ := en_bnd hf
        refine g_sld C hX hbl hbA hy14 dL_law_198 ?_
        refine g_aload_n_0 C dL_law_199 ?_
        refine g_iload_n_3 C dL_law_200 ?_
        refine g_iconst (v := (5 : Int32)) C dL_law_201 (by decide) ?_
        refine g_iadd C dL_law_202 ?_
        obtain ⟨y15, hy15, hf⟩ := en_bnd hf
        refine g_sld C hX hbl hbA hy15 dL_law_203 ?_
        obtain ⟨q16, hq16, hf⟩ := en_bnd hf
        refine gl_C_step C (ctC_step _ _ _ _ _ _ q16.1 q16.2 hq16) (by decide) (Nat.le_of_ble_eq_true rfl) hcl hsl dL_law_204 ?_
        refine g_aload_n_2 C dL_law_207 ?_
        refine g_aload_n_0 C dL_law_208 ?_
        refine g_iload_n_3 C dL_law_209 ?_
        refine g_iconst (v := (1 : Int32)) C dL_law_210 (by decide) ?_
        refine g_iadd C dL_law_211 ?_
        obtain ⟨y17, hy17, hf⟩ := en_bnd hf
        refine g_sld C hX hbl hbA hy17 dL_law_212 ?_
        refine g_aload_n_0 C dL_law_213 ?_
        refine g_iload_n_3 C dL_law_214 ?_
        refine g_iconst (v := (2 : Int32)) C dL_law_215 (by decide) ?_
        refine g_iadd C dL_law_216 ?_
        obtain ⟨y18, hy18, hf⟩ := en_bnd hf
        refine g_sld C hX hbl hbA hy18 dL_law_217 ?_
        refine g_aload_n_0 C dL_law_218 ?_
        refine g_iload_n_3 C dL_law_219 ?_
        refine g_iconst (v := (3 : Int32)) C dL_law_220 (by decide) ?_
        refine g_iadd C dL_law_221 ?_
        obtain ⟨y19, hy19, hf⟩ := en_bnd hf
        refine g_sld C hX hbl hbA hy19 dL_law_222 ?_
        refine g_aload_n_0 C dL_law_223 ?_
        refine g_iload_n_3 C dL_law_224 ?_
        refine g_iconst (v := (4 : Int32)) C dL_law_225 (by decide) ?_
        refine g_iadd C dL_law_226 ?_
        obtain ⟨y20, hy20, hf⟩ := en_bnd hf
        refine g_sld C hX hbl hbA hy20 dL_law_227 ?_
        refine g_aload_n_0 C dL_law_228 ?_
        refine g_iload_n_3 C dL_law_229 ?_
        refine g_iconst (v := (5 : Int32)) C dL_law_230 (by decide) ?_
        refine g_iadd C dL_law_231 ?_
        obtain ⟨y21, hy21, hf⟩ := en_bnd hf
        refine g_sld C hX hbl hbA hy21 dL_law_232 ?_
        obtain ⟨q22, hq22, hf⟩ := en_bnd hf
        refine gl_M_step C (ctM_step _ _ _ _ _ _ q22.1 q22.2 hq22) (by decide) (Nat.le_of_ble_eq_true rfl) hcl hsl dL_law_233 ?_
        refine g_if_icmp_eq (tgt := 857) C dL_law_236 (by decide) (fun c23 => ?_) (fun c23 => ?_)
        · rw [if_pos c23] at hf
          exact tail _ _ _ hf
        · rw [if_neg c23] at hf
          cases hf
      rw [if_neg s2] at hf
      rcases Decidable.em ((y0 &&& (31 : Int32)) = (3 : Int32)) with s3 | s3
      · rw [if_pos s3] at hf
        refine g_tsw (z := (3 : Int32)) (tgt := 241) C dL_law_33 s3 (by decide) (by decide) rfl (by decide) ?_
        refine g_aload_n_1 C dL_law_241 ?_
        refine g_aload_n_0 C dL_law_242 ?_
        refine g_iload_n_3 C dL_law_243 ?_
        refine g_iconst (v := (1 : Int32)) C dL_law_244 (by decide) ?_
        refine g_iadd C dL_law_245 ?_
        obtain ⟨y24, hy24, hf⟩ := en_bnd hf
        refine g_sld C hX hbl hbA hy24 dL_law_246 ?_
        refine g_aload_n_0 C dL_law_247 ?_
        refine g_iload_n_3 C dL_law_248 ?_
        refine g_iconst (v := (2 : Int32)) C dL_law_249 (by decide) ?_
        refine g_iadd C dL_law_250 ?_
        obtain ⟨y25, hy25, hf⟩ := en_bnd hf
        refine g_sld C hX hbl hbA hy25 dL_law_251 ?_
        refine g_aload_n_0 C dL_law_252 ?_
        refine g_iload_n_3 C dL_law_253 ?_
        refine g_iconst (v := (3 : Int32)) C dL_law_254 (by decide) ?_
        refine g_iadd C dL_law_255 ?_
        obtain ⟨y26, hy26, hf⟩ := en_bnd hf
        refine g_sld C hX hbl hbA hy26 dL_law_256 ?_
        obtain ⟨q27, hq27, hf⟩ := en_bnd hf
        refine gl_C_bind C (ctC_bind _ _ _ _ q27.1 q27.2 hq27) (by decide) (Nat.le_of_ble_eq_true rfl) hcl hsl dL_law_257 ?_
        refine g_aload_n_2 C dL_law_260 ?_
        refine g_aload_n_0 C dL_law_261 ?_
        refine g_iload_n_3 C dL_law_262 ?_
        refine g_iconst (v := (1 : Int32)) C dL_law_263 (by decide) ?_
        refine g_iadd C dL_law_264 ?_
        obtain ⟨y28, hy28, hf⟩ := en_bnd hf
        refine g_sld C hX hbl hbA hy28 dL_law_265 ?_
        refine g_aload_n_0 C dL_law_266 ?_
        refine g_iload_n_3 C dL_law_267 ?_
        refine g_iconst (v := (2 : Int32)) C dL_law_268 (by decide) ?_
        refine g_iadd C dL_law_269 ?_
        obtain ⟨y29, hy29, hf⟩ := en_bnd hf
        refine g_sld C hX hbl hbA hy29 dL_law_270 ?_
        refine g_aload_n_0 C dL_law_271 ?_
        refine g_iload_n_3 C dL_law_272 ?_
        refine g_iconst (v := (3 : Int32)) C dL_law_273 (by decide) ?_
        refine g_iadd C dL_law_274 ?_
        obtain ⟨y30, hy30, hf⟩ := en_bnd hf
        refine g_sld C hX hbl hbA hy30 dL_law_275 ?_
        obtain ⟨q31, hq31, hf⟩ := en_bnd hf
        refine gl_M_bind C (ctM_bind _ _ _ _ q31.1 q31.2 hq31) (by decide) (Nat.le_of_ble_eq_true rfl) hcl hsl dL_law_276 ?_
        refine g_if_icmp_eq (tgt := 857) C dL_law_279 (by decide) (fun c32 => ?_) (fun c32 => ?_)
        · rw [if_pos c32] at hf
          exact tail _ _ _ hf
        · rw [if_neg c32] at hf
          cases hf
      rw [if_neg s3] at hf
      rcases Decidable.em ((y0 &&& (31 : Int32)) = (4 : Int32)) with s4 | s4
      · rw [if_pos s4] at hf
        refine g_tsw (z := (4 : Int32)) (tgt := 284) C dL_law_33 s4 (by decide) (by decide) rfl (by decide) ?_
        refine g_aload_n_1 C dL_law_284 ?_
        refine g_aload_n_0 C dL_law_285 ?_
        refine g_iload_n_3 C dL_law_286 ?_
        refine g_iconst (v := (1 : Int32)) C dL_law_287 (by decide) ?_
        refine g_iadd C dL_law_288 ?_
        obtain ⟨y33, hy33, hf⟩ := en_bnd hf
        refine g_sld C hX hbl hbA hy33 dL_law_289 ?_
        obtain ⟨q34, hq34, hf⟩ := en_bnd hf
        refine gl_C_time C (ctC_time _ _ q34.1 q34.2 hq34) (by decide) (Nat.le_of_ble_eq_true rfl) hcl hsl dL_law_290 ?_
        refine g_aload_n_2 C dL_law_293 ?_
        refine g_aload_n_0 C dL_law_294 ?_
        refine g_iload_n_3 C dL_law_295 ?_
        refine g_iconst (v := (1 : Int32)) C dL_law_296 (by decide) ?_
        refine g_iadd C dL_law_297 ?_
        obtain ⟨y35, hy35, hf⟩ := en_bnd hf
        refine g_sld C hX hbl hbA hy35 dL_law_298 ?_
        obtain ⟨q36, hq36, hf⟩ := en_bnd hf
        refine gl_M_time C (ctM_time _ _ q36.1 q36.2 hq36) (by decide) (Nat.le_of_ble_eq_true rfl) hcl hsl dL_law_299 ?_
        refine g_if_icmp_eq (tgt := 857) C dL_law_302 (by decide) (fun c37 => ?_) (fun c37 => ?_)
        · rw [if_pos c37] at hf
          exact tail _ _ _ hf
        · rw [if_neg c37] at hf
          cases hf
      rw [if_neg s4] at hf
      rcases Decidable.em ((y0 &&& (31 : Int32)) = (5 : Int32)) with s5 | s5
      · rw [if_pos s5] at hf
        refine g_tsw (z := (5 : Int32)) (tgt := 307) C dL_law_33 s5 (by decide) (by decide) rfl (by decide) ?_
        refine g_aload_n_1 C dL_law_307 ?_
        refine g_aload_n_0 C dL_law_308 ?_
        refine g_iload_n_3 C dL_law_309 ?_
        refine g_iconst (v := (1 : Int32)) C dL_law_310 (by decide) ?_
        refine g_iadd C dL_law_311 ?_
        obtain ⟨y38, hy38, hf⟩ := en_bnd hf
        refine g_sld C hX hbl hbA hy38 dL_law_312 ?_
        refine g_aload_n_0 C dL_law_313 ?_
        refine g_iload_n_3 C dL_law_314 ?_
        refine g_iconst (v := (2 : Int32)) C dL_law_315 (by decide) ?_
        refine g_iadd C dL_law_316 ?_
        obtain ⟨y39, hy39, hf⟩ := en_bnd hf
        refine g_sld C hX hbl hbA hy39 dL_law_317 ?_
        refine g_aload_n_0 C dL_law_318 ?_
        refine g_iload_n_3 C dL_law_319 ?_
        refine g_iconst (v := (3 : Int32)) C dL_law_320 (by decide) ?_
        refine g_iadd C dL_law_321 ?_
        obtain ⟨y40, hy40, hf⟩ := en_bnd hf
        refine g_sld C hX hbl hbA hy40 dL_law_322 ?_
        refine g_aload_n_0 C dL_law_323 ?_
        refine g_iload_n_3 C dL_law_324 ?_
        refine g_iconst (v := (4 : Int32)) C dL_law_325 (by decide) ?_
        refine g_iadd C dL_law_326 ?_
        obtain ⟨y41, hy41, hf⟩ := en_bnd hf
        refine g_sld C hX hbl hbA hy41 dL_law_327 ?_
        refine g_aload_n_0 C dL_law_328 ?_
        refine g_iload_n_3 C dL_law_329 ?_
        refine g_iconst (v := (5 : Int32)) C dL_law_330 (by decide) ?_
        refine g_iadd C dL_law_331 ?_
        obtain ⟨y42, hy42, hf⟩ := en_bnd hf
        refine g_sld C hX hbl hbA hy42 dL_law_332 ?_
        obtain ⟨q43, hq43, hf⟩ := en_bnd hf
        refine gl_C_call C (ctC_call _ _ _ _ _ _ q43.1 q43.2 hq43) (by decide) (Nat.le_of_ble_eq_true rfl) hcl hsl dL_law_333 ?_
        refine g_aload_n_2 C dL_law_336 ?_
        refine g_aload_n_0 C dL_law_337 ?_
        refine g_iload_n_3 C dL_law_338 ?_
        refine g_iconst (v := (1 : Int32)) C dL_law_339 (by decide) ?_
        refine g_iadd C dL_law_340 ?_
        obtain ⟨y44, hy44, hf⟩ := en_bnd hf
        refine g_sld C hX hbl hbA hy44 dL_law_341 ?_
        refine g_aload_n_0 C dL_law_342 ?_
        refine g_iload_n_3 C dL_law_343 ?_
        refine g_iconst (v := (2 : Int32)) C dL_law_344 (by decide) ?_
        refine g_iadd C dL_law_345 ?_
        obtain ⟨y45, hy45, hf⟩ := en_bnd hf
        refine g_sld C hX hbl hbA hy45 dL_law_346 ?_
        refine g_aload_n_0 C dL_law_347 ?_
        refine g_iload_n_3 C dL_law_348 ?_
        refine g_iconst (v := (3 : Int32)) C dL_law_349 (by decide) ?_
        refine g_iadd C dL_law_350 ?_
        obtain ⟨y46, hy46, hf⟩ := en_bnd hf
        refine g_sld C hX hbl hbA hy46 dL_law_351 ?_
        refine g_aload_n_0 C dL_law_352 ?_
        refine g_iload_n_3 C dL_law_353 ?_
        refine g_iconst (v := (4 : Int32)) C dL_law_354 (by decide) ?_
        refine g_iadd C dL_law_355 ?_
        obtain ⟨y47, hy47, hf⟩ := en_bnd hf
        refine g_sld C hX hbl hbA hy47 dL_law_356 ?_
        refine g_aload_n_0 C dL_law_357 ?_
        refine g_iload_n_3 C dL_law_358 ?_
        refine g_iconst (v := (5 : Int32)) C dL_law_359 (by decide) ?_
        refine g_iadd C dL_law_360 ?_
        obtain ⟨y48, hy48, hf⟩ := en_bnd hf
        refine g_sld C hX hbl hbA hy48 dL_law_361 ?_
        obtain ⟨q49, hq49, hf⟩ := en_bnd hf
        refine gl_M_call C (ctM_call _ _ _ _ _ _ q49.1 q49.2 hq49) (by decide) (Nat.le_of_ble_eq_true rfl) hcl hsl dL_law_362 ?_
        refine g_if_icmp_eq (tgt := 857) C dL_law_365 (by decide) (fun c50 => ?_) (fun c50 => ?_)
        · rw [if_pos c50] at hf
          exact tail _ _ _ hf
        · rw [if_neg c50] at hf
          cases hf
      rw [if_neg s5] at hf
      rcases Decidable.em ((y0 &&& (31 : Int32)) = (6 : Int32)) with s6 | s6
      · rw [if_pos s6] at hf
        refine g_tsw (z := (6 : Int32)) (tgt := 370) C dL_law_33 s6 (by decide) (by decide) rfl (by decide) ?_
        refine g_aload_n_1 C dL_law_370 ?_
        refine g_aload_n_0 C dL_law_371 ?_
        refine g_iload_n_3 C dL_law_372 ?_
        refine g_iconst (v := (1 : Int32)) C dL_law_373 (by decide) ?_
        refine g_iadd C dL_law_374 ?_
        obtain ⟨y51, hy51, hf⟩ := en_bnd hf
        refine g_sld C hX hbl hbA hy51 dL_law_375 ?_
        obtain ⟨q52, hq52, hf⟩ := en_bnd hf
        refine gl_C_told C (ctC_told _ _ q52.1 q52.2 hq52) (by decide) (Nat.le_of_ble_eq_true rfl) hcl hsl dL_law_376 ?_
        refine g_aload_n_2 C dL_law_379 ?_
        refine g_aload_n_0 C dL_law_380 ?_
        refine g_iload_n_3 C dL_law_381 ?_
        refine g_iconst (v := (1 : Int32)) C dL_law_382 (by decide) ?_
        refine g_iadd C dL_law_383 ?_
        obtain ⟨y53, hy53, hf⟩ := en_bnd hf
        refine g_sld C hX hbl hbA hy53 dL_law_384 ?_
        obtain ⟨q54, hq54, hf⟩ := en_bnd hf
        refine gl_M_told C (ctM_told _ _ q54.1 q54.2 hq54) (by decide) (Nat.le_of_ble_eq_true rfl) hcl hsl dL_law_385 ?_
        refine g_if_icmp_eq (tgt := 857) C dL_law_388 (by decide) (fun c55 => ?_) (fun c55 => ?_)
        · rw [if_pos c55] at hf
          exact tail _ _ _ hf
        · rw [if_neg c55] at hf
          cases hf
      rw [if_neg s6] at hf
      rcases Decidable.em ((y0 &&& (31 : Int32)) = (7 : Int32)) with s7 | s7
      · rw [if_pos s7] at hf
        refine g_tsw (z := (7 : Int32)) (tgt := 393) C dL_law_33 s7 (by decide) (by decide) rfl (by decide) ?_
        refine g_aload_n_1 C dL_law_393 ?_
        refine g_aload_n_0 C dL_law_394 ?_
        refine g_iload_n_3 C dL_law_395 ?_
        refine g_iconst (v := (1 : Int32)) C dL_law_396 (by decide) ?_
        refine g_iadd C dL_law_397 ?_
        obtain ⟨y56, hy56, hf⟩ := en_bnd hf
        refine g_sld C hX hbl hbA hy56 dL_law_398 ?_
        refine g_aload_n_0 C dL_law_399 ?_
        refine g_iload_n_3 C dL_law_400 ?_
        refine g_iconst (v := (2 : Int32)) C dL_law_401 (by decide) ?_
        refine g_iadd C dL_law_402 ?_
        obtain ⟨y57, hy57, hf⟩ := en_bnd hf
        refine g_sld C hX hbl hbA hy57 dL_law_403 ?_
        refine g_i2l C dL_law_404 ?_
        refine g_bipush (v := (32 : Int32)) C dL_law_405 (by decide) ?_
        refine g_lshl C dL_law_407 ?_
        refine g_aload_n_0 C dL_law_408 ?_
        refine g_iload_n_3 C dL_law_409 ?_
        refine g_iconst (v := (3 : Int32)) C dL_law_410 (by decide) ?_
        refine g_iadd C dL_law_411 ?_
        obtain ⟨y58, hy58, hf⟩ := en_bnd hf
        refine g_sld C hX hbl hbA hy58 dL_law_412 ?_
        refine g_i2l C dL_law_413 ?_
        refine g_ldc2 (v := (4294967295 : Int64)) C mw_1048 dL_law_414 ?_
        refine g_land C dL_law_417 ?_
        refine g_lor C dL_law_418 ?_
        refine g_aload_n_0 C dL_law_419 ?_
        refine g_iload_n_3 C dL_law_420 ?_
        refine g_iconst (v := (4 : Int32)) C dL_law_421 (by decide) ?_
        refine g_iadd C dL_law_422 ?_
        obtain ⟨y59, hy59, hf⟩ := en_bnd hf
        refine g_sld C hX hbl hbA hy59 dL_law_423 ?_
        refine g_aload_n_0 C dL_law_424 ?_
        refine g_iload_n_3 C dL_law_425 ?_
        refine g_iconst (v := (5 : Int32)) C dL_law_426 (by decide) ?_
        refine g_iadd C dL_law_427 ?_
        obtain ⟨y60, hy60, hf⟩ := en_bnd hf
        refine g_sld C hX hbl hbA hy60 dL_law_428 ?_
        refine g_aload_n_0 C dL_law_429 ?_
        refine g_iload_n_3 C dL_law_430 ?_
        refine g_bipush (v := (6 : Int32)) C dL_law_431 (by decide) ?_
        refine g_iadd C dL_law_433 ?_
        obtain ⟨y61, hy61, hf⟩ := en_bnd hf
        refine g_sld C hX hbl hbA hy61 dL_law_434 ?_
        obtain ⟨q62, hq62, hf⟩ := en_bnd hf
        refine gl_C_line C (ctC_line _ _ _ _ _ _ q62.1 q62.2 hq62) (by decide) (Nat.le_of_ble_eq_true rfl) hcl hsl dL_law_435 ?_
        refine g_aload_n_2 C dL_law_438 ?_
        refine g_aload_n_0 C dL_law_439 ?_
        refine g_iload_n_3 C dL_law_440 ?_
        refine g_iconst (v := (1 : Int32)) C dL_law_441 (by decide) ?_
        refine g_iadd C dL_law_442 ?_
        obtain ⟨y63, hy63, hf⟩ := en_bnd hf
        refine g_sld C hX hbl hbA hy63 dL_law_443 ?_
        refine g_aload_n_0 C dL_law_444 ?_
        refine g_iload_n_3 C dL_law_445 ?_
        refine g_iconst (v := (2 : Int32)) C dL_law_446 (by decide) ?_
        refine g_iadd C dL_law_447 ?_
        obtain ⟨y64, hy64, hf⟩ := en_bnd hf
        refine g_sld C hX hbl hbA hy64 dL_law_448 ?_
        refine g_i2l C dL_law_449 ?_
        refine g_bipush (v := (32 : Int32)) C dL_law_450 (by decide) ?_
        refine g_lshl C dL_law_452 ?_
        refine g_aload_n_0 C dL_law_453 ?_
        refine g_iload_n_3 C dL_law_454 ?_
        refine g_iconst (v := (3 : Int32)) C dL_law_455 (by decide) ?_
        refine g_iadd C dL_law_456 ?_
        obtain ⟨y65, hy65, hf⟩ := en_bnd hf
        refine g_sld C hX hbl hbA hy65 dL_law_457 ?_
        refine g_i2l C dL_law_458 ?_
        refine g_ldc2 (v := (4294967295 : Int64)) C mw_1048 dL_law_459 ?_
        refine g_land C dL_law_462 ?_
        refine g_lor C dL_law_463 ?_
        refine g_aload_n_0 C dL_law_464 ?_
        refine g_iload_n_3 C dL_law_465 ?_
        refine g_iconst (v := (4 : Int32)) C dL_law_466 (by decide) ?_
        refine g_iadd C dL_law_467 ?_
        obtain ⟨y66, hy66, hf⟩ := en_bnd hf
        refine g_sld C hX hbl hbA hy66 dL_law_468 ?_
        refine g_aload_n_0 C dL_law_469 ?_
        refine g_iload_n_3 C dL_law_470 ?_
        refine g_iconst (v := (5 : Int32)) C dL_law_471 (by decide) ?_
        refine g_iadd C dL_law_472 ?_
        obtain ⟨y67, hy67, hf⟩ := en_bnd hf
        refine g_sld C hX hbl hbA hy67 dL_law_473 ?_
        refine g_aload_n_0 C dL_law_474 ?_
        refine g_iload_n_3 C dL_law_475 ?_
        refine g_bipush (v := (6 : Int32)) C dL_law_476 (by decide) ?_
        refine g_iadd C dL_law_478 ?_
        obtain ⟨y68, hy68, hf⟩ := en_bnd hf
        refine g_sld C hX hbl hbA hy68 dL_law_479 ?_
        obtain ⟨q69, hq69, hf⟩ := en_bnd hf
        refine gl_M_line C (ctM_line _ _ _ _ _ _ q69.1 q69.2 hq69) (by decide) (Nat.le_of_ble_eq_true rfl) hcl hsl dL_law_480 ?_
        refine g_if_icmp_eq (tgt := 857) C dL_law_483 (by decide) (fun c70 => ?_) (fun c70 => ?_)
        · rw [if_pos c70] at hf
          exact tail _ _ _ hf
        · rw [if_neg c70] at hf
          cases hf
      rw [if_neg s7] at hf
      rcases Decidable.em ((y0 &&& (31 : Int32)) = (8 : Int32)) with s8 | s8
      · rw [if_pos s8] at hf
        refine g_tsw (z := (8 : Int32)) (tgt := 488) C dL_law_33 s8 (by decide) (by decide) rfl (by decide) ?_
        refine g_aload_n_1 C dL_law_488 ?_
        refine g_aload_n_0 C dL_law_489 ?_
        refine g_iload_n_3 C dL_law_490 ?_
        refine g_iconst (v := (1 : Int32)) C dL_law_491 (by decide) ?_
        refine g_iadd C dL_law_492 ?_
        obtain ⟨y71, hy71, hf⟩ := en_bnd hf
        refine g_sld C hX hbl hbA hy71 dL_law_493 ?_
        obtain ⟨q72, hq72, hf⟩ := en_bnd hf
        refine gl_C_clear C (ctC_clear _ _ q72.1 q72.2 hq72) (by decide) (Nat.le_of_ble_eq_true rfl) hcl hsl dL_law_494 ?_
        refine g_aload_n_2 C dL_law_497 ?_
        refine g_aload_n_0 C dL_law_498 ?_
        refine g_iload_n_3 C dL_law_499 ?_
        refine g_iconst (v := (1 : Int32)) C dL_law_500 (by decide) ?_
        refine g_iadd C dL_law_501 ?_
        obtain ⟨y73, hy73, hf⟩ := en_bnd hf
        refine g_sld C hX hbl hbA hy73 dL_law_502 ?_
        obtain ⟨q74, hq74, hf⟩ := en_bnd hf
        refine gl_M_clear C (ctM_clear _ _ q74.1 q74.2 hq74) (by decide) (Nat.le_of_ble_eq_true rfl) hcl hsl dL_law_503 ?_
        refine g_if_icmp_eq (tgt := 857) C dL_law_506 (by decide) (fun c75 => ?_) (fun c75 => ?_)
        · rw [if_pos c75] at hf
          exact tail _ _ _ hf
        · rw [if_neg c75] at hf
          cases hf
      rw [if_neg s8] at hf
      rcases Decidable.em ((y0 &&& (31 : Int32)) = (9 : Int32)) with s9 | s9
      · rw [if_pos s9] at hf
        refine g_tsw (z := (9 : Int32)) (tgt := 511) C dL_law_33 s9 (by decide) (by decide) rfl (by decide) ?_
        refine g_aload_n_1 C dL_law_511 ?_
        refine g_aload_n_0 C dL_law_512 ?_
        refine g_iload_n_3 C dL_law_513 ?_
        refine g_iconst (v := (1 : Int32)) C dL_law_514 (by decide) ?_
        refine g_iadd C dL_law_515 ?_
        obtain ⟨y76, hy76, hf⟩ := en_bnd hf
        refine g_sld C hX hbl hbA hy76 dL_law_516 ?_
        obtain ⟨q77, hq77, hf⟩ := en_bnd hf
        refine gl_C_run C (ctC_run _ _ q77.1 q77.2 hq77) (by decide) (Nat.le_of_ble_eq_true rfl) hcl hsl dL_law_517 ?_
        refine g_aload_n_2 C dL_law_520 ?_
        refine g_aload_n_0 C dL_law_521 ?_
        refine g_iload_n_3 C dL_law_522 ?_
        refine g_iconst (v := (1 : Int32)) C dL_law_523 (by decide) ?_
        refine g_iadd C dL_law_524 ?_
        obtain ⟨y78, hy78, hf⟩ := en_bnd hf
        refine g_sld C hX hbl hbA hy78 dL_law_525 ?_
        obtain ⟨q79, hq79, hf⟩ := en_bnd hf
        refine gl_M_run C (ctM_run _ _ q79.1 q79.2 hq79) (by decide) (Nat.le_of_ble_eq_true rfl) hcl hsl dL_law_526 ?_
        refine g_if_icmp_eq (tgt := 857) C dL_law_529 (by decide) (fun c80 => ?_) (fun c80 => ?_)
        · rw [if_pos c80] at hf
          exact tail _ _ _ hf
        · rw [if_neg c80] at hf
          cases hf
      rw [if_neg s9] at hf
      rcases Decidable.em ((y0 &&& (31 : Int32)) = (10 : Int32)) with s10 | s10
      · rw [if_pos s10] at hf
        refine g_tsw (z := (10 : Int32)) (tgt := 534) C dL_law_33 s10 (by decide) (by decide) rfl (by decide) ?_
        refine g_aload_n_1 C dL_law_534 ?_
        refine g_aload_n_0 C dL_law_535 ?_
        refine g_iload_n_3 C dL_law_536 ?_
        refine g_iconst (v := (1 : Int32)) C dL_law_537 (by decide) ?_
        refine g_iadd C dL_law_538 ?_
        obtain ⟨y81, hy81, hf⟩ := en_bnd hf
        refine g_sld C hX hbl hbA hy81 dL_law_539 ?_
        obtain ⟨q82, hq82, hf⟩ := en_bnd hf
        refine gl_C_mutants C (ctC_mutants _ _ q82.1 q82.2 hq82) (by decide) (Nat.le_of_ble_eq_true rfl) hcl hsl dL_law_540 ?_
        refine g_aload_n_2 C dL_law_543 ?_
        refine g_aload_n_0 C dL_law_544 ?_
        refine g_iload_n_3 C dL_law_545 ?_
        refine g_iconst (v := (1 : Int32)) C dL_law_546 (by decide) ?_
        refine g_iadd C dL_law_547 ?_
        obtain ⟨y83, hy83, hf⟩ := en_bnd hf
        refine g_sld C hX hbl hbA hy83 dL_law_548 ?_
        obtain ⟨q84, hq84, hf⟩ := en_bnd hf
        refine gl_M_mutants C (ctM_mutants _ _ q84.1 q84.2 hq84) (by decide) (Nat.le_of_ble_eq_true rfl) hcl hsl dL_law_549 ?_
        refine g_if_icmp_eq (tgt := 857) C dL_law_552 (by decide) (fun c85 => ?_) (fun c85 => ?_)
        · rw [if_pos c85] at hf
          exact tail _ _ _ hf
        · rw [if_neg c85] at hf
          cases hf
      rw [if_neg s10] at hf
      rcases Decidable.em ((y0 &&& (31 : Int32)) = (11 : Int32)) with s11 | s11
      · rw [if_pos s11] at hf
        refine g_tsw (z := (11 : Int32)) (tgt := 557) C dL_law_33 s11 (by decide) (by decide) rfl (by decide) ?_
        refine g_aload_n_1 C dL_law_557 ?_
        refine g_aload_n_0 C dL_law_558 ?_
        refine g_iload_n_3 C dL_law_559 ?_
        refine g_iconst (v := (1 : Int32)) C dL_law_560 (by decide) ?_
        refine g_iadd C dL_law_561 ?_
        obtain ⟨y86, hy86, hf⟩ := en_bnd hf
        refine g_sld C hX hbl hbA hy86 dL_law_562 ?_
        refine g_aload_n_0 C dL_law_563 ?_
        refine g_iload_n_3 C dL_law_564 ?_
        refine g_iconst (v := (2 : Int32)) C dL_law_565 (by decide) ?_
        refine g_iadd C dL_law_566 ?_
        obtain ⟨y87, hy87, hf⟩ := en_bnd hf
        refine g_sld C hX hbl hbA hy87 dL_law_567 ?_
        refine g_aload_n_0 C dL_law_568 ?_
        refine g_iload_n_3 C dL_law_569 ?_
        refine g_iconst (v := (3 : Int32)) C dL_law_570 (by decide) ?_
        refine g_iadd C dL_law_571 ?_
        obtain ⟨y88, hy88, hf⟩ := en_bnd hf
        refine g_sld C hX hbl hbA hy88 dL_law_572 ?_
        obtain ⟨q89, hq89, hf⟩ := en_bnd hf
        refine gl_C_mutant C (ctC_mutant _ _ _ _ q89.1 q89.2 hq89) (by decide) (Nat.le_of_ble_eq_true rfl) hcl hsl dL_law_573 ?_
        refine g_aload_n_2 C dL_law_576 ?_
        refine g_aload_n_0 C dL_law_577 ?_
        refine g_iload_n_3 C dL_law_578 ?_
        refine g_iconst (v := (1 : Int32)) C dL_law_579 (by decide) ?_
        refine g_iadd C dL_law_580 ?_
        obtain ⟨y90, hy90, hf⟩ := en_bnd hf
        refine g_sld C hX hbl hbA hy90 dL_law_581 ?_
        refine g_aload_n_0 C dL_law_582 ?_
        refine g_iload_n_3 C dL_law_583 ?_
        refine g_iconst (v := (2 : Int32)) C dL_law_584 (by decide) ?_
        refine g_iadd C dL_law_585 ?_
        obtain ⟨y91, hy91, hf⟩ := en_bnd hf
        refine g_sld C hX hbl hbA hy91 dL_law_586 ?_
        refine g_aload_n_0 C dL_law_587 ?_
        refine g_iload_n_3 C dL_law_588 ?_
        refine g_iconst (v := (3 : Int32)) C dL_law_589 (by decide) ?_
        refine g_iadd C dL_law_590 ?_
        obtain ⟨y92, hy92, hf⟩ := en_bnd hf
        refine g_sld C hX hbl hbA hy92 dL_law_591 ?_
        obtain ⟨q93, hq93, hf⟩ := en_bnd hf
        refine gl_M_mutant C (ctM_mutant _ _ _ _ q93.1 q93.2 hq93) (by decide) (Nat.le_of_ble_eq_true rfl) hcl hsl dL_law_592 ?_
        refine g_if_icmp_eq (tgt := 857) C dL_law_595 (by decide) (fun c94 => ?_) (fun c94 => ?_)
        · rw [if_pos c94] at hf
          exact tail _ _ _ hf
        · rw [if_neg c94] at hf
          cases hf
      rw [if_neg s11] at hf
      rcases Decidable.em ((y0 &&& (31 : Int32)) = (12 : Int32)) with s12 | s12
      · rw [if_pos s12] at hf
        refine g_tsw (z := (12 : Int32)) (tgt := 600) C dL_law_33 s12 (by decide) (by decide) rfl (by decide) ?_
        refine g_aload_n_1 C dL_law_600 ?_
        refine g_aload_n_0 C dL_law_601 ?_
        refine g_iload_n_3 C dL_law_602 ?_
        refine g_iconst (v := (1 : Int32)) C dL_law_603 (by decide) ?_
        refine g_iadd C dL_law_604 ?_
        obtain ⟨y95, hy95, hf⟩ := en_bnd hf
        refine g_sld C hX hbl hbA hy95 dL_law_605 ?_
        obtain ⟨q96, hq96, hf⟩ := en_bnd hf
        refine gl_C_judge C (ctC_judge _ _ q96.1 q96.2 hq96) (by decide) (Nat.le_of_ble_eq_true rfl) hcl hsl dL_law_606 ?_
        refine g_aload_n_2 C dL_law_609 ?_
        refine g_aload_n_0 C dL_law_610 ?_
        refine g_iload_n_3 C dL_law_611 ?_
        refine g_iconst (v := (1 : Int32)) C dL_law_612 (by decide) ?_
        refine g_iadd C dL_law_613 ?_
        obtain ⟨y97, hy97, hf⟩ := en_bnd hf
        refine g_sld C hX hbl hbA hy97 dL_law_614 ?_
        obtain ⟨q98, hq98, hf⟩ := en_bnd hf
        refine gl_M_judge C (ctM_judge _ _ q98.1 q98.2 hq98) (by decide) (Nat.le_of_ble_eq_true rfl) hcl hsl dL_law_615 ?_
        refine g_if_icmp_eq (tgt := 857) C dL_law_618 (by decide) (fun c99 => ?_) (fun c99 => ?_)
        · rw [if_pos c99] at hf
          exact tail _ _ _ hf
        · rw [if_neg c99] at hf
          cases hf
      rw [if_neg s12] at hf
      rcases Decidable.em ((y0 &&& (31 : Int32)) = (13 : Int32)) with s13 | s13
      · rw [if_pos s13] at hf
        refine g_tsw (z := (13 : Int32)) (tgt := 623) C dL_law_33 s13 (by decide) (by decide) rfl (by decide) ?_
        refine g_aload_n_1 C dL_law_623 ?_
        refine g_aload_n_0 C dL_law_624 ?_
        refine g_iload_n_3 C dL_law_625 ?_
        refine g_iconst (v := (1 : Int32)) C dL_law_626 (by decide) ?_
        refine g_iadd C dL_law_627 ?_
        obtain ⟨y100, hy100, hf⟩ := en_bnd hf
        refine g_sld C hX hbl hbA hy100 dL_law_628 ?_
        refine g_aload_n_0 C dL_law_629 ?_
        refine g_iload_n_3 C dL_law_630 ?_
        refine g_iconst (v := (2 : Int32)) C dL_law_631 (by decide) ?_
        refine g_iadd C dL_law_632 ?_
        obtain ⟨y101, hy101, hf⟩ := en_bnd hf
        refine g_sld C hX hbl hbA hy101 dL_law_633 ?_
        obtain ⟨q102, hq102, hf⟩ := en_bnd hf
        refine gl_C_killer C (ctC_killer _ _ _ q102.1 q102.2 hq102) (by decide) (Nat.le_of_ble_eq_true rfl) hcl hsl dL_law_634 ?_
        refine g_aload_n_2 C dL_law_637 ?_
        refine g_aload_n_0 C dL_law_638 ?_
        refine g_iload_n_3 C dL_law_639 ?_
        refine g_iconst (v := (1 : Int32)) C dL_law_640 (by decide) ?_
        refine g_iadd C dL_law_641 ?_
        obtain ⟨y103, hy103, hf⟩ := en_bnd hf
        refine g_sld C hX hbl hbA hy103 dL_law_642 ?_
        refine g_aload_n_0 C dL_law_643 ?_
        refine g_iload_n_3 C dL_law_644 ?_
        refine g_iconst (v := (2 : Int32)) C dL_law_645 (by decide) ?_
        refine g_iadd C dL_law_646 ?_
        obtain ⟨y104, hy104, hf⟩ := en_bnd hf
        refine g_sld C hX hbl hbA hy104 dL_law_647 ?_
        obtain ⟨q105, hq105, hf⟩ := en_bnd hf
        refine gl_M_killer C (ctM_killer _ _ _ q105.1 q105.2 hq105) (by decide) (Nat.le_of_ble_eq_true rfl) hcl hsl dL_law_648 ?_
        refine g_if_icmp_eq (tgt := 857) C dL_law_651 (by decide) (fun c106 => ?_) (fun c106 => ?_)
        · rw [if_pos c106] at hf
          exact tail _ _ _ hf
        · rw [if_neg c106] at hf
          cases hf
      rw [if_neg s13] at hf
      rcases Decidable.em ((y0 &&& (31 : Int32)) = (14 : Int32)) with s14 | s14
      · rw [if_pos s14] at hf
        refine g_tsw (z := (14 : Int32)) (tgt := 656) C dL_law_33 s14 (by decide) (by decide) rfl (by decide) ?_
        refine g_aload_n_1 C dL_law_656 ?_
        refine g_aload_n_0 C dL_law_657 ?_
        refine g_iload_n_3 C dL_law_658 ?_
        refine g_iconst (v := (1 : Int32)) C dL_law_659 (by decide) ?_
        refine g_iadd C dL_law_660 ?_
        obtain ⟨y107, hy107, hf⟩ := en_bnd hf
        refine g_sld C hX hbl hbA hy107 dL_law_661 ?_
        obtain ⟨q108, hq108, hf⟩ := en_bnd hf
        refine gl_C_shrink C (ctC_shrink _ _ q108.1 q108.2 hq108) (by decide) (Nat.le_of_ble_eq_true rfl) hcl hsl dL_law_662 ?_
        refine g_aload_n_2 C dL_law_665 ?_
        refine g_aload_n_0 C dL_law_666 ?_
        refine g_iload_n_3 C dL_law_667 ?_
        refine g_iconst (v := (1 : Int32)) C dL_law_668 (by decide) ?_
        refine g_iadd C dL_law_669 ?_
        obtain ⟨y109, hy109, hf⟩ := en_bnd hf
        refine g_sld C hX hbl hbA hy109 dL_law_670 ?_
        obtain ⟨q110, hq110, hf⟩ := en_bnd hf
        refine gl_M_shrink C (ctM_shrink _ _ q110.1 q110.2 hq110) (by decide) (Nat.le_of_ble_eq_true rfl) hcl hsl dL_law_671 ?_
        refine g_if_icmp_eq (tgt := 857) C dL_law_674 (by decide) (fun c111 => ?_) (fun c111 => ?_)
        · rw [if_pos c111] at hf
          exact tail _ _ _ hf
        · rw [if_neg c111] at hf
          cases hf
      rw [if_neg s14] at hf
      rcases Decidable.em ((y0 &&& (31 : Int32)) = (15 : Int32)) with s15 | s15
      · rw [if_pos s15] at hf
        refine g_tsw (z := (15 : Int32)) (tgt := 679) C dL_law_33 s15 (by decide) (by decide) rfl (by decide) ?_
        refine g_aload_n_1 C dL_law_679 ?_
        refine g_aload_n_0 C dL_law_680 ?_
        refine g_iload_n_3 C dL_law_681 ?_
        refine g_iconst (v := (1 : Int32)) C dL_law_682 (by decide) ?_
        refine g_iadd C dL_law_683 ?_
        obtain ⟨y112, hy112, hf⟩ := en_bnd hf
        refine g_sld C hX hbl hbA hy112 dL_law_684 ?_
        refine g_aload_n_0 C dL_law_685 ?_
        refine g_iload_n_3 C dL_law_686 ?_
        refine g_iconst (v := (2 : Int32)) C dL_law_687 (by decide) ?_
        refine g_iadd C dL_law_688 ?_
        obtain ⟨y113, hy113, hf⟩ := en_bnd hf
        refine g_sld C hX hbl hbA hy113 dL_law_689 ?_
        refine g_aload_n_0 C dL_law_690 ?_
        refine g_iload_n_3 C dL_law_691 ?_
        refine g_iconst (v := (3 : Int32)) C dL_law_692 (by decide) ?_
        refine g_iadd C dL_law_693 ?_
        obtain ⟨y114, hy114, hf⟩ := en_bnd hf
        refine g_sld C hX hbl hbA hy114 dL_law_694 ?_
        obtain ⟨q115, hq115, hf⟩ := en_bnd hf
        refine gl_C_lineOf C (ctC_lineOf _ _ _ _ q115.1 q115.2 hq115) (by decide) (Nat.le_of_ble_eq_true rfl) hcl hsl dL_law_695 ?_
        refine g_aload_n_2 C dL_law_698 ?_
        refine g_aload_n_0 C dL_law_699 ?_
        refine g_iload_n_3 C dL_law_700 ?_
        refine g_iconst (v := (1 : Int32)) C dL_law_701 (by decide) ?_
        refine g_iadd C dL_law_702 ?_
        obtain ⟨y116, hy116, hf⟩ := en_bnd hf
        refine g_sld C hX hbl hbA hy116 dL_law_703 ?_
        refine g_aload_n_0 C dL_law_704 ?_
        refine g_iload_n_3 C dL_law_705 ?_
        refine g_iconst (v := (2 : Int32)) C dL_law_706 (by decide) ?_
        refine g_iadd C dL_law_707 ?_
        obtain ⟨y117, hy117, hf⟩ := en_bnd hf
        refine g_sld C hX hbl hbA hy117 dL_law_708 ?_
        refine g_aload_n_0 C dL_law_709 ?_
        refine g_iload_n_3 C dL_law_710 ?_
        refine g_iconst (v := (3 : Int32)) C dL_law_711 (by decide) ?_
        refine g_iadd C dL_law_712 ?_
        obtain ⟨y118, hy118, hf⟩ := en_bnd hf
        refine g_sld C hX hbl hbA hy118 dL_law_713 ?_
        obtain ⟨q119, hq119, hf⟩ := en_bnd hf
        refine gl_M_lineOf C (ctM_lineOf _ _ _ _ q119.1 q119.2 hq119) (by decide) (Nat.le_of_ble_eq_true rfl) hcl hsl dL_law_714 ?_
        refine g_if_icmp_eq (tgt := 857) C dL_law_717 (by decide) (fun c120 => ?_) (fun c120 => ?_)
        · rw [if_pos c120] at hf
          exact tail _ _ _ hf
        · rw [if_neg c120] at hf
          cases hf
      rw [if_neg s15] at hf
      rcases Decidable.em ((y0 &&& (31 : Int32)) = (16 : Int32)) with s16 | s16
      · rw [if_pos s16] at hf
        refine g_tsw (z := (16 : Int32)) (tgt := 722) C dL_law_33 s16 (by decide) (by decide) rfl (by decide) ?_
        refine g_aload_n_1 C dL_law_722 ?_
        refine g_aload_n_0 C dL_law_723 ?_
        refine g_iload_n_3 C dL_law_724 ?_
        refine g_iconst (v := (1 : Int32)) C dL_law_725 (by decide) ?_
        refine g_iadd C dL_law_726 ?_
        obtain ⟨y121, hy121, hf⟩ := en_bnd hf
        refine g_sld C hX hbl hbA hy121 dL_law_727 ?_
        refine g_aload_n_0 C dL_law_728 ?_
        refine g_iload_n_3 C dL_law_729 ?_
        refine g_iconst (v := (2 : Int32)) C dL_law_730 (by decide) ?_
        refine g_iadd C dL_law_731 ?_
        obtain ⟨y122, hy122, hf⟩ := en_bnd hf
        refine g_sld C hX hbl hbA hy122 dL_law_732 ?_
        obtain ⟨q123, hq123, hf⟩ := en_bnd hf
        refine gl_C_covered C (ctC_covered _ _ _ q123.1 q123.2 hq123) (by decide) (Nat.le_of_ble_eq_true rfl) hcl hsl dL_law_733 ?_
        refine g_aload_n_2 C dL_law_736 ?_
        refine g_aload_n_0 C dL_law_737 ?_
        refine g_iload_n_3 C dL_law_738 ?_
        refine g_iconst (v := (1 : Int32)) C dL_law_739 (by decide) ?_
        refine g_iadd C dL_law_740 ?_
        obtain ⟨y124, hy124, hf⟩ := en_bnd hf
        refine g_sld C hX hbl hbA hy124 dL_law_741 ?_
        refine g_aload_n_0 C dL_law_742 ?_
        refine g_iload_n_3 C dL_law_743 ?_
        refine g_iconst (v := (2 : Int32)) C dL_law_744 (by decide) ?_
        refine g_iadd C dL_law_745 ?_
        obtain ⟨y125, hy125, hf⟩ := en_bnd hf
        refine g_sld C hX hbl hbA hy125 dL_law_746 ?_
        obtain ⟨q126, hq126, hf⟩ := en_bnd hf
        refine gl_M_covered C (ctM_covered _ _ _ q126.1 q126.2 hq126) (by decide) (Nat.le_of_ble_eq_true rfl) hcl hsl dL_law_747 ?_
        refine g_if_icmp_eq (tgt := 857) C dL_law_750 (by decide) (fun c127 => ?_) (fun c127 => ?_)
        · rw [if_pos c127] at hf
          exact tail _ _ _ hf
        · rw [if_neg c127] at hf
          cases hf
      rw [if_neg s16] at hf
      rcases Decidable.em ((y0 &&& (31 : Int32)) = (17 : Int32)) with s17 | s17
      · rw [if_pos s17] at hf
        refine g_tsw (z := (17 : Int32)) (tgt := 755) C dL_law_33 s17 (by decide) (by decide) rfl (by decide) ?_
        refine g_aload_n_1 C dL_law_755 ?_
        refine g_aload_n_0 C dL_law_756 ?_
        refine g_iload_n_3 C dL_law_757 ?_
        refine g_iconst (v := (1 : Int32)) C dL_law_758 (by decide) ?_
        refine g_iadd C dL_law_759 ?_
        obtain ⟨y128, hy128, hf⟩ := en_bnd hf
        refine g_sld C hX hbl hbA hy128 dL_law_760 ?_
        obtain ⟨q129, hq129, hf⟩ := en_bnd hf
        refine gl_C_coins C (ctC_coins _ _ q129.1 q129.2 hq129) (by decide) (Nat.le_of_ble_eq_true rfl) hcl hsl dL_law_761 ?_
        refine g_aload_n_2 C dL_law_764 ?_
        refine g_aload_n_0 C dL_law_765 ?_
        refine g_iload_n_3 C dL_law_766 ?_
        refine g_iconst (v := (1 : Int32)) C dL_law_767 (by decide) ?_
        refine g_iadd C dL_law_768 ?_
        obtain ⟨y130, hy130, hf⟩ := en_bnd hf
        refine g_sld C hX hbl hbA hy130 dL_law_769 ?_
        obtain ⟨q131, hq131, hf⟩ := en_bnd hf
        refine gl_M_coins C (ctM_coins _ _ q131.1 q131.2 hq131) (by decide) (Nat.le_of_ble_eq_true rfl) hcl hsl dL_law_770 ?_
        refine g_if_icmp_eq (tgt := 857) C dL_law_773 (by decide) (fun c132 => ?_) (fun c132 => ?_)
        · rw [if_pos c132] at hf
          exact tail _ _ _ hf
        · rw [if_neg c132] at hf
          cases hf
      rw [if_neg s17] at hf
      rcases Decidable.em ((y0 &&& (31 : Int32)) = (18 : Int32)) with s18 | s18
      · rw [if_pos s18] at hf
        refine g_tsw (z := (18 : Int32)) (tgt := 778) C dL_law_33 s18 (by decide) (by decide) rfl (by decide) ?_
        refine g_aload_n_1 C dL_law_778 ?_
        refine g_aload_n_0 C dL_law_779 ?_
        refine g_iload_n_3 C dL_law_780 ?_
        refine g_iconst (v := (1 : Int32)) C dL_law_781 (by decide) ?_
        refine g_iadd C dL_law_782 ?_
        obtain ⟨y133, hy133, hf⟩ := en_bnd hf
        refine g_sld C hX hbl hbA hy133 dL_law_783 ?_
        refine g_aload_n_0 C dL_law_784 ?_
        refine g_iload_n_3 C dL_law_785 ?_
        refine g_iconst (v := (2 : Int32)) C dL_law_786 (by decide) ?_
        refine g_iadd C dL_law_787 ?_
        obtain ⟨y134, hy134, hf⟩ := en_bnd hf
        refine g_sld C hX hbl hbA hy134 dL_law_788 ?_
        obtain ⟨q135, hq135, hf⟩ := en_bnd hf
        refine gl_C_cell C (ctC_cell _ _ _ q135.1 q135.2 hq135) (by decide) (Nat.le_of_ble_eq_true rfl) hcl hsl dL_law_789 ?_
        refine g_aload_n_2 C dL_law_792 ?_
        refine g_aload_n_0 C dL_law_793 ?_
        refine g_iload_n_3 C dL_law_794 ?_
        refine g_iconst (v := (1 : Int32)) C dL_law_795 (by decide) ?_
        refine g_iadd C dL_law_796 ?_
        obtain ⟨y136, hy136, hf⟩ := en_bnd hf
        refine g_sld C hX hbl hbA hy136 dL_law_797 ?_
        refine g_aload_n_0 C dL_law_798 ?_
        refine g_iload_n_3 C dL_law_799 ?_
        refine g_iconst (v := (2 : Int32)) C dL_law_800 (by decide) ?_
        refine g_iadd C dL_law_801 ?_
        obtain ⟨y137, hy137, hf⟩ := en_bnd hf
        refine g_sld C hX hbl hbA hy137 dL_law_802 ?_
        obtain ⟨q138, hq138, hf⟩ := en_bnd hf
        refine gl_M_cell C (ctM_cell _ _ _ q138.1 q138.2 hq138) (by decide) (Nat.le_of_ble_eq_true rfl) hcl hsl dL_law_803 ?_
        refine g_if_icmp_eq (tgt := 857) C dL_law_806 (by decide) (fun c139 => ?_) (fun c139 => ?_)
        · rw [if_pos c139] at hf
          exact tail _ _ _ hf
        · rw [if_neg c139] at hf
          cases hf
      rw [if_neg s18] at hf
      rcases Decidable.em ((y0 &&& (31 : Int32)) = (19 : Int32)) with s19 | s19
      · rw [if_pos s19] at hf
        refine g_tsw (z := (19 : Int32)) (tgt := 811) C dL_law_33 s19 (by decide) (by decide) rfl (by decide) ?_
        refine g_aload_n_1 C dL_law_811 ?_
        refine g_aload_n_0 C dL_law_812 ?_
        refine g_iload_n_3 C dL_law_813 ?_
        refine g_iconst (v := (1 : Int32)) C dL_law_814 (by decide) ?_
        refine g_iadd C dL_law_815 ?_
        obtain ⟨y140, hy140, hf⟩ := en_bnd hf
        refine g_sld C hX hbl hbA hy140 dL_law_816 ?_
        obtain ⟨q141, hq141, hf⟩ := en_bnd hf
        refine gl_C_event C (ctC_event _ _ q141.1 q141.2 hq141) (by decide) (Nat.le_of_ble_eq_true rfl) hcl hsl dL_law_817 ?_
        refine g_aload_n_2 C dL_law_820 ?_
        refine g_aload_n_0 C dL_law_821 ?_
        refine g_iload_n_3 C dL_law_822 ?_
        refine g_iconst (v := (1 : Int32)) C dL_law_823 (by decide) ?_
        refine g_iadd C dL_law_824 ?_
        obtain ⟨y142, hy142, hf⟩ := en_bnd hf
        refine g_sld C hX hbl hbA hy142 dL_law_825 ?_
        obtain ⟨q143, hq143, hf⟩ := en_bnd hf
        refine gl_M_event C (ctM_event _ _ q143.1 q143.2 hq143) (by decide) (Nat.le_of_ble_eq_true rfl) hcl hsl dL_law_826 ?_
        refine g_if_icmp_eq (tgt := 857) C dL_law_829 (by decide) (fun c144 => ?_) (fun c144 => ?_)
        · rw [if_pos c144] at hf
          exact tail _ _ _ hf
        · rw [if_neg c144] at hf
          cases hf
      rw [if_neg s19] at hf
      rcases Decidable.em ((y0 &&& (31 : Int32)) = (20 : Int32)) with s20 | s20
      · rw [if_pos s20] at hf
        refine g_tsw (z := (20 : Int32)) (tgt := 834) C dL_law_33 s20 (by decide) (by decide) rfl (by decide) ?_
        refine g_aload_n_1 C dL_law_834 ?_
        refine g_aload_n_0 C dL_law_835 ?_
        refine g_iload_n_3 C dL_law_836 ?_
        refine g_iconst (v := (1 : Int32)) C dL_law_837 (by decide) ?_
        refine g_iadd C dL_law_838 ?_
        obtain ⟨y145, hy145, hf⟩ := en_bnd hf
        refine g_sld C hX hbl hbA hy145 dL_law_839 ?_
        obtain ⟨q146, hq146, hf⟩ := en_bnd hf
        refine gl_C_count C (ctC_count _ _ q146.1 q146.2 hq146) (by decide) (Nat.le_of_ble_eq_true rfl) hcl hsl dL_law_840 ?_
        refine g_aload_n_2 C dL_law_843 ?_
        refine g_aload_n_0 C dL_law_844 ?_
        refine g_iload_n_3 C dL_law_845 ?_
        refine g_iconst (v := (1 : Int32)) C dL_law_846 (by decide) ?_
        refine g_iadd C dL_law_847 ?_
        obtain ⟨y147, hy147, hf⟩ := en_bnd hf
        refine g_sld C hX hbl hbA hy147 dL_law_848 ?_
        obtain ⟨q148, hq148, hf⟩ := en_bnd hf
        refine gl_M_count C (ctM_count _ _ q148.1 q148.2 hq148) (by decide) (Nat.le_of_ble_eq_true rfl) hcl hsl dL_law_849 ?_
        refine g_if_icmp_eq (tgt := 857) C dL_law_852 (by decide) (fun c149 => ?_) (fun c149 => ?_)
        · rw [if_pos c149] at hf
          exact tail _ _ _ hf
        · rw [if_neg c149] at hf
          cases hf
      rw [if_neg s20] at hf
      refine g_tswD (tgt := 857) C [(0 : Int32), (1 : Int32), (2 : Int32), (3 : Int32), (4 : Int32), (5 : Int32), (6 : Int32), (7 : Int32), (8 : Int32), (9 : Int32), (10 : Int32), (11 : Int32), (12 : Int32), (13 : Int32), (14 : Int32), (15 : Int32), (16 : Int32), (17 : Int32), (18 : Int32), (19 : Int32), (20 : Int32)] dL_law_33 (And.intro s0 (And.intro s1 (And.intro s2 (And.intro s3 (And.intro s4 (And.intro s5 (And.intro s6 (And.intro s7 (And.intro s8 (And.intro s9 (And.intro s10 (And.intro s11 (And.intro s12 (And.intro s13 (And.intro s14 (And.intro s15 (And.intro s16 (And.intro s17 (And.intro s18 (And.intro s19 (And.intro s20 trivial))))))))))))))))))))) 21 (by decide) (by decide) (by decide) ?_
      exact tail _ _ _ hf
