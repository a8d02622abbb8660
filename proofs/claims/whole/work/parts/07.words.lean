/-! WORDS of the tables that are used. -/
set_option maxRecDepth 20000 in
theorem mw_226 : (Jvm.Cond.constant "LedgerTests$State" (15 : Nat) (1000000000 : Int32)) ∈ en_tbl := en_ix 226 (by decide +kernel) (by decide +kernel)
set_option maxRecDepth 20000 in
theorem mw_26 : (Jvm.Cond.fieldLink "LedgerTests$State" (11 : Nat) "LedgerTests$State" "row" "[I") ∈ en_tbl := en_ix 26 (by decide +kernel) (by decide +kernel)
set_option maxRecDepth 20000 in
theorem mw_196 : (Jvm.Cond.fieldLink "LedgerTests" (10 : Nat) "LedgerTests" "state" "LLedgerTests$State;") ∈ en_tbl := en_ix 196 (by decide +kernel) (by decide +kernel)
set_option maxRecDepth 20000 in
theorem mw_222 : (Jvm.Cond.methodLink "LedgerTests" (64 : Nat) ({ cls := "LedgerTests$State", name := "putCoins", desc := "(II)Z" } : Jvm.MethodName)) ∈ en_tbl := en_ix 222 (by decide +kernel) (by decide +kernel)
set_option maxRecDepth 20000 in
theorem mw_2 : (Jvm.Cond.initialized "LedgerTests$State") ∈ en_tbl := en_ix 2 (by decide +kernel) (by decide +kernel)
set_option maxRecDepth 20000 in
theorem mw_223 : (Jvm.Cond.instanceMethod ({ cls := "LedgerTests$State", name := "putCoins", desc := "(II)Z" } : Jvm.MethodName)) ∈ en_tbl := en_ix 223 (by decide +kernel) (by decide +kernel)
set_option maxRecDepth 20000 in
theorem mw_224 : (Jvm.Cond.selects "LedgerTests$State" ({ cls := "LedgerTests$State", name := "putCoins", desc := "(II)Z" } : Jvm.MethodName) ({ cls := "LedgerTests$State", name := "putCoins", desc := "(II)Z" } : Jvm.MethodName)) ∈ en_tbl := en_ix 224 (by decide +kernel) (by decide +kernel)
set_option maxRecDepth 20000 in
theorem mw_225 : (Jvm.Cond.code ({ cls := "LedgerTests$State", name := "putCoins", desc := "(II)Z" } : Jvm.MethodName) prog_8_method_5_code (3 : Nat) (Option.some Jvm.ClassFile.FieldType.boolean)) ∈ en_tbl := en_ix 225 (by decide +kernel) (by decide +kernel)
set_option maxRecDepth 20000 in
theorem mw_37 : (Jvm.Cond.fieldLink "LedgerTests$Code" (11 : Nat) "LedgerTests$Code" "made" "I") ∈ en_tbl := en_ix 37 (by decide +kernel) (by decide +kernel)
set_option maxRecDepth 20000 in
theorem mw_197 : (Jvm.Cond.fieldLink "LedgerTests" (19 : Nat) "LedgerTests" "code" "LLedgerTests$Code;") ∈ en_tbl := en_ix 197 (by decide +kernel) (by decide +kernel)
set_option maxRecDepth 20000 in
theorem mw_231 : (Jvm.Cond.methodLink "LedgerTests" (68 : Nat) ({ cls := "LedgerTests$Code", name := "newContract", desc := "()I" } : Jvm.MethodName)) ∈ en_tbl := en_ix 231 (by decide +kernel) (by decide +kernel)
set_option maxRecDepth 20000 in
theorem mw_3 : (Jvm.Cond.initialized "LedgerTests$Code") ∈ en_tbl := en_ix 3 (by decide +kernel) (by decide +kernel)
set_option maxRecDepth 20000 in
theorem mw_232 : (Jvm.Cond.instanceMethod ({ cls := "LedgerTests$Code", name := "newContract", desc := "()I" } : Jvm.MethodName)) ∈ en_tbl := en_ix 232 (by decide +kernel) (by decide +kernel)
set_option maxRecDepth 20000 in
theorem mw_233 : (Jvm.Cond.selects "LedgerTests$Code" ({ cls := "LedgerTests$Code", name := "newContract", desc := "()I" } : Jvm.MethodName) ({ cls := "LedgerTests$Code", name := "newContract", desc := "()I" } : Jvm.MethodName)) ∈ en_tbl := en_ix 233 (by decide +kernel) (by decide +kernel)
set_option maxRecDepth 20000 in
theorem mw_234 : (Jvm.Cond.code ({ cls := "LedgerTests$Code", name := "newContract", desc := "()I" } : Jvm.MethodName) prog_2_method_5_code (1 : Nat) (Option.some Jvm.ClassFile.FieldType.int)) ∈ en_tbl := en_ix 234 (by decide +kernel) (by decide +kernel)
set_option maxRecDepth 20000 in
theorem mw_246 : (Jvm.Cond.methodLink "LedgerTests$Code" (31 : Nat) ({ cls := "LedgerTests$State", name := "isCell", desc := "(I)Z" } : Jvm.MethodName)) ∈ en_tbl := en_ix 246 (by decide +kernel) (by decide +kernel)
set_option maxRecDepth 20000 in
theorem mw_247 : (Jvm.Cond.static ({ cls := "LedgerTests$State", name := "isCell", desc := "(I)Z" } : Jvm.MethodName)) ∈ en_tbl := en_ix 247 (by decide +kernel) (by decide +kernel)
set_option maxRecDepth 20000 in
theorem mw_248 : (Jvm.Cond.code ({ cls := "LedgerTests$State", name := "isCell", desc := "(I)Z" } : Jvm.MethodName) prog_8_method_3_code (1 : Nat) (Option.some Jvm.ClassFile.FieldType.boolean)) ∈ en_tbl := en_ix 248 (by decide +kernel) (by decide +kernel)
set_option maxRecDepth 20000 in
theorem mw_249 : (Jvm.Cond.methodLink "LedgerTests$Code" (37 : Nat) ({ cls := "LedgerTests$State", name := "isAccount", desc := "(I)Z" } : Jvm.MethodName)) ∈ en_tbl := en_ix 249 (by decide +kernel) (by decide +kernel)
set_option maxRecDepth 20000 in
theorem mw_250 : (Jvm.Cond.static ({ cls := "LedgerTests$State", name := "isAccount", desc := "(I)Z" } : Jvm.MethodName)) ∈ en_tbl := en_ix 250 (by decide +kernel) (by decide +kernel)
set_option maxRecDepth 20000 in
theorem mw_251 : (Jvm.Cond.code ({ cls := "LedgerTests$State", name := "isAccount", desc := "(I)Z" } : Jvm.MethodName) prog_8_method_2_code (1 : Nat) (Option.some Jvm.ClassFile.FieldType.boolean)) ∈ en_tbl := en_ix 251 (by decide +kernel) (by decide +kernel)
set_option maxRecDepth 20000 in
theorem mw_252 : (Jvm.Cond.methodLink "LedgerTests$Code" (40 : Nat) ({ cls := "LedgerTests$Faces", name := "isFace", desc := "(I)Z" } : Jvm.MethodName)) ∈ en_tbl := en_ix 252 (by decide +kernel) (by decide +kernel)
set_option maxRecDepth 20000 in
theorem mw_4 : (Jvm.Cond.initialized "LedgerTests$Faces") ∈ en_tbl := en_ix 4 (by decide +kernel) (by decide +kernel)
set_option maxRecDepth 20000 in
theorem mw_253 : (Jvm.Cond.static ({ cls := "LedgerTests$Faces", name := "isFace", desc := "(I)Z" } : Jvm.MethodName)) ∈ en_tbl := en_ix 253 (by decide +kernel) (by decide +kernel)
set_option maxRecDepth 20000 in
theorem mw_254 : (Jvm.Cond.code ({ cls := "LedgerTests$Faces", name := "isFace", desc := "(I)Z" } : Jvm.MethodName) prog_3_method_2_code (1 : Nat) (Option.some Jvm.ClassFile.FieldType.boolean)) ∈ en_tbl := en_ix 254 (by decide +kernel) (by decide +kernel)
set_option maxRecDepth 20000 in
theorem mw_40 : (Jvm.Cond.fieldLink "LedgerTests$Code" (22 : Nat) "LedgerTests$Code" "kinds" "[I") ∈ en_tbl := en_ix 40 (by decide +kernel) (by decide +kernel)
set_option maxRecDepth 20000 in
theorem mw_41 : (Jvm.Cond.fieldLink "LedgerTests$Code" (25 : Nat) "LedgerTests$Code" "as" "[I") ∈ en_tbl := en_ix 41 (by decide +kernel) (by decide +kernel)
set_option maxRecDepth 20000 in
theorem mw_42 : (Jvm.Cond.fieldLink "LedgerTests$Code" (28 : Nat) "LedgerTests$Code" "bs" "[I") ∈ en_tbl := en_ix 42 (by decide +kernel) (by decide +kernel)
set_option maxRecDepth 20000 in
theorem mw_38 : (Jvm.Cond.fieldLink "LedgerTests$Code" (15 : Nat) "LedgerTests$Code" "sizes" "[I") ∈ en_tbl := en_ix 38 (by decide +kernel) (by decide +kernel)
set_option maxRecDepth 20000 in
theorem mw_259 : (Jvm.Cond.methodLink "LedgerTests$Code" (45 : Nat) ({ cls := "LedgerTests$Code", name := "replace", desc := "(IIII)V" } : Jvm.MethodName)) ∈ en_tbl := en_ix 259 (by decide +kernel) (by decide +kernel)
set_option maxRecDepth 20000 in
theorem mw_260 : (Jvm.Cond.instanceMethod ({ cls := "LedgerTests$Code", name := "replace", desc := "(IIII)V" } : Jvm.MethodName)) ∈ en_tbl := en_ix 260 (by decide +kernel) (by decide +kernel)
set_option maxRecDepth 20000 in
theorem mw_261 : (Jvm.Cond.selects "LedgerTests$Code" ({ cls := "LedgerTests$Code", name := "replace", desc := "(IIII)V" } : Jvm.MethodName) ({ cls := "LedgerTests$Code", name := "replace", desc := "(IIII)V" } : Jvm.MethodName)) ∈ en_tbl := en_ix 261 (by decide +kernel) (by decide +kernel)
set_option maxRecDepth 20000 in
theorem mw_262 : (Jvm.Cond.code ({ cls := "LedgerTests$Code", name := "replace", desc := "(IIII)V" } : Jvm.MethodName) prog_2_method_9_code (5 : Nat) (Option.none : Option Jvm.ClassFile.FieldType)) ∈ en_tbl := en_ix 262 (by decide +kernel) (by decide +kernel)
set_option maxRecDepth 20000 in
theorem mw_239 : (Jvm.Cond.methodLink "LedgerTests" (72 : Nat) ({ cls := "LedgerTests$Code", name := "placeOf", desc := "(II)I" } : Jvm.MethodName)) ∈ en_tbl := en_ix 239 (by decide +kernel) (by decide +kernel)
set_option maxRecDepth 20000 in
theorem mw_240 : (Jvm.Cond.instanceMethod ({ cls := "LedgerTests$Code", name := "placeOf", desc := "(II)I" } : Jvm.MethodName)) ∈ en_tbl := en_ix 240 (by decide +kernel) (by decide +kernel)
set_option maxRecDepth 20000 in
theorem mw_241 : (Jvm.Cond.selects "LedgerTests$Code" ({ cls := "LedgerTests$Code", name := "placeOf", desc := "(II)I" } : Jvm.MethodName) ({ cls := "LedgerTests$Code", name := "placeOf", desc := "(II)I" } : Jvm.MethodName)) ∈ en_tbl := en_ix 241 (by decide +kernel) (by decide +kernel)
set_option maxRecDepth 20000 in
theorem mw_242 : (Jvm.Cond.code ({ cls := "LedgerTests$Code", name := "placeOf", desc := "(II)I" } : Jvm.MethodName) prog_2_method_6_code (4 : Nat) (Option.some Jvm.ClassFile.FieldType.int)) ∈ en_tbl := en_ix 242 (by decide +kernel) (by decide +kernel)
set_option maxRecDepth 20000 in
theorem mw_243 : (Jvm.Cond.methodLink "LedgerTests" (76 : Nat) ({ cls := "LedgerTests$Code", name := "fits", desc := "(II)Z" } : Jvm.MethodName)) ∈ en_tbl := en_ix 243 (by decide +kernel) (by decide +kernel)
set_option maxRecDepth 20000 in
theorem mw_244 : (Jvm.Cond.static ({ cls := "LedgerTests$Code", name := "fits", desc := "(II)Z" } : Jvm.MethodName)) ∈ en_tbl := en_ix 244 (by decide +kernel) (by decide +kernel)
set_option maxRecDepth 20000 in
theorem mw_245 : (Jvm.Cond.code ({ cls := "LedgerTests$Code", name := "fits", desc := "(II)Z" } : Jvm.MethodName) prog_2_method_2_code (2 : Nat) (Option.some Jvm.ClassFile.FieldType.boolean)) ∈ en_tbl := en_ix 245 (by decide +kernel) (by decide +kernel)
set_option maxRecDepth 20000 in
theorem mw_255 : (Jvm.Cond.methodLink "LedgerTests" (79 : Nat) ({ cls := "LedgerTests$Code", name := "append", desc := "(IIII)I" } : Jvm.MethodName)) ∈ en_tbl := en_ix 255 (by decide +kernel) (by decide +kernel)
set_option maxRecDepth 20000 in
theorem mw_256 : (Jvm.Cond.instanceMethod ({ cls := "LedgerTests$Code", name := "append", desc := "(IIII)I" } : Jvm.MethodName)) ∈ en_tbl := en_ix 256 (by decide +kernel) (by decide +kernel)
set_option maxRecDepth 20000 in
theorem mw_257 : (Jvm.Cond.selects "LedgerTests$Code" ({ cls := "LedgerTests$Code", name := "append", desc := "(IIII)I" } : Jvm.MethodName) ({ cls := "LedgerTests$Code", name := "append", desc := "(IIII)I" } : Jvm.MethodName)) ∈ en_tbl := en_ix 257 (by decide +kernel) (by decide +kernel)
set_option maxRecDepth 20000 in
theorem mw_258 : (Jvm.Cond.code ({ cls := "LedgerTests$Code", name := "append", desc := "(IIII)I" } : Jvm.MethodName) prog_2_method_8_code (5 : Nat) (Option.some Jvm.ClassFile.FieldType.int)) ∈ en_tbl := en_ix 258 (by decide +kernel) (by decide +kernel)
set_option maxRecDepth 20000 in
theorem mw_62 : (Jvm.Cond.fieldLink "LedgerTests$Faces" (9 : Nat) "LedgerTests$Faces" "bound" "[I") ∈ en_tbl := en_ix 62 (by decide +kernel) (by decide +kernel)
set_option maxRecDepth 20000 in
theorem mw_267 : (Jvm.Cond.methodLink "LedgerTests" (83 : Nat) ({ cls := "LedgerTests$Faces", name := "isFace", desc := "(I)Z" } : Jvm.MethodName)) ∈ en_tbl := en_ix 267 (by decide +kernel) (by decide +kernel)
set_option maxRecDepth 20000 in
theorem mw_198 : (Jvm.Cond.fieldLink "LedgerTests" (26 : Nat) "LedgerTests" "faces" "LLedgerTests$Faces;") ∈ en_tbl := en_ix 198 (by decide +kernel) (by decide +kernel)
set_option maxRecDepth 20000 in
theorem mw_268 : (Jvm.Cond.methodLink "LedgerTests" (87 : Nat) ({ cls := "LedgerTests$Faces", name := "bindTo", desc := "(II)V" } : Jvm.MethodName)) ∈ en_tbl := en_ix 268 (by decide +kernel) (by decide +kernel)
set_option maxRecDepth 20000 in
theorem mw_269 : (Jvm.Cond.instanceMethod ({ cls := "LedgerTests$Faces", name := "bindTo", desc := "(II)V" } : Jvm.MethodName)) ∈ en_tbl := en_ix 269 (by decide +kernel) (by decide +kernel)
set_option maxRecDepth 20000 in
theorem mw_270 : (Jvm.Cond.selects "LedgerTests$Faces" ({ cls := "LedgerTests$Faces", name := "bindTo", desc := "(II)V" } : Jvm.MethodName) ({ cls := "LedgerTests$Faces", name := "bindTo", desc := "(II)V" } : Jvm.MethodName)) ∈ en_tbl := en_ix 270 (by decide +kernel) (by decide +kernel)
set_option maxRecDepth 20000 in
theorem mw_271 : (Jvm.Cond.code ({ cls := "LedgerTests$Faces", name := "bindTo", desc := "(II)V" } : Jvm.MethodName) prog_3_method_3_code (3 : Nat) (Option.none : Option Jvm.ClassFile.FieldType)) ∈ en_tbl := en_ix 271 (by decide +kernel) (by decide +kernel)
set_option maxRecDepth 20000 in
theorem mw_276 : (Jvm.Cond.methodLink "LedgerTests" (91 : Nat) ({ cls := "LedgerTests$State", name := "age", desc := "(I)Z" } : Jvm.MethodName)) ∈ en_tbl := en_ix 276 (by decide +kernel) (by decide +kernel)
set_option maxRecDepth 20000 in
theorem mw_277 : (Jvm.Cond.instanceMethod ({ cls := "LedgerTests$State", name := "age", desc := "(I)Z" } : Jvm.MethodName)) ∈ en_tbl := en_ix 277 (by decide +kernel) (by decide +kernel)
set_option maxRecDepth 20000 in
theorem mw_278 : (Jvm.Cond.selects "LedgerTests$State" ({ cls := "LedgerTests$State", name := "age", desc := "(I)Z" } : Jvm.MethodName) ({ cls := "LedgerTests$State", name := "age", desc := "(I)Z" } : Jvm.MethodName)) ∈ en_tbl := en_ix 278 (by decide +kernel) (by decide +kernel)
set_option maxRecDepth 20000 in
theorem mw_279 : (Jvm.Cond.code ({ cls := "LedgerTests$State", name := "age", desc := "(I)Z" } : Jvm.MethodName) prog_8_method_11_code (2 : Nat) (Option.some Jvm.ClassFile.FieldType.boolean)) ∈ en_tbl := en_ix 279 (by decide +kernel) (by decide +kernel)
set_option maxRecDepth 20000 in
theorem mw_280 : (Jvm.Cond.methodLink "LedgerTests" (94 : Nat) ({ cls := "LedgerTests$State", name := "height", desc := "()I" } : Jvm.MethodName)) ∈ en_tbl := en_ix 280 (by decide +kernel) (by decide +kernel)
set_option maxRecDepth 20000 in
theorem mw_281 : (Jvm.Cond.instanceMethod ({ cls := "LedgerTests$State", name := "height", desc := "()I" } : Jvm.MethodName)) ∈ en_tbl := en_ix 281 (by decide +kernel) (by decide +kernel)
set_option maxRecDepth 20000 in
theorem mw_282 : (Jvm.Cond.selects "LedgerTests$State" ({ cls := "LedgerTests$State", name := "height", desc := "()I" } : Jvm.MethodName) ({ cls := "LedgerTests$State", name := "height", desc := "()I" } : Jvm.MethodName)) ∈ en_tbl := en_ix 282 (by decide +kernel) (by decide +kernel)
set_option maxRecDepth 20000 in
theorem mw_283 : (Jvm.Cond.code ({ cls := "LedgerTests$State", name := "height", desc := "()I" } : Jvm.MethodName) prog_8_method_10_code (1 : Nat) (Option.some Jvm.ClassFile.FieldType.int)) ∈ en_tbl := en_ix 283 (by decide +kernel) (by decide +kernel)
set_option maxRecDepth 20000 in
theorem mw_84 : (Jvm.Cond.fieldLink "LedgerTests$Machine" (24 : Nat) "LedgerTests$Machine" "thrown" "I") ∈ en_tbl := en_ix 84 (by decide +kernel) (by decide +kernel)
set_option maxRecDepth 20000 in
theorem mw_85 : (Jvm.Cond.fieldLink "LedgerTests$Machine" (27 : Nat) "LedgerTests$Machine" "cause" "I") ∈ en_tbl := en_ix 85 (by decide +kernel) (by decide +kernel)
set_option maxRecDepth 20000 in
theorem mw_305 : (Jvm.Cond.methodLink "LedgerTests$State" (18 : Nat) ({ cls := "java/lang/System", name := "arraycopy", desc := "(Ljava/lang/Object;ILjava/lang/Object;II)V" } : Jvm.MethodName)) ∈ en_tbl := en_ix 305 (by decide +kernel) (by decide +kernel)
set_option maxRecDepth 20000 in
theorem mw_307 : (Jvm.Cond.native ({ cls := "java/lang/System", name := "arraycopy", desc := "(Ljava/lang/Object;ILjava/lang/Object;II)V" } : Jvm.MethodName)) ∈ en_tbl := en_ix 307 (by decide +kernel) (by decide +kernel)
set_option maxRecDepth 20000 in
theorem mw_306 : (Jvm.Cond.static ({ cls := "java/lang/System", name := "arraycopy", desc := "(Ljava/lang/Object;ILjava/lang/Object;II)V" } : Jvm.MethodName)) ∈ en_tbl := en_ix 306 (by decide +kernel) (by decide +kernel)
set_option maxRecDepth 20000 in
theorem mw_10 : (Jvm.Cond.initialized "java/lang/System") ∈ en_tbl := en_ix 10 (by decide +kernel) (by decide +kernel)
set_option maxRecDepth 20000 in
theorem mw_39 : (Jvm.Cond.fieldLink "LedgerTests$Code" (19 : Nat) "LedgerTests$Code" "covered" "[I") ∈ en_tbl := en_ix 39 (by decide +kernel) (by decide +kernel)
set_option maxRecDepth 20000 in
theorem mw_83 : (Jvm.Cond.fieldLink "LedgerTests$Machine" (21 : Nat) "LedgerTests$Machine" "steps" "I") ∈ en_tbl := en_ix 83 (by decide +kernel) (by decide +kernel)
set_option maxRecDepth 20000 in
theorem mw_293 : (Jvm.Cond.methodLink "LedgerTests$Machine" (45 : Nat) ({ cls := "LedgerTests$Machine", name := "raise", desc := "(I)V" } : Jvm.MethodName)) ∈ en_tbl := en_ix 293 (by decide +kernel) (by decide +kernel)
set_option maxRecDepth 20000 in
theorem mw_5 : (Jvm.Cond.initialized "LedgerTests$Machine") ∈ en_tbl := en_ix 5 (by decide +kernel) (by decide +kernel)
set_option maxRecDepth 20000 in
theorem mw_295 : (Jvm.Cond.instanceMethod ({ cls := "LedgerTests$Machine", name := "raise", desc := "(I)V" } : Jvm.MethodName)) ∈ en_tbl := en_ix 295 (by decide +kernel) (by decide +kernel)
set_option maxRecDepth 20000 in
theorem mp_0 : Cond.selects "LedgerTests$Machine" ⟨"LedgerTests$Machine", "raise", "(I)V"⟩ ⟨"LedgerTests$Machine", "raise", "(I)V"⟩ ∈ en_tbl := en_ixp 0 (by decide +kernel) (by decide +kernel)
set_option maxRecDepth 20000 in
theorem mw_296 : (Jvm.Cond.code ({ cls := "LedgerTests$Machine", name := "raise", desc := "(I)V" } : Jvm.MethodName) prog_4_method_9_code (2 : Nat) (Option.none : Option Jvm.ClassFile.FieldType)) ∈ en_tbl := en_ix 296 (by decide +kernel) (by decide +kernel)
set_option maxRecDepth 20000 in
theorem mw_82 : (Jvm.Cond.fieldLink "LedgerTests$Machine" (17 : Nat) "LedgerTests$Machine" "inAll" "I") ∈ en_tbl := en_ix 82 (by decide +kernel) (by decide +kernel)
set_option maxRecDepth 20000 in
theorem mw_79 : (Jvm.Cond.fieldLink "LedgerTests$Machine" (37 : Nat) "LedgerTests$Machine" "code" "LLedgerTests$Code;") ∈ en_tbl := en_ix 79 (by decide +kernel) (by decide +kernel)
set_option maxRecDepth 20000 in
theorem mw_331 : (Jvm.Cond.methodLink "LedgerTests$Machine" (107 : Nat) ({ cls := "LedgerTests$Code", name := "cover", desc := "(II)V" } : Jvm.MethodName)) ∈ en_tbl := en_ix 331 (by decide +kernel) (by decide +kernel)
set_option maxRecDepth 20000 in
theorem mw_332 : (Jvm.Cond.instanceMethod ({ cls := "LedgerTests$Code", name := "cover", desc := "(II)V" } : Jvm.MethodName)) ∈ en_tbl := en_ix 332 (by decide +kernel) (by decide +kernel)
set_option maxRecDepth 20000 in
theorem mw_333 : (Jvm.Cond.selects "LedgerTests$Code" ({ cls := "LedgerTests$Code", name := "cover", desc := "(II)V" } : Jvm.MethodName) ({ cls := "LedgerTests$Code", name := "cover", desc := "(II)V" } : Jvm.MethodName)) ∈ en_tbl := en_ix 333 (by decide +kernel) (by decide +kernel)
set_option maxRecDepth 20000 in
theorem mw_334 : (Jvm.Cond.code ({ cls := "LedgerTests$Code", name := "cover", desc := "(II)V" } : Jvm.MethodName) prog_2_method_14_code (3 : Nat) (Option.none : Option Jvm.ClassFile.FieldType)) ∈ en_tbl := en_ix 334 (by decide +kernel) (by decide +kernel)
set_option maxRecDepth 20000 in
theorem mw_358 : (Jvm.Cond.methodLink "LedgerTests$Machine" (111 : Nat) ({ cls := "LedgerTests$Code", name := "b", desc := "(I)I" } : Jvm.MethodName)) ∈ en_tbl := en_ix 358 (by decide +kernel) (by decide +kernel)
set_option maxRecDepth 20000 in
theorem mw_359 : (Jvm.Cond.instanceMethod ({ cls := "LedgerTests$Code", name := "b", desc := "(I)I" } : Jvm.MethodName)) ∈ en_tbl := en_ix 359 (by decide +kernel) (by decide +kernel)
set_option maxRecDepth 20000 in
theorem mw_360 : (Jvm.Cond.selects "LedgerTests$Code" ({ cls := "LedgerTests$Code", name := "b", desc := "(I)I" } : Jvm.MethodName) ({ cls := "LedgerTests$Code", name := "b", desc := "(I)I" } : Jvm.MethodName)) ∈ en_tbl := en_ix 360 (by decide +kernel) (by decide +kernel)
set_option maxRecDepth 20000 in
theorem mw_361 : (Jvm.Cond.code ({ cls := "LedgerTests$Code", name := "b", desc := "(I)I" } : Jvm.MethodName) prog_2_method_12_code (2 : Nat) (Option.some Jvm.ClassFile.FieldType.int)) ∈ en_tbl := en_ix 361 (by decide +kernel) (by decide +kernel)
set_option maxRecDepth 20000 in
theorem mw_335 : (Jvm.Cond.methodLink "LedgerTests$Machine" (82 : Nat) ({ cls := "LedgerTests$Code", name := "kind", desc := "(I)I" } : Jvm.MethodName)) ∈ en_tbl := en_ix 335 (by decide +kernel) (by decide +kernel)
set_option maxRecDepth 20000 in
theorem mw_336 : (Jvm.Cond.instanceMethod ({ cls := "LedgerTests$Code", name := "kind", desc := "(I)I" } : Jvm.MethodName)) ∈ en_tbl := en_ix 336 (by decide +kernel) (by decide +kernel)
set_option maxRecDepth 20000 in
theorem mw_337 : (Jvm.Cond.selects "LedgerTests$Code" ({ cls := "LedgerTests$Code", name := "kind", desc := "(I)I" } : Jvm.MethodName) ({ cls := "LedgerTests$Code", name := "kind", desc := "(I)I" } : Jvm.MethodName)) ∈ en_tbl := en_ix 337 (by decide +kernel) (by decide +kernel)
set_option maxRecDepth 20000 in
theorem mw_338 : (Jvm.Cond.code ({ cls := "LedgerTests$Code", name := "kind", desc := "(I)I" } : Jvm.MethodName) prog_2_method_10_code (2 : Nat) (Option.some Jvm.ClassFile.FieldType.int)) ∈ en_tbl := en_ix 338 (by decide +kernel) (by decide +kernel)
set_option maxRecDepth 20000 in
theorem mw_339 : (Jvm.Cond.methodLink "LedgerTests$Machine" (85 : Nat) ({ cls := "LedgerTests$Code", name := "a", desc := "(I)I" } : Jvm.MethodName)) ∈ en_tbl := en_ix 339 (by decide +kernel) (by decide +kernel)
set_option maxRecDepth 20000 in
theorem mw_340 : (Jvm.Cond.instanceMethod ({ cls := "LedgerTests$Code", name := "a", desc := "(I)I" } : Jvm.MethodName)) ∈ en_tbl := en_ix 340 (by decide +kernel) (by decide +kernel)
set_option maxRecDepth 20000 in
theorem mw_341 : (Jvm.Cond.selects "LedgerTests$Code" ({ cls := "LedgerTests$Code", name := "a", desc := "(I)I" } : Jvm.MethodName) ({ cls := "LedgerTests$Code", name := "a", desc := "(I)I" } : Jvm.MethodName)) ∈ en_tbl := en_ix 341 (by decide +kernel) (by decide +kernel)
set_option maxRecDepth 20000 in
theorem mw_342 : (Jvm.Cond.code ({ cls := "LedgerTests$Code", name := "a", desc := "(I)I" } : Jvm.MethodName) prog_2_method_11_code (2 : Nat) (Option.some Jvm.ClassFile.FieldType.int)) ∈ en_tbl := en_ix 342 (by decide +kernel) (by decide +kernel)
set_option maxRecDepth 20000 in
theorem mw_78 : (Jvm.Cond.fieldLink "LedgerTests$Machine" (33 : Nat) "LedgerTests$Machine" "state" "LLedgerTests$State;") ∈ en_tbl := en_ix 78 (by decide +kernel) (by decide +kernel)
set_option maxRecDepth 20000 in
theorem mw_382 : (Jvm.Cond.methodLink "LedgerTests$Machine" (125 : Nat) ({ cls := "LedgerTests$State", name := "putCell", desc := "(III)V" } : Jvm.MethodName)) ∈ en_tbl := en_ix 382 (by decide +kernel) (by decide +kernel)
set_option maxRecDepth 20000 in
theorem mw_383 : (Jvm.Cond.instanceMethod ({ cls := "LedgerTests$State", name := "putCell", desc := "(III)V" } : Jvm.MethodName)) ∈ en_tbl := en_ix 383 (by decide +kernel) (by decide +kernel)
set_option maxRecDepth 20000 in
theorem mw_384 : (Jvm.Cond.selects "LedgerTests$State" ({ cls := "LedgerTests$State", name := "putCell", desc := "(III)V" } : Jvm.MethodName) ({ cls := "LedgerTests$State", name := "putCell", desc := "(III)V" } : Jvm.MethodName)) ∈ en_tbl := en_ix 384 (by decide +kernel) (by decide +kernel)
set_option maxRecDepth 20000 in
theorem mw_385 : (Jvm.Cond.code ({ cls := "LedgerTests$State", name := "putCell", desc := "(III)V" } : Jvm.MethodName) prog_8_method_9_code (5 : Nat) (Option.none : Option Jvm.ClassFile.FieldType)) ∈ en_tbl := en_ix 385 (by decide +kernel) (by decide +kernel)
set_option maxRecDepth 20000 in
theorem mw_386 : (Jvm.Cond.methodLink "LedgerTests$Machine" (129 : Nat) ({ cls := "LedgerTests$State", name := "cellOf", desc := "(II)I" } : Jvm.MethodName)) ∈ en_tbl := en_ix 386 (by decide +kernel) (by decide +kernel)
set_option maxRecDepth 20000 in
theorem mw_387 : (Jvm.Cond.instanceMethod ({ cls := "LedgerTests$State", name := "cellOf", desc := "(II)I" } : Jvm.MethodName)) ∈ en_tbl := en_ix 387 (by decide +kernel) (by decide +kernel)
set_option maxRecDepth 20000 in
theorem mw_388 : (Jvm.Cond.selects "LedgerTests$State" ({ cls := "LedgerTests$State", name := "cellOf", desc := "(II)I" } : Jvm.MethodName) ({ cls := "LedgerTests$State", name := "cellOf", desc := "(II)I" } : Jvm.MethodName)) ∈ en_tbl := en_ix 388 (by decide +kernel) (by decide +kernel)
set_option maxRecDepth 20000 in
theorem mw_389 : (Jvm.Cond.code ({ cls := "LedgerTests$State", name := "cellOf", desc := "(II)I" } : Jvm.MethodName) prog_8_method_8_code (4 : Nat) (Option.some Jvm.ClassFile.FieldType.int)) ∈ en_tbl := en_ix 389 (by decide +kernel) (by decide +kernel)
set_option maxRecDepth 20000 in
theorem mw_308 : (Jvm.Cond.methodLink "LedgerTests$Machine" (61 : Nat) ({ cls := "LedgerTests$Machine", name := "accountOf", desc := "(I)I" } : Jvm.MethodName)) ∈ en_tbl := en_ix 308 (by decide +kernel) (by decide +kernel)
set_option maxRecDepth 20000 in
theorem mw_309 : (Jvm.Cond.static ({ cls := "LedgerTests$Machine", name := "accountOf", desc := "(I)I" } : Jvm.MethodName)) ∈ en_tbl := en_ix 309 (by decide +kernel) (by decide +kernel)
set_option maxRecDepth 20000 in
theorem mw_310 : (Jvm.Cond.code ({ cls := "LedgerTests$Machine", name := "accountOf", desc := "(I)I" } : Jvm.MethodName) prog_4_method_11_code (1 : Nat) (Option.some Jvm.ClassFile.FieldType.int)) ∈ en_tbl := en_ix 310 (by decide +kernel) (by decide +kernel)
set_option maxRecDepth 20000 in
theorem mw_311 : (Jvm.Cond.methodLink "LedgerTests$Machine" (65 : Nat) ({ cls := "LedgerTests$State", name := "pay", desc := "(III)I" } : Jvm.MethodName)) ∈ en_tbl := en_ix 311 (by decide +kernel) (by decide +kernel)
set_option maxRecDepth 20000 in
theorem mw_312 : (Jvm.Cond.instanceMethod ({ cls := "LedgerTests$State", name := "pay", desc := "(III)I" } : Jvm.MethodName)) ∈ en_tbl := en_ix 312 (by decide +kernel) (by decide +kernel)
set_option maxRecDepth 20000 in
theorem mw_313 : (Jvm.Cond.selects "LedgerTests$State" ({ cls := "LedgerTests$State", name := "pay", desc := "(III)I" } : Jvm.MethodName) ({ cls := "LedgerTests$State", name := "pay", desc := "(III)I" } : Jvm.MethodName)) ∈ en_tbl := en_ix 313 (by decide +kernel) (by decide +kernel)
set_option maxRecDepth 20000 in
theorem mw_314 : (Jvm.Cond.code ({ cls := "LedgerTests$State", name := "pay", desc := "(III)I" } : Jvm.MethodName) prog_8_method_7_code (4 : Nat) (Option.some Jvm.ClassFile.FieldType.int)) ∈ en_tbl := en_ix 314 (by decide +kernel) (by decide +kernel)
set_option maxRecDepth 20000 in
theorem mw_390 : (Jvm.Cond.methodLink "LedgerTests$Machine" (132 : Nat) ({ cls := "LedgerTests$State", name := "addEvent", desc := "(I)V" } : Jvm.MethodName)) ∈ en_tbl := en_ix 390 (by decide +kernel) (by decide +kernel)
set_option maxRecDepth 20000 in
theorem mw_391 : (Jvm.Cond.instanceMethod ({ cls := "LedgerTests$State", name := "addEvent", desc := "(I)V" } : Jvm.MethodName)) ∈ en_tbl := en_ix 391 (by decide +kernel) (by decide +kernel)
set_option maxRecDepth 20000 in
theorem mw_392 : (Jvm.Cond.selects "LedgerTests$State" ({ cls := "LedgerTests$State", name := "addEvent", desc := "(I)V" } : Jvm.MethodName) ({ cls := "LedgerTests$State", name := "addEvent", desc := "(I)V" } : Jvm.MethodName)) ∈ en_tbl := en_ix 392 (by decide +kernel) (by decide +kernel)
set_option maxRecDepth 20000 in
theorem mw_393 : (Jvm.Cond.code ({ cls := "LedgerTests$State", name := "addEvent", desc := "(I)V" } : Jvm.MethodName) prog_8_method_14_code (3 : Nat) (Option.none : Option Jvm.ClassFile.FieldType)) ∈ en_tbl := en_ix 393 (by decide +kernel) (by decide +kernel)
set_option maxRecDepth 20000 in
theorem mw_394 : (Jvm.Cond.methodLink "LedgerTests$Machine" (135 : Nat) ({ cls := "LedgerTests$State", name := "height", desc := "()I" } : Jvm.MethodName)) ∈ en_tbl := en_ix 394 (by decide +kernel) (by decide +kernel)
set_option maxRecDepth 20000 in
theorem mw_63 : (Jvm.Cond.fieldLink "LedgerTests$Faces" (13 : Nat) "LedgerTests$Faces" "doubles" "[I") ∈ en_tbl := en_ix 63 (by decide +kernel) (by decide +kernel)
set_option maxRecDepth 20000 in
theorem mw_64 : (Jvm.Cond.fieldLink "LedgerTests$Faces" (16 : Nat) "LedgerTests$Faces" "numbers" "[I") ∈ en_tbl := en_ix 64 (by decide +kernel) (by decide +kernel)
set_option maxRecDepth 20000 in
theorem mw_81 : (Jvm.Cond.fieldLink "LedgerTests$Machine" (13 : Nat) "LedgerTests$Machine" "copies" "[I") ∈ en_tbl := en_ix 81 (by decide +kernel) (by decide +kernel)
set_option maxRecDepth 20000 in
theorem mw_301 : (Jvm.Cond.methodLink "LedgerTests$Machine" (57 : Nat) ({ cls := "LedgerTests$State", name := "keepIn", desc := "([II)Z" } : Jvm.MethodName)) ∈ en_tbl := en_ix 301 (by decide +kernel) (by decide +kernel)
set_option maxRecDepth 20000 in
theorem mw_302 : (Jvm.Cond.instanceMethod ({ cls := "LedgerTests$State", name := "keepIn", desc := "([II)Z" } : Jvm.MethodName)) ∈ en_tbl := en_ix 302 (by decide +kernel) (by decide +kernel)
set_option maxRecDepth 20000 in
theorem mw_303 : (Jvm.Cond.selects "LedgerTests$State" ({ cls := "LedgerTests$State", name := "keepIn", desc := "([II)Z" } : Jvm.MethodName) ({ cls := "LedgerTests$State", name := "keepIn", desc := "([II)Z" } : Jvm.MethodName)) ∈ en_tbl := en_ix 303 (by decide +kernel) (by decide +kernel)
set_option maxRecDepth 20000 in
theorem mw_304 : (Jvm.Cond.code ({ cls := "LedgerTests$State", name := "keepIn", desc := "([II)Z" } : Jvm.MethodName) prog_8_method_15_code (3 : Nat) (Option.some Jvm.ClassFile.FieldType.boolean)) ∈ en_tbl := en_ix 304 (by decide +kernel) (by decide +kernel)
set_option maxRecDepth 20000 in
theorem mw_319 : (Jvm.Cond.methodLink "LedgerTests$Machine" (72 : Nat) ({ cls := "LedgerTests$Machine", name := "block", desc := "(IIIIII)I" } : Jvm.MethodName)) ∈ en_tbl := en_ix 319 (by decide +kernel) (by decide +kernel)
set_option maxRecDepth 20000 in
theorem mw_321 : (Jvm.Cond.instanceMethod ({ cls := "LedgerTests$Machine", name := "block", desc := "(IIIIII)I" } : Jvm.MethodName)) ∈ en_tbl := en_ix 321 (by decide +kernel) (by decide +kernel)
set_option maxRecDepth 20000 in
theorem mp_2 : Cond.selects "LedgerTests$Machine" ⟨"LedgerTests$Machine", "block", "(IIIIII)I"⟩ ⟨"LedgerTests$Machine", "block", "(IIIIII)I"⟩ ∈ en_tbl := en_ixp 2 (by decide +kernel) (by decide +kernel)
set_option maxRecDepth 20000 in
theorem mw_322 : (Jvm.Cond.code ({ cls := "LedgerTests$Machine", name := "block", desc := "(IIIIII)I" } : Jvm.MethodName) prog_4_method_12_code (12 : Nat) (Option.some Jvm.ClassFile.FieldType.int)) ∈ en_tbl := en_ix 322 (by decide +kernel) (by decide +kernel)
set_option maxRecDepth 20000 in
theorem mw_323 : (Jvm.Cond.methodLink "LedgerTests$Machine" (53 : Nat) ({ cls := "LedgerTests$Machine", name := "threw", desc := "()Z" } : Jvm.MethodName)) ∈ en_tbl := en_ix 323 (by decide +kernel) (by decide +kernel)
set_option maxRecDepth 20000 in
theorem mw_324 : (Jvm.Cond.instanceMethod ({ cls := "LedgerTests$Machine", name := "threw", desc := "()Z" } : Jvm.MethodName)) ∈ en_tbl := en_ix 324 (by decide +kernel) (by decide +kernel)
set_option maxRecDepth 20000 in
theorem mw_325 : (Jvm.Cond.selects "LedgerTests$Machine" ({ cls := "LedgerTests$Machine", name := "threw", desc := "()Z" } : Jvm.MethodName) ({ cls := "LedgerTests$Machine", name := "threw", desc := "()Z" } : Jvm.MethodName)) ∈ en_tbl := en_ix 325 (by decide +kernel) (by decide +kernel)
set_option maxRecDepth 20000 in
theorem mw_326 : (Jvm.Cond.code ({ cls := "LedgerTests$Machine", name := "threw", desc := "()Z" } : Jvm.MethodName) prog_4_method_4_code (1 : Nat) (Option.some Jvm.ClassFile.FieldType.boolean)) ∈ en_tbl := en_ix 326 (by decide +kernel) (by decide +kernel)
set_option maxRecDepth 20000 in
theorem mw_350 : (Jvm.Cond.methodLink "LedgerTests$Machine" (75 : Nat) ({ cls := "LedgerTests$State", name := "bringFrom", desc := "([II)Z" } : Jvm.MethodName)) ∈ en_tbl := en_ix 350 (by decide +kernel) (by decide +kernel)
set_option maxRecDepth 20000 in
theorem mw_351 : (Jvm.Cond.instanceMethod ({ cls := "LedgerTests$State", name := "bringFrom", desc := "([II)Z" } : Jvm.MethodName)) ∈ en_tbl := en_ix 351 (by decide +kernel) (by decide +kernel)
set_option maxRecDepth 20000 in
theorem mw_352 : (Jvm.Cond.selects "LedgerTests$State" ({ cls := "LedgerTests$State", name := "bringFrom", desc := "([II)Z" } : Jvm.MethodName) ({ cls := "LedgerTests$State", name := "bringFrom", desc := "([II)Z" } : Jvm.MethodName)) ∈ en_tbl := en_ix 352 (by decide +kernel) (by decide +kernel)
set_option maxRecDepth 20000 in
theorem mw_353 : (Jvm.Cond.code ({ cls := "LedgerTests$State", name := "bringFrom", desc := "([II)Z" } : Jvm.MethodName) prog_8_method_16_code (3 : Nat) (Option.some Jvm.ClassFile.FieldType.boolean)) ∈ en_tbl := en_ix 353 (by decide +kernel) (by decide +kernel)
set_option maxRecDepth 20000 in
theorem mw_80 : (Jvm.Cond.fieldLink "LedgerTests$Machine" (41 : Nat) "LedgerTests$Machine" "faces" "LLedgerTests$Faces;") ∈ en_tbl := en_ix 80 (by decide +kernel) (by decide +kernel)
set_option maxRecDepth 20000 in
theorem mw_366 : (Jvm.Cond.methodLink "LedgerTests$Machine" (114 : Nat) ({ cls := "LedgerTests$Faces", name := "boundTo", desc := "(I)I" } : Jvm.MethodName)) ∈ en_tbl := en_ix 366 (by decide +kernel) (by decide +kernel)
set_option maxRecDepth 20000 in
theorem mw_367 : (Jvm.Cond.instanceMethod ({ cls := "LedgerTests$Faces", name := "boundTo", desc := "(I)I" } : Jvm.MethodName)) ∈ en_tbl := en_ix 367 (by decide +kernel) (by decide +kernel)
set_option maxRecDepth 20000 in
theorem mw_368 : (Jvm.Cond.selects "LedgerTests$Faces" ({ cls := "LedgerTests$Faces", name := "boundTo", desc := "(I)I" } : Jvm.MethodName) ({ cls := "LedgerTests$Faces", name := "boundTo", desc := "(I)I" } : Jvm.MethodName)) ∈ en_tbl := en_ix 368 (by decide +kernel) (by decide +kernel)
set_option maxRecDepth 20000 in
theorem mw_369 : (Jvm.Cond.code ({ cls := "LedgerTests$Faces", name := "boundTo", desc := "(I)I" } : Jvm.MethodName) prog_3_method_4_code (2 : Nat) (Option.some Jvm.ClassFile.FieldType.int)) ∈ en_tbl := en_ix 369 (by decide +kernel) (by decide +kernel)
set_option maxRecDepth 20000 in
theorem mw_370 : (Jvm.Cond.methodLink "LedgerTests$Machine" (119 : Nat) ({ cls := "LedgerTests$Faces", name := "doubleOf", desc := "(I)I" } : Jvm.MethodName)) ∈ en_tbl := en_ix 370 (by decide +kernel) (by decide +kernel)
set_option maxRecDepth 20000 in
theorem mw_371 : (Jvm.Cond.instanceMethod ({ cls := "LedgerTests$Faces", name := "doubleOf", desc := "(I)I" } : Jvm.MethodName)) ∈ en_tbl := en_ix 371 (by decide +kernel) (by decide +kernel)
set_option maxRecDepth 20000 in
theorem mw_372 : (Jvm.Cond.selects "LedgerTests$Faces" ({ cls := "LedgerTests$Faces", name := "doubleOf", desc := "(I)I" } : Jvm.MethodName) ({ cls := "LedgerTests$Faces", name := "doubleOf", desc := "(I)I" } : Jvm.MethodName)) ∈ en_tbl := en_ix 372 (by decide +kernel) (by decide +kernel)
set_option maxRecDepth 20000 in
theorem mw_373 : (Jvm.Cond.code ({ cls := "LedgerTests$Faces", name := "doubleOf", desc := "(I)I" } : Jvm.MethodName) prog_3_method_8_code (2 : Nat) (Option.some Jvm.ClassFile.FieldType.int)) ∈ en_tbl := en_ix 373 (by decide +kernel) (by decide +kernel)
set_option maxRecDepth 20000 in
theorem mw_297 : (Jvm.Cond.methodLink "LedgerTests$Machine" (49 : Nat) ({ cls := "LedgerTests$Machine", name := "oneCall", desc := "(IIIIII)I" } : Jvm.MethodName)) ∈ en_tbl := en_ix 297 (by decide +kernel) (by decide +kernel)
set_option maxRecDepth 20000 in
theorem mw_299 : (Jvm.Cond.instanceMethod ({ cls := "LedgerTests$Machine", name := "oneCall", desc := "(IIIIII)I" } : Jvm.MethodName)) ∈ en_tbl := en_ix 299 (by decide +kernel) (by decide +kernel)
set_option maxRecDepth 20000 in
theorem mp_1 : Cond.selects "LedgerTests$Machine" ⟨"LedgerTests$Machine", "oneCall", "(IIIIII)I"⟩ ⟨"LedgerTests$Machine", "oneCall", "(IIIIII)I"⟩ ∈ en_tbl := en_ixp 1 (by decide +kernel) (by decide +kernel)
set_option maxRecDepth 20000 in
theorem mw_300 : (Jvm.Cond.code ({ cls := "LedgerTests$Machine", name := "oneCall", desc := "(IIIIII)I" } : Jvm.MethodName) prog_4_method_10_code (8 : Nat) (Option.some Jvm.ClassFile.FieldType.int)) ∈ en_tbl := en_ix 300 (by decide +kernel) (by decide +kernel)
set_option maxRecDepth 20000 in
theorem mw_374 : (Jvm.Cond.methodLink "LedgerTests$Machine" (122 : Nat) ({ cls := "LedgerTests$Faces", name := "numberOf", desc := "(I)I" } : Jvm.MethodName)) ∈ en_tbl := en_ix 374 (by decide +kernel) (by decide +kernel)
set_option maxRecDepth 20000 in
theorem mw_375 : (Jvm.Cond.instanceMethod ({ cls := "LedgerTests$Faces", name := "numberOf", desc := "(I)I" } : Jvm.MethodName)) ∈ en_tbl := en_ix 375 (by decide +kernel) (by decide +kernel)
set_option maxRecDepth 20000 in
theorem mw_376 : (Jvm.Cond.selects "LedgerTests$Faces" ({ cls := "LedgerTests$Faces", name := "numberOf", desc := "(I)I" } : Jvm.MethodName) ({ cls := "LedgerTests$Faces", name := "numberOf", desc := "(I)I" } : Jvm.MethodName)) ∈ en_tbl := en_ix 376 (by decide +kernel) (by decide +kernel)
set_option maxRecDepth 20000 in
theorem mw_377 : (Jvm.Cond.code ({ cls := "LedgerTests$Faces", name := "numberOf", desc := "(I)I" } : Jvm.MethodName) prog_3_method_9_code (2 : Nat) (Option.some Jvm.ClassFile.FieldType.int)) ∈ en_tbl := en_ix 377 (by decide +kernel) (by decide +kernel)
set_option maxRecDepth 20000 in
theorem mw_327 : (Jvm.Cond.methodLink "LedgerTests$Machine" (78 : Nat) ({ cls := "LedgerTests$Machine", name := "begins", desc := "(II)Z" } : Jvm.MethodName)) ∈ en_tbl := en_ix 327 (by decide +kernel) (by decide +kernel)
set_option maxRecDepth 20000 in
theorem mw_329 : (Jvm.Cond.instanceMethod ({ cls := "LedgerTests$Machine", name := "begins", desc := "(II)Z" } : Jvm.MethodName)) ∈ en_tbl := en_ix 329 (by decide +kernel) (by decide +kernel)
set_option maxRecDepth 20000 in
theorem mp_3 : Cond.selects "LedgerTests$Machine" ⟨"LedgerTests$Machine", "begins", "(II)Z"⟩ ⟨"LedgerTests$Machine", "begins", "(II)Z"⟩ ∈ en_tbl := en_ixp 3 (by decide +kernel) (by decide +kernel)
set_option maxRecDepth 20000 in
theorem mw_330 : (Jvm.Cond.code ({ cls := "LedgerTests$Machine", name := "begins", desc := "(II)Z" } : Jvm.MethodName) prog_4_method_13_code (3 : Nat) (Option.some Jvm.ClassFile.FieldType.boolean)) ∈ en_tbl := en_ix 330 (by decide +kernel) (by decide +kernel)
set_option maxRecDepth 20000 in
theorem mw_354 : (Jvm.Cond.methodLink "LedgerTests$Machine" (97 : Nat) ({ cls := "LedgerTests$Machine", name := "passedOver", desc := "(III)I" } : Jvm.MethodName)) ∈ en_tbl := en_ix 354 (by decide +kernel) (by decide +kernel)
set_option maxRecDepth 20000 in
theorem mw_356 : (Jvm.Cond.instanceMethod ({ cls := "LedgerTests$Machine", name := "passedOver", desc := "(III)I" } : Jvm.MethodName)) ∈ en_tbl := en_ix 356 (by decide +kernel) (by decide +kernel)
set_option maxRecDepth 20000 in
theorem mp_5 : Cond.selects "LedgerTests$Machine" ⟨"LedgerTests$Machine", "passedOver", "(III)I"⟩ ⟨"LedgerTests$Machine", "passedOver", "(III)I"⟩ ∈ en_tbl := en_ixp 5 (by decide +kernel) (by decide +kernel)
set_option maxRecDepth 20000 in
theorem mw_357 : (Jvm.Cond.code ({ cls := "LedgerTests$Machine", name := "passedOver", desc := "(III)I" } : Jvm.MethodName) prog_4_method_14_code (7 : Nat) (Option.some Jvm.ClassFile.FieldType.int)) ∈ en_tbl := en_ix 357 (by decide +kernel) (by decide +kernel)
set_option maxRecDepth 20000 in
theorem mw_378 : (Jvm.Cond.methodLink "LedgerTests$Machine" (104 : Nat) ({ cls := "LedgerTests$Machine", name := "plainStep", desc := "(III)I" } : Jvm.MethodName)) ∈ en_tbl := en_ix 378 (by decide +kernel) (by decide +kernel)
set_option maxRecDepth 20000 in
theorem mw_380 : (Jvm.Cond.instanceMethod ({ cls := "LedgerTests$Machine", name := "plainStep", desc := "(III)I" } : Jvm.MethodName)) ∈ en_tbl := en_ix 380 (by decide +kernel) (by decide +kernel)
set_option maxRecDepth 20000 in
theorem mp_7 : Cond.selects "LedgerTests$Machine" ⟨"LedgerTests$Machine", "plainStep", "(III)I"⟩ ⟨"LedgerTests$Machine", "plainStep", "(III)I"⟩ ∈ en_tbl := en_ixp 7 (by decide +kernel) (by decide +kernel)
set_option maxRecDepth 20000 in
theorem mw_381 : (Jvm.Cond.code ({ cls := "LedgerTests$Machine", name := "plainStep", desc := "(III)I" } : Jvm.MethodName) prog_4_method_17_code (8 : Nat) (Option.some Jvm.ClassFile.FieldType.int)) ∈ en_tbl := en_ix 381 (by decide +kernel) (by decide +kernel)
set_option maxRecDepth 20000 in
theorem mw_362 : (Jvm.Cond.methodLink "LedgerTests$Machine" (100 : Nat) ({ cls := "LedgerTests$Machine", name := "asked", desc := "(IIIII)I" } : Jvm.MethodName)) ∈ en_tbl := en_ix 362 (by decide +kernel) (by decide +kernel)
set_option maxRecDepth 20000 in
theorem mw_364 : (Jvm.Cond.instanceMethod ({ cls := "LedgerTests$Machine", name := "asked", desc := "(IIIII)I" } : Jvm.MethodName)) ∈ en_tbl := en_ix 364 (by decide +kernel) (by decide +kernel)
set_option maxRecDepth 20000 in
theorem mp_6 : Cond.selects "LedgerTests$Machine" ⟨"LedgerTests$Machine", "asked", "(IIIII)I"⟩ ⟨"LedgerTests$Machine", "asked", "(IIIII)I"⟩ ∈ en_tbl := en_ixp 6 (by decide +kernel) (by decide +kernel)
set_option maxRecDepth 20000 in
theorem mw_365 : (Jvm.Cond.code ({ cls := "LedgerTests$Machine", name := "asked", desc := "(IIIII)I" } : Jvm.MethodName) prog_4_method_16_code (8 : Nat) (Option.some Jvm.ClassFile.FieldType.int)) ∈ en_tbl := en_ix 365 (by decide +kernel) (by decide +kernel)
set_option maxRecDepth 20000 in
theorem mw_343 : (Jvm.Cond.methodLink "LedgerTests$Machine" (88 : Nat) ({ cls := "java/lang/Math", name := "min", desc := "(II)I" } : Jvm.MethodName)) ∈ en_tbl := en_ix 343 (by decide +kernel) (by decide +kernel)
set_option maxRecDepth 20000 in
theorem mw_344 : (Jvm.Cond.static ({ cls := "java/lang/Math", name := "min", desc := "(II)I" } : Jvm.MethodName)) ∈ en_tbl := en_ix 344 (by decide +kernel) (by decide +kernel)
set_option maxRecDepth 20000 in
theorem mw_11 : (Jvm.Cond.initialized "java/lang/Math") ∈ en_tbl := en_ix 11 (by decide +kernel) (by decide +kernel)
set_option maxRecDepth 20000 in
theorem mw_345 : (Jvm.Cond.code ({ cls := "java/lang/Math", name := "min", desc := "(II)I" } : Jvm.MethodName) prog_11_method_69_code (2 : Nat) (Option.some Jvm.ClassFile.FieldType.int)) ∈ en_tbl := en_ix 345 (by decide +kernel) (by decide +kernel)
set_option maxRecDepth 20000 in
theorem mw_346 : (Jvm.Cond.methodLink "LedgerTests$Machine" (94 : Nat) ({ cls := "LedgerTests$Machine", name := "tried", desc := "(IIIIII)I" } : Jvm.MethodName)) ∈ en_tbl := en_ix 346 (by decide +kernel) (by decide +kernel)
set_option maxRecDepth 20000 in
theorem mw_348 : (Jvm.Cond.instanceMethod ({ cls := "LedgerTests$Machine", name := "tried", desc := "(IIIIII)I" } : Jvm.MethodName)) ∈ en_tbl := en_ix 348 (by decide +kernel) (by decide +kernel)
set_option maxRecDepth 20000 in
theorem mp_4 : Cond.selects "LedgerTests$Machine" ⟨"LedgerTests$Machine", "tried", "(IIIIII)I"⟩ ⟨"LedgerTests$Machine", "tried", "(IIIIII)I"⟩ ∈ en_tbl := en_ixp 4 (by decide +kernel) (by decide +kernel)
set_option maxRecDepth 20000 in
theorem mw_349 : (Jvm.Cond.code ({ cls := "LedgerTests$Machine", name := "tried", desc := "(IIIIII)I" } : Jvm.MethodName) prog_4_method_15_code (9 : Nat) (Option.some Jvm.ClassFile.FieldType.int)) ∈ en_tbl := en_ix 349 (by decide +kernel) (by decide +kernel)
set_option maxRecDepth 20000 in
theorem mw_315 : (Jvm.Cond.methodLink "LedgerTests$Machine" (69 : Nat) ({ cls := "LedgerTests$Code", name := "size", desc := "(I)I" } : Jvm.MethodName)) ∈ en_tbl := en_ix 315 (by decide +kernel) (by decide +kernel)
set_option maxRecDepth 20000 in
theorem mw_316 : (Jvm.Cond.instanceMethod ({ cls := "LedgerTests$Code", name := "size", desc := "(I)I" } : Jvm.MethodName)) ∈ en_tbl := en_ix 316 (by decide +kernel) (by decide +kernel)
set_option maxRecDepth 20000 in
theorem mw_317 : (Jvm.Cond.selects "LedgerTests$Code" ({ cls := "LedgerTests$Code", name := "size", desc := "(I)I" } : Jvm.MethodName) ({ cls := "LedgerTests$Code", name := "size", desc := "(I)I" } : Jvm.MethodName)) ∈ en_tbl := en_ix 317 (by decide +kernel) (by decide +kernel)
set_option maxRecDepth 20000 in
theorem mw_318 : (Jvm.Cond.code ({ cls := "LedgerTests$Code", name := "size", desc := "(I)I" } : Jvm.MethodName) prog_2_method_7_code (2 : Nat) (Option.some Jvm.ClassFile.FieldType.int)) ∈ en_tbl := en_ix 318 (by decide +kernel) (by decide +kernel)
set_option maxRecDepth 20000 in
theorem mw_86 : (Jvm.Cond.fieldLink "LedgerTests$Machine" (30 : Nat) "LedgerTests$Machine" "answered" "I") ∈ en_tbl := en_ix 86 (by decide +kernel) (by decide +kernel)
set_option maxRecDepth 20000 in
theorem mw_288 : (Jvm.Cond.methodLink "LedgerTests" (97 : Nat) ({ cls := "LedgerTests$State", name := "isAccount", desc := "(I)Z" } : Jvm.MethodName)) ∈ en_tbl := en_ix 288 (by decide +kernel) (by decide +kernel)
set_option maxRecDepth 20000 in
theorem mw_199 : (Jvm.Cond.fieldLink "LedgerTests" (35 : Nat) "LedgerTests" "machine" "LLedgerTests$Machine;") ∈ en_tbl := en_ix 199 (by decide +kernel) (by decide +kernel)
set_option maxRecDepth 20000 in
theorem mw_289 : (Jvm.Cond.methodLink "LedgerTests" (100 : Nat) ({ cls := "LedgerTests$Machine", name := "callFromOutside", desc := "(IIII)V" } : Jvm.MethodName)) ∈ en_tbl := en_ix 289 (by decide +kernel) (by decide +kernel)
set_option maxRecDepth 20000 in
theorem mw_290 : (Jvm.Cond.instanceMethod ({ cls := "LedgerTests$Machine", name := "callFromOutside", desc := "(IIII)V" } : Jvm.MethodName)) ∈ en_tbl := en_ix 290 (by decide +kernel) (by decide +kernel)
set_option maxRecDepth 20000 in
theorem mw_291 : (Jvm.Cond.selects "LedgerTests$Machine" ({ cls := "LedgerTests$Machine", name := "callFromOutside", desc := "(IIII)V" } : Jvm.MethodName) ({ cls := "LedgerTests$Machine", name := "callFromOutside", desc := "(IIII)V" } : Jvm.MethodName)) ∈ en_tbl := en_ix 291 (by decide +kernel) (by decide +kernel)
set_option maxRecDepth 20000 in
theorem mw_292 : (Jvm.Cond.code ({ cls := "LedgerTests$Machine", name := "callFromOutside", desc := "(IIII)V" } : Jvm.MethodName) prog_4_method_8_code (6 : Nat) (Option.none : Option Jvm.ClassFile.FieldType)) ∈ en_tbl := en_ix 292 (by decide +kernel) (by decide +kernel)
set_option maxRecDepth 20000 in
theorem mw_395 : (Jvm.Cond.methodLink "LedgerTests" (104 : Nat) ({ cls := "LedgerTests$Machine", name := "threw", desc := "()Z" } : Jvm.MethodName)) ∈ en_tbl := en_ix 395 (by decide +kernel) (by decide +kernel)
set_option maxRecDepth 20000 in
theorem mw_396 : (Jvm.Cond.methodLink "LedgerTests" (108 : Nat) ({ cls := "LedgerTests$Machine", name := "thrown", desc := "()I" } : Jvm.MethodName)) ∈ en_tbl := en_ix 396 (by decide +kernel) (by decide +kernel)
set_option maxRecDepth 20000 in
theorem mw_397 : (Jvm.Cond.instanceMethod ({ cls := "LedgerTests$Machine", name := "thrown", desc := "()I" } : Jvm.MethodName)) ∈ en_tbl := en_ix 397 (by decide +kernel) (by decide +kernel)
set_option maxRecDepth 20000 in
theorem mw_398 : (Jvm.Cond.selects "LedgerTests$Machine" ({ cls := "LedgerTests$Machine", name := "thrown", desc := "()I" } : Jvm.MethodName) ({ cls := "LedgerTests$Machine", name := "thrown", desc := "()I" } : Jvm.MethodName)) ∈ en_tbl := en_ix 398 (by decide +kernel) (by decide +kernel)
set_option maxRecDepth 20000 in
theorem mw_399 : (Jvm.Cond.code ({ cls := "LedgerTests$Machine", name := "thrown", desc := "()I" } : Jvm.MethodName) prog_4_method_5_code (1 : Nat) (Option.some Jvm.ClassFile.FieldType.int)) ∈ en_tbl := en_ix 399 (by decide +kernel) (by decide +kernel)
set_option maxRecDepth 20000 in
theorem mw_404 : (Jvm.Cond.methodLink "LedgerTests" (111 : Nat) ({ cls := "LedgerTests$Machine", name := "answered", desc := "()I" } : Jvm.MethodName)) ∈ en_tbl := en_ix 404 (by decide +kernel) (by decide +kernel)
set_option maxRecDepth 20000 in
theorem mw_405 : (Jvm.Cond.instanceMethod ({ cls := "LedgerTests$Machine", name := "answered", desc := "()I" } : Jvm.MethodName)) ∈ en_tbl := en_ix 405 (by decide +kernel) (by decide +kernel)
set_option maxRecDepth 20000 in
theorem mw_406 : (Jvm.Cond.selects "LedgerTests$Machine" ({ cls := "LedgerTests$Machine", name := "answered", desc := "()I" } : Jvm.MethodName) ({ cls := "LedgerTests$Machine", name := "answered", desc := "()I" } : Jvm.MethodName)) ∈ en_tbl := en_ix 406 (by decide +kernel) (by decide +kernel)
set_option maxRecDepth 20000 in
theorem mw_407 : (Jvm.Cond.code ({ cls := "LedgerTests$Machine", name := "answered", desc := "()I" } : Jvm.MethodName) prog_4_method_3_code (1 : Nat) (Option.some Jvm.ClassFile.FieldType.int)) ∈ en_tbl := en_ix 407 (by decide +kernel) (by decide +kernel)
set_option maxRecDepth 20000 in
theorem mw_408 : (Jvm.Cond.methodLink "LedgerTests" (114 : Nat) ({ cls := "LedgerTests$Machine", name := "lastCause", desc := "()I" } : Jvm.MethodName)) ∈ en_tbl := en_ix 408 (by decide +kernel) (by decide +kernel)
set_option maxRecDepth 20000 in
theorem mw_409 : (Jvm.Cond.instanceMethod ({ cls := "LedgerTests$Machine", name := "lastCause", desc := "()I" } : Jvm.MethodName)) ∈ en_tbl := en_ix 409 (by decide +kernel) (by decide +kernel)
set_option maxRecDepth 20000 in
theorem mw_410 : (Jvm.Cond.selects "LedgerTests$Machine" ({ cls := "LedgerTests$Machine", name := "lastCause", desc := "()I" } : Jvm.MethodName) ({ cls := "LedgerTests$Machine", name := "lastCause", desc := "()I" } : Jvm.MethodName)) ∈ en_tbl := en_ix 410 (by decide +kernel) (by decide +kernel)
set_option maxRecDepth 20000 in
theorem mw_411 : (Jvm.Cond.code ({ cls := "LedgerTests$Machine", name := "lastCause", desc := "()I" } : Jvm.MethodName) prog_4_method_6_code (1 : Nat) (Option.some Jvm.ClassFile.FieldType.int)) ∈ en_tbl := en_ix 411 (by decide +kernel) (by decide +kernel)
set_option maxRecDepth 20000 in
theorem mw_412 : (Jvm.Cond.methodLink "LedgerTests" (117 : Nat) ({ cls := "LedgerTests$Machine", name := "stepsDone", desc := "()I" } : Jvm.MethodName)) ∈ en_tbl := en_ix 412 (by decide +kernel) (by decide +kernel)
set_option maxRecDepth 20000 in
theorem mw_413 : (Jvm.Cond.instanceMethod ({ cls := "LedgerTests$Machine", name := "stepsDone", desc := "()I" } : Jvm.MethodName)) ∈ en_tbl := en_ix 413 (by decide +kernel) (by decide +kernel)
set_option maxRecDepth 20000 in
theorem mw_414 : (Jvm.Cond.selects "LedgerTests$Machine" ({ cls := "LedgerTests$Machine", name := "stepsDone", desc := "()I" } : Jvm.MethodName) ({ cls := "LedgerTests$Machine", name := "stepsDone", desc := "()I" } : Jvm.MethodName)) ∈ en_tbl := en_ix 414 (by decide +kernel) (by decide +kernel)
set_option maxRecDepth 20000 in
theorem mw_415 : (Jvm.Cond.code ({ cls := "LedgerTests$Machine", name := "stepsDone", desc := "()I" } : Jvm.MethodName) prog_4_method_7_code (1 : Nat) (Option.some Jvm.ClassFile.FieldType.int)) ∈ en_tbl := en_ix 415 (by decide +kernel) (by decide +kernel)
set_option maxRecDepth 20000 in
theorem mw_423 : (Jvm.Cond.fieldLink "LedgerTests$Scripts" (27 : Nat) "LedgerTests$Scripts" "WORDS" "[J") ∈ en_tbl := en_ix 423 (by decide +kernel) (by decide +kernel)
set_option maxRecDepth 20000 in
theorem mw_112 : (Jvm.Cond.fieldLink "LedgerTests$Scripts" (11 : Nat) "LedgerTests$Scripts" "sizes" "[I") ∈ en_tbl := en_ix 112 (by decide +kernel) (by decide +kernel)
set_option maxRecDepth 20000 in
theorem mw_113 : (Jvm.Cond.fieldLink "LedgerTests$Scripts" (15 : Nat) "LedgerTests$Scripts" "words" "[I") ∈ en_tbl := en_ix 113 (by decide +kernel) (by decide +kernel)
set_option maxRecDepth 20000 in
theorem mw_114 : (Jvm.Cond.fieldLink "LedgerTests$Scripts" (18 : Nat) "LedgerTests$Scripts" "as" "[I") ∈ en_tbl := en_ix 114 (by decide +kernel) (by decide +kernel)
set_option maxRecDepth 20000 in
theorem mw_115 : (Jvm.Cond.fieldLink "LedgerTests$Scripts" (21 : Nat) "LedgerTests$Scripts" "bs" "[I") ∈ en_tbl := en_ix 115 (by decide +kernel) (by decide +kernel)
set_option maxRecDepth 20000 in
theorem mw_116 : (Jvm.Cond.fieldLink "LedgerTests$Scripts" (24 : Nat) "LedgerTests$Scripts" "cs" "[I") ∈ en_tbl := en_ix 116 (by decide +kernel) (by decide +kernel)
set_option maxRecDepth 20000 in
theorem mw_420 : (Jvm.Cond.methodLink "LedgerTests" (120 : Nat) ({ cls := "LedgerTests$Scripts", name := "wordPlace", desc := "(J)I" } : Jvm.MethodName)) ∈ en_tbl := en_ix 420 (by decide +kernel) (by decide +kernel)
set_option maxRecDepth 20000 in
theorem mw_6 : (Jvm.Cond.initialized "LedgerTests$Scripts") ∈ en_tbl := en_ix 6 (by decide +kernel) (by decide +kernel)
set_option maxRecDepth 20000 in
theorem mw_421 : (Jvm.Cond.static ({ cls := "LedgerTests$Scripts", name := "wordPlace", desc := "(J)I" } : Jvm.MethodName)) ∈ en_tbl := en_ix 421 (by decide +kernel) (by decide +kernel)
set_option maxRecDepth 20000 in
theorem mw_422 : (Jvm.Cond.code ({ cls := "LedgerTests$Scripts", name := "wordPlace", desc := "(J)I" } : Jvm.MethodName) prog_7_method_3_code (3 : Nat) (Option.some Jvm.ClassFile.FieldType.int)) ∈ en_tbl := en_ix 422 (by decide +kernel) (by decide +kernel)
set_option maxRecDepth 20000 in
theorem mw_425 : (Jvm.Cond.methodLink "LedgerTests" (124 : Nat) ({ cls := "LedgerTests$Scripts", name := "isTest", desc := "(I)Z" } : Jvm.MethodName)) ∈ en_tbl := en_ix 425 (by decide +kernel) (by decide +kernel)
set_option maxRecDepth 20000 in
theorem mw_426 : (Jvm.Cond.static ({ cls := "LedgerTests$Scripts", name := "isTest", desc := "(I)Z" } : Jvm.MethodName)) ∈ en_tbl := en_ix 426 (by decide +kernel) (by decide +kernel)
set_option maxRecDepth 20000 in
theorem mw_427 : (Jvm.Cond.code ({ cls := "LedgerTests$Scripts", name := "isTest", desc := "(I)Z" } : Jvm.MethodName) prog_7_method_2_code (1 : Nat) (Option.some Jvm.ClassFile.FieldType.boolean)) ∈ en_tbl := en_ix 427 (by decide +kernel) (by decide +kernel)
set_option maxRecDepth 20000 in
theorem mw_200 : (Jvm.Cond.fieldLink "LedgerTests" (42 : Nat) "LedgerTests" "scripts" "LLedgerTests$Scripts;") ∈ en_tbl := en_ix 200 (by decide +kernel) (by decide +kernel)
set_option maxRecDepth 20000 in
theorem mw_428 : (Jvm.Cond.methodLink "LedgerTests" (127 : Nat) ({ cls := "LedgerTests$Scripts", name := "append", desc := "(IIIII)I" } : Jvm.MethodName)) ∈ en_tbl := en_ix 428 (by decide +kernel) (by decide +kernel)
set_option maxRecDepth 20000 in
theorem mw_429 : (Jvm.Cond.instanceMethod ({ cls := "LedgerTests$Scripts", name := "append", desc := "(IIIII)I" } : Jvm.MethodName)) ∈ en_tbl := en_ix 429 (by decide +kernel) (by decide +kernel)
set_option maxRecDepth 20000 in
theorem mw_430 : (Jvm.Cond.selects "LedgerTests$Scripts" ({ cls := "LedgerTests$Scripts", name := "append", desc := "(IIIII)I" } : Jvm.MethodName) ({ cls := "LedgerTests$Scripts", name := "append", desc := "(IIIII)I" } : Jvm.MethodName)) ∈ en_tbl := en_ix 430 (by decide +kernel) (by decide +kernel)
set_option maxRecDepth 20000 in
theorem mw_431 : (Jvm.Cond.code ({ cls := "LedgerTests$Scripts", name := "append", desc := "(IIIII)I" } : Jvm.MethodName) prog_7_method_6_code (7 : Nat) (Option.some Jvm.ClassFile.FieldType.int)) ∈ en_tbl := en_ix 431 (by decide +kernel) (by decide +kernel)
set_option maxRecDepth 20000 in
theorem mw_436 : (Jvm.Cond.methodLink "LedgerTests" (130 : Nat) ({ cls := "LedgerTests$Scripts", name := "empty", desc := "(I)I" } : Jvm.MethodName)) ∈ en_tbl := en_ix 436 (by decide +kernel) (by decide +kernel)
set_option maxRecDepth 20000 in
theorem mw_437 : (Jvm.Cond.instanceMethod ({ cls := "LedgerTests$Scripts", name := "empty", desc := "(I)I" } : Jvm.MethodName)) ∈ en_tbl := en_ix 437 (by decide +kernel) (by decide +kernel)
set_option maxRecDepth 20000 in
theorem mw_438 : (Jvm.Cond.selects "LedgerTests$Scripts" ({ cls := "LedgerTests$Scripts", name := "empty", desc := "(I)I" } : Jvm.MethodName) ({ cls := "LedgerTests$Scripts", name := "empty", desc := "(I)I" } : Jvm.MethodName)) ∈ en_tbl := en_ix 438 (by decide +kernel) (by decide +kernel)
set_option maxRecDepth 20000 in
theorem mw_439 : (Jvm.Cond.code ({ cls := "LedgerTests$Scripts", name := "empty", desc := "(I)I" } : Jvm.MethodName) prog_7_method_7_code (3 : Nat) (Option.some Jvm.ClassFile.FieldType.int)) ∈ en_tbl := en_ix 439 (by decide +kernel) (by decide +kernel)
set_option maxRecDepth 20000 in
theorem mw_134 : (Jvm.Cond.fieldLink "LedgerTests$Runner" (34 : Nat) "LedgerTests$Runner" "state" "LLedgerTests$State;") ∈ en_tbl := en_ix 134 (by decide +kernel) (by decide +kernel)
set_option maxRecDepth 20000 in
theorem mw_139 : (Jvm.Cond.fieldLink "LedgerTests$Runner" (13 : Nat) "LedgerTests$Runner" "copies" "[I") ∈ en_tbl := en_ix 139 (by decide +kernel) (by decide +kernel)
set_option maxRecDepth 20000 in
theorem mw_452 : (Jvm.Cond.methodLink "LedgerTests$Runner" (87 : Nat) ({ cls := "LedgerTests$State", name := "keepIn", desc := "([II)Z" } : Jvm.MethodName)) ∈ en_tbl := en_ix 452 (by decide +kernel) (by decide +kernel)
set_option maxRecDepth 20000 in
theorem mw_140 : (Jvm.Cond.fieldLink "LedgerTests$Runner" (17 : Nat) "LedgerTests$Runner" "by" "I") ∈ en_tbl := en_ix 140 (by decide +kernel) (by decide +kernel)
set_option maxRecDepth 20000 in
theorem mw_141 : (Jvm.Cond.fieldLink "LedgerTests$Runner" (21 : Nat) "LedgerTests$Runner" "byCoins" "I") ∈ en_tbl := en_ix 141 (by decide +kernel) (by decide +kernel)
set_option maxRecDepth 20000 in
theorem mw_142 : (Jvm.Cond.fieldLink "LedgerTests$Runner" (24 : Nat) "LedgerTests$Runner" "forked" "I") ∈ en_tbl := en_ix 142 (by decide +kernel) (by decide +kernel)
set_option maxRecDepth 20000 in
theorem mw_453 : (Jvm.Cond.methodLink "LedgerTests$Runner" (90 : Nat) ({ cls := "LedgerTests$State", name := "eventCount", desc := "()I" } : Jvm.MethodName)) ∈ en_tbl := en_ix 453 (by decide +kernel) (by decide +kernel)
set_option maxRecDepth 20000 in
theorem mw_454 : (Jvm.Cond.instanceMethod ({ cls := "LedgerTests$State", name := "eventCount", desc := "()I" } : Jvm.MethodName)) ∈ en_tbl := en_ix 454 (by decide +kernel) (by decide +kernel)
set_option maxRecDepth 20000 in
theorem mw_455 : (Jvm.Cond.selects "LedgerTests$State" ({ cls := "LedgerTests$State", name := "eventCount", desc := "()I" } : Jvm.MethodName) ({ cls := "LedgerTests$State", name := "eventCount", desc := "()I" } : Jvm.MethodName)) ∈ en_tbl := en_ix 455 (by decide +kernel) (by decide +kernel)
set_option maxRecDepth 20000 in
theorem mw_456 : (Jvm.Cond.code ({ cls := "LedgerTests$State", name := "eventCount", desc := "()I" } : Jvm.MethodName) prog_8_method_12_code (1 : Nat) (Option.some Jvm.ClassFile.FieldType.int)) ∈ en_tbl := en_ix 456 (by decide +kernel) (by decide +kernel)
set_option maxRecDepth 20000 in
theorem mw_143 : (Jvm.Cond.fieldLink "LedgerTests$Runner" (27 : Nat) "LedgerTests$Runner" "eventsAtStart" "I") ∈ en_tbl := en_ix 143 (by decide +kernel) (by decide +kernel)
set_option maxRecDepth 20000 in
theorem mw_144 : (Jvm.Cond.fieldLink "LedgerTests$Runner" (30 : Nat) "LedgerTests$Runner" "called" "Z") ∈ en_tbl := en_ix 144 (by decide +kernel) (by decide +kernel)
set_option maxRecDepth 20000 in
theorem mw_500 : (Jvm.Cond.methodLink "LedgerTests$Runner" (134 : Nat) ({ cls := "LedgerTests$State", name := "isAccount", desc := "(I)Z" } : Jvm.MethodName)) ∈ en_tbl := en_ix 500 (by decide +kernel) (by decide +kernel)
set_option maxRecDepth 20000 in
theorem mw_137 : (Jvm.Cond.fieldLink "LedgerTests$Runner" (46 : Nat) "LedgerTests$Runner" "machine" "LLedgerTests$Machine;") ∈ en_tbl := en_ix 137 (by decide +kernel) (by decide +kernel)
set_option maxRecDepth 20000 in
theorem mw_487 : (Jvm.Cond.methodLink "LedgerTests$Runner" (114 : Nat) ({ cls := "LedgerTests$Machine", name := "threw", desc := "()Z" } : Jvm.MethodName)) ∈ en_tbl := en_ix 487 (by decide +kernel) (by decide +kernel)
set_option maxRecDepth 20000 in
theorem mw_506 : (Jvm.Cond.methodLink "LedgerTests$Runner" (165 : Nat) ({ cls := "LedgerTests$Machine", name := "thrown", desc := "()I" } : Jvm.MethodName)) ∈ en_tbl := en_ix 506 (by decide +kernel) (by decide +kernel)
set_option maxRecDepth 20000 in
theorem mw_507 : (Jvm.Cond.methodLink "LedgerTests$Runner" (168 : Nat) ({ cls := "LedgerTests$Machine", name := "lastCause", desc := "()I" } : Jvm.MethodName)) ∈ en_tbl := en_ix 507 (by decide +kernel) (by decide +kernel)
set_option maxRecDepth 20000 in
theorem mw_135 : (Jvm.Cond.fieldLink "LedgerTests$Runner" (38 : Nat) "LedgerTests$Runner" "code" "LLedgerTests$Code;") ∈ en_tbl := en_ix 135 (by decide +kernel) (by decide +kernel)
set_option maxRecDepth 20000 in
theorem mw_517 : (Jvm.Cond.methodLink "LedgerTests$Runner" (171 : Nat) ({ cls := "LedgerTests$Code", name := "isContract", desc := "(I)Z" } : Jvm.MethodName)) ∈ en_tbl := en_ix 517 (by decide +kernel) (by decide +kernel)
set_option maxRecDepth 20000 in
theorem mw_518 : (Jvm.Cond.instanceMethod ({ cls := "LedgerTests$Code", name := "isContract", desc := "(I)Z" } : Jvm.MethodName)) ∈ en_tbl := en_ix 518 (by decide +kernel) (by decide +kernel)
set_option maxRecDepth 20000 in
theorem mw_519 : (Jvm.Cond.selects "LedgerTests$Code" ({ cls := "LedgerTests$Code", name := "isContract", desc := "(I)Z" } : Jvm.MethodName) ({ cls := "LedgerTests$Code", name := "isContract", desc := "(I)Z" } : Jvm.MethodName)) ∈ en_tbl := en_ix 519 (by decide +kernel) (by decide +kernel)
set_option maxRecDepth 20000 in
theorem mw_520 : (Jvm.Cond.code ({ cls := "LedgerTests$Code", name := "isContract", desc := "(I)Z" } : Jvm.MethodName) prog_2_method_3_code (2 : Nat) (Option.some Jvm.ClassFile.FieldType.boolean)) ∈ en_tbl := en_ix 520 (by decide +kernel) (by decide +kernel)
set_option maxRecDepth 20000 in
theorem mw_521 : (Jvm.Cond.methodLink "LedgerTests$Runner" (174 : Nat) ({ cls := "LedgerTests$State", name := "isCell", desc := "(I)Z" } : Jvm.MethodName)) ∈ en_tbl := en_ix 521 (by decide +kernel) (by decide +kernel)
set_option maxRecDepth 20000 in
theorem mw_522 : (Jvm.Cond.methodLink "LedgerTests$Runner" (177 : Nat) ({ cls := "LedgerTests$State", name := "cellOf", desc := "(II)I" } : Jvm.MethodName)) ∈ en_tbl := en_ix 522 (by decide +kernel) (by decide +kernel)
set_option maxRecDepth 20000 in
theorem mw_527 : (Jvm.Cond.methodLink "LedgerTests$Runner" (180 : Nat) ({ cls := "LedgerTests$State", name := "eventAt", desc := "(I)I" } : Jvm.MethodName)) ∈ en_tbl := en_ix 527 (by decide +kernel) (by decide +kernel)
set_option maxRecDepth 20000 in
theorem mw_528 : (Jvm.Cond.instanceMethod ({ cls := "LedgerTests$State", name := "eventAt", desc := "(I)I" } : Jvm.MethodName)) ∈ en_tbl := en_ix 528 (by decide +kernel) (by decide +kernel)
set_option maxRecDepth 20000 in
theorem mw_529 : (Jvm.Cond.selects "LedgerTests$State" ({ cls := "LedgerTests$State", name := "eventAt", desc := "(I)I" } : Jvm.MethodName) ({ cls := "LedgerTests$State", name := "eventAt", desc := "(I)I" } : Jvm.MethodName)) ∈ en_tbl := en_ix 529 (by decide +kernel) (by decide +kernel)
set_option maxRecDepth 20000 in
theorem mw_530 : (Jvm.Cond.code ({ cls := "LedgerTests$State", name := "eventAt", desc := "(I)I" } : Jvm.MethodName) prog_8_method_13_code (3 : Nat) (Option.some Jvm.ClassFile.FieldType.int)) ∈ en_tbl := en_ix 530 (by decide +kernel) (by decide +kernel)
set_option maxRecDepth 20000 in
theorem mw_540 : (Jvm.Cond.methodLink "LedgerTests$Runner" (183 : Nat) ({ cls := "LedgerTests$Runner", name := "isFork", desc := "(I)Z" } : Jvm.MethodName)) ∈ en_tbl := en_ix 540 (by decide +kernel) (by decide +kernel)
set_option maxRecDepth 20000 in
theorem mw_7 : (Jvm.Cond.initialized "LedgerTests$Runner") ∈ en_tbl := en_ix 7 (by decide +kernel) (by decide +kernel)
set_option maxRecDepth 20000 in
theorem mw_541 : (Jvm.Cond.static ({ cls := "LedgerTests$Runner", name := "isFork", desc := "(I)Z" } : Jvm.MethodName)) ∈ en_tbl := en_ix 541 (by decide +kernel) (by decide +kernel)
set_option maxRecDepth 20000 in
theorem mw_542 : (Jvm.Cond.code ({ cls := "LedgerTests$Runner", name := "isFork", desc := "(I)Z" } : Jvm.MethodName) prog_6_method_11_code (1 : Nat) (Option.some Jvm.ClassFile.FieldType.boolean)) ∈ en_tbl := en_ix 542 (by decide +kernel) (by decide +kernel)
set_option maxRecDepth 20000 in
theorem mw_547 : (Jvm.Cond.methodLink "LedgerTests$Runner" (83 : Nat) ({ cls := "LedgerTests$State", name := "bringFrom", desc := "([II)Z" } : Jvm.MethodName)) ∈ en_tbl := en_ix 547 (by decide +kernel) (by decide +kernel)
set_option maxRecDepth 20000 in
theorem mw_136 : (Jvm.Cond.fieldLink "LedgerTests$Runner" (42 : Nat) "LedgerTests$Runner" "faces" "LLedgerTests$Faces;") ∈ en_tbl := en_ix 136 (by decide +kernel) (by decide +kernel)
set_option maxRecDepth 20000 in
theorem mw_548 : (Jvm.Cond.methodLink "LedgerTests$Runner" (159 : Nat) ({ cls := "LedgerTests$Faces", name := "putDouble", desc := "(III)Z" } : Jvm.MethodName)) ∈ en_tbl := en_ix 548 (by decide +kernel) (by decide +kernel)
set_option maxRecDepth 20000 in
theorem mw_549 : (Jvm.Cond.instanceMethod ({ cls := "LedgerTests$Faces", name := "putDouble", desc := "(III)Z" } : Jvm.MethodName)) ∈ en_tbl := en_ix 549 (by decide +kernel) (by decide +kernel)
set_option maxRecDepth 20000 in
theorem mw_550 : (Jvm.Cond.selects "LedgerTests$Faces" ({ cls := "LedgerTests$Faces", name := "putDouble", desc := "(III)Z" } : Jvm.MethodName) ({ cls := "LedgerTests$Faces", name := "putDouble", desc := "(III)Z" } : Jvm.MethodName)) ∈ en_tbl := en_ix 550 (by decide +kernel) (by decide +kernel)
set_option maxRecDepth 20000 in
theorem mw_551 : (Jvm.Cond.code ({ cls := "LedgerTests$Faces", name := "putDouble", desc := "(III)Z" } : Jvm.MethodName) prog_3_method_6_code (4 : Nat) (Option.some Jvm.ClassFile.FieldType.boolean)) ∈ en_tbl := en_ix 551 (by decide +kernel) (by decide +kernel)
set_option maxRecDepth 20000 in
theorem mw_138 : (Jvm.Cond.fieldLink "LedgerTests$Runner" (50 : Nat) "LedgerTests$Runner" "scripts" "LLedgerTests$Scripts;") ∈ en_tbl := en_ix 138 (by decide +kernel) (by decide +kernel)
set_option maxRecDepth 20000 in
theorem mw_473 : (Jvm.Cond.methodLink "LedgerTests$Runner" (94 : Nat) ({ cls := "LedgerTests$Scripts", name := "a", desc := "(I)I" } : Jvm.MethodName)) ∈ en_tbl := en_ix 473 (by decide +kernel) (by decide +kernel)
set_option maxRecDepth 20000 in
theorem mw_474 : (Jvm.Cond.instanceMethod ({ cls := "LedgerTests$Scripts", name := "a", desc := "(I)I" } : Jvm.MethodName)) ∈ en_tbl := en_ix 474 (by decide +kernel) (by decide +kernel)
set_option maxRecDepth 20000 in
theorem mw_475 : (Jvm.Cond.selects "LedgerTests$Scripts" ({ cls := "LedgerTests$Scripts", name := "a", desc := "(I)I" } : Jvm.MethodName) ({ cls := "LedgerTests$Scripts", name := "a", desc := "(I)I" } : Jvm.MethodName)) ∈ en_tbl := en_ix 475 (by decide +kernel) (by decide +kernel)
set_option maxRecDepth 20000 in
theorem mw_476 : (Jvm.Cond.code ({ cls := "LedgerTests$Scripts", name := "a", desc := "(I)I" } : Jvm.MethodName) prog_7_method_10_code (2 : Nat) (Option.some Jvm.ClassFile.FieldType.int)) ∈ en_tbl := en_ix 476 (by decide +kernel) (by decide +kernel)
set_option maxRecDepth 20000 in
theorem mw_477 : (Jvm.Cond.methodLink "LedgerTests$Runner" (97 : Nat) ({ cls := "LedgerTests$Scripts", name := "b", desc := "(I)I" } : Jvm.MethodName)) ∈ en_tbl := en_ix 477 (by decide +kernel) (by decide +kernel)
set_option maxRecDepth 20000 in
theorem mw_478 : (Jvm.Cond.instanceMethod ({ cls := "LedgerTests$Scripts", name := "b", desc := "(I)I" } : Jvm.MethodName)) ∈ en_tbl := en_ix 478 (by decide +kernel) (by decide +kernel)
set_option maxRecDepth 20000 in
theorem mw_479 : (Jvm.Cond.selects "LedgerTests$Scripts" ({ cls := "LedgerTests$Scripts", name := "b", desc := "(I)I" } : Jvm.MethodName) ({ cls := "LedgerTests$Scripts", name := "b", desc := "(I)I" } : Jvm.MethodName)) ∈ en_tbl := en_ix 479 (by decide +kernel) (by decide +kernel)
set_option maxRecDepth 20000 in
theorem mw_480 : (Jvm.Cond.code ({ cls := "LedgerTests$Scripts", name := "b", desc := "(I)I" } : Jvm.MethodName) prog_7_method_11_code (2 : Nat) (Option.some Jvm.ClassFile.FieldType.int)) ∈ en_tbl := en_ix 480 (by decide +kernel) (by decide +kernel)
set_option maxRecDepth 20000 in
theorem mw_465 : (Jvm.Cond.methodLink "LedgerTests$Runner" (67 : Nat) ({ cls := "LedgerTests$Scripts", name := "word", desc := "(I)I" } : Jvm.MethodName)) ∈ en_tbl := en_ix 465 (by decide +kernel) (by decide +kernel)
set_option maxRecDepth 20000 in
theorem mw_466 : (Jvm.Cond.instanceMethod ({ cls := "LedgerTests$Scripts", name := "word", desc := "(I)I" } : Jvm.MethodName)) ∈ en_tbl := en_ix 466 (by decide +kernel) (by decide +kernel)
set_option maxRecDepth 20000 in
theorem mw_467 : (Jvm.Cond.selects "LedgerTests$Scripts" ({ cls := "LedgerTests$Scripts", name := "word", desc := "(I)I" } : Jvm.MethodName) ({ cls := "LedgerTests$Scripts", name := "word", desc := "(I)I" } : Jvm.MethodName)) ∈ en_tbl := en_ix 467 (by decide +kernel) (by decide +kernel)
set_option maxRecDepth 20000 in
theorem mw_468 : (Jvm.Cond.code ({ cls := "LedgerTests$Scripts", name := "word", desc := "(I)I" } : Jvm.MethodName) prog_7_method_9_code (2 : Nat) (Option.some Jvm.ClassFile.FieldType.int)) ∈ en_tbl := en_ix 468 (by decide +kernel) (by decide +kernel)
set_option maxRecDepth 20000 in
theorem mw_496 : (Jvm.Cond.methodLink "LedgerTests$Runner" (121 : Nat) ({ cls := "LedgerTests$Runner", name := "callsAreBy", desc := "(II)Z" } : Jvm.MethodName)) ∈ en_tbl := en_ix 496 (by decide +kernel) (by decide +kernel)
set_option maxRecDepth 20000 in
theorem mw_498 : (Jvm.Cond.instanceMethod ({ cls := "LedgerTests$Runner", name := "callsAreBy", desc := "(II)Z" } : Jvm.MethodName)) ∈ en_tbl := en_ix 498 (by decide +kernel) (by decide +kernel)
set_option maxRecDepth 20000 in
theorem mp_12 : Cond.selects "LedgerTests$Runner" ⟨"LedgerTests$Runner", "callsAreBy", "(II)Z"⟩ ⟨"LedgerTests$Runner", "callsAreBy", "(II)Z"⟩ ∈ en_tbl := en_ixp 12 (by decide +kernel) (by decide +kernel)
set_option maxRecDepth 20000 in
theorem mw_499 : (Jvm.Cond.code ({ cls := "LedgerTests$Runner", name := "callsAreBy", desc := "(II)Z" } : Jvm.MethodName) prog_6_method_7_code (3 : Nat) (Option.some Jvm.ClassFile.FieldType.boolean)) ∈ en_tbl := en_ix 499 (by decide +kernel) (by decide +kernel)
set_option maxRecDepth 20000 in
theorem mw_501 : (Jvm.Cond.methodLink "LedgerTests$Runner" (125 : Nat) ({ cls := "LedgerTests$Machine", name := "answered", desc := "()I" } : Jvm.MethodName)) ∈ en_tbl := en_ix 501 (by decide +kernel) (by decide +kernel)
set_option maxRecDepth 20000 in
theorem mw_502 : (Jvm.Cond.methodLink "LedgerTests$Runner" (128 : Nat) ({ cls := "LedgerTests$Runner", name := "threwThat", desc := "(II)Z" } : Jvm.MethodName)) ∈ en_tbl := en_ix 502 (by decide +kernel) (by decide +kernel)
set_option maxRecDepth 20000 in
theorem mw_504 : (Jvm.Cond.instanceMethod ({ cls := "LedgerTests$Runner", name := "threwThat", desc := "(II)Z" } : Jvm.MethodName)) ∈ en_tbl := en_ix 504 (by decide +kernel) (by decide +kernel)
set_option maxRecDepth 20000 in
theorem mp_13 : Cond.selects "LedgerTests$Runner" ⟨"LedgerTests$Runner", "threwThat", "(II)Z"⟩ ⟨"LedgerTests$Runner", "threwThat", "(II)Z"⟩ ∈ en_tbl := en_ixp 13 (by decide +kernel) (by decide +kernel)
set_option maxRecDepth 20000 in
theorem mw_505 : (Jvm.Cond.code ({ cls := "LedgerTests$Runner", name := "threwThat", desc := "(II)Z" } : Jvm.MethodName) prog_6_method_8_code (3 : Nat) (Option.some Jvm.ClassFile.FieldType.boolean)) ∈ en_tbl := en_ix 505 (by decide +kernel) (by decide +kernel)
set_option maxRecDepth 20000 in
theorem mw_508 : (Jvm.Cond.methodLink "LedgerTests$Runner" (131 : Nat) ({ cls := "LedgerTests$Machine", name := "stepsDone", desc := "()I" } : Jvm.MethodName)) ∈ en_tbl := en_ix 508 (by decide +kernel) (by decide +kernel)
set_option maxRecDepth 20000 in
theorem mw_509 : (Jvm.Cond.methodLink "LedgerTests$Runner" (137 : Nat) ({ cls := "LedgerTests$State", name := "coinsOf", desc := "(I)I" } : Jvm.MethodName)) ∈ en_tbl := en_ix 509 (by decide +kernel) (by decide +kernel)
set_option maxRecDepth 20000 in
theorem mw_510 : (Jvm.Cond.instanceMethod ({ cls := "LedgerTests$State", name := "coinsOf", desc := "(I)I" } : Jvm.MethodName)) ∈ en_tbl := en_ix 510 (by decide +kernel) (by decide +kernel)
set_option maxRecDepth 20000 in
theorem mw_511 : (Jvm.Cond.selects "LedgerTests$State" ({ cls := "LedgerTests$State", name := "coinsOf", desc := "(I)I" } : Jvm.MethodName) ({ cls := "LedgerTests$State", name := "coinsOf", desc := "(I)I" } : Jvm.MethodName)) ∈ en_tbl := en_ix 511 (by decide +kernel) (by decide +kernel)
set_option maxRecDepth 20000 in
theorem mw_512 : (Jvm.Cond.code ({ cls := "LedgerTests$State", name := "coinsOf", desc := "(I)I" } : Jvm.MethodName) prog_8_method_4_code (2 : Nat) (Option.some Jvm.ClassFile.FieldType.int)) ∈ en_tbl := en_ix 512 (by decide +kernel) (by decide +kernel)
set_option maxRecDepth 20000 in
theorem mw_482 : (Jvm.Cond.methodLink "LedgerTests$Runner" (105 : Nat) ({ cls := "LedgerTests$Scripts", name := "c", desc := "(I)I" } : Jvm.MethodName)) ∈ en_tbl := en_ix 482 (by decide +kernel) (by decide +kernel)
set_option maxRecDepth 20000 in
theorem mw_483 : (Jvm.Cond.instanceMethod ({ cls := "LedgerTests$Scripts", name := "c", desc := "(I)I" } : Jvm.MethodName)) ∈ en_tbl := en_ix 483 (by decide +kernel) (by decide +kernel)
set_option maxRecDepth 20000 in
theorem mw_484 : (Jvm.Cond.selects "LedgerTests$Scripts" ({ cls := "LedgerTests$Scripts", name := "c", desc := "(I)I" } : Jvm.MethodName) ({ cls := "LedgerTests$Scripts", name := "c", desc := "(I)I" } : Jvm.MethodName)) ∈ en_tbl := en_ix 484 (by decide +kernel) (by decide +kernel)
set_option maxRecDepth 20000 in
theorem mw_485 : (Jvm.Cond.code ({ cls := "LedgerTests$Scripts", name := "c", desc := "(I)I" } : Jvm.MethodName) prog_7_method_12_code (2 : Nat) (Option.some Jvm.ClassFile.FieldType.int)) ∈ en_tbl := en_ix 485 (by decide +kernel) (by decide +kernel)
set_option maxRecDepth 20000 in
theorem mw_513 : (Jvm.Cond.methodLink "LedgerTests$Runner" (140 : Nat) ({ cls := "LedgerTests$Runner", name := "cellIs", desc := "(III)Z" } : Jvm.MethodName)) ∈ en_tbl := en_ix 513 (by decide +kernel) (by decide +kernel)
set_option maxRecDepth 20000 in
theorem mw_515 : (Jvm.Cond.instanceMethod ({ cls := "LedgerTests$Runner", name := "cellIs", desc := "(III)Z" } : Jvm.MethodName)) ∈ en_tbl := en_ix 515 (by decide +kernel) (by decide +kernel)
set_option maxRecDepth 20000 in
theorem mp_14 : Cond.selects "LedgerTests$Runner" ⟨"LedgerTests$Runner", "cellIs", "(III)Z"⟩ ⟨"LedgerTests$Runner", "cellIs", "(III)Z"⟩ ∈ en_tbl := en_ixp 14 (by decide +kernel) (by decide +kernel)
set_option maxRecDepth 20000 in
theorem mw_516 : (Jvm.Cond.code ({ cls := "LedgerTests$Runner", name := "cellIs", desc := "(III)Z" } : Jvm.MethodName) prog_6_method_9_code (4 : Nat) (Option.some Jvm.ClassFile.FieldType.boolean)) ∈ en_tbl := en_ix 516 (by decide +kernel) (by decide +kernel)
set_option maxRecDepth 20000 in
theorem mw_523 : (Jvm.Cond.methodLink "LedgerTests$Runner" (143 : Nat) ({ cls := "LedgerTests$Runner", name := "eventIs", desc := "(II)Z" } : Jvm.MethodName)) ∈ en_tbl := en_ix 523 (by decide +kernel) (by decide +kernel)
set_option maxRecDepth 20000 in
theorem mw_525 : (Jvm.Cond.instanceMethod ({ cls := "LedgerTests$Runner", name := "eventIs", desc := "(II)Z" } : Jvm.MethodName)) ∈ en_tbl := en_ix 525 (by decide +kernel) (by decide +kernel)
set_option maxRecDepth 20000 in
theorem mp_15 : Cond.selects "LedgerTests$Runner" ⟨"LedgerTests$Runner", "eventIs", "(II)Z"⟩ ⟨"LedgerTests$Runner", "eventIs", "(II)Z"⟩ ∈ en_tbl := en_ixp 15 (by decide +kernel) (by decide +kernel)
set_option maxRecDepth 20000 in
theorem mw_526 : (Jvm.Cond.code ({ cls := "LedgerTests$Runner", name := "eventIs", desc := "(II)Z" } : Jvm.MethodName) prog_6_method_10_code (3 : Nat) (Option.some Jvm.ClassFile.FieldType.boolean)) ∈ en_tbl := en_ix 526 (by decide +kernel) (by decide +kernel)
set_option maxRecDepth 20000 in
theorem mw_531 : (Jvm.Cond.methodLink "LedgerTests$Runner" (146 : Nat) ({ cls := "LedgerTests$State", name := "allCoins", desc := "()J" } : Jvm.MethodName)) ∈ en_tbl := en_ix 531 (by decide +kernel) (by decide +kernel)
set_option maxRecDepth 20000 in
theorem mw_532 : (Jvm.Cond.instanceMethod ({ cls := "LedgerTests$State", name := "allCoins", desc := "()J" } : Jvm.MethodName)) ∈ en_tbl := en_ix 532 (by decide +kernel) (by decide +kernel)
set_option maxRecDepth 20000 in
theorem mw_533 : (Jvm.Cond.selects "LedgerTests$State" ({ cls := "LedgerTests$State", name := "allCoins", desc := "()J" } : Jvm.MethodName) ({ cls := "LedgerTests$State", name := "allCoins", desc := "()J" } : Jvm.MethodName)) ∈ en_tbl := en_ix 533 (by decide +kernel) (by decide +kernel)
set_option maxRecDepth 20000 in
theorem mw_534 : (Jvm.Cond.code ({ cls := "LedgerTests$State", name := "allCoins", desc := "()J" } : Jvm.MethodName) prog_8_method_6_code (4 : Nat) (Option.some Jvm.ClassFile.FieldType.long)) ∈ en_tbl := en_ix 534 (by decide +kernel) (by decide +kernel)
set_option maxRecDepth 20000 in
theorem mw_535 : (Jvm.Cond.methodLink "LedgerTests$Runner" (150 : Nat) ({ cls := "LedgerTests$State", name := "age", desc := "(I)Z" } : Jvm.MethodName)) ∈ en_tbl := en_ix 535 (by decide +kernel) (by decide +kernel)
set_option maxRecDepth 20000 in
theorem mw_536 : (Jvm.Cond.methodLink "LedgerTests$Runner" (153 : Nat) ({ cls := "LedgerTests$Runner", name := "keepsFork", desc := "(I)Z" } : Jvm.MethodName)) ∈ en_tbl := en_ix 536 (by decide +kernel) (by decide +kernel)
set_option maxRecDepth 20000 in
theorem mw_538 : (Jvm.Cond.instanceMethod ({ cls := "LedgerTests$Runner", name := "keepsFork", desc := "(I)Z" } : Jvm.MethodName)) ∈ en_tbl := en_ix 538 (by decide +kernel) (by decide +kernel)
set_option maxRecDepth 20000 in
theorem mp_16 : Cond.selects "LedgerTests$Runner" ⟨"LedgerTests$Runner", "keepsFork", "(I)Z"⟩ ⟨"LedgerTests$Runner", "keepsFork", "(I)Z"⟩ ∈ en_tbl := en_ixp 16 (by decide +kernel) (by decide +kernel)
set_option maxRecDepth 20000 in
theorem mw_539 : (Jvm.Cond.code ({ cls := "LedgerTests$Runner", name := "keepsFork", desc := "(I)Z" } : Jvm.MethodName) prog_6_method_12_code (2 : Nat) (Option.some Jvm.ClassFile.FieldType.boolean)) ∈ en_tbl := en_ix 539 (by decide +kernel) (by decide +kernel)
set_option maxRecDepth 20000 in
theorem mw_543 : (Jvm.Cond.methodLink "LedgerTests$Runner" (156 : Nat) ({ cls := "LedgerTests$Runner", name := "goesBack", desc := "(I)Z" } : Jvm.MethodName)) ∈ en_tbl := en_ix 543 (by decide +kernel) (by decide +kernel)
set_option maxRecDepth 20000 in
theorem mw_545 : (Jvm.Cond.instanceMethod ({ cls := "LedgerTests$Runner", name := "goesBack", desc := "(I)Z" } : Jvm.MethodName)) ∈ en_tbl := en_ix 545 (by decide +kernel) (by decide +kernel)
set_option maxRecDepth 20000 in
theorem mp_17 : Cond.selects "LedgerTests$Runner" ⟨"LedgerTests$Runner", "goesBack", "(I)Z"⟩ ⟨"LedgerTests$Runner", "goesBack", "(I)Z"⟩ ∈ en_tbl := en_ixp 17 (by decide +kernel) (by decide +kernel)
set_option maxRecDepth 20000 in
theorem mw_546 : (Jvm.Cond.code ({ cls := "LedgerTests$Runner", name := "goesBack", desc := "(I)Z" } : Jvm.MethodName) prog_6_method_13_code (2 : Nat) (Option.some Jvm.ClassFile.FieldType.boolean)) ∈ en_tbl := en_ix 546 (by decide +kernel) (by decide +kernel)
set_option maxRecDepth 20000 in
theorem mw_552 : (Jvm.Cond.methodLink "LedgerTests$Runner" (162 : Nat) ({ cls := "LedgerTests$Runner", name := "faceFails", desc := "(II)Z" } : Jvm.MethodName)) ∈ en_tbl := en_ix 552 (by decide +kernel) (by decide +kernel)
set_option maxRecDepth 20000 in
theorem mw_554 : (Jvm.Cond.instanceMethod ({ cls := "LedgerTests$Runner", name := "faceFails", desc := "(II)Z" } : Jvm.MethodName)) ∈ en_tbl := en_ix 554 (by decide +kernel) (by decide +kernel)
set_option maxRecDepth 20000 in
theorem mp_18 : Cond.selects "LedgerTests$Runner" ⟨"LedgerTests$Runner", "faceFails", "(II)Z"⟩ ⟨"LedgerTests$Runner", "faceFails", "(II)Z"⟩ ∈ en_tbl := en_ixp 18 (by decide +kernel) (by decide +kernel)
set_option maxRecDepth 20000 in
theorem mw_555 : (Jvm.Cond.code ({ cls := "LedgerTests$Runner", name := "faceFails", desc := "(II)Z" } : Jvm.MethodName) prog_6_method_14_code (3 : Nat) (Option.some Jvm.ClassFile.FieldType.boolean)) ∈ en_tbl := en_ix 555 (by decide +kernel) (by decide +kernel)
set_option maxRecDepth 20000 in
theorem mw_461 : (Jvm.Cond.methodLink "LedgerTests$Runner" (63 : Nat) ({ cls := "LedgerTests$Scripts", name := "slotOf", desc := "(II)I" } : Jvm.MethodName)) ∈ en_tbl := en_ix 461 (by decide +kernel) (by decide +kernel)
set_option maxRecDepth 20000 in
theorem mw_462 : (Jvm.Cond.instanceMethod ({ cls := "LedgerTests$Scripts", name := "slotOf", desc := "(II)I" } : Jvm.MethodName)) ∈ en_tbl := en_ix 462 (by decide +kernel) (by decide +kernel)
set_option maxRecDepth 20000 in
theorem mw_463 : (Jvm.Cond.selects "LedgerTests$Scripts" ({ cls := "LedgerTests$Scripts", name := "slotOf", desc := "(II)I" } : Jvm.MethodName) ({ cls := "LedgerTests$Scripts", name := "slotOf", desc := "(II)I" } : Jvm.MethodName)) ∈ en_tbl := en_ix 463 (by decide +kernel) (by decide +kernel)
set_option maxRecDepth 20000 in
theorem mw_464 : (Jvm.Cond.code ({ cls := "LedgerTests$Scripts", name := "slotOf", desc := "(II)I" } : Jvm.MethodName) prog_7_method_5_code (4 : Nat) (Option.some Jvm.ClassFile.FieldType.int)) ∈ en_tbl := en_ix 464 (by decide +kernel) (by decide +kernel)
set_option maxRecDepth 20000 in
theorem mw_457 : (Jvm.Cond.methodLink "LedgerTests$Runner" (57 : Nat) ({ cls := "LedgerTests$Scripts", name := "size", desc := "(I)I" } : Jvm.MethodName)) ∈ en_tbl := en_ix 457 (by decide +kernel) (by decide +kernel)
set_option maxRecDepth 20000 in
theorem mw_458 : (Jvm.Cond.instanceMethod ({ cls := "LedgerTests$Scripts", name := "size", desc := "(I)I" } : Jvm.MethodName)) ∈ en_tbl := en_ix 458 (by decide +kernel) (by decide +kernel)
set_option maxRecDepth 20000 in
theorem mw_459 : (Jvm.Cond.selects "LedgerTests$Scripts" ({ cls := "LedgerTests$Scripts", name := "size", desc := "(I)I" } : Jvm.MethodName) ({ cls := "LedgerTests$Scripts", name := "size", desc := "(I)I" } : Jvm.MethodName)) ∈ en_tbl := en_ix 459 (by decide +kernel) (by decide +kernel)
set_option maxRecDepth 20000 in
theorem mw_460 : (Jvm.Cond.code ({ cls := "LedgerTests$Scripts", name := "size", desc := "(I)I" } : Jvm.MethodName) prog_7_method_4_code (2 : Nat) (Option.some Jvm.ClassFile.FieldType.int)) ∈ en_tbl := en_ix 460 (by decide +kernel) (by decide +kernel)
set_option maxRecDepth 20000 in
theorem mw_481 : (Jvm.Cond.methodLink "LedgerTests$Runner" (100 : Nat) ({ cls := "LedgerTests$Code", name := "placeOf", desc := "(II)I" } : Jvm.MethodName)) ∈ en_tbl := en_ix 481 (by decide +kernel) (by decide +kernel)
set_option maxRecDepth 20000 in
theorem mw_486 : (Jvm.Cond.methodLink "LedgerTests$Runner" (108 : Nat) ({ cls := "LedgerTests$Machine", name := "callFromOutside", desc := "(IIII)V" } : Jvm.MethodName)) ∈ en_tbl := en_ix 486 (by decide +kernel) (by decide +kernel)
set_option maxRecDepth 20000 in
theorem mw_488 : (Jvm.Cond.methodLink "LedgerTests$Runner" (118 : Nat) ({ cls := "LedgerTests$Runner", name := "nextIsThrows", desc := "(III)Z" } : Jvm.MethodName)) ∈ en_tbl := en_ix 488 (by decide +kernel) (by decide +kernel)
set_option maxRecDepth 20000 in
theorem mw_490 : (Jvm.Cond.instanceMethod ({ cls := "LedgerTests$Runner", name := "nextIsThrows", desc := "(III)Z" } : Jvm.MethodName)) ∈ en_tbl := en_ix 490 (by decide +kernel) (by decide +kernel)
set_option maxRecDepth 20000 in
theorem mp_10 : Cond.selects "LedgerTests$Runner" ⟨"LedgerTests$Runner", "nextIsThrows", "(III)Z"⟩ ⟨"LedgerTests$Runner", "nextIsThrows", "(III)Z"⟩ ∈ en_tbl := en_ixp 10 (by decide +kernel) (by decide +kernel)
set_option maxRecDepth 20000 in
theorem mw_491 : (Jvm.Cond.code ({ cls := "LedgerTests$Runner", name := "nextIsThrows", desc := "(III)Z" } : Jvm.MethodName) prog_6_method_5_code (6 : Nat) (Option.some Jvm.ClassFile.FieldType.boolean)) ∈ en_tbl := en_ix 491 (by decide +kernel) (by decide +kernel)
set_option maxRecDepth 20000 in
theorem mw_556 : (Jvm.Cond.methodLink "LedgerTests$Runner" (78 : Nat) ({ cls := "LedgerTests$Faces", name := "dropDoubles", desc := "()V" } : Jvm.MethodName)) ∈ en_tbl := en_ix 556 (by decide +kernel) (by decide +kernel)
set_option maxRecDepth 20000 in
theorem mw_557 : (Jvm.Cond.instanceMethod ({ cls := "LedgerTests$Faces", name := "dropDoubles", desc := "()V" } : Jvm.MethodName)) ∈ en_tbl := en_ix 557 (by decide +kernel) (by decide +kernel)
set_option maxRecDepth 20000 in
theorem mw_558 : (Jvm.Cond.selects "LedgerTests$Faces" ({ cls := "LedgerTests$Faces", name := "dropDoubles", desc := "()V" } : Jvm.MethodName) ({ cls := "LedgerTests$Faces", name := "dropDoubles", desc := "()V" } : Jvm.MethodName)) ∈ en_tbl := en_ix 558 (by decide +kernel) (by decide +kernel)
set_option maxRecDepth 20000 in
theorem mw_559 : (Jvm.Cond.code ({ cls := "LedgerTests$Faces", name := "dropDoubles", desc := "()V" } : Jvm.MethodName) prog_3_method_7_code (2 : Nat) (Option.none : Option Jvm.ClassFile.FieldType)) ∈ en_tbl := en_ix 559 (by decide +kernel) (by decide +kernel)
set_option maxRecDepth 20000 in
theorem mw_492 : (Jvm.Cond.methodLink "LedgerTests$Runner" (74 : Nat) ({ cls := "LedgerTests$Runner", name := "asTold", desc := "(I)Z" } : Jvm.MethodName)) ∈ en_tbl := en_ix 492 (by decide +kernel) (by decide +kernel)
set_option maxRecDepth 20000 in
theorem mw_494 : (Jvm.Cond.instanceMethod ({ cls := "LedgerTests$Runner", name := "asTold", desc := "(I)Z" } : Jvm.MethodName)) ∈ en_tbl := en_ix 494 (by decide +kernel) (by decide +kernel)
set_option maxRecDepth 20000 in
theorem mp_11 : Cond.selects "LedgerTests$Runner" ⟨"LedgerTests$Runner", "asTold", "(I)Z"⟩ ⟨"LedgerTests$Runner", "asTold", "(I)Z"⟩ ∈ en_tbl := en_ixp 11 (by decide +kernel) (by decide +kernel)
set_option maxRecDepth 20000 in
theorem mw_495 : (Jvm.Cond.code ({ cls := "LedgerTests$Runner", name := "asTold", desc := "(I)Z" } : Jvm.MethodName) prog_6_method_6_code (4 : Nat) (Option.some Jvm.ClassFile.FieldType.boolean)) ∈ en_tbl := en_ix 495 (by decide +kernel) (by decide +kernel)
set_option maxRecDepth 20000 in
theorem mw_469 : (Jvm.Cond.methodLink "LedgerTests$Runner" (70 : Nat) ({ cls := "LedgerTests$Runner", name := "doesCall", desc := "(III)Z" } : Jvm.MethodName)) ∈ en_tbl := en_ix 469 (by decide +kernel) (by decide +kernel)
set_option maxRecDepth 20000 in
theorem mw_471 : (Jvm.Cond.instanceMethod ({ cls := "LedgerTests$Runner", name := "doesCall", desc := "(III)Z" } : Jvm.MethodName)) ∈ en_tbl := en_ix 471 (by decide +kernel) (by decide +kernel)
set_option maxRecDepth 20000 in
theorem mp_9 : Cond.selects "LedgerTests$Runner" ⟨"LedgerTests$Runner", "doesCall", "(III)Z"⟩ ⟨"LedgerTests$Runner", "doesCall", "(III)Z"⟩ ∈ en_tbl := en_ixp 9 (by decide +kernel) (by decide +kernel)
set_option maxRecDepth 20000 in
theorem mw_472 : (Jvm.Cond.code ({ cls := "LedgerTests$Runner", name := "doesCall", desc := "(III)Z" } : Jvm.MethodName) prog_6_method_4_code (6 : Nat) (Option.some Jvm.ClassFile.FieldType.boolean)) ∈ en_tbl := en_ix 472 (by decide +kernel) (by decide +kernel)
set_option maxRecDepth 20000 in
theorem mw_448 : (Jvm.Cond.methodLink "LedgerTests$Runner" (54 : Nat) ({ cls := "LedgerTests$Runner", name := "begin", desc := "()V" } : Jvm.MethodName)) ∈ en_tbl := en_ix 448 (by decide +kernel) (by decide +kernel)
set_option maxRecDepth 20000 in
theorem mw_450 : (Jvm.Cond.instanceMethod ({ cls := "LedgerTests$Runner", name := "begin", desc := "()V" } : Jvm.MethodName)) ∈ en_tbl := en_ix 450 (by decide +kernel) (by decide +kernel)
set_option maxRecDepth 20000 in
theorem mp_8 : Cond.selects "LedgerTests$Runner" ⟨"LedgerTests$Runner", "begin", "()V"⟩ ⟨"LedgerTests$Runner", "begin", "()V"⟩ ∈ en_tbl := en_ixp 8 (by decide +kernel) (by decide +kernel)
set_option maxRecDepth 20000 in
theorem mw_451 : (Jvm.Cond.code ({ cls := "LedgerTests$Runner", name := "begin", desc := "()V" } : Jvm.MethodName) prog_6_method_3_code (1 : Nat) (Option.none : Option Jvm.ClassFile.FieldType)) ∈ en_tbl := en_ix 451 (by decide +kernel) (by decide +kernel)
set_option maxRecDepth 20000 in
theorem mw_201 : (Jvm.Cond.fieldLink "LedgerTests" (51 : Nat) "LedgerTests" "runner" "LLedgerTests$Runner;") ∈ en_tbl := en_ix 201 (by decide +kernel) (by decide +kernel)
set_option maxRecDepth 20000 in
theorem mw_444 : (Jvm.Cond.methodLink "LedgerTests" (134 : Nat) ({ cls := "LedgerTests$Runner", name := "failingLine", desc := "(II)I" } : Jvm.MethodName)) ∈ en_tbl := en_ix 444 (by decide +kernel) (by decide +kernel)
set_option maxRecDepth 20000 in
theorem mw_445 : (Jvm.Cond.instanceMethod ({ cls := "LedgerTests$Runner", name := "failingLine", desc := "(II)I" } : Jvm.MethodName)) ∈ en_tbl := en_ix 445 (by decide +kernel) (by decide +kernel)
set_option maxRecDepth 20000 in
theorem mw_446 : (Jvm.Cond.selects "LedgerTests$Runner" ({ cls := "LedgerTests$Runner", name := "failingLine", desc := "(II)I" } : Jvm.MethodName) ({ cls := "LedgerTests$Runner", name := "failingLine", desc := "(II)I" } : Jvm.MethodName)) ∈ en_tbl := en_ix 446 (by decide +kernel) (by decide +kernel)
set_option maxRecDepth 20000 in
theorem mw_447 : (Jvm.Cond.code ({ cls := "LedgerTests$Runner", name := "failingLine", desc := "(II)I" } : Jvm.MethodName) prog_6_method_2_code (9 : Nat) (Option.some Jvm.ClassFile.FieldType.int)) ∈ en_tbl := en_ix 447 (by decide +kernel) (by decide +kernel)
set_option maxRecDepth 20000 in
theorem mw_174 : (Jvm.Cond.fieldLink "LedgerTests$Mutants" (31 : Nat) "LedgerTests$Mutants" "code" "LLedgerTests$Code;") ∈ en_tbl := en_ix 174 (by decide +kernel) (by decide +kernel)
set_option maxRecDepth 20000 in
theorem mw_569 : (Jvm.Cond.methodLink "LedgerTests$Mutants" (35 : Nat) ({ cls := "LedgerTests$Code", name := "placeOf", desc := "(II)I" } : Jvm.MethodName)) ∈ en_tbl := en_ix 569 (by decide +kernel) (by decide +kernel)
set_option maxRecDepth 20000 in
theorem mw_570 : (Jvm.Cond.methodLink "LedgerTests$Mutants" (39 : Nat) ({ cls := "LedgerTests$Code", name := "size", desc := "(I)I" } : Jvm.MethodName)) ∈ en_tbl := en_ix 570 (by decide +kernel) (by decide +kernel)
set_option maxRecDepth 20000 in
theorem mw_571 : (Jvm.Cond.methodLink "LedgerTests$Mutants" (43 : Nat) ({ cls := "LedgerTests$Code", name := "kind", desc := "(I)I" } : Jvm.MethodName)) ∈ en_tbl := en_ix 571 (by decide +kernel) (by decide +kernel)
set_option maxRecDepth 20000 in
theorem mw_572 : (Jvm.Cond.methodLink "LedgerTests$Mutants" (45 : Nat) ({ cls := "LedgerTests$Mutants", name := "perStep", desc := "(I)I" } : Jvm.MethodName)) ∈ en_tbl := en_ix 572 (by decide +kernel) (by decide +kernel)
set_option maxRecDepth 20000 in
theorem mw_8 : (Jvm.Cond.initialized "LedgerTests$Mutants") ∈ en_tbl := en_ix 8 (by decide +kernel) (by decide +kernel)
set_option maxRecDepth 20000 in
theorem mw_573 : (Jvm.Cond.static ({ cls := "LedgerTests$Mutants", name := "perStep", desc := "(I)I" } : Jvm.MethodName)) ∈ en_tbl := en_ix 573 (by decide +kernel) (by decide +kernel)
set_option maxRecDepth 20000 in
theorem mw_574 : (Jvm.Cond.code ({ cls := "LedgerTests$Mutants", name := "perStep", desc := "(I)I" } : Jvm.MethodName) prog_5_method_5_code (1 : Nat) (Option.some Jvm.ClassFile.FieldType.int)) ∈ en_tbl := en_ix 574 (by decide +kernel) (by decide +kernel)
set_option maxRecDepth 20000 in
theorem mw_564 : (Jvm.Cond.methodLink "LedgerTests" (137 : Nat) ({ cls := "LedgerTests$Code", name := "isContract", desc := "(I)Z" } : Jvm.MethodName)) ∈ en_tbl := en_ix 564 (by decide +kernel) (by decide +kernel)
set_option maxRecDepth 20000 in
theorem mw_202 : (Jvm.Cond.fieldLink "LedgerTests" (60 : Nat) "LedgerTests" "judging" "LLedgerTests$Mutants;") ∈ en_tbl := en_ix 202 (by decide +kernel) (by decide +kernel)
set_option maxRecDepth 20000 in
theorem mw_565 : (Jvm.Cond.methodLink "LedgerTests" (140 : Nat) ({ cls := "LedgerTests$Mutants", name := "howMany", desc := "(I)I" } : Jvm.MethodName)) ∈ en_tbl := en_ix 565 (by decide +kernel) (by decide +kernel)
set_option maxRecDepth 20000 in
theorem mw_566 : (Jvm.Cond.instanceMethod ({ cls := "LedgerTests$Mutants", name := "howMany", desc := "(I)I" } : Jvm.MethodName)) ∈ en_tbl := en_ix 566 (by decide +kernel) (by decide +kernel)
set_option maxRecDepth 20000 in
theorem mw_567 : (Jvm.Cond.selects "LedgerTests$Mutants" ({ cls := "LedgerTests$Mutants", name := "howMany", desc := "(I)I" } : Jvm.MethodName) ({ cls := "LedgerTests$Mutants", name := "howMany", desc := "(I)I" } : Jvm.MethodName)) ∈ en_tbl := en_ix 567 (by decide +kernel) (by decide +kernel)
set_option maxRecDepth 20000 in
theorem mw_568 : (Jvm.Cond.code ({ cls := "LedgerTests$Mutants", name := "howMany", desc := "(I)I" } : Jvm.MethodName) prog_5_method_6_code (7 : Nat) (Option.some Jvm.ClassFile.FieldType.int)) ∈ en_tbl := en_ix 568 (by decide +kernel) (by decide +kernel)
set_option maxRecDepth 20000 in
theorem mw_579 : (Jvm.Cond.methodLink "LedgerTests" (143 : Nat) ({ cls := "LedgerTests$Mutants", name := "find", desc := "(II)I" } : Jvm.MethodName)) ∈ en_tbl := en_ix 579 (by decide +kernel) (by decide +kernel)
set_option maxRecDepth 20000 in
theorem mw_580 : (Jvm.Cond.instanceMethod ({ cls := "LedgerTests$Mutants", name := "find", desc := "(II)I" } : Jvm.MethodName)) ∈ en_tbl := en_ix 580 (by decide +kernel) (by decide +kernel)
set_option maxRecDepth 20000 in
theorem mw_581 : (Jvm.Cond.selects "LedgerTests$Mutants" ({ cls := "LedgerTests$Mutants", name := "find", desc := "(II)I" } : Jvm.MethodName) ({ cls := "LedgerTests$Mutants", name := "find", desc := "(II)I" } : Jvm.MethodName)) ∈ en_tbl := en_ix 581 (by decide +kernel) (by decide +kernel)
set_option maxRecDepth 20000 in
theorem mw_582 : (Jvm.Cond.code ({ cls := "LedgerTests$Mutants", name := "find", desc := "(II)I" } : Jvm.MethodName) prog_5_method_7_code (9 : Nat) (Option.some Jvm.ClassFile.FieldType.int)) ∈ en_tbl := en_ix 582 (by decide +kernel) (by decide +kernel)
set_option maxRecDepth 20000 in
theorem mw_583 : (Jvm.Cond.methodLink "LedgerTests" (146 : Nat) ({ cls := "LedgerTests$Mutants", name := "memberOf", desc := "(I)I" } : Jvm.MethodName)) ∈ en_tbl := en_ix 583 (by decide +kernel) (by decide +kernel)
set_option maxRecDepth 20000 in
theorem mw_584 : (Jvm.Cond.static ({ cls := "LedgerTests$Mutants", name := "memberOf", desc := "(I)I" } : Jvm.MethodName)) ∈ en_tbl := en_ix 584 (by decide +kernel) (by decide +kernel)
set_option maxRecDepth 20000 in
theorem mw_585 : (Jvm.Cond.code ({ cls := "LedgerTests$Mutants", name := "memberOf", desc := "(I)I" } : Jvm.MethodName) prog_5_method_2_code (1 : Nat) (Option.some Jvm.ClassFile.FieldType.int)) ∈ en_tbl := en_ix 585 (by decide +kernel) (by decide +kernel)
set_option maxRecDepth 20000 in
theorem mw_586 : (Jvm.Cond.methodLink "LedgerTests" (149 : Nat) ({ cls := "LedgerTests$Mutants", name := "stepOf", desc := "(I)I" } : Jvm.MethodName)) ∈ en_tbl := en_ix 586 (by decide +kernel) (by decide +kernel)
set_option maxRecDepth 20000 in
theorem mw_587 : (Jvm.Cond.static ({ cls := "LedgerTests$Mutants", name := "stepOf", desc := "(I)I" } : Jvm.MethodName)) ∈ en_tbl := en_ix 587 (by decide +kernel) (by decide +kernel)
set_option maxRecDepth 20000 in
theorem mw_588 : (Jvm.Cond.code ({ cls := "LedgerTests$Mutants", name := "stepOf", desc := "(I)I" } : Jvm.MethodName) prog_5_method_3_code (1 : Nat) (Option.some Jvm.ClassFile.FieldType.int)) ∈ en_tbl := en_ix 588 (by decide +kernel) (by decide +kernel)
set_option maxRecDepth 20000 in
theorem mw_589 : (Jvm.Cond.methodLink "LedgerTests" (152 : Nat) ({ cls := "LedgerTests$Mutants", name := "isSecond", desc := "(I)Z" } : Jvm.MethodName)) ∈ en_tbl := en_ix 589 (by decide +kernel) (by decide +kernel)
set_option maxRecDepth 20000 in
theorem mw_590 : (Jvm.Cond.static ({ cls := "LedgerTests$Mutants", name := "isSecond", desc := "(I)Z" } : Jvm.MethodName)) ∈ en_tbl := en_ix 590 (by decide +kernel) (by decide +kernel)
set_option maxRecDepth 20000 in
theorem mw_591 : (Jvm.Cond.code ({ cls := "LedgerTests$Mutants", name := "isSecond", desc := "(I)Z" } : Jvm.MethodName) prog_5_method_4_code (1 : Nat) (Option.some Jvm.ClassFile.FieldType.boolean)) ∈ en_tbl := en_ix 591 (by decide +kernel) (by decide +kernel)
set_option maxRecDepth 20000 in
theorem mw_600 : (Jvm.Cond.methodLink "LedgerTests$Mutants" (48 : Nat) ({ cls := "LedgerTests$Mutants", name := "howMany", desc := "(I)I" } : Jvm.MethodName)) ∈ en_tbl := en_ix 600 (by decide +kernel) (by decide +kernel)
set_option maxRecDepth 20000 in
theorem mw_601 : (Jvm.Cond.methodLink "LedgerTests$Mutants" (51 : Nat) ({ cls := "java/lang/Math", name := "min", desc := "(II)I" } : Jvm.MethodName)) ∈ en_tbl := en_ix 601 (by decide +kernel) (by decide +kernel)
set_option maxRecDepth 20000 in
theorem mw_175 : (Jvm.Cond.fieldLink "LedgerTests$Mutants" (9 : Nat) "LedgerTests$Mutants" "judged" "[I") ∈ en_tbl := en_ix 175 (by decide +kernel) (by decide +kernel)
set_option maxRecDepth 20000 in
theorem mw_178 : (Jvm.Cond.fieldLink "LedgerTests$Mutants" (22 : Nat) "LedgerTests$Mutants" "kind" "I") ∈ en_tbl := en_ix 178 (by decide +kernel) (by decide +kernel)
set_option maxRecDepth 20000 in
theorem mw_177 : (Jvm.Cond.fieldLink "LedgerTests$Mutants" (18 : Nat) "LedgerTests$Mutants" "slot" "I") ∈ en_tbl := en_ix 177 (by decide +kernel) (by decide +kernel)
set_option maxRecDepth 20000 in
theorem mw_179 : (Jvm.Cond.fieldLink "LedgerTests$Mutants" (25 : Nat) "LedgerTests$Mutants" "a" "I") ∈ en_tbl := en_ix 179 (by decide +kernel) (by decide +kernel)
set_option maxRecDepth 20000 in
theorem mw_180 : (Jvm.Cond.fieldLink "LedgerTests$Mutants" (28 : Nat) "LedgerTests$Mutants" "b" "I") ∈ en_tbl := en_ix 180 (by decide +kernel) (by decide +kernel)
set_option maxRecDepth 20000 in
theorem mw_614 : (Jvm.Cond.methodLink "LedgerTests$Mutants" (73 : Nat) ({ cls := "LedgerTests$Code", name := "replace", desc := "(IIII)V" } : Jvm.MethodName)) ∈ en_tbl := en_ix 614 (by decide +kernel) (by decide +kernel)
set_option maxRecDepth 20000 in
theorem mw_606 : (Jvm.Cond.methodLink "LedgerTests$Mutants" (56 : Nat) ({ cls := "LedgerTests$Mutants", name := "find", desc := "(II)I" } : Jvm.MethodName)) ∈ en_tbl := en_ix 606 (by decide +kernel) (by decide +kernel)
set_option maxRecDepth 20000 in
theorem mw_607 : (Jvm.Cond.methodLink "LedgerTests$Mutants" (59 : Nat) ({ cls := "LedgerTests$Code", name := "a", desc := "(I)I" } : Jvm.MethodName)) ∈ en_tbl := en_ix 607 (by decide +kernel) (by decide +kernel)
set_option maxRecDepth 20000 in
theorem mw_608 : (Jvm.Cond.methodLink "LedgerTests$Mutants" (61 : Nat) ({ cls := "LedgerTests$Code", name := "b", desc := "(I)I" } : Jvm.MethodName)) ∈ en_tbl := en_ix 608 (by decide +kernel) (by decide +kernel)
set_option maxRecDepth 20000 in
theorem mw_609 : (Jvm.Cond.methodLink "LedgerTests$Mutants" (63 : Nat) ({ cls := "LedgerTests$Mutants", name := "isSecond", desc := "(I)Z" } : Jvm.MethodName)) ∈ en_tbl := en_ix 609 (by decide +kernel) (by decide +kernel)
set_option maxRecDepth 20000 in
theorem mw_615 : (Jvm.Cond.methodLink "LedgerTests$Mutants" (70 : Nat) ({ cls := "LedgerTests$Mutants", name := "putFirst", desc := "()V" } : Jvm.MethodName)) ∈ en_tbl := en_ix 615 (by decide +kernel) (by decide +kernel)
set_option maxRecDepth 20000 in
theorem mw_617 : (Jvm.Cond.instanceMethod ({ cls := "LedgerTests$Mutants", name := "putFirst", desc := "()V" } : Jvm.MethodName)) ∈ en_tbl := en_ix 617 (by decide +kernel) (by decide +kernel)
set_option maxRecDepth 20000 in
theorem mp_20 : Cond.selects "LedgerTests$Mutants" ⟨"LedgerTests$Mutants", "putFirst", "()V"⟩ ⟨"LedgerTests$Mutants", "putFirst", "()V"⟩ ∈ en_tbl := en_ixp 20 (by decide +kernel) (by decide +kernel)
set_option maxRecDepth 20000 in
theorem mw_618 : (Jvm.Cond.code ({ cls := "LedgerTests$Mutants", name := "putFirst", desc := "()V" } : Jvm.MethodName) prog_5_method_10_code (1 : Nat) (Option.none : Option Jvm.ClassFile.FieldType)) ∈ en_tbl := en_ix 618 (by decide +kernel) (by decide +kernel)
set_option maxRecDepth 20000 in
theorem mw_610 : (Jvm.Cond.methodLink "LedgerTests$Mutants" (67 : Nat) ({ cls := "LedgerTests$Mutants", name := "putSecond", desc := "()V" } : Jvm.MethodName)) ∈ en_tbl := en_ix 610 (by decide +kernel) (by decide +kernel)
set_option maxRecDepth 20000 in
theorem mw_612 : (Jvm.Cond.instanceMethod ({ cls := "LedgerTests$Mutants", name := "putSecond", desc := "()V" } : Jvm.MethodName)) ∈ en_tbl := en_ix 612 (by decide +kernel) (by decide +kernel)
set_option maxRecDepth 20000 in
theorem mp_19 : Cond.selects "LedgerTests$Mutants" ⟨"LedgerTests$Mutants", "putSecond", "()V"⟩ ⟨"LedgerTests$Mutants", "putSecond", "()V"⟩ ∈ en_tbl := en_ixp 19 (by decide +kernel) (by decide +kernel)
set_option maxRecDepth 20000 in
theorem mw_613 : (Jvm.Cond.code ({ cls := "LedgerTests$Mutants", name := "putSecond", desc := "()V" } : Jvm.MethodName) prog_5_method_11_code (1 : Nat) (Option.none : Option Jvm.ClassFile.FieldType)) ∈ en_tbl := en_ix 613 (by decide +kernel) (by decide +kernel)
set_option maxRecDepth 20000 in
theorem mw_176 : (Jvm.Cond.fieldLink "LedgerTests$Mutants" (15 : Nat) "LedgerTests$Mutants" "killers" "[I") ∈ en_tbl := en_ix 176 (by decide +kernel) (by decide +kernel)
set_option maxRecDepth 20000 in
theorem mw_596 : (Jvm.Cond.methodLink "LedgerTests" (155 : Nat) ({ cls := "LedgerTests$Mutants", name := "begin", desc := "(I)I" } : Jvm.MethodName)) ∈ en_tbl := en_ix 596 (by decide +kernel) (by decide +kernel)
set_option maxRecDepth 20000 in
theorem mw_597 : (Jvm.Cond.instanceMethod ({ cls := "LedgerTests$Mutants", name := "begin", desc := "(I)I" } : Jvm.MethodName)) ∈ en_tbl := en_ix 597 (by decide +kernel) (by decide +kernel)
set_option maxRecDepth 20000 in
theorem mw_598 : (Jvm.Cond.selects "LedgerTests$Mutants" ({ cls := "LedgerTests$Mutants", name := "begin", desc := "(I)I" } : Jvm.MethodName) ({ cls := "LedgerTests$Mutants", name := "begin", desc := "(I)I" } : Jvm.MethodName)) ∈ en_tbl := en_ix 598 (by decide +kernel) (by decide +kernel)
set_option maxRecDepth 20000 in
theorem mw_599 : (Jvm.Cond.code ({ cls := "LedgerTests$Mutants", name := "begin", desc := "(I)I" } : Jvm.MethodName) prog_5_method_8_code (3 : Nat) (Option.some Jvm.ClassFile.FieldType.int)) ∈ en_tbl := en_ix 599 (by decide +kernel) (by decide +kernel)
set_option maxRecDepth 20000 in
theorem mw_602 : (Jvm.Cond.methodLink "LedgerTests" (158 : Nat) ({ cls := "LedgerTests$Mutants", name := "putIn", desc := "(II)V" } : Jvm.MethodName)) ∈ en_tbl := en_ix 602 (by decide +kernel) (by decide +kernel)
set_option maxRecDepth 20000 in
theorem mw_603 : (Jvm.Cond.instanceMethod ({ cls := "LedgerTests$Mutants", name := "putIn", desc := "(II)V" } : Jvm.MethodName)) ∈ en_tbl := en_ix 603 (by decide +kernel) (by decide +kernel)
set_option maxRecDepth 20000 in
theorem mw_604 : (Jvm.Cond.selects "LedgerTests$Mutants" ({ cls := "LedgerTests$Mutants", name := "putIn", desc := "(II)V" } : Jvm.MethodName) ({ cls := "LedgerTests$Mutants", name := "putIn", desc := "(II)V" } : Jvm.MethodName)) ∈ en_tbl := en_ix 604 (by decide +kernel) (by decide +kernel)
set_option maxRecDepth 20000 in
theorem mw_605 : (Jvm.Cond.code ({ cls := "LedgerTests$Mutants", name := "putIn", desc := "(II)V" } : Jvm.MethodName) prog_5_method_9_code (4 : Nat) (Option.none : Option Jvm.ClassFile.FieldType)) ∈ en_tbl := en_ix 605 (by decide +kernel) (by decide +kernel)
set_option maxRecDepth 20000 in
theorem mw_619 : (Jvm.Cond.methodLink "LedgerTests" (161 : Nat) ({ cls := "LedgerTests$Mutants", name := "takeOut", desc := "(III)V" } : Jvm.MethodName)) ∈ en_tbl := en_ix 619 (by decide +kernel) (by decide +kernel)
set_option maxRecDepth 20000 in
theorem mw_620 : (Jvm.Cond.instanceMethod ({ cls := "LedgerTests$Mutants", name := "takeOut", desc := "(III)V" } : Jvm.MethodName)) ∈ en_tbl := en_ix 620 (by decide +kernel) (by decide +kernel)
set_option maxRecDepth 20000 in
theorem mw_621 : (Jvm.Cond.selects "LedgerTests$Mutants" ({ cls := "LedgerTests$Mutants", name := "takeOut", desc := "(III)V" } : Jvm.MethodName) ({ cls := "LedgerTests$Mutants", name := "takeOut", desc := "(III)V" } : Jvm.MethodName)) ∈ en_tbl := en_ix 621 (by decide +kernel) (by decide +kernel)
set_option maxRecDepth 20000 in
theorem mw_622 : (Jvm.Cond.code ({ cls := "LedgerTests$Mutants", name := "takeOut", desc := "(III)V" } : Jvm.MethodName) prog_5_method_12_code (4 : Nat) (Option.none : Option Jvm.ClassFile.FieldType)) ∈ en_tbl := en_ix 622 (by decide +kernel) (by decide +kernel)
set_option maxRecDepth 20000 in
theorem mw_627 : (Jvm.Cond.methodLink "LedgerTests" (165 : Nat) ({ cls := "LedgerTests$Mutants", name := "killerOf", desc := "(II)I" } : Jvm.MethodName)) ∈ en_tbl := en_ix 627 (by decide +kernel) (by decide +kernel)
set_option maxRecDepth 20000 in
theorem mw_628 : (Jvm.Cond.instanceMethod ({ cls := "LedgerTests$Mutants", name := "killerOf", desc := "(II)I" } : Jvm.MethodName)) ∈ en_tbl := en_ix 628 (by decide +kernel) (by decide +kernel)
set_option maxRecDepth 20000 in
theorem mw_629 : (Jvm.Cond.selects "LedgerTests$Mutants" ({ cls := "LedgerTests$Mutants", name := "killerOf", desc := "(II)I" } : Jvm.MethodName) ({ cls := "LedgerTests$Mutants", name := "killerOf", desc := "(II)I" } : Jvm.MethodName)) ∈ en_tbl := en_ix 629 (by decide +kernel) (by decide +kernel)
set_option maxRecDepth 20000 in
theorem mw_630 : (Jvm.Cond.code ({ cls := "LedgerTests$Mutants", name := "killerOf", desc := "(II)I" } : Jvm.MethodName) prog_5_method_13_code (4 : Nat) (Option.some Jvm.ClassFile.FieldType.int)) ∈ en_tbl := en_ix 630 (by decide +kernel) (by decide +kernel)
set_option maxRecDepth 20000 in
theorem mw_646 : (Jvm.Cond.methodLink "LedgerTests$Scripts" (51 : Nat) ({ cls := "LedgerTests$Scripts", name := "size", desc := "(I)I" } : Jvm.MethodName)) ∈ en_tbl := en_ix 646 (by decide +kernel) (by decide +kernel)
set_option maxRecDepth 20000 in
theorem mw_641 : (Jvm.Cond.methodLink "LedgerTests$Scripts" (35 : Nat) ({ cls := "LedgerTests$Scripts", name := "word", desc := "(I)I" } : Jvm.MethodName)) ∈ en_tbl := en_ix 641 (by decide +kernel) (by decide +kernel)
set_option maxRecDepth 20000 in
theorem mw_642 : (Jvm.Cond.methodLink "LedgerTests$Scripts" (38 : Nat) ({ cls := "LedgerTests$Scripts", name := "a", desc := "(I)I" } : Jvm.MethodName)) ∈ en_tbl := en_ix 642 (by decide +kernel) (by decide +kernel)
set_option maxRecDepth 20000 in
theorem mw_643 : (Jvm.Cond.methodLink "LedgerTests$Scripts" (41 : Nat) ({ cls := "LedgerTests$Scripts", name := "b", desc := "(I)I" } : Jvm.MethodName)) ∈ en_tbl := en_ix 643 (by decide +kernel) (by decide +kernel)
set_option maxRecDepth 20000 in
theorem mw_644 : (Jvm.Cond.methodLink "LedgerTests$Scripts" (44 : Nat) ({ cls := "LedgerTests$Scripts", name := "c", desc := "(I)I" } : Jvm.MethodName)) ∈ en_tbl := en_ix 644 (by decide +kernel) (by decide +kernel)
set_option maxRecDepth 20000 in
theorem mw_645 : (Jvm.Cond.methodLink "LedgerTests$Scripts" (47 : Nat) ({ cls := "LedgerTests$Scripts", name := "append", desc := "(IIIII)I" } : Jvm.MethodName)) ∈ en_tbl := en_ix 645 (by decide +kernel) (by decide +kernel)
set_option maxRecDepth 20000 in
theorem mw_640 : (Jvm.Cond.methodLink "LedgerTests$Scripts" (31 : Nat) ({ cls := "LedgerTests$Scripts", name := "empty", desc := "(I)I" } : Jvm.MethodName)) ∈ en_tbl := en_ix 640 (by decide +kernel) (by decide +kernel)
set_option maxRecDepth 20000 in
theorem mw_636 : (Jvm.Cond.methodLink "LedgerTests" (171 : Nat) ({ cls := "LedgerTests$Scripts", name := "dropLines", desc := "(II)I" } : Jvm.MethodName)) ∈ en_tbl := en_ix 636 (by decide +kernel) (by decide +kernel)
set_option maxRecDepth 20000 in
theorem mw_637 : (Jvm.Cond.instanceMethod ({ cls := "LedgerTests$Scripts", name := "dropLines", desc := "(II)I" } : Jvm.MethodName)) ∈ en_tbl := en_ix 637 (by decide +kernel) (by decide +kernel)
set_option maxRecDepth 20000 in
theorem mw_638 : (Jvm.Cond.selects "LedgerTests$Scripts" ({ cls := "LedgerTests$Scripts", name := "dropLines", desc := "(II)I" } : Jvm.MethodName) ({ cls := "LedgerTests$Scripts", name := "dropLines", desc := "(II)I" } : Jvm.MethodName)) ∈ en_tbl := en_ix 638 (by decide +kernel) (by decide +kernel)
set_option maxRecDepth 20000 in
theorem mw_639 : (Jvm.Cond.code ({ cls := "LedgerTests$Scripts", name := "dropLines", desc := "(II)I" } : Jvm.MethodName) prog_7_method_8_code (6 : Nat) (Option.some Jvm.ClassFile.FieldType.int)) ∈ en_tbl := en_ix 639 (by decide +kernel) (by decide +kernel)
set_option maxRecDepth 20000 in
theorem mw_635 : (Jvm.Cond.methodLink "LedgerTests" (168 : Nat) ({ cls := "LedgerTests$Scripts", name := "size", desc := "(I)I" } : Jvm.MethodName)) ∈ en_tbl := en_ix 635 (by decide +kernel) (by decide +kernel)
set_option maxRecDepth 20000 in
theorem mw_651 : (Jvm.Cond.methodLink "LedgerTests" (174 : Nat) ({ cls := "LedgerTests$Scripts", name := "slotOf", desc := "(II)I" } : Jvm.MethodName)) ∈ en_tbl := en_ix 651 (by decide +kernel) (by decide +kernel)
set_option maxRecDepth 20000 in
theorem mw_652 : (Jvm.Cond.methodLink "LedgerTests" (177 : Nat) ({ cls := "LedgerTests$Scripts", name := "word", desc := "(I)I" } : Jvm.MethodName)) ∈ en_tbl := en_ix 652 (by decide +kernel) (by decide +kernel)
set_option maxRecDepth 20000 in
theorem mw_653 : (Jvm.Cond.methodLink "LedgerTests" (180 : Nat) ({ cls := "LedgerTests$Scripts", name := "a", desc := "(I)I" } : Jvm.MethodName)) ∈ en_tbl := en_ix 653 (by decide +kernel) (by decide +kernel)
set_option maxRecDepth 20000 in
theorem mw_654 : (Jvm.Cond.methodLink "LedgerTests" (183 : Nat) ({ cls := "LedgerTests$Scripts", name := "b", desc := "(I)I" } : Jvm.MethodName)) ∈ en_tbl := en_ix 654 (by decide +kernel) (by decide +kernel)
set_option maxRecDepth 20000 in
theorem mw_655 : (Jvm.Cond.methodLink "LedgerTests" (186 : Nat) ({ cls := "LedgerTests$Scripts", name := "c", desc := "(I)I" } : Jvm.MethodName)) ∈ en_tbl := en_ix 655 (by decide +kernel) (by decide +kernel)
set_option maxRecDepth 20000 in
theorem mw_660 : (Jvm.Cond.methodLink "LedgerTests" (189 : Nat) ({ cls := "LedgerTests$Code", name := "coveredBits", desc := "(I)I" } : Jvm.MethodName)) ∈ en_tbl := en_ix 660 (by decide +kernel) (by decide +kernel)
set_option maxRecDepth 20000 in
theorem mw_661 : (Jvm.Cond.instanceMethod ({ cls := "LedgerTests$Code", name := "coveredBits", desc := "(I)I" } : Jvm.MethodName)) ∈ en_tbl := en_ix 661 (by decide +kernel) (by decide +kernel)
set_option maxRecDepth 20000 in
theorem mw_662 : (Jvm.Cond.selects "LedgerTests$Code" ({ cls := "LedgerTests$Code", name := "coveredBits", desc := "(I)I" } : Jvm.MethodName) ({ cls := "LedgerTests$Code", name := "coveredBits", desc := "(I)I" } : Jvm.MethodName)) ∈ en_tbl := en_ix 662 (by decide +kernel) (by decide +kernel)
set_option maxRecDepth 20000 in
theorem mw_663 : (Jvm.Cond.code ({ cls := "LedgerTests$Code", name := "coveredBits", desc := "(I)I" } : Jvm.MethodName) prog_2_method_13_code (2 : Nat) (Option.some Jvm.ClassFile.FieldType.int)) ∈ en_tbl := en_ix 663 (by decide +kernel) (by decide +kernel)
set_option maxRecDepth 20000 in
theorem mw_668 : (Jvm.Cond.methodLink "LedgerTests" (192 : Nat) ({ cls := "LedgerTests$State", name := "coinsOf", desc := "(I)I" } : Jvm.MethodName)) ∈ en_tbl := en_ix 668 (by decide +kernel) (by decide +kernel)
set_option maxRecDepth 20000 in
theorem mw_673 : (Jvm.Cond.methodLink "LedgerTests" (195 : Nat) ({ cls := "LedgerTests$State", name := "isCell", desc := "(I)Z" } : Jvm.MethodName)) ∈ en_tbl := en_ix 673 (by decide +kernel) (by decide +kernel)
set_option maxRecDepth 20000 in
theorem mw_674 : (Jvm.Cond.methodLink "LedgerTests" (198 : Nat) ({ cls := "LedgerTests$State", name := "cellOf", desc := "(II)I" } : Jvm.MethodName)) ∈ en_tbl := en_ix 674 (by decide +kernel) (by decide +kernel)
set_option maxRecDepth 20000 in
theorem mw_679 : (Jvm.Cond.methodLink "LedgerTests" (201 : Nat) ({ cls := "LedgerTests$State", name := "eventAt", desc := "(I)I" } : Jvm.MethodName)) ∈ en_tbl := en_ix 679 (by decide +kernel) (by decide +kernel)
set_option maxRecDepth 20000 in
theorem mw_684 : (Jvm.Cond.methodLink "LedgerTests" (204 : Nat) ({ cls := "LedgerTests$State", name := "eventCount", desc := "()I" } : Jvm.MethodName)) ∈ en_tbl := en_ix 684 (by decide +kernel) (by decide +kernel)
set_option maxRecDepth 20000 in
theorem mw_685 : (Jvm.Cond.methodLink "LedgerTests" (207 : Nat) ({ cls := "LedgerTests$Code", name := "contractCount", desc := "()I" } : Jvm.MethodName)) ∈ en_tbl := en_ix 685 (by decide +kernel) (by decide +kernel)
set_option maxRecDepth 20000 in
theorem mw_686 : (Jvm.Cond.instanceMethod ({ cls := "LedgerTests$Code", name := "contractCount", desc := "()I" } : Jvm.MethodName)) ∈ en_tbl := en_ix 686 (by decide +kernel) (by decide +kernel)
set_option maxRecDepth 20000 in
theorem mw_687 : (Jvm.Cond.selects "LedgerTests$Code" ({ cls := "LedgerTests$Code", name := "contractCount", desc := "()I" } : Jvm.MethodName) ({ cls := "LedgerTests$Code", name := "contractCount", desc := "()I" } : Jvm.MethodName)) ∈ en_tbl := en_ix 687 (by decide +kernel) (by decide +kernel)
set_option maxRecDepth 20000 in
theorem mw_688 : (Jvm.Cond.code ({ cls := "LedgerTests$Code", name := "contractCount", desc := "()I" } : Jvm.MethodName) prog_2_method_4_code (1 : Nat) (Option.some Jvm.ClassFile.FieldType.int)) ∈ en_tbl := en_ix 688 (by decide +kernel) (by decide +kernel)
set_option maxRecDepth 20000 in
theorem mw_689 : (Jvm.Cond.methodLink "LedgerTests" (210 : Nat) ({ cls := "LedgerTests$Machine", name := "inAll", desc := "()I" } : Jvm.MethodName)) ∈ en_tbl := en_ix 689 (by decide +kernel) (by decide +kernel)
set_option maxRecDepth 20000 in
theorem mw_690 : (Jvm.Cond.instanceMethod ({ cls := "LedgerTests$Machine", name := "inAll", desc := "()I" } : Jvm.MethodName)) ∈ en_tbl := en_ix 690 (by decide +kernel) (by decide +kernel)
set_option maxRecDepth 20000 in
theorem mw_691 : (Jvm.Cond.selects "LedgerTests$Machine" ({ cls := "LedgerTests$Machine", name := "inAll", desc := "()I" } : Jvm.MethodName) ({ cls := "LedgerTests$Machine", name := "inAll", desc := "()I" } : Jvm.MethodName)) ∈ en_tbl := en_ix 691 (by decide +kernel) (by decide +kernel)
set_option maxRecDepth 20000 in
theorem mw_692 : (Jvm.Cond.code ({ cls := "LedgerTests$Machine", name := "inAll", desc := "()I" } : Jvm.MethodName) prog_4_method_2_code (1 : Nat) (Option.some Jvm.ClassFile.FieldType.int)) ∈ en_tbl := en_ix 692 (by decide +kernel) (by decide +kernel)
set_option maxRecDepth 20000 in
theorem mw_693 : (Jvm.Cond.methodLink "LedgerTests" (213 : Nat) ({ cls := "LedgerTests$Faces", name := "boundCount", desc := "()I" } : Jvm.MethodName)) ∈ en_tbl := en_ix 693 (by decide +kernel) (by decide +kernel)
set_option maxRecDepth 20000 in
theorem mw_694 : (Jvm.Cond.instanceMethod ({ cls := "LedgerTests$Faces", name := "boundCount", desc := "()I" } : Jvm.MethodName)) ∈ en_tbl := en_ix 694 (by decide +kernel) (by decide +kernel)
set_option maxRecDepth 20000 in
theorem mw_695 : (Jvm.Cond.selects "LedgerTests$Faces" ({ cls := "LedgerTests$Faces", name := "boundCount", desc := "()I" } : Jvm.MethodName) ({ cls := "LedgerTests$Faces", name := "boundCount", desc := "()I" } : Jvm.MethodName)) ∈ en_tbl := en_ix 695 (by decide +kernel) (by decide +kernel)
set_option maxRecDepth 20000 in
theorem mw_696 : (Jvm.Cond.code ({ cls := "LedgerTests$Faces", name := "boundCount", desc := "()I" } : Jvm.MethodName) prog_3_method_5_code (3 : Nat) (Option.some Jvm.ClassFile.FieldType.int)) ∈ en_tbl := en_ix 696 (by decide +kernel) (by decide +kernel)
set_option maxRecDepth 20000 in
theorem mw_859 : (Jvm.Cond.constantLong "LedgerTestsModel" (121 : Nat) (11 : Int64)) ∈ en_tbl := en_ix 859 (by decide +kernel) (by decide +kernel)
set_option maxRecDepth 20000 in
theorem mw_860 : (Jvm.Cond.methodLink "LedgerTestsModel" (123 : Nat) ({ cls := "LedgerTestsModel", name := "in", desc := "(JJJ)Z" } : Jvm.MethodName)) ∈ en_tbl := en_ix 860 (by decide +kernel) (by decide +kernel)
set_option maxRecDepth 20000 in
theorem mw_9 : (Jvm.Cond.initialized "LedgerTestsModel") ∈ en_tbl := en_ix 9 (by decide +kernel) (by decide +kernel)
set_option maxRecDepth 20000 in
theorem mw_861 : (Jvm.Cond.static ({ cls := "LedgerTestsModel", name := "in", desc := "(JJJ)Z" } : Jvm.MethodName)) ∈ en_tbl := en_ix 861 (by decide +kernel) (by decide +kernel)
set_option maxRecDepth 20000 in
theorem mw_862 : (Jvm.Cond.code ({ cls := "LedgerTestsModel", name := "in", desc := "(JJJ)Z" } : Jvm.MethodName) prog_10_method_3_code (6 : Nat) (Option.some Jvm.ClassFile.FieldType.boolean)) ∈ en_tbl := en_ix 862 (by decide +kernel) (by decide +kernel)
set_option maxRecDepth 20000 in
theorem mw_856 : (Jvm.Cond.methodLink "LedgerTestsModel" (133 : Nat) ({ cls := "LedgerTestsModel", name := "isAccount", desc := "(I)Z" } : Jvm.MethodName)) ∈ en_tbl := en_ix 856 (by decide +kernel) (by decide +kernel)
set_option maxRecDepth 20000 in
theorem mw_857 : (Jvm.Cond.static ({ cls := "LedgerTestsModel", name := "isAccount", desc := "(I)Z" } : Jvm.MethodName)) ∈ en_tbl := en_ix 857 (by decide +kernel) (by decide +kernel)
set_option maxRecDepth 20000 in
theorem mw_858 : (Jvm.Cond.code ({ cls := "LedgerTestsModel", name := "isAccount", desc := "(I)Z" } : Jvm.MethodName) prog_10_method_4_code (1 : Nat) (Option.some Jvm.ClassFile.FieldType.boolean)) ∈ en_tbl := en_ix 858 (by decide +kernel) (by decide +kernel)
set_option maxRecDepth 20000 in
theorem mw_863 : (Jvm.Cond.constantLong "LedgerTestsModel" (137 : Nat) (1000000000 : Int64)) ∈ en_tbl := en_ix 863 (by decide +kernel) (by decide +kernel)
set_option maxRecDepth 20000 in
theorem mw_717 : (Jvm.Cond.fieldLink "LedgerTestsModel" (7 : Nat) "LedgerTestsModel" "state" "[I") ∈ en_tbl := en_ix 717 (by decide +kernel) (by decide +kernel)
set_option maxRecDepth 20000 in
theorem mw_718 : (Jvm.Cond.fieldLink "LedgerTestsModel" (127 : Nat) "LedgerTestsModel" "contracts" "I") ∈ en_tbl := en_ix 718 (by decide +kernel) (by decide +kernel)
set_option maxRecDepth 20000 in
theorem mw_876 : (Jvm.Cond.constantLong "LedgerTestsModel" (131 : Nat) (2 : Int64)) ∈ en_tbl := en_ix 876 (by decide +kernel) (by decide +kernel)
set_option maxRecDepth 20000 in
theorem mw_880 : (Jvm.Cond.constantLong "LedgerTestsModel" (139 : Nat) (3 : Int64)) ∈ en_tbl := en_ix 880 (by decide +kernel) (by decide +kernel)
set_option maxRecDepth 20000 in
theorem mw_881 : (Jvm.Cond.constantLong "LedgerTestsModel" (141 : Nat) (9 : Int64)) ∈ en_tbl := en_ix 881 (by decide +kernel) (by decide +kernel)
set_option maxRecDepth 20000 in
theorem mw_882 : (Jvm.Cond.constantLong "LedgerTestsModel" (143 : Nat) (7 : Int64)) ∈ en_tbl := en_ix 882 (by decide +kernel) (by decide +kernel)
set_option maxRecDepth 20000 in
theorem mw_872 : (Jvm.Cond.methodLink "LedgerTestsModel" (145 : Nat) ({ cls := "LedgerTestsModel", name := "isMember", desc := "(II)Z" } : Jvm.MethodName)) ∈ en_tbl := en_ix 872 (by decide +kernel) (by decide +kernel)
set_option maxRecDepth 20000 in
theorem mw_874 : (Jvm.Cond.instanceMethod ({ cls := "LedgerTestsModel", name := "isMember", desc := "(II)Z" } : Jvm.MethodName)) ∈ en_tbl := en_ix 874 (by decide +kernel) (by decide +kernel)
set_option maxRecDepth 20000 in
theorem mp_21 : Cond.selects "LedgerTestsModel" ⟨"LedgerTestsModel", "isMember", "(II)Z"⟩ ⟨"LedgerTestsModel", "isMember", "(II)Z"⟩ ∈ en_tbl := en_ixp 21 (by decide +kernel) (by decide +kernel)
set_option maxRecDepth 20000 in
theorem mw_875 : (Jvm.Cond.code ({ cls := "LedgerTestsModel", name := "isMember", desc := "(II)Z" } : Jvm.MethodName) prog_10_method_5_code (3 : Nat) (Option.some Jvm.ClassFile.FieldType.boolean)) ∈ en_tbl := en_ix 875 (by decide +kernel) (by decide +kernel)
set_option maxRecDepth 20000 in
theorem mw_877 : (Jvm.Cond.methodLink "LedgerTestsModel" (149 : Nat) ({ cls := "LedgerTestsModel", name := "fits", desc := "(II)Z" } : Jvm.MethodName)) ∈ en_tbl := en_ix 877 (by decide +kernel) (by decide +kernel)
set_option maxRecDepth 20000 in
theorem mw_878 : (Jvm.Cond.static ({ cls := "LedgerTestsModel", name := "fits", desc := "(II)Z" } : Jvm.MethodName)) ∈ en_tbl := en_ix 878 (by decide +kernel) (by decide +kernel)
set_option maxRecDepth 20000 in
theorem mw_879 : (Jvm.Cond.code ({ cls := "LedgerTestsModel", name := "fits", desc := "(II)Z" } : Jvm.MethodName) prog_10_method_8_code (2 : Nat) (Option.some Jvm.ClassFile.FieldType.boolean)) ∈ en_tbl := en_ix 879 (by decide +kernel) (by decide +kernel)
set_option maxRecDepth 20000 in
theorem mw_719 : (Jvm.Cond.fieldLink "LedgerTestsModel" (13 : Nat) "LedgerTestsModel" "many" "[I") ∈ en_tbl := en_ix 719 (by decide +kernel) (by decide +kernel)
set_option maxRecDepth 20000 in
theorem mw_720 : (Jvm.Cond.fieldLink "LedgerTestsModel" (16 : Nat) "LedgerTestsModel" "kinds" "[I") ∈ en_tbl := en_ix 720 (by decide +kernel) (by decide +kernel)
set_option maxRecDepth 20000 in
theorem mw_721 : (Jvm.Cond.fieldLink "LedgerTestsModel" (19 : Nat) "LedgerTestsModel" "firsts" "[I") ∈ en_tbl := en_ix 721 (by decide +kernel) (by decide +kernel)
set_option maxRecDepth 20000 in
theorem mw_722 : (Jvm.Cond.fieldLink "LedgerTestsModel" (22 : Nat) "LedgerTestsModel" "seconds" "[I") ∈ en_tbl := en_ix 722 (by decide +kernel) (by decide +kernel)
set_option maxRecDepth 20000 in
theorem mw_724 : (Jvm.Cond.fieldLink "LedgerTestsModel" (28 : Nat) "LedgerTestsModel" "bound" "[I") ∈ en_tbl := en_ix 724 (by decide +kernel) (by decide +kernel)
set_option maxRecDepth 20000 in
theorem mw_891 : (Jvm.Cond.constantLong "LedgerTestsModel" (152 : Nat) (1000 : Int64)) ∈ en_tbl := en_ix 891 (by decide +kernel) (by decide +kernel)
set_option maxRecDepth 20000 in
theorem mw_738 : (Jvm.Cond.fieldLink "LedgerTestsModel" (65 : Nat) "LedgerTestsModel" "kept" "[I") ∈ en_tbl := en_ix 738 (by decide +kernel) (by decide +kernel)
set_option maxRecDepth 20000 in
theorem mw_733 : (Jvm.Cond.fieldLink "LedgerTestsModel" (50 : Nat) "LedgerTestsModel" "member" "[I") ∈ en_tbl := en_ix 733 (by decide +kernel) (by decide +kernel)
set_option maxRecDepth 20000 in
theorem mw_732 : (Jvm.Cond.fieldLink "LedgerTestsModel" (154 : Nat) "LedgerTestsModel" "depth" "I") ∈ en_tbl := en_ix 732 (by decide +kernel) (by decide +kernel)
set_option maxRecDepth 20000 in
theorem mw_734 : (Jvm.Cond.fieldLink "LedgerTestsModel" (53 : Nat) "LedgerTestsModel" "value" "[I") ∈ en_tbl := en_ix 734 (by decide +kernel) (by decide +kernel)
set_option maxRecDepth 20000 in
theorem mw_735 : (Jvm.Cond.fieldLink "LedgerTestsModel" (56 : Nat) "LedgerTestsModel" "place" "[I") ∈ en_tbl := en_ix 735 (by decide +kernel) (by decide +kernel)
set_option maxRecDepth 20000 in
theorem mw_736 : (Jvm.Cond.fieldLink "LedgerTestsModel" (59 : Nat) "LedgerTestsModel" "tries" "[I") ∈ en_tbl := en_ix 736 (by decide +kernel) (by decide +kernel)
set_option maxRecDepth 20000 in
theorem mw_740 : (Jvm.Cond.fieldLink "LedgerTestsModel" (161 : Nat) "LedgerTestsModel" "thrown" "I") ∈ en_tbl := en_ix 740 (by decide +kernel) (by decide +kernel)
set_option maxRecDepth 20000 in
theorem mw_741 : (Jvm.Cond.fieldLink "LedgerTestsModel" (164 : Nat) "LedgerTestsModel" "cause" "I") ∈ en_tbl := en_ix 741 (by decide +kernel) (by decide +kernel)
set_option maxRecDepth 20000 in
theorem mw_743 : (Jvm.Cond.fieldLink "LedgerTestsModel" (167 : Nat) "LedgerTestsModel" "isOver" "Z") ∈ en_tbl := en_ix 743 (by decide +kernel) (by decide +kernel)
set_option maxRecDepth 20000 in
theorem mw_913 : (Jvm.Cond.methodLink "LedgerTestsModel" (157 : Nat) ({ cls := "LedgerTestsModel", name := "restore", desc := "(I)V" } : Jvm.MethodName)) ∈ en_tbl := en_ix 913 (by decide +kernel) (by decide +kernel)
set_option maxRecDepth 20000 in
theorem mw_915 : (Jvm.Cond.instanceMethod ({ cls := "LedgerTestsModel", name := "restore", desc := "(I)V" } : Jvm.MethodName)) ∈ en_tbl := en_ix 915 (by decide +kernel) (by decide +kernel)
set_option maxRecDepth 20000 in
theorem mp_26 : Cond.selects "LedgerTestsModel" ⟨"LedgerTestsModel", "restore", "(I)V"⟩ ⟨"LedgerTestsModel", "restore", "(I)V"⟩ ∈ en_tbl := en_ixp 26 (by decide +kernel) (by decide +kernel)
set_option maxRecDepth 20000 in
theorem mw_916 : (Jvm.Cond.code ({ cls := "LedgerTestsModel", name := "restore", desc := "(I)V" } : Jvm.MethodName) prog_10_method_13_code (3 : Nat) (Option.none : Option Jvm.ClassFile.FieldType)) ∈ en_tbl := en_ix 916 (by decide +kernel) (by decide +kernel)
set_option maxRecDepth 20000 in
theorem mw_737 : (Jvm.Cond.fieldLink "LedgerTestsModel" (62 : Nat) "LedgerTestsModel" "ends" "[I") ∈ en_tbl := en_ix 737 (by decide +kernel) (by decide +kernel)
set_option maxRecDepth 20000 in
theorem mw_723 : (Jvm.Cond.fieldLink "LedgerTestsModel" (25 : Nat) "LedgerTestsModel" "covers" "[I") ∈ en_tbl := en_ix 723 (by decide +kernel) (by decide +kernel)
set_option maxRecDepth 20000 in
theorem mw_925 : (Jvm.Cond.methodLink "LedgerTestsModel" (171 : Nat) ({ cls := "LedgerTestsModel", name := "end", desc := "(I)I" } : Jvm.MethodName)) ∈ en_tbl := en_ix 925 (by decide +kernel) (by decide +kernel)
set_option maxRecDepth 20000 in
theorem mw_927 : (Jvm.Cond.instanceMethod ({ cls := "LedgerTestsModel", name := "end", desc := "(I)I" } : Jvm.MethodName)) ∈ en_tbl := en_ix 927 (by decide +kernel) (by decide +kernel)
set_option maxRecDepth 20000 in
theorem mp_29 : Cond.selects "LedgerTestsModel" ⟨"LedgerTestsModel", "end", "(I)I"⟩ ⟨"LedgerTestsModel", "end", "(I)I"⟩ ∈ en_tbl := en_ixp 29 (by decide +kernel) (by decide +kernel)
set_option maxRecDepth 20000 in
theorem mw_928 : (Jvm.Cond.code ({ cls := "LedgerTestsModel", name := "end", desc := "(I)I" } : Jvm.MethodName) prog_10_method_17_code (2 : Nat) (Option.some Jvm.ClassFile.FieldType.int)) ∈ en_tbl := en_ix 928 (by decide +kernel) (by decide +kernel)
set_option maxRecDepth 20000 in
theorem mw_748 : (Jvm.Cond.fieldLink "LedgerTestsModel" (68 : Nat) "LedgerTestsModel" "doubled" "[I") ∈ en_tbl := en_ix 748 (by decide +kernel) (by decide +kernel)
set_option maxRecDepth 20000 in
theorem mw_725 : (Jvm.Cond.fieldLink "LedgerTestsModel" (181 : Nat) "LedgerTestsModel" "allSteps" "J") ∈ en_tbl := en_ix 725 (by decide +kernel) (by decide +kernel)
set_option maxRecDepth 20000 in
theorem mw_904 : (Jvm.Cond.constantLong "LedgerTestsModel" (185 : Nat) (20000 : Int64)) ∈ en_tbl := en_ix 904 (by decide +kernel) (by decide +kernel)
set_option maxRecDepth 20000 in
theorem mw_900 : (Jvm.Cond.methodLink "LedgerTestsModel" (212 : Nat) ({ cls := "LedgerTestsModel", name := "keep", desc := "(I)V" } : Jvm.MethodName)) ∈ en_tbl := en_ix 900 (by decide +kernel) (by decide +kernel)
set_option maxRecDepth 20000 in
theorem mw_902 : (Jvm.Cond.instanceMethod ({ cls := "LedgerTestsModel", name := "keep", desc := "(I)V" } : Jvm.MethodName)) ∈ en_tbl := en_ix 902 (by decide +kernel) (by decide +kernel)
set_option maxRecDepth 20000 in
theorem mp_23 : Cond.selects "LedgerTestsModel" ⟨"LedgerTestsModel", "keep", "(I)V"⟩ ⟨"LedgerTestsModel", "keep", "(I)V"⟩ ∈ en_tbl := en_ixp 23 (by decide +kernel) (by decide +kernel)
set_option maxRecDepth 20000 in
theorem mw_903 : (Jvm.Cond.code ({ cls := "LedgerTestsModel", name := "keep", desc := "(I)V" } : Jvm.MethodName) prog_10_method_12_code (3 : Nat) (Option.none : Option Jvm.ClassFile.FieldType)) ∈ en_tbl := en_ix 903 (by decide +kernel) (by decide +kernel)
set_option maxRecDepth 20000 in
theorem mw_917 : (Jvm.Cond.methodLink "LedgerTestsModel" (215 : Nat) ({ cls := "LedgerTestsModel", name := "enter", desc := "(II)V" } : Jvm.MethodName)) ∈ en_tbl := en_ix 917 (by decide +kernel) (by decide +kernel)
set_option maxRecDepth 20000 in
theorem mw_919 : (Jvm.Cond.instanceMethod ({ cls := "LedgerTestsModel", name := "enter", desc := "(II)V" } : Jvm.MethodName)) ∈ en_tbl := en_ix 919 (by decide +kernel) (by decide +kernel)
set_option maxRecDepth 20000 in
theorem mp_27 : Cond.selects "LedgerTestsModel" ⟨"LedgerTestsModel", "enter", "(II)V"⟩ ⟨"LedgerTestsModel", "enter", "(II)V"⟩ ∈ en_tbl := en_ixp 27 (by decide +kernel) (by decide +kernel)
set_option maxRecDepth 20000 in
theorem mw_920 : (Jvm.Cond.code ({ cls := "LedgerTestsModel", name := "enter", desc := "(II)V" } : Jvm.MethodName) prog_10_method_15_code (3 : Nat) (Option.none : Option Jvm.ClassFile.FieldType)) ∈ en_tbl := en_ix 920 (by decide +kernel) (by decide +kernel)
set_option maxRecDepth 20000 in
theorem mw_909 : (Jvm.Cond.methodLink "LedgerTestsModel" (187 : Nat) ({ cls := "LedgerTestsModel", name := "raise", desc := "(II)V" } : Jvm.MethodName)) ∈ en_tbl := en_ix 909 (by decide +kernel) (by decide +kernel)
set_option maxRecDepth 20000 in
theorem mw_911 : (Jvm.Cond.instanceMethod ({ cls := "LedgerTestsModel", name := "raise", desc := "(II)V" } : Jvm.MethodName)) ∈ en_tbl := en_ix 911 (by decide +kernel) (by decide +kernel)
set_option maxRecDepth 20000 in
theorem mp_25 : Cond.selects "LedgerTestsModel" ⟨"LedgerTestsModel", "raise", "(II)V"⟩ ⟨"LedgerTestsModel", "raise", "(II)V"⟩ ∈ en_tbl := en_ixp 25 (by decide +kernel) (by decide +kernel)
set_option maxRecDepth 20000 in
theorem mw_912 : (Jvm.Cond.code ({ cls := "LedgerTestsModel", name := "raise", desc := "(II)V" } : Jvm.MethodName) prog_10_method_16_code (6 : Nat) (Option.none : Option Jvm.ClassFile.FieldType)) ∈ en_tbl := en_ix 912 (by decide +kernel) (by decide +kernel)
set_option maxRecDepth 20000 in
theorem mw_749 : (Jvm.Cond.fieldLink "LedgerTestsModel" (71 : Nat) "LedgerTestsModel" "doubles" "[I") ∈ en_tbl := en_ix 749 (by decide +kernel) (by decide +kernel)
set_option maxRecDepth 20000 in
theorem mw_905 : (Jvm.Cond.methodLink "LedgerTestsModel" (201 : Nat) ({ cls := "LedgerTestsModel", name := "pay", desc := "(III)I" } : Jvm.MethodName)) ∈ en_tbl := en_ix 905 (by decide +kernel) (by decide +kernel)
set_option maxRecDepth 20000 in
theorem mw_907 : (Jvm.Cond.instanceMethod ({ cls := "LedgerTestsModel", name := "pay", desc := "(III)I" } : Jvm.MethodName)) ∈ en_tbl := en_ix 907 (by decide +kernel) (by decide +kernel)
set_option maxRecDepth 20000 in
theorem mp_24 : Cond.selects "LedgerTestsModel" ⟨"LedgerTestsModel", "pay", "(III)I"⟩ ⟨"LedgerTestsModel", "pay", "(III)I"⟩ ∈ en_tbl := en_ixp 24 (by decide +kernel) (by decide +kernel)
set_option maxRecDepth 20000 in
theorem mw_908 : (Jvm.Cond.code ({ cls := "LedgerTestsModel", name := "pay", desc := "(III)I" } : Jvm.MethodName) prog_10_method_14_code (4 : Nat) (Option.some Jvm.ClassFile.FieldType.int)) ∈ en_tbl := en_ix 908 (by decide +kernel) (by decide +kernel)
set_option maxRecDepth 20000 in
theorem mw_933 : (Jvm.Cond.methodLink "LedgerTestsModel" (205 : Nat) ({ cls := "LedgerTestsModel", name := "pass", desc := "(IIZI)V" } : Jvm.MethodName)) ∈ en_tbl := en_ix 933 (by decide +kernel) (by decide +kernel)
set_option maxRecDepth 20000 in
theorem mw_935 : (Jvm.Cond.instanceMethod ({ cls := "LedgerTestsModel", name := "pass", desc := "(IIZI)V" } : Jvm.MethodName)) ∈ en_tbl := en_ix 935 (by decide +kernel) (by decide +kernel)
set_option maxRecDepth 20000 in
theorem mp_31 : Cond.selects "LedgerTestsModel" ⟨"LedgerTestsModel", "pass", "(IIZI)V"⟩ ⟨"LedgerTestsModel", "pass", "(IIZI)V"⟩ ∈ en_tbl := en_ixp 31 (by decide +kernel) (by decide +kernel)
set_option maxRecDepth 20000 in
theorem mw_936 : (Jvm.Cond.code ({ cls := "LedgerTestsModel", name := "pass", desc := "(IIZI)V" } : Jvm.MethodName) prog_10_method_19_code (6 : Nat) (Option.none : Option Jvm.ClassFile.FieldType)) ∈ en_tbl := en_ix 936 (by decide +kernel) (by decide +kernel)
set_option maxRecDepth 20000 in
theorem mw_937 : (Jvm.Cond.methodLink "LedgerTestsModel" (209 : Nat) ({ cls := "LedgerTestsModel", name := "ask", desc := "(II)V" } : Jvm.MethodName)) ∈ en_tbl := en_ix 937 (by decide +kernel) (by decide +kernel)
set_option maxRecDepth 20000 in
theorem mw_939 : (Jvm.Cond.instanceMethod ({ cls := "LedgerTestsModel", name := "ask", desc := "(II)V" } : Jvm.MethodName)) ∈ en_tbl := en_ix 939 (by decide +kernel) (by decide +kernel)
set_option maxRecDepth 20000 in
theorem mp_32 : Cond.selects "LedgerTestsModel" ⟨"LedgerTestsModel", "ask", "(II)V"⟩ ⟨"LedgerTestsModel", "ask", "(II)V"⟩ ∈ en_tbl := en_ixp 32 (by decide +kernel) (by decide +kernel)
set_option maxRecDepth 20000 in
theorem mw_940 : (Jvm.Cond.code ({ cls := "LedgerTestsModel", name := "ask", desc := "(II)V" } : Jvm.MethodName) prog_10_method_21_code (3 : Nat) (Option.none : Option Jvm.ClassFile.FieldType)) ∈ en_tbl := en_ix 940 (by decide +kernel) (by decide +kernel)
set_option maxRecDepth 20000 in
theorem mw_739 : (Jvm.Cond.fieldLink "LedgerTestsModel" (178 : Nat) "LedgerTestsModel" "steps" "I") ∈ en_tbl := en_ix 739 (by decide +kernel) (by decide +kernel)
set_option maxRecDepth 20000 in
theorem mw_751 : (Jvm.Cond.fieldLink "LedgerTestsModel" (191 : Nat) "LedgerTestsModel" "mutantWay" "I") ∈ en_tbl := en_ix 751 (by decide +kernel) (by decide +kernel)
set_option maxRecDepth 20000 in
theorem mw_929 : (Jvm.Cond.methodLink "LedgerTestsModel" (197 : Nat) ({ cls := "LedgerTestsModel", name := "work", desc := "(III)V" } : Jvm.MethodName)) ∈ en_tbl := en_ix 929 (by decide +kernel) (by decide +kernel)
set_option maxRecDepth 20000 in
theorem mw_931 : (Jvm.Cond.instanceMethod ({ cls := "LedgerTestsModel", name := "work", desc := "(III)V" } : Jvm.MethodName)) ∈ en_tbl := en_ix 931 (by decide +kernel) (by decide +kernel)
set_option maxRecDepth 20000 in
theorem mp_30 : Cond.selects "LedgerTestsModel" ⟨"LedgerTestsModel", "work", "(III)V"⟩ ⟨"LedgerTestsModel", "work", "(III)V"⟩ ∈ en_tbl := en_ixp 30 (by decide +kernel) (by decide +kernel)
set_option maxRecDepth 20000 in
theorem mw_932 : (Jvm.Cond.code ({ cls := "LedgerTestsModel", name := "work", desc := "(III)V" } : Jvm.MethodName) prog_10_method_20_code (10 : Nat) (Option.none : Option Jvm.ClassFile.FieldType)) ∈ en_tbl := en_ix 932 (by decide +kernel) (by decide +kernel)
set_option maxRecDepth 20000 in
theorem mw_750 : (Jvm.Cond.fieldLink "LedgerTestsModel" (194 : Nat) "LedgerTestsModel" "mutantAt" "I") ∈ en_tbl := en_ix 750 (by decide +kernel) (by decide +kernel)
set_option maxRecDepth 20000 in
theorem mw_742 : (Jvm.Cond.fieldLink "LedgerTestsModel" (175 : Nat) "LedgerTestsModel" "answer" "I") ∈ en_tbl := en_ix 742 (by decide +kernel) (by decide +kernel)
set_option maxRecDepth 20000 in
theorem mw_744 : (Jvm.Cond.fieldLink "LedgerTestsModel" (221 : Nat) "LedgerTestsModel" "lastAnswer" "I") ∈ en_tbl := en_ix 744 (by decide +kernel) (by decide +kernel)
set_option maxRecDepth 20000 in
theorem mw_745 : (Jvm.Cond.fieldLink "LedgerTestsModel" (224 : Nat) "LedgerTestsModel" "lastThrown" "I") ∈ en_tbl := en_ix 745 (by decide +kernel) (by decide +kernel)
set_option maxRecDepth 20000 in
theorem mw_746 : (Jvm.Cond.fieldLink "LedgerTestsModel" (227 : Nat) "LedgerTestsModel" "lastCause" "I") ∈ en_tbl := en_ix 746 (by decide +kernel) (by decide +kernel)
set_option maxRecDepth 20000 in
theorem mw_747 : (Jvm.Cond.fieldLink "LedgerTestsModel" (230 : Nat) "LedgerTestsModel" "lastSteps" "I") ∈ en_tbl := en_ix 747 (by decide +kernel) (by decide +kernel)
set_option maxRecDepth 20000 in
theorem mw_921 : (Jvm.Cond.methodLink "LedgerTestsModel" (218 : Nat) ({ cls := "LedgerTestsModel", name := "goOn", desc := "()V" } : Jvm.MethodName)) ∈ en_tbl := en_ix 921 (by decide +kernel) (by decide +kernel)
set_option maxRecDepth 20000 in
theorem mw_923 : (Jvm.Cond.instanceMethod ({ cls := "LedgerTestsModel", name := "goOn", desc := "()V" } : Jvm.MethodName)) ∈ en_tbl := en_ix 923 (by decide +kernel) (by decide +kernel)
set_option maxRecDepth 20000 in
theorem mp_28 : Cond.selects "LedgerTestsModel" ⟨"LedgerTestsModel", "goOn", "()V"⟩ ⟨"LedgerTestsModel", "goOn", "()V"⟩ ∈ en_tbl := en_ixp 28 (by decide +kernel) (by decide +kernel)
set_option maxRecDepth 20000 in
theorem mw_924 : (Jvm.Cond.code ({ cls := "LedgerTestsModel", name := "goOn", desc := "()V" } : Jvm.MethodName) prog_10_method_18_code (3 : Nat) (Option.none : Option Jvm.ClassFile.FieldType)) ∈ en_tbl := en_ix 924 (by decide +kernel) (by decide +kernel)
set_option maxRecDepth 20000 in
theorem mw_896 : (Jvm.Cond.methodLink "LedgerTestsModel" (233 : Nat) ({ cls := "LedgerTestsModel", name := "outside", desc := "(IIII)V" } : Jvm.MethodName)) ∈ en_tbl := en_ix 896 (by decide +kernel) (by decide +kernel)
set_option maxRecDepth 20000 in
theorem mw_898 : (Jvm.Cond.instanceMethod ({ cls := "LedgerTestsModel", name := "outside", desc := "(IIII)V" } : Jvm.MethodName)) ∈ en_tbl := en_ix 898 (by decide +kernel) (by decide +kernel)
set_option maxRecDepth 20000 in
theorem mp_22 : Cond.selects "LedgerTestsModel" ⟨"LedgerTestsModel", "outside", "(IIII)V"⟩ ⟨"LedgerTestsModel", "outside", "(IIII)V"⟩ ∈ en_tbl := en_ixp 22 (by decide +kernel) (by decide +kernel)
set_option maxRecDepth 20000 in
theorem mw_899 : (Jvm.Cond.code ({ cls := "LedgerTestsModel", name := "outside", desc := "(IIII)V" } : Jvm.MethodName) prog_10_method_22_code (6 : Nat) (Option.none : Option Jvm.ClassFile.FieldType)) ∈ en_tbl := en_ix 899 (by decide +kernel) (by decide +kernel)
set_option maxRecDepth 20000 in
theorem mw_949 : (Jvm.Cond.constantLong "LedgerTestsModel" (237 : Nat) (5 : Int64)) ∈ en_tbl := en_ix 949 (by decide +kernel) (by decide +kernel)
set_option maxRecDepth 20000 in
theorem mw_727 : (Jvm.Cond.fieldLink "LedgerTestsModel" (35 : Nat) "LedgerTestsModel" "lineMany" "[I") ∈ en_tbl := en_ix 727 (by decide +kernel) (by decide +kernel)
set_option maxRecDepth 20000 in
theorem mw_728 : (Jvm.Cond.fieldLink "LedgerTestsModel" (38 : Nat) "LedgerTestsModel" "lineWords" "[I") ∈ en_tbl := en_ix 728 (by decide +kernel) (by decide +kernel)
set_option maxRecDepth 20000 in
theorem mw_729 : (Jvm.Cond.fieldLink "LedgerTestsModel" (41 : Nat) "LedgerTestsModel" "lineFirsts" "[I") ∈ en_tbl := en_ix 729 (by decide +kernel) (by decide +kernel)
set_option maxRecDepth 20000 in
theorem mw_730 : (Jvm.Cond.fieldLink "LedgerTestsModel" (44 : Nat) "LedgerTestsModel" "lineSeconds" "[I") ∈ en_tbl := en_ix 730 (by decide +kernel) (by decide +kernel)
set_option maxRecDepth 20000 in
theorem mw_731 : (Jvm.Cond.fieldLink "LedgerTestsModel" (47 : Nat) "LedgerTestsModel" "lineThirds" "[I") ∈ en_tbl := en_ix 731 (by decide +kernel) (by decide +kernel)
set_option maxRecDepth 20000 in
theorem mw_726 : (Jvm.Cond.fieldLink "LedgerTestsModel" (31 : Nat) "LedgerTestsModel" "words" "[J") ∈ en_tbl := en_ix 726 (by decide +kernel) (by decide +kernel)
set_option maxRecDepth 20000 in
theorem mw_757 : (Jvm.Cond.fieldLink "LedgerTestsModel" (239 : Nat) "LedgerTestsModel" "hasCalled" "Z") ∈ en_tbl := en_ix 757 (by decide +kernel) (by decide +kernel)
set_option maxRecDepth 20000 in
theorem mw_755 : (Jvm.Cond.fieldLink "LedgerTestsModel" (242 : Nat) "LedgerTestsModel" "by" "I") ∈ en_tbl := en_ix 755 (by decide +kernel) (by decide +kernel)
set_option maxRecDepth 20000 in
theorem mw_756 : (Jvm.Cond.fieldLink "LedgerTestsModel" (245 : Nat) "LedgerTestsModel" "with" "I") ∈ en_tbl := en_ix 756 (by decide +kernel) (by decide +kernel)
set_option maxRecDepth 20000 in
theorem mw_754 : (Jvm.Cond.fieldLink "LedgerTestsModel" (80 : Nat) "LedgerTestsModel" "isFork" "[Z") ∈ en_tbl := en_ix 754 (by decide +kernel) (by decide +kernel)
set_option maxRecDepth 20000 in
theorem mw_753 : (Jvm.Cond.fieldLink "LedgerTestsModel" (77 : Nat) "LedgerTestsModel" "forks" "[I") ∈ en_tbl := en_ix 753 (by decide +kernel) (by decide +kernel)
set_option maxRecDepth 20000 in
theorem mw_966 : (Jvm.Cond.methodLink "LedgerTestsModel" (248 : Nat) ({ cls := "LedgerTestsModel", name := "calls", desc := "(IIIII)Z" } : Jvm.MethodName)) ∈ en_tbl := en_ix 966 (by decide +kernel) (by decide +kernel)
set_option maxRecDepth 20000 in
theorem mw_968 : (Jvm.Cond.instanceMethod ({ cls := "LedgerTestsModel", name := "calls", desc := "(IIIII)Z" } : Jvm.MethodName)) ∈ en_tbl := en_ix 968 (by decide +kernel) (by decide +kernel)
set_option maxRecDepth 20000 in
theorem mp_35 : Cond.selects "LedgerTestsModel" ⟨"LedgerTestsModel", "calls", "(IIIII)Z"⟩ ⟨"LedgerTestsModel", "calls", "(IIIII)Z"⟩ ∈ en_tbl := en_ixp 35 (by decide +kernel) (by decide +kernel)
set_option maxRecDepth 20000 in
theorem mw_969 : (Jvm.Cond.code ({ cls := "LedgerTestsModel", name := "calls", desc := "(IIIII)Z" } : Jvm.MethodName) prog_10_method_27_code (7 : Nat) (Option.some Jvm.ClassFile.FieldType.boolean)) ∈ en_tbl := en_ix 969 (by decide +kernel) (by decide +kernel)
set_option maxRecDepth 20000 in
theorem mw_970 : (Jvm.Cond.constantLong "LedgerTestsModel" (252 : Nat) (40 : Int64)) ∈ en_tbl := en_ix 970 (by decide +kernel) (by decide +kernel)
set_option maxRecDepth 20000 in
theorem mw_752 : (Jvm.Cond.fieldLink "LedgerTestsModel" (74 : Nat) "LedgerTestsModel" "ahead" "[I") ∈ en_tbl := en_ix 752 (by decide +kernel) (by decide +kernel)
set_option maxRecDepth 20000 in
theorem mw_971 : (Jvm.Cond.methodLink "LedgerTestsModel" (254 : Nat) ({ cls := "LedgerTestsModel", name := "sum", desc := "()J" } : Jvm.MethodName)) ∈ en_tbl := en_ix 971 (by decide +kernel) (by decide +kernel)
set_option maxRecDepth 20000 in
theorem mw_973 : (Jvm.Cond.instanceMethod ({ cls := "LedgerTestsModel", name := "sum", desc := "()J" } : Jvm.MethodName)) ∈ en_tbl := en_ix 973 (by decide +kernel) (by decide +kernel)
set_option maxRecDepth 20000 in
theorem mp_36 : Cond.selects "LedgerTestsModel" ⟨"LedgerTestsModel", "sum", "()J"⟩ ⟨"LedgerTestsModel", "sum", "()J"⟩ ∈ en_tbl := en_ixp 36 (by decide +kernel) (by decide +kernel)
set_option maxRecDepth 20000 in
theorem mw_974 : (Jvm.Cond.code ({ cls := "LedgerTestsModel", name := "sum", desc := "()J" } : Jvm.MethodName) prog_10_method_28_code (4 : Nat) (Option.some Jvm.ClassFile.FieldType.long)) ∈ en_tbl := en_ix 974 (by decide +kernel) (by decide +kernel)
set_option maxRecDepth 20000 in
theorem mw_975 : (Jvm.Cond.methodLink "LedgerTestsModel" (258 : Nat) ({ cls := "LedgerTestsModel", name := "forked", desc := "(ZI)Z" } : Jvm.MethodName)) ∈ en_tbl := en_ix 975 (by decide +kernel) (by decide +kernel)
set_option maxRecDepth 20000 in
theorem mw_977 : (Jvm.Cond.instanceMethod ({ cls := "LedgerTestsModel", name := "forked", desc := "(ZI)Z" } : Jvm.MethodName)) ∈ en_tbl := en_ix 977 (by decide +kernel) (by decide +kernel)
set_option maxRecDepth 20000 in
theorem mp_37 : Cond.selects "LedgerTestsModel" ⟨"LedgerTestsModel", "forked", "(ZI)Z"⟩ ⟨"LedgerTestsModel", "forked", "(ZI)Z"⟩ ∈ en_tbl := en_ixp 37 (by decide +kernel) (by decide +kernel)
set_option maxRecDepth 20000 in
theorem mw_978 : (Jvm.Cond.code ({ cls := "LedgerTestsModel", name := "forked", desc := "(ZI)Z" } : Jvm.MethodName) prog_10_method_29_code (4 : Nat) (Option.some Jvm.ClassFile.FieldType.boolean)) ∈ en_tbl := en_ix 978 (by decide +kernel) (by decide +kernel)
set_option maxRecDepth 20000 in
theorem mw_979 : (Jvm.Cond.methodLink "LedgerTestsModel" (262 : Nat) ({ cls := "LedgerTestsModel", name := "doubles", desc := "(III)Z" } : Jvm.MethodName)) ∈ en_tbl := en_ix 979 (by decide +kernel) (by decide +kernel)
set_option maxRecDepth 20000 in
theorem mw_981 : (Jvm.Cond.instanceMethod ({ cls := "LedgerTestsModel", name := "doubles", desc := "(III)Z" } : Jvm.MethodName)) ∈ en_tbl := en_ix 981 (by decide +kernel) (by decide +kernel)
set_option maxRecDepth 20000 in
theorem mp_38 : Cond.selects "LedgerTestsModel" ⟨"LedgerTestsModel", "doubles", "(III)Z"⟩ ⟨"LedgerTestsModel", "doubles", "(III)Z"⟩ ∈ en_tbl := en_ixp 38 (by decide +kernel) (by decide +kernel)
set_option maxRecDepth 20000 in
theorem mw_982 : (Jvm.Cond.code ({ cls := "LedgerTestsModel", name := "doubles", desc := "(III)Z" } : Jvm.MethodName) prog_10_method_30_code (4 : Nat) (Option.some Jvm.ClassFile.FieldType.boolean)) ∈ en_tbl := en_ix 982 (by decide +kernel) (by decide +kernel)
set_option maxRecDepth 20000 in
theorem mw_962 : (Jvm.Cond.methodLink "LedgerTestsModel" (265 : Nat) ({ cls := "LedgerTestsModel", name := "isAsTold", desc := "(II)Z" } : Jvm.MethodName)) ∈ en_tbl := en_ix 962 (by decide +kernel) (by decide +kernel)
set_option maxRecDepth 20000 in
theorem mw_964 : (Jvm.Cond.instanceMethod ({ cls := "LedgerTestsModel", name := "isAsTold", desc := "(II)Z" } : Jvm.MethodName)) ∈ en_tbl := en_ix 964 (by decide +kernel) (by decide +kernel)
set_option maxRecDepth 20000 in
theorem mp_34 : Cond.selects "LedgerTestsModel" ⟨"LedgerTestsModel", "isAsTold", "(II)Z"⟩ ⟨"LedgerTestsModel", "isAsTold", "(II)Z"⟩ ∈ en_tbl := en_ixp 34 (by decide +kernel) (by decide +kernel)
set_option maxRecDepth 20000 in
theorem mw_965 : (Jvm.Cond.code ({ cls := "LedgerTestsModel", name := "isAsTold", desc := "(II)Z" } : Jvm.MethodName) prog_10_method_31_code (7 : Nat) (Option.some Jvm.ClassFile.FieldType.boolean)) ∈ en_tbl := en_ix 965 (by decide +kernel) (by decide +kernel)
set_option maxRecDepth 20000 in
theorem mw_958 : (Jvm.Cond.methodLink "LedgerTestsModel" (268 : Nat) ({ cls := "LedgerTestsModel", name := "runs", desc := "(I)I" } : Jvm.MethodName)) ∈ en_tbl := en_ix 958 (by decide +kernel) (by decide +kernel)
set_option maxRecDepth 20000 in
theorem mw_960 : (Jvm.Cond.instanceMethod ({ cls := "LedgerTestsModel", name := "runs", desc := "(I)I" } : Jvm.MethodName)) ∈ en_tbl := en_ix 960 (by decide +kernel) (by decide +kernel)
set_option maxRecDepth 20000 in
theorem mp_33 : Cond.selects "LedgerTestsModel" ⟨"LedgerTestsModel", "runs", "(I)I"⟩ ⟨"LedgerTestsModel", "runs", "(I)I"⟩ ∈ en_tbl := en_ixp 33 (by decide +kernel) (by decide +kernel)
set_option maxRecDepth 20000 in
theorem mw_961 : (Jvm.Cond.code ({ cls := "LedgerTestsModel", name := "runs", desc := "(I)I" } : Jvm.MethodName) prog_10_method_32_code (4 : Nat) (Option.some Jvm.ClassFile.FieldType.int)) ∈ en_tbl := en_ix 961 (by decide +kernel) (by decide +kernel)
set_option maxRecDepth 20000 in
theorem mw_987 : (Jvm.Cond.methodLink "LedgerTestsModel" (271 : Nat) ({ cls := "LedgerTestsModel", name := "ways", desc := "(I)I" } : Jvm.MethodName)) ∈ en_tbl := en_ix 987 (by decide +kernel) (by decide +kernel)
set_option maxRecDepth 20000 in
theorem mw_988 : (Jvm.Cond.static ({ cls := "LedgerTestsModel", name := "ways", desc := "(I)I" } : Jvm.MethodName)) ∈ en_tbl := en_ix 988 (by decide +kernel) (by decide +kernel)
set_option maxRecDepth 20000 in
theorem mw_989 : (Jvm.Cond.code ({ cls := "LedgerTestsModel", name := "ways", desc := "(I)I" } : Jvm.MethodName) prog_10_method_34_code (1 : Nat) (Option.some Jvm.ClassFile.FieldType.int)) ∈ en_tbl := en_ix 989 (by decide +kernel) (by decide +kernel)
set_option maxRecDepth 20000 in
theorem mw_994 : (Jvm.Cond.methodLink "LedgerTestsModel" (274 : Nat) ({ cls := "LedgerTestsModel", name := "mutants", desc := "(I)I" } : Jvm.MethodName)) ∈ en_tbl := en_ix 994 (by decide +kernel) (by decide +kernel)
set_option maxRecDepth 20000 in
theorem mw_984 : (Jvm.Cond.instanceMethod ({ cls := "LedgerTestsModel", name := "mutants", desc := "(I)I" } : Jvm.MethodName)) ∈ en_tbl := en_ix 984 (by decide +kernel) (by decide +kernel)
set_option maxRecDepth 20000 in
theorem mw_985 : (Jvm.Cond.selects "LedgerTestsModel" ({ cls := "LedgerTestsModel", name := "mutants", desc := "(I)I" } : Jvm.MethodName) ({ cls := "LedgerTestsModel", name := "mutants", desc := "(I)I" } : Jvm.MethodName)) ∈ en_tbl := en_ix 985 (by decide +kernel) (by decide +kernel)
set_option maxRecDepth 20000 in
theorem mw_986 : (Jvm.Cond.code ({ cls := "LedgerTestsModel", name := "mutants", desc := "(I)I" } : Jvm.MethodName) prog_10_method_35_code (5 : Nat) (Option.some Jvm.ClassFile.FieldType.int)) ∈ en_tbl := en_ix 986 (by decide +kernel) (by decide +kernel)
set_option maxRecDepth 20000 in
theorem mw_995 : (Jvm.Cond.methodLink "LedgerTestsModel" (277 : Nat) ({ cls := "LedgerTestsModel", name := "find", desc := "(II)I" } : Jvm.MethodName)) ∈ en_tbl := en_ix 995 (by decide +kernel) (by decide +kernel)
set_option maxRecDepth 20000 in
theorem mw_997 : (Jvm.Cond.instanceMethod ({ cls := "LedgerTestsModel", name := "find", desc := "(II)I" } : Jvm.MethodName)) ∈ en_tbl := en_ix 997 (by decide +kernel) (by decide +kernel)
set_option maxRecDepth 20000 in
theorem mp_39 : Cond.selects "LedgerTestsModel" ⟨"LedgerTestsModel", "find", "(II)I"⟩ ⟨"LedgerTestsModel", "find", "(II)I"⟩ ∈ en_tbl := en_ixp 39 (by decide +kernel) (by decide +kernel)
set_option maxRecDepth 20000 in
theorem mw_998 : (Jvm.Cond.code ({ cls := "LedgerTestsModel", name := "find", desc := "(II)I" } : Jvm.MethodName) prog_10_method_36_code (7 : Nat) (Option.some Jvm.ClassFile.FieldType.int)) ∈ en_tbl := en_ix 998 (by decide +kernel) (by decide +kernel)
set_option maxRecDepth 20000 in
theorem mw_758 : (Jvm.Cond.fieldLink "LedgerTestsModel" (84 : Nat) "LedgerTestsModel" "judged" "[I") ∈ en_tbl := en_ix 758 (by decide +kernel) (by decide +kernel)
set_option maxRecDepth 20000 in
theorem mw_759 : (Jvm.Cond.fieldLink "LedgerTestsModel" (87 : Nat) "LedgerTestsModel" "killers" "[I") ∈ en_tbl := en_ix 759 (by decide +kernel) (by decide +kernel)
set_option maxRecDepth 20000 in
theorem mw_1015 : (Jvm.Cond.methodLink "LedgerTestsModel" (281 : Nat) ({ cls := "LedgerTestsModel", name := "put", desc := "(II)V" } : Jvm.MethodName)) ∈ en_tbl := en_ix 1015 (by decide +kernel) (by decide +kernel)
set_option maxRecDepth 20000 in
theorem mw_1017 : (Jvm.Cond.instanceMethod ({ cls := "LedgerTestsModel", name := "put", desc := "(II)V" } : Jvm.MethodName)) ∈ en_tbl := en_ix 1017 (by decide +kernel) (by decide +kernel)
set_option maxRecDepth 20000 in
theorem mp_41 : Cond.selects "LedgerTestsModel" ⟨"LedgerTestsModel", "put", "(II)V"⟩ ⟨"LedgerTestsModel", "put", "(II)V"⟩ ∈ en_tbl := en_ixp 41 (by decide +kernel) (by decide +kernel)
set_option maxRecDepth 20000 in
theorem mw_1018 : (Jvm.Cond.code ({ cls := "LedgerTestsModel", name := "put", desc := "(II)V" } : Jvm.MethodName) prog_10_method_40_code (3 : Nat) (Option.none : Option Jvm.ClassFile.FieldType)) ∈ en_tbl := en_ix 1018 (by decide +kernel) (by decide +kernel)
set_option maxRecDepth 20000 in
theorem mw_760 : (Jvm.Cond.fieldLink "LedgerTestsModel" (90 : Nat) "LedgerTestsModel" "spare" "[I") ∈ en_tbl := en_ix 760 (by decide +kernel) (by decide +kernel)
set_option maxRecDepth 20000 in
theorem mw_1011 : (Jvm.Cond.methodLink "LedgerTestsModel" (284 : Nat) ({ cls := "LedgerTestsModel", name := "remove", desc := "(II)V" } : Jvm.MethodName)) ∈ en_tbl := en_ix 1011 (by decide +kernel) (by decide +kernel)
set_option maxRecDepth 20000 in
theorem mw_1013 : (Jvm.Cond.instanceMethod ({ cls := "LedgerTestsModel", name := "remove", desc := "(II)V" } : Jvm.MethodName)) ∈ en_tbl := en_ix 1013 (by decide +kernel) (by decide +kernel)
set_option maxRecDepth 20000 in
theorem mp_40 : Cond.selects "LedgerTestsModel" ⟨"LedgerTestsModel", "remove", "(II)V"⟩ ⟨"LedgerTestsModel", "remove", "(II)V"⟩ ∈ en_tbl := en_ixp 40 (by decide +kernel) (by decide +kernel)
set_option maxRecDepth 20000 in
theorem mw_1014 : (Jvm.Cond.code ({ cls := "LedgerTestsModel", name := "remove", desc := "(II)V" } : Jvm.MethodName) prog_10_method_41_code (5 : Nat) (Option.none : Option Jvm.ClassFile.FieldType)) ∈ en_tbl := en_ix 1014 (by decide +kernel) (by decide +kernel)
set_option maxRecDepth 20000 in
theorem mw_1019 : (Jvm.Cond.methodLink "LedgerTestsModel" (287 : Nat) ({ cls := "LedgerTestsModel", name := "giveBack", desc := "(II)V" } : Jvm.MethodName)) ∈ en_tbl := en_ix 1019 (by decide +kernel) (by decide +kernel)
set_option maxRecDepth 20000 in
theorem mw_1021 : (Jvm.Cond.instanceMethod ({ cls := "LedgerTestsModel", name := "giveBack", desc := "(II)V" } : Jvm.MethodName)) ∈ en_tbl := en_ix 1021 (by decide +kernel) (by decide +kernel)
set_option maxRecDepth 20000 in
theorem mp_42 : Cond.selects "LedgerTestsModel" ⟨"LedgerTestsModel", "giveBack", "(II)V"⟩ ⟨"LedgerTestsModel", "giveBack", "(II)V"⟩ ∈ en_tbl := en_ixp 42 (by decide +kernel) (by decide +kernel)
set_option maxRecDepth 20000 in
theorem mw_1022 : (Jvm.Cond.code ({ cls := "LedgerTestsModel", name := "giveBack", desc := "(II)V" } : Jvm.MethodName) prog_10_method_42_code (4 : Nat) (Option.none : Option Jvm.ClassFile.FieldType)) ∈ en_tbl := en_ix 1022 (by decide +kernel) (by decide +kernel)
set_option maxRecDepth 20000 in
theorem mw_1047 : (Jvm.Cond.constantLong "LedgerTestsModel" (290 : Nat) (4 : Int64)) ∈ en_tbl := en_ix 1047 (by decide +kernel) (by decide +kernel)
