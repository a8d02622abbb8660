/-! more words -/
set_option maxRecDepth 20000 in
theorem mw_218 : (Jvm.Cond.methodLink "LedgerTestsLaw" (13 : Nat) ({ cls := "LedgerTests", name := "account", desc := "(II)I" } : Jvm.MethodName)) ∈ en_tbl := en_ix 218 (by decide +kernel) (by decide +kernel)
set_option maxRecDepth 20000 in
theorem mw_219 : (Jvm.Cond.instanceMethod ({ cls := "LedgerTests", name := "account", desc := "(II)I" } : Jvm.MethodName)) ∈ en_tbl := en_ix 219 (by decide +kernel) (by decide +kernel)
set_option maxRecDepth 20000 in
theorem mw_220 : (Jvm.Cond.selects "LedgerTests" ({ cls := "LedgerTests", name := "account", desc := "(II)I" } : Jvm.MethodName) ({ cls := "LedgerTests", name := "account", desc := "(II)I" } : Jvm.MethodName)) ∈ en_tbl := en_ix 220 (by decide +kernel) (by decide +kernel)
set_option maxRecDepth 20000 in
theorem mw_1 : (Jvm.Cond.initialized "LedgerTests") ∈ en_tbl := en_ix 1 (by decide +kernel) (by decide +kernel)
set_option maxRecDepth 20000 in
theorem mw_221 : (Jvm.Cond.code ({ cls := "LedgerTests", name := "account", desc := "(II)I" } : Jvm.MethodName) prog_1_method_2_code (3 : Nat) (Option.some Jvm.ClassFile.FieldType.int)) ∈ en_tbl := en_ix 221 (by decide +kernel) (by decide +kernel)
set_option maxRecDepth 20000 in
theorem mw_852 : (Jvm.Cond.methodLink "LedgerTestsLaw" (17 : Nat) ({ cls := "LedgerTestsModel", name := "account", desc := "(II)I" } : Jvm.MethodName)) ∈ en_tbl := en_ix 852 (by decide +kernel) (by decide +kernel)
set_option maxRecDepth 20000 in
theorem mw_853 : (Jvm.Cond.instanceMethod ({ cls := "LedgerTestsModel", name := "account", desc := "(II)I" } : Jvm.MethodName)) ∈ en_tbl := en_ix 853 (by decide +kernel) (by decide +kernel)
set_option maxRecDepth 20000 in
theorem mw_854 : (Jvm.Cond.selects "LedgerTestsModel" ({ cls := "LedgerTestsModel", name := "account", desc := "(II)I" } : Jvm.MethodName) ({ cls := "LedgerTestsModel", name := "account", desc := "(II)I" } : Jvm.MethodName)) ∈ en_tbl := en_ix 854 (by decide +kernel) (by decide +kernel)
set_option maxRecDepth 20000 in
theorem mw_855 : (Jvm.Cond.code ({ cls := "LedgerTestsModel", name := "account", desc := "(II)I" } : Jvm.MethodName) prog_10_method_6_code (3 : Nat) (Option.some Jvm.ClassFile.FieldType.int)) ∈ en_tbl := en_ix 855 (by decide +kernel) (by decide +kernel)
set_option maxRecDepth 20000 in
theorem mw_227 : (Jvm.Cond.methodLink "LedgerTestsLaw" (18 : Nat) ({ cls := "LedgerTests", name := "contract", desc := "()I" } : Jvm.MethodName)) ∈ en_tbl := en_ix 227 (by decide +kernel) (by decide +kernel)
set_option maxRecDepth 20000 in
theorem mw_228 : (Jvm.Cond.instanceMethod ({ cls := "LedgerTests", name := "contract", desc := "()I" } : Jvm.MethodName)) ∈ en_tbl := en_ix 228 (by decide +kernel) (by decide +kernel)
set_option maxRecDepth 20000 in
theorem mw_229 : (Jvm.Cond.selects "LedgerTests" ({ cls := "LedgerTests", name := "contract", desc := "()I" } : Jvm.MethodName) ({ cls := "LedgerTests", name := "contract", desc := "()I" } : Jvm.MethodName)) ∈ en_tbl := en_ix 229 (by decide +kernel) (by decide +kernel)
set_option maxRecDepth 20000 in
theorem mw_230 : (Jvm.Cond.code ({ cls := "LedgerTests", name := "contract", desc := "()I" } : Jvm.MethodName) prog_1_method_3_code (1 : Nat) (Option.some Jvm.ClassFile.FieldType.int)) ∈ en_tbl := en_ix 230 (by decide +kernel) (by decide +kernel)
set_option maxRecDepth 20000 in
theorem mw_864 : (Jvm.Cond.methodLink "LedgerTestsLaw" (22 : Nat) ({ cls := "LedgerTestsModel", name := "contract", desc := "()I" } : Jvm.MethodName)) ∈ en_tbl := en_ix 864 (by decide +kernel) (by decide +kernel)
set_option maxRecDepth 20000 in
theorem mw_865 : (Jvm.Cond.instanceMethod ({ cls := "LedgerTestsModel", name := "contract", desc := "()I" } : Jvm.MethodName)) ∈ en_tbl := en_ix 865 (by decide +kernel) (by decide +kernel)
set_option maxRecDepth 20000 in
theorem mw_866 : (Jvm.Cond.selects "LedgerTestsModel" ({ cls := "LedgerTestsModel", name := "contract", desc := "()I" } : Jvm.MethodName) ({ cls := "LedgerTestsModel", name := "contract", desc := "()I" } : Jvm.MethodName)) ∈ en_tbl := en_ix 866 (by decide +kernel) (by decide +kernel)
set_option maxRecDepth 20000 in
theorem mw_867 : (Jvm.Cond.code ({ cls := "LedgerTestsModel", name := "contract", desc := "()I" } : Jvm.MethodName) prog_10_method_7_code (1 : Nat) (Option.some Jvm.ClassFile.FieldType.int)) ∈ en_tbl := en_ix 867 (by decide +kernel) (by decide +kernel)
set_option maxRecDepth 20000 in
theorem mw_235 : (Jvm.Cond.methodLink "LedgerTestsLaw" (23 : Nat) ({ cls := "LedgerTests", name := "step", desc := "(IIIII)I" } : Jvm.MethodName)) ∈ en_tbl := en_ix 235 (by decide +kernel) (by decide +kernel)
set_option maxRecDepth 20000 in
theorem mw_236 : (Jvm.Cond.instanceMethod ({ cls := "LedgerTests", name := "step", desc := "(IIIII)I" } : Jvm.MethodName)) ∈ en_tbl := en_ix 236 (by decide +kernel) (by decide +kernel)
set_option maxRecDepth 20000 in
theorem mw_237 : (Jvm.Cond.selects "LedgerTests" ({ cls := "LedgerTests", name := "step", desc := "(IIIII)I" } : Jvm.MethodName) ({ cls := "LedgerTests", name := "step", desc := "(IIIII)I" } : Jvm.MethodName)) ∈ en_tbl := en_ix 237 (by decide +kernel) (by decide +kernel)
set_option maxRecDepth 20000 in
theorem mw_238 : (Jvm.Cond.code ({ cls := "LedgerTests", name := "step", desc := "(IIIII)I" } : Jvm.MethodName) prog_1_method_4_code (7 : Nat) (Option.some Jvm.ClassFile.FieldType.int)) ∈ en_tbl := en_ix 238 (by decide +kernel) (by decide +kernel)
set_option maxRecDepth 20000 in
theorem mw_868 : (Jvm.Cond.methodLink "LedgerTestsLaw" (27 : Nat) ({ cls := "LedgerTestsModel", name := "step", desc := "(IIIII)I" } : Jvm.MethodName)) ∈ en_tbl := en_ix 868 (by decide +kernel) (by decide +kernel)
set_option maxRecDepth 20000 in
theorem mw_869 : (Jvm.Cond.instanceMethod ({ cls := "LedgerTestsModel", name := "step", desc := "(IIIII)I" } : Jvm.MethodName)) ∈ en_tbl := en_ix 869 (by decide +kernel) (by decide +kernel)
set_option maxRecDepth 20000 in
theorem mw_870 : (Jvm.Cond.selects "LedgerTestsModel" ({ cls := "LedgerTestsModel", name := "step", desc := "(IIIII)I" } : Jvm.MethodName) ({ cls := "LedgerTestsModel", name := "step", desc := "(IIIII)I" } : Jvm.MethodName)) ∈ en_tbl := en_ix 870 (by decide +kernel) (by decide +kernel)
set_option maxRecDepth 20000 in
theorem mw_871 : (Jvm.Cond.code ({ cls := "LedgerTestsModel", name := "step", desc := "(IIIII)I" } : Jvm.MethodName) prog_10_method_9_code (7 : Nat) (Option.some Jvm.ClassFile.FieldType.int)) ∈ en_tbl := en_ix 871 (by decide +kernel) (by decide +kernel)
set_option maxRecDepth 20000 in
theorem mw_263 : (Jvm.Cond.methodLink "LedgerTestsLaw" (28 : Nat) ({ cls := "LedgerTests", name := "bind", desc := "(III)I" } : Jvm.MethodName)) ∈ en_tbl := en_ix 263 (by decide +kernel) (by decide +kernel)
set_option maxRecDepth 20000 in
theorem mw_264 : (Jvm.Cond.instanceMethod ({ cls := "LedgerTests", name := "bind", desc := "(III)I" } : Jvm.MethodName)) ∈ en_tbl := en_ix 264 (by decide +kernel) (by decide +kernel)
set_option maxRecDepth 20000 in
theorem mw_265 : (Jvm.Cond.selects "LedgerTests" ({ cls := "LedgerTests", name := "bind", desc := "(III)I" } : Jvm.MethodName) ({ cls := "LedgerTests", name := "bind", desc := "(III)I" } : Jvm.MethodName)) ∈ en_tbl := en_ix 265 (by decide +kernel) (by decide +kernel)
set_option maxRecDepth 20000 in
theorem mw_266 : (Jvm.Cond.code ({ cls := "LedgerTests", name := "bind", desc := "(III)I" } : Jvm.MethodName) prog_1_method_5_code (5 : Nat) (Option.some Jvm.ClassFile.FieldType.int)) ∈ en_tbl := en_ix 266 (by decide +kernel) (by decide +kernel)
set_option maxRecDepth 20000 in
theorem mw_883 : (Jvm.Cond.methodLink "LedgerTestsLaw" (32 : Nat) ({ cls := "LedgerTestsModel", name := "bind", desc := "(III)I" } : Jvm.MethodName)) ∈ en_tbl := en_ix 883 (by decide +kernel) (by decide +kernel)
set_option maxRecDepth 20000 in
theorem mw_884 : (Jvm.Cond.instanceMethod ({ cls := "LedgerTestsModel", name := "bind", desc := "(III)I" } : Jvm.MethodName)) ∈ en_tbl := en_ix 884 (by decide +kernel) (by decide +kernel)
set_option maxRecDepth 20000 in
theorem mw_885 : (Jvm.Cond.selects "LedgerTestsModel" ({ cls := "LedgerTestsModel", name := "bind", desc := "(III)I" } : Jvm.MethodName) ({ cls := "LedgerTestsModel", name := "bind", desc := "(III)I" } : Jvm.MethodName)) ∈ en_tbl := en_ix 885 (by decide +kernel) (by decide +kernel)
set_option maxRecDepth 20000 in
theorem mw_886 : (Jvm.Cond.code ({ cls := "LedgerTestsModel", name := "bind", desc := "(III)I" } : Jvm.MethodName) prog_10_method_10_code (4 : Nat) (Option.some Jvm.ClassFile.FieldType.int)) ∈ en_tbl := en_ix 886 (by decide +kernel) (by decide +kernel)
set_option maxRecDepth 20000 in
theorem mw_272 : (Jvm.Cond.methodLink "LedgerTestsLaw" (33 : Nat) ({ cls := "LedgerTests", name := "time", desc := "(I)I" } : Jvm.MethodName)) ∈ en_tbl := en_ix 272 (by decide +kernel) (by decide +kernel)
set_option maxRecDepth 20000 in
theorem mw_273 : (Jvm.Cond.instanceMethod ({ cls := "LedgerTests", name := "time", desc := "(I)I" } : Jvm.MethodName)) ∈ en_tbl := en_ix 273 (by decide +kernel) (by decide +kernel)
set_option maxRecDepth 20000 in
theorem mw_274 : (Jvm.Cond.selects "LedgerTests" ({ cls := "LedgerTests", name := "time", desc := "(I)I" } : Jvm.MethodName) ({ cls := "LedgerTests", name := "time", desc := "(I)I" } : Jvm.MethodName)) ∈ en_tbl := en_ix 274 (by decide +kernel) (by decide +kernel)
set_option maxRecDepth 20000 in
theorem mw_275 : (Jvm.Cond.code ({ cls := "LedgerTests", name := "time", desc := "(I)I" } : Jvm.MethodName) prog_1_method_6_code (2 : Nat) (Option.some Jvm.ClassFile.FieldType.int)) ∈ en_tbl := en_ix 275 (by decide +kernel) (by decide +kernel)
set_option maxRecDepth 20000 in
theorem mw_887 : (Jvm.Cond.methodLink "LedgerTestsLaw" (37 : Nat) ({ cls := "LedgerTestsModel", name := "time", desc := "(I)I" } : Jvm.MethodName)) ∈ en_tbl := en_ix 887 (by decide +kernel) (by decide +kernel)
set_option maxRecDepth 20000 in
theorem mw_888 : (Jvm.Cond.instanceMethod ({ cls := "LedgerTestsModel", name := "time", desc := "(I)I" } : Jvm.MethodName)) ∈ en_tbl := en_ix 888 (by decide +kernel) (by decide +kernel)
set_option maxRecDepth 20000 in
theorem mw_889 : (Jvm.Cond.selects "LedgerTestsModel" ({ cls := "LedgerTestsModel", name := "time", desc := "(I)I" } : Jvm.MethodName) ({ cls := "LedgerTestsModel", name := "time", desc := "(I)I" } : Jvm.MethodName)) ∈ en_tbl := en_ix 889 (by decide +kernel) (by decide +kernel)
set_option maxRecDepth 20000 in
theorem mw_890 : (Jvm.Cond.code ({ cls := "LedgerTestsModel", name := "time", desc := "(I)I" } : Jvm.MethodName) prog_10_method_11_code (2 : Nat) (Option.some Jvm.ClassFile.FieldType.int)) ∈ en_tbl := en_ix 890 (by decide +kernel) (by decide +kernel)
set_option maxRecDepth 20000 in
theorem mw_284 : (Jvm.Cond.methodLink "LedgerTestsLaw" (38 : Nat) ({ cls := "LedgerTests", name := "call", desc := "(IIIII)I" } : Jvm.MethodName)) ∈ en_tbl := en_ix 284 (by decide +kernel) (by decide +kernel)
set_option maxRecDepth 20000 in
theorem mw_285 : (Jvm.Cond.instanceMethod ({ cls := "LedgerTests", name := "call", desc := "(IIIII)I" } : Jvm.MethodName)) ∈ en_tbl := en_ix 285 (by decide +kernel) (by decide +kernel)
set_option maxRecDepth 20000 in
theorem mw_286 : (Jvm.Cond.selects "LedgerTests" ({ cls := "LedgerTests", name := "call", desc := "(IIIII)I" } : Jvm.MethodName) ({ cls := "LedgerTests", name := "call", desc := "(IIIII)I" } : Jvm.MethodName)) ∈ en_tbl := en_ix 286 (by decide +kernel) (by decide +kernel)
set_option maxRecDepth 20000 in
theorem mw_287 : (Jvm.Cond.code ({ cls := "LedgerTests", name := "call", desc := "(IIIII)I" } : Jvm.MethodName) prog_1_method_7_code (7 : Nat) (Option.some Jvm.ClassFile.FieldType.int)) ∈ en_tbl := en_ix 287 (by decide +kernel) (by decide +kernel)
set_option maxRecDepth 20000 in
theorem mw_892 : (Jvm.Cond.methodLink "LedgerTestsLaw" (41 : Nat) ({ cls := "LedgerTestsModel", name := "call", desc := "(IIIII)I" } : Jvm.MethodName)) ∈ en_tbl := en_ix 892 (by decide +kernel) (by decide +kernel)
set_option maxRecDepth 20000 in
theorem mw_893 : (Jvm.Cond.instanceMethod ({ cls := "LedgerTestsModel", name := "call", desc := "(IIIII)I" } : Jvm.MethodName)) ∈ en_tbl := en_ix 893 (by decide +kernel) (by decide +kernel)
set_option maxRecDepth 20000 in
theorem mw_894 : (Jvm.Cond.selects "LedgerTestsModel" ({ cls := "LedgerTestsModel", name := "call", desc := "(IIIII)I" } : Jvm.MethodName) ({ cls := "LedgerTestsModel", name := "call", desc := "(IIIII)I" } : Jvm.MethodName)) ∈ en_tbl := en_ix 894 (by decide +kernel) (by decide +kernel)
set_option maxRecDepth 20000 in
theorem mw_895 : (Jvm.Cond.code ({ cls := "LedgerTestsModel", name := "call", desc := "(IIIII)I" } : Jvm.MethodName) prog_10_method_23_code (6 : Nat) (Option.some Jvm.ClassFile.FieldType.int)) ∈ en_tbl := en_ix 895 (by decide +kernel) (by decide +kernel)
set_option maxRecDepth 20000 in
theorem mw_400 : (Jvm.Cond.methodLink "LedgerTestsLaw" (42 : Nat) ({ cls := "LedgerTests", name := "told", desc := "(I)I" } : Jvm.MethodName)) ∈ en_tbl := en_ix 400 (by decide +kernel) (by decide +kernel)
set_option maxRecDepth 20000 in
theorem mw_401 : (Jvm.Cond.instanceMethod ({ cls := "LedgerTests", name := "told", desc := "(I)I" } : Jvm.MethodName)) ∈ en_tbl := en_ix 401 (by decide +kernel) (by decide +kernel)
set_option maxRecDepth 20000 in
theorem mw_402 : (Jvm.Cond.selects "LedgerTests" ({ cls := "LedgerTests", name := "told", desc := "(I)I" } : Jvm.MethodName) ({ cls := "LedgerTests", name := "told", desc := "(I)I" } : Jvm.MethodName)) ∈ en_tbl := en_ix 402 (by decide +kernel) (by decide +kernel)
set_option maxRecDepth 20000 in
theorem mw_403 : (Jvm.Cond.code ({ cls := "LedgerTests", name := "told", desc := "(I)I" } : Jvm.MethodName) prog_1_method_8_code (2 : Nat) (Option.some Jvm.ClassFile.FieldType.int)) ∈ en_tbl := en_ix 403 (by decide +kernel) (by decide +kernel)
set_option maxRecDepth 20000 in
theorem mw_941 : (Jvm.Cond.methodLink "LedgerTestsLaw" (45 : Nat) ({ cls := "LedgerTestsModel", name := "told", desc := "(I)I" } : Jvm.MethodName)) ∈ en_tbl := en_ix 941 (by decide +kernel) (by decide +kernel)
set_option maxRecDepth 20000 in
theorem mw_942 : (Jvm.Cond.instanceMethod ({ cls := "LedgerTestsModel", name := "told", desc := "(I)I" } : Jvm.MethodName)) ∈ en_tbl := en_ix 942 (by decide +kernel) (by decide +kernel)
set_option maxRecDepth 20000 in
theorem mw_943 : (Jvm.Cond.selects "LedgerTestsModel" ({ cls := "LedgerTestsModel", name := "told", desc := "(I)I" } : Jvm.MethodName) ({ cls := "LedgerTestsModel", name := "told", desc := "(I)I" } : Jvm.MethodName)) ∈ en_tbl := en_ix 943 (by decide +kernel) (by decide +kernel)
set_option maxRecDepth 20000 in
theorem mw_944 : (Jvm.Cond.code ({ cls := "LedgerTestsModel", name := "told", desc := "(I)I" } : Jvm.MethodName) prog_10_method_24_code (2 : Nat) (Option.some Jvm.ClassFile.FieldType.int)) ∈ en_tbl := en_ix 944 (by decide +kernel) (by decide +kernel)
set_option maxRecDepth 20000 in
theorem mw_1048 : (Jvm.Cond.constantLong "LedgerTestsLaw" (46 : Nat) (4294967295 : Int64)) ∈ en_tbl := en_ix 1048 (by decide +kernel) (by decide +kernel)
set_option maxRecDepth 20000 in
theorem mw_416 : (Jvm.Cond.methodLink "LedgerTestsLaw" (48 : Nat) ({ cls := "LedgerTests", name := "line", desc := "(IJIII)I" } : Jvm.MethodName)) ∈ en_tbl := en_ix 416 (by decide +kernel) (by decide +kernel)
set_option maxRecDepth 20000 in
theorem mw_417 : (Jvm.Cond.instanceMethod ({ cls := "LedgerTests", name := "line", desc := "(IJIII)I" } : Jvm.MethodName)) ∈ en_tbl := en_ix 417 (by decide +kernel) (by decide +kernel)
set_option maxRecDepth 20000 in
theorem mw_418 : (Jvm.Cond.selects "LedgerTests" ({ cls := "LedgerTests", name := "line", desc := "(IJIII)I" } : Jvm.MethodName) ({ cls := "LedgerTests", name := "line", desc := "(IJIII)I" } : Jvm.MethodName)) ∈ en_tbl := en_ix 418 (by decide +kernel) (by decide +kernel)
set_option maxRecDepth 20000 in
theorem mw_419 : (Jvm.Cond.code ({ cls := "LedgerTests", name := "line", desc := "(IJIII)I" } : Jvm.MethodName) prog_1_method_9_code (8 : Nat) (Option.some Jvm.ClassFile.FieldType.int)) ∈ en_tbl := en_ix 419 (by decide +kernel) (by decide +kernel)
set_option maxRecDepth 20000 in
theorem mw_945 : (Jvm.Cond.methodLink "LedgerTestsLaw" (52 : Nat) ({ cls := "LedgerTestsModel", name := "line", desc := "(IJIII)I" } : Jvm.MethodName)) ∈ en_tbl := en_ix 945 (by decide +kernel) (by decide +kernel)
set_option maxRecDepth 20000 in
theorem mw_946 : (Jvm.Cond.instanceMethod ({ cls := "LedgerTestsModel", name := "line", desc := "(IJIII)I" } : Jvm.MethodName)) ∈ en_tbl := en_ix 946 (by decide +kernel) (by decide +kernel)
set_option maxRecDepth 20000 in
theorem mw_947 : (Jvm.Cond.selects "LedgerTestsModel" ({ cls := "LedgerTestsModel", name := "line", desc := "(IJIII)I" } : Jvm.MethodName) ({ cls := "LedgerTestsModel", name := "line", desc := "(IJIII)I" } : Jvm.MethodName)) ∈ en_tbl := en_ix 947 (by decide +kernel) (by decide +kernel)
set_option maxRecDepth 20000 in
theorem mw_948 : (Jvm.Cond.code ({ cls := "LedgerTestsModel", name := "line", desc := "(IJIII)I" } : Jvm.MethodName) prog_10_method_25_code (9 : Nat) (Option.some Jvm.ClassFile.FieldType.int)) ∈ en_tbl := en_ix 948 (by decide +kernel) (by decide +kernel)
set_option maxRecDepth 20000 in
theorem mw_432 : (Jvm.Cond.methodLink "LedgerTestsLaw" (53 : Nat) ({ cls := "LedgerTests", name := "clear", desc := "(I)I" } : Jvm.MethodName)) ∈ en_tbl := en_ix 432 (by decide +kernel) (by decide +kernel)
set_option maxRecDepth 20000 in
theorem mw_433 : (Jvm.Cond.instanceMethod ({ cls := "LedgerTests", name := "clear", desc := "(I)I" } : Jvm.MethodName)) ∈ en_tbl := en_ix 433 (by decide +kernel) (by decide +kernel)
set_option maxRecDepth 20000 in
theorem mw_434 : (Jvm.Cond.selects "LedgerTests" ({ cls := "LedgerTests", name := "clear", desc := "(I)I" } : Jvm.MethodName) ({ cls := "LedgerTests", name := "clear", desc := "(I)I" } : Jvm.MethodName)) ∈ en_tbl := en_ix 434 (by decide +kernel) (by decide +kernel)
set_option maxRecDepth 20000 in
theorem mw_435 : (Jvm.Cond.code ({ cls := "LedgerTests", name := "clear", desc := "(I)I" } : Jvm.MethodName) prog_1_method_10_code (2 : Nat) (Option.some Jvm.ClassFile.FieldType.int)) ∈ en_tbl := en_ix 435 (by decide +kernel) (by decide +kernel)
set_option maxRecDepth 20000 in
theorem mw_950 : (Jvm.Cond.methodLink "LedgerTestsLaw" (56 : Nat) ({ cls := "LedgerTestsModel", name := "clear", desc := "(I)I" } : Jvm.MethodName)) ∈ en_tbl := en_ix 950 (by decide +kernel) (by decide +kernel)
set_option maxRecDepth 20000 in
theorem mw_951 : (Jvm.Cond.instanceMethod ({ cls := "LedgerTestsModel", name := "clear", desc := "(I)I" } : Jvm.MethodName)) ∈ en_tbl := en_ix 951 (by decide +kernel) (by decide +kernel)
set_option maxRecDepth 20000 in
theorem mw_952 : (Jvm.Cond.selects "LedgerTestsModel" ({ cls := "LedgerTestsModel", name := "clear", desc := "(I)I" } : Jvm.MethodName) ({ cls := "LedgerTestsModel", name := "clear", desc := "(I)I" } : Jvm.MethodName)) ∈ en_tbl := en_ix 952 (by decide +kernel) (by decide +kernel)
set_option maxRecDepth 20000 in
theorem mw_953 : (Jvm.Cond.code ({ cls := "LedgerTestsModel", name := "clear", desc := "(I)I" } : Jvm.MethodName) prog_10_method_26_code (3 : Nat) (Option.some Jvm.ClassFile.FieldType.int)) ∈ en_tbl := en_ix 953 (by decide +kernel) (by decide +kernel)
set_option maxRecDepth 20000 in
theorem mw_440 : (Jvm.Cond.methodLink "LedgerTestsLaw" (57 : Nat) ({ cls := "LedgerTests", name := "run", desc := "(I)I" } : Jvm.MethodName)) ∈ en_tbl := en_ix 440 (by decide +kernel) (by decide +kernel)
set_option maxRecDepth 20000 in
theorem mw_441 : (Jvm.Cond.instanceMethod ({ cls := "LedgerTests", name := "run", desc := "(I)I" } : Jvm.MethodName)) ∈ en_tbl := en_ix 441 (by decide +kernel) (by decide +kernel)
set_option maxRecDepth 20000 in
theorem mw_442 : (Jvm.Cond.selects "LedgerTests" ({ cls := "LedgerTests", name := "run", desc := "(I)I" } : Jvm.MethodName) ({ cls := "LedgerTests", name := "run", desc := "(I)I" } : Jvm.MethodName)) ∈ en_tbl := en_ix 442 (by decide +kernel) (by decide +kernel)
set_option maxRecDepth 20000 in
theorem mw_443 : (Jvm.Cond.code ({ cls := "LedgerTests", name := "run", desc := "(I)I" } : Jvm.MethodName) prog_1_method_11_code (2 : Nat) (Option.some Jvm.ClassFile.FieldType.int)) ∈ en_tbl := en_ix 443 (by decide +kernel) (by decide +kernel)
set_option maxRecDepth 20000 in
theorem mw_954 : (Jvm.Cond.methodLink "LedgerTestsLaw" (60 : Nat) ({ cls := "LedgerTestsModel", name := "run", desc := "(I)I" } : Jvm.MethodName)) ∈ en_tbl := en_ix 954 (by decide +kernel) (by decide +kernel)
set_option maxRecDepth 20000 in
theorem mw_955 : (Jvm.Cond.instanceMethod ({ cls := "LedgerTestsModel", name := "run", desc := "(I)I" } : Jvm.MethodName)) ∈ en_tbl := en_ix 955 (by decide +kernel) (by decide +kernel)
set_option maxRecDepth 20000 in
theorem mw_956 : (Jvm.Cond.selects "LedgerTestsModel" ({ cls := "LedgerTestsModel", name := "run", desc := "(I)I" } : Jvm.MethodName) ({ cls := "LedgerTestsModel", name := "run", desc := "(I)I" } : Jvm.MethodName)) ∈ en_tbl := en_ix 956 (by decide +kernel) (by decide +kernel)
set_option maxRecDepth 20000 in
theorem mw_957 : (Jvm.Cond.code ({ cls := "LedgerTestsModel", name := "run", desc := "(I)I" } : Jvm.MethodName) prog_10_method_33_code (2 : Nat) (Option.some Jvm.ClassFile.FieldType.int)) ∈ en_tbl := en_ix 957 (by decide +kernel) (by decide +kernel)
set_option maxRecDepth 20000 in
theorem mw_560 : (Jvm.Cond.methodLink "LedgerTestsLaw" (61 : Nat) ({ cls := "LedgerTests", name := "mutants", desc := "(I)I" } : Jvm.MethodName)) ∈ en_tbl := en_ix 560 (by decide +kernel) (by decide +kernel)
set_option maxRecDepth 20000 in
theorem mw_561 : (Jvm.Cond.instanceMethod ({ cls := "LedgerTests", name := "mutants", desc := "(I)I" } : Jvm.MethodName)) ∈ en_tbl := en_ix 561 (by decide +kernel) (by decide +kernel)
set_option maxRecDepth 20000 in
theorem mw_562 : (Jvm.Cond.selects "LedgerTests" ({ cls := "LedgerTests", name := "mutants", desc := "(I)I" } : Jvm.MethodName) ({ cls := "LedgerTests", name := "mutants", desc := "(I)I" } : Jvm.MethodName)) ∈ en_tbl := en_ix 562 (by decide +kernel) (by decide +kernel)
set_option maxRecDepth 20000 in
theorem mw_563 : (Jvm.Cond.code ({ cls := "LedgerTests", name := "mutants", desc := "(I)I" } : Jvm.MethodName) prog_1_method_12_code (2 : Nat) (Option.some Jvm.ClassFile.FieldType.int)) ∈ en_tbl := en_ix 563 (by decide +kernel) (by decide +kernel)
set_option maxRecDepth 20000 in
theorem mw_983 : (Jvm.Cond.methodLink "LedgerTestsLaw" (64 : Nat) ({ cls := "LedgerTestsModel", name := "mutants", desc := "(I)I" } : Jvm.MethodName)) ∈ en_tbl := en_ix 983 (by decide +kernel) (by decide +kernel)
set_option maxRecDepth 20000 in
theorem mw_575 : (Jvm.Cond.methodLink "LedgerTestsLaw" (65 : Nat) ({ cls := "LedgerTests", name := "mutant", desc := "(III)I" } : Jvm.MethodName)) ∈ en_tbl := en_ix 575 (by decide +kernel) (by decide +kernel)
set_option maxRecDepth 20000 in
theorem mw_576 : (Jvm.Cond.instanceMethod ({ cls := "LedgerTests", name := "mutant", desc := "(III)I" } : Jvm.MethodName)) ∈ en_tbl := en_ix 576 (by decide +kernel) (by decide +kernel)
set_option maxRecDepth 20000 in
theorem mw_577 : (Jvm.Cond.selects "LedgerTests" ({ cls := "LedgerTests", name := "mutant", desc := "(III)I" } : Jvm.MethodName) ({ cls := "LedgerTests", name := "mutant", desc := "(III)I" } : Jvm.MethodName)) ∈ en_tbl := en_ix 577 (by decide +kernel) (by decide +kernel)
set_option maxRecDepth 20000 in
theorem mw_578 : (Jvm.Cond.code ({ cls := "LedgerTests", name := "mutant", desc := "(III)I" } : Jvm.MethodName) prog_1_method_13_code (5 : Nat) (Option.some Jvm.ClassFile.FieldType.int)) ∈ en_tbl := en_ix 578 (by decide +kernel) (by decide +kernel)
set_option maxRecDepth 20000 in
theorem mw_990 : (Jvm.Cond.methodLink "LedgerTestsLaw" (68 : Nat) ({ cls := "LedgerTestsModel", name := "mutant", desc := "(III)I" } : Jvm.MethodName)) ∈ en_tbl := en_ix 990 (by decide +kernel) (by decide +kernel)
set_option maxRecDepth 20000 in
theorem mw_991 : (Jvm.Cond.instanceMethod ({ cls := "LedgerTestsModel", name := "mutant", desc := "(III)I" } : Jvm.MethodName)) ∈ en_tbl := en_ix 991 (by decide +kernel) (by decide +kernel)
set_option maxRecDepth 20000 in
theorem mw_992 : (Jvm.Cond.selects "LedgerTestsModel" ({ cls := "LedgerTestsModel", name := "mutant", desc := "(III)I" } : Jvm.MethodName) ({ cls := "LedgerTestsModel", name := "mutant", desc := "(III)I" } : Jvm.MethodName)) ∈ en_tbl := en_ix 992 (by decide +kernel) (by decide +kernel)
set_option maxRecDepth 20000 in
theorem mw_993 : (Jvm.Cond.code ({ cls := "LedgerTestsModel", name := "mutant", desc := "(III)I" } : Jvm.MethodName) prog_10_method_37_code (5 : Nat) (Option.some Jvm.ClassFile.FieldType.int)) ∈ en_tbl := en_ix 993 (by decide +kernel) (by decide +kernel)
set_option maxRecDepth 20000 in
theorem mw_592 : (Jvm.Cond.methodLink "LedgerTestsLaw" (69 : Nat) ({ cls := "LedgerTests", name := "judge", desc := "(I)I" } : Jvm.MethodName)) ∈ en_tbl := en_ix 592 (by decide +kernel) (by decide +kernel)
set_option maxRecDepth 20000 in
theorem mw_593 : (Jvm.Cond.instanceMethod ({ cls := "LedgerTests", name := "judge", desc := "(I)I" } : Jvm.MethodName)) ∈ en_tbl := en_ix 593 (by decide +kernel) (by decide +kernel)
set_option maxRecDepth 20000 in
theorem mw_594 : (Jvm.Cond.selects "LedgerTests" ({ cls := "LedgerTests", name := "judge", desc := "(I)I" } : Jvm.MethodName) ({ cls := "LedgerTests", name := "judge", desc := "(I)I" } : Jvm.MethodName)) ∈ en_tbl := en_ix 594 (by decide +kernel) (by decide +kernel)
set_option maxRecDepth 20000 in
theorem mw_595 : (Jvm.Cond.code ({ cls := "LedgerTests", name := "judge", desc := "(I)I" } : Jvm.MethodName) prog_1_method_14_code (8 : Nat) (Option.some Jvm.ClassFile.FieldType.int)) ∈ en_tbl := en_ix 595 (by decide +kernel) (by decide +kernel)
set_option maxRecDepth 20000 in
theorem mw_999 : (Jvm.Cond.methodLink "LedgerTestsLaw" (72 : Nat) ({ cls := "LedgerTestsModel", name := "judge", desc := "(I)I" } : Jvm.MethodName)) ∈ en_tbl := en_ix 999 (by decide +kernel) (by decide +kernel)
set_option maxRecDepth 20000 in
theorem mw_1000 : (Jvm.Cond.instanceMethod ({ cls := "LedgerTestsModel", name := "judge", desc := "(I)I" } : Jvm.MethodName)) ∈ en_tbl := en_ix 1000 (by decide +kernel) (by decide +kernel)
set_option maxRecDepth 20000 in
theorem mw_1001 : (Jvm.Cond.selects "LedgerTestsModel" ({ cls := "LedgerTestsModel", name := "judge", desc := "(I)I" } : Jvm.MethodName) ({ cls := "LedgerTestsModel", name := "judge", desc := "(I)I" } : Jvm.MethodName)) ∈ en_tbl := en_ix 1001 (by decide +kernel) (by decide +kernel)
set_option maxRecDepth 20000 in
theorem mw_1002 : (Jvm.Cond.code ({ cls := "LedgerTestsModel", name := "judge", desc := "(I)I" } : Jvm.MethodName) prog_10_method_38_code (8 : Nat) (Option.some Jvm.ClassFile.FieldType.int)) ∈ en_tbl := en_ix 1002 (by decide +kernel) (by decide +kernel)
set_option maxRecDepth 20000 in
theorem mw_623 : (Jvm.Cond.methodLink "LedgerTestsLaw" (73 : Nat) ({ cls := "LedgerTests", name := "killer", desc := "(II)I" } : Jvm.MethodName)) ∈ en_tbl := en_ix 623 (by decide +kernel) (by decide +kernel)
set_option maxRecDepth 20000 in
theorem mw_624 : (Jvm.Cond.instanceMethod ({ cls := "LedgerTests", name := "killer", desc := "(II)I" } : Jvm.MethodName)) ∈ en_tbl := en_ix 624 (by decide +kernel) (by decide +kernel)
set_option maxRecDepth 20000 in
theorem mw_625 : (Jvm.Cond.selects "LedgerTests" ({ cls := "LedgerTests", name := "killer", desc := "(II)I" } : Jvm.MethodName) ({ cls := "LedgerTests", name := "killer", desc := "(II)I" } : Jvm.MethodName)) ∈ en_tbl := en_ix 625 (by decide +kernel) (by decide +kernel)
set_option maxRecDepth 20000 in
theorem mw_626 : (Jvm.Cond.code ({ cls := "LedgerTests", name := "killer", desc := "(II)I" } : Jvm.MethodName) prog_1_method_15_code (3 : Nat) (Option.some Jvm.ClassFile.FieldType.int)) ∈ en_tbl := en_ix 626 (by decide +kernel) (by decide +kernel)
set_option maxRecDepth 20000 in
theorem mw_1003 : (Jvm.Cond.methodLink "LedgerTestsLaw" (76 : Nat) ({ cls := "LedgerTestsModel", name := "killer", desc := "(II)I" } : Jvm.MethodName)) ∈ en_tbl := en_ix 1003 (by decide +kernel) (by decide +kernel)
set_option maxRecDepth 20000 in
theorem mw_1004 : (Jvm.Cond.instanceMethod ({ cls := "LedgerTestsModel", name := "killer", desc := "(II)I" } : Jvm.MethodName)) ∈ en_tbl := en_ix 1004 (by decide +kernel) (by decide +kernel)
set_option maxRecDepth 20000 in
theorem mw_1005 : (Jvm.Cond.selects "LedgerTestsModel" ({ cls := "LedgerTestsModel", name := "killer", desc := "(II)I" } : Jvm.MethodName) ({ cls := "LedgerTestsModel", name := "killer", desc := "(II)I" } : Jvm.MethodName)) ∈ en_tbl := en_ix 1005 (by decide +kernel) (by decide +kernel)
set_option maxRecDepth 20000 in
theorem mw_1006 : (Jvm.Cond.code ({ cls := "LedgerTestsModel", name := "killer", desc := "(II)I" } : Jvm.MethodName) prog_10_method_39_code (3 : Nat) (Option.some Jvm.ClassFile.FieldType.int)) ∈ en_tbl := en_ix 1006 (by decide +kernel) (by decide +kernel)
set_option maxRecDepth 20000 in
theorem mw_631 : (Jvm.Cond.methodLink "LedgerTestsLaw" (77 : Nat) ({ cls := "LedgerTests", name := "shrink", desc := "(I)I" } : Jvm.MethodName)) ∈ en_tbl := en_ix 631 (by decide +kernel) (by decide +kernel)
set_option maxRecDepth 20000 in
theorem mw_632 : (Jvm.Cond.instanceMethod ({ cls := "LedgerTests", name := "shrink", desc := "(I)I" } : Jvm.MethodName)) ∈ en_tbl := en_ix 632 (by decide +kernel) (by decide +kernel)
set_option maxRecDepth 20000 in
theorem mw_633 : (Jvm.Cond.selects "LedgerTests" ({ cls := "LedgerTests", name := "shrink", desc := "(I)I" } : Jvm.MethodName) ({ cls := "LedgerTests", name := "shrink", desc := "(I)I" } : Jvm.MethodName)) ∈ en_tbl := en_ix 633 (by decide +kernel) (by decide +kernel)
set_option maxRecDepth 20000 in
theorem mw_634 : (Jvm.Cond.code ({ cls := "LedgerTests", name := "shrink", desc := "(I)I" } : Jvm.MethodName) prog_1_method_16_code (9 : Nat) (Option.some Jvm.ClassFile.FieldType.int)) ∈ en_tbl := en_ix 634 (by decide +kernel) (by decide +kernel)
set_option maxRecDepth 20000 in
theorem mw_1007 : (Jvm.Cond.methodLink "LedgerTestsLaw" (80 : Nat) ({ cls := "LedgerTestsModel", name := "shrink", desc := "(I)I" } : Jvm.MethodName)) ∈ en_tbl := en_ix 1007 (by decide +kernel) (by decide +kernel)
set_option maxRecDepth 20000 in
theorem mw_1008 : (Jvm.Cond.instanceMethod ({ cls := "LedgerTestsModel", name := "shrink", desc := "(I)I" } : Jvm.MethodName)) ∈ en_tbl := en_ix 1008 (by decide +kernel) (by decide +kernel)
set_option maxRecDepth 20000 in
theorem mw_1009 : (Jvm.Cond.selects "LedgerTestsModel" ({ cls := "LedgerTestsModel", name := "shrink", desc := "(I)I" } : Jvm.MethodName) ({ cls := "LedgerTestsModel", name := "shrink", desc := "(I)I" } : Jvm.MethodName)) ∈ en_tbl := en_ix 1009 (by decide +kernel) (by decide +kernel)
set_option maxRecDepth 20000 in
theorem mw_1010 : (Jvm.Cond.code ({ cls := "LedgerTestsModel", name := "shrink", desc := "(I)I" } : Jvm.MethodName) prog_10_method_43_code (6 : Nat) (Option.some Jvm.ClassFile.FieldType.int)) ∈ en_tbl := en_ix 1010 (by decide +kernel) (by decide +kernel)
set_option maxRecDepth 20000 in
theorem mw_647 : (Jvm.Cond.methodLink "LedgerTestsLaw" (81 : Nat) ({ cls := "LedgerTests", name := "lineOf", desc := "(III)I" } : Jvm.MethodName)) ∈ en_tbl := en_ix 647 (by decide +kernel) (by decide +kernel)
set_option maxRecDepth 20000 in
theorem mw_648 : (Jvm.Cond.instanceMethod ({ cls := "LedgerTests", name := "lineOf", desc := "(III)I" } : Jvm.MethodName)) ∈ en_tbl := en_ix 648 (by decide +kernel) (by decide +kernel)
set_option maxRecDepth 20000 in
theorem mw_649 : (Jvm.Cond.selects "LedgerTests" ({ cls := "LedgerTests", name := "lineOf", desc := "(III)I" } : Jvm.MethodName) ({ cls := "LedgerTests", name := "lineOf", desc := "(III)I" } : Jvm.MethodName)) ∈ en_tbl := en_ix 649 (by decide +kernel) (by decide +kernel)
set_option maxRecDepth 20000 in
theorem mw_650 : (Jvm.Cond.code ({ cls := "LedgerTests", name := "lineOf", desc := "(III)I" } : Jvm.MethodName) prog_1_method_17_code (5 : Nat) (Option.some Jvm.ClassFile.FieldType.int)) ∈ en_tbl := en_ix 650 (by decide +kernel) (by decide +kernel)
set_option maxRecDepth 20000 in
theorem mw_1023 : (Jvm.Cond.methodLink "LedgerTestsLaw" (84 : Nat) ({ cls := "LedgerTestsModel", name := "lineOf", desc := "(III)I" } : Jvm.MethodName)) ∈ en_tbl := en_ix 1023 (by decide +kernel) (by decide +kernel)
set_option maxRecDepth 20000 in
theorem mw_1024 : (Jvm.Cond.instanceMethod ({ cls := "LedgerTestsModel", name := "lineOf", desc := "(III)I" } : Jvm.MethodName)) ∈ en_tbl := en_ix 1024 (by decide +kernel) (by decide +kernel)
set_option maxRecDepth 20000 in
theorem mw_1025 : (Jvm.Cond.selects "LedgerTestsModel" ({ cls := "LedgerTestsModel", name := "lineOf", desc := "(III)I" } : Jvm.MethodName) ({ cls := "LedgerTestsModel", name := "lineOf", desc := "(III)I" } : Jvm.MethodName)) ∈ en_tbl := en_ix 1025 (by decide +kernel) (by decide +kernel)
set_option maxRecDepth 20000 in
theorem mw_1026 : (Jvm.Cond.code ({ cls := "LedgerTestsModel", name := "lineOf", desc := "(III)I" } : Jvm.MethodName) prog_10_method_44_code (5 : Nat) (Option.some Jvm.ClassFile.FieldType.int)) ∈ en_tbl := en_ix 1026 (by decide +kernel) (by decide +kernel)
set_option maxRecDepth 20000 in
theorem mw_656 : (Jvm.Cond.methodLink "LedgerTestsLaw" (85 : Nat) ({ cls := "LedgerTests", name := "covered", desc := "(II)I" } : Jvm.MethodName)) ∈ en_tbl := en_ix 656 (by decide +kernel) (by decide +kernel)
set_option maxRecDepth 20000 in
theorem mw_657 : (Jvm.Cond.instanceMethod ({ cls := "LedgerTests", name := "covered", desc := "(II)I" } : Jvm.MethodName)) ∈ en_tbl := en_ix 657 (by decide +kernel) (by decide +kernel)
set_option maxRecDepth 20000 in
theorem mw_658 : (Jvm.Cond.selects "LedgerTests" ({ cls := "LedgerTests", name := "covered", desc := "(II)I" } : Jvm.MethodName) ({ cls := "LedgerTests", name := "covered", desc := "(II)I" } : Jvm.MethodName)) ∈ en_tbl := en_ix 658 (by decide +kernel) (by decide +kernel)
set_option maxRecDepth 20000 in
theorem mw_659 : (Jvm.Cond.code ({ cls := "LedgerTests", name := "covered", desc := "(II)I" } : Jvm.MethodName) prog_1_method_18_code (4 : Nat) (Option.some Jvm.ClassFile.FieldType.int)) ∈ en_tbl := en_ix 659 (by decide +kernel) (by decide +kernel)
set_option maxRecDepth 20000 in
theorem mw_1027 : (Jvm.Cond.methodLink "LedgerTestsLaw" (88 : Nat) ({ cls := "LedgerTestsModel", name := "covered", desc := "(II)I" } : Jvm.MethodName)) ∈ en_tbl := en_ix 1027 (by decide +kernel) (by decide +kernel)
set_option maxRecDepth 20000 in
theorem mw_1028 : (Jvm.Cond.instanceMethod ({ cls := "LedgerTestsModel", name := "covered", desc := "(II)I" } : Jvm.MethodName)) ∈ en_tbl := en_ix 1028 (by decide +kernel) (by decide +kernel)
set_option maxRecDepth 20000 in
theorem mw_1029 : (Jvm.Cond.selects "LedgerTestsModel" ({ cls := "LedgerTestsModel", name := "covered", desc := "(II)I" } : Jvm.MethodName) ({ cls := "LedgerTestsModel", name := "covered", desc := "(II)I" } : Jvm.MethodName)) ∈ en_tbl := en_ix 1029 (by decide +kernel) (by decide +kernel)
set_option maxRecDepth 20000 in
theorem mw_1030 : (Jvm.Cond.code ({ cls := "LedgerTestsModel", name := "covered", desc := "(II)I" } : Jvm.MethodName) prog_10_method_45_code (3 : Nat) (Option.some Jvm.ClassFile.FieldType.int)) ∈ en_tbl := en_ix 1030 (by decide +kernel) (by decide +kernel)
set_option maxRecDepth 20000 in
theorem mw_664 : (Jvm.Cond.methodLink "LedgerTestsLaw" (89 : Nat) ({ cls := "LedgerTests", name := "coins", desc := "(I)I" } : Jvm.MethodName)) ∈ en_tbl := en_ix 664 (by decide +kernel) (by decide +kernel)
set_option maxRecDepth 20000 in
theorem mw_665 : (Jvm.Cond.instanceMethod ({ cls := "LedgerTests", name := "coins", desc := "(I)I" } : Jvm.MethodName)) ∈ en_tbl := en_ix 665 (by decide +kernel) (by decide +kernel)
set_option maxRecDepth 20000 in
theorem mw_666 : (Jvm.Cond.selects "LedgerTests" ({ cls := "LedgerTests", name := "coins", desc := "(I)I" } : Jvm.MethodName) ({ cls := "LedgerTests", name := "coins", desc := "(I)I" } : Jvm.MethodName)) ∈ en_tbl := en_ix 666 (by decide +kernel) (by decide +kernel)
set_option maxRecDepth 20000 in
theorem mw_667 : (Jvm.Cond.code ({ cls := "LedgerTests", name := "coins", desc := "(I)I" } : Jvm.MethodName) prog_1_method_19_code (2 : Nat) (Option.some Jvm.ClassFile.FieldType.int)) ∈ en_tbl := en_ix 667 (by decide +kernel) (by decide +kernel)
set_option maxRecDepth 20000 in
theorem mw_1031 : (Jvm.Cond.methodLink "LedgerTestsLaw" (92 : Nat) ({ cls := "LedgerTestsModel", name := "coins", desc := "(I)I" } : Jvm.MethodName)) ∈ en_tbl := en_ix 1031 (by decide +kernel) (by decide +kernel)
set_option maxRecDepth 20000 in
theorem mw_1032 : (Jvm.Cond.instanceMethod ({ cls := "LedgerTestsModel", name := "coins", desc := "(I)I" } : Jvm.MethodName)) ∈ en_tbl := en_ix 1032 (by decide +kernel) (by decide +kernel)
set_option maxRecDepth 20000 in
theorem mw_1033 : (Jvm.Cond.selects "LedgerTestsModel" ({ cls := "LedgerTestsModel", name := "coins", desc := "(I)I" } : Jvm.MethodName) ({ cls := "LedgerTestsModel", name := "coins", desc := "(I)I" } : Jvm.MethodName)) ∈ en_tbl := en_ix 1033 (by decide +kernel) (by decide +kernel)
set_option maxRecDepth 20000 in
theorem mw_1034 : (Jvm.Cond.code ({ cls := "LedgerTestsModel", name := "coins", desc := "(I)I" } : Jvm.MethodName) prog_10_method_46_code (2 : Nat) (Option.some Jvm.ClassFile.FieldType.int)) ∈ en_tbl := en_ix 1034 (by decide +kernel) (by decide +kernel)
set_option maxRecDepth 20000 in
theorem mw_669 : (Jvm.Cond.methodLink "LedgerTestsLaw" (93 : Nat) ({ cls := "LedgerTests", name := "cell", desc := "(II)I" } : Jvm.MethodName)) ∈ en_tbl := en_ix 669 (by decide +kernel) (by decide +kernel)
set_option maxRecDepth 20000 in
theorem mw_670 : (Jvm.Cond.instanceMethod ({ cls := "LedgerTests", name := "cell", desc := "(II)I" } : Jvm.MethodName)) ∈ en_tbl := en_ix 670 (by decide +kernel) (by decide +kernel)
set_option maxRecDepth 20000 in
theorem mw_671 : (Jvm.Cond.selects "LedgerTests" ({ cls := "LedgerTests", name := "cell", desc := "(II)I" } : Jvm.MethodName) ({ cls := "LedgerTests", name := "cell", desc := "(II)I" } : Jvm.MethodName)) ∈ en_tbl := en_ix 671 (by decide +kernel) (by decide +kernel)
set_option maxRecDepth 20000 in
theorem mw_672 : (Jvm.Cond.code ({ cls := "LedgerTests", name := "cell", desc := "(II)I" } : Jvm.MethodName) prog_1_method_20_code (3 : Nat) (Option.some Jvm.ClassFile.FieldType.int)) ∈ en_tbl := en_ix 672 (by decide +kernel) (by decide +kernel)
set_option maxRecDepth 20000 in
theorem mw_1035 : (Jvm.Cond.methodLink "LedgerTestsLaw" (96 : Nat) ({ cls := "LedgerTestsModel", name := "cell", desc := "(II)I" } : Jvm.MethodName)) ∈ en_tbl := en_ix 1035 (by decide +kernel) (by decide +kernel)
set_option maxRecDepth 20000 in
theorem mw_1036 : (Jvm.Cond.instanceMethod ({ cls := "LedgerTestsModel", name := "cell", desc := "(II)I" } : Jvm.MethodName)) ∈ en_tbl := en_ix 1036 (by decide +kernel) (by decide +kernel)
set_option maxRecDepth 20000 in
theorem mw_1037 : (Jvm.Cond.selects "LedgerTestsModel" ({ cls := "LedgerTestsModel", name := "cell", desc := "(II)I" } : Jvm.MethodName) ({ cls := "LedgerTestsModel", name := "cell", desc := "(II)I" } : Jvm.MethodName)) ∈ en_tbl := en_ix 1037 (by decide +kernel) (by decide +kernel)
set_option maxRecDepth 20000 in
theorem mw_1038 : (Jvm.Cond.code ({ cls := "LedgerTestsModel", name := "cell", desc := "(II)I" } : Jvm.MethodName) prog_10_method_47_code (3 : Nat) (Option.some Jvm.ClassFile.FieldType.int)) ∈ en_tbl := en_ix 1038 (by decide +kernel) (by decide +kernel)
set_option maxRecDepth 20000 in
theorem mw_675 : (Jvm.Cond.methodLink "LedgerTestsLaw" (97 : Nat) ({ cls := "LedgerTests", name := "event", desc := "(I)I" } : Jvm.MethodName)) ∈ en_tbl := en_ix 675 (by decide +kernel) (by decide +kernel)
set_option maxRecDepth 20000 in
theorem mw_676 : (Jvm.Cond.instanceMethod ({ cls := "LedgerTests", name := "event", desc := "(I)I" } : Jvm.MethodName)) ∈ en_tbl := en_ix 676 (by decide +kernel) (by decide +kernel)
set_option maxRecDepth 20000 in
theorem mw_677 : (Jvm.Cond.selects "LedgerTests" ({ cls := "LedgerTests", name := "event", desc := "(I)I" } : Jvm.MethodName) ({ cls := "LedgerTests", name := "event", desc := "(I)I" } : Jvm.MethodName)) ∈ en_tbl := en_ix 677 (by decide +kernel) (by decide +kernel)
set_option maxRecDepth 20000 in
theorem mw_678 : (Jvm.Cond.code ({ cls := "LedgerTests", name := "event", desc := "(I)I" } : Jvm.MethodName) prog_1_method_21_code (2 : Nat) (Option.some Jvm.ClassFile.FieldType.int)) ∈ en_tbl := en_ix 678 (by decide +kernel) (by decide +kernel)
set_option maxRecDepth 20000 in
theorem mw_1039 : (Jvm.Cond.methodLink "LedgerTestsLaw" (100 : Nat) ({ cls := "LedgerTestsModel", name := "event", desc := "(I)I" } : Jvm.MethodName)) ∈ en_tbl := en_ix 1039 (by decide +kernel) (by decide +kernel)
set_option maxRecDepth 20000 in
theorem mw_1040 : (Jvm.Cond.instanceMethod ({ cls := "LedgerTestsModel", name := "event", desc := "(I)I" } : Jvm.MethodName)) ∈ en_tbl := en_ix 1040 (by decide +kernel) (by decide +kernel)
set_option maxRecDepth 20000 in
theorem mw_1041 : (Jvm.Cond.selects "LedgerTestsModel" ({ cls := "LedgerTestsModel", name := "event", desc := "(I)I" } : Jvm.MethodName) ({ cls := "LedgerTestsModel", name := "event", desc := "(I)I" } : Jvm.MethodName)) ∈ en_tbl := en_ix 1041 (by decide +kernel) (by decide +kernel)
set_option maxRecDepth 20000 in
theorem mw_1042 : (Jvm.Cond.code ({ cls := "LedgerTestsModel", name := "event", desc := "(I)I" } : Jvm.MethodName) prog_10_method_48_code (2 : Nat) (Option.some Jvm.ClassFile.FieldType.int)) ∈ en_tbl := en_ix 1042 (by decide +kernel) (by decide +kernel)
set_option maxRecDepth 20000 in
theorem mw_680 : (Jvm.Cond.methodLink "LedgerTestsLaw" (101 : Nat) ({ cls := "LedgerTests", name := "count", desc := "(I)I" } : Jvm.MethodName)) ∈ en_tbl := en_ix 680 (by decide +kernel) (by decide +kernel)
set_option maxRecDepth 20000 in
theorem mw_681 : (Jvm.Cond.instanceMethod ({ cls := "LedgerTests", name := "count", desc := "(I)I" } : Jvm.MethodName)) ∈ en_tbl := en_ix 681 (by decide +kernel) (by decide +kernel)
set_option maxRecDepth 20000 in
theorem mw_682 : (Jvm.Cond.selects "LedgerTests" ({ cls := "LedgerTests", name := "count", desc := "(I)I" } : Jvm.MethodName) ({ cls := "LedgerTests", name := "count", desc := "(I)I" } : Jvm.MethodName)) ∈ en_tbl := en_ix 682 (by decide +kernel) (by decide +kernel)
set_option maxRecDepth 20000 in
theorem mw_683 : (Jvm.Cond.code ({ cls := "LedgerTests", name := "count", desc := "(I)I" } : Jvm.MethodName) prog_1_method_22_code (2 : Nat) (Option.some Jvm.ClassFile.FieldType.int)) ∈ en_tbl := en_ix 683 (by decide +kernel) (by decide +kernel)
set_option maxRecDepth 20000 in
theorem mw_1043 : (Jvm.Cond.methodLink "LedgerTestsLaw" (104 : Nat) ({ cls := "LedgerTestsModel", name := "count", desc := "(I)I" } : Jvm.MethodName)) ∈ en_tbl := en_ix 1043 (by decide +kernel) (by decide +kernel)
set_option maxRecDepth 20000 in
theorem mw_1044 : (Jvm.Cond.instanceMethod ({ cls := "LedgerTestsModel", name := "count", desc := "(I)I" } : Jvm.MethodName)) ∈ en_tbl := en_ix 1044 (by decide +kernel) (by decide +kernel)
set_option maxRecDepth 20000 in
theorem mw_1045 : (Jvm.Cond.selects "LedgerTestsModel" ({ cls := "LedgerTestsModel", name := "count", desc := "(I)I" } : Jvm.MethodName) ({ cls := "LedgerTestsModel", name := "count", desc := "(I)I" } : Jvm.MethodName)) ∈ en_tbl := en_ix 1045 (by decide +kernel) (by decide +kernel)
set_option maxRecDepth 20000 in
theorem mw_1046 : (Jvm.Cond.code ({ cls := "LedgerTestsModel", name := "count", desc := "(I)I" } : Jvm.MethodName) prog_10_method_49_code (4 : Nat) (Option.some Jvm.ClassFile.FieldType.int)) ∈ en_tbl := en_ix 1046 (by decide +kernel) (by decide +kernel)
