/-! more words -/
set_option maxRecDepth 20000 in
theorem mw_13 : (Jvm.Cond.instantiable "LedgerTests" (7 : Nat)) ∈ en_tbl := en_ix 13 (by decide +kernel) (by decide +kernel)
set_option maxRecDepth 20000 in
theorem mw_698 : (Jvm.Cond.instantiable "LedgerTestsModel" (44 : Nat)) ∈ en_tbl := en_ix 698 (by decide +kernel) (by decide +kernel)
set_option maxRecDepth 20000 in
theorem mw_12 : (Jvm.Cond.classLink "LedgerTestsLaw" (7 : Nat) "LedgerTests") ∈ en_tbl := en_ix 12 (by decide +kernel) (by decide +kernel)
set_option maxRecDepth 20000 in
theorem mw_14 : (Jvm.Cond.methodLink "LedgerTestsLaw" (9 : Nat) ({ cls := "LedgerTests", name := "<init>", desc := "()V" } : Jvm.MethodName)) ∈ en_tbl := en_ix 14 (by decide +kernel) (by decide +kernel)
set_option maxRecDepth 20000 in
theorem mw_15 : (Jvm.Cond.instanceMethod ({ cls := "LedgerTests", name := "<init>", desc := "()V" } : Jvm.MethodName)) ∈ en_tbl := en_ix 15 (by decide +kernel) (by decide +kernel)
set_option maxRecDepth 20000 in
theorem mw_16 : (Jvm.Cond.code ({ cls := "LedgerTests", name := "<init>", desc := "()V" } : Jvm.MethodName) prog_1_method_1_code (1 : Nat) (Option.none : Option Jvm.ClassFile.FieldType)) ∈ en_tbl := en_ix 16 (by decide +kernel) (by decide +kernel)
set_option maxRecDepth 20000 in
theorem mw_697 : (Jvm.Cond.classLink "LedgerTestsLaw" (10 : Nat) "LedgerTestsModel") ∈ en_tbl := en_ix 697 (by decide +kernel) (by decide +kernel)
set_option maxRecDepth 20000 in
theorem mw_699 : (Jvm.Cond.methodLink "LedgerTestsLaw" (12 : Nat) ({ cls := "LedgerTestsModel", name := "<init>", desc := "()V" } : Jvm.MethodName)) ∈ en_tbl := en_ix 699 (by decide +kernel) (by decide +kernel)
set_option maxRecDepth 20000 in
theorem mw_700 : (Jvm.Cond.instanceMethod ({ cls := "LedgerTestsModel", name := "<init>", desc := "()V" } : Jvm.MethodName)) ∈ en_tbl := en_ix 700 (by decide +kernel) (by decide +kernel)
set_option maxRecDepth 20000 in
theorem mw_701 : (Jvm.Cond.code ({ cls := "LedgerTestsModel", name := "<init>", desc := "()V" } : Jvm.MethodName) prog_10_method_1_code (2 : Nat) (Option.none : Option Jvm.ClassFile.FieldType)) ∈ en_tbl := en_ix 701 (by decide +kernel) (by decide +kernel)
