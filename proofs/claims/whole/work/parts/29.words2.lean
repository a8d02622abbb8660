/-! more words -/
set_option maxRecDepth 20000 in
theorem mw_25 : (Jvm.Cond.methodLink "LedgerTests$State" (5 : Nat) ({ cls := "java/lang/Object", name := "<init>", desc := "()V" } : Jvm.MethodName)) ∈ en_tbl := en_ix 25 (by decide +kernel) (by decide +kernel)
set_option maxRecDepth 20000 in
theorem mw_18 : (Jvm.Cond.instanceMethod ({ cls := "java/lang/Object", name := "<init>", desc := "()V" } : Jvm.MethodName)) ∈ en_tbl := en_ix 18 (by decide +kernel) (by decide +kernel)
set_option maxRecDepth 20000 in
theorem mw_19 : (Jvm.Cond.code ({ cls := "java/lang/Object", name := "<init>", desc := "()V" } : Jvm.MethodName) object_method_1_code (1 : Nat) (Option.none : Option Jvm.ClassFile.FieldType)) ∈ en_tbl := en_ix 19 (by decide +kernel) (by decide +kernel)
set_option maxRecDepth 20000 in
theorem mw_30 : (Jvm.Cond.arrayClass Jvm.ClassFile.FieldType.int) ∈ en_tbl := en_ix 30 (by decide +kernel) (by decide +kernel)
set_option maxRecDepth 20000 in
theorem mw_36 : (Jvm.Cond.methodLink "LedgerTests$Code" (5 : Nat) ({ cls := "java/lang/Object", name := "<init>", desc := "()V" } : Jvm.MethodName)) ∈ en_tbl := en_ix 36 (by decide +kernel) (by decide +kernel)
set_option maxRecDepth 20000 in
theorem mw_61 : (Jvm.Cond.methodLink "LedgerTests$Faces" (1 : Nat) ({ cls := "java/lang/Object", name := "<init>", desc := "()V" } : Jvm.MethodName)) ∈ en_tbl := en_ix 61 (by decide +kernel) (by decide +kernel)
set_option maxRecDepth 20000 in
theorem mw_77 : (Jvm.Cond.methodLink "LedgerTests$Machine" (5 : Nat) ({ cls := "java/lang/Object", name := "<init>", desc := "()V" } : Jvm.MethodName)) ∈ en_tbl := en_ix 77 (by decide +kernel) (by decide +kernel)
set_option maxRecDepth 20000 in
theorem mw_111 : (Jvm.Cond.methodLink "LedgerTests$Scripts" (5 : Nat) ({ cls := "java/lang/Object", name := "<init>", desc := "()V" } : Jvm.MethodName)) ∈ en_tbl := en_ix 111 (by decide +kernel) (by decide +kernel)
set_option maxRecDepth 20000 in
theorem mw_133 : (Jvm.Cond.methodLink "LedgerTests$Runner" (5 : Nat) ({ cls := "java/lang/Object", name := "<init>", desc := "()V" } : Jvm.MethodName)) ∈ en_tbl := en_ix 133 (by decide +kernel) (by decide +kernel)
set_option maxRecDepth 20000 in
theorem mw_173 : (Jvm.Cond.methodLink "LedgerTests$Mutants" (3 : Nat) ({ cls := "java/lang/Object", name := "<init>", desc := "()V" } : Jvm.MethodName)) ∈ en_tbl := en_ix 173 (by decide +kernel) (by decide +kernel)
set_option maxRecDepth 20000 in
theorem mw_17 : (Jvm.Cond.methodLink "LedgerTests" (1 : Nat) ({ cls := "java/lang/Object", name := "<init>", desc := "()V" } : Jvm.MethodName)) ∈ en_tbl := en_ix 17 (by decide +kernel) (by decide +kernel)
set_option maxRecDepth 20000 in
theorem mw_20 : (Jvm.Cond.classLink "LedgerTests" (7 : Nat) "LedgerTests$State") ∈ en_tbl := en_ix 20 (by decide +kernel) (by decide +kernel)
set_option maxRecDepth 20000 in
theorem mw_21 : (Jvm.Cond.instantiable "LedgerTests$State" (1 : Nat)) ∈ en_tbl := en_ix 21 (by decide +kernel) (by decide +kernel)
set_option maxRecDepth 20000 in
theorem mw_23 : (Jvm.Cond.instanceMethod ({ cls := "LedgerTests$State", name := "<init>", desc := "()V" } : Jvm.MethodName)) ∈ en_tbl := en_ix 23 (by decide +kernel) (by decide +kernel)
set_option maxRecDepth 20000 in
theorem mw_24 : (Jvm.Cond.code ({ cls := "LedgerTests$State", name := "<init>", desc := "()V" } : Jvm.MethodName) prog_8_method_1_code (1 : Nat) (Option.none : Option Jvm.ClassFile.FieldType)) ∈ en_tbl := en_ix 24 (by decide +kernel) (by decide +kernel)
set_option maxRecDepth 20000 in
theorem mw_31 : (Jvm.Cond.classLink "LedgerTests" (16 : Nat) "LedgerTests$Code") ∈ en_tbl := en_ix 31 (by decide +kernel) (by decide +kernel)
set_option maxRecDepth 20000 in
theorem mw_32 : (Jvm.Cond.instantiable "LedgerTests$Code" (6 : Nat)) ∈ en_tbl := en_ix 32 (by decide +kernel) (by decide +kernel)
set_option maxRecDepth 20000 in
theorem mw_34 : (Jvm.Cond.instanceMethod ({ cls := "LedgerTests$Code", name := "<init>", desc := "()V" } : Jvm.MethodName)) ∈ en_tbl := en_ix 34 (by decide +kernel) (by decide +kernel)
set_option maxRecDepth 20000 in
theorem mw_35 : (Jvm.Cond.code ({ cls := "LedgerTests$Code", name := "<init>", desc := "()V" } : Jvm.MethodName) prog_2_method_1_code (1 : Nat) (Option.none : Option Jvm.ClassFile.FieldType)) ∈ en_tbl := en_ix 35 (by decide +kernel) (by decide +kernel)
set_option maxRecDepth 20000 in
theorem mw_56 : (Jvm.Cond.classLink "LedgerTests" (23 : Nat) "LedgerTests$Faces") ∈ en_tbl := en_ix 56 (by decide +kernel) (by decide +kernel)
set_option maxRecDepth 20000 in
theorem mw_57 : (Jvm.Cond.instantiable "LedgerTests$Faces" (3 : Nat)) ∈ en_tbl := en_ix 57 (by decide +kernel) (by decide +kernel)
set_option maxRecDepth 20000 in
theorem mw_59 : (Jvm.Cond.instanceMethod ({ cls := "LedgerTests$Faces", name := "<init>", desc := "()V" } : Jvm.MethodName)) ∈ en_tbl := en_ix 59 (by decide +kernel) (by decide +kernel)
set_option maxRecDepth 20000 in
theorem mw_60 : (Jvm.Cond.code ({ cls := "LedgerTests$Faces", name := "<init>", desc := "()V" } : Jvm.MethodName) prog_3_method_1_code (2 : Nat) (Option.none : Option Jvm.ClassFile.FieldType)) ∈ en_tbl := en_ix 60 (by decide +kernel) (by decide +kernel)
set_option maxRecDepth 20000 in
theorem mw_58 : (Jvm.Cond.methodLink "LedgerTests" (25 : Nat) ({ cls := "LedgerTests$Faces", name := "<init>", desc := "()V" } : Jvm.MethodName)) ∈ en_tbl := en_ix 58 (by decide +kernel) (by decide +kernel)
set_option maxRecDepth 20000 in
theorem mw_72 : (Jvm.Cond.classLink "LedgerTests" (30 : Nat) "LedgerTests$Machine") ∈ en_tbl := en_ix 72 (by decide +kernel) (by decide +kernel)
set_option maxRecDepth 20000 in
theorem mw_73 : (Jvm.Cond.instantiable "LedgerTests$Machine" (9 : Nat)) ∈ en_tbl := en_ix 73 (by decide +kernel) (by decide +kernel)
set_option maxRecDepth 20000 in
theorem mw_75 : (Jvm.Cond.instanceMethod ({ cls := "LedgerTests$Machine", name := "<init>", desc := "(LLedgerTests$State;LLedgerTests$Code;LLedgerTests$Faces;)V" } : Jvm.MethodName)) ∈ en_tbl := en_ix 75 (by decide +kernel) (by decide +kernel)
set_option maxRecDepth 20000 in
theorem mw_76 : (Jvm.Cond.code ({ cls := "LedgerTests$Machine", name := "<init>", desc := "(LLedgerTests$State;LLedgerTests$Code;LLedgerTests$Faces;)V" } : Jvm.MethodName) prog_4_method_1_code (4 : Nat) (Option.none : Option Jvm.ClassFile.FieldType)) ∈ en_tbl := en_ix 76 (by decide +kernel) (by decide +kernel)
set_option maxRecDepth 20000 in
theorem mw_74 : (Jvm.Cond.methodLink "LedgerTests" (32 : Nat) ({ cls := "LedgerTests$Machine", name := "<init>", desc := "(LLedgerTests$State;LLedgerTests$Code;LLedgerTests$Faces;)V" } : Jvm.MethodName)) ∈ en_tbl := en_ix 74 (by decide +kernel) (by decide +kernel)
set_option maxRecDepth 20000 in
theorem mw_106 : (Jvm.Cond.classLink "LedgerTests" (39 : Nat) "LedgerTests$Scripts") ∈ en_tbl := en_ix 106 (by decide +kernel) (by decide +kernel)
set_option maxRecDepth 20000 in
theorem mw_107 : (Jvm.Cond.instantiable "LedgerTests$Scripts" (5 : Nat)) ∈ en_tbl := en_ix 107 (by decide +kernel) (by decide +kernel)
set_option maxRecDepth 20000 in
theorem mw_109 : (Jvm.Cond.instanceMethod ({ cls := "LedgerTests$Scripts", name := "<init>", desc := "()V" } : Jvm.MethodName)) ∈ en_tbl := en_ix 109 (by decide +kernel) (by decide +kernel)
set_option maxRecDepth 20000 in
theorem mw_110 : (Jvm.Cond.code ({ cls := "LedgerTests$Scripts", name := "<init>", desc := "()V" } : Jvm.MethodName) prog_7_method_1_code (1 : Nat) (Option.none : Option Jvm.ClassFile.FieldType)) ∈ en_tbl := en_ix 110 (by decide +kernel) (by decide +kernel)
set_option maxRecDepth 20000 in
theorem mw_128 : (Jvm.Cond.classLink "LedgerTests" (46 : Nat) "LedgerTests$Runner") ∈ en_tbl := en_ix 128 (by decide +kernel) (by decide +kernel)
set_option maxRecDepth 20000 in
theorem mw_129 : (Jvm.Cond.instantiable "LedgerTests$Runner" (11 : Nat)) ∈ en_tbl := en_ix 129 (by decide +kernel) (by decide +kernel)
set_option maxRecDepth 20000 in
theorem mw_131 : (Jvm.Cond.instanceMethod ({ cls := "LedgerTests$Runner", name := "<init>", desc := "(LLedgerTests$State;LLedgerTests$Code;LLedgerTests$Faces;LLedgerTests$Machine;LLedgerTests$Scripts;)V" } : Jvm.MethodName)) ∈ en_tbl := en_ix 131 (by decide +kernel) (by decide +kernel)
set_option maxRecDepth 20000 in
theorem mw_132 : (Jvm.Cond.code ({ cls := "LedgerTests$Runner", name := "<init>", desc := "(LLedgerTests$State;LLedgerTests$Code;LLedgerTests$Faces;LLedgerTests$Machine;LLedgerTests$Scripts;)V" } : Jvm.MethodName) prog_6_method_1_code (6 : Nat) (Option.none : Option Jvm.ClassFile.FieldType)) ∈ en_tbl := en_ix 132 (by decide +kernel) (by decide +kernel)
set_option maxRecDepth 20000 in
theorem mw_130 : (Jvm.Cond.methodLink "LedgerTests" (48 : Nat) ({ cls := "LedgerTests$Runner", name := "<init>", desc := "(LLedgerTests$State;LLedgerTests$Code;LLedgerTests$Faces;LLedgerTests$Machine;LLedgerTests$Scripts;)V" } : Jvm.MethodName)) ∈ en_tbl := en_ix 130 (by decide +kernel) (by decide +kernel)
set_option maxRecDepth 20000 in
theorem mw_168 : (Jvm.Cond.classLink "LedgerTests" (55 : Nat) "LedgerTests$Mutants") ∈ en_tbl := en_ix 168 (by decide +kernel) (by decide +kernel)
set_option maxRecDepth 20000 in
theorem mw_169 : (Jvm.Cond.instantiable "LedgerTests$Mutants" (7 : Nat)) ∈ en_tbl := en_ix 169 (by decide +kernel) (by decide +kernel)
set_option maxRecDepth 20000 in
theorem mw_171 : (Jvm.Cond.instanceMethod ({ cls := "LedgerTests$Mutants", name := "<init>", desc := "(LLedgerTests$Code;)V" } : Jvm.MethodName)) ∈ en_tbl := en_ix 171 (by decide +kernel) (by decide +kernel)
set_option maxRecDepth 20000 in
theorem mw_172 : (Jvm.Cond.code ({ cls := "LedgerTests$Mutants", name := "<init>", desc := "(LLedgerTests$Code;)V" } : Jvm.MethodName) prog_5_method_1_code (2 : Nat) (Option.none : Option Jvm.ClassFile.FieldType)) ∈ en_tbl := en_ix 172 (by decide +kernel) (by decide +kernel)
set_option maxRecDepth 20000 in
theorem mw_170 : (Jvm.Cond.methodLink "LedgerTests" (57 : Nat) ({ cls := "LedgerTests$Mutants", name := "<init>", desc := "(LLedgerTests$Code;)V" } : Jvm.MethodName)) ∈ en_tbl := en_ix 170 (by decide +kernel) (by decide +kernel)
set_option maxRecDepth 20000 in
theorem mw_702 : (Jvm.Cond.methodLink "LedgerTestsModel" (1 : Nat) ({ cls := "java/lang/Object", name := "<init>", desc := "()V" } : Jvm.MethodName)) ∈ en_tbl := en_ix 702 (by decide +kernel) (by decide +kernel)
set_option maxRecDepth 20000 in
theorem mw_850 : (Jvm.Cond.arrayClass Jvm.ClassFile.FieldType.long) ∈ en_tbl := en_ix 850 (by decide +kernel) (by decide +kernel)
set_option maxRecDepth 20000 in
theorem mw_851 : (Jvm.Cond.arrayClass Jvm.ClassFile.FieldType.boolean) ∈ en_tbl := en_ix 851 (by decide +kernel) (by decide +kernel)
set_option maxRecDepth 20000 in
theorem mw_703 : (Jvm.Cond.constantLong "LedgerTestsModel" (93 : Nat) (25209 : Int64)) ∈ en_tbl := en_ix 703 (by decide +kernel) (by decide +kernel)
set_option maxRecDepth 20000 in
theorem mw_704 : (Jvm.Cond.constantLong "LedgerTestsModel" (95 : Nat) (1667329132 : Int64)) ∈ en_tbl := en_ix 704 (by decide +kernel) (by decide +kernel)
set_option maxRecDepth 20000 in
theorem mw_705 : (Jvm.Cond.constantLong "LedgerTestsModel" (97 : Nat) (444150998387 : Int64)) ∈ en_tbl := en_ix 705 (by decide +kernel) (by decide +kernel)
set_option maxRecDepth 20000 in
theorem mw_706 : (Jvm.Cond.constantLong "LedgerTestsModel" (99 : Nat) (127991945328499 : Int64)) ∈ en_tbl := en_ix 706 (by decide +kernel) (by decide +kernel)
set_option maxRecDepth 20000 in
theorem mw_707 : (Jvm.Cond.constantLong "LedgerTestsModel" (101 : Nat) (495874044019 : Int64)) ∈ en_tbl := en_ix 707 (by decide +kernel) (by decide +kernel)
set_option maxRecDepth 20000 in
theorem mw_708 : (Jvm.Cond.constantLong "LedgerTestsModel" (103 : Nat) (427070942835 : Int64)) ∈ en_tbl := en_ix 708 (by decide +kernel) (by decide +kernel)
set_option maxRecDepth 20000 in
theorem mw_709 : (Jvm.Cond.constantLong "LedgerTestsModel" (105 : Nat) (1667591276 : Int64)) ∈ en_tbl := en_ix 709 (by decide +kernel) (by decide +kernel)
set_option maxRecDepth 20000 in
theorem mw_710 : (Jvm.Cond.constantLong "LedgerTestsModel" (107 : Nat) (435778055796 : Int64)) ∈ en_tbl := en_ix 710 (by decide +kernel) (by decide +kernel)
set_option maxRecDepth 20000 in
theorem mw_711 : (Jvm.Cond.constantLong "LedgerTestsModel" (109 : Nat) (7566701 : Int64)) ∈ en_tbl := en_ix 711 (by decide +kernel) (by decide +kernel)
set_option maxRecDepth 20000 in
theorem mw_712 : (Jvm.Cond.constantLong "LedgerTestsModel" (111 : Nat) (1953066341 : Int64)) ∈ en_tbl := en_ix 712 (by decide +kernel) (by decide +kernel)
set_option maxRecDepth 20000 in
theorem mw_713 : (Jvm.Cond.constantLong "LedgerTestsModel" (113 : Nat) (1718579819 : Int64)) ∈ en_tbl := en_ix 713 (by decide +kernel) (by decide +kernel)
set_option maxRecDepth 20000 in
theorem mw_714 : (Jvm.Cond.constantLong "LedgerTestsModel" (115 : Nat) (1650549611 : Int64)) ∈ en_tbl := en_ix 714 (by decide +kernel) (by decide +kernel)
set_option maxRecDepth 20000 in
theorem mw_715 : (Jvm.Cond.constantLong "LedgerTestsModel" (117 : Nat) (1717658469 : Int64)) ∈ en_tbl := en_ix 715 (by decide +kernel) (by decide +kernel)
set_option maxRecDepth 20000 in
theorem mw_716 : (Jvm.Cond.constantLong "LedgerTestsModel" (119 : Nat) (439720963187 : Int64)) ∈ en_tbl := en_ix 716 (by decide +kernel) (by decide +kernel)
