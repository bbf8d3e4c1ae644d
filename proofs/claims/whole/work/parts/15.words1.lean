theorem am_k407 : (Jvm.Cond.lays "BudgetJury$Parish" "BudgetJury$Parish" "pot" "I") ∈ am_W := am_kg 2 60 rfl rfl
theorem am_k409 : (Jvm.Cond.lays "BudgetJury$Parish" "BudgetJury$Parish" "paidInAll" "I") ∈ am_W := am_kg 2 62 rfl rfl
theorem am_k411 : (Jvm.Cond.laysFinal "BudgetJury$Parish" "BudgetJury$Parish" "paid" "[I") ∈ am_W := am_kg 2 64 rfl rfl
theorem am_k413 : (Jvm.Cond.laysFinal "BudgetJury$Parish" "BudgetJury$Parish" "cost" "[I") ∈ am_W := am_kg 2 66 rfl rfl
theorem am_k415 : (Jvm.Cond.laysFinal "BudgetJury$Parish" "BudgetJury$Parish" "fans" "[I") ∈ am_W := am_kg 2 68 rfl rfl
theorem am_k417 : (Jvm.Cond.laysFinal "BudgetJury$Parish" "BudgetJury$Parish" "bought" "[I") ∈ am_W := am_kg 2 70 rfl rfl
theorem am_k419 : (Jvm.Cond.laysFinal "BudgetJury$Parish" "BudgetJury$Parish" "builtThisYear" "[I") ∈ am_W := am_kg 2 72 rfl rfl
theorem am_k421 : (Jvm.Cond.laysFinal "BudgetJury$Parish" "BudgetJury$Parish" "stack" "[I") ∈ am_W := am_kg 2 74 rfl rfl
theorem am_k423 : (Jvm.Cond.lays "BudgetJury$Parish" "BudgetJury$Parish" "stackSize" "I") ∈ am_W := am_kg 2 76 rfl rfl
theorem am_k426 : (Jvm.Cond.fieldLink "BudgetJury" (9 : Nat) "BudgetJury" "tape" "[B") ∈ am_W := am_kg 2 79 rfl rfl
theorem am_k427 : (Jvm.Cond.fieldLink "BudgetJury" (66 : Nat) "BudgetJury" "tapeLength" "I") ∈ am_W := am_kg 2 80 rfl rfl
theorem am_k428 : (Jvm.Cond.fieldLink "BudgetJury" (13 : Nat) "BudgetJury" "errorPosition" "I") ∈ am_W := am_kg 2 81 rfl rfl
theorem am_k429 : (Jvm.Cond.fieldLink "BudgetJury" (20 : Nat) "BudgetJury" "plan" "LBudgetJury$Plan;") ∈ am_W := am_kg 2 82 rfl rfl
theorem am_k430 : (Jvm.Cond.fieldLink "BudgetJury" (24 : Nat) "BudgetJury" "draft" "LBudgetJury$Plan;") ∈ am_W := am_kg 2 83 rfl rfl
theorem am_k431 : (Jvm.Cond.fieldLink "BudgetJury" (32 : Nat) "BudgetJury" "tokens" "LBudgetJury$Tokens;") ∈ am_W := am_kg 2 84 rfl rfl
theorem am_k432 : (Jvm.Cond.fieldLink "BudgetJury" (41 : Nat) "BudgetJury" "grammar" "LBudgetJury$Grammar;") ∈ am_W := am_kg 2 85 rfl rfl
theorem am_k433 : (Jvm.Cond.fieldLink "BudgetJury" (50 : Nat) "BudgetJury" "checker" "LBudgetJury$Checker;") ∈ am_W := am_kg 2 86 rfl rfl
theorem am_k434 : (Jvm.Cond.fieldLink "BudgetJury" (59 : Nat) "BudgetJury" "now" "LBudgetJury$Parish;") ∈ am_W := am_kg 2 87 rfl rfl
theorem am_k435 : (Jvm.Cond.fieldLink "BudgetJury" (63 : Nat) "BudgetJury" "trial" "LBudgetJury$Parish;") ∈ am_W := am_kg 2 88 rfl rfl
theorem am_k436 : (Jvm.Cond.laysFinal "BudgetJury" "BudgetJury" "tape" "[B") ∈ am_W := am_kg 2 89 rfl rfl
theorem am_k438 : (Jvm.Cond.lays "BudgetJury" "BudgetJury" "tapeLength" "I") ∈ am_W := am_kg 2 91 rfl rfl
theorem am_k440 : (Jvm.Cond.lays "BudgetJury" "BudgetJury" "errorPosition" "I") ∈ am_W := am_kg 2 93 rfl rfl
theorem am_k442 : (Jvm.Cond.lays "BudgetJury" "BudgetJury" "plan" "LBudgetJury$Plan;") ∈ am_W := am_kg 2 95 rfl rfl
theorem am_k444 : (Jvm.Cond.lays "BudgetJury" "BudgetJury" "draft" "LBudgetJury$Plan;") ∈ am_W := am_kg 2 97 rfl rfl
theorem am_k446 : (Jvm.Cond.laysFinal "BudgetJury" "BudgetJury" "tokens" "LBudgetJury$Tokens;") ∈ am_W := am_kg 2 99 rfl rfl
theorem am_k448 : (Jvm.Cond.laysFinal "BudgetJury" "BudgetJury" "grammar" "LBudgetJury$Grammar;") ∈ am_W := am_kg 2 101 rfl rfl
theorem am_k450 : (Jvm.Cond.laysFinal "BudgetJury" "BudgetJury" "checker" "LBudgetJury$Checker;") ∈ am_W := am_kg 2 103 rfl rfl
theorem am_k452 : (Jvm.Cond.laysFinal "BudgetJury" "BudgetJury" "now" "LBudgetJury$Parish;") ∈ am_W := am_kg 2 105 rfl rfl
theorem am_k454 : (Jvm.Cond.laysFinal "BudgetJury" "BudgetJury" "trial" "LBudgetJury$Parish;") ∈ am_W := am_kg 2 107 rfl rfl
theorem am_k457 : (Jvm.Cond.methodLink "BudgetJuryLaw" (92 : Nat) ({ cls := "BudgetJury", name := "teach", desc := "()I" } : Jvm.MethodName)) ∈ am_W := am_kg 2 110 rfl rfl
theorem am_k458 : (Jvm.Cond.instanceMethod ({ cls := "BudgetJury", name := "teach", desc := "()I" } : Jvm.MethodName)) ∈ am_W := am_kg 2 111 rfl rfl
theorem am_k459 : (Jvm.Cond.selects "BudgetJury" ({ cls := "BudgetJury", name := "teach", desc := "()I" } : Jvm.MethodName) ({ cls := "BudgetJury", name := "teach", desc := "()I" } : Jvm.MethodName)) ∈ am_W := am_kg 2 112 rfl rfl
theorem am_k460 : (Jvm.Cond.code ({ cls := "BudgetJury", name := "teach", desc := "()I" } : Jvm.MethodName) prog_1_method_5_code (3 : Nat) (Option.some Jvm.ClassFile.FieldType.int)) ∈ am_W := am_kg 2 113 rfl rfl
theorem am_k461 : (Jvm.Cond.methodLink "BudgetJury" (85 : Nat) ({ cls := "BudgetJury$Tokens", name := "cut", desc := "(I)V" } : Jvm.MethodName)) ∈ am_W := am_kg 2 114 rfl rfl
theorem am_k462 : (Jvm.Cond.instanceMethod ({ cls := "BudgetJury$Tokens", name := "cut", desc := "(I)V" } : Jvm.MethodName)) ∈ am_W := am_kg 2 115 rfl rfl
theorem am_k463 : (Jvm.Cond.selects "BudgetJury$Tokens" ({ cls := "BudgetJury$Tokens", name := "cut", desc := "(I)V" } : Jvm.MethodName) ({ cls := "BudgetJury$Tokens", name := "cut", desc := "(I)V" } : Jvm.MethodName)) ∈ am_W := am_kg 2 116 rfl rfl
theorem am_k464 : (Jvm.Cond.code ({ cls := "BudgetJury$Tokens", name := "cut", desc := "(I)V" } : Jvm.MethodName) prog_9_method_2_code (3 : Nat) (Option.none : Option Jvm.ClassFile.FieldType)) ∈ am_W := am_kg 2 117 rfl rfl
theorem am_k465 : (Jvm.Cond.methodLink "BudgetJury$Tokens" (49 : Nat) ({ cls := "java/lang/Math", name := "min", desc := "(II)I" } : Jvm.MethodName)) ∈ am_W := am_kg 2 118 rfl rfl
theorem am_k466 : (Jvm.Cond.static ({ cls := "java/lang/Math", name := "min", desc := "(II)I" } : Jvm.MethodName)) ∈ am_W := am_kg 2 119 rfl rfl
theorem am_k467 : (Jvm.Cond.code ({ cls := "java/lang/Math", name := "min", desc := "(II)I" } : Jvm.MethodName) prog_20_method_69_code (2 : Nat) (Option.some Jvm.ClassFile.FieldType.int)) ∈ am_W := am_kg 2 120 rfl rfl
theorem am_k468 : (Jvm.Cond.methodLink "BudgetJury$Tokens" (61 : Nat) ({ cls := "BudgetJury$Tokens", name := "skipBlanks", desc := "()V" } : Jvm.MethodName)) ∈ am_W := am_kg 2 121 rfl rfl
theorem am_k470 : (Jvm.Cond.instanceMethod ({ cls := "BudgetJury$Tokens", name := "skipBlanks", desc := "()V" } : Jvm.MethodName)) ∈ am_W := am_kg 2 123 rfl rfl
theorem am_k471 : (Jvm.Cond.code ({ cls := "BudgetJury$Tokens", name := "skipBlanks", desc := "()V" } : Jvm.MethodName) prog_9_method_4_code (1 : Nat) (Option.none : Option Jvm.ClassFile.FieldType)) ∈ am_W := am_kg 2 124 rfl rfl
theorem am_k472 : (Jvm.Cond.methodLink "BudgetJury$Tokens" (68 : Nat) ({ cls := "BudgetJury$Tokens", name := "signAt", desc := "(I)I" } : Jvm.MethodName)) ∈ am_W := am_kg 2 125 rfl rfl
theorem am_k474 : (Jvm.Cond.instanceMethod ({ cls := "BudgetJury$Tokens", name := "signAt", desc := "(I)I" } : Jvm.MethodName)) ∈ am_W := am_kg 2 127 rfl rfl
theorem am_k475 : (Jvm.Cond.code ({ cls := "BudgetJury$Tokens", name := "signAt", desc := "(I)I" } : Jvm.MethodName) prog_9_method_9_code (2 : Nat) (Option.some Jvm.ClassFile.FieldType.int)) ∈ am_W := am_kg 2 128 rfl rfl
theorem am_k476 : (Jvm.Cond.methodLink "BudgetJury$Tokens" (64 : Nat) ({ cls := "BudgetJury$Tokens", name := "cutOne", desc := "(I)I" } : Jvm.MethodName)) ∈ am_W := am_kg 2 129 rfl rfl
theorem am_k478 : (Jvm.Cond.instanceMethod ({ cls := "BudgetJury$Tokens", name := "cutOne", desc := "(I)I" } : Jvm.MethodName)) ∈ am_W := am_kg 2 131 rfl rfl
theorem am_k479 : (Jvm.Cond.code ({ cls := "BudgetJury$Tokens", name := "cutOne", desc := "(I)I" } : Jvm.MethodName) prog_9_method_5_code (2 : Nat) (Option.some Jvm.ClassFile.FieldType.int)) ∈ am_W := am_kg 2 132 rfl rfl
theorem am_k480 : (Jvm.Cond.methodLink "BudgetJury$Tokens" (75 : Nat) ({ cls := "BudgetJury$Tokens", name := "cutWord", desc := "(I)I" } : Jvm.MethodName)) ∈ am_W := am_kg 2 133 rfl rfl
theorem am_k482 : (Jvm.Cond.instanceMethod ({ cls := "BudgetJury$Tokens", name := "cutWord", desc := "(I)I" } : Jvm.MethodName)) ∈ am_W := am_kg 2 135 rfl rfl
theorem am_k483 : (Jvm.Cond.code ({ cls := "BudgetJury$Tokens", name := "cutWord", desc := "(I)I" } : Jvm.MethodName) prog_9_method_6_code (6 : Nat) (Option.some Jvm.ClassFile.FieldType.int)) ∈ am_W := am_kg 2 136 rfl rfl
theorem am_k484 : (Jvm.Cond.methodLink "BudgetJury$Tokens" (78 : Nat) ({ cls := "BudgetJury$Tokens", name := "isDigit", desc := "(I)Z" } : Jvm.MethodName)) ∈ am_W := am_kg 2 137 rfl rfl
theorem am_k485 : (Jvm.Cond.static ({ cls := "BudgetJury$Tokens", name := "isDigit", desc := "(I)Z" } : Jvm.MethodName)) ∈ am_W := am_kg 2 138 rfl rfl
theorem am_k486 : (Jvm.Cond.code ({ cls := "BudgetJury$Tokens", name := "isDigit", desc := "(I)Z" } : Jvm.MethodName) prog_9_method_11_code (1 : Nat) (Option.some Jvm.ClassFile.FieldType.boolean)) ∈ am_W := am_kg 2 139 rfl rfl
theorem am_k487 : (Jvm.Cond.methodLink "BudgetJury$Tokens" (81 : Nat) ({ cls := "BudgetJury$Tokens", name := "cutNumber", desc := "(I)I" } : Jvm.MethodName)) ∈ am_W := am_kg 2 140 rfl rfl
theorem am_k489 : (Jvm.Cond.instanceMethod ({ cls := "BudgetJury$Tokens", name := "cutNumber", desc := "(I)I" } : Jvm.MethodName)) ∈ am_W := am_kg 2 142 rfl rfl
theorem am_k490 : (Jvm.Cond.code ({ cls := "BudgetJury$Tokens", name := "cutNumber", desc := "(I)I" } : Jvm.MethodName) prog_9_method_7_code (5 : Nat) (Option.some Jvm.ClassFile.FieldType.int)) ∈ am_W := am_kg 2 143 rfl rfl
theorem am_k491 : (Jvm.Cond.constantLong "BudgetJury$Tokens" (87 : Nat) (10 : Int64)) ∈ am_W := am_kg 2 144 rfl rfl
theorem am_k492 : (Jvm.Cond.constantLong "BudgetJury$Tokens" (89 : Nat) (48 : Int64)) ∈ am_W := am_kg 2 145 rfl rfl
theorem am_k493 : (Jvm.Cond.methodLink "BudgetJury$Tokens" (84 : Nat) ({ cls := "BudgetJury$Tokens", name := "cutSymbol", desc := "()I" } : Jvm.MethodName)) ∈ am_W := am_kg 2 146 rfl rfl
theorem am_k495 : (Jvm.Cond.instanceMethod ({ cls := "BudgetJury$Tokens", name := "cutSymbol", desc := "()I" } : Jvm.MethodName)) ∈ am_W := am_kg 2 148 rfl rfl
theorem am_k496 : (Jvm.Cond.code ({ cls := "BudgetJury$Tokens", name := "cutSymbol", desc := "()I" } : Jvm.MethodName) prog_9_method_8_code (2 : Nat) (Option.some Jvm.ClassFile.FieldType.int)) ∈ am_W := am_kg 2 149 rfl rfl
theorem am_k498 : (Jvm.Cond.methodLink "BudgetJury$Tokens" (93 : Nat) ({ cls := "java/lang/String", name := "indexOf", desc := "(I)I" } : Jvm.MethodName)) ∈ am_W := am_kg 2 151 rfl rfl
theorem am_k499 : (Jvm.Cond.instanceMethod ({ cls := "java/lang/String", name := "indexOf", desc := "(I)I" } : Jvm.MethodName)) ∈ am_W := am_kg 2 152 rfl rfl
theorem am_k500 : (Jvm.Cond.selects "java/lang/String" ({ cls := "java/lang/String", name := "indexOf", desc := "(I)I" } : Jvm.MethodName) ({ cls := "java/lang/String", name := "indexOf", desc := "(I)I" } : Jvm.MethodName)) ∈ am_W := am_kg 2 153 rfl rfl
theorem am_k501 : (Jvm.Cond.code ({ cls := "java/lang/String", name := "indexOf", desc := "(I)I" } : Jvm.MethodName) prog_22_method_79_code (2 : Nat) (Option.some Jvm.ClassFile.FieldType.int)) ∈ am_W := am_kg 2 154 rfl rfl
theorem am_k502 : (Jvm.Cond.methodLink "java/lang/String" (633 : Nat) ({ cls := "java/lang/String", name := "indexOf", desc := "(II)I" } : Jvm.MethodName)) ∈ am_W := am_kg 2 155 rfl rfl
theorem am_k503 : (Jvm.Cond.instanceMethod ({ cls := "java/lang/String", name := "indexOf", desc := "(II)I" } : Jvm.MethodName)) ∈ am_W := am_kg 2 156 rfl rfl
theorem am_k504 : (Jvm.Cond.selects "java/lang/String" ({ cls := "java/lang/String", name := "indexOf", desc := "(II)I" } : Jvm.MethodName) ({ cls := "java/lang/String", name := "indexOf", desc := "(II)I" } : Jvm.MethodName)) ∈ am_W := am_kg 2 157 rfl rfl
theorem am_k505 : (Jvm.Cond.code ({ cls := "java/lang/String", name := "indexOf", desc := "(II)I" } : Jvm.MethodName) prog_22_method_80_code (3 : Nat) (Option.some Jvm.ClassFile.FieldType.int)) ∈ am_W := am_kg 2 158 rfl rfl
theorem am_k506 : (Jvm.Cond.methodLink "java/lang/String" (505 : Nat) ({ cls := "java/lang/String", name := "length", desc := "()I" } : Jvm.MethodName)) ∈ am_W := am_kg 2 159 rfl rfl
theorem am_k507 : (Jvm.Cond.methodLink "java/lang/String" (637 : Nat) ({ cls := "java/lang/StringLatin1", name := "indexOf", desc := "([BIII)I" } : Jvm.MethodName)) ∈ am_W := am_kg 2 160 rfl rfl
theorem am_k508 : (Jvm.Cond.static ({ cls := "java/lang/StringLatin1", name := "indexOf", desc := "([BIII)I" } : Jvm.MethodName)) ∈ am_W := am_kg 2 161 rfl rfl
theorem am_k509 : (Jvm.Cond.code ({ cls := "java/lang/StringLatin1", name := "indexOf", desc := "([BIII)I" } : Jvm.MethodName) prog_23_method_22_code (4 : Nat) (Option.some Jvm.ClassFile.FieldType.int)) ∈ am_W := am_kg 2 162 rfl rfl
theorem am_k510 : (Jvm.Cond.methodLink "java/lang/StringLatin1" (88 : Nat) ({ cls := "java/lang/StringLatin1", name := "canEncode", desc := "(I)Z" } : Jvm.MethodName)) ∈ am_W := am_kg 2 163 rfl rfl
theorem am_k511 : (Jvm.Cond.static ({ cls := "java/lang/StringLatin1", name := "canEncode", desc := "(I)Z" } : Jvm.MethodName)) ∈ am_W := am_kg 2 164 rfl rfl
theorem am_k512 : (Jvm.Cond.code ({ cls := "java/lang/StringLatin1", name := "canEncode", desc := "(I)Z" } : Jvm.MethodName) prog_23_method_4_code (1 : Nat) (Option.some Jvm.ClassFile.FieldType.boolean)) ∈ am_W := am_kg 2 165 rfl rfl
theorem am_k513 : (Jvm.Cond.methodLink "java/lang/StringLatin1" (92 : Nat) ({ cls := "java/lang/Math", name := "max", desc := "(II)I" } : Jvm.MethodName)) ∈ am_W := am_kg 2 166 rfl rfl
theorem am_k514 : (Jvm.Cond.static ({ cls := "java/lang/Math", name := "max", desc := "(II)I" } : Jvm.MethodName)) ∈ am_W := am_kg 2 167 rfl rfl
theorem am_k515 : (Jvm.Cond.code ({ cls := "java/lang/Math", name := "max", desc := "(II)I" } : Jvm.MethodName) prog_20_method_65_code (2 : Nat) (Option.some Jvm.ClassFile.FieldType.int)) ∈ am_W := am_kg 2 168 rfl rfl
theorem am_k516 : (Jvm.Cond.methodLink "java/lang/StringLatin1" (38 : Nat) ({ cls := "java/lang/Math", name := "min", desc := "(II)I" } : Jvm.MethodName)) ∈ am_W := am_kg 2 169 rfl rfl
theorem am_k517 : (Jvm.Cond.methodLink "java/lang/StringLatin1" (95 : Nat) ({ cls := "java/lang/StringLatin1", name := "indexOfChar", desc := "([BIII)I" } : Jvm.MethodName)) ∈ am_W := am_kg 2 170 rfl rfl
theorem am_k518 : (Jvm.Cond.static ({ cls := "java/lang/StringLatin1", name := "indexOfChar", desc := "([BIII)I" } : Jvm.MethodName)) ∈ am_W := am_kg 2 171 rfl rfl
theorem am_k519 : (Jvm.Cond.code ({ cls := "java/lang/StringLatin1", name := "indexOfChar", desc := "([BIII)I" } : Jvm.MethodName) prog_23_method_23_code (6 : Nat) (Option.some Jvm.ClassFile.FieldType.int)) ∈ am_W := am_kg 2 172 rfl rfl
theorem am_k555 : (Jvm.Cond.methodLink "BudgetJury" (88 : Nat) ({ cls := "BudgetJury$Grammar", name := "isList", desc := "(LBudgetJury$Plan;)Z" } : Jvm.MethodName)) ∈ am_W := am_kg 2 208 rfl rfl
theorem am_k556 : (Jvm.Cond.instanceMethod ({ cls := "BudgetJury$Grammar", name := "isList", desc := "(LBudgetJury$Plan;)Z" } : Jvm.MethodName)) ∈ am_W := am_kg 2 209 rfl rfl
theorem am_k557 : (Jvm.Cond.selects "BudgetJury$Grammar" ({ cls := "BudgetJury$Grammar", name := "isList", desc := "(LBudgetJury$Plan;)Z" } : Jvm.MethodName) ({ cls := "BudgetJury$Grammar", name := "isList", desc := "(LBudgetJury$Plan;)Z" } : Jvm.MethodName)) ∈ am_W := am_kg 2 210 rfl rfl
theorem am_k558 : (Jvm.Cond.code ({ cls := "BudgetJury$Grammar", name := "isList", desc := "(LBudgetJury$Plan;)Z" } : Jvm.MethodName) prog_3_method_2_code (3 : Nat) (Option.some Jvm.ClassFile.FieldType.boolean)) ∈ am_W := am_kg 2 211 rfl rfl
theorem am_k559 : (Jvm.Cond.methodLink "BudgetJury$Grammar" (35 : Nat) ({ cls := "BudgetJury$Grammar", name := "here", desc := "()I" } : Jvm.MethodName)) ∈ am_W := am_kg 2 212 rfl rfl
theorem am_k561 : (Jvm.Cond.instanceMethod ({ cls := "BudgetJury$Grammar", name := "here", desc := "()I" } : Jvm.MethodName)) ∈ am_W := am_kg 2 214 rfl rfl
theorem am_k562 : (Jvm.Cond.code ({ cls := "BudgetJury$Grammar", name := "here", desc := "()I" } : Jvm.MethodName) prog_3_method_3_code (1 : Nat) (Option.some Jvm.ClassFile.FieldType.int)) ∈ am_W := am_kg 2 215 rfl rfl
theorem am_k563 : (Jvm.Cond.methodLink "BudgetJury$Grammar" (41 : Nat) ({ cls := "BudgetJury$Grammar", name := "isLine", desc := "()Z" } : Jvm.MethodName)) ∈ am_W := am_kg 2 216 rfl rfl
theorem am_k565 : (Jvm.Cond.instanceMethod ({ cls := "BudgetJury$Grammar", name := "isLine", desc := "()Z" } : Jvm.MethodName)) ∈ am_W := am_kg 2 218 rfl rfl
theorem am_k566 : (Jvm.Cond.code ({ cls := "BudgetJury$Grammar", name := "isLine", desc := "()Z" } : Jvm.MethodName) prog_3_method_8_code (1 : Nat) (Option.some Jvm.ClassFile.FieldType.boolean)) ∈ am_W := am_kg 2 219 rfl rfl
theorem am_k567 : (Jvm.Cond.methodLink "BudgetJury$Grammar" (45 : Nat) ({ cls := "BudgetJury$Grammar", name := "take", desc := "(I)Z" } : Jvm.MethodName)) ∈ am_W := am_kg 2 220 rfl rfl
theorem am_k569 : (Jvm.Cond.instanceMethod ({ cls := "BudgetJury$Grammar", name := "take", desc := "(I)Z" } : Jvm.MethodName)) ∈ am_W := am_kg 2 222 rfl rfl
theorem am_k570 : (Jvm.Cond.code ({ cls := "BudgetJury$Grammar", name := "take", desc := "(I)Z" } : Jvm.MethodName) prog_3_method_4_code (2 : Nat) (Option.some Jvm.ClassFile.FieldType.boolean)) ∈ am_W := am_kg 2 223 rfl rfl
theorem am_k571 : (Jvm.Cond.methodLink "BudgetJury$Grammar" (56 : Nat) ({ cls := "BudgetJury$Grammar", name := "take", desc := "(II)Z" } : Jvm.MethodName)) ∈ am_W := am_kg 2 224 rfl rfl
theorem am_k573 : (Jvm.Cond.instanceMethod ({ cls := "BudgetJury$Grammar", name := "take", desc := "(II)Z" } : Jvm.MethodName)) ∈ am_W := am_kg 2 226 rfl rfl
theorem am_k574 : (Jvm.Cond.code ({ cls := "BudgetJury$Grammar", name := "take", desc := "(II)Z" } : Jvm.MethodName) prog_3_method_5_code (3 : Nat) (Option.some Jvm.ClassFile.FieldType.boolean)) ∈ am_W := am_kg 2 227 rfl rfl
theorem am_k575 : (Jvm.Cond.methodLink "BudgetJury$Grammar" (68 : Nat) ({ cls := "BudgetJury$Grammar", name := "isRowOfLiked", desc := "()Z" } : Jvm.MethodName)) ∈ am_W := am_kg 2 228 rfl rfl
theorem am_k577 : (Jvm.Cond.instanceMethod ({ cls := "BudgetJury$Grammar", name := "isRowOfLiked", desc := "()Z" } : Jvm.MethodName)) ∈ am_W := am_kg 2 230 rfl rfl
theorem am_k578 : (Jvm.Cond.code ({ cls := "BudgetJury$Grammar", name := "isRowOfLiked", desc := "()Z" } : Jvm.MethodName) prog_3_method_9_code (2 : Nat) (Option.some Jvm.ClassFile.FieldType.boolean)) ∈ am_W := am_kg 2 231 rfl rfl
theorem am_k579 : (Jvm.Cond.methodLink "BudgetJury$Grammar" (71 : Nat) ({ cls := "BudgetJury$Grammar", name := "isBan", desc := "()Z" } : Jvm.MethodName)) ∈ am_W := am_kg 2 232 rfl rfl
theorem am_k581 : (Jvm.Cond.instanceMethod ({ cls := "BudgetJury$Grammar", name := "isBan", desc := "()Z" } : Jvm.MethodName)) ∈ am_W := am_kg 2 234 rfl rfl
theorem am_k582 : (Jvm.Cond.code ({ cls := "BudgetJury$Grammar", name := "isBan", desc := "()Z" } : Jvm.MethodName) prog_3_method_10_code (1 : Nat) (Option.some Jvm.ClassFile.FieldType.boolean)) ∈ am_W := am_kg 2 235 rfl rfl
theorem am_k583 : (Jvm.Cond.methodLink "BudgetJury$Grammar" (74 : Nat) ({ cls := "BudgetJury$Grammar", name := "isTest", desc := "(I)Z" } : Jvm.MethodName)) ∈ am_W := am_kg 2 236 rfl rfl
theorem am_k585 : (Jvm.Cond.instanceMethod ({ cls := "BudgetJury$Grammar", name := "isTest", desc := "(I)Z" } : Jvm.MethodName)) ∈ am_W := am_kg 2 238 rfl rfl
theorem am_k586 : (Jvm.Cond.code ({ cls := "BudgetJury$Grammar", name := "isTest", desc := "(I)Z" } : Jvm.MethodName) prog_3_method_11_code (3 : Nat) (Option.some Jvm.ClassFile.FieldType.boolean)) ∈ am_W := am_kg 2 239 rfl rfl
theorem am_k587 : (Jvm.Cond.methodLink "BudgetJury$Grammar" (81 : Nat) ({ cls := "BudgetJury$Grammar", name := "isBoth", desc := "(I)Z" } : Jvm.MethodName)) ∈ am_W := am_kg 3 0 rfl rfl
theorem am_k589 : (Jvm.Cond.instanceMethod ({ cls := "BudgetJury$Grammar", name := "isBoth", desc := "(I)Z" } : Jvm.MethodName)) ∈ am_W := am_kg 3 2 rfl rfl
theorem am_k590 : (Jvm.Cond.code ({ cls := "BudgetJury$Grammar", name := "isBoth", desc := "(I)Z" } : Jvm.MethodName) prog_3_method_12_code (3 : Nat) (Option.some Jvm.ClassFile.FieldType.boolean)) ∈ am_W := am_kg 3 3 rfl rfl
theorem am_k591 : (Jvm.Cond.methodLink "BudgetJury$Grammar" (84 : Nat) ({ cls := "BudgetJury$Grammar", name := "isSingle", desc := "(I)Z" } : Jvm.MethodName)) ∈ am_W := am_kg 3 4 rfl rfl
theorem am_k593 : (Jvm.Cond.instanceMethod ({ cls := "BudgetJury$Grammar", name := "isSingle", desc := "(I)Z" } : Jvm.MethodName)) ∈ am_W := am_kg 3 6 rfl rfl
theorem am_k594 : (Jvm.Cond.code ({ cls := "BudgetJury$Grammar", name := "isSingle", desc := "(I)Z" } : Jvm.MethodName) prog_3_method_13_code (3 : Nat) (Option.some Jvm.ClassFile.FieldType.boolean)) ∈ am_W := am_kg 3 7 rfl rfl
theorem am_k595 : (Jvm.Cond.methodLink "BudgetJury$Grammar" (79 : Nat) ({ cls := "BudgetJury$Grammar", name := "write", desc := "(I)Z" } : Jvm.MethodName)) ∈ am_W := am_kg 3 8 rfl rfl
theorem am_k597 : (Jvm.Cond.instanceMethod ({ cls := "BudgetJury$Grammar", name := "write", desc := "(I)Z" } : Jvm.MethodName)) ∈ am_W := am_kg 3 10 rfl rfl
theorem am_k598 : (Jvm.Cond.code ({ cls := "BudgetJury$Grammar", name := "write", desc := "(I)Z" } : Jvm.MethodName) prog_3_method_6_code (2 : Nat) (Option.some Jvm.ClassFile.FieldType.boolean)) ∈ am_W := am_kg 3 11 rfl rfl
theorem am_k599 : (Jvm.Cond.methodLink "BudgetJury$Grammar" (59 : Nat) ({ cls := "BudgetJury$Grammar", name := "write", desc := "(II)Z" } : Jvm.MethodName)) ∈ am_W := am_kg 3 12 rfl rfl
theorem am_k601 : (Jvm.Cond.instanceMethod ({ cls := "BudgetJury$Grammar", name := "write", desc := "(II)Z" } : Jvm.MethodName)) ∈ am_W := am_kg 3 14 rfl rfl
theorem am_k602 : (Jvm.Cond.code ({ cls := "BudgetJury$Grammar", name := "write", desc := "(II)Z" } : Jvm.MethodName) prog_3_method_7_code (3 : Nat) (Option.some Jvm.ClassFile.FieldType.boolean)) ∈ am_W := am_kg 3 15 rfl rfl
theorem am_k603 : (Jvm.Cond.methodLink "BudgetJury$Grammar" (87 : Nat) ({ cls := "BudgetJury$Grammar", name := "isNamed", desc := "(II)Z" } : Jvm.MethodName)) ∈ am_W := am_kg 3 16 rfl rfl
theorem am_k605 : (Jvm.Cond.instanceMethod ({ cls := "BudgetJury$Grammar", name := "isNamed", desc := "(II)Z" } : Jvm.MethodName)) ∈ am_W := am_kg 3 18 rfl rfl
theorem am_k606 : (Jvm.Cond.code ({ cls := "BudgetJury$Grammar", name := "isNamed", desc := "(II)Z" } : Jvm.MethodName) prog_3_method_14_code (4 : Nat) (Option.some Jvm.ClassFile.FieldType.boolean)) ∈ am_W := am_kg 3 19 rfl rfl
theorem am_k607 : (Jvm.Cond.methodLink "BudgetJury$Grammar" (90 : Nat) ({ cls := "BudgetJury$Grammar", name := "isSum", desc := "(I)Z" } : Jvm.MethodName)) ∈ am_W := am_kg 3 20 rfl rfl
theorem am_k609 : (Jvm.Cond.instanceMethod ({ cls := "BudgetJury$Grammar", name := "isSum", desc := "(I)Z" } : Jvm.MethodName)) ∈ am_W := am_kg 3 22 rfl rfl
theorem am_k610 : (Jvm.Cond.code ({ cls := "BudgetJury$Grammar", name := "isSum", desc := "(I)Z" } : Jvm.MethodName) prog_3_method_16_code (4 : Nat) (Option.some Jvm.ClassFile.FieldType.boolean)) ∈ am_W := am_kg 3 23 rfl rfl
theorem am_k611 : (Jvm.Cond.methodLink "BudgetJury$Grammar" (96 : Nat) ({ cls := "BudgetJury$Grammar", name := "isProduct", desc := "(I)Z" } : Jvm.MethodName)) ∈ am_W := am_kg 3 24 rfl rfl
theorem am_k613 : (Jvm.Cond.instanceMethod ({ cls := "BudgetJury$Grammar", name := "isProduct", desc := "(I)Z" } : Jvm.MethodName)) ∈ am_W := am_kg 3 26 rfl rfl
theorem am_k614 : (Jvm.Cond.code ({ cls := "BudgetJury$Grammar", name := "isProduct", desc := "(I)Z" } : Jvm.MethodName) prog_3_method_17_code (4 : Nat) (Option.some Jvm.ClassFile.FieldType.boolean)) ∈ am_W := am_kg 3 27 rfl rfl
theorem am_k615 : (Jvm.Cond.methodLink "BudgetJury$Grammar" (99 : Nat) ({ cls := "BudgetJury$Grammar", name := "isValue", desc := "(I)Z" } : Jvm.MethodName)) ∈ am_W := am_kg 3 28 rfl rfl
theorem am_k617 : (Jvm.Cond.instanceMethod ({ cls := "BudgetJury$Grammar", name := "isValue", desc := "(I)Z" } : Jvm.MethodName)) ∈ am_W := am_kg 3 30 rfl rfl
theorem am_k618 : (Jvm.Cond.code ({ cls := "BudgetJury$Grammar", name := "isValue", desc := "(I)Z" } : Jvm.MethodName) prog_3_method_18_code (3 : Nat) (Option.some Jvm.ClassFile.FieldType.boolean)) ∈ am_W := am_kg 3 31 rfl rfl
theorem am_k619 : (Jvm.Cond.methodLink "BudgetJury$Grammar" (102 : Nat) ({ cls := "BudgetJury$Grammar", name := "isPair", desc := "(I)Z" } : Jvm.MethodName)) ∈ am_W := am_kg 3 32 rfl rfl
theorem am_k621 : (Jvm.Cond.instanceMethod ({ cls := "BudgetJury$Grammar", name := "isPair", desc := "(I)Z" } : Jvm.MethodName)) ∈ am_W := am_kg 3 34 rfl rfl
theorem am_k622 : (Jvm.Cond.code ({ cls := "BudgetJury$Grammar", name := "isPair", desc := "(I)Z" } : Jvm.MethodName) prog_3_method_19_code (2 : Nat) (Option.some Jvm.ClassFile.FieldType.boolean)) ∈ am_W := am_kg 3 35 rfl rfl
theorem am_k623 : (Jvm.Cond.methodLink "BudgetJury$Grammar" (93 : Nat) ({ cls := "BudgetJury$Grammar", name := "comparisonHere", desc := "()I" } : Jvm.MethodName)) ∈ am_W := am_kg 3 36 rfl rfl
theorem am_k625 : (Jvm.Cond.instanceMethod ({ cls := "BudgetJury$Grammar", name := "comparisonHere", desc := "()I" } : Jvm.MethodName)) ∈ am_W := am_kg 3 38 rfl rfl
theorem am_k626 : (Jvm.Cond.code ({ cls := "BudgetJury$Grammar", name := "comparisonHere", desc := "()I" } : Jvm.MethodName) prog_3_method_15_code (1 : Nat) (Option.some Jvm.ClassFile.FieldType.int)) ∈ am_W := am_kg 3 39 rfl rfl
theorem am_k627 : (Jvm.Cond.methodLink "BudgetJury" (92 : Nat) ({ cls := "BudgetJury$Checker", name := "fill", desc := "(LBudgetJury$Plan;)I" } : Jvm.MethodName)) ∈ am_W := am_kg 3 40 rfl rfl
theorem am_k628 : (Jvm.Cond.instanceMethod ({ cls := "BudgetJury$Checker", name := "fill", desc := "(LBudgetJury$Plan;)I" } : Jvm.MethodName)) ∈ am_W := am_kg 3 41 rfl rfl
theorem am_k629 : (Jvm.Cond.selects "BudgetJury$Checker" ({ cls := "BudgetJury$Checker", name := "fill", desc := "(LBudgetJury$Plan;)I" } : Jvm.MethodName) ({ cls := "BudgetJury$Checker", name := "fill", desc := "(LBudgetJury$Plan;)I" } : Jvm.MethodName)) ∈ am_W := am_kg 3 42 rfl rfl
theorem am_k630 : (Jvm.Cond.code ({ cls := "BudgetJury$Checker", name := "fill", desc := "(LBudgetJury$Plan;)I" } : Jvm.MethodName) prog_2_method_2_code (3 : Nat) (Option.some Jvm.ClassFile.FieldType.int)) ∈ am_W := am_kg 3 43 rfl rfl
theorem am_k631 : (Jvm.Cond.methodLink "BudgetJury$Checker" (33 : Nat) ({ cls := "BudgetJury$Plan", name := "clear", desc := "()V" } : Jvm.MethodName)) ∈ am_W := am_kg 3 44 rfl rfl
theorem am_k632 : (Jvm.Cond.instanceMethod ({ cls := "BudgetJury$Plan", name := "clear", desc := "()V" } : Jvm.MethodName)) ∈ am_W := am_kg 3 45 rfl rfl
theorem am_k633 : (Jvm.Cond.selects "BudgetJury$Plan" ({ cls := "BudgetJury$Plan", name := "clear", desc := "()V" } : Jvm.MethodName) ({ cls := "BudgetJury$Plan", name := "clear", desc := "()V" } : Jvm.MethodName)) ∈ am_W := am_kg 3 46 rfl rfl
theorem am_k634 : (Jvm.Cond.code ({ cls := "BudgetJury$Plan", name := "clear", desc := "()V" } : Jvm.MethodName) prog_6_method_2_code (1 : Nat) (Option.none : Option Jvm.ClassFile.FieldType)) ∈ am_W := am_kg 3 47 rfl rfl
theorem am_k635 : (Jvm.Cond.methodLink "BudgetJury$Checker" (45 : Nat) ({ cls := "BudgetJury$Checker", name := "errorHere", desc := "(LBudgetJury$Plan;)I" } : Jvm.MethodName)) ∈ am_W := am_kg 3 48 rfl rfl
theorem am_k637 : (Jvm.Cond.instanceMethod ({ cls := "BudgetJury$Checker", name := "errorHere", desc := "(LBudgetJury$Plan;)I" } : Jvm.MethodName)) ∈ am_W := am_kg 3 50 rfl rfl
theorem am_k638 : (Jvm.Cond.code ({ cls := "BudgetJury$Checker", name := "errorHere", desc := "(LBudgetJury$Plan;)I" } : Jvm.MethodName) prog_2_method_4_code (4 : Nat) (Option.some Jvm.ClassFile.FieldType.int)) ∈ am_W := am_kg 3 51 rfl rfl
theorem am_k639 : (Jvm.Cond.methodLink "BudgetJury$Checker" (67 : Nat) ({ cls := "BudgetJury$Checker", name := "tellWard", desc := "(LBudgetJury$Plan;J)I" } : Jvm.MethodName)) ∈ am_W := am_kg 3 52 rfl rfl
theorem am_k641 : (Jvm.Cond.instanceMethod ({ cls := "BudgetJury$Checker", name := "tellWard", desc := "(LBudgetJury$Plan;J)I" } : Jvm.MethodName)) ∈ am_W := am_kg 3 54 rfl rfl
theorem am_k642 : (Jvm.Cond.code ({ cls := "BudgetJury$Checker", name := "tellWard", desc := "(LBudgetJury$Plan;J)I" } : Jvm.MethodName) prog_2_method_5_code (5 : Nat) (Option.some Jvm.ClassFile.FieldType.int)) ∈ am_W := am_kg 3 55 rfl rfl
theorem am_k643 : (Jvm.Cond.methodLink "BudgetJury$Checker" (127 : Nat) ({ cls := "BudgetJury$Checker", name := "errorOfNew", desc := "([JIJ)I" } : Jvm.MethodName)) ∈ am_W := am_kg 3 56 rfl rfl
theorem am_k644 : (Jvm.Cond.static ({ cls := "BudgetJury$Checker", name := "errorOfNew", desc := "([JIJ)I" } : Jvm.MethodName)) ∈ am_W := am_kg 3 57 rfl rfl
theorem am_k645 : (Jvm.Cond.code ({ cls := "BudgetJury$Checker", name := "errorOfNew", desc := "([JIJ)I" } : Jvm.MethodName) prog_2_method_8_code (4 : Nat) (Option.some Jvm.ClassFile.FieldType.int)) ∈ am_W := am_kg 3 58 rfl rfl
theorem am_k646 : (Jvm.Cond.methodLink "BudgetJury$Checker" (105 : Nat) ({ cls := "BudgetJury$Checker", name := "find", desc := "([JIJ)I" } : Jvm.MethodName)) ∈ am_W := am_kg 3 59 rfl rfl
theorem am_k647 : (Jvm.Cond.static ({ cls := "BudgetJury$Checker", name := "find", desc := "([JIJ)I" } : Jvm.MethodName)) ∈ am_W := am_kg 3 60 rfl rfl
theorem am_k648 : (Jvm.Cond.code ({ cls := "BudgetJury$Checker", name := "find", desc := "([JIJ)I" } : Jvm.MethodName) prog_2_method_14_code (5 : Nat) (Option.some Jvm.ClassFile.FieldType.int)) ∈ am_W := am_kg 3 61 rfl rfl
theorem am_k649 : (Jvm.Cond.methodLink "BudgetJury$Checker" (71 : Nat) ({ cls := "BudgetJury$Checker", name := "tellProject", desc := "(LBudgetJury$Plan;J)I" } : Jvm.MethodName)) ∈ am_W := am_kg 3 62 rfl rfl
theorem am_k651 : (Jvm.Cond.instanceMethod ({ cls := "BudgetJury$Checker", name := "tellProject", desc := "(LBudgetJury$Plan;J)I" } : Jvm.MethodName)) ∈ am_W := am_kg 3 64 rfl rfl
theorem am_k652 : (Jvm.Cond.code ({ cls := "BudgetJury$Checker", name := "tellProject", desc := "(LBudgetJury$Plan;J)I" } : Jvm.MethodName) prog_2_method_6_code (5 : Nat) (Option.some Jvm.ClassFile.FieldType.int)) ∈ am_W := am_kg 3 65 rfl rfl
theorem am_k653 : (Jvm.Cond.methodLink "BudgetJury$Checker" (74 : Nat) ({ cls := "BudgetJury$Checker", name := "tellVoter", desc := "(LBudgetJury$Plan;J)I" } : Jvm.MethodName)) ∈ am_W := am_kg 3 66 rfl rfl
theorem am_k655 : (Jvm.Cond.instanceMethod ({ cls := "BudgetJury$Checker", name := "tellVoter", desc := "(LBudgetJury$Plan;J)I" } : Jvm.MethodName)) ∈ am_W := am_kg 3 68 rfl rfl
theorem am_k656 : (Jvm.Cond.code ({ cls := "BudgetJury$Checker", name := "tellVoter", desc := "(LBudgetJury$Plan;J)I" } : Jvm.MethodName) prog_2_method_7_code (5 : Nat) (Option.some Jvm.ClassFile.FieldType.int)) ∈ am_W := am_kg 3 69 rfl rfl
theorem am_k657 : (Jvm.Cond.methodLink "BudgetJury$Checker" (77 : Nat) ({ cls := "BudgetJury$Checker", name := "tellBan", desc := "(LBudgetJury$Plan;)I" } : Jvm.MethodName)) ∈ am_W := am_kg 3 70 rfl rfl
theorem am_k659 : (Jvm.Cond.instanceMethod ({ cls := "BudgetJury$Checker", name := "tellBan", desc := "(LBudgetJury$Plan;)I" } : Jvm.MethodName)) ∈ am_W := am_kg 3 72 rfl rfl
theorem am_k660 : (Jvm.Cond.code ({ cls := "BudgetJury$Checker", name := "tellBan", desc := "(LBudgetJury$Plan;)I" } : Jvm.MethodName) prog_2_method_9_code (2 : Nat) (Option.some Jvm.ClassFile.FieldType.int)) ∈ am_W := am_kg 3 73 rfl rfl
theorem am_k661 : (Jvm.Cond.methodLink "BudgetJury$Checker" (86 : Nat) ({ cls := "BudgetJury$Checker", name := "putNumber", desc := "([IIII)I" } : Jvm.MethodName)) ∈ am_W := am_kg 3 74 rfl rfl
theorem am_k663 : (Jvm.Cond.instanceMethod ({ cls := "BudgetJury$Checker", name := "putNumber", desc := "([IIII)I" } : Jvm.MethodName)) ∈ am_W := am_kg 3 76 rfl rfl
theorem am_k664 : (Jvm.Cond.code ({ cls := "BudgetJury$Checker", name := "putNumber", desc := "([IIII)I" } : Jvm.MethodName) prog_2_method_12_code (7 : Nat) (Option.some Jvm.ClassFile.FieldType.int)) ∈ am_W := am_kg 3 77 rfl rfl
theorem am_k665 : (Jvm.Cond.methodLink "BudgetJury$Checker" (99 : Nat) ({ cls := "BudgetJury$Checker", name := "tellBudget", desc := "(LBudgetJury$Plan;J)I" } : Jvm.MethodName)) ∈ am_W := am_kg 3 78 rfl rfl
theorem am_k666 : (Jvm.Cond.static ({ cls := "BudgetJury$Checker", name := "tellBudget", desc := "(LBudgetJury$Plan;J)I" } : Jvm.MethodName)) ∈ am_W := am_kg 3 79 rfl rfl
theorem am_k667 : (Jvm.Cond.code ({ cls := "BudgetJury$Checker", name := "tellBudget", desc := "(LBudgetJury$Plan;J)I" } : Jvm.MethodName) prog_2_method_10_code (3 : Nat) (Option.some Jvm.ClassFile.FieldType.int)) ∈ am_W := am_kg 3 80 rfl rfl
theorem am_k668 : (Jvm.Cond.constantLong "BudgetJury$Checker" (139 : Nat) (9999 : Int64)) ∈ am_W := am_kg 3 81 rfl rfl
theorem am_k669 : (Jvm.Cond.methodLink "BudgetJury$Checker" (109 : Nat) ({ cls := "BudgetJury$Checker", name := "putNamed", desc := "([III)I" } : Jvm.MethodName)) ∈ am_W := am_kg 3 82 rfl rfl
theorem am_k670 : (Jvm.Cond.static ({ cls := "BudgetJury$Checker", name := "putNamed", desc := "([III)I" } : Jvm.MethodName)) ∈ am_W := am_kg 3 83 rfl rfl
theorem am_k671 : (Jvm.Cond.code ({ cls := "BudgetJury$Checker", name := "putNamed", desc := "([III)I" } : Jvm.MethodName) prog_2_method_13_code (3 : Nat) (Option.some Jvm.ClassFile.FieldType.int)) ∈ am_W := am_kg 3 84 rfl rfl
theorem am_k672 : (Jvm.Cond.methodLink "BudgetJury$Checker" (113 : Nat) ({ cls := "BudgetJury$Checker", name := "tellLiked", desc := "(LBudgetJury$Plan;I)I" } : Jvm.MethodName)) ∈ am_W := am_kg 3 85 rfl rfl
theorem am_k673 : (Jvm.Cond.static ({ cls := "BudgetJury$Checker", name := "tellLiked", desc := "(LBudgetJury$Plan;I)I" } : Jvm.MethodName)) ∈ am_W := am_kg 3 86 rfl rfl
theorem am_k674 : (Jvm.Cond.code ({ cls := "BudgetJury$Checker", name := "tellLiked", desc := "(LBudgetJury$Plan;I)I" } : Jvm.MethodName) prog_2_method_11_code (3 : Nat) (Option.some Jvm.ClassFile.FieldType.int)) ∈ am_W := am_kg 3 87 rfl rfl
theorem am_k675 : (Jvm.Cond.methodLink "BudgetJury$Checker" (144 : Nat) ({ cls := "BudgetJury$Plan", name := "hasProject", desc := "(I)Z" } : Jvm.MethodName)) ∈ am_W := am_kg 3 88 rfl rfl
theorem am_k676 : (Jvm.Cond.instanceMethod ({ cls := "BudgetJury$Plan", name := "hasProject", desc := "(I)Z" } : Jvm.MethodName)) ∈ am_W := am_kg 3 89 rfl rfl
theorem am_k677 : (Jvm.Cond.selects "BudgetJury$Plan" ({ cls := "BudgetJury$Plan", name := "hasProject", desc := "(I)Z" } : Jvm.MethodName) ({ cls := "BudgetJury$Plan", name := "hasProject", desc := "(I)Z" } : Jvm.MethodName)) ∈ am_W := am_kg 3 90 rfl rfl
theorem am_k678 : (Jvm.Cond.code ({ cls := "BudgetJury$Plan", name := "hasProject", desc := "(I)Z" } : Jvm.MethodName) prog_6_method_4_code (2 : Nat) (Option.some Jvm.ClassFile.FieldType.boolean)) ∈ am_W := am_kg 3 91 rfl rfl
theorem am_k679 : (Jvm.Cond.methodLink "BudgetJury$Checker" (148 : Nat) ({ cls := "BudgetJury$Plan", name := "hasVoter", desc := "(I)Z" } : Jvm.MethodName)) ∈ am_W := am_kg 3 92 rfl rfl
theorem am_k680 : (Jvm.Cond.instanceMethod ({ cls := "BudgetJury$Plan", name := "hasVoter", desc := "(I)Z" } : Jvm.MethodName)) ∈ am_W := am_kg 3 93 rfl rfl
theorem am_k681 : (Jvm.Cond.selects "BudgetJury$Plan" ({ cls := "BudgetJury$Plan", name := "hasVoter", desc := "(I)Z" } : Jvm.MethodName) ({ cls := "BudgetJury$Plan", name := "hasVoter", desc := "(I)Z" } : Jvm.MethodName)) ∈ am_W := am_kg 3 94 rfl rfl
theorem am_k682 : (Jvm.Cond.code ({ cls := "BudgetJury$Plan", name := "hasVoter", desc := "(I)Z" } : Jvm.MethodName) prog_6_method_5_code (2 : Nat) (Option.some Jvm.ClassFile.FieldType.boolean)) ∈ am_W := am_kg 3 95 rfl rfl
theorem am_k683 : (Jvm.Cond.constant "BudgetJury$Checker" (126 : Nat) (999999 : Int32)) ∈ am_W := am_kg 3 96 rfl rfl
theorem am_k684 : (Jvm.Cond.methodLink "BudgetJury$Checker" (49 : Nat) ({ cls := "BudgetJury$Checker", name := "setArguments", desc := "(LBudgetJury$Plan;)V" } : Jvm.MethodName)) ∈ am_W := am_kg 3 97 rfl rfl
theorem am_k686 : (Jvm.Cond.instanceMethod ({ cls := "BudgetJury$Checker", name := "setArguments", desc := "(LBudgetJury$Plan;)V" } : Jvm.MethodName)) ∈ am_W := am_kg 3 99 rfl rfl
theorem am_k687 : (Jvm.Cond.code ({ cls := "BudgetJury$Checker", name := "setArguments", desc := "(LBudgetJury$Plan;)V" } : Jvm.MethodName) prog_2_method_3_code (4 : Nat) (Option.none : Option Jvm.ClassFile.FieldType)) ∈ am_W := am_kg 3 100 rfl rfl
theorem am_k688 : (Jvm.Cond.methodLink "BudgetJury" (100 : Nat) ({ cls := "BudgetJury$Tokens", name := "startOf", desc := "(I)I" } : Jvm.MethodName)) ∈ am_W := am_kg 3 101 rfl rfl
theorem am_k689 : (Jvm.Cond.instanceMethod ({ cls := "BudgetJury$Tokens", name := "startOf", desc := "(I)I" } : Jvm.MethodName)) ∈ am_W := am_kg 3 102 rfl rfl
theorem am_k690 : (Jvm.Cond.selects "BudgetJury$Tokens" ({ cls := "BudgetJury$Tokens", name := "startOf", desc := "(I)I" } : Jvm.MethodName) ({ cls := "BudgetJury$Tokens", name := "startOf", desc := "(I)I" } : Jvm.MethodName)) ∈ am_W := am_kg 3 103 rfl rfl
theorem am_k691 : (Jvm.Cond.code ({ cls := "BudgetJury$Tokens", name := "startOf", desc := "(I)I" } : Jvm.MethodName) prog_9_method_3_code (2 : Nat) (Option.some Jvm.ClassFile.FieldType.int)) ∈ am_W := am_kg 3 104 rfl rfl
theorem am_k692 : (Jvm.Cond.methodLink "BudgetJury" (104 : Nat) ({ cls := "BudgetJury$Parish", name := "begin", desc := "(LBudgetJury$Plan;)V" } : Jvm.MethodName)) ∈ am_W := am_kg 3 105 rfl rfl
theorem am_k693 : (Jvm.Cond.instanceMethod ({ cls := "BudgetJury$Parish", name := "begin", desc := "(LBudgetJury$Plan;)V" } : Jvm.MethodName)) ∈ am_W := am_kg 3 106 rfl rfl
theorem am_k694 : (Jvm.Cond.selects "BudgetJury$Parish" ({ cls := "BudgetJury$Parish", name := "begin", desc := "(LBudgetJury$Plan;)V" } : Jvm.MethodName) ({ cls := "BudgetJury$Parish", name := "begin", desc := "(LBudgetJury$Plan;)V" } : Jvm.MethodName)) ∈ am_W := am_kg 3 107 rfl rfl
theorem am_k695 : (Jvm.Cond.code ({ cls := "BudgetJury$Parish", name := "begin", desc := "(LBudgetJury$Plan;)V" } : Jvm.MethodName) prog_5_method_2_code (3 : Nat) (Option.none : Option Jvm.ClassFile.FieldType)) ∈ am_W := am_kg 3 108 rfl rfl
theorem am_k696 : (Jvm.Cond.methodLink "BudgetJuryLaw" (96 : Nat) ({ cls := "BudgetJury", name := "errorAt", desc := "()I" } : Jvm.MethodName)) ∈ am_W := am_kg 3 109 rfl rfl
theorem am_k697 : (Jvm.Cond.instanceMethod ({ cls := "BudgetJury", name := "errorAt", desc := "()I" } : Jvm.MethodName)) ∈ am_W := am_kg 3 110 rfl rfl
theorem am_k698 : (Jvm.Cond.selects "BudgetJury" ({ cls := "BudgetJury", name := "errorAt", desc := "()I" } : Jvm.MethodName) ({ cls := "BudgetJury", name := "errorAt", desc := "()I" } : Jvm.MethodName)) ∈ am_W := am_kg 3 111 rfl rfl
theorem am_k699 : (Jvm.Cond.code ({ cls := "BudgetJury", name := "errorAt", desc := "()I" } : Jvm.MethodName) prog_1_method_6_code (1 : Nat) (Option.some Jvm.ClassFile.FieldType.int)) ∈ am_W := am_kg 3 112 rfl rfl
theorem am_k700 : (Jvm.Cond.methodLink "BudgetJuryLaw" (122 : Nat) ({ cls := "BudgetJury", name := "next", desc := "()I" } : Jvm.MethodName)) ∈ am_W := am_kg 3 113 rfl rfl
theorem am_k701 : (Jvm.Cond.instanceMethod ({ cls := "BudgetJury", name := "next", desc := "()I" } : Jvm.MethodName)) ∈ am_W := am_kg 3 114 rfl rfl
theorem am_k702 : (Jvm.Cond.selects "BudgetJury" ({ cls := "BudgetJury", name := "next", desc := "()I" } : Jvm.MethodName) ({ cls := "BudgetJury", name := "next", desc := "()I" } : Jvm.MethodName)) ∈ am_W := am_kg 3 115 rfl rfl
theorem am_k703 : (Jvm.Cond.code ({ cls := "BudgetJury", name := "next", desc := "()I" } : Jvm.MethodName) prog_1_method_15_code (1 : Nat) (Option.some Jvm.ClassFile.FieldType.int)) ∈ am_W := am_kg 3 116 rfl rfl
theorem am_k704 : (Jvm.Cond.methodLink "BudgetJury" (178 : Nat) ({ cls := "BudgetJury$Parish", name := "copy", desc := "(LBudgetJury$Parish;)V" } : Jvm.MethodName)) ∈ am_W := am_kg 3 117 rfl rfl
theorem am_k705 : (Jvm.Cond.instanceMethod ({ cls := "BudgetJury$Parish", name := "copy", desc := "(LBudgetJury$Parish;)V" } : Jvm.MethodName)) ∈ am_W := am_kg 3 118 rfl rfl
theorem am_k706 : (Jvm.Cond.selects "BudgetJury$Parish" ({ cls := "BudgetJury$Parish", name := "copy", desc := "(LBudgetJury$Parish;)V" } : Jvm.MethodName) ({ cls := "BudgetJury$Parish", name := "copy", desc := "(LBudgetJury$Parish;)V" } : Jvm.MethodName)) ∈ am_W := am_kg 3 119 rfl rfl
theorem am_k707 : (Jvm.Cond.code ({ cls := "BudgetJury$Parish", name := "copy", desc := "(LBudgetJury$Parish;)V" } : Jvm.MethodName) prog_5_method_3_code (3 : Nat) (Option.none : Option Jvm.ClassFile.FieldType)) ∈ am_W := am_kg 3 120 rfl rfl
theorem am_k708 : (Jvm.Cond.methodLink "BudgetJury" (182 : Nat) ({ cls := "BudgetJury$Parish", name := "collect", desc := "()V" } : Jvm.MethodName)) ∈ am_W := am_kg 3 121 rfl rfl
theorem am_k709 : (Jvm.Cond.instanceMethod ({ cls := "BudgetJury$Parish", name := "collect", desc := "()V" } : Jvm.MethodName)) ∈ am_W := am_kg 3 122 rfl rfl
theorem am_k710 : (Jvm.Cond.selects "BudgetJury$Parish" ({ cls := "BudgetJury$Parish", name := "collect", desc := "()V" } : Jvm.MethodName) ({ cls := "BudgetJury$Parish", name := "collect", desc := "()V" } : Jvm.MethodName)) ∈ am_W := am_kg 3 123 rfl rfl
theorem am_k711 : (Jvm.Cond.code ({ cls := "BudgetJury$Parish", name := "collect", desc := "()V" } : Jvm.MethodName) prog_5_method_22_code (4 : Nat) (Option.none : Option Jvm.ClassFile.FieldType)) ∈ am_W := am_kg 3 124 rfl rfl
theorem am_k712 : (Jvm.Cond.methodLink "BudgetJury$Parish" (133 : Nat) ({ cls := "BudgetJury$Parish", name := "putIntoPurse", desc := "(II)V" } : Jvm.MethodName)) ∈ am_W := am_kg 3 125 rfl rfl
theorem am_k713 : (Jvm.Cond.instanceMethod ({ cls := "BudgetJury$Parish", name := "putIntoPurse", desc := "(II)V" } : Jvm.MethodName)) ∈ am_W := am_kg 3 126 rfl rfl
theorem am_k714 : (Jvm.Cond.selects "BudgetJury$Parish" ({ cls := "BudgetJury$Parish", name := "putIntoPurse", desc := "(II)V" } : Jvm.MethodName) ({ cls := "BudgetJury$Parish", name := "putIntoPurse", desc := "(II)V" } : Jvm.MethodName)) ∈ am_W := am_kg 3 127 rfl rfl
theorem am_k715 : (Jvm.Cond.code ({ cls := "BudgetJury$Parish", name := "putIntoPurse", desc := "(II)V" } : Jvm.MethodName) prog_5_method_19_code (3 : Nat) (Option.none : Option Jvm.ClassFile.FieldType)) ∈ am_W := am_kg 3 128 rfl rfl
theorem am_k716 : (Jvm.Cond.methodLink "BudgetJury$Parish" (115 : Nat) ({ cls := "java/lang/Math", name := "min", desc := "(II)I" } : Jvm.MethodName)) ∈ am_W := am_kg 3 129 rfl rfl
theorem am_k717 : (Jvm.Cond.methodLink "BudgetJury" (185 : Nat) ({ cls := "BudgetJury$Parish", name := "bestToBuy", desc := "()I" } : Jvm.MethodName)) ∈ am_W := am_kg 3 130 rfl rfl
theorem am_k718 : (Jvm.Cond.instanceMethod ({ cls := "BudgetJury$Parish", name := "bestToBuy", desc := "()I" } : Jvm.MethodName)) ∈ am_W := am_kg 3 131 rfl rfl
theorem am_k719 : (Jvm.Cond.selects "BudgetJury$Parish" ({ cls := "BudgetJury$Parish", name := "bestToBuy", desc := "()I" } : Jvm.MethodName) ({ cls := "BudgetJury$Parish", name := "bestToBuy", desc := "()I" } : Jvm.MethodName)) ∈ am_W := am_kg 3 132 rfl rfl
theorem am_k720 : (Jvm.Cond.code ({ cls := "BudgetJury$Parish", name := "bestToBuy", desc := "()I" } : Jvm.MethodName) prog_5_method_24_code (6 : Nat) (Option.some Jvm.ClassFile.FieldType.int)) ∈ am_W := am_kg 3 133 rfl rfl
theorem am_k721 : (Jvm.Cond.methodLink "BudgetJury$Parish" (146 : Nat) ({ cls := "BudgetJury$Parish", name := "hasRoom", desc := "(I)Z" } : Jvm.MethodName)) ∈ am_W := am_kg 3 134 rfl rfl
theorem am_k723 : (Jvm.Cond.instanceMethod ({ cls := "BudgetJury$Parish", name := "hasRoom", desc := "(I)Z" } : Jvm.MethodName)) ∈ am_W := am_kg 3 136 rfl rfl
theorem am_k724 : (Jvm.Cond.code ({ cls := "BudgetJury$Parish", name := "hasRoom", desc := "(I)Z" } : Jvm.MethodName) prog_5_method_25_code (3 : Nat) (Option.some Jvm.ClassFile.FieldType.boolean)) ∈ am_W := am_kg 3 137 rfl rfl
theorem am_k725 : (Jvm.Cond.methodLink "BudgetJury$Parish" (77 : Nat) ({ cls := "BudgetJury$Parish", name := "isOpen", desc := "(I)Z" } : Jvm.MethodName)) ∈ am_W := am_kg 3 138 rfl rfl
theorem am_k726 : (Jvm.Cond.instanceMethod ({ cls := "BudgetJury$Parish", name := "isOpen", desc := "(I)Z" } : Jvm.MethodName)) ∈ am_W := am_kg 3 139 rfl rfl
theorem am_k727 : (Jvm.Cond.selects "BudgetJury$Parish" ({ cls := "BudgetJury$Parish", name := "isOpen", desc := "(I)Z" } : Jvm.MethodName) ({ cls := "BudgetJury$Parish", name := "isOpen", desc := "(I)Z" } : Jvm.MethodName)) ∈ am_W := am_kg 3 140 rfl rfl
theorem am_k728 : (Jvm.Cond.code ({ cls := "BudgetJury$Parish", name := "isOpen", desc := "(I)Z" } : Jvm.MethodName) prog_5_method_13_code (2 : Nat) (Option.some Jvm.ClassFile.FieldType.boolean)) ∈ am_W := am_kg 3 141 rfl rfl
theorem am_k729 : (Jvm.Cond.methodLink "BudgetJury$Parish" (140 : Nat) ({ cls := "BudgetJury$Parish", name := "shareOf", desc := "(I)I" } : Jvm.MethodName)) ∈ am_W := am_kg 3 142 rfl rfl
theorem am_k730 : (Jvm.Cond.instanceMethod ({ cls := "BudgetJury$Parish", name := "shareOf", desc := "(I)I" } : Jvm.MethodName)) ∈ am_W := am_kg 3 143 rfl rfl
theorem am_k731 : (Jvm.Cond.selects "BudgetJury$Parish" ({ cls := "BudgetJury$Parish", name := "shareOf", desc := "(I)I" } : Jvm.MethodName) ({ cls := "BudgetJury$Parish", name := "shareOf", desc := "(I)I" } : Jvm.MethodName)) ∈ am_W := am_kg 3 144 rfl rfl
theorem am_k732 : (Jvm.Cond.code ({ cls := "BudgetJury$Parish", name := "shareOf", desc := "(I)I" } : Jvm.MethodName) prog_5_method_17_code (7 : Nat) (Option.some Jvm.ClassFile.FieldType.int)) ∈ am_W := am_kg 3 145 rfl rfl
theorem am_k733 : (Jvm.Cond.methodLink "BudgetJury$Parish" (97 : Nat) ({ cls := "BudgetJury$Parish", name := "coinsOfFans", desc := "(I)I" } : Jvm.MethodName)) ∈ am_W := am_kg 3 146 rfl rfl
theorem am_k735 : (Jvm.Cond.instanceMethod ({ cls := "BudgetJury$Parish", name := "coinsOfFans", desc := "(I)I" } : Jvm.MethodName)) ∈ am_W := am_kg 3 148 rfl rfl
theorem am_k736 : (Jvm.Cond.code ({ cls := "BudgetJury$Parish", name := "coinsOfFans", desc := "(I)I" } : Jvm.MethodName) prog_5_method_16_code (4 : Nat) (Option.some Jvm.ClassFile.FieldType.int)) ∈ am_W := am_kg 3 149 rfl rfl
theorem am_k737 : (Jvm.Cond.methodLink "BudgetJury$Parish" (106 : Nat) ({ cls := "BudgetJury$Parish", name := "isFan", desc := "(II)Z" } : Jvm.MethodName)) ∈ am_W := am_kg 3 150 rfl rfl
theorem am_k738 : (Jvm.Cond.instanceMethod ({ cls := "BudgetJury$Parish", name := "isFan", desc := "(II)Z" } : Jvm.MethodName)) ∈ am_W := am_kg 3 151 rfl rfl
theorem am_k739 : (Jvm.Cond.selects "BudgetJury$Parish" ({ cls := "BudgetJury$Parish", name := "isFan", desc := "(II)Z" } : Jvm.MethodName) ({ cls := "BudgetJury$Parish", name := "isFan", desc := "(II)Z" } : Jvm.MethodName)) ∈ am_W := am_kg 3 152 rfl rfl
theorem am_k740 : (Jvm.Cond.code ({ cls := "BudgetJury$Parish", name := "isFan", desc := "(II)Z" } : Jvm.MethodName) prog_5_method_14_code (3 : Nat) (Option.some Jvm.ClassFile.FieldType.boolean)) ∈ am_W := am_kg 3 153 rfl rfl
theorem am_k741 : (Jvm.Cond.methodLink "BudgetJury$Parish" (90 : Nat) ({ cls := "BudgetJury$Parish", name := "fanCount", desc := "(I)I" } : Jvm.MethodName)) ∈ am_W := am_kg 3 154 rfl rfl
theorem am_k743 : (Jvm.Cond.instanceMethod ({ cls := "BudgetJury$Parish", name := "fanCount", desc := "(I)I" } : Jvm.MethodName)) ∈ am_W := am_kg 3 156 rfl rfl
theorem am_k744 : (Jvm.Cond.code ({ cls := "BudgetJury$Parish", name := "fanCount", desc := "(I)I" } : Jvm.MethodName) prog_5_method_15_code (2 : Nat) (Option.some Jvm.ClassFile.FieldType.int)) ∈ am_W := am_kg 3 157 rfl rfl
theorem am_k745 : (Jvm.Cond.methodLink "BudgetJury$Parish" (110 : Nat) ({ cls := "java/lang/Integer", name := "bitCount", desc := "(I)I" } : Jvm.MethodName)) ∈ am_W := am_kg 3 158 rfl rfl
theorem am_k746 : (Jvm.Cond.static ({ cls := "java/lang/Integer", name := "bitCount", desc := "(I)I" } : Jvm.MethodName)) ∈ am_W := am_kg 3 159 rfl rfl
theorem am_k747 : (Jvm.Cond.code ({ cls := "java/lang/Integer", name := "bitCount", desc := "(I)I" } : Jvm.MethodName) prog_19_method_49_code (1 : Nat) (Option.some Jvm.ClassFile.FieldType.int)) ∈ am_W := am_kg 3 160 rfl rfl
theorem am_k748 : (Jvm.Cond.constant "java/lang/Integer" (265 : Nat) (1431655765 : Int32)) ∈ am_W := am_kg 3 161 rfl rfl
theorem am_k749 : (Jvm.Cond.constant "java/lang/Integer" (266 : Nat) (858993459 : Int32)) ∈ am_W := am_kg 3 162 rfl rfl
theorem am_k750 : (Jvm.Cond.constant "java/lang/Integer" (267 : Nat) (252645135 : Int32)) ∈ am_W := am_kg 3 163 rfl rfl
theorem am_k751 : (Jvm.Cond.methodLink "BudgetJury$Parish" (94 : Nat) ({ cls := "BudgetJury$Parish", name := "isBanned", desc := "(I)Z" } : Jvm.MethodName)) ∈ am_W := am_kg 3 164 rfl rfl
theorem am_k753 : (Jvm.Cond.instanceMethod ({ cls := "BudgetJury$Parish", name := "isBanned", desc := "(I)Z" } : Jvm.MethodName)) ∈ am_W := am_kg 3 166 rfl rfl
theorem am_k754 : (Jvm.Cond.code ({ cls := "BudgetJury$Parish", name := "isBanned", desc := "(I)Z" } : Jvm.MethodName) prog_5_method_32_code (3 : Nat) (Option.some Jvm.ClassFile.FieldType.boolean)) ∈ am_W := am_kg 3 167 rfl rfl
theorem am_k755 : (Jvm.Cond.methodLink "BudgetJury$Parish" (168 : Nat) ({ cls := "BudgetJury$Parish", name := "holds", desc := "(I)Z" } : Jvm.MethodName)) ∈ am_W := am_kg 3 168 rfl rfl
theorem am_k757 : (Jvm.Cond.instanceMethod ({ cls := "BudgetJury$Parish", name := "holds", desc := "(I)Z" } : Jvm.MethodName)) ∈ am_W := am_kg 3 170 rfl rfl
theorem am_k758 : (Jvm.Cond.code ({ cls := "BudgetJury$Parish", name := "holds", desc := "(I)Z" } : Jvm.MethodName) prog_5_method_33_code (6 : Nat) (Option.some Jvm.ClassFile.FieldType.boolean)) ∈ am_W := am_kg 3 171 rfl rfl
theorem am_k759 : (Jvm.Cond.methodLink "BudgetJury$Parish" (182 : Nat) ({ cls := "BudgetJury$Parish", name := "pop", desc := "()I" } : Jvm.MethodName)) ∈ am_W := am_kg 3 172 rfl rfl
theorem am_k761 : (Jvm.Cond.instanceMethod ({ cls := "BudgetJury$Parish", name := "pop", desc := "()I" } : Jvm.MethodName)) ∈ am_W := am_kg 3 174 rfl rfl
theorem am_k762 : (Jvm.Cond.code ({ cls := "BudgetJury$Parish", name := "pop", desc := "()I" } : Jvm.MethodName) prog_5_method_35_code (1 : Nat) (Option.some Jvm.ClassFile.FieldType.int)) ∈ am_W := am_kg 3 175 rfl rfl
theorem am_k763 : (Jvm.Cond.methodLink "BudgetJury$Parish" (185 : Nat) ({ cls := "BudgetJury$Parish", name := "push", desc := "(I)V" } : Jvm.MethodName)) ∈ am_W := am_kg 3 176 rfl rfl
theorem am_k765 : (Jvm.Cond.instanceMethod ({ cls := "BudgetJury$Parish", name := "push", desc := "(I)V" } : Jvm.MethodName)) ∈ am_W := am_kg 3 178 rfl rfl
theorem am_k766 : (Jvm.Cond.code ({ cls := "BudgetJury$Parish", name := "push", desc := "(I)V" } : Jvm.MethodName) prog_5_method_34_code (2 : Nat) (Option.none : Option Jvm.ClassFile.FieldType)) ∈ am_W := am_kg 3 179 rfl rfl
theorem am_k767 : (Jvm.Cond.methodLink "BudgetJury$Parish" (191 : Nat) ({ cls := "BudgetJury$Parish", name := "single", desc := "(II)I" } : Jvm.MethodName)) ∈ am_W := am_kg 3 180 rfl rfl
theorem am_k769 : (Jvm.Cond.instanceMethod ({ cls := "BudgetJury$Parish", name := "single", desc := "(II)I" } : Jvm.MethodName)) ∈ am_W := am_kg 3 182 rfl rfl
theorem am_k770 : (Jvm.Cond.code ({ cls := "BudgetJury$Parish", name := "single", desc := "(II)I" } : Jvm.MethodName) prog_5_method_36_code (3 : Nat) (Option.some Jvm.ClassFile.FieldType.int)) ∈ am_W := am_kg 3 183 rfl rfl
theorem am_k771 : (Jvm.Cond.methodLink "BudgetJury$Parish" (201 : Nat) ({ cls := "BudgetJury$Plan", name := "hasProject", desc := "(I)Z" } : Jvm.MethodName)) ∈ am_W := am_kg 3 184 rfl rfl
theorem am_k772 : (Jvm.Cond.methodLink "BudgetJury$Parish" (204 : Nat) ({ cls := "BudgetJury$Plan", name := "hasVoter", desc := "(I)Z" } : Jvm.MethodName)) ∈ am_W := am_kg 3 185 rfl rfl
theorem am_k773 : (Jvm.Cond.methodLink "BudgetJury$Parish" (103 : Nat) ({ cls := "BudgetJury$Parish", name := "pleasedOf", desc := "(I)I" } : Jvm.MethodName)) ∈ am_W := am_kg 3 186 rfl rfl
theorem am_k774 : (Jvm.Cond.instanceMethod ({ cls := "BudgetJury$Parish", name := "pleasedOf", desc := "(I)I" } : Jvm.MethodName)) ∈ am_W := am_kg 3 187 rfl rfl
theorem am_k775 : (Jvm.Cond.selects "BudgetJury$Parish" ({ cls := "BudgetJury$Parish", name := "pleasedOf", desc := "(I)I" } : Jvm.MethodName) ({ cls := "BudgetJury$Parish", name := "pleasedOf", desc := "(I)I" } : Jvm.MethodName)) ∈ am_W := am_kg 3 188 rfl rfl
theorem am_k776 : (Jvm.Cond.code ({ cls := "BudgetJury$Parish", name := "pleasedOf", desc := "(I)I" } : Jvm.MethodName) prog_5_method_12_code (4 : Nat) (Option.some Jvm.ClassFile.FieldType.int)) ∈ am_W := am_kg 3 189 rfl rfl
theorem am_k777 : (Jvm.Cond.methodLink "BudgetJury$Parish" (194 : Nat) ({ cls := "BudgetJury$Parish", name := "reckon", desc := "(III)I" } : Jvm.MethodName)) ∈ am_W := am_kg 3 190 rfl rfl
theorem am_k779 : (Jvm.Cond.instanceMethod ({ cls := "BudgetJury$Parish", name := "reckon", desc := "(III)I" } : Jvm.MethodName)) ∈ am_W := am_kg 3 192 rfl rfl
theorem am_k780 : (Jvm.Cond.code ({ cls := "BudgetJury$Parish", name := "reckon", desc := "(III)I" } : Jvm.MethodName) prog_5_method_37_code (4 : Nat) (Option.some Jvm.ClassFile.FieldType.int)) ∈ am_W := am_kg 3 193 rfl rfl
theorem am_k781 : (Jvm.Cond.methodLink "BudgetJury$Parish" (207 : Nat) ({ cls := "java/lang/Math", name := "max", desc := "(II)I" } : Jvm.MethodName)) ∈ am_W := am_kg 3 194 rfl rfl
theorem am_k782 : (Jvm.Cond.methodLink "BudgetJury$Parish" (198 : Nat) ({ cls := "BudgetJury$Parish", name := "compare", desc := "(III)I" } : Jvm.MethodName)) ∈ am_W := am_kg 3 195 rfl rfl
theorem am_k783 : (Jvm.Cond.static ({ cls := "BudgetJury$Parish", name := "compare", desc := "(III)I" } : Jvm.MethodName)) ∈ am_W := am_kg 3 196 rfl rfl
theorem am_k784 : (Jvm.Cond.code ({ cls := "BudgetJury$Parish", name := "compare", desc := "(III)I" } : Jvm.MethodName) prog_5_method_38_code (4 : Nat) (Option.some Jvm.ClassFile.FieldType.int)) ∈ am_W := am_kg 3 197 rfl rfl
theorem am_k785 : (Jvm.Cond.methodLink "BudgetJuryLaw" (154 : Nat) ({ cls := "BudgetJury", name := "mean", desc := "()D" } : Jvm.MethodName)) ∈ am_W := am_kg 3 198 rfl rfl
theorem am_k786 : (Jvm.Cond.instanceMethod ({ cls := "BudgetJury", name := "mean", desc := "()D" } : Jvm.MethodName)) ∈ am_W := am_kg 3 199 rfl rfl
theorem am_k787 : (Jvm.Cond.selects "BudgetJury" ({ cls := "BudgetJury", name := "mean", desc := "()D" } : Jvm.MethodName) ({ cls := "BudgetJury", name := "mean", desc := "()D" } : Jvm.MethodName)) ∈ am_W := am_kg 3 200 rfl rfl
theorem am_k788 : (Jvm.Cond.code ({ cls := "BudgetJury", name := "mean", desc := "()D" } : Jvm.MethodName) prog_1_method_25_code (3 : Nat) (Option.some Jvm.ClassFile.FieldType.double)) ∈ am_W := am_kg 3 201 rfl rfl
theorem am_k789 : (Jvm.Cond.methodLink "BudgetJury" (175 : Nat) ({ cls := "BudgetJury$Parish", name := "pleasedOf", desc := "(I)I" } : Jvm.MethodName)) ∈ am_W := am_kg 3 202 rfl rfl
theorem am_k790 : (Jvm.Cond.methodLink "BudgetJuryLaw" (159 : Nat) ({ cls := "BudgetJury", name := "digest", desc := "()J" } : Jvm.MethodName)) ∈ am_W := am_kg 3 203 rfl rfl
theorem am_k791 : (Jvm.Cond.instanceMethod ({ cls := "BudgetJury", name := "digest", desc := "()J" } : Jvm.MethodName)) ∈ am_W := am_kg 3 204 rfl rfl
theorem am_k792 : (Jvm.Cond.selects "BudgetJury" ({ cls := "BudgetJury", name := "digest", desc := "()J" } : Jvm.MethodName) ({ cls := "BudgetJury", name := "digest", desc := "()J" } : Jvm.MethodName)) ∈ am_W := am_kg 3 205 rfl rfl
theorem am_k793 : (Jvm.Cond.code ({ cls := "BudgetJury", name := "digest", desc := "()J" } : Jvm.MethodName) prog_1_method_26_code (5 : Nat) (Option.some Jvm.ClassFile.FieldType.long)) ∈ am_W := am_kg 3 206 rfl rfl
theorem am_k794 : (Jvm.Cond.constantLong "BudgetJury" (231 : Nat) (881 : Int64)) ∈ am_W := am_kg 3 207 rfl rfl
theorem am_k795 : (Jvm.Cond.constantLong "BudgetJury" (233 : Nat) (31 : Int64)) ∈ am_W := am_kg 3 208 rfl rfl
theorem am_k796 : (Jvm.Cond.methodLink "BudgetJury" (112 : Nat) ({ cls := "BudgetJury", name := "countOf", desc := "(I)I" } : Jvm.MethodName)) ∈ am_W := am_kg 3 209 rfl rfl
theorem am_k798 : (Jvm.Cond.instanceMethod ({ cls := "BudgetJury", name := "countOf", desc := "(I)I" } : Jvm.MethodName)) ∈ am_W := am_kg 3 211 rfl rfl
theorem am_k799 : (Jvm.Cond.code ({ cls := "BudgetJury", name := "countOf", desc := "(I)I" } : Jvm.MethodName) prog_1_method_8_code (2 : Nat) (Option.some Jvm.ClassFile.FieldType.int)) ∈ am_W := am_kg 3 212 rfl rfl
theorem am_k800 : (Jvm.Cond.methodLink "BudgetJury" (133 : Nat) ({ cls := "BudgetJury$Parish", name := "total", desc := "(I)I" } : Jvm.MethodName)) ∈ am_W := am_kg 3 213 rfl rfl
theorem am_k801 : (Jvm.Cond.instanceMethod ({ cls := "BudgetJury$Parish", name := "total", desc := "(I)I" } : Jvm.MethodName)) ∈ am_W := am_kg 3 214 rfl rfl
theorem am_k802 : (Jvm.Cond.selects "BudgetJury$Parish" ({ cls := "BudgetJury$Parish", name := "total", desc := "(I)I" } : Jvm.MethodName) ({ cls := "BudgetJury$Parish", name := "total", desc := "(I)I" } : Jvm.MethodName)) ∈ am_W := am_kg 3 215 rfl rfl
theorem am_k803 : (Jvm.Cond.code ({ cls := "BudgetJury$Parish", name := "total", desc := "(I)I" } : Jvm.MethodName) prog_5_method_4_code (2 : Nat) (Option.some Jvm.ClassFile.FieldType.int)) ∈ am_W := am_kg 3 216 rfl rfl
theorem am_k804 : (Jvm.Cond.methodLink "BudgetJury$Parish" (61 : Nat) ({ cls := "BudgetJury$Parish", name := "purses", desc := "()I" } : Jvm.MethodName)) ∈ am_W := am_kg 3 217 rfl rfl
theorem am_k806 : (Jvm.Cond.instanceMethod ({ cls := "BudgetJury$Parish", name := "purses", desc := "()I" } : Jvm.MethodName)) ∈ am_W := am_kg 3 219 rfl rfl
theorem am_k807 : (Jvm.Cond.code ({ cls := "BudgetJury$Parish", name := "purses", desc := "()I" } : Jvm.MethodName) prog_5_method_5_code (3 : Nat) (Option.some Jvm.ClassFile.FieldType.int)) ∈ am_W := am_kg 3 220 rfl rfl
theorem am_k808 : (Jvm.Cond.methodLink "BudgetJury$Parish" (65 : Nat) ({ cls := "BudgetJury$Parish", name := "builtCount", desc := "()I" } : Jvm.MethodName)) ∈ am_W := am_kg 3 221 rfl rfl
theorem am_k809 : (Jvm.Cond.instanceMethod ({ cls := "BudgetJury$Parish", name := "builtCount", desc := "()I" } : Jvm.MethodName)) ∈ am_W := am_kg 3 222 rfl rfl
theorem am_k810 : (Jvm.Cond.selects "BudgetJury$Parish" ({ cls := "BudgetJury$Parish", name := "builtCount", desc := "()I" } : Jvm.MethodName) ({ cls := "BudgetJury$Parish", name := "builtCount", desc := "()I" } : Jvm.MethodName)) ∈ am_W := am_kg 3 223 rfl rfl
theorem am_k811 : (Jvm.Cond.code ({ cls := "BudgetJury$Parish", name := "builtCount", desc := "()I" } : Jvm.MethodName) prog_5_method_6_code (3 : Nat) (Option.some Jvm.ClassFile.FieldType.int)) ∈ am_W := am_kg 3 224 rfl rfl
theorem am_k812 : (Jvm.Cond.methodLink "BudgetJury$Parish" (68 : Nat) ({ cls := "BudgetJury$Parish", name := "boughtCount", desc := "()I" } : Jvm.MethodName)) ∈ am_W := am_kg 3 225 rfl rfl
theorem am_k814 : (Jvm.Cond.instanceMethod ({ cls := "BudgetJury$Parish", name := "boughtCount", desc := "()I" } : Jvm.MethodName)) ∈ am_W := am_kg 3 227 rfl rfl
theorem am_k815 : (Jvm.Cond.code ({ cls := "BudgetJury$Parish", name := "boughtCount", desc := "()I" } : Jvm.MethodName) prog_5_method_7_code (3 : Nat) (Option.some Jvm.ClassFile.FieldType.int)) ∈ am_W := am_kg 3 228 rfl rfl
theorem am_k816 : (Jvm.Cond.methodLink "BudgetJury" (144 : Nat) ({ cls := "BudgetJury$Parish", name := "ofWard", desc := "(II)I" } : Jvm.MethodName)) ∈ am_W := am_kg 3 229 rfl rfl
theorem am_k817 : (Jvm.Cond.instanceMethod ({ cls := "BudgetJury$Parish", name := "ofWard", desc := "(II)I" } : Jvm.MethodName)) ∈ am_W := am_kg 3 230 rfl rfl
theorem am_k818 : (Jvm.Cond.selects "BudgetJury$Parish" ({ cls := "BudgetJury$Parish", name := "ofWard", desc := "(II)I" } : Jvm.MethodName) ({ cls := "BudgetJury$Parish", name := "ofWard", desc := "(II)I" } : Jvm.MethodName)) ∈ am_W := am_kg 3 231 rfl rfl
theorem am_k819 : (Jvm.Cond.code ({ cls := "BudgetJury$Parish", name := "ofWard", desc := "(II)I" } : Jvm.MethodName) prog_5_method_8_code (5 : Nat) (Option.some Jvm.ClassFile.FieldType.int)) ∈ am_W := am_kg 3 232 rfl rfl
theorem am_k820 : (Jvm.Cond.methodLink "BudgetJury" (155 : Nat) ({ cls := "BudgetJury$Parish", name := "ofProject", desc := "(II)I" } : Jvm.MethodName)) ∈ am_W := am_kg 3 233 rfl rfl
theorem am_k821 : (Jvm.Cond.instanceMethod ({ cls := "BudgetJury$Parish", name := "ofProject", desc := "(II)I" } : Jvm.MethodName)) ∈ am_W := am_kg 3 234 rfl rfl
theorem am_k822 : (Jvm.Cond.selects "BudgetJury$Parish" ({ cls := "BudgetJury$Parish", name := "ofProject", desc := "(II)I" } : Jvm.MethodName) ({ cls := "BudgetJury$Parish", name := "ofProject", desc := "(II)I" } : Jvm.MethodName)) ∈ am_W := am_kg 3 235 rfl rfl
theorem am_k823 : (Jvm.Cond.code ({ cls := "BudgetJury$Parish", name := "ofProject", desc := "(II)I" } : Jvm.MethodName) prog_5_method_9_code (3 : Nat) (Option.some Jvm.ClassFile.FieldType.int)) ∈ am_W := am_kg 3 236 rfl rfl
theorem am_k824 : (Jvm.Cond.methodLink "BudgetJury" (158 : Nat) ({ cls := "BudgetJury$Parish", name := "shareOf", desc := "(I)I" } : Jvm.MethodName)) ∈ am_W := am_kg 3 237 rfl rfl
theorem am_k825 : (Jvm.Cond.methodLink "BudgetJury" (166 : Nat) ({ cls := "BudgetJury$Parish", name := "ofVoter", desc := "(II)I" } : Jvm.MethodName)) ∈ am_W := am_kg 3 238 rfl rfl
theorem am_k826 : (Jvm.Cond.instanceMethod ({ cls := "BudgetJury$Parish", name := "ofVoter", desc := "(II)I" } : Jvm.MethodName)) ∈ am_W := am_kg 3 239 rfl rfl
theorem am_k827 : (Jvm.Cond.selects "BudgetJury$Parish" ({ cls := "BudgetJury$Parish", name := "ofVoter", desc := "(II)I" } : Jvm.MethodName) ({ cls := "BudgetJury$Parish", name := "ofVoter", desc := "(II)I" } : Jvm.MethodName)) ∈ am_W := am_kg 4 0 rfl rfl
theorem am_k828 : (Jvm.Cond.code ({ cls := "BudgetJury$Parish", name := "ofVoter", desc := "(II)I" } : Jvm.MethodName) prog_5_method_10_code (3 : Nat) (Option.some Jvm.ClassFile.FieldType.int)) ∈ am_W := am_kg 4 1 rfl rfl
theorem am_k829 : (Jvm.Cond.methodLink "BudgetJury$Parish" (100 : Nat) ({ cls := "BudgetJury$Parish", name := "likedCount", desc := "(I)I" } : Jvm.MethodName)) ∈ am_W := am_kg 4 2 rfl rfl
theorem am_k831 : (Jvm.Cond.instanceMethod ({ cls := "BudgetJury$Parish", name := "likedCount", desc := "(I)I" } : Jvm.MethodName)) ∈ am_W := am_kg 4 4 rfl rfl
theorem am_k832 : (Jvm.Cond.code ({ cls := "BudgetJury$Parish", name := "likedCount", desc := "(I)I" } : Jvm.MethodName) prog_5_method_11_code (4 : Nat) (Option.some Jvm.ClassFile.FieldType.int)) ∈ am_W := am_kg 4 5 rfl rfl
theorem am_k833 : (Jvm.Cond.methodLink "BudgetJury" (235 : Nat) ({ cls := "BudgetJury", name := "next", desc := "()I" } : Jvm.MethodName)) ∈ am_W := am_kg 4 6 rfl rfl
theorem am_k834 : (Jvm.Cond.methodLink "BudgetJuryLaw" (78 : Nat) ({ cls := "BudgetJuryLaw", name := "feed", desc := "(LBudgetJury;IIIII[J)I" } : Jvm.MethodName)) ∈ am_W := am_kg 4 7 rfl rfl
theorem am_k835 : (Jvm.Cond.static ({ cls := "BudgetJuryLaw", name := "feed", desc := "(LBudgetJury;IIIII[J)I" } : Jvm.MethodName)) ∈ am_W := am_kg 4 8 rfl rfl
theorem am_k836 : (Jvm.Cond.codeWith ({ cls := "BudgetJuryLaw", name := "feed", desc := "(LBudgetJury;IIIII[J)I" } : Jvm.MethodName) method_3_code (8 : Nat) (Option.some Jvm.ClassFile.FieldType.int) [((0 : Nat), (16 : Nat), (19 : Nat), (13 : Nat))]) ∈ am_W := am_kg 4 9 rfl rfl
theorem am_k837 : (Jvm.Cond.classLink "BudgetJuryLaw" (13 : Nat) "java/lang/IllegalStateException") ∈ am_W := am_kg 4 10 rfl rfl
theorem am_k838 : (Jvm.Cond.methodLink "BudgetJuryLaw" (7 : Nat) ({ cls := "BudgetJury", name := "feed", desc := "(IIIII)I" } : Jvm.MethodName)) ∈ am_W := am_kg 4 11 rfl rfl
theorem am_k839 : (Jvm.Cond.instanceMethod ({ cls := "BudgetJury", name := "feed", desc := "(IIIII)I" } : Jvm.MethodName)) ∈ am_W := am_kg 4 12 rfl rfl
theorem am_k840 : (Jvm.Cond.selects "BudgetJury" ({ cls := "BudgetJury", name := "feed", desc := "(IIIII)I" } : Jvm.MethodName) ({ cls := "BudgetJury", name := "feed", desc := "(IIIII)I" } : Jvm.MethodName)) ∈ am_W := am_kg 4 13 rfl rfl
theorem am_k841 : (Jvm.Cond.code ({ cls := "BudgetJury", name := "feed", desc := "(IIIII)I" } : Jvm.MethodName) prog_1_method_2_code (6 : Nat) (Option.some Jvm.ClassFile.FieldType.int)) ∈ am_W := am_kg 4 14 rfl rfl
