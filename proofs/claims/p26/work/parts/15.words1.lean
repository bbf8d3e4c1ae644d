theorem am_k326 : (Jvm.Cond.methodLink "BudgetJury$Parish" (3 : Nat) ({ cls := "java/lang/Object", name := "<init>", desc := "()V" } : Jvm.MethodName)) ∈ am_W := am_kg 2 32 rfl rfl
theorem am_k327 : (Jvm.Cond.fieldLink "BudgetJury$Parish" (58 : Nat) "BudgetJury$Parish" "year" "I") ∈ am_W := am_kg 2 33 rfl rfl
theorem am_k328 : (Jvm.Cond.fieldLink "BudgetJury" (115 : Nat) "BudgetJury$Parish" "year" "I") ∈ am_W := am_kg 2 34 rfl rfl
theorem am_k329 : (Jvm.Cond.fieldLink "BudgetJury$Parish" (49 : Nat) "BudgetJury$Parish" "budget" "I") ∈ am_W := am_kg 2 35 rfl rfl
theorem am_k330 : (Jvm.Cond.fieldLink "BudgetJury" (130 : Nat) "BudgetJury$Parish" "budget" "I") ∈ am_W := am_kg 2 36 rfl rfl
theorem am_k331 : (Jvm.Cond.fieldLink "BudgetJury$Parish" (9 : Nat) "BudgetJury$Parish" "leftOut" "I") ∈ am_W := am_kg 2 37 rfl rfl
theorem am_k332 : (Jvm.Cond.fieldLink "BudgetJury" (228 : Nat) "BudgetJury$Parish" "leftOut" "I") ∈ am_W := am_kg 2 38 rfl rfl
theorem am_k333 : (Jvm.Cond.fieldLink "BudgetJury$Parish" (15 : Nat) "BudgetJury$Parish" "purse" "[I") ∈ am_W := am_kg 2 39 rfl rfl
theorem am_k334 : (Jvm.Cond.fieldLink "BudgetJury" (199 : Nat) "BudgetJury$Parish" "purse" "[I") ∈ am_W := am_kg 2 40 rfl rfl
theorem am_k335 : (Jvm.Cond.fieldLink "BudgetJury$Parish" (19 : Nat) "BudgetJury$Parish" "builtIn" "[I") ∈ am_W := am_kg 2 41 rfl rfl
theorem am_k336 : (Jvm.Cond.fieldLink "BudgetJury" (210 : Nat) "BudgetJury$Parish" "builtIn" "[I") ∈ am_W := am_kg 2 42 rfl rfl
theorem am_k337 : (Jvm.Cond.fieldLink "BudgetJury$Parish" (40 : Nat) "BudgetJury$Parish" "plan" "LBudgetJury$Plan;") ∈ am_W := am_kg 2 43 rfl rfl
theorem am_k338 : (Jvm.Cond.fieldLink "BudgetJury$Parish" (50 : Nat) "BudgetJury$Parish" "pot" "I") ∈ am_W := am_kg 2 44 rfl rfl
theorem am_k339 : (Jvm.Cond.fieldLink "BudgetJury$Parish" (53 : Nat) "BudgetJury$Parish" "paidInAll" "I") ∈ am_W := am_kg 2 45 rfl rfl
theorem am_k340 : (Jvm.Cond.fieldLink "BudgetJury$Parish" (22 : Nat) "BudgetJury$Parish" "paid" "[I") ∈ am_W := am_kg 2 46 rfl rfl
theorem am_k341 : (Jvm.Cond.fieldLink "BudgetJury$Parish" (25 : Nat) "BudgetJury$Parish" "cost" "[I") ∈ am_W := am_kg 2 47 rfl rfl
theorem am_k342 : (Jvm.Cond.fieldLink "BudgetJury$Parish" (28 : Nat) "BudgetJury$Parish" "fans" "[I") ∈ am_W := am_kg 2 48 rfl rfl
theorem am_k343 : (Jvm.Cond.fieldLink "BudgetJury$Parish" (31 : Nat) "BudgetJury$Parish" "bought" "[I") ∈ am_W := am_kg 2 49 rfl rfl
theorem am_k344 : (Jvm.Cond.fieldLink "BudgetJury$Parish" (34 : Nat) "BudgetJury$Parish" "builtThisYear" "[I") ∈ am_W := am_kg 2 50 rfl rfl
theorem am_k345 : (Jvm.Cond.fieldLink "BudgetJury$Parish" (37 : Nat) "BudgetJury$Parish" "stack" "[I") ∈ am_W := am_kg 2 51 rfl rfl
theorem am_k346 : (Jvm.Cond.fieldLink "BudgetJury$Parish" (171 : Nat) "BudgetJury$Parish" "stackSize" "I") ∈ am_W := am_kg 2 52 rfl rfl
theorem am_k347 : (Jvm.Cond.lays "BudgetJury$Parish" "BudgetJury$Parish" "year" "I") ∈ am_W := am_kg 2 53 rfl rfl
theorem am_k349 : (Jvm.Cond.lays "BudgetJury$Parish" "BudgetJury$Parish" "budget" "I") ∈ am_W := am_kg 2 55 rfl rfl
theorem am_k351 : (Jvm.Cond.lays "BudgetJury$Parish" "BudgetJury$Parish" "leftOut" "I") ∈ am_W := am_kg 2 57 rfl rfl
theorem am_k353 : (Jvm.Cond.laysFinal "BudgetJury$Parish" "BudgetJury$Parish" "purse" "[I") ∈ am_W := am_kg 2 59 rfl rfl
theorem am_k355 : (Jvm.Cond.laysFinal "BudgetJury$Parish" "BudgetJury$Parish" "builtIn" "[I") ∈ am_W := am_kg 2 61 rfl rfl
theorem am_k357 : (Jvm.Cond.lays "BudgetJury$Parish" "BudgetJury$Parish" "plan" "LBudgetJury$Plan;") ∈ am_W := am_kg 2 63 rfl rfl
theorem am_k359 : (Jvm.Cond.lays "BudgetJury$Parish" "BudgetJury$Parish" "pot" "I") ∈ am_W := am_kg 2 65 rfl rfl
theorem am_k361 : (Jvm.Cond.lays "BudgetJury$Parish" "BudgetJury$Parish" "paidInAll" "I") ∈ am_W := am_kg 2 67 rfl rfl
theorem am_k363 : (Jvm.Cond.laysFinal "BudgetJury$Parish" "BudgetJury$Parish" "paid" "[I") ∈ am_W := am_kg 2 69 rfl rfl
theorem am_k365 : (Jvm.Cond.laysFinal "BudgetJury$Parish" "BudgetJury$Parish" "cost" "[I") ∈ am_W := am_kg 2 71 rfl rfl
theorem am_k367 : (Jvm.Cond.laysFinal "BudgetJury$Parish" "BudgetJury$Parish" "fans" "[I") ∈ am_W := am_kg 2 73 rfl rfl
theorem am_k369 : (Jvm.Cond.laysFinal "BudgetJury$Parish" "BudgetJury$Parish" "bought" "[I") ∈ am_W := am_kg 2 75 rfl rfl
theorem am_k371 : (Jvm.Cond.laysFinal "BudgetJury$Parish" "BudgetJury$Parish" "builtThisYear" "[I") ∈ am_W := am_kg 2 77 rfl rfl
theorem am_k373 : (Jvm.Cond.laysFinal "BudgetJury$Parish" "BudgetJury$Parish" "stack" "[I") ∈ am_W := am_kg 2 79 rfl rfl
theorem am_k375 : (Jvm.Cond.lays "BudgetJury$Parish" "BudgetJury$Parish" "stackSize" "I") ∈ am_W := am_kg 2 81 rfl rfl
theorem am_k378 : (Jvm.Cond.fieldLink "BudgetJury" (9 : Nat) "BudgetJury" "tape" "[B") ∈ am_W := am_kg 2 84 rfl rfl
theorem am_k379 : (Jvm.Cond.fieldLink "BudgetJury" (66 : Nat) "BudgetJury" "tapeLength" "I") ∈ am_W := am_kg 2 85 rfl rfl
theorem am_k380 : (Jvm.Cond.fieldLink "BudgetJury" (13 : Nat) "BudgetJury" "errorPosition" "I") ∈ am_W := am_kg 2 86 rfl rfl
theorem am_k381 : (Jvm.Cond.fieldLink "BudgetJury" (20 : Nat) "BudgetJury" "plan" "LBudgetJury$Plan;") ∈ am_W := am_kg 2 87 rfl rfl
theorem am_k382 : (Jvm.Cond.fieldLink "BudgetJury" (24 : Nat) "BudgetJury" "draft" "LBudgetJury$Plan;") ∈ am_W := am_kg 2 88 rfl rfl
theorem am_k383 : (Jvm.Cond.fieldLink "BudgetJury" (32 : Nat) "BudgetJury" "tokens" "LBudgetJury$Tokens;") ∈ am_W := am_kg 2 89 rfl rfl
theorem am_k384 : (Jvm.Cond.fieldLink "BudgetJury" (41 : Nat) "BudgetJury" "grammar" "LBudgetJury$Grammar;") ∈ am_W := am_kg 2 90 rfl rfl
theorem am_k385 : (Jvm.Cond.fieldLink "BudgetJury" (50 : Nat) "BudgetJury" "checker" "LBudgetJury$Checker;") ∈ am_W := am_kg 2 91 rfl rfl
theorem am_k386 : (Jvm.Cond.fieldLink "BudgetJury" (59 : Nat) "BudgetJury" "now" "LBudgetJury$Parish;") ∈ am_W := am_kg 2 92 rfl rfl
theorem am_k387 : (Jvm.Cond.fieldLink "BudgetJury" (63 : Nat) "BudgetJury" "trial" "LBudgetJury$Parish;") ∈ am_W := am_kg 2 93 rfl rfl
theorem am_k388 : (Jvm.Cond.laysFinal "BudgetJury" "BudgetJury" "tape" "[B") ∈ am_W := am_kg 2 94 rfl rfl
theorem am_k390 : (Jvm.Cond.lays "BudgetJury" "BudgetJury" "tapeLength" "I") ∈ am_W := am_kg 2 96 rfl rfl
theorem am_k392 : (Jvm.Cond.lays "BudgetJury" "BudgetJury" "errorPosition" "I") ∈ am_W := am_kg 2 98 rfl rfl
theorem am_k394 : (Jvm.Cond.lays "BudgetJury" "BudgetJury" "plan" "LBudgetJury$Plan;") ∈ am_W := am_kg 2 100 rfl rfl
theorem am_k396 : (Jvm.Cond.lays "BudgetJury" "BudgetJury" "draft" "LBudgetJury$Plan;") ∈ am_W := am_kg 2 102 rfl rfl
theorem am_k398 : (Jvm.Cond.laysFinal "BudgetJury" "BudgetJury" "tokens" "LBudgetJury$Tokens;") ∈ am_W := am_kg 2 104 rfl rfl
theorem am_k400 : (Jvm.Cond.laysFinal "BudgetJury" "BudgetJury" "grammar" "LBudgetJury$Grammar;") ∈ am_W := am_kg 2 106 rfl rfl
theorem am_k402 : (Jvm.Cond.laysFinal "BudgetJury" "BudgetJury" "checker" "LBudgetJury$Checker;") ∈ am_W := am_kg 2 108 rfl rfl
theorem am_k404 : (Jvm.Cond.laysFinal "BudgetJury" "BudgetJury" "now" "LBudgetJury$Parish;") ∈ am_W := am_kg 2 110 rfl rfl
theorem am_k406 : (Jvm.Cond.laysFinal "BudgetJury" "BudgetJury" "trial" "LBudgetJury$Parish;") ∈ am_W := am_kg 2 112 rfl rfl
theorem am_k409 : (Jvm.Cond.methodLink "BudgetJuryLaw" (185 : Nat) ({ cls := "BudgetJury", name := "count", desc := "(I)I" } : Jvm.MethodName)) ∈ am_W := am_kg 2 115 rfl rfl
theorem am_k410 : (Jvm.Cond.instanceMethod ({ cls := "BudgetJury", name := "count", desc := "(I)I" } : Jvm.MethodName)) ∈ am_W := am_kg 2 116 rfl rfl
theorem am_k411 : (Jvm.Cond.selects "BudgetJury" ({ cls := "BudgetJury", name := "count", desc := "(I)I" } : Jvm.MethodName) ({ cls := "BudgetJury", name := "count", desc := "(I)I" } : Jvm.MethodName)) ∈ am_W := am_kg 2 117 rfl rfl
theorem am_k412 : (Jvm.Cond.code ({ cls := "BudgetJury", name := "count", desc := "(I)I" } : Jvm.MethodName) prog_1_method_7_code (2 : Nat) (Option.some Jvm.ClassFile.FieldType.int)) ∈ am_W := am_kg 2 118 rfl rfl
theorem am_k413 : (Jvm.Cond.classLink "BudgetJury" (107 : Nat) "java/lang/IndexOutOfBoundsException") ∈ am_W := am_kg 2 119 rfl rfl
theorem am_k480 : (Jvm.Cond.methodLink "BudgetJury" (112 : Nat) ({ cls := "BudgetJury", name := "countOf", desc := "(I)I" } : Jvm.MethodName)) ∈ am_W := am_kg 2 186 rfl rfl
theorem am_k482 : (Jvm.Cond.instanceMethod ({ cls := "BudgetJury", name := "countOf", desc := "(I)I" } : Jvm.MethodName)) ∈ am_W := am_kg 2 188 rfl rfl
theorem am_k483 : (Jvm.Cond.code ({ cls := "BudgetJury", name := "countOf", desc := "(I)I" } : Jvm.MethodName) prog_1_method_8_code (2 : Nat) (Option.some Jvm.ClassFile.FieldType.int)) ∈ am_W := am_kg 2 189 rfl rfl
theorem am_k484 : (Jvm.Cond.methodLink "BudgetJury" (133 : Nat) ({ cls := "BudgetJury$Parish", name := "total", desc := "(I)I" } : Jvm.MethodName)) ∈ am_W := am_kg 2 190 rfl rfl
theorem am_k485 : (Jvm.Cond.instanceMethod ({ cls := "BudgetJury$Parish", name := "total", desc := "(I)I" } : Jvm.MethodName)) ∈ am_W := am_kg 2 191 rfl rfl
theorem am_k486 : (Jvm.Cond.selects "BudgetJury$Parish" ({ cls := "BudgetJury$Parish", name := "total", desc := "(I)I" } : Jvm.MethodName) ({ cls := "BudgetJury$Parish", name := "total", desc := "(I)I" } : Jvm.MethodName)) ∈ am_W := am_kg 2 192 rfl rfl
theorem am_k487 : (Jvm.Cond.code ({ cls := "BudgetJury$Parish", name := "total", desc := "(I)I" } : Jvm.MethodName) prog_5_method_4_code (2 : Nat) (Option.some Jvm.ClassFile.FieldType.int)) ∈ am_W := am_kg 2 193 rfl rfl
theorem am_k488 : (Jvm.Cond.methodLink "BudgetJury$Parish" (61 : Nat) ({ cls := "BudgetJury$Parish", name := "purses", desc := "()I" } : Jvm.MethodName)) ∈ am_W := am_kg 2 194 rfl rfl
theorem am_k490 : (Jvm.Cond.instanceMethod ({ cls := "BudgetJury$Parish", name := "purses", desc := "()I" } : Jvm.MethodName)) ∈ am_W := am_kg 2 196 rfl rfl
theorem am_k491 : (Jvm.Cond.code ({ cls := "BudgetJury$Parish", name := "purses", desc := "()I" } : Jvm.MethodName) prog_5_method_5_code (3 : Nat) (Option.some Jvm.ClassFile.FieldType.int)) ∈ am_W := am_kg 2 197 rfl rfl
theorem am_k492 : (Jvm.Cond.methodLink "BudgetJury$Parish" (65 : Nat) ({ cls := "BudgetJury$Parish", name := "builtCount", desc := "()I" } : Jvm.MethodName)) ∈ am_W := am_kg 2 198 rfl rfl
theorem am_k493 : (Jvm.Cond.instanceMethod ({ cls := "BudgetJury$Parish", name := "builtCount", desc := "()I" } : Jvm.MethodName)) ∈ am_W := am_kg 2 199 rfl rfl
theorem am_k494 : (Jvm.Cond.selects "BudgetJury$Parish" ({ cls := "BudgetJury$Parish", name := "builtCount", desc := "()I" } : Jvm.MethodName) ({ cls := "BudgetJury$Parish", name := "builtCount", desc := "()I" } : Jvm.MethodName)) ∈ am_W := am_kg 2 200 rfl rfl
theorem am_k495 : (Jvm.Cond.code ({ cls := "BudgetJury$Parish", name := "builtCount", desc := "()I" } : Jvm.MethodName) prog_5_method_6_code (3 : Nat) (Option.some Jvm.ClassFile.FieldType.int)) ∈ am_W := am_kg 2 201 rfl rfl
theorem am_k496 : (Jvm.Cond.methodLink "BudgetJury$Parish" (77 : Nat) ({ cls := "BudgetJury$Parish", name := "isOpen", desc := "(I)Z" } : Jvm.MethodName)) ∈ am_W := am_kg 2 202 rfl rfl
theorem am_k497 : (Jvm.Cond.instanceMethod ({ cls := "BudgetJury$Parish", name := "isOpen", desc := "(I)Z" } : Jvm.MethodName)) ∈ am_W := am_kg 2 203 rfl rfl
theorem am_k498 : (Jvm.Cond.selects "BudgetJury$Parish" ({ cls := "BudgetJury$Parish", name := "isOpen", desc := "(I)Z" } : Jvm.MethodName) ({ cls := "BudgetJury$Parish", name := "isOpen", desc := "(I)Z" } : Jvm.MethodName)) ∈ am_W := am_kg 2 204 rfl rfl
theorem am_k499 : (Jvm.Cond.code ({ cls := "BudgetJury$Parish", name := "isOpen", desc := "(I)Z" } : Jvm.MethodName) prog_5_method_13_code (2 : Nat) (Option.some Jvm.ClassFile.FieldType.boolean)) ∈ am_W := am_kg 2 205 rfl rfl
theorem am_k500 : (Jvm.Cond.methodLink "BudgetJury$Parish" (68 : Nat) ({ cls := "BudgetJury$Parish", name := "boughtCount", desc := "()I" } : Jvm.MethodName)) ∈ am_W := am_kg 2 206 rfl rfl
theorem am_k502 : (Jvm.Cond.instanceMethod ({ cls := "BudgetJury$Parish", name := "boughtCount", desc := "()I" } : Jvm.MethodName)) ∈ am_W := am_kg 2 208 rfl rfl
theorem am_k503 : (Jvm.Cond.code ({ cls := "BudgetJury$Parish", name := "boughtCount", desc := "()I" } : Jvm.MethodName) prog_5_method_7_code (3 : Nat) (Option.some Jvm.ClassFile.FieldType.int)) ∈ am_W := am_kg 2 209 rfl rfl
theorem am_k504 : (Jvm.Cond.methodLink "BudgetJuryLaw" (241 : Nat) ({ cls := "BudgetJury", name := "ward", desc := "(II)I" } : Jvm.MethodName)) ∈ am_W := am_kg 2 210 rfl rfl
theorem am_k505 : (Jvm.Cond.instanceMethod ({ cls := "BudgetJury", name := "ward", desc := "(II)I" } : Jvm.MethodName)) ∈ am_W := am_kg 2 211 rfl rfl
theorem am_k506 : (Jvm.Cond.selects "BudgetJury" ({ cls := "BudgetJury", name := "ward", desc := "(II)I" } : Jvm.MethodName) ({ cls := "BudgetJury", name := "ward", desc := "(II)I" } : Jvm.MethodName)) ∈ am_W := am_kg 2 212 rfl rfl
theorem am_k507 : (Jvm.Cond.code ({ cls := "BudgetJury", name := "ward", desc := "(II)I" } : Jvm.MethodName) prog_1_method_9_code (3 : Nat) (Option.some Jvm.ClassFile.FieldType.int)) ∈ am_W := am_kg 2 213 rfl rfl
theorem am_k508 : (Jvm.Cond.methodLink "BudgetJury" (136 : Nat) ({ cls := "BudgetJury$Plan", name := "hasWard", desc := "(I)Z" } : Jvm.MethodName)) ∈ am_W := am_kg 2 214 rfl rfl
theorem am_k509 : (Jvm.Cond.instanceMethod ({ cls := "BudgetJury$Plan", name := "hasWard", desc := "(I)Z" } : Jvm.MethodName)) ∈ am_W := am_kg 2 215 rfl rfl
theorem am_k510 : (Jvm.Cond.selects "BudgetJury$Plan" ({ cls := "BudgetJury$Plan", name := "hasWard", desc := "(I)Z" } : Jvm.MethodName) ({ cls := "BudgetJury$Plan", name := "hasWard", desc := "(I)Z" } : Jvm.MethodName)) ∈ am_W := am_kg 2 216 rfl rfl
theorem am_k511 : (Jvm.Cond.code ({ cls := "BudgetJury$Plan", name := "hasWard", desc := "(I)Z" } : Jvm.MethodName) prog_6_method_3_code (2 : Nat) (Option.some Jvm.ClassFile.FieldType.boolean)) ∈ am_W := am_kg 2 217 rfl rfl
theorem am_k514 : (Jvm.Cond.methodLink "BudgetJury" (144 : Nat) ({ cls := "BudgetJury$Parish", name := "ofWard", desc := "(II)I" } : Jvm.MethodName)) ∈ am_W := am_kg 2 220 rfl rfl
theorem am_k515 : (Jvm.Cond.instanceMethod ({ cls := "BudgetJury$Parish", name := "ofWard", desc := "(II)I" } : Jvm.MethodName)) ∈ am_W := am_kg 2 221 rfl rfl
theorem am_k516 : (Jvm.Cond.selects "BudgetJury$Parish" ({ cls := "BudgetJury$Parish", name := "ofWard", desc := "(II)I" } : Jvm.MethodName) ({ cls := "BudgetJury$Parish", name := "ofWard", desc := "(II)I" } : Jvm.MethodName)) ∈ am_W := am_kg 2 222 rfl rfl
theorem am_k517 : (Jvm.Cond.code ({ cls := "BudgetJury$Parish", name := "ofWard", desc := "(II)I" } : Jvm.MethodName) prog_5_method_8_code (5 : Nat) (Option.some Jvm.ClassFile.FieldType.int)) ∈ am_W := am_kg 2 223 rfl rfl
theorem am_k518 : (Jvm.Cond.methodLink "BudgetJuryLaw" (192 : Nat) ({ cls := "BudgetJury", name := "project", desc := "(II)I" } : Jvm.MethodName)) ∈ am_W := am_kg 2 224 rfl rfl
theorem am_k519 : (Jvm.Cond.instanceMethod ({ cls := "BudgetJury", name := "project", desc := "(II)I" } : Jvm.MethodName)) ∈ am_W := am_kg 2 225 rfl rfl
theorem am_k520 : (Jvm.Cond.selects "BudgetJury" ({ cls := "BudgetJury", name := "project", desc := "(II)I" } : Jvm.MethodName) ({ cls := "BudgetJury", name := "project", desc := "(II)I" } : Jvm.MethodName)) ∈ am_W := am_kg 2 226 rfl rfl
theorem am_k521 : (Jvm.Cond.code ({ cls := "BudgetJury", name := "project", desc := "(II)I" } : Jvm.MethodName) prog_1_method_10_code (3 : Nat) (Option.some Jvm.ClassFile.FieldType.int)) ∈ am_W := am_kg 2 227 rfl rfl
theorem am_k522 : (Jvm.Cond.methodLink "BudgetJury" (148 : Nat) ({ cls := "BudgetJury$Plan", name := "hasProject", desc := "(I)Z" } : Jvm.MethodName)) ∈ am_W := am_kg 2 228 rfl rfl
theorem am_k523 : (Jvm.Cond.instanceMethod ({ cls := "BudgetJury$Plan", name := "hasProject", desc := "(I)Z" } : Jvm.MethodName)) ∈ am_W := am_kg 2 229 rfl rfl
theorem am_k524 : (Jvm.Cond.selects "BudgetJury$Plan" ({ cls := "BudgetJury$Plan", name := "hasProject", desc := "(I)Z" } : Jvm.MethodName) ({ cls := "BudgetJury$Plan", name := "hasProject", desc := "(I)Z" } : Jvm.MethodName)) ∈ am_W := am_kg 2 230 rfl rfl
theorem am_k525 : (Jvm.Cond.code ({ cls := "BudgetJury$Plan", name := "hasProject", desc := "(I)Z" } : Jvm.MethodName) prog_6_method_4_code (2 : Nat) (Option.some Jvm.ClassFile.FieldType.boolean)) ∈ am_W := am_kg 2 231 rfl rfl
theorem am_k528 : (Jvm.Cond.methodLink "BudgetJury" (155 : Nat) ({ cls := "BudgetJury$Parish", name := "ofProject", desc := "(II)I" } : Jvm.MethodName)) ∈ am_W := am_kg 2 234 rfl rfl
theorem am_k529 : (Jvm.Cond.instanceMethod ({ cls := "BudgetJury$Parish", name := "ofProject", desc := "(II)I" } : Jvm.MethodName)) ∈ am_W := am_kg 2 235 rfl rfl
theorem am_k530 : (Jvm.Cond.selects "BudgetJury$Parish" ({ cls := "BudgetJury$Parish", name := "ofProject", desc := "(II)I" } : Jvm.MethodName) ({ cls := "BudgetJury$Parish", name := "ofProject", desc := "(II)I" } : Jvm.MethodName)) ∈ am_W := am_kg 2 236 rfl rfl
theorem am_k531 : (Jvm.Cond.code ({ cls := "BudgetJury$Parish", name := "ofProject", desc := "(II)I" } : Jvm.MethodName) prog_5_method_9_code (3 : Nat) (Option.some Jvm.ClassFile.FieldType.int)) ∈ am_W := am_kg 2 237 rfl rfl
theorem am_k532 : (Jvm.Cond.methodLink "BudgetJury$Parish" (90 : Nat) ({ cls := "BudgetJury$Parish", name := "fanCount", desc := "(I)I" } : Jvm.MethodName)) ∈ am_W := am_kg 2 238 rfl rfl
theorem am_k534 : (Jvm.Cond.instanceMethod ({ cls := "BudgetJury$Parish", name := "fanCount", desc := "(I)I" } : Jvm.MethodName)) ∈ am_W := am_kg 3 0 rfl rfl
theorem am_k535 : (Jvm.Cond.code ({ cls := "BudgetJury$Parish", name := "fanCount", desc := "(I)I" } : Jvm.MethodName) prog_5_method_15_code (2 : Nat) (Option.some Jvm.ClassFile.FieldType.int)) ∈ am_W := am_kg 3 1 rfl rfl
theorem am_k536 : (Jvm.Cond.methodLink "BudgetJury$Parish" (110 : Nat) ({ cls := "java/lang/Integer", name := "bitCount", desc := "(I)I" } : Jvm.MethodName)) ∈ am_W := am_kg 3 2 rfl rfl
theorem am_k537 : (Jvm.Cond.static ({ cls := "java/lang/Integer", name := "bitCount", desc := "(I)I" } : Jvm.MethodName)) ∈ am_W := am_kg 3 3 rfl rfl
theorem am_k538 : (Jvm.Cond.code ({ cls := "java/lang/Integer", name := "bitCount", desc := "(I)I" } : Jvm.MethodName) prog_23_method_49_code (1 : Nat) (Option.some Jvm.ClassFile.FieldType.int)) ∈ am_W := am_kg 3 4 rfl rfl
theorem am_k539 : (Jvm.Cond.constant "java/lang/Integer" (265 : Nat) (1431655765 : Int32)) ∈ am_W := am_kg 3 5 rfl rfl
theorem am_k540 : (Jvm.Cond.constant "java/lang/Integer" (266 : Nat) (858993459 : Int32)) ∈ am_W := am_kg 3 6 rfl rfl
theorem am_k541 : (Jvm.Cond.constant "java/lang/Integer" (267 : Nat) (252645135 : Int32)) ∈ am_W := am_kg 3 7 rfl rfl
theorem am_k542 : (Jvm.Cond.methodLink "BudgetJury$Parish" (94 : Nat) ({ cls := "BudgetJury$Parish", name := "isBanned", desc := "(I)Z" } : Jvm.MethodName)) ∈ am_W := am_kg 3 8 rfl rfl
theorem am_k544 : (Jvm.Cond.instanceMethod ({ cls := "BudgetJury$Parish", name := "isBanned", desc := "(I)Z" } : Jvm.MethodName)) ∈ am_W := am_kg 3 10 rfl rfl
theorem am_k545 : (Jvm.Cond.code ({ cls := "BudgetJury$Parish", name := "isBanned", desc := "(I)Z" } : Jvm.MethodName) prog_5_method_32_code (3 : Nat) (Option.some Jvm.ClassFile.FieldType.boolean)) ∈ am_W := am_kg 3 11 rfl rfl
theorem am_k546 : (Jvm.Cond.methodLink "BudgetJury$Parish" (168 : Nat) ({ cls := "BudgetJury$Parish", name := "holds", desc := "(I)Z" } : Jvm.MethodName)) ∈ am_W := am_kg 3 12 rfl rfl
theorem am_k548 : (Jvm.Cond.instanceMethod ({ cls := "BudgetJury$Parish", name := "holds", desc := "(I)Z" } : Jvm.MethodName)) ∈ am_W := am_kg 3 14 rfl rfl
theorem am_k549 : (Jvm.Cond.code ({ cls := "BudgetJury$Parish", name := "holds", desc := "(I)Z" } : Jvm.MethodName) prog_5_method_33_code (6 : Nat) (Option.some Jvm.ClassFile.FieldType.boolean)) ∈ am_W := am_kg 3 15 rfl rfl
theorem am_k550 : (Jvm.Cond.methodLink "BudgetJury$Parish" (182 : Nat) ({ cls := "BudgetJury$Parish", name := "pop", desc := "()I" } : Jvm.MethodName)) ∈ am_W := am_kg 3 16 rfl rfl
theorem am_k552 : (Jvm.Cond.instanceMethod ({ cls := "BudgetJury$Parish", name := "pop", desc := "()I" } : Jvm.MethodName)) ∈ am_W := am_kg 3 18 rfl rfl
theorem am_k553 : (Jvm.Cond.code ({ cls := "BudgetJury$Parish", name := "pop", desc := "()I" } : Jvm.MethodName) prog_5_method_35_code (1 : Nat) (Option.some Jvm.ClassFile.FieldType.int)) ∈ am_W := am_kg 3 19 rfl rfl
theorem am_k554 : (Jvm.Cond.methodLink "BudgetJury$Parish" (185 : Nat) ({ cls := "BudgetJury$Parish", name := "push", desc := "(I)V" } : Jvm.MethodName)) ∈ am_W := am_kg 3 20 rfl rfl
theorem am_k556 : (Jvm.Cond.instanceMethod ({ cls := "BudgetJury$Parish", name := "push", desc := "(I)V" } : Jvm.MethodName)) ∈ am_W := am_kg 3 22 rfl rfl
theorem am_k557 : (Jvm.Cond.code ({ cls := "BudgetJury$Parish", name := "push", desc := "(I)V" } : Jvm.MethodName) prog_5_method_34_code (2 : Nat) (Option.none : Option Jvm.ClassFile.FieldType)) ∈ am_W := am_kg 3 23 rfl rfl
theorem am_k558 : (Jvm.Cond.methodLink "BudgetJury$Parish" (191 : Nat) ({ cls := "BudgetJury$Parish", name := "single", desc := "(II)I" } : Jvm.MethodName)) ∈ am_W := am_kg 3 24 rfl rfl
theorem am_k560 : (Jvm.Cond.instanceMethod ({ cls := "BudgetJury$Parish", name := "single", desc := "(II)I" } : Jvm.MethodName)) ∈ am_W := am_kg 3 26 rfl rfl
theorem am_k561 : (Jvm.Cond.code ({ cls := "BudgetJury$Parish", name := "single", desc := "(II)I" } : Jvm.MethodName) prog_5_method_36_code (3 : Nat) (Option.some Jvm.ClassFile.FieldType.int)) ∈ am_W := am_kg 3 27 rfl rfl
theorem am_k562 : (Jvm.Cond.methodLink "BudgetJury$Parish" (201 : Nat) ({ cls := "BudgetJury$Plan", name := "hasProject", desc := "(I)Z" } : Jvm.MethodName)) ∈ am_W := am_kg 3 28 rfl rfl
theorem am_k563 : (Jvm.Cond.methodLink "BudgetJury$Parish" (204 : Nat) ({ cls := "BudgetJury$Plan", name := "hasVoter", desc := "(I)Z" } : Jvm.MethodName)) ∈ am_W := am_kg 3 29 rfl rfl
theorem am_k564 : (Jvm.Cond.instanceMethod ({ cls := "BudgetJury$Plan", name := "hasVoter", desc := "(I)Z" } : Jvm.MethodName)) ∈ am_W := am_kg 3 30 rfl rfl
theorem am_k565 : (Jvm.Cond.selects "BudgetJury$Plan" ({ cls := "BudgetJury$Plan", name := "hasVoter", desc := "(I)Z" } : Jvm.MethodName) ({ cls := "BudgetJury$Plan", name := "hasVoter", desc := "(I)Z" } : Jvm.MethodName)) ∈ am_W := am_kg 3 31 rfl rfl
theorem am_k566 : (Jvm.Cond.code ({ cls := "BudgetJury$Plan", name := "hasVoter", desc := "(I)Z" } : Jvm.MethodName) prog_6_method_5_code (2 : Nat) (Option.some Jvm.ClassFile.FieldType.boolean)) ∈ am_W := am_kg 3 32 rfl rfl
theorem am_k567 : (Jvm.Cond.methodLink "BudgetJury$Parish" (103 : Nat) ({ cls := "BudgetJury$Parish", name := "pleasedOf", desc := "(I)I" } : Jvm.MethodName)) ∈ am_W := am_kg 3 33 rfl rfl
theorem am_k568 : (Jvm.Cond.instanceMethod ({ cls := "BudgetJury$Parish", name := "pleasedOf", desc := "(I)I" } : Jvm.MethodName)) ∈ am_W := am_kg 3 34 rfl rfl
theorem am_k569 : (Jvm.Cond.selects "BudgetJury$Parish" ({ cls := "BudgetJury$Parish", name := "pleasedOf", desc := "(I)I" } : Jvm.MethodName) ({ cls := "BudgetJury$Parish", name := "pleasedOf", desc := "(I)I" } : Jvm.MethodName)) ∈ am_W := am_kg 3 35 rfl rfl
theorem am_k570 : (Jvm.Cond.code ({ cls := "BudgetJury$Parish", name := "pleasedOf", desc := "(I)I" } : Jvm.MethodName) prog_5_method_12_code (4 : Nat) (Option.some Jvm.ClassFile.FieldType.int)) ∈ am_W := am_kg 3 36 rfl rfl
theorem am_k571 : (Jvm.Cond.methodLink "BudgetJury$Parish" (194 : Nat) ({ cls := "BudgetJury$Parish", name := "reckon", desc := "(III)I" } : Jvm.MethodName)) ∈ am_W := am_kg 3 37 rfl rfl
theorem am_k573 : (Jvm.Cond.instanceMethod ({ cls := "BudgetJury$Parish", name := "reckon", desc := "(III)I" } : Jvm.MethodName)) ∈ am_W := am_kg 3 39 rfl rfl
theorem am_k574 : (Jvm.Cond.code ({ cls := "BudgetJury$Parish", name := "reckon", desc := "(III)I" } : Jvm.MethodName) prog_5_method_37_code (4 : Nat) (Option.some Jvm.ClassFile.FieldType.int)) ∈ am_W := am_kg 3 40 rfl rfl
theorem am_k575 : (Jvm.Cond.methodLink "BudgetJury$Parish" (106 : Nat) ({ cls := "BudgetJury$Parish", name := "isFan", desc := "(II)Z" } : Jvm.MethodName)) ∈ am_W := am_kg 3 41 rfl rfl
theorem am_k576 : (Jvm.Cond.instanceMethod ({ cls := "BudgetJury$Parish", name := "isFan", desc := "(II)Z" } : Jvm.MethodName)) ∈ am_W := am_kg 3 42 rfl rfl
theorem am_k577 : (Jvm.Cond.selects "BudgetJury$Parish" ({ cls := "BudgetJury$Parish", name := "isFan", desc := "(II)Z" } : Jvm.MethodName) ({ cls := "BudgetJury$Parish", name := "isFan", desc := "(II)Z" } : Jvm.MethodName)) ∈ am_W := am_kg 3 43 rfl rfl
theorem am_k578 : (Jvm.Cond.code ({ cls := "BudgetJury$Parish", name := "isFan", desc := "(II)Z" } : Jvm.MethodName) prog_5_method_14_code (3 : Nat) (Option.some Jvm.ClassFile.FieldType.boolean)) ∈ am_W := am_kg 3 44 rfl rfl
theorem am_k579 : (Jvm.Cond.methodLink "BudgetJury$Parish" (115 : Nat) ({ cls := "java/lang/Math", name := "min", desc := "(II)I" } : Jvm.MethodName)) ∈ am_W := am_kg 3 45 rfl rfl
theorem am_k580 : (Jvm.Cond.static ({ cls := "java/lang/Math", name := "min", desc := "(II)I" } : Jvm.MethodName)) ∈ am_W := am_kg 3 46 rfl rfl
theorem am_k581 : (Jvm.Cond.code ({ cls := "java/lang/Math", name := "min", desc := "(II)I" } : Jvm.MethodName) prog_24_method_69_code (2 : Nat) (Option.some Jvm.ClassFile.FieldType.int)) ∈ am_W := am_kg 3 47 rfl rfl
theorem am_k582 : (Jvm.Cond.methodLink "BudgetJury$Parish" (207 : Nat) ({ cls := "java/lang/Math", name := "max", desc := "(II)I" } : Jvm.MethodName)) ∈ am_W := am_kg 3 48 rfl rfl
theorem am_k583 : (Jvm.Cond.static ({ cls := "java/lang/Math", name := "max", desc := "(II)I" } : Jvm.MethodName)) ∈ am_W := am_kg 3 49 rfl rfl
theorem am_k584 : (Jvm.Cond.code ({ cls := "java/lang/Math", name := "max", desc := "(II)I" } : Jvm.MethodName) prog_24_method_65_code (2 : Nat) (Option.some Jvm.ClassFile.FieldType.int)) ∈ am_W := am_kg 3 50 rfl rfl
theorem am_k585 : (Jvm.Cond.methodLink "BudgetJury$Parish" (198 : Nat) ({ cls := "BudgetJury$Parish", name := "compare", desc := "(III)I" } : Jvm.MethodName)) ∈ am_W := am_kg 3 51 rfl rfl
theorem am_k586 : (Jvm.Cond.static ({ cls := "BudgetJury$Parish", name := "compare", desc := "(III)I" } : Jvm.MethodName)) ∈ am_W := am_kg 3 52 rfl rfl
theorem am_k587 : (Jvm.Cond.code ({ cls := "BudgetJury$Parish", name := "compare", desc := "(III)I" } : Jvm.MethodName) prog_5_method_38_code (4 : Nat) (Option.some Jvm.ClassFile.FieldType.int)) ∈ am_W := am_kg 3 53 rfl rfl
theorem am_k588 : (Jvm.Cond.methodLink "BudgetJury$Parish" (97 : Nat) ({ cls := "BudgetJury$Parish", name := "coinsOfFans", desc := "(I)I" } : Jvm.MethodName)) ∈ am_W := am_kg 3 54 rfl rfl
theorem am_k590 : (Jvm.Cond.instanceMethod ({ cls := "BudgetJury$Parish", name := "coinsOfFans", desc := "(I)I" } : Jvm.MethodName)) ∈ am_W := am_kg 3 56 rfl rfl
theorem am_k591 : (Jvm.Cond.code ({ cls := "BudgetJury$Parish", name := "coinsOfFans", desc := "(I)I" } : Jvm.MethodName) prog_5_method_16_code (4 : Nat) (Option.some Jvm.ClassFile.FieldType.int)) ∈ am_W := am_kg 3 57 rfl rfl
theorem am_k592 : (Jvm.Cond.methodLink "BudgetJuryLaw" (201 : Nat) ({ cls := "BudgetJury", name := "share", desc := "(I)I" } : Jvm.MethodName)) ∈ am_W := am_kg 3 58 rfl rfl
theorem am_k593 : (Jvm.Cond.instanceMethod ({ cls := "BudgetJury", name := "share", desc := "(I)I" } : Jvm.MethodName)) ∈ am_W := am_kg 3 59 rfl rfl
theorem am_k594 : (Jvm.Cond.selects "BudgetJury" ({ cls := "BudgetJury", name := "share", desc := "(I)I" } : Jvm.MethodName) ({ cls := "BudgetJury", name := "share", desc := "(I)I" } : Jvm.MethodName)) ∈ am_W := am_kg 3 60 rfl rfl
theorem am_k595 : (Jvm.Cond.code ({ cls := "BudgetJury", name := "share", desc := "(I)I" } : Jvm.MethodName) prog_1_method_11_code (2 : Nat) (Option.some Jvm.ClassFile.FieldType.int)) ∈ am_W := am_kg 3 61 rfl rfl
theorem am_k596 : (Jvm.Cond.methodLink "BudgetJury" (158 : Nat) ({ cls := "BudgetJury$Parish", name := "shareOf", desc := "(I)I" } : Jvm.MethodName)) ∈ am_W := am_kg 3 62 rfl rfl
theorem am_k597 : (Jvm.Cond.instanceMethod ({ cls := "BudgetJury$Parish", name := "shareOf", desc := "(I)I" } : Jvm.MethodName)) ∈ am_W := am_kg 3 63 rfl rfl
theorem am_k598 : (Jvm.Cond.selects "BudgetJury$Parish" ({ cls := "BudgetJury$Parish", name := "shareOf", desc := "(I)I" } : Jvm.MethodName) ({ cls := "BudgetJury$Parish", name := "shareOf", desc := "(I)I" } : Jvm.MethodName)) ∈ am_W := am_kg 3 64 rfl rfl
theorem am_k599 : (Jvm.Cond.code ({ cls := "BudgetJury$Parish", name := "shareOf", desc := "(I)I" } : Jvm.MethodName) prog_5_method_17_code (7 : Nat) (Option.some Jvm.ClassFile.FieldType.int)) ∈ am_W := am_kg 3 65 rfl rfl
theorem am_k600 : (Jvm.Cond.methodLink "BudgetJuryLaw" (198 : Nat) ({ cls := "BudgetJury", name := "voter", desc := "(II)I" } : Jvm.MethodName)) ∈ am_W := am_kg 3 66 rfl rfl
theorem am_k601 : (Jvm.Cond.instanceMethod ({ cls := "BudgetJury", name := "voter", desc := "(II)I" } : Jvm.MethodName)) ∈ am_W := am_kg 3 67 rfl rfl
theorem am_k602 : (Jvm.Cond.selects "BudgetJury" ({ cls := "BudgetJury", name := "voter", desc := "(II)I" } : Jvm.MethodName) ({ cls := "BudgetJury", name := "voter", desc := "(II)I" } : Jvm.MethodName)) ∈ am_W := am_kg 3 68 rfl rfl
theorem am_k603 : (Jvm.Cond.code ({ cls := "BudgetJury", name := "voter", desc := "(II)I" } : Jvm.MethodName) prog_1_method_12_code (3 : Nat) (Option.some Jvm.ClassFile.FieldType.int)) ∈ am_W := am_kg 3 69 rfl rfl
theorem am_k604 : (Jvm.Cond.methodLink "BudgetJury" (161 : Nat) ({ cls := "BudgetJury$Plan", name := "hasVoter", desc := "(I)Z" } : Jvm.MethodName)) ∈ am_W := am_kg 3 70 rfl rfl
theorem am_k606 : (Jvm.Cond.methodLink "BudgetJury" (166 : Nat) ({ cls := "BudgetJury$Parish", name := "ofVoter", desc := "(II)I" } : Jvm.MethodName)) ∈ am_W := am_kg 3 72 rfl rfl
theorem am_k607 : (Jvm.Cond.instanceMethod ({ cls := "BudgetJury$Parish", name := "ofVoter", desc := "(II)I" } : Jvm.MethodName)) ∈ am_W := am_kg 3 73 rfl rfl
theorem am_k608 : (Jvm.Cond.selects "BudgetJury$Parish" ({ cls := "BudgetJury$Parish", name := "ofVoter", desc := "(II)I" } : Jvm.MethodName) ({ cls := "BudgetJury$Parish", name := "ofVoter", desc := "(II)I" } : Jvm.MethodName)) ∈ am_W := am_kg 3 74 rfl rfl
theorem am_k609 : (Jvm.Cond.code ({ cls := "BudgetJury$Parish", name := "ofVoter", desc := "(II)I" } : Jvm.MethodName) prog_5_method_10_code (3 : Nat) (Option.some Jvm.ClassFile.FieldType.int)) ∈ am_W := am_kg 3 75 rfl rfl
theorem am_k610 : (Jvm.Cond.methodLink "BudgetJury$Parish" (100 : Nat) ({ cls := "BudgetJury$Parish", name := "likedCount", desc := "(I)I" } : Jvm.MethodName)) ∈ am_W := am_kg 3 76 rfl rfl
theorem am_k612 : (Jvm.Cond.instanceMethod ({ cls := "BudgetJury$Parish", name := "likedCount", desc := "(I)I" } : Jvm.MethodName)) ∈ am_W := am_kg 3 78 rfl rfl
theorem am_k613 : (Jvm.Cond.code ({ cls := "BudgetJury$Parish", name := "likedCount", desc := "(I)I" } : Jvm.MethodName) prog_5_method_11_code (4 : Nat) (Option.some Jvm.ClassFile.FieldType.int)) ∈ am_W := am_kg 3 79 rfl rfl
theorem am_k614 : (Jvm.Cond.methodLink "BudgetJuryLaw" (195 : Nat) ({ cls := "BudgetJury", name := "likes", desc := "(II)Z" } : Jvm.MethodName)) ∈ am_W := am_kg 3 80 rfl rfl
theorem am_k615 : (Jvm.Cond.instanceMethod ({ cls := "BudgetJury", name := "likes", desc := "(II)Z" } : Jvm.MethodName)) ∈ am_W := am_kg 3 81 rfl rfl
theorem am_k616 : (Jvm.Cond.selects "BudgetJury" ({ cls := "BudgetJury", name := "likes", desc := "(II)Z" } : Jvm.MethodName) ({ cls := "BudgetJury", name := "likes", desc := "(II)Z" } : Jvm.MethodName)) ∈ am_W := am_kg 3 82 rfl rfl
theorem am_k617 : (Jvm.Cond.code ({ cls := "BudgetJury", name := "likes", desc := "(II)Z" } : Jvm.MethodName) prog_1_method_13_code (3 : Nat) (Option.some Jvm.ClassFile.FieldType.boolean)) ∈ am_W := am_kg 3 83 rfl rfl
theorem am_k619 : (Jvm.Cond.methodLink "BudgetJury" (171 : Nat) ({ cls := "BudgetJury$Parish", name := "isFan", desc := "(II)Z" } : Jvm.MethodName)) ∈ am_W := am_kg 3 85 rfl rfl
theorem am_k620 : (Jvm.Cond.methodLink "BudgetJuryLaw" (204 : Nat) ({ cls := "BudgetJury", name := "envy", desc := "(II)I" } : Jvm.MethodName)) ∈ am_W := am_kg 3 86 rfl rfl
theorem am_k621 : (Jvm.Cond.instanceMethod ({ cls := "BudgetJury", name := "envy", desc := "(II)I" } : Jvm.MethodName)) ∈ am_W := am_kg 3 87 rfl rfl
theorem am_k622 : (Jvm.Cond.selects "BudgetJury" ({ cls := "BudgetJury", name := "envy", desc := "(II)I" } : Jvm.MethodName) ({ cls := "BudgetJury", name := "envy", desc := "(II)I" } : Jvm.MethodName)) ∈ am_W := am_kg 3 88 rfl rfl
theorem am_k623 : (Jvm.Cond.code ({ cls := "BudgetJury", name := "envy", desc := "(II)I" } : Jvm.MethodName) prog_1_method_14_code (3 : Nat) (Option.some Jvm.ClassFile.FieldType.int)) ∈ am_W := am_kg 3 89 rfl rfl
theorem am_k624 : (Jvm.Cond.methodLink "BudgetJury" (175 : Nat) ({ cls := "BudgetJury$Parish", name := "pleasedOf", desc := "(I)I" } : Jvm.MethodName)) ∈ am_W := am_kg 3 90 rfl rfl
theorem am_k625 : (Jvm.Cond.methodLink "BudgetJuryLaw" (217 : Nat) ({ cls := "BudgetJury", name := "next", desc := "()I" } : Jvm.MethodName)) ∈ am_W := am_kg 3 91 rfl rfl
theorem am_k626 : (Jvm.Cond.instanceMethod ({ cls := "BudgetJury", name := "next", desc := "()I" } : Jvm.MethodName)) ∈ am_W := am_kg 3 92 rfl rfl
theorem am_k627 : (Jvm.Cond.selects "BudgetJury" ({ cls := "BudgetJury", name := "next", desc := "()I" } : Jvm.MethodName) ({ cls := "BudgetJury", name := "next", desc := "()I" } : Jvm.MethodName)) ∈ am_W := am_kg 3 93 rfl rfl
theorem am_k628 : (Jvm.Cond.code ({ cls := "BudgetJury", name := "next", desc := "()I" } : Jvm.MethodName) prog_1_method_15_code (1 : Nat) (Option.some Jvm.ClassFile.FieldType.int)) ∈ am_W := am_kg 3 94 rfl rfl
theorem am_k629 : (Jvm.Cond.methodLink "BudgetJury" (178 : Nat) ({ cls := "BudgetJury$Parish", name := "copy", desc := "(LBudgetJury$Parish;)V" } : Jvm.MethodName)) ∈ am_W := am_kg 3 95 rfl rfl
theorem am_k630 : (Jvm.Cond.instanceMethod ({ cls := "BudgetJury$Parish", name := "copy", desc := "(LBudgetJury$Parish;)V" } : Jvm.MethodName)) ∈ am_W := am_kg 3 96 rfl rfl
theorem am_k631 : (Jvm.Cond.selects "BudgetJury$Parish" ({ cls := "BudgetJury$Parish", name := "copy", desc := "(LBudgetJury$Parish;)V" } : Jvm.MethodName) ({ cls := "BudgetJury$Parish", name := "copy", desc := "(LBudgetJury$Parish;)V" } : Jvm.MethodName)) ∈ am_W := am_kg 3 97 rfl rfl
theorem am_k632 : (Jvm.Cond.code ({ cls := "BudgetJury$Parish", name := "copy", desc := "(LBudgetJury$Parish;)V" } : Jvm.MethodName) prog_5_method_3_code (3 : Nat) (Option.none : Option Jvm.ClassFile.FieldType)) ∈ am_W := am_kg 3 98 rfl rfl
theorem am_k633 : (Jvm.Cond.methodLink "BudgetJury" (182 : Nat) ({ cls := "BudgetJury$Parish", name := "collect", desc := "()V" } : Jvm.MethodName)) ∈ am_W := am_kg 3 99 rfl rfl
theorem am_k634 : (Jvm.Cond.instanceMethod ({ cls := "BudgetJury$Parish", name := "collect", desc := "()V" } : Jvm.MethodName)) ∈ am_W := am_kg 3 100 rfl rfl
theorem am_k635 : (Jvm.Cond.selects "BudgetJury$Parish" ({ cls := "BudgetJury$Parish", name := "collect", desc := "()V" } : Jvm.MethodName) ({ cls := "BudgetJury$Parish", name := "collect", desc := "()V" } : Jvm.MethodName)) ∈ am_W := am_kg 3 101 rfl rfl
theorem am_k636 : (Jvm.Cond.code ({ cls := "BudgetJury$Parish", name := "collect", desc := "()V" } : Jvm.MethodName) prog_5_method_22_code (4 : Nat) (Option.none : Option Jvm.ClassFile.FieldType)) ∈ am_W := am_kg 3 102 rfl rfl
theorem am_k637 : (Jvm.Cond.methodLink "BudgetJury$Parish" (133 : Nat) ({ cls := "BudgetJury$Parish", name := "putIntoPurse", desc := "(II)V" } : Jvm.MethodName)) ∈ am_W := am_kg 3 103 rfl rfl
theorem am_k638 : (Jvm.Cond.instanceMethod ({ cls := "BudgetJury$Parish", name := "putIntoPurse", desc := "(II)V" } : Jvm.MethodName)) ∈ am_W := am_kg 3 104 rfl rfl
theorem am_k639 : (Jvm.Cond.selects "BudgetJury$Parish" ({ cls := "BudgetJury$Parish", name := "putIntoPurse", desc := "(II)V" } : Jvm.MethodName) ({ cls := "BudgetJury$Parish", name := "putIntoPurse", desc := "(II)V" } : Jvm.MethodName)) ∈ am_W := am_kg 3 105 rfl rfl
theorem am_k640 : (Jvm.Cond.code ({ cls := "BudgetJury$Parish", name := "putIntoPurse", desc := "(II)V" } : Jvm.MethodName) prog_5_method_19_code (3 : Nat) (Option.none : Option Jvm.ClassFile.FieldType)) ∈ am_W := am_kg 3 106 rfl rfl
theorem am_k641 : (Jvm.Cond.methodLink "BudgetJury" (185 : Nat) ({ cls := "BudgetJury$Parish", name := "bestToBuy", desc := "()I" } : Jvm.MethodName)) ∈ am_W := am_kg 3 107 rfl rfl
theorem am_k642 : (Jvm.Cond.instanceMethod ({ cls := "BudgetJury$Parish", name := "bestToBuy", desc := "()I" } : Jvm.MethodName)) ∈ am_W := am_kg 3 108 rfl rfl
theorem am_k643 : (Jvm.Cond.selects "BudgetJury$Parish" ({ cls := "BudgetJury$Parish", name := "bestToBuy", desc := "()I" } : Jvm.MethodName) ({ cls := "BudgetJury$Parish", name := "bestToBuy", desc := "()I" } : Jvm.MethodName)) ∈ am_W := am_kg 3 109 rfl rfl
theorem am_k644 : (Jvm.Cond.code ({ cls := "BudgetJury$Parish", name := "bestToBuy", desc := "()I" } : Jvm.MethodName) prog_5_method_24_code (6 : Nat) (Option.some Jvm.ClassFile.FieldType.int)) ∈ am_W := am_kg 3 110 rfl rfl
theorem am_k645 : (Jvm.Cond.methodLink "BudgetJury$Parish" (146 : Nat) ({ cls := "BudgetJury$Parish", name := "hasRoom", desc := "(I)Z" } : Jvm.MethodName)) ∈ am_W := am_kg 3 111 rfl rfl
theorem am_k647 : (Jvm.Cond.instanceMethod ({ cls := "BudgetJury$Parish", name := "hasRoom", desc := "(I)Z" } : Jvm.MethodName)) ∈ am_W := am_kg 3 113 rfl rfl
theorem am_k648 : (Jvm.Cond.code ({ cls := "BudgetJury$Parish", name := "hasRoom", desc := "(I)Z" } : Jvm.MethodName) prog_5_method_25_code (3 : Nat) (Option.some Jvm.ClassFile.FieldType.boolean)) ∈ am_W := am_kg 3 114 rfl rfl
theorem am_k649 : (Jvm.Cond.methodLink "BudgetJury$Parish" (140 : Nat) ({ cls := "BudgetJury$Parish", name := "shareOf", desc := "(I)I" } : Jvm.MethodName)) ∈ am_W := am_kg 3 115 rfl rfl
theorem am_k650 : (Jvm.Cond.methodLink "BudgetJuryLaw" (236 : Nat) ({ cls := "BudgetJury", name := "pass", desc := "(I)I" } : Jvm.MethodName)) ∈ am_W := am_kg 3 116 rfl rfl
theorem am_k651 : (Jvm.Cond.instanceMethod ({ cls := "BudgetJury", name := "pass", desc := "(I)I" } : Jvm.MethodName)) ∈ am_W := am_kg 3 117 rfl rfl
theorem am_k652 : (Jvm.Cond.selects "BudgetJury" ({ cls := "BudgetJury", name := "pass", desc := "(I)I" } : Jvm.MethodName) ({ cls := "BudgetJury", name := "pass", desc := "(I)I" } : Jvm.MethodName)) ∈ am_W := am_kg 3 118 rfl rfl
theorem am_k653 : (Jvm.Cond.code ({ cls := "BudgetJury", name := "pass", desc := "(I)I" } : Jvm.MethodName) prog_1_method_20_code (3 : Nat) (Option.some Jvm.ClassFile.FieldType.int)) ∈ am_W := am_kg 3 119 rfl rfl
theorem am_k654 : (Jvm.Cond.classLink "BudgetJury" (80 : Nat) "java/lang/IllegalArgumentException") ∈ am_W := am_kg 3 120 rfl rfl
theorem am_k670 : (Jvm.Cond.methodLink "BudgetJury" (218 : Nat) ({ cls := "BudgetJury$Parish", name := "builtCount", desc := "()I" } : Jvm.MethodName)) ∈ am_W := am_kg 3 136 rfl rfl
theorem am_k671 : (Jvm.Cond.methodLink "BudgetJury" (221 : Nat) ({ cls := "BudgetJury$Parish", name := "runYears", desc := "(I)V" } : Jvm.MethodName)) ∈ am_W := am_kg 3 137 rfl rfl
theorem am_k672 : (Jvm.Cond.instanceMethod ({ cls := "BudgetJury$Parish", name := "runYears", desc := "(I)V" } : Jvm.MethodName)) ∈ am_W := am_kg 3 138 rfl rfl
theorem am_k673 : (Jvm.Cond.selects "BudgetJury$Parish" ({ cls := "BudgetJury$Parish", name := "runYears", desc := "(I)V" } : Jvm.MethodName) ({ cls := "BudgetJury$Parish", name := "runYears", desc := "(I)V" } : Jvm.MethodName)) ∈ am_W := am_kg 3 139 rfl rfl
theorem am_k674 : (Jvm.Cond.code ({ cls := "BudgetJury$Parish", name := "runYears", desc := "(I)V" } : Jvm.MethodName) prog_5_method_21_code (3 : Nat) (Option.none : Option Jvm.ClassFile.FieldType)) ∈ am_W := am_kg 3 140 rfl rfl
theorem am_k675 : (Jvm.Cond.methodLink "BudgetJury$Parish" (121 : Nat) ({ cls := "BudgetJury$Parish", name := "collect", desc := "()V" } : Jvm.MethodName)) ∈ am_W := am_kg 3 141 rfl rfl
theorem am_k676 : (Jvm.Cond.methodLink "BudgetJury$Parish" (124 : Nat) ({ cls := "BudgetJury$Parish", name := "buyFromPurses", desc := "()V" } : Jvm.MethodName)) ∈ am_W := am_kg 3 142 rfl rfl
theorem am_k678 : (Jvm.Cond.instanceMethod ({ cls := "BudgetJury$Parish", name := "buyFromPurses", desc := "()V" } : Jvm.MethodName)) ∈ am_W := am_kg 3 144 rfl rfl
theorem am_k679 : (Jvm.Cond.code ({ cls := "BudgetJury$Parish", name := "buyFromPurses", desc := "()V" } : Jvm.MethodName) prog_5_method_23_code (3 : Nat) (Option.none : Option Jvm.ClassFile.FieldType)) ∈ am_W := am_kg 3 145 rfl rfl
theorem am_k680 : (Jvm.Cond.methodLink "BudgetJury$Parish" (137 : Nat) ({ cls := "BudgetJury$Parish", name := "bestToBuy", desc := "()I" } : Jvm.MethodName)) ∈ am_W := am_kg 3 146 rfl rfl
theorem am_k681 : (Jvm.Cond.methodLink "BudgetJury$Parish" (143 : Nat) ({ cls := "BudgetJury$Parish", name := "buy", desc := "(II)V" } : Jvm.MethodName)) ∈ am_W := am_kg 3 147 rfl rfl
theorem am_k683 : (Jvm.Cond.instanceMethod ({ cls := "BudgetJury$Parish", name := "buy", desc := "(II)V" } : Jvm.MethodName)) ∈ am_W := am_kg 3 149 rfl rfl
theorem am_k684 : (Jvm.Cond.code ({ cls := "BudgetJury$Parish", name := "buy", desc := "(II)V" } : Jvm.MethodName) prog_5_method_26_code (6 : Nat) (Option.none : Option Jvm.ClassFile.FieldType)) ∈ am_W := am_kg 3 150 rfl rfl
theorem am_k685 : (Jvm.Cond.methodLink "BudgetJury$Parish" (149 : Nat) ({ cls := "BudgetJury$Parish", name := "build", desc := "(I)V" } : Jvm.MethodName)) ∈ am_W := am_kg 3 151 rfl rfl
theorem am_k687 : (Jvm.Cond.instanceMethod ({ cls := "BudgetJury$Parish", name := "build", desc := "(I)V" } : Jvm.MethodName)) ∈ am_W := am_kg 3 153 rfl rfl
theorem am_k688 : (Jvm.Cond.code ({ cls := "BudgetJury$Parish", name := "build", desc := "(I)V" } : Jvm.MethodName) prog_5_method_27_code (2 : Nat) (Option.none : Option Jvm.ClassFile.FieldType)) ∈ am_W := am_kg 3 154 rfl rfl
theorem am_k689 : (Jvm.Cond.methodLink "BudgetJury$Parish" (127 : Nat) ({ cls := "BudgetJury$Parish", name := "buildFromPot", desc := "()V" } : Jvm.MethodName)) ∈ am_W := am_kg 3 155 rfl rfl
theorem am_k691 : (Jvm.Cond.instanceMethod ({ cls := "BudgetJury$Parish", name := "buildFromPot", desc := "()V" } : Jvm.MethodName)) ∈ am_W := am_kg 3 157 rfl rfl
theorem am_k692 : (Jvm.Cond.code ({ cls := "BudgetJury$Parish", name := "buildFromPot", desc := "()V" } : Jvm.MethodName) prog_5_method_28_code (3 : Nat) (Option.none : Option Jvm.ClassFile.FieldType)) ∈ am_W := am_kg 3 158 rfl rfl
theorem am_k693 : (Jvm.Cond.methodLink "BudgetJury$Parish" (153 : Nat) ({ cls := "BudgetJury$Parish", name := "bestForPot", desc := "()I" } : Jvm.MethodName)) ∈ am_W := am_kg 3 159 rfl rfl
theorem am_k695 : (Jvm.Cond.instanceMethod ({ cls := "BudgetJury$Parish", name := "bestForPot", desc := "()I" } : Jvm.MethodName)) ∈ am_W := am_kg 3 161 rfl rfl
theorem am_k696 : (Jvm.Cond.code ({ cls := "BudgetJury$Parish", name := "bestForPot", desc := "()I" } : Jvm.MethodName) prog_5_method_29_code (3 : Nat) (Option.some Jvm.ClassFile.FieldType.int)) ∈ am_W := am_kg 3 162 rfl rfl
theorem am_k697 : (Jvm.Cond.methodLink "BudgetJury$Parish" (156 : Nat) ({ cls := "BudgetJury$Parish", name := "isBetterForPot", desc := "(II)Z" } : Jvm.MethodName)) ∈ am_W := am_kg 3 163 rfl rfl
theorem am_k699 : (Jvm.Cond.instanceMethod ({ cls := "BudgetJury$Parish", name := "isBetterForPot", desc := "(II)Z" } : Jvm.MethodName)) ∈ am_W := am_kg 3 165 rfl rfl
theorem am_k700 : (Jvm.Cond.code ({ cls := "BudgetJury$Parish", name := "isBetterForPot", desc := "(II)Z" } : Jvm.MethodName) prog_5_method_30_code (3 : Nat) (Option.some Jvm.ClassFile.FieldType.boolean)) ∈ am_W := am_kg 3 166 rfl rfl
theorem am_k701 : (Jvm.Cond.methodLink "BudgetJury$Parish" (130 : Nat) ({ cls := "BudgetJury$Parish", name := "grow", desc := "()V" } : Jvm.MethodName)) ∈ am_W := am_kg 3 167 rfl rfl
theorem am_k703 : (Jvm.Cond.instanceMethod ({ cls := "BudgetJury$Parish", name := "grow", desc := "()V" } : Jvm.MethodName)) ∈ am_W := am_kg 3 169 rfl rfl
theorem am_k704 : (Jvm.Cond.code ({ cls := "BudgetJury$Parish", name := "grow", desc := "()V" } : Jvm.MethodName) prog_5_method_31_code (3 : Nat) (Option.none : Option Jvm.ClassFile.FieldType)) ∈ am_W := am_kg 3 170 rfl rfl
theorem am_k705 : (Jvm.Cond.methodLink "BudgetJuryLaw" (227 : Nat) ({ cls := "BudgetJury", name := "until", desc := "(I)I" } : Jvm.MethodName)) ∈ am_W := am_kg 3 171 rfl rfl
theorem am_k706 : (Jvm.Cond.instanceMethod ({ cls := "BudgetJury", name := "until", desc := "(I)I" } : Jvm.MethodName)) ∈ am_W := am_kg 3 172 rfl rfl
theorem am_k707 : (Jvm.Cond.selects "BudgetJury" ({ cls := "BudgetJury", name := "until", desc := "(I)I" } : Jvm.MethodName) ({ cls := "BudgetJury", name := "until", desc := "(I)I" } : Jvm.MethodName)) ∈ am_W := am_kg 3 173 rfl rfl
theorem am_k708 : (Jvm.Cond.code ({ cls := "BudgetJury", name := "until", desc := "(I)I" } : Jvm.MethodName) prog_1_method_21_code (3 : Nat) (Option.some Jvm.ClassFile.FieldType.int)) ∈ am_W := am_kg 3 174 rfl rfl
theorem am_k709 : (Jvm.Cond.methodLink "BudgetJury" (205 : Nat) ({ cls := "BudgetJury$Parish", name := "isOpen", desc := "(I)Z" } : Jvm.MethodName)) ∈ am_W := am_kg 3 175 rfl rfl
theorem am_k710 : (Jvm.Cond.methodLink "BudgetJuryLaw" (224 : Nat) ({ cls := "BudgetJury", name := "foresee", desc := "(II)I" } : Jvm.MethodName)) ∈ am_W := am_kg 3 176 rfl rfl
theorem am_k711 : (Jvm.Cond.instanceMethod ({ cls := "BudgetJury", name := "foresee", desc := "(II)I" } : Jvm.MethodName)) ∈ am_W := am_kg 3 177 rfl rfl
theorem am_k712 : (Jvm.Cond.selects "BudgetJury" ({ cls := "BudgetJury", name := "foresee", desc := "(II)I" } : Jvm.MethodName) ({ cls := "BudgetJury", name := "foresee", desc := "(II)I" } : Jvm.MethodName)) ∈ am_W := am_kg 3 178 rfl rfl
theorem am_k713 : (Jvm.Cond.code ({ cls := "BudgetJury", name := "foresee", desc := "(II)I" } : Jvm.MethodName) prog_1_method_22_code (3 : Nat) (Option.some Jvm.ClassFile.FieldType.int)) ∈ am_W := am_kg 3 179 rfl rfl
theorem am_k715 : (Jvm.Cond.methodLink "BudgetJuryLaw" (233 : Nat) ({ cls := "BudgetJury", name := "advise", desc := "(II)I" } : Jvm.MethodName)) ∈ am_W := am_kg 3 181 rfl rfl
theorem am_k716 : (Jvm.Cond.instanceMethod ({ cls := "BudgetJury", name := "advise", desc := "(II)I" } : Jvm.MethodName)) ∈ am_W := am_kg 3 182 rfl rfl
theorem am_k717 : (Jvm.Cond.selects "BudgetJury" ({ cls := "BudgetJury", name := "advise", desc := "(II)I" } : Jvm.MethodName) ({ cls := "BudgetJury", name := "advise", desc := "(II)I" } : Jvm.MethodName)) ∈ am_W := am_kg 3 183 rfl rfl
theorem am_k718 : (Jvm.Cond.code ({ cls := "BudgetJury", name := "advise", desc := "(II)I" } : Jvm.MethodName) prog_1_method_23_code (6 : Nat) (Option.some Jvm.ClassFile.FieldType.int)) ∈ am_W := am_kg 3 184 rfl rfl
