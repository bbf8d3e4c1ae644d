theorem am_k1340 : (Jvm.Cond.selects "BudgetJuryModel" ({ cls := "BudgetJuryModel", name := "trim", desc := "(I)I" } : Jvm.MethodName) ({ cls := "BudgetJuryModel", name := "trim", desc := "(I)I" } : Jvm.MethodName)) ∈ am_W := am_kg 6 33 rfl rfl
theorem am_k1341 : (Jvm.Cond.code ({ cls := "BudgetJuryModel", name := "trim", desc := "(I)I" } : Jvm.MethodName) prog_11_method_50_code (2 : Nat) (Option.some Jvm.ClassFile.FieldType.int)) ∈ am_W := am_kg 6 34 rfl rfl
theorem am_k1342 : (Jvm.Cond.methodLink "BudgetJuryModel" (66 : Nat) ({ cls := "BudgetJuryModel", name := "isIn", desc := "(III)Z" } : Jvm.MethodName)) ∈ am_W := am_kg 6 35 rfl rfl
theorem am_k1343 : (Jvm.Cond.static ({ cls := "BudgetJuryModel", name := "isIn", desc := "(III)Z" } : Jvm.MethodName)) ∈ am_W := am_kg 6 36 rfl rfl
theorem am_k1344 : (Jvm.Cond.code ({ cls := "BudgetJuryModel", name := "isIn", desc := "(III)Z" } : Jvm.MethodName) prog_11_method_4_code (3 : Nat) (Option.some Jvm.ClassFile.FieldType.boolean)) ∈ am_W := am_kg 6 37 rfl rfl
theorem am_k1345 : (Jvm.Cond.methodLink "BudgetJuryLaw" (95 : Nat) ({ cls := "BudgetJuryModel", name := "teach", desc := "()I" } : Jvm.MethodName)) ∈ am_W := am_kg 6 38 rfl rfl
theorem am_k1346 : (Jvm.Cond.instanceMethod ({ cls := "BudgetJuryModel", name := "teach", desc := "()I" } : Jvm.MethodName)) ∈ am_W := am_kg 6 39 rfl rfl
theorem am_k1347 : (Jvm.Cond.selects "BudgetJuryModel" ({ cls := "BudgetJuryModel", name := "teach", desc := "()I" } : Jvm.MethodName) ({ cls := "BudgetJuryModel", name := "teach", desc := "()I" } : Jvm.MethodName)) ∈ am_W := am_kg 6 40 rfl rfl
theorem am_k1348 : (Jvm.Cond.code ({ cls := "BudgetJuryModel", name := "teach", desc := "()I" } : Jvm.MethodName) prog_11_method_51_code (2 : Nat) (Option.some Jvm.ClassFile.FieldType.int)) ∈ am_W := am_kg 6 41 rfl rfl
theorem am_k1349 : (Jvm.Cond.methodLink "BudgetJuryModel" (279 : Nat) ({ cls := "BudgetJuryModel", name := "read", desc := "()I" } : Jvm.MethodName)) ∈ am_W := am_kg 6 42 rfl rfl
theorem am_k1351 : (Jvm.Cond.instanceMethod ({ cls := "BudgetJuryModel", name := "read", desc := "()I" } : Jvm.MethodName)) ∈ am_W := am_kg 6 44 rfl rfl
theorem am_k1352 : (Jvm.Cond.code ({ cls := "BudgetJuryModel", name := "read", desc := "()I" } : Jvm.MethodName) prog_11_method_48_code (3 : Nat) (Option.some Jvm.ClassFile.FieldType.int)) ∈ am_W := am_kg 6 45 rfl rfl
theorem am_k1353 : (Jvm.Cond.methodLink "BudgetJuryModel" (267 : Nat) ({ cls := "BudgetJuryModel", name := "cut", desc := "()V" } : Jvm.MethodName)) ∈ am_W := am_kg 6 46 rfl rfl
theorem am_k1355 : (Jvm.Cond.instanceMethod ({ cls := "BudgetJuryModel", name := "cut", desc := "()V" } : Jvm.MethodName)) ∈ am_W := am_kg 6 48 rfl rfl
theorem am_k1356 : (Jvm.Cond.code ({ cls := "BudgetJuryModel", name := "cut", desc := "()V" } : Jvm.MethodName) prog_11_method_15_code (3 : Nat) (Option.none : Option Jvm.ClassFile.FieldType)) ∈ am_W := am_kg 6 49 rfl rfl
theorem am_k1357 : (Jvm.Cond.methodLink "BudgetJuryModel" (88 : Nat) ({ cls := "BudgetJuryModel", name := "byteOf", desc := "(I)I" } : Jvm.MethodName)) ∈ am_W := am_kg 6 50 rfl rfl
theorem am_k1359 : (Jvm.Cond.instanceMethod ({ cls := "BudgetJuryModel", name := "byteOf", desc := "(I)I" } : Jvm.MethodName)) ∈ am_W := am_kg 6 52 rfl rfl
theorem am_k1360 : (Jvm.Cond.code ({ cls := "BudgetJuryModel", name := "byteOf", desc := "(I)I" } : Jvm.MethodName) prog_11_method_12_code (2 : Nat) (Option.some Jvm.ClassFile.FieldType.int)) ∈ am_W := am_kg 6 53 rfl rfl
theorem am_k1361 : (Jvm.Cond.methodLink "BudgetJuryModel" (121 : Nat) ({ cls := "BudgetJuryModel", name := "kindAt", desc := "(II)I" } : Jvm.MethodName)) ∈ am_W := am_kg 6 54 rfl rfl
theorem am_k1363 : (Jvm.Cond.instanceMethod ({ cls := "BudgetJuryModel", name := "kindAt", desc := "(II)I" } : Jvm.MethodName)) ∈ am_W := am_kg 6 56 rfl rfl
theorem am_k1364 : (Jvm.Cond.code ({ cls := "BudgetJuryModel", name := "kindAt", desc := "(II)I" } : Jvm.MethodName) prog_11_method_13_code (6 : Nat) (Option.some Jvm.ClassFile.FieldType.int)) ∈ am_W := am_kg 6 57 rfl rfl
theorem am_k1365 : (Jvm.Cond.methodLink "BudgetJuryModel" (92 : Nat) ({ cls := "BudgetJuryModel", name := "isLetter", desc := "(I)Z" } : Jvm.MethodName)) ∈ am_W := am_kg 6 58 rfl rfl
theorem am_k1366 : (Jvm.Cond.static ({ cls := "BudgetJuryModel", name := "isLetter", desc := "(I)Z" } : Jvm.MethodName)) ∈ am_W := am_kg 6 59 rfl rfl
theorem am_k1367 : (Jvm.Cond.code ({ cls := "BudgetJuryModel", name := "isLetter", desc := "(I)Z" } : Jvm.MethodName) prog_11_method_10_code (1 : Nat) (Option.some Jvm.ClassFile.FieldType.boolean)) ∈ am_W := am_kg 6 60 rfl rfl
theorem am_k1368 : (Jvm.Cond.methodLink "BudgetJuryModel" (96 : Nat) ({ cls := "BudgetJuryModel", name := "isDigit", desc := "(I)Z" } : Jvm.MethodName)) ∈ am_W := am_kg 6 61 rfl rfl
theorem am_k1369 : (Jvm.Cond.static ({ cls := "BudgetJuryModel", name := "isDigit", desc := "(I)Z" } : Jvm.MethodName)) ∈ am_W := am_kg 6 62 rfl rfl
theorem am_k1370 : (Jvm.Cond.code ({ cls := "BudgetJuryModel", name := "isDigit", desc := "(I)Z" } : Jvm.MethodName) prog_11_method_11_code (1 : Nat) (Option.some Jvm.ClassFile.FieldType.boolean)) ∈ am_W := am_kg 6 63 rfl rfl
theorem am_k1371 : (Jvm.Cond.methodLink "BudgetJuryModel" (99 : Nat) ({ cls := "BudgetJuryModel", name := "word", desc := "(II)I" } : Jvm.MethodName)) ∈ am_W := am_kg 6 64 rfl rfl
theorem am_k1373 : (Jvm.Cond.instanceMethod ({ cls := "BudgetJuryModel", name := "word", desc := "(II)I" } : Jvm.MethodName)) ∈ am_W := am_kg 6 66 rfl rfl
theorem am_k1374 : (Jvm.Cond.code ({ cls := "BudgetJuryModel", name := "word", desc := "(II)I" } : Jvm.MethodName) prog_11_method_14_code (6 : Nat) (Option.some Jvm.ClassFile.FieldType.int)) ∈ am_W := am_kg 6 67 rfl rfl
theorem am_k1375 : (Jvm.Cond.fieldLink "BudgetJuryModel" (109 : Nat) "BudgetJuryModel" "WORDS" "[Ljava/lang/String;") ∈ am_W := am_kg 6 68 rfl rfl
theorem am_k1377 : (Jvm.Cond.methodLink "BudgetJuryModel" (113 : Nat) ({ cls := "java/lang/String", name := "length", desc := "()I" } : Jvm.MethodName)) ∈ am_W := am_kg 6 70 rfl rfl
theorem am_k1378 : (Jvm.Cond.methodLink "BudgetJuryModel" (117 : Nat) ({ cls := "java/lang/String", name := "charAt", desc := "(I)C" } : Jvm.MethodName)) ∈ am_W := am_kg 6 71 rfl rfl
theorem am_k1380 : (Jvm.Cond.methodLink "BudgetJuryModel" (104 : Nat) ({ cls := "java/lang/String", name := "indexOf", desc := "(I)I" } : Jvm.MethodName)) ∈ am_W := am_kg 6 73 rfl rfl
theorem am_k1381 : (Jvm.Cond.methodLink "BudgetJuryModel" (270 : Nat) ({ cls := "BudgetJuryModel", name := "isPlan", desc := "()Z" } : Jvm.MethodName)) ∈ am_W := am_kg 6 74 rfl rfl
theorem am_k1383 : (Jvm.Cond.instanceMethod ({ cls := "BudgetJuryModel", name := "isPlan", desc := "()Z" } : Jvm.MethodName)) ∈ am_W := am_kg 6 76 rfl rfl
theorem am_k1384 : (Jvm.Cond.code ({ cls := "BudgetJuryModel", name := "isPlan", desc := "()Z" } : Jvm.MethodName) prog_11_method_22_code (2 : Nat) (Option.some Jvm.ClassFile.FieldType.boolean)) ∈ am_W := am_kg 6 77 rfl rfl
theorem am_k1385 : (Jvm.Cond.methodLink "BudgetJuryModel" (127 : Nat) ({ cls := "BudgetJuryModel", name := "is", desc := "(I)Z" } : Jvm.MethodName)) ∈ am_W := am_kg 6 78 rfl rfl
theorem am_k1387 : (Jvm.Cond.instanceMethod ({ cls := "BudgetJuryModel", name := "is", desc := "(I)Z" } : Jvm.MethodName)) ∈ am_W := am_kg 6 80 rfl rfl
theorem am_k1388 : (Jvm.Cond.code ({ cls := "BudgetJuryModel", name := "is", desc := "(I)Z" } : Jvm.MethodName) prog_11_method_16_code (2 : Nat) (Option.some Jvm.ClassFile.FieldType.boolean)) ∈ am_W := am_kg 6 81 rfl rfl
theorem am_k1389 : (Jvm.Cond.methodLink "BudgetJuryModel" (137 : Nat) ({ cls := "BudgetJuryModel", name := "isWardLine", desc := "()Z" } : Jvm.MethodName)) ∈ am_W := am_kg 6 82 rfl rfl
theorem am_k1391 : (Jvm.Cond.instanceMethod ({ cls := "BudgetJuryModel", name := "isWardLine", desc := "()Z" } : Jvm.MethodName)) ∈ am_W := am_kg 6 84 rfl rfl
theorem am_k1392 : (Jvm.Cond.code ({ cls := "BudgetJuryModel", name := "isWardLine", desc := "()Z" } : Jvm.MethodName) prog_11_method_23_code (1 : Nat) (Option.some Jvm.ClassFile.FieldType.boolean)) ∈ am_W := am_kg 6 85 rfl rfl
theorem am_k1393 : (Jvm.Cond.methodLink "BudgetJuryModel" (157 : Nat) ({ cls := "BudgetJuryModel", name := "eatAs", desc := "(II)Z" } : Jvm.MethodName)) ∈ am_W := am_kg 6 86 rfl rfl
theorem am_k1395 : (Jvm.Cond.instanceMethod ({ cls := "BudgetJuryModel", name := "eatAs", desc := "(II)Z" } : Jvm.MethodName)) ∈ am_W := am_kg 6 88 rfl rfl
theorem am_k1396 : (Jvm.Cond.code ({ cls := "BudgetJuryModel", name := "eatAs", desc := "(II)Z" } : Jvm.MethodName) prog_11_method_20_code (3 : Nat) (Option.some Jvm.ClassFile.FieldType.boolean)) ∈ am_W := am_kg 6 89 rfl rfl
theorem am_k1397 : (Jvm.Cond.methodLink "BudgetJuryModel" (130 : Nat) ({ cls := "BudgetJuryModel", name := "eat", desc := "(I)Z" } : Jvm.MethodName)) ∈ am_W := am_kg 6 90 rfl rfl
theorem am_k1399 : (Jvm.Cond.instanceMethod ({ cls := "BudgetJuryModel", name := "eat", desc := "(I)Z" } : Jvm.MethodName)) ∈ am_W := am_kg 6 92 rfl rfl
theorem am_k1400 : (Jvm.Cond.code ({ cls := "BudgetJuryModel", name := "eat", desc := "(I)Z" } : Jvm.MethodName) prog_11_method_18_code (2 : Nat) (Option.some Jvm.ClassFile.FieldType.boolean)) ∈ am_W := am_kg 6 93 rfl rfl
theorem am_k1401 : (Jvm.Cond.methodLink "BudgetJuryModel" (141 : Nat) ({ cls := "BudgetJuryModel", name := "isProjectLine", desc := "()Z" } : Jvm.MethodName)) ∈ am_W := am_kg 6 94 rfl rfl
theorem am_k1403 : (Jvm.Cond.instanceMethod ({ cls := "BudgetJuryModel", name := "isProjectLine", desc := "()Z" } : Jvm.MethodName)) ∈ am_W := am_kg 6 96 rfl rfl
theorem am_k1404 : (Jvm.Cond.code ({ cls := "BudgetJuryModel", name := "isProjectLine", desc := "()Z" } : Jvm.MethodName) prog_11_method_24_code (1 : Nat) (Option.some Jvm.ClassFile.FieldType.boolean)) ∈ am_W := am_kg 6 97 rfl rfl
theorem am_k1405 : (Jvm.Cond.methodLink "BudgetJuryModel" (144 : Nat) ({ cls := "BudgetJuryModel", name := "isVoterLine", desc := "()Z" } : Jvm.MethodName)) ∈ am_W := am_kg 6 98 rfl rfl
theorem am_k1407 : (Jvm.Cond.instanceMethod ({ cls := "BudgetJuryModel", name := "isVoterLine", desc := "()Z" } : Jvm.MethodName)) ∈ am_W := am_kg 6 100 rfl rfl
theorem am_k1408 : (Jvm.Cond.code ({ cls := "BudgetJuryModel", name := "isVoterLine", desc := "()Z" } : Jvm.MethodName) prog_11_method_25_code (1 : Nat) (Option.some Jvm.ClassFile.FieldType.boolean)) ∈ am_W := am_kg 6 101 rfl rfl
theorem am_k1409 : (Jvm.Cond.methodLink "BudgetJuryModel" (147 : Nat) ({ cls := "BudgetJuryModel", name := "isBudgetLine", desc := "()Z" } : Jvm.MethodName)) ∈ am_W := am_kg 6 102 rfl rfl
theorem am_k1411 : (Jvm.Cond.instanceMethod ({ cls := "BudgetJuryModel", name := "isBudgetLine", desc := "()Z" } : Jvm.MethodName)) ∈ am_W := am_kg 6 104 rfl rfl
theorem am_k1412 : (Jvm.Cond.code ({ cls := "BudgetJuryModel", name := "isBudgetLine", desc := "()Z" } : Jvm.MethodName) prog_11_method_26_code (1 : Nat) (Option.some Jvm.ClassFile.FieldType.boolean)) ∈ am_W := am_kg 6 105 rfl rfl
theorem am_k1413 : (Jvm.Cond.methodLink "BudgetJuryModel" (150 : Nat) ({ cls := "BudgetJuryModel", name := "isBanLine", desc := "()Z" } : Jvm.MethodName)) ∈ am_W := am_kg 6 106 rfl rfl
theorem am_k1415 : (Jvm.Cond.instanceMethod ({ cls := "BudgetJuryModel", name := "isBanLine", desc := "()Z" } : Jvm.MethodName)) ∈ am_W := am_kg 6 108 rfl rfl
theorem am_k1416 : (Jvm.Cond.code ({ cls := "BudgetJuryModel", name := "isBanLine", desc := "()Z" } : Jvm.MethodName) prog_11_method_27_code (2 : Nat) (Option.some Jvm.ClassFile.FieldType.boolean)) ∈ am_W := am_kg 6 109 rfl rfl
theorem am_k1417 : (Jvm.Cond.methodLink "BudgetJuryModel" (76 : Nat) ({ cls := "java/lang/Math", name := "min", desc := "(II)I" } : Jvm.MethodName)) ∈ am_W := am_kg 6 110 rfl rfl
theorem am_k1418 : (Jvm.Cond.methodLink "BudgetJuryModel" (167 : Nat) ({ cls := "BudgetJuryModel", name := "isTest", desc := "()Z" } : Jvm.MethodName)) ∈ am_W := am_kg 6 111 rfl rfl
theorem am_k1420 : (Jvm.Cond.instanceMethod ({ cls := "BudgetJuryModel", name := "isTest", desc := "()Z" } : Jvm.MethodName)) ∈ am_W := am_kg 6 113 rfl rfl
theorem am_k1421 : (Jvm.Cond.code ({ cls := "BudgetJuryModel", name := "isTest", desc := "()Z" } : Jvm.MethodName) prog_11_method_28_code (1 : Nat) (Option.some Jvm.ClassFile.FieldType.boolean)) ∈ am_W := am_kg 6 114 rfl rfl
theorem am_k1422 : (Jvm.Cond.methodLink "BudgetJuryModel" (173 : Nat) ({ cls := "BudgetJuryModel", name := "isBoth", desc := "()Z" } : Jvm.MethodName)) ∈ am_W := am_kg 6 115 rfl rfl
theorem am_k1424 : (Jvm.Cond.instanceMethod ({ cls := "BudgetJuryModel", name := "isBoth", desc := "()Z" } : Jvm.MethodName)) ∈ am_W := am_kg 6 117 rfl rfl
theorem am_k1425 : (Jvm.Cond.code ({ cls := "BudgetJuryModel", name := "isBoth", desc := "()Z" } : Jvm.MethodName) prog_11_method_29_code (1 : Nat) (Option.some Jvm.ClassFile.FieldType.boolean)) ∈ am_W := am_kg 6 118 rfl rfl
theorem am_k1426 : (Jvm.Cond.methodLink "BudgetJuryModel" (180 : Nat) ({ cls := "BudgetJuryModel", name := "isSingle", desc := "()Z" } : Jvm.MethodName)) ∈ am_W := am_kg 6 119 rfl rfl
theorem am_k1428 : (Jvm.Cond.instanceMethod ({ cls := "BudgetJuryModel", name := "isSingle", desc := "()Z" } : Jvm.MethodName)) ∈ am_W := am_kg 6 121 rfl rfl
theorem am_k1429 : (Jvm.Cond.code ({ cls := "BudgetJuryModel", name := "isSingle", desc := "()Z" } : Jvm.MethodName) prog_11_method_33_code (2 : Nat) (Option.some Jvm.ClassFile.FieldType.boolean)) ∈ am_W := am_kg 6 122 rfl rfl
theorem am_k1430 : (Jvm.Cond.methodLink "BudgetJuryModel" (195 : Nat) ({ cls := "BudgetJuryModel", name := "isDeeper", desc := "()Z" } : Jvm.MethodName)) ∈ am_W := am_kg 6 123 rfl rfl
theorem am_k1432 : (Jvm.Cond.instanceMethod ({ cls := "BudgetJuryModel", name := "isDeeper", desc := "()Z" } : Jvm.MethodName)) ∈ am_W := am_kg 6 125 rfl rfl
theorem am_k1433 : (Jvm.Cond.code ({ cls := "BudgetJuryModel", name := "isDeeper", desc := "()Z" } : Jvm.MethodName) prog_11_method_30_code (1 : Nat) (Option.some Jvm.ClassFile.FieldType.boolean)) ∈ am_W := am_kg 6 126 rfl rfl
theorem am_k1434 : (Jvm.Cond.methodLink "BudgetJuryModel" (176 : Nat) ({ cls := "BudgetJuryModel", name := "put", desc := "(I)V" } : Jvm.MethodName)) ∈ am_W := am_kg 6 127 rfl rfl
theorem am_k1436 : (Jvm.Cond.instanceMethod ({ cls := "BudgetJuryModel", name := "put", desc := "(I)V" } : Jvm.MethodName)) ∈ am_W := am_kg 6 129 rfl rfl
theorem am_k1437 : (Jvm.Cond.code ({ cls := "BudgetJuryModel", name := "put", desc := "(I)V" } : Jvm.MethodName) prog_11_method_21_code (2 : Nat) (Option.none : Option Jvm.ClassFile.FieldType)) ∈ am_W := am_kg 6 130 rfl rfl
theorem am_k1438 : (Jvm.Cond.methodLink "BudgetJuryModel" (198 : Nat) ({ cls := "BudgetJuryModel", name := "isSign", desc := "(C)Z" } : Jvm.MethodName)) ∈ am_W := am_kg 6 131 rfl rfl
theorem am_k1440 : (Jvm.Cond.instanceMethod ({ cls := "BudgetJuryModel", name := "isSign", desc := "(C)Z" } : Jvm.MethodName)) ∈ am_W := am_kg 6 133 rfl rfl
theorem am_k1441 : (Jvm.Cond.code ({ cls := "BudgetJuryModel", name := "isSign", desc := "(C)Z" } : Jvm.MethodName) prog_11_method_17_code (2 : Nat) (Option.some Jvm.ClassFile.FieldType.boolean)) ∈ am_W := am_kg 6 134 rfl rfl
theorem am_k1442 : (Jvm.Cond.methodLink "BudgetJuryModel" (153 : Nat) ({ cls := "BudgetJuryModel", name := "eatSign", desc := "(C)Z" } : Jvm.MethodName)) ∈ am_W := am_kg 6 135 rfl rfl
theorem am_k1444 : (Jvm.Cond.instanceMethod ({ cls := "BudgetJuryModel", name := "eatSign", desc := "(C)Z" } : Jvm.MethodName)) ∈ am_W := am_kg 6 137 rfl rfl
theorem am_k1445 : (Jvm.Cond.code ({ cls := "BudgetJuryModel", name := "eatSign", desc := "(C)Z" } : Jvm.MethodName) prog_11_method_19_code (2 : Nat) (Option.some Jvm.ClassFile.FieldType.boolean)) ∈ am_W := am_kg 6 138 rfl rfl
theorem am_k1446 : (Jvm.Cond.methodLink "BudgetJuryModel" (201 : Nat) ({ cls := "BudgetJuryModel", name := "isNamed", desc := "(I)Z" } : Jvm.MethodName)) ∈ am_W := am_kg 6 139 rfl rfl
theorem am_k1448 : (Jvm.Cond.instanceMethod ({ cls := "BudgetJuryModel", name := "isNamed", desc := "(I)Z" } : Jvm.MethodName)) ∈ am_W := am_kg 6 141 rfl rfl
theorem am_k1449 : (Jvm.Cond.code ({ cls := "BudgetJuryModel", name := "isNamed", desc := "(I)Z" } : Jvm.MethodName) prog_11_method_32_code (2 : Nat) (Option.some Jvm.ClassFile.FieldType.boolean)) ∈ am_W := am_kg 6 142 rfl rfl
theorem am_k1450 : (Jvm.Cond.methodLink "BudgetJuryModel" (192 : Nat) ({ cls := "BudgetJuryModel", name := "isName", desc := "(I)Z" } : Jvm.MethodName)) ∈ am_W := am_kg 6 143 rfl rfl
theorem am_k1452 : (Jvm.Cond.instanceMethod ({ cls := "BudgetJuryModel", name := "isName", desc := "(I)Z" } : Jvm.MethodName)) ∈ am_W := am_kg 6 145 rfl rfl
theorem am_k1453 : (Jvm.Cond.code ({ cls := "BudgetJuryModel", name := "isName", desc := "(I)Z" } : Jvm.MethodName) prog_11_method_31_code (2 : Nat) (Option.some Jvm.ClassFile.FieldType.boolean)) ∈ am_W := am_kg 6 146 rfl rfl
theorem am_k1454 : (Jvm.Cond.methodLink "BudgetJuryModel" (204 : Nat) ({ cls := "BudgetJuryModel", name := "isSum", desc := "()Z" } : Jvm.MethodName)) ∈ am_W := am_kg 6 147 rfl rfl
theorem am_k1456 : (Jvm.Cond.instanceMethod ({ cls := "BudgetJuryModel", name := "isSum", desc := "()Z" } : Jvm.MethodName)) ∈ am_W := am_kg 6 149 rfl rfl
theorem am_k1457 : (Jvm.Cond.code ({ cls := "BudgetJuryModel", name := "isSum", desc := "()Z" } : Jvm.MethodName) prog_11_method_34_code (2 : Nat) (Option.some Jvm.ClassFile.FieldType.boolean)) ∈ am_W := am_kg 6 150 rfl rfl
theorem am_k1458 : (Jvm.Cond.methodLink "BudgetJuryModel" (207 : Nat) ({ cls := "BudgetJuryModel", name := "isProduct", desc := "()Z" } : Jvm.MethodName)) ∈ am_W := am_kg 6 151 rfl rfl
theorem am_k1460 : (Jvm.Cond.instanceMethod ({ cls := "BudgetJuryModel", name := "isProduct", desc := "()Z" } : Jvm.MethodName)) ∈ am_W := am_kg 6 153 rfl rfl
theorem am_k1461 : (Jvm.Cond.code ({ cls := "BudgetJuryModel", name := "isProduct", desc := "()Z" } : Jvm.MethodName) prog_11_method_35_code (2 : Nat) (Option.some Jvm.ClassFile.FieldType.boolean)) ∈ am_W := am_kg 6 154 rfl rfl
theorem am_k1462 : (Jvm.Cond.methodLink "BudgetJuryModel" (210 : Nat) ({ cls := "BudgetJuryModel", name := "isValue", desc := "()Z" } : Jvm.MethodName)) ∈ am_W := am_kg 6 155 rfl rfl
theorem am_k1464 : (Jvm.Cond.instanceMethod ({ cls := "BudgetJuryModel", name := "isValue", desc := "()Z" } : Jvm.MethodName)) ∈ am_W := am_kg 6 157 rfl rfl
theorem am_k1465 : (Jvm.Cond.code ({ cls := "BudgetJuryModel", name := "isValue", desc := "()Z" } : Jvm.MethodName) prog_11_method_37_code (2 : Nat) (Option.some Jvm.ClassFile.FieldType.boolean)) ∈ am_W := am_kg 6 158 rfl rfl
theorem am_k1466 : (Jvm.Cond.methodLink "BudgetJuryModel" (213 : Nat) ({ cls := "BudgetJuryModel", name := "numberAt", desc := "(I)I" } : Jvm.MethodName)) ∈ am_W := am_kg 6 159 rfl rfl
theorem am_k1468 : (Jvm.Cond.instanceMethod ({ cls := "BudgetJuryModel", name := "numberAt", desc := "(I)I" } : Jvm.MethodName)) ∈ am_W := am_kg 6 161 rfl rfl
theorem am_k1469 : (Jvm.Cond.code ({ cls := "BudgetJuryModel", name := "numberAt", desc := "(I)I" } : Jvm.MethodName) prog_11_method_38_code (4 : Nat) (Option.some Jvm.ClassFile.FieldType.int)) ∈ am_W := am_kg 6 162 rfl rfl
theorem am_k1470 : (Jvm.Cond.methodLink "BudgetJuryModel" (216 : Nat) ({ cls := "BudgetJuryModel", name := "isInside", desc := "(IZ)Z" } : Jvm.MethodName)) ∈ am_W := am_kg 6 163 rfl rfl
theorem am_k1472 : (Jvm.Cond.instanceMethod ({ cls := "BudgetJuryModel", name := "isInside", desc := "(IZ)Z" } : Jvm.MethodName)) ∈ am_W := am_kg 6 165 rfl rfl
theorem am_k1473 : (Jvm.Cond.code ({ cls := "BudgetJuryModel", name := "isInside", desc := "(IZ)Z" } : Jvm.MethodName) prog_11_method_36_code (3 : Nat) (Option.some Jvm.ClassFile.FieldType.boolean)) ∈ am_W := am_kg 6 166 rfl rfl
theorem am_k1474 : (Jvm.Cond.methodLink "BudgetJuryModel" (273 : Nat) ({ cls := "BudgetJuryModel", name := "errorOf", desc := "(I)I" } : Jvm.MethodName)) ∈ am_W := am_kg 6 167 rfl rfl
theorem am_k1476 : (Jvm.Cond.instanceMethod ({ cls := "BudgetJuryModel", name := "errorOf", desc := "(I)I" } : Jvm.MethodName)) ∈ am_W := am_kg 6 169 rfl rfl
theorem am_k1477 : (Jvm.Cond.code ({ cls := "BudgetJuryModel", name := "errorOf", desc := "(I)I" } : Jvm.MethodName) prog_11_method_46_code (4 : Nat) (Option.some Jvm.ClassFile.FieldType.int)) ∈ am_W := am_kg 6 170 rfl rfl
theorem am_k1478 : (Jvm.Cond.methodLink "BudgetJuryModel" (235 : Nat) ({ cls := "BudgetJuryModel", name := "isNew", desc := "(III)I" } : Jvm.MethodName)) ∈ am_W := am_kg 6 171 rfl rfl
theorem am_k1480 : (Jvm.Cond.instanceMethod ({ cls := "BudgetJuryModel", name := "isNew", desc := "(III)I" } : Jvm.MethodName)) ∈ am_W := am_kg 6 173 rfl rfl
theorem am_k1481 : (Jvm.Cond.code ({ cls := "BudgetJuryModel", name := "isNew", desc := "(III)I" } : Jvm.MethodName) prog_11_method_42_code (4 : Nat) (Option.some Jvm.ClassFile.FieldType.int)) ∈ am_W := am_kg 6 174 rfl rfl
theorem am_k1482 : (Jvm.Cond.methodLink "BudgetJuryModel" (223 : Nat) ({ cls := "BudgetJuryModel", name := "told", desc := "(II)I" } : Jvm.MethodName)) ∈ am_W := am_kg 6 175 rfl rfl
theorem am_k1484 : (Jvm.Cond.instanceMethod ({ cls := "BudgetJuryModel", name := "told", desc := "(II)I" } : Jvm.MethodName)) ∈ am_W := am_kg 6 177 rfl rfl
theorem am_k1485 : (Jvm.Cond.code ({ cls := "BudgetJuryModel", name := "told", desc := "(II)I" } : Jvm.MethodName) prog_11_method_40_code (5 : Nat) (Option.some Jvm.ClassFile.FieldType.int)) ∈ am_W := am_kg 6 178 rfl rfl
theorem am_k1486 : (Jvm.Cond.methodLink "BudgetJuryModel" (220 : Nat) ({ cls := "BudgetJuryModel", name := "isSame", desc := "(II)Z" } : Jvm.MethodName)) ∈ am_W := am_kg 6 179 rfl rfl
theorem am_k1488 : (Jvm.Cond.instanceMethod ({ cls := "BudgetJuryModel", name := "isSame", desc := "(II)Z" } : Jvm.MethodName)) ∈ am_W := am_kg 6 181 rfl rfl
theorem am_k1489 : (Jvm.Cond.code ({ cls := "BudgetJuryModel", name := "isSame", desc := "(II)Z" } : Jvm.MethodName) prog_11_method_39_code (4 : Nat) (Option.some Jvm.ClassFile.FieldType.boolean)) ∈ am_W := am_kg 6 182 rfl rfl
theorem am_k1490 : (Jvm.Cond.methodLink "BudgetJuryModel" (239 : Nat) ({ cls := "BudgetJuryModel", name := "ban", desc := "()I" } : Jvm.MethodName)) ∈ am_W := am_kg 6 183 rfl rfl
theorem am_k1492 : (Jvm.Cond.instanceMethod ({ cls := "BudgetJuryModel", name := "ban", desc := "()I" } : Jvm.MethodName)) ∈ am_W := am_kg 6 185 rfl rfl
theorem am_k1493 : (Jvm.Cond.code ({ cls := "BudgetJuryModel", name := "ban", desc := "()I" } : Jvm.MethodName) prog_11_method_44_code (2 : Nat) (Option.some Jvm.ClassFile.FieldType.int)) ∈ am_W := am_kg 6 186 rfl rfl
theorem am_k1494 : (Jvm.Cond.methodLink "BudgetJuryModel" (229 : Nat) ({ cls := "BudgetJuryModel", name := "look", desc := "(II)I" } : Jvm.MethodName)) ∈ am_W := am_kg 6 187 rfl rfl
theorem am_k1496 : (Jvm.Cond.instanceMethod ({ cls := "BudgetJuryModel", name := "look", desc := "(II)I" } : Jvm.MethodName)) ∈ am_W := am_kg 6 189 rfl rfl
theorem am_k1497 : (Jvm.Cond.code ({ cls := "BudgetJuryModel", name := "look", desc := "(II)I" } : Jvm.MethodName) prog_11_method_41_code (3 : Nat) (Option.some Jvm.ClassFile.FieldType.int)) ∈ am_W := am_kg 6 190 rfl rfl
theorem am_k1498 : (Jvm.Cond.methodLink "BudgetJuryModel" (245 : Nat) ({ cls := "BudgetJuryModel", name := "like", desc := "(I)I" } : Jvm.MethodName)) ∈ am_W := am_kg 6 191 rfl rfl
theorem am_k1500 : (Jvm.Cond.instanceMethod ({ cls := "BudgetJuryModel", name := "like", desc := "(I)I" } : Jvm.MethodName)) ∈ am_W := am_kg 6 193 rfl rfl
theorem am_k1501 : (Jvm.Cond.code ({ cls := "BudgetJuryModel", name := "like", desc := "(I)I" } : Jvm.MethodName) prog_11_method_45_code (5 : Nat) (Option.some Jvm.ClassFile.FieldType.int)) ∈ am_W := am_kg 6 194 rfl rfl
theorem am_k1502 : (Jvm.Cond.methodLink "BudgetJuryModel" (251 : Nat) ({ cls := "BudgetJuryModel", name := "numberOf", desc := "(I)I" } : Jvm.MethodName)) ∈ am_W := am_kg 6 195 rfl rfl
theorem am_k1504 : (Jvm.Cond.instanceMethod ({ cls := "BudgetJuryModel", name := "numberOf", desc := "(I)I" } : Jvm.MethodName)) ∈ am_W := am_kg 6 197 rfl rfl
theorem am_k1505 : (Jvm.Cond.code ({ cls := "BudgetJuryModel", name := "numberOf", desc := "(I)I" } : Jvm.MethodName) prog_11_method_47_code (3 : Nat) (Option.some Jvm.ClassFile.FieldType.int)) ∈ am_W := am_kg 6 198 rfl rfl
theorem am_k1506 : (Jvm.Cond.methodLink "BudgetJuryModel" (257 : Nat) ({ cls := "BudgetJuryModel", name := "inRange", desc := "(III)I" } : Jvm.MethodName)) ∈ am_W := am_kg 6 199 rfl rfl
theorem am_k1508 : (Jvm.Cond.instanceMethod ({ cls := "BudgetJuryModel", name := "inRange", desc := "(III)I" } : Jvm.MethodName)) ∈ am_W := am_kg 6 201 rfl rfl
theorem am_k1509 : (Jvm.Cond.code ({ cls := "BudgetJuryModel", name := "inRange", desc := "(III)I" } : Jvm.MethodName) prog_11_method_43_code (4 : Nat) (Option.some Jvm.ClassFile.FieldType.int)) ∈ am_W := am_kg 6 202 rfl rfl
theorem am_k1510 : (Jvm.Cond.methodLink "BudgetJuryLaw" (99 : Nat) ({ cls := "BudgetJuryModel", name := "errorAt", desc := "()I" } : Jvm.MethodName)) ∈ am_W := am_kg 6 203 rfl rfl
theorem am_k1511 : (Jvm.Cond.instanceMethod ({ cls := "BudgetJuryModel", name := "errorAt", desc := "()I" } : Jvm.MethodName)) ∈ am_W := am_kg 6 204 rfl rfl
theorem am_k1512 : (Jvm.Cond.selects "BudgetJuryModel" ({ cls := "BudgetJuryModel", name := "errorAt", desc := "()I" } : Jvm.MethodName) ({ cls := "BudgetJuryModel", name := "errorAt", desc := "()I" } : Jvm.MethodName)) ∈ am_W := am_kg 6 205 rfl rfl
theorem am_k1513 : (Jvm.Cond.code ({ cls := "BudgetJuryModel", name := "errorAt", desc := "()I" } : Jvm.MethodName) prog_11_method_52_code (1 : Nat) (Option.some Jvm.ClassFile.FieldType.int)) ∈ am_W := am_kg 6 206 rfl rfl
theorem am_k1514 : (Jvm.Cond.methodLink "BudgetJuryLaw" (102 : Nat) ({ cls := "BudgetJuryModel", name := "count", desc := "(I)I" } : Jvm.MethodName)) ∈ am_W := am_kg 6 207 rfl rfl
theorem am_k1515 : (Jvm.Cond.instanceMethod ({ cls := "BudgetJuryModel", name := "count", desc := "(I)I" } : Jvm.MethodName)) ∈ am_W := am_kg 6 208 rfl rfl
theorem am_k1516 : (Jvm.Cond.selects "BudgetJuryModel" ({ cls := "BudgetJuryModel", name := "count", desc := "(I)I" } : Jvm.MethodName) ({ cls := "BudgetJuryModel", name := "count", desc := "(I)I" } : Jvm.MethodName)) ∈ am_W := am_kg 6 209 rfl rfl
theorem am_k1517 : (Jvm.Cond.code ({ cls := "BudgetJuryModel", name := "count", desc := "(I)I" } : Jvm.MethodName) prog_11_method_54_code (2 : Nat) (Option.some Jvm.ClassFile.FieldType.int)) ∈ am_W := am_kg 6 210 rfl rfl
theorem am_k1518 : (Jvm.Cond.methodLink "BudgetJuryModel" (288 : Nat) ({ cls := "BudgetJuryModel", name := "counted", desc := "(I)I" } : Jvm.MethodName)) ∈ am_W := am_kg 6 211 rfl rfl
theorem am_k1520 : (Jvm.Cond.instanceMethod ({ cls := "BudgetJuryModel", name := "counted", desc := "(I)I" } : Jvm.MethodName)) ∈ am_W := am_kg 6 213 rfl rfl
theorem am_k1521 : (Jvm.Cond.code ({ cls := "BudgetJuryModel", name := "counted", desc := "(I)I" } : Jvm.MethodName) prog_11_method_53_code (3 : Nat) (Option.some Jvm.ClassFile.FieldType.int)) ∈ am_W := am_kg 6 214 rfl rfl
theorem am_k1522 : (Jvm.Cond.methodLink "BudgetJuryModel" (282 : Nat) ({ cls := "BudgetJuryModel$State", name := "counted", desc := "(I)I" } : Jvm.MethodName)) ∈ am_W := am_kg 6 215 rfl rfl
theorem am_k1523 : (Jvm.Cond.instanceMethod ({ cls := "BudgetJuryModel$State", name := "counted", desc := "(I)I" } : Jvm.MethodName)) ∈ am_W := am_kg 6 216 rfl rfl
theorem am_k1524 : (Jvm.Cond.selects "BudgetJuryModel$State" ({ cls := "BudgetJuryModel$State", name := "counted", desc := "(I)I" } : Jvm.MethodName) ({ cls := "BudgetJuryModel$State", name := "counted", desc := "(I)I" } : Jvm.MethodName)) ∈ am_W := am_kg 6 217 rfl rfl
theorem am_k1525 : (Jvm.Cond.code ({ cls := "BudgetJuryModel$State", name := "counted", desc := "(I)I" } : Jvm.MethodName) prog_13_method_21_code (2 : Nat) (Option.some Jvm.ClassFile.FieldType.int)) ∈ am_W := am_kg 6 218 rfl rfl
theorem am_k1526 : (Jvm.Cond.methodLink "BudgetJuryModel$State" (148 : Nat) ({ cls := "BudgetJuryModel$State", name := "purses", desc := "()I" } : Jvm.MethodName)) ∈ am_W := am_kg 6 219 rfl rfl
theorem am_k1528 : (Jvm.Cond.instanceMethod ({ cls := "BudgetJuryModel$State", name := "purses", desc := "()I" } : Jvm.MethodName)) ∈ am_W := am_kg 6 221 rfl rfl
theorem am_k1529 : (Jvm.Cond.code ({ cls := "BudgetJuryModel$State", name := "purses", desc := "()I" } : Jvm.MethodName) prog_13_method_19_code (3 : Nat) (Option.some Jvm.ClassFile.FieldType.int)) ∈ am_W := am_kg 6 222 rfl rfl
theorem am_k1530 : (Jvm.Cond.methodLink "BudgetJuryModel$State" (151 : Nat) ({ cls := "BudgetJuryModel$State", name := "allBuilt", desc := "(Z)I" } : Jvm.MethodName)) ∈ am_W := am_kg 6 223 rfl rfl
theorem am_k1532 : (Jvm.Cond.instanceMethod ({ cls := "BudgetJuryModel$State", name := "allBuilt", desc := "(Z)I" } : Jvm.MethodName)) ∈ am_W := am_kg 6 225 rfl rfl
theorem am_k1533 : (Jvm.Cond.code ({ cls := "BudgetJuryModel$State", name := "allBuilt", desc := "(Z)I" } : Jvm.MethodName) prog_13_method_20_code (4 : Nat) (Option.some Jvm.ClassFile.FieldType.int)) ∈ am_W := am_kg 6 226 rfl rfl
theorem am_k1534 : (Jvm.Cond.methodLink "BudgetJuryLaw" (106 : Nat) ({ cls := "BudgetJuryModel", name := "ward", desc := "(II)I" } : Jvm.MethodName)) ∈ am_W := am_kg 6 227 rfl rfl
theorem am_k1535 : (Jvm.Cond.instanceMethod ({ cls := "BudgetJuryModel", name := "ward", desc := "(II)I" } : Jvm.MethodName)) ∈ am_W := am_kg 6 228 rfl rfl
theorem am_k1536 : (Jvm.Cond.selects "BudgetJuryModel" ({ cls := "BudgetJuryModel", name := "ward", desc := "(II)I" } : Jvm.MethodName) ({ cls := "BudgetJuryModel", name := "ward", desc := "(II)I" } : Jvm.MethodName)) ∈ am_W := am_kg 6 229 rfl rfl
theorem am_k1537 : (Jvm.Cond.code ({ cls := "BudgetJuryModel", name := "ward", desc := "(II)I" } : Jvm.MethodName) prog_11_method_56_code (3 : Nat) (Option.some Jvm.ClassFile.FieldType.int)) ∈ am_W := am_kg 6 230 rfl rfl
theorem am_k1538 : (Jvm.Cond.methodLink "BudgetJuryModel" (293 : Nat) ({ cls := "BudgetJuryModel", name := "isWard", desc := "(I)Z" } : Jvm.MethodName)) ∈ am_W := am_kg 6 231 rfl rfl
theorem am_k1540 : (Jvm.Cond.instanceMethod ({ cls := "BudgetJuryModel", name := "isWard", desc := "(I)Z" } : Jvm.MethodName)) ∈ am_W := am_kg 6 233 rfl rfl
theorem am_k1541 : (Jvm.Cond.code ({ cls := "BudgetJuryModel", name := "isWard", desc := "(I)Z" } : Jvm.MethodName) prog_11_method_5_code (2 : Nat) (Option.some Jvm.ClassFile.FieldType.boolean)) ∈ am_W := am_kg 6 234 rfl rfl
theorem am_k1542 : (Jvm.Cond.methodLink "BudgetJuryModel" (296 : Nat) ({ cls := "BudgetJuryModel", name := "wardTold", desc := "(II)I" } : Jvm.MethodName)) ∈ am_W := am_kg 6 235 rfl rfl
theorem am_k1544 : (Jvm.Cond.instanceMethod ({ cls := "BudgetJuryModel", name := "wardTold", desc := "(II)I" } : Jvm.MethodName)) ∈ am_W := am_kg 6 237 rfl rfl
theorem am_k1545 : (Jvm.Cond.code ({ cls := "BudgetJuryModel", name := "wardTold", desc := "(II)I" } : Jvm.MethodName) prog_11_method_55_code (7 : Nat) (Option.some Jvm.ClassFile.FieldType.int)) ∈ am_W := am_kg 6 238 rfl rfl
theorem am_k1546 : (Jvm.Cond.methodLink "BudgetJuryLaw" (109 : Nat) ({ cls := "BudgetJuryModel", name := "project", desc := "(II)I" } : Jvm.MethodName)) ∈ am_W := am_kg 6 239 rfl rfl
theorem am_k1547 : (Jvm.Cond.instanceMethod ({ cls := "BudgetJuryModel", name := "project", desc := "(II)I" } : Jvm.MethodName)) ∈ am_W := am_kg 7 0 rfl rfl
theorem am_k1548 : (Jvm.Cond.selects "BudgetJuryModel" ({ cls := "BudgetJuryModel", name := "project", desc := "(II)I" } : Jvm.MethodName) ({ cls := "BudgetJuryModel", name := "project", desc := "(II)I" } : Jvm.MethodName)) ∈ am_W := am_kg 7 1 rfl rfl
theorem am_k1549 : (Jvm.Cond.code ({ cls := "BudgetJuryModel", name := "project", desc := "(II)I" } : Jvm.MethodName) prog_11_method_58_code (3 : Nat) (Option.some Jvm.ClassFile.FieldType.int)) ∈ am_W := am_kg 7 2 rfl rfl
theorem am_k1550 : (Jvm.Cond.methodLink "BudgetJuryModel" (311 : Nat) ({ cls := "BudgetJuryModel", name := "isProject", desc := "(I)Z" } : Jvm.MethodName)) ∈ am_W := am_kg 7 3 rfl rfl
theorem am_k1552 : (Jvm.Cond.instanceMethod ({ cls := "BudgetJuryModel", name := "isProject", desc := "(I)Z" } : Jvm.MethodName)) ∈ am_W := am_kg 7 5 rfl rfl
theorem am_k1553 : (Jvm.Cond.code ({ cls := "BudgetJuryModel", name := "isProject", desc := "(I)Z" } : Jvm.MethodName) prog_11_method_6_code (2 : Nat) (Option.some Jvm.ClassFile.FieldType.boolean)) ∈ am_W := am_kg 7 6 rfl rfl
theorem am_k1554 : (Jvm.Cond.methodLink "BudgetJuryModel" (314 : Nat) ({ cls := "BudgetJuryModel", name := "projectTold", desc := "(II)I" } : Jvm.MethodName)) ∈ am_W := am_kg 7 7 rfl rfl
theorem am_k1556 : (Jvm.Cond.instanceMethod ({ cls := "BudgetJuryModel", name := "projectTold", desc := "(II)I" } : Jvm.MethodName)) ∈ am_W := am_kg 7 9 rfl rfl
theorem am_k1557 : (Jvm.Cond.code ({ cls := "BudgetJuryModel", name := "projectTold", desc := "(II)I" } : Jvm.MethodName) prog_11_method_57_code (4 : Nat) (Option.some Jvm.ClassFile.FieldType.int)) ∈ am_W := am_kg 7 10 rfl rfl
theorem am_k1558 : (Jvm.Cond.methodLink "BudgetJuryModel" (299 : Nat) ({ cls := "BudgetJuryModel$State", name := "fans", desc := "(I)I" } : Jvm.MethodName)) ∈ am_W := am_kg 7 11 rfl rfl
theorem am_k1559 : (Jvm.Cond.instanceMethod ({ cls := "BudgetJuryModel$State", name := "fans", desc := "(I)I" } : Jvm.MethodName)) ∈ am_W := am_kg 7 12 rfl rfl
theorem am_k1560 : (Jvm.Cond.selects "BudgetJuryModel$State" ({ cls := "BudgetJuryModel$State", name := "fans", desc := "(I)I" } : Jvm.MethodName) ({ cls := "BudgetJuryModel$State", name := "fans", desc := "(I)I" } : Jvm.MethodName)) ∈ am_W := am_kg 7 13 rfl rfl
theorem am_k1561 : (Jvm.Cond.code ({ cls := "BudgetJuryModel$State", name := "fans", desc := "(I)I" } : Jvm.MethodName) prog_13_method_6_code (4 : Nat) (Option.some Jvm.ClassFile.FieldType.int)) ∈ am_W := am_kg 7 14 rfl rfl
theorem am_k1562 : (Jvm.Cond.methodLink "BudgetJuryModel$State" (71 : Nat) ({ cls := "BudgetJuryModel$State", name := "isFan", desc := "(II)Z" } : Jvm.MethodName)) ∈ am_W := am_kg 7 15 rfl rfl
theorem am_k1563 : (Jvm.Cond.instanceMethod ({ cls := "BudgetJuryModel$State", name := "isFan", desc := "(II)Z" } : Jvm.MethodName)) ∈ am_W := am_kg 7 16 rfl rfl
theorem am_k1564 : (Jvm.Cond.selects "BudgetJuryModel$State" ({ cls := "BudgetJuryModel$State", name := "isFan", desc := "(II)Z" } : Jvm.MethodName) ({ cls := "BudgetJuryModel$State", name := "isFan", desc := "(II)Z" } : Jvm.MethodName)) ∈ am_W := am_kg 7 17 rfl rfl
theorem am_k1565 : (Jvm.Cond.code ({ cls := "BudgetJuryModel$State", name := "isFan", desc := "(II)Z" } : Jvm.MethodName) prog_13_method_5_code (3 : Nat) (Option.some Jvm.ClassFile.FieldType.boolean)) ∈ am_W := am_kg 7 18 rfl rfl
theorem am_k1566 : (Jvm.Cond.methodLink "BudgetJuryModel" (305 : Nat) ({ cls := "BudgetJuryModel$State", name := "isBanned", desc := "(I)Z" } : Jvm.MethodName)) ∈ am_W := am_kg 7 19 rfl rfl
theorem am_k1567 : (Jvm.Cond.instanceMethod ({ cls := "BudgetJuryModel$State", name := "isBanned", desc := "(I)Z" } : Jvm.MethodName)) ∈ am_W := am_kg 7 20 rfl rfl
theorem am_k1568 : (Jvm.Cond.selects "BudgetJuryModel$State" ({ cls := "BudgetJuryModel$State", name := "isBanned", desc := "(I)Z" } : Jvm.MethodName) ({ cls := "BudgetJuryModel$State", name := "isBanned", desc := "(I)Z" } : Jvm.MethodName)) ∈ am_W := am_kg 7 21 rfl rfl
theorem am_k1569 : (Jvm.Cond.code ({ cls := "BudgetJuryModel$State", name := "isBanned", desc := "(I)Z" } : Jvm.MethodName) prog_13_method_10_code (3 : Nat) (Option.some Jvm.ClassFile.FieldType.boolean)) ∈ am_W := am_kg 7 22 rfl rfl
theorem am_k1570 : (Jvm.Cond.methodLink "BudgetJuryModel$State" (99 : Nat) ({ cls := "BudgetJuryModel$State", name := "carryOut", desc := "(II)I" } : Jvm.MethodName)) ∈ am_W := am_kg 7 23 rfl rfl
theorem am_k1572 : (Jvm.Cond.instanceMethod ({ cls := "BudgetJuryModel$State", name := "carryOut", desc := "(II)I" } : Jvm.MethodName)) ∈ am_W := am_kg 7 25 rfl rfl
theorem am_k1573 : (Jvm.Cond.code ({ cls := "BudgetJuryModel$State", name := "carryOut", desc := "(II)I" } : Jvm.MethodName) prog_13_method_22_code (6 : Nat) (Option.some Jvm.ClassFile.FieldType.int)) ∈ am_W := am_kg 7 26 rfl rfl
theorem am_k1574 : (Jvm.Cond.methodLinkNest "BudgetJuryModel$State" (158 : Nat) ({ cls := "BudgetJuryModel", name := "isPushed", desc := "(I)Z" } : Jvm.MethodName) "BudgetJuryModel") ∈ lw_tbl := am_kin 7 27 rfl
theorem am_k1575 : (Jvm.Cond.static ({ cls := "BudgetJuryModel", name := "isPushed", desc := "(I)Z" } : Jvm.MethodName)) ∈ am_W := am_kg 7 28 rfl rfl
theorem am_k1576 : (Jvm.Cond.code ({ cls := "BudgetJuryModel", name := "isPushed", desc := "(I)Z" } : Jvm.MethodName) prog_11_method_8_code (1 : Nat) (Option.some Jvm.ClassFile.FieldType.boolean)) ∈ am_W := am_kg 7 29 rfl rfl
theorem am_k1577 : (Jvm.Cond.methodLink "BudgetJuryModel$State" (161 : Nat) ({ cls := "BudgetJuryModel$State", name := "pushed", desc := "(II)I" } : Jvm.MethodName)) ∈ am_W := am_kg 7 30 rfl rfl
theorem am_k1579 : (Jvm.Cond.instanceMethod ({ cls := "BudgetJuryModel$State", name := "pushed", desc := "(II)I" } : Jvm.MethodName)) ∈ am_W := am_kg 7 32 rfl rfl
theorem am_k1580 : (Jvm.Cond.code ({ cls := "BudgetJuryModel$State", name := "pushed", desc := "(II)I" } : Jvm.MethodName) prog_13_method_23_code (3 : Nat) (Option.some Jvm.ClassFile.FieldType.int)) ∈ am_W := am_kg 7 33 rfl rfl
theorem am_k1581 : (Jvm.Cond.methodLink "BudgetJuryModel$State" (122 : Nat) ({ cls := "BudgetJuryModel$State", name := "fans", desc := "(I)I" } : Jvm.MethodName)) ∈ am_W := am_kg 7 34 rfl rfl
theorem am_k1582 : (Jvm.Cond.methodLink "BudgetJuryModel$State" (168 : Nat) ({ cls := "BudgetJuryModel$State", name := "pleased", desc := "(I)I" } : Jvm.MethodName)) ∈ am_W := am_kg 7 35 rfl rfl
theorem am_k1583 : (Jvm.Cond.instanceMethod ({ cls := "BudgetJuryModel$State", name := "pleased", desc := "(I)I" } : Jvm.MethodName)) ∈ am_W := am_kg 7 36 rfl rfl
theorem am_k1584 : (Jvm.Cond.selects "BudgetJuryModel$State" ({ cls := "BudgetJuryModel$State", name := "pleased", desc := "(I)I" } : Jvm.MethodName) ({ cls := "BudgetJuryModel$State", name := "pleased", desc := "(I)I" } : Jvm.MethodName)) ∈ am_W := am_kg 7 37 rfl rfl
theorem am_k1585 : (Jvm.Cond.code ({ cls := "BudgetJuryModel$State", name := "pleased", desc := "(I)I" } : Jvm.MethodName) prog_13_method_9_code (4 : Nat) (Option.some Jvm.ClassFile.FieldType.int)) ∈ am_W := am_kg 7 38 rfl rfl
theorem am_k1586 : (Jvm.Cond.methodLinkNest "BudgetJuryModel$State" (164 : Nat) ({ cls := "BudgetJuryModel", name := "both", desc := "(III)I" } : Jvm.MethodName) "BudgetJuryModel") ∈ lw_tbl := am_kin 7 39 rfl
theorem am_k1587 : (Jvm.Cond.static ({ cls := "BudgetJuryModel", name := "both", desc := "(III)I" } : Jvm.MethodName)) ∈ am_W := am_kg 7 40 rfl rfl
theorem am_k1588 : (Jvm.Cond.code ({ cls := "BudgetJuryModel", name := "both", desc := "(III)I" } : Jvm.MethodName) prog_11_method_9_code (3 : Nat) (Option.some Jvm.ClassFile.FieldType.int)) ∈ am_W := am_kg 7 41 rfl rfl
theorem am_k1589 : (Jvm.Cond.methodLink "BudgetJuryModel" (82 : Nat) ({ cls := "java/lang/Math", name := "max", desc := "(II)I" } : Jvm.MethodName)) ∈ am_W := am_kg 7 42 rfl rfl
theorem am_k1590 : (Jvm.Cond.methodLink "BudgetJuryModel" (308 : Nat) ({ cls := "BudgetJuryModel$State", name := "together", desc := "(II)I" } : Jvm.MethodName)) ∈ am_W := am_kg 7 43 rfl rfl
theorem am_k1591 : (Jvm.Cond.instanceMethod ({ cls := "BudgetJuryModel$State", name := "together", desc := "(II)I" } : Jvm.MethodName)) ∈ am_W := am_kg 7 44 rfl rfl
theorem am_k1592 : (Jvm.Cond.selects "BudgetJuryModel$State" ({ cls := "BudgetJuryModel$State", name := "together", desc := "(II)I" } : Jvm.MethodName) ({ cls := "BudgetJuryModel$State", name := "together", desc := "(II)I" } : Jvm.MethodName)) ∈ am_W := am_kg 7 45 rfl rfl
theorem am_k1593 : (Jvm.Cond.code ({ cls := "BudgetJuryModel$State", name := "together", desc := "(II)I" } : Jvm.MethodName) prog_13_method_7_code (5 : Nat) (Option.some Jvm.ClassFile.FieldType.int)) ∈ am_W := am_kg 7 46 rfl rfl
theorem am_k1594 : (Jvm.Cond.methodLink "BudgetJuryModel$State" (75 : Nat) ({ cls := "java/lang/Math", name := "min", desc := "(II)I" } : Jvm.MethodName)) ∈ am_W := am_kg 7 47 rfl rfl
theorem am_k1595 : (Jvm.Cond.methodLink "BudgetJuryLaw" (112 : Nat) ({ cls := "BudgetJuryModel", name := "share", desc := "(I)I" } : Jvm.MethodName)) ∈ am_W := am_kg 7 48 rfl rfl
theorem am_k1596 : (Jvm.Cond.instanceMethod ({ cls := "BudgetJuryModel", name := "share", desc := "(I)I" } : Jvm.MethodName)) ∈ am_W := am_kg 7 49 rfl rfl
theorem am_k1597 : (Jvm.Cond.selects "BudgetJuryModel" ({ cls := "BudgetJuryModel", name := "share", desc := "(I)I" } : Jvm.MethodName) ({ cls := "BudgetJuryModel", name := "share", desc := "(I)I" } : Jvm.MethodName)) ∈ am_W := am_kg 7 50 rfl rfl
theorem am_k1598 : (Jvm.Cond.code ({ cls := "BudgetJuryModel", name := "share", desc := "(I)I" } : Jvm.MethodName) prog_11_method_59_code (2 : Nat) (Option.some Jvm.ClassFile.FieldType.int)) ∈ am_W := am_kg 7 51 rfl rfl
theorem am_k1599 : (Jvm.Cond.methodLink "BudgetJuryModel" (317 : Nat) ({ cls := "BudgetJuryModel$State", name := "share", desc := "(I)I" } : Jvm.MethodName)) ∈ am_W := am_kg 7 52 rfl rfl
theorem am_k1600 : (Jvm.Cond.instanceMethod ({ cls := "BudgetJuryModel$State", name := "share", desc := "(I)I" } : Jvm.MethodName)) ∈ am_W := am_kg 7 53 rfl rfl
theorem am_k1601 : (Jvm.Cond.selects "BudgetJuryModel$State" ({ cls := "BudgetJuryModel$State", name := "share", desc := "(I)I" } : Jvm.MethodName) ({ cls := "BudgetJuryModel$State", name := "share", desc := "(I)I" } : Jvm.MethodName)) ∈ am_W := am_kg 7 54 rfl rfl
theorem am_k1602 : (Jvm.Cond.code ({ cls := "BudgetJuryModel$State", name := "share", desc := "(I)I" } : Jvm.MethodName) prog_13_method_8_code (5 : Nat) (Option.some Jvm.ClassFile.FieldType.int)) ∈ am_W := am_kg 7 55 rfl rfl
theorem am_k1603 : (Jvm.Cond.methodLink "BudgetJuryModel$State" (81 : Nat) ({ cls := "BudgetJuryModel$State", name := "together", desc := "(II)I" } : Jvm.MethodName)) ∈ am_W := am_kg 7 56 rfl rfl
theorem am_k1604 : (Jvm.Cond.methodLink "BudgetJuryLaw" (115 : Nat) ({ cls := "BudgetJuryModel", name := "voter", desc := "(II)I" } : Jvm.MethodName)) ∈ am_W := am_kg 7 57 rfl rfl
theorem am_k1605 : (Jvm.Cond.instanceMethod ({ cls := "BudgetJuryModel", name := "voter", desc := "(II)I" } : Jvm.MethodName)) ∈ am_W := am_kg 7 58 rfl rfl
theorem am_k1606 : (Jvm.Cond.selects "BudgetJuryModel" ({ cls := "BudgetJuryModel", name := "voter", desc := "(II)I" } : Jvm.MethodName) ({ cls := "BudgetJuryModel", name := "voter", desc := "(II)I" } : Jvm.MethodName)) ∈ am_W := am_kg 7 59 rfl rfl
theorem am_k1607 : (Jvm.Cond.code ({ cls := "BudgetJuryModel", name := "voter", desc := "(II)I" } : Jvm.MethodName) prog_11_method_61_code (3 : Nat) (Option.some Jvm.ClassFile.FieldType.int)) ∈ am_W := am_kg 7 60 rfl rfl
theorem am_k1608 : (Jvm.Cond.methodLink "BudgetJuryModel" (335 : Nat) ({ cls := "BudgetJuryModel", name := "isVoter", desc := "(I)Z" } : Jvm.MethodName)) ∈ am_W := am_kg 7 61 rfl rfl
theorem am_k1610 : (Jvm.Cond.instanceMethod ({ cls := "BudgetJuryModel", name := "isVoter", desc := "(I)Z" } : Jvm.MethodName)) ∈ am_W := am_kg 7 63 rfl rfl
theorem am_k1611 : (Jvm.Cond.code ({ cls := "BudgetJuryModel", name := "isVoter", desc := "(I)Z" } : Jvm.MethodName) prog_11_method_7_code (2 : Nat) (Option.some Jvm.ClassFile.FieldType.boolean)) ∈ am_W := am_kg 7 64 rfl rfl
theorem am_k1612 : (Jvm.Cond.methodLink "BudgetJuryModel" (338 : Nat) ({ cls := "BudgetJuryModel", name := "voterTold", desc := "(II)I" } : Jvm.MethodName)) ∈ am_W := am_kg 7 65 rfl rfl
theorem am_k1614 : (Jvm.Cond.instanceMethod ({ cls := "BudgetJuryModel", name := "voterTold", desc := "(II)I" } : Jvm.MethodName)) ∈ am_W := am_kg 7 67 rfl rfl
theorem am_k1615 : (Jvm.Cond.code ({ cls := "BudgetJuryModel", name := "voterTold", desc := "(II)I" } : Jvm.MethodName) prog_11_method_60_code (3 : Nat) (Option.some Jvm.ClassFile.FieldType.int)) ∈ am_W := am_kg 7 68 rfl rfl
theorem am_k1616 : (Jvm.Cond.methodLink "BudgetJuryModel" (324 : Nat) ({ cls := "java/lang/Integer", name := "bitCount", desc := "(I)I" } : Jvm.MethodName)) ∈ am_W := am_kg 7 69 rfl rfl
theorem am_k1617 : (Jvm.Cond.methodLink "BudgetJuryModel" (329 : Nat) ({ cls := "BudgetJuryModel$State", name := "pleased", desc := "(I)I" } : Jvm.MethodName)) ∈ am_W := am_kg 7 70 rfl rfl
theorem am_k1618 : (Jvm.Cond.methodLink "BudgetJuryLaw" (118 : Nat) ({ cls := "BudgetJuryModel", name := "likes", desc := "(II)Z" } : Jvm.MethodName)) ∈ am_W := am_kg 7 71 rfl rfl
theorem am_k1619 : (Jvm.Cond.instanceMethod ({ cls := "BudgetJuryModel", name := "likes", desc := "(II)Z" } : Jvm.MethodName)) ∈ am_W := am_kg 7 72 rfl rfl
theorem am_k1620 : (Jvm.Cond.selects "BudgetJuryModel" ({ cls := "BudgetJuryModel", name := "likes", desc := "(II)Z" } : Jvm.MethodName) ({ cls := "BudgetJuryModel", name := "likes", desc := "(II)Z" } : Jvm.MethodName)) ∈ am_W := am_kg 7 73 rfl rfl
theorem am_k1621 : (Jvm.Cond.code ({ cls := "BudgetJuryModel", name := "likes", desc := "(II)Z" } : Jvm.MethodName) prog_11_method_62_code (3 : Nat) (Option.some Jvm.ClassFile.FieldType.boolean)) ∈ am_W := am_kg 7 74 rfl rfl
theorem am_k1622 : (Jvm.Cond.methodLink "BudgetJuryModel" (341 : Nat) ({ cls := "BudgetJuryModel$State", name := "isFan", desc := "(II)Z" } : Jvm.MethodName)) ∈ am_W := am_kg 7 75 rfl rfl
theorem am_k1623 : (Jvm.Cond.methodLink "BudgetJuryLaw" (121 : Nat) ({ cls := "BudgetJuryModel", name := "envy", desc := "(II)I" } : Jvm.MethodName)) ∈ am_W := am_kg 7 76 rfl rfl
theorem am_k1624 : (Jvm.Cond.instanceMethod ({ cls := "BudgetJuryModel", name := "envy", desc := "(II)I" } : Jvm.MethodName)) ∈ am_W := am_kg 7 77 rfl rfl
theorem am_k1625 : (Jvm.Cond.selects "BudgetJuryModel" ({ cls := "BudgetJuryModel", name := "envy", desc := "(II)I" } : Jvm.MethodName) ({ cls := "BudgetJuryModel", name := "envy", desc := "(II)I" } : Jvm.MethodName)) ∈ am_W := am_kg 7 78 rfl rfl
theorem am_k1626 : (Jvm.Cond.code ({ cls := "BudgetJuryModel", name := "envy", desc := "(II)I" } : Jvm.MethodName) prog_11_method_63_code (3 : Nat) (Option.some Jvm.ClassFile.FieldType.int)) ∈ am_W := am_kg 7 79 rfl rfl
theorem am_k1627 : (Jvm.Cond.methodLink "BudgetJuryLaw" (125 : Nat) ({ cls := "BudgetJuryModel", name := "next", desc := "()I" } : Jvm.MethodName)) ∈ am_W := am_kg 7 80 rfl rfl
theorem am_k1628 : (Jvm.Cond.instanceMethod ({ cls := "BudgetJuryModel", name := "next", desc := "()I" } : Jvm.MethodName)) ∈ am_W := am_kg 7 81 rfl rfl
theorem am_k1629 : (Jvm.Cond.selects "BudgetJuryModel" ({ cls := "BudgetJuryModel", name := "next", desc := "()I" } : Jvm.MethodName) ({ cls := "BudgetJuryModel", name := "next", desc := "()I" } : Jvm.MethodName)) ∈ am_W := am_kg 7 82 rfl rfl
theorem am_k1630 : (Jvm.Cond.code ({ cls := "BudgetJuryModel", name := "next", desc := "()I" } : Jvm.MethodName) prog_11_method_65_code (1 : Nat) (Option.some Jvm.ClassFile.FieldType.int)) ∈ am_W := am_kg 7 83 rfl rfl
theorem am_k1631 : (Jvm.Cond.methodLink "BudgetJuryModel" (354 : Nat) ({ cls := "BudgetJuryModel", name := "nextOne", desc := "()I" } : Jvm.MethodName)) ∈ am_W := am_kg 7 84 rfl rfl
theorem am_k1633 : (Jvm.Cond.instanceMethod ({ cls := "BudgetJuryModel", name := "nextOne", desc := "()I" } : Jvm.MethodName)) ∈ am_W := am_kg 7 86 rfl rfl
theorem am_k1634 : (Jvm.Cond.code ({ cls := "BudgetJuryModel", name := "nextOne", desc := "()I" } : Jvm.MethodName) prog_11_method_64_code (1 : Nat) (Option.some Jvm.ClassFile.FieldType.int)) ∈ am_W := am_kg 7 87 rfl rfl
theorem am_k1635 : (Jvm.Cond.methodLink "BudgetJuryModel" (344 : Nat) ({ cls := "BudgetJuryModel$State", name := "become", desc := "(LBudgetJuryModel$State;)LBudgetJuryModel$State;" } : Jvm.MethodName)) ∈ am_W := am_kg 7 88 rfl rfl
theorem am_k1636 : (Jvm.Cond.instanceMethod ({ cls := "BudgetJuryModel$State", name := "become", desc := "(LBudgetJuryModel$State;)LBudgetJuryModel$State;" } : Jvm.MethodName)) ∈ am_W := am_kg 7 89 rfl rfl
theorem am_k1637 : (Jvm.Cond.selects "BudgetJuryModel$State" ({ cls := "BudgetJuryModel$State", name := "become", desc := "(LBudgetJuryModel$State;)LBudgetJuryModel$State;" } : Jvm.MethodName) ({ cls := "BudgetJuryModel$State", name := "become", desc := "(LBudgetJuryModel$State;)LBudgetJuryModel$State;" } : Jvm.MethodName)) ∈ am_W := am_kg 7 90 rfl rfl
theorem am_k1638 : (Jvm.Cond.code ({ cls := "BudgetJuryModel$State", name := "become", desc := "(LBudgetJuryModel$State;)LBudgetJuryModel$State;" } : Jvm.MethodName) prog_13_method_3_code (2 : Nat) (Option.some (Jvm.ClassFile.FieldType.object "BudgetJuryModel$State"))) ∈ am_W := am_kg 7 91 rfl rfl
theorem am_k1639 : (Jvm.Cond.methodLink "BudgetJuryModel$State" (56 : Nat) ({ cls := "BudgetJuryModel$State", name := "copy", desc := "([I[I)V" } : Jvm.MethodName)) ∈ am_W := am_kg 7 92 rfl rfl
theorem am_k1641 : (Jvm.Cond.instanceMethod ({ cls := "BudgetJuryModel$State", name := "copy", desc := "([I[I)V" } : Jvm.MethodName)) ∈ am_W := am_kg 7 94 rfl rfl
theorem am_k1642 : (Jvm.Cond.code ({ cls := "BudgetJuryModel$State", name := "copy", desc := "([I[I)V" } : Jvm.MethodName) prog_13_method_2_code (3 : Nat) (Option.none : Option Jvm.ClassFile.FieldType)) ∈ am_W := am_kg 7 95 rfl rfl
theorem am_k1643 : (Jvm.Cond.methodLink "BudgetJuryModel$State" (41 : Nat) ({ cls := "java/lang/System", name := "arraycopy", desc := "(Ljava/lang/Object;ILjava/lang/Object;II)V" } : Jvm.MethodName)) ∈ am_W := am_kg 7 96 rfl rfl
theorem am_k1644 : (Jvm.Cond.static ({ cls := "java/lang/System", name := "arraycopy", desc := "(Ljava/lang/Object;ILjava/lang/Object;II)V" } : Jvm.MethodName)) ∈ am_W := am_kg 7 97 rfl rfl
theorem am_k1645 : (Jvm.Cond.native ({ cls := "java/lang/System", name := "arraycopy", desc := "(Ljava/lang/Object;ILjava/lang/Object;II)V" } : Jvm.MethodName)) ∈ am_W := am_kg 7 98 rfl rfl
theorem am_k1646 : (Jvm.Cond.methodLink "BudgetJuryModel" (348 : Nat) ({ cls := "BudgetJuryModel$State", name := "pay", desc := "()V" } : Jvm.MethodName)) ∈ am_W := am_kg 7 99 rfl rfl
theorem am_k1647 : (Jvm.Cond.instanceMethod ({ cls := "BudgetJuryModel$State", name := "pay", desc := "()V" } : Jvm.MethodName)) ∈ am_W := am_kg 7 100 rfl rfl
theorem am_k1648 : (Jvm.Cond.selects "BudgetJuryModel$State" ({ cls := "BudgetJuryModel$State", name := "pay", desc := "()V" } : Jvm.MethodName) ({ cls := "BudgetJuryModel$State", name := "pay", desc := "()V" } : Jvm.MethodName)) ∈ am_W := am_kg 7 101 rfl rfl
theorem am_k1649 : (Jvm.Cond.code ({ cls := "BudgetJuryModel$State", name := "pay", desc := "()V" } : Jvm.MethodName) prog_13_method_12_code (3 : Nat) (Option.none : Option Jvm.ClassFile.FieldType)) ∈ am_W := am_kg 7 102 rfl rfl
theorem am_k1650 : (Jvm.Cond.methodLink "BudgetJuryModel" (351 : Nat) ({ cls := "BudgetJuryModel$State", name := "next", desc := "()I" } : Jvm.MethodName)) ∈ am_W := am_kg 7 103 rfl rfl
theorem am_k1651 : (Jvm.Cond.instanceMethod ({ cls := "BudgetJuryModel$State", name := "next", desc := "()I" } : Jvm.MethodName)) ∈ am_W := am_kg 7 104 rfl rfl
theorem am_k1652 : (Jvm.Cond.selects "BudgetJuryModel$State" ({ cls := "BudgetJuryModel$State", name := "next", desc := "()I" } : Jvm.MethodName) ({ cls := "BudgetJuryModel$State", name := "next", desc := "()I" } : Jvm.MethodName)) ∈ am_W := am_kg 7 105 rfl rfl
theorem am_k1653 : (Jvm.Cond.code ({ cls := "BudgetJuryModel$State", name := "next", desc := "()I" } : Jvm.MethodName) prog_13_method_13_code (5 : Nat) (Option.some Jvm.ClassFile.FieldType.int)) ∈ am_W := am_kg 7 106 rfl rfl
theorem am_k1654 : (Jvm.Cond.methodLink "BudgetJuryModel$State" (115 : Nat) ({ cls := "BudgetJuryModel$State", name := "canBeChosen", desc := "(I)Z" } : Jvm.MethodName)) ∈ am_W := am_kg 7 107 rfl rfl
theorem am_k1656 : (Jvm.Cond.instanceMethod ({ cls := "BudgetJuryModel$State", name := "canBeChosen", desc := "(I)Z" } : Jvm.MethodName)) ∈ am_W := am_kg 7 109 rfl rfl
theorem am_k1657 : (Jvm.Cond.code ({ cls := "BudgetJuryModel$State", name := "canBeChosen", desc := "(I)Z" } : Jvm.MethodName) prog_13_method_11_code (4 : Nat) (Option.some Jvm.ClassFile.FieldType.boolean)) ∈ am_W := am_kg 7 110 rfl rfl
theorem am_k1658 : (Jvm.Cond.methodLink "BudgetJuryModel$State" (108 : Nat) ({ cls := "BudgetJuryModel$State", name := "isBanned", desc := "(I)Z" } : Jvm.MethodName)) ∈ am_W := am_kg 7 111 rfl rfl
theorem am_k1659 : (Jvm.Cond.methodLink "BudgetJuryModel$State" (118 : Nat) ({ cls := "BudgetJuryModel$State", name := "share", desc := "(I)I" } : Jvm.MethodName)) ∈ am_W := am_kg 7 112 rfl rfl
theorem am_k1660 : (Jvm.Cond.methodLink "BudgetJuryLaw" (129 : Nat) ({ cls := "BudgetJuryModel", name := "approve", desc := "(IIZ)Z" } : Jvm.MethodName)) ∈ am_W := am_kg 7 113 rfl rfl
theorem am_k1661 : (Jvm.Cond.instanceMethod ({ cls := "BudgetJuryModel", name := "approve", desc := "(IIZ)Z" } : Jvm.MethodName)) ∈ am_W := am_kg 7 114 rfl rfl
theorem am_k1662 : (Jvm.Cond.selects "BudgetJuryModel" ({ cls := "BudgetJuryModel", name := "approve", desc := "(IIZ)Z" } : Jvm.MethodName) ({ cls := "BudgetJuryModel", name := "approve", desc := "(IIZ)Z" } : Jvm.MethodName)) ∈ am_W := am_kg 7 115 rfl rfl
theorem am_k1663 : (Jvm.Cond.code ({ cls := "BudgetJuryModel", name := "approve", desc := "(IIZ)Z" } : Jvm.MethodName) prog_11_method_66_code (5 : Nat) (Option.some Jvm.ClassFile.FieldType.boolean)) ∈ am_W := am_kg 7 116 rfl rfl
theorem am_k1664 : (Jvm.Cond.methodLink "BudgetJuryLaw" (132 : Nat) ({ cls := "BudgetJuryModel", name := "give", desc := "(II)I" } : Jvm.MethodName)) ∈ am_W := am_kg 7 117 rfl rfl
theorem am_k1665 : (Jvm.Cond.instanceMethod ({ cls := "BudgetJuryModel", name := "give", desc := "(II)I" } : Jvm.MethodName)) ∈ am_W := am_kg 7 118 rfl rfl
theorem am_k1666 : (Jvm.Cond.selects "BudgetJuryModel" ({ cls := "BudgetJuryModel", name := "give", desc := "(II)I" } : Jvm.MethodName) ({ cls := "BudgetJuryModel", name := "give", desc := "(II)I" } : Jvm.MethodName)) ∈ am_W := am_kg 7 119 rfl rfl
theorem am_k1667 : (Jvm.Cond.code ({ cls := "BudgetJuryModel", name := "give", desc := "(II)I" } : Jvm.MethodName) prog_11_method_67_code (3 : Nat) (Option.some Jvm.ClassFile.FieldType.int)) ∈ am_W := am_kg 7 120 rfl rfl
theorem am_k1668 : (Jvm.Cond.methodLink "BudgetJuryLaw" (135 : Nat) ({ cls := "BudgetJuryModel", name := "setBudget", desc := "(I)I" } : Jvm.MethodName)) ∈ am_W := am_kg 7 121 rfl rfl
theorem am_k1669 : (Jvm.Cond.instanceMethod ({ cls := "BudgetJuryModel", name := "setBudget", desc := "(I)I" } : Jvm.MethodName)) ∈ am_W := am_kg 7 122 rfl rfl
theorem am_k1670 : (Jvm.Cond.selects "BudgetJuryModel" ({ cls := "BudgetJuryModel", name := "setBudget", desc := "(I)I" } : Jvm.MethodName) ({ cls := "BudgetJuryModel", name := "setBudget", desc := "(I)I" } : Jvm.MethodName)) ∈ am_W := am_kg 7 123 rfl rfl
theorem am_k1671 : (Jvm.Cond.code ({ cls := "BudgetJuryModel", name := "setBudget", desc := "(I)I" } : Jvm.MethodName) prog_11_method_68_code (3 : Nat) (Option.some Jvm.ClassFile.FieldType.int)) ∈ am_W := am_kg 7 124 rfl rfl
theorem am_k1672 : (Jvm.Cond.methodLink "BudgetJuryLaw" (138 : Nat) ({ cls := "BudgetJuryModel", name := "open", desc := "(I)I" } : Jvm.MethodName)) ∈ am_W := am_kg 7 125 rfl rfl
theorem am_k1673 : (Jvm.Cond.instanceMethod ({ cls := "BudgetJuryModel", name := "open", desc := "(I)I" } : Jvm.MethodName)) ∈ am_W := am_kg 7 126 rfl rfl
theorem am_k1674 : (Jvm.Cond.selects "BudgetJuryModel" ({ cls := "BudgetJuryModel", name := "open", desc := "(I)I" } : Jvm.MethodName) ({ cls := "BudgetJuryModel", name := "open", desc := "(I)I" } : Jvm.MethodName)) ∈ am_W := am_kg 7 127 rfl rfl
theorem am_k1675 : (Jvm.Cond.code ({ cls := "BudgetJuryModel", name := "open", desc := "(I)I" } : Jvm.MethodName) prog_11_method_69_code (3 : Nat) (Option.some Jvm.ClassFile.FieldType.int)) ∈ am_W := am_kg 7 128 rfl rfl
theorem am_k1676 : (Jvm.Cond.methodLink "BudgetJuryLaw" (141 : Nat) ({ cls := "BudgetJuryModel", name := "pass", desc := "(I)I" } : Jvm.MethodName)) ∈ am_W := am_kg 7 129 rfl rfl
theorem am_k1677 : (Jvm.Cond.instanceMethod ({ cls := "BudgetJuryModel", name := "pass", desc := "(I)I" } : Jvm.MethodName)) ∈ am_W := am_kg 7 130 rfl rfl
theorem am_k1678 : (Jvm.Cond.selects "BudgetJuryModel" ({ cls := "BudgetJuryModel", name := "pass", desc := "(I)I" } : Jvm.MethodName) ({ cls := "BudgetJuryModel", name := "pass", desc := "(I)I" } : Jvm.MethodName)) ∈ am_W := am_kg 7 131 rfl rfl
theorem am_k1679 : (Jvm.Cond.code ({ cls := "BudgetJuryModel", name := "pass", desc := "(I)I" } : Jvm.MethodName) prog_11_method_70_code (4 : Nat) (Option.some Jvm.ClassFile.FieldType.int)) ∈ am_W := am_kg 7 132 rfl rfl
theorem am_k1680 : (Jvm.Cond.methodLink "BudgetJuryModel" (357 : Nat) ({ cls := "BudgetJuryModel$State", name := "pass", desc := "()I" } : Jvm.MethodName)) ∈ am_W := am_kg 7 133 rfl rfl
theorem am_k1681 : (Jvm.Cond.instanceMethod ({ cls := "BudgetJuryModel$State", name := "pass", desc := "()I" } : Jvm.MethodName)) ∈ am_W := am_kg 7 134 rfl rfl
theorem am_k1682 : (Jvm.Cond.selects "BudgetJuryModel$State" ({ cls := "BudgetJuryModel$State", name := "pass", desc := "()I" } : Jvm.MethodName) ({ cls := "BudgetJuryModel$State", name := "pass", desc := "()I" } : Jvm.MethodName)) ∈ am_W := am_kg 7 135 rfl rfl
theorem am_k1683 : (Jvm.Cond.code ({ cls := "BudgetJuryModel$State", name := "pass", desc := "()I" } : Jvm.MethodName) prog_13_method_17_code (3 : Nat) (Option.some Jvm.ClassFile.FieldType.int)) ∈ am_W := am_kg 7 136 rfl rfl
theorem am_k1684 : (Jvm.Cond.methodLink "BudgetJuryModel$State" (129 : Nat) ({ cls := "BudgetJuryModel$State", name := "pay", desc := "()V" } : Jvm.MethodName)) ∈ am_W := am_kg 7 137 rfl rfl
theorem am_k1685 : (Jvm.Cond.methodLink "BudgetJuryModel$State" (132 : Nat) ({ cls := "BudgetJuryModel$State", name := "next", desc := "()I" } : Jvm.MethodName)) ∈ am_W := am_kg 7 138 rfl rfl
theorem am_k1686 : (Jvm.Cond.methodLink "BudgetJuryModel$State" (136 : Nat) ({ cls := "BudgetJuryModel$State", name := "buy", desc := "(I)V" } : Jvm.MethodName)) ∈ am_W := am_kg 7 139 rfl rfl
theorem am_k1688 : (Jvm.Cond.instanceMethod ({ cls := "BudgetJuryModel$State", name := "buy", desc := "(I)V" } : Jvm.MethodName)) ∈ am_W := am_kg 7 141 rfl rfl
theorem am_k1689 : (Jvm.Cond.code ({ cls := "BudgetJuryModel$State", name := "buy", desc := "(I)V" } : Jvm.MethodName) prog_13_method_14_code (6 : Nat) (Option.none : Option Jvm.ClassFile.FieldType)) ∈ am_W := am_kg 7 142 rfl rfl
theorem am_k1690 : (Jvm.Cond.methodLink "BudgetJuryModel$State" (125 : Nat) ({ cls := "BudgetJuryModel$State", name := "build", desc := "(I)V" } : Jvm.MethodName)) ∈ am_W := am_kg 7 143 rfl rfl
theorem am_k1692 : (Jvm.Cond.instanceMethod ({ cls := "BudgetJuryModel$State", name := "build", desc := "(I)V" } : Jvm.MethodName)) ∈ am_W := am_kg 7 145 rfl rfl
theorem am_k1693 : (Jvm.Cond.code ({ cls := "BudgetJuryModel$State", name := "build", desc := "(I)V" } : Jvm.MethodName) prog_13_method_15_code (2 : Nat) (Option.none : Option Jvm.ClassFile.FieldType)) ∈ am_W := am_kg 7 146 rfl rfl
theorem am_k1694 : (Jvm.Cond.methodLink "BudgetJuryModel$State" (139 : Nat) ({ cls := "BudgetJuryModel$State", name := "nextOfPot", desc := "()I" } : Jvm.MethodName)) ∈ am_W := am_kg 7 147 rfl rfl
theorem am_k1696 : (Jvm.Cond.instanceMethod ({ cls := "BudgetJuryModel$State", name := "nextOfPot", desc := "()I" } : Jvm.MethodName)) ∈ am_W := am_kg 7 149 rfl rfl
theorem am_k1697 : (Jvm.Cond.code ({ cls := "BudgetJuryModel$State", name := "nextOfPot", desc := "()I" } : Jvm.MethodName) prog_13_method_16_code (4 : Nat) (Option.some Jvm.ClassFile.FieldType.int)) ∈ am_W := am_kg 7 150 rfl rfl
theorem am_k1698 : (Jvm.Cond.methodLink "BudgetJuryLaw" (144 : Nat) ({ cls := "BudgetJuryModel", name := "until", desc := "(I)I" } : Jvm.MethodName)) ∈ am_W := am_kg 7 151 rfl rfl
theorem am_k1699 : (Jvm.Cond.instanceMethod ({ cls := "BudgetJuryModel", name := "until", desc := "(I)I" } : Jvm.MethodName)) ∈ am_W := am_kg 7 152 rfl rfl
theorem am_k1700 : (Jvm.Cond.selects "BudgetJuryModel" ({ cls := "BudgetJuryModel", name := "until", desc := "(I)I" } : Jvm.MethodName) ({ cls := "BudgetJuryModel", name := "until", desc := "(I)I" } : Jvm.MethodName)) ∈ am_W := am_kg 7 153 rfl rfl
theorem am_k1701 : (Jvm.Cond.code ({ cls := "BudgetJuryModel", name := "until", desc := "(I)I" } : Jvm.MethodName) prog_11_method_71_code (3 : Nat) (Option.some Jvm.ClassFile.FieldType.int)) ∈ am_W := am_kg 7 154 rfl rfl
theorem am_k1702 : (Jvm.Cond.methodLink "BudgetJuryLaw" (147 : Nat) ({ cls := "BudgetJuryModel", name := "foresee", desc := "(II)I" } : Jvm.MethodName)) ∈ am_W := am_kg 7 155 rfl rfl
theorem am_k1703 : (Jvm.Cond.instanceMethod ({ cls := "BudgetJuryModel", name := "foresee", desc := "(II)I" } : Jvm.MethodName)) ∈ am_W := am_kg 7 156 rfl rfl
theorem am_k1704 : (Jvm.Cond.selects "BudgetJuryModel" ({ cls := "BudgetJuryModel", name := "foresee", desc := "(II)I" } : Jvm.MethodName) ({ cls := "BudgetJuryModel", name := "foresee", desc := "(II)I" } : Jvm.MethodName)) ∈ am_W := am_kg 7 157 rfl rfl
theorem am_k1705 : (Jvm.Cond.code ({ cls := "BudgetJuryModel", name := "foresee", desc := "(II)I" } : Jvm.MethodName) prog_11_method_72_code (3 : Nat) (Option.some Jvm.ClassFile.FieldType.int)) ∈ am_W := am_kg 7 158 rfl rfl
theorem am_k1706 : (Jvm.Cond.methodLink "BudgetJuryModel" (360 : Nat) ({ cls := "BudgetJuryModel$State", name := "pass", desc := "(I)LBudgetJuryModel$State;" } : Jvm.MethodName)) ∈ am_W := am_kg 7 159 rfl rfl
theorem am_k1707 : (Jvm.Cond.instanceMethod ({ cls := "BudgetJuryModel$State", name := "pass", desc := "(I)LBudgetJuryModel$State;" } : Jvm.MethodName)) ∈ am_W := am_kg 7 160 rfl rfl
theorem am_k1708 : (Jvm.Cond.selects "BudgetJuryModel$State" ({ cls := "BudgetJuryModel$State", name := "pass", desc := "(I)LBudgetJuryModel$State;" } : Jvm.MethodName) ({ cls := "BudgetJuryModel$State", name := "pass", desc := "(I)LBudgetJuryModel$State;" } : Jvm.MethodName)) ∈ am_W := am_kg 7 161 rfl rfl
theorem am_k1709 : (Jvm.Cond.code ({ cls := "BudgetJuryModel$State", name := "pass", desc := "(I)LBudgetJuryModel$State;" } : Jvm.MethodName) prog_13_method_18_code (3 : Nat) (Option.some (Jvm.ClassFile.FieldType.object "BudgetJuryModel$State"))) ∈ am_W := am_kg 7 162 rfl rfl
theorem am_k1710 : (Jvm.Cond.methodLink "BudgetJuryModel$State" (145 : Nat) ({ cls := "BudgetJuryModel$State", name := "pass", desc := "()I" } : Jvm.MethodName)) ∈ am_W := am_kg 7 163 rfl rfl
theorem am_k1711 : (Jvm.Cond.methodLink "BudgetJuryLaw" (150 : Nat) ({ cls := "BudgetJuryModel", name := "advise", desc := "(II)I" } : Jvm.MethodName)) ∈ am_W := am_kg 7 164 rfl rfl
theorem am_k1712 : (Jvm.Cond.instanceMethod ({ cls := "BudgetJuryModel", name := "advise", desc := "(II)I" } : Jvm.MethodName)) ∈ am_W := am_kg 7 165 rfl rfl
theorem am_k1713 : (Jvm.Cond.selects "BudgetJuryModel" ({ cls := "BudgetJuryModel", name := "advise", desc := "(II)I" } : Jvm.MethodName) ({ cls := "BudgetJuryModel", name := "advise", desc := "(II)I" } : Jvm.MethodName)) ∈ am_W := am_kg 7 166 rfl rfl
theorem am_k1714 : (Jvm.Cond.code ({ cls := "BudgetJuryModel", name := "advise", desc := "(II)I" } : Jvm.MethodName) prog_11_method_73_code (7 : Nat) (Option.some Jvm.ClassFile.FieldType.int)) ∈ am_W := am_kg 7 167 rfl rfl
theorem am_k1715 : (Jvm.Cond.methodLink "BudgetJuryLaw" (153 : Nat) ({ cls := "BudgetJuryModel", name := "spare", desc := "(I)I" } : Jvm.MethodName)) ∈ am_W := am_kg 7 168 rfl rfl
theorem am_k1716 : (Jvm.Cond.instanceMethod ({ cls := "BudgetJuryModel", name := "spare", desc := "(I)I" } : Jvm.MethodName)) ∈ am_W := am_kg 7 169 rfl rfl
theorem am_k1717 : (Jvm.Cond.selects "BudgetJuryModel" ({ cls := "BudgetJuryModel", name := "spare", desc := "(I)I" } : Jvm.MethodName) ({ cls := "BudgetJuryModel", name := "spare", desc := "(I)I" } : Jvm.MethodName)) ∈ am_W := am_kg 7 170 rfl rfl
theorem am_k1718 : (Jvm.Cond.code ({ cls := "BudgetJuryModel", name := "spare", desc := "(I)I" } : Jvm.MethodName) prog_11_method_74_code (6 : Nat) (Option.some Jvm.ClassFile.FieldType.int)) ∈ am_W := am_kg 7 171 rfl rfl
theorem am_k1719 : (Jvm.Cond.methodLink "BudgetJuryLaw" (158 : Nat) ({ cls := "BudgetJuryModel", name := "mean", desc := "()D" } : Jvm.MethodName)) ∈ am_W := am_kg 7 172 rfl rfl
theorem am_k1720 : (Jvm.Cond.instanceMethod ({ cls := "BudgetJuryModel", name := "mean", desc := "()D" } : Jvm.MethodName)) ∈ am_W := am_kg 7 173 rfl rfl
theorem am_k1721 : (Jvm.Cond.selects "BudgetJuryModel" ({ cls := "BudgetJuryModel", name := "mean", desc := "()D" } : Jvm.MethodName) ({ cls := "BudgetJuryModel", name := "mean", desc := "()D" } : Jvm.MethodName)) ∈ am_W := am_kg 7 174 rfl rfl
theorem am_k1722 : (Jvm.Cond.code ({ cls := "BudgetJuryModel", name := "mean", desc := "()D" } : Jvm.MethodName) prog_11_method_75_code (3 : Nat) (Option.some Jvm.ClassFile.FieldType.double)) ∈ am_W := am_kg 7 175 rfl rfl
theorem am_k1723 : (Jvm.Cond.methodLink "BudgetJuryLaw" (163 : Nat) ({ cls := "BudgetJuryModel", name := "digest", desc := "()J" } : Jvm.MethodName)) ∈ am_W := am_kg 7 176 rfl rfl
theorem am_k1724 : (Jvm.Cond.instanceMethod ({ cls := "BudgetJuryModel", name := "digest", desc := "()J" } : Jvm.MethodName)) ∈ am_W := am_kg 7 177 rfl rfl
theorem am_k1725 : (Jvm.Cond.selects "BudgetJuryModel" ({ cls := "BudgetJuryModel", name := "digest", desc := "()J" } : Jvm.MethodName) ({ cls := "BudgetJuryModel", name := "digest", desc := "()J" } : Jvm.MethodName)) ∈ am_W := am_kg 7 178 rfl rfl
theorem am_k1726 : (Jvm.Cond.code ({ cls := "BudgetJuryModel", name := "digest", desc := "()J" } : Jvm.MethodName) prog_11_method_76_code (5 : Nat) (Option.some Jvm.ClassFile.FieldType.long)) ∈ am_W := am_kg 7 179 rfl rfl
theorem am_k1727 : (Jvm.Cond.constantLong "BudgetJuryModel" (366 : Nat) (881 : Int64)) ∈ am_W := am_kg 7 180 rfl rfl
theorem am_k1728 : (Jvm.Cond.constantLong "BudgetJuryModel" (368 : Nat) (31 : Int64)) ∈ am_W := am_kg 7 181 rfl rfl
theorem am_k1730 : (Jvm.Cond.fieldLink "java/lang/String" (9 : Nat) "java/lang/String" "value" "[B") ∈ am_W := am_kg 7 183 rfl rfl
theorem am_k1731 : (Jvm.Cond.fieldLink "java/lang/String" (15 : Nat) "java/lang/String" "coder" "B") ∈ am_W := am_kg 7 184 rfl rfl
