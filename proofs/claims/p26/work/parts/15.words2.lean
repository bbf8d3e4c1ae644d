theorem am_k720 : (Jvm.Cond.methodLink "BudgetJury" (189 : Nat) ({ cls := "BudgetJury$Parish", name := "setFan", desc := "(IIZ)V" } : Jvm.MethodName)) ∈ am_W := am_kg 3 186 rfl rfl
theorem am_k721 : (Jvm.Cond.instanceMethod ({ cls := "BudgetJury$Parish", name := "setFan", desc := "(IIZ)V" } : Jvm.MethodName)) ∈ am_W := am_kg 3 187 rfl rfl
theorem am_k722 : (Jvm.Cond.selects "BudgetJury$Parish" ({ cls := "BudgetJury$Parish", name := "setFan", desc := "(IIZ)V" } : Jvm.MethodName) ({ cls := "BudgetJury$Parish", name := "setFan", desc := "(IIZ)V" } : Jvm.MethodName)) ∈ am_W := am_kg 3 188 rfl rfl
theorem am_k723 : (Jvm.Cond.code ({ cls := "BudgetJury$Parish", name := "setFan", desc := "(IIZ)V" } : Jvm.MethodName) prog_5_method_18_code (4 : Nat) (Option.none : Option Jvm.ClassFile.FieldType)) ∈ am_W := am_kg 3 189 rfl rfl
theorem am_k724 : (Jvm.Cond.methodLink "BudgetJuryLaw" (230 : Nat) ({ cls := "BudgetJury", name := "spare", desc := "(I)I" } : Jvm.MethodName)) ∈ am_W := am_kg 3 190 rfl rfl
theorem am_k725 : (Jvm.Cond.instanceMethod ({ cls := "BudgetJury", name := "spare", desc := "(I)I" } : Jvm.MethodName)) ∈ am_W := am_kg 3 191 rfl rfl
theorem am_k726 : (Jvm.Cond.selects "BudgetJury" ({ cls := "BudgetJury", name := "spare", desc := "(I)I" } : Jvm.MethodName) ({ cls := "BudgetJury", name := "spare", desc := "(I)I" } : Jvm.MethodName)) ∈ am_W := am_kg 3 192 rfl rfl
theorem am_k727 : (Jvm.Cond.code ({ cls := "BudgetJury", name := "spare", desc := "(I)I" } : Jvm.MethodName) prog_1_method_24_code (5 : Nat) (Option.some Jvm.ClassFile.FieldType.int)) ∈ am_W := am_kg 3 193 rfl rfl
theorem am_k728 : (Jvm.Cond.methodLink "BudgetJuryLaw" (207 : Nat) ({ cls := "BudgetJury", name := "mean", desc := "()D" } : Jvm.MethodName)) ∈ am_W := am_kg 3 194 rfl rfl
theorem am_k729 : (Jvm.Cond.instanceMethod ({ cls := "BudgetJury", name := "mean", desc := "()D" } : Jvm.MethodName)) ∈ am_W := am_kg 3 195 rfl rfl
theorem am_k730 : (Jvm.Cond.selects "BudgetJury" ({ cls := "BudgetJury", name := "mean", desc := "()D" } : Jvm.MethodName) ({ cls := "BudgetJury", name := "mean", desc := "()D" } : Jvm.MethodName)) ∈ am_W := am_kg 3 196 rfl rfl
theorem am_k731 : (Jvm.Cond.code ({ cls := "BudgetJury", name := "mean", desc := "()D" } : Jvm.MethodName) prog_1_method_25_code (3 : Nat) (Option.some Jvm.ClassFile.FieldType.double)) ∈ am_W := am_kg 3 197 rfl rfl
theorem am_k732 : (Jvm.Cond.methodLink "BudgetJuryLaw" (220 : Nat) ({ cls := "BudgetJury", name := "digest", desc := "()J" } : Jvm.MethodName)) ∈ am_W := am_kg 3 198 rfl rfl
theorem am_k733 : (Jvm.Cond.instanceMethod ({ cls := "BudgetJury", name := "digest", desc := "()J" } : Jvm.MethodName)) ∈ am_W := am_kg 3 199 rfl rfl
theorem am_k734 : (Jvm.Cond.selects "BudgetJury" ({ cls := "BudgetJury", name := "digest", desc := "()J" } : Jvm.MethodName) ({ cls := "BudgetJury", name := "digest", desc := "()J" } : Jvm.MethodName)) ∈ am_W := am_kg 3 200 rfl rfl
theorem am_k735 : (Jvm.Cond.code ({ cls := "BudgetJury", name := "digest", desc := "()J" } : Jvm.MethodName) prog_1_method_26_code (5 : Nat) (Option.some Jvm.ClassFile.FieldType.long)) ∈ am_W := am_kg 3 201 rfl rfl
theorem am_k736 : (Jvm.Cond.constantLong "BudgetJury" (231 : Nat) (881 : Int64)) ∈ am_W := am_kg 3 202 rfl rfl
theorem am_k737 : (Jvm.Cond.constantLong "BudgetJury" (233 : Nat) (31 : Int64)) ∈ am_W := am_kg 3 203 rfl rfl
theorem am_k738 : (Jvm.Cond.methodLink "BudgetJury" (235 : Nat) ({ cls := "BudgetJury", name := "next", desc := "()I" } : Jvm.MethodName)) ∈ am_W := am_kg 3 204 rfl rfl
theorem am_k739 : (Jvm.Cond.methodLink "BudgetJuryLaw" (239 : Nat) ({ cls := "BudgetJuryLaw$Sim", name := "pass", desc := "()I" } : Jvm.MethodName)) ∈ am_W := am_kg 3 205 rfl rfl
theorem am_k740 : (Jvm.Cond.instanceMethod ({ cls := "BudgetJuryLaw$Sim", name := "pass", desc := "()I" } : Jvm.MethodName)) ∈ am_W := am_kg 3 206 rfl rfl
theorem am_k741 : (Jvm.Cond.selects "BudgetJuryLaw$Sim" ({ cls := "BudgetJuryLaw$Sim", name := "pass", desc := "()I" } : Jvm.MethodName) ({ cls := "BudgetJuryLaw$Sim", name := "pass", desc := "()I" } : Jvm.MethodName)) ∈ am_W := am_kg 3 207 rfl rfl
theorem am_k742 : (Jvm.Cond.code ({ cls := "BudgetJuryLaw$Sim", name := "pass", desc := "()I" } : Jvm.MethodName) prog_11_method_13_code (7 : Nat) (Option.some Jvm.ClassFile.FieldType.int)) ∈ am_W := am_kg 3 208 rfl rfl
theorem am_k743 : (Jvm.Cond.methodLink "BudgetJuryLaw$Sim" (82 : Nat) ({ cls := "BudgetJuryLaw$Sim", name := "open", desc := "()V" } : Jvm.MethodName)) ∈ am_W := am_kg 3 209 rfl rfl
theorem am_k744 : (Jvm.Cond.instanceMethod ({ cls := "BudgetJuryLaw$Sim", name := "open", desc := "()V" } : Jvm.MethodName)) ∈ am_W := am_kg 3 210 rfl rfl
theorem am_k745 : (Jvm.Cond.selects "BudgetJuryLaw$Sim" ({ cls := "BudgetJuryLaw$Sim", name := "open", desc := "()V" } : Jvm.MethodName) ({ cls := "BudgetJuryLaw$Sim", name := "open", desc := "()V" } : Jvm.MethodName)) ∈ am_W := am_kg 3 211 rfl rfl
theorem am_k746 : (Jvm.Cond.code ({ cls := "BudgetJuryLaw$Sim", name := "open", desc := "()V" } : Jvm.MethodName) prog_11_method_9_code (6 : Nat) (Option.none : Option Jvm.ClassFile.FieldType)) ∈ am_W := am_kg 3 212 rfl rfl
theorem am_k747 : (Jvm.Cond.methodLink "BudgetJuryLaw$Sim" (50 : Nat) ({ cls := "java/lang/Math", name := "min", desc := "(II)I" } : Jvm.MethodName)) ∈ am_W := am_kg 3 213 rfl rfl
theorem am_k748 : (Jvm.Cond.methodLink "BudgetJuryLaw$Sim" (85 : Nat) ({ cls := "BudgetJuryLaw$Sim", name := "next", desc := "()I" } : Jvm.MethodName)) ∈ am_W := am_kg 3 214 rfl rfl
theorem am_k749 : (Jvm.Cond.instanceMethod ({ cls := "BudgetJuryLaw$Sim", name := "next", desc := "()I" } : Jvm.MethodName)) ∈ am_W := am_kg 3 215 rfl rfl
theorem am_k750 : (Jvm.Cond.selects "BudgetJuryLaw$Sim" ({ cls := "BudgetJuryLaw$Sim", name := "next", desc := "()I" } : Jvm.MethodName) ({ cls := "BudgetJuryLaw$Sim", name := "next", desc := "()I" } : Jvm.MethodName)) ∈ am_W := am_kg 3 216 rfl rfl
theorem am_k751 : (Jvm.Cond.code ({ cls := "BudgetJuryLaw$Sim", name := "next", desc := "()I" } : Jvm.MethodName) prog_11_method_10_code (3 : Nat) (Option.some Jvm.ClassFile.FieldType.int)) ∈ am_W := am_kg 3 217 rfl rfl
theorem am_k752 : (Jvm.Cond.methodLink "BudgetJuryLaw$Sim" (73 : Nat) ({ cls := "BudgetJuryLaw$Sim", name := "canBe", desc := "(I)Z" } : Jvm.MethodName)) ∈ am_W := am_kg 3 218 rfl rfl
theorem am_k753 : (Jvm.Cond.instanceMethod ({ cls := "BudgetJuryLaw$Sim", name := "canBe", desc := "(I)Z" } : Jvm.MethodName)) ∈ am_W := am_kg 3 219 rfl rfl
theorem am_k754 : (Jvm.Cond.selects "BudgetJuryLaw$Sim" ({ cls := "BudgetJuryLaw$Sim", name := "canBe", desc := "(I)Z" } : Jvm.MethodName) ({ cls := "BudgetJuryLaw$Sim", name := "canBe", desc := "(I)Z" } : Jvm.MethodName)) ∈ am_W := am_kg 3 220 rfl rfl
theorem am_k755 : (Jvm.Cond.code ({ cls := "BudgetJuryLaw$Sim", name := "canBe", desc := "(I)Z" } : Jvm.MethodName) prog_11_method_7_code (7 : Nat) (Option.some Jvm.ClassFile.FieldType.boolean)) ∈ am_W := am_kg 3 221 rfl rfl
theorem am_k756 : (Jvm.Cond.methodLink "BudgetJuryLaw$Sim" (60 : Nat) ({ cls := "BudgetJuryLaw$Sim", name := "isBanned", desc := "(I)Z" } : Jvm.MethodName)) ∈ am_W := am_kg 3 222 rfl rfl
theorem am_k757 : (Jvm.Cond.instanceMethod ({ cls := "BudgetJuryLaw$Sim", name := "isBanned", desc := "(I)Z" } : Jvm.MethodName)) ∈ am_W := am_kg 3 223 rfl rfl
theorem am_k758 : (Jvm.Cond.selects "BudgetJuryLaw$Sim" ({ cls := "BudgetJuryLaw$Sim", name := "isBanned", desc := "(I)Z" } : Jvm.MethodName) ({ cls := "BudgetJuryLaw$Sim", name := "isBanned", desc := "(I)Z" } : Jvm.MethodName)) ∈ am_W := am_kg 3 224 rfl rfl
theorem am_k759 : (Jvm.Cond.code ({ cls := "BudgetJuryLaw$Sim", name := "isBanned", desc := "(I)Z" } : Jvm.MethodName) prog_11_method_6_code (7 : Nat) (Option.some Jvm.ClassFile.FieldType.boolean)) ∈ am_W := am_kg 3 225 rfl rfl
theorem am_k760 : (Jvm.Cond.methodLink "BudgetJuryLaw$Sim" (56 : Nat) ({ cls := "BudgetJuryLaw$Sim", name := "holds", desc := "([I)Z" } : Jvm.MethodName)) ∈ am_W := am_kg 3 226 rfl rfl
theorem am_k761 : (Jvm.Cond.instanceMethod ({ cls := "BudgetJuryLaw$Sim", name := "holds", desc := "([I)Z" } : Jvm.MethodName)) ∈ am_W := am_kg 3 227 rfl rfl
theorem am_k762 : (Jvm.Cond.selects "BudgetJuryLaw$Sim" ({ cls := "BudgetJuryLaw$Sim", name := "holds", desc := "([I)Z" } : Jvm.MethodName) ({ cls := "BudgetJuryLaw$Sim", name := "holds", desc := "([I)Z" } : Jvm.MethodName)) ∈ am_W := am_kg 3 228 rfl rfl
theorem am_k763 : (Jvm.Cond.code ({ cls := "BudgetJuryLaw$Sim", name := "holds", desc := "([I)Z" } : Jvm.MethodName) prog_11_method_5_code (6 : Nat) (Option.some Jvm.ClassFile.FieldType.boolean)) ∈ am_W := am_kg 3 229 rfl rfl
theorem am_k764 : (Jvm.Cond.methodLink "BudgetJuryLaw$Sim" (43 : Nat) ({ cls := "BudgetJuryLaw$Sim", name := "fans", desc := "(I)I" } : Jvm.MethodName)) ∈ am_W := am_kg 3 230 rfl rfl
theorem am_k765 : (Jvm.Cond.instanceMethod ({ cls := "BudgetJuryLaw$Sim", name := "fans", desc := "(I)I" } : Jvm.MethodName)) ∈ am_W := am_kg 3 231 rfl rfl
theorem am_k766 : (Jvm.Cond.selects "BudgetJuryLaw$Sim" ({ cls := "BudgetJuryLaw$Sim", name := "fans", desc := "(I)I" } : Jvm.MethodName) ({ cls := "BudgetJuryLaw$Sim", name := "fans", desc := "(I)I" } : Jvm.MethodName)) ∈ am_W := am_kg 3 232 rfl rfl
theorem am_k767 : (Jvm.Cond.code ({ cls := "BudgetJuryLaw$Sim", name := "fans", desc := "(I)I" } : Jvm.MethodName) prog_11_method_2_code (7 : Nat) (Option.some Jvm.ClassFile.FieldType.int)) ∈ am_W := am_kg 3 233 rfl rfl
theorem am_k768 : (Jvm.Cond.methodLink "BudgetJuryLaw$Sim" (47 : Nat) ({ cls := "BudgetJuryLaw$Sim", name := "pleased", desc := "(I)I" } : Jvm.MethodName)) ∈ am_W := am_kg 3 234 rfl rfl
theorem am_k769 : (Jvm.Cond.instanceMethod ({ cls := "BudgetJuryLaw$Sim", name := "pleased", desc := "(I)I" } : Jvm.MethodName)) ∈ am_W := am_kg 3 235 rfl rfl
theorem am_k770 : (Jvm.Cond.selects "BudgetJuryLaw$Sim" ({ cls := "BudgetJuryLaw$Sim", name := "pleased", desc := "(I)I" } : Jvm.MethodName) ({ cls := "BudgetJuryLaw$Sim", name := "pleased", desc := "(I)I" } : Jvm.MethodName)) ∈ am_W := am_kg 3 236 rfl rfl
theorem am_k771 : (Jvm.Cond.code ({ cls := "BudgetJuryLaw$Sim", name := "pleased", desc := "(I)I" } : Jvm.MethodName) prog_11_method_4_code (4 : Nat) (Option.some Jvm.ClassFile.FieldType.int)) ∈ am_W := am_kg 3 237 rfl rfl
theorem am_k772 : (Jvm.Cond.methodLink "BudgetJuryLaw$Sim" (76 : Nat) ({ cls := "BudgetJuryLaw$Sim", name := "share", desc := "(I)I" } : Jvm.MethodName)) ∈ am_W := am_kg 3 238 rfl rfl
theorem am_k773 : (Jvm.Cond.instanceMethod ({ cls := "BudgetJuryLaw$Sim", name := "share", desc := "(I)I" } : Jvm.MethodName)) ∈ am_W := am_kg 3 239 rfl rfl
theorem am_k774 : (Jvm.Cond.selects "BudgetJuryLaw$Sim" ({ cls := "BudgetJuryLaw$Sim", name := "share", desc := "(I)I" } : Jvm.MethodName) ({ cls := "BudgetJuryLaw$Sim", name := "share", desc := "(I)I" } : Jvm.MethodName)) ∈ am_W := am_kg 4 0 rfl rfl
theorem am_k775 : (Jvm.Cond.code ({ cls := "BudgetJuryLaw$Sim", name := "share", desc := "(I)I" } : Jvm.MethodName) prog_11_method_8_code (7 : Nat) (Option.some Jvm.ClassFile.FieldType.int)) ∈ am_W := am_kg 4 1 rfl rfl
theorem am_k776 : (Jvm.Cond.methodLink "BudgetJuryLaw$Sim" (64 : Nat) ({ cls := "BudgetJuryLaw$Sim", name := "rich", desc := "(I)I" } : Jvm.MethodName)) ∈ am_W := am_kg 4 2 rfl rfl
theorem am_k777 : (Jvm.Cond.instanceMethod ({ cls := "BudgetJuryLaw$Sim", name := "rich", desc := "(I)I" } : Jvm.MethodName)) ∈ am_W := am_kg 4 3 rfl rfl
theorem am_k778 : (Jvm.Cond.selects "BudgetJuryLaw$Sim" ({ cls := "BudgetJuryLaw$Sim", name := "rich", desc := "(I)I" } : Jvm.MethodName) ({ cls := "BudgetJuryLaw$Sim", name := "rich", desc := "(I)I" } : Jvm.MethodName)) ∈ am_W := am_kg 4 4 rfl rfl
theorem am_k779 : (Jvm.Cond.code ({ cls := "BudgetJuryLaw$Sim", name := "rich", desc := "(I)I" } : Jvm.MethodName) prog_11_method_3_code (4 : Nat) (Option.some Jvm.ClassFile.FieldType.int)) ∈ am_W := am_kg 4 5 rfl rfl
theorem am_k780 : (Jvm.Cond.methodLink "BudgetJuryLaw$Sim" (67 : Nat) ({ cls := "java/util/Arrays", name := "sort", desc := "([I)V" } : Jvm.MethodName)) ∈ am_W := am_kg 4 6 rfl rfl
theorem am_k781 : (Jvm.Cond.static ({ cls := "java/util/Arrays", name := "sort", desc := "([I)V" } : Jvm.MethodName)) ∈ am_W := am_kg 4 7 rfl rfl
theorem am_k782 : (Jvm.Cond.code ({ cls := "java/util/Arrays", name := "sort", desc := "([I)V" } : Jvm.MethodName) prog_33_method_2_code (1 : Nat) (Option.none : Option Jvm.ClassFile.FieldType)) ∈ am_W := am_kg 4 8 rfl rfl
theorem am_k783 : (Jvm.Cond.methodLink "java/util/Arrays" (7 : Nat) ({ cls := "java/util/DualPivotQuicksort", name := "sort", desc := "([IIII)V" } : Jvm.MethodName)) ∈ am_W := am_kg 4 9 rfl rfl
theorem am_k784 : (Jvm.Cond.static ({ cls := "java/util/DualPivotQuicksort", name := "sort", desc := "([IIII)V" } : Jvm.MethodName)) ∈ am_W := am_kg 4 10 rfl rfl
theorem am_k785 : (Jvm.Cond.code ({ cls := "java/util/DualPivotQuicksort", name := "sort", desc := "([IIII)V" } : Jvm.MethodName) prog_34_method_3_code (7 : Nat) (Option.none : Option Jvm.ClassFile.FieldType)) ∈ am_W := am_kg 4 11 rfl rfl
theorem am_k786 : (Jvm.Cond.methodLink "java/util/DualPivotQuicksort" (26 : Nat) ({ cls := "java/util/DualPivotQuicksort", name := "sort", desc := "(Ljava/util/DualPivotQuicksort$Sorter;[IIII)V" } : Jvm.MethodName)) ∈ am_W := am_kg 4 12 rfl rfl
theorem am_k787 : (Jvm.Cond.static ({ cls := "java/util/DualPivotQuicksort", name := "sort", desc := "(Ljava/util/DualPivotQuicksort$Sorter;[IIII)V" } : Jvm.MethodName)) ∈ am_W := am_kg 4 13 rfl rfl
theorem am_k788 : (Jvm.Cond.code ({ cls := "java/util/DualPivotQuicksort", name := "sort", desc := "(Ljava/util/DualPivotQuicksort$Sorter;[IIII)V" } : Jvm.MethodName) prog_34_method_4_code (21 : Nat) (Option.none : Option Jvm.ClassFile.FieldType)) ∈ am_W := am_kg 4 14 rfl rfl
theorem am_k792 : (Jvm.Cond.methodLink "java/util/DualPivotQuicksort" (34 : Nat) ({ cls := "java/util/DualPivotQuicksort", name := "insertionSort", desc := "([III)V" } : Jvm.MethodName)) ∈ am_W := am_kg 4 18 rfl rfl
theorem am_k793 : (Jvm.Cond.static ({ cls := "java/util/DualPivotQuicksort", name := "insertionSort", desc := "([III)V" } : Jvm.MethodName)) ∈ am_W := am_kg 4 19 rfl rfl
theorem am_k794 : (Jvm.Cond.code ({ cls := "java/util/DualPivotQuicksort", name := "insertionSort", desc := "([III)V" } : Jvm.MethodName) prog_34_method_6_code (6 : Nat) (Option.none : Option Jvm.ClassFile.FieldType)) ∈ am_W := am_kg 4 20 rfl rfl
theorem am_k802 : (Jvm.Cond.sameMethod "[I" "java/lang/Object" "clone" "()Ljava/lang/Object;") ∈ am_W := am_kg 4 28 rfl rfl
theorem am_k803 : (Jvm.Cond.native ({ cls := "java/lang/Object", name := "clone", desc := "()Ljava/lang/Object;" } : Jvm.MethodName)) ∈ am_W := am_kg 4 29 rfl rfl
theorem am_k804 : (Jvm.Cond.instanceMethod ({ cls := "java/lang/Object", name := "clone", desc := "()Ljava/lang/Object;" } : Jvm.MethodName)) ∈ am_W := am_kg 4 30 rfl rfl
theorem am_k805 : (Jvm.Cond.selects "[I" ({ cls := "[I", name := "clone", desc := "()Ljava/lang/Object;" } : Jvm.MethodName) ({ cls := "java/lang/Object", name := "clone", desc := "()Ljava/lang/Object;" } : Jvm.MethodName)) ∈ am_W := am_kg 4 31 rfl rfl
theorem am_k806 : (Jvm.Cond.castable "[I" "java/lang/Cloneable") ∈ lw_tbl := am_kin 4 32 rfl
theorem am_k808 : (Jvm.Cond.methodLink "java/util/Arrays" (304 : Nat) ({ cls := "java/lang/Math", name := "min", desc := "(II)I" } : Jvm.MethodName)) ∈ am_W := am_kg 4 34 rfl rfl
theorem am_k809 : (Jvm.Cond.methodLink "java/util/Arrays" (150 : Nat) ({ cls := "java/lang/System", name := "arraycopy", desc := "(Ljava/lang/Object;ILjava/lang/Object;II)V" } : Jvm.MethodName)) ∈ am_W := am_kg 4 35 rfl rfl
theorem am_k810 : (Jvm.Cond.static ({ cls := "java/lang/System", name := "arraycopy", desc := "(Ljava/lang/Object;ILjava/lang/Object;II)V" } : Jvm.MethodName)) ∈ am_W := am_kg 4 36 rfl rfl
theorem am_k811 : (Jvm.Cond.native ({ cls := "java/lang/System", name := "arraycopy", desc := "(Ljava/lang/Object;ILjava/lang/Object;II)V" } : Jvm.MethodName)) ∈ am_W := am_kg 4 37 rfl rfl
theorem am_k825 : (Jvm.Cond.methodLink "BudgetJuryLaw$Sim" (89 : Nat) ({ cls := "BudgetJuryLaw$Sim", name := "buy", desc := "(I)V" } : Jvm.MethodName)) ∈ am_W := am_kg 4 51 rfl rfl
theorem am_k827 : (Jvm.Cond.instanceMethod ({ cls := "BudgetJuryLaw$Sim", name := "buy", desc := "(I)V" } : Jvm.MethodName)) ∈ am_W := am_kg 4 53 rfl rfl
theorem am_k828 : (Jvm.Cond.instantiable "BudgetJuryLaw$Sim" (10 : Nat)) ∈ am_W := am_kg 4 54 rfl rfl
theorem am_k829 : (Jvm.Cond.code ({ cls := "BudgetJuryLaw$Sim", name := "buy", desc := "(I)V" } : Jvm.MethodName) prog_11_method_11_code (6 : Nat) (Option.none : Option Jvm.ClassFile.FieldType)) ∈ am_W := am_kg 4 55 rfl rfl
theorem am_k830 : (Jvm.Cond.methodLink "BudgetJuryLaw$Sim" (93 : Nat) ({ cls := "BudgetJuryLaw$Sim", name := "build", desc := "(I)V" } : Jvm.MethodName)) ∈ am_W := am_kg 4 56 rfl rfl
theorem am_k832 : (Jvm.Cond.instanceMethod ({ cls := "BudgetJuryLaw$Sim", name := "build", desc := "(I)V" } : Jvm.MethodName)) ∈ am_W := am_kg 4 58 rfl rfl
theorem am_k833 : (Jvm.Cond.code ({ cls := "BudgetJuryLaw$Sim", name := "build", desc := "(I)V" } : Jvm.MethodName) prog_11_method_12_code (2 : Nat) (Option.none : Option Jvm.ClassFile.FieldType)) ∈ am_W := am_kg 4 59 rfl rfl
theorem am_k834 : (Jvm.Cond.methodLink "BudgetJuryLaw" (244 : Nat) ({ cls := "BudgetJuryLaw$Sim", name := "isSame", desc := "(LBudgetJury;)Z" } : Jvm.MethodName)) ∈ am_W := am_kg 4 60 rfl rfl
theorem am_k835 : (Jvm.Cond.instanceMethod ({ cls := "BudgetJuryLaw$Sim", name := "isSame", desc := "(LBudgetJury;)Z" } : Jvm.MethodName)) ∈ am_W := am_kg 4 61 rfl rfl
theorem am_k836 : (Jvm.Cond.selects "BudgetJuryLaw$Sim" ({ cls := "BudgetJuryLaw$Sim", name := "isSame", desc := "(LBudgetJury;)Z" } : Jvm.MethodName) ({ cls := "BudgetJuryLaw$Sim", name := "isSame", desc := "(LBudgetJury;)Z" } : Jvm.MethodName)) ∈ am_W := am_kg 4 62 rfl rfl
theorem am_k837 : (Jvm.Cond.code ({ cls := "BudgetJuryLaw$Sim", name := "isSame", desc := "(LBudgetJury;)Z" } : Jvm.MethodName) prog_11_method_19_code (11 : Nat) (Option.some Jvm.ClassFile.FieldType.boolean)) ∈ am_W := am_kg 4 63 rfl rfl
theorem am_k838 : (Jvm.Cond.methodLink "BudgetJuryLaw$Sim" (112 : Nat) ({ cls := "BudgetJuryLaw$Sim", name := "counts", desc := "()[I" } : Jvm.MethodName)) ∈ am_W := am_kg 4 64 rfl rfl
theorem am_k839 : (Jvm.Cond.instanceMethod ({ cls := "BudgetJuryLaw$Sim", name := "counts", desc := "()[I" } : Jvm.MethodName)) ∈ am_W := am_kg 4 65 rfl rfl
theorem am_k840 : (Jvm.Cond.selects "BudgetJuryLaw$Sim" ({ cls := "BudgetJuryLaw$Sim", name := "counts", desc := "()[I" } : Jvm.MethodName) ({ cls := "BudgetJuryLaw$Sim", name := "counts", desc := "()[I" } : Jvm.MethodName)) ∈ am_W := am_kg 4 66 rfl rfl
theorem am_k841 : (Jvm.Cond.code ({ cls := "BudgetJuryLaw$Sim", name := "counts", desc := "()[I" } : Jvm.MethodName) prog_11_method_18_code (6 : Nat) (Option.some (Jvm.ClassFile.FieldType.array Jvm.ClassFile.FieldType.int))) ∈ am_W := am_kg 4 67 rfl rfl
theorem am_k842 : (Jvm.Cond.methodLink "BudgetJuryLaw$Sim" (109 : Nat) ({ cls := "BudgetJuryLaw$Sim", name := "built", desc := "()I" } : Jvm.MethodName)) ∈ am_W := am_kg 4 68 rfl rfl
theorem am_k843 : (Jvm.Cond.instanceMethod ({ cls := "BudgetJuryLaw$Sim", name := "built", desc := "()I" } : Jvm.MethodName)) ∈ am_W := am_kg 4 69 rfl rfl
theorem am_k844 : (Jvm.Cond.selects "BudgetJuryLaw$Sim" ({ cls := "BudgetJuryLaw$Sim", name := "built", desc := "()I" } : Jvm.MethodName) ({ cls := "BudgetJuryLaw$Sim", name := "built", desc := "()I" } : Jvm.MethodName)) ∈ am_W := am_kg 4 70 rfl rfl
theorem am_k845 : (Jvm.Cond.code ({ cls := "BudgetJuryLaw$Sim", name := "built", desc := "()I" } : Jvm.MethodName) prog_11_method_17_code (6 : Nat) (Option.some Jvm.ClassFile.FieldType.int)) ∈ am_W := am_kg 4 71 rfl rfl
theorem am_k846 : (Jvm.Cond.methodLink "BudgetJuryLaw$Sim" (116 : Nat) ({ cls := "BudgetJury", name := "count", desc := "(I)I" } : Jvm.MethodName)) ∈ am_W := am_kg 4 72 rfl rfl
theorem am_k847 : (Jvm.Cond.methodLink "BudgetJuryLaw$Sim" (121 : Nat) ({ cls := "BudgetJury", name := "ward", desc := "(II)I" } : Jvm.MethodName)) ∈ am_W := am_kg 4 73 rfl rfl
theorem am_k848 : (Jvm.Cond.methodLink "BudgetJuryLaw$Sim" (124 : Nat) ({ cls := "BudgetJury", name := "project", desc := "(II)I" } : Jvm.MethodName)) ∈ am_W := am_kg 4 74 rfl rfl
theorem am_k849 : (Jvm.Cond.methodLink "BudgetJuryLaw$Sim" (127 : Nat) ({ cls := "BudgetJury", name := "share", desc := "(I)I" } : Jvm.MethodName)) ∈ am_W := am_kg 4 75 rfl rfl
theorem am_k850 : (Jvm.Cond.methodLink "BudgetJuryLaw$Sim" (128 : Nat) ({ cls := "BudgetJury", name := "likes", desc := "(II)Z" } : Jvm.MethodName)) ∈ am_W := am_kg 4 76 rfl rfl
theorem am_k851 : (Jvm.Cond.methodLink "BudgetJuryLaw$Sim" (131 : Nat) ({ cls := "BudgetJury", name := "voter", desc := "(II)I" } : Jvm.MethodName)) ∈ am_W := am_kg 4 77 rfl rfl
theorem am_k852 : (Jvm.Cond.methodLink "BudgetJuryLaw$Sim" (134 : Nat) ({ cls := "BudgetJury", name := "envy", desc := "(II)I" } : Jvm.MethodName)) ∈ am_W := am_kg 4 78 rfl rfl
theorem am_k853 : (Jvm.Cond.methodLink "BudgetJuryLaw$Sim" (137 : Nat) ({ cls := "BudgetJuryLaw$Sim", name := "copy", desc := "()LBudgetJuryLaw$Sim;" } : Jvm.MethodName)) ∈ am_W := am_kg 4 79 rfl rfl
theorem am_k854 : (Jvm.Cond.instanceMethod ({ cls := "BudgetJuryLaw$Sim", name := "copy", desc := "()LBudgetJuryLaw$Sim;" } : Jvm.MethodName)) ∈ am_W := am_kg 4 80 rfl rfl
theorem am_k855 : (Jvm.Cond.selects "BudgetJuryLaw$Sim" ({ cls := "BudgetJuryLaw$Sim", name := "copy", desc := "()LBudgetJuryLaw$Sim;" } : Jvm.MethodName) ({ cls := "BudgetJuryLaw$Sim", name := "copy", desc := "()LBudgetJuryLaw$Sim;" } : Jvm.MethodName)) ∈ am_W := am_kg 4 81 rfl rfl
theorem am_k856 : (Jvm.Cond.code ({ cls := "BudgetJuryLaw$Sim", name := "copy", desc := "()LBudgetJuryLaw$Sim;" } : Jvm.MethodName) prog_11_method_16_code (3 : Nat) (Option.some (Jvm.ClassFile.FieldType.object "BudgetJuryLaw$Sim"))) ∈ am_W := am_kg 4 82 rfl rfl
theorem am_k857 : (Jvm.Cond.classLink "BudgetJuryLaw$Sim" (8 : Nat) "BudgetJuryLaw$Sim") ∈ am_W := am_kg 4 83 rfl rfl
theorem am_k858 : (Jvm.Cond.methodLink "BudgetJuryLaw$Sim" (103 : Nat) ({ cls := "BudgetJuryLaw$Sim", name := "<init>", desc := "()V" } : Jvm.MethodName)) ∈ am_W := am_kg 4 84 rfl rfl
theorem am_k859 : (Jvm.Cond.instanceMethod ({ cls := "BudgetJuryLaw$Sim", name := "<init>", desc := "()V" } : Jvm.MethodName)) ∈ am_W := am_kg 4 85 rfl rfl
theorem am_k860 : (Jvm.Cond.code ({ cls := "BudgetJuryLaw$Sim", name := "<init>", desc := "()V" } : Jvm.MethodName) prog_11_method_1_code (1 : Nat) (Option.none : Option Jvm.ClassFile.FieldType)) ∈ am_W := am_kg 4 86 rfl rfl
theorem am_k861 : (Jvm.Cond.methodLink "BudgetJuryLaw$Sim" (1 : Nat) ({ cls := "java/lang/Object", name := "<init>", desc := "()V" } : Jvm.MethodName)) ∈ am_W := am_kg 4 87 rfl rfl
theorem am_k862 : (Jvm.Cond.classLink "BudgetJuryLaw$Sim" (17 : Nat) "[I") ∈ am_W := am_kg 4 88 rfl rfl
theorem am_k864 : (Jvm.Cond.classLink "BudgetJuryLaw$Sim" (25 : Nat) "[Z") ∈ am_W := am_kg 4 90 rfl rfl
theorem am_k866 : (Jvm.Cond.fieldLink "BudgetJuryLaw$Sim" (37 : Nat) "BudgetJuryLaw$Sim" "year" "I") ∈ am_W := am_kg 4 92 rfl rfl
theorem am_k867 : (Jvm.Cond.fieldLink "BudgetJuryLaw$Sim" (40 : Nat) "BudgetJuryLaw$Sim" "pot" "I") ∈ am_W := am_kg 4 93 rfl rfl
theorem am_k868 : (Jvm.Cond.fieldLink "BudgetJuryLaw$Sim" (79 : Nat) "BudgetJuryLaw$Sim" "paid" "I") ∈ am_W := am_kg 4 94 rfl rfl
theorem am_k869 : (Jvm.Cond.fieldLink "BudgetJuryLaw$Sim" (7 : Nat) "BudgetJuryLaw$Sim" "budget" "I") ∈ am_W := am_kg 4 95 rfl rfl
theorem am_k870 : (Jvm.Cond.fieldLink "BudgetJuryLaw" (116 : Nat) "BudgetJuryLaw$Sim" "budget" "I") ∈ am_W := am_kg 4 96 rfl rfl
theorem am_k871 : (Jvm.Cond.fieldLink "BudgetJuryLaw$Sim" (13 : Nat) "BudgetJuryLaw$Sim" "caps" "[I") ∈ am_W := am_kg 4 97 rfl rfl
theorem am_k872 : (Jvm.Cond.fieldLink "BudgetJuryLaw" (106 : Nat) "BudgetJuryLaw$Sim" "caps" "[I") ∈ am_W := am_kg 4 98 rfl rfl
theorem am_k873 : (Jvm.Cond.fieldLink "BudgetJuryLaw$Sim" (18 : Nat) "BudgetJuryLaw$Sim" "projects" "[[I") ∈ am_W := am_kg 4 99 rfl rfl
theorem am_k874 : (Jvm.Cond.fieldLink "BudgetJuryLaw" (41 : Nat) "BudgetJuryLaw$Sim" "projects" "[[I") ∈ am_W := am_kg 4 100 rfl rfl
theorem am_k875 : (Jvm.Cond.fieldLink "BudgetJuryLaw$Sim" (22 : Nat) "BudgetJuryLaw$Sim" "voters" "[[I") ∈ am_W := am_kg 4 101 rfl rfl
theorem am_k876 : (Jvm.Cond.fieldLink "BudgetJuryLaw" (56 : Nat) "BudgetJuryLaw$Sim" "voters" "[[I") ∈ am_W := am_kg 4 102 rfl rfl
theorem am_k877 : (Jvm.Cond.fieldLink "BudgetJuryLaw$Sim" (27 : Nat) "BudgetJuryLaw$Sim" "likes" "[[Z") ∈ am_W := am_kg 4 103 rfl rfl
theorem am_k878 : (Jvm.Cond.fieldLink "BudgetJuryLaw" (136 : Nat) "BudgetJuryLaw$Sim" "likes" "[[Z") ∈ am_W := am_kg 4 104 rfl rfl
theorem am_k879 : (Jvm.Cond.fieldLink "BudgetJuryLaw$Sim" (31 : Nat) "BudgetJuryLaw$Sim" "bans" "[[I") ∈ am_W := am_kg 4 105 rfl rfl
theorem am_k880 : (Jvm.Cond.fieldLink "BudgetJuryLaw" (145 : Nat) "BudgetJuryLaw$Sim" "bans" "[[I") ∈ am_W := am_kg 4 106 rfl rfl
theorem am_k881 : (Jvm.Cond.fieldLink "BudgetJuryLaw$Sim" (34 : Nat) "BudgetJuryLaw$Sim" "barred" "I") ∈ am_W := am_kg 4 107 rfl rfl
theorem am_k882 : (Jvm.Cond.lays "BudgetJuryLaw$Sim" "BudgetJuryLaw$Sim" "year" "I") ∈ am_W := am_kg 4 108 rfl rfl
theorem am_k884 : (Jvm.Cond.lays "BudgetJuryLaw$Sim" "BudgetJuryLaw$Sim" "pot" "I") ∈ am_W := am_kg 4 110 rfl rfl
theorem am_k886 : (Jvm.Cond.lays "BudgetJuryLaw$Sim" "BudgetJuryLaw$Sim" "paid" "I") ∈ am_W := am_kg 4 112 rfl rfl
theorem am_k888 : (Jvm.Cond.lays "BudgetJuryLaw$Sim" "BudgetJuryLaw$Sim" "budget" "I") ∈ am_W := am_kg 4 114 rfl rfl
theorem am_k890 : (Jvm.Cond.lays "BudgetJuryLaw$Sim" "BudgetJuryLaw$Sim" "caps" "[I") ∈ am_W := am_kg 4 116 rfl rfl
theorem am_k892 : (Jvm.Cond.lays "BudgetJuryLaw$Sim" "BudgetJuryLaw$Sim" "projects" "[[I") ∈ am_W := am_kg 4 118 rfl rfl
theorem am_k894 : (Jvm.Cond.lays "BudgetJuryLaw$Sim" "BudgetJuryLaw$Sim" "voters" "[[I") ∈ am_W := am_kg 4 120 rfl rfl
theorem am_k896 : (Jvm.Cond.lays "BudgetJuryLaw$Sim" "BudgetJuryLaw$Sim" "likes" "[[Z") ∈ am_W := am_kg 4 122 rfl rfl
theorem am_k898 : (Jvm.Cond.lays "BudgetJuryLaw$Sim" "BudgetJuryLaw$Sim" "bans" "[[I") ∈ am_W := am_kg 4 124 rfl rfl
theorem am_k900 : (Jvm.Cond.lays "BudgetJuryLaw$Sim" "BudgetJuryLaw$Sim" "barred" "I") ∈ am_W := am_kg 4 126 rfl rfl
theorem am_k903 : (Jvm.Cond.methodLink "BudgetJuryLaw$Sim" (104 : Nat) ({ cls := "BudgetJuryLaw$Sim", name := "same", desc := "([[I)[[I" } : Jvm.MethodName)) ∈ am_W := am_kg 4 129 rfl rfl
theorem am_k904 : (Jvm.Cond.static ({ cls := "BudgetJuryLaw$Sim", name := "same", desc := "([[I)[[I" } : Jvm.MethodName)) ∈ am_W := am_kg 4 130 rfl rfl
theorem am_k905 : (Jvm.Cond.code ({ cls := "BudgetJuryLaw$Sim", name := "same", desc := "([[I)[[I" } : Jvm.MethodName) prog_11_method_15_code (3 : Nat) (Option.some (Jvm.ClassFile.FieldType.array (Jvm.ClassFile.FieldType.array Jvm.ClassFile.FieldType.int)))) ∈ am_W := am_kg 4 131 rfl rfl
theorem am_k906 : (Jvm.Cond.methodLink "BudgetJuryLaw$Sim" (99 : Nat) ({ cls := "[I", name := "clone", desc := "()Ljava/lang/Object;" } : Jvm.MethodName)) ∈ am_W := am_kg 4 132 rfl rfl
theorem am_k907 : (Jvm.Cond.methodLink "BudgetJuryLaw$Sim" (108 : Nat) ({ cls := "[Z", name := "clone", desc := "()Ljava/lang/Object;" } : Jvm.MethodName)) ∈ am_W := am_kg 4 133 rfl rfl
theorem am_k908 : (Jvm.Cond.sameMethod "[Z" "java/lang/Object" "clone" "()Ljava/lang/Object;") ∈ am_W := am_kg 4 134 rfl rfl
theorem am_k909 : (Jvm.Cond.selects "[Z" ({ cls := "[Z", name := "clone", desc := "()Ljava/lang/Object;" } : Jvm.MethodName) ({ cls := "java/lang/Object", name := "clone", desc := "()Ljava/lang/Object;" } : Jvm.MethodName)) ∈ am_W := am_kg 4 135 rfl rfl
theorem am_k910 : (Jvm.Cond.castable "[Z" "java/lang/Cloneable") ∈ lw_tbl := am_kin 4 136 rfl
theorem am_k911 : (Jvm.Cond.methodLink "BudgetJuryLaw$Sim" (141 : Nat) ({ cls := "BudgetJury", name := "next", desc := "()I" } : Jvm.MethodName)) ∈ am_W := am_kg 4 137 rfl rfl
theorem am_k912 : (Jvm.Cond.methodLink "BudgetJuryLaw$Sim" (142 : Nat) ({ cls := "BudgetJury", name := "mean", desc := "()D" } : Jvm.MethodName)) ∈ am_W := am_kg 4 138 rfl rfl
theorem am_k913 : (Jvm.Cond.arrayClass Jvm.ClassFile.FieldType.boolean) ∈ am_W := am_kg 4 139 rfl rfl
theorem am_k914 : (Jvm.Cond.methodLink "BudgetJuryLaw" (102 : Nat) ({ cls := "BudgetJuryLaw", name := "below", desc := "(II)I" } : Jvm.MethodName)) ∈ am_W := am_kg 4 140 rfl rfl
theorem am_k915 : (Jvm.Cond.static ({ cls := "BudgetJuryLaw", name := "below", desc := "(II)I" } : Jvm.MethodName)) ∈ am_W := am_kg 4 141 rfl rfl
theorem am_k916 : (Jvm.Cond.code ({ cls := "BudgetJuryLaw", name := "below", desc := "(II)I" } : Jvm.MethodName) method_2_code (2 : Nat) (Option.some Jvm.ClassFile.FieldType.int)) ∈ am_W := am_kg 4 142 rfl rfl
theorem am_k917 : (Jvm.Cond.constant "BudgetJuryLaw" (7 : Nat) (2147483647 : Int32)) ∈ am_W := am_kg 4 143 rfl rfl
theorem am_k918 : (Jvm.Cond.methodLink "BudgetJuryLaw" (96 : Nat) ({ cls := "BudgetJuryLaw", name := "cell", desc := "([II)I" } : Jvm.MethodName)) ∈ am_W := am_kg 4 144 rfl rfl
theorem am_k919 : (Jvm.Cond.static ({ cls := "BudgetJuryLaw", name := "cell", desc := "([II)I" } : Jvm.MethodName)) ∈ am_W := am_kg 4 145 rfl rfl
theorem am_k920 : (Jvm.Cond.code ({ cls := "BudgetJuryLaw", name := "cell", desc := "([II)I" } : Jvm.MethodName) method_3_code (2 : Nat) (Option.some Jvm.ClassFile.FieldType.int)) ∈ am_W := am_kg 4 146 rfl rfl
theorem am_k921 : (Jvm.Cond.constant "BudgetJuryLaw" (8 : Nat) (790386105 : Int32)) ∈ am_W := am_kg 4 147 rfl rfl
theorem am_k922 : (Jvm.Cond.methodLink "BudgetJuryLaw" (181 : Nat) ({ cls := "BudgetJuryLaw", name := "taught", desc := "(LBudgetJury;Ljava/lang/String;)I" } : Jvm.MethodName)) ∈ am_W := am_kg 4 148 rfl rfl
theorem am_k923 : (Jvm.Cond.static ({ cls := "BudgetJuryLaw", name := "taught", desc := "(LBudgetJury;Ljava/lang/String;)I" } : Jvm.MethodName)) ∈ am_W := am_kg 4 149 rfl rfl
theorem am_k924 : (Jvm.Cond.code ({ cls := "BudgetJuryLaw", name := "taught", desc := "(LBudgetJury;Ljava/lang/String;)I" } : Jvm.MethodName) method_4_code (5 : Nat) (Option.some Jvm.ClassFile.FieldType.int)) ∈ am_W := am_kg 4 150 rfl rfl
theorem am_k925 : (Jvm.Cond.methodLink "BudgetJuryLaw" (9 : Nat) ({ cls := "BudgetJury", name := "trim", desc := "(I)I" } : Jvm.MethodName)) ∈ am_W := am_kg 4 151 rfl rfl
theorem am_k926 : (Jvm.Cond.instanceMethod ({ cls := "BudgetJury", name := "trim", desc := "(I)I" } : Jvm.MethodName)) ∈ am_W := am_kg 4 152 rfl rfl
theorem am_k927 : (Jvm.Cond.selects "BudgetJury" ({ cls := "BudgetJury", name := "trim", desc := "(I)I" } : Jvm.MethodName) ({ cls := "BudgetJury", name := "trim", desc := "(I)I" } : Jvm.MethodName)) ∈ am_W := am_kg 4 153 rfl rfl
theorem am_k928 : (Jvm.Cond.code ({ cls := "BudgetJury", name := "trim", desc := "(I)I" } : Jvm.MethodName) prog_1_method_4_code (2 : Nat) (Option.some Jvm.ClassFile.FieldType.int)) ∈ am_W := am_kg 4 154 rfl rfl
theorem am_k930 : (Jvm.Cond.methodLink "BudgetJuryLaw" (15 : Nat) ({ cls := "java/lang/String", name := "length", desc := "()I" } : Jvm.MethodName)) ∈ am_W := am_kg 4 156 rfl rfl
theorem am_k931 : (Jvm.Cond.methodLink "BudgetJuryLaw" (21 : Nat) ({ cls := "java/lang/String", name := "charAt", desc := "(I)C" } : Jvm.MethodName)) ∈ am_W := am_kg 4 157 rfl rfl
theorem am_k932 : (Jvm.Cond.methodLink "BudgetJuryLaw" (25 : Nat) ({ cls := "BudgetJury", name := "feed", desc := "(IIIII)I" } : Jvm.MethodName)) ∈ am_W := am_kg 4 158 rfl rfl
theorem am_k933 : (Jvm.Cond.instanceMethod ({ cls := "BudgetJury", name := "feed", desc := "(IIIII)I" } : Jvm.MethodName)) ∈ am_W := am_kg 4 159 rfl rfl
theorem am_k934 : (Jvm.Cond.selects "BudgetJury" ({ cls := "BudgetJury", name := "feed", desc := "(IIIII)I" } : Jvm.MethodName) ({ cls := "BudgetJury", name := "feed", desc := "(IIIII)I" } : Jvm.MethodName)) ∈ am_W := am_kg 4 160 rfl rfl
theorem am_k935 : (Jvm.Cond.code ({ cls := "BudgetJury", name := "feed", desc := "(IIIII)I" } : Jvm.MethodName) prog_1_method_2_code (6 : Nat) (Option.some Jvm.ClassFile.FieldType.int)) ∈ am_W := am_kg 4 161 rfl rfl
theorem am_k936 : (Jvm.Cond.classLink "BudgetJury" (69 : Nat) "java/lang/IllegalStateException") ∈ am_W := am_kg 4 162 rfl rfl
theorem am_k938 : (Jvm.Cond.castable "java/lang/IllegalStateException" "java/lang/IllegalStateException") ∈ lw_tbl := am_kin 4 164 rfl
theorem am_k952 : (Jvm.Cond.methodLink "BudgetJury" (76 : Nat) ({ cls := "BudgetJury", name := "append", desc := "(I)V" } : Jvm.MethodName)) ∈ am_W := am_kg 4 178 rfl rfl
theorem am_k954 : (Jvm.Cond.instanceMethod ({ cls := "BudgetJury", name := "append", desc := "(I)V" } : Jvm.MethodName)) ∈ am_W := am_kg 4 180 rfl rfl
theorem am_k955 : (Jvm.Cond.code ({ cls := "BudgetJury", name := "append", desc := "(I)V" } : Jvm.MethodName) prog_1_method_3_code (3 : Nat) (Option.none : Option Jvm.ClassFile.FieldType)) ∈ am_W := am_kg 4 181 rfl rfl
theorem am_k956 : (Jvm.Cond.methodLink "BudgetJuryLaw" (29 : Nat) ({ cls := "BudgetJury", name := "teach", desc := "()I" } : Jvm.MethodName)) ∈ am_W := am_kg 4 182 rfl rfl
theorem am_k957 : (Jvm.Cond.instanceMethod ({ cls := "BudgetJury", name := "teach", desc := "()I" } : Jvm.MethodName)) ∈ am_W := am_kg 4 183 rfl rfl
theorem am_k958 : (Jvm.Cond.selects "BudgetJury" ({ cls := "BudgetJury", name := "teach", desc := "()I" } : Jvm.MethodName) ({ cls := "BudgetJury", name := "teach", desc := "()I" } : Jvm.MethodName)) ∈ am_W := am_kg 4 184 rfl rfl
theorem am_k959 : (Jvm.Cond.code ({ cls := "BudgetJury", name := "teach", desc := "()I" } : Jvm.MethodName) prog_1_method_5_code (3 : Nat) (Option.some Jvm.ClassFile.FieldType.int)) ∈ am_W := am_kg 4 185 rfl rfl
theorem am_k960 : (Jvm.Cond.methodLink "BudgetJury" (85 : Nat) ({ cls := "BudgetJury$Tokens", name := "cut", desc := "(I)V" } : Jvm.MethodName)) ∈ am_W := am_kg 4 186 rfl rfl
theorem am_k961 : (Jvm.Cond.instanceMethod ({ cls := "BudgetJury$Tokens", name := "cut", desc := "(I)V" } : Jvm.MethodName)) ∈ am_W := am_kg 4 187 rfl rfl
theorem am_k962 : (Jvm.Cond.selects "BudgetJury$Tokens" ({ cls := "BudgetJury$Tokens", name := "cut", desc := "(I)V" } : Jvm.MethodName) ({ cls := "BudgetJury$Tokens", name := "cut", desc := "(I)V" } : Jvm.MethodName)) ∈ am_W := am_kg 4 188 rfl rfl
theorem am_k963 : (Jvm.Cond.code ({ cls := "BudgetJury$Tokens", name := "cut", desc := "(I)V" } : Jvm.MethodName) prog_9_method_2_code (3 : Nat) (Option.none : Option Jvm.ClassFile.FieldType)) ∈ am_W := am_kg 4 189 rfl rfl
theorem am_k964 : (Jvm.Cond.methodLink "BudgetJury$Tokens" (49 : Nat) ({ cls := "java/lang/Math", name := "min", desc := "(II)I" } : Jvm.MethodName)) ∈ am_W := am_kg 4 190 rfl rfl
theorem am_k965 : (Jvm.Cond.methodLink "BudgetJury$Tokens" (61 : Nat) ({ cls := "BudgetJury$Tokens", name := "skipBlanks", desc := "()V" } : Jvm.MethodName)) ∈ am_W := am_kg 4 191 rfl rfl
theorem am_k967 : (Jvm.Cond.instanceMethod ({ cls := "BudgetJury$Tokens", name := "skipBlanks", desc := "()V" } : Jvm.MethodName)) ∈ am_W := am_kg 4 193 rfl rfl
theorem am_k968 : (Jvm.Cond.code ({ cls := "BudgetJury$Tokens", name := "skipBlanks", desc := "()V" } : Jvm.MethodName) prog_9_method_4_code (1 : Nat) (Option.none : Option Jvm.ClassFile.FieldType)) ∈ am_W := am_kg 4 194 rfl rfl
theorem am_k969 : (Jvm.Cond.methodLink "BudgetJury$Tokens" (68 : Nat) ({ cls := "BudgetJury$Tokens", name := "signAt", desc := "(I)I" } : Jvm.MethodName)) ∈ am_W := am_kg 4 195 rfl rfl
theorem am_k971 : (Jvm.Cond.instanceMethod ({ cls := "BudgetJury$Tokens", name := "signAt", desc := "(I)I" } : Jvm.MethodName)) ∈ am_W := am_kg 4 197 rfl rfl
theorem am_k972 : (Jvm.Cond.code ({ cls := "BudgetJury$Tokens", name := "signAt", desc := "(I)I" } : Jvm.MethodName) prog_9_method_9_code (2 : Nat) (Option.some Jvm.ClassFile.FieldType.int)) ∈ am_W := am_kg 4 198 rfl rfl
theorem am_k973 : (Jvm.Cond.methodLink "BudgetJury$Tokens" (64 : Nat) ({ cls := "BudgetJury$Tokens", name := "cutOne", desc := "(I)I" } : Jvm.MethodName)) ∈ am_W := am_kg 4 199 rfl rfl
theorem am_k975 : (Jvm.Cond.instanceMethod ({ cls := "BudgetJury$Tokens", name := "cutOne", desc := "(I)I" } : Jvm.MethodName)) ∈ am_W := am_kg 4 201 rfl rfl
theorem am_k976 : (Jvm.Cond.code ({ cls := "BudgetJury$Tokens", name := "cutOne", desc := "(I)I" } : Jvm.MethodName) prog_9_method_5_code (2 : Nat) (Option.some Jvm.ClassFile.FieldType.int)) ∈ am_W := am_kg 4 202 rfl rfl
theorem am_k977 : (Jvm.Cond.methodLink "BudgetJury$Tokens" (75 : Nat) ({ cls := "BudgetJury$Tokens", name := "cutWord", desc := "(I)I" } : Jvm.MethodName)) ∈ am_W := am_kg 4 203 rfl rfl
theorem am_k979 : (Jvm.Cond.instanceMethod ({ cls := "BudgetJury$Tokens", name := "cutWord", desc := "(I)I" } : Jvm.MethodName)) ∈ am_W := am_kg 4 205 rfl rfl
theorem am_k980 : (Jvm.Cond.code ({ cls := "BudgetJury$Tokens", name := "cutWord", desc := "(I)I" } : Jvm.MethodName) prog_9_method_6_code (6 : Nat) (Option.some Jvm.ClassFile.FieldType.int)) ∈ am_W := am_kg 4 206 rfl rfl
theorem am_k981 : (Jvm.Cond.methodLink "BudgetJury$Tokens" (78 : Nat) ({ cls := "BudgetJury$Tokens", name := "isDigit", desc := "(I)Z" } : Jvm.MethodName)) ∈ am_W := am_kg 4 207 rfl rfl
theorem am_k982 : (Jvm.Cond.static ({ cls := "BudgetJury$Tokens", name := "isDigit", desc := "(I)Z" } : Jvm.MethodName)) ∈ am_W := am_kg 4 208 rfl rfl
theorem am_k983 : (Jvm.Cond.code ({ cls := "BudgetJury$Tokens", name := "isDigit", desc := "(I)Z" } : Jvm.MethodName) prog_9_method_11_code (1 : Nat) (Option.some Jvm.ClassFile.FieldType.boolean)) ∈ am_W := am_kg 4 209 rfl rfl
theorem am_k984 : (Jvm.Cond.methodLink "BudgetJury$Tokens" (81 : Nat) ({ cls := "BudgetJury$Tokens", name := "cutNumber", desc := "(I)I" } : Jvm.MethodName)) ∈ am_W := am_kg 4 210 rfl rfl
theorem am_k986 : (Jvm.Cond.instanceMethod ({ cls := "BudgetJury$Tokens", name := "cutNumber", desc := "(I)I" } : Jvm.MethodName)) ∈ am_W := am_kg 4 212 rfl rfl
theorem am_k987 : (Jvm.Cond.code ({ cls := "BudgetJury$Tokens", name := "cutNumber", desc := "(I)I" } : Jvm.MethodName) prog_9_method_7_code (5 : Nat) (Option.some Jvm.ClassFile.FieldType.int)) ∈ am_W := am_kg 4 213 rfl rfl
theorem am_k988 : (Jvm.Cond.constantLong "BudgetJury$Tokens" (87 : Nat) (10 : Int64)) ∈ am_W := am_kg 4 214 rfl rfl
theorem am_k989 : (Jvm.Cond.constantLong "BudgetJury$Tokens" (89 : Nat) (48 : Int64)) ∈ am_W := am_kg 4 215 rfl rfl
theorem am_k990 : (Jvm.Cond.methodLink "BudgetJury$Tokens" (84 : Nat) ({ cls := "BudgetJury$Tokens", name := "cutSymbol", desc := "()I" } : Jvm.MethodName)) ∈ am_W := am_kg 4 216 rfl rfl
theorem am_k992 : (Jvm.Cond.instanceMethod ({ cls := "BudgetJury$Tokens", name := "cutSymbol", desc := "()I" } : Jvm.MethodName)) ∈ am_W := am_kg 4 218 rfl rfl
theorem am_k993 : (Jvm.Cond.code ({ cls := "BudgetJury$Tokens", name := "cutSymbol", desc := "()I" } : Jvm.MethodName) prog_9_method_8_code (2 : Nat) (Option.some Jvm.ClassFile.FieldType.int)) ∈ am_W := am_kg 4 219 rfl rfl
theorem am_k995 : (Jvm.Cond.methodLink "BudgetJury$Tokens" (93 : Nat) ({ cls := "java/lang/String", name := "indexOf", desc := "(I)I" } : Jvm.MethodName)) ∈ am_W := am_kg 4 221 rfl rfl
theorem am_k996 : (Jvm.Cond.instanceMethod ({ cls := "java/lang/String", name := "indexOf", desc := "(I)I" } : Jvm.MethodName)) ∈ am_W := am_kg 4 222 rfl rfl
theorem am_k997 : (Jvm.Cond.selects "java/lang/String" ({ cls := "java/lang/String", name := "indexOf", desc := "(I)I" } : Jvm.MethodName) ({ cls := "java/lang/String", name := "indexOf", desc := "(I)I" } : Jvm.MethodName)) ∈ am_W := am_kg 4 223 rfl rfl
theorem am_k998 : (Jvm.Cond.code ({ cls := "java/lang/String", name := "indexOf", desc := "(I)I" } : Jvm.MethodName) prog_27_method_79_code (2 : Nat) (Option.some Jvm.ClassFile.FieldType.int)) ∈ am_W := am_kg 4 224 rfl rfl
theorem am_k999 : (Jvm.Cond.methodLink "java/lang/String" (633 : Nat) ({ cls := "java/lang/String", name := "indexOf", desc := "(II)I" } : Jvm.MethodName)) ∈ am_W := am_kg 4 225 rfl rfl
theorem am_k1000 : (Jvm.Cond.instanceMethod ({ cls := "java/lang/String", name := "indexOf", desc := "(II)I" } : Jvm.MethodName)) ∈ am_W := am_kg 4 226 rfl rfl
theorem am_k1001 : (Jvm.Cond.selects "java/lang/String" ({ cls := "java/lang/String", name := "indexOf", desc := "(II)I" } : Jvm.MethodName) ({ cls := "java/lang/String", name := "indexOf", desc := "(II)I" } : Jvm.MethodName)) ∈ am_W := am_kg 4 227 rfl rfl
theorem am_k1002 : (Jvm.Cond.code ({ cls := "java/lang/String", name := "indexOf", desc := "(II)I" } : Jvm.MethodName) prog_27_method_80_code (3 : Nat) (Option.some Jvm.ClassFile.FieldType.int)) ∈ am_W := am_kg 4 228 rfl rfl
theorem am_k1003 : (Jvm.Cond.methodLink "java/lang/String" (505 : Nat) ({ cls := "java/lang/String", name := "length", desc := "()I" } : Jvm.MethodName)) ∈ am_W := am_kg 4 229 rfl rfl
theorem am_k1004 : (Jvm.Cond.methodLink "java/lang/String" (637 : Nat) ({ cls := "java/lang/StringLatin1", name := "indexOf", desc := "([BIII)I" } : Jvm.MethodName)) ∈ am_W := am_kg 4 230 rfl rfl
theorem am_k1005 : (Jvm.Cond.static ({ cls := "java/lang/StringLatin1", name := "indexOf", desc := "([BIII)I" } : Jvm.MethodName)) ∈ am_W := am_kg 4 231 rfl rfl
theorem am_k1006 : (Jvm.Cond.code ({ cls := "java/lang/StringLatin1", name := "indexOf", desc := "([BIII)I" } : Jvm.MethodName) prog_29_method_22_code (4 : Nat) (Option.some Jvm.ClassFile.FieldType.int)) ∈ am_W := am_kg 4 232 rfl rfl
theorem am_k1007 : (Jvm.Cond.methodLink "java/lang/StringLatin1" (88 : Nat) ({ cls := "java/lang/StringLatin1", name := "canEncode", desc := "(I)Z" } : Jvm.MethodName)) ∈ am_W := am_kg 4 233 rfl rfl
theorem am_k1008 : (Jvm.Cond.static ({ cls := "java/lang/StringLatin1", name := "canEncode", desc := "(I)Z" } : Jvm.MethodName)) ∈ am_W := am_kg 4 234 rfl rfl
theorem am_k1009 : (Jvm.Cond.code ({ cls := "java/lang/StringLatin1", name := "canEncode", desc := "(I)Z" } : Jvm.MethodName) prog_29_method_4_code (1 : Nat) (Option.some Jvm.ClassFile.FieldType.boolean)) ∈ am_W := am_kg 4 235 rfl rfl
theorem am_k1010 : (Jvm.Cond.methodLink "java/lang/StringLatin1" (92 : Nat) ({ cls := "java/lang/Math", name := "max", desc := "(II)I" } : Jvm.MethodName)) ∈ am_W := am_kg 4 236 rfl rfl
theorem am_k1011 : (Jvm.Cond.methodLink "java/lang/StringLatin1" (38 : Nat) ({ cls := "java/lang/Math", name := "min", desc := "(II)I" } : Jvm.MethodName)) ∈ am_W := am_kg 4 237 rfl rfl
theorem am_k1012 : (Jvm.Cond.methodLink "java/lang/StringLatin1" (95 : Nat) ({ cls := "java/lang/StringLatin1", name := "indexOfChar", desc := "([BIII)I" } : Jvm.MethodName)) ∈ am_W := am_kg 4 238 rfl rfl
theorem am_k1013 : (Jvm.Cond.static ({ cls := "java/lang/StringLatin1", name := "indexOfChar", desc := "([BIII)I" } : Jvm.MethodName)) ∈ am_W := am_kg 4 239 rfl rfl
theorem am_k1014 : (Jvm.Cond.code ({ cls := "java/lang/StringLatin1", name := "indexOfChar", desc := "([BIII)I" } : Jvm.MethodName) prog_29_method_23_code (6 : Nat) (Option.some Jvm.ClassFile.FieldType.int)) ∈ am_W := am_kg 5 0 rfl rfl
theorem am_k1050 : (Jvm.Cond.methodLink "BudgetJury" (88 : Nat) ({ cls := "BudgetJury$Grammar", name := "isList", desc := "(LBudgetJury$Plan;)Z" } : Jvm.MethodName)) ∈ am_W := am_kg 5 36 rfl rfl
theorem am_k1051 : (Jvm.Cond.instanceMethod ({ cls := "BudgetJury$Grammar", name := "isList", desc := "(LBudgetJury$Plan;)Z" } : Jvm.MethodName)) ∈ am_W := am_kg 5 37 rfl rfl
theorem am_k1052 : (Jvm.Cond.selects "BudgetJury$Grammar" ({ cls := "BudgetJury$Grammar", name := "isList", desc := "(LBudgetJury$Plan;)Z" } : Jvm.MethodName) ({ cls := "BudgetJury$Grammar", name := "isList", desc := "(LBudgetJury$Plan;)Z" } : Jvm.MethodName)) ∈ am_W := am_kg 5 38 rfl rfl
theorem am_k1053 : (Jvm.Cond.code ({ cls := "BudgetJury$Grammar", name := "isList", desc := "(LBudgetJury$Plan;)Z" } : Jvm.MethodName) prog_3_method_2_code (3 : Nat) (Option.some Jvm.ClassFile.FieldType.boolean)) ∈ am_W := am_kg 5 39 rfl rfl
theorem am_k1054 : (Jvm.Cond.methodLink "BudgetJury$Grammar" (35 : Nat) ({ cls := "BudgetJury$Grammar", name := "here", desc := "()I" } : Jvm.MethodName)) ∈ am_W := am_kg 5 40 rfl rfl
theorem am_k1056 : (Jvm.Cond.instanceMethod ({ cls := "BudgetJury$Grammar", name := "here", desc := "()I" } : Jvm.MethodName)) ∈ am_W := am_kg 5 42 rfl rfl
theorem am_k1057 : (Jvm.Cond.code ({ cls := "BudgetJury$Grammar", name := "here", desc := "()I" } : Jvm.MethodName) prog_3_method_3_code (1 : Nat) (Option.some Jvm.ClassFile.FieldType.int)) ∈ am_W := am_kg 5 43 rfl rfl
theorem am_k1058 : (Jvm.Cond.methodLink "BudgetJury$Grammar" (41 : Nat) ({ cls := "BudgetJury$Grammar", name := "isLine", desc := "()Z" } : Jvm.MethodName)) ∈ am_W := am_kg 5 44 rfl rfl
theorem am_k1060 : (Jvm.Cond.instanceMethod ({ cls := "BudgetJury$Grammar", name := "isLine", desc := "()Z" } : Jvm.MethodName)) ∈ am_W := am_kg 5 46 rfl rfl
theorem am_k1061 : (Jvm.Cond.code ({ cls := "BudgetJury$Grammar", name := "isLine", desc := "()Z" } : Jvm.MethodName) prog_3_method_8_code (1 : Nat) (Option.some Jvm.ClassFile.FieldType.boolean)) ∈ am_W := am_kg 5 47 rfl rfl
theorem am_k1062 : (Jvm.Cond.methodLink "BudgetJury$Grammar" (45 : Nat) ({ cls := "BudgetJury$Grammar", name := "take", desc := "(I)Z" } : Jvm.MethodName)) ∈ am_W := am_kg 5 48 rfl rfl
theorem am_k1064 : (Jvm.Cond.instanceMethod ({ cls := "BudgetJury$Grammar", name := "take", desc := "(I)Z" } : Jvm.MethodName)) ∈ am_W := am_kg 5 50 rfl rfl
theorem am_k1065 : (Jvm.Cond.code ({ cls := "BudgetJury$Grammar", name := "take", desc := "(I)Z" } : Jvm.MethodName) prog_3_method_4_code (2 : Nat) (Option.some Jvm.ClassFile.FieldType.boolean)) ∈ am_W := am_kg 5 51 rfl rfl
theorem am_k1066 : (Jvm.Cond.methodLink "BudgetJury$Grammar" (56 : Nat) ({ cls := "BudgetJury$Grammar", name := "take", desc := "(II)Z" } : Jvm.MethodName)) ∈ am_W := am_kg 5 52 rfl rfl
theorem am_k1068 : (Jvm.Cond.instanceMethod ({ cls := "BudgetJury$Grammar", name := "take", desc := "(II)Z" } : Jvm.MethodName)) ∈ am_W := am_kg 5 54 rfl rfl
theorem am_k1069 : (Jvm.Cond.code ({ cls := "BudgetJury$Grammar", name := "take", desc := "(II)Z" } : Jvm.MethodName) prog_3_method_5_code (3 : Nat) (Option.some Jvm.ClassFile.FieldType.boolean)) ∈ am_W := am_kg 5 55 rfl rfl
theorem am_k1070 : (Jvm.Cond.methodLink "BudgetJury$Grammar" (68 : Nat) ({ cls := "BudgetJury$Grammar", name := "isRowOfLiked", desc := "()Z" } : Jvm.MethodName)) ∈ am_W := am_kg 5 56 rfl rfl
theorem am_k1072 : (Jvm.Cond.instanceMethod ({ cls := "BudgetJury$Grammar", name := "isRowOfLiked", desc := "()Z" } : Jvm.MethodName)) ∈ am_W := am_kg 5 58 rfl rfl
theorem am_k1073 : (Jvm.Cond.code ({ cls := "BudgetJury$Grammar", name := "isRowOfLiked", desc := "()Z" } : Jvm.MethodName) prog_3_method_9_code (2 : Nat) (Option.some Jvm.ClassFile.FieldType.boolean)) ∈ am_W := am_kg 5 59 rfl rfl
theorem am_k1074 : (Jvm.Cond.methodLink "BudgetJury$Grammar" (71 : Nat) ({ cls := "BudgetJury$Grammar", name := "isBan", desc := "()Z" } : Jvm.MethodName)) ∈ am_W := am_kg 5 60 rfl rfl
theorem am_k1076 : (Jvm.Cond.instanceMethod ({ cls := "BudgetJury$Grammar", name := "isBan", desc := "()Z" } : Jvm.MethodName)) ∈ am_W := am_kg 5 62 rfl rfl
theorem am_k1077 : (Jvm.Cond.code ({ cls := "BudgetJury$Grammar", name := "isBan", desc := "()Z" } : Jvm.MethodName) prog_3_method_10_code (1 : Nat) (Option.some Jvm.ClassFile.FieldType.boolean)) ∈ am_W := am_kg 5 63 rfl rfl
theorem am_k1078 : (Jvm.Cond.methodLink "BudgetJury$Grammar" (74 : Nat) ({ cls := "BudgetJury$Grammar", name := "isTest", desc := "(I)Z" } : Jvm.MethodName)) ∈ am_W := am_kg 5 64 rfl rfl
theorem am_k1080 : (Jvm.Cond.instanceMethod ({ cls := "BudgetJury$Grammar", name := "isTest", desc := "(I)Z" } : Jvm.MethodName)) ∈ am_W := am_kg 5 66 rfl rfl
theorem am_k1081 : (Jvm.Cond.code ({ cls := "BudgetJury$Grammar", name := "isTest", desc := "(I)Z" } : Jvm.MethodName) prog_3_method_11_code (3 : Nat) (Option.some Jvm.ClassFile.FieldType.boolean)) ∈ am_W := am_kg 5 67 rfl rfl
