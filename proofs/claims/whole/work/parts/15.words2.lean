theorem am_k842 : (Jvm.Cond.classLink "BudgetJury" (69 : Nat) "java/lang/IllegalStateException") ∈ am_W := am_kg 4 15 rfl rfl
theorem am_k844 : (Jvm.Cond.castable "java/lang/IllegalStateException" "java/lang/IllegalStateException") ∈ lw_tbl := am_kin 4 17 rfl
theorem am_k909 : (Jvm.Cond.methodLink "BudgetJury" (76 : Nat) ({ cls := "BudgetJury", name := "append", desc := "(I)V" } : Jvm.MethodName)) ∈ am_W := am_kg 4 82 rfl rfl
theorem am_k911 : (Jvm.Cond.instanceMethod ({ cls := "BudgetJury", name := "append", desc := "(I)V" } : Jvm.MethodName)) ∈ am_W := am_kg 4 84 rfl rfl
theorem am_k912 : (Jvm.Cond.code ({ cls := "BudgetJury", name := "append", desc := "(I)V" } : Jvm.MethodName) prog_1_method_3_code (3 : Nat) (Option.none : Option Jvm.ClassFile.FieldType)) ∈ am_W := am_kg 4 85 rfl rfl
theorem am_k913 : (Jvm.Cond.methodLink "BudgetJuryLaw" (88 : Nat) ({ cls := "BudgetJuryLaw", name := "trim", desc := "(LBudgetJury;I[J)I" } : Jvm.MethodName)) ∈ am_W := am_kg 4 86 rfl rfl
theorem am_k914 : (Jvm.Cond.static ({ cls := "BudgetJuryLaw", name := "trim", desc := "(LBudgetJury;I[J)I" } : Jvm.MethodName)) ∈ am_W := am_kg 4 87 rfl rfl
theorem am_k915 : (Jvm.Cond.codeWith ({ cls := "BudgetJuryLaw", name := "trim", desc := "(LBudgetJury;I[J)I" } : Jvm.MethodName) method_4_code (4 : Nat) (Option.some Jvm.ClassFile.FieldType.int) [((0 : Nat), (9 : Nat), (12 : Nat), (19 : Nat))]) ∈ am_W := am_kg 4 88 rfl rfl
theorem am_k916 : (Jvm.Cond.classLink "BudgetJuryLaw" (19 : Nat) "java/lang/IllegalArgumentException") ∈ am_W := am_kg 4 89 rfl rfl
theorem am_k917 : (Jvm.Cond.methodLink "BudgetJuryLaw" (15 : Nat) ({ cls := "BudgetJury", name := "trim", desc := "(I)I" } : Jvm.MethodName)) ∈ am_W := am_kg 4 90 rfl rfl
theorem am_k918 : (Jvm.Cond.instanceMethod ({ cls := "BudgetJury", name := "trim", desc := "(I)I" } : Jvm.MethodName)) ∈ am_W := am_kg 4 91 rfl rfl
theorem am_k919 : (Jvm.Cond.selects "BudgetJury" ({ cls := "BudgetJury", name := "trim", desc := "(I)I" } : Jvm.MethodName) ({ cls := "BudgetJury", name := "trim", desc := "(I)I" } : Jvm.MethodName)) ∈ am_W := am_kg 4 92 rfl rfl
theorem am_k920 : (Jvm.Cond.code ({ cls := "BudgetJury", name := "trim", desc := "(I)I" } : Jvm.MethodName) prog_1_method_4_code (2 : Nat) (Option.some Jvm.ClassFile.FieldType.int)) ∈ am_W := am_kg 4 93 rfl rfl
theorem am_k921 : (Jvm.Cond.classLink "BudgetJury" (80 : Nat) "java/lang/IllegalArgumentException") ∈ am_W := am_kg 4 94 rfl rfl
theorem am_k923 : (Jvm.Cond.castable "java/lang/IllegalArgumentException" "java/lang/IllegalArgumentException") ∈ lw_tbl := am_kin 4 96 rfl
theorem am_k937 : (Jvm.Cond.methodLink "BudgetJuryLaw" (100 : Nat) ({ cls := "BudgetJuryLaw", name := "count", desc := "(LBudgetJury;I[J)I" } : Jvm.MethodName)) ∈ am_W := am_kg 4 110 rfl rfl
theorem am_k938 : (Jvm.Cond.static ({ cls := "BudgetJuryLaw", name := "count", desc := "(LBudgetJury;I[J)I" } : Jvm.MethodName)) ∈ am_W := am_kg 4 111 rfl rfl
theorem am_k939 : (Jvm.Cond.codeWith ({ cls := "BudgetJuryLaw", name := "count", desc := "(LBudgetJury;I[J)I" } : Jvm.MethodName) method_5_code (4 : Nat) (Option.some Jvm.ClassFile.FieldType.int) [((0 : Nat), (9 : Nat), (12 : Nat), (24 : Nat))]) ∈ am_W := am_kg 4 112 rfl rfl
theorem am_k940 : (Jvm.Cond.classLink "BudgetJuryLaw" (24 : Nat) "java/lang/IndexOutOfBoundsException") ∈ am_W := am_kg 4 113 rfl rfl
theorem am_k941 : (Jvm.Cond.methodLink "BudgetJuryLaw" (21 : Nat) ({ cls := "BudgetJury", name := "count", desc := "(I)I" } : Jvm.MethodName)) ∈ am_W := am_kg 4 114 rfl rfl
theorem am_k942 : (Jvm.Cond.instanceMethod ({ cls := "BudgetJury", name := "count", desc := "(I)I" } : Jvm.MethodName)) ∈ am_W := am_kg 4 115 rfl rfl
theorem am_k943 : (Jvm.Cond.selects "BudgetJury" ({ cls := "BudgetJury", name := "count", desc := "(I)I" } : Jvm.MethodName) ({ cls := "BudgetJury", name := "count", desc := "(I)I" } : Jvm.MethodName)) ∈ am_W := am_kg 4 116 rfl rfl
theorem am_k944 : (Jvm.Cond.code ({ cls := "BudgetJury", name := "count", desc := "(I)I" } : Jvm.MethodName) prog_1_method_7_code (2 : Nat) (Option.some Jvm.ClassFile.FieldType.int)) ∈ am_W := am_kg 4 117 rfl rfl
theorem am_k945 : (Jvm.Cond.classLink "BudgetJury" (107 : Nat) "java/lang/IndexOutOfBoundsException") ∈ am_W := am_kg 4 118 rfl rfl
theorem am_k947 : (Jvm.Cond.castable "java/lang/IndexOutOfBoundsException" "java/lang/IndexOutOfBoundsException") ∈ lw_tbl := am_kin 4 120 rfl
theorem am_k961 : (Jvm.Cond.methodLink "BudgetJuryLaw" (103 : Nat) ({ cls := "BudgetJuryLaw", name := "ward", desc := "(LBudgetJury;II[J)I" } : Jvm.MethodName)) ∈ am_W := am_kg 4 134 rfl rfl
theorem am_k962 : (Jvm.Cond.static ({ cls := "BudgetJuryLaw", name := "ward", desc := "(LBudgetJury;II[J)I" } : Jvm.MethodName)) ∈ am_W := am_kg 4 135 rfl rfl
theorem am_k963 : (Jvm.Cond.codeWith ({ cls := "BudgetJuryLaw", name := "ward", desc := "(LBudgetJury;II[J)I" } : Jvm.MethodName) method_6_code (5 : Nat) (Option.some Jvm.ClassFile.FieldType.int) [((0 : Nat), (10 : Nat), (13 : Nat), (24 : Nat))]) ∈ am_W := am_kg 4 136 rfl rfl
theorem am_k964 : (Jvm.Cond.methodLink "BudgetJuryLaw" (26 : Nat) ({ cls := "BudgetJury", name := "ward", desc := "(II)I" } : Jvm.MethodName)) ∈ am_W := am_kg 4 137 rfl rfl
theorem am_k965 : (Jvm.Cond.instanceMethod ({ cls := "BudgetJury", name := "ward", desc := "(II)I" } : Jvm.MethodName)) ∈ am_W := am_kg 4 138 rfl rfl
theorem am_k966 : (Jvm.Cond.selects "BudgetJury" ({ cls := "BudgetJury", name := "ward", desc := "(II)I" } : Jvm.MethodName) ({ cls := "BudgetJury", name := "ward", desc := "(II)I" } : Jvm.MethodName)) ∈ am_W := am_kg 4 139 rfl rfl
theorem am_k967 : (Jvm.Cond.code ({ cls := "BudgetJury", name := "ward", desc := "(II)I" } : Jvm.MethodName) prog_1_method_9_code (3 : Nat) (Option.some Jvm.ClassFile.FieldType.int)) ∈ am_W := am_kg 4 140 rfl rfl
theorem am_k968 : (Jvm.Cond.methodLink "BudgetJury" (136 : Nat) ({ cls := "BudgetJury$Plan", name := "hasWard", desc := "(I)Z" } : Jvm.MethodName)) ∈ am_W := am_kg 4 141 rfl rfl
theorem am_k969 : (Jvm.Cond.instanceMethod ({ cls := "BudgetJury$Plan", name := "hasWard", desc := "(I)Z" } : Jvm.MethodName)) ∈ am_W := am_kg 4 142 rfl rfl
theorem am_k970 : (Jvm.Cond.selects "BudgetJury$Plan" ({ cls := "BudgetJury$Plan", name := "hasWard", desc := "(I)Z" } : Jvm.MethodName) ({ cls := "BudgetJury$Plan", name := "hasWard", desc := "(I)Z" } : Jvm.MethodName)) ∈ am_W := am_kg 4 143 rfl rfl
theorem am_k971 : (Jvm.Cond.code ({ cls := "BudgetJury$Plan", name := "hasWard", desc := "(I)Z" } : Jvm.MethodName) prog_6_method_3_code (2 : Nat) (Option.some Jvm.ClassFile.FieldType.boolean)) ∈ am_W := am_kg 4 144 rfl rfl
theorem am_k974 : (Jvm.Cond.methodLink "BudgetJuryLaw" (107 : Nat) ({ cls := "BudgetJuryLaw", name := "project", desc := "(LBudgetJury;II[J)I" } : Jvm.MethodName)) ∈ am_W := am_kg 4 147 rfl rfl
theorem am_k975 : (Jvm.Cond.static ({ cls := "BudgetJuryLaw", name := "project", desc := "(LBudgetJury;II[J)I" } : Jvm.MethodName)) ∈ am_W := am_kg 4 148 rfl rfl
theorem am_k976 : (Jvm.Cond.codeWith ({ cls := "BudgetJuryLaw", name := "project", desc := "(LBudgetJury;II[J)I" } : Jvm.MethodName) method_7_code (5 : Nat) (Option.some Jvm.ClassFile.FieldType.int) [((0 : Nat), (10 : Nat), (13 : Nat), (24 : Nat))]) ∈ am_W := am_kg 4 149 rfl rfl
theorem am_k977 : (Jvm.Cond.methodLink "BudgetJuryLaw" (30 : Nat) ({ cls := "BudgetJury", name := "project", desc := "(II)I" } : Jvm.MethodName)) ∈ am_W := am_kg 4 150 rfl rfl
theorem am_k978 : (Jvm.Cond.instanceMethod ({ cls := "BudgetJury", name := "project", desc := "(II)I" } : Jvm.MethodName)) ∈ am_W := am_kg 4 151 rfl rfl
theorem am_k979 : (Jvm.Cond.selects "BudgetJury" ({ cls := "BudgetJury", name := "project", desc := "(II)I" } : Jvm.MethodName) ({ cls := "BudgetJury", name := "project", desc := "(II)I" } : Jvm.MethodName)) ∈ am_W := am_kg 4 152 rfl rfl
theorem am_k980 : (Jvm.Cond.code ({ cls := "BudgetJury", name := "project", desc := "(II)I" } : Jvm.MethodName) prog_1_method_10_code (3 : Nat) (Option.some Jvm.ClassFile.FieldType.int)) ∈ am_W := am_kg 4 153 rfl rfl
theorem am_k981 : (Jvm.Cond.methodLink "BudgetJury" (148 : Nat) ({ cls := "BudgetJury$Plan", name := "hasProject", desc := "(I)Z" } : Jvm.MethodName)) ∈ am_W := am_kg 4 154 rfl rfl
theorem am_k984 : (Jvm.Cond.methodLink "BudgetJuryLaw" (110 : Nat) ({ cls := "BudgetJuryLaw", name := "share", desc := "(LBudgetJury;I[J)I" } : Jvm.MethodName)) ∈ am_W := am_kg 4 157 rfl rfl
theorem am_k985 : (Jvm.Cond.static ({ cls := "BudgetJuryLaw", name := "share", desc := "(LBudgetJury;I[J)I" } : Jvm.MethodName)) ∈ am_W := am_kg 4 158 rfl rfl
theorem am_k986 : (Jvm.Cond.codeWith ({ cls := "BudgetJuryLaw", name := "share", desc := "(LBudgetJury;I[J)I" } : Jvm.MethodName) method_8_code (4 : Nat) (Option.some Jvm.ClassFile.FieldType.int) [((0 : Nat), (9 : Nat), (12 : Nat), (24 : Nat))]) ∈ am_W := am_kg 4 159 rfl rfl
theorem am_k987 : (Jvm.Cond.methodLink "BudgetJuryLaw" (33 : Nat) ({ cls := "BudgetJury", name := "share", desc := "(I)I" } : Jvm.MethodName)) ∈ am_W := am_kg 4 160 rfl rfl
theorem am_k988 : (Jvm.Cond.instanceMethod ({ cls := "BudgetJury", name := "share", desc := "(I)I" } : Jvm.MethodName)) ∈ am_W := am_kg 4 161 rfl rfl
theorem am_k989 : (Jvm.Cond.selects "BudgetJury" ({ cls := "BudgetJury", name := "share", desc := "(I)I" } : Jvm.MethodName) ({ cls := "BudgetJury", name := "share", desc := "(I)I" } : Jvm.MethodName)) ∈ am_W := am_kg 4 162 rfl rfl
theorem am_k990 : (Jvm.Cond.code ({ cls := "BudgetJury", name := "share", desc := "(I)I" } : Jvm.MethodName) prog_1_method_11_code (2 : Nat) (Option.some Jvm.ClassFile.FieldType.int)) ∈ am_W := am_kg 4 163 rfl rfl
theorem am_k991 : (Jvm.Cond.methodLink "BudgetJuryLaw" (113 : Nat) ({ cls := "BudgetJuryLaw", name := "voter", desc := "(LBudgetJury;II[J)I" } : Jvm.MethodName)) ∈ am_W := am_kg 4 164 rfl rfl
theorem am_k992 : (Jvm.Cond.static ({ cls := "BudgetJuryLaw", name := "voter", desc := "(LBudgetJury;II[J)I" } : Jvm.MethodName)) ∈ am_W := am_kg 4 165 rfl rfl
theorem am_k993 : (Jvm.Cond.codeWith ({ cls := "BudgetJuryLaw", name := "voter", desc := "(LBudgetJury;II[J)I" } : Jvm.MethodName) method_9_code (5 : Nat) (Option.some Jvm.ClassFile.FieldType.int) [((0 : Nat), (10 : Nat), (13 : Nat), (24 : Nat))]) ∈ am_W := am_kg 4 166 rfl rfl
theorem am_k994 : (Jvm.Cond.methodLink "BudgetJuryLaw" (36 : Nat) ({ cls := "BudgetJury", name := "voter", desc := "(II)I" } : Jvm.MethodName)) ∈ am_W := am_kg 4 167 rfl rfl
theorem am_k995 : (Jvm.Cond.instanceMethod ({ cls := "BudgetJury", name := "voter", desc := "(II)I" } : Jvm.MethodName)) ∈ am_W := am_kg 4 168 rfl rfl
theorem am_k996 : (Jvm.Cond.selects "BudgetJury" ({ cls := "BudgetJury", name := "voter", desc := "(II)I" } : Jvm.MethodName) ({ cls := "BudgetJury", name := "voter", desc := "(II)I" } : Jvm.MethodName)) ∈ am_W := am_kg 4 169 rfl rfl
theorem am_k997 : (Jvm.Cond.code ({ cls := "BudgetJury", name := "voter", desc := "(II)I" } : Jvm.MethodName) prog_1_method_12_code (3 : Nat) (Option.some Jvm.ClassFile.FieldType.int)) ∈ am_W := am_kg 4 170 rfl rfl
theorem am_k998 : (Jvm.Cond.methodLink "BudgetJury" (161 : Nat) ({ cls := "BudgetJury$Plan", name := "hasVoter", desc := "(I)Z" } : Jvm.MethodName)) ∈ am_W := am_kg 4 171 rfl rfl
theorem am_k1000 : (Jvm.Cond.methodLink "BudgetJuryLaw" (116 : Nat) ({ cls := "BudgetJuryLaw", name := "likes", desc := "(LBudgetJury;II[J)I" } : Jvm.MethodName)) ∈ am_W := am_kg 4 173 rfl rfl
theorem am_k1001 : (Jvm.Cond.static ({ cls := "BudgetJuryLaw", name := "likes", desc := "(LBudgetJury;II[J)I" } : Jvm.MethodName)) ∈ am_W := am_kg 4 174 rfl rfl
theorem am_k1002 : (Jvm.Cond.codeWith ({ cls := "BudgetJuryLaw", name := "likes", desc := "(LBudgetJury;II[J)I" } : Jvm.MethodName) method_10_code (5 : Nat) (Option.some Jvm.ClassFile.FieldType.int) [((0 : Nat), (17 : Nat), (20 : Nat), (24 : Nat))]) ∈ am_W := am_kg 4 175 rfl rfl
theorem am_k1003 : (Jvm.Cond.methodLink "BudgetJuryLaw" (39 : Nat) ({ cls := "BudgetJury", name := "likes", desc := "(II)Z" } : Jvm.MethodName)) ∈ am_W := am_kg 4 176 rfl rfl
theorem am_k1004 : (Jvm.Cond.instanceMethod ({ cls := "BudgetJury", name := "likes", desc := "(II)Z" } : Jvm.MethodName)) ∈ am_W := am_kg 4 177 rfl rfl
theorem am_k1005 : (Jvm.Cond.selects "BudgetJury" ({ cls := "BudgetJury", name := "likes", desc := "(II)Z" } : Jvm.MethodName) ({ cls := "BudgetJury", name := "likes", desc := "(II)Z" } : Jvm.MethodName)) ∈ am_W := am_kg 4 178 rfl rfl
theorem am_k1006 : (Jvm.Cond.code ({ cls := "BudgetJury", name := "likes", desc := "(II)Z" } : Jvm.MethodName) prog_1_method_13_code (3 : Nat) (Option.some Jvm.ClassFile.FieldType.boolean)) ∈ am_W := am_kg 4 179 rfl rfl
theorem am_k1008 : (Jvm.Cond.methodLink "BudgetJury" (171 : Nat) ({ cls := "BudgetJury$Parish", name := "isFan", desc := "(II)Z" } : Jvm.MethodName)) ∈ am_W := am_kg 4 181 rfl rfl
theorem am_k1009 : (Jvm.Cond.methodLink "BudgetJuryLaw" (119 : Nat) ({ cls := "BudgetJuryLaw", name := "envy", desc := "(LBudgetJury;II[J)I" } : Jvm.MethodName)) ∈ am_W := am_kg 4 182 rfl rfl
theorem am_k1010 : (Jvm.Cond.static ({ cls := "BudgetJuryLaw", name := "envy", desc := "(LBudgetJury;II[J)I" } : Jvm.MethodName)) ∈ am_W := am_kg 4 183 rfl rfl
theorem am_k1011 : (Jvm.Cond.codeWith ({ cls := "BudgetJuryLaw", name := "envy", desc := "(LBudgetJury;II[J)I" } : Jvm.MethodName) method_11_code (5 : Nat) (Option.some Jvm.ClassFile.FieldType.int) [((0 : Nat), (10 : Nat), (13 : Nat), (24 : Nat))]) ∈ am_W := am_kg 4 184 rfl rfl
theorem am_k1012 : (Jvm.Cond.methodLink "BudgetJuryLaw" (43 : Nat) ({ cls := "BudgetJury", name := "envy", desc := "(II)I" } : Jvm.MethodName)) ∈ am_W := am_kg 4 185 rfl rfl
theorem am_k1013 : (Jvm.Cond.instanceMethod ({ cls := "BudgetJury", name := "envy", desc := "(II)I" } : Jvm.MethodName)) ∈ am_W := am_kg 4 186 rfl rfl
theorem am_k1014 : (Jvm.Cond.selects "BudgetJury" ({ cls := "BudgetJury", name := "envy", desc := "(II)I" } : Jvm.MethodName) ({ cls := "BudgetJury", name := "envy", desc := "(II)I" } : Jvm.MethodName)) ∈ am_W := am_kg 4 187 rfl rfl
theorem am_k1015 : (Jvm.Cond.code ({ cls := "BudgetJury", name := "envy", desc := "(II)I" } : Jvm.MethodName) prog_1_method_14_code (3 : Nat) (Option.some Jvm.ClassFile.FieldType.int)) ∈ am_W := am_kg 4 188 rfl rfl
theorem am_k1016 : (Jvm.Cond.methodLink "BudgetJuryLaw" (126 : Nat) ({ cls := "BudgetJuryLaw", name := "approve", desc := "(LBudgetJury;IIZ[J)I" } : Jvm.MethodName)) ∈ am_W := am_kg 4 189 rfl rfl
theorem am_k1017 : (Jvm.Cond.static ({ cls := "BudgetJuryLaw", name := "approve", desc := "(LBudgetJury;IIZ[J)I" } : Jvm.MethodName)) ∈ am_W := am_kg 4 190 rfl rfl
theorem am_k1018 : (Jvm.Cond.codeWith ({ cls := "BudgetJuryLaw", name := "approve", desc := "(LBudgetJury;IIZ[J)I" } : Jvm.MethodName) method_12_code (6 : Nat) (Option.some Jvm.ClassFile.FieldType.int) [((0 : Nat), (19 : Nat), (22 : Nat), (24 : Nat))]) ∈ am_W := am_kg 4 191 rfl rfl
theorem am_k1019 : (Jvm.Cond.methodLink "BudgetJuryLaw" (46 : Nat) ({ cls := "BudgetJury", name := "approve", desc := "(IIZ)Z" } : Jvm.MethodName)) ∈ am_W := am_kg 4 192 rfl rfl
theorem am_k1020 : (Jvm.Cond.instanceMethod ({ cls := "BudgetJury", name := "approve", desc := "(IIZ)Z" } : Jvm.MethodName)) ∈ am_W := am_kg 4 193 rfl rfl
theorem am_k1021 : (Jvm.Cond.selects "BudgetJury" ({ cls := "BudgetJury", name := "approve", desc := "(IIZ)Z" } : Jvm.MethodName) ({ cls := "BudgetJury", name := "approve", desc := "(IIZ)Z" } : Jvm.MethodName)) ∈ am_W := am_kg 4 194 rfl rfl
theorem am_k1022 : (Jvm.Cond.code ({ cls := "BudgetJury", name := "approve", desc := "(IIZ)Z" } : Jvm.MethodName) prog_1_method_16_code (5 : Nat) (Option.some Jvm.ClassFile.FieldType.boolean)) ∈ am_W := am_kg 4 195 rfl rfl
theorem am_k1023 : (Jvm.Cond.methodLink "BudgetJury" (189 : Nat) ({ cls := "BudgetJury$Parish", name := "setFan", desc := "(IIZ)V" } : Jvm.MethodName)) ∈ am_W := am_kg 4 196 rfl rfl
theorem am_k1024 : (Jvm.Cond.instanceMethod ({ cls := "BudgetJury$Parish", name := "setFan", desc := "(IIZ)V" } : Jvm.MethodName)) ∈ am_W := am_kg 4 197 rfl rfl
theorem am_k1025 : (Jvm.Cond.selects "BudgetJury$Parish" ({ cls := "BudgetJury$Parish", name := "setFan", desc := "(IIZ)V" } : Jvm.MethodName) ({ cls := "BudgetJury$Parish", name := "setFan", desc := "(IIZ)V" } : Jvm.MethodName)) ∈ am_W := am_kg 4 198 rfl rfl
theorem am_k1026 : (Jvm.Cond.code ({ cls := "BudgetJury$Parish", name := "setFan", desc := "(IIZ)V" } : Jvm.MethodName) prog_5_method_18_code (4 : Nat) (Option.none : Option Jvm.ClassFile.FieldType)) ∈ am_W := am_kg 4 199 rfl rfl
theorem am_k1027 : (Jvm.Cond.methodLink "BudgetJuryLaw" (130 : Nat) ({ cls := "BudgetJuryLaw", name := "give", desc := "(LBudgetJury;II[J)I" } : Jvm.MethodName)) ∈ am_W := am_kg 4 200 rfl rfl
theorem am_k1028 : (Jvm.Cond.static ({ cls := "BudgetJuryLaw", name := "give", desc := "(LBudgetJury;II[J)I" } : Jvm.MethodName)) ∈ am_W := am_kg 4 201 rfl rfl
theorem am_k1029 : (Jvm.Cond.codeWith ({ cls := "BudgetJuryLaw", name := "give", desc := "(LBudgetJury;II[J)I" } : Jvm.MethodName) method_13_code (5 : Nat) (Option.some Jvm.ClassFile.FieldType.int) [((0 : Nat), (10 : Nat), (13 : Nat), (24 : Nat)), ((0 : Nat), (10 : Nat), (17 : Nat), (19 : Nat))]) ∈ am_W := am_kg 4 202 rfl rfl
theorem am_k1030 : (Jvm.Cond.methodLink "BudgetJuryLaw" (50 : Nat) ({ cls := "BudgetJury", name := "give", desc := "(II)I" } : Jvm.MethodName)) ∈ am_W := am_kg 4 203 rfl rfl
theorem am_k1031 : (Jvm.Cond.instanceMethod ({ cls := "BudgetJury", name := "give", desc := "(II)I" } : Jvm.MethodName)) ∈ am_W := am_kg 4 204 rfl rfl
theorem am_k1032 : (Jvm.Cond.selects "BudgetJury" ({ cls := "BudgetJury", name := "give", desc := "(II)I" } : Jvm.MethodName) ({ cls := "BudgetJury", name := "give", desc := "(II)I" } : Jvm.MethodName)) ∈ am_W := am_kg 4 205 rfl rfl
theorem am_k1033 : (Jvm.Cond.code ({ cls := "BudgetJury", name := "give", desc := "(II)I" } : Jvm.MethodName) prog_1_method_17_code (3 : Nat) (Option.some Jvm.ClassFile.FieldType.int)) ∈ am_W := am_kg 4 206 rfl rfl
theorem am_k1035 : (Jvm.Cond.methodLink "BudgetJury" (195 : Nat) ({ cls := "BudgetJury$Parish", name := "putIntoPurse", desc := "(II)V" } : Jvm.MethodName)) ∈ am_W := am_kg 4 208 rfl rfl
theorem am_k1036 : (Jvm.Cond.methodLink "BudgetJuryLaw" (133 : Nat) ({ cls := "BudgetJuryLaw", name := "setBudget", desc := "(LBudgetJury;I[J)I" } : Jvm.MethodName)) ∈ am_W := am_kg 4 209 rfl rfl
theorem am_k1037 : (Jvm.Cond.static ({ cls := "BudgetJuryLaw", name := "setBudget", desc := "(LBudgetJury;I[J)I" } : Jvm.MethodName)) ∈ am_W := am_kg 4 210 rfl rfl
theorem am_k1038 : (Jvm.Cond.codeWith ({ cls := "BudgetJuryLaw", name := "setBudget", desc := "(LBudgetJury;I[J)I" } : Jvm.MethodName) method_14_code (4 : Nat) (Option.some Jvm.ClassFile.FieldType.int) [((0 : Nat), (9 : Nat), (12 : Nat), (19 : Nat))]) ∈ am_W := am_kg 4 211 rfl rfl
theorem am_k1039 : (Jvm.Cond.methodLink "BudgetJuryLaw" (53 : Nat) ({ cls := "BudgetJury", name := "setBudget", desc := "(I)I" } : Jvm.MethodName)) ∈ am_W := am_kg 4 212 rfl rfl
theorem am_k1040 : (Jvm.Cond.instanceMethod ({ cls := "BudgetJury", name := "setBudget", desc := "(I)I" } : Jvm.MethodName)) ∈ am_W := am_kg 4 213 rfl rfl
theorem am_k1041 : (Jvm.Cond.selects "BudgetJury" ({ cls := "BudgetJury", name := "setBudget", desc := "(I)I" } : Jvm.MethodName) ({ cls := "BudgetJury", name := "setBudget", desc := "(I)I" } : Jvm.MethodName)) ∈ am_W := am_kg 4 214 rfl rfl
theorem am_k1042 : (Jvm.Cond.code ({ cls := "BudgetJury", name := "setBudget", desc := "(I)I" } : Jvm.MethodName) prog_1_method_18_code (3 : Nat) (Option.some Jvm.ClassFile.FieldType.int)) ∈ am_W := am_kg 4 215 rfl rfl
theorem am_k1044 : (Jvm.Cond.methodLink "BudgetJuryLaw" (136 : Nat) ({ cls := "BudgetJuryLaw", name := "open", desc := "(LBudgetJury;I[J)I" } : Jvm.MethodName)) ∈ am_W := am_kg 4 217 rfl rfl
theorem am_k1045 : (Jvm.Cond.static ({ cls := "BudgetJuryLaw", name := "open", desc := "(LBudgetJury;I[J)I" } : Jvm.MethodName)) ∈ am_W := am_kg 4 218 rfl rfl
theorem am_k1046 : (Jvm.Cond.codeWith ({ cls := "BudgetJuryLaw", name := "open", desc := "(LBudgetJury;I[J)I" } : Jvm.MethodName) method_15_code (4 : Nat) (Option.some Jvm.ClassFile.FieldType.int) [((0 : Nat), (9 : Nat), (12 : Nat), (24 : Nat)), ((0 : Nat), (9 : Nat), (15 : Nat), (13 : Nat))]) ∈ am_W := am_kg 4 219 rfl rfl
theorem am_k1047 : (Jvm.Cond.methodLink "BudgetJuryLaw" (56 : Nat) ({ cls := "BudgetJury", name := "open", desc := "(I)I" } : Jvm.MethodName)) ∈ am_W := am_kg 4 220 rfl rfl
theorem am_k1048 : (Jvm.Cond.instanceMethod ({ cls := "BudgetJury", name := "open", desc := "(I)I" } : Jvm.MethodName)) ∈ am_W := am_kg 4 221 rfl rfl
theorem am_k1049 : (Jvm.Cond.selects "BudgetJury" ({ cls := "BudgetJury", name := "open", desc := "(I)I" } : Jvm.MethodName) ({ cls := "BudgetJury", name := "open", desc := "(I)I" } : Jvm.MethodName)) ∈ am_W := am_kg 4 222 rfl rfl
theorem am_k1050 : (Jvm.Cond.code ({ cls := "BudgetJury", name := "open", desc := "(I)I" } : Jvm.MethodName) prog_1_method_19_code (3 : Nat) (Option.some Jvm.ClassFile.FieldType.int)) ∈ am_W := am_kg 4 223 rfl rfl
theorem am_k1051 : (Jvm.Cond.methodLink "BudgetJury" (205 : Nat) ({ cls := "BudgetJury$Parish", name := "isOpen", desc := "(I)Z" } : Jvm.MethodName)) ∈ am_W := am_kg 4 224 rfl rfl
theorem am_k1053 : (Jvm.Cond.methodLink "BudgetJury" (213 : Nat) ({ cls := "BudgetJury$Parish", name := "reopen", desc := "(I)V" } : Jvm.MethodName)) ∈ am_W := am_kg 4 226 rfl rfl
theorem am_k1054 : (Jvm.Cond.instanceMethod ({ cls := "BudgetJury$Parish", name := "reopen", desc := "(I)V" } : Jvm.MethodName)) ∈ am_W := am_kg 4 227 rfl rfl
theorem am_k1055 : (Jvm.Cond.selects "BudgetJury$Parish" ({ cls := "BudgetJury$Parish", name := "reopen", desc := "(I)V" } : Jvm.MethodName) ({ cls := "BudgetJury$Parish", name := "reopen", desc := "(I)V" } : Jvm.MethodName)) ∈ am_W := am_kg 4 228 rfl rfl
theorem am_k1056 : (Jvm.Cond.code ({ cls := "BudgetJury$Parish", name := "reopen", desc := "(I)V" } : Jvm.MethodName) prog_5_method_20_code (2 : Nat) (Option.none : Option Jvm.ClassFile.FieldType)) ∈ am_W := am_kg 4 229 rfl rfl
theorem am_k1057 : (Jvm.Cond.methodLink "BudgetJuryLaw" (139 : Nat) ({ cls := "BudgetJuryLaw", name := "pass", desc := "(LBudgetJury;I[J)I" } : Jvm.MethodName)) ∈ am_W := am_kg 4 230 rfl rfl
theorem am_k1058 : (Jvm.Cond.static ({ cls := "BudgetJuryLaw", name := "pass", desc := "(LBudgetJury;I[J)I" } : Jvm.MethodName)) ∈ am_W := am_kg 4 231 rfl rfl
theorem am_k1059 : (Jvm.Cond.codeWith ({ cls := "BudgetJuryLaw", name := "pass", desc := "(LBudgetJury;I[J)I" } : Jvm.MethodName) method_16_code (4 : Nat) (Option.some Jvm.ClassFile.FieldType.int) [((0 : Nat), (9 : Nat), (12 : Nat), (19 : Nat))]) ∈ am_W := am_kg 4 232 rfl rfl
theorem am_k1060 : (Jvm.Cond.methodLink "BudgetJuryLaw" (59 : Nat) ({ cls := "BudgetJury", name := "pass", desc := "(I)I" } : Jvm.MethodName)) ∈ am_W := am_kg 4 233 rfl rfl
theorem am_k1061 : (Jvm.Cond.instanceMethod ({ cls := "BudgetJury", name := "pass", desc := "(I)I" } : Jvm.MethodName)) ∈ am_W := am_kg 4 234 rfl rfl
theorem am_k1062 : (Jvm.Cond.selects "BudgetJury" ({ cls := "BudgetJury", name := "pass", desc := "(I)I" } : Jvm.MethodName) ({ cls := "BudgetJury", name := "pass", desc := "(I)I" } : Jvm.MethodName)) ∈ am_W := am_kg 4 235 rfl rfl
theorem am_k1063 : (Jvm.Cond.code ({ cls := "BudgetJury", name := "pass", desc := "(I)I" } : Jvm.MethodName) prog_1_method_20_code (3 : Nat) (Option.some Jvm.ClassFile.FieldType.int)) ∈ am_W := am_kg 4 236 rfl rfl
theorem am_k1065 : (Jvm.Cond.methodLink "BudgetJury" (218 : Nat) ({ cls := "BudgetJury$Parish", name := "builtCount", desc := "()I" } : Jvm.MethodName)) ∈ am_W := am_kg 4 238 rfl rfl
theorem am_k1066 : (Jvm.Cond.methodLink "BudgetJury" (221 : Nat) ({ cls := "BudgetJury$Parish", name := "runYears", desc := "(I)V" } : Jvm.MethodName)) ∈ am_W := am_kg 4 239 rfl rfl
theorem am_k1067 : (Jvm.Cond.instanceMethod ({ cls := "BudgetJury$Parish", name := "runYears", desc := "(I)V" } : Jvm.MethodName)) ∈ am_W := am_kg 5 0 rfl rfl
theorem am_k1068 : (Jvm.Cond.selects "BudgetJury$Parish" ({ cls := "BudgetJury$Parish", name := "runYears", desc := "(I)V" } : Jvm.MethodName) ({ cls := "BudgetJury$Parish", name := "runYears", desc := "(I)V" } : Jvm.MethodName)) ∈ am_W := am_kg 5 1 rfl rfl
theorem am_k1069 : (Jvm.Cond.code ({ cls := "BudgetJury$Parish", name := "runYears", desc := "(I)V" } : Jvm.MethodName) prog_5_method_21_code (3 : Nat) (Option.none : Option Jvm.ClassFile.FieldType)) ∈ am_W := am_kg 5 2 rfl rfl
theorem am_k1070 : (Jvm.Cond.methodLink "BudgetJury$Parish" (121 : Nat) ({ cls := "BudgetJury$Parish", name := "collect", desc := "()V" } : Jvm.MethodName)) ∈ am_W := am_kg 5 3 rfl rfl
theorem am_k1071 : (Jvm.Cond.methodLink "BudgetJury$Parish" (124 : Nat) ({ cls := "BudgetJury$Parish", name := "buyFromPurses", desc := "()V" } : Jvm.MethodName)) ∈ am_W := am_kg 5 4 rfl rfl
theorem am_k1073 : (Jvm.Cond.instanceMethod ({ cls := "BudgetJury$Parish", name := "buyFromPurses", desc := "()V" } : Jvm.MethodName)) ∈ am_W := am_kg 5 6 rfl rfl
theorem am_k1074 : (Jvm.Cond.code ({ cls := "BudgetJury$Parish", name := "buyFromPurses", desc := "()V" } : Jvm.MethodName) prog_5_method_23_code (3 : Nat) (Option.none : Option Jvm.ClassFile.FieldType)) ∈ am_W := am_kg 5 7 rfl rfl
theorem am_k1075 : (Jvm.Cond.methodLink "BudgetJury$Parish" (137 : Nat) ({ cls := "BudgetJury$Parish", name := "bestToBuy", desc := "()I" } : Jvm.MethodName)) ∈ am_W := am_kg 5 8 rfl rfl
theorem am_k1076 : (Jvm.Cond.methodLink "BudgetJury$Parish" (143 : Nat) ({ cls := "BudgetJury$Parish", name := "buy", desc := "(II)V" } : Jvm.MethodName)) ∈ am_W := am_kg 5 9 rfl rfl
theorem am_k1078 : (Jvm.Cond.instanceMethod ({ cls := "BudgetJury$Parish", name := "buy", desc := "(II)V" } : Jvm.MethodName)) ∈ am_W := am_kg 5 11 rfl rfl
theorem am_k1079 : (Jvm.Cond.code ({ cls := "BudgetJury$Parish", name := "buy", desc := "(II)V" } : Jvm.MethodName) prog_5_method_26_code (6 : Nat) (Option.none : Option Jvm.ClassFile.FieldType)) ∈ am_W := am_kg 5 12 rfl rfl
theorem am_k1080 : (Jvm.Cond.methodLink "BudgetJury$Parish" (149 : Nat) ({ cls := "BudgetJury$Parish", name := "build", desc := "(I)V" } : Jvm.MethodName)) ∈ am_W := am_kg 5 13 rfl rfl
theorem am_k1082 : (Jvm.Cond.instanceMethod ({ cls := "BudgetJury$Parish", name := "build", desc := "(I)V" } : Jvm.MethodName)) ∈ am_W := am_kg 5 15 rfl rfl
theorem am_k1083 : (Jvm.Cond.code ({ cls := "BudgetJury$Parish", name := "build", desc := "(I)V" } : Jvm.MethodName) prog_5_method_27_code (2 : Nat) (Option.none : Option Jvm.ClassFile.FieldType)) ∈ am_W := am_kg 5 16 rfl rfl
theorem am_k1084 : (Jvm.Cond.methodLink "BudgetJury$Parish" (127 : Nat) ({ cls := "BudgetJury$Parish", name := "buildFromPot", desc := "()V" } : Jvm.MethodName)) ∈ am_W := am_kg 5 17 rfl rfl
theorem am_k1086 : (Jvm.Cond.instanceMethod ({ cls := "BudgetJury$Parish", name := "buildFromPot", desc := "()V" } : Jvm.MethodName)) ∈ am_W := am_kg 5 19 rfl rfl
theorem am_k1087 : (Jvm.Cond.code ({ cls := "BudgetJury$Parish", name := "buildFromPot", desc := "()V" } : Jvm.MethodName) prog_5_method_28_code (3 : Nat) (Option.none : Option Jvm.ClassFile.FieldType)) ∈ am_W := am_kg 5 20 rfl rfl
theorem am_k1088 : (Jvm.Cond.methodLink "BudgetJury$Parish" (153 : Nat) ({ cls := "BudgetJury$Parish", name := "bestForPot", desc := "()I" } : Jvm.MethodName)) ∈ am_W := am_kg 5 21 rfl rfl
theorem am_k1090 : (Jvm.Cond.instanceMethod ({ cls := "BudgetJury$Parish", name := "bestForPot", desc := "()I" } : Jvm.MethodName)) ∈ am_W := am_kg 5 23 rfl rfl
theorem am_k1091 : (Jvm.Cond.code ({ cls := "BudgetJury$Parish", name := "bestForPot", desc := "()I" } : Jvm.MethodName) prog_5_method_29_code (3 : Nat) (Option.some Jvm.ClassFile.FieldType.int)) ∈ am_W := am_kg 5 24 rfl rfl
theorem am_k1092 : (Jvm.Cond.methodLink "BudgetJury$Parish" (156 : Nat) ({ cls := "BudgetJury$Parish", name := "isBetterForPot", desc := "(II)Z" } : Jvm.MethodName)) ∈ am_W := am_kg 5 25 rfl rfl
theorem am_k1094 : (Jvm.Cond.instanceMethod ({ cls := "BudgetJury$Parish", name := "isBetterForPot", desc := "(II)Z" } : Jvm.MethodName)) ∈ am_W := am_kg 5 27 rfl rfl
theorem am_k1095 : (Jvm.Cond.code ({ cls := "BudgetJury$Parish", name := "isBetterForPot", desc := "(II)Z" } : Jvm.MethodName) prog_5_method_30_code (3 : Nat) (Option.some Jvm.ClassFile.FieldType.boolean)) ∈ am_W := am_kg 5 28 rfl rfl
theorem am_k1096 : (Jvm.Cond.methodLink "BudgetJury$Parish" (130 : Nat) ({ cls := "BudgetJury$Parish", name := "grow", desc := "()V" } : Jvm.MethodName)) ∈ am_W := am_kg 5 29 rfl rfl
theorem am_k1098 : (Jvm.Cond.instanceMethod ({ cls := "BudgetJury$Parish", name := "grow", desc := "()V" } : Jvm.MethodName)) ∈ am_W := am_kg 5 31 rfl rfl
theorem am_k1099 : (Jvm.Cond.code ({ cls := "BudgetJury$Parish", name := "grow", desc := "()V" } : Jvm.MethodName) prog_5_method_31_code (3 : Nat) (Option.none : Option Jvm.ClassFile.FieldType)) ∈ am_W := am_kg 5 32 rfl rfl
theorem am_k1100 : (Jvm.Cond.methodLink "BudgetJuryLaw" (142 : Nat) ({ cls := "BudgetJuryLaw", name := "until", desc := "(LBudgetJury;I[J)I" } : Jvm.MethodName)) ∈ am_W := am_kg 5 33 rfl rfl
theorem am_k1101 : (Jvm.Cond.static ({ cls := "BudgetJuryLaw", name := "until", desc := "(LBudgetJury;I[J)I" } : Jvm.MethodName)) ∈ am_W := am_kg 5 34 rfl rfl
theorem am_k1102 : (Jvm.Cond.codeWith ({ cls := "BudgetJuryLaw", name := "until", desc := "(LBudgetJury;I[J)I" } : Jvm.MethodName) method_17_code (4 : Nat) (Option.some Jvm.ClassFile.FieldType.int) [((0 : Nat), (9 : Nat), (12 : Nat), (24 : Nat))]) ∈ am_W := am_kg 5 35 rfl rfl
theorem am_k1103 : (Jvm.Cond.methodLink "BudgetJuryLaw" (62 : Nat) ({ cls := "BudgetJury", name := "until", desc := "(I)I" } : Jvm.MethodName)) ∈ am_W := am_kg 5 36 rfl rfl
theorem am_k1104 : (Jvm.Cond.instanceMethod ({ cls := "BudgetJury", name := "until", desc := "(I)I" } : Jvm.MethodName)) ∈ am_W := am_kg 5 37 rfl rfl
theorem am_k1105 : (Jvm.Cond.selects "BudgetJury" ({ cls := "BudgetJury", name := "until", desc := "(I)I" } : Jvm.MethodName) ({ cls := "BudgetJury", name := "until", desc := "(I)I" } : Jvm.MethodName)) ∈ am_W := am_kg 5 38 rfl rfl
theorem am_k1106 : (Jvm.Cond.code ({ cls := "BudgetJury", name := "until", desc := "(I)I" } : Jvm.MethodName) prog_1_method_21_code (3 : Nat) (Option.some Jvm.ClassFile.FieldType.int)) ∈ am_W := am_kg 5 39 rfl rfl
theorem am_k1107 : (Jvm.Cond.methodLink "BudgetJuryLaw" (145 : Nat) ({ cls := "BudgetJuryLaw", name := "foresee", desc := "(LBudgetJury;II[J)I" } : Jvm.MethodName)) ∈ am_W := am_kg 5 40 rfl rfl
theorem am_k1108 : (Jvm.Cond.static ({ cls := "BudgetJuryLaw", name := "foresee", desc := "(LBudgetJury;II[J)I" } : Jvm.MethodName)) ∈ am_W := am_kg 5 41 rfl rfl
theorem am_k1109 : (Jvm.Cond.codeWith ({ cls := "BudgetJuryLaw", name := "foresee", desc := "(LBudgetJury;II[J)I" } : Jvm.MethodName) method_18_code (5 : Nat) (Option.some Jvm.ClassFile.FieldType.int) [((0 : Nat), (10 : Nat), (13 : Nat), (19 : Nat)), ((0 : Nat), (10 : Nat), (17 : Nat), (24 : Nat))]) ∈ am_W := am_kg 5 42 rfl rfl
theorem am_k1110 : (Jvm.Cond.methodLink "BudgetJuryLaw" (65 : Nat) ({ cls := "BudgetJury", name := "foresee", desc := "(II)I" } : Jvm.MethodName)) ∈ am_W := am_kg 5 43 rfl rfl
theorem am_k1111 : (Jvm.Cond.instanceMethod ({ cls := "BudgetJury", name := "foresee", desc := "(II)I" } : Jvm.MethodName)) ∈ am_W := am_kg 5 44 rfl rfl
theorem am_k1112 : (Jvm.Cond.selects "BudgetJury" ({ cls := "BudgetJury", name := "foresee", desc := "(II)I" } : Jvm.MethodName) ({ cls := "BudgetJury", name := "foresee", desc := "(II)I" } : Jvm.MethodName)) ∈ am_W := am_kg 5 45 rfl rfl
theorem am_k1113 : (Jvm.Cond.code ({ cls := "BudgetJury", name := "foresee", desc := "(II)I" } : Jvm.MethodName) prog_1_method_22_code (3 : Nat) (Option.some Jvm.ClassFile.FieldType.int)) ∈ am_W := am_kg 5 46 rfl rfl
theorem am_k1115 : (Jvm.Cond.methodLink "BudgetJuryLaw" (148 : Nat) ({ cls := "BudgetJuryLaw", name := "advise", desc := "(LBudgetJury;II[J)I" } : Jvm.MethodName)) ∈ am_W := am_kg 5 48 rfl rfl
theorem am_k1116 : (Jvm.Cond.static ({ cls := "BudgetJuryLaw", name := "advise", desc := "(LBudgetJury;II[J)I" } : Jvm.MethodName)) ∈ am_W := am_kg 5 49 rfl rfl
theorem am_k1117 : (Jvm.Cond.codeWith ({ cls := "BudgetJuryLaw", name := "advise", desc := "(LBudgetJury;II[J)I" } : Jvm.MethodName) method_19_code (5 : Nat) (Option.some Jvm.ClassFile.FieldType.int) [((0 : Nat), (10 : Nat), (13 : Nat), (24 : Nat)), ((0 : Nat), (10 : Nat), (17 : Nat), (19 : Nat))]) ∈ am_W := am_kg 5 50 rfl rfl
theorem am_k1118 : (Jvm.Cond.methodLink "BudgetJuryLaw" (68 : Nat) ({ cls := "BudgetJury", name := "advise", desc := "(II)I" } : Jvm.MethodName)) ∈ am_W := am_kg 5 51 rfl rfl
theorem am_k1119 : (Jvm.Cond.instanceMethod ({ cls := "BudgetJury", name := "advise", desc := "(II)I" } : Jvm.MethodName)) ∈ am_W := am_kg 5 52 rfl rfl
theorem am_k1120 : (Jvm.Cond.selects "BudgetJury" ({ cls := "BudgetJury", name := "advise", desc := "(II)I" } : Jvm.MethodName) ({ cls := "BudgetJury", name := "advise", desc := "(II)I" } : Jvm.MethodName)) ∈ am_W := am_kg 5 53 rfl rfl
theorem am_k1121 : (Jvm.Cond.code ({ cls := "BudgetJury", name := "advise", desc := "(II)I" } : Jvm.MethodName) prog_1_method_23_code (6 : Nat) (Option.some Jvm.ClassFile.FieldType.int)) ∈ am_W := am_kg 5 54 rfl rfl
theorem am_k1123 : (Jvm.Cond.methodLink "BudgetJuryLaw" (151 : Nat) ({ cls := "BudgetJuryLaw", name := "spare", desc := "(LBudgetJury;I[J)I" } : Jvm.MethodName)) ∈ am_W := am_kg 5 56 rfl rfl
theorem am_k1124 : (Jvm.Cond.static ({ cls := "BudgetJuryLaw", name := "spare", desc := "(LBudgetJury;I[J)I" } : Jvm.MethodName)) ∈ am_W := am_kg 5 57 rfl rfl
theorem am_k1125 : (Jvm.Cond.codeWith ({ cls := "BudgetJuryLaw", name := "spare", desc := "(LBudgetJury;I[J)I" } : Jvm.MethodName) method_20_code (4 : Nat) (Option.some Jvm.ClassFile.FieldType.int) [((0 : Nat), (9 : Nat), (12 : Nat), (19 : Nat))]) ∈ am_W := am_kg 5 58 rfl rfl
theorem am_k1126 : (Jvm.Cond.methodLink "BudgetJuryLaw" (71 : Nat) ({ cls := "BudgetJury", name := "spare", desc := "(I)I" } : Jvm.MethodName)) ∈ am_W := am_kg 5 59 rfl rfl
theorem am_k1127 : (Jvm.Cond.instanceMethod ({ cls := "BudgetJury", name := "spare", desc := "(I)I" } : Jvm.MethodName)) ∈ am_W := am_kg 5 60 rfl rfl
theorem am_k1128 : (Jvm.Cond.selects "BudgetJury" ({ cls := "BudgetJury", name := "spare", desc := "(I)I" } : Jvm.MethodName) ({ cls := "BudgetJury", name := "spare", desc := "(I)I" } : Jvm.MethodName)) ∈ am_W := am_kg 5 61 rfl rfl
theorem am_k1129 : (Jvm.Cond.code ({ cls := "BudgetJury", name := "spare", desc := "(I)I" } : Jvm.MethodName) prog_1_method_24_code (5 : Nat) (Option.some Jvm.ClassFile.FieldType.int)) ∈ am_W := am_kg 5 62 rfl rfl
theorem am_k1130 : (Jvm.Cond.classLink "BudgetJuryLaw" (75 : Nat) "BudgetJuryModel") ∈ am_W := am_kg 5 63 rfl rfl
theorem am_k1131 : (Jvm.Cond.instantiable "BudgetJuryModel" (16 : Nat)) ∈ am_W := am_kg 5 64 rfl rfl
theorem am_k1132 : (Jvm.Cond.methodLink "BudgetJuryLaw" (77 : Nat) ({ cls := "BudgetJuryModel", name := "<init>", desc := "()V" } : Jvm.MethodName)) ∈ am_W := am_kg 5 65 rfl rfl
theorem am_k1133 : (Jvm.Cond.instanceMethod ({ cls := "BudgetJuryModel", name := "<init>", desc := "()V" } : Jvm.MethodName)) ∈ am_W := am_kg 5 66 rfl rfl
theorem am_k1134 : (Jvm.Cond.code ({ cls := "BudgetJuryModel", name := "<init>", desc := "()V" } : Jvm.MethodName) prog_11_method_1_code (1 : Nat) (Option.none : Option Jvm.ClassFile.FieldType)) ∈ am_W := am_kg 5 67 rfl rfl
theorem am_k1135 : (Jvm.Cond.methodLink "BudgetJuryModel" (1 : Nat) ({ cls := "java/lang/Object", name := "<init>", desc := "()V" } : Jvm.MethodName)) ∈ am_W := am_kg 5 68 rfl rfl
theorem am_k1136 : (Jvm.Cond.classLink "BudgetJuryModel" (35 : Nat) "BudgetJuryModel$Plan") ∈ am_W := am_kg 5 69 rfl rfl
theorem am_k1137 : (Jvm.Cond.instantiable "BudgetJuryModel$Plan" (18 : Nat)) ∈ am_W := am_kg 5 70 rfl rfl
theorem am_k1138 : (Jvm.Cond.methodLinkNest "BudgetJuryModel" (37 : Nat) ({ cls := "BudgetJuryModel$Plan", name := "<init>", desc := "()V" } : Jvm.MethodName) "BudgetJuryModel") ∈ lw_tbl := am_kin 5 71 rfl
theorem am_k1139 : (Jvm.Cond.instanceMethod ({ cls := "BudgetJuryModel$Plan", name := "<init>", desc := "()V" } : Jvm.MethodName)) ∈ am_W := am_kg 5 72 rfl rfl
theorem am_k1140 : (Jvm.Cond.code ({ cls := "BudgetJuryModel$Plan", name := "<init>", desc := "()V" } : Jvm.MethodName) prog_12_method_1_code (1 : Nat) (Option.none : Option Jvm.ClassFile.FieldType)) ∈ am_W := am_kg 5 73 rfl rfl
theorem am_k1141 : (Jvm.Cond.methodLink "BudgetJuryModel$Plan" (3 : Nat) ({ cls := "java/lang/Object", name := "<init>", desc := "()V" } : Jvm.MethodName)) ∈ am_W := am_kg 5 74 rfl rfl
theorem am_k1142 : (Jvm.Cond.fieldLinkNest "BudgetJuryModel" (63 : Nat) "BudgetJuryModel$Plan" "wards" "I" "BudgetJuryModel") ∈ lw_tbl := am_kin 5 75 rfl
theorem am_k1143 : (Jvm.Cond.fieldLink "BudgetJuryModel$Plan" (9 : Nat) "BudgetJuryModel$Plan" "cap" "[I") ∈ am_W := am_kg 5 76 rfl rfl
theorem am_k1144 : (Jvm.Cond.fieldLinkNest "BudgetJuryModel$State" (105 : Nat) "BudgetJuryModel$Plan" "cap" "[I" "BudgetJuryModel") ∈ lw_tbl := am_kin 5 77 rfl
theorem am_k1145 : (Jvm.Cond.fieldLinkNest "BudgetJuryModel" (254 : Nat) "BudgetJuryModel$Plan" "cap" "[I" "BudgetJuryModel") ∈ lw_tbl := am_kin 5 78 rfl
theorem am_k1146 : (Jvm.Cond.fieldLinkNest "BudgetJuryModel" (70 : Nat) "BudgetJuryModel$Plan" "projects" "I" "BudgetJuryModel") ∈ lw_tbl := am_kin 5 79 rfl
theorem am_k1147 : (Jvm.Cond.fieldLinkNest "BudgetJuryModel$State" (84 : Nat) "BudgetJuryModel$Plan" "projects" "I" "BudgetJuryModel") ∈ lw_tbl := am_kin 5 80 rfl
theorem am_k1148 : (Jvm.Cond.fieldLink "BudgetJuryModel$Plan" (15 : Nat) "BudgetJuryModel$Plan" "cost" "[I") ∈ am_W := am_kg 5 81 rfl rfl
theorem am_k1149 : (Jvm.Cond.fieldLinkNest "BudgetJuryModel$State" (67 : Nat) "BudgetJuryModel$Plan" "cost" "[I" "BudgetJuryModel") ∈ lw_tbl := am_kin 5 82 rfl
theorem am_k1150 : (Jvm.Cond.fieldLinkNest "BudgetJuryModel" (260 : Nat) "BudgetJuryModel$Plan" "cost" "[I" "BudgetJuryModel") ∈ lw_tbl := am_kin 5 83 rfl
theorem am_k1151 : (Jvm.Cond.fieldLink "BudgetJuryModel$Plan" (18 : Nat) "BudgetJuryModel$Plan" "ward" "[I") ∈ am_W := am_kg 5 84 rfl rfl
theorem am_k1152 : (Jvm.Cond.fieldLinkNest "BudgetJuryModel$State" (102 : Nat) "BudgetJuryModel$Plan" "ward" "[I" "BudgetJuryModel") ∈ lw_tbl := am_kin 5 85 rfl
theorem am_k1153 : (Jvm.Cond.fieldLinkNest "BudgetJuryModel" (242 : Nat) "BudgetJuryModel$Plan" "ward" "[I" "BudgetJuryModel") ∈ lw_tbl := am_kin 5 86 rfl
theorem am_k1154 : (Jvm.Cond.fieldLink "BudgetJuryModel$Plan" (21 : Nat) "BudgetJuryModel$Plan" "grows" "[I") ∈ am_W := am_kg 5 87 rfl rfl
theorem am_k1155 : (Jvm.Cond.fieldLinkNest "BudgetJuryModel$State" (142 : Nat) "BudgetJuryModel$Plan" "grows" "[I" "BudgetJuryModel") ∈ lw_tbl := am_kin 5 88 rfl
theorem am_k1156 : (Jvm.Cond.fieldLinkNest "BudgetJuryModel" (263 : Nat) "BudgetJuryModel$Plan" "grows" "[I" "BudgetJuryModel") ∈ lw_tbl := am_kin 5 89 rfl
theorem am_k1157 : (Jvm.Cond.fieldLinkNest "BudgetJuryModel$State" (68 : Nat) "BudgetJuryModel$Plan" "voters" "I" "BudgetJuryModel") ∈ lw_tbl := am_kin 5 90 rfl
theorem am_k1158 : (Jvm.Cond.fieldLinkNest "BudgetJuryModel" (73 : Nat) "BudgetJuryModel$Plan" "voters" "I" "BudgetJuryModel") ∈ lw_tbl := am_kin 5 91 rfl
theorem am_k1159 : (Jvm.Cond.fieldLink "BudgetJuryModel$Plan" (24 : Nat) "BudgetJuryModel$Plan" "likes" "[I") ∈ am_W := am_kg 5 92 rfl rfl
theorem am_k1160 : (Jvm.Cond.fieldLinkNest "BudgetJuryModel$State" (64 : Nat) "BudgetJuryModel$Plan" "likes" "[I" "BudgetJuryModel") ∈ lw_tbl := am_kin 5 93 rfl
theorem am_k1161 : (Jvm.Cond.fieldLinkNest "BudgetJuryModel" (232 : Nat) "BudgetJuryModel$Plan" "likes" "[I" "BudgetJuryModel") ∈ lw_tbl := am_kin 5 94 rfl
theorem am_k1162 : (Jvm.Cond.fieldLink "BudgetJuryModel$Plan" (27 : Nat) "BudgetJuryModel$Plan" "budget" "I") ∈ am_W := am_kg 5 95 rfl rfl
theorem am_k1163 : (Jvm.Cond.fieldLinkNest "BudgetJuryModel" (266 : Nat) "BudgetJuryModel$Plan" "budget" "I" "BudgetJuryModel") ∈ lw_tbl := am_kin 5 96 rfl
theorem am_k1164 : (Jvm.Cond.fieldLinkNest "BudgetJuryModel$State" (87 : Nat) "BudgetJuryModel$Plan" "bans" "I" "BudgetJuryModel") ∈ lw_tbl := am_kin 5 97 rfl
theorem am_k1165 : (Jvm.Cond.fieldLinkNest "BudgetJuryModel" (226 : Nat) "BudgetJuryModel$Plan" "bans" "I" "BudgetJuryModel") ∈ lw_tbl := am_kin 5 98 rfl
theorem am_k1166 : (Jvm.Cond.fieldLinkNest "BudgetJuryModel" (161 : Nat) "BudgetJuryModel$Plan" "bansRead" "I" "BudgetJuryModel") ∈ lw_tbl := am_kin 5 99 rfl
theorem am_k1167 : (Jvm.Cond.fieldLink "BudgetJuryModel$Plan" (31 : Nat) "BudgetJuryModel$Plan" "banned" "[I") ∈ am_W := am_kg 5 100 rfl rfl
theorem am_k1168 : (Jvm.Cond.fieldLinkNest "BudgetJuryModel$State" (90 : Nat) "BudgetJuryModel$Plan" "banned" "[I" "BudgetJuryModel") ∈ lw_tbl := am_kin 5 101 rfl
theorem am_k1169 : (Jvm.Cond.fieldLinkNest "BudgetJuryModel" (248 : Nat) "BudgetJuryModel$Plan" "banned" "[I" "BudgetJuryModel") ∈ lw_tbl := am_kin 5 102 rfl
theorem am_k1170 : (Jvm.Cond.fieldLink "BudgetJuryModel$Plan" (34 : Nat) "BudgetJuryModel$Plan" "test" "[I") ∈ am_W := am_kg 5 103 rfl rfl
theorem am_k1171 : (Jvm.Cond.fieldLinkNest "BudgetJuryModel$State" (93 : Nat) "BudgetJuryModel$Plan" "test" "[I" "BudgetJuryModel") ∈ lw_tbl := am_kin 5 104 rfl
theorem am_k1172 : (Jvm.Cond.fieldLinkNest "BudgetJuryModel" (164 : Nat) "BudgetJuryModel$Plan" "test" "[I" "BudgetJuryModel") ∈ lw_tbl := am_kin 5 105 rfl
theorem am_k1173 : (Jvm.Cond.fieldLink "BudgetJuryModel$Plan" (37 : Nat) "BudgetJuryModel$Plan" "testEnd" "[I") ∈ am_W := am_kg 5 106 rfl rfl
theorem am_k1174 : (Jvm.Cond.fieldLinkNest "BudgetJuryModel$State" (96 : Nat) "BudgetJuryModel$Plan" "testEnd" "[I" "BudgetJuryModel") ∈ lw_tbl := am_kin 5 107 rfl
theorem am_k1175 : (Jvm.Cond.fieldLinkNest "BudgetJuryModel" (170 : Nat) "BudgetJuryModel$Plan" "testEnd" "[I" "BudgetJuryModel") ∈ lw_tbl := am_kin 5 108 rfl
theorem am_k1176 : (Jvm.Cond.fieldLink "BudgetJuryModel$Plan" (40 : Nat) "BudgetJuryModel$Plan" "code" "[I") ∈ am_W := am_kg 5 109 rfl rfl
theorem am_k1177 : (Jvm.Cond.fieldLinkNest "BudgetJuryModel" (133 : Nat) "BudgetJuryModel$Plan" "code" "[I" "BudgetJuryModel") ∈ lw_tbl := am_kin 5 110 rfl
theorem am_k1178 : (Jvm.Cond.fieldLinkNest "BudgetJuryModel$State" (155 : Nat) "BudgetJuryModel$Plan" "code" "[I" "BudgetJuryModel") ∈ lw_tbl := am_kin 5 111 rfl
theorem am_k1179 : (Jvm.Cond.fieldLinkNest "BudgetJuryModel" (136 : Nat) "BudgetJuryModel$Plan" "size" "I" "BudgetJuryModel") ∈ lw_tbl := am_kin 5 112 rfl
theorem am_k1180 : (Jvm.Cond.fieldLink "BudgetJuryModel$Plan" (43 : Nat) "BudgetJuryModel$Plan" "open" "[I") ∈ am_W := am_kg 5 113 rfl rfl
theorem am_k1181 : (Jvm.Cond.fieldLinkNest "BudgetJuryModel" (186 : Nat) "BudgetJuryModel$Plan" "open" "[I" "BudgetJuryModel") ∈ lw_tbl := am_kin 5 114 rfl
theorem am_k1182 : (Jvm.Cond.fieldLinkNest "BudgetJuryModel" (189 : Nat) "BudgetJuryModel$Plan" "opens" "I" "BudgetJuryModel") ∈ lw_tbl := am_kin 5 115 rfl
theorem am_k1183 : (Jvm.Cond.lays "BudgetJuryModel$Plan" "BudgetJuryModel$Plan" "wards" "I") ∈ am_W := am_kg 5 116 rfl rfl
theorem am_k1185 : (Jvm.Cond.laysFinal "BudgetJuryModel$Plan" "BudgetJuryModel$Plan" "cap" "[I") ∈ am_W := am_kg 5 118 rfl rfl
theorem am_k1187 : (Jvm.Cond.lays "BudgetJuryModel$Plan" "BudgetJuryModel$Plan" "projects" "I") ∈ am_W := am_kg 5 120 rfl rfl
theorem am_k1189 : (Jvm.Cond.laysFinal "BudgetJuryModel$Plan" "BudgetJuryModel$Plan" "cost" "[I") ∈ am_W := am_kg 5 122 rfl rfl
theorem am_k1191 : (Jvm.Cond.laysFinal "BudgetJuryModel$Plan" "BudgetJuryModel$Plan" "ward" "[I") ∈ am_W := am_kg 5 124 rfl rfl
theorem am_k1193 : (Jvm.Cond.laysFinal "BudgetJuryModel$Plan" "BudgetJuryModel$Plan" "grows" "[I") ∈ am_W := am_kg 5 126 rfl rfl
theorem am_k1195 : (Jvm.Cond.lays "BudgetJuryModel$Plan" "BudgetJuryModel$Plan" "voters" "I") ∈ am_W := am_kg 5 128 rfl rfl
theorem am_k1197 : (Jvm.Cond.laysFinal "BudgetJuryModel$Plan" "BudgetJuryModel$Plan" "likes" "[I") ∈ am_W := am_kg 5 130 rfl rfl
theorem am_k1199 : (Jvm.Cond.lays "BudgetJuryModel$Plan" "BudgetJuryModel$Plan" "budget" "I") ∈ am_W := am_kg 5 132 rfl rfl
theorem am_k1201 : (Jvm.Cond.lays "BudgetJuryModel$Plan" "BudgetJuryModel$Plan" "bans" "I") ∈ am_W := am_kg 5 134 rfl rfl
theorem am_k1203 : (Jvm.Cond.lays "BudgetJuryModel$Plan" "BudgetJuryModel$Plan" "bansRead" "I") ∈ am_W := am_kg 5 136 rfl rfl
theorem am_k1205 : (Jvm.Cond.laysFinal "BudgetJuryModel$Plan" "BudgetJuryModel$Plan" "banned" "[I") ∈ am_W := am_kg 5 138 rfl rfl
theorem am_k1207 : (Jvm.Cond.laysFinal "BudgetJuryModel$Plan" "BudgetJuryModel$Plan" "test" "[I") ∈ am_W := am_kg 5 140 rfl rfl
theorem am_k1209 : (Jvm.Cond.laysFinal "BudgetJuryModel$Plan" "BudgetJuryModel$Plan" "testEnd" "[I") ∈ am_W := am_kg 5 142 rfl rfl
theorem am_k1211 : (Jvm.Cond.laysFinal "BudgetJuryModel$Plan" "BudgetJuryModel$Plan" "code" "[I") ∈ am_W := am_kg 5 144 rfl rfl
theorem am_k1213 : (Jvm.Cond.lays "BudgetJuryModel$Plan" "BudgetJuryModel$Plan" "size" "I") ∈ am_W := am_kg 5 146 rfl rfl
theorem am_k1215 : (Jvm.Cond.laysFinal "BudgetJuryModel$Plan" "BudgetJuryModel$Plan" "open" "[I") ∈ am_W := am_kg 5 148 rfl rfl
theorem am_k1217 : (Jvm.Cond.lays "BudgetJuryModel$Plan" "BudgetJuryModel$Plan" "opens" "I") ∈ am_W := am_kg 5 150 rfl rfl
theorem am_k1220 : (Jvm.Cond.classLink "BudgetJuryModel" (45 : Nat) "BudgetJuryModel$State") ∈ am_W := am_kg 5 153 rfl rfl
theorem am_k1221 : (Jvm.Cond.instantiable "BudgetJuryModel$State" (12 : Nat)) ∈ am_W := am_kg 5 154 rfl rfl
theorem am_k1222 : (Jvm.Cond.methodLinkNest "BudgetJuryModel" (47 : Nat) ({ cls := "BudgetJuryModel$State", name := "<init>", desc := "(LBudgetJuryModel;)V" } : Jvm.MethodName) "BudgetJuryModel") ∈ lw_tbl := am_kin 5 155 rfl
theorem am_k1223 : (Jvm.Cond.instanceMethod ({ cls := "BudgetJuryModel$State", name := "<init>", desc := "(LBudgetJuryModel;)V" } : Jvm.MethodName)) ∈ am_W := am_kg 5 156 rfl rfl
theorem am_k1224 : (Jvm.Cond.code ({ cls := "BudgetJuryModel$State", name := "<init>", desc := "(LBudgetJuryModel;)V" } : Jvm.MethodName) prog_13_method_1_code (2 : Nat) (Option.none : Option Jvm.ClassFile.FieldType)) ∈ am_W := am_kg 5 157 rfl rfl
theorem am_k1225 : (Jvm.Cond.methodLink "BudgetJuryModel$State" (9 : Nat) ({ cls := "java/lang/Object", name := "<init>", desc := "()V" } : Jvm.MethodName)) ∈ am_W := am_kg 5 158 rfl rfl
theorem am_k1226 : (Jvm.Cond.fieldLink "BudgetJuryModel$State" (47 : Nat) "BudgetJuryModel$State" "year" "I") ∈ am_W := am_kg 5 159 rfl rfl
theorem am_k1227 : (Jvm.Cond.fieldLinkNest "BudgetJuryModel" (285 : Nat) "BudgetJuryModel$State" "year" "I" "BudgetJuryModel") ∈ lw_tbl := am_kin 5 160 rfl
theorem am_k1228 : (Jvm.Cond.fieldLink "BudgetJuryModel$State" (50 : Nat) "BudgetJuryModel$State" "pot" "I") ∈ am_W := am_kg 5 161 rfl rfl
theorem am_k1229 : (Jvm.Cond.fieldLink "BudgetJuryModel$State" (53 : Nat) "BudgetJuryModel$State" "paid" "I") ∈ am_W := am_kg 5 162 rfl rfl
theorem am_k1230 : (Jvm.Cond.fieldLink "BudgetJuryModel$State" (15 : Nat) "BudgetJuryModel$State" "purse" "[I") ∈ am_W := am_kg 5 163 rfl rfl
theorem am_k1231 : (Jvm.Cond.fieldLinkNest "BudgetJuryModel" (320 : Nat) "BudgetJuryModel$State" "purse" "[I" "BudgetJuryModel") ∈ lw_tbl := am_kin 5 164 rfl
theorem am_k1232 : (Jvm.Cond.fieldLink "BudgetJuryModel$State" (19 : Nat) "BudgetJuryModel$State" "gave" "[I") ∈ am_W := am_kg 5 165 rfl rfl
theorem am_k1233 : (Jvm.Cond.fieldLinkNest "BudgetJuryModel" (332 : Nat) "BudgetJuryModel$State" "gave" "[I" "BudgetJuryModel") ∈ lw_tbl := am_kin 5 166 rfl
theorem am_k1234 : (Jvm.Cond.fieldLink "BudgetJuryModel$State" (22 : Nat) "BudgetJuryModel$State" "likes" "[I") ∈ am_W := am_kg 5 167 rfl rfl
theorem am_k1235 : (Jvm.Cond.fieldLinkNest "BudgetJuryModel" (323 : Nat) "BudgetJuryModel$State" "likes" "[I" "BudgetJuryModel") ∈ lw_tbl := am_kin 5 168 rfl
theorem am_k1236 : (Jvm.Cond.fieldLink "BudgetJuryModel$State" (25 : Nat) "BudgetJuryModel$State" "cost" "[I") ∈ am_W := am_kg 5 169 rfl rfl
theorem am_k1237 : (Jvm.Cond.fieldLinkNest "BudgetJuryModel" (292 : Nat) "BudgetJuryModel$State" "cost" "[I" "BudgetJuryModel") ∈ lw_tbl := am_kin 5 170 rfl
theorem am_k1238 : (Jvm.Cond.fieldLink "BudgetJuryModel$State" (28 : Nat) "BudgetJuryModel$State" "built" "[I") ∈ am_W := am_kg 5 171 rfl rfl
theorem am_k1239 : (Jvm.Cond.fieldLinkNest "BudgetJuryModel" (289 : Nat) "BudgetJuryModel$State" "built" "[I" "BudgetJuryModel") ∈ lw_tbl := am_kin 5 172 rfl
theorem am_k1240 : (Jvm.Cond.fieldLink "BudgetJuryModel$State" (31 : Nat) "BudgetJuryModel$State" "bought" "[I") ∈ am_W := am_kg 5 173 rfl rfl
theorem am_k1241 : (Jvm.Cond.fieldLinkNest "BudgetJuryModel" (302 : Nat) "BudgetJuryModel$State" "bought" "[I" "BudgetJuryModel") ∈ lw_tbl := am_kin 5 174 rfl
theorem am_k1242 : (Jvm.Cond.fieldLink "BudgetJuryModel$State" (34 : Nat) "BudgetJuryModel$State" "barred" "I") ∈ am_W := am_kg 5 175 rfl rfl
theorem am_k1243 : (Jvm.Cond.fieldLinkNest "BudgetJuryModel" (363 : Nat) "BudgetJuryModel$State" "barred" "I" "BudgetJuryModel") ∈ lw_tbl := am_kin 5 176 rfl
theorem am_k1244 : (Jvm.Cond.fieldLink "BudgetJuryModel$State" (38 : Nat) "BudgetJuryModel$State" "stack" "[I") ∈ am_W := am_kg 5 177 rfl rfl
theorem am_k1245 : (Jvm.Cond.fieldLink "BudgetJuryModel$State" (3 : Nat) "BudgetJuryModel$State" "this$0" "LBudgetJuryModel;") ∈ am_W := am_kg 5 178 rfl rfl
theorem am_k1246 : (Jvm.Cond.lays "BudgetJuryModel$State" "BudgetJuryModel$State" "year" "I") ∈ am_W := am_kg 5 179 rfl rfl
theorem am_k1248 : (Jvm.Cond.lays "BudgetJuryModel$State" "BudgetJuryModel$State" "pot" "I") ∈ am_W := am_kg 5 181 rfl rfl
theorem am_k1250 : (Jvm.Cond.lays "BudgetJuryModel$State" "BudgetJuryModel$State" "paid" "I") ∈ am_W := am_kg 5 183 rfl rfl
theorem am_k1252 : (Jvm.Cond.laysFinal "BudgetJuryModel$State" "BudgetJuryModel$State" "purse" "[I") ∈ am_W := am_kg 5 185 rfl rfl
theorem am_k1254 : (Jvm.Cond.laysFinal "BudgetJuryModel$State" "BudgetJuryModel$State" "gave" "[I") ∈ am_W := am_kg 5 187 rfl rfl
theorem am_k1256 : (Jvm.Cond.laysFinal "BudgetJuryModel$State" "BudgetJuryModel$State" "likes" "[I") ∈ am_W := am_kg 5 189 rfl rfl
theorem am_k1258 : (Jvm.Cond.laysFinal "BudgetJuryModel$State" "BudgetJuryModel$State" "cost" "[I") ∈ am_W := am_kg 5 191 rfl rfl
theorem am_k1260 : (Jvm.Cond.laysFinal "BudgetJuryModel$State" "BudgetJuryModel$State" "built" "[I") ∈ am_W := am_kg 5 193 rfl rfl
theorem am_k1262 : (Jvm.Cond.laysFinal "BudgetJuryModel$State" "BudgetJuryModel$State" "bought" "[I") ∈ am_W := am_kg 5 195 rfl rfl
theorem am_k1264 : (Jvm.Cond.lays "BudgetJuryModel$State" "BudgetJuryModel$State" "barred" "I") ∈ am_W := am_kg 5 197 rfl rfl
theorem am_k1266 : (Jvm.Cond.laysFinal "BudgetJuryModel$State" "BudgetJuryModel$State" "stack" "[I") ∈ am_W := am_kg 5 199 rfl rfl
theorem am_k1268 : (Jvm.Cond.laysFinal "BudgetJuryModel$State" "BudgetJuryModel$State" "this$0" "LBudgetJuryModel;") ∈ am_W := am_kg 5 201 rfl rfl
theorem am_k1271 : (Jvm.Cond.methodLink "BudgetJuryModel" (57 : Nat) ({ cls := "BudgetJuryModel$State", name := "begin", desc := "()V" } : Jvm.MethodName)) ∈ am_W := am_kg 5 204 rfl rfl
theorem am_k1272 : (Jvm.Cond.instanceMethod ({ cls := "BudgetJuryModel$State", name := "begin", desc := "()V" } : Jvm.MethodName)) ∈ am_W := am_kg 5 205 rfl rfl
theorem am_k1273 : (Jvm.Cond.selects "BudgetJuryModel$State" ({ cls := "BudgetJuryModel$State", name := "begin", desc := "()V" } : Jvm.MethodName) ({ cls := "BudgetJuryModel$State", name := "begin", desc := "()V" } : Jvm.MethodName)) ∈ am_W := am_kg 5 206 rfl rfl
theorem am_k1274 : (Jvm.Cond.code ({ cls := "BudgetJuryModel$State", name := "begin", desc := "()V" } : Jvm.MethodName) prog_13_method_4_code (2 : Nat) (Option.none : Option Jvm.ClassFile.FieldType)) ∈ am_W := am_kg 5 207 rfl rfl
theorem am_k1275 : (Jvm.Cond.fieldLink "BudgetJuryModel" (60 : Nat) "BudgetJuryModel" "thrown" "I") ∈ am_W := am_kg 5 208 rfl rfl
theorem am_k1276 : (Jvm.Cond.fieldLink "BudgetJuryModel" (9 : Nat) "BudgetJuryModel" "tape" "[I") ∈ am_W := am_kg 5 209 rfl rfl
theorem am_k1277 : (Jvm.Cond.fieldLink "BudgetJuryModel" (85 : Nat) "BudgetJuryModel" "size" "I") ∈ am_W := am_kg 5 210 rfl rfl
theorem am_k1278 : (Jvm.Cond.fieldLink "BudgetJuryModel" (13 : Nat) "BudgetJuryModel" "errorAt" "I") ∈ am_W := am_kg 5 211 rfl rfl
theorem am_k1279 : (Jvm.Cond.fieldLink "BudgetJuryModel" (17 : Nat) "BudgetJuryModel" "budget" "I") ∈ am_W := am_kg 5 212 rfl rfl
theorem am_k1280 : (Jvm.Cond.fieldLinkNest "BudgetJuryModel$State" (112 : Nat) "BudgetJuryModel" "budget" "I" "BudgetJuryModel") ∈ lw_tbl := am_kin 5 213 rfl
theorem am_k1281 : (Jvm.Cond.fieldLink "BudgetJuryModel" (20 : Nat) "BudgetJuryModel" "kind" "[I") ∈ am_W := am_kg 5 214 rfl rfl
theorem am_k1282 : (Jvm.Cond.fieldLink "BudgetJuryModel" (23 : Nat) "BudgetJuryModel" "from" "[I") ∈ am_W := am_kg 5 215 rfl rfl
theorem am_k1283 : (Jvm.Cond.fieldLink "BudgetJuryModel" (26 : Nat) "BudgetJuryModel" "many" "[I") ∈ am_W := am_kg 5 216 rfl rfl
theorem am_k1284 : (Jvm.Cond.fieldLink "BudgetJuryModel" (29 : Nat) "BudgetJuryModel" "role" "[I") ∈ am_W := am_kg 5 217 rfl rfl
theorem am_k1285 : (Jvm.Cond.fieldLink "BudgetJuryModel" (32 : Nat) "BudgetJuryModel" "meant" "[I") ∈ am_W := am_kg 5 218 rfl rfl
theorem am_k1286 : (Jvm.Cond.fieldLink "BudgetJuryModel" (124 : Nat) "BudgetJuryModel" "token" "I") ∈ am_W := am_kg 5 219 rfl rfl
theorem am_k1287 : (Jvm.Cond.fieldLink "BudgetJuryModel" (183 : Nat) "BudgetJuryModel" "depth" "I") ∈ am_W := am_kg 5 220 rfl rfl
theorem am_k1288 : (Jvm.Cond.fieldLink "BudgetJuryModel" (38 : Nat) "BudgetJuryModel" "plan" "LBudgetJuryModel$Plan;") ∈ am_W := am_kg 5 221 rfl rfl
theorem am_k1289 : (Jvm.Cond.fieldLinkNest "BudgetJuryModel$State" (60 : Nat) "BudgetJuryModel" "plan" "LBudgetJuryModel$Plan;" "BudgetJuryModel") ∈ lw_tbl := am_kin 5 222 rfl
theorem am_k1290 : (Jvm.Cond.fieldLink "BudgetJuryModel" (42 : Nat) "BudgetJuryModel" "reading" "LBudgetJuryModel$Plan;") ∈ am_W := am_kg 5 223 rfl rfl
theorem am_k1291 : (Jvm.Cond.fieldLink "BudgetJuryModel" (50 : Nat) "BudgetJuryModel" "s" "LBudgetJuryModel$State;") ∈ am_W := am_kg 5 224 rfl rfl
theorem am_k1292 : (Jvm.Cond.fieldLink "BudgetJuryModel" (54 : Nat) "BudgetJuryModel" "ahead" "LBudgetJuryModel$State;") ∈ am_W := am_kg 5 225 rfl rfl
theorem am_k1293 : (Jvm.Cond.lays "BudgetJuryModel" "BudgetJuryModel" "thrown" "I") ∈ am_W := am_kg 5 226 rfl rfl
theorem am_k1295 : (Jvm.Cond.laysFinal "BudgetJuryModel" "BudgetJuryModel" "tape" "[I") ∈ am_W := am_kg 5 228 rfl rfl
theorem am_k1297 : (Jvm.Cond.lays "BudgetJuryModel" "BudgetJuryModel" "size" "I") ∈ am_W := am_kg 5 230 rfl rfl
theorem am_k1299 : (Jvm.Cond.lays "BudgetJuryModel" "BudgetJuryModel" "errorAt" "I") ∈ am_W := am_kg 5 232 rfl rfl
theorem am_k1301 : (Jvm.Cond.lays "BudgetJuryModel" "BudgetJuryModel" "budget" "I") ∈ am_W := am_kg 5 234 rfl rfl
theorem am_k1303 : (Jvm.Cond.laysFinal "BudgetJuryModel" "BudgetJuryModel" "kind" "[I") ∈ am_W := am_kg 5 236 rfl rfl
theorem am_k1305 : (Jvm.Cond.laysFinal "BudgetJuryModel" "BudgetJuryModel" "from" "[I") ∈ am_W := am_kg 5 238 rfl rfl
theorem am_k1307 : (Jvm.Cond.laysFinal "BudgetJuryModel" "BudgetJuryModel" "many" "[I") ∈ am_W := am_kg 6 0 rfl rfl
theorem am_k1309 : (Jvm.Cond.laysFinal "BudgetJuryModel" "BudgetJuryModel" "role" "[I") ∈ am_W := am_kg 6 2 rfl rfl
theorem am_k1311 : (Jvm.Cond.laysFinal "BudgetJuryModel" "BudgetJuryModel" "meant" "[I") ∈ am_W := am_kg 6 4 rfl rfl
theorem am_k1313 : (Jvm.Cond.lays "BudgetJuryModel" "BudgetJuryModel" "token" "I") ∈ am_W := am_kg 6 6 rfl rfl
theorem am_k1315 : (Jvm.Cond.lays "BudgetJuryModel" "BudgetJuryModel" "depth" "I") ∈ am_W := am_kg 6 8 rfl rfl
theorem am_k1317 : (Jvm.Cond.lays "BudgetJuryModel" "BudgetJuryModel" "plan" "LBudgetJuryModel$Plan;") ∈ am_W := am_kg 6 10 rfl rfl
theorem am_k1319 : (Jvm.Cond.lays "BudgetJuryModel" "BudgetJuryModel" "reading" "LBudgetJuryModel$Plan;") ∈ am_W := am_kg 6 12 rfl rfl
theorem am_k1321 : (Jvm.Cond.laysFinal "BudgetJuryModel" "BudgetJuryModel" "s" "LBudgetJuryModel$State;") ∈ am_W := am_kg 6 14 rfl rfl
theorem am_k1323 : (Jvm.Cond.laysFinal "BudgetJuryModel" "BudgetJuryModel" "ahead" "LBudgetJuryModel$State;") ∈ am_W := am_kg 6 16 rfl rfl
theorem am_k1326 : (Jvm.Cond.methodLink "BudgetJuryLaw" (84 : Nat) ({ cls := "BudgetJuryModel", name := "thrown", desc := "()I" } : Jvm.MethodName)) ∈ am_W := am_kg 6 19 rfl rfl
theorem am_k1327 : (Jvm.Cond.instanceMethod ({ cls := "BudgetJuryModel", name := "thrown", desc := "()I" } : Jvm.MethodName)) ∈ am_W := am_kg 6 20 rfl rfl
theorem am_k1328 : (Jvm.Cond.selects "BudgetJuryModel" ({ cls := "BudgetJuryModel", name := "thrown", desc := "()I" } : Jvm.MethodName) ({ cls := "BudgetJuryModel", name := "thrown", desc := "()I" } : Jvm.MethodName)) ∈ am_W := am_kg 6 21 rfl rfl
theorem am_k1329 : (Jvm.Cond.code ({ cls := "BudgetJuryModel", name := "thrown", desc := "()I" } : Jvm.MethodName) prog_11_method_2_code (1 : Nat) (Option.some Jvm.ClassFile.FieldType.int)) ∈ am_W := am_kg 6 22 rfl rfl
theorem am_k1330 : (Jvm.Cond.methodLink "BudgetJuryLaw" (83 : Nat) ({ cls := "BudgetJuryModel", name := "feed", desc := "(IIIII)I" } : Jvm.MethodName)) ∈ am_W := am_kg 6 23 rfl rfl
theorem am_k1331 : (Jvm.Cond.instanceMethod ({ cls := "BudgetJuryModel", name := "feed", desc := "(IIIII)I" } : Jvm.MethodName)) ∈ am_W := am_kg 6 24 rfl rfl
theorem am_k1332 : (Jvm.Cond.selects "BudgetJuryModel" ({ cls := "BudgetJuryModel", name := "feed", desc := "(IIIII)I" } : Jvm.MethodName) ({ cls := "BudgetJuryModel", name := "feed", desc := "(IIIII)I" } : Jvm.MethodName)) ∈ am_W := am_kg 6 25 rfl rfl
theorem am_k1333 : (Jvm.Cond.code ({ cls := "BudgetJuryModel", name := "feed", desc := "(IIIII)I" } : Jvm.MethodName) prog_11_method_49_code (8 : Nat) (Option.some Jvm.ClassFile.FieldType.int)) ∈ am_W := am_kg 6 26 rfl rfl
theorem am_k1334 : (Jvm.Cond.methodLink "BudgetJuryModel" (276 : Nat) ({ cls := "BudgetJuryModel", name := "no", desc := "(I)I" } : Jvm.MethodName)) ∈ am_W := am_kg 6 27 rfl rfl
theorem am_k1336 : (Jvm.Cond.instanceMethod ({ cls := "BudgetJuryModel", name := "no", desc := "(I)I" } : Jvm.MethodName)) ∈ am_W := am_kg 6 29 rfl rfl
theorem am_k1337 : (Jvm.Cond.code ({ cls := "BudgetJuryModel", name := "no", desc := "(I)I" } : Jvm.MethodName) prog_11_method_3_code (2 : Nat) (Option.some Jvm.ClassFile.FieldType.int)) ∈ am_W := am_kg 6 30 rfl rfl
theorem am_k1338 : (Jvm.Cond.methodLink "BudgetJuryLaw" (91 : Nat) ({ cls := "BudgetJuryModel", name := "trim", desc := "(I)I" } : Jvm.MethodName)) ∈ am_W := am_kg 6 31 rfl rfl
theorem am_k1339 : (Jvm.Cond.instanceMethod ({ cls := "BudgetJuryModel", name := "trim", desc := "(I)I" } : Jvm.MethodName)) ∈ am_W := am_kg 6 32 rfl rfl
