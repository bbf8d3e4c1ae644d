/-! ===== the words of the tables, each at its place ===== -/
def am_pcs : Nat → List Cond
  | 0 => k2_sels lw_privs
  | 1 => tables_1_1
  | 2 => tables_1_2
  | 3 => tables_1_3
  | 4 => tables_1_4
  | 5 => tables_1_5
  | _ => tables_1_6
theorem am_pcs_in {j : Nat} {w : Cond} (h : w ∈ am_pcs j) : w ∈ lw_tbl := by
  unfold lw_tbl tables_1
  simp only [List.mem_append]
  match j, h with
  | 0, h => exact Or.inl h
  | 1, h => exact Or.inr (Or.inl h)
  | 2, h => exact Or.inr (Or.inr (Or.inl h))
  | 3, h => exact Or.inr (Or.inr (Or.inr (Or.inl h)))
  | 4, h => exact Or.inr (Or.inr (Or.inr (Or.inr (Or.inl h))))
  | 5, h => exact Or.inr (Or.inr (Or.inr (Or.inr (Or.inr (Or.inl h)))))
  | n + 6, h => exact Or.inr (Or.inr (Or.inr (Or.inr (Or.inr (Or.inr h)))))
theorem am_kin {w : Cond} (j k : Nat) (h : (am_pcs j)[k]? = some w) : w ∈ lw_tbl := am_pcs_in (List.mem_of_getElem? h)
theorem am_kg {w : Cond} (j k : Nat) (h : (am_pcs j)[k]? = some w) (g : goodWord w = true) : w ∈ am_W := List.mem_filter.mpr ⟨List.mem_append_right _ (am_kin j k h), g⟩
theorem am_k1 : (Jvm.Cond.selects "BudgetJury" ({ cls := "BudgetJury", name := "countOf", desc := "(I)I" } : Jvm.MethodName) ({ cls := "BudgetJury", name := "countOf", desc := "(I)I" } : Jvm.MethodName)) ∈ am_W := am_kg 0 1 rfl rfl
theorem am_k2 : (Jvm.Cond.selects "BudgetJury$Parish" ({ cls := "BudgetJury$Parish", name := "purses", desc := "()I" } : Jvm.MethodName) ({ cls := "BudgetJury$Parish", name := "purses", desc := "()I" } : Jvm.MethodName)) ∈ am_W := am_kg 0 2 rfl rfl
theorem am_k3 : (Jvm.Cond.selects "BudgetJury$Parish" ({ cls := "BudgetJury$Parish", name := "boughtCount", desc := "()I" } : Jvm.MethodName) ({ cls := "BudgetJury$Parish", name := "boughtCount", desc := "()I" } : Jvm.MethodName)) ∈ am_W := am_kg 0 3 rfl rfl
theorem am_k4 : (Jvm.Cond.selects "BudgetJury$Parish" ({ cls := "BudgetJury$Parish", name := "fanCount", desc := "(I)I" } : Jvm.MethodName) ({ cls := "BudgetJury$Parish", name := "fanCount", desc := "(I)I" } : Jvm.MethodName)) ∈ am_W := am_kg 0 4 rfl rfl
theorem am_k5 : (Jvm.Cond.selects "BudgetJury$Parish" ({ cls := "BudgetJury$Parish", name := "isBanned", desc := "(I)Z" } : Jvm.MethodName) ({ cls := "BudgetJury$Parish", name := "isBanned", desc := "(I)Z" } : Jvm.MethodName)) ∈ am_W := am_kg 0 5 rfl rfl
theorem am_k6 : (Jvm.Cond.selects "BudgetJury$Parish" ({ cls := "BudgetJury$Parish", name := "holds", desc := "(I)Z" } : Jvm.MethodName) ({ cls := "BudgetJury$Parish", name := "holds", desc := "(I)Z" } : Jvm.MethodName)) ∈ am_W := am_kg 0 6 rfl rfl
theorem am_k7 : (Jvm.Cond.selects "BudgetJury$Parish" ({ cls := "BudgetJury$Parish", name := "pop", desc := "()I" } : Jvm.MethodName) ({ cls := "BudgetJury$Parish", name := "pop", desc := "()I" } : Jvm.MethodName)) ∈ am_W := am_kg 0 7 rfl rfl
theorem am_k8 : (Jvm.Cond.selects "BudgetJury$Parish" ({ cls := "BudgetJury$Parish", name := "push", desc := "(I)V" } : Jvm.MethodName) ({ cls := "BudgetJury$Parish", name := "push", desc := "(I)V" } : Jvm.MethodName)) ∈ am_W := am_kg 0 8 rfl rfl
theorem am_k9 : (Jvm.Cond.selects "BudgetJury$Parish" ({ cls := "BudgetJury$Parish", name := "single", desc := "(II)I" } : Jvm.MethodName) ({ cls := "BudgetJury$Parish", name := "single", desc := "(II)I" } : Jvm.MethodName)) ∈ am_W := am_kg 0 9 rfl rfl
theorem am_k10 : (Jvm.Cond.selects "BudgetJury$Parish" ({ cls := "BudgetJury$Parish", name := "reckon", desc := "(III)I" } : Jvm.MethodName) ({ cls := "BudgetJury$Parish", name := "reckon", desc := "(III)I" } : Jvm.MethodName)) ∈ am_W := am_kg 0 10 rfl rfl
theorem am_k11 : (Jvm.Cond.selects "BudgetJury$Parish" ({ cls := "BudgetJury$Parish", name := "coinsOfFans", desc := "(I)I" } : Jvm.MethodName) ({ cls := "BudgetJury$Parish", name := "coinsOfFans", desc := "(I)I" } : Jvm.MethodName)) ∈ am_W := am_kg 0 11 rfl rfl
theorem am_k12 : (Jvm.Cond.selects "BudgetJury$Parish" ({ cls := "BudgetJury$Parish", name := "likedCount", desc := "(I)I" } : Jvm.MethodName) ({ cls := "BudgetJury$Parish", name := "likedCount", desc := "(I)I" } : Jvm.MethodName)) ∈ am_W := am_kg 0 12 rfl rfl
theorem am_k13 : (Jvm.Cond.selects "BudgetJury$Parish" ({ cls := "BudgetJury$Parish", name := "hasRoom", desc := "(I)Z" } : Jvm.MethodName) ({ cls := "BudgetJury$Parish", name := "hasRoom", desc := "(I)Z" } : Jvm.MethodName)) ∈ am_W := am_kg 0 13 rfl rfl
theorem am_k14 : (Jvm.Cond.selects "BudgetJury$Parish" ({ cls := "BudgetJury$Parish", name := "buyFromPurses", desc := "()V" } : Jvm.MethodName) ({ cls := "BudgetJury$Parish", name := "buyFromPurses", desc := "()V" } : Jvm.MethodName)) ∈ am_W := am_kg 0 14 rfl rfl
theorem am_k15 : (Jvm.Cond.selects "BudgetJury$Parish" ({ cls := "BudgetJury$Parish", name := "buy", desc := "(II)V" } : Jvm.MethodName) ({ cls := "BudgetJury$Parish", name := "buy", desc := "(II)V" } : Jvm.MethodName)) ∈ am_W := am_kg 0 15 rfl rfl
theorem am_k16 : (Jvm.Cond.selects "BudgetJury$Parish" ({ cls := "BudgetJury$Parish", name := "build", desc := "(I)V" } : Jvm.MethodName) ({ cls := "BudgetJury$Parish", name := "build", desc := "(I)V" } : Jvm.MethodName)) ∈ am_W := am_kg 0 16 rfl rfl
theorem am_k17 : (Jvm.Cond.selects "BudgetJury$Parish" ({ cls := "BudgetJury$Parish", name := "buildFromPot", desc := "()V" } : Jvm.MethodName) ({ cls := "BudgetJury$Parish", name := "buildFromPot", desc := "()V" } : Jvm.MethodName)) ∈ am_W := am_kg 0 17 rfl rfl
theorem am_k18 : (Jvm.Cond.selects "BudgetJury$Parish" ({ cls := "BudgetJury$Parish", name := "bestForPot", desc := "()I" } : Jvm.MethodName) ({ cls := "BudgetJury$Parish", name := "bestForPot", desc := "()I" } : Jvm.MethodName)) ∈ am_W := am_kg 0 18 rfl rfl
theorem am_k19 : (Jvm.Cond.selects "BudgetJury$Parish" ({ cls := "BudgetJury$Parish", name := "isBetterForPot", desc := "(II)Z" } : Jvm.MethodName) ({ cls := "BudgetJury$Parish", name := "isBetterForPot", desc := "(II)Z" } : Jvm.MethodName)) ∈ am_W := am_kg 0 19 rfl rfl
theorem am_k20 : (Jvm.Cond.selects "BudgetJury$Parish" ({ cls := "BudgetJury$Parish", name := "grow", desc := "()V" } : Jvm.MethodName) ({ cls := "BudgetJury$Parish", name := "grow", desc := "()V" } : Jvm.MethodName)) ∈ am_W := am_kg 0 20 rfl rfl
theorem am_k21 : (Jvm.Cond.selects "BudgetJuryLaw$Sim" ({ cls := "BudgetJuryLaw$Sim", name := "buy", desc := "(I)V" } : Jvm.MethodName) ({ cls := "BudgetJuryLaw$Sim", name := "buy", desc := "(I)V" } : Jvm.MethodName)) ∈ am_W := am_kg 0 21 rfl rfl
theorem am_k22 : (Jvm.Cond.selects "BudgetJuryLaw$Sim" ({ cls := "BudgetJuryLaw$Sim", name := "build", desc := "(I)V" } : Jvm.MethodName) ({ cls := "BudgetJuryLaw$Sim", name := "build", desc := "(I)V" } : Jvm.MethodName)) ∈ am_W := am_kg 0 22 rfl rfl
theorem am_k23 : (Jvm.Cond.selects "BudgetJury" ({ cls := "BudgetJury", name := "append", desc := "(I)V" } : Jvm.MethodName) ({ cls := "BudgetJury", name := "append", desc := "(I)V" } : Jvm.MethodName)) ∈ am_W := am_kg 0 23 rfl rfl
theorem am_k24 : (Jvm.Cond.selects "BudgetJury$Tokens" ({ cls := "BudgetJury$Tokens", name := "skipBlanks", desc := "()V" } : Jvm.MethodName) ({ cls := "BudgetJury$Tokens", name := "skipBlanks", desc := "()V" } : Jvm.MethodName)) ∈ am_W := am_kg 0 24 rfl rfl
theorem am_k25 : (Jvm.Cond.selects "BudgetJury$Tokens" ({ cls := "BudgetJury$Tokens", name := "signAt", desc := "(I)I" } : Jvm.MethodName) ({ cls := "BudgetJury$Tokens", name := "signAt", desc := "(I)I" } : Jvm.MethodName)) ∈ am_W := am_kg 0 25 rfl rfl
theorem am_k26 : (Jvm.Cond.selects "BudgetJury$Tokens" ({ cls := "BudgetJury$Tokens", name := "cutOne", desc := "(I)I" } : Jvm.MethodName) ({ cls := "BudgetJury$Tokens", name := "cutOne", desc := "(I)I" } : Jvm.MethodName)) ∈ am_W := am_kg 0 26 rfl rfl
theorem am_k27 : (Jvm.Cond.selects "BudgetJury$Tokens" ({ cls := "BudgetJury$Tokens", name := "cutWord", desc := "(I)I" } : Jvm.MethodName) ({ cls := "BudgetJury$Tokens", name := "cutWord", desc := "(I)I" } : Jvm.MethodName)) ∈ am_W := am_kg 0 27 rfl rfl
theorem am_k28 : (Jvm.Cond.selects "BudgetJury$Tokens" ({ cls := "BudgetJury$Tokens", name := "cutNumber", desc := "(I)I" } : Jvm.MethodName) ({ cls := "BudgetJury$Tokens", name := "cutNumber", desc := "(I)I" } : Jvm.MethodName)) ∈ am_W := am_kg 0 28 rfl rfl
theorem am_k29 : (Jvm.Cond.selects "BudgetJury$Tokens" ({ cls := "BudgetJury$Tokens", name := "cutSymbol", desc := "()I" } : Jvm.MethodName) ({ cls := "BudgetJury$Tokens", name := "cutSymbol", desc := "()I" } : Jvm.MethodName)) ∈ am_W := am_kg 0 29 rfl rfl
theorem am_k30 : (Jvm.Cond.selects "BudgetJury$Grammar" ({ cls := "BudgetJury$Grammar", name := "here", desc := "()I" } : Jvm.MethodName) ({ cls := "BudgetJury$Grammar", name := "here", desc := "()I" } : Jvm.MethodName)) ∈ am_W := am_kg 0 30 rfl rfl
theorem am_k31 : (Jvm.Cond.selects "BudgetJury$Grammar" ({ cls := "BudgetJury$Grammar", name := "isLine", desc := "()Z" } : Jvm.MethodName) ({ cls := "BudgetJury$Grammar", name := "isLine", desc := "()Z" } : Jvm.MethodName)) ∈ am_W := am_kg 0 31 rfl rfl
theorem am_k32 : (Jvm.Cond.selects "BudgetJury$Grammar" ({ cls := "BudgetJury$Grammar", name := "take", desc := "(I)Z" } : Jvm.MethodName) ({ cls := "BudgetJury$Grammar", name := "take", desc := "(I)Z" } : Jvm.MethodName)) ∈ am_W := am_kg 0 32 rfl rfl
theorem am_k33 : (Jvm.Cond.selects "BudgetJury$Grammar" ({ cls := "BudgetJury$Grammar", name := "take", desc := "(II)Z" } : Jvm.MethodName) ({ cls := "BudgetJury$Grammar", name := "take", desc := "(II)Z" } : Jvm.MethodName)) ∈ am_W := am_kg 0 33 rfl rfl
theorem am_k34 : (Jvm.Cond.selects "BudgetJury$Grammar" ({ cls := "BudgetJury$Grammar", name := "isRowOfLiked", desc := "()Z" } : Jvm.MethodName) ({ cls := "BudgetJury$Grammar", name := "isRowOfLiked", desc := "()Z" } : Jvm.MethodName)) ∈ am_W := am_kg 0 34 rfl rfl
theorem am_k35 : (Jvm.Cond.selects "BudgetJury$Grammar" ({ cls := "BudgetJury$Grammar", name := "isBan", desc := "()Z" } : Jvm.MethodName) ({ cls := "BudgetJury$Grammar", name := "isBan", desc := "()Z" } : Jvm.MethodName)) ∈ am_W := am_kg 0 35 rfl rfl
theorem am_k36 : (Jvm.Cond.selects "BudgetJury$Grammar" ({ cls := "BudgetJury$Grammar", name := "isTest", desc := "(I)Z" } : Jvm.MethodName) ({ cls := "BudgetJury$Grammar", name := "isTest", desc := "(I)Z" } : Jvm.MethodName)) ∈ am_W := am_kg 0 36 rfl rfl
theorem am_k37 : (Jvm.Cond.selects "BudgetJury$Grammar" ({ cls := "BudgetJury$Grammar", name := "isBoth", desc := "(I)Z" } : Jvm.MethodName) ({ cls := "BudgetJury$Grammar", name := "isBoth", desc := "(I)Z" } : Jvm.MethodName)) ∈ am_W := am_kg 0 37 rfl rfl
theorem am_k38 : (Jvm.Cond.selects "BudgetJury$Grammar" ({ cls := "BudgetJury$Grammar", name := "isSingle", desc := "(I)Z" } : Jvm.MethodName) ({ cls := "BudgetJury$Grammar", name := "isSingle", desc := "(I)Z" } : Jvm.MethodName)) ∈ am_W := am_kg 0 38 rfl rfl
theorem am_k39 : (Jvm.Cond.selects "BudgetJury$Grammar" ({ cls := "BudgetJury$Grammar", name := "write", desc := "(I)Z" } : Jvm.MethodName) ({ cls := "BudgetJury$Grammar", name := "write", desc := "(I)Z" } : Jvm.MethodName)) ∈ am_W := am_kg 0 39 rfl rfl
theorem am_k40 : (Jvm.Cond.selects "BudgetJury$Grammar" ({ cls := "BudgetJury$Grammar", name := "write", desc := "(II)Z" } : Jvm.MethodName) ({ cls := "BudgetJury$Grammar", name := "write", desc := "(II)Z" } : Jvm.MethodName)) ∈ am_W := am_kg 0 40 rfl rfl
theorem am_k41 : (Jvm.Cond.selects "BudgetJury$Grammar" ({ cls := "BudgetJury$Grammar", name := "isNamed", desc := "(II)Z" } : Jvm.MethodName) ({ cls := "BudgetJury$Grammar", name := "isNamed", desc := "(II)Z" } : Jvm.MethodName)) ∈ am_W := am_kg 0 41 rfl rfl
theorem am_k42 : (Jvm.Cond.selects "BudgetJury$Grammar" ({ cls := "BudgetJury$Grammar", name := "isSum", desc := "(I)Z" } : Jvm.MethodName) ({ cls := "BudgetJury$Grammar", name := "isSum", desc := "(I)Z" } : Jvm.MethodName)) ∈ am_W := am_kg 0 42 rfl rfl
theorem am_k43 : (Jvm.Cond.selects "BudgetJury$Grammar" ({ cls := "BudgetJury$Grammar", name := "isProduct", desc := "(I)Z" } : Jvm.MethodName) ({ cls := "BudgetJury$Grammar", name := "isProduct", desc := "(I)Z" } : Jvm.MethodName)) ∈ am_W := am_kg 0 43 rfl rfl
theorem am_k44 : (Jvm.Cond.selects "BudgetJury$Grammar" ({ cls := "BudgetJury$Grammar", name := "isValue", desc := "(I)Z" } : Jvm.MethodName) ({ cls := "BudgetJury$Grammar", name := "isValue", desc := "(I)Z" } : Jvm.MethodName)) ∈ am_W := am_kg 0 44 rfl rfl
theorem am_k45 : (Jvm.Cond.selects "BudgetJury$Grammar" ({ cls := "BudgetJury$Grammar", name := "isPair", desc := "(I)Z" } : Jvm.MethodName) ({ cls := "BudgetJury$Grammar", name := "isPair", desc := "(I)Z" } : Jvm.MethodName)) ∈ am_W := am_kg 0 45 rfl rfl
theorem am_k46 : (Jvm.Cond.selects "BudgetJury$Grammar" ({ cls := "BudgetJury$Grammar", name := "comparisonHere", desc := "()I" } : Jvm.MethodName) ({ cls := "BudgetJury$Grammar", name := "comparisonHere", desc := "()I" } : Jvm.MethodName)) ∈ am_W := am_kg 0 46 rfl rfl
theorem am_k47 : (Jvm.Cond.selects "BudgetJury$Checker" ({ cls := "BudgetJury$Checker", name := "errorHere", desc := "(LBudgetJury$Plan;)I" } : Jvm.MethodName) ({ cls := "BudgetJury$Checker", name := "errorHere", desc := "(LBudgetJury$Plan;)I" } : Jvm.MethodName)) ∈ am_W := am_kg 0 47 rfl rfl
theorem am_k48 : (Jvm.Cond.selects "BudgetJury$Checker" ({ cls := "BudgetJury$Checker", name := "tellWard", desc := "(LBudgetJury$Plan;J)I" } : Jvm.MethodName) ({ cls := "BudgetJury$Checker", name := "tellWard", desc := "(LBudgetJury$Plan;J)I" } : Jvm.MethodName)) ∈ am_W := am_kg 0 48 rfl rfl
theorem am_k49 : (Jvm.Cond.selects "BudgetJury$Checker" ({ cls := "BudgetJury$Checker", name := "tellProject", desc := "(LBudgetJury$Plan;J)I" } : Jvm.MethodName) ({ cls := "BudgetJury$Checker", name := "tellProject", desc := "(LBudgetJury$Plan;J)I" } : Jvm.MethodName)) ∈ am_W := am_kg 0 49 rfl rfl
theorem am_k50 : (Jvm.Cond.selects "BudgetJury$Checker" ({ cls := "BudgetJury$Checker", name := "tellVoter", desc := "(LBudgetJury$Plan;J)I" } : Jvm.MethodName) ({ cls := "BudgetJury$Checker", name := "tellVoter", desc := "(LBudgetJury$Plan;J)I" } : Jvm.MethodName)) ∈ am_W := am_kg 0 50 rfl rfl
theorem am_k51 : (Jvm.Cond.selects "BudgetJury$Checker" ({ cls := "BudgetJury$Checker", name := "tellBan", desc := "(LBudgetJury$Plan;)I" } : Jvm.MethodName) ({ cls := "BudgetJury$Checker", name := "tellBan", desc := "(LBudgetJury$Plan;)I" } : Jvm.MethodName)) ∈ am_W := am_kg 0 51 rfl rfl
theorem am_k52 : (Jvm.Cond.selects "BudgetJury$Checker" ({ cls := "BudgetJury$Checker", name := "putNumber", desc := "([IIII)I" } : Jvm.MethodName) ({ cls := "BudgetJury$Checker", name := "putNumber", desc := "([IIII)I" } : Jvm.MethodName)) ∈ am_W := am_kg 0 52 rfl rfl
theorem am_k53 : (Jvm.Cond.selects "BudgetJury$Checker" ({ cls := "BudgetJury$Checker", name := "setArguments", desc := "(LBudgetJury$Plan;)V" } : Jvm.MethodName) ({ cls := "BudgetJury$Checker", name := "setArguments", desc := "(LBudgetJury$Plan;)V" } : Jvm.MethodName)) ∈ am_W := am_kg 0 53 rfl rfl
theorem am_k54 : (Jvm.Cond.initialized "BudgetJuryLaw") ∈ am_W := am_kg 1 0 rfl rfl
theorem am_k55 : (Jvm.Cond.initialized "java/lang/AbstractStringBuilder") ∈ am_W := am_kg 1 1 rfl rfl
theorem am_k56 : (Jvm.Cond.initialized "java/lang/StringBuilder") ∈ am_W := am_kg 1 2 rfl rfl
theorem am_k57 : (Jvm.Cond.initialized "java/lang/String") ∈ am_W := am_kg 1 3 rfl rfl
theorem am_k59 : (Jvm.Cond.initialized "BudgetJuryLaw$Sim") ∈ am_W := am_kg 1 5 rfl rfl
theorem am_k60 : (Jvm.Cond.initialized "jdk/internal/util/ArraysSupport") ∈ am_W := am_kg 1 6 rfl rfl
theorem am_k61 : (Jvm.Cond.initialized "java/lang/Math") ∈ am_W := am_kg 1 7 rfl rfl
theorem am_k62 : (Jvm.Cond.initialized "java/util/Arrays") ∈ am_W := am_kg 1 8 rfl rfl
theorem am_k63 : (Jvm.Cond.initialized "java/lang/System") ∈ am_W := am_kg 1 9 rfl rfl
theorem am_k64 : (Jvm.Cond.initialized "jdk/internal/util/Preconditions") ∈ am_W := am_kg 1 10 rfl rfl
theorem am_k65 : (Jvm.Cond.initialized "java/lang/StringLatin1") ∈ am_W := am_kg 1 11 rfl rfl
theorem am_k67 : (Jvm.Cond.initialized "java/lang/Integer") ∈ am_W := am_kg 1 13 rfl rfl
theorem am_k68 : (Jvm.Cond.initialized "BudgetJury") ∈ am_W := am_kg 1 14 rfl rfl
theorem am_k69 : (Jvm.Cond.initialized "BudgetJury$Plan") ∈ am_W := am_kg 1 15 rfl rfl
theorem am_k70 : (Jvm.Cond.initialized "BudgetJury$Tokens") ∈ am_W := am_kg 1 16 rfl rfl
theorem am_k71 : (Jvm.Cond.initialized "BudgetJury$Grammar") ∈ am_W := am_kg 1 17 rfl rfl
theorem am_k72 : (Jvm.Cond.initialized "BudgetJury$Checker") ∈ am_W := am_kg 1 18 rfl rfl
theorem am_k73 : (Jvm.Cond.initialized "BudgetJury$Parish") ∈ am_W := am_kg 1 19 rfl rfl
theorem am_k77 : (Jvm.Cond.initialized "java/lang/IllegalArgumentException") ∈ am_W := am_kg 1 23 rfl rfl
theorem am_k78 : (Jvm.Cond.initialized "java/lang/IllegalStateException") ∈ am_W := am_kg 1 24 rfl rfl
theorem am_k80 : (Jvm.Cond.initialized "java/lang/IndexOutOfBoundsException") ∈ am_W := am_kg 1 26 rfl rfl
theorem am_k82 : (Jvm.Cond.initialized "java/util/DualPivotQuicksort") ∈ am_W := am_kg 1 28 rfl rfl
theorem am_k83 : (Jvm.Cond.classLink "BudgetJuryLaw" (10 : Nat) "BudgetJury") ∈ am_W := am_kg 1 29 rfl rfl
theorem am_k84 : (Jvm.Cond.instantiable "BudgetJury" (10 : Nat)) ∈ am_W := am_kg 1 30 rfl rfl
theorem am_k85 : (Jvm.Cond.methodLink "BudgetJuryLaw" (180 : Nat) ({ cls := "BudgetJury", name := "<init>", desc := "()V" } : Jvm.MethodName)) ∈ am_W := am_kg 1 31 rfl rfl
theorem am_k86 : (Jvm.Cond.instanceMethod ({ cls := "BudgetJury", name := "<init>", desc := "()V" } : Jvm.MethodName)) ∈ am_W := am_kg 1 32 rfl rfl
theorem am_k87 : (Jvm.Cond.code ({ cls := "BudgetJury", name := "<init>", desc := "()V" } : Jvm.MethodName) prog_1_method_1_code (1 : Nat) (Option.none : Option Jvm.ClassFile.FieldType)) ∈ am_W := am_kg 1 33 rfl rfl
theorem am_k88 : (Jvm.Cond.methodLink "BudgetJury" (1 : Nat) ({ cls := "java/lang/Object", name := "<init>", desc := "()V" } : Jvm.MethodName)) ∈ am_W := am_kg 1 34 rfl rfl
theorem am_k89 : (Jvm.Cond.instanceMethod ({ cls := "java/lang/Object", name := "<init>", desc := "()V" } : Jvm.MethodName)) ∈ am_W := am_kg 1 35 rfl rfl
theorem am_k90 : (Jvm.Cond.code ({ cls := "java/lang/Object", name := "<init>", desc := "()V" } : Jvm.MethodName) object_method_1_code (1 : Nat) (Option.none : Option Jvm.ClassFile.FieldType)) ∈ am_W := am_kg 1 36 rfl rfl
theorem am_k91 : (Jvm.Cond.classLink "BudgetJury" (17 : Nat) "BudgetJury$Plan") ∈ am_W := am_kg 1 37 rfl rfl
theorem am_k92 : (Jvm.Cond.instantiable "BudgetJury$Plan" (15 : Nat)) ∈ am_W := am_kg 1 38 rfl rfl
theorem am_k93 : (Jvm.Cond.methodLinkNest "BudgetJury" (19 : Nat) ({ cls := "BudgetJury$Plan", name := "<init>", desc := "()V" } : Jvm.MethodName) "BudgetJury") ∈ lw_tbl := am_kin 1 39 rfl
theorem am_k94 : (Jvm.Cond.instanceMethod ({ cls := "BudgetJury$Plan", name := "<init>", desc := "()V" } : Jvm.MethodName)) ∈ am_W := am_kg 1 40 rfl rfl
theorem am_k95 : (Jvm.Cond.code ({ cls := "BudgetJury$Plan", name := "<init>", desc := "()V" } : Jvm.MethodName) prog_6_method_1_code (1 : Nat) (Option.none : Option Jvm.ClassFile.FieldType)) ∈ am_W := am_kg 1 41 rfl rfl
theorem am_k96 : (Jvm.Cond.methodLink "BudgetJury$Plan" (3 : Nat) ({ cls := "java/lang/Object", name := "<init>", desc := "()V" } : Jvm.MethodName)) ∈ am_W := am_kg 1 42 rfl rfl
theorem am_k97 : (Jvm.Cond.fieldLink "BudgetJury$Plan" (43 : Nat) "BudgetJury$Plan" "wards" "I") ∈ am_W := am_kg 1 43 rfl rfl
theorem am_k98 : (Jvm.Cond.fieldLink "BudgetJury$Checker" (83 : Nat) "BudgetJury$Plan" "wards" "I") ∈ am_W := am_kg 1 44 rfl rfl
theorem am_k99 : (Jvm.Cond.fieldLink "BudgetJury" (118 : Nat) "BudgetJury$Plan" "wards" "I") ∈ am_W := am_kg 1 45 rfl rfl
theorem am_k100 : (Jvm.Cond.fieldLink "BudgetJury$Plan" (46 : Nat) "BudgetJury$Plan" "projects" "I") ∈ am_W := am_kg 1 46 rfl rfl
theorem am_k101 : (Jvm.Cond.fieldLink "BudgetJury$Checker" (93 : Nat) "BudgetJury$Plan" "projects" "I") ∈ am_W := am_kg 1 47 rfl rfl
theorem am_k102 : (Jvm.Cond.fieldLink "BudgetJury$Parish" (74 : Nat) "BudgetJury$Plan" "projects" "I") ∈ am_W := am_kg 1 48 rfl rfl
theorem am_k103 : (Jvm.Cond.fieldLink "BudgetJury" (121 : Nat) "BudgetJury$Plan" "projects" "I") ∈ am_W := am_kg 1 49 rfl rfl
theorem am_k104 : (Jvm.Cond.fieldLink "BudgetJury$Plan" (49 : Nat) "BudgetJury$Plan" "voters" "I") ∈ am_W := am_kg 1 50 rfl rfl
theorem am_k105 : (Jvm.Cond.fieldLink "BudgetJury$Checker" (123 : Nat) "BudgetJury$Plan" "voters" "I") ∈ am_W := am_kg 1 51 rfl rfl
theorem am_k106 : (Jvm.Cond.fieldLink "BudgetJury$Parish" (71 : Nat) "BudgetJury$Plan" "voters" "I") ∈ am_W := am_kg 1 52 rfl rfl
theorem am_k107 : (Jvm.Cond.fieldLink "BudgetJury" (124 : Nat) "BudgetJury$Plan" "voters" "I") ∈ am_W := am_kg 1 53 rfl rfl
theorem am_k108 : (Jvm.Cond.fieldLink "BudgetJury$Plan" (52 : Nat) "BudgetJury$Plan" "bans" "I") ∈ am_W := am_kg 1 54 rfl rfl
theorem am_k109 : (Jvm.Cond.fieldLink "BudgetJury$Checker" (120 : Nat) "BudgetJury$Plan" "bans" "I") ∈ am_W := am_kg 1 55 rfl rfl
theorem am_k110 : (Jvm.Cond.fieldLink "BudgetJury" (127 : Nat) "BudgetJury$Plan" "bans" "I") ∈ am_W := am_kg 1 56 rfl rfl
theorem am_k111 : (Jvm.Cond.fieldLink "BudgetJury$Parish" (159 : Nat) "BudgetJury$Plan" "bans" "I") ∈ am_W := am_kg 1 57 rfl rfl
theorem am_k112 : (Jvm.Cond.fieldLink "BudgetJury$Plan" (9 : Nat) "BudgetJury$Plan" "budget" "I") ∈ am_W := am_kg 1 58 rfl rfl
theorem am_k113 : (Jvm.Cond.fieldLink "BudgetJury$Parish" (44 : Nat) "BudgetJury$Plan" "budget" "I") ∈ am_W := am_kg 1 59 rfl rfl
theorem am_k114 : (Jvm.Cond.fieldLink "BudgetJury$Checker" (141 : Nat) "BudgetJury$Plan" "budget" "I") ∈ am_W := am_kg 1 60 rfl rfl
theorem am_k115 : (Jvm.Cond.fieldLink "BudgetJury$Grammar" (26 : Nat) "BudgetJury$Plan" "stepCount" "I") ∈ am_W := am_kg 1 61 rfl rfl
theorem am_k116 : (Jvm.Cond.fieldLink "BudgetJury$Checker" (53 : Nat) "BudgetJury$Plan" "stepCount" "I") ∈ am_W := am_kg 1 62 rfl rfl
theorem am_k117 : (Jvm.Cond.fieldLink "BudgetJury$Parish" (174 : Nat) "BudgetJury$Plan" "stepCount" "I") ∈ am_W := am_kg 1 63 rfl rfl
theorem am_k118 : (Jvm.Cond.fieldLink "BudgetJury$Plan" (15 : Nat) "BudgetJury$Plan" "cap" "[I") ∈ am_W := am_kg 1 64 rfl rfl
theorem am_k119 : (Jvm.Cond.fieldLink "BudgetJury$Checker" (80 : Nat) "BudgetJury$Plan" "cap" "[I") ∈ am_W := am_kg 1 65 rfl rfl
theorem am_k120 : (Jvm.Cond.fieldLink "BudgetJury$Parish" (81 : Nat) "BudgetJury$Plan" "cap" "[I") ∈ am_W := am_kg 1 66 rfl rfl
theorem am_k121 : (Jvm.Cond.fieldLink "BudgetJury$Plan" (19 : Nat) "BudgetJury$Plan" "wardOf" "[I") ∈ am_W := am_kg 1 67 rfl rfl
theorem am_k122 : (Jvm.Cond.fieldLink "BudgetJury$Checker" (102 : Nat) "BudgetJury$Plan" "wardOf" "[I") ∈ am_W := am_kg 1 68 rfl rfl
theorem am_k123 : (Jvm.Cond.fieldLink "BudgetJury$Parish" (84 : Nat) "BudgetJury$Plan" "wardOf" "[I") ∈ am_W := am_kg 1 69 rfl rfl
theorem am_k124 : (Jvm.Cond.fieldLink "BudgetJury$Plan" (22 : Nat) "BudgetJury$Plan" "cost" "[I") ∈ am_W := am_kg 1 70 rfl rfl
theorem am_k125 : (Jvm.Cond.fieldLink "BudgetJury$Parish" (56 : Nat) "BudgetJury$Plan" "cost" "[I") ∈ am_W := am_kg 1 71 rfl rfl
theorem am_k126 : (Jvm.Cond.fieldLink "BudgetJury$Checker" (90 : Nat) "BudgetJury$Plan" "cost" "[I") ∈ am_W := am_kg 1 72 rfl rfl
theorem am_k127 : (Jvm.Cond.fieldLink "BudgetJury$Plan" (25 : Nat) "BudgetJury$Plan" "grows" "[I") ∈ am_W := am_kg 1 73 rfl rfl
theorem am_k128 : (Jvm.Cond.fieldLink "BudgetJury$Checker" (96 : Nat) "BudgetJury$Plan" "grows" "[I") ∈ am_W := am_kg 1 74 rfl rfl
theorem am_k129 : (Jvm.Cond.fieldLink "BudgetJury$Parish" (87 : Nat) "BudgetJury$Plan" "grows" "[I") ∈ am_W := am_kg 1 75 rfl rfl
theorem am_k130 : (Jvm.Cond.fieldLink "BudgetJury$Plan" (28 : Nat) "BudgetJury$Plan" "fans" "[I") ∈ am_W := am_kg 1 76 rfl rfl
theorem am_k131 : (Jvm.Cond.fieldLink "BudgetJury$Parish" (57 : Nat) "BudgetJury$Plan" "fans" "[I") ∈ am_W := am_kg 1 77 rfl rfl
theorem am_k132 : (Jvm.Cond.fieldLink "BudgetJury$Checker" (130 : Nat) "BudgetJury$Plan" "fans" "[I") ∈ am_W := am_kg 1 78 rfl rfl
theorem am_k133 : (Jvm.Cond.fieldLink "BudgetJury$Plan" (31 : Nat) "BudgetJury$Plan" "banned" "[I") ∈ am_W := am_kg 1 79 rfl rfl
theorem am_k134 : (Jvm.Cond.fieldLink "BudgetJury$Checker" (117 : Nat) "BudgetJury$Plan" "banned" "[I") ∈ am_W := am_kg 1 80 rfl rfl
theorem am_k135 : (Jvm.Cond.fieldLink "BudgetJury$Parish" (162 : Nat) "BudgetJury$Plan" "banned" "[I") ∈ am_W := am_kg 1 81 rfl rfl
theorem am_k136 : (Jvm.Cond.fieldLink "BudgetJury$Plan" (34 : Nat) "BudgetJury$Plan" "banStart" "[I") ∈ am_W := am_kg 1 82 rfl rfl
theorem am_k137 : (Jvm.Cond.fieldLink "BudgetJury$Checker" (133 : Nat) "BudgetJury$Plan" "banStart" "[I") ∈ am_W := am_kg 1 83 rfl rfl
theorem am_k138 : (Jvm.Cond.fieldLink "BudgetJury$Parish" (165 : Nat) "BudgetJury$Plan" "banStart" "[I") ∈ am_W := am_kg 1 84 rfl rfl
theorem am_k139 : (Jvm.Cond.fieldLink "BudgetJury$Plan" (37 : Nat) "BudgetJury$Plan" "step" "[I") ∈ am_W := am_kg 1 85 rfl rfl
theorem am_k140 : (Jvm.Cond.fieldLink "BudgetJury$Grammar" (62 : Nat) "BudgetJury$Plan" "step" "[I") ∈ am_W := am_kg 1 86 rfl rfl
theorem am_k141 : (Jvm.Cond.fieldLink "BudgetJury$Parish" (177 : Nat) "BudgetJury$Plan" "step" "[I") ∈ am_W := am_kg 1 87 rfl rfl
theorem am_k142 : (Jvm.Cond.fieldLink "BudgetJury$Plan" (40 : Nat) "BudgetJury$Plan" "argument" "[I") ∈ am_W := am_kg 1 88 rfl rfl
theorem am_k143 : (Jvm.Cond.fieldLink "BudgetJury$Checker" (56 : Nat) "BudgetJury$Plan" "argument" "[I") ∈ am_W := am_kg 1 89 rfl rfl
theorem am_k144 : (Jvm.Cond.fieldLink "BudgetJury$Grammar" (65 : Nat) "BudgetJury$Plan" "argument" "[I") ∈ am_W := am_kg 1 90 rfl rfl
theorem am_k145 : (Jvm.Cond.fieldLink "BudgetJury$Parish" (188 : Nat) "BudgetJury$Plan" "argument" "[I") ∈ am_W := am_kg 1 91 rfl rfl
theorem am_k146 : (Jvm.Cond.lays "BudgetJury$Plan" "BudgetJury$Plan" "wards" "I") ∈ am_W := am_kg 1 92 rfl rfl
theorem am_k148 : (Jvm.Cond.lays "BudgetJury$Plan" "BudgetJury$Plan" "projects" "I") ∈ am_W := am_kg 1 94 rfl rfl
theorem am_k150 : (Jvm.Cond.lays "BudgetJury$Plan" "BudgetJury$Plan" "voters" "I") ∈ am_W := am_kg 1 96 rfl rfl
theorem am_k152 : (Jvm.Cond.lays "BudgetJury$Plan" "BudgetJury$Plan" "bans" "I") ∈ am_W := am_kg 1 98 rfl rfl
theorem am_k154 : (Jvm.Cond.lays "BudgetJury$Plan" "BudgetJury$Plan" "budget" "I") ∈ am_W := am_kg 1 100 rfl rfl
theorem am_k156 : (Jvm.Cond.lays "BudgetJury$Plan" "BudgetJury$Plan" "stepCount" "I") ∈ am_W := am_kg 1 102 rfl rfl
theorem am_k158 : (Jvm.Cond.laysFinal "BudgetJury$Plan" "BudgetJury$Plan" "cap" "[I") ∈ am_W := am_kg 1 104 rfl rfl
theorem am_k160 : (Jvm.Cond.laysFinal "BudgetJury$Plan" "BudgetJury$Plan" "wardOf" "[I") ∈ am_W := am_kg 1 106 rfl rfl
theorem am_k162 : (Jvm.Cond.laysFinal "BudgetJury$Plan" "BudgetJury$Plan" "cost" "[I") ∈ am_W := am_kg 1 108 rfl rfl
theorem am_k164 : (Jvm.Cond.laysFinal "BudgetJury$Plan" "BudgetJury$Plan" "grows" "[I") ∈ am_W := am_kg 1 110 rfl rfl
theorem am_k166 : (Jvm.Cond.laysFinal "BudgetJury$Plan" "BudgetJury$Plan" "fans" "[I") ∈ am_W := am_kg 1 112 rfl rfl
theorem am_k168 : (Jvm.Cond.laysFinal "BudgetJury$Plan" "BudgetJury$Plan" "banned" "[I") ∈ am_W := am_kg 1 114 rfl rfl
theorem am_k170 : (Jvm.Cond.laysFinal "BudgetJury$Plan" "BudgetJury$Plan" "banStart" "[I") ∈ am_W := am_kg 1 116 rfl rfl
theorem am_k172 : (Jvm.Cond.laysFinal "BudgetJury$Plan" "BudgetJury$Plan" "step" "[I") ∈ am_W := am_kg 1 118 rfl rfl
theorem am_k174 : (Jvm.Cond.laysFinal "BudgetJury$Plan" "BudgetJury$Plan" "argument" "[I") ∈ am_W := am_kg 1 120 rfl rfl
theorem am_k177 : (Jvm.Cond.arrayClass Jvm.ClassFile.FieldType.byte) ∈ am_W := am_kg 1 123 rfl rfl
theorem am_k178 : (Jvm.Cond.arrayClass Jvm.ClassFile.FieldType.int) ∈ am_W := am_kg 1 124 rfl rfl
theorem am_k179 : (Jvm.Cond.classLink "BudgetJury" (27 : Nat) "BudgetJury$Tokens") ∈ am_W := am_kg 1 125 rfl rfl
theorem am_k180 : (Jvm.Cond.instantiable "BudgetJury$Tokens" (7 : Nat)) ∈ am_W := am_kg 1 126 rfl rfl
theorem am_k181 : (Jvm.Cond.methodLink "BudgetJury" (29 : Nat) ({ cls := "BudgetJury$Tokens", name := "<init>", desc := "([B)V" } : Jvm.MethodName)) ∈ am_W := am_kg 1 127 rfl rfl
theorem am_k182 : (Jvm.Cond.instanceMethod ({ cls := "BudgetJury$Tokens", name := "<init>", desc := "([B)V" } : Jvm.MethodName)) ∈ am_W := am_kg 1 128 rfl rfl
theorem am_k183 : (Jvm.Cond.code ({ cls := "BudgetJury$Tokens", name := "<init>", desc := "([B)V" } : Jvm.MethodName) prog_9_method_1_code (5 : Nat) (Option.none : Option Jvm.ClassFile.FieldType)) ∈ am_W := am_kg 1 129 rfl rfl
theorem am_k184 : (Jvm.Cond.methodLink "BudgetJury$Tokens" (3 : Nat) ({ cls := "java/lang/Object", name := "<init>", desc := "()V" } : Jvm.MethodName)) ∈ am_W := am_kg 1 130 rfl rfl
theorem am_k186 : (Jvm.Cond.methodLink "BudgetJury$Tokens" (33 : Nat) ({ cls := "java/lang/String", name := "length", desc := "()I" } : Jvm.MethodName)) ∈ am_W := am_kg 1 132 rfl rfl
theorem am_k187 : (Jvm.Cond.instanceMethod ({ cls := "java/lang/String", name := "length", desc := "()I" } : Jvm.MethodName)) ∈ am_W := am_kg 1 133 rfl rfl
theorem am_k188 : (Jvm.Cond.selects "java/lang/String" ({ cls := "java/lang/String", name := "length", desc := "()I" } : Jvm.MethodName) ({ cls := "java/lang/String", name := "length", desc := "()I" } : Jvm.MethodName)) ∈ am_W := am_kg 1 134 rfl rfl
theorem am_k189 : (Jvm.Cond.code ({ cls := "java/lang/String", name := "length", desc := "()I" } : Jvm.MethodName) prog_27_method_54_code (1 : Nat) (Option.some Jvm.ClassFile.FieldType.int)) ∈ am_W := am_kg 1 135 rfl rfl
theorem am_k190 : (Jvm.Cond.methodLink "java/lang/String" (335 : Nat) ({ cls := "java/lang/String", name := "coder", desc := "()B" } : Jvm.MethodName)) ∈ am_W := am_kg 1 136 rfl rfl
theorem am_k191 : (Jvm.Cond.instanceMethod ({ cls := "java/lang/String", name := "coder", desc := "()B" } : Jvm.MethodName)) ∈ am_W := am_kg 1 137 rfl rfl
theorem am_k192 : (Jvm.Cond.selects "java/lang/String" ({ cls := "java/lang/String", name := "coder", desc := "()B" } : Jvm.MethodName) ({ cls := "java/lang/String", name := "coder", desc := "()B" } : Jvm.MethodName)) ∈ am_W := am_kg 1 138 rfl rfl
theorem am_k193 : (Jvm.Cond.code ({ cls := "java/lang/String", name := "coder", desc := "()B" } : Jvm.MethodName) prog_27_method_152_code (1 : Nat) (Option.some Jvm.ClassFile.FieldType.byte)) ∈ am_W := am_kg 1 139 rfl rfl
theorem am_k194 : (Jvm.Cond.fieldLink "java/lang/String" (38 : Nat) "java/lang/String" "COMPACT_STRINGS" "Z") ∈ am_W := am_kg 1 140 rfl rfl
theorem am_k196 : (Jvm.Cond.methodLink "BudgetJury$Tokens" (39 : Nat) ({ cls := "java/lang/String", name := "charAt", desc := "(I)C" } : Jvm.MethodName)) ∈ am_W := am_kg 1 142 rfl rfl
theorem am_k197 : (Jvm.Cond.instanceMethod ({ cls := "java/lang/String", name := "charAt", desc := "(I)C" } : Jvm.MethodName)) ∈ am_W := am_kg 1 143 rfl rfl
theorem am_k198 : (Jvm.Cond.selects "java/lang/String" ({ cls := "java/lang/String", name := "charAt", desc := "(I)C" } : Jvm.MethodName) ({ cls := "java/lang/String", name := "charAt", desc := "(I)C" } : Jvm.MethodName)) ∈ am_W := am_kg 1 144 rfl rfl
theorem am_k199 : (Jvm.Cond.code ({ cls := "java/lang/String", name := "charAt", desc := "(I)C" } : Jvm.MethodName) prog_27_method_56_code (2 : Nat) (Option.some Jvm.ClassFile.FieldType.char)) ∈ am_W := am_kg 1 145 rfl rfl
theorem am_k200 : (Jvm.Cond.methodLink "java/lang/String" (492 : Nat) ({ cls := "java/lang/String", name := "isLatin1", desc := "()Z" } : Jvm.MethodName)) ∈ am_W := am_kg 1 146 rfl rfl
theorem am_k201 : (Jvm.Cond.instanceMethod ({ cls := "java/lang/String", name := "isLatin1", desc := "()Z" } : Jvm.MethodName)) ∈ am_W := am_kg 1 147 rfl rfl
theorem am_k202 : (Jvm.Cond.selects "java/lang/String" ({ cls := "java/lang/String", name := "isLatin1", desc := "()Z" } : Jvm.MethodName) ({ cls := "java/lang/String", name := "isLatin1", desc := "()Z" } : Jvm.MethodName)) ∈ am_W := am_kg 1 148 rfl rfl
theorem am_k203 : (Jvm.Cond.code ({ cls := "java/lang/String", name := "isLatin1", desc := "()Z" } : Jvm.MethodName) prog_27_method_154_code (1 : Nat) (Option.some Jvm.ClassFile.FieldType.boolean)) ∈ am_W := am_kg 1 149 rfl rfl
theorem am_k204 : (Jvm.Cond.methodLink "java/lang/String" (495 : Nat) ({ cls := "java/lang/StringLatin1", name := "charAt", desc := "([BI)C" } : Jvm.MethodName)) ∈ am_W := am_kg 1 150 rfl rfl
theorem am_k205 : (Jvm.Cond.static ({ cls := "java/lang/StringLatin1", name := "charAt", desc := "([BI)C" } : Jvm.MethodName)) ∈ am_W := am_kg 1 151 rfl rfl
theorem am_k206 : (Jvm.Cond.code ({ cls := "java/lang/StringLatin1", name := "charAt", desc := "([BI)C" } : Jvm.MethodName) prog_29_method_2_code (2 : Nat) (Option.some Jvm.ClassFile.FieldType.char)) ∈ am_W := am_kg 1 152 rfl rfl
theorem am_k207 : (Jvm.Cond.methodLink "java/lang/StringLatin1" (9 : Nat) ({ cls := "java/lang/String", name := "checkIndex", desc := "(II)V" } : Jvm.MethodName)) ∈ am_W := am_kg 1 153 rfl rfl
theorem am_k208 : (Jvm.Cond.static ({ cls := "java/lang/String", name := "checkIndex", desc := "(II)V" } : Jvm.MethodName)) ∈ am_W := am_kg 1 154 rfl rfl
theorem am_k209 : (Jvm.Cond.code ({ cls := "java/lang/String", name := "checkIndex", desc := "(II)V" } : Jvm.MethodName) prog_27_method_155_code (2 : Nat) (Option.none : Option Jvm.ClassFile.FieldType)) ∈ am_W := am_kg 1 155 rfl rfl
theorem am_k210 : (Jvm.Cond.fieldLink "java/lang/String" (1053 : Nat) "jdk/internal/util/Preconditions" "SIOOBE_FORMATTER" "Ljava/util/function/BiFunction;") ∈ am_W := am_kg 1 156 rfl rfl
theorem am_k212 : (Jvm.Cond.methodLink "java/lang/String" (1059 : Nat) ({ cls := "jdk/internal/util/Preconditions", name := "checkIndex", desc := "(IILjava/util/function/BiFunction;)I" } : Jvm.MethodName)) ∈ am_W := am_kg 1 158 rfl rfl
theorem am_k213 : (Jvm.Cond.static ({ cls := "jdk/internal/util/Preconditions", name := "checkIndex", desc := "(IILjava/util/function/BiFunction;)I" } : Jvm.MethodName)) ∈ am_W := am_kg 1 159 rfl rfl
theorem am_k214 : (Jvm.Cond.code ({ cls := "jdk/internal/util/Preconditions", name := "checkIndex", desc := "(IILjava/util/function/BiFunction;)I" } : Jvm.MethodName) prog_36_method_11_code (3 : Nat) (Option.some Jvm.ClassFile.FieldType.int)) ∈ am_W := am_kg 1 160 rfl rfl
theorem am_k234 : (Jvm.Cond.constantLong "BudgetJury$Tokens" (43 : Nat) (37 : Int64)) ∈ am_W := am_kg 1 180 rfl rfl
theorem am_k235 : (Jvm.Cond.methodLink "BudgetJury$Tokens" (45 : Nat) ({ cls := "BudgetJury$Tokens", name := "digitOf", desc := "(C)I" } : Jvm.MethodName)) ∈ am_W := am_kg 1 181 rfl rfl
theorem am_k236 : (Jvm.Cond.static ({ cls := "BudgetJury$Tokens", name := "digitOf", desc := "(C)I" } : Jvm.MethodName)) ∈ am_W := am_kg 1 182 rfl rfl
theorem am_k237 : (Jvm.Cond.code ({ cls := "BudgetJury$Tokens", name := "digitOf", desc := "(C)I" } : Jvm.MethodName) prog_9_method_12_code (1 : Nat) (Option.some Jvm.ClassFile.FieldType.int)) ∈ am_W := am_kg 1 183 rfl rfl
theorem am_k238 : (Jvm.Cond.methodLink "BudgetJury$Tokens" (71 : Nat) ({ cls := "BudgetJury$Tokens", name := "isLetter", desc := "(I)Z" } : Jvm.MethodName)) ∈ am_W := am_kg 1 184 rfl rfl
theorem am_k239 : (Jvm.Cond.static ({ cls := "BudgetJury$Tokens", name := "isLetter", desc := "(I)Z" } : Jvm.MethodName)) ∈ am_W := am_kg 1 185 rfl rfl
theorem am_k240 : (Jvm.Cond.code ({ cls := "BudgetJury$Tokens", name := "isLetter", desc := "(I)Z" } : Jvm.MethodName) prog_9_method_10_code (1 : Nat) (Option.some Jvm.ClassFile.FieldType.boolean)) ∈ am_W := am_kg 1 186 rfl rfl
theorem am_k241 : (Jvm.Cond.fieldLink "BudgetJury$Tokens" (9 : Nat) "BudgetJury$Tokens" "kind" "[I") ∈ am_W := am_kg 1 187 rfl rfl
theorem am_k242 : (Jvm.Cond.fieldLink "BudgetJury$Grammar" (49 : Nat) "BudgetJury$Tokens" "kind" "[I") ∈ am_W := am_kg 1 188 rfl rfl
theorem am_k243 : (Jvm.Cond.fieldLink "BudgetJury$Tokens" (15 : Nat) "BudgetJury$Tokens" "value" "[J") ∈ am_W := am_kg 1 189 rfl rfl
theorem am_k244 : (Jvm.Cond.fieldLink "BudgetJury$Checker" (59 : Nat) "BudgetJury$Tokens" "value" "[J") ∈ am_W := am_kg 1 190 rfl rfl
theorem am_k245 : (Jvm.Cond.fieldLink "BudgetJury$Tokens" (19 : Nat) "BudgetJury$Tokens" "start" "[I") ∈ am_W := am_kg 1 191 rfl rfl
theorem am_k246 : (Jvm.Cond.fieldLink "BudgetJury$Tokens" (24 : Nat) "BudgetJury$Tokens" "keywords" "[J") ∈ am_W := am_kg 1 192 rfl rfl
theorem am_k247 : (Jvm.Cond.fieldLink "BudgetJury$Tokens" (27 : Nat) "BudgetJury$Tokens" "tape" "[B") ∈ am_W := am_kg 1 193 rfl rfl
theorem am_k248 : (Jvm.Cond.fieldLink "BudgetJury$Tokens" (55 : Nat) "BudgetJury$Tokens" "length" "I") ∈ am_W := am_kg 1 194 rfl rfl
theorem am_k249 : (Jvm.Cond.fieldLink "BudgetJury$Tokens" (58 : Nat) "BudgetJury$Tokens" "at" "I") ∈ am_W := am_kg 1 195 rfl rfl
theorem am_k250 : (Jvm.Cond.laysFinal "BudgetJury$Tokens" "BudgetJury$Tokens" "kind" "[I") ∈ am_W := am_kg 1 196 rfl rfl
theorem am_k252 : (Jvm.Cond.laysFinal "BudgetJury$Tokens" "BudgetJury$Tokens" "value" "[J") ∈ am_W := am_kg 1 198 rfl rfl
theorem am_k254 : (Jvm.Cond.laysFinal "BudgetJury$Tokens" "BudgetJury$Tokens" "start" "[I") ∈ am_W := am_kg 1 200 rfl rfl
theorem am_k256 : (Jvm.Cond.laysFinal "BudgetJury$Tokens" "BudgetJury$Tokens" "keywords" "[J") ∈ am_W := am_kg 1 202 rfl rfl
theorem am_k258 : (Jvm.Cond.laysFinal "BudgetJury$Tokens" "BudgetJury$Tokens" "tape" "[B") ∈ am_W := am_kg 1 204 rfl rfl
theorem am_k260 : (Jvm.Cond.lays "BudgetJury$Tokens" "BudgetJury$Tokens" "length" "I") ∈ am_W := am_kg 1 206 rfl rfl
theorem am_k262 : (Jvm.Cond.lays "BudgetJury$Tokens" "BudgetJury$Tokens" "at" "I") ∈ am_W := am_kg 1 208 rfl rfl
theorem am_k265 : (Jvm.Cond.arrayClass Jvm.ClassFile.FieldType.long) ∈ am_W := am_kg 1 211 rfl rfl
theorem am_k266 : (Jvm.Cond.classLink "BudgetJury" (36 : Nat) "BudgetJury$Grammar") ∈ am_W := am_kg 1 212 rfl rfl
theorem am_k267 : (Jvm.Cond.instantiable "BudgetJury$Grammar" (5 : Nat)) ∈ am_W := am_kg 1 213 rfl rfl
theorem am_k268 : (Jvm.Cond.methodLink "BudgetJury" (38 : Nat) ({ cls := "BudgetJury$Grammar", name := "<init>", desc := "(LBudgetJury$Tokens;LBudgetJury$Plan;)V" } : Jvm.MethodName)) ∈ am_W := am_kg 1 214 rfl rfl
theorem am_k269 : (Jvm.Cond.instanceMethod ({ cls := "BudgetJury$Grammar", name := "<init>", desc := "(LBudgetJury$Tokens;LBudgetJury$Plan;)V" } : Jvm.MethodName)) ∈ am_W := am_kg 1 215 rfl rfl
theorem am_k270 : (Jvm.Cond.code ({ cls := "BudgetJury$Grammar", name := "<init>", desc := "(LBudgetJury$Tokens;LBudgetJury$Plan;)V" } : Jvm.MethodName) prog_3_method_1_code (3 : Nat) (Option.none : Option Jvm.ClassFile.FieldType)) ∈ am_W := am_kg 1 216 rfl rfl
theorem am_k271 : (Jvm.Cond.methodLink "BudgetJury$Grammar" (3 : Nat) ({ cls := "java/lang/Object", name := "<init>", desc := "()V" } : Jvm.MethodName)) ∈ am_W := am_kg 1 217 rfl rfl
theorem am_k272 : (Jvm.Cond.fieldLink "BudgetJury$Grammar" (9 : Nat) "BudgetJury$Grammar" "role" "[I") ∈ am_W := am_kg 1 218 rfl rfl
theorem am_k273 : (Jvm.Cond.fieldLink "BudgetJury$Checker" (64 : Nat) "BudgetJury$Grammar" "role" "[I") ∈ am_W := am_kg 1 219 rfl rfl
theorem am_k274 : (Jvm.Cond.fieldLink "BudgetJury$Grammar" (15 : Nat) "BudgetJury$Grammar" "firstStep" "[I") ∈ am_W := am_kg 1 220 rfl rfl
theorem am_k275 : (Jvm.Cond.fieldLink "BudgetJury$Checker" (136 : Nat) "BudgetJury$Grammar" "firstStep" "[I") ∈ am_W := am_kg 1 221 rfl rfl
theorem am_k276 : (Jvm.Cond.fieldLink "BudgetJury$Grammar" (32 : Nat) "BudgetJury$Grammar" "at" "I") ∈ am_W := am_kg 1 222 rfl rfl
theorem am_k277 : (Jvm.Cond.fieldLink "BudgetJury$Checker" (42 : Nat) "BudgetJury$Grammar" "at" "I") ∈ am_W := am_kg 1 223 rfl rfl
theorem am_k278 : (Jvm.Cond.fieldLink "BudgetJury" (96 : Nat) "BudgetJury$Grammar" "at" "I") ∈ am_W := am_kg 1 224 rfl rfl
theorem am_k279 : (Jvm.Cond.fieldLink "BudgetJury$Grammar" (18 : Nat) "BudgetJury$Grammar" "tokens" "LBudgetJury$Tokens;") ∈ am_W := am_kg 1 225 rfl rfl
theorem am_k280 : (Jvm.Cond.fieldLink "BudgetJury$Grammar" (22 : Nat) "BudgetJury$Grammar" "plan" "LBudgetJury$Plan;") ∈ am_W := am_kg 1 226 rfl rfl
theorem am_k281 : (Jvm.Cond.laysFinal "BudgetJury$Grammar" "BudgetJury$Grammar" "role" "[I") ∈ am_W := am_kg 1 227 rfl rfl
theorem am_k283 : (Jvm.Cond.laysFinal "BudgetJury$Grammar" "BudgetJury$Grammar" "firstStep" "[I") ∈ am_W := am_kg 1 229 rfl rfl
theorem am_k285 : (Jvm.Cond.lays "BudgetJury$Grammar" "BudgetJury$Grammar" "at" "I") ∈ am_W := am_kg 1 231 rfl rfl
theorem am_k287 : (Jvm.Cond.laysFinal "BudgetJury$Grammar" "BudgetJury$Grammar" "tokens" "LBudgetJury$Tokens;") ∈ am_W := am_kg 1 233 rfl rfl
theorem am_k289 : (Jvm.Cond.lays "BudgetJury$Grammar" "BudgetJury$Grammar" "plan" "LBudgetJury$Plan;") ∈ am_W := am_kg 1 235 rfl rfl
theorem am_k292 : (Jvm.Cond.classLink "BudgetJury" (45 : Nat) "BudgetJury$Checker") ∈ am_W := am_kg 1 238 rfl rfl
theorem am_k293 : (Jvm.Cond.instantiable "BudgetJury$Checker" (7 : Nat)) ∈ am_W := am_kg 1 239 rfl rfl
theorem am_k294 : (Jvm.Cond.methodLink "BudgetJury" (47 : Nat) ({ cls := "BudgetJury$Checker", name := "<init>", desc := "(LBudgetJury$Tokens;LBudgetJury$Grammar;)V" } : Jvm.MethodName)) ∈ am_W := am_kg 2 0 rfl rfl
theorem am_k295 : (Jvm.Cond.instanceMethod ({ cls := "BudgetJury$Checker", name := "<init>", desc := "(LBudgetJury$Tokens;LBudgetJury$Grammar;)V" } : Jvm.MethodName)) ∈ am_W := am_kg 2 1 rfl rfl
theorem am_k296 : (Jvm.Cond.code ({ cls := "BudgetJury$Checker", name := "<init>", desc := "(LBudgetJury$Tokens;LBudgetJury$Grammar;)V" } : Jvm.MethodName) prog_2_method_1_code (3 : Nat) (Option.none : Option Jvm.ClassFile.FieldType)) ∈ am_W := am_kg 2 2 rfl rfl
theorem am_k297 : (Jvm.Cond.methodLink "BudgetJury$Checker" (3 : Nat) ({ cls := "java/lang/Object", name := "<init>", desc := "()V" } : Jvm.MethodName)) ∈ am_W := am_kg 2 3 rfl rfl
theorem am_k298 : (Jvm.Cond.fieldLink "BudgetJury$Checker" (38 : Nat) "BudgetJury$Checker" "at" "I") ∈ am_W := am_kg 2 4 rfl rfl
theorem am_k299 : (Jvm.Cond.fieldLink "BudgetJury" (99 : Nat) "BudgetJury$Checker" "at" "I") ∈ am_W := am_kg 2 5 rfl rfl
theorem am_k300 : (Jvm.Cond.fieldLink "BudgetJury$Checker" (25 : Nat) "BudgetJury$Checker" "tokens" "LBudgetJury$Tokens;") ∈ am_W := am_kg 2 6 rfl rfl
theorem am_k301 : (Jvm.Cond.fieldLink "BudgetJury$Checker" (29 : Nat) "BudgetJury$Checker" "grammar" "LBudgetJury$Grammar;") ∈ am_W := am_kg 2 7 rfl rfl
theorem am_k302 : (Jvm.Cond.fieldLink "BudgetJury$Checker" (9 : Nat) "BudgetJury$Checker" "wardNames" "[J") ∈ am_W := am_kg 2 8 rfl rfl
theorem am_k303 : (Jvm.Cond.fieldLink "BudgetJury$Checker" (15 : Nat) "BudgetJury$Checker" "projectNames" "[J") ∈ am_W := am_kg 2 9 rfl rfl
theorem am_k304 : (Jvm.Cond.fieldLink "BudgetJury$Checker" (18 : Nat) "BudgetJury$Checker" "voterNames" "[J") ∈ am_W := am_kg 2 10 rfl rfl
theorem am_k305 : (Jvm.Cond.fieldLink "BudgetJury$Checker" (21 : Nat) "BudgetJury$Checker" "meaning" "[I") ∈ am_W := am_kg 2 11 rfl rfl
theorem am_k306 : (Jvm.Cond.lays "BudgetJury$Checker" "BudgetJury$Checker" "at" "I") ∈ am_W := am_kg 2 12 rfl rfl
theorem am_k308 : (Jvm.Cond.laysFinal "BudgetJury$Checker" "BudgetJury$Checker" "tokens" "LBudgetJury$Tokens;") ∈ am_W := am_kg 2 14 rfl rfl
theorem am_k310 : (Jvm.Cond.laysFinal "BudgetJury$Checker" "BudgetJury$Checker" "grammar" "LBudgetJury$Grammar;") ∈ am_W := am_kg 2 16 rfl rfl
theorem am_k312 : (Jvm.Cond.laysFinal "BudgetJury$Checker" "BudgetJury$Checker" "wardNames" "[J") ∈ am_W := am_kg 2 18 rfl rfl
theorem am_k314 : (Jvm.Cond.laysFinal "BudgetJury$Checker" "BudgetJury$Checker" "projectNames" "[J") ∈ am_W := am_kg 2 20 rfl rfl
theorem am_k316 : (Jvm.Cond.laysFinal "BudgetJury$Checker" "BudgetJury$Checker" "voterNames" "[J") ∈ am_W := am_kg 2 22 rfl rfl
theorem am_k318 : (Jvm.Cond.laysFinal "BudgetJury$Checker" "BudgetJury$Checker" "meaning" "[I") ∈ am_W := am_kg 2 24 rfl rfl
theorem am_k321 : (Jvm.Cond.classLink "BudgetJury" (54 : Nat) "BudgetJury$Parish") ∈ am_W := am_kg 2 27 rfl rfl
theorem am_k322 : (Jvm.Cond.instantiable "BudgetJury$Parish" (15 : Nat)) ∈ am_W := am_kg 2 28 rfl rfl
theorem am_k323 : (Jvm.Cond.methodLink "BudgetJury" (56 : Nat) ({ cls := "BudgetJury$Parish", name := "<init>", desc := "(LBudgetJury$Plan;)V" } : Jvm.MethodName)) ∈ am_W := am_kg 2 29 rfl rfl
theorem am_k324 : (Jvm.Cond.instanceMethod ({ cls := "BudgetJury$Parish", name := "<init>", desc := "(LBudgetJury$Plan;)V" } : Jvm.MethodName)) ∈ am_W := am_kg 2 30 rfl rfl
theorem am_k325 : (Jvm.Cond.code ({ cls := "BudgetJury$Parish", name := "<init>", desc := "(LBudgetJury$Plan;)V" } : Jvm.MethodName) prog_5_method_1_code (2 : Nat) (Option.none : Option Jvm.ClassFile.FieldType)) ∈ am_W := am_kg 2 31 rfl rfl
