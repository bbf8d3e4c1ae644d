section
-- ===== PART A: goes FIRST, ahead of the names: the tables' words, and 'selects' of the private methods out of them =====
/-- a private method of a class that the tables say can be made, by its rows of tables_1 -/
def lw_okq (q : MethodName × Nat) : Prop := (q.1.cls ≠ "java/lang/invoke/MethodHandle" ∧ q.1.cls ≠ "java/lang/invoke/VarHandle") ∧ Cond.instantiable q.1.cls q.2 ∈ tables_1 ∧ Cond.privateMethod q.1 ∈ tables_1 ∧ Cond.instanceMethod q.1 ∈ tables_1
theorem lw_p0 : lw_okq (⟨"BudgetJury$Tokens", "skipBlanks", "()V"⟩, 7) := ⟨⟨by decide +kernel, by decide +kernel⟩, List.mem_of_getElem? (i := 121) (by decide +kernel), List.mem_of_getElem? (i := 362) (by decide +kernel), List.mem_of_getElem? (i := 363) (by decide +kernel)⟩
theorem lw_p1 : lw_okq (⟨"BudgetJury$Tokens", "signAt", "(I)I"⟩, 7) := ⟨⟨by decide +kernel, by decide +kernel⟩, List.mem_of_getElem? (i := 121) (by decide +kernel), List.mem_of_getElem? (i := 366) (by decide +kernel), List.mem_of_getElem? (i := 367) (by decide +kernel)⟩
theorem lw_p2 : lw_okq (⟨"BudgetJury$Tokens", "cutOne", "(I)I"⟩, 7) := ⟨⟨by decide +kernel, by decide +kernel⟩, List.mem_of_getElem? (i := 121) (by decide +kernel), List.mem_of_getElem? (i := 370) (by decide +kernel), List.mem_of_getElem? (i := 371) (by decide +kernel)⟩
theorem lw_p3 : lw_okq (⟨"BudgetJury$Tokens", "cutWord", "(I)I"⟩, 7) := ⟨⟨by decide +kernel, by decide +kernel⟩, List.mem_of_getElem? (i := 121) (by decide +kernel), List.mem_of_getElem? (i := 374) (by decide +kernel), List.mem_of_getElem? (i := 375) (by decide +kernel)⟩
theorem lw_p4 : lw_okq (⟨"BudgetJury$Tokens", "cutNumber", "(I)I"⟩, 7) := ⟨⟨by decide +kernel, by decide +kernel⟩, List.mem_of_getElem? (i := 121) (by decide +kernel), List.mem_of_getElem? (i := 381) (by decide +kernel), List.mem_of_getElem? (i := 382) (by decide +kernel)⟩
theorem lw_p5 : lw_okq (⟨"BudgetJury$Tokens", "cutSymbol", "()I"⟩, 7) := ⟨⟨by decide +kernel, by decide +kernel⟩, List.mem_of_getElem? (i := 121) (by decide +kernel), List.mem_of_getElem? (i := 387) (by decide +kernel), List.mem_of_getElem? (i := 388) (by decide +kernel)⟩
theorem lw_p6 : lw_okq (⟨"BudgetJury$Grammar", "here", "()I"⟩, 5) := ⟨⟨by decide +kernel, by decide +kernel⟩, List.mem_of_getElem? (i := 208) (by decide +kernel), List.mem_of_getElem? (i := 453) (by decide +kernel), List.mem_of_getElem? (i := 454) (by decide +kernel)⟩
theorem lw_p7 : lw_okq (⟨"BudgetJury$Grammar", "isLine", "()Z"⟩, 5) := ⟨⟨by decide +kernel, by decide +kernel⟩, List.mem_of_getElem? (i := 208) (by decide +kernel), List.mem_of_getElem? (i := 457) (by decide +kernel), List.mem_of_getElem? (i := 458) (by decide +kernel)⟩
theorem lw_p8 : lw_okq (⟨"BudgetJury$Grammar", "take", "(I)Z"⟩, 5) := ⟨⟨by decide +kernel, by decide +kernel⟩, List.mem_of_getElem? (i := 208) (by decide +kernel), List.mem_of_getElem? (i := 461) (by decide +kernel), List.mem_of_getElem? (i := 462) (by decide +kernel)⟩
theorem lw_p9 : lw_okq (⟨"BudgetJury$Grammar", "take", "(II)Z"⟩, 5) := ⟨⟨by decide +kernel, by decide +kernel⟩, List.mem_of_getElem? (i := 208) (by decide +kernel), List.mem_of_getElem? (i := 465) (by decide +kernel), List.mem_of_getElem? (i := 466) (by decide +kernel)⟩
theorem lw_p10 : lw_okq (⟨"BudgetJury$Grammar", "isRowOfLiked", "()Z"⟩, 5) := ⟨⟨by decide +kernel, by decide +kernel⟩, List.mem_of_getElem? (i := 208) (by decide +kernel), List.mem_of_getElem? (i := 469) (by decide +kernel), List.mem_of_getElem? (i := 470) (by decide +kernel)⟩
theorem lw_p11 : lw_okq (⟨"BudgetJury$Grammar", "isBan", "()Z"⟩, 5) := ⟨⟨by decide +kernel, by decide +kernel⟩, List.mem_of_getElem? (i := 208) (by decide +kernel), List.mem_of_getElem? (i := 473) (by decide +kernel), List.mem_of_getElem? (i := 474) (by decide +kernel)⟩
theorem lw_p12 : lw_okq (⟨"BudgetJury$Grammar", "isTest", "(I)Z"⟩, 5) := ⟨⟨by decide +kernel, by decide +kernel⟩, List.mem_of_getElem? (i := 208) (by decide +kernel), List.mem_of_getElem? (i := 477) (by decide +kernel), List.mem_of_getElem? (i := 478) (by decide +kernel)⟩
theorem lw_p13 : lw_okq (⟨"BudgetJury$Grammar", "isBoth", "(I)Z"⟩, 5) := ⟨⟨by decide +kernel, by decide +kernel⟩, List.mem_of_getElem? (i := 208) (by decide +kernel), List.mem_of_getElem? (i := 481) (by decide +kernel), List.mem_of_getElem? (i := 482) (by decide +kernel)⟩
theorem lw_p14 : lw_okq (⟨"BudgetJury$Grammar", "isSingle", "(I)Z"⟩, 5) := ⟨⟨by decide +kernel, by decide +kernel⟩, List.mem_of_getElem? (i := 208) (by decide +kernel), List.mem_of_getElem? (i := 485) (by decide +kernel), List.mem_of_getElem? (i := 486) (by decide +kernel)⟩
theorem lw_p15 : lw_okq (⟨"BudgetJury$Grammar", "write", "(I)Z"⟩, 5) := ⟨⟨by decide +kernel, by decide +kernel⟩, List.mem_of_getElem? (i := 208) (by decide +kernel), List.mem_of_getElem? (i := 489) (by decide +kernel), List.mem_of_getElem? (i := 490) (by decide +kernel)⟩
def lw_privs_1 : List (MethodName × Nat) := [(⟨"BudgetJury$Tokens", "skipBlanks", "()V"⟩, 7), (⟨"BudgetJury$Tokens", "signAt", "(I)I"⟩, 7), (⟨"BudgetJury$Tokens", "cutOne", "(I)I"⟩, 7), (⟨"BudgetJury$Tokens", "cutWord", "(I)I"⟩, 7), (⟨"BudgetJury$Tokens", "cutNumber", "(I)I"⟩, 7), (⟨"BudgetJury$Tokens", "cutSymbol", "()I"⟩, 7), (⟨"BudgetJury$Grammar", "here", "()I"⟩, 5), (⟨"BudgetJury$Grammar", "isLine", "()Z"⟩, 5), (⟨"BudgetJury$Grammar", "take", "(I)Z"⟩, 5), (⟨"BudgetJury$Grammar", "take", "(II)Z"⟩, 5), (⟨"BudgetJury$Grammar", "isRowOfLiked", "()Z"⟩, 5), (⟨"BudgetJury$Grammar", "isBan", "()Z"⟩, 5), (⟨"BudgetJury$Grammar", "isTest", "(I)Z"⟩, 5), (⟨"BudgetJury$Grammar", "isBoth", "(I)Z"⟩, 5), (⟨"BudgetJury$Grammar", "isSingle", "(I)Z"⟩, 5), (⟨"BudgetJury$Grammar", "write", "(I)Z"⟩, 5)]
theorem lw_r1 : ∀ q ∈ lw_privs_1, lw_okq q := List.forall_mem_cons.mpr ⟨lw_p0, List.forall_mem_cons.mpr ⟨lw_p1, List.forall_mem_cons.mpr ⟨lw_p2, List.forall_mem_cons.mpr ⟨lw_p3, List.forall_mem_cons.mpr ⟨lw_p4, List.forall_mem_cons.mpr ⟨lw_p5, List.forall_mem_cons.mpr ⟨lw_p6, List.forall_mem_cons.mpr ⟨lw_p7, List.forall_mem_cons.mpr ⟨lw_p8, List.forall_mem_cons.mpr ⟨lw_p9, List.forall_mem_cons.mpr ⟨lw_p10, List.forall_mem_cons.mpr ⟨lw_p11, List.forall_mem_cons.mpr ⟨lw_p12, List.forall_mem_cons.mpr ⟨lw_p13, List.forall_mem_cons.mpr ⟨lw_p14, List.forall_mem_cons.mpr ⟨lw_p15, fun _ h => absurd h List.not_mem_nil⟩⟩⟩⟩⟩⟩⟩⟩⟩⟩⟩⟩⟩⟩⟩⟩
theorem lw_p16 : lw_okq (⟨"BudgetJury$Grammar", "write", "(II)Z"⟩, 5) := ⟨⟨by decide +kernel, by decide +kernel⟩, List.mem_of_getElem? (i := 208) (by decide +kernel), List.mem_of_getElem? (i := 493) (by decide +kernel), List.mem_of_getElem? (i := 494) (by decide +kernel)⟩
theorem lw_p17 : lw_okq (⟨"BudgetJury$Grammar", "isNamed", "(II)Z"⟩, 5) := ⟨⟨by decide +kernel, by decide +kernel⟩, List.mem_of_getElem? (i := 208) (by decide +kernel), List.mem_of_getElem? (i := 497) (by decide +kernel), List.mem_of_getElem? (i := 498) (by decide +kernel)⟩
theorem lw_p18 : lw_okq (⟨"BudgetJury$Grammar", "isSum", "(I)Z"⟩, 5) := ⟨⟨by decide +kernel, by decide +kernel⟩, List.mem_of_getElem? (i := 208) (by decide +kernel), List.mem_of_getElem? (i := 501) (by decide +kernel), List.mem_of_getElem? (i := 502) (by decide +kernel)⟩
theorem lw_p19 : lw_okq (⟨"BudgetJury$Grammar", "isProduct", "(I)Z"⟩, 5) := ⟨⟨by decide +kernel, by decide +kernel⟩, List.mem_of_getElem? (i := 208) (by decide +kernel), List.mem_of_getElem? (i := 505) (by decide +kernel), List.mem_of_getElem? (i := 506) (by decide +kernel)⟩
theorem lw_p20 : lw_okq (⟨"BudgetJury$Grammar", "isValue", "(I)Z"⟩, 5) := ⟨⟨by decide +kernel, by decide +kernel⟩, List.mem_of_getElem? (i := 208) (by decide +kernel), List.mem_of_getElem? (i := 509) (by decide +kernel), List.mem_of_getElem? (i := 510) (by decide +kernel)⟩
theorem lw_p21 : lw_okq (⟨"BudgetJury$Grammar", "isPair", "(I)Z"⟩, 5) := ⟨⟨by decide +kernel, by decide +kernel⟩, List.mem_of_getElem? (i := 208) (by decide +kernel), List.mem_of_getElem? (i := 513) (by decide +kernel), List.mem_of_getElem? (i := 514) (by decide +kernel)⟩
theorem lw_p22 : lw_okq (⟨"BudgetJury$Grammar", "comparisonHere", "()I"⟩, 5) := ⟨⟨by decide +kernel, by decide +kernel⟩, List.mem_of_getElem? (i := 208) (by decide +kernel), List.mem_of_getElem? (i := 517) (by decide +kernel), List.mem_of_getElem? (i := 518) (by decide +kernel)⟩
theorem lw_p23 : lw_okq (⟨"BudgetJury$Checker", "errorHere", "(LBudgetJury$Plan;)I"⟩, 7) := ⟨⟨by decide +kernel, by decide +kernel⟩, List.mem_of_getElem? (i := 234) (by decide +kernel), List.mem_of_getElem? (i := 529) (by decide +kernel), List.mem_of_getElem? (i := 530) (by decide +kernel)⟩
theorem lw_p24 : lw_okq (⟨"BudgetJury$Checker", "tellWard", "(LBudgetJury$Plan;J)I"⟩, 7) := ⟨⟨by decide +kernel, by decide +kernel⟩, List.mem_of_getElem? (i := 234) (by decide +kernel), List.mem_of_getElem? (i := 533) (by decide +kernel), List.mem_of_getElem? (i := 534) (by decide +kernel)⟩
theorem lw_p25 : lw_okq (⟨"BudgetJury$Checker", "tellProject", "(LBudgetJury$Plan;J)I"⟩, 7) := ⟨⟨by decide +kernel, by decide +kernel⟩, List.mem_of_getElem? (i := 234) (by decide +kernel), List.mem_of_getElem? (i := 543) (by decide +kernel), List.mem_of_getElem? (i := 544) (by decide +kernel)⟩
theorem lw_p26 : lw_okq (⟨"BudgetJury$Checker", "tellVoter", "(LBudgetJury$Plan;J)I"⟩, 7) := ⟨⟨by decide +kernel, by decide +kernel⟩, List.mem_of_getElem? (i := 234) (by decide +kernel), List.mem_of_getElem? (i := 547) (by decide +kernel), List.mem_of_getElem? (i := 548) (by decide +kernel)⟩
theorem lw_p27 : lw_okq (⟨"BudgetJury$Checker", "tellBan", "(LBudgetJury$Plan;)I"⟩, 7) := ⟨⟨by decide +kernel, by decide +kernel⟩, List.mem_of_getElem? (i := 234) (by decide +kernel), List.mem_of_getElem? (i := 551) (by decide +kernel), List.mem_of_getElem? (i := 552) (by decide +kernel)⟩
theorem lw_p28 : lw_okq (⟨"BudgetJury$Checker", "putNumber", "([IIII)I"⟩, 7) := ⟨⟨by decide +kernel, by decide +kernel⟩, List.mem_of_getElem? (i := 234) (by decide +kernel), List.mem_of_getElem? (i := 555) (by decide +kernel), List.mem_of_getElem? (i := 556) (by decide +kernel)⟩
theorem lw_p29 : lw_okq (⟨"BudgetJury$Checker", "setArguments", "(LBudgetJury$Plan;)V"⟩, 7) := ⟨⟨by decide +kernel, by decide +kernel⟩, List.mem_of_getElem? (i := 234) (by decide +kernel), List.mem_of_getElem? (i := 578) (by decide +kernel), List.mem_of_getElem? (i := 579) (by decide +kernel)⟩
theorem lw_p30 : lw_okq (⟨"BudgetJury$Parish", "hasRoom", "(I)Z"⟩, 15) := ⟨⟨by decide +kernel, by decide +kernel⟩, List.mem_of_getElem? (i := 263) (by decide +kernel), List.mem_of_getElem? (i := 615) (by decide +kernel), List.mem_of_getElem? (i := 616) (by decide +kernel)⟩
theorem lw_p31 : lw_okq (⟨"BudgetJury$Parish", "coinsOfFans", "(I)I"⟩, 15) := ⟨⟨by decide +kernel, by decide +kernel⟩, List.mem_of_getElem? (i := 263) (by decide +kernel), List.mem_of_getElem? (i := 627) (by decide +kernel), List.mem_of_getElem? (i := 628) (by decide +kernel)⟩
def lw_privs_2 : List (MethodName × Nat) := [(⟨"BudgetJury$Grammar", "write", "(II)Z"⟩, 5), (⟨"BudgetJury$Grammar", "isNamed", "(II)Z"⟩, 5), (⟨"BudgetJury$Grammar", "isSum", "(I)Z"⟩, 5), (⟨"BudgetJury$Grammar", "isProduct", "(I)Z"⟩, 5), (⟨"BudgetJury$Grammar", "isValue", "(I)Z"⟩, 5), (⟨"BudgetJury$Grammar", "isPair", "(I)Z"⟩, 5), (⟨"BudgetJury$Grammar", "comparisonHere", "()I"⟩, 5), (⟨"BudgetJury$Checker", "errorHere", "(LBudgetJury$Plan;)I"⟩, 7), (⟨"BudgetJury$Checker", "tellWard", "(LBudgetJury$Plan;J)I"⟩, 7), (⟨"BudgetJury$Checker", "tellProject", "(LBudgetJury$Plan;J)I"⟩, 7), (⟨"BudgetJury$Checker", "tellVoter", "(LBudgetJury$Plan;J)I"⟩, 7), (⟨"BudgetJury$Checker", "tellBan", "(LBudgetJury$Plan;)I"⟩, 7), (⟨"BudgetJury$Checker", "putNumber", "([IIII)I"⟩, 7), (⟨"BudgetJury$Checker", "setArguments", "(LBudgetJury$Plan;)V"⟩, 7), (⟨"BudgetJury$Parish", "hasRoom", "(I)Z"⟩, 15), (⟨"BudgetJury$Parish", "coinsOfFans", "(I)I"⟩, 15)]
theorem lw_r2 : ∀ q ∈ lw_privs_2, lw_okq q := List.forall_mem_cons.mpr ⟨lw_p16, List.forall_mem_cons.mpr ⟨lw_p17, List.forall_mem_cons.mpr ⟨lw_p18, List.forall_mem_cons.mpr ⟨lw_p19, List.forall_mem_cons.mpr ⟨lw_p20, List.forall_mem_cons.mpr ⟨lw_p21, List.forall_mem_cons.mpr ⟨lw_p22, List.forall_mem_cons.mpr ⟨lw_p23, List.forall_mem_cons.mpr ⟨lw_p24, List.forall_mem_cons.mpr ⟨lw_p25, List.forall_mem_cons.mpr ⟨lw_p26, List.forall_mem_cons.mpr ⟨lw_p27, List.forall_mem_cons.mpr ⟨lw_p28, List.forall_mem_cons.mpr ⟨lw_p29, List.forall_mem_cons.mpr ⟨lw_p30, List.forall_mem_cons.mpr ⟨lw_p31, fun _ h => absurd h List.not_mem_nil⟩⟩⟩⟩⟩⟩⟩⟩⟩⟩⟩⟩⟩⟩⟩⟩
theorem lw_p32 : lw_okq (⟨"BudgetJury$Parish", "fanCount", "(I)I"⟩, 15) := ⟨⟨by decide +kernel, by decide +kernel⟩, List.mem_of_getElem? (i := 263) (by decide +kernel), List.mem_of_getElem? (i := 635) (by decide +kernel), List.mem_of_getElem? (i := 636) (by decide +kernel)⟩
theorem lw_p33 : lw_okq (⟨"BudgetJury$Parish", "isBanned", "(I)Z"⟩, 15) := ⟨⟨by decide +kernel, by decide +kernel⟩, List.mem_of_getElem? (i := 263) (by decide +kernel), List.mem_of_getElem? (i := 645) (by decide +kernel), List.mem_of_getElem? (i := 646) (by decide +kernel)⟩
theorem lw_p34 : lw_okq (⟨"BudgetJury$Parish", "holds", "(I)Z"⟩, 15) := ⟨⟨by decide +kernel, by decide +kernel⟩, List.mem_of_getElem? (i := 263) (by decide +kernel), List.mem_of_getElem? (i := 649) (by decide +kernel), List.mem_of_getElem? (i := 650) (by decide +kernel)⟩
theorem lw_p35 : lw_okq (⟨"BudgetJury$Parish", "pop", "()I"⟩, 15) := ⟨⟨by decide +kernel, by decide +kernel⟩, List.mem_of_getElem? (i := 263) (by decide +kernel), List.mem_of_getElem? (i := 653) (by decide +kernel), List.mem_of_getElem? (i := 654) (by decide +kernel)⟩
theorem lw_p36 : lw_okq (⟨"BudgetJury$Parish", "push", "(I)V"⟩, 15) := ⟨⟨by decide +kernel, by decide +kernel⟩, List.mem_of_getElem? (i := 263) (by decide +kernel), List.mem_of_getElem? (i := 657) (by decide +kernel), List.mem_of_getElem? (i := 658) (by decide +kernel)⟩
theorem lw_p37 : lw_okq (⟨"BudgetJury$Parish", "single", "(II)I"⟩, 15) := ⟨⟨by decide +kernel, by decide +kernel⟩, List.mem_of_getElem? (i := 263) (by decide +kernel), List.mem_of_getElem? (i := 661) (by decide +kernel), List.mem_of_getElem? (i := 662) (by decide +kernel)⟩
theorem lw_p38 : lw_okq (⟨"BudgetJury$Parish", "reckon", "(III)I"⟩, 15) := ⟨⟨by decide +kernel, by decide +kernel⟩, List.mem_of_getElem? (i := 263) (by decide +kernel), List.mem_of_getElem? (i := 671) (by decide +kernel), List.mem_of_getElem? (i := 672) (by decide +kernel)⟩
theorem lw_p39 : lw_okq (⟨"BudgetJury", "countOf", "(I)I"⟩, 10) := ⟨⟨by decide +kernel, by decide +kernel⟩, List.mem_of_getElem? (i := 25) (by decide +kernel), List.mem_of_getElem? (i := 690) (by decide +kernel), List.mem_of_getElem? (i := 691) (by decide +kernel)⟩
theorem lw_p40 : lw_okq (⟨"BudgetJury$Parish", "purses", "()I"⟩, 15) := ⟨⟨by decide +kernel, by decide +kernel⟩, List.mem_of_getElem? (i := 263) (by decide +kernel), List.mem_of_getElem? (i := 698) (by decide +kernel), List.mem_of_getElem? (i := 699) (by decide +kernel)⟩
theorem lw_p41 : lw_okq (⟨"BudgetJury$Parish", "boughtCount", "()I"⟩, 15) := ⟨⟨by decide +kernel, by decide +kernel⟩, List.mem_of_getElem? (i := 263) (by decide +kernel), List.mem_of_getElem? (i := 706) (by decide +kernel), List.mem_of_getElem? (i := 707) (by decide +kernel)⟩
theorem lw_p42 : lw_okq (⟨"BudgetJury$Parish", "likedCount", "(I)I"⟩, 15) := ⟨⟨by decide +kernel, by decide +kernel⟩, List.mem_of_getElem? (i := 263) (by decide +kernel), List.mem_of_getElem? (i := 723) (by decide +kernel), List.mem_of_getElem? (i := 724) (by decide +kernel)⟩
theorem lw_p43 : lw_okq (⟨"java/lang/Throwable", "fillInStackTrace", "(I)Ljava/lang/Throwable;"⟩, 6) := ⟨⟨by decide +kernel, by decide +kernel⟩, List.mem_of_getElem? (i := 774) (by decide +kernel), List.mem_of_getElem? (i := 772) (by decide +kernel), List.mem_of_getElem? (i := 773) (by decide +kernel)⟩
theorem lw_p44 : lw_okq (⟨"BudgetJury", "append", "(I)V"⟩, 10) := ⟨⟨by decide +kernel, by decide +kernel⟩, List.mem_of_getElem? (i := 25) (by decide +kernel), List.mem_of_getElem? (i := 803) (by decide +kernel), List.mem_of_getElem? (i := 804) (by decide +kernel)⟩
theorem lw_p45 : lw_okq (⟨"BudgetJury$Parish", "buyFromPurses", "()V"⟩, 15) := ⟨⟨by decide +kernel, by decide +kernel⟩, List.mem_of_getElem? (i := 263) (by decide +kernel), List.mem_of_getElem? (i := 965) (by decide +kernel), List.mem_of_getElem? (i := 966) (by decide +kernel)⟩
theorem lw_p46 : lw_okq (⟨"BudgetJury$Parish", "buy", "(II)V"⟩, 15) := ⟨⟨by decide +kernel, by decide +kernel⟩, List.mem_of_getElem? (i := 263) (by decide +kernel), List.mem_of_getElem? (i := 970) (by decide +kernel), List.mem_of_getElem? (i := 971) (by decide +kernel)⟩
theorem lw_p47 : lw_okq (⟨"BudgetJury$Parish", "build", "(I)V"⟩, 15) := ⟨⟨by decide +kernel, by decide +kernel⟩, List.mem_of_getElem? (i := 263) (by decide +kernel), List.mem_of_getElem? (i := 974) (by decide +kernel), List.mem_of_getElem? (i := 975) (by decide +kernel)⟩
def lw_privs_3 : List (MethodName × Nat) := [(⟨"BudgetJury$Parish", "fanCount", "(I)I"⟩, 15), (⟨"BudgetJury$Parish", "isBanned", "(I)Z"⟩, 15), (⟨"BudgetJury$Parish", "holds", "(I)Z"⟩, 15), (⟨"BudgetJury$Parish", "pop", "()I"⟩, 15), (⟨"BudgetJury$Parish", "push", "(I)V"⟩, 15), (⟨"BudgetJury$Parish", "single", "(II)I"⟩, 15), (⟨"BudgetJury$Parish", "reckon", "(III)I"⟩, 15), (⟨"BudgetJury", "countOf", "(I)I"⟩, 10), (⟨"BudgetJury$Parish", "purses", "()I"⟩, 15), (⟨"BudgetJury$Parish", "boughtCount", "()I"⟩, 15), (⟨"BudgetJury$Parish", "likedCount", "(I)I"⟩, 15), (⟨"java/lang/Throwable", "fillInStackTrace", "(I)Ljava/lang/Throwable;"⟩, 6), (⟨"BudgetJury", "append", "(I)V"⟩, 10), (⟨"BudgetJury$Parish", "buyFromPurses", "()V"⟩, 15), (⟨"BudgetJury$Parish", "buy", "(II)V"⟩, 15), (⟨"BudgetJury$Parish", "build", "(I)V"⟩, 15)]
theorem lw_r3 : ∀ q ∈ lw_privs_3, lw_okq q := List.forall_mem_cons.mpr ⟨lw_p32, List.forall_mem_cons.mpr ⟨lw_p33, List.forall_mem_cons.mpr ⟨lw_p34, List.forall_mem_cons.mpr ⟨lw_p35, List.forall_mem_cons.mpr ⟨lw_p36, List.forall_mem_cons.mpr ⟨lw_p37, List.forall_mem_cons.mpr ⟨lw_p38, List.forall_mem_cons.mpr ⟨lw_p39, List.forall_mem_cons.mpr ⟨lw_p40, List.forall_mem_cons.mpr ⟨lw_p41, List.forall_mem_cons.mpr ⟨lw_p42, List.forall_mem_cons.mpr ⟨lw_p43, List.forall_mem_cons.mpr ⟨lw_p44, List.forall_mem_cons.mpr ⟨lw_p45, List.forall_mem_cons.mpr ⟨lw_p46, List.forall_mem_cons.mpr ⟨lw_p47, fun _ h => absurd h List.not_mem_nil⟩⟩⟩⟩⟩⟩⟩⟩⟩⟩⟩⟩⟩⟩⟩⟩
theorem lw_p48 : lw_okq (⟨"BudgetJury$Parish", "buildFromPot", "()V"⟩, 15) := ⟨⟨by decide +kernel, by decide +kernel⟩, List.mem_of_getElem? (i := 263) (by decide +kernel), List.mem_of_getElem? (i := 978) (by decide +kernel), List.mem_of_getElem? (i := 979) (by decide +kernel)⟩
theorem lw_p49 : lw_okq (⟨"BudgetJury$Parish", "bestForPot", "()I"⟩, 15) := ⟨⟨by decide +kernel, by decide +kernel⟩, List.mem_of_getElem? (i := 263) (by decide +kernel), List.mem_of_getElem? (i := 982) (by decide +kernel), List.mem_of_getElem? (i := 983) (by decide +kernel)⟩
theorem lw_p50 : lw_okq (⟨"BudgetJury$Parish", "isBetterForPot", "(II)Z"⟩, 15) := ⟨⟨by decide +kernel, by decide +kernel⟩, List.mem_of_getElem? (i := 263) (by decide +kernel), List.mem_of_getElem? (i := 986) (by decide +kernel), List.mem_of_getElem? (i := 987) (by decide +kernel)⟩
theorem lw_p51 : lw_okq (⟨"BudgetJury$Parish", "grow", "()V"⟩, 15) := ⟨⟨by decide +kernel, by decide +kernel⟩, List.mem_of_getElem? (i := 263) (by decide +kernel), List.mem_of_getElem? (i := 990) (by decide +kernel), List.mem_of_getElem? (i := 991) (by decide +kernel)⟩
theorem lw_p52 : lw_okq (⟨"BudgetJuryModel", "no", "(I)I"⟩, 16) := ⟨⟨by decide +kernel, by decide +kernel⟩, List.mem_of_getElem? (i := 1024) (by decide +kernel), List.mem_of_getElem? (i := 1228) (by decide +kernel), List.mem_of_getElem? (i := 1229) (by decide +kernel)⟩
theorem lw_p53 : lw_okq (⟨"BudgetJuryModel", "read", "()I"⟩, 16) := ⟨⟨by decide +kernel, by decide +kernel⟩, List.mem_of_getElem? (i := 1024) (by decide +kernel), List.mem_of_getElem? (i := 1243) (by decide +kernel), List.mem_of_getElem? (i := 1244) (by decide +kernel)⟩
theorem lw_p54 : lw_okq (⟨"BudgetJuryModel", "cut", "()V"⟩, 16) := ⟨⟨by decide +kernel, by decide +kernel⟩, List.mem_of_getElem? (i := 1024) (by decide +kernel), List.mem_of_getElem? (i := 1247) (by decide +kernel), List.mem_of_getElem? (i := 1248) (by decide +kernel)⟩
theorem lw_p55 : lw_okq (⟨"BudgetJuryModel", "byteOf", "(I)I"⟩, 16) := ⟨⟨by decide +kernel, by decide +kernel⟩, List.mem_of_getElem? (i := 1024) (by decide +kernel), List.mem_of_getElem? (i := 1251) (by decide +kernel), List.mem_of_getElem? (i := 1252) (by decide +kernel)⟩
theorem lw_p56 : lw_okq (⟨"BudgetJuryModel", "kindAt", "(II)I"⟩, 16) := ⟨⟨by decide +kernel, by decide +kernel⟩, List.mem_of_getElem? (i := 1024) (by decide +kernel), List.mem_of_getElem? (i := 1255) (by decide +kernel), List.mem_of_getElem? (i := 1256) (by decide +kernel)⟩
theorem lw_p57 : lw_okq (⟨"BudgetJuryModel", "word", "(II)I"⟩, 16) := ⟨⟨by decide +kernel, by decide +kernel⟩, List.mem_of_getElem? (i := 1024) (by decide +kernel), List.mem_of_getElem? (i := 1265) (by decide +kernel), List.mem_of_getElem? (i := 1266) (by decide +kernel)⟩
theorem lw_p58 : lw_okq (⟨"BudgetJuryModel", "isPlan", "()Z"⟩, 16) := ⟨⟨by decide +kernel, by decide +kernel⟩, List.mem_of_getElem? (i := 1024) (by decide +kernel), List.mem_of_getElem? (i := 1275) (by decide +kernel), List.mem_of_getElem? (i := 1276) (by decide +kernel)⟩
theorem lw_p59 : lw_okq (⟨"BudgetJuryModel", "is", "(I)Z"⟩, 16) := ⟨⟨by decide +kernel, by decide +kernel⟩, List.mem_of_getElem? (i := 1024) (by decide +kernel), List.mem_of_getElem? (i := 1279) (by decide +kernel), List.mem_of_getElem? (i := 1280) (by decide +kernel)⟩
theorem lw_p60 : lw_okq (⟨"BudgetJuryModel", "isWardLine", "()Z"⟩, 16) := ⟨⟨by decide +kernel, by decide +kernel⟩, List.mem_of_getElem? (i := 1024) (by decide +kernel), List.mem_of_getElem? (i := 1283) (by decide +kernel), List.mem_of_getElem? (i := 1284) (by decide +kernel)⟩
theorem lw_p61 : lw_okq (⟨"BudgetJuryModel", "eatAs", "(II)Z"⟩, 16) := ⟨⟨by decide +kernel, by decide +kernel⟩, List.mem_of_getElem? (i := 1024) (by decide +kernel), List.mem_of_getElem? (i := 1287) (by decide +kernel), List.mem_of_getElem? (i := 1288) (by decide +kernel)⟩
theorem lw_p62 : lw_okq (⟨"BudgetJuryModel", "eat", "(I)Z"⟩, 16) := ⟨⟨by decide +kernel, by decide +kernel⟩, List.mem_of_getElem? (i := 1024) (by decide +kernel), List.mem_of_getElem? (i := 1291) (by decide +kernel), List.mem_of_getElem? (i := 1292) (by decide +kernel)⟩
theorem lw_p63 : lw_okq (⟨"BudgetJuryModel", "isProjectLine", "()Z"⟩, 16) := ⟨⟨by decide +kernel, by decide +kernel⟩, List.mem_of_getElem? (i := 1024) (by decide +kernel), List.mem_of_getElem? (i := 1295) (by decide +kernel), List.mem_of_getElem? (i := 1296) (by decide +kernel)⟩
def lw_privs_4 : List (MethodName × Nat) := [(⟨"BudgetJury$Parish", "buildFromPot", "()V"⟩, 15), (⟨"BudgetJury$Parish", "bestForPot", "()I"⟩, 15), (⟨"BudgetJury$Parish", "isBetterForPot", "(II)Z"⟩, 15), (⟨"BudgetJury$Parish", "grow", "()V"⟩, 15), (⟨"BudgetJuryModel", "no", "(I)I"⟩, 16), (⟨"BudgetJuryModel", "read", "()I"⟩, 16), (⟨"BudgetJuryModel", "cut", "()V"⟩, 16), (⟨"BudgetJuryModel", "byteOf", "(I)I"⟩, 16), (⟨"BudgetJuryModel", "kindAt", "(II)I"⟩, 16), (⟨"BudgetJuryModel", "word", "(II)I"⟩, 16), (⟨"BudgetJuryModel", "isPlan", "()Z"⟩, 16), (⟨"BudgetJuryModel", "is", "(I)Z"⟩, 16), (⟨"BudgetJuryModel", "isWardLine", "()Z"⟩, 16), (⟨"BudgetJuryModel", "eatAs", "(II)Z"⟩, 16), (⟨"BudgetJuryModel", "eat", "(I)Z"⟩, 16), (⟨"BudgetJuryModel", "isProjectLine", "()Z"⟩, 16)]
theorem lw_r4 : ∀ q ∈ lw_privs_4, lw_okq q := List.forall_mem_cons.mpr ⟨lw_p48, List.forall_mem_cons.mpr ⟨lw_p49, List.forall_mem_cons.mpr ⟨lw_p50, List.forall_mem_cons.mpr ⟨lw_p51, List.forall_mem_cons.mpr ⟨lw_p52, List.forall_mem_cons.mpr ⟨lw_p53, List.forall_mem_cons.mpr ⟨lw_p54, List.forall_mem_cons.mpr ⟨lw_p55, List.forall_mem_cons.mpr ⟨lw_p56, List.forall_mem_cons.mpr ⟨lw_p57, List.forall_mem_cons.mpr ⟨lw_p58, List.forall_mem_cons.mpr ⟨lw_p59, List.forall_mem_cons.mpr ⟨lw_p60, List.forall_mem_cons.mpr ⟨lw_p61, List.forall_mem_cons.mpr ⟨lw_p62, List.forall_mem_cons.mpr ⟨lw_p63, fun _ h => absurd h List.not_mem_nil⟩⟩⟩⟩⟩⟩⟩⟩⟩⟩⟩⟩⟩⟩⟩⟩
theorem lw_p64 : lw_okq (⟨"BudgetJuryModel", "isVoterLine", "()Z"⟩, 16) := ⟨⟨by decide +kernel, by decide +kernel⟩, List.mem_of_getElem? (i := 1024) (by decide +kernel), List.mem_of_getElem? (i := 1299) (by decide +kernel), List.mem_of_getElem? (i := 1300) (by decide +kernel)⟩
theorem lw_p65 : lw_okq (⟨"BudgetJuryModel", "isBudgetLine", "()Z"⟩, 16) := ⟨⟨by decide +kernel, by decide +kernel⟩, List.mem_of_getElem? (i := 1024) (by decide +kernel), List.mem_of_getElem? (i := 1303) (by decide +kernel), List.mem_of_getElem? (i := 1304) (by decide +kernel)⟩
theorem lw_p66 : lw_okq (⟨"BudgetJuryModel", "isBanLine", "()Z"⟩, 16) := ⟨⟨by decide +kernel, by decide +kernel⟩, List.mem_of_getElem? (i := 1024) (by decide +kernel), List.mem_of_getElem? (i := 1307) (by decide +kernel), List.mem_of_getElem? (i := 1308) (by decide +kernel)⟩
theorem lw_p67 : lw_okq (⟨"BudgetJuryModel", "isTest", "()Z"⟩, 16) := ⟨⟨by decide +kernel, by decide +kernel⟩, List.mem_of_getElem? (i := 1024) (by decide +kernel), List.mem_of_getElem? (i := 1312) (by decide +kernel), List.mem_of_getElem? (i := 1313) (by decide +kernel)⟩
theorem lw_p68 : lw_okq (⟨"BudgetJuryModel", "isBoth", "()Z"⟩, 16) := ⟨⟨by decide +kernel, by decide +kernel⟩, List.mem_of_getElem? (i := 1024) (by decide +kernel), List.mem_of_getElem? (i := 1316) (by decide +kernel), List.mem_of_getElem? (i := 1317) (by decide +kernel)⟩
theorem lw_p69 : lw_okq (⟨"BudgetJuryModel", "isSingle", "()Z"⟩, 16) := ⟨⟨by decide +kernel, by decide +kernel⟩, List.mem_of_getElem? (i := 1024) (by decide +kernel), List.mem_of_getElem? (i := 1320) (by decide +kernel), List.mem_of_getElem? (i := 1321) (by decide +kernel)⟩
theorem lw_p70 : lw_okq (⟨"BudgetJuryModel", "isDeeper", "()Z"⟩, 16) := ⟨⟨by decide +kernel, by decide +kernel⟩, List.mem_of_getElem? (i := 1024) (by decide +kernel), List.mem_of_getElem? (i := 1324) (by decide +kernel), List.mem_of_getElem? (i := 1325) (by decide +kernel)⟩
theorem lw_p71 : lw_okq (⟨"BudgetJuryModel", "put", "(I)V"⟩, 16) := ⟨⟨by decide +kernel, by decide +kernel⟩, List.mem_of_getElem? (i := 1024) (by decide +kernel), List.mem_of_getElem? (i := 1328) (by decide +kernel), List.mem_of_getElem? (i := 1329) (by decide +kernel)⟩
theorem lw_p72 : lw_okq (⟨"BudgetJuryModel", "isSign", "(C)Z"⟩, 16) := ⟨⟨by decide +kernel, by decide +kernel⟩, List.mem_of_getElem? (i := 1024) (by decide +kernel), List.mem_of_getElem? (i := 1332) (by decide +kernel), List.mem_of_getElem? (i := 1333) (by decide +kernel)⟩
theorem lw_p73 : lw_okq (⟨"BudgetJuryModel", "eatSign", "(C)Z"⟩, 16) := ⟨⟨by decide +kernel, by decide +kernel⟩, List.mem_of_getElem? (i := 1024) (by decide +kernel), List.mem_of_getElem? (i := 1336) (by decide +kernel), List.mem_of_getElem? (i := 1337) (by decide +kernel)⟩
theorem lw_p74 : lw_okq (⟨"BudgetJuryModel", "isNamed", "(I)Z"⟩, 16) := ⟨⟨by decide +kernel, by decide +kernel⟩, List.mem_of_getElem? (i := 1024) (by decide +kernel), List.mem_of_getElem? (i := 1340) (by decide +kernel), List.mem_of_getElem? (i := 1341) (by decide +kernel)⟩
theorem lw_p75 : lw_okq (⟨"BudgetJuryModel", "isName", "(I)Z"⟩, 16) := ⟨⟨by decide +kernel, by decide +kernel⟩, List.mem_of_getElem? (i := 1024) (by decide +kernel), List.mem_of_getElem? (i := 1344) (by decide +kernel), List.mem_of_getElem? (i := 1345) (by decide +kernel)⟩
theorem lw_p76 : lw_okq (⟨"BudgetJuryModel", "isSum", "()Z"⟩, 16) := ⟨⟨by decide +kernel, by decide +kernel⟩, List.mem_of_getElem? (i := 1024) (by decide +kernel), List.mem_of_getElem? (i := 1348) (by decide +kernel), List.mem_of_getElem? (i := 1349) (by decide +kernel)⟩
theorem lw_p77 : lw_okq (⟨"BudgetJuryModel", "isProduct", "()Z"⟩, 16) := ⟨⟨by decide +kernel, by decide +kernel⟩, List.mem_of_getElem? (i := 1024) (by decide +kernel), List.mem_of_getElem? (i := 1352) (by decide +kernel), List.mem_of_getElem? (i := 1353) (by decide +kernel)⟩
theorem lw_p78 : lw_okq (⟨"BudgetJuryModel", "isValue", "()Z"⟩, 16) := ⟨⟨by decide +kernel, by decide +kernel⟩, List.mem_of_getElem? (i := 1024) (by decide +kernel), List.mem_of_getElem? (i := 1356) (by decide +kernel), List.mem_of_getElem? (i := 1357) (by decide +kernel)⟩
theorem lw_p79 : lw_okq (⟨"BudgetJuryModel", "numberAt", "(I)I"⟩, 16) := ⟨⟨by decide +kernel, by decide +kernel⟩, List.mem_of_getElem? (i := 1024) (by decide +kernel), List.mem_of_getElem? (i := 1360) (by decide +kernel), List.mem_of_getElem? (i := 1361) (by decide +kernel)⟩
def lw_privs_5 : List (MethodName × Nat) := [(⟨"BudgetJuryModel", "isVoterLine", "()Z"⟩, 16), (⟨"BudgetJuryModel", "isBudgetLine", "()Z"⟩, 16), (⟨"BudgetJuryModel", "isBanLine", "()Z"⟩, 16), (⟨"BudgetJuryModel", "isTest", "()Z"⟩, 16), (⟨"BudgetJuryModel", "isBoth", "()Z"⟩, 16), (⟨"BudgetJuryModel", "isSingle", "()Z"⟩, 16), (⟨"BudgetJuryModel", "isDeeper", "()Z"⟩, 16), (⟨"BudgetJuryModel", "put", "(I)V"⟩, 16), (⟨"BudgetJuryModel", "isSign", "(C)Z"⟩, 16), (⟨"BudgetJuryModel", "eatSign", "(C)Z"⟩, 16), (⟨"BudgetJuryModel", "isNamed", "(I)Z"⟩, 16), (⟨"BudgetJuryModel", "isName", "(I)Z"⟩, 16), (⟨"BudgetJuryModel", "isSum", "()Z"⟩, 16), (⟨"BudgetJuryModel", "isProduct", "()Z"⟩, 16), (⟨"BudgetJuryModel", "isValue", "()Z"⟩, 16), (⟨"BudgetJuryModel", "numberAt", "(I)I"⟩, 16)]
theorem lw_r5 : ∀ q ∈ lw_privs_5, lw_okq q := List.forall_mem_cons.mpr ⟨lw_p64, List.forall_mem_cons.mpr ⟨lw_p65, List.forall_mem_cons.mpr ⟨lw_p66, List.forall_mem_cons.mpr ⟨lw_p67, List.forall_mem_cons.mpr ⟨lw_p68, List.forall_mem_cons.mpr ⟨lw_p69, List.forall_mem_cons.mpr ⟨lw_p70, List.forall_mem_cons.mpr ⟨lw_p71, List.forall_mem_cons.mpr ⟨lw_p72, List.forall_mem_cons.mpr ⟨lw_p73, List.forall_mem_cons.mpr ⟨lw_p74, List.forall_mem_cons.mpr ⟨lw_p75, List.forall_mem_cons.mpr ⟨lw_p76, List.forall_mem_cons.mpr ⟨lw_p77, List.forall_mem_cons.mpr ⟨lw_p78, List.forall_mem_cons.mpr ⟨lw_p79, fun _ h => absurd h List.not_mem_nil⟩⟩⟩⟩⟩⟩⟩⟩⟩⟩⟩⟩⟩⟩⟩⟩
theorem lw_p80 : lw_okq (⟨"BudgetJuryModel", "isInside", "(IZ)Z"⟩, 16) := ⟨⟨by decide +kernel, by decide +kernel⟩, List.mem_of_getElem? (i := 1024) (by decide +kernel), List.mem_of_getElem? (i := 1364) (by decide +kernel), List.mem_of_getElem? (i := 1365) (by decide +kernel)⟩
theorem lw_p81 : lw_okq (⟨"BudgetJuryModel", "errorOf", "(I)I"⟩, 16) := ⟨⟨by decide +kernel, by decide +kernel⟩, List.mem_of_getElem? (i := 1024) (by decide +kernel), List.mem_of_getElem? (i := 1368) (by decide +kernel), List.mem_of_getElem? (i := 1369) (by decide +kernel)⟩
theorem lw_p82 : lw_okq (⟨"BudgetJuryModel", "isNew", "(III)I"⟩, 16) := ⟨⟨by decide +kernel, by decide +kernel⟩, List.mem_of_getElem? (i := 1024) (by decide +kernel), List.mem_of_getElem? (i := 1372) (by decide +kernel), List.mem_of_getElem? (i := 1373) (by decide +kernel)⟩
theorem lw_p83 : lw_okq (⟨"BudgetJuryModel", "told", "(II)I"⟩, 16) := ⟨⟨by decide +kernel, by decide +kernel⟩, List.mem_of_getElem? (i := 1024) (by decide +kernel), List.mem_of_getElem? (i := 1376) (by decide +kernel), List.mem_of_getElem? (i := 1377) (by decide +kernel)⟩
theorem lw_p84 : lw_okq (⟨"BudgetJuryModel", "isSame", "(II)Z"⟩, 16) := ⟨⟨by decide +kernel, by decide +kernel⟩, List.mem_of_getElem? (i := 1024) (by decide +kernel), List.mem_of_getElem? (i := 1380) (by decide +kernel), List.mem_of_getElem? (i := 1381) (by decide +kernel)⟩
theorem lw_p85 : lw_okq (⟨"BudgetJuryModel", "ban", "()I"⟩, 16) := ⟨⟨by decide +kernel, by decide +kernel⟩, List.mem_of_getElem? (i := 1024) (by decide +kernel), List.mem_of_getElem? (i := 1384) (by decide +kernel), List.mem_of_getElem? (i := 1385) (by decide +kernel)⟩
theorem lw_p86 : lw_okq (⟨"BudgetJuryModel", "look", "(II)I"⟩, 16) := ⟨⟨by decide +kernel, by decide +kernel⟩, List.mem_of_getElem? (i := 1024) (by decide +kernel), List.mem_of_getElem? (i := 1388) (by decide +kernel), List.mem_of_getElem? (i := 1389) (by decide +kernel)⟩
theorem lw_p87 : lw_okq (⟨"BudgetJuryModel", "like", "(I)I"⟩, 16) := ⟨⟨by decide +kernel, by decide +kernel⟩, List.mem_of_getElem? (i := 1024) (by decide +kernel), List.mem_of_getElem? (i := 1392) (by decide +kernel), List.mem_of_getElem? (i := 1393) (by decide +kernel)⟩
theorem lw_p88 : lw_okq (⟨"BudgetJuryModel", "numberOf", "(I)I"⟩, 16) := ⟨⟨by decide +kernel, by decide +kernel⟩, List.mem_of_getElem? (i := 1024) (by decide +kernel), List.mem_of_getElem? (i := 1396) (by decide +kernel), List.mem_of_getElem? (i := 1397) (by decide +kernel)⟩
theorem lw_p89 : lw_okq (⟨"BudgetJuryModel", "inRange", "(III)I"⟩, 16) := ⟨⟨by decide +kernel, by decide +kernel⟩, List.mem_of_getElem? (i := 1024) (by decide +kernel), List.mem_of_getElem? (i := 1400) (by decide +kernel), List.mem_of_getElem? (i := 1401) (by decide +kernel)⟩
theorem lw_p90 : lw_okq (⟨"BudgetJuryModel", "counted", "(I)I"⟩, 16) := ⟨⟨by decide +kernel, by decide +kernel⟩, List.mem_of_getElem? (i := 1024) (by decide +kernel), List.mem_of_getElem? (i := 1412) (by decide +kernel), List.mem_of_getElem? (i := 1413) (by decide +kernel)⟩
theorem lw_p91 : lw_okq (⟨"BudgetJuryModel$State", "purses", "()I"⟩, 12) := ⟨⟨by decide +kernel, by decide +kernel⟩, List.mem_of_getElem? (i := 1114) (by decide +kernel), List.mem_of_getElem? (i := 1420) (by decide +kernel), List.mem_of_getElem? (i := 1421) (by decide +kernel)⟩
theorem lw_p92 : lw_okq (⟨"BudgetJuryModel$State", "allBuilt", "(Z)I"⟩, 12) := ⟨⟨by decide +kernel, by decide +kernel⟩, List.mem_of_getElem? (i := 1114) (by decide +kernel), List.mem_of_getElem? (i := 1424) (by decide +kernel), List.mem_of_getElem? (i := 1425) (by decide +kernel)⟩
theorem lw_p93 : lw_okq (⟨"BudgetJuryModel", "isWard", "(I)Z"⟩, 16) := ⟨⟨by decide +kernel, by decide +kernel⟩, List.mem_of_getElem? (i := 1024) (by decide +kernel), List.mem_of_getElem? (i := 1432) (by decide +kernel), List.mem_of_getElem? (i := 1433) (by decide +kernel)⟩
theorem lw_p94 : lw_okq (⟨"BudgetJuryModel", "wardTold", "(II)I"⟩, 16) := ⟨⟨by decide +kernel, by decide +kernel⟩, List.mem_of_getElem? (i := 1024) (by decide +kernel), List.mem_of_getElem? (i := 1436) (by decide +kernel), List.mem_of_getElem? (i := 1437) (by decide +kernel)⟩
theorem lw_p95 : lw_okq (⟨"BudgetJuryModel", "isProject", "(I)Z"⟩, 16) := ⟨⟨by decide +kernel, by decide +kernel⟩, List.mem_of_getElem? (i := 1024) (by decide +kernel), List.mem_of_getElem? (i := 1444) (by decide +kernel), List.mem_of_getElem? (i := 1445) (by decide +kernel)⟩
def lw_privs_6 : List (MethodName × Nat) := [(⟨"BudgetJuryModel", "isInside", "(IZ)Z"⟩, 16), (⟨"BudgetJuryModel", "errorOf", "(I)I"⟩, 16), (⟨"BudgetJuryModel", "isNew", "(III)I"⟩, 16), (⟨"BudgetJuryModel", "told", "(II)I"⟩, 16), (⟨"BudgetJuryModel", "isSame", "(II)Z"⟩, 16), (⟨"BudgetJuryModel", "ban", "()I"⟩, 16), (⟨"BudgetJuryModel", "look", "(II)I"⟩, 16), (⟨"BudgetJuryModel", "like", "(I)I"⟩, 16), (⟨"BudgetJuryModel", "numberOf", "(I)I"⟩, 16), (⟨"BudgetJuryModel", "inRange", "(III)I"⟩, 16), (⟨"BudgetJuryModel", "counted", "(I)I"⟩, 16), (⟨"BudgetJuryModel$State", "purses", "()I"⟩, 12), (⟨"BudgetJuryModel$State", "allBuilt", "(Z)I"⟩, 12), (⟨"BudgetJuryModel", "isWard", "(I)Z"⟩, 16), (⟨"BudgetJuryModel", "wardTold", "(II)I"⟩, 16), (⟨"BudgetJuryModel", "isProject", "(I)Z"⟩, 16)]
theorem lw_r6 : ∀ q ∈ lw_privs_6, lw_okq q := List.forall_mem_cons.mpr ⟨lw_p80, List.forall_mem_cons.mpr ⟨lw_p81, List.forall_mem_cons.mpr ⟨lw_p82, List.forall_mem_cons.mpr ⟨lw_p83, List.forall_mem_cons.mpr ⟨lw_p84, List.forall_mem_cons.mpr ⟨lw_p85, List.forall_mem_cons.mpr ⟨lw_p86, List.forall_mem_cons.mpr ⟨lw_p87, List.forall_mem_cons.mpr ⟨lw_p88, List.forall_mem_cons.mpr ⟨lw_p89, List.forall_mem_cons.mpr ⟨lw_p90, List.forall_mem_cons.mpr ⟨lw_p91, List.forall_mem_cons.mpr ⟨lw_p92, List.forall_mem_cons.mpr ⟨lw_p93, List.forall_mem_cons.mpr ⟨lw_p94, List.forall_mem_cons.mpr ⟨lw_p95, fun _ h => absurd h List.not_mem_nil⟩⟩⟩⟩⟩⟩⟩⟩⟩⟩⟩⟩⟩⟩⟩⟩
theorem lw_p96 : lw_okq (⟨"BudgetJuryModel", "projectTold", "(II)I"⟩, 16) := ⟨⟨by decide +kernel, by decide +kernel⟩, List.mem_of_getElem? (i := 1024) (by decide +kernel), List.mem_of_getElem? (i := 1448) (by decide +kernel), List.mem_of_getElem? (i := 1449) (by decide +kernel)⟩
theorem lw_p97 : lw_okq (⟨"BudgetJuryModel$State", "carryOut", "(II)I"⟩, 12) := ⟨⟨by decide +kernel, by decide +kernel⟩, List.mem_of_getElem? (i := 1114) (by decide +kernel), List.mem_of_getElem? (i := 1464) (by decide +kernel), List.mem_of_getElem? (i := 1465) (by decide +kernel)⟩
theorem lw_p98 : lw_okq (⟨"BudgetJuryModel$State", "pushed", "(II)I"⟩, 12) := ⟨⟨by decide +kernel, by decide +kernel⟩, List.mem_of_getElem? (i := 1114) (by decide +kernel), List.mem_of_getElem? (i := 1471) (by decide +kernel), List.mem_of_getElem? (i := 1472) (by decide +kernel)⟩
theorem lw_p99 : lw_okq (⟨"BudgetJuryModel", "isVoter", "(I)Z"⟩, 16) := ⟨⟨by decide +kernel, by decide +kernel⟩, List.mem_of_getElem? (i := 1024) (by decide +kernel), List.mem_of_getElem? (i := 1502) (by decide +kernel), List.mem_of_getElem? (i := 1503) (by decide +kernel)⟩
theorem lw_p100 : lw_okq (⟨"BudgetJuryModel", "voterTold", "(II)I"⟩, 16) := ⟨⟨by decide +kernel, by decide +kernel⟩, List.mem_of_getElem? (i := 1024) (by decide +kernel), List.mem_of_getElem? (i := 1506) (by decide +kernel), List.mem_of_getElem? (i := 1507) (by decide +kernel)⟩
theorem lw_p101 : lw_okq (⟨"BudgetJuryModel", "nextOne", "()I"⟩, 16) := ⟨⟨by decide +kernel, by decide +kernel⟩, List.mem_of_getElem? (i := 1024) (by decide +kernel), List.mem_of_getElem? (i := 1525) (by decide +kernel), List.mem_of_getElem? (i := 1526) (by decide +kernel)⟩
theorem lw_p102 : lw_okq (⟨"BudgetJuryModel$State", "copy", "([I[I)V"⟩, 12) := ⟨⟨by decide +kernel, by decide +kernel⟩, List.mem_of_getElem? (i := 1114) (by decide +kernel), List.mem_of_getElem? (i := 1533) (by decide +kernel), List.mem_of_getElem? (i := 1534) (by decide +kernel)⟩
theorem lw_p103 : lw_okq (⟨"BudgetJuryModel$State", "canBeChosen", "(I)Z"⟩, 12) := ⟨⟨by decide +kernel, by decide +kernel⟩, List.mem_of_getElem? (i := 1114) (by decide +kernel), List.mem_of_getElem? (i := 1548) (by decide +kernel), List.mem_of_getElem? (i := 1549) (by decide +kernel)⟩
theorem lw_p104 : lw_okq (⟨"BudgetJuryModel$State", "buy", "(I)V"⟩, 12) := ⟨⟨by decide +kernel, by decide +kernel⟩, List.mem_of_getElem? (i := 1114) (by decide +kernel), List.mem_of_getElem? (i := 1580) (by decide +kernel), List.mem_of_getElem? (i := 1581) (by decide +kernel)⟩
theorem lw_p105 : lw_okq (⟨"BudgetJuryModel$State", "build", "(I)V"⟩, 12) := ⟨⟨by decide +kernel, by decide +kernel⟩, List.mem_of_getElem? (i := 1114) (by decide +kernel), List.mem_of_getElem? (i := 1584) (by decide +kernel), List.mem_of_getElem? (i := 1585) (by decide +kernel)⟩
theorem lw_p106 : lw_okq (⟨"BudgetJuryModel$State", "nextOfPot", "()I"⟩, 12) := ⟨⟨by decide +kernel, by decide +kernel⟩, List.mem_of_getElem? (i := 1114) (by decide +kernel), List.mem_of_getElem? (i := 1588) (by decide +kernel), List.mem_of_getElem? (i := 1589) (by decide +kernel)⟩
def lw_privs_7 : List (MethodName × Nat) := [(⟨"BudgetJuryModel", "projectTold", "(II)I"⟩, 16), (⟨"BudgetJuryModel$State", "carryOut", "(II)I"⟩, 12), (⟨"BudgetJuryModel$State", "pushed", "(II)I"⟩, 12), (⟨"BudgetJuryModel", "isVoter", "(I)Z"⟩, 16), (⟨"BudgetJuryModel", "voterTold", "(II)I"⟩, 16), (⟨"BudgetJuryModel", "nextOne", "()I"⟩, 16), (⟨"BudgetJuryModel$State", "copy", "([I[I)V"⟩, 12), (⟨"BudgetJuryModel$State", "canBeChosen", "(I)Z"⟩, 12), (⟨"BudgetJuryModel$State", "buy", "(I)V"⟩, 12), (⟨"BudgetJuryModel$State", "build", "(I)V"⟩, 12), (⟨"BudgetJuryModel$State", "nextOfPot", "()I"⟩, 12)]
theorem lw_r7 : ∀ q ∈ lw_privs_7, lw_okq q := List.forall_mem_cons.mpr ⟨lw_p96, List.forall_mem_cons.mpr ⟨lw_p97, List.forall_mem_cons.mpr ⟨lw_p98, List.forall_mem_cons.mpr ⟨lw_p99, List.forall_mem_cons.mpr ⟨lw_p100, List.forall_mem_cons.mpr ⟨lw_p101, List.forall_mem_cons.mpr ⟨lw_p102, List.forall_mem_cons.mpr ⟨lw_p103, List.forall_mem_cons.mpr ⟨lw_p104, List.forall_mem_cons.mpr ⟨lw_p105, List.forall_mem_cons.mpr ⟨lw_p106, fun _ h => absurd h List.not_mem_nil⟩⟩⟩⟩⟩⟩⟩⟩⟩⟩⟩
def lw_privs : List (MethodName × Nat) := lw_privs_1 ++ (lw_privs_2 ++ (lw_privs_3 ++ (lw_privs_4 ++ (lw_privs_5 ++ (lw_privs_6 ++ (lw_privs_7))))))
def lw_tbl : List Cond := k2_sels lw_privs ++ tables_1
theorem lw_privs_ok : ∀ q ∈ lw_privs, lw_okq q := by
  show ∀ q ∈ lw_privs_1 ++ (lw_privs_2 ++ (lw_privs_3 ++ (lw_privs_4 ++ (lw_privs_5 ++ (lw_privs_6 ++ (lw_privs_7)))))), lw_okq q
  exact List.forall_mem_append.mpr ⟨lw_r1, List.forall_mem_append.mpr ⟨lw_r2, List.forall_mem_append.mpr ⟨lw_r3, List.forall_mem_append.mpr ⟨lw_r4, List.forall_mem_append.mpr ⟨lw_r5, List.forall_mem_append.mpr ⟨lw_r6, lw_r7⟩⟩⟩⟩⟩⟩
/-- the streams that the claim lets the run draw from -/
abbrev lw_cs : List Choice := [Jvm.Choice.named "NaN.bits"]
theorem lw_bits : nanBits ∈ lw_cs := by first | decide | exact List.mem_cons_self | simp [lw_cs, nanBits]
/-! ===== BEGIN words of one list among another's, by their places ===== -/
theorem goodIn_r {big : List Cond} (ws : List Cond) (ps : List Nat) (hp : ws = ps.filterMap (fun i => big[i]?)) (h : ws.all goodWord = true) : GoodIn big ws := by
  intro w hw
  have h1 := List.all_eq_true.mp h w hw
  rw [hp] at hw
  obtain ⟨i, -, hi⟩ := List.mem_filterMap.mp hw
  have hm : w ∈ big := by first | exact List.mem_of_getElem? hi | exact List.getElem?_mem hi
  exact ⟨hm, good_of_word h1⟩
theorem goodIn_app {big a b : List Cond} (ha : GoodIn big a) (hb : GoodIn big b) : GoodIn big (a ++ b) := fun w h => (List.mem_append.mp h).elim (ha w) (hb w)
theorem goodIn_ca {big a b : List Cond} {c : Cond} (ha : GoodIn big (c :: a)) (hb : GoodIn big b) : GoodIn big (c :: (a ++ b)) := fun w h => (List.mem_cons.mp h).elim (fun e => ha w (List.mem_cons.mpr (Or.inl e))) (fun h => (List.mem_append.mp h).elim (fun h => ha w (List.mem_cons.mpr (Or.inr h))) (hb w))
theorem goodIn_sub {big ws : List Cond} (hm : ∀ w ∈ ws, w ∈ big) (h : ws.all goodWord = true) : GoodIn big ws := fun w hw => ⟨hm w hw, good_of_word (List.all_eq_true.mp h w hw)⟩
/-! ===== END ===== -/

/-! ===== BEGIN exceptions that leave a method, and their catching by the caller (launches without stack traces) ===== -/
section VXA
/-! The laws vx_back, vx_callV, vx_callS, vx_callSW, vx_throw0, vx_throwS follow proofs of the library, with one case more: JvmDerived/Free/Laws.lean (Back.of_free), Shelf42/LK1.lean (callV, callS), Shelf/KitTraced.lean (throwNew0V, throwNewS). -/
/-- where a method has thrown q: the class by its name, the cell, what was written, the world -/
def vx_T (XC : String → State → State → Prop) (st : State) (q : Addr) (t : State) (mc ms : Nat) (free : Addr → Prop) : Prop :=
  ∃ (E : String) (ce : Cell) (L : List Loc), XC E st t ∧ t.heap[q]? = some ce ∧ ce.vm = .none ∧ st.vm.findClass E = some ce.cls ∧ st.WarmedH t.vm ∧ st.sameButNew ({ t with vm := st.vm } : State) L mc ms ∧ ∀ z ∈ L, free z.base
def vx_Q (Qc : Array Value → State → Outcome → State → Prop) (XC : String → State → State → Prop) (mc ms : Nat) (free : Addr → Prop) : Array Value → State → Outcome → State → Prop := fun a st o t =>
  (Qc a st o t ∧ ∃ L, FrameEnd st o t L mc ms ∧ ∀ q ∈ L, free q.base) ∨ ∃ q, o = .threw q ∧ vx_T XC st q t mc ms free
/-- a callee that returns or throws -/
def vx_Met (l : Launch) (y : MethodName) (ws : List Cond) (rm : Room) (Pc : Array Value → State → Prop) (Qc : Array Value → State → Outcome → State → Prop) (XC : String → State → State → Prop) (mc ms : Nat) (free : Addr → Prop) : Prop :=
  MetFree l y (headSpec ws rm) Pc (fun _ _ _ _ _ => True) (vx_Q Qc XC mc ms free)
def vx_Post (XC : String → State → State → Prop) (mc ms : Nat) (free : Addr → Prop) : Pt → Array Value → Addr → Pt → Prop := fun A a q B =>
  ∃ (g : JFrame) (mk : MethodId) (t : State) (L : List Loc) (E : String) (ce : Cell), B.U.heap = t.heap ∧ B.U.vm = t.vm ∧ XC E (A.U.calling g mk a) t ∧ t.heap[q]? = some ce ∧ ce.vm = .none ∧ A.U.vm.findClass E = some ce.cls ∧ B.locs = A.locs ++ L ∧ (∀ z ∈ L, free z.base) ∧ B.cells = A.cells + mc ∧ B.slots = A.slots + ms
def vx_Back (l : Launch) (R : Room) (p : Program) (e : Env) (below : List Frame) (s : State) (sargs : Array Value) (y : MethodName) (len W9 : Nat)
    (Pre : Pt → Array Value → Prop) (Post : Pt → Array Value → Option Value → Pt → Prop) (PostX : Pt → Array Value → Addr → Pt → Prop) : Prop :=
  ∀ (m : MethodId) (meth : Method) (c : Code) (A : Pt) (g : JFrame) (ig : Instr) (mk : MethodId) (a : Array Value),
    Stand p l e R s m sargs below meth c A.U A.locs A.cells A.slots → g.method = m → g.locals.size = c.maxLocals → decode c.code g.pc = .ok (ig, len) →
    2 * g.monitorRoom + (g.stack.map fun v => v.category).sum ≤ W9 → A.U.methodNamed? y = some mk → Pre A a →
    (∃ (v : Option Value) (B : Pt), Stand p l e R s m sargs below meth c B.U B.locs B.cells B.slots ∧ Post A a v B ∧
      Steps p.tables e below (doInvoke e (A.U.setTop g) [] mk a).1 (B.U.setTop { g with pc := g.pc + len, stack := v.toList ++ g.stack })) ∨
    (∃ (q : Addr) (B : Pt), Stand p l e R s m sargs below meth c B.U B.locs B.cells B.slots ∧ PostX A a q B ∧
      Steps p.tables e below (doInvoke e (A.U.setTop g) [] mk a).1 ((B.U.setTop g).pushFrame (.throwing q)))
section Payer
variable {l : Launch} {R : Room} {p : Program} {e : Env} {below : List Frame} {s : State} {sargs : Array Value} {y : MethodName} {len W9 : Nat}
theorem vx_back {ws : List Cond} {rm : Room} {Pc : Array Value → State → Prop} {Qc : Array Value → State → Outcome → State → Prop} {XC : String → State → State → Prop} {mc ms : Nat} {free : Addr → Prop} {bytes : ByteArray} {maxL : Nat} {ret : Option FieldType}
    (hM : vx_Met l y ws rm Pc Qc XC mc ms free) (hblind : FrameBlind Pc) (hrc : rm.cells = mc) (hrs : rm.slots = ms)
    (hframes : rm.frames + 1 ≤ R.frames) (hlocals : W9 + (maxL + 11) + rm.locals ≤ R.locals)
    (hws : ∀ w ∈ ws, ∀ a' U, s.WarmedH U.vm → w.before a' U = true) (hcode : Cond.code y bytes maxL ret ∈ ws) (hinit : ∀ a' U, s.WarmedH U.vm → (Cond.initialized y.cls).before a' U = true) :
    vx_Back l R p e below s sargs y len W9 (PreOf R mc ms Pc) (PostOf Qc mc ms free) (vx_Post XC mc ms free) := by
  intro m meth c A g ig mk a X hg hsize hdg hW hn hp
  have h1 : (headSpec ws rm).pre.before a A.U = true := atoms_intro fun w hw => hws w hw _ _ X.warmed
  have h2 : (Cond.code y bytes maxL ret).before a A.U = true := hws _ hcode _ _ X.warmed
  have h3 : (Cond.initialized y.cls).before a A.U = true := hinit _ _ X.warmed
  have h4 : A.cells + (headSpec ws rm).room.cells ≤ R.cells := by rw [show (headSpec ws rm).room.cells = mc from hrc]; exact hp.1
  have h5 : A.slots + (headSpec ws rm).room.slots ≤ R.slots := by rw [show (headSpec ws rm).room.slots = ms from hrs]; exact hp.2.1
  have hPc : Pc a (A.U.calling g mk a) := hblind _ _ _ _ hp.2.2
  obtain ⟨U, Ls, c0, s0⟩ := A
  dsimp only [Pt.U, Pt.locs, Pt.cells, Pt.slots] at h1 h2 h3 h4 h5 X hn hPc ⊢
  obtain ⟨methY, cY, hmY, hcY, -, hlY, -, -, -, -⟩ := Cond.code_spec hn h2
  obtain ⟨kY, hkY, -⟩ := className_of_methodNamed hn
  have hinitY : kY.init = .initialized := Cond.initialized_spec (findClass_of_methodNamed hn) hkY h3
  have h : At U g.method c below := by rw [hg]; exact X.here
  have hlocals9 : W9 + (maxL + 11) + (headSpec ws rm).room.locals ≤ R.locals := hlocals
  have happ : (headSpec ws rm).appliesLoose y e.platform (U.calling g mk a) = true :=
    Spec.appliesLoose_calling (g := g) h hdg hn hkY hinitY
      (X.room_calling (g := g) (R' := (headSpec ws rm).room) hsize hmY hcY hframes (by rw [hlY]; omega) h4 h5) h1
  obtain ⟨mid, hmid⟩ := h.above
  have hfr : (U.setTop g).frames = (.java g :: mid) ++ below := by rw [State.frames_setTop' g h.top, hmid]; rfl
  obtain ⟨o, s₂, hsteps, -, hend, hq⟩ := Steps.callFree hM p X.admits X.cas X.clock (acts := []) hfr happ hPc trivial
  have hq' : vx_Q Qc XC mc ms free a (U.calling g mk a) o s₂ := hq
  rw [State.frames_setTop' g h.top] at hend
  obtain ⟨g₀, hg0⟩ := Option.isSome_iff_exists.mp h.top
  obtain ⟨r, hr⟩ := State.topJava?_eq_some.mp hg0
  have hr' : (({ U with heap := s₂.heap, slotsUsed := s₂.slotsUsed } : State).setVm s₂.vm).frames = .java g₀ :: r := hr
  rcases hq' with ⟨hqc, L, hfe, hL⟩ | ⟨q, rfl, E, ce, L, hx, hce, hcv, hcl, hW₂, hsm, hL⟩
  · obtain ⟨⟨v, rfl⟩, hW₂, e2, q2, q3, q4, q5, q6⟩ := id hfe
    have e3 : s₂ = ({ (U.calling g mk a).setFrames s₂.frames with heap := s₂.heap, slotsUsed := s₂.slotsUsed } : State).setVm s₂.vm := by
      have : s₂ = ({ s₂ with vm := (U.calling g mk a).vm } : State).setVm s₂.vm := rfl
      rw [e2] at this
      exact this
    obtain ⟨c₂, i₂, len₂, hc₂, hd₂, hf₂⟩ := hend
    have hW' : U.WarmedH s₂.vm := hW₂
    have hcc : c₂ = c := by
      have h1 : s₂.code? g.method = U.code? g.method := by
        rw [State.code?_eq, State.code?_eq, hW'.alike.method?]
      exact Option.some.inj (hc₂.symm.trans (h1.trans h.code))
    subst hcc
    have hlen : len₂ = len := by rw [hdg] at hd₂; cases hd₂; rfl
    subst hlen
    have hs₂ : s₂ = (({ U with heap := s₂.heap, slotsUsed := s₂.slotsUsed } : State).setVm s₂.vm).setTop { g with pc := g.pc + len₂, stack := v.toList ++ g.stack } := by
      refine e3.trans ?_
      rw [hf₂, State.calling_eq h.top, State.setFrames_setFrames, State.setTop_of_frames _ hr', hr]
      rfl
    have hsame : U.sameButNew ({ U with heap := s₂.heap, slotsUsed := s₂.slotsUsed } : State) L mc ms := by
      refine ⟨?_, q2, q3, q4, q5, q6⟩
      obtain ⟨t, ht, -⟩ := State.frames_cons hr
      show ({ U with heap := s₂.heap, slotsUsed := s₂.slotsUsed } : State) = { U.setFrames U.frames with heap := s₂.heap, slotsUsed := s₂.slotsUsed }
      rw [State.setFrames_self ht]
    subst hg
    refine Or.inl ⟨v, ⟨(({ U with heap := s₂.heap, slotsUsed := s₂.slotsUsed } : State).setVm s₂.vm), Ls ++ L, c0 + mc, s0 + ms⟩,
      ⟨X.admits, X.cas, X.clock, X.frames, X.room, X.hears, X.method, X.code, (X.here.setHeapUsed s₂.heap s₂.slotsUsed).setVm hW'.alike, X.tail, State.WarmedH.trans X.warmed hW', X.limits, X.bytes, X.same.trans (hsame.setVm s.vm)⟩,
      ⟨g, mk, s₂, L, rfl, rfl, hqc, rfl, hL, rfl, rfl⟩, ?_⟩
    show Steps p.tables e below _ ((({ U with heap := s₂.heap, slotsUsed := s₂.slotsUsed } : State).setVm s₂.vm).setTop { g with pc := g.pc + len₂, stack := v.toList ++ g.stack })
    rw [← hs₂]
    exact hsteps
  · obtain ⟨e2, q2, q3, q4, q5, q6⟩ := id hsm
    have e3 : s₂ = ({ (U.calling g mk a).setFrames s₂.frames with heap := s₂.heap, slotsUsed := s₂.slotsUsed } : State).setVm s₂.vm := by
      have : s₂ = ({ s₂ with vm := (U.calling g mk a).vm } : State).setVm s₂.vm := rfl
      rw [e2] at this
      exact this
    have hf₂ : s₂.frames = .throwing q :: .java g :: U.frames.tail := hend
    have hW' : U.WarmedH s₂.vm := hW₂
    have hs₂ : s₂ = ((({ U with heap := s₂.heap, slotsUsed := s₂.slotsUsed } : State).setVm s₂.vm).setTop g).pushFrame (.throwing q) := by
      refine e3.trans ?_
      rw [hf₂, State.calling_eq h.top, State.setFrames_setFrames, State.pushFrame, State.frames_setTop _ hr', State.setTop_of_frames _ hr', State.setFrames_setFrames, hr]
      rfl
    have hsame : U.sameButNew ({ U with heap := s₂.heap, slotsUsed := s₂.slotsUsed } : State) L mc ms := by
      refine ⟨?_, q2, q3, q4, q5, q6⟩
      obtain ⟨t, ht, -⟩ := State.frames_cons hr
      show ({ U with heap := s₂.heap, slotsUsed := s₂.slotsUsed } : State) = { U.setFrames U.frames with heap := s₂.heap, slotsUsed := s₂.slotsUsed }
      rw [State.setFrames_self ht]
    subst hg
    refine Or.inr ⟨q, ⟨(({ U with heap := s₂.heap, slotsUsed := s₂.slotsUsed } : State).setVm s₂.vm), Ls ++ L, c0 + mc, s0 + ms⟩,
      ⟨X.admits, X.cas, X.clock, X.frames, X.room, X.hears, X.method, X.code, (X.here.setHeapUsed s₂.heap s₂.slotsUsed).setVm hW'.alike, X.tail, State.WarmedH.trans X.warmed hW', X.limits, X.bytes, X.same.trans (hsame.setVm s.vm)⟩,
      ⟨g, mk, s₂, L, E, ce, rfl, rfl, hx, hce, hcv, hcl, rfl, hL, rfl, rfl⟩, ?_⟩
    show Steps p.tables e below _ (((({ U with heap := s₂.heap, slotsUsed := s₂.slotsUsed } : State).setVm s₂.vm).setTop g).pushFrame (.throwing q))
    rw [← hs₂]
    exact hsteps
end Payer
section Calls
variable {p : Program} {l : Launch} {e : Env} {R : Room} {s : State} {m : MethodId} {args : Array Value} {below : List Frame} {meth : Method} {c : Code} {T : State} {locs : List Loc} {cells slots : Nat}
theorem vx_callV (X : Stand p l e R s m args below meth c T locs cells slots) (hexec : p.tables.exec = Jvm.exec) {own C : String} {index : Nat} {y : MethodName} {bytes : ByteArray} {maxL : Nat} {ret : Option FieldType}
    (hown : s.vm.findClass own = some m.cls) (hlink : (Cond.methodLink own index y).before args s = true) (hinst : (Cond.instanceMethod y).before args s = true) (hsel : (Cond.selects C y y).before args s = true)
    (hcode : (Cond.code y bytes maxL ret).before args s = true) (hy : y.cls ≠ "java/lang/invoke/MethodHandle" ∧ y.cls ≠ "java/lang/invoke/VarHandle")
    {W9 : Nat} {Pre : Pt → Array Value → Prop} {Post : Pt → Array Value → Option Value → Pt → Prop} {PostX : Pt → Array Value → Addr → Pt → Prop} (hK : vx_Back l R p e below s args y 3 W9 Pre Post PostX)
    {b : Addr} {cellB : Cell} (hcell : T.heap[b]? = some cellB) (hobj : cellB.vm.isStatics = false) (hcls : s.vm.findClass C = some cellB.cls)
    {g : JFrame} (hg : g.method = m) (hsize : g.locals.size = c.maxLocals) {argsL rest : List Value} (hlen : ∀ sig, parseMethodDescriptor y.desc = some sig → argsL.length = sig.parameters.length)
    (hstack : g.stack = argsL.reverse ++ .ref b :: rest) (hW : 2 * g.monitorRoom + (rest.map fun v => v.category).sum ≤ W9) (hdg : decode c.code g.pc = .ok (.invokevirtual index, 3))
    (hpre : ∀ vm₁, s.WarmedH vm₁ → Pre ⟨T.setVm vm₁, locs, cells, slots⟩ (Value.ref b :: argsL).toArray) :
    (∃ (v : Option Value) (vm₁ : Vm) (B : Pt), s.WarmedH vm₁ ∧ Stand p l e R s m args below meth c B.U B.locs B.cells B.slots ∧ Post ⟨T.setVm vm₁, locs, cells, slots⟩ (Value.ref b :: argsL).toArray v B ∧
      ∀ target, Steps p.tables e below (B.U.setTop { g with pc := g.pc + 3, stack := v.toList ++ rest }) target → Steps p.tables e below (T.setTop g) target) ∨
    (∃ (q : Addr) (vm₁ : Vm) (B : Pt), s.WarmedH vm₁ ∧ Stand p l e R s m args below meth c B.U B.locs B.cells B.slots ∧ PostX ⟨T.setVm vm₁, locs, cells, slots⟩ (Value.ref b :: argsL).toArray q B ∧
      Steps p.tables e below (T.setTop g) ((B.U.setTop { g with stack := rest }).pushFrame (.throwing q))) := by
  obtain ⟨mk, methM, hnamed, hmethM, hstM, habM⟩ := Cond.instanceMethod_spec hinst
  obtain ⟨methM', cM, hmethM', -, -, -, -, -, -, hsigM⟩ := Cond.code_spec hnamed hcode
  cases hmethM.symm.trans hmethM'
  obtain ⟨c2, r2, m2, q1, q2, q3, q4, kP, hkP, hkPi⟩ := Cond.selects_spec hsel
  cases hcls.symm.trans q1
  cases (State.methodFound?_of_named hnamed hy).symm.trans q2
  cases hnamed.symm.trans q3
  have hselP : selectMethod e.platform s.vm cellB.cls mk = .method mk := by rw [Launch.admits_selectMethod X.admits]; exact q4
  obtain ⟨vm₁, X₁, hstep₁⟩ := X.invokevirtual hexec hown hlink hnamed hmethM hstM hkP hkPi hy (a := b) (cell := cellB) hcell
    (fun z h => by rw [h] at hobj; cases hobj) hselP hmethM habM hkP hkPi (g := g) hg (argsL := argsL) (rest := rest) (hlen _ hsigM) hstack hdg
  rcases hK m meth c ⟨T.setVm vm₁, locs, cells, slots⟩ { g with stack := rest } (.invokevirtual index) mk (Value.ref b :: argsL).toArray X₁ hg hsize hdg hW (X₁.named hnamed) (hpre vm₁ X₁.warmed) with ⟨v, B, X', hpost, hsteps⟩ | ⟨q, B, X', hpost, hsteps⟩
  · exact Or.inl ⟨v, vm₁, B, X₁.warmed, X', hpost, fun target h => hstep₁ _ fun acts => by rw [doInvoke_state]; exact hsteps.trans h⟩
  · exact Or.inr ⟨q, vm₁, B, X₁.warmed, X', hpost, hstep₁ _ fun acts => by rw [doInvoke_state]; exact hsteps⟩
theorem vx_callS (X : Stand p l e R s m args below meth c T locs cells slots) (hexec : p.tables.exec = Jvm.exec) {own : String} {index : Nat} {y : MethodName} {bytes : ByteArray} {maxL : Nat} {ret : Option FieldType}
    (hown : s.vm.findClass own = some m.cls) (hlink : (Cond.methodLink own index y).before args s = true) (hstat : (Cond.static y).before args s = true) (hinit : (Cond.initialized y.cls).before args s = true)
    (hcode : (Cond.code y bytes maxL ret).before args s = true) (hy : y.cls ≠ "java/lang/invoke/MethodHandle" ∧ y.cls ≠ "java/lang/invoke/VarHandle")
    {W9 : Nat} {Pre : Pt → Array Value → Prop} {Post : Pt → Array Value → Option Value → Pt → Prop} {PostX : Pt → Array Value → Addr → Pt → Prop} (hK : vx_Back l R p e below s args y 3 W9 Pre Post PostX)
    {g : JFrame} (hg : g.method = m) (hsize : g.locals.size = c.maxLocals) {argsL rest : List Value} (hlen : ∀ sig, parseMethodDescriptor y.desc = some sig → argsL.length = sig.parameters.length)
    (hstack : g.stack = argsL.reverse ++ rest) (hW : 2 * g.monitorRoom + (rest.map fun v => v.category).sum ≤ W9) (hdg : decode c.code g.pc = .ok (.invokestatic index, 3))
    (hpre : ∀ vm₁, s.WarmedH vm₁ → Pre ⟨T.setVm vm₁, locs, cells, slots⟩ argsL.toArray) :
    (∃ (v : Option Value) (vm₁ : Vm) (B : Pt), s.WarmedH vm₁ ∧ Stand p l e R s m args below meth c B.U B.locs B.cells B.slots ∧ Post ⟨T.setVm vm₁, locs, cells, slots⟩ argsL.toArray v B ∧
      ∀ target, Steps p.tables e below (B.U.setTop { g with pc := g.pc + 3, stack := v.toList ++ rest }) target → Steps p.tables e below (T.setTop g) target) ∨
    (∃ (q : Addr) (vm₁ : Vm) (B : Pt), s.WarmedH vm₁ ∧ Stand p l e R s m args below meth c B.U B.locs B.cells B.slots ∧ PostX ⟨T.setVm vm₁, locs, cells, slots⟩ argsL.toArray q B ∧
      Steps p.tables e below (T.setTop g) ((B.U.setTop { g with stack := rest }).pushFrame (.throwing q))) := by
  obtain ⟨mk, hnamed⟩ := Cond.code_named hcode
  obtain ⟨methM, cM, hmethM, -, -, -, -, -, -, hsigM⟩ := Cond.code_spec hnamed hcode
  have hstatic : methM.isStatic = true := Cond.static_spec hnamed hmethM hstat
  obtain ⟨kP, hkP, -⟩ := className_of_methodNamed hnamed
  have hinitP : kP.init = .initialized := Cond.initialized_spec (findClass_of_methodNamed hnamed) hkP hinit
  obtain ⟨vm₁, X₁, hstep₁⟩ := X.invokestatic hexec hown hlink hnamed hmethM hstatic hkP hinitP hy (g := g) hg (argsL := argsL) (rest := rest) (hlen _ hsigM) hstack hdg
  rcases hK m meth c ⟨T.setVm vm₁, locs, cells, slots⟩ { g with stack := rest } (.invokestatic index) mk argsL.toArray X₁ hg hsize hdg hW (X₁.named hnamed) (hpre vm₁ X₁.warmed) with ⟨v, B, X', hpost, hsteps⟩ | ⟨q, B, X', hpost, hsteps⟩
  · exact Or.inl ⟨v, vm₁, B, X₁.warmed, X', hpost, fun target h => hstep₁ _ fun acts => by rw [doInvoke_state]; exact hsteps.trans h⟩
  · exact Or.inr ⟨q, vm₁, B, X₁.warmed, X', hpost, hstep₁ _ fun acts => by rw [doInvoke_state]; exact hsteps⟩
end Calls
theorem vx_cls {s : State} {T : State} {vm₁ : Vm} {E : String} {k : ClassId} (hW : s.WarmedH vm₁) (h : (T.setVm vm₁).vm.findClass E = some k) : s.vm.findClass E = some k := by
  have h1 : vm₁.findClass E = some k := h
  rw [hW.alike.findClass] at h1
  exact h1
/-- the method's frame g, with q thrown over it -/
def vx_W (p : Program) (l : Launch) (e : Env) (R : Room) (s : State) (m : MethodId) (args : Array Value) (below : List Frame) (meth : Method) (c : Code) (H : Heap) (locs : List Loc) (cells slots : Nat) (Q : State → Prop) (g : JFrame) (q : Addr) : Prop :=
  ∀ T : State, T.heap = H → Stand p l e R s m args below meth c T locs cells slots → ∃ t, Steps p.tables e below ((T.setTop g).pushFrame (.throwing q)) t ∧ Q t
def vx_Run (p : Program) (l : Launch) (e : Env) (R : Room) (s : State) (m : MethodId) (args : Array Value) (below : List Frame) (meth : Method) (c : Code) (H : Heap) (locs : List Loc) (cells slots mc ms : Nat) (g : JFrame) (rest : List Value) (Qa : State → Outcome → State → Prop) (XC : String → State → State → Prop) (free : Addr → Prop) : Prop :=
  ∀ T : State, T.heap = H → Stand p l e R s m args below meth c T locs cells slots →
    (∃ (v : Option Value) (st₀ t T' : State) (L : List Loc), st₀.heap = H ∧ Stand p l e R s m args below meth c T' (locs ++ L) (cells + mc) (slots + ms) ∧ (∀ q ∈ L, free q.base) ∧ T'.heap = t.heap ∧ T'.vm = t.vm ∧ Qa st₀ (.returned v) t ∧
      Goes p e below T g T' { g with pc := g.pc + 3, stack := v.toList ++ rest }) ∨
    (∃ (q : Addr) (st₀ t T' : State) (L : List Loc) (E : String) (ce : Cell), st₀.heap = H ∧ Stand p l e R s m args below meth c T' (locs ++ L) (cells + mc) (slots + ms) ∧ (∀ z ∈ L, free z.base) ∧ T'.heap = t.heap ∧ T'.vm = t.vm ∧ XC E st₀ t ∧ t.heap[q]? = some ce ∧ ce.vm = .none ∧ s.vm.findClass E = some ce.cls ∧
      Steps p.tables e below (T.setTop g) ((T'.setTop { g with stack := rest }).pushFrame (.throwing q)))
def vx_X {S : Type} (px : S → Prop) (B : String → S → State → Prop) (A : Nat → Prop) : String → State → State → Prop := fun E st t => ∃ u : S, px u ∧ B E u t ∧ va_F A st t
section Runs
variable {p : Program} {l : Launch} {e : Env} {R : Room} {s : State} {m : MethodId} {args : Array Value} {below : List Frame} {meth : Method} {c : Code} {H : Heap} {locs : List Loc} {cells slots : Nat}
variable {y : MethodName} {bytes cc : ByteArray} {maxL nL mc ms n index : Nat} {ret : Option FieldType} {ws : List Cond} {rm : Room} {Pc : Array Value → State → Prop} {Qc : Array Value → State → Outcome → State → Prop} {XC : String → State → State → Prop} {free : Addr → Prop} {Ts : List Cond} {own C : String} {b : Addr} {As rest : List Value} {g : JFrame}
theorem vx_callBack (cb : CallB R s args own index y bytes maxL ret ws rm mc ms n) (hM : vx_Met l y ws rm Pc Qc XC mc ms free) (hbl : FrameBlind Pc) : vx_Back l R p e below s args y 3 8 (PreOf R mc ms Pc) (PostOf Qc mc ms free) (vx_Post XC mc ms free) := by
  obtain ⟨hrc, hrs, hfr, hlo, hws, hcw, -, hini, -⟩ := cb
  exact vx_back (bytes := bytes) (maxL := maxL) (ret := ret) hM hbl hrc hrs hfr hlo hws hcw (fun a' U hW => word_at hW (Or.inl (by first | rfl | simp [Cond.onTables, Cond.keeps, Cond.steady])) hini)
theorem vx_runV (S : CallFix p m c cc nL s args Ts own) (hM : vx_Met l y ws rm Pc Qc XC mc ms free) (cw : CallW R s args own C index y bytes maxL ret ws rm mc ms n) (hp : PreV s H C b Pc As)
    (hg : g.method = m) (hn : As.length = n) (hsize : g.locals.size = nL) (hstack : g.stack = As.reverse ++ .ref b :: rest) (hW : 2 * g.monitorRoom + (rest.map fun v => v.category).sum ≤ 8) (hdg : decode cc g.pc = .ok (.invokevirtual index, 3)) (hf : cells + mc ≤ R.cells ∧ slots + ms ≤ R.slots) :
    vx_Run p l e R s m args below meth c H locs cells slots mc ms g rest (Qc (Value.ref b :: As).toArray) XC free := by
  have hK : vx_Back l R p e below s args y 3 8 (PreOf R mc ms Pc) (PostOf Qc mc ms free) (vx_Post XC mc ms free) := vx_callBack cw.1 hM hp.1
  obtain ⟨⟨-, -, -, -, -, -, hcode, -, hy, hlen, hl⟩, hin, hse⟩ := cw
  obtain ⟨hx, hb, hml, ho, -⟩ := S
  obtain ⟨-, ⟨cellB, hcB, hoB, hclB⟩, hPc⟩ := hp
  intro T hT X
  rcases vx_callV X hx (C := C) (bytes := bytes) (maxL := maxL) (ret := ret) ho hl hin hse hcode hy hK (by rw [hT]; exact hcB) hoB hclB hg (hsize.trans hml.symm) (argsL := As) (rest := rest) (fun sig h => hn.trans (hlen sig h)) hstack hW (by rw [hb]; exact hdg)
    (fun vm₁ hW₁ => ⟨hf.1, hf.2, hPc (T.setVm vm₁) hT hW₁⟩) with ⟨v, vm₁, ⟨U', l2, c2, s2⟩, hW₁, X', ⟨g', mk, t, L, e1, e2, hq, h1, hL, h2, h3⟩, st⟩ | ⟨q, vm₁, ⟨U', l2, c2, s2⟩, hW₁, X', ⟨g', mk, t, L, E, ce, e1, e2, hq, hce, hcv, hcl, h1, hL, h2, h3⟩, st⟩
  · dsimp only [Pt.U, Pt.locs, Pt.cells, Pt.slots] at X' e1 e2 h1 h2 h3 st
    subst h1; subst h2; subst h3
    exact Or.inl ⟨v, (T.setVm vm₁).calling g' mk (Value.ref b :: As).toArray, t, U', L, hT, X', hL, e1, e2, hq, st⟩
  · dsimp only [Pt.U, Pt.locs, Pt.cells, Pt.slots] at X' e1 e2 h1 h2 h3 st hcl
    subst h1; subst h2; subst h3
    exact Or.inr ⟨q, (T.setVm vm₁).calling g' mk (Value.ref b :: As).toArray, t, U', L, E, ce, hT, X', hL, e1, e2, hq, hce, hcv, vx_cls hW₁ hcl, st⟩
theorem vx_runS (S : CallFix p m c cc nL s args Ts own) (hM : vx_Met l y ws rm Pc Qc XC mc ms free) (cw : CallB R s args own index y bytes maxL ret ws rm mc ms n ∧ (Cond.static y).before args s = true) (hp : PreS s H Pc As)
    (hg : g.method = m) (hn : As.length = n) (hsize : g.locals.size = nL) (hstack : g.stack = As.reverse ++ rest) (hW : 2 * g.monitorRoom + (rest.map fun v => v.category).sum ≤ 8) (hdg : decode cc g.pc = .ok (.invokestatic index, 3)) (hf : cells + mc ≤ R.cells ∧ slots + ms ≤ R.slots) :
    vx_Run p l e R s m args below meth c H locs cells slots mc ms g rest (Qc As.toArray) XC free := by
  have hK : vx_Back l R p e below s args y 3 8 (PreOf R mc ms Pc) (PostOf Qc mc ms free) (vx_Post XC mc ms free) := vx_callBack cw.1 hM hp.1
  obtain ⟨⟨-, -, -, -, -, -, hcode, hini, hy, hlen, hl⟩, hstt⟩ := cw
  obtain ⟨hx, hb, hml, ho, -⟩ := S
  intro T hT X
  rcases vx_callS X hx (bytes := bytes) (maxL := maxL) (ret := ret) ho hl hstt hini hcode hy hK hg (hsize.trans hml.symm) (argsL := As) (rest := rest) (fun sig h => hn.trans (hlen sig h)) hstack hW (by rw [hb]; exact hdg)
    (fun vm₁ hW₁ => ⟨hf.1, hf.2, hp.2 (T.setVm vm₁) hT hW₁⟩) with ⟨v, vm₁, ⟨U', l2, c2, s2⟩, hW₁, X', ⟨g', mk, t, L, e1, e2, hq, h1, hL, h2, h3⟩, st⟩ | ⟨q, vm₁, ⟨U', l2, c2, s2⟩, hW₁, X', ⟨g', mk, t, L, E, ce, e1, e2, hq, hce, hcv, hcl, h1, hL, h2, h3⟩, st⟩
  · dsimp only [Pt.U, Pt.locs, Pt.cells, Pt.slots] at X' e1 e2 h1 h2 h3 st
    subst h1; subst h2; subst h3
    exact Or.inl ⟨v, (T.setVm vm₁).calling g' mk As.toArray, t, U', L, hT, X', hL, e1, e2, hq, st⟩
  · dsimp only [Pt.U, Pt.locs, Pt.cells, Pt.slots] at X' e1 e2 h1 h2 h3 st hcl
    subst h1; subst h2; subst h3
    exact Or.inr ⟨q, (T.setVm vm₁).calling g' mk As.toArray, t, U', L, E, ce, hT, X', hL, e1, e2, hq, hce, hcv, vx_cls hW₁ hcl, st⟩
end Runs
section Rows
variable {p : Program} {l : Launch} {e : Env} {R : Room} {s : State} {m : MethodId} {args : Array Value} {below : List Frame} {meth : Method} {c : Code} {H : Heap} {locs : List Loc} {cells slots : Nat} {Q : State → Prop}
variable {mc ms : Nat} {free : Addr → Prop} {A0 A1 : Nat → Prop} {H0 : Heap} {a : Array Value} {pc : Nat} {ls : Array Slot} {st0 rest : List Value}
theorem vx_keep {st₀ t T' : State} {L : List Loc} (h0 : st₀.heap = H) (e1 : T'.heap = t.heap) (hS : va_S A0 H0 H locs) (hA : ∀ q, q < H.size → A1 q → A0 q) (hf : ∀ q, free q → A0 q) (hL : ∀ q ∈ L, free q.base) (hF : va_F A1 st₀ t) :
    H.size ≤ T'.heap.size ∧ (∀ q : Nat, q < H.size → ¬ A1 q → T'.heap[q]? = H[q]?) ∧ va_S A0 H0 T'.heap (locs ++ L) := by
  obtain ⟨hz, hk⟩ := hF
  rw [h0] at hz hk
  exact ⟨by rw [e1]; exact hz, fun q h1 h2 => by rw [e1]; exact hk q h1 h2,
    ⟨Nat.le_trans hS.1 (by rw [e1]; exact hz), fun q h1 h2 => by rw [e1, hk q (Nat.lt_of_lt_of_le h1 hS.1) (fun z => h2 (hA q (Nat.lt_of_lt_of_le h1 hS.1) z))]; exact hS.2.1 q h1 h2, fun q hq => by
      rcases List.mem_append.mp hq with h | h
      · exact hS.2.2 q h
      · exact hf _ (hL q h)⟩⟩
theorem vx_calli {S SX : Type} {post : Int32 → S → Prop} {px : SX → Prop} {B : S → State → Prop} {BX : String → SX → State → Prop} {AX : Nat → Prop} (hr : vx_Run p l e R s m args below meth c H locs cells slots mc ms (F0 m pc ls st0) rest (va_Qi post B A1 a) (vx_X px BX AX) free) (hS : va_S A0 H0 H locs) (hA : ∀ q, q < H.size → A1 q → A0 q) (hf : ∀ q, free q → A0 q) (hAX : ∀ q, q < H.size → AX q → A0 q)
    (kx : ∀ (E : String) (ce : Cell) (q9 : Addr) (u : SX) (t : State) (H1 : Heap) (locs1 : List Loc), t.heap = H1 → s.vm.Alike t.vm → px u → BX E u t → H.size ≤ H1.size → (∀ q : Nat, q < H.size → ¬ AX q → H1[q]? = H[q]?) → va_S A0 H0 H1 locs1 → H1[q9]? = some ce → ce.vm = .none → s.vm.findClass E = some ce.cls → vx_W p l e R s m args below meth c H1 locs1 (cells + mc) (slots + ms) Q (F0 m pc ls rest) q9)
    (kk : ∀ (r : Int32) (u : S) (t : State) (H1 : Heap) (locs1 : List Loc), t.heap = H1 → s.vm.Alike t.vm → post r u → B u t → H.size ≤ H1.size → (∀ q : Nat, q < H.size → ¬ A1 q → H1[q]? = H[q]?) → va_S A0 H0 H1 locs1 → W p l e R s m args below meth c H1 locs1 (cells + mc) (slots + ms) Q (F0 m (pc + 3) ls (.int r :: rest))) : W p l e R s m args below meth c H locs cells slots Q (F0 m pc ls st0) := by
  intro T hT X
  rcases hr T hT X with ⟨v, st₀, t, T', L, h0, X', hL, e1, e2, ⟨⟨r, u, hv, hp, hb⟩, hF⟩, st⟩ | ⟨q, st₀, t, T', L, E, ce, h0, X', hL, e1, e2, ⟨u, hp, hb, hF⟩, hce, hcv, hcl, st⟩
  · cases hv
    obtain ⟨k1, k2, k3⟩ := vx_keep h0 e1 hS hA hf hL hF
    obtain ⟨t2, a1, b1⟩ := kk r u t T'.heap (locs ++ L) e1.symm (by rw [← e2]; exact X'.warmed.alike) hp hb k1 k2 k3 T' rfl X'
    exact ⟨t2, st t2 a1, b1⟩
  · obtain ⟨k1, k2, k3⟩ := vx_keep h0 e1 hS hAX hf hL hF
    obtain ⟨t2, a1, b1⟩ := kx E ce q u t T'.heap (locs ++ L) e1.symm (by rw [← e2]; exact X'.warmed.alike) hp hb k1 k2 k3 (by rw [e1]; exact hce) hcv hcl T' rfl X'
    exact ⟨t2, st.trans a1, b1⟩
theorem vx_calll {S SX : Type} {post : Int64 → S → Prop} {px : SX → Prop} {B : S → State → Prop} {BX : String → SX → State → Prop} {AX : Nat → Prop} (hr : vx_Run p l e R s m args below meth c H locs cells slots mc ms (F0 m pc ls st0) rest (va_Ql post B A1 a) (vx_X px BX AX) free) (hS : va_S A0 H0 H locs) (hA : ∀ q, q < H.size → A1 q → A0 q) (hf : ∀ q, free q → A0 q) (hAX : ∀ q, q < H.size → AX q → A0 q)
    (kx : ∀ (E : String) (ce : Cell) (q9 : Addr) (u : SX) (t : State) (H1 : Heap) (locs1 : List Loc), t.heap = H1 → s.vm.Alike t.vm → px u → BX E u t → H.size ≤ H1.size → (∀ q : Nat, q < H.size → ¬ AX q → H1[q]? = H[q]?) → va_S A0 H0 H1 locs1 → H1[q9]? = some ce → ce.vm = .none → s.vm.findClass E = some ce.cls → vx_W p l e R s m args below meth c H1 locs1 (cells + mc) (slots + ms) Q (F0 m pc ls rest) q9)
    (kk : ∀ (r : Int64) (u : S) (t : State) (H1 : Heap) (locs1 : List Loc), t.heap = H1 → s.vm.Alike t.vm → post r u → B u t → H.size ≤ H1.size → (∀ q : Nat, q < H.size → ¬ A1 q → H1[q]? = H[q]?) → va_S A0 H0 H1 locs1 → W p l e R s m args below meth c H1 locs1 (cells + mc) (slots + ms) Q (F0 m (pc + 3) ls (.long r :: rest))) : W p l e R s m args below meth c H locs cells slots Q (F0 m pc ls st0) := by
  intro T hT X
  rcases hr T hT X with ⟨v, st₀, t, T', L, h0, X', hL, e1, e2, ⟨⟨r, u, hv, hp, hb⟩, hF⟩, st⟩ | ⟨q, st₀, t, T', L, E, ce, h0, X', hL, e1, e2, ⟨u, hp, hb, hF⟩, hce, hcv, hcl, st⟩
  · cases hv
    obtain ⟨k1, k2, k3⟩ := vx_keep h0 e1 hS hA hf hL hF
    obtain ⟨t2, a1, b1⟩ := kk r u t T'.heap (locs ++ L) e1.symm (by rw [← e2]; exact X'.warmed.alike) hp hb k1 k2 k3 T' rfl X'
    exact ⟨t2, st t2 a1, b1⟩
  · obtain ⟨k1, k2, k3⟩ := vx_keep h0 e1 hS hAX hf hL hF
    obtain ⟨t2, a1, b1⟩ := kx E ce q u t T'.heap (locs ++ L) e1.symm (by rw [← e2]; exact X'.warmed.alike) hp hb k1 k2 k3 (by rw [e1]; exact hce) hcv hcl T' rfl X'
    exact ⟨t2, st.trans a1, b1⟩
theorem vx_callf {S SX : Type} {post : UInt32 → S → Prop} {px : SX → Prop} {B : S → State → Prop} {BX : String → SX → State → Prop} {AX : Nat → Prop} (hr : vx_Run p l e R s m args below meth c H locs cells slots mc ms (F0 m pc ls st0) rest (va_Qf post B A1 a) (vx_X px BX AX) free) (hS : va_S A0 H0 H locs) (hA : ∀ q, q < H.size → A1 q → A0 q) (hf : ∀ q, free q → A0 q) (hAX : ∀ q, q < H.size → AX q → A0 q)
    (kx : ∀ (E : String) (ce : Cell) (q9 : Addr) (u : SX) (t : State) (H1 : Heap) (locs1 : List Loc), t.heap = H1 → s.vm.Alike t.vm → px u → BX E u t → H.size ≤ H1.size → (∀ q : Nat, q < H.size → ¬ AX q → H1[q]? = H[q]?) → va_S A0 H0 H1 locs1 → H1[q9]? = some ce → ce.vm = .none → s.vm.findClass E = some ce.cls → vx_W p l e R s m args below meth c H1 locs1 (cells + mc) (slots + ms) Q (F0 m pc ls rest) q9)
    (kk : ∀ (r : UInt32) (u : S) (t : State) (H1 : Heap) (locs1 : List Loc), t.heap = H1 → s.vm.Alike t.vm → post r u → B u t → H.size ≤ H1.size → (∀ q : Nat, q < H.size → ¬ A1 q → H1[q]? = H[q]?) → va_S A0 H0 H1 locs1 → W p l e R s m args below meth c H1 locs1 (cells + mc) (slots + ms) Q (F0 m (pc + 3) ls (.float r :: rest))) : W p l e R s m args below meth c H locs cells slots Q (F0 m pc ls st0) := by
  intro T hT X
  rcases hr T hT X with ⟨v, st₀, t, T', L, h0, X', hL, e1, e2, ⟨⟨r, u, hv, hp, hb⟩, hF⟩, st⟩ | ⟨q, st₀, t, T', L, E, ce, h0, X', hL, e1, e2, ⟨u, hp, hb, hF⟩, hce, hcv, hcl, st⟩
  · cases hv
    obtain ⟨k1, k2, k3⟩ := vx_keep h0 e1 hS hA hf hL hF
    obtain ⟨t2, a1, b1⟩ := kk r u t T'.heap (locs ++ L) e1.symm (by rw [← e2]; exact X'.warmed.alike) hp hb k1 k2 k3 T' rfl X'
    exact ⟨t2, st t2 a1, b1⟩
  · obtain ⟨k1, k2, k3⟩ := vx_keep h0 e1 hS hAX hf hL hF
    obtain ⟨t2, a1, b1⟩ := kx E ce q u t T'.heap (locs ++ L) e1.symm (by rw [← e2]; exact X'.warmed.alike) hp hb k1 k2 k3 (by rw [e1]; exact hce) hcv hcl T' rfl X'
    exact ⟨t2, st.trans a1, b1⟩
theorem vx_calld {S SX : Type} {post : UInt64 → S → Prop} {px : SX → Prop} {B : S → State → Prop} {BX : String → SX → State → Prop} {AX : Nat → Prop} (hr : vx_Run p l e R s m args below meth c H locs cells slots mc ms (F0 m pc ls st0) rest (va_Qd post B A1 a) (vx_X px BX AX) free) (hS : va_S A0 H0 H locs) (hA : ∀ q, q < H.size → A1 q → A0 q) (hf : ∀ q, free q → A0 q) (hAX : ∀ q, q < H.size → AX q → A0 q)
    (kx : ∀ (E : String) (ce : Cell) (q9 : Addr) (u : SX) (t : State) (H1 : Heap) (locs1 : List Loc), t.heap = H1 → s.vm.Alike t.vm → px u → BX E u t → H.size ≤ H1.size → (∀ q : Nat, q < H.size → ¬ AX q → H1[q]? = H[q]?) → va_S A0 H0 H1 locs1 → H1[q9]? = some ce → ce.vm = .none → s.vm.findClass E = some ce.cls → vx_W p l e R s m args below meth c H1 locs1 (cells + mc) (slots + ms) Q (F0 m pc ls rest) q9)
    (kk : ∀ (r : UInt64) (u : S) (t : State) (H1 : Heap) (locs1 : List Loc), t.heap = H1 → s.vm.Alike t.vm → post r u → B u t → H.size ≤ H1.size → (∀ q : Nat, q < H.size → ¬ A1 q → H1[q]? = H[q]?) → va_S A0 H0 H1 locs1 → W p l e R s m args below meth c H1 locs1 (cells + mc) (slots + ms) Q (F0 m (pc + 3) ls (.double r :: rest))) : W p l e R s m args below meth c H locs cells slots Q (F0 m pc ls st0) := by
  intro T hT X
  rcases hr T hT X with ⟨v, st₀, t, T', L, h0, X', hL, e1, e2, ⟨⟨r, u, hv, hp, hb⟩, hF⟩, st⟩ | ⟨q, st₀, t, T', L, E, ce, h0, X', hL, e1, e2, ⟨u, hp, hb, hF⟩, hce, hcv, hcl, st⟩
  · cases hv
    obtain ⟨k1, k2, k3⟩ := vx_keep h0 e1 hS hA hf hL hF
    obtain ⟨t2, a1, b1⟩ := kk r u t T'.heap (locs ++ L) e1.symm (by rw [← e2]; exact X'.warmed.alike) hp hb k1 k2 k3 T' rfl X'
    exact ⟨t2, st t2 a1, b1⟩
  · obtain ⟨k1, k2, k3⟩ := vx_keep h0 e1 hS hAX hf hL hF
    obtain ⟨t2, a1, b1⟩ := kx E ce q u t T'.heap (locs ++ L) e1.symm (by rw [← e2]; exact X'.warmed.alike) hp hb k1 k2 k3 (by rw [e1]; exact hce) hcv hcl T' rfl X'
    exact ⟨t2, st.trans a1, b1⟩
theorem vx_callv {S SX : Type} {post : S → Prop} {px : SX → Prop} {B : S → State → Prop} {BX : String → SX → State → Prop} {AX : Nat → Prop} (hr : vx_Run p l e R s m args below meth c H locs cells slots mc ms (F0 m pc ls st0) rest (va_Qv post B A1 a) (vx_X px BX AX) free) (hS : va_S A0 H0 H locs) (hA : ∀ q, q < H.size → A1 q → A0 q) (hf : ∀ q, free q → A0 q) (hAX : ∀ q, q < H.size → AX q → A0 q)
    (kx : ∀ (E : String) (ce : Cell) (q9 : Addr) (u : SX) (t : State) (H1 : Heap) (locs1 : List Loc), t.heap = H1 → s.vm.Alike t.vm → px u → BX E u t → H.size ≤ H1.size → (∀ q : Nat, q < H.size → ¬ AX q → H1[q]? = H[q]?) → va_S A0 H0 H1 locs1 → H1[q9]? = some ce → ce.vm = .none → s.vm.findClass E = some ce.cls → vx_W p l e R s m args below meth c H1 locs1 (cells + mc) (slots + ms) Q (F0 m pc ls rest) q9)
    (kk : ∀ (u : S) (t : State) (H1 : Heap) (locs1 : List Loc), t.heap = H1 → s.vm.Alike t.vm → post u → B u t → H.size ≤ H1.size → (∀ q : Nat, q < H.size → ¬ A1 q → H1[q]? = H[q]?) → va_S A0 H0 H1 locs1 → W p l e R s m args below meth c H1 locs1 (cells + mc) (slots + ms) Q (F0 m (pc + 3) ls (rest))) : W p l e R s m args below meth c H locs cells slots Q (F0 m pc ls st0) := by
  intro T hT X
  rcases hr T hT X with ⟨v, st₀, t, T', L, h0, X', hL, e1, e2, ⟨⟨u, hv, hp, hb⟩, hF⟩, st⟩ | ⟨q, st₀, t, T', L, E, ce, h0, X', hL, e1, e2, ⟨u, hp, hb, hF⟩, hce, hcv, hcl, st⟩
  · cases hv
    obtain ⟨k1, k2, k3⟩ := vx_keep h0 e1 hS hA hf hL hF
    obtain ⟨t2, a1, b1⟩ := kk u t T'.heap (locs ++ L) e1.symm (by rw [← e2]; exact X'.warmed.alike) hp hb k1 k2 k3 T' rfl X'
    exact ⟨t2, st t2 a1, b1⟩
  · obtain ⟨k1, k2, k3⟩ := vx_keep h0 e1 hS hAX hf hL hF
    obtain ⟨t2, a1, b1⟩ := kx E ce q u t T'.heap (locs ++ L) e1.symm (by rw [← e2]; exact X'.warmed.alike) hp hb k1 k2 k3 (by rw [e1]; exact hce) hcv hcl T' rfl X'
    exact ⟨t2, st.trans a1, b1⟩
/-- caught by the row x of this method's table; the rows ahead don't take it -/
theorem vx_catch {own name : String} {E : String} {ce : Cell} {q : Addr} (hown : s.vm.findClass own = some m.cls) (pre : List ExceptionTableEntry) (x : ExceptionTableEntry) (suf : List ExceptionTableEntry) (hsplit : c.exceptionTable.toList = pre ++ x :: suf)
    (hpass : ∀ z ∈ pre, covers z pc = false ∨ (z.catchType ≠ 0 ∧ ∃ nm : String, (Cond.classLink own z.catchType nm).before args s = true ∧ va_Nc E nm s)) (hx : covers x pc = true) (h0 : x.catchType ≠ 0)
    (hlink : (Cond.classLink own x.catchType name).before args s = true) (hcast : (Cond.castable E name).before args s = true) (hcell : H[q]? = some ce) (hv : ce.vm = .none) (hcl : s.vm.findClass E = some ce.cls)
    (kk : W p l e R s m args below meth c H locs cells slots Q (F0 m x.handlerPc ls [.ref q])) : vx_W p l e R s m args below meth c H locs cells slots Q (F0 m pc ls rest) q := by
  intro T hT X
  have hpl : e.platform.magicAccessors = ({} : Platform).magicAccessors := by rw [X.admits.platform]
  obtain ⟨c3, c4, hc3, hc4, hasg⟩ := Cond.castable_spec hcast
  cases Option.some.inj (hc3.symm.trans hcl)
  obtain ⟨c5, hc5, hcl5⟩ := Cond.classLink_spec hown hlink e.platform hpl
  cases Option.some.inj (hc4.symm.trans hc5)
  obtain ⟨vm', X', st⟩ := X.thenCaughtThrough q (g := F0 m pc ls rest) rfl (Steps.refl _) (by rw [hT]; exact hcell) (by rw [hv]; rfl) (by obtain ⟨k9, h9, -⟩ := Vm.findClass_spec hcl; exact ⟨k9, h9⟩) pre x suf hsplit
    (fun z hz => by
      rcases hpass z hz with h | ⟨hz0, nm, hl1, hn1⟩
      · exact Or.inl h
      · obtain ⟨c6, hc6, hcl6⟩ := Cond.classLink_spec hown hl1 e.platform hpl
        obtain ⟨a8, b8, h1, h2, h3⟩ := hn1
        cases Option.some.inj (h1.symm.trans hcl)
        cases Option.some.inj (h2.symm.trans hc6)
        exact Or.inr ⟨hz0, _, hcl6, h3⟩) hx (Or.inr ⟨h0, c4, hcl5, hasg⟩)
  obtain ⟨t, a1, b1⟩ := kk (T.setVm vm') hT X'
  exact ⟨t, st.trans a1, b1⟩
end Rows
section Ends
variable {p : Program} {l : Launch} {e : Env} {R : Room} {s : State} {m : MethodId} {args : Array Value} {below : List Frame} {meth : Method} {c : Code} {H : Heap} {locs : List Loc} {cells slots : Nat} {Q : State → Prop}
variable {mc ms : Nat} {free : Addr → Prop} {A0 A1 : Nat → Prop} {H0 : Heap} {a : Array Value} {ls : Array Slot} {st0 rest : List Value}
variable {Qc : Array Value → State → Outcome → State → Prop} {XC : String → State → State → Prop}
/-- what a body that may throw owes at its end -/
def vx_MQ (below : List Frame) (Qc : Array Value → State → Outcome → State → Prop) (XC : String → State → State → Prop) (a : Array Value) (s : State) (mc ms : Nat) (free : Addr → Prop) : State → Prop := fun t =>
  ∃ o, t.status = .running ∧ Ended t below o ∧ vx_Q Qc XC mc ms free a s o t
theorem vx_ret {g : JFrame} {mc ms : Nat} (k : W p l e R s m args below meth c H locs cells slots (MQ below Qc args s mc ms free) g) : W p l e R s m args below meth c H locs cells slots (vx_MQ below Qc XC args s mc ms free) g := by
  intro T hT X
  obtain ⟨t, a1, o, b1, b2, b3, b4⟩ := k T hT X
  exact ⟨t, a1, o, b1, b2, Or.inl ⟨b3, b4⟩⟩
/-- not caught here: it goes on to the caller -/
theorem vx_widen {g : JFrame} {q : Addr} {k n : Nat} (h1 : cells ≤ k) (h2 : slots ≤ n) (kk : vx_W p l e R s m args below meth c H locs k n Q g q) : vx_W p l e R s m args below meth c H locs cells slots Q g q := fun T hT X => kk T hT (stand_widen X h1 h2)
theorem vx_out {pc : Nat} {E : String} {ce : Cell} {q : Addr} {mc ms : Nat} (hout : ∀ x ∈ c.exceptionTable.toList, covers x pc = false) (hlocks : meth.locks = false) (hcell : H[q]? = some ce) (hv : ce.vm = .none) (hcl : s.vm.findClass E = some ce.cls)
    (hx : ∀ t : State, t.heap = H → s.vm.Alike t.vm → XC E s t) (hf : ∀ z ∈ locs, free z.base) (hc : cells ≤ mc) (hs : slots ≤ ms) :
    vx_W p l e R s m args below meth c H locs cells slots (vx_MQ below Qc XC args s mc ms free) (F0 m pc ls rest) q := by
  intro T hT X
  obtain ⟨st1, hrun, hend, hW, hsm⟩ := X.leaveThrown q (g := F0 m pc ls rest) rfl rfl rfl hout hlocks
  have hcell9 : (T.setFrames (.throwing q :: below)).heap[q]? = some ce := by
    show T.heap[q]? = some ce
    rw [hT]; exact hcell
  exact ⟨_, st1, .threw q, hrun, hend, Or.inr ⟨q, rfl, E, ce, locs, hx _ hT hW.alike, hcell9, hv, hcl, hW, hsm.mono hc hs, hf⟩⟩
theorem vx_frame {U : State} {k n : Nat} (h : s.sameButNew ({ U with vm := s.vm } : State) locs k n) : s.heap.size ≤ U.heap.size ∧ ∀ q : Nat, q < s.heap.size → (∀ z ∈ locs, z.base ≠ q) → U.heap[q]? = s.heap[q]? := by
  obtain ⟨-, h2, -, -, -, h6⟩ := h
  refine ⟨h2, fun q hq hz => ?_⟩
  obtain ⟨c9, e1, e2, e3, e4⟩ := h6 q _ (Array.getElem?_eq_getElem hq)
  have hs : c9.slots = (s.heap[q]).slots := Array.ext_getElem? fun i => e4 i fun hm => hz _ hm rfl
  have h9 : c9 = s.heap[q] := by
    rw [hs] at e2
    exact e2
  have e5 : U.heap[q]? = some c9 := e1
  rw [e5, h9, Array.getElem?_eq_getElem hq]
/-- the words of a throw but the four that speak of the heap -/
def vx_no (w : Cond) : Bool := decide (w ≠ .isRef (.static Bundle.tN "UNASSIGNED_STACK" Bundle.steD)) && decide (w ≠ .isRef (.static Bundle.tN "SUPPRESSED_SENTINEL" Bundle.listD)) && decide (w ≠ .laysStatic Bundle.tN "UNASSIGNED_STACK" Bundle.steD) && decide (w ≠ .laysStatic Bundle.tN "SUPPRESSED_SENTINEL" Bundle.listD)
def vx_at0 (own : String) (ic : Nat) (X : String) (names : List String) : List Cond := (Bundle.ownAtoms0 own ic X names).filter vx_no
def vx_atS (own : String) (ic : Nat) (X : String) (names : List String) : List Cond := (Bundle.ownAtoms own ic X names).filter vx_no
/-- a word that the tables alone decide, or a good one -/
def vx_ot (w : Cond) : Bool := w.onTables || goodWord w
theorem vx_ot_at {args a' : Array Value} {s U : State} {w : Cond} (hW : s.WarmedH U.vm) (hvm : s.vm = U.vm) (hg : vx_ot w = true) (h : w.before args s = true) : w.before a' U = true := by
  simp only [vx_ot, Bool.or_eq_true] at hg
  rcases hg with hg | hg
  · exact va_tabs hg hvm h
  · exact word_at hW (good_of_word hg) h
/-- a list's words: the good ones out of the method's own list, the others by premises of their own -/
theorem vx_hat {args : Array Value} {s : State} {L B : List Cond} (h1 : ∀ w ∈ L.filter goodWord, w.before args s = true) (h2 : ∀ w ∈ L.filter (fun w => !goodWord w), w ∈ B) (h3 : ∀ w ∈ B, w.before args s = true) : ∀ w ∈ L, w.before args s = true := by
  intro w hw
  by_cases g : goodWord w = true
  · exact h1 w (List.mem_filter.mpr ⟨hw, g⟩)
  · refine h3 w (h2 w (List.mem_filter.mpr ⟨hw, ?_⟩))
    show (!goodWord w) = true
    cases hgw : goodWord w
    · rfl
    · exact absurd hgw g
theorem vx_c {args : Array Value} {s : State} {w : Cond} {B : List Cond} (h : w.before args s = true) (t : ∀ w ∈ B, w.before args s = true) : ∀ w' ∈ w :: B, w'.before args s = true := fun w' h' => (List.mem_cons.mp h').elim (fun e => by rw [e]; exact h) (t w')
theorem vx_n {args : Array Value} {s : State} : ∀ w ∈ ([] : List Cond), w.before args s = true := fun _ h => nomatch h
theorem vx_own {args : Array Value} {s : State} {L : List Cond} (h1 : ∀ w ∈ L.filter vx_no, w.before args s = true)
    (hU : (Cond.isRef (.static Bundle.tN "UNASSIGNED_STACK" Bundle.steD)).before args s = true) (hN : (Cond.isRef (.static Bundle.tN "SUPPRESSED_SENTINEL" Bundle.listD)).before args s = true)
    (lU : (Cond.laysStatic Bundle.tN "UNASSIGNED_STACK" Bundle.steD).before args s = true) (lN : (Cond.laysStatic Bundle.tN "SUPPRESSED_SENTINEL" Bundle.listD).before args s = true) : ∀ w ∈ L, w.before args s = true := by
  intro w hw
  by_cases e1 : w = .isRef (.static Bundle.tN "UNASSIGNED_STACK" Bundle.steD)
  · rw [e1]; exact hU
  · by_cases e2 : w = .isRef (.static Bundle.tN "SUPPRESSED_SENTINEL" Bundle.listD)
    · rw [e2]; exact hN
    · by_cases e3 : w = .laysStatic Bundle.tN "UNASSIGNED_STACK" Bundle.steD
      · rw [e3]; exact lU
      · by_cases e4 : w = .laysStatic Bundle.tN "SUPPRESSED_SENTINEL" Bundle.listD
        · rw [e4]; exact lN
        · exact h1 w (List.mem_filter.mpr ⟨hw, by unfold vx_no; rw [decide_eq_true e1, decide_eq_true e2, decide_eq_true e3, decide_eq_true e4]; rfl⟩)
/-- where a static field lies, its class's statics cell in H -/
def vx_L (C n d : String) (A : Nat → Prop) (U : State) (H : Heap) : Prop := ∃ (c : ClassId) (k : Class) (i : Nat) (f : Field) (a : Nat) (cell : Cell), U.vm.findClass C = some c ∧ U.fieldFound? C n d = some (c, k, i, f) ∧ f.isStatic = true ∧ k.statics = some a ∧ H[a]? = some cell ∧ cell.vm.isStatics = true ∧ cell.cls = c ∧ f.slot < cell.slots.size ∧ k.staticTypes[f.slot]? = some f.type ∧ ¬ A a
theorem vx_L.moved {C n d : String} {A : Nat → Prop} {u U : State} {H : Heap} (hvm : u.vm.Alike U.vm) (h : vx_L C n d A u H) : vx_L C n d A U H := by
  obtain ⟨c, k, i, f, a, cell, h1, h2, h3, h4, h5, h6, h7, h8, h9, h10⟩ := h
  obtain ⟨k', hi', he⟩ := State.fieldFound?_setVm hvm h2
  exact ⟨c, k', i, f, a, cell, by rw [hvm.findClass]; exact h1, hi', h3, by rw [he]; exact h4, h5, h6, h7, h8, by rw [he]; exact h9, h10⟩
theorem vx_L.kept {C n d : String} {A : Nat → Prop} {U : State} {H H1 : Heap} (h : vx_L C n d A U H) (hq : ∀ a : Nat, a < H.size → ¬ A a → H1[a]? = H[a]?) : vx_L C n d A U H1 := by
  obtain ⟨c, k, i, f, a, cell, h1, h2, h3, h4, h5, h6, h7, h8, h9, h10⟩ := h
  exact ⟨c, k, i, f, a, cell, h1, h2, h3, h4, by rw [hq a (Array.getElem?_eq_some_iff.mp h5).1 h10]; exact h5, h6, h7, h8, h9, h10⟩
theorem vx_L.narrow {C n d : String} {A B : Nat → Prop} {U : State} {H : Heap} (h : vx_L C n d A U H) (hAB : ∀ q, B q → A q) : vx_L C n d B U H := by
  obtain ⟨c, k, i, f, a, cell, h1, h2, h3, h4, h5, h6, h7, h8, h9, h10⟩ := h
  exact ⟨c, k, i, f, a, cell, h1, h2, h3, h4, h5, h6, h7, h8, h9, fun z => h10 (hAB _ z)⟩
theorem vx_L.word {C n d : String} {A : Nat → Prop} {s : State} {args : Array Value} (h : vx_L C n d A s s.heap) : (Cond.laysStatic C n d).before args s = true := by
  obtain ⟨c, k, i, f, a, cell, h1, h2, h3, h4, h5, h6, h7, h8, h9, -⟩ := h
  show (Cond.laysStatic C n d).holds args s none s [] = true
  exact Cond.laysStatic_of h1 h2 h3 h4 h5 h6 h7 h8 h9
/-- .. and what it holds: null or some reference -/
def vx_Zq (C n d : String) (A : Nat → Prop) (U : State) (H : Heap) : Prop := va_Zq C n d A U H ∧ vx_L C n d A U H
theorem vx_Zq.moved {C n d : String} {A : Nat → Prop} {u U : State} {H : Heap} (hvm : u.vm.Alike U.vm) (h : vx_Zq C n d A u H) : vx_Zq C n d A U H := ⟨va_Zq.moved hvm h.1, vx_L.moved hvm h.2⟩
theorem vx_Zq.kept {C n d : String} {A : Nat → Prop} {U : State} {H H1 : Heap} (h : vx_Zq C n d A U H) (hq : ∀ a : Nat, a < H.size → ¬ A a → H1[a]? = H[a]?) : vx_Zq C n d A U H1 := ⟨va_Zq.kept h.1 hq, vx_L.kept h.2 hq⟩
theorem vx_Zq.narrow {C n d : String} {A B : Nat → Prop} {U : State} {H : Heap} (h : vx_Zq C n d A U H) (hAB : ∀ q, B q → A q) : vx_Zq C n d B U H := ⟨va_Zq.narrow h.1 hAB, vx_L.narrow h.2 hAB⟩
theorem vx_Zqof {args : Array Value} {s : State} {C n d : String} {A : Nat → Prop} (hl : (Cond.laysStatic C n d).before args s = true) (hini : (Cond.initialized C).before args s = true) (h : (Cond.isRef (.static C n d)).before args s = true) (hA : ∀ a : Nat, a < s.heap.size → ¬ A a) : vx_Zq C n d A s s.heap := by
  refine ⟨va_Zqof hl hini h hA, ?_⟩
  obtain ⟨c, k, i, f, a, cell, h1, h2, h3, h4, h5, h6, h7, h8, h9⟩ := Cond.laysStatic_spec hl
  exact ⟨c, k, i, f, a, cell, h1, h2, h3, h4, h5, h6, h7, h8, h9, hA a (Array.getElem?_eq_some_iff.mp h5).1⟩
theorem vx_isRef {C n d : String} {v : Value} {A : Nat → Prop} {s : State} {args : Array Value} (h : va_Z C n d v A s s.heap) (hv : v.isRef = true) : (Cond.isRef (.static C n d)).before args s = true := by
  obtain ⟨cf, kf, fi, f, a, cell, h1, h2, h3, h4, h5, h6, h7, -⟩ := h
  have he : (Term.static C n d).eval args s none [] s = some v := by
    simp [Term.eval, State.fieldNamed?, h1, h2, h4, h5, h6, h7]
  simp only [Cond.before, Cond.holds, Cond.value, he]
  cases v <;> simp_all [Value.isRef]
theorem vx_isRefq {C n d : String} {A : Nat → Prop} {s : State} {args : Array Value} (h : va_Zq C n d A s s.heap) : (Cond.isRef (.static C n d)).before args s = true := by
  rcases h with h | ⟨t, h⟩
  · exact vx_isRef h rfl
  · exact vx_isRef h rfl
/-- the same frame, seen from here: as if the method were called anew in this heap -/
theorem vx_rebase {T : State} (X : Stand p l e R s m args below meth c T locs cells slots) {R' : Room} (hf : R'.frames ≤ R.frames) (hl : R'.locals ≤ R.locals) (hc : cells + R'.cells ≤ R.cells) (hs : slots + R'.slots ≤ R.slots) :
    Stand p l e R' ((T.setVm s.vm).setFrames (.invoking m args :: below)) m args below meth c T [] 0 0 := by
  have htop : (T.setVm s.vm).topJava?.isSome := X.here.top
  have hF : ((T.setVm s.vm).setFrames (.invoking m args :: below)).frames = .invoking m args :: below := State.frames_setFrames _ (State.cur_lt_of_top htop)
  obtain ⟨g₀, hg0⟩ := Option.isSome_iff_exists.mp htop
  obtain ⟨r, hr⟩ := State.topJava?_eq_some.mp hg0
  have hl9 : e.platform.stackLimits (T.setVm s.vm).me = e.platform.stackLimits s.me := X.limits
  have hb9 : (T.setVm s.vm).me.stackBytes = s.me.stackBytes := X.bytes
  refine ⟨X.admits, X.cas, X.clock, hF, ?_, X.hears, X.method, X.code, X.here, X.tail, X.warmed, ?_, ?_, ?_⟩
  · have h := X.room
    have hU : ((T.setVm s.vm).setFrames (.invoking m args :: below)).localsInUse = s.localsInUse := by
      rw [State.localsInUse_invoking hF (meth := meth) (c := c) X.method X.code, State.localsInUse_invoking X.frames X.method X.code]
    simp only [State.hasRoom, Bool.and_eq_true, decide_eq_true_eq] at h ⊢
    obtain ⟨⟨⟨⟨h1, h2, h3, h4, h5, h6⟩, h7⟩, h8⟩, h9⟩ := h
    rw [X.frames, List.length_cons] at h2 h3
    have q1 := X.heapSize
    have q2 := X.used
    simp only [hF, hU, List.length_cons, State.stackLimits_setFrames, State.stackBytes_setFrames, hl9, hb9]
    refine ⟨⟨⟨⟨by omega, by omega, by omega, by omega, by omega, h6⟩, ?_⟩, ?_⟩, X.book⟩
    · show T.heap.size + R'.cells ≤ e.platform.maxCells
      omega
    · show T.slotsUsed + R'.slots ≤ e.platform.maxSlots
      omega
  · rw [State.stackLimits_setFrames]; rfl
  · rw [State.stackBytes_setFrames]; rfl
  · refine ⟨?_, Nat.le_refl _, Nat.le_refl _, ?_, ?_, fun a c9 h9 => ⟨c9, h9, rfl, rfl, fun _ _ => rfl⟩⟩
    · obtain ⟨t, ht, -⟩ := State.frames_cons hr
      show T.setVm s.vm = { ((T.setVm s.vm).setFrames (.invoking m args :: below)).setFrames (T.setVm s.vm).frames with heap := T.heap, slotsUsed := T.slotsUsed }
      rw [State.setFrames_setFrames, State.setFrames_self ht]
      rfl
    · show T.slotsUsed = T.slotsUsed + ((T.heap.toList.drop T.heap.size).map (·.slots.size)).sum
      rw [List.drop_eq_nil_of_le (Nat.le_of_eq Array.length_toList)]
      rfl
    · show ((T.heap.toList.drop T.heap.size).map (·.slots.size)).sum ≤ 0
      rw [List.drop_eq_nil_of_le (Nat.le_of_eq Array.length_toList)]
      exact Nat.le_refl _
/-- 'throw new E()': new; dup; invokespecial; athrow -/
theorem vx_throw0 {cc : ByteArray} {pc : Nat} (hexec : p.tables.exec = Jvm.exec) (hb : c.code = cc) (hl : l.stackTraces = false) {own cls : String} {names : List String} {ik ic mc ms : Nat} {A : Nat → Prop}
    (hown : s.vm.findClass own = some m.cls) (hcls : Bundle.fit cls = true) (hnames : ∀ n ∈ names, Bundle.fit n = true)
    (hk : (Cond.classLink own ik cls).before args s = true) (hini : (Cond.initialized cls).before args s = true) (hat : ∀ w ∈ vx_at0 own ic cls names, w.before args s = true)
    (hgood : ∀ w ∈ Cond.classLink own ik cls :: Cond.initialized cls :: vx_at0 own ic cls names, vx_ot w = true)
    (hU : vx_Zq Bundle.tN "UNASSIGNED_STACK" Bundle.steD A s s.heap) (hN : vx_Zq Bundle.tN "SUPPRESSED_SENTINEL" Bundle.listD A s s.heap) (hS : va_S A s.heap H locs) (hsize : ls.size = c.maxLocals)
    (d0 : decode cc pc = .ok (.new ik, 3)) (d3 : decode cc (pc + 3) = .ok (.dup, 1)) (d4 : decode cc (pc + 4) = .ok (.invokespecial ic, 3)) (d7 : decode cc (pc + 7) = .ok (.athrow, 1))
    (hout : ∀ x ∈ c.exceptionTable.toList, covers x (pc + 7) = false)
    (hRframes : names.length + 3 < R.frames) (hRlocals : (rest.map fun v => v.category).sum + (13 * (names.length + 1) + 42) ≤ R.locals) (hRcells : cells + 1 ≤ R.cells) (hRslots : slots + 6 ≤ R.slots) (hlocks : meth.locks = false)
    (hx : ∀ t : State, s.vm.Alike t.vm → H.size ≤ t.heap.size → (∀ q : Nat, q < H.size → t.heap[q]? = H[q]?) → XC cls s t)
    (hf : ∀ z ∈ locs, free z.base) (hc : cells + 1 ≤ mc) (hs : slots + 6 ≤ ms) :
    W p l e R s m args below meth c H locs cells slots (vx_MQ below Qc XC args s mc ms free) (F0 m pc ls rest) := by
  intro T hT X
  have htr : e.platform.stackTraces = false := (show e.platform.stackTraces = l.stackTraces by rw [X.admits.platform]).trans hl
  have Y := vx_rebase X (R' := { frames := R.frames, locals := R.locals, cells := 1, slots := 6 }) (Nat.le_refl _) (Nat.le_refl _) hRcells hRslots
  obtain ⟨s', hA⟩ : ∃ z, z = (T.setVm s.vm).setFrames (.invoking m args :: below) := ⟨_, rfl⟩
  rw [← hA] at Y
  have hvm : s'.vm = s.vm := by rw [hA]; rfl
  have hhp : s'.heap = H := by rw [hA]; exact hT
  have hW0 : s.WarmedH s'.vm := by rw [hvm]; exact State.WarmedH.refl s
  have hat' : ∀ w ∈ vx_at0 own ic cls names, w.before args s' = true := fun w hw => vx_ot_at hW0 hvm.symm (hgood w (List.mem_cons_of_mem _ (List.mem_cons_of_mem _ hw))) (hat w hw)
  have hk' : (Cond.classLink own ik cls).before args s' = true := vx_ot_at hW0 hvm.symm (hgood _ List.mem_cons_self) hk
  have hini' : (Cond.initialized cls).before args s' = true := vx_ot_at hW0 hvm.symm (hgood _ (List.mem_cons_of_mem _ List.mem_cons_self)) hini
  have hU' : vx_Zq Bundle.tN "UNASSIGNED_STACK" Bundle.steD A s' s'.heap := by rw [hhp]; exact vx_Zq.moved hW0.alike (hU.kept hS.2.1)
  have hN' : vx_Zq Bundle.tN "SUPPRESSED_SENTINEL" Bundle.listD A s' s'.heap := by rw [hhp]; exact vx_Zq.moved hW0.alike (hN.kept hS.2.1)
  have h : ∀ w ∈ Bundle.ownAtoms0 own ic cls names, w.before args s' = true := vx_own hat' (vx_isRefq hU'.1) (vx_isRefq hN'.1) hU'.2.word hN'.2.word
  have hown' : s'.vm.findClass own = some m.cls := by rw [hvm]; exact hown
  have hins : (Cond.instantiable cls 6).before args s' = true := h _ (by simp [Bundle.ownAtoms0])
  obtain ⟨vm₁, cX, kX, hfX, hkX, -, -, X₁, st1⟩ := Y.newCold hexec (own := own) (C := cls) (index := ik) (n := 6) hown' hk' hins hini'
    (g := F0 m pc ls rest) rfl (by rw [hb]; exact d0) (Nat.le_refl _) (Nat.le_refl _)
  generalize hT1 : (T.setVm vm₁).pushCell { cls := cX, slots := kX.instanceTypes.map defaultValue, vm := .none } = T1 at X₁ st1
  have hcat : (Value.ref T.heap.size).category = 1 := rfl
  have hcellA : T1.heap[T.heap.size]? = some (freshCell cX kX) := by rw [← hT1]; exact State.heap_pushCell_size _ _
  have d3' : decode c.code (pc + 3) = .ok (.dup, 1) := by rw [hb]; exact d3
  obtain ⟨U, hsteps, hrun, hend, hW, hsame, ce, hce, hO⟩ := X₁.ctorThrow0 hexec htr (own := own) (cls := cls) (names := names) (ic := ic) hown' hcls hnames h (fun x hx => nomatch hx) hfX hkX hcellA (by rw [hhp, hT]; exact Nat.le_refl _)
    (g := { method := m, pc := pc + 4, locals := ls, stack := .ref T.heap.size :: .ref T.heap.size :: rest, locked := none }) rfl hsize rfl rfl (rest := rest) rfl
    (by rw [hb]; exact d4) (by rw [hb]; exact d7) hout hRframes (by simp only [List.map_cons, List.sum_cons, hcat]; omega) hlocks
  obtain ⟨f1, f2⟩ := vx_frame hsame
  rw [hhp] at f1 f2
  have hWs : s.WarmedH U.vm := State.WarmedH.trans hW0 hW
  have hcl : s.vm.findClass cls = some ce.cls := by
    have h9 := hO.cls
    rw [hvm] at h9
    exact h9
  have hall : s.sameButNew ({ U with vm := s.vm } : State) locs mc ms := by
    subst hA
    obtain ⟨e1, e2⟩ := hsame
    rw [State.setFrames_setFrames] at e1
    have h2 : (T.setVm s.vm).sameButNew ({ U with vm := s.vm } : State) [] (0 + 1) (0 + 6) := ⟨e1, e2⟩
    have h3 := X.same.trans h2
    rw [List.append_nil] at h3
    exact h3.mono hc hs
  refine ⟨U, ?_, .threw T.heap.size, hrun, hend, Or.inr ⟨T.heap.size, rfl, cls, ce, locs, hx U hWs.alike f1 (fun q hq => f2 q hq (fun z hz => nomatch hz)), hce, hO.vm, hcl, hWs, hall, hf⟩⟩
  refine st1 _ ?_
  show Steps p.tables e below (T1.setTop { method := m, pc := pc + 3, locals := ls, stack := .ref T.heap.size :: rest, locked := none }) _
  jvm_step X₁.here [X₁.here.top, hexec, d3', Value.category]
  exact hsteps
/-- 'throw new E("text")': new; dup; ldc; invokespecial; athrow -/
theorem vx_throwS {cc : ByteArray} {pc : Nat} (hexec : p.tables.exec = Jvm.exec) (hb : c.code = cc) (hl : l.stackTraces = false) {own cls text : String} {names : List String} {ik is ic mc ms sa : Nat} {A : Nat → Prop}
    (hown : s.vm.findClass own = some m.cls) (hcls : Bundle.fit cls = true) (hnames : ∀ n ∈ names, Bundle.fit n = true)
    (hk : (Cond.classLink own ik cls).before args s = true) (hini : (Cond.initialized cls).before args s = true) (hstr : vk_R own is text sa s) (hat : ∀ w ∈ vx_atS own ic cls names, w.before args s = true)
    (hgood : ∀ w ∈ Cond.classLink own ik cls :: Cond.initialized cls :: vx_atS own ic cls names, vx_ot w = true)
    (hU : vx_Zq Bundle.tN "UNASSIGNED_STACK" Bundle.steD A s s.heap) (hN : vx_Zq Bundle.tN "SUPPRESSED_SENTINEL" Bundle.listD A s s.heap) (hS : va_S A s.heap H locs) (hsize : ls.size = c.maxLocals)
    (d0 : decode cc pc = .ok (.new ik, 3)) (d3 : decode cc (pc + 3) = .ok (.dup, 1)) (d4 : decode cc (pc + 4) = .ok (.ldc is, 2)) (d6 : decode cc (pc + 6) = .ok (.invokespecial ic, 3)) (d9 : decode cc (pc + 9) = .ok (.athrow, 1))
    (hout : ∀ x ∈ c.exceptionTable.toList, covers x (pc + 9) = false)
    (hRframes : names.length + 3 < R.frames) (hRlocals : (rest.map fun v => v.category).sum + (13 * (names.length + 1) + 43) ≤ R.locals) (hRcells : cells + 1 ≤ R.cells) (hRslots : slots + 6 ≤ R.slots) (hlocks : meth.locks = false)
    (hx : ∀ t : State, s.vm.Alike t.vm → H.size ≤ t.heap.size → (∀ q : Nat, q < H.size → t.heap[q]? = H[q]?) → XC cls s t)
    (hf : ∀ z ∈ locs, free z.base) (hc : cells + 1 ≤ mc) (hs : slots + 6 ≤ ms) :
    W p l e R s m args below meth c H locs cells slots (vx_MQ below Qc XC args s mc ms free) (F0 m pc ls rest) := by
  intro T hT X
  have htr : e.platform.stackTraces = false := (show e.platform.stackTraces = l.stackTraces by rw [X.admits.platform]).trans hl
  have Y := vx_rebase X (R' := { frames := R.frames, locals := R.locals, cells := 1, slots := 6 }) (Nat.le_refl _) (Nat.le_refl _) hRcells hRslots
  obtain ⟨s', hA⟩ : ∃ z, z = (T.setVm s.vm).setFrames (.invoking m args :: below) := ⟨_, rfl⟩
  rw [← hA] at Y
  have hvm : s'.vm = s.vm := by rw [hA]; rfl
  have hhp : s'.heap = H := by rw [hA]; exact hT
  have hW0 : s.WarmedH s'.vm := by rw [hvm]; exact State.WarmedH.refl s
  have hat' : ∀ w ∈ vx_atS own ic cls names, w.before args s' = true := fun w hw => vx_ot_at hW0 hvm.symm (hgood w (List.mem_cons_of_mem _ (List.mem_cons_of_mem _ hw))) (hat w hw)
  have hk' : (Cond.classLink own ik cls).before args s' = true := vx_ot_at hW0 hvm.symm (hgood _ List.mem_cons_self) hk
  have hini' : (Cond.initialized cls).before args s' = true := vx_ot_at hW0 hvm.symm (hgood _ (List.mem_cons_of_mem _ List.mem_cons_self)) hini
  have hU' : vx_Zq Bundle.tN "UNASSIGNED_STACK" Bundle.steD A s' s'.heap := by rw [hhp]; exact vx_Zq.moved hW0.alike (hU.kept hS.2.1)
  have hN' : vx_Zq Bundle.tN "SUPPRESSED_SENTINEL" Bundle.listD A s' s'.heap := by rw [hhp]; exact vx_Zq.moved hW0.alike (hN.kept hS.2.1)
  have h : ∀ w ∈ Bundle.ownAtoms own ic cls names, w.before args s' = true := vx_own hat' (vx_isRefq hU'.1) (vx_isRefq hN'.1) hU'.2.word hN'.2.word
  have hown' : s'.vm.findClass own = some m.cls := by rw [hvm]; exact hown
  have hins : (Cond.instantiable cls 6).before args s' = true := h _ (by simp [Bundle.ownAtoms])
  obtain ⟨vm₁, cX, kX, hfX, hkX, -, -, X₁, st1⟩ := Y.newCold hexec (own := own) (C := cls) (index := ik) (n := 6) hown' hk' hins hini'
    (g := F0 m pc ls rest) rfl (by rw [hb]; exact d0) (Nat.le_refl _) (Nat.le_refl _)
  generalize hT1 : (T.setVm vm₁).pushCell { cls := cX, slots := kX.instanceTypes.map defaultValue, vm := .none } = T1 at X₁ st1
  have hcat : (Value.ref T.heap.size).category = 1 := rfl
  have hcellA : T1.heap[T.heap.size]? = some (freshCell cX kX) := by rw [← hT1]; exact State.heap_pushCell_size _ _
  have d3' : decode c.code (pc + 3) = .ok (.dup, 1) := by rw [hb]; exact d3
  have d4' : decode c.code (pc + 4) = .ok (.ldc is, 2) := by rw [hb]; exact d4
  have hstr' : vk_R own is text sa s' := vk_R.warm hW0 hstr
  obtain ⟨U, hsteps, hrun, hend, hW, hsame, ce, hce, hO⟩ := X₁.ctorThrowS hexec htr (own := own) (cls := cls) (names := names) (ic := ic) hown' hcls hnames h (fun x hx => nomatch hx) hfX hkX hcellA (by rw [hhp, hT]; exact Nat.le_refl _) (msg := .ref sa) rfl
    (g := { method := m, pc := pc + 6, locals := ls, stack := .ref sa :: .ref T.heap.size :: .ref T.heap.size :: rest, locked := none }) rfl hsize rfl rfl (rest := rest) rfl
    (by rw [hb]; exact d6) (by rw [hb]; exact d9) hout hRframes (by simp only [List.map_cons, List.sum_cons, hcat]; omega) hlocks
  obtain ⟨f1, f2⟩ := vx_frame hsame
  rw [hhp] at f1 f2
  have hWs : s.WarmedH U.vm := State.WarmedH.trans hW0 hW
  have hcl : s.vm.findClass cls = some ce.cls := by
    have h9 := hO.cls
    rw [hvm] at h9
    exact h9
  have hall : s.sameButNew ({ U with vm := s.vm } : State) locs mc ms := by
    subst hA
    obtain ⟨e1, e2⟩ := hsame
    rw [State.setFrames_setFrames] at e1
    have h2 : (T.setVm s.vm).sameButNew ({ U with vm := s.vm } : State) [] (0 + 1) (0 + 6) := ⟨e1, e2⟩
    have h3 := X.same.trans h2
    rw [List.append_nil] at h3
    exact h3.mono hc hs
  refine ⟨U, ?_, .threw T.heap.size, hrun, hend, Or.inr ⟨T.heap.size, rfl, cls, ce, locs, hx U hWs.alike f1 (fun q hq => f2 q hq (fun z hz => nomatch hz)), hce, hO.vm, hcl, hWs, hall, hf⟩⟩
  refine st1 _ ?_
  show Steps p.tables e below (T1.setTop { method := m, pc := pc + 3, locals := ls, stack := .ref T.heap.size :: rest, locked := none }) _
  jvm_step X₁.here [X₁.here.top, hexec, d3', Value.category]
  exact X₁.ldcString hexec (own := own) (text := text) (index := is) (a := sa) hown' hstr'.1 hstr'.2
    (g := { method := m, pc := pc + 4, locals := ls, stack := .ref T.heap.size :: .ref T.heap.size :: rest, locked := none }) rfl d4' _ hsteps
/-- 'throw new E("text")', the text by a wide index -/
theorem vx_throwSW {cc : ByteArray} {pc : Nat} (hexec : p.tables.exec = Jvm.exec) (hb : c.code = cc) (hl : l.stackTraces = false) {own cls text : String} {names : List String} {ik is ic mc ms sa : Nat} {A : Nat → Prop}
    (hown : s.vm.findClass own = some m.cls) (hcls : Bundle.fit cls = true) (hnames : ∀ n ∈ names, Bundle.fit n = true)
    (hk : (Cond.classLink own ik cls).before args s = true) (hini : (Cond.initialized cls).before args s = true) (hstr : vk_R own is text sa s) (hat : ∀ w ∈ vx_atS own ic cls names, w.before args s = true)
    (hgood : ∀ w ∈ Cond.classLink own ik cls :: Cond.initialized cls :: vx_atS own ic cls names, vx_ot w = true)
    (hU : vx_Zq Bundle.tN "UNASSIGNED_STACK" Bundle.steD A s s.heap) (hN : vx_Zq Bundle.tN "SUPPRESSED_SENTINEL" Bundle.listD A s s.heap) (hS : va_S A s.heap H locs) (hsize : ls.size = c.maxLocals)
    (d0 : decode cc pc = .ok (.new ik, 3)) (d3 : decode cc (pc + 3) = .ok (.dup, 1)) (d4 : decode cc (pc + 4) = .ok (.ldc_w is, 3)) (d7 : decode cc (pc + 7) = .ok (.invokespecial ic, 3)) (d10 : decode cc (pc + 10) = .ok (.athrow, 1))
    (hout : ∀ x ∈ c.exceptionTable.toList, covers x (pc + 10) = false)
    (hRframes : names.length + 3 < R.frames) (hRlocals : (rest.map fun v => v.category).sum + (13 * (names.length + 1) + 43) ≤ R.locals) (hRcells : cells + 1 ≤ R.cells) (hRslots : slots + 6 ≤ R.slots) (hlocks : meth.locks = false)
    (hx : ∀ t : State, s.vm.Alike t.vm → H.size ≤ t.heap.size → (∀ q : Nat, q < H.size → t.heap[q]? = H[q]?) → XC cls s t)
    (hf : ∀ z ∈ locs, free z.base) (hc : cells + 1 ≤ mc) (hs : slots + 6 ≤ ms) :
    W p l e R s m args below meth c H locs cells slots (vx_MQ below Qc XC args s mc ms free) (F0 m pc ls rest) := by
  intro T hT X
  have htr : e.platform.stackTraces = false := (show e.platform.stackTraces = l.stackTraces by rw [X.admits.platform]).trans hl
  have Y := vx_rebase X (R' := { frames := R.frames, locals := R.locals, cells := 1, slots := 6 }) (Nat.le_refl _) (Nat.le_refl _) hRcells hRslots
  obtain ⟨s', hA⟩ : ∃ z, z = (T.setVm s.vm).setFrames (.invoking m args :: below) := ⟨_, rfl⟩
  rw [← hA] at Y
  have hvm : s'.vm = s.vm := by rw [hA]; rfl
  have hhp : s'.heap = H := by rw [hA]; exact hT
  have hW0 : s.WarmedH s'.vm := by rw [hvm]; exact State.WarmedH.refl s
  have hat' : ∀ w ∈ vx_atS own ic cls names, w.before args s' = true := fun w hw => vx_ot_at hW0 hvm.symm (hgood w (List.mem_cons_of_mem _ (List.mem_cons_of_mem _ hw))) (hat w hw)
  have hk' : (Cond.classLink own ik cls).before args s' = true := vx_ot_at hW0 hvm.symm (hgood _ List.mem_cons_self) hk
  have hini' : (Cond.initialized cls).before args s' = true := vx_ot_at hW0 hvm.symm (hgood _ (List.mem_cons_of_mem _ List.mem_cons_self)) hini
  have hU' : vx_Zq Bundle.tN "UNASSIGNED_STACK" Bundle.steD A s' s'.heap := by rw [hhp]; exact vx_Zq.moved hW0.alike (hU.kept hS.2.1)
  have hN' : vx_Zq Bundle.tN "SUPPRESSED_SENTINEL" Bundle.listD A s' s'.heap := by rw [hhp]; exact vx_Zq.moved hW0.alike (hN.kept hS.2.1)
  have h : ∀ w ∈ Bundle.ownAtoms own ic cls names, w.before args s' = true := vx_own hat' (vx_isRefq hU'.1) (vx_isRefq hN'.1) hU'.2.word hN'.2.word
  have hown' : s'.vm.findClass own = some m.cls := by rw [hvm]; exact hown
  have hins : (Cond.instantiable cls 6).before args s' = true := h _ (by simp [Bundle.ownAtoms])
  obtain ⟨vm₁, cX, kX, hfX, hkX, -, -, X₁, st1⟩ := Y.newCold hexec (own := own) (C := cls) (index := ik) (n := 6) hown' hk' hins hini'
    (g := F0 m pc ls rest) rfl (by rw [hb]; exact d0) (Nat.le_refl _) (Nat.le_refl _)
  generalize hT1 : (T.setVm vm₁).pushCell { cls := cX, slots := kX.instanceTypes.map defaultValue, vm := .none } = T1 at X₁ st1
  have hcat : (Value.ref T.heap.size).category = 1 := rfl
  have hcellA : T1.heap[T.heap.size]? = some (freshCell cX kX) := by rw [← hT1]; exact State.heap_pushCell_size _ _
  have d3' : decode c.code (pc + 3) = .ok (.dup, 1) := by rw [hb]; exact d3
  have d4' : decode c.code (pc + 4) = .ok (.ldc_w is, 3) := by rw [hb]; exact d4
  have hstr' : vk_R own is text sa s' := vk_R.warm hW0 hstr
  obtain ⟨U, hsteps, hrun, hend, hW, hsame, ce, hce, hO⟩ := X₁.ctorThrowS hexec htr (own := own) (cls := cls) (names := names) (ic := ic) hown' hcls hnames h (fun x hx => nomatch hx) hfX hkX hcellA (by rw [hhp, hT]; exact Nat.le_refl _) (msg := .ref sa) rfl
    (g := { method := m, pc := pc + 7, locals := ls, stack := .ref sa :: .ref T.heap.size :: .ref T.heap.size :: rest, locked := none }) rfl hsize rfl rfl (rest := rest) rfl
    (by rw [hb]; exact d7) (by rw [hb]; exact d10) hout hRframes (by simp only [List.map_cons, List.sum_cons, hcat]; omega) hlocks
  obtain ⟨f1, f2⟩ := vx_frame hsame
  rw [hhp] at f1 f2
  have hWs : s.WarmedH U.vm := State.WarmedH.trans hW0 hW
  have hcl : s.vm.findClass cls = some ce.cls := by
    have h9 := hO.cls
    rw [hvm] at h9
    exact h9
  have hall : s.sameButNew ({ U with vm := s.vm } : State) locs mc ms := by
    subst hA
    obtain ⟨e1, e2⟩ := hsame
    rw [State.setFrames_setFrames] at e1
    have h2 : (T.setVm s.vm).sameButNew ({ U with vm := s.vm } : State) [] (0 + 1) (0 + 6) := ⟨e1, e2⟩
    have h3 := X.same.trans h2
    rw [List.append_nil] at h3
    exact h3.mono hc hs
  refine ⟨U, ?_, .threw T.heap.size, hrun, hend, Or.inr ⟨T.heap.size, rfl, cls, ce, locs, hx U hWs.alike f1 (fun q hq => f2 q hq (fun z hz => nomatch hz)), hce, hO.vm, hcl, hWs, hall, hf⟩⟩
  refine st1 _ ?_
  show Steps p.tables e below (T1.setTop { method := m, pc := pc + 3, locals := ls, stack := .ref T.heap.size :: rest, locked := none }) _
  jvm_step X₁.here [X₁.here.top, hexec, d3', Value.category]
  exact X₁.ldcStringW hexec (own := own) (text := text) (index := is) (a := sa) hown' hstr'.1 hstr'.2
    (g := { method := m, pc := pc + 4, locals := ls, stack := .ref T.heap.size :: .ref T.heap.size :: rest, locked := none }) rfl d4' _ hsteps
end Ends
section Bodies
variable {l : Launch}
theorem vx_ofW {y : MethodName} {ws ws' : List Cond} {rm : Room} {Pc : Array Value → State → Prop} {Qc : Array Value → State → Outcome → State → Prop} {XC : String → State → State → Prop} {mc ms : Nat} {free : Addr → Prop} {cc : ByteArray} {maxL : Nat} {ret : Option FieldType}
    (hy : plainName y.cls = true) (hw : ws = Cond.code y cc maxL ret :: ws')
    (body : ∀ p e s m args below meth c s₁, BodyLoose p l y (headSpec ws rm) cc maxL ret e s m args below meth c s₁ → c.maxLocals = maxL → (∀ x ∈ c.exceptionTable.toList, False) → Pc args s →
      W p l e (headSpec ws rm).room s m args below meth c s.heap [] 0 0 (vx_MQ below Qc XC args s mc ms free) (entryFrame m args maxL)) : vx_Met l y ws rm Pc Qc XC mc ms free := by
  refine MetFree.of_bodyS (code := cc) (maxLocals := maxL) (ret := ret) hy ?_ ?_
  · intro args s m h hn
    obtain ⟨meth, c, h1, h2, h3, h4, h5, h6, -, -⟩ := Cond.code_spec hn (atoms_spec (ws := ws) h _ (by rw [hw]; exact List.mem_cons_self))
    exact ⟨meth, c, h1, h2, h3, h4, h5, h6⟩
  · intro p e s m args below meth c s₁ B hml hP _
    have hh0 : s₁.heap = s.heap := by rw [B.state]; rfl
    have ht : ∀ x ∈ c.exceptionTable.toList, False := by
      obtain ⟨meth9, c9, h1, h2, -, -, -, -, h7, -⟩ := Cond.code_spec B.named (atoms_spec (ws := ws) B.pre _ (by rw [hw]; exact List.mem_cons_self))
      cases Option.some.inj (h1.symm.trans B.method)
      cases Option.some.inj (h2.symm.trans (Stand.of_body B).code)
      intro x hx
      rw [Array.isEmpty_iff.mp h7] at hx
      cases hx
    obtain ⟨t, a1, o, b1, b2, b3⟩ := body p e s m args below meth c s₁ B hml ht hP s₁ hh0 (Stand.of_body B)
    exact ⟨t, o, a1, b1, b2, b3⟩
/-- the table of a body with handlers -/
theorem vx_table {p : Program} {x y : MethodName} {S : Spec} {cc bytes : ByteArray} {maxL maxL' : Nat} {ret ret' : Option FieldType} {e : Env} {s s₁ : State} {m : MethodId} {args : Array Value} {below : List Frame} {meth : Method} {c : Code} {hh : List (Nat × Nat × Nat × Nat)}
    (B : BodyLoose p l y S cc maxL ret e s m args below meth c s₁) (h : (Cond.codeWith y bytes maxL' ret' hh).before args s = true) : c.exceptionTable.toList = tableOf hh := by
  obtain ⟨m9, meth9, c9, hn9, h1, h2, -, -, h6, -⟩ := Cond.codeWith_spec h
  cases Option.some.inj (hn9.symm.trans B.named)
  cases Option.some.inj (h1.symm.trans B.method)
  cases Option.some.inj (h2.symm.trans (Stand.of_body B).code)
  rw [← h6, table_eq]
end Bodies
end VXA
/-! ===== END ===== -/
/-! ===== BEGIN a static call of a method with an exception table ===== -/
section VXS
variable {p : Program} {l : Launch} {e : Env} {R : Room} {s : State} {m : MethodId} {args : Array Value} {below : List Frame} {meth : Method} {c : Code} {T : State} {H : Heap} {locs : List Loc} {cells slots : Nat}
abbrev vx_CSW (R : Room) (s : State) (args : Array Value) (own : String) (index : Nat) (y : MethodName) (bytes : ByteArray) (maxL : Nat) (ret : Option FieldType) (hh : List (Nat × Nat × Nat × Nat)) (ws : List Cond) (rm : Room) (mc ms n : Nat) : Prop :=
  (rm.cells = mc ∧ rm.slots = ms ∧ rm.frames + 1 ≤ R.frames ∧ 8 + (maxL + 11) + rm.locals ≤ R.locals ∧ (∀ w ∈ ws, ∀ (a' : Array Value) (U : State), s.WarmedH U.vm → w.before a' U = true) ∧ Cond.codeWith y bytes maxL ret hh ∈ ws) ∧
  (Cond.codeWith y bytes maxL ret hh).before args s = true ∧ (Cond.initialized y.cls).before args s = true ∧ (y.cls ≠ "java/lang/invoke/MethodHandle" ∧ y.cls ≠ "java/lang/invoke/VarHandle") ∧
  (∀ sig, parseMethodDescriptor y.desc = some sig → n = sig.parameters.length) ∧ (Cond.methodLink own index y).before args s = true ∧ (Cond.static y).before args s = true
theorem vx_cwSW {own : String} {index maxL mc ms : Nat} {y : MethodName} {bytes : ByteArray} {ret : Option FieldType} {hh : List (Nat × Nat × Nat × Nat)} {Ts ws ws' : List Cond} {rm : Room} (n : Nat) (ht : ∀ w ∈ Ts, w.before args s = true) (hT : GoodIn Ts (va_wsS own index y ws)) (hw : ws = Cond.codeWith y bytes maxL ret hh :: ws') (hrc : rm.cells = mc) (hrs : rm.slots = ms)
    (hd : y.cls ≠ "java/lang/invoke/MethodHandle" ∧ y.cls ≠ "java/lang/invoke/VarHandle" ∧ (parseMethodDescriptor y.desc).map (fun d => d.parameters.length) = some n) (hR : rm.frames + 1 ≤ R.frames ∧ 8 + (maxL + 11) + rm.locals ≤ R.locals) :
    vx_CSW R s args own index y bytes maxL ret hh ws rm mc ms n := by
  have ok : ∀ w ∈ va_wsS own index y ws, w.before args s = true := fun w h => ht w (hT w h).1
  have hG : GoodIn Ts ws := fun w h => hT w (by unfold va_wsS; exact List.mem_append_right _ h)
  have hc : Cond.codeWith y bytes maxL ret hh ∈ ws := by rw [hw]; exact List.mem_cons_self
  refine ⟨⟨hrc, hrs, hR.1, hR.2, pay_in ht hG, hc⟩, ht _ (hG _ hc).1, ok _ (by simp [va_wsS]), ⟨hd.1, hd.2.1⟩, fun sig h => ?_, ok _ (by simp [va_wsS]), ok _ (by simp [va_wsS])⟩
  have h2 := hd.2.2
  rw [h] at h2
  exact (Option.some.inj h2).symm
theorem vx_callSW (X : Stand p l e R s m args below meth c T locs cells slots) (hexec : p.tables.exec = Jvm.exec) {own : String} {index : Nat} {y : MethodName} {bytes : ByteArray} {maxL : Nat} {ret : Option FieldType} {hh : List (Nat × Nat × Nat × Nat)}
    (hown : s.vm.findClass own = some m.cls) (hlink : (Cond.methodLink own index y).before args s = true) (hstat : (Cond.static y).before args s = true) (hinit : (Cond.initialized y.cls).before args s = true)
    (hcode : (Cond.codeWith y bytes maxL ret hh).before args s = true) (hy : y.cls ≠ "java/lang/invoke/MethodHandle" ∧ y.cls ≠ "java/lang/invoke/VarHandle")
    {W9 : Nat} {Pre : Pt → Array Value → Prop} {Post : Pt → Array Value → Option Value → Pt → Prop} (hK : Back l R p e below s args y 3 W9 Pre Post)
    {g : JFrame} (hg : g.method = m) (hsize : g.locals.size = c.maxLocals) {argsL rest : List Value} (hlen : ∀ sig, parseMethodDescriptor y.desc = some sig → argsL.length = sig.parameters.length)
    (hstack : g.stack = argsL.reverse ++ rest) (hW : 2 * g.monitorRoom + (rest.map fun v => v.category).sum ≤ W9) (hdg : decode c.code g.pc = .ok (.invokestatic index, 3))
    (hpre : ∀ vm₁, s.WarmedH vm₁ → Pre ⟨T.setVm vm₁, locs, cells, slots⟩ argsL.toArray) :
    ∃ (v : Option Value) (vm₁ : Vm) (B : Pt), s.WarmedH vm₁ ∧ Stand p l e R s m args below meth c B.U B.locs B.cells B.slots ∧ Post ⟨T.setVm vm₁, locs, cells, slots⟩ argsL.toArray v B ∧
      ∀ target, Steps p.tables e below (B.U.setTop { g with pc := g.pc + 3, stack := v.toList ++ rest }) target → Steps p.tables e below (T.setTop g) target := by
  obtain ⟨mk, methM, cM, hnamed, hmethM, -, -, -, -, -, -, hsigM⟩ := Cond.codeWith_spec hcode
  have hstatic : methM.isStatic = true := Cond.static_spec hnamed hmethM hstat
  obtain ⟨kP, hkP, -⟩ := className_of_methodNamed hnamed
  have hinitP : kP.init = .initialized := Cond.initialized_spec (findClass_of_methodNamed hnamed) hkP hinit
  obtain ⟨vm₁, X₁, hstep₁⟩ := X.invokestatic hexec hown hlink hnamed hmethM hstatic hkP hinitP hy (g := g) hg (argsL := argsL) (rest := rest) (hlen _ hsigM) hstack hdg
  obtain ⟨v, B, X', hpost, hsteps⟩ := hK m meth c ⟨T.setVm vm₁, locs, cells, slots⟩ { g with stack := rest } (.invokestatic index) mk argsL.toArray X₁ hg hsize hdg hW (X₁.named hnamed) (hpre vm₁ X₁.warmed)
  exact ⟨v, vm₁, B, X₁.warmed, X', hpost, fun target h => hstep₁ _ fun acts => by rw [doInvoke_state]; exact hsteps.trans h⟩
theorem vx_runSW {y : MethodName} {bytes cc : ByteArray} {maxL nL mc ms n index : Nat} {ret : Option FieldType} {hh : List (Nat × Nat × Nat × Nat)} {ws : List Cond} {rm : Room} {Pc : Array Value → State → Prop} {Qc : Array Value → State → Outcome → State → Prop} {free : Addr → Prop} {Ts : List Cond} {own : String} {As rest : List Value} {g : JFrame}
    (S : CallFix p m c cc nL s args Ts own) (hM : Met l y ws rm Pc Qc mc ms free) (cw : vx_CSW R s args own index y bytes maxL ret hh ws rm mc ms n) (hp : PreS s H Pc As)
    (hg : g.method = m) (hn : As.length = n) (hsize : g.locals.size = nL) (hstack : g.stack = As.reverse ++ rest) (hW : 2 * g.monitorRoom + (rest.map fun v => v.category).sum ≤ 8) (hdg : decode cc g.pc = .ok (.invokestatic index, 3)) (hf : cells + mc ≤ R.cells ∧ slots + ms ≤ R.slots) :
    va_Run p l e R s m args below meth c H locs cells slots mc ms g rest (Qc As.toArray) (free) := by
  obtain ⟨⟨hrc, hrs, hfr, hlo, hws, hcw⟩, hcode, hini, hy, hlen, hl, hstt⟩ := cw
  have hK : Back l R p e below s args y 3 8 (PreOf R mc ms Pc) (PostOf Qc mc ms free) := va_backW (hh := hh) (bytes := bytes) (maxL := maxL) (ret := ret) hM hp.1 hrc hrs hfr hlo hws hcw (fun a' U hW => word_at hW (Or.inl (by first | rfl | simp [Cond.onTables, Cond.keeps, Cond.steady])) hini)
  obtain ⟨hx, hb, hml, ho, -⟩ := S
  intro T hT X
  obtain ⟨v, vm₁, ⟨U', l2, c2, s2⟩, hW₁, X', ⟨g', mk, t, L, e1, e2, hq, h1, hL, h2, h3⟩, st⟩ := vx_callSW X hx (hh := hh) (bytes := bytes) (maxL := maxL) (ret := ret) ho hl hstt hini hcode hy hK hg (hsize.trans hml.symm) (argsL := As) (rest := rest) (fun sig h => hn.trans (hlen sig h)) hstack hW (by rw [hb]; exact hdg)
    (fun vm₁ hW₁ => ⟨hf.1, hf.2, hp.2 (T.setVm vm₁) hT hW₁⟩)
  dsimp only [Pt.U, Pt.locs, Pt.cells, Pt.slots] at X' e1 e2 h1 h2 h3 st
  subst h1; subst h2; subst h3
  exact ⟨v, (T.setVm vm₁).calling g' mk As.toArray, t, U', L, hT, X', hL, e1, e2, hq, st⟩
/-- not caught here, past rows that name other classes: it goes on to the caller -/
theorem vx_outP {p : Program} {l : Launch} {e : Env} {R : Room} {s : State} {m : MethodId} {args : Array Value} {below : List Frame} {meth : Method} {c : Code} {H : Heap} {locs : List Loc} {cells slots : Nat} {free : Addr → Prop} {ls : Array Slot} {rest : List Value} {Qc : Array Value → State → Outcome → State → Prop} {XC : String → State → State → Prop}
    {pc : Nat} {own E : String} {ce : Cell} {q : Addr} {mc ms : Nat} (hown : s.vm.findClass own = some m.cls) (hlocks : meth.locks = false)
    (hpass : ∀ z ∈ c.exceptionTable.toList, covers z pc = false ∨ (z.catchType ≠ 0 ∧ ∃ nm : String, (Cond.classLink own z.catchType nm).before args s = true ∧ va_Nc E nm s)) (hcell : H[q]? = some ce) (hv : ce.vm = .none) (hcl : s.vm.findClass E = some ce.cls)
    (hx : ∀ t : State, t.heap = H → s.vm.Alike t.vm → XC E s t) (hf : ∀ z ∈ locs, free z.base) (hc : cells ≤ mc) (hs : slots ≤ ms) :
    vx_W p l e R s m args below meth c H locs cells slots (vx_MQ below Qc XC args s mc ms free) (F0 m pc ls rest) q := by
  intro T hT X
  have hpl : e.platform.magicAccessors = ({} : Platform).magicAccessors := by rw [X.admits.platform]
  obtain ⟨vm', hW', X', st⟩ := X.outThrough hlocks q (g := F0 m pc ls rest) rfl rfl rfl (cell := ce) (by rw [hT]; exact hcell) (by rw [hv]; rfl)
    (by obtain ⟨k9, h9, -⟩ := Vm.findClass_spec hcl; exact ⟨k9, h9⟩) (fun z hz => by
      rcases hpass z hz with h | ⟨hz0, nm, hl1, hn1⟩
      · exact Or.inl h
      · obtain ⟨c6, hc6, hcl6⟩ := Cond.classLink_spec hown hl1 e.platform hpl
        obtain ⟨a8, b8, h1, h2, h3⟩ := hn1
        cases Option.some.inj (h1.symm.trans hcl)
        cases Option.some.inj (h2.symm.trans hc6)
        exact Or.inr ⟨hz0, _, hcl6, h3⟩)
  obtain ⟨g₀, hfr⟩ := X'.frames_eq
  have hcell9 : ((T.setVm vm').setFrames (.throwing q :: below)).heap[q]? = some ce := by
    show T.heap[q]? = some ce
    rw [hT]; exact hcell
  have hend : Ended ((T.setVm vm').setFrames (.throwing q :: below)) below (.threw q) := State.frames_setFrames _ (State.cur_lt_of_frames hfr)
  refine ⟨(T.setVm vm').setFrames (.throwing q :: below), ?_, .threw q, X'.here.running, hend, Or.inr ⟨q, rfl, E, ce, locs, hx _ hT (X'.ends _).1.alike, hcell9, hv, hcl, (X'.ends _).1, (X'.ends _).2.mono hc hs, hf⟩⟩
  rw [X.pushThrowing_eq]
  exact st
/-- a thing of a world lies in the heap -/
theorem vx_lt {D : va_G} {cl : List vw_C} {ws : va_W} {H1 : Heap} (h : va_P D cl ws H1) {k : Nat} {q : Nat × va_E} (hk : ws[k]? = some q) : q.1 < H1.size := (h k q hk).lt
end VXS
/-! ===== END ===== -/
/-! ===== BEGIN methods with a table of their own: called by a name, returning or throwing ===== -/
section VXH
/-! vx_backW, vx_callVX, vx_callSX, vx_callVW, vx_runVW, vx_runVX, vx_runSX, vx_ofWH follow the same proofs as their sisters above (Free/Laws.lean, Shelf42/LK1.lean); vx_outP calls Shelf42/NT130.lean (outThrough). -/
section
variable {l : Launch} {R : Room} {p : Program} {e : Env} {below : List Frame} {s : State} {sargs : Array Value} {y : MethodName} {len W9 : Nat}
theorem vx_backW {ws : List Cond} {rm : Room} {Pc : Array Value → State → Prop} {Qc : Array Value → State → Outcome → State → Prop} {XC : String → State → State → Prop} {mc ms : Nat} {free : Addr → Prop} {bytes : ByteArray} {maxL : Nat} {ret : Option FieldType} {hh : List (Nat × Nat × Nat × Nat)}
    (hM : vx_Met l y ws rm Pc Qc XC mc ms free) (hblind : FrameBlind Pc) (hrc : rm.cells = mc) (hrs : rm.slots = ms)
    (hframes : rm.frames + 1 ≤ R.frames) (hlocals : W9 + (maxL + 11) + rm.locals ≤ R.locals)
    (hws : ∀ w ∈ ws, ∀ a' U, s.WarmedH U.vm → w.before a' U = true) (hcode : Cond.codeWith y bytes maxL ret hh ∈ ws) (hinit : ∀ a' U, s.WarmedH U.vm → (Cond.initialized y.cls).before a' U = true) :
    vx_Back l R p e below s sargs y len W9 (PreOf R mc ms Pc) (PostOf Qc mc ms free) (vx_Post XC mc ms free) := by
  intro m meth c A g ig mk a X hg hsize hdg hW hn hp
  have h1 : (headSpec ws rm).pre.before a A.U = true := atoms_intro fun w hw => hws w hw _ _ X.warmed
  have h2 : (Cond.codeWith y bytes maxL ret hh).before a A.U = true := hws _ hcode _ _ X.warmed
  have h3 : (Cond.initialized y.cls).before a A.U = true := hinit _ _ X.warmed
  have h4 : A.cells + (headSpec ws rm).room.cells ≤ R.cells := by rw [show (headSpec ws rm).room.cells = mc from hrc]; exact hp.1
  have h5 : A.slots + (headSpec ws rm).room.slots ≤ R.slots := by rw [show (headSpec ws rm).room.slots = ms from hrs]; exact hp.2.1
  have hPc : Pc a (A.U.calling g mk a) := hblind _ _ _ _ hp.2.2
  obtain ⟨U, Ls, c0, s0⟩ := A
  dsimp only [Pt.U, Pt.locs, Pt.cells, Pt.slots] at h1 h2 h3 h4 h5 X hn hPc ⊢
  obtain ⟨m9, methY, cY, hn9, hmY, hcY, -, hlY, -⟩ := Cond.codeWith_spec h2
  cases Option.some.inj (hn9.symm.trans hn)
  obtain ⟨kY, hkY, -⟩ := className_of_methodNamed hn
  have hinitY : kY.init = .initialized := Cond.initialized_spec (findClass_of_methodNamed hn) hkY h3
  have h : At U g.method c below := by rw [hg]; exact X.here
  have hlocals9 : W9 + (maxL + 11) + (headSpec ws rm).room.locals ≤ R.locals := hlocals
  have happ : (headSpec ws rm).appliesLoose y e.platform (U.calling g mk a) = true :=
    Spec.appliesLoose_calling (g := g) h hdg hn hkY hinitY
      (X.room_calling (g := g) (R' := (headSpec ws rm).room) hsize hmY hcY hframes (by rw [hlY]; omega) h4 h5) h1
  obtain ⟨mid, hmid⟩ := h.above
  have hfr : (U.setTop g).frames = (.java g :: mid) ++ below := by rw [State.frames_setTop' g h.top, hmid]; rfl
  obtain ⟨o, s₂, hsteps, -, hend, hq⟩ := Steps.callFree hM p X.admits X.cas X.clock (acts := []) hfr happ hPc trivial
  have hq' : vx_Q Qc XC mc ms free a (U.calling g mk a) o s₂ := hq
  rw [State.frames_setTop' g h.top] at hend
  obtain ⟨g₀, hg0⟩ := Option.isSome_iff_exists.mp h.top
  obtain ⟨r, hr⟩ := State.topJava?_eq_some.mp hg0
  have hr' : (({ U with heap := s₂.heap, slotsUsed := s₂.slotsUsed } : State).setVm s₂.vm).frames = .java g₀ :: r := hr
  rcases hq' with ⟨hqc, L, hfe, hL⟩ | ⟨q, rfl, E, ce, L, hx, hce, hcv, hcl, hW₂, hsm, hL⟩
  · obtain ⟨⟨v, rfl⟩, hW₂, e2, q2, q3, q4, q5, q6⟩ := id hfe
    have e3 : s₂ = ({ (U.calling g mk a).setFrames s₂.frames with heap := s₂.heap, slotsUsed := s₂.slotsUsed } : State).setVm s₂.vm := by
      have : s₂ = ({ s₂ with vm := (U.calling g mk a).vm } : State).setVm s₂.vm := rfl
      rw [e2] at this
      exact this
    obtain ⟨c₂, i₂, len₂, hc₂, hd₂, hf₂⟩ := hend
    have hW' : U.WarmedH s₂.vm := hW₂
    have hcc : c₂ = c := by
      have h1 : s₂.code? g.method = U.code? g.method := by
        rw [State.code?_eq, State.code?_eq, hW'.alike.method?]
      exact Option.some.inj (hc₂.symm.trans (h1.trans h.code))
    subst hcc
    have hlen : len₂ = len := by rw [hdg] at hd₂; cases hd₂; rfl
    subst hlen
    have hs₂ : s₂ = (({ U with heap := s₂.heap, slotsUsed := s₂.slotsUsed } : State).setVm s₂.vm).setTop { g with pc := g.pc + len₂, stack := v.toList ++ g.stack } := by
      refine e3.trans ?_
      rw [hf₂, State.calling_eq h.top, State.setFrames_setFrames, State.setTop_of_frames _ hr', hr]
      rfl
    have hsame : U.sameButNew ({ U with heap := s₂.heap, slotsUsed := s₂.slotsUsed } : State) L mc ms := by
      refine ⟨?_, q2, q3, q4, q5, q6⟩
      obtain ⟨t, ht, -⟩ := State.frames_cons hr
      show ({ U with heap := s₂.heap, slotsUsed := s₂.slotsUsed } : State) = { U.setFrames U.frames with heap := s₂.heap, slotsUsed := s₂.slotsUsed }
      rw [State.setFrames_self ht]
    subst hg
    refine Or.inl ⟨v, ⟨(({ U with heap := s₂.heap, slotsUsed := s₂.slotsUsed } : State).setVm s₂.vm), Ls ++ L, c0 + mc, s0 + ms⟩,
      ⟨X.admits, X.cas, X.clock, X.frames, X.room, X.hears, X.method, X.code, (X.here.setHeapUsed s₂.heap s₂.slotsUsed).setVm hW'.alike, X.tail, State.WarmedH.trans X.warmed hW', X.limits, X.bytes, X.same.trans (hsame.setVm s.vm)⟩,
      ⟨g, mk, s₂, L, rfl, rfl, hqc, rfl, hL, rfl, rfl⟩, ?_⟩
    show Steps p.tables e below _ ((({ U with heap := s₂.heap, slotsUsed := s₂.slotsUsed } : State).setVm s₂.vm).setTop { g with pc := g.pc + len₂, stack := v.toList ++ g.stack })
    rw [← hs₂]
    exact hsteps
  · obtain ⟨e2, q2, q3, q4, q5, q6⟩ := id hsm
    have e3 : s₂ = ({ (U.calling g mk a).setFrames s₂.frames with heap := s₂.heap, slotsUsed := s₂.slotsUsed } : State).setVm s₂.vm := by
      have : s₂ = ({ s₂ with vm := (U.calling g mk a).vm } : State).setVm s₂.vm := rfl
      rw [e2] at this
      exact this
    have hf₂ : s₂.frames = .throwing q :: .java g :: U.frames.tail := hend
    have hW' : U.WarmedH s₂.vm := hW₂
    have hs₂ : s₂ = ((({ U with heap := s₂.heap, slotsUsed := s₂.slotsUsed } : State).setVm s₂.vm).setTop g).pushFrame (.throwing q) := by
      refine e3.trans ?_
      rw [hf₂, State.calling_eq h.top, State.setFrames_setFrames, State.pushFrame, State.frames_setTop _ hr', State.setTop_of_frames _ hr', State.setFrames_setFrames, hr]
      rfl
    have hsame : U.sameButNew ({ U with heap := s₂.heap, slotsUsed := s₂.slotsUsed } : State) L mc ms := by
      refine ⟨?_, q2, q3, q4, q5, q6⟩
      obtain ⟨t, ht, -⟩ := State.frames_cons hr
      show ({ U with heap := s₂.heap, slotsUsed := s₂.slotsUsed } : State) = { U.setFrames U.frames with heap := s₂.heap, slotsUsed := s₂.slotsUsed }
      rw [State.setFrames_self ht]
    subst hg
    refine Or.inr ⟨q, ⟨(({ U with heap := s₂.heap, slotsUsed := s₂.slotsUsed } : State).setVm s₂.vm), Ls ++ L, c0 + mc, s0 + ms⟩,
      ⟨X.admits, X.cas, X.clock, X.frames, X.room, X.hears, X.method, X.code, (X.here.setHeapUsed s₂.heap s₂.slotsUsed).setVm hW'.alike, X.tail, State.WarmedH.trans X.warmed hW', X.limits, X.bytes, X.same.trans (hsame.setVm s.vm)⟩,
      ⟨g, mk, s₂, L, E, ce, rfl, rfl, hx, hce, hcv, hcl, rfl, hL, rfl, rfl⟩, ?_⟩
    show Steps p.tables e below _ (((({ U with heap := s₂.heap, slotsUsed := s₂.slotsUsed } : State).setVm s₂.vm).setTop g).pushFrame (.throwing q))
    rw [← hs₂]
    exact hsteps
end
variable {p : Program} {l : Launch} {e : Env} {R : Room} {s : State} {m : MethodId} {args : Array Value} {below : List Frame} {meth : Method} {c : Code} {T : State} {H : Heap} {locs : List Loc} {cells slots : Nat}
theorem vx_callVX (X : Stand p l e R s m args below meth c T locs cells slots) (hexec : p.tables.exec = Jvm.exec) {own C : String} {index : Nat} {y : MethodName} {bytes : ByteArray} {maxL : Nat} {ret : Option FieldType} {hh : List (Nat × Nat × Nat × Nat)}
    (hown : s.vm.findClass own = some m.cls) (hlink : (Cond.methodLink own index y).before args s = true) (hinst : (Cond.instanceMethod y).before args s = true) (hsel : (Cond.selects C y y).before args s = true)
    (hcode : (Cond.codeWith y bytes maxL ret hh).before args s = true) (hy : y.cls ≠ "java/lang/invoke/MethodHandle" ∧ y.cls ≠ "java/lang/invoke/VarHandle")
    {W9 : Nat} {Pre : Pt → Array Value → Prop} {Post : Pt → Array Value → Option Value → Pt → Prop} {PostX : Pt → Array Value → Addr → Pt → Prop} (hK : vx_Back l R p e below s args y 3 W9 Pre Post PostX)
    {b : Addr} {cellB : Cell} (hcell : T.heap[b]? = some cellB) (hobj : cellB.vm.isStatics = false) (hcls : s.vm.findClass C = some cellB.cls)
    {g : JFrame} (hg : g.method = m) (hsize : g.locals.size = c.maxLocals) {argsL rest : List Value} (hlen : ∀ sig, parseMethodDescriptor y.desc = some sig → argsL.length = sig.parameters.length)
    (hstack : g.stack = argsL.reverse ++ .ref b :: rest) (hW : 2 * g.monitorRoom + (rest.map fun v => v.category).sum ≤ W9) (hdg : decode c.code g.pc = .ok (.invokevirtual index, 3))
    (hpre : ∀ vm₁, s.WarmedH vm₁ → Pre ⟨T.setVm vm₁, locs, cells, slots⟩ (Value.ref b :: argsL).toArray) :
    (∃ (v : Option Value) (vm₁ : Vm) (B : Pt), s.WarmedH vm₁ ∧ Stand p l e R s m args below meth c B.U B.locs B.cells B.slots ∧ Post ⟨T.setVm vm₁, locs, cells, slots⟩ (Value.ref b :: argsL).toArray v B ∧
      ∀ target, Steps p.tables e below (B.U.setTop { g with pc := g.pc + 3, stack := v.toList ++ rest }) target → Steps p.tables e below (T.setTop g) target) ∨
    (∃ (q : Addr) (vm₁ : Vm) (B : Pt), s.WarmedH vm₁ ∧ Stand p l e R s m args below meth c B.U B.locs B.cells B.slots ∧ PostX ⟨T.setVm vm₁, locs, cells, slots⟩ (Value.ref b :: argsL).toArray q B ∧
      Steps p.tables e below (T.setTop g) ((B.U.setTop { g with stack := rest }).pushFrame (.throwing q))) := by
  obtain ⟨mk, methM, hnamed, hmethM, hstM, habM⟩ := Cond.instanceMethod_spec hinst
  obtain ⟨m8, methM', cM, hn8, hmethM', -, -, -, -, -, -, hsigM⟩ := Cond.codeWith_spec hcode
  cases Option.some.inj (hn8.symm.trans hnamed)
  cases hmethM.symm.trans hmethM'
  obtain ⟨c2, r2, m2, q1, q2, q3, q4, kP, hkP, hkPi⟩ := Cond.selects_spec hsel
  cases hcls.symm.trans q1
  cases (State.methodFound?_of_named hnamed hy).symm.trans q2
  cases hnamed.symm.trans q3
  have hselP : selectMethod e.platform s.vm cellB.cls mk = .method mk := by rw [Launch.admits_selectMethod X.admits]; exact q4
  obtain ⟨vm₁, X₁, hstep₁⟩ := X.invokevirtual hexec hown hlink hnamed hmethM hstM hkP hkPi hy (a := b) (cell := cellB) hcell
    (fun z h => by rw [h] at hobj; cases hobj) hselP hmethM habM hkP hkPi (g := g) hg (argsL := argsL) (rest := rest) (hlen _ hsigM) hstack hdg
  rcases hK m meth c ⟨T.setVm vm₁, locs, cells, slots⟩ { g with stack := rest } (.invokevirtual index) mk (Value.ref b :: argsL).toArray X₁ hg hsize hdg hW (X₁.named hnamed) (hpre vm₁ X₁.warmed) with ⟨v, B, X', hpost, hsteps⟩ | ⟨q, B, X', hpost, hsteps⟩
  · exact Or.inl ⟨v, vm₁, B, X₁.warmed, X', hpost, fun target h => hstep₁ _ fun acts => by rw [doInvoke_state]; exact hsteps.trans h⟩
  · exact Or.inr ⟨q, vm₁, B, X₁.warmed, X', hpost, hstep₁ _ fun acts => by rw [doInvoke_state]; exact hsteps⟩
theorem vx_callSX (X : Stand p l e R s m args below meth c T locs cells slots) (hexec : p.tables.exec = Jvm.exec) {own : String} {index : Nat} {y : MethodName} {bytes : ByteArray} {maxL : Nat} {ret : Option FieldType} {hh : List (Nat × Nat × Nat × Nat)}
    (hown : s.vm.findClass own = some m.cls) (hlink : (Cond.methodLink own index y).before args s = true) (hstat : (Cond.static y).before args s = true) (hinit : (Cond.initialized y.cls).before args s = true)
    (hcode : (Cond.codeWith y bytes maxL ret hh).before args s = true) (hy : y.cls ≠ "java/lang/invoke/MethodHandle" ∧ y.cls ≠ "java/lang/invoke/VarHandle")
    {W9 : Nat} {Pre : Pt → Array Value → Prop} {Post : Pt → Array Value → Option Value → Pt → Prop} {PostX : Pt → Array Value → Addr → Pt → Prop} (hK : vx_Back l R p e below s args y 3 W9 Pre Post PostX)
    {g : JFrame} (hg : g.method = m) (hsize : g.locals.size = c.maxLocals) {argsL rest : List Value} (hlen : ∀ sig, parseMethodDescriptor y.desc = some sig → argsL.length = sig.parameters.length)
    (hstack : g.stack = argsL.reverse ++ rest) (hW : 2 * g.monitorRoom + (rest.map fun v => v.category).sum ≤ W9) (hdg : decode c.code g.pc = .ok (.invokestatic index, 3))
    (hpre : ∀ vm₁, s.WarmedH vm₁ → Pre ⟨T.setVm vm₁, locs, cells, slots⟩ argsL.toArray) :
    (∃ (v : Option Value) (vm₁ : Vm) (B : Pt), s.WarmedH vm₁ ∧ Stand p l e R s m args below meth c B.U B.locs B.cells B.slots ∧ Post ⟨T.setVm vm₁, locs, cells, slots⟩ argsL.toArray v B ∧
      ∀ target, Steps p.tables e below (B.U.setTop { g with pc := g.pc + 3, stack := v.toList ++ rest }) target → Steps p.tables e below (T.setTop g) target) ∨
    (∃ (q : Addr) (vm₁ : Vm) (B : Pt), s.WarmedH vm₁ ∧ Stand p l e R s m args below meth c B.U B.locs B.cells B.slots ∧ PostX ⟨T.setVm vm₁, locs, cells, slots⟩ argsL.toArray q B ∧
      Steps p.tables e below (T.setTop g) ((B.U.setTop { g with stack := rest }).pushFrame (.throwing q))) := by
  obtain ⟨mk, methM, cM, hnamed, hmethM, -, -, -, -, -, -, hsigM⟩ := Cond.codeWith_spec hcode
  have hstatic : methM.isStatic = true := Cond.static_spec hnamed hmethM hstat
  obtain ⟨kP, hkP, -⟩ := className_of_methodNamed hnamed
  have hinitP : kP.init = .initialized := Cond.initialized_spec (findClass_of_methodNamed hnamed) hkP hinit
  obtain ⟨vm₁, X₁, hstep₁⟩ := X.invokestatic hexec hown hlink hnamed hmethM hstatic hkP hinitP hy (g := g) hg (argsL := argsL) (rest := rest) (hlen _ hsigM) hstack hdg
  rcases hK m meth c ⟨T.setVm vm₁, locs, cells, slots⟩ { g with stack := rest } (.invokestatic index) mk argsL.toArray X₁ hg hsize hdg hW (X₁.named hnamed) (hpre vm₁ X₁.warmed) with ⟨v, B, X', hpost, hsteps⟩ | ⟨q, B, X', hpost, hsteps⟩
  · exact Or.inl ⟨v, vm₁, B, X₁.warmed, X', hpost, fun target h => hstep₁ _ fun acts => by rw [doInvoke_state]; exact hsteps.trans h⟩
  · exact Or.inr ⟨q, vm₁, B, X₁.warmed, X', hpost, hstep₁ _ fun acts => by rw [doInvoke_state]; exact hsteps⟩
theorem vx_callVW (X : Stand p l e R s m args below meth c T locs cells slots) (hexec : p.tables.exec = Jvm.exec) {own C : String} {index : Nat} {y : MethodName} {bytes : ByteArray} {maxL : Nat} {ret : Option FieldType} {hh : List (Nat × Nat × Nat × Nat)}
    (hown : s.vm.findClass own = some m.cls) (hlink : (Cond.methodLink own index y).before args s = true) (hinst : (Cond.instanceMethod y).before args s = true) (hsel : (Cond.selects C y y).before args s = true)
    (hcode : (Cond.codeWith y bytes maxL ret hh).before args s = true) (hy : y.cls ≠ "java/lang/invoke/MethodHandle" ∧ y.cls ≠ "java/lang/invoke/VarHandle")
    {W9 : Nat} {Pre : Pt → Array Value → Prop} {Post : Pt → Array Value → Option Value → Pt → Prop} (hK : Back l R p e below s args y 3 W9 Pre Post)
    {b : Addr} {cellB : Cell} (hcell : T.heap[b]? = some cellB) (hobj : cellB.vm.isStatics = false) (hcls : s.vm.findClass C = some cellB.cls)
    {g : JFrame} (hg : g.method = m) (hsize : g.locals.size = c.maxLocals) {argsL rest : List Value} (hlen : ∀ sig, parseMethodDescriptor y.desc = some sig → argsL.length = sig.parameters.length)
    (hstack : g.stack = argsL.reverse ++ .ref b :: rest) (hW : 2 * g.monitorRoom + (rest.map fun v => v.category).sum ≤ W9) (hdg : decode c.code g.pc = .ok (.invokevirtual index, 3))
    (hpre : ∀ vm₁, s.WarmedH vm₁ → Pre ⟨T.setVm vm₁, locs, cells, slots⟩ (Value.ref b :: argsL).toArray) :
    ∃ (v : Option Value) (vm₁ : Vm) (B : Pt), s.WarmedH vm₁ ∧ Stand p l e R s m args below meth c B.U B.locs B.cells B.slots ∧ Post ⟨T.setVm vm₁, locs, cells, slots⟩ (Value.ref b :: argsL).toArray v B ∧
      ∀ target, Steps p.tables e below (B.U.setTop { g with pc := g.pc + 3, stack := v.toList ++ rest }) target → Steps p.tables e below (T.setTop g) target := by
  obtain ⟨mk, methM, hnamed, hmethM, hstM, habM⟩ := Cond.instanceMethod_spec hinst
  obtain ⟨m8, methM', cM, hn8, hmethM', -, -, -, -, -, -, hsigM⟩ := Cond.codeWith_spec hcode
  cases Option.some.inj (hn8.symm.trans hnamed)
  cases hmethM.symm.trans hmethM'
  obtain ⟨c2, r2, m2, q1, q2, q3, q4, kP, hkP, hkPi⟩ := Cond.selects_spec hsel
  cases hcls.symm.trans q1
  cases (State.methodFound?_of_named hnamed hy).symm.trans q2
  cases hnamed.symm.trans q3
  have hselP : selectMethod e.platform s.vm cellB.cls mk = .method mk := by rw [Launch.admits_selectMethod X.admits]; exact q4
  obtain ⟨vm₁, X₁, hstep₁⟩ := X.invokevirtual hexec hown hlink hnamed hmethM hstM hkP hkPi hy (a := b) (cell := cellB) hcell
    (fun z h => by rw [h] at hobj; cases hobj) hselP hmethM habM hkP hkPi (g := g) hg (argsL := argsL) (rest := rest) (hlen _ hsigM) hstack hdg
  obtain ⟨v, B, X', hpost, hsteps⟩ := hK m meth c ⟨T.setVm vm₁, locs, cells, slots⟩ { g with stack := rest } (.invokevirtual index) mk (Value.ref b :: argsL).toArray X₁ hg hsize hdg hW (X₁.named hnamed) (hpre vm₁ X₁.warmed)
  exact ⟨v, vm₁, B, X₁.warmed, X', hpost, fun target h => hstep₁ _ fun acts => by rw [doInvoke_state]; exact hsteps.trans h⟩
abbrev vx_CVW (R : Room) (s : State) (args : Array Value) (own C : String) (index : Nat) (y : MethodName) (bytes : ByteArray) (maxL : Nat) (ret : Option FieldType) (hh : List (Nat × Nat × Nat × Nat)) (ws : List Cond) (rm : Room) (mc ms n : Nat) : Prop :=
  (rm.cells = mc ∧ rm.slots = ms ∧ rm.frames + 1 ≤ R.frames ∧ 8 + (maxL + 11) + rm.locals ≤ R.locals ∧ (∀ w ∈ ws, ∀ (a' : Array Value) (U : State), s.WarmedH U.vm → w.before a' U = true) ∧ Cond.codeWith y bytes maxL ret hh ∈ ws) ∧
  (Cond.codeWith y bytes maxL ret hh).before args s = true ∧ (Cond.initialized y.cls).before args s = true ∧ (y.cls ≠ "java/lang/invoke/MethodHandle" ∧ y.cls ≠ "java/lang/invoke/VarHandle") ∧
  (∀ sig, parseMethodDescriptor y.desc = some sig → n = sig.parameters.length) ∧ (Cond.methodLink own index y).before args s = true ∧ (Cond.instanceMethod y).before args s = true ∧ (Cond.selects C y y).before args s = true
theorem vx_cwVW {own C : String} {index maxL mc ms : Nat} {y : MethodName} {bytes : ByteArray} {ret : Option FieldType} {hh : List (Nat × Nat × Nat × Nat)} {Ts ws ws' : List Cond} {rm : Room} (n : Nat) (ht : ∀ w ∈ Ts, w.before args s = true) (hT : GoodIn Ts (wsV own index C y ws)) (hw : ws = Cond.codeWith y bytes maxL ret hh :: ws') (hrc : rm.cells = mc) (hrs : rm.slots = ms)
    (hd : y.cls = C ∧ y.cls ≠ "java/lang/invoke/MethodHandle" ∧ y.cls ≠ "java/lang/invoke/VarHandle" ∧ (parseMethodDescriptor y.desc).map (fun d => d.parameters.length) = some n) (hR : rm.frames + 1 ≤ R.frames ∧ 8 + (maxL + 11) + rm.locals ≤ R.locals) :
    vx_CVW R s args own C index y bytes maxL ret hh ws rm mc ms n := by
  obtain ⟨hC, hd⟩ := hd
  subst hC
  have ok : ∀ w ∈ wsV own index y.cls y ws, w.before args s = true := fun w h => ht w (hT w h).1
  have hG : GoodIn Ts ws := fun w h => hT w (by unfold wsV; exact List.mem_append_right _ h)
  have hc : Cond.codeWith y bytes maxL ret hh ∈ ws := by rw [hw]; exact List.mem_cons_self
  refine ⟨⟨hrc, hrs, hR.1, hR.2, pay_in ht hG, hc⟩, ht _ (hG _ hc).1, ok _ (by simp [wsV]), ⟨hd.1, hd.2.1⟩, fun sig h => ?_, ok _ (by simp [wsV]), ok _ (by simp [wsV]), ok _ (by simp [wsV])⟩
  have h2 := hd.2.2
  rw [h] at h2
  exact (Option.some.inj h2).symm
theorem vx_runVW {y : MethodName} {bytes cc : ByteArray} {maxL nL mc ms n index : Nat} {ret : Option FieldType} {hh : List (Nat × Nat × Nat × Nat)} {ws : List Cond} {rm : Room} {Pc : Array Value → State → Prop} {Qc : Array Value → State → Outcome → State → Prop} {free : Addr → Prop} {Ts : List Cond} {own C : String} {b : Addr} {As rest : List Value} {g : JFrame}
    (S : CallFix p m c cc nL s args Ts own) (hM : Met l y ws rm Pc Qc mc ms free) (cw : vx_CVW R s args own C index y bytes maxL ret hh ws rm mc ms n) (hp : PreV s H C b Pc As)
    (hg : g.method = m) (hn : As.length = n) (hsize : g.locals.size = nL) (hstack : g.stack = As.reverse ++ .ref b :: rest) (hW : 2 * g.monitorRoom + (rest.map fun v => v.category).sum ≤ 8) (hdg : decode cc g.pc = .ok (.invokevirtual index, 3)) (hf : cells + mc ≤ R.cells ∧ slots + ms ≤ R.slots) :
    va_Run p l e R s m args below meth c H locs cells slots mc ms g rest (Qc (Value.ref b :: As).toArray) free := by
  obtain ⟨⟨hrc, hrs, hfr, hlo, hws, hcw⟩, hcode, hini, hy, hlen, hl, hin, hse⟩ := cw
  have hK : Back l R p e below s args y 3 8 (PreOf R mc ms Pc) (PostOf Qc mc ms free) := va_backW (hh := hh) (bytes := bytes) (maxL := maxL) (ret := ret) hM hp.1 hrc hrs hfr hlo hws hcw (fun a' U hW => word_at hW (Or.inl (by first | rfl | simp [Cond.onTables, Cond.keeps, Cond.steady])) hini)
  obtain ⟨hx, hb, hml, ho, -⟩ := S
  obtain ⟨-, ⟨cellB, hcB, hoB, hclB⟩, hPc⟩ := hp
  intro T hT X
  obtain ⟨v, vm₁, ⟨U', l2, c2, s2⟩, hW₁, X', ⟨g', mk, t, L, e1, e2, hq, h1, hL, h2, h3⟩, st⟩ := vx_callVW X hx (C := C) (hh := hh) (bytes := bytes) (maxL := maxL) (ret := ret) ho hl hin hse hcode hy hK (by rw [hT]; exact hcB) hoB hclB hg (hsize.trans hml.symm) (argsL := As) (rest := rest) (fun sig h => hn.trans (hlen sig h)) hstack hW (by rw [hb]; exact hdg)
    (fun vm₁ hW₁ => ⟨hf.1, hf.2, hPc (T.setVm vm₁) hT hW₁⟩)
  dsimp only [Pt.U, Pt.locs, Pt.cells, Pt.slots] at X' e1 e2 h1 h2 h3 st
  subst h1; subst h2; subst h3
  exact ⟨v, (T.setVm vm₁).calling g' mk (Value.ref b :: As).toArray, t, U', L, hT, X', hL, e1, e2, hq, st⟩
section
variable {y : MethodName} {bytes cc : ByteArray} {maxL nL mc ms n index : Nat} {ret : Option FieldType} {ws : List Cond} {rm : Room} {Pc : Array Value → State → Prop} {Qc : Array Value → State → Outcome → State → Prop} {XC : String → State → State → Prop} {free : Addr → Prop} {Ts : List Cond} {own C : String} {b : Addr} {As rest : List Value} {g : JFrame}
theorem vx_runVX {hh : List (Nat × Nat × Nat × Nat)} (S : CallFix p m c cc nL s args Ts own) (hM : vx_Met l y ws rm Pc Qc XC mc ms free) (cw : vx_CVW R s args own C index y bytes maxL ret hh ws rm mc ms n) (hp : PreV s H C b Pc As)
    (hg : g.method = m) (hn : As.length = n) (hsize : g.locals.size = nL) (hstack : g.stack = As.reverse ++ .ref b :: rest) (hW : 2 * g.monitorRoom + (rest.map fun v => v.category).sum ≤ 8) (hdg : decode cc g.pc = .ok (.invokevirtual index, 3)) (hf : cells + mc ≤ R.cells ∧ slots + ms ≤ R.slots) :
    vx_Run p l e R s m args below meth c H locs cells slots mc ms g rest (Qc (Value.ref b :: As).toArray) XC free := by
  obtain ⟨⟨hrc, hrs, hfr, hlo, hws, hcw⟩, hcode, hini, hy, hlen, hl, hin, hse⟩ := cw
  have hK : vx_Back l R p e below s args y 3 8 (PreOf R mc ms Pc) (PostOf Qc mc ms free) (vx_Post XC mc ms free) := vx_backW (hh := hh) (bytes := bytes) (maxL := maxL) (ret := ret) hM hp.1 hrc hrs hfr hlo hws hcw (fun a' U hW => word_at hW (Or.inl (by first | rfl | simp [Cond.onTables, Cond.keeps, Cond.steady])) hini)
  obtain ⟨hx, hb, hml, ho, -⟩ := S
  obtain ⟨-, ⟨cellB, hcB, hoB, hclB⟩, hPc⟩ := hp
  intro T hT X
  rcases vx_callVX X hx (C := C) (hh := hh) (bytes := bytes) (maxL := maxL) (ret := ret) ho hl hin hse hcode hy hK (by rw [hT]; exact hcB) hoB hclB hg (hsize.trans hml.symm) (argsL := As) (rest := rest) (fun sig h => hn.trans (hlen sig h)) hstack hW (by rw [hb]; exact hdg)
    (fun vm₁ hW₁ => ⟨hf.1, hf.2, hPc (T.setVm vm₁) hT hW₁⟩) with ⟨v, vm₁, ⟨U', l2, c2, s2⟩, hW₁, X', ⟨g', mk, t, L, e1, e2, hq, h1, hL, h2, h3⟩, st⟩ | ⟨q, vm₁, ⟨U', l2, c2, s2⟩, hW₁, X', ⟨g', mk, t, L, E, ce, e1, e2, hq, hce, hcv, hcl, h1, hL, h2, h3⟩, st⟩
  · dsimp only [Pt.U, Pt.locs, Pt.cells, Pt.slots] at X' e1 e2 h1 h2 h3 st
    subst h1; subst h2; subst h3
    exact Or.inl ⟨v, (T.setVm vm₁).calling g' mk (Value.ref b :: As).toArray, t, U', L, hT, X', hL, e1, e2, hq, st⟩
  · dsimp only [Pt.U, Pt.locs, Pt.cells, Pt.slots] at X' e1 e2 h1 h2 h3 st hcl
    subst h1; subst h2; subst h3
    exact Or.inr ⟨q, (T.setVm vm₁).calling g' mk (Value.ref b :: As).toArray, t, U', L, E, ce, hT, X', hL, e1, e2, hq, hce, hcv, vx_cls hW₁ hcl, st⟩
theorem vx_runSX {hh : List (Nat × Nat × Nat × Nat)} (S : CallFix p m c cc nL s args Ts own) (hM : vx_Met l y ws rm Pc Qc XC mc ms free) (cw : vx_CSW R s args own index y bytes maxL ret hh ws rm mc ms n) (hp : PreS s H Pc As)
    (hg : g.method = m) (hn : As.length = n) (hsize : g.locals.size = nL) (hstack : g.stack = As.reverse ++ rest) (hW : 2 * g.monitorRoom + (rest.map fun v => v.category).sum ≤ 8) (hdg : decode cc g.pc = .ok (.invokestatic index, 3)) (hf : cells + mc ≤ R.cells ∧ slots + ms ≤ R.slots) :
    vx_Run p l e R s m args below meth c H locs cells slots mc ms g rest (Qc As.toArray) XC free := by
  obtain ⟨⟨hrc, hrs, hfr, hlo, hws, hcw⟩, hcode, hini, hy, hlen, hl, hstt⟩ := cw
  have hK : vx_Back l R p e below s args y 3 8 (PreOf R mc ms Pc) (PostOf Qc mc ms free) (vx_Post XC mc ms free) := vx_backW (hh := hh) (bytes := bytes) (maxL := maxL) (ret := ret) hM hp.1 hrc hrs hfr hlo hws hcw (fun a' U hW => word_at hW (Or.inl (by first | rfl | simp [Cond.onTables, Cond.keeps, Cond.steady])) hini)
  obtain ⟨hx, hb, hml, ho, -⟩ := S
  intro T hT X
  rcases vx_callSX X hx (hh := hh) (bytes := bytes) (maxL := maxL) (ret := ret) ho hl hstt hini hcode hy hK hg (hsize.trans hml.symm) (argsL := As) (rest := rest) (fun sig h => hn.trans (hlen sig h)) hstack hW (by rw [hb]; exact hdg)
    (fun vm₁ hW₁ => ⟨hf.1, hf.2, hp.2 (T.setVm vm₁) hT hW₁⟩) with ⟨v, vm₁, ⟨U', l2, c2, s2⟩, hW₁, X', ⟨g', mk, t, L, e1, e2, hq, h1, hL, h2, h3⟩, st⟩ | ⟨q, vm₁, ⟨U', l2, c2, s2⟩, hW₁, X', ⟨g', mk, t, L, E, ce, e1, e2, hq, hce, hcv, hcl, h1, hL, h2, h3⟩, st⟩
  · dsimp only [Pt.U, Pt.locs, Pt.cells, Pt.slots] at X' e1 e2 h1 h2 h3 st
    subst h1; subst h2; subst h3
    exact Or.inl ⟨v, (T.setVm vm₁).calling g' mk As.toArray, t, U', L, hT, X', hL, e1, e2, hq, st⟩
  · dsimp only [Pt.U, Pt.locs, Pt.cells, Pt.slots] at X' e1 e2 h1 h2 h3 st hcl
    subst h1; subst h2; subst h3
    exact Or.inr ⟨q, (T.setVm vm₁).calling g' mk As.toArray, t, U', L, E, ce, hT, X', hL, e1, e2, hq, hce, hcv, vx_cls hW₁ hcl, st⟩
end
end VXH
theorem vx_ofWH {l : Launch} {y : MethodName} {ws ws' : List Cond} {rm : Room} {Pc : Array Value → State → Prop} {Qc : Array Value → State → Outcome → State → Prop} {XC : String → State → State → Prop} {mc ms : Nat} {free : Addr → Prop} {cc : ByteArray} {maxL : Nat} {ret : Option FieldType} {hh : List (Nat × Nat × Nat × Nat)}
    (hy : plainName y.cls = true) (hw : ws = Cond.codeWith y cc maxL ret hh :: ws')
    (body : ∀ p e s m args below meth c s₁, BodyLoose p l y (headSpec ws rm) cc maxL ret e s m args below meth c s₁ → c.maxLocals = maxL → Pc args s →
      W p l e (headSpec ws rm).room s m args below meth c s.heap [] 0 0 (vx_MQ below Qc XC args s mc ms free) (entryFrame m args maxL)) : vx_Met l y ws rm Pc Qc XC mc ms free := by
  refine MetFree.of_bodyS (code := cc) (maxLocals := maxL) (ret := ret) hy ?_ ?_
  · intro args s m h hn
    obtain ⟨m9, meth, c, hn9, h1, h2, h3, h4, -, h5, h6, -⟩ := Cond.codeWith_spec (atoms_spec (ws := ws) h _ (by rw [hw]; exact List.mem_cons_self))
    cases hn.symm.trans hn9
    exact ⟨meth, c, h1, h2, h3, h4, h5, h6⟩
  · intro p e s m args below meth c s₁ B hml hP _
    have hh0 : s₁.heap = s.heap := by rw [B.state]; rfl
    obtain ⟨t, a1, o, b1, b2, b3⟩ := body p e s m args below meth c s₁ B hml hP s₁ hh0 (Stand.of_body B)
    exact ⟨t, o, a1, b1, b2, b3⟩
/-! ===== END ===== -/

def RX0 : String := "BudgetJury$Checker"
def TX0 : u_T := fun k => match k with
  | 0 => ("BudgetJury$Checker", "at", "I", false)
  | 1 => ("BudgetJury$Checker", "tokens", "LBudgetJury$Tokens;", true)
  | 2 => ("BudgetJury$Checker", "grammar", "LBudgetJury$Grammar;", true)
  | 3 => ("BudgetJury$Checker", "wardNames", "[J", true)
  | 4 => ("BudgetJury$Checker", "projectNames", "[J", true)
  | 5 => ("BudgetJury$Checker", "voterNames", "[J", true)
  | _ => ("BudgetJury$Checker", "meaning", "[I", true)
def tyX0 : Nat → FieldType := fun k => match k with
  | 0 => .int
  | 1 => .object "BudgetJury$Tokens"
  | 2 => .object "BudgetJury$Grammar"
  | 3 => .array .long
  | 4 => .array .long
  | 5 => .array .long
  | _ => .array .int
abbrev wsX00 : List Cond := u_ws RX0 TX0 7
theorem nmX0 : ∀ a, a < 7 → ∀ b, b < 7 → a ≠ b → (TX0 a).2.1 ≠ (TX0 b).2.1 := by decide +kernel
theorem tyX0_ok : ∀ k, k < 7 → parseFieldDescriptor (TX0 k).2.2.1 = some (tyX0 k) := by decide +kernel
abbrev cX0_init : ByteArray := prog_2_method_1_code
def yX0_init : MethodName := ⟨RX0, "<init>", "(LBudgetJury$Tokens;LBudgetJury$Grammar;)V"⟩
abbrev cX0_fill : ByteArray := prog_2_method_2_code
def yX0_fill : MethodName := ⟨RX0, "fill", "(LBudgetJury$Plan;)I"⟩
abbrev cX0_setArguments : ByteArray := prog_2_method_3_code
def yX0_setArguments : MethodName := ⟨RX0, "setArguments", "(LBudgetJury$Plan;)V"⟩
abbrev cX0_errorHere : ByteArray := prog_2_method_4_code
def yX0_errorHere : MethodName := ⟨RX0, "errorHere", "(LBudgetJury$Plan;)I"⟩
abbrev cX0_tellWard : ByteArray := prog_2_method_5_code
def yX0_tellWard : MethodName := ⟨RX0, "tellWard", "(LBudgetJury$Plan;J)I"⟩
abbrev cX0_tellProject : ByteArray := prog_2_method_6_code
def yX0_tellProject : MethodName := ⟨RX0, "tellProject", "(LBudgetJury$Plan;J)I"⟩
abbrev cX0_tellVoter : ByteArray := prog_2_method_7_code
def yX0_tellVoter : MethodName := ⟨RX0, "tellVoter", "(LBudgetJury$Plan;J)I"⟩
abbrev cX0_errorOfNew : ByteArray := prog_2_method_8_code
def yX0_errorOfNew : MethodName := ⟨RX0, "errorOfNew", "([JIJ)I"⟩
abbrev cX0_tellBan : ByteArray := prog_2_method_9_code
def yX0_tellBan : MethodName := ⟨RX0, "tellBan", "(LBudgetJury$Plan;)I"⟩
abbrev cX0_tellBudget : ByteArray := prog_2_method_10_code
def yX0_tellBudget : MethodName := ⟨RX0, "tellBudget", "(LBudgetJury$Plan;J)I"⟩
abbrev cX0_tellLiked : ByteArray := prog_2_method_11_code
def yX0_tellLiked : MethodName := ⟨RX0, "tellLiked", "(LBudgetJury$Plan;I)I"⟩
abbrev cX0_putNumber : ByteArray := prog_2_method_12_code
def yX0_putNumber : MethodName := ⟨RX0, "putNumber", "([IIII)I"⟩
abbrev cX0_putNamed : ByteArray := prog_2_method_13_code
def yX0_putNamed : MethodName := ⟨RX0, "putNamed", "([III)I"⟩
abbrev cX0_find : ByteArray := prog_2_method_14_code
def yX0_find : MethodName := ⟨RX0, "find", "([JIJ)I"⟩
def RX1 : String := "BudgetJury$Grammar"
def TX1 : u_T := fun k => match k with
  | 0 => ("BudgetJury$Grammar", "role", "[I", true)
  | 1 => ("BudgetJury$Grammar", "firstStep", "[I", true)
  | 2 => ("BudgetJury$Grammar", "at", "I", false)
  | 3 => ("BudgetJury$Grammar", "tokens", "LBudgetJury$Tokens;", true)
  | _ => ("BudgetJury$Grammar", "plan", "LBudgetJury$Plan;", false)
def tyX1 : Nat → FieldType := fun k => match k with
  | 0 => .array .int
  | 1 => .array .int
  | 2 => .int
  | 3 => .object "BudgetJury$Tokens"
  | _ => .object "BudgetJury$Plan"
abbrev wsX10 : List Cond := u_ws RX1 TX1 5
theorem nmX1 : ∀ a, a < 5 → ∀ b, b < 5 → a ≠ b → (TX1 a).2.1 ≠ (TX1 b).2.1 := by decide +kernel
theorem tyX1_ok : ∀ k, k < 5 → parseFieldDescriptor (TX1 k).2.2.1 = some (tyX1 k) := by decide +kernel
abbrev cX1_init : ByteArray := prog_3_method_1_code
def yX1_init : MethodName := ⟨RX1, "<init>", "(LBudgetJury$Tokens;LBudgetJury$Plan;)V"⟩
abbrev cX1_isList : ByteArray := prog_3_method_2_code
def yX1_isList : MethodName := ⟨RX1, "isList", "(LBudgetJury$Plan;)Z"⟩
abbrev cX1_here : ByteArray := prog_3_method_3_code
def yX1_here : MethodName := ⟨RX1, "here", "()I"⟩
abbrev cX1_take : ByteArray := prog_3_method_4_code
def yX1_take : MethodName := ⟨RX1, "take", "(I)Z"⟩
abbrev cX1_take_ : ByteArray := prog_3_method_5_code
def yX1_take_ : MethodName := ⟨RX1, "take", "(II)Z"⟩
abbrev cX1_write : ByteArray := prog_3_method_6_code
def yX1_write : MethodName := ⟨RX1, "write", "(I)Z"⟩
abbrev cX1_write_ : ByteArray := prog_3_method_7_code
def yX1_write_ : MethodName := ⟨RX1, "write", "(II)Z"⟩
abbrev cX1_isLine : ByteArray := prog_3_method_8_code
def yX1_isLine : MethodName := ⟨RX1, "isLine", "()Z"⟩
abbrev cX1_isRowOfLiked : ByteArray := prog_3_method_9_code
def yX1_isRowOfLiked : MethodName := ⟨RX1, "isRowOfLiked", "()Z"⟩
abbrev cX1_isBan : ByteArray := prog_3_method_10_code
def yX1_isBan : MethodName := ⟨RX1, "isBan", "()Z"⟩
abbrev cX1_isTest : ByteArray := prog_3_method_11_code
def yX1_isTest : MethodName := ⟨RX1, "isTest", "(I)Z"⟩
abbrev cX1_isBoth : ByteArray := prog_3_method_12_code
def yX1_isBoth : MethodName := ⟨RX1, "isBoth", "(I)Z"⟩
abbrev cX1_isSingle : ByteArray := prog_3_method_13_code
def yX1_isSingle : MethodName := ⟨RX1, "isSingle", "(I)Z"⟩
abbrev cX1_isNamed : ByteArray := prog_3_method_14_code
def yX1_isNamed : MethodName := ⟨RX1, "isNamed", "(II)Z"⟩
abbrev cX1_comparisonHere : ByteArray := prog_3_method_15_code
def yX1_comparisonHere : MethodName := ⟨RX1, "comparisonHere", "()I"⟩
abbrev cX1_isSum : ByteArray := prog_3_method_16_code
def yX1_isSum : MethodName := ⟨RX1, "isSum", "(I)Z"⟩
abbrev cX1_isProduct : ByteArray := prog_3_method_17_code
def yX1_isProduct : MethodName := ⟨RX1, "isProduct", "(I)Z"⟩
abbrev cX1_isValue : ByteArray := prog_3_method_18_code
def yX1_isValue : MethodName := ⟨RX1, "isValue", "(I)Z"⟩
abbrev cX1_isPair : ByteArray := prog_3_method_19_code
def yX1_isPair : MethodName := ⟨RX1, "isPair", "(I)Z"⟩
def RX2 : String := "BudgetJury$Kind"
def TX2 : u_T := fun k => match k with
  | _ => ("", "", "", false)
def tyX2 : Nat → FieldType := fun k => match k with
  | _ => .int
abbrev wsX20 : List Cond := u_ws RX2 TX2 0
theorem nmX2 : ∀ a, a < 0 → ∀ b, b < 0 → a ≠ b → (TX2 a).2.1 ≠ (TX2 b).2.1 := by decide +kernel
theorem tyX2_ok : ∀ k, k < 0 → parseFieldDescriptor (TX2 k).2.2.1 = some (tyX2 k) := by decide +kernel
def RX3 : String := "BudgetJury$Parish"
def TX3 : u_T := fun k => match k with
  | 0 => ("BudgetJury$Parish", "year", "I", false)
  | 1 => ("BudgetJury$Parish", "budget", "I", false)
  | 2 => ("BudgetJury$Parish", "leftOut", "I", false)
  | 3 => ("BudgetJury$Parish", "purse", "[I", true)
  | 4 => ("BudgetJury$Parish", "builtIn", "[I", true)
  | 5 => ("BudgetJury$Parish", "plan", "LBudgetJury$Plan;", false)
  | 6 => ("BudgetJury$Parish", "pot", "I", false)
  | 7 => ("BudgetJury$Parish", "paidInAll", "I", false)
  | 8 => ("BudgetJury$Parish", "paid", "[I", true)
  | 9 => ("BudgetJury$Parish", "cost", "[I", true)
  | 10 => ("BudgetJury$Parish", "fans", "[I", true)
  | 11 => ("BudgetJury$Parish", "bought", "[I", true)
  | 12 => ("BudgetJury$Parish", "builtThisYear", "[I", true)
  | 13 => ("BudgetJury$Parish", "stack", "[I", true)
  | _ => ("BudgetJury$Parish", "stackSize", "I", false)
def tyX3 : Nat → FieldType := fun k => match k with
  | 0 => .int
  | 1 => .int
  | 2 => .int
  | 3 => .array .int
  | 4 => .array .int
  | 5 => .object "BudgetJury$Plan"
  | 6 => .int
  | 7 => .int
  | 8 => .array .int
  | 9 => .array .int
  | 10 => .array .int
  | 11 => .array .int
  | 12 => .array .int
  | 13 => .array .int
  | _ => .int
abbrev wsX30 : List Cond := u_ws RX3 TX3 15
theorem nmX3 : ∀ a, a < 15 → ∀ b, b < 15 → a ≠ b → (TX3 a).2.1 ≠ (TX3 b).2.1 := by decide +kernel
theorem tyX3_ok : ∀ k, k < 15 → parseFieldDescriptor (TX3 k).2.2.1 = some (tyX3 k) := by decide +kernel
abbrev cX3_init : ByteArray := prog_5_method_1_code
def yX3_init : MethodName := ⟨RX3, "<init>", "(LBudgetJury$Plan;)V"⟩
abbrev cX3_begin : ByteArray := prog_5_method_2_code
def yX3_begin : MethodName := ⟨RX3, "begin", "(LBudgetJury$Plan;)V"⟩
abbrev cX3_copy : ByteArray := prog_5_method_3_code
def yX3_copy : MethodName := ⟨RX3, "copy", "(LBudgetJury$Parish;)V"⟩
abbrev cX3_total : ByteArray := prog_5_method_4_code
def yX3_total : MethodName := ⟨RX3, "total", "(I)I"⟩
abbrev cX3_purses : ByteArray := prog_5_method_5_code
def yX3_purses : MethodName := ⟨RX3, "purses", "()I"⟩
abbrev cX3_builtCount : ByteArray := prog_5_method_6_code
def yX3_builtCount : MethodName := ⟨RX3, "builtCount", "()I"⟩
abbrev cX3_boughtCount : ByteArray := prog_5_method_7_code
def yX3_boughtCount : MethodName := ⟨RX3, "boughtCount", "()I"⟩
abbrev cX3_ofWard : ByteArray := prog_5_method_8_code
def yX3_ofWard : MethodName := ⟨RX3, "ofWard", "(II)I"⟩
abbrev cX3_ofProject : ByteArray := prog_5_method_9_code
def yX3_ofProject : MethodName := ⟨RX3, "ofProject", "(II)I"⟩
abbrev cX3_ofVoter : ByteArray := prog_5_method_10_code
def yX3_ofVoter : MethodName := ⟨RX3, "ofVoter", "(II)I"⟩
abbrev cX3_likedCount : ByteArray := prog_5_method_11_code
def yX3_likedCount : MethodName := ⟨RX3, "likedCount", "(I)I"⟩
abbrev cX3_pleasedOf : ByteArray := prog_5_method_12_code
def yX3_pleasedOf : MethodName := ⟨RX3, "pleasedOf", "(I)I"⟩
abbrev cX3_isOpen : ByteArray := prog_5_method_13_code
def yX3_isOpen : MethodName := ⟨RX3, "isOpen", "(I)Z"⟩
abbrev cX3_isFan : ByteArray := prog_5_method_14_code
def yX3_isFan : MethodName := ⟨RX3, "isFan", "(II)Z"⟩
abbrev cX3_fanCount : ByteArray := prog_5_method_15_code
def yX3_fanCount : MethodName := ⟨RX3, "fanCount", "(I)I"⟩
abbrev cX3_coinsOfFans : ByteArray := prog_5_method_16_code
def yX3_coinsOfFans : MethodName := ⟨RX3, "coinsOfFans", "(I)I"⟩
abbrev cX3_shareOf : ByteArray := prog_5_method_17_code
def yX3_shareOf : MethodName := ⟨RX3, "shareOf", "(I)I"⟩
abbrev cX3_setFan : ByteArray := prog_5_method_18_code
def yX3_setFan : MethodName := ⟨RX3, "setFan", "(IIZ)V"⟩
abbrev cX3_putIntoPurse : ByteArray := prog_5_method_19_code
def yX3_putIntoPurse : MethodName := ⟨RX3, "putIntoPurse", "(II)V"⟩
abbrev cX3_reopen : ByteArray := prog_5_method_20_code
def yX3_reopen : MethodName := ⟨RX3, "reopen", "(I)V"⟩
abbrev cX3_runYears : ByteArray := prog_5_method_21_code
def yX3_runYears : MethodName := ⟨RX3, "runYears", "(I)V"⟩
abbrev cX3_collect : ByteArray := prog_5_method_22_code
def yX3_collect : MethodName := ⟨RX3, "collect", "()V"⟩
abbrev cX3_buyFromPurses : ByteArray := prog_5_method_23_code
def yX3_buyFromPurses : MethodName := ⟨RX3, "buyFromPurses", "()V"⟩
abbrev cX3_bestToBuy : ByteArray := prog_5_method_24_code
def yX3_bestToBuy : MethodName := ⟨RX3, "bestToBuy", "()I"⟩
abbrev cX3_hasRoom : ByteArray := prog_5_method_25_code
def yX3_hasRoom : MethodName := ⟨RX3, "hasRoom", "(I)Z"⟩
abbrev cX3_buy : ByteArray := prog_5_method_26_code
def yX3_buy : MethodName := ⟨RX3, "buy", "(II)V"⟩
abbrev cX3_build : ByteArray := prog_5_method_27_code
def yX3_build : MethodName := ⟨RX3, "build", "(I)V"⟩
abbrev cX3_buildFromPot : ByteArray := prog_5_method_28_code
def yX3_buildFromPot : MethodName := ⟨RX3, "buildFromPot", "()V"⟩
abbrev cX3_bestForPot : ByteArray := prog_5_method_29_code
def yX3_bestForPot : MethodName := ⟨RX3, "bestForPot", "()I"⟩
abbrev cX3_isBetterForPot : ByteArray := prog_5_method_30_code
def yX3_isBetterForPot : MethodName := ⟨RX3, "isBetterForPot", "(II)Z"⟩
abbrev cX3_grow : ByteArray := prog_5_method_31_code
def yX3_grow : MethodName := ⟨RX3, "grow", "()V"⟩
abbrev cX3_isBanned : ByteArray := prog_5_method_32_code
def yX3_isBanned : MethodName := ⟨RX3, "isBanned", "(I)Z"⟩
abbrev cX3_holds : ByteArray := prog_5_method_33_code
def yX3_holds : MethodName := ⟨RX3, "holds", "(I)Z"⟩
abbrev cX3_push : ByteArray := prog_5_method_34_code
def yX3_push : MethodName := ⟨RX3, "push", "(I)V"⟩
abbrev cX3_pop : ByteArray := prog_5_method_35_code
def yX3_pop : MethodName := ⟨RX3, "pop", "()I"⟩
abbrev cX3_single : ByteArray := prog_5_method_36_code
def yX3_single : MethodName := ⟨RX3, "single", "(II)I"⟩
abbrev cX3_reckon : ByteArray := prog_5_method_37_code
def yX3_reckon : MethodName := ⟨RX3, "reckon", "(III)I"⟩
abbrev cX3_compare : ByteArray := prog_5_method_38_code
def yX3_compare : MethodName := ⟨RX3, "compare", "(III)I"⟩
def RX4 : String := "BudgetJury$Plan"
def TX4 : u_T := fun k => match k with
  | 0 => ("BudgetJury$Plan", "wards", "I", false)
  | 1 => ("BudgetJury$Plan", "projects", "I", false)
  | 2 => ("BudgetJury$Plan", "voters", "I", false)
  | 3 => ("BudgetJury$Plan", "bans", "I", false)
  | 4 => ("BudgetJury$Plan", "budget", "I", false)
  | 5 => ("BudgetJury$Plan", "stepCount", "I", false)
  | 6 => ("BudgetJury$Plan", "cap", "[I", true)
  | 7 => ("BudgetJury$Plan", "wardOf", "[I", true)
  | 8 => ("BudgetJury$Plan", "cost", "[I", true)
  | 9 => ("BudgetJury$Plan", "grows", "[I", true)
  | 10 => ("BudgetJury$Plan", "fans", "[I", true)
  | 11 => ("BudgetJury$Plan", "banned", "[I", true)
  | 12 => ("BudgetJury$Plan", "banStart", "[I", true)
  | 13 => ("BudgetJury$Plan", "step", "[I", true)
  | _ => ("BudgetJury$Plan", "argument", "[I", true)
def tyX4 : Nat → FieldType := fun k => match k with
  | 0 => .int
  | 1 => .int
  | 2 => .int
  | 3 => .int
  | 4 => .int
  | 5 => .int
  | 6 => .array .int
  | 7 => .array .int
  | 8 => .array .int
  | 9 => .array .int
  | 10 => .array .int
  | 11 => .array .int
  | 12 => .array .int
  | 13 => .array .int
  | _ => .array .int
abbrev wsX40 : List Cond := u_ws RX4 TX4 15
theorem nmX4 : ∀ a, a < 15 → ∀ b, b < 15 → a ≠ b → (TX4 a).2.1 ≠ (TX4 b).2.1 := by decide +kernel
theorem tyX4_ok : ∀ k, k < 15 → parseFieldDescriptor (TX4 k).2.2.1 = some (tyX4 k) := by decide +kernel
abbrev cX4_init : ByteArray := prog_6_method_1_code
def yX4_init : MethodName := ⟨RX4, "<init>", "()V"⟩
abbrev cX4_clear : ByteArray := prog_6_method_2_code
def yX4_clear : MethodName := ⟨RX4, "clear", "()V"⟩
abbrev cX4_hasWard : ByteArray := prog_6_method_3_code
def yX4_hasWard : MethodName := ⟨RX4, "hasWard", "(I)Z"⟩
abbrev cX4_hasProject : ByteArray := prog_6_method_4_code
def yX4_hasProject : MethodName := ⟨RX4, "hasProject", "(I)Z"⟩
abbrev cX4_hasVoter : ByteArray := prog_6_method_5_code
def yX4_hasVoter : MethodName := ⟨RX4, "hasVoter", "(I)Z"⟩
def RX5 : String := "BudgetJury$Role"
def TX5 : u_T := fun k => match k with
  | _ => ("", "", "", false)
def tyX5 : Nat → FieldType := fun k => match k with
  | _ => .int
abbrev wsX50 : List Cond := u_ws RX5 TX5 0
theorem nmX5 : ∀ a, a < 0 → ∀ b, b < 0 → a ≠ b → (TX5 a).2.1 ≠ (TX5 b).2.1 := by decide +kernel
theorem tyX5_ok : ∀ k, k < 0 → parseFieldDescriptor (TX5 k).2.2.1 = some (tyX5 k) := by decide +kernel
def RX6 : String := "BudgetJury$Step"
def TX6 : u_T := fun k => match k with
  | _ => ("", "", "", false)
def tyX6 : Nat → FieldType := fun k => match k with
  | _ => .int
abbrev wsX60 : List Cond := u_ws RX6 TX6 0
theorem nmX6 : ∀ a, a < 0 → ∀ b, b < 0 → a ≠ b → (TX6 a).2.1 ≠ (TX6 b).2.1 := by decide +kernel
theorem tyX6_ok : ∀ k, k < 0 → parseFieldDescriptor (TX6 k).2.2.1 = some (tyX6 k) := by decide +kernel
def RX7 : String := "BudgetJury$Tokens"
def TX7 : u_T := fun k => match k with
  | 0 => ("BudgetJury$Tokens", "kind", "[I", true)
  | 1 => ("BudgetJury$Tokens", "value", "[J", true)
  | 2 => ("BudgetJury$Tokens", "start", "[I", true)
  | 3 => ("BudgetJury$Tokens", "keywords", "[J", true)
  | 4 => ("BudgetJury$Tokens", "tape", "[B", true)
  | 5 => ("BudgetJury$Tokens", "length", "I", false)
  | _ => ("BudgetJury$Tokens", "at", "I", false)
def tyX7 : Nat → FieldType := fun k => match k with
  | 0 => .array .int
  | 1 => .array .long
  | 2 => .array .int
  | 3 => .array .long
  | 4 => .array .byte
  | 5 => .int
  | _ => .int
abbrev wsX70 : List Cond := u_ws RX7 TX7 7
theorem nmX7 : ∀ a, a < 7 → ∀ b, b < 7 → a ≠ b → (TX7 a).2.1 ≠ (TX7 b).2.1 := by decide +kernel
theorem tyX7_ok : ∀ k, k < 7 → parseFieldDescriptor (TX7 k).2.2.1 = some (tyX7 k) := by decide +kernel
abbrev cX7_init : ByteArray := prog_9_method_1_code
def yX7_init : MethodName := ⟨RX7, "<init>", "([B)V"⟩
abbrev cX7_cut : ByteArray := prog_9_method_2_code
def yX7_cut : MethodName := ⟨RX7, "cut", "(I)V"⟩
abbrev cX7_startOf : ByteArray := prog_9_method_3_code
def yX7_startOf : MethodName := ⟨RX7, "startOf", "(I)I"⟩
abbrev cX7_skipBlanks : ByteArray := prog_9_method_4_code
def yX7_skipBlanks : MethodName := ⟨RX7, "skipBlanks", "()V"⟩
abbrev cX7_cutOne : ByteArray := prog_9_method_5_code
def yX7_cutOne : MethodName := ⟨RX7, "cutOne", "(I)I"⟩
abbrev cX7_cutWord : ByteArray := prog_9_method_6_code
def yX7_cutWord : MethodName := ⟨RX7, "cutWord", "(I)I"⟩
abbrev cX7_cutNumber : ByteArray := prog_9_method_7_code
def yX7_cutNumber : MethodName := ⟨RX7, "cutNumber", "(I)I"⟩
abbrev cX7_cutSymbol : ByteArray := prog_9_method_8_code
def yX7_cutSymbol : MethodName := ⟨RX7, "cutSymbol", "()I"⟩
abbrev cX7_signAt : ByteArray := prog_9_method_9_code
def yX7_signAt : MethodName := ⟨RX7, "signAt", "(I)I"⟩
abbrev cX7_isLetter : ByteArray := prog_9_method_10_code
def yX7_isLetter : MethodName := ⟨RX7, "isLetter", "(I)Z"⟩
abbrev cX7_isDigit : ByteArray := prog_9_method_11_code
def yX7_isDigit : MethodName := ⟨RX7, "isDigit", "(I)Z"⟩
abbrev cX7_digitOf : ByteArray := prog_9_method_12_code
def yX7_digitOf : MethodName := ⟨RX7, "digitOf", "(C)I"⟩
def RX8 : String := "BudgetJury"
def TX8 : u_T := fun k => match k with
  | 0 => ("BudgetJury", "tape", "[B", true)
  | 1 => ("BudgetJury", "tapeLength", "I", false)
  | 2 => ("BudgetJury", "errorPosition", "I", false)
  | 3 => ("BudgetJury", "plan", "LBudgetJury$Plan;", false)
  | 4 => ("BudgetJury", "draft", "LBudgetJury$Plan;", false)
  | 5 => ("BudgetJury", "tokens", "LBudgetJury$Tokens;", true)
  | 6 => ("BudgetJury", "grammar", "LBudgetJury$Grammar;", true)
  | 7 => ("BudgetJury", "checker", "LBudgetJury$Checker;", true)
  | 8 => ("BudgetJury", "now", "LBudgetJury$Parish;", true)
  | _ => ("BudgetJury", "trial", "LBudgetJury$Parish;", true)
def tyX8 : Nat → FieldType := fun k => match k with
  | 0 => .array .byte
  | 1 => .int
  | 2 => .int
  | 3 => .object "BudgetJury$Plan"
  | 4 => .object "BudgetJury$Plan"
  | 5 => .object "BudgetJury$Tokens"
  | 6 => .object "BudgetJury$Grammar"
  | 7 => .object "BudgetJury$Checker"
  | 8 => .object "BudgetJury$Parish"
  | _ => .object "BudgetJury$Parish"
abbrev wsX80 : List Cond := u_ws RX8 TX8 10
theorem nmX8 : ∀ a, a < 10 → ∀ b, b < 10 → a ≠ b → (TX8 a).2.1 ≠ (TX8 b).2.1 := by decide +kernel
theorem tyX8_ok : ∀ k, k < 10 → parseFieldDescriptor (TX8 k).2.2.1 = some (tyX8 k) := by decide +kernel
abbrev cX8_init : ByteArray := prog_1_method_1_code
def yX8_init : MethodName := ⟨RX8, "<init>", "()V"⟩
abbrev cX8_feed : ByteArray := prog_1_method_2_code
def yX8_feed : MethodName := ⟨RX8, "feed", "(IIIII)I"⟩
abbrev cX8_append : ByteArray := prog_1_method_3_code
def yX8_append : MethodName := ⟨RX8, "append", "(I)V"⟩
abbrev cX8_trim : ByteArray := prog_1_method_4_code
def yX8_trim : MethodName := ⟨RX8, "trim", "(I)I"⟩
abbrev cX8_teach : ByteArray := prog_1_method_5_code
def yX8_teach : MethodName := ⟨RX8, "teach", "()I"⟩
abbrev cX8_errorAt : ByteArray := prog_1_method_6_code
def yX8_errorAt : MethodName := ⟨RX8, "errorAt", "()I"⟩
abbrev cX8_count : ByteArray := prog_1_method_7_code
def yX8_count : MethodName := ⟨RX8, "count", "(I)I"⟩
abbrev cX8_countOf : ByteArray := prog_1_method_8_code
def yX8_countOf : MethodName := ⟨RX8, "countOf", "(I)I"⟩
abbrev cX8_ward : ByteArray := prog_1_method_9_code
def yX8_ward : MethodName := ⟨RX8, "ward", "(II)I"⟩
abbrev cX8_project : ByteArray := prog_1_method_10_code
def yX8_project : MethodName := ⟨RX8, "project", "(II)I"⟩
abbrev cX8_share : ByteArray := prog_1_method_11_code
def yX8_share : MethodName := ⟨RX8, "share", "(I)I"⟩
abbrev cX8_voter : ByteArray := prog_1_method_12_code
def yX8_voter : MethodName := ⟨RX8, "voter", "(II)I"⟩
abbrev cX8_likes : ByteArray := prog_1_method_13_code
def yX8_likes : MethodName := ⟨RX8, "likes", "(II)Z"⟩
abbrev cX8_envy : ByteArray := prog_1_method_14_code
def yX8_envy : MethodName := ⟨RX8, "envy", "(II)I"⟩
abbrev cX8_next : ByteArray := prog_1_method_15_code
def yX8_next : MethodName := ⟨RX8, "next", "()I"⟩
abbrev cX8_approve : ByteArray := prog_1_method_16_code
def yX8_approve : MethodName := ⟨RX8, "approve", "(IIZ)Z"⟩
abbrev cX8_give : ByteArray := prog_1_method_17_code
def yX8_give : MethodName := ⟨RX8, "give", "(II)I"⟩
abbrev cX8_setBudget : ByteArray := prog_1_method_18_code
def yX8_setBudget : MethodName := ⟨RX8, "setBudget", "(I)I"⟩
abbrev cX8_open : ByteArray := prog_1_method_19_code
def yX8_open : MethodName := ⟨RX8, "open", "(I)I"⟩
abbrev cX8_pass : ByteArray := prog_1_method_20_code
def yX8_pass : MethodName := ⟨RX8, "pass", "(I)I"⟩
abbrev cX8_until : ByteArray := prog_1_method_21_code
def yX8_until : MethodName := ⟨RX8, "until", "(I)I"⟩
abbrev cX8_foresee : ByteArray := prog_1_method_22_code
def yX8_foresee : MethodName := ⟨RX8, "foresee", "(II)I"⟩
abbrev cX8_advise : ByteArray := prog_1_method_23_code
def yX8_advise : MethodName := ⟨RX8, "advise", "(II)I"⟩
abbrev cX8_spare : ByteArray := prog_1_method_24_code
def yX8_spare : MethodName := ⟨RX8, "spare", "(I)I"⟩
abbrev cX8_mean : ByteArray := prog_1_method_25_code
def yX8_mean : MethodName := ⟨RX8, "mean", "()D"⟩
abbrev cX8_digest : ByteArray := prog_1_method_26_code
def yX8_digest : MethodName := ⟨RX8, "digest", "()J"⟩
def RX9 : String := "BudgetJuryModel$Plan"
def TX9 : u_T := fun k => match k with
  | 0 => ("BudgetJuryModel$Plan", "wards", "I", false)
  | 1 => ("BudgetJuryModel$Plan", "cap", "[I", true)
  | 2 => ("BudgetJuryModel$Plan", "projects", "I", false)
  | 3 => ("BudgetJuryModel$Plan", "cost", "[I", true)
  | 4 => ("BudgetJuryModel$Plan", "ward", "[I", true)
  | 5 => ("BudgetJuryModel$Plan", "grows", "[I", true)
  | 6 => ("BudgetJuryModel$Plan", "voters", "I", false)
  | 7 => ("BudgetJuryModel$Plan", "likes", "[I", true)
  | 8 => ("BudgetJuryModel$Plan", "budget", "I", false)
  | 9 => ("BudgetJuryModel$Plan", "bans", "I", false)
  | 10 => ("BudgetJuryModel$Plan", "bansRead", "I", false)
  | 11 => ("BudgetJuryModel$Plan", "banned", "[I", true)
  | 12 => ("BudgetJuryModel$Plan", "test", "[I", true)
  | 13 => ("BudgetJuryModel$Plan", "testEnd", "[I", true)
  | 14 => ("BudgetJuryModel$Plan", "code", "[I", true)
  | 15 => ("BudgetJuryModel$Plan", "size", "I", false)
  | 16 => ("BudgetJuryModel$Plan", "open", "[I", true)
  | _ => ("BudgetJuryModel$Plan", "opens", "I", false)
def tyX9 : Nat → FieldType := fun k => match k with
  | 0 => .int
  | 1 => .array .int
  | 2 => .int
  | 3 => .array .int
  | 4 => .array .int
  | 5 => .array .int
  | 6 => .int
  | 7 => .array .int
  | 8 => .int
  | 9 => .int
  | 10 => .int
  | 11 => .array .int
  | 12 => .array .int
  | 13 => .array .int
  | 14 => .array .int
  | 15 => .int
  | 16 => .array .int
  | _ => .int
abbrev wsX90 : List Cond := u_ws RX9 TX9 18
theorem nmX9 : ∀ a, a < 18 → ∀ b, b < 18 → a ≠ b → (TX9 a).2.1 ≠ (TX9 b).2.1 := by decide +kernel
theorem tyX9_ok : ∀ k, k < 18 → parseFieldDescriptor (TX9 k).2.2.1 = some (tyX9 k) := by decide +kernel
abbrev cX9_init : ByteArray := prog_12_method_1_code
def yX9_init : MethodName := ⟨RX9, "<init>", "()V"⟩
def RX10 : String := "BudgetJuryModel$State"
def TX10 : u_T := fun k => match k with
  | 0 => ("BudgetJuryModel$State", "year", "I", false)
  | 1 => ("BudgetJuryModel$State", "pot", "I", false)
  | 2 => ("BudgetJuryModel$State", "paid", "I", false)
  | 3 => ("BudgetJuryModel$State", "purse", "[I", true)
  | 4 => ("BudgetJuryModel$State", "gave", "[I", true)
  | 5 => ("BudgetJuryModel$State", "likes", "[I", true)
  | 6 => ("BudgetJuryModel$State", "cost", "[I", true)
  | 7 => ("BudgetJuryModel$State", "built", "[I", true)
  | 8 => ("BudgetJuryModel$State", "bought", "[I", true)
  | 9 => ("BudgetJuryModel$State", "barred", "I", false)
  | 10 => ("BudgetJuryModel$State", "stack", "[I", true)
  | _ => ("BudgetJuryModel$State", "this$0", "LBudgetJuryModel;", true)
def tyX10 : Nat → FieldType := fun k => match k with
  | 0 => .int
  | 1 => .int
  | 2 => .int
  | 3 => .array .int
  | 4 => .array .int
  | 5 => .array .int
  | 6 => .array .int
  | 7 => .array .int
  | 8 => .array .int
  | 9 => .int
  | 10 => .array .int
  | _ => .object "BudgetJuryModel"
abbrev wsX100 : List Cond := u_ws RX10 TX10 12
theorem nmX10 : ∀ a, a < 12 → ∀ b, b < 12 → a ≠ b → (TX10 a).2.1 ≠ (TX10 b).2.1 := by decide +kernel
theorem tyX10_ok : ∀ k, k < 12 → parseFieldDescriptor (TX10 k).2.2.1 = some (tyX10 k) := by decide +kernel
abbrev cX10_init : ByteArray := prog_13_method_1_code
def yX10_init : MethodName := ⟨RX10, "<init>", "(LBudgetJuryModel;)V"⟩
abbrev cX10_copy : ByteArray := prog_13_method_2_code
def yX10_copy : MethodName := ⟨RX10, "copy", "([I[I)V"⟩
abbrev cX10_become : ByteArray := prog_13_method_3_code
def yX10_become : MethodName := ⟨RX10, "become", "(LBudgetJuryModel$State;)LBudgetJuryModel$State;"⟩
abbrev cX10_begin : ByteArray := prog_13_method_4_code
def yX10_begin : MethodName := ⟨RX10, "begin", "()V"⟩
abbrev cX10_isFan : ByteArray := prog_13_method_5_code
def yX10_isFan : MethodName := ⟨RX10, "isFan", "(II)Z"⟩
abbrev cX10_fans : ByteArray := prog_13_method_6_code
def yX10_fans : MethodName := ⟨RX10, "fans", "(I)I"⟩
abbrev cX10_together : ByteArray := prog_13_method_7_code
def yX10_together : MethodName := ⟨RX10, "together", "(II)I"⟩
abbrev cX10_share : ByteArray := prog_13_method_8_code
def yX10_share : MethodName := ⟨RX10, "share", "(I)I"⟩
abbrev cX10_pleased : ByteArray := prog_13_method_9_code
def yX10_pleased : MethodName := ⟨RX10, "pleased", "(I)I"⟩
abbrev cX10_isBanned : ByteArray := prog_13_method_10_code
def yX10_isBanned : MethodName := ⟨RX10, "isBanned", "(I)Z"⟩
abbrev cX10_canBeChosen : ByteArray := prog_13_method_11_code
def yX10_canBeChosen : MethodName := ⟨RX10, "canBeChosen", "(I)Z"⟩
abbrev cX10_pay : ByteArray := prog_13_method_12_code
def yX10_pay : MethodName := ⟨RX10, "pay", "()V"⟩
abbrev cX10_next : ByteArray := prog_13_method_13_code
def yX10_next : MethodName := ⟨RX10, "next", "()I"⟩
abbrev cX10_buy : ByteArray := prog_13_method_14_code
def yX10_buy : MethodName := ⟨RX10, "buy", "(I)V"⟩
abbrev cX10_build : ByteArray := prog_13_method_15_code
def yX10_build : MethodName := ⟨RX10, "build", "(I)V"⟩
abbrev cX10_nextOfPot : ByteArray := prog_13_method_16_code
def yX10_nextOfPot : MethodName := ⟨RX10, "nextOfPot", "()I"⟩
abbrev cX10_pass : ByteArray := prog_13_method_17_code
def yX10_pass : MethodName := ⟨RX10, "pass", "()I"⟩
abbrev cX10_pass_ : ByteArray := prog_13_method_18_code
def yX10_pass_ : MethodName := ⟨RX10, "pass", "(I)LBudgetJuryModel$State;"⟩
abbrev cX10_purses : ByteArray := prog_13_method_19_code
def yX10_purses : MethodName := ⟨RX10, "purses", "()I"⟩
abbrev cX10_allBuilt : ByteArray := prog_13_method_20_code
def yX10_allBuilt : MethodName := ⟨RX10, "allBuilt", "(Z)I"⟩
abbrev cX10_counted : ByteArray := prog_13_method_21_code
def yX10_counted : MethodName := ⟨RX10, "counted", "(I)I"⟩
abbrev cX10_carryOut : ByteArray := prog_13_method_22_code
def yX10_carryOut : MethodName := ⟨RX10, "carryOut", "(II)I"⟩
abbrev cX10_pushed : ByteArray := prog_13_method_23_code
def yX10_pushed : MethodName := ⟨RX10, "pushed", "(II)I"⟩
def RX11 : String := "BudgetJuryModel"
def TX11 : u_T := fun k => match k with
  | 0 => ("BudgetJuryModel", "thrown", "I", false)
  | 1 => ("BudgetJuryModel", "tape", "[I", true)
  | 2 => ("BudgetJuryModel", "size", "I", false)
  | 3 => ("BudgetJuryModel", "errorAt", "I", false)
  | 4 => ("BudgetJuryModel", "budget", "I", false)
  | 5 => ("BudgetJuryModel", "kind", "[I", true)
  | 6 => ("BudgetJuryModel", "from", "[I", true)
  | 7 => ("BudgetJuryModel", "many", "[I", true)
  | 8 => ("BudgetJuryModel", "role", "[I", true)
  | 9 => ("BudgetJuryModel", "meant", "[I", true)
  | 10 => ("BudgetJuryModel", "token", "I", false)
  | 11 => ("BudgetJuryModel", "depth", "I", false)
  | 12 => ("BudgetJuryModel", "plan", "LBudgetJuryModel$Plan;", false)
  | 13 => ("BudgetJuryModel", "reading", "LBudgetJuryModel$Plan;", false)
  | 14 => ("BudgetJuryModel", "s", "LBudgetJuryModel$State;", true)
  | _ => ("BudgetJuryModel", "ahead", "LBudgetJuryModel$State;", true)
def tyX11 : Nat → FieldType := fun k => match k with
  | 0 => .int
  | 1 => .array .int
  | 2 => .int
  | 3 => .int
  | 4 => .int
  | 5 => .array .int
  | 6 => .array .int
  | 7 => .array .int
  | 8 => .array .int
  | 9 => .array .int
  | 10 => .int
  | 11 => .int
  | 12 => .object "BudgetJuryModel$Plan"
  | 13 => .object "BudgetJuryModel$Plan"
  | 14 => .object "BudgetJuryModel$State"
  | _ => .object "BudgetJuryModel$State"
abbrev wsX110 : List Cond := u_ws RX11 TX11 16
theorem nmX11 : ∀ a, a < 16 → ∀ b, b < 16 → a ≠ b → (TX11 a).2.1 ≠ (TX11 b).2.1 := by decide +kernel
theorem tyX11_ok : ∀ k, k < 16 → parseFieldDescriptor (TX11 k).2.2.1 = some (tyX11 k) := by decide +kernel
abbrev cX11_init : ByteArray := prog_11_method_1_code
def yX11_init : MethodName := ⟨RX11, "<init>", "()V"⟩
abbrev cX11_thrown : ByteArray := prog_11_method_2_code
def yX11_thrown : MethodName := ⟨RX11, "thrown", "()I"⟩
abbrev cX11_no : ByteArray := prog_11_method_3_code
def yX11_no : MethodName := ⟨RX11, "no", "(I)I"⟩
abbrev cX11_isIn : ByteArray := prog_11_method_4_code
def yX11_isIn : MethodName := ⟨RX11, "isIn", "(III)Z"⟩
abbrev cX11_isWard : ByteArray := prog_11_method_5_code
def yX11_isWard : MethodName := ⟨RX11, "isWard", "(I)Z"⟩
abbrev cX11_isProject : ByteArray := prog_11_method_6_code
def yX11_isProject : MethodName := ⟨RX11, "isProject", "(I)Z"⟩
abbrev cX11_isVoter : ByteArray := prog_11_method_7_code
def yX11_isVoter : MethodName := ⟨RX11, "isVoter", "(I)Z"⟩
abbrev cX11_isPushed : ByteArray := prog_11_method_8_code
def yX11_isPushed : MethodName := ⟨RX11, "isPushed", "(I)Z"⟩
abbrev cX11_both : ByteArray := prog_11_method_9_code
def yX11_both : MethodName := ⟨RX11, "both", "(III)I"⟩
abbrev cX11_isLetter : ByteArray := prog_11_method_10_code
def yX11_isLetter : MethodName := ⟨RX11, "isLetter", "(I)Z"⟩
abbrev cX11_isDigit : ByteArray := prog_11_method_11_code
def yX11_isDigit : MethodName := ⟨RX11, "isDigit", "(I)Z"⟩
abbrev cX11_byteOf : ByteArray := prog_11_method_12_code
def yX11_byteOf : MethodName := ⟨RX11, "byteOf", "(I)I"⟩
abbrev cX11_kindAt : ByteArray := prog_11_method_13_code
def yX11_kindAt : MethodName := ⟨RX11, "kindAt", "(II)I"⟩
abbrev cX11_word : ByteArray := prog_11_method_14_code
def yX11_word : MethodName := ⟨RX11, "word", "(II)I"⟩
abbrev cX11_cut : ByteArray := prog_11_method_15_code
def yX11_cut : MethodName := ⟨RX11, "cut", "()V"⟩
abbrev cX11_is : ByteArray := prog_11_method_16_code
def yX11_is : MethodName := ⟨RX11, "is", "(I)Z"⟩
abbrev cX11_isSign : ByteArray := prog_11_method_17_code
def yX11_isSign : MethodName := ⟨RX11, "isSign", "(C)Z"⟩
abbrev cX11_eat : ByteArray := prog_11_method_18_code
def yX11_eat : MethodName := ⟨RX11, "eat", "(I)Z"⟩
abbrev cX11_eatSign : ByteArray := prog_11_method_19_code
def yX11_eatSign : MethodName := ⟨RX11, "eatSign", "(C)Z"⟩
abbrev cX11_eatAs : ByteArray := prog_11_method_20_code
def yX11_eatAs : MethodName := ⟨RX11, "eatAs", "(II)Z"⟩
abbrev cX11_put : ByteArray := prog_11_method_21_code
def yX11_put : MethodName := ⟨RX11, "put", "(I)V"⟩
abbrev cX11_isPlan : ByteArray := prog_11_method_22_code
def yX11_isPlan : MethodName := ⟨RX11, "isPlan", "()Z"⟩
abbrev cX11_isWardLine : ByteArray := prog_11_method_23_code
def yX11_isWardLine : MethodName := ⟨RX11, "isWardLine", "()Z"⟩
abbrev cX11_isProjectLine : ByteArray := prog_11_method_24_code
def yX11_isProjectLine : MethodName := ⟨RX11, "isProjectLine", "()Z"⟩
abbrev cX11_isVoterLine : ByteArray := prog_11_method_25_code
def yX11_isVoterLine : MethodName := ⟨RX11, "isVoterLine", "()Z"⟩
abbrev cX11_isBudgetLine : ByteArray := prog_11_method_26_code
def yX11_isBudgetLine : MethodName := ⟨RX11, "isBudgetLine", "()Z"⟩
abbrev cX11_isBanLine : ByteArray := prog_11_method_27_code
def yX11_isBanLine : MethodName := ⟨RX11, "isBanLine", "()Z"⟩
abbrev cX11_isTest : ByteArray := prog_11_method_28_code
def yX11_isTest : MethodName := ⟨RX11, "isTest", "()Z"⟩
abbrev cX11_isBoth : ByteArray := prog_11_method_29_code
def yX11_isBoth : MethodName := ⟨RX11, "isBoth", "()Z"⟩
abbrev cX11_isDeeper : ByteArray := prog_11_method_30_code
def yX11_isDeeper : MethodName := ⟨RX11, "isDeeper", "()Z"⟩
abbrev cX11_isName : ByteArray := prog_11_method_31_code
def yX11_isName : MethodName := ⟨RX11, "isName", "(I)Z"⟩
abbrev cX11_isNamed : ByteArray := prog_11_method_32_code
def yX11_isNamed : MethodName := ⟨RX11, "isNamed", "(I)Z"⟩
abbrev cX11_isSingle : ByteArray := prog_11_method_33_code
def yX11_isSingle : MethodName := ⟨RX11, "isSingle", "()Z"⟩
abbrev cX11_isSum : ByteArray := prog_11_method_34_code
def yX11_isSum : MethodName := ⟨RX11, "isSum", "()Z"⟩
abbrev cX11_isProduct : ByteArray := prog_11_method_35_code
def yX11_isProduct : MethodName := ⟨RX11, "isProduct", "()Z"⟩
abbrev cX11_isInside : ByteArray := prog_11_method_36_code
def yX11_isInside : MethodName := ⟨RX11, "isInside", "(IZ)Z"⟩
abbrev cX11_isValue : ByteArray := prog_11_method_37_code
def yX11_isValue : MethodName := ⟨RX11, "isValue", "()Z"⟩
abbrev cX11_numberAt : ByteArray := prog_11_method_38_code
def yX11_numberAt : MethodName := ⟨RX11, "numberAt", "(I)I"⟩
abbrev cX11_isSame : ByteArray := prog_11_method_39_code
def yX11_isSame : MethodName := ⟨RX11, "isSame", "(II)Z"⟩
abbrev cX11_told : ByteArray := prog_11_method_40_code
def yX11_told : MethodName := ⟨RX11, "told", "(II)I"⟩
abbrev cX11_look : ByteArray := prog_11_method_41_code
def yX11_look : MethodName := ⟨RX11, "look", "(II)I"⟩
abbrev cX11_isNew : ByteArray := prog_11_method_42_code
def yX11_isNew : MethodName := ⟨RX11, "isNew", "(III)I"⟩
abbrev cX11_inRange : ByteArray := prog_11_method_43_code
def yX11_inRange : MethodName := ⟨RX11, "inRange", "(III)I"⟩
abbrev cX11_ban : ByteArray := prog_11_method_44_code
def yX11_ban : MethodName := ⟨RX11, "ban", "()I"⟩
abbrev cX11_like : ByteArray := prog_11_method_45_code
def yX11_like : MethodName := ⟨RX11, "like", "(I)I"⟩
abbrev cX11_errorOf : ByteArray := prog_11_method_46_code
def yX11_errorOf : MethodName := ⟨RX11, "errorOf", "(I)I"⟩
abbrev cX11_numberOf : ByteArray := prog_11_method_47_code
def yX11_numberOf : MethodName := ⟨RX11, "numberOf", "(I)I"⟩
abbrev cX11_read : ByteArray := prog_11_method_48_code
def yX11_read : MethodName := ⟨RX11, "read", "()I"⟩
abbrev cX11_feed : ByteArray := prog_11_method_49_code
def yX11_feed : MethodName := ⟨RX11, "feed", "(IIIII)I"⟩
abbrev cX11_trim : ByteArray := prog_11_method_50_code
def yX11_trim : MethodName := ⟨RX11, "trim", "(I)I"⟩
abbrev cX11_teach : ByteArray := prog_11_method_51_code
def yX11_teach : MethodName := ⟨RX11, "teach", "()I"⟩
abbrev cX11_errorAt : ByteArray := prog_11_method_52_code
def yX11_errorAt : MethodName := ⟨RX11, "errorAt", "()I"⟩
abbrev cX11_counted : ByteArray := prog_11_method_53_code
def yX11_counted : MethodName := ⟨RX11, "counted", "(I)I"⟩
abbrev cX11_count : ByteArray := prog_11_method_54_code
def yX11_count : MethodName := ⟨RX11, "count", "(I)I"⟩
abbrev cX11_wardTold : ByteArray := prog_11_method_55_code
def yX11_wardTold : MethodName := ⟨RX11, "wardTold", "(II)I"⟩
abbrev cX11_ward : ByteArray := prog_11_method_56_code
def yX11_ward : MethodName := ⟨RX11, "ward", "(II)I"⟩
abbrev cX11_projectTold : ByteArray := prog_11_method_57_code
def yX11_projectTold : MethodName := ⟨RX11, "projectTold", "(II)I"⟩
abbrev cX11_project : ByteArray := prog_11_method_58_code
def yX11_project : MethodName := ⟨RX11, "project", "(II)I"⟩
abbrev cX11_share : ByteArray := prog_11_method_59_code
def yX11_share : MethodName := ⟨RX11, "share", "(I)I"⟩
abbrev cX11_voterTold : ByteArray := prog_11_method_60_code
def yX11_voterTold : MethodName := ⟨RX11, "voterTold", "(II)I"⟩
abbrev cX11_voter : ByteArray := prog_11_method_61_code
def yX11_voter : MethodName := ⟨RX11, "voter", "(II)I"⟩
abbrev cX11_likes : ByteArray := prog_11_method_62_code
def yX11_likes : MethodName := ⟨RX11, "likes", "(II)Z"⟩
abbrev cX11_envy : ByteArray := prog_11_method_63_code
def yX11_envy : MethodName := ⟨RX11, "envy", "(II)I"⟩
abbrev cX11_nextOne : ByteArray := prog_11_method_64_code
def yX11_nextOne : MethodName := ⟨RX11, "nextOne", "()I"⟩
abbrev cX11_next : ByteArray := prog_11_method_65_code
def yX11_next : MethodName := ⟨RX11, "next", "()I"⟩
abbrev cX11_approve : ByteArray := prog_11_method_66_code
def yX11_approve : MethodName := ⟨RX11, "approve", "(IIZ)Z"⟩
abbrev cX11_give : ByteArray := prog_11_method_67_code
def yX11_give : MethodName := ⟨RX11, "give", "(II)I"⟩
abbrev cX11_setBudget : ByteArray := prog_11_method_68_code
def yX11_setBudget : MethodName := ⟨RX11, "setBudget", "(I)I"⟩
abbrev cX11_open : ByteArray := prog_11_method_69_code
def yX11_open : MethodName := ⟨RX11, "open", "(I)I"⟩
abbrev cX11_pass : ByteArray := prog_11_method_70_code
def yX11_pass : MethodName := ⟨RX11, "pass", "(I)I"⟩
abbrev cX11_until : ByteArray := prog_11_method_71_code
def yX11_until : MethodName := ⟨RX11, "until", "(I)I"⟩
abbrev cX11_foresee : ByteArray := prog_11_method_72_code
def yX11_foresee : MethodName := ⟨RX11, "foresee", "(II)I"⟩
abbrev cX11_advise : ByteArray := prog_11_method_73_code
def yX11_advise : MethodName := ⟨RX11, "advise", "(II)I"⟩
abbrev cX11_spare : ByteArray := prog_11_method_74_code
def yX11_spare : MethodName := ⟨RX11, "spare", "(I)I"⟩
abbrev cX11_mean : ByteArray := prog_11_method_75_code
def yX11_mean : MethodName := ⟨RX11, "mean", "()D"⟩
abbrev cX11_digest : ByteArray := prog_11_method_76_code
def yX11_digest : MethodName := ⟨RX11, "digest", "()J"⟩
def RJ11 : String := "java/lang/Character"
def TJ11 : u_T := fun k => match k with
  | _ => ("", "", "", false)
def tyJ11 : Nat → FieldType := fun k => match k with
  | _ => .int
abbrev wsJ110 : List Cond := u_ws RJ11 TJ11 0
theorem nmJ11 : ∀ a, a < 0 → ∀ b, b < 0 → a ≠ b → (TJ11 a).2.1 ≠ (TJ11 b).2.1 := by decide +kernel
theorem tyJ11_ok : ∀ k, k < 0 → parseFieldDescriptor (TJ11 k).2.2.1 = some (tyJ11 k) := by decide +kernel
abbrev cJ11_isValidCodePoint_9a6ad : ByteArray := prog_14_method_11_code
def yJ11_isValidCodePoint_9a6ad : MethodName := ⟨RJ11, "isValidCodePoint", "(I)Z"⟩
abbrev cJ11_highSurrogate_5068e : ByteArray := prog_14_method_28_code
def yJ11_highSurrogate_5068e : MethodName := ⟨RJ11, "highSurrogate", "(I)C"⟩
abbrev cJ11_lowSurrogate_5068e : ByteArray := prog_14_method_29_code
def yJ11_lowSurrogate_5068e : MethodName := ⟨RJ11, "lowSurrogate", "(I)C"⟩
def RJ6 : String := "java/lang/Integer"
def TJ6 : u_T := fun k => match k with
  | _ => ("", "", "", false)
def tyJ6 : Nat → FieldType := fun k => match k with
  | _ => .int
abbrev wsJ60 : List Cond := u_ws RJ6 TJ6 0
theorem nmJ6 : ∀ a, a < 0 → ∀ b, b < 0 → a ≠ b → (TJ6 a).2.1 ≠ (TJ6 b).2.1 := by decide +kernel
theorem tyJ6_ok : ∀ k, k < 0 → parseFieldDescriptor (TJ6 k).2.2.1 = some (tyJ6 k) := by decide +kernel
abbrev cJ6_bitCount_0f7a4 : ByteArray := prog_19_method_49_code
def yJ6_bitCount_0f7a4 : MethodName := ⟨RJ6, "bitCount", "(I)I"⟩
def RJ9 : String := "java/lang/Math"
def TJ9 : u_T := fun k => match k with
  | _ => ("", "", "", false)
def tyJ9 : Nat → FieldType := fun k => match k with
  | _ => .int
abbrev wsJ90 : List Cond := u_ws RJ9 TJ9 0
theorem nmJ9 : ∀ a, a < 0 → ∀ b, b < 0 → a ≠ b → (TJ9 a).2.1 ≠ (TJ9 b).2.1 := by decide +kernel
theorem tyJ9_ok : ∀ k, k < 0 → parseFieldDescriptor (TJ9 k).2.2.1 = some (tyJ9 k) := by decide +kernel
abbrev cJ9_max_7cf53 : ByteArray := prog_20_method_65_code
def yJ9_max_7cf53 : MethodName := ⟨RJ9, "max", "(II)I"⟩
abbrev cJ9_min_7cf53 : ByteArray := prog_20_method_69_code
def yJ9_min_7cf53 : MethodName := ⟨RJ9, "min", "(II)I"⟩
def RJ0 : String := "java/lang/String"
def TJ0 : u_T := fun k => match k with
  | _ => ("", "", "", false)
def tyJ0 : Nat → FieldType := fun k => match k with
  | _ => .int
abbrev wsJ00 : List Cond := u_ws RJ0 TJ0 0
theorem nmJ0 : ∀ a, a < 0 → ∀ b, b < 0 → a ≠ b → (TJ0 a).2.1 ≠ (TJ0 b).2.1 := by decide +kernel
theorem tyJ0_ok : ∀ k, k < 0 → parseFieldDescriptor (TJ0 k).2.2.1 = some (tyJ0 k) := by decide +kernel
abbrev cJ0_length_8abf5 : ByteArray := prog_22_method_54_code
def yJ0_length_8abf5 : MethodName := ⟨RJ0, "length", "()I"⟩
abbrev cJ0_charAt_5068e : ByteArray := prog_22_method_56_code
def yJ0_charAt_5068e : MethodName := ⟨RJ0, "charAt", "(I)C"⟩
abbrev cJ0_indexOf_0f7a4 : ByteArray := prog_22_method_79_code
def yJ0_indexOf_0f7a4 : MethodName := ⟨RJ0, "indexOf", "(I)I"⟩
abbrev cJ0_indexOf_7cf53 : ByteArray := prog_22_method_80_code
def yJ0_indexOf_7cf53 : MethodName := ⟨RJ0, "indexOf", "(II)I"⟩
abbrev cJ0_coder_7d493 : ByteArray := prog_22_method_152_code
def yJ0_coder_7d493 : MethodName := ⟨RJ0, "coder", "()B"⟩
abbrev cJ0_isLatin1_aae02 : ByteArray := prog_22_method_154_code
def yJ0_isLatin1_aae02 : MethodName := ⟨RJ0, "isLatin1", "()Z"⟩
abbrev cJ0_checkIndex_df160 : ByteArray := prog_22_method_155_code
def yJ0_checkIndex_df160 : MethodName := ⟨RJ0, "checkIndex", "(II)V"⟩
abbrev cJ0_checkBoundsBeginEnd_23922 : ByteArray := prog_22_method_158_code
def yJ0_checkBoundsBeginEnd_23922 : MethodName := ⟨RJ0, "checkBoundsBeginEnd", "(III)V"⟩
def RJ1 : String := "java/lang/StringLatin1"
def TJ1 : u_T := fun k => match k with
  | _ => ("", "", "", false)
def tyJ1 : Nat → FieldType := fun k => match k with
  | _ => .int
abbrev wsJ10 : List Cond := u_ws RJ1 TJ1 0
theorem nmJ1 : ∀ a, a < 0 → ∀ b, b < 0 → a ≠ b → (TJ1 a).2.1 ≠ (TJ1 b).2.1 := by decide +kernel
theorem tyJ1_ok : ∀ k, k < 0 → parseFieldDescriptor (TJ1 k).2.2.1 = some (tyJ1 k) := by decide +kernel
abbrev cJ1_charAt_3b067 : ByteArray := prog_23_method_2_code
def yJ1_charAt_3b067 : MethodName := ⟨RJ1, "charAt", "([BI)C"⟩
abbrev cJ1_canEncode_9a6ad : ByteArray := prog_23_method_4_code
def yJ1_canEncode_9a6ad : MethodName := ⟨RJ1, "canEncode", "(I)Z"⟩
abbrev cJ1_indexOf_4cfef : ByteArray := prog_23_method_22_code
def yJ1_indexOf_4cfef : MethodName := ⟨RJ1, "indexOf", "([BIII)I"⟩
abbrev cJ1_indexOfChar_4cfef : ByteArray := prog_23_method_23_code
def yJ1_indexOfChar_4cfef : MethodName := ⟨RJ1, "indexOfChar", "([BIII)I"⟩
def RJ2 : String := "java/lang/StringUTF16"
def TJ2 : u_T := fun k => match k with
  | _ => ("", "", "", false)
def tyJ2 : Nat → FieldType := fun k => match k with
  | _ => .int
abbrev wsJ20 : List Cond := u_ws RJ2 TJ2 0
theorem nmJ2 : ∀ a, a < 0 → ∀ b, b < 0 → a ≠ b → (TJ2 a).2.1 ≠ (TJ2 b).2.1 := by decide +kernel
theorem tyJ2_ok : ∀ k, k < 0 → parseFieldDescriptor (TJ2 k).2.2.1 = some (tyJ2 k) := by decide +kernel
abbrev cJ2_getChar_3b067 : ByteArray := prog_24_method_5_code
def yJ2_getChar_3b067 : MethodName := ⟨RJ2, "getChar", "([BI)C"⟩
abbrev cJ2_length_9d52b : ByteArray := prog_24_method_6_code
def yJ2_length_9d52b : MethodName := ⟨RJ2, "length", "([B)I"⟩
abbrev cJ2_indexOf_4cfef : ByteArray := prog_24_method_40_code
def yJ2_indexOf_4cfef : MethodName := ⟨RJ2, "indexOf", "([BIII)I"⟩
abbrev cJ2_indexOfChar_4cfef : ByteArray := prog_24_method_47_code
def yJ2_indexOfChar_4cfef : MethodName := ⟨RJ2, "indexOfChar", "([BIII)I"⟩
abbrev cJ2_indexOfCharUnsafe_4cfef : ByteArray := prog_24_method_48_code
def yJ2_indexOfCharUnsafe_4cfef : MethodName := ⟨RJ2, "indexOfCharUnsafe", "([BIII)I"⟩
abbrev cJ2_indexOfSupplementary_4cfef : ByteArray := prog_24_method_49_code
def yJ2_indexOfSupplementary_4cfef : MethodName := ⟨RJ2, "indexOfSupplementary", "([BIII)I"⟩
abbrev cJ2_charAt_3b067 : ByteArray := prog_24_method_83_code
def yJ2_charAt_3b067 : MethodName := ⟨RJ2, "charAt", "([BI)C"⟩
abbrev cJ2_checkIndex_2214a : ByteArray := prog_24_method_91_code
def yJ2_checkIndex_2214a : MethodName := ⟨RJ2, "checkIndex", "(I[B)V"⟩
abbrev cJ2_checkBoundsBeginEnd_d044e : ByteArray := prog_24_method_93_code
def yJ2_checkBoundsBeginEnd_d044e : MethodName := ⟨RJ2, "checkBoundsBeginEnd", "(II[B)V"⟩
def RJ10 : String := "java/lang/System"
def TJ10 : u_T := fun k => match k with
  | _ => ("", "", "", false)
def tyJ10 : Nat → FieldType := fun k => match k with
  | _ => .int
abbrev wsJ100 : List Cond := u_ws RJ10 TJ10 0
theorem nmJ10 : ∀ a, a < 0 → ∀ b, b < 0 → a ≠ b → (TJ10 a).2.1 ≠ (TJ10 b).2.1 := by decide +kernel
theorem tyJ10_ok : ∀ k, k < 0 → parseFieldDescriptor (TJ10 k).2.2.1 = some (tyJ10 k) := by decide +kernel
def RJ3 : String := "jdk/internal/util/Preconditions"
def TJ3 : u_T := fun k => match k with
  | _ => ("", "", "", false)
def tyJ3 : Nat → FieldType := fun k => match k with
  | _ => .int
abbrev wsJ30 : List Cond := u_ws RJ3 TJ3 0
theorem nmJ3 : ∀ a, a < 0 → ∀ b, b < 0 → a ≠ b → (TJ3 a).2.1 ≠ (TJ3 b).2.1 := by decide +kernel
theorem tyJ3_ok : ∀ k, k < 0 → parseFieldDescriptor (TJ3 k).2.2.1 = some (tyJ3 k) := by decide +kernel
abbrev cJ3_checkIndex_8e157 : ByteArray := prog_27_method_11_code
def yJ3_checkIndex_8e157 : MethodName := ⟨RJ3, "checkIndex", "(IILjava/util/function/BiFunction;)I"⟩
abbrev cJ3_checkFromToIndex_8c36e : ByteArray := prog_27_method_12_code
def yJ3_checkFromToIndex_8c36e : MethodName := ⟨RJ3, "checkFromToIndex", "(IIILjava/util/function/BiFunction;)I"⟩
def RL : String := "BudgetJuryLaw"
abbrev cL_feed : ByteArray := method_3_code
def yL_feed : MethodName := ⟨RL, "feed", "(LBudgetJury;IIIII[J)I"⟩
abbrev cL_trim : ByteArray := method_4_code
def yL_trim : MethodName := ⟨RL, "trim", "(LBudgetJury;I[J)I"⟩
abbrev cL_count : ByteArray := method_5_code
def yL_count : MethodName := ⟨RL, "count", "(LBudgetJury;I[J)I"⟩
abbrev cL_ward : ByteArray := method_6_code
def yL_ward : MethodName := ⟨RL, "ward", "(LBudgetJury;II[J)I"⟩
abbrev cL_project : ByteArray := method_7_code
def yL_project : MethodName := ⟨RL, "project", "(LBudgetJury;II[J)I"⟩
abbrev cL_share : ByteArray := method_8_code
def yL_share : MethodName := ⟨RL, "share", "(LBudgetJury;I[J)I"⟩
abbrev cL_voter : ByteArray := method_9_code
def yL_voter : MethodName := ⟨RL, "voter", "(LBudgetJury;II[J)I"⟩
abbrev cL_likes : ByteArray := method_10_code
def yL_likes : MethodName := ⟨RL, "likes", "(LBudgetJury;II[J)I"⟩
abbrev cL_envy : ByteArray := method_11_code
def yL_envy : MethodName := ⟨RL, "envy", "(LBudgetJury;II[J)I"⟩
abbrev cL_approve : ByteArray := method_12_code
def yL_approve : MethodName := ⟨RL, "approve", "(LBudgetJury;IIZ[J)I"⟩
abbrev cL_give : ByteArray := method_13_code
def yL_give : MethodName := ⟨RL, "give", "(LBudgetJury;II[J)I"⟩
abbrev cL_setBudget : ByteArray := method_14_code
def yL_setBudget : MethodName := ⟨RL, "setBudget", "(LBudgetJury;I[J)I"⟩
abbrev cL_open : ByteArray := method_15_code
def yL_open : MethodName := ⟨RL, "open", "(LBudgetJury;I[J)I"⟩
abbrev cL_pass : ByteArray := method_16_code
def yL_pass : MethodName := ⟨RL, "pass", "(LBudgetJury;I[J)I"⟩
abbrev cL_until : ByteArray := method_17_code
def yL_until : MethodName := ⟨RL, "until", "(LBudgetJury;I[J)I"⟩
abbrev cL_foresee : ByteArray := method_18_code
def yL_foresee : MethodName := ⟨RL, "foresee", "(LBudgetJury;II[J)I"⟩
abbrev cL_advise : ByteArray := method_19_code
def yL_advise : MethodName := ⟨RL, "advise", "(LBudgetJury;II[J)I"⟩
abbrev cL_spare : ByteArray := method_20_code
def yL_spare : MethodName := ⟨RL, "spare", "(LBudgetJury;I[J)I"⟩
abbrev cL_law : ByteArray := code
def yL_law : MethodName := ⟨RL, "law", "([I)Z"⟩
abbrev vwCl : List vw_C := [(RX0, TX0, 7), (RX1, TX1, 5), (RX3, TX3, 15), (RX4, TX4, 15), (RX7, TX7, 7), (RX8, TX8, 10), (RX9, TX9, 18), (RX10, TX10, 12), (RX11, TX11, 16)]
end
section
/-! ===== THE ABSTRACT MACHINE: whole numbers on stack and in locals, a heap of tags, lengths and contents at addresses counted from where the law began ===== -/
/-- a value: 0 int, 1 long, 2 an object's address (-1 null), 3 double (its bits), 4 the script, 5 a text, 6 the row of words, 7 a text's bytes, 8 second half, 9 nothing, 10 some reference, 11 some old reference or null -/
abbrev AV : Type := Nat × Int
/-- a heap: tags (0 nothing), lengths, contents, the next address, the script's length and ints -/
abbrev AH : Type := (Int → Nat) × (Int → Int) × (Int → Int → Int) × Int × Int × (Int → Int)
def am_t (h : AH) (a : Int) : Nat := h.1 a
def am_l (h : AH) (a : Int) : Int := h.2.1 a
def am_m (h : AH) (a i : Int) : Int := h.2.2.1 a i
def am_n (h : AH) : Int := h.2.2.2.1
def am_sl (h : AH) : Int := h.2.2.2.2.1
def am_sx (h : AH) (i : Int) : Int := h.2.2.2.2.2 i
def am_w (h : AH) (a i v : Int) : AH := (h.1, h.2.1, fun b j => if b = a ∧ j = i then v else h.2.2.1 b j, h.2.2.2)
def am_a (h : AH) (t : Nat) (n : Int) (f : Int → Int) : AH := (fun b => if b = h.2.2.2.1 then t else h.1 b, fun b => if b = h.2.2.2.1 then n else h.2.1 b, fun b j => if b = h.2.2.2.1 then f j else h.2.2.1 b j, h.2.2.2.1 + 1, h.2.2.2.2)
def am_sn (h : AH) (n : Int) : AH := (h.1, h.2.1, h.2.2.1, n, h.2.2.2.2)
def am_cp (h : AH) (a i b j n : Int) : AH := (h.1, h.2.1, fun q k => if q = b ∧ j ≤ k ∧ k < j + n then h.2.2.1 a (i + (k - j)) else h.2.2.1 q k, h.2.2.2)
/-- place in the code, locals, stack, heap, cells and slots made so far in this call -/
abbrev AC : Type := Nat × List AV × List AV × AH × Nat × Nat
/-- what is wanted at the end: 0 and the answer, or the kind of what is thrown and its address; the heap -/
abbrev AK : Type := Nat → Int → AH → Prop
abbrev ASh : Type := AC ⊕ (Prop × AC) ⊕ (Prop × AC × AC) ⊕ (Int × List (Int × AC) × AC) ⊕ (Nat × List AV × Nat × Nat × AC) ⊕ (Prop × Nat × List AV × Nat × Nat × AC) ⊕ (Int × AH) ⊕ (Prop × Int × AH) ⊕ (Prop × Nat × AH) ⊕ Unit
def am_go (c : AC) : ASh := .inl c
def am_ck (p : Prop) (c : AC) : ASh := .inr (.inl (p, c))
def am_br (p : Prop) (a b : AC) : ASh := .inr (.inr (.inl (p, a, b)))
def am_sw (x : Int) (l : List (Int × AC)) (d : AC) : ASh := .inr (.inr (.inr (.inl (x, l, d))))
def am_cl (m : Nat) (as : List AV) (pc rt : Nat) (c : AC) : ASh := .inr (.inr (.inr (.inr (.inl (m, as, pc, rt, c)))))
def am_cc (p : Prop) (m : Nat) (as : List AV) (pc rt : Nat) (c : AC) : ASh := .inr (.inr (.inr (.inr (.inr (.inl (p, m, as, pc, rt, c))))))
def am_rt (v : Int) (h : AH) : ASh := .inr (.inr (.inr (.inr (.inr (.inr (.inl (v, h)))))))
def am_rc (p : Prop) (v : Int) (h : AH) : ASh := .inr (.inr (.inr (.inr (.inr (.inr (.inr (.inl (p, v, h))))))))
def am_th (p : Prop) (k : Nat) (h : AH) : ASh := .inr (.inr (.inr (.inr (.inr (.inr (.inr (.inr (.inl (p, k, h)))))))))
def am_bad : ASh := .inr (.inr (.inr (.inr (.inr (.inr (.inr (.inr (.inr ()))))))))
def am_nth {α : Type} : List α → Nat → α → α
  | [], _, d => d
  | a :: _, 0, _ => a
  | _ :: r, n + 1, d => am_nth r n d
def am_get : List AV → Nat → AV
  | [], _ => (9, 0)
  | a :: _, 0 => a
  | _ :: r, n + 1 => am_get r n
def am_set : List AV → Nat → AV → List AV
  | [], _, _ => []
  | _ :: r, 0, v => v :: r
  | a :: r, n + 1, v => a :: am_set r n v
def am_exp : List AV → List AV
  | [] => []
  | (t, x) :: r => match t with
    | 1 => (1, x) :: (8, 0) :: am_exp r
    | 3 => (3, x) :: (8, 0) :: am_exp r
    | t => (t, x) :: am_exp r
def am_pad : Nat → List AV → List AV
  | 0, l => l
  | n + 1, [] => (9, 0) :: am_pad n []
  | n + 1, a :: l => a :: am_pad n l
def am_ent (n : Nat) (as : List AV) : List AV := am_pad n (am_exp as)
def am_pop : Nat → List AV → List AV → Option (List AV × List AV)
  | 0, acc, st => some (acc, st)
  | _ + 1, _, [] => none
  | n + 1, acc, v :: st => am_pop n (v :: acc) st
def am_cat : List AV → Nat
  | [] => 0
  | (t, _) :: r => (match t with
    | 1 => 2
    | 3 => 2
    | _ => 1) + am_cat r
def am_push (rt : Nat) (v : Int) (st : List AV) : List AV := match rt with
  | 9 => st
  | t => (t, v) :: st
/-- numbers of the language -/
def w32 (x : Int) : Int := x.bmod 4294967296
def w64 (x : Int) : Int := x.bmod 18446744073709551616
def am_and (a b : Int) : Int := (Int32.ofInt a &&& Int32.ofInt b).toInt
def am_or (a b : Int) : Int := (Int32.ofInt a ||| Int32.ofInt b).toInt
def am_xor (a b : Int) : Int := (Int32.ofInt a ^^^ Int32.ofInt b).toInt
def am_shl (a b : Int) : Int := (Int32.ofInt a <<< (Int32.ofInt b &&& 31)).toInt
def am_shr (a b : Int) : Int := (Int32.ofInt a >>> (Int32.ofInt b &&& 31)).toInt
def am_ushr (a b : Int) : Int := ((Int32.ofInt a).toUInt32 >>> ((Int32.ofInt b).toUInt32 &&& Int32.toUInt32 31)).toInt32.toInt
def am_i2b (a : Int) : Int := a.bmod 256
def am_i2c (a : Int) : Int := a % 65536
def am_i2d (a : Int) : Int := ((FP.i2d (Int32.ofInt a)).toNat : Int)
def am_dd (a b : Int) : UInt64 := FP.ddiv (UInt64.ofNat a.toNat) (UInt64.ofNat b.toNat)
def am_dcl (a b : Int) : Int := (Op.cmpValue (FP.dcmp (UInt64.ofNat a.toNat) (UInt64.ofNat b.toNat)) .l).toInt
def am_dcg (a b : Int) : Int := (Op.cmpValue (FP.dcmp (UInt64.ofNat a.toNat) (UInt64.ofNat b.toNat)) .g).toInt
def am_lcmp (a b : Int) : Int := if b < a then 1 else if a = b then 0 else -1
/-- texts -/
def am_tx : List (List Int) := [[119, 97, 114, 100, 32, 99, 97, 112, 32, 112, 114, 111, 106, 101, 99, 116, 32, 99, 111, 115, 116, 32, 105, 110, 32, 103, 114, 111, 119, 115, 32, 118, 111, 116, 101, 114, 32, 108, 105, 107, 101, 115, 32, 98, 117, 100, 103, 101, 116, 32, 98, 97, 110, 32, 119, 104, 101, 110, 32, 121, 101, 97, 114, 32, 112, 111, 116, 32, 112, 117, 114, 115, 101, 32, 102, 97, 110, 115, 32, 98, 117, 105, 108, 116, 32, 112, 108, 101, 97, 115, 101, 100, 32, 110, 111, 116, 32, 97, 110, 100, 32, 111, 114, 32, 109, 105, 110, 32, 109, 97, 120, 32], [40, 41, 91, 93, 59, 44, 43, 45, 42, 47, 60, 62, 61], [40, 41, 91, 93, 59, 44, 43, 45, 42, 47, 60, 62, 61], [119, 97, 114, 100], [99, 97, 112], [112, 114, 111, 106, 101, 99, 116], [99, 111, 115, 116], [105, 110], [103, 114, 111, 119, 115], [118, 111, 116, 101, 114], [108, 105, 107, 101, 115], [98, 117, 100, 103, 101, 116], [98, 97, 110], [119, 104, 101, 110], [121, 101, 97, 114], [112, 111, 116], [112, 117, 114, 115, 101], [102, 97, 110, 115], [98, 117, 105, 108, 116], [112, 108, 101, 97, 115, 101, 100], [110, 111, 116], [97, 110, 100], [111, 114], [109, 105, 110], [109, 97, 120]]
def am_tb (j i : Int) : Int := (am_tx.getD j.toNat []).getD i.toNat 0
def am_tn (j : Int) : Int := ((am_tx.getD j.toNat []).length : Int)
/-- the types of a class's fields, by its tag -/
def am_ft : Nat → List Nat
  | 1 => [0, 2, 2, 2, 2, 2, 2]
  | 2 => [2, 2, 0, 2, 2]
  | 3 => [0, 0, 0, 2, 2, 2, 0, 0, 2, 2, 2, 2, 2, 2, 0]
  | 4 => [0, 0, 0, 0, 0, 0, 2, 2, 2, 2, 2, 2, 2, 2, 2]
  | 5 => [2, 2, 2, 2, 2, 0, 0]
  | 6 => [2, 0, 0, 2, 2, 2, 2, 2, 2, 2]
  | 7 => [0, 2, 0, 2, 2, 2, 0, 2, 0, 0, 0, 2, 2, 2, 2, 0, 2, 0]
  | 8 => [0, 0, 0, 2, 2, 2, 2, 2, 2, 0, 2, 2]
  | 9 => [0, 2, 0, 0, 0, 2, 2, 2, 2, 2, 0, 0, 2, 2, 2, 2]
  | _ => []
def am_df (t : Nat) (k : Int) : Int := match (am_ft t).getD k.toNat 0 with
  | 2 => -1
  | _ => 0
def am_pI (st : List AV) (f : Int → List AV → ASh) : ASh := match st with
  | (0, a) :: r => f a r
  | _ => am_bad
def am_pL (st : List AV) (f : Int → List AV → ASh) : ASh := match st with
  | (1, a) :: r => f a r
  | _ => am_bad
def am_pR (st : List AV) (f : Int → List AV → ASh) : ASh := match st with
  | (2, a) :: r => f a r
  | _ => am_bad
def am_pA (st : List AV) (f : Int → List AV → ASh) (g : List AV → ASh) : ASh := match st with
  | (2, a) :: r => f a r
  | (10, _) :: r => g r
  | _ => am_bad
def am_pD (st : List AV) (f : Int → List AV → ASh) : ASh := match st with
  | (3, a) :: r => f a r
  | _ => am_bad
def am_few (r : List AV) (f : ASh) : ASh := match Nat.ble (am_cat r) 8 with
  | true => f
  | false => am_bad
/-- a value of one slot -/
def am_p1 (st : List AV) (f : AV → List AV → ASh) : ASh := match st with
  | (t, a) :: r => (match t with
    | 0 => f (0, a) r
    | 2 => f (2, a) r
    | _ => am_bad)
  | [] => am_bad
def am_ld (v : AV) (want : Nat) (f : AV → ASh) : ASh := match v with
  | (t, a) => (match t with
    | 0 => (match want with
      | 0 => f (0, a)
      | _ => am_bad)
    | 1 => (match want with
      | 1 => f (1, a)
      | _ => am_bad)
    | 2 => (match want with
      | 2 => f (2, a)
      | _ => am_bad)
    | 3 => (match want with
      | 3 => f (3, a)
      | _ => am_bad)
    | 4 => (match want with
      | 2 => f (4, a)
      | _ => am_bad)
    | 5 => (match want with
      | 2 => f (5, a)
      | _ => am_bad)
    | 7 => (match want with
      | 2 => f (7, a)
      | _ => am_bad)
    | 11 => (match want with
      | 2 => f (11, a)
      | _ => am_bad)
    | _ => am_bad)
/-- a long or double needs its second half -/
def am_ld2 (v w : AV) (want : Nat) (f : AV → ASh) : ASh := match w with
  | (8, _) => am_ld v want f
  | _ => am_bad
def am_st1 (ls : List AV) (i : Nat) (v : AV) : List AV := am_set ls i v
def am_st2 (ls : List AV) (i : Nat) (v : AV) : List AV := am_set (am_set ls i v) (i + 1) (8, 0)
def am_mk (o : Option Prop) (m : Nat) (as : List AV) (pc rt : Nat) (ccap cap : Nat × Nat) (ls r : List AV) (h : AH) (c s : Nat) : ASh := match ccap.1 + ccap.2 with
  | 0 => (match o with
    | none => am_cl m as pc rt (pc + 3, ls, r, h, c, s)
    | some p => am_cc p m as pc rt (pc + 3, ls, r, h, c, s))
  | _ + 1 => (match o with
    | none => am_cc (c + ccap.1 ≤ cap.1 ∧ s + ccap.2 ≤ cap.2) m as pc rt (pc + 3, ls, r, h, c + ccap.1, s + ccap.2)
    | some p => am_cc (p ∧ c + ccap.1 ≤ cap.1 ∧ s + ccap.2 ≤ cap.2) m as pc rt (pc + 3, ls, r, h, c + ccap.1, s + ccap.2))
/-- a call: r3 tells what the receiver has to be -/
def am_inv (r1 m r3 : Nat) (ccap cap : Nat × Nat) (cml na rt pc : Nat) (ls st : List AV) (h : AH) (c s : Nat) : ASh := match r1 with
  | 99 => am_bad
  | _ => (match am_pop na [] st with
    | none => am_bad
    | some (as, r) => (match Nat.ble (am_cat r) 8 && Nat.ble (am_cat as) cml with
      | false => am_bad
      | true => (match r3 with
        | 0 => am_mk none m as pc rt ccap cap ls r h c s
        | 60 => (match as with
          | (5, _) :: _ => am_mk none m as pc rt ccap cap ls r h c s
          | _ => am_bad)
        | 61 => (match as with
          | (2, a) :: _ => am_mk (some (0 ≤ a)) m as pc rt ccap cap ls r h c s
          | _ => am_bad)
        | k => (match as with
          | (2, a) :: _ => am_mk (some (am_t h a = k)) m as pc rt ccap cap ls r h c s
          | _ => am_bad))))
/-- what an instruction does; r1 r2 r3 zs: what it names, told by the tables; cap: the cells and slots that the method may make; na, rt: how many values the callee takes, and the type of what it answers; its cap -/
def am_ex (r1 r2 r3 : Nat) (zs : List (Int × Nat)) (cap ccap : Nat × Nat) (cml na rt : Nat) (pc ln : Nat) (ls st : List AV) (h : AH) (c s : Nat) : Instr → ASh
  | .iconst n => am_go (pc + ln, ls, (0, n) :: st, h, c, s)
  | .bipush n => am_go (pc + ln, ls, (0, n) :: st, h, c, s)
  | .sipush n => am_go (pc + ln, ls, (0, n) :: st, h, c, s)
  | .lconst n => am_go (pc + ln, ls, (1, (n.val : Int)) :: st, h, c, s)
  | .dconst n => (match n.val with
    | 0 => am_go (pc + ln, ls, (3, 0) :: st, h, c, s)
    | _ => am_bad)
  | .iload i => am_ld (am_get ls i) 0 fun v => am_go (pc + ln, ls, v :: st, h, c, s)
  | .iload_n i => am_ld (am_get ls i.val) 0 fun v => am_go (pc + ln, ls, v :: st, h, c, s)
  | .aload i => am_ld (am_get ls i) 2 fun v => am_go (pc + ln, ls, v :: st, h, c, s)
  | .aload_n i => am_ld (am_get ls i.val) 2 fun v => am_go (pc + ln, ls, v :: st, h, c, s)
  | .lload i => am_ld2 (am_get ls i) (am_get ls (i + 1)) 1 fun v => am_go (pc + ln, ls, v :: st, h, c, s)
  | .lload_n i => am_ld2 (am_get ls i.val) (am_get ls (i.val + 1)) 1 fun v => am_go (pc + ln, ls, v :: st, h, c, s)
  | .dload i => am_ld2 (am_get ls i) (am_get ls (i + 1)) 3 fun v => am_go (pc + ln, ls, v :: st, h, c, s)
  | .istore i => am_pI st fun a r => am_go (pc + ln, am_st1 ls i (0, a), r, h, c, s)
  | .istore_n i => am_pI st fun a r => am_go (pc + ln, am_st1 ls i.val (0, a), r, h, c, s)
  | .astore i => am_pA st (fun a r => am_ck (0 ≤ a) (pc + ln, am_st1 ls i (2, a), r, h, c, s)) (fun r => am_go (pc + ln, am_st1 ls i (9, 0), r, h, c, s))
  | .astore_n i => am_pA st (fun a r => am_ck (0 ≤ a) (pc + ln, am_st1 ls i.val (2, a), r, h, c, s)) (fun r => am_go (pc + ln, am_st1 ls i.val (9, 0), r, h, c, s))
  | .lstore i => am_pL st fun a r => am_go (pc + ln, am_st2 ls i (1, a), r, h, c, s)
  | .lstore_n i => am_pL st fun a r => am_go (pc + ln, am_st2 ls i.val (1, a), r, h, c, s)
  | .dstore i => am_pD st fun a r => am_go (pc + ln, am_st2 ls i (3, a), r, h, c, s)
  | .iinc i n => am_ld (am_get ls i) 0 fun v => am_go (pc + ln, am_st1 ls i (0, w32 (v.2 + n)), st, h, c, s)
  | .iadd => am_pI st fun b r => am_pI r fun a r => am_go (pc + ln, ls, (0, w32 (a + b)) :: r, h, c, s)
  | .isub => am_pI st fun b r => am_pI r fun a r => am_go (pc + ln, ls, (0, w32 (a - b)) :: r, h, c, s)
  | .imul => am_pI st fun b r => am_pI r fun a r => am_go (pc + ln, ls, (0, w32 (a * b)) :: r, h, c, s)
  | .idiv => am_pI st fun b r => am_pI r fun a r => am_ck (¬ b = 0) (pc + ln, ls, (0, w32 (a.tdiv b)) :: r, h, c, s)
  | .irem => am_pI st fun b r => am_pI r fun a r => am_ck (¬ b = 0) (pc + ln, ls, (0, a.tmod b) :: r, h, c, s)
  | .ineg => am_pI st fun a r => am_go (pc + ln, ls, (0, w32 (-a)) :: r, h, c, s)
  | .iand => am_pI st fun b r => am_pI r fun a r => am_go (pc + ln, ls, (0, am_and a b) :: r, h, c, s)
  | .ior => am_pI st fun b r => am_pI r fun a r => am_go (pc + ln, ls, (0, am_or a b) :: r, h, c, s)
  | .ixor => am_pI st fun b r => am_pI r fun a r => am_go (pc + ln, ls, (0, am_xor a b) :: r, h, c, s)
  | .ishl => am_pI st fun b r => am_pI r fun a r => am_go (pc + ln, ls, (0, am_shl a b) :: r, h, c, s)
  | .ishr => am_pI st fun b r => am_pI r fun a r => am_go (pc + ln, ls, (0, am_shr a b) :: r, h, c, s)
  | .iushr => am_pI st fun b r => am_pI r fun a r => am_go (pc + ln, ls, (0, am_ushr a b) :: r, h, c, s)
  | .i2l => am_pI st fun a r => am_go (pc + ln, ls, (1, a) :: r, h, c, s)
  | .i2b => am_pI st fun a r => am_go (pc + ln, ls, (0, am_i2b a) :: r, h, c, s)
  | .i2c => am_pI st fun a r => am_go (pc + ln, ls, (0, am_i2c a) :: r, h, c, s)
  | .i2d => am_pI st fun a r => am_go (pc + ln, ls, (3, am_i2d a) :: r, h, c, s)
  | .l2i => am_pL st fun a r => am_go (pc + ln, ls, (0, w32 a) :: r, h, c, s)
  | .ladd => am_pL st fun b r => am_pL r fun a r => am_go (pc + ln, ls, (1, w64 (a + b)) :: r, h, c, s)
  | .lsub => am_pL st fun b r => am_pL r fun a r => am_go (pc + ln, ls, (1, w64 (a - b)) :: r, h, c, s)
  | .lmul => am_pL st fun b r => am_pL r fun a r => am_go (pc + ln, ls, (1, w64 (a * b)) :: r, h, c, s)
  | .lcmp => am_pL st fun b r => am_pL r fun a r => am_go (pc + ln, ls, (0, am_lcmp a b) :: r, h, c, s)
  | .ddiv => am_pD st fun b r => am_pD r fun a r => am_ck (vf_n64 (am_dd a b)) (pc + ln, ls, (3, ((am_dd a b).toNat : Int)) :: r, h, c, s)
  | .dcmp op => am_pD st fun b r => am_pD r fun a r => (match op with
    | .l => am_go (pc + ln, ls, (0, am_dcl a b) :: r, h, c, s)
    | .g => am_go (pc + ln, ls, (0, am_dcg a b) :: r, h, c, s))
  | .dup => am_p1 st fun v r => am_go (pc + ln, ls, v :: v :: r, h, c, s)
  | .pop => am_p1 st fun _ r => am_go (pc + ln, ls, r, h, c, s)
  | .dup2 => am_p1 st fun v r => am_p1 r fun w r => am_go (pc + ln, ls, v :: w :: v :: w :: r, h, c, s)
  | .ifCond cd _ => am_pI st fun a r => (match cd with
    | .eq => am_br (a = 0) (r1, ls, r, h, c, s) (pc + ln, ls, r, h, c, s)
    | .ne => am_br (a = 0) (pc + ln, ls, r, h, c, s) (r1, ls, r, h, c, s)
    | .lt => am_br (a < 0) (r1, ls, r, h, c, s) (pc + ln, ls, r, h, c, s)
    | .ge => am_br (a < 0) (pc + ln, ls, r, h, c, s) (r1, ls, r, h, c, s)
    | .gt => am_br (0 < a) (r1, ls, r, h, c, s) (pc + ln, ls, r, h, c, s)
    | .le => am_br (0 < a) (pc + ln, ls, r, h, c, s) (r1, ls, r, h, c, s))
  | .if_icmp cd _ => am_pI st fun b r => am_pI r fun a r => (match cd with
    | .eq => am_br (a = b) (r1, ls, r, h, c, s) (pc + ln, ls, r, h, c, s)
    | .ne => am_br (a = b) (pc + ln, ls, r, h, c, s) (r1, ls, r, h, c, s)
    | .lt => am_br (a < b) (r1, ls, r, h, c, s) (pc + ln, ls, r, h, c, s)
    | .ge => am_br (a < b) (pc + ln, ls, r, h, c, s) (r1, ls, r, h, c, s)
    | .gt => am_br (b < a) (r1, ls, r, h, c, s) (pc + ln, ls, r, h, c, s)
    | .le => am_br (b < a) (pc + ln, ls, r, h, c, s) (r1, ls, r, h, c, s))
  | .goto _ => am_go (r1, ls, st, h, c, s)
  | .tableswitch _ _ _ _ => am_pI st fun a r => am_sw a (zs.map fun z => (z.1, (z.2, ls, r, h, c, s))) (r1, ls, r, h, c, s)
  | .lookupswitch _ _ => am_pI st fun a r => am_sw a (zs.map fun z => (z.1, (z.2, ls, r, h, c, s))) (r1, ls, r, h, c, s)
  | .getfield _ => (match r3 with
    | 50 => (match st with
      | (5, j) :: r => am_go (pc + ln, ls, (7, j) :: r, h, c, s)
      | _ => am_bad)
    | 51 => (match st with
      | (5, _) :: r => am_go (pc + ln, ls, (0, 0) :: r, h, c, s)
      | _ => am_bad)
    | 0 => am_pR st fun a r => am_ck (am_t h a = r1) (pc + ln, ls, (0, am_m h a (r2 : Int)) :: r, h, c, s)
    | 2 => am_pR st fun a r => am_ck (am_t h a = r1) (pc + ln, ls, (2, am_m h a (r2 : Int)) :: r, h, c, s)
    | _ => am_bad)
  | .putfield _ => (match r3 with
    | 0 => am_pI st fun v r => am_pR r fun a r => am_ck (am_t h a = r1) (pc + ln, ls, r, am_w h a (r2 : Int) v, c, s)
    | 2 => am_pR st fun v r => am_pR r fun a r => am_ck (am_t h a = r1) (pc + ln, ls, r, am_w h a (r2 : Int) v, c, s)
    | _ => am_bad)
  | .getstatic _ => (match r3 with
    | 60 => am_go (pc + ln, ls, (0, 1) :: st, h, c, s)
    | 61 => am_go (pc + ln, ls, (6, 0) :: st, h, c, s)
    | 62 => am_go (pc + ln, ls, (11, 0) :: st, h, c, s)
    | _ => am_bad)
  | .iaload => am_pI st fun i r => (match r with
    | (2, a) :: r => am_ck (am_t h a = 20 ∧ 0 ≤ i ∧ i < am_l h a) (pc + ln, ls, (0, am_m h a i) :: r, h, c, s)
    | (4, _) :: r => am_ck (0 ≤ i ∧ i < am_sl h) (pc + ln, ls, (0, am_sx h i) :: r, h, c, s)
    | _ => am_bad)
  | .baload => am_pI st fun i r => (match r with
    | (2, a) :: r => am_ck (am_t h a = 21 ∧ 0 ≤ i ∧ i < am_l h a) (pc + ln, ls, (0, am_m h a i) :: r, h, c, s)
    | (7, j) :: r => am_ck (0 ≤ i ∧ i < am_tn j) (pc + ln, ls, (0, am_tb j i) :: r, h, c, s)
    | _ => am_bad)
  | .laload => am_pI st fun i r => am_pR r fun a r => am_ck (am_t h a = 22 ∧ 0 ≤ i ∧ i < am_l h a) (pc + ln, ls, (1, am_m h a i) :: r, h, c, s)
  | .aaload => am_pI st fun i r => (match r with
    | (6, _) :: r => am_ck (0 ≤ i ∧ i < 22) (pc + ln, ls, (5, 3 + i) :: r, h, c, s)
    | _ => am_bad)
  | .iastore => am_pI st fun v r => am_pI r fun i r => am_pR r fun a r => am_ck (am_t h a = 20 ∧ 0 ≤ i ∧ i < am_l h a) (pc + ln, ls, r, am_w h a i v, c, s)
  | .bastore => am_pI st fun v r => am_pI r fun i r => am_pR r fun a r => am_ck (am_t h a = 21 ∧ 0 ≤ i ∧ i < am_l h a) (pc + ln, ls, r, am_w h a i (am_i2b v), c, s)
  | .lastore => am_pL st fun v r => am_pI r fun i r => am_pR r fun a r => am_ck (am_t h a = 22 ∧ 0 ≤ i ∧ i < am_l h a) (pc + ln, ls, r, am_w h a i v, c, s)
  | .arraylength => (match st with
    | (2, a) :: r => am_ck (20 ≤ am_t h a ∧ am_t h a ≤ 22) (pc + ln, ls, (0, am_l h a) :: r, h, c, s)
    | (4, _) :: r => am_go (pc + ln, ls, (0, am_sl h) :: r, h, c, s)
    | (6, _) :: r => am_go (pc + ln, ls, (0, 22) :: r, h, c, s)
    | (7, j) :: r => am_go (pc + ln, ls, (0, am_tn j) :: r, h, c, s)
    | _ => am_bad)
  | .newarray _ => am_pI st fun n r => am_ck ((0 ≤ n ∧ n ≤ 4096) ∧ c + 1 ≤ cap.1 ∧ s + n.toNat ≤ cap.2) (pc + ln, ls, (2, am_n h) :: r, am_a h r1 n (fun _ => 0), c + 1, s + n.toNat)
  | .new _ => (match r3 with
    | 0 => am_ck (c + 1 ≤ cap.1 ∧ s + r2 ≤ cap.2) (pc + ln, ls, (2, am_n h) :: st, am_a h r1 (r2 : Int) (am_df r1), c + 1, s + r2)
    | k => (match st with
      | [] => am_th (c + 1 ≤ cap.1 ∧ s + 6 ≤ cap.2) k h
      | _ => am_bad))
  | .ldc _ => (match zs with
    | (v, t) :: _ => am_go (pc + ln, ls, (t, v) :: st, h, c, s)
    | [] => am_bad)
  | .ldc_w _ => (match zs with
    | (v, t) :: _ => am_go (pc + ln, ls, (t, v) :: st, h, c, s)
    | [] => am_bad)
  | .ldc2_w _ => (match zs with
    | (v, t) :: _ => am_go (pc + ln, ls, (t, v) :: st, h, c, s)
    | [] => am_bad)
  | .invokevirtual _ => am_inv r1 r2 r3 ccap cap cml na rt pc ls st h c s
  | .invokespecial _ => (match r1 with
    | 6 => am_pR st fun a r => am_few r (am_ck (0 ≤ a) (pc + ln, ls, r, h, c, s))
    | _ => am_inv r1 r2 r3 ccap cap cml na rt pc ls st h c s)
  | .invokestatic _ => (match r1 with
    | 7 => am_pI st fun b r => am_pI r fun a r => am_few r (am_go (pc + ln, ls, (0, min a b) :: r, h, c, s))
    | 8 => am_pI st fun b r => am_pI r fun a r => am_few r (am_go (pc + ln, ls, (0, max a b) :: r, h, c, s))
    | 10 => am_pI st fun n r => am_pI r fun j r => am_pR r fun b r => am_pI r fun i r => am_pR r fun a r => am_few r <| am_ck (am_t h a = 20 ∧ am_t h b = 20 ∧ ¬ a = b ∧ 0 ≤ n ∧ 0 ≤ i ∧ i + n ≤ am_l h a ∧ 0 ≤ j ∧ j + n ≤ am_l h b) (pc + ln, ls, r, am_cp h a i b j n, c, s)
    | _ => am_inv r1 r2 r3 ccap cap cml na rt pc ls st h c s)
  | .ireturn => am_pI st fun v r => (match r with
    | [] => (match r1 with
      | 0 => am_rt v h
      | 1 => am_rc (v = 0 ∨ v = 1) v h
      | 2 => am_rc (0 ≤ v ∧ v < 65536) v h
      | 3 => am_rc (-128 ≤ v ∧ v < 128) v h
      | _ => am_bad)
    | _ => am_bad)
  | .lreturn => am_pL st fun v r => (match r with
    | [] => am_rt v h
    | _ => am_bad)
  | .dreturn => am_pD st fun v r => (match r with
    | [] => am_rt v h
    | _ => am_bad)
  | .areturn => am_pR st fun v r => (match r with
    | [] => am_rt v h
    | _ => am_bad)
  | .return_ => (match st with
    | [] => am_rt 0 h
    | _ => am_bad)
  | _ => am_bad
end
section
/-! ===== THE METHODS, printed: a row an instruction: place, instruction, its length, what it names, constants or a switch's goals, places of its words in lw_tbl ===== -/
abbrev am_E : Type := Nat × Instr × Nat × (Nat × Nat × Nat) × List (Int × Nat) × List Nat
/-- 0: J0_charAt_5068e -/
def am_t0 : List am_E := [(0, .aload_n 0, 1, (0, 0, 0), [], []),
  (1, .invokevirtual 492, 3, (0, 5, 60), [], [248, 111, 249, 250]),
  (4, .ifCond .eq 12, 3, (16, 0, 0), [], []),
  (7, .aload_n 0, 1, (0, 0, 0), [], []),
  (8, .getfield 9, 3, (0, 0, 50), [], [1730]),
  (11, .iload_n 1, 1, (0, 0, 0), [], []),
  (12, .invokestatic 495, 3, (2, 8, 0), [], [252, 112, 253]),
  (15, .ireturn, 1, (2, 0, 0), [], []),
  (16, .aload_n 0, 1, (0, 0, 0), [], []),
  (17, .getfield 9, 3, (0, 0, 50), [], [1730]),
  (20, .iload_n 1, 1, (0, 0, 0), [], []),
  (21, .invokestatic 498, 3, (99, 0, 0), [], []),
  (24, .ireturn, 1, (2, 0, 0), [], [])]
/-- 1: J0_checkIndex_df160 -/
def am_t1 : List am_E := [(0, .iload_n 0, 1, (0, 0, 0), [], []),
  (1, .iload_n 1, 1, (0, 0, 0), [], []),
  (2, .getstatic 1053, 3, (0, 0, 62), [], [258]),
  (5, .invokestatic 1059, 3, (2, 11, 0), [], [260, 113, 261]),
  (8, .pop, 1, (0, 0, 0), [], []),
  (9, .return_, 1, (0, 0, 0), [], [])]
/-- 2: J0_coder_7d493 -/
def am_t2 : List am_E := [(0, .getstatic 38, 3, (0, 0, 60), [], [242]),
  (3, .ifCond .eq 10, 3, (13, 0, 0), [], []),
  (6, .aload_n 0, 1, (0, 0, 0), [], []),
  (7, .getfield 15, 3, (0, 0, 51), [], [1731]),
  (10, .goto 4, 3, (14, 0, 0), [], []),
  (13, .iconst 1, 1, (0, 0, 0), [], []),
  (14, .ireturn, 1, (3, 0, 0), [], [])]
/-- 3: J0_indexOf_0f7a4 -/
def am_t3 : List am_E := [(0, .aload_n 0, 1, (0, 0, 0), [], []),
  (1, .iload_n 1, 1, (0, 0, 0), [], []),
  (2, .iconst 0, 1, (0, 0, 0), [], []),
  (3, .invokevirtual 633, 3, (0, 4, 60), [], [502, 111, 503, 504]),
  (6, .ireturn, 1, (0, 0, 0), [], [])]
/-- 4: J0_indexOf_7cf53 -/
def am_t4 : List am_E := [(0, .aload_n 0, 1, (0, 0, 0), [], []),
  (1, .invokevirtual 492, 3, (0, 5, 60), [], [248, 111, 249, 250]),
  (4, .ifCond .eq 19, 3, (23, 0, 0), [], []),
  (7, .aload_n 0, 1, (0, 0, 0), [], []),
  (8, .getfield 9, 3, (0, 0, 50), [], [1730]),
  (11, .iload_n 1, 1, (0, 0, 0), [], []),
  (12, .iload_n 2, 1, (0, 0, 0), [], []),
  (13, .aload_n 0, 1, (0, 0, 0), [], []),
  (14, .invokevirtual 505, 3, (0, 6, 60), [], [506, 111, 235, 236]),
  (17, .invokestatic 637, 3, (2, 10, 0), [], [507, 112, 508]),
  (20, .goto 16, 3, (36, 0, 0), [], []),
  (23, .aload_n 0, 1, (0, 0, 0), [], []),
  (24, .getfield 9, 3, (0, 0, 50), [], [1730]),
  (27, .iload_n 1, 1, (0, 0, 0), [], []),
  (28, .iload_n 2, 1, (0, 0, 0), [], []),
  (29, .aload_n 0, 1, (0, 0, 0), [], []),
  (30, .invokevirtual 505, 3, (0, 6, 60), [], [506, 111, 235, 236]),
  (33, .invokestatic 640, 3, (99, 0, 0), [], []),
  (36, .ireturn, 1, (0, 0, 0), [], [])]
/-- 5: J0_isLatin1_aae02 -/
def am_t5 : List am_E := [(0, .getstatic 38, 3, (0, 0, 60), [], [242]),
  (3, .ifCond .eq 14, 3, (17, 0, 0), [], []),
  (6, .aload_n 0, 1, (0, 0, 0), [], []),
  (7, .getfield 15, 3, (0, 0, 51), [], [1731]),
  (10, .ifCond .ne 7, 3, (17, 0, 0), [], []),
  (13, .iconst 1, 1, (0, 0, 0), [], []),
  (14, .goto 4, 3, (18, 0, 0), [], []),
  (17, .iconst 0, 1, (0, 0, 0), [], []),
  (18, .ireturn, 1, (1, 0, 0), [], [])]
/-- 6: J0_length_8abf5 -/
def am_t6 : List am_E := [(0, .aload_n 0, 1, (0, 0, 0), [], []),
  (1, .getfield 9, 3, (0, 0, 50), [], [1730]),
  (4, .arraylength, 1, (0, 0, 0), [], []),
  (5, .aload_n 0, 1, (0, 0, 0), [], []),
  (6, .invokevirtual 335, 3, (0, 2, 60), [], [238, 111, 239, 240]),
  (9, .ishr, 1, (0, 0, 0), [], []),
  (10, .ireturn, 1, (0, 0, 0), [], [])]
/-- 7: J1_canEncode_9a6ad -/
def am_t7 : List am_E := [(0, .iload_n 0, 1, (0, 0, 0), [], []),
  (1, .ifCond .lt 14, 3, (15, 0, 0), [], []),
  (4, .iload_n 0, 1, (0, 0, 0), [], []),
  (5, .sipush 255, 3, (0, 0, 0), [], []),
  (8, .if_icmp .gt 7, 3, (15, 0, 0), [], []),
  (11, .iconst 1, 1, (0, 0, 0), [], []),
  (12, .goto 4, 3, (16, 0, 0), [], []),
  (15, .iconst 0, 1, (0, 0, 0), [], []),
  (16, .ireturn, 1, (1, 0, 0), [], [])]
/-- 8: J1_charAt_3b067 -/
def am_t8 : List am_E := [(0, .iload_n 1, 1, (0, 0, 0), [], []),
  (1, .aload_n 0, 1, (0, 0, 0), [], []),
  (2, .arraylength, 1, (0, 0, 0), [], []),
  (3, .invokestatic 9, 3, (2, 1, 0), [], [255, 111, 256]),
  (6, .aload_n 0, 1, (0, 0, 0), [], []),
  (7, .iload_n 1, 1, (0, 0, 0), [], []),
  (8, .baload, 1, (0, 0, 0), [], []),
  (9, .sipush 255, 3, (0, 0, 0), [], []),
  (12, .iand, 1, (0, 0, 0), [], []),
  (13, .i2c, 1, (0, 0, 0), [], []),
  (14, .ireturn, 1, (2, 0, 0), [], [])]
/-- 9: J1_indexOfChar_4cfef -/
def am_t9 : List am_E := [(0, .iload_n 1, 1, (0, 0, 0), [], []),
  (1, .i2b, 1, (0, 0, 0), [], []),
  (2, .istore 4, 2, (0, 0, 0), [], []),
  (4, .iload_n 2, 1, (0, 0, 0), [], []),
  (5, .istore 5, 2, (0, 0, 0), [], []),
  (7, .iload 5, 2, (0, 0, 0), [], []),
  (9, .iload_n 3, 1, (0, 0, 0), [], []),
  (10, .if_icmp .ge 21, 3, (31, 0, 0), [], []),
  (13, .aload_n 0, 1, (0, 0, 0), [], []),
  (14, .iload 5, 2, (0, 0, 0), [], []),
  (16, .baload, 1, (0, 0, 0), [], []),
  (17, .iload 4, 2, (0, 0, 0), [], []),
  (19, .if_icmp .ne 6, 3, (25, 0, 0), [], []),
  (22, .iload 5, 2, (0, 0, 0), [], []),
  (24, .ireturn, 1, (0, 0, 0), [], []),
  (25, .iinc 5 1, 3, (0, 0, 0), [], []),
  (28, .goto (-21), 3, (7, 0, 0), [], []),
  (31, .iconst (-1), 1, (0, 0, 0), [], []),
  (32, .ireturn, 1, (0, 0, 0), [], [])]
/-- 10: J1_indexOf_4cfef -/
def am_t10 : List am_E := [(0, .iload_n 1, 1, (0, 0, 0), [], []),
  (1, .invokestatic 88, 3, (2, 7, 0), [], [510, 112, 511]),
  (4, .ifCond .ne 5, 3, (9, 0, 0), [], []),
  (7, .iconst (-1), 1, (0, 0, 0), [], []),
  (8, .ireturn, 1, (0, 0, 0), [], []),
  (9, .iload_n 2, 1, (0, 0, 0), [], []),
  (10, .iconst 0, 1, (0, 0, 0), [], []),
  (11, .invokestatic 92, 3, (8, 0, 0), [], [513, 514, 126, 515]),
  (14, .istore_n 2, 1, (0, 0, 0), [], []),
  (15, .iload_n 3, 1, (0, 0, 0), [], []),
  (16, .aload_n 0, 1, (0, 0, 0), [], []),
  (17, .arraylength, 1, (0, 0, 0), [], []),
  (18, .invokestatic 38, 3, (7, 0, 0), [], [516, 466, 126, 467]),
  (21, .istore_n 3, 1, (0, 0, 0), [], []),
  (22, .iload_n 2, 1, (0, 0, 0), [], []),
  (23, .iload_n 3, 1, (0, 0, 0), [], []),
  (24, .if_icmp .lt 5, 3, (29, 0, 0), [], []),
  (27, .iconst (-1), 1, (0, 0, 0), [], []),
  (28, .ireturn, 1, (0, 0, 0), [], []),
  (29, .aload_n 0, 1, (0, 0, 0), [], []),
  (30, .iload_n 1, 1, (0, 0, 0), [], []),
  (31, .iload_n 2, 1, (0, 0, 0), [], []),
  (32, .iload_n 3, 1, (0, 0, 0), [], []),
  (33, .invokestatic 95, 3, (2, 9, 0), [], [517, 112, 518]),
  (36, .ireturn, 1, (0, 0, 0), [], [])]
/-- 11: J3_checkIndex_8e157 -/
def am_t11 : List am_E := [(0, .iload_n 0, 1, (0, 0, 0), [], []),
  (1, .ifCond .lt 8, 3, (9, 0, 0), [], []),
  (4, .iload_n 0, 1, (0, 0, 0), [], []),
  (5, .iload_n 1, 1, (0, 0, 0), [], []),
  (6, .if_icmp .lt 10, 3, (16, 0, 0), [], []),
  (9, .aload_n 2, 1, (0, 0, 0), [], []),
  (10, .iload_n 0, 1, (0, 0, 0), [], []),
  (11, .iload_n 1, 1, (0, 0, 0), [], []),
  (12, .invokestatic 95, 3, (99, 0, 0), [], []),
  (15, .athrow, 1, (0, 0, 0), [], []),
  (16, .iload_n 0, 1, (0, 0, 0), [], []),
  (17, .ireturn, 1, (0, 0, 0), [], [])]
/-- 12: J6_bitCount_0f7a4 -/
def am_t12 : List am_E := [(0, .iload_n 0, 1, (0, 0, 0), [], []),
  (1, .iload_n 0, 1, (0, 0, 0), [], []),
  (2, .iconst 1, 1, (0, 0, 0), [], []),
  (3, .iushr, 1, (0, 0, 0), [], []),
  (4, .ldc_w 265, 3, (0, 0, 0), [(1431655765, 0)], [748]),
  (7, .iand, 1, (0, 0, 0), [], []),
  (8, .isub, 1, (0, 0, 0), [], []),
  (9, .istore_n 0, 1, (0, 0, 0), [], []),
  (10, .iload_n 0, 1, (0, 0, 0), [], []),
  (11, .ldc_w 266, 3, (0, 0, 0), [(858993459, 0)], [749]),
  (14, .iand, 1, (0, 0, 0), [], []),
  (15, .iload_n 0, 1, (0, 0, 0), [], []),
  (16, .iconst 2, 1, (0, 0, 0), [], []),
  (17, .iushr, 1, (0, 0, 0), [], []),
  (18, .ldc_w 266, 3, (0, 0, 0), [(858993459, 0)], [749]),
  (21, .iand, 1, (0, 0, 0), [], []),
  (22, .iadd, 1, (0, 0, 0), [], []),
  (23, .istore_n 0, 1, (0, 0, 0), [], []),
  (24, .iload_n 0, 1, (0, 0, 0), [], []),
  (25, .iload_n 0, 1, (0, 0, 0), [], []),
  (26, .iconst 4, 1, (0, 0, 0), [], []),
  (27, .iushr, 1, (0, 0, 0), [], []),
  (28, .iadd, 1, (0, 0, 0), [], []),
  (29, .ldc_w 267, 3, (0, 0, 0), [(252645135, 0)], [750]),
  (32, .iand, 1, (0, 0, 0), [], []),
  (33, .istore_n 0, 1, (0, 0, 0), [], []),
  (34, .iload_n 0, 1, (0, 0, 0), [], []),
  (35, .iload_n 0, 1, (0, 0, 0), [], []),
  (36, .bipush 8, 2, (0, 0, 0), [], []),
  (38, .iushr, 1, (0, 0, 0), [], []),
  (39, .iadd, 1, (0, 0, 0), [], []),
  (40, .istore_n 0, 1, (0, 0, 0), [], []),
  (41, .iload_n 0, 1, (0, 0, 0), [], []),
  (42, .iload_n 0, 1, (0, 0, 0), [], []),
  (43, .bipush 16, 2, (0, 0, 0), [], []),
  (45, .iushr, 1, (0, 0, 0), [], []),
  (46, .iadd, 1, (0, 0, 0), [], []),
  (47, .istore_n 0, 1, (0, 0, 0), [], []),
  (48, .iload_n 0, 1, (0, 0, 0), [], []),
  (49, .bipush 63, 2, (0, 0, 0), [], []),
  (51, .iand, 1, (0, 0, 0), [], []),
  (52, .ireturn, 1, (0, 0, 0), [], [])]
/-- 13: X0_init -/
def am_t13 : List am_E := [(0, .aload_n 0, 1, (0, 0, 0), [], []),
  (1, .invokespecial 3, 3, (6, 0, 0), [], [345, 137, 138]),
  (4, .aload_n 0, 1, (0, 0, 0), [], []),
  (5, .iconst 4, 1, (0, 0, 0), [], []),
  (6, .newarray .long, 2, (22, 0, 0), [], [313]),
  (8, .putfield 9, 3, (1, 3, 2), [], [350]),
  (11, .aload_n 0, 1, (0, 0, 0), [], []),
  (12, .bipush 12, 2, (0, 0, 0), [], []),
  (14, .newarray .long, 2, (22, 0, 0), [], [313]),
  (16, .putfield 15, 3, (1, 4, 2), [], [351]),
  (19, .aload_n 0, 1, (0, 0, 0), [], []),
  (20, .bipush 12, 2, (0, 0, 0), [], []),
  (22, .newarray .long, 2, (22, 0, 0), [], [313]),
  (24, .putfield 18, 3, (1, 5, 2), [], [352]),
  (27, .aload_n 0, 1, (0, 0, 0), [], []),
  (28, .sipush 401, 3, (0, 0, 0), [], []),
  (31, .newarray .int, 2, (20, 0, 0), [], [226]),
  (33, .putfield 21, 3, (1, 6, 2), [], [353]),
  (36, .aload_n 0, 1, (0, 0, 0), [], []),
  (37, .aload_n 1, 1, (0, 0, 0), [], []),
  (38, .putfield 25, 3, (1, 1, 2), [], [348]),
  (41, .aload_n 0, 1, (0, 0, 0), [], []),
  (42, .aload_n 2, 1, (0, 0, 0), [], []),
  (43, .putfield 29, 3, (1, 2, 2), [], [349]),
  (46, .return_, 1, (0, 0, 0), [], [])]
/-- 14: X0_fill -/
def am_t14 : List am_E := [(0, .aload_n 1, 1, (0, 0, 0), [], []),
  (1, .invokevirtual 33, 3, (0, 85, 4), [], [631, 109, 632, 633]),
  (4, .aload_n 0, 1, (0, 0, 0), [], []),
  (5, .iconst 0, 1, (0, 0, 0), [], []),
  (6, .putfield 38, 3, (1, 0, 0), [], [346]),
  (9, .aload_n 0, 1, (0, 0, 0), [], []),
  (10, .getfield 38, 3, (1, 0, 0), [], [346]),
  (13, .aload_n 0, 1, (0, 0, 0), [], []),
  (14, .getfield 29, 3, (1, 2, 2), [], [349]),
  (17, .getfield 42, 3, (2, 2, 0), [], [325]),
  (20, .if_icmp .ge 38, 3, (58, 0, 0), [], []),
  (23, .aload_n 0, 1, (0, 0, 0), [], []),
  (24, .getfield 38, 3, (1, 0, 0), [], [346]),
  (27, .sipush 400, 3, (0, 0, 0), [], []),
  (30, .if_icmp .ge 28, 3, (58, 0, 0), [], []),
  (33, .aload_n 0, 1, (0, 0, 0), [], []),
  (34, .aload_n 1, 1, (0, 0, 0), [], []),
  (35, .invokevirtual 45, 3, (0, 16, 1), [], [635, 116, 637, 23]),
  (38, .istore_n 2, 1, (0, 0, 0), [], []),
  (39, .iload_n 2, 1, (0, 0, 0), [], []),
  (40, .ifCond .eq 5, 3, (45, 0, 0), [], []),
  (43, .iload_n 2, 1, (0, 0, 0), [], []),
  (44, .ireturn, 1, (0, 0, 0), [], []),
  (45, .aload_n 0, 1, (0, 0, 0), [], []),
  (46, .dup, 1, (0, 0, 0), [], []),
  (47, .getfield 38, 3, (1, 0, 0), [], [346]),
  (50, .iconst 1, 1, (0, 0, 0), [], []),
  (51, .iadd, 1, (0, 0, 0), [], []),
  (52, .putfield 38, 3, (1, 0, 0), [], [346]),
  (55, .goto (-46), 3, (9, 0, 0), [], []),
  (58, .aload_n 0, 1, (0, 0, 0), [], []),
  (59, .aload_n 1, 1, (0, 0, 0), [], []),
  (60, .invokevirtual 49, 3, (0, 15, 1), [], [684, 116, 686, 29]),
  (63, .iconst 0, 1, (0, 0, 0), [], []),
  (64, .ireturn, 1, (0, 0, 0), [], [])]
/-- 15: X0_setArguments -/
def am_t15 : List am_E := [(0, .iconst 0, 1, (0, 0, 0), [], []),
  (1, .istore_n 2, 1, (0, 0, 0), [], []),
  (2, .iload_n 2, 1, (0, 0, 0), [], []),
  (3, .aload_n 1, 1, (0, 0, 0), [], []),
  (4, .getfield 53, 3, (4, 5, 0), [], [164]),
  (7, .if_icmp .ge 54, 3, (61, 0, 0), [], []),
  (10, .iload_n 2, 1, (0, 0, 0), [], []),
  (11, .aload_n 1, 1, (0, 0, 0), [], []),
  (12, .getfield 56, 3, (4, 14, 2), [], [191]),
  (15, .arraylength, 1, (0, 0, 0), [], []),
  (16, .if_icmp .ge 45, 3, (61, 0, 0), [], []),
  (19, .aload_n 1, 1, (0, 0, 0), [], []),
  (20, .getfield 56, 3, (4, 14, 2), [], [191]),
  (23, .iload_n 2, 1, (0, 0, 0), [], []),
  (24, .iaload, 1, (0, 0, 0), [], []),
  (25, .istore_n 3, 1, (0, 0, 0), [], []),
  (26, .aload_n 1, 1, (0, 0, 0), [], []),
  (27, .getfield 56, 3, (4, 14, 2), [], [191]),
  (30, .iload_n 2, 1, (0, 0, 0), [], []),
  (31, .iload_n 3, 1, (0, 0, 0), [], []),
  (32, .ifCond .lt 21, 3, (53, 0, 0), [], []),
  (35, .iload_n 3, 1, (0, 0, 0), [], []),
  (36, .aload_n 0, 1, (0, 0, 0), [], []),
  (37, .getfield 21, 3, (1, 6, 2), [], [353]),
  (40, .arraylength, 1, (0, 0, 0), [], []),
  (41, .if_icmp .ge 12, 3, (53, 0, 0), [], []),
  (44, .aload_n 0, 1, (0, 0, 0), [], []),
  (45, .getfield 21, 3, (1, 6, 2), [], [353]),
  (48, .iload_n 3, 1, (0, 0, 0), [], []),
  (49, .iaload, 1, (0, 0, 0), [], []),
  (50, .goto 4, 3, (54, 0, 0), [], []),
  (53, .iconst 0, 1, (0, 0, 0), [], []),
  (54, .iastore, 1, (0, 0, 0), [], []),
  (55, .iinc 2 1, 3, (0, 0, 0), [], []),
  (58, .goto (-56), 3, (2, 0, 0), [], []),
  (61, .return_, 1, (0, 0, 0), [], [])]
/-- 16: X0_errorHere -/
def am_t16_0 : List am_E := [(0, .aload_n 0, 1, (0, 0, 0), [], []),
  (1, .getfield 21, 3, (1, 6, 2), [], [353]),
  (4, .aload_n 0, 1, (0, 0, 0), [], []),
  (5, .getfield 38, 3, (1, 0, 0), [], [346]),
  (8, .iconst 0, 1, (0, 0, 0), [], []),
  (9, .iastore, 1, (0, 0, 0), [], []),
  (10, .aload_n 0, 1, (0, 0, 0), [], []),
  (11, .getfield 25, 3, (1, 1, 2), [], [348]),
  (14, .getfield 59, 3, (5, 1, 2), [], [292]),
  (17, .aload_n 0, 1, (0, 0, 0), [], []),
  (18, .getfield 38, 3, (1, 0, 0), [], [346]),
  (21, .laload, 1, (0, 0, 0), [], []),
  (22, .lstore_n 2, 1, (0, 0, 0), [], []),
  (23, .aload_n 0, 1, (0, 0, 0), [], []),
  (24, .getfield 29, 3, (1, 2, 2), [], [349]),
  (27, .getfield 64, 3, (2, 0, 2), [], [321]),
  (30, .aload_n 0, 1, (0, 0, 0), [], []),
  (31, .getfield 38, 3, (1, 0, 0), [], [346]),
  (34, .iaload, 1, (0, 0, 0), [], []),
  (35, .tableswitch 290 1 14 #[69, 76, 83, 90, 96, 114, 133, 151, 157, 183, 200, 226, 250, 274], 69, (325, 0, 0), [(1, 104), (2, 111), (3, 118), (4, 125), (5, 131), (6, 149), (7, 168), (8, 186), (9, 192), (10, 218), (11, 235), (12, 261), (13, 285), (14, 309)], []),
  (104, .aload_n 0, 1, (0, 0, 0), [], []),
  (105, .aload_n 1, 1, (0, 0, 0), [], []),
  (106, .lload_n 2, 1, (0, 0, 0), [], []),
  (107, .invokevirtual 67, 3, (0, 17, 1), [], [639, 116, 641, 24]),
  (110, .ireturn, 1, (0, 0, 0), [], []),
  (111, .aload_n 0, 1, (0, 0, 0), [], []),
  (112, .aload_n 1, 1, (0, 0, 0), [], []),
  (113, .lload_n 2, 1, (0, 0, 0), [], []),
  (114, .invokevirtual 71, 3, (0, 18, 1), [], [649, 116, 651, 25]),
  (117, .ireturn, 1, (0, 0, 0), [], []),
  (118, .aload_n 0, 1, (0, 0, 0), [], []),
  (119, .aload_n 1, 1, (0, 0, 0), [], []),
  (120, .lload_n 2, 1, (0, 0, 0), [], []),
  (121, .invokevirtual 74, 3, (0, 19, 1), [], [653, 116, 655, 26]),
  (124, .ireturn, 1, (0, 0, 0), [], []),
  (125, .aload_n 0, 1, (0, 0, 0), [], []),
  (126, .aload_n 1, 1, (0, 0, 0), [], []),
  (127, .invokevirtual 77, 3, (0, 21, 1), [], [657, 116, 659, 27]),
  (130, .ireturn, 1, (0, 0, 0), [], []),
  (131, .aload_n 0, 1, (0, 0, 0), [], []),
  (132, .aload_n 1, 1, (0, 0, 0), [], []),
  (133, .getfield 80, 3, (4, 6, 2), [], [167]),
  (136, .aload_n 1, 1, (0, 0, 0), [], []),
  (137, .getfield 83, 3, (4, 0, 0), [], [146]),
  (140, .iconst 1, 1, (0, 0, 0), [], []),
  (141, .isub, 1, (0, 0, 0), [], []),
  (142, .iconst 0, 1, (0, 0, 0), [], []),
  (143, .bipush 12, 2, (0, 0, 0), [], []),
  (145, .invokevirtual 86, 3, (0, 24, 1), [], [661, 116, 663, 28]),
  (148, .ireturn, 1, (0, 0, 0), [], []),
  (149, .aload_n 0, 1, (0, 0, 0), [], []),
  (150, .aload_n 1, 1, (0, 0, 0), [], []),
  (151, .getfield 90, 3, (4, 8, 2), [], [174]),
  (154, .aload_n 1, 1, (0, 0, 0), [], []),
  (155, .getfield 93, 3, (4, 1, 0), [], [149]),
  (158, .iconst 1, 1, (0, 0, 0), [], []),
  (159, .isub, 1, (0, 0, 0), [], []),
  (160, .iconst 1, 1, (0, 0, 0), [], []),
  (161, .sipush 999, 3, (0, 0, 0), [], []),
  (164, .invokevirtual 86, 3, (0, 24, 1), [], [661, 116, 663, 28])]
def am_t16_1 : List am_E := [(167, .ireturn, 1, (0, 0, 0), [], []),
  (168, .aload_n 0, 1, (0, 0, 0), [], []),
  (169, .aload_n 1, 1, (0, 0, 0), [], []),
  (170, .getfield 96, 3, (4, 9, 2), [], [176]),
  (173, .aload_n 1, 1, (0, 0, 0), [], []),
  (174, .getfield 93, 3, (4, 1, 0), [], [149]),
  (177, .iconst 1, 1, (0, 0, 0), [], []),
  (178, .isub, 1, (0, 0, 0), [], []),
  (179, .iconst 0, 1, (0, 0, 0), [], []),
  (180, .bipush 50, 2, (0, 0, 0), [], []),
  (182, .invokevirtual 86, 3, (0, 24, 1), [], [661, 116, 663, 28]),
  (185, .ireturn, 1, (0, 0, 0), [], []),
  (186, .aload_n 1, 1, (0, 0, 0), [], []),
  (187, .lload_n 2, 1, (0, 0, 0), [], []),
  (188, .invokestatic 99, 3, (2, 22, 0), [], [665, 116, 666]),
  (191, .ireturn, 1, (0, 0, 0), [], []),
  (192, .aload_n 1, 1, (0, 0, 0), [], []),
  (193, .getfield 102, 3, (4, 7, 2), [], [170]),
  (196, .aload_n 1, 1, (0, 0, 0), [], []),
  (197, .getfield 93, 3, (4, 1, 0), [], [149]),
  (200, .iconst 1, 1, (0, 0, 0), [], []),
  (201, .isub, 1, (0, 0, 0), [], []),
  (202, .aload_n 0, 1, (0, 0, 0), [], []),
  (203, .getfield 9, 3, (1, 3, 2), [], [350]),
  (206, .aload_n 1, 1, (0, 0, 0), [], []),
  (207, .getfield 83, 3, (4, 0, 0), [], [146]),
  (210, .lload_n 2, 1, (0, 0, 0), [], []),
  (211, .invokestatic 105, 3, (2, 26, 0), [], [646, 116, 647]),
  (214, .invokestatic 109, 3, (2, 25, 0), [], [669, 116, 670]),
  (217, .ireturn, 1, (0, 0, 0), [], []),
  (218, .aload_n 1, 1, (0, 0, 0), [], []),
  (219, .aload_n 0, 1, (0, 0, 0), [], []),
  (220, .getfield 15, 3, (1, 4, 2), [], [351]),
  (223, .aload_n 1, 1, (0, 0, 0), [], []),
  (224, .getfield 93, 3, (4, 1, 0), [], [149]),
  (227, .lload_n 2, 1, (0, 0, 0), [], []),
  (228, .invokestatic 105, 3, (2, 26, 0), [], [646, 116, 647]),
  (231, .invokestatic 113, 3, (2, 23, 0), [], [672, 116, 673]),
  (234, .ireturn, 1, (0, 0, 0), [], []),
  (235, .aload_n 1, 1, (0, 0, 0), [], []),
  (236, .getfield 117, 3, (4, 11, 2), [], [182]),
  (239, .aload_n 1, 1, (0, 0, 0), [], []),
  (240, .getfield 120, 3, (4, 3, 0), [], [157]),
  (243, .iconst 1, 1, (0, 0, 0), [], []),
  (244, .isub, 1, (0, 0, 0), [], []),
  (245, .aload_n 0, 1, (0, 0, 0), [], []),
  (246, .getfield 15, 3, (1, 4, 2), [], [351]),
  (249, .aload_n 1, 1, (0, 0, 0), [], []),
  (250, .getfield 93, 3, (4, 1, 0), [], [149]),
  (253, .lload_n 2, 1, (0, 0, 0), [], []),
  (254, .invokestatic 105, 3, (2, 26, 0), [], [646, 116, 647]),
  (257, .invokestatic 109, 3, (2, 25, 0), [], [669, 116, 670]),
  (260, .ireturn, 1, (0, 0, 0), [], []),
  (261, .aload_n 0, 1, (0, 0, 0), [], []),
  (262, .getfield 21, 3, (1, 6, 2), [], [353]),
  (265, .aload_n 0, 1, (0, 0, 0), [], []),
  (266, .getfield 38, 3, (1, 0, 0), [], [346]),
  (269, .aload_n 0, 1, (0, 0, 0), [], []),
  (270, .getfield 15, 3, (1, 4, 2), [], [351]),
  (273, .aload_n 1, 1, (0, 0, 0), [], [])]
def am_t16_2 : List am_E := [(274, .getfield 93, 3, (4, 1, 0), [], [149]),
  (277, .lload_n 2, 1, (0, 0, 0), [], []),
  (278, .invokestatic 105, 3, (2, 26, 0), [], [646, 116, 647]),
  (281, .invokestatic 109, 3, (2, 25, 0), [], [669, 116, 670]),
  (284, .ireturn, 1, (0, 0, 0), [], []),
  (285, .aload_n 0, 1, (0, 0, 0), [], []),
  (286, .getfield 21, 3, (1, 6, 2), [], [353]),
  (289, .aload_n 0, 1, (0, 0, 0), [], []),
  (290, .getfield 38, 3, (1, 0, 0), [], [346]),
  (293, .aload_n 0, 1, (0, 0, 0), [], []),
  (294, .getfield 18, 3, (1, 5, 2), [], [352]),
  (297, .aload_n 1, 1, (0, 0, 0), [], []),
  (298, .getfield 123, 3, (4, 2, 0), [], [153]),
  (301, .lload_n 2, 1, (0, 0, 0), [], []),
  (302, .invokestatic 105, 3, (2, 26, 0), [], [646, 116, 647]),
  (305, .invokestatic 109, 3, (2, 25, 0), [], [669, 116, 670]),
  (308, .ireturn, 1, (0, 0, 0), [], []),
  (309, .aload_n 0, 1, (0, 0, 0), [], []),
  (310, .aload_n 0, 1, (0, 0, 0), [], []),
  (311, .getfield 21, 3, (1, 6, 2), [], [353]),
  (314, .aload_n 0, 1, (0, 0, 0), [], []),
  (315, .getfield 38, 3, (1, 0, 0), [], [346]),
  (318, .iconst 0, 1, (0, 0, 0), [], []),
  (319, .ldc 126, 2, (0, 0, 0), [(999999, 0)], [683]),
  (321, .invokevirtual 86, 3, (0, 24, 1), [], [661, 116, 663, 28]),
  (324, .ireturn, 1, (0, 0, 0), [], []),
  (325, .iconst 0, 1, (0, 0, 0), [], []),
  (326, .ireturn, 1, (0, 0, 0), [], [])]
def am_t16 : List am_E := am_t16_0 ++ (am_t16_1 ++ (am_t16_2))
/-- 17: X0_tellWard -/
def am_t17 : List am_E := [(0, .aload_n 0, 1, (0, 0, 0), [], []),
  (1, .getfield 9, 3, (1, 3, 2), [], [350]),
  (4, .aload_n 1, 1, (0, 0, 0), [], []),
  (5, .getfield 83, 3, (4, 0, 0), [], [146]),
  (8, .lload_n 2, 1, (0, 0, 0), [], []),
  (9, .invokestatic 127, 3, (2, 20, 0), [], [643, 116, 644]),
  (12, .istore 4, 2, (0, 0, 0), [], []),
  (14, .iload 4, 2, (0, 0, 0), [], []),
  (16, .ifCond .ne 23, 3, (39, 0, 0), [], []),
  (19, .aload_n 0, 1, (0, 0, 0), [], []),
  (20, .getfield 9, 3, (1, 3, 2), [], [350]),
  (23, .aload_n 1, 1, (0, 0, 0), [], []),
  (24, .getfield 83, 3, (4, 0, 0), [], [146]),
  (27, .lload_n 2, 1, (0, 0, 0), [], []),
  (28, .lastore, 1, (0, 0, 0), [], []),
  (29, .aload_n 1, 1, (0, 0, 0), [], []),
  (30, .dup, 1, (0, 0, 0), [], []),
  (31, .getfield 83, 3, (4, 0, 0), [], [146]),
  (34, .iconst 1, 1, (0, 0, 0), [], []),
  (35, .iadd, 1, (0, 0, 0), [], []),
  (36, .putfield 83, 3, (4, 0, 0), [], [146]),
  (39, .iload 4, 2, (0, 0, 0), [], []),
  (41, .ireturn, 1, (0, 0, 0), [], [])]
/-- 18: X0_tellProject -/
def am_t18 : List am_E := [(0, .aload_n 0, 1, (0, 0, 0), [], []),
  (1, .getfield 15, 3, (1, 4, 2), [], [351]),
  (4, .aload_n 1, 1, (0, 0, 0), [], []),
  (5, .getfield 93, 3, (4, 1, 0), [], [149]),
  (8, .lload_n 2, 1, (0, 0, 0), [], []),
  (9, .invokestatic 127, 3, (2, 20, 0), [], [643, 116, 644]),
  (12, .istore 4, 2, (0, 0, 0), [], []),
  (14, .iload 4, 2, (0, 0, 0), [], []),
  (16, .ifCond .ne 33, 3, (49, 0, 0), [], []),
  (19, .aload_n 0, 1, (0, 0, 0), [], []),
  (20, .getfield 15, 3, (1, 4, 2), [], [351]),
  (23, .aload_n 1, 1, (0, 0, 0), [], []),
  (24, .getfield 93, 3, (4, 1, 0), [], [149]),
  (27, .lload_n 2, 1, (0, 0, 0), [], []),
  (28, .lastore, 1, (0, 0, 0), [], []),
  (29, .aload_n 1, 1, (0, 0, 0), [], []),
  (30, .getfield 130, 3, (4, 10, 2), [], [180]),
  (33, .aload_n 1, 1, (0, 0, 0), [], []),
  (34, .getfield 93, 3, (4, 1, 0), [], [149]),
  (37, .iconst 0, 1, (0, 0, 0), [], []),
  (38, .iastore, 1, (0, 0, 0), [], []),
  (39, .aload_n 1, 1, (0, 0, 0), [], []),
  (40, .dup, 1, (0, 0, 0), [], []),
  (41, .getfield 93, 3, (4, 1, 0), [], [149]),
  (44, .iconst 1, 1, (0, 0, 0), [], []),
  (45, .iadd, 1, (0, 0, 0), [], []),
  (46, .putfield 93, 3, (4, 1, 0), [], [149]),
  (49, .iload 4, 2, (0, 0, 0), [], []),
  (51, .ireturn, 1, (0, 0, 0), [], [])]
/-- 19: X0_tellVoter -/
def am_t19 : List am_E := [(0, .aload_n 0, 1, (0, 0, 0), [], []),
  (1, .getfield 18, 3, (1, 5, 2), [], [352]),
  (4, .aload_n 1, 1, (0, 0, 0), [], []),
  (5, .getfield 123, 3, (4, 2, 0), [], [153]),
  (8, .lload_n 2, 1, (0, 0, 0), [], []),
  (9, .invokestatic 127, 3, (2, 20, 0), [], [643, 116, 644]),
  (12, .istore 4, 2, (0, 0, 0), [], []),
  (14, .iload 4, 2, (0, 0, 0), [], []),
  (16, .ifCond .ne 23, 3, (39, 0, 0), [], []),
  (19, .aload_n 0, 1, (0, 0, 0), [], []),
  (20, .getfield 18, 3, (1, 5, 2), [], [352]),
  (23, .aload_n 1, 1, (0, 0, 0), [], []),
  (24, .getfield 123, 3, (4, 2, 0), [], [153]),
  (27, .lload_n 2, 1, (0, 0, 0), [], []),
  (28, .lastore, 1, (0, 0, 0), [], []),
  (29, .aload_n 1, 1, (0, 0, 0), [], []),
  (30, .dup, 1, (0, 0, 0), [], []),
  (31, .getfield 123, 3, (4, 2, 0), [], [153]),
  (34, .iconst 1, 1, (0, 0, 0), [], []),
  (35, .iadd, 1, (0, 0, 0), [], []),
  (36, .putfield 123, 3, (4, 2, 0), [], [153]),
  (39, .iload 4, 2, (0, 0, 0), [], []),
  (41, .ireturn, 1, (0, 0, 0), [], [])]
/-- 20: X0_errorOfNew -/
def am_t20 : List am_E := [(0, .aload_n 0, 1, (0, 0, 0), [], []),
  (1, .iload_n 1, 1, (0, 0, 0), [], []),
  (2, .lload_n 2, 1, (0, 0, 0), [], []),
  (3, .invokestatic 105, 3, (2, 26, 0), [], [646, 116, 647]),
  (6, .iconst (-1), 1, (0, 0, 0), [], []),
  (7, .if_icmp .eq 5, 3, (12, 0, 0), [], []),
  (10, .iconst 2, 1, (0, 0, 0), [], []),
  (11, .ireturn, 1, (0, 0, 0), [], []),
  (12, .iload_n 1, 1, (0, 0, 0), [], []),
  (13, .aload_n 0, 1, (0, 0, 0), [], []),
  (14, .arraylength, 1, (0, 0, 0), [], []),
  (15, .if_icmp .lt 7, 3, (22, 0, 0), [], []),
  (18, .iconst 4, 1, (0, 0, 0), [], []),
  (19, .goto 4, 3, (23, 0, 0), [], []),
  (22, .iconst 0, 1, (0, 0, 0), [], []),
  (23, .ireturn, 1, (0, 0, 0), [], [])]
/-- 21: X0_tellBan -/
def am_t21 : List am_E := [(0, .aload_n 1, 1, (0, 0, 0), [], []),
  (1, .getfield 120, 3, (4, 3, 0), [], [157]),
  (4, .bipush 12, 2, (0, 0, 0), [], []),
  (6, .if_icmp .lt 5, 3, (11, 0, 0), [], []),
  (9, .iconst 4, 1, (0, 0, 0), [], []),
  (10, .ireturn, 1, (0, 0, 0), [], []),
  (11, .aload_n 1, 1, (0, 0, 0), [], []),
  (12, .getfield 133, 3, (4, 12, 2), [], [185]),
  (15, .aload_n 1, 1, (0, 0, 0), [], []),
  (16, .getfield 120, 3, (4, 3, 0), [], [157]),
  (19, .aload_n 0, 1, (0, 0, 0), [], []),
  (20, .getfield 29, 3, (1, 2, 2), [], [349]),
  (23, .getfield 136, 3, (2, 1, 2), [], [323]),
  (26, .aload_n 0, 1, (0, 0, 0), [], []),
  (27, .getfield 38, 3, (1, 0, 0), [], [346]),
  (30, .iaload, 1, (0, 0, 0), [], []),
  (31, .iastore, 1, (0, 0, 0), [], []),
  (32, .aload_n 1, 1, (0, 0, 0), [], []),
  (33, .dup, 1, (0, 0, 0), [], []),
  (34, .getfield 120, 3, (4, 3, 0), [], [157]),
  (37, .iconst 1, 1, (0, 0, 0), [], []),
  (38, .iadd, 1, (0, 0, 0), [], []),
  (39, .putfield 120, 3, (4, 3, 0), [], [157]),
  (42, .iconst 0, 1, (0, 0, 0), [], []),
  (43, .ireturn, 1, (0, 0, 0), [], [])]
/-- 22: X0_tellBudget -/
def am_t22 : List am_E := [(0, .lload_n 1, 1, (0, 0, 0), [], []),
  (1, .ldc2_w 139, 3, (0, 0, 0), [(9999, 1)], [668]),
  (4, .lcmp, 1, (0, 0, 0), [], []),
  (5, .ifCond .le 5, 3, (10, 0, 0), [], []),
  (8, .iconst 5, 1, (0, 0, 0), [], []),
  (9, .ireturn, 1, (0, 0, 0), [], []),
  (10, .aload_n 0, 1, (0, 0, 0), [], []),
  (11, .lload_n 1, 1, (0, 0, 0), [], []),
  (12, .l2i, 1, (0, 0, 0), [], []),
  (13, .putfield 141, 3, (4, 4, 0), [], [162]),
  (16, .iconst 0, 1, (0, 0, 0), [], []),
  (17, .ireturn, 1, (0, 0, 0), [], [])]
/-- 23: X0_tellLiked -/
def am_t23 : List am_E := [(0, .aload_n 0, 1, (0, 0, 0), [], []),
  (1, .getfield 123, 3, (4, 2, 0), [], [153]),
  (4, .iconst 1, 1, (0, 0, 0), [], []),
  (5, .isub, 1, (0, 0, 0), [], []),
  (6, .istore_n 2, 1, (0, 0, 0), [], []),
  (7, .aload_n 0, 1, (0, 0, 0), [], []),
  (8, .iload_n 1, 1, (0, 0, 0), [], []),
  (9, .invokevirtual 144, 3, (0, 87, 4), [], [675, 109, 676, 677]),
  (12, .ifCond .eq 11, 3, (23, 0, 0), [], []),
  (15, .aload_n 0, 1, (0, 0, 0), [], []),
  (16, .iload_n 2, 1, (0, 0, 0), [], []),
  (17, .invokevirtual 148, 3, (0, 88, 4), [], [679, 109, 680, 681]),
  (20, .ifCond .ne 5, 3, (25, 0, 0), [], []),
  (23, .iconst 3, 1, (0, 0, 0), [], []),
  (24, .ireturn, 1, (0, 0, 0), [], []),
  (25, .aload_n 0, 1, (0, 0, 0), [], []),
  (26, .getfield 130, 3, (4, 10, 2), [], [180]),
  (29, .iload_n 1, 1, (0, 0, 0), [], []),
  (30, .iaload, 1, (0, 0, 0), [], []),
  (31, .iload_n 2, 1, (0, 0, 0), [], []),
  (32, .ishr, 1, (0, 0, 0), [], []),
  (33, .iconst 1, 1, (0, 0, 0), [], []),
  (34, .iand, 1, (0, 0, 0), [], []),
  (35, .ifCond .eq 5, 3, (40, 0, 0), [], []),
  (38, .iconst 5, 1, (0, 0, 0), [], []),
  (39, .ireturn, 1, (0, 0, 0), [], []),
  (40, .aload_n 0, 1, (0, 0, 0), [], []),
  (41, .getfield 130, 3, (4, 10, 2), [], [180]),
  (44, .iload_n 1, 1, (0, 0, 0), [], []),
  (45, .dup2, 1, (0, 0, 0), [], []),
  (46, .iaload, 1, (0, 0, 0), [], []),
  (47, .iconst 1, 1, (0, 0, 0), [], []),
  (48, .iload_n 2, 1, (0, 0, 0), [], []),
  (49, .ishl, 1, (0, 0, 0), [], []),
  (50, .ior, 1, (0, 0, 0), [], []),
  (51, .iastore, 1, (0, 0, 0), [], []),
  (52, .iconst 0, 1, (0, 0, 0), [], []),
  (53, .ireturn, 1, (0, 0, 0), [], [])]
/-- 24: X0_putNumber -/
def am_t24 : List am_E := [(0, .aload_n 0, 1, (0, 0, 0), [], []),
  (1, .getfield 25, 3, (1, 1, 2), [], [348]),
  (4, .getfield 59, 3, (5, 1, 2), [], [292]),
  (7, .aload_n 0, 1, (0, 0, 0), [], []),
  (8, .getfield 38, 3, (1, 0, 0), [], [346]),
  (11, .laload, 1, (0, 0, 0), [], []),
  (12, .lstore 5, 2, (0, 0, 0), [], []),
  (14, .lload 5, 2, (0, 0, 0), [], []),
  (16, .iload_n 3, 1, (0, 0, 0), [], []),
  (17, .i2l, 1, (0, 0, 0), [], []),
  (18, .lcmp, 1, (0, 0, 0), [], []),
  (19, .ifCond .lt 12, 3, (31, 0, 0), [], []),
  (22, .lload 5, 2, (0, 0, 0), [], []),
  (24, .iload 4, 2, (0, 0, 0), [], []),
  (26, .i2l, 1, (0, 0, 0), [], []),
  (27, .lcmp, 1, (0, 0, 0), [], []),
  (28, .ifCond .le 5, 3, (33, 0, 0), [], []),
  (31, .iconst 5, 1, (0, 0, 0), [], []),
  (32, .ireturn, 1, (0, 0, 0), [], []),
  (33, .iload_n 2, 1, (0, 0, 0), [], []),
  (34, .ifCond .lt 15, 3, (49, 0, 0), [], []),
  (37, .iload_n 2, 1, (0, 0, 0), [], []),
  (38, .aload_n 1, 1, (0, 0, 0), [], []),
  (39, .arraylength, 1, (0, 0, 0), [], []),
  (40, .if_icmp .ge 9, 3, (49, 0, 0), [], []),
  (43, .aload_n 1, 1, (0, 0, 0), [], []),
  (44, .iload_n 2, 1, (0, 0, 0), [], []),
  (45, .lload 5, 2, (0, 0, 0), [], []),
  (47, .l2i, 1, (0, 0, 0), [], []),
  (48, .iastore, 1, (0, 0, 0), [], []),
  (49, .iconst 0, 1, (0, 0, 0), [], []),
  (50, .ireturn, 1, (0, 0, 0), [], [])]
/-- 25: X0_putNamed -/
def am_t25 : List am_E := [(0, .iload_n 2, 1, (0, 0, 0), [], []),
  (1, .iconst (-1), 1, (0, 0, 0), [], []),
  (2, .if_icmp .ne 5, 3, (7, 0, 0), [], []),
  (5, .iconst 3, 1, (0, 0, 0), [], []),
  (6, .ireturn, 1, (0, 0, 0), [], []),
  (7, .iload_n 1, 1, (0, 0, 0), [], []),
  (8, .ifCond .lt 13, 3, (21, 0, 0), [], []),
  (11, .iload_n 1, 1, (0, 0, 0), [], []),
  (12, .aload_n 0, 1, (0, 0, 0), [], []),
  (13, .arraylength, 1, (0, 0, 0), [], []),
  (14, .if_icmp .ge 7, 3, (21, 0, 0), [], []),
  (17, .aload_n 0, 1, (0, 0, 0), [], []),
  (18, .iload_n 1, 1, (0, 0, 0), [], []),
  (19, .iload_n 2, 1, (0, 0, 0), [], []),
  (20, .iastore, 1, (0, 0, 0), [], []),
  (21, .iconst 0, 1, (0, 0, 0), [], []),
  (22, .ireturn, 1, (0, 0, 0), [], [])]
/-- 26: X0_find -/
def am_t26 : List am_E := [(0, .iconst 0, 1, (0, 0, 0), [], []),
  (1, .istore 4, 2, (0, 0, 0), [], []),
  (3, .iload 4, 2, (0, 0, 0), [], []),
  (5, .iload_n 1, 1, (0, 0, 0), [], []),
  (6, .if_icmp .ge 28, 3, (34, 0, 0), [], []),
  (9, .iload 4, 2, (0, 0, 0), [], []),
  (11, .aload_n 0, 1, (0, 0, 0), [], []),
  (12, .arraylength, 1, (0, 0, 0), [], []),
  (13, .if_icmp .ge 21, 3, (34, 0, 0), [], []),
  (16, .aload_n 0, 1, (0, 0, 0), [], []),
  (17, .iload 4, 2, (0, 0, 0), [], []),
  (19, .laload, 1, (0, 0, 0), [], []),
  (20, .lload_n 2, 1, (0, 0, 0), [], []),
  (21, .lcmp, 1, (0, 0, 0), [], []),
  (22, .ifCond .ne 6, 3, (28, 0, 0), [], []),
  (25, .iload 4, 2, (0, 0, 0), [], []),
  (27, .ireturn, 1, (0, 0, 0), [], []),
  (28, .iinc 4 1, 3, (0, 0, 0), [], []),
  (31, .goto (-28), 3, (3, 0, 0), [], []),
  (34, .iconst (-1), 1, (0, 0, 0), [], []),
  (35, .ireturn, 1, (0, 0, 0), [], [])]
/-- 27: X1_init -/
def am_t27 : List am_E := [(0, .aload_n 0, 1, (0, 0, 0), [], []),
  (1, .invokespecial 3, 3, (6, 0, 0), [], [319, 137, 138]),
  (4, .aload_n 0, 1, (0, 0, 0), [], []),
  (5, .sipush 401, 3, (0, 0, 0), [], []),
  (8, .newarray .int, 2, (20, 0, 0), [], [226]),
  (10, .putfield 9, 3, (2, 0, 2), [], [320]),
  (13, .aload_n 0, 1, (0, 0, 0), [], []),
  (14, .sipush 401, 3, (0, 0, 0), [], []),
  (17, .newarray .int, 2, (20, 0, 0), [], [226]),
  (19, .putfield 15, 3, (2, 1, 2), [], [322]),
  (22, .aload_n 0, 1, (0, 0, 0), [], []),
  (23, .aload_n 1, 1, (0, 0, 0), [], []),
  (24, .putfield 18, 3, (2, 3, 2), [], [327]),
  (27, .aload_n 0, 1, (0, 0, 0), [], []),
  (28, .aload_n 2, 1, (0, 0, 0), [], []),
  (29, .putfield 22, 3, (2, 4, 2), [], [328]),
  (32, .return_, 1, (0, 0, 0), [], [])]
/-- 28: X1_isList -/
def am_t28 : List am_E := [(0, .aload_n 0, 1, (0, 0, 0), [], []),
  (1, .aload_n 1, 1, (0, 0, 0), [], []),
  (2, .putfield 22, 3, (2, 4, 2), [], [328]),
  (5, .aload_n 1, 1, (0, 0, 0), [], []),
  (6, .iconst 0, 1, (0, 0, 0), [], []),
  (7, .putfield 26, 3, (4, 5, 0), [], [163]),
  (10, .aload_n 0, 1, (0, 0, 0), [], []),
  (11, .iconst 0, 1, (0, 0, 0), [], []),
  (12, .putfield 32, 3, (2, 2, 0), [], [324]),
  (15, .iconst 0, 1, (0, 0, 0), [], []),
  (16, .istore_n 2, 1, (0, 0, 0), [], []),
  (17, .iload_n 2, 1, (0, 0, 0), [], []),
  (18, .sipush 400, 3, (0, 0, 0), [], []),
  (21, .if_icmp .ge 39, 3, (60, 0, 0), [], []),
  (24, .aload_n 0, 1, (0, 0, 0), [], []),
  (25, .invokevirtual 35, 3, (0, 29, 2), [], [559, 115, 561, 6]),
  (28, .sipush 260, 3, (0, 0, 0), [], []),
  (31, .if_icmp .ne 5, 3, (36, 0, 0), [], []),
  (34, .iconst 1, 1, (0, 0, 0), [], []),
  (35, .ireturn, 1, (1, 0, 0), [], []),
  (36, .aload_n 0, 1, (0, 0, 0), [], []),
  (37, .invokevirtual 41, 3, (0, 34, 2), [], [563, 115, 565, 7]),
  (40, .ifCond .eq 12, 3, (52, 0, 0), [], []),
  (43, .aload_n 0, 1, (0, 0, 0), [], []),
  (44, .bipush 59, 2, (0, 0, 0), [], []),
  (46, .invokevirtual 45, 3, (0, 30, 2), [], [567, 115, 569, 8]),
  (49, .ifCond .ne 5, 3, (54, 0, 0), [], []),
  (52, .iconst 0, 1, (0, 0, 0), [], []),
  (53, .ireturn, 1, (1, 0, 0), [], []),
  (54, .iinc 2 1, 3, (0, 0, 0), [], []),
  (57, .goto (-40), 3, (17, 0, 0), [], []),
  (60, .aload_n 0, 1, (0, 0, 0), [], []),
  (61, .invokevirtual 35, 3, (0, 29, 2), [], [559, 115, 561, 6]),
  (64, .sipush 260, 3, (0, 0, 0), [], []),
  (67, .if_icmp .ne 7, 3, (74, 0, 0), [], []),
  (70, .iconst 1, 1, (0, 0, 0), [], []),
  (71, .goto 4, 3, (75, 0, 0), [], []),
  (74, .iconst 0, 1, (0, 0, 0), [], []),
  (75, .ireturn, 1, (1, 0, 0), [], [])]
/-- 29: X1_here -/
def am_t29 : List am_E := [(0, .aload_n 0, 1, (0, 0, 0), [], []),
  (1, .getfield 32, 3, (2, 2, 0), [], [324]),
  (4, .ifCond .lt 33, 3, (37, 0, 0), [], []),
  (7, .aload_n 0, 1, (0, 0, 0), [], []),
  (8, .getfield 32, 3, (2, 2, 0), [], [324]),
  (11, .aload_n 0, 1, (0, 0, 0), [], []),
  (12, .getfield 18, 3, (2, 3, 2), [], [327]),
  (15, .getfield 49, 3, (5, 0, 2), [], [290]),
  (18, .arraylength, 1, (0, 0, 0), [], []),
  (19, .if_icmp .ge 18, 3, (37, 0, 0), [], []),
  (22, .aload_n 0, 1, (0, 0, 0), [], []),
  (23, .getfield 18, 3, (2, 3, 2), [], [327]),
  (26, .getfield 49, 3, (5, 0, 2), [], [290]),
  (29, .aload_n 0, 1, (0, 0, 0), [], []),
  (30, .getfield 32, 3, (2, 2, 0), [], [324]),
  (33, .iaload, 1, (0, 0, 0), [], []),
  (34, .goto 6, 3, (40, 0, 0), [], []),
  (37, .sipush 260, 3, (0, 0, 0), [], []),
  (40, .ireturn, 1, (0, 0, 0), [], [])]
/-- 30: X1_take -/
def am_t30 : List am_E := [(0, .aload_n 0, 1, (0, 0, 0), [], []),
  (1, .iload_n 1, 1, (0, 0, 0), [], []),
  (2, .iconst 0, 1, (0, 0, 0), [], []),
  (3, .invokevirtual 56, 3, (0, 31, 2), [], [571, 115, 573, 9]),
  (6, .ireturn, 1, (1, 0, 0), [], [])]
/-- 31: X1_take_ -/
def am_t31 : List am_E := [(0, .aload_n 0, 1, (0, 0, 0), [], []),
  (1, .getfield 32, 3, (2, 2, 0), [], [324]),
  (4, .ifCond .lt 29, 3, (33, 0, 0), [], []),
  (7, .aload_n 0, 1, (0, 0, 0), [], []),
  (8, .getfield 32, 3, (2, 2, 0), [], [324]),
  (11, .sipush 400, 3, (0, 0, 0), [], []),
  (14, .if_icmp .ge 19, 3, (33, 0, 0), [], []),
  (17, .aload_n 0, 1, (0, 0, 0), [], []),
  (18, .getfield 18, 3, (2, 3, 2), [], [327]),
  (21, .getfield 49, 3, (5, 0, 2), [], [290]),
  (24, .aload_n 0, 1, (0, 0, 0), [], []),
  (25, .getfield 32, 3, (2, 2, 0), [], [324]),
  (28, .iaload, 1, (0, 0, 0), [], []),
  (29, .iload_n 1, 1, (0, 0, 0), [], []),
  (30, .if_icmp .eq 5, 3, (35, 0, 0), [], []),
  (33, .iconst 0, 1, (0, 0, 0), [], []),
  (34, .ireturn, 1, (1, 0, 0), [], []),
  (35, .aload_n 0, 1, (0, 0, 0), [], []),
  (36, .getfield 9, 3, (2, 0, 2), [], [320]),
  (39, .aload_n 0, 1, (0, 0, 0), [], []),
  (40, .getfield 32, 3, (2, 2, 0), [], [324]),
  (43, .iload_n 2, 1, (0, 0, 0), [], []),
  (44, .iastore, 1, (0, 0, 0), [], []),
  (45, .aload_n 0, 1, (0, 0, 0), [], []),
  (46, .dup, 1, (0, 0, 0), [], []),
  (47, .getfield 32, 3, (2, 2, 0), [], [324]),
  (50, .iconst 1, 1, (0, 0, 0), [], []),
  (51, .iadd, 1, (0, 0, 0), [], []),
  (52, .putfield 32, 3, (2, 2, 0), [], [324]),
  (55, .iconst 1, 1, (0, 0, 0), [], []),
  (56, .ireturn, 1, (1, 0, 0), [], [])]
/-- 32: X1_write -/
def am_t32 : List am_E := [(0, .aload_n 0, 1, (0, 0, 0), [], []),
  (1, .iload_n 1, 1, (0, 0, 0), [], []),
  (2, .iconst 0, 1, (0, 0, 0), [], []),
  (3, .invokevirtual 59, 3, (0, 33, 2), [], [599, 115, 601, 16]),
  (6, .ireturn, 1, (1, 0, 0), [], [])]
/-- 33: X1_write_ -/
def am_t33 : List am_E := [(0, .aload_n 0, 1, (0, 0, 0), [], []),
  (1, .getfield 22, 3, (2, 4, 2), [], [328]),
  (4, .getfield 26, 3, (4, 5, 0), [], [163]),
  (7, .ifCond .lt 21, 3, (28, 0, 0), [], []),
  (10, .aload_n 0, 1, (0, 0, 0), [], []),
  (11, .getfield 22, 3, (2, 4, 2), [], [328]),
  (14, .getfield 26, 3, (4, 5, 0), [], [163]),
  (17, .aload_n 0, 1, (0, 0, 0), [], []),
  (18, .getfield 22, 3, (2, 4, 2), [], [328]),
  (21, .getfield 62, 3, (4, 13, 2), [], [188]),
  (24, .arraylength, 1, (0, 0, 0), [], []),
  (25, .if_icmp .lt 5, 3, (30, 0, 0), [], []),
  (28, .iconst 0, 1, (0, 0, 0), [], []),
  (29, .ireturn, 1, (1, 0, 0), [], []),
  (30, .aload_n 0, 1, (0, 0, 0), [], []),
  (31, .getfield 22, 3, (2, 4, 2), [], [328]),
  (34, .getfield 62, 3, (4, 13, 2), [], [188]),
  (37, .aload_n 0, 1, (0, 0, 0), [], []),
  (38, .getfield 22, 3, (2, 4, 2), [], [328]),
  (41, .getfield 26, 3, (4, 5, 0), [], [163]),
  (44, .iload_n 1, 1, (0, 0, 0), [], []),
  (45, .iastore, 1, (0, 0, 0), [], []),
  (46, .aload_n 0, 1, (0, 0, 0), [], []),
  (47, .getfield 22, 3, (2, 4, 2), [], [328]),
  (50, .getfield 65, 3, (4, 14, 2), [], [192]),
  (53, .aload_n 0, 1, (0, 0, 0), [], []),
  (54, .getfield 22, 3, (2, 4, 2), [], [328]),
  (57, .getfield 26, 3, (4, 5, 0), [], [163]),
  (60, .iload_n 2, 1, (0, 0, 0), [], []),
  (61, .iastore, 1, (0, 0, 0), [], []),
  (62, .aload_n 0, 1, (0, 0, 0), [], []),
  (63, .getfield 22, 3, (2, 4, 2), [], [328]),
  (66, .dup, 1, (0, 0, 0), [], []),
  (67, .getfield 26, 3, (4, 5, 0), [], [163]),
  (70, .iconst 1, 1, (0, 0, 0), [], []),
  (71, .iadd, 1, (0, 0, 0), [], []),
  (72, .putfield 26, 3, (4, 5, 0), [], [163]),
  (75, .iconst 1, 1, (0, 0, 0), [], []),
  (76, .ireturn, 1, (1, 0, 0), [], [])]
/-- 34: X1_isLine -/
def am_t34_0 : List am_E := [(0, .aload_n 0, 1, (0, 0, 0), [], []),
  (1, .invokevirtual 35, 3, (0, 29, 2), [], [559, 115, 561, 6]),
  (4, .tableswitch 274 300 309 #[56, 274, 104, 274, 274, 274, 197, 274, 241, 269], 56, (278, 0, 0), [(300, 60), (301, 278), (302, 108), (303, 278), (304, 278), (305, 278), (306, 201), (307, 278), (308, 245), (309, 273)], []),
  (60, .aload_n 0, 1, (0, 0, 0), [], []),
  (61, .sipush 300, 3, (0, 0, 0), [], []),
  (64, .invokevirtual 45, 3, (0, 30, 2), [], [567, 115, 569, 8]),
  (67, .ifCond .eq 39, 3, (106, 0, 0), [], []),
  (70, .aload_n 0, 1, (0, 0, 0), [], []),
  (71, .sipush 256, 3, (0, 0, 0), [], []),
  (74, .iconst 1, 1, (0, 0, 0), [], []),
  (75, .invokevirtual 56, 3, (0, 31, 2), [], [571, 115, 573, 9]),
  (78, .ifCond .eq 28, 3, (106, 0, 0), [], []),
  (81, .aload_n 0, 1, (0, 0, 0), [], []),
  (82, .sipush 301, 3, (0, 0, 0), [], []),
  (85, .invokevirtual 45, 3, (0, 30, 2), [], [567, 115, 569, 8]),
  (88, .ifCond .eq 18, 3, (106, 0, 0), [], []),
  (91, .aload_n 0, 1, (0, 0, 0), [], []),
  (92, .sipush 257, 3, (0, 0, 0), [], []),
  (95, .iconst 5, 1, (0, 0, 0), [], []),
  (96, .invokevirtual 56, 3, (0, 31, 2), [], [571, 115, 573, 9]),
  (99, .ifCond .eq 7, 3, (106, 0, 0), [], []),
  (102, .iconst 1, 1, (0, 0, 0), [], []),
  (103, .goto 4, 3, (107, 0, 0), [], []),
  (106, .iconst 0, 1, (0, 0, 0), [], []),
  (107, .ireturn, 1, (1, 0, 0), [], []),
  (108, .aload_n 0, 1, (0, 0, 0), [], []),
  (109, .sipush 302, 3, (0, 0, 0), [], []),
  (112, .invokevirtual 45, 3, (0, 30, 2), [], [567, 115, 569, 8]),
  (115, .ifCond .eq 84, 3, (199, 0, 0), [], []),
  (118, .aload_n 0, 1, (0, 0, 0), [], []),
  (119, .sipush 256, 3, (0, 0, 0), [], []),
  (122, .iconst 2, 1, (0, 0, 0), [], []),
  (123, .invokevirtual 56, 3, (0, 31, 2), [], [571, 115, 573, 9]),
  (126, .ifCond .eq 73, 3, (199, 0, 0), [], []),
  (129, .aload_n 0, 1, (0, 0, 0), [], []),
  (130, .sipush 303, 3, (0, 0, 0), [], []),
  (133, .invokevirtual 45, 3, (0, 30, 2), [], [567, 115, 569, 8]),
  (136, .ifCond .eq 63, 3, (199, 0, 0), [], []),
  (139, .aload_n 0, 1, (0, 0, 0), [], []),
  (140, .sipush 257, 3, (0, 0, 0), [], []),
  (143, .bipush 6, 2, (0, 0, 0), [], []),
  (145, .invokevirtual 56, 3, (0, 31, 2), [], [571, 115, 573, 9]),
  (148, .ifCond .eq 51, 3, (199, 0, 0), [], []),
  (151, .aload_n 0, 1, (0, 0, 0), [], []),
  (152, .sipush 304, 3, (0, 0, 0), [], []),
  (155, .invokevirtual 45, 3, (0, 30, 2), [], [567, 115, 569, 8]),
  (158, .ifCond .eq 41, 3, (199, 0, 0), [], []),
  (161, .aload_n 0, 1, (0, 0, 0), [], []),
  (162, .sipush 256, 3, (0, 0, 0), [], []),
  (165, .bipush 9, 2, (0, 0, 0), [], []),
  (167, .invokevirtual 56, 3, (0, 31, 2), [], [571, 115, 573, 9]),
  (170, .ifCond .eq 29, 3, (199, 0, 0), [], []),
  (173, .aload_n 0, 1, (0, 0, 0), [], []),
  (174, .sipush 305, 3, (0, 0, 0), [], []),
  (177, .invokevirtual 45, 3, (0, 30, 2), [], [567, 115, 569, 8]),
  (180, .ifCond .eq 19, 3, (199, 0, 0), [], []),
  (183, .aload_n 0, 1, (0, 0, 0), [], []),
  (184, .sipush 257, 3, (0, 0, 0), [], []),
  (187, .bipush 7, 2, (0, 0, 0), [], []),
  (189, .invokevirtual 56, 3, (0, 31, 2), [], [571, 115, 573, 9])]
def am_t34_1 : List am_E := [(192, .ifCond .eq 7, 3, (199, 0, 0), [], []),
  (195, .iconst 1, 1, (0, 0, 0), [], []),
  (196, .goto 4, 3, (200, 0, 0), [], []),
  (199, .iconst 0, 1, (0, 0, 0), [], []),
  (200, .ireturn, 1, (1, 0, 0), [], []),
  (201, .aload_n 0, 1, (0, 0, 0), [], []),
  (202, .sipush 306, 3, (0, 0, 0), [], []),
  (205, .invokevirtual 45, 3, (0, 30, 2), [], [567, 115, 569, 8]),
  (208, .ifCond .eq 35, 3, (243, 0, 0), [], []),
  (211, .aload_n 0, 1, (0, 0, 0), [], []),
  (212, .sipush 256, 3, (0, 0, 0), [], []),
  (215, .iconst 3, 1, (0, 0, 0), [], []),
  (216, .invokevirtual 56, 3, (0, 31, 2), [], [571, 115, 573, 9]),
  (219, .ifCond .eq 24, 3, (243, 0, 0), [], []),
  (222, .aload_n 0, 1, (0, 0, 0), [], []),
  (223, .sipush 307, 3, (0, 0, 0), [], []),
  (226, .invokevirtual 45, 3, (0, 30, 2), [], [567, 115, 569, 8]),
  (229, .ifCond .eq 10, 3, (239, 0, 0), [], []),
  (232, .aload_n 0, 1, (0, 0, 0), [], []),
  (233, .invokevirtual 68, 3, (0, 35, 2), [], [575, 115, 577, 10]),
  (236, .ifCond .eq 7, 3, (243, 0, 0), [], []),
  (239, .iconst 1, 1, (0, 0, 0), [], []),
  (240, .goto 4, 3, (244, 0, 0), [], []),
  (243, .iconst 0, 1, (0, 0, 0), [], []),
  (244, .ireturn, 1, (1, 0, 0), [], []),
  (245, .aload_n 0, 1, (0, 0, 0), [], []),
  (246, .sipush 308, 3, (0, 0, 0), [], []),
  (249, .invokevirtual 45, 3, (0, 30, 2), [], [567, 115, 569, 8]),
  (252, .ifCond .eq 19, 3, (271, 0, 0), [], []),
  (255, .aload_n 0, 1, (0, 0, 0), [], []),
  (256, .sipush 257, 3, (0, 0, 0), [], []),
  (259, .bipush 8, 2, (0, 0, 0), [], []),
  (261, .invokevirtual 56, 3, (0, 31, 2), [], [571, 115, 573, 9]),
  (264, .ifCond .eq 7, 3, (271, 0, 0), [], []),
  (267, .iconst 1, 1, (0, 0, 0), [], []),
  (268, .goto 4, 3, (272, 0, 0), [], []),
  (271, .iconst 0, 1, (0, 0, 0), [], []),
  (272, .ireturn, 1, (1, 0, 0), [], []),
  (273, .aload_n 0, 1, (0, 0, 0), [], []),
  (274, .invokevirtual 71, 3, (0, 36, 2), [], [579, 115, 581, 11]),
  (277, .ireturn, 1, (1, 0, 0), [], []),
  (278, .iconst 0, 1, (0, 0, 0), [], []),
  (279, .ireturn, 1, (1, 0, 0), [], [])]
def am_t34 : List am_E := am_t34_0 ++ (am_t34_1)
/-- 35: X1_isRowOfLiked -/
def am_t35 : List am_E := [(0, .aload_n 0, 1, (0, 0, 0), [], []),
  (1, .sipush 256, 3, (0, 0, 0), [], []),
  (4, .bipush 10, 2, (0, 0, 0), [], []),
  (6, .invokevirtual 56, 3, (0, 31, 2), [], [571, 115, 573, 9]),
  (9, .ifCond .ne 5, 3, (14, 0, 0), [], []),
  (12, .iconst 0, 1, (0, 0, 0), [], []),
  (13, .ireturn, 1, (1, 0, 0), [], []),
  (14, .iconst 0, 1, (0, 0, 0), [], []),
  (15, .istore_n 1, 1, (0, 0, 0), [], []),
  (16, .iload_n 1, 1, (0, 0, 0), [], []),
  (17, .sipush 400, 3, (0, 0, 0), [], []),
  (20, .if_icmp .ge 21, 3, (41, 0, 0), [], []),
  (23, .aload_n 0, 1, (0, 0, 0), [], []),
  (24, .sipush 256, 3, (0, 0, 0), [], []),
  (27, .bipush 10, 2, (0, 0, 0), [], []),
  (29, .invokevirtual 56, 3, (0, 31, 2), [], [571, 115, 573, 9]),
  (32, .ifCond .eq 9, 3, (41, 0, 0), [], []),
  (35, .iinc 1 1, 3, (0, 0, 0), [], []),
  (38, .goto (-22), 3, (16, 0, 0), [], []),
  (41, .iconst 1, 1, (0, 0, 0), [], []),
  (42, .ireturn, 1, (1, 0, 0), [], [])]
/-- 36: X1_isBan -/
def am_t36 : List am_E := [(0, .aload_n 0, 1, (0, 0, 0), [], []),
  (1, .getfield 32, 3, (2, 2, 0), [], [324]),
  (4, .ifCond .lt 31, 3, (35, 0, 0), [], []),
  (7, .aload_n 0, 1, (0, 0, 0), [], []),
  (8, .getfield 32, 3, (2, 2, 0), [], [324]),
  (11, .aload_n 0, 1, (0, 0, 0), [], []),
  (12, .getfield 15, 3, (2, 1, 2), [], [322]),
  (15, .arraylength, 1, (0, 0, 0), [], []),
  (16, .if_icmp .ge 19, 3, (35, 0, 0), [], []),
  (19, .aload_n 0, 1, (0, 0, 0), [], []),
  (20, .getfield 15, 3, (2, 1, 2), [], [322]),
  (23, .aload_n 0, 1, (0, 0, 0), [], []),
  (24, .getfield 32, 3, (2, 2, 0), [], [324]),
  (27, .aload_n 0, 1, (0, 0, 0), [], []),
  (28, .getfield 22, 3, (2, 4, 2), [], [328]),
  (31, .getfield 26, 3, (4, 5, 0), [], [163]),
  (34, .iastore, 1, (0, 0, 0), [], []),
  (35, .aload_n 0, 1, (0, 0, 0), [], []),
  (36, .sipush 309, 3, (0, 0, 0), [], []),
  (39, .iconst 4, 1, (0, 0, 0), [], []),
  (40, .invokevirtual 56, 3, (0, 31, 2), [], [571, 115, 573, 9]),
  (43, .ifCond .eq 45, 3, (88, 0, 0), [], []),
  (46, .aload_n 0, 1, (0, 0, 0), [], []),
  (47, .sipush 256, 3, (0, 0, 0), [], []),
  (50, .bipush 11, 2, (0, 0, 0), [], []),
  (52, .invokevirtual 56, 3, (0, 31, 2), [], [571, 115, 573, 9]),
  (55, .ifCond .eq 33, 3, (88, 0, 0), [], []),
  (58, .aload_n 0, 1, (0, 0, 0), [], []),
  (59, .sipush 310, 3, (0, 0, 0), [], []),
  (62, .invokevirtual 45, 3, (0, 30, 2), [], [567, 115, 569, 8]),
  (65, .ifCond .eq 23, 3, (88, 0, 0), [], []),
  (68, .aload_n 0, 1, (0, 0, 0), [], []),
  (69, .iconst 0, 1, (0, 0, 0), [], []),
  (70, .invokevirtual 74, 3, (0, 37, 2), [], [583, 115, 585, 12]),
  (73, .ifCond .eq 15, 3, (88, 0, 0), [], []),
  (76, .aload_n 0, 1, (0, 0, 0), [], []),
  (77, .iconst 0, 1, (0, 0, 0), [], []),
  (78, .invokevirtual 79, 3, (0, 32, 2), [], [595, 115, 597, 15]),
  (81, .ifCond .eq 7, 3, (88, 0, 0), [], []),
  (84, .iconst 1, 1, (0, 0, 0), [], []),
  (85, .goto 4, 3, (89, 0, 0), [], []),
  (88, .iconst 0, 1, (0, 0, 0), [], []),
  (89, .ireturn, 1, (1, 0, 0), [], [])]
/-- 37: X1_isTest -/
def am_t37 : List am_E := [(0, .aload_n 0, 1, (0, 0, 0), [], []),
  (1, .iload_n 1, 1, (0, 0, 0), [], []),
  (2, .invokevirtual 81, 3, (0, 38, 2), [], [587, 115, 589, 13]),
  (5, .ifCond .ne 5, 3, (10, 0, 0), [], []),
  (8, .iconst 0, 1, (0, 0, 0), [], []),
  (9, .ireturn, 1, (1, 0, 0), [], []),
  (10, .iconst 0, 1, (0, 0, 0), [], []),
  (11, .istore_n 2, 1, (0, 0, 0), [], []),
  (12, .iload_n 2, 1, (0, 0, 0), [], []),
  (13, .sipush 400, 3, (0, 0, 0), [], []),
  (16, .if_icmp .ge 38, 3, (54, 0, 0), [], []),
  (19, .aload_n 0, 1, (0, 0, 0), [], []),
  (20, .sipush 319, 3, (0, 0, 0), [], []),
  (23, .invokevirtual 45, 3, (0, 30, 2), [], [567, 115, 569, 8]),
  (26, .ifCond .eq 28, 3, (54, 0, 0), [], []),
  (29, .aload_n 0, 1, (0, 0, 0), [], []),
  (30, .iload_n 1, 1, (0, 0, 0), [], []),
  (31, .invokevirtual 81, 3, (0, 38, 2), [], [587, 115, 589, 13]),
  (34, .ifCond .eq 12, 3, (46, 0, 0), [], []),
  (37, .aload_n 0, 1, (0, 0, 0), [], []),
  (38, .bipush 24, 2, (0, 0, 0), [], []),
  (40, .invokevirtual 79, 3, (0, 32, 2), [], [595, 115, 597, 15]),
  (43, .ifCond .ne 5, 3, (48, 0, 0), [], []),
  (46, .iconst 0, 1, (0, 0, 0), [], []),
  (47, .ireturn, 1, (1, 0, 0), [], []),
  (48, .iinc 2 1, 3, (0, 0, 0), [], []),
  (51, .goto (-39), 3, (12, 0, 0), [], []),
  (54, .iconst 1, 1, (0, 0, 0), [], []),
  (55, .ireturn, 1, (1, 0, 0), [], [])]
/-- 38: X1_isBoth -/
def am_t38 : List am_E := [(0, .aload_n 0, 1, (0, 0, 0), [], []),
  (1, .iload_n 1, 1, (0, 0, 0), [], []),
  (2, .invokevirtual 84, 3, (0, 39, 2), [], [591, 115, 593, 14]),
  (5, .ifCond .ne 5, 3, (10, 0, 0), [], []),
  (8, .iconst 0, 1, (0, 0, 0), [], []),
  (9, .ireturn, 1, (1, 0, 0), [], []),
  (10, .iconst 0, 1, (0, 0, 0), [], []),
  (11, .istore_n 2, 1, (0, 0, 0), [], []),
  (12, .iload_n 2, 1, (0, 0, 0), [], []),
  (13, .sipush 400, 3, (0, 0, 0), [], []),
  (16, .if_icmp .ge 38, 3, (54, 0, 0), [], []),
  (19, .aload_n 0, 1, (0, 0, 0), [], []),
  (20, .sipush 318, 3, (0, 0, 0), [], []),
  (23, .invokevirtual 45, 3, (0, 30, 2), [], [567, 115, 569, 8]),
  (26, .ifCond .eq 28, 3, (54, 0, 0), [], []),
  (29, .aload_n 0, 1, (0, 0, 0), [], []),
  (30, .iload_n 1, 1, (0, 0, 0), [], []),
  (31, .invokevirtual 84, 3, (0, 39, 2), [], [591, 115, 593, 14]),
  (34, .ifCond .eq 12, 3, (46, 0, 0), [], []),
  (37, .aload_n 0, 1, (0, 0, 0), [], []),
  (38, .bipush 23, 2, (0, 0, 0), [], []),
  (40, .invokevirtual 79, 3, (0, 32, 2), [], [595, 115, 597, 15]),
  (43, .ifCond .ne 5, 3, (48, 0, 0), [], []),
  (46, .iconst 0, 1, (0, 0, 0), [], []),
  (47, .ireturn, 1, (1, 0, 0), [], []),
  (48, .iinc 2 1, 3, (0, 0, 0), [], []),
  (51, .goto (-39), 3, (12, 0, 0), [], []),
  (54, .iconst 1, 1, (0, 0, 0), [], []),
  (55, .ireturn, 1, (1, 0, 0), [], [])]
/-- 39: X1_isSingle -/
def am_t39_0 : List am_E := [(0, .aload_n 0, 1, (0, 0, 0), [], []),
  (1, .invokevirtual 35, 3, (0, 29, 2), [], [559, 115, 561, 6]),
  (4, .lookupswitch 197 #[(91, 85), (307, 152), (315, 125), (317, 44)], 44, (201, 0, 0), [(91, 89), (307, 156), (315, 129), (317, 48)], []),
  (48, .iload_n 1, 1, (0, 0, 0), [], []),
  (49, .bipush 8, 2, (0, 0, 0), [], []),
  (51, .if_icmp .ge 36, 3, (87, 0, 0), [], []),
  (54, .aload_n 0, 1, (0, 0, 0), [], []),
  (55, .sipush 317, 3, (0, 0, 0), [], []),
  (58, .invokevirtual 45, 3, (0, 30, 2), [], [567, 115, 569, 8]),
  (61, .ifCond .eq 26, 3, (87, 0, 0), [], []),
  (64, .aload_n 0, 1, (0, 0, 0), [], []),
  (65, .iload_n 1, 1, (0, 0, 0), [], []),
  (66, .iconst 1, 1, (0, 0, 0), [], []),
  (67, .iadd, 1, (0, 0, 0), [], []),
  (68, .invokevirtual 84, 3, (0, 39, 2), [], [591, 115, 593, 14]),
  (71, .ifCond .eq 16, 3, (87, 0, 0), [], []),
  (74, .aload_n 0, 1, (0, 0, 0), [], []),
  (75, .bipush 10, 2, (0, 0, 0), [], []),
  (77, .invokevirtual 79, 3, (0, 32, 2), [], [595, 115, 597, 15]),
  (80, .ifCond .eq 7, 3, (87, 0, 0), [], []),
  (83, .iconst 1, 1, (0, 0, 0), [], []),
  (84, .goto 4, 3, (88, 0, 0), [], []),
  (87, .iconst 0, 1, (0, 0, 0), [], []),
  (88, .ireturn, 1, (1, 0, 0), [], []),
  (89, .iload_n 1, 1, (0, 0, 0), [], []),
  (90, .bipush 8, 2, (0, 0, 0), [], []),
  (92, .if_icmp .ge 35, 3, (127, 0, 0), [], []),
  (95, .aload_n 0, 1, (0, 0, 0), [], []),
  (96, .bipush 91, 2, (0, 0, 0), [], []),
  (98, .invokevirtual 45, 3, (0, 30, 2), [], [567, 115, 569, 8]),
  (101, .ifCond .eq 26, 3, (127, 0, 0), [], []),
  (104, .aload_n 0, 1, (0, 0, 0), [], []),
  (105, .iload_n 1, 1, (0, 0, 0), [], []),
  (106, .iconst 1, 1, (0, 0, 0), [], []),
  (107, .iadd, 1, (0, 0, 0), [], []),
  (108, .invokevirtual 74, 3, (0, 37, 2), [], [583, 115, 585, 12]),
  (111, .ifCond .eq 16, 3, (127, 0, 0), [], []),
  (114, .aload_n 0, 1, (0, 0, 0), [], []),
  (115, .bipush 93, 2, (0, 0, 0), [], []),
  (117, .invokevirtual 45, 3, (0, 30, 2), [], [567, 115, 569, 8]),
  (120, .ifCond .eq 7, 3, (127, 0, 0), [], []),
  (123, .iconst 1, 1, (0, 0, 0), [], []),
  (124, .goto 4, 3, (128, 0, 0), [], []),
  (127, .iconst 0, 1, (0, 0, 0), [], []),
  (128, .ireturn, 1, (1, 0, 0), [], []),
  (129, .aload_n 0, 1, (0, 0, 0), [], []),
  (130, .sipush 315, 3, (0, 0, 0), [], []),
  (133, .invokevirtual 45, 3, (0, 30, 2), [], [567, 115, 569, 8]),
  (136, .ifCond .eq 18, 3, (154, 0, 0), [], []),
  (139, .aload_n 0, 1, (0, 0, 0), [], []),
  (140, .bipush 12, 2, (0, 0, 0), [], []),
  (142, .bipush 8, 2, (0, 0, 0), [], []),
  (144, .invokevirtual 87, 3, (0, 40, 2), [], [603, 115, 605, 17]),
  (147, .ifCond .eq 7, 3, (154, 0, 0), [], []),
  (150, .iconst 1, 1, (0, 0, 0), [], []),
  (151, .goto 4, 3, (155, 0, 0), [], []),
  (154, .iconst 0, 1, (0, 0, 0), [], []),
  (155, .ireturn, 1, (1, 0, 0), [], []),
  (156, .aload_n 0, 1, (0, 0, 0), [], []),
  (157, .sipush 307, 3, (0, 0, 0), [], [])]
def am_t39_1 : List am_E := [(160, .invokevirtual 45, 3, (0, 30, 2), [], [567, 115, 569, 8]),
  (163, .ifCond .eq 36, 3, (199, 0, 0), [], []),
  (166, .aload_n 0, 1, (0, 0, 0), [], []),
  (167, .bipush 13, 2, (0, 0, 0), [], []),
  (169, .iconst 1, 1, (0, 0, 0), [], []),
  (170, .invokevirtual 87, 3, (0, 40, 2), [], [603, 115, 605, 17]),
  (173, .ifCond .eq 26, 3, (199, 0, 0), [], []),
  (176, .aload_n 0, 1, (0, 0, 0), [], []),
  (177, .bipush 12, 2, (0, 0, 0), [], []),
  (179, .iconst 1, 1, (0, 0, 0), [], []),
  (180, .invokevirtual 87, 3, (0, 40, 2), [], [603, 115, 605, 17]),
  (183, .ifCond .eq 16, 3, (199, 0, 0), [], []),
  (186, .aload_n 0, 1, (0, 0, 0), [], []),
  (187, .bipush 11, 2, (0, 0, 0), [], []),
  (189, .invokevirtual 79, 3, (0, 32, 2), [], [595, 115, 597, 15]),
  (192, .ifCond .eq 7, 3, (199, 0, 0), [], []),
  (195, .iconst 1, 1, (0, 0, 0), [], []),
  (196, .goto 4, 3, (200, 0, 0), [], []),
  (199, .iconst 0, 1, (0, 0, 0), [], []),
  (200, .ireturn, 1, (1, 0, 0), [], []),
  (201, .aload_n 0, 1, (0, 0, 0), [], []),
  (202, .iload_n 1, 1, (0, 0, 0), [], []),
  (203, .invokevirtual 90, 3, (0, 42, 2), [], [607, 115, 609, 18]),
  (206, .ifCond .ne 5, 3, (211, 0, 0), [], []),
  (209, .iconst 0, 1, (0, 0, 0), [], []),
  (210, .ireturn, 1, (1, 0, 0), [], []),
  (211, .aload_n 0, 1, (0, 0, 0), [], []),
  (212, .invokevirtual 93, 3, (0, 41, 2), [], [623, 115, 625, 22]),
  (215, .istore_n 2, 1, (0, 0, 0), [], []),
  (216, .iload_n 2, 1, (0, 0, 0), [], []),
  (217, .ifCond .eq 34, 3, (251, 0, 0), [], []),
  (220, .aload_n 0, 1, (0, 0, 0), [], []),
  (221, .aload_n 0, 1, (0, 0, 0), [], []),
  (222, .invokevirtual 35, 3, (0, 29, 2), [], [559, 115, 561, 6]),
  (225, .invokevirtual 45, 3, (0, 30, 2), [], [567, 115, 569, 8]),
  (228, .ifCond .eq 23, 3, (251, 0, 0), [], []),
  (231, .aload_n 0, 1, (0, 0, 0), [], []),
  (232, .iload_n 1, 1, (0, 0, 0), [], []),
  (233, .invokevirtual 90, 3, (0, 42, 2), [], [607, 115, 609, 18]),
  (236, .ifCond .eq 15, 3, (251, 0, 0), [], []),
  (239, .aload_n 0, 1, (0, 0, 0), [], []),
  (240, .iload_n 2, 1, (0, 0, 0), [], []),
  (241, .invokevirtual 79, 3, (0, 32, 2), [], [595, 115, 597, 15]),
  (244, .ifCond .eq 7, 3, (251, 0, 0), [], []),
  (247, .iconst 1, 1, (0, 0, 0), [], []),
  (248, .goto 4, 3, (252, 0, 0), [], []),
  (251, .iconst 0, 1, (0, 0, 0), [], []),
  (252, .ireturn, 1, (1, 0, 0), [], [])]
def am_t39 : List am_E := am_t39_0 ++ (am_t39_1)
/-- 40: X1_isNamed -/
def am_t40 : List am_E := [(0, .aload_n 0, 1, (0, 0, 0), [], []),
  (1, .getfield 32, 3, (2, 2, 0), [], [324]),
  (4, .istore_n 3, 1, (0, 0, 0), [], []),
  (5, .aload_n 0, 1, (0, 0, 0), [], []),
  (6, .sipush 256, 3, (0, 0, 0), [], []),
  (9, .iload_n 1, 1, (0, 0, 0), [], []),
  (10, .invokevirtual 56, 3, (0, 31, 2), [], [571, 115, 573, 9]),
  (13, .ifCond .eq 16, 3, (29, 0, 0), [], []),
  (16, .aload_n 0, 1, (0, 0, 0), [], []),
  (17, .iload_n 2, 1, (0, 0, 0), [], []),
  (18, .iload_n 3, 1, (0, 0, 0), [], []),
  (19, .invokevirtual 59, 3, (0, 33, 2), [], [599, 115, 601, 16]),
  (22, .ifCond .eq 7, 3, (29, 0, 0), [], []),
  (25, .iconst 1, 1, (0, 0, 0), [], []),
  (26, .goto 4, 3, (30, 0, 0), [], []),
  (29, .iconst 0, 1, (0, 0, 0), [], []),
  (30, .ireturn, 1, (1, 0, 0), [], [])]
/-- 41: X1_comparisonHere -/
def am_t41 : List am_E := [(0, .aload_n 0, 1, (0, 0, 0), [], []),
  (1, .invokevirtual 35, 3, (0, 29, 2), [], [559, 115, 561, 6]),
  (4, .lookupswitch 67 #[(60, 52), (61, 58), (62, 55), (258, 61), (259, 64)], 52, (71, 0, 0), [(60, 56), (61, 62), (62, 59), (258, 65), (259, 68)], []),
  (56, .bipush 18, 2, (0, 0, 0), [], []),
  (58, .ireturn, 1, (0, 0, 0), [], []),
  (59, .bipush 19, 2, (0, 0, 0), [], []),
  (61, .ireturn, 1, (0, 0, 0), [], []),
  (62, .bipush 20, 2, (0, 0, 0), [], []),
  (64, .ireturn, 1, (0, 0, 0), [], []),
  (65, .bipush 21, 2, (0, 0, 0), [], []),
  (67, .ireturn, 1, (0, 0, 0), [], []),
  (68, .bipush 22, 2, (0, 0, 0), [], []),
  (70, .ireturn, 1, (0, 0, 0), [], []),
  (71, .iconst 0, 1, (0, 0, 0), [], []),
  (72, .ireturn, 1, (0, 0, 0), [], [])]
/-- 42: X1_isSum -/
def am_t42 : List am_E := [(0, .aload_n 0, 1, (0, 0, 0), [], []),
  (1, .iload_n 1, 1, (0, 0, 0), [], []),
  (2, .invokevirtual 96, 3, (0, 43, 2), [], [611, 115, 613, 19]),
  (5, .ifCond .ne 5, 3, (10, 0, 0), [], []),
  (8, .iconst 0, 1, (0, 0, 0), [], []),
  (9, .ireturn, 1, (1, 0, 0), [], []),
  (10, .iconst 0, 1, (0, 0, 0), [], []),
  (11, .istore_n 2, 1, (0, 0, 0), [], []),
  (12, .iload_n 2, 1, (0, 0, 0), [], []),
  (13, .sipush 400, 3, (0, 0, 0), [], []),
  (16, .if_icmp .ge 64, 3, (80, 0, 0), [], []),
  (19, .aload_n 0, 1, (0, 0, 0), [], []),
  (20, .invokevirtual 35, 3, (0, 29, 2), [], [559, 115, 561, 6]),
  (23, .bipush 43, 2, (0, 0, 0), [], []),
  (25, .if_icmp .ne 8, 3, (33, 0, 0), [], []),
  (28, .bipush 12, 2, (0, 0, 0), [], []),
  (30, .goto 5, 3, (35, 0, 0), [], []),
  (33, .bipush 13, 2, (0, 0, 0), [], []),
  (35, .istore_n 3, 1, (0, 0, 0), [], []),
  (36, .aload_n 0, 1, (0, 0, 0), [], []),
  (37, .bipush 43, 2, (0, 0, 0), [], []),
  (39, .invokevirtual 45, 3, (0, 30, 2), [], [567, 115, 569, 8]),
  (42, .ifCond .ne 14, 3, (56, 0, 0), [], []),
  (45, .aload_n 0, 1, (0, 0, 0), [], []),
  (46, .bipush 45, 2, (0, 0, 0), [], []),
  (48, .invokevirtual 45, 3, (0, 30, 2), [], [567, 115, 569, 8]),
  (51, .ifCond .ne 5, 3, (56, 0, 0), [], []),
  (54, .iconst 1, 1, (0, 0, 0), [], []),
  (55, .ireturn, 1, (1, 0, 0), [], []),
  (56, .aload_n 0, 1, (0, 0, 0), [], []),
  (57, .iload_n 1, 1, (0, 0, 0), [], []),
  (58, .invokevirtual 96, 3, (0, 43, 2), [], [611, 115, 613, 19]),
  (61, .ifCond .eq 11, 3, (72, 0, 0), [], []),
  (64, .aload_n 0, 1, (0, 0, 0), [], []),
  (65, .iload_n 3, 1, (0, 0, 0), [], []),
  (66, .invokevirtual 79, 3, (0, 32, 2), [], [595, 115, 597, 15]),
  (69, .ifCond .ne 5, 3, (74, 0, 0), [], []),
  (72, .iconst 0, 1, (0, 0, 0), [], []),
  (73, .ireturn, 1, (1, 0, 0), [], []),
  (74, .iinc 2 1, 3, (0, 0, 0), [], []),
  (77, .goto (-65), 3, (12, 0, 0), [], []),
  (80, .iconst 1, 1, (0, 0, 0), [], []),
  (81, .ireturn, 1, (1, 0, 0), [], [])]
/-- 43: X1_isProduct -/
def am_t43 : List am_E := [(0, .aload_n 0, 1, (0, 0, 0), [], []),
  (1, .iload_n 1, 1, (0, 0, 0), [], []),
  (2, .invokevirtual 99, 3, (0, 44, 2), [], [615, 115, 617, 20]),
  (5, .ifCond .ne 5, 3, (10, 0, 0), [], []),
  (8, .iconst 0, 1, (0, 0, 0), [], []),
  (9, .ireturn, 1, (1, 0, 0), [], []),
  (10, .iconst 0, 1, (0, 0, 0), [], []),
  (11, .istore_n 2, 1, (0, 0, 0), [], []),
  (12, .iload_n 2, 1, (0, 0, 0), [], []),
  (13, .sipush 400, 3, (0, 0, 0), [], []),
  (16, .if_icmp .ge 64, 3, (80, 0, 0), [], []),
  (19, .aload_n 0, 1, (0, 0, 0), [], []),
  (20, .invokevirtual 35, 3, (0, 29, 2), [], [559, 115, 561, 6]),
  (23, .bipush 42, 2, (0, 0, 0), [], []),
  (25, .if_icmp .ne 8, 3, (33, 0, 0), [], []),
  (28, .bipush 14, 2, (0, 0, 0), [], []),
  (30, .goto 5, 3, (35, 0, 0), [], []),
  (33, .bipush 15, 2, (0, 0, 0), [], []),
  (35, .istore_n 3, 1, (0, 0, 0), [], []),
  (36, .aload_n 0, 1, (0, 0, 0), [], []),
  (37, .bipush 42, 2, (0, 0, 0), [], []),
  (39, .invokevirtual 45, 3, (0, 30, 2), [], [567, 115, 569, 8]),
  (42, .ifCond .ne 14, 3, (56, 0, 0), [], []),
  (45, .aload_n 0, 1, (0, 0, 0), [], []),
  (46, .bipush 47, 2, (0, 0, 0), [], []),
  (48, .invokevirtual 45, 3, (0, 30, 2), [], [567, 115, 569, 8]),
  (51, .ifCond .ne 5, 3, (56, 0, 0), [], []),
  (54, .iconst 1, 1, (0, 0, 0), [], []),
  (55, .ireturn, 1, (1, 0, 0), [], []),
  (56, .aload_n 0, 1, (0, 0, 0), [], []),
  (57, .iload_n 1, 1, (0, 0, 0), [], []),
  (58, .invokevirtual 99, 3, (0, 44, 2), [], [615, 115, 617, 20]),
  (61, .ifCond .eq 11, 3, (72, 0, 0), [], []),
  (64, .aload_n 0, 1, (0, 0, 0), [], []),
  (65, .iload_n 3, 1, (0, 0, 0), [], []),
  (66, .invokevirtual 79, 3, (0, 32, 2), [], [595, 115, 597, 15]),
  (69, .ifCond .ne 5, 3, (74, 0, 0), [], []),
  (72, .iconst 0, 1, (0, 0, 0), [], []),
  (73, .ireturn, 1, (1, 0, 0), [], []),
  (74, .iinc 2 1, 3, (0, 0, 0), [], []),
  (77, .goto (-65), 3, (12, 0, 0), [], []),
  (80, .iconst 1, 1, (0, 0, 0), [], []),
  (81, .ireturn, 1, (1, 0, 0), [], [])]
/-- 44: X1_isValue -/
def am_t44_0 : List am_E := [(0, .aload_n 0, 1, (0, 0, 0), [], []),
  (1, .getfield 32, 3, (2, 2, 0), [], [324]),
  (4, .istore_n 2, 1, (0, 0, 0), [], []),
  (5, .aload_n 0, 1, (0, 0, 0), [], []),
  (6, .invokevirtual 35, 3, (0, 29, 2), [], [559, 115, 561, 6]),
  (9, .lookupswitch 426 #[(40, 320), (45, 280), (257, 99), (303, 174), (311, 126), (312, 150), (313, 226), (314, 200), (316, 253), (320, 360), (321, 393)], 99, (435, 0, 0), [(40, 329), (45, 289), (257, 108), (303, 183), (311, 135), (312, 159), (313, 235), (314, 209), (316, 262), (320, 369), (321, 402)], []),
  (108, .aload_n 0, 1, (0, 0, 0), [], []),
  (109, .sipush 257, 3, (0, 0, 0), [], []),
  (112, .bipush 14, 2, (0, 0, 0), [], []),
  (114, .invokevirtual 56, 3, (0, 31, 2), [], [571, 115, 573, 9]),
  (117, .ifCond .eq 16, 3, (133, 0, 0), [], []),
  (120, .aload_n 0, 1, (0, 0, 0), [], []),
  (121, .iconst 1, 1, (0, 0, 0), [], []),
  (122, .iload_n 2, 1, (0, 0, 0), [], []),
  (123, .invokevirtual 59, 3, (0, 33, 2), [], [599, 115, 601, 16]),
  (126, .ifCond .eq 7, 3, (133, 0, 0), [], []),
  (129, .iconst 1, 1, (0, 0, 0), [], []),
  (130, .goto 4, 3, (134, 0, 0), [], []),
  (133, .iconst 0, 1, (0, 0, 0), [], []),
  (134, .ireturn, 1, (1, 0, 0), [], []),
  (135, .aload_n 0, 1, (0, 0, 0), [], []),
  (136, .sipush 311, 3, (0, 0, 0), [], []),
  (139, .invokevirtual 45, 3, (0, 30, 2), [], [567, 115, 569, 8]),
  (142, .ifCond .eq 15, 3, (157, 0, 0), [], []),
  (145, .aload_n 0, 1, (0, 0, 0), [], []),
  (146, .iconst 2, 1, (0, 0, 0), [], []),
  (147, .invokevirtual 79, 3, (0, 32, 2), [], [595, 115, 597, 15]),
  (150, .ifCond .eq 7, 3, (157, 0, 0), [], []),
  (153, .iconst 1, 1, (0, 0, 0), [], []),
  (154, .goto 4, 3, (158, 0, 0), [], []),
  (157, .iconst 0, 1, (0, 0, 0), [], []),
  (158, .ireturn, 1, (1, 0, 0), [], []),
  (159, .aload_n 0, 1, (0, 0, 0), [], []),
  (160, .sipush 312, 3, (0, 0, 0), [], []),
  (163, .invokevirtual 45, 3, (0, 30, 2), [], [567, 115, 569, 8]),
  (166, .ifCond .eq 15, 3, (181, 0, 0), [], []),
  (169, .aload_n 0, 1, (0, 0, 0), [], []),
  (170, .iconst 3, 1, (0, 0, 0), [], []),
  (171, .invokevirtual 79, 3, (0, 32, 2), [], [595, 115, 597, 15]),
  (174, .ifCond .eq 7, 3, (181, 0, 0), [], []),
  (177, .iconst 1, 1, (0, 0, 0), [], []),
  (178, .goto 4, 3, (182, 0, 0), [], []),
  (181, .iconst 0, 1, (0, 0, 0), [], []),
  (182, .ireturn, 1, (1, 0, 0), [], []),
  (183, .aload_n 0, 1, (0, 0, 0), [], []),
  (184, .sipush 303, 3, (0, 0, 0), [], []),
  (187, .invokevirtual 45, 3, (0, 30, 2), [], [567, 115, 569, 8]),
  (190, .ifCond .eq 17, 3, (207, 0, 0), [], []),
  (193, .aload_n 0, 1, (0, 0, 0), [], []),
  (194, .bipush 12, 2, (0, 0, 0), [], []),
  (196, .iconst 4, 1, (0, 0, 0), [], []),
  (197, .invokevirtual 87, 3, (0, 40, 2), [], [603, 115, 605, 17]),
  (200, .ifCond .eq 7, 3, (207, 0, 0), [], []),
  (203, .iconst 1, 1, (0, 0, 0), [], []),
  (204, .goto 4, 3, (208, 0, 0), [], []),
  (207, .iconst 0, 1, (0, 0, 0), [], []),
  (208, .ireturn, 1, (1, 0, 0), [], []),
  (209, .aload_n 0, 1, (0, 0, 0), [], []),
  (210, .sipush 314, 3, (0, 0, 0), [], []),
  (213, .invokevirtual 45, 3, (0, 30, 2), [], [567, 115, 569, 8])]
def am_t44_1 : List am_E := [(216, .ifCond .eq 17, 3, (233, 0, 0), [], []),
  (219, .aload_n 0, 1, (0, 0, 0), [], []),
  (220, .bipush 12, 2, (0, 0, 0), [], []),
  (222, .iconst 5, 1, (0, 0, 0), [], []),
  (223, .invokevirtual 87, 3, (0, 40, 2), [], [603, 115, 605, 17]),
  (226, .ifCond .eq 7, 3, (233, 0, 0), [], []),
  (229, .iconst 1, 1, (0, 0, 0), [], []),
  (230, .goto 4, 3, (234, 0, 0), [], []),
  (233, .iconst 0, 1, (0, 0, 0), [], []),
  (234, .ireturn, 1, (1, 0, 0), [], []),
  (235, .aload_n 0, 1, (0, 0, 0), [], []),
  (236, .sipush 313, 3, (0, 0, 0), [], []),
  (239, .invokevirtual 45, 3, (0, 30, 2), [], [567, 115, 569, 8]),
  (242, .ifCond .eq 18, 3, (260, 0, 0), [], []),
  (245, .aload_n 0, 1, (0, 0, 0), [], []),
  (246, .bipush 13, 2, (0, 0, 0), [], []),
  (248, .bipush 6, 2, (0, 0, 0), [], []),
  (250, .invokevirtual 87, 3, (0, 40, 2), [], [603, 115, 605, 17]),
  (253, .ifCond .eq 7, 3, (260, 0, 0), [], []),
  (256, .iconst 1, 1, (0, 0, 0), [], []),
  (257, .goto 4, 3, (261, 0, 0), [], []),
  (260, .iconst 0, 1, (0, 0, 0), [], []),
  (261, .ireturn, 1, (1, 0, 0), [], []),
  (262, .aload_n 0, 1, (0, 0, 0), [], []),
  (263, .sipush 316, 3, (0, 0, 0), [], []),
  (266, .invokevirtual 45, 3, (0, 30, 2), [], [567, 115, 569, 8]),
  (269, .ifCond .eq 18, 3, (287, 0, 0), [], []),
  (272, .aload_n 0, 1, (0, 0, 0), [], []),
  (273, .bipush 13, 2, (0, 0, 0), [], []),
  (275, .bipush 7, 2, (0, 0, 0), [], []),
  (277, .invokevirtual 87, 3, (0, 40, 2), [], [603, 115, 605, 17]),
  (280, .ifCond .eq 7, 3, (287, 0, 0), [], []),
  (283, .iconst 1, 1, (0, 0, 0), [], []),
  (284, .goto 4, 3, (288, 0, 0), [], []),
  (287, .iconst 0, 1, (0, 0, 0), [], []),
  (288, .ireturn, 1, (1, 0, 0), [], []),
  (289, .iload_n 1, 1, (0, 0, 0), [], []),
  (290, .bipush 8, 2, (0, 0, 0), [], []),
  (292, .if_icmp .ge 35, 3, (327, 0, 0), [], []),
  (295, .aload_n 0, 1, (0, 0, 0), [], []),
  (296, .bipush 45, 2, (0, 0, 0), [], []),
  (298, .invokevirtual 45, 3, (0, 30, 2), [], [567, 115, 569, 8]),
  (301, .ifCond .eq 26, 3, (327, 0, 0), [], []),
  (304, .aload_n 0, 1, (0, 0, 0), [], []),
  (305, .iload_n 1, 1, (0, 0, 0), [], []),
  (306, .iconst 1, 1, (0, 0, 0), [], []),
  (307, .iadd, 1, (0, 0, 0), [], []),
  (308, .invokevirtual 99, 3, (0, 44, 2), [], [615, 115, 617, 20]),
  (311, .ifCond .eq 16, 3, (327, 0, 0), [], []),
  (314, .aload_n 0, 1, (0, 0, 0), [], []),
  (315, .bipush 9, 2, (0, 0, 0), [], []),
  (317, .invokevirtual 79, 3, (0, 32, 2), [], [595, 115, 597, 15]),
  (320, .ifCond .eq 7, 3, (327, 0, 0), [], []),
  (323, .iconst 1, 1, (0, 0, 0), [], []),
  (324, .goto 4, 3, (328, 0, 0), [], []),
  (327, .iconst 0, 1, (0, 0, 0), [], []),
  (328, .ireturn, 1, (1, 0, 0), [], []),
  (329, .iload_n 1, 1, (0, 0, 0), [], []),
  (330, .bipush 8, 2, (0, 0, 0), [], []),
  (332, .if_icmp .ge 35, 3, (367, 0, 0), [], [])]
def am_t44_2 : List am_E := [(335, .aload_n 0, 1, (0, 0, 0), [], []),
  (336, .bipush 40, 2, (0, 0, 0), [], []),
  (338, .invokevirtual 45, 3, (0, 30, 2), [], [567, 115, 569, 8]),
  (341, .ifCond .eq 26, 3, (367, 0, 0), [], []),
  (344, .aload_n 0, 1, (0, 0, 0), [], []),
  (345, .iload_n 1, 1, (0, 0, 0), [], []),
  (346, .iconst 1, 1, (0, 0, 0), [], []),
  (347, .iadd, 1, (0, 0, 0), [], []),
  (348, .invokevirtual 90, 3, (0, 42, 2), [], [607, 115, 609, 18]),
  (351, .ifCond .eq 16, 3, (367, 0, 0), [], []),
  (354, .aload_n 0, 1, (0, 0, 0), [], []),
  (355, .bipush 41, 2, (0, 0, 0), [], []),
  (357, .invokevirtual 45, 3, (0, 30, 2), [], [567, 115, 569, 8]),
  (360, .ifCond .eq 7, 3, (367, 0, 0), [], []),
  (363, .iconst 1, 1, (0, 0, 0), [], []),
  (364, .goto 4, 3, (368, 0, 0), [], []),
  (367, .iconst 0, 1, (0, 0, 0), [], []),
  (368, .ireturn, 1, (1, 0, 0), [], []),
  (369, .aload_n 0, 1, (0, 0, 0), [], []),
  (370, .sipush 320, 3, (0, 0, 0), [], []),
  (373, .invokevirtual 45, 3, (0, 30, 2), [], [567, 115, 569, 8]),
  (376, .ifCond .eq 24, 3, (400, 0, 0), [], []),
  (379, .aload_n 0, 1, (0, 0, 0), [], []),
  (380, .iload_n 1, 1, (0, 0, 0), [], []),
  (381, .invokevirtual 102, 3, (0, 45, 2), [], [619, 115, 621, 21]),
  (384, .ifCond .eq 16, 3, (400, 0, 0), [], []),
  (387, .aload_n 0, 1, (0, 0, 0), [], []),
  (388, .bipush 16, 2, (0, 0, 0), [], []),
  (390, .invokevirtual 79, 3, (0, 32, 2), [], [595, 115, 597, 15]),
  (393, .ifCond .eq 7, 3, (400, 0, 0), [], []),
  (396, .iconst 1, 1, (0, 0, 0), [], []),
  (397, .goto 4, 3, (401, 0, 0), [], []),
  (400, .iconst 0, 1, (0, 0, 0), [], []),
  (401, .ireturn, 1, (1, 0, 0), [], []),
  (402, .aload_n 0, 1, (0, 0, 0), [], []),
  (403, .sipush 321, 3, (0, 0, 0), [], []),
  (406, .invokevirtual 45, 3, (0, 30, 2), [], [567, 115, 569, 8]),
  (409, .ifCond .eq 24, 3, (433, 0, 0), [], []),
  (412, .aload_n 0, 1, (0, 0, 0), [], []),
  (413, .iload_n 1, 1, (0, 0, 0), [], []),
  (414, .invokevirtual 102, 3, (0, 45, 2), [], [619, 115, 621, 21]),
  (417, .ifCond .eq 16, 3, (433, 0, 0), [], []),
  (420, .aload_n 0, 1, (0, 0, 0), [], []),
  (421, .bipush 17, 2, (0, 0, 0), [], []),
  (423, .invokevirtual 79, 3, (0, 32, 2), [], [595, 115, 597, 15]),
  (426, .ifCond .eq 7, 3, (433, 0, 0), [], []),
  (429, .iconst 1, 1, (0, 0, 0), [], []),
  (430, .goto 4, 3, (434, 0, 0), [], []),
  (433, .iconst 0, 1, (0, 0, 0), [], []),
  (434, .ireturn, 1, (1, 0, 0), [], []),
  (435, .iconst 0, 1, (0, 0, 0), [], []),
  (436, .ireturn, 1, (1, 0, 0), [], [])]
def am_t44 : List am_E := am_t44_0 ++ (am_t44_1 ++ (am_t44_2))
/-- 45: X1_isPair -/
def am_t45 : List am_E := [(0, .iload_n 1, 1, (0, 0, 0), [], []),
  (1, .bipush 8, 2, (0, 0, 0), [], []),
  (3, .if_icmp .ge 54, 3, (57, 0, 0), [], []),
  (6, .aload_n 0, 1, (0, 0, 0), [], []),
  (7, .bipush 40, 2, (0, 0, 0), [], []),
  (9, .invokevirtual 45, 3, (0, 30, 2), [], [567, 115, 569, 8]),
  (12, .ifCond .eq 45, 3, (57, 0, 0), [], []),
  (15, .aload_n 0, 1, (0, 0, 0), [], []),
  (16, .iload_n 1, 1, (0, 0, 0), [], []),
  (17, .iconst 1, 1, (0, 0, 0), [], []),
  (18, .iadd, 1, (0, 0, 0), [], []),
  (19, .invokevirtual 90, 3, (0, 42, 2), [], [607, 115, 609, 18]),
  (22, .ifCond .eq 35, 3, (57, 0, 0), [], []),
  (25, .aload_n 0, 1, (0, 0, 0), [], []),
  (26, .bipush 44, 2, (0, 0, 0), [], []),
  (28, .invokevirtual 45, 3, (0, 30, 2), [], [567, 115, 569, 8]),
  (31, .ifCond .eq 26, 3, (57, 0, 0), [], []),
  (34, .aload_n 0, 1, (0, 0, 0), [], []),
  (35, .iload_n 1, 1, (0, 0, 0), [], []),
  (36, .iconst 1, 1, (0, 0, 0), [], []),
  (37, .iadd, 1, (0, 0, 0), [], []),
  (38, .invokevirtual 90, 3, (0, 42, 2), [], [607, 115, 609, 18]),
  (41, .ifCond .eq 16, 3, (57, 0, 0), [], []),
  (44, .aload_n 0, 1, (0, 0, 0), [], []),
  (45, .bipush 41, 2, (0, 0, 0), [], []),
  (47, .invokevirtual 45, 3, (0, 30, 2), [], [567, 115, 569, 8]),
  (50, .ifCond .eq 7, 3, (57, 0, 0), [], []),
  (53, .iconst 1, 1, (0, 0, 0), [], []),
  (54, .goto 4, 3, (58, 0, 0), [], []),
  (57, .iconst 0, 1, (0, 0, 0), [], []),
  (58, .ireturn, 1, (1, 0, 0), [], [])]
/-- 46: X3_init -/
def am_t46 : List am_E := [(0, .aload_n 0, 1, (0, 0, 0), [], []),
  (1, .invokespecial 3, 3, (6, 0, 0), [], [374, 137, 138]),
  (4, .aload_n 0, 1, (0, 0, 0), [], []),
  (5, .iconst (-1), 1, (0, 0, 0), [], []),
  (6, .putfield 9, 3, (3, 2, 0), [], [379]),
  (9, .aload_n 0, 1, (0, 0, 0), [], []),
  (10, .bipush 12, 2, (0, 0, 0), [], []),
  (12, .newarray .int, 2, (20, 0, 0), [], [226]),
  (14, .putfield 15, 3, (3, 3, 2), [], [381]),
  (17, .aload_n 0, 1, (0, 0, 0), [], []),
  (18, .bipush 12, 2, (0, 0, 0), [], []),
  (20, .newarray .int, 2, (20, 0, 0), [], [226]),
  (22, .putfield 19, 3, (3, 4, 2), [], [383]),
  (25, .aload_n 0, 1, (0, 0, 0), [], []),
  (26, .bipush 12, 2, (0, 0, 0), [], []),
  (28, .newarray .int, 2, (20, 0, 0), [], [226]),
  (30, .putfield 22, 3, (3, 8, 2), [], [388]),
  (33, .aload_n 0, 1, (0, 0, 0), [], []),
  (34, .bipush 12, 2, (0, 0, 0), [], []),
  (36, .newarray .int, 2, (20, 0, 0), [], [226]),
  (38, .putfield 25, 3, (3, 9, 2), [], [389]),
  (41, .aload_n 0, 1, (0, 0, 0), [], []),
  (42, .bipush 12, 2, (0, 0, 0), [], []),
  (44, .newarray .int, 2, (20, 0, 0), [], [226]),
  (46, .putfield 28, 3, (3, 10, 2), [], [390]),
  (49, .aload_n 0, 1, (0, 0, 0), [], []),
  (50, .bipush 12, 2, (0, 0, 0), [], []),
  (52, .newarray .int, 2, (20, 0, 0), [], [226]),
  (54, .putfield 31, 3, (3, 11, 2), [], [391]),
  (57, .aload_n 0, 1, (0, 0, 0), [], []),
  (58, .iconst 4, 1, (0, 0, 0), [], []),
  (59, .newarray .int, 2, (20, 0, 0), [], [226]),
  (61, .putfield 34, 3, (3, 12, 2), [], [392]),
  (64, .aload_n 0, 1, (0, 0, 0), [], []),
  (65, .sipush 400, 3, (0, 0, 0), [], []),
  (68, .newarray .int, 2, (20, 0, 0), [], [226]),
  (70, .putfield 37, 3, (3, 13, 2), [], [393]),
  (73, .aload_n 0, 1, (0, 0, 0), [], []),
  (74, .aload_n 1, 1, (0, 0, 0), [], []),
  (75, .putfield 40, 3, (3, 5, 2), [], [385]),
  (78, .aload_n 0, 1, (0, 0, 0), [], []),
  (79, .aload_n 1, 1, (0, 0, 0), [], []),
  (80, .getfield 44, 3, (4, 4, 0), [], [161]),
  (83, .putfield 49, 3, (3, 1, 0), [], [377]),
  (86, .return_, 1, (0, 0, 0), [], [])]
/-- 47: X3_begin -/
def am_t47_0 : List am_E := [(0, .aload_n 0, 1, (0, 0, 0), [], []),
  (1, .aload_n 1, 1, (0, 0, 0), [], []),
  (2, .putfield 40, 3, (3, 5, 2), [], [385]),
  (5, .aload_n 0, 1, (0, 0, 0), [], []),
  (6, .aload_n 1, 1, (0, 0, 0), [], []),
  (7, .getfield 44, 3, (4, 4, 0), [], [161]),
  (10, .putfield 49, 3, (3, 1, 0), [], [377]),
  (13, .aload_n 0, 1, (0, 0, 0), [], []),
  (14, .iconst 0, 1, (0, 0, 0), [], []),
  (15, .putfield 50, 3, (3, 6, 0), [], [386]),
  (18, .aload_n 0, 1, (0, 0, 0), [], []),
  (19, .iconst 0, 1, (0, 0, 0), [], []),
  (20, .putfield 53, 3, (3, 7, 0), [], [387]),
  (23, .iconst 0, 1, (0, 0, 0), [], []),
  (24, .istore_n 2, 1, (0, 0, 0), [], []),
  (25, .iload_n 2, 1, (0, 0, 0), [], []),
  (26, .bipush 12, 2, (0, 0, 0), [], []),
  (28, .if_icmp .ge 23, 3, (51, 0, 0), [], []),
  (31, .aload_n 0, 1, (0, 0, 0), [], []),
  (32, .getfield 15, 3, (3, 3, 2), [], [381]),
  (35, .iload_n 2, 1, (0, 0, 0), [], []),
  (36, .iconst 0, 1, (0, 0, 0), [], []),
  (37, .iastore, 1, (0, 0, 0), [], []),
  (38, .aload_n 0, 1, (0, 0, 0), [], []),
  (39, .getfield 22, 3, (3, 8, 2), [], [388]),
  (42, .iload_n 2, 1, (0, 0, 0), [], []),
  (43, .iconst 0, 1, (0, 0, 0), [], []),
  (44, .iastore, 1, (0, 0, 0), [], []),
  (45, .iinc 2 1, 3, (0, 0, 0), [], []),
  (48, .goto (-23), 3, (25, 0, 0), [], []),
  (51, .iconst 0, 1, (0, 0, 0), [], []),
  (52, .istore_n 2, 1, (0, 0, 0), [], []),
  (53, .iload_n 2, 1, (0, 0, 0), [], []),
  (54, .bipush 12, 2, (0, 0, 0), [], []),
  (56, .if_icmp .ge 47, 3, (103, 0, 0), [], []),
  (59, .aload_n 0, 1, (0, 0, 0), [], []),
  (60, .getfield 25, 3, (3, 9, 2), [], [389]),
  (63, .iload_n 2, 1, (0, 0, 0), [], []),
  (64, .aload_n 1, 1, (0, 0, 0), [], []),
  (65, .getfield 56, 3, (4, 8, 2), [], [173]),
  (68, .iload_n 2, 1, (0, 0, 0), [], []),
  (69, .iaload, 1, (0, 0, 0), [], []),
  (70, .iastore, 1, (0, 0, 0), [], []),
  (71, .aload_n 0, 1, (0, 0, 0), [], []),
  (72, .getfield 28, 3, (3, 10, 2), [], [390]),
  (75, .iload_n 2, 1, (0, 0, 0), [], []),
  (76, .aload_n 1, 1, (0, 0, 0), [], []),
  (77, .getfield 57, 3, (4, 10, 2), [], [179]),
  (80, .iload_n 2, 1, (0, 0, 0), [], []),
  (81, .iaload, 1, (0, 0, 0), [], []),
  (82, .iastore, 1, (0, 0, 0), [], []),
  (83, .aload_n 0, 1, (0, 0, 0), [], []),
  (84, .getfield 19, 3, (3, 4, 2), [], [383]),
  (87, .iload_n 2, 1, (0, 0, 0), [], []),
  (88, .iconst (-1), 1, (0, 0, 0), [], []),
  (89, .iastore, 1, (0, 0, 0), [], []),
  (90, .aload_n 0, 1, (0, 0, 0), [], []),
  (91, .getfield 31, 3, (3, 11, 2), [], [391]),
  (94, .iload_n 2, 1, (0, 0, 0), [], []),
  (95, .iconst 0, 1, (0, 0, 0), [], [])]
def am_t47_1 : List am_E := [(96, .iastore, 1, (0, 0, 0), [], []),
  (97, .iinc 2 1, 3, (0, 0, 0), [], []),
  (100, .goto (-47), 3, (53, 0, 0), [], []),
  (103, .return_, 1, (0, 0, 0), [], [])]
def am_t47 : List am_E := am_t47_0 ++ (am_t47_1)
/-- 48: X3_copy -/
def am_t48_0 : List am_E := [(0, .aload_n 0, 1, (0, 0, 0), [], []),
  (1, .aload_n 1, 1, (0, 0, 0), [], []),
  (2, .getfield 40, 3, (3, 5, 2), [], [385]),
  (5, .putfield 40, 3, (3, 5, 2), [], [385]),
  (8, .aload_n 0, 1, (0, 0, 0), [], []),
  (9, .aload_n 1, 1, (0, 0, 0), [], []),
  (10, .getfield 58, 3, (3, 0, 0), [], [375]),
  (13, .putfield 58, 3, (3, 0, 0), [], [375]),
  (16, .aload_n 0, 1, (0, 0, 0), [], []),
  (17, .aload_n 1, 1, (0, 0, 0), [], []),
  (18, .getfield 49, 3, (3, 1, 0), [], [377]),
  (21, .putfield 49, 3, (3, 1, 0), [], [377]),
  (24, .aload_n 0, 1, (0, 0, 0), [], []),
  (25, .aload_n 1, 1, (0, 0, 0), [], []),
  (26, .getfield 50, 3, (3, 6, 0), [], [386]),
  (29, .putfield 50, 3, (3, 6, 0), [], [386]),
  (32, .aload_n 0, 1, (0, 0, 0), [], []),
  (33, .aload_n 1, 1, (0, 0, 0), [], []),
  (34, .getfield 53, 3, (3, 7, 0), [], [387]),
  (37, .putfield 53, 3, (3, 7, 0), [], [387]),
  (40, .aload_n 0, 1, (0, 0, 0), [], []),
  (41, .iconst (-1), 1, (0, 0, 0), [], []),
  (42, .putfield 9, 3, (3, 2, 0), [], [379]),
  (45, .iconst 0, 1, (0, 0, 0), [], []),
  (46, .istore_n 2, 1, (0, 0, 0), [], []),
  (47, .iload_n 2, 1, (0, 0, 0), [], []),
  (48, .bipush 12, 2, (0, 0, 0), [], []),
  (50, .if_icmp .ge 33, 3, (83, 0, 0), [], []),
  (53, .aload_n 0, 1, (0, 0, 0), [], []),
  (54, .getfield 15, 3, (3, 3, 2), [], [381]),
  (57, .iload_n 2, 1, (0, 0, 0), [], []),
  (58, .aload_n 1, 1, (0, 0, 0), [], []),
  (59, .getfield 15, 3, (3, 3, 2), [], [381]),
  (62, .iload_n 2, 1, (0, 0, 0), [], []),
  (63, .iaload, 1, (0, 0, 0), [], []),
  (64, .iastore, 1, (0, 0, 0), [], []),
  (65, .aload_n 0, 1, (0, 0, 0), [], []),
  (66, .getfield 22, 3, (3, 8, 2), [], [388]),
  (69, .iload_n 2, 1, (0, 0, 0), [], []),
  (70, .aload_n 1, 1, (0, 0, 0), [], []),
  (71, .getfield 22, 3, (3, 8, 2), [], [388]),
  (74, .iload_n 2, 1, (0, 0, 0), [], []),
  (75, .iaload, 1, (0, 0, 0), [], []),
  (76, .iastore, 1, (0, 0, 0), [], []),
  (77, .iinc 2 1, 3, (0, 0, 0), [], []),
  (80, .goto (-33), 3, (47, 0, 0), [], []),
  (83, .iconst 0, 1, (0, 0, 0), [], []),
  (84, .istore_n 2, 1, (0, 0, 0), [], []),
  (85, .iload_n 2, 1, (0, 0, 0), [], []),
  (86, .bipush 12, 2, (0, 0, 0), [], []),
  (88, .if_icmp .ge 57, 3, (145, 0, 0), [], []),
  (91, .aload_n 0, 1, (0, 0, 0), [], []),
  (92, .getfield 25, 3, (3, 9, 2), [], [389]),
  (95, .iload_n 2, 1, (0, 0, 0), [], []),
  (96, .aload_n 1, 1, (0, 0, 0), [], []),
  (97, .getfield 25, 3, (3, 9, 2), [], [389]),
  (100, .iload_n 2, 1, (0, 0, 0), [], []),
  (101, .iaload, 1, (0, 0, 0), [], []),
  (102, .iastore, 1, (0, 0, 0), [], []),
  (103, .aload_n 0, 1, (0, 0, 0), [], [])]
def am_t48_1 : List am_E := [(104, .getfield 28, 3, (3, 10, 2), [], [390]),
  (107, .iload_n 2, 1, (0, 0, 0), [], []),
  (108, .aload_n 1, 1, (0, 0, 0), [], []),
  (109, .getfield 28, 3, (3, 10, 2), [], [390]),
  (112, .iload_n 2, 1, (0, 0, 0), [], []),
  (113, .iaload, 1, (0, 0, 0), [], []),
  (114, .iastore, 1, (0, 0, 0), [], []),
  (115, .aload_n 0, 1, (0, 0, 0), [], []),
  (116, .getfield 19, 3, (3, 4, 2), [], [383]),
  (119, .iload_n 2, 1, (0, 0, 0), [], []),
  (120, .aload_n 1, 1, (0, 0, 0), [], []),
  (121, .getfield 19, 3, (3, 4, 2), [], [383]),
  (124, .iload_n 2, 1, (0, 0, 0), [], []),
  (125, .iaload, 1, (0, 0, 0), [], []),
  (126, .iastore, 1, (0, 0, 0), [], []),
  (127, .aload_n 0, 1, (0, 0, 0), [], []),
  (128, .getfield 31, 3, (3, 11, 2), [], [391]),
  (131, .iload_n 2, 1, (0, 0, 0), [], []),
  (132, .aload_n 1, 1, (0, 0, 0), [], []),
  (133, .getfield 31, 3, (3, 11, 2), [], [391]),
  (136, .iload_n 2, 1, (0, 0, 0), [], []),
  (137, .iaload, 1, (0, 0, 0), [], []),
  (138, .iastore, 1, (0, 0, 0), [], []),
  (139, .iinc 2 1, 3, (0, 0, 0), [], []),
  (142, .goto (-57), 3, (85, 0, 0), [], []),
  (145, .return_, 1, (0, 0, 0), [], [])]
def am_t48 : List am_E := am_t48_0 ++ (am_t48_1)
/-- 49: X3_total -/
def am_t49 : List am_E := [(0, .iload_n 1, 1, (0, 0, 0), [], []),
  (1, .tableswitch 51 6 9 #[31, 36, 41, 46], 31, (52, 0, 0), [(6, 32), (7, 37), (8, 42), (9, 47)], []),
  (32, .aload_n 0, 1, (0, 0, 0), [], []),
  (33, .getfield 50, 3, (3, 6, 0), [], [386]),
  (36, .ireturn, 1, (0, 0, 0), [], []),
  (37, .aload_n 0, 1, (0, 0, 0), [], []),
  (38, .invokevirtual 61, 3, (0, 50, 3), [], [804, 117, 806, 40]),
  (41, .ireturn, 1, (0, 0, 0), [], []),
  (42, .aload_n 0, 1, (0, 0, 0), [], []),
  (43, .invokevirtual 65, 3, (0, 51, 3), [], [808, 117, 809, 810]),
  (46, .ireturn, 1, (0, 0, 0), [], []),
  (47, .aload_n 0, 1, (0, 0, 0), [], []),
  (48, .invokevirtual 68, 3, (0, 52, 3), [], [812, 117, 814, 41]),
  (51, .ireturn, 1, (0, 0, 0), [], []),
  (52, .aload_n 0, 1, (0, 0, 0), [], []),
  (53, .getfield 53, 3, (3, 7, 0), [], [387]),
  (56, .ireturn, 1, (0, 0, 0), [], [])]
/-- 50: X3_purses -/
def am_t50 : List am_E := [(0, .iconst 0, 1, (0, 0, 0), [], []),
  (1, .istore_n 1, 1, (0, 0, 0), [], []),
  (2, .iconst 0, 1, (0, 0, 0), [], []),
  (3, .istore_n 2, 1, (0, 0, 0), [], []),
  (4, .iload_n 2, 1, (0, 0, 0), [], []),
  (5, .aload_n 0, 1, (0, 0, 0), [], []),
  (6, .getfield 40, 3, (3, 5, 2), [], [385]),
  (9, .getfield 71, 3, (4, 2, 0), [], [154]),
  (12, .if_icmp .ge 18, 3, (30, 0, 0), [], []),
  (15, .iload_n 1, 1, (0, 0, 0), [], []),
  (16, .aload_n 0, 1, (0, 0, 0), [], []),
  (17, .getfield 15, 3, (3, 3, 2), [], [381]),
  (20, .iload_n 2, 1, (0, 0, 0), [], []),
  (21, .iaload, 1, (0, 0, 0), [], []),
  (22, .iadd, 1, (0, 0, 0), [], []),
  (23, .istore_n 1, 1, (0, 0, 0), [], []),
  (24, .iinc 2 1, 3, (0, 0, 0), [], []),
  (27, .goto (-23), 3, (4, 0, 0), [], []),
  (30, .iload_n 1, 1, (0, 0, 0), [], []),
  (31, .ireturn, 1, (0, 0, 0), [], [])]
/-- 51: X3_builtCount -/
def am_t51 : List am_E := [(0, .iconst 0, 1, (0, 0, 0), [], []),
  (1, .istore_n 1, 1, (0, 0, 0), [], []),
  (2, .iconst 0, 1, (0, 0, 0), [], []),
  (3, .istore_n 2, 1, (0, 0, 0), [], []),
  (4, .iload_n 2, 1, (0, 0, 0), [], []),
  (5, .aload_n 0, 1, (0, 0, 0), [], []),
  (6, .getfield 40, 3, (3, 5, 2), [], [385]),
  (9, .getfield 74, 3, (4, 1, 0), [], [150]),
  (12, .if_icmp .ge 25, 3, (37, 0, 0), [], []),
  (15, .iload_n 1, 1, (0, 0, 0), [], []),
  (16, .aload_n 0, 1, (0, 0, 0), [], []),
  (17, .iload_n 2, 1, (0, 0, 0), [], []),
  (18, .invokevirtual 77, 3, (0, 58, 3), [], [725, 117, 726, 727]),
  (21, .ifCond .eq 7, 3, (28, 0, 0), [], []),
  (24, .iconst 0, 1, (0, 0, 0), [], []),
  (25, .goto 4, 3, (29, 0, 0), [], []),
  (28, .iconst 1, 1, (0, 0, 0), [], []),
  (29, .iadd, 1, (0, 0, 0), [], []),
  (30, .istore_n 1, 1, (0, 0, 0), [], []),
  (31, .iinc 2 1, 3, (0, 0, 0), [], []),
  (34, .goto (-30), 3, (4, 0, 0), [], []),
  (37, .iload_n 1, 1, (0, 0, 0), [], []),
  (38, .ireturn, 1, (0, 0, 0), [], [])]
/-- 52: X3_boughtCount -/
def am_t52 : List am_E := [(0, .iconst 0, 1, (0, 0, 0), [], []),
  (1, .istore_n 1, 1, (0, 0, 0), [], []),
  (2, .iconst 0, 1, (0, 0, 0), [], []),
  (3, .istore_n 2, 1, (0, 0, 0), [], []),
  (4, .iload_n 2, 1, (0, 0, 0), [], []),
  (5, .aload_n 0, 1, (0, 0, 0), [], []),
  (6, .getfield 40, 3, (3, 5, 2), [], [385]),
  (9, .getfield 74, 3, (4, 1, 0), [], [150]),
  (12, .if_icmp .ge 18, 3, (30, 0, 0), [], []),
  (15, .iload_n 1, 1, (0, 0, 0), [], []),
  (16, .aload_n 0, 1, (0, 0, 0), [], []),
  (17, .getfield 31, 3, (3, 11, 2), [], [391]),
  (20, .iload_n 2, 1, (0, 0, 0), [], []),
  (21, .iaload, 1, (0, 0, 0), [], []),
  (22, .iadd, 1, (0, 0, 0), [], []),
  (23, .istore_n 1, 1, (0, 0, 0), [], []),
  (24, .iinc 2 1, 3, (0, 0, 0), [], []),
  (27, .goto (-23), 3, (4, 0, 0), [], []),
  (30, .iload_n 1, 1, (0, 0, 0), [], []),
  (31, .ireturn, 1, (0, 0, 0), [], [])]
/-- 53: X3_ofWard -/
def am_t53 : List am_E := [(0, .iload_n 2, 1, (0, 0, 0), [], []),
  (1, .ifCond .ne 13, 3, (14, 0, 0), [], []),
  (4, .aload_n 0, 1, (0, 0, 0), [], []),
  (5, .getfield 40, 3, (3, 5, 2), [], [385]),
  (8, .getfield 81, 3, (4, 6, 2), [], [168]),
  (11, .iload_n 1, 1, (0, 0, 0), [], []),
  (12, .iaload, 1, (0, 0, 0), [], []),
  (13, .ireturn, 1, (0, 0, 0), [], []),
  (14, .iconst 0, 1, (0, 0, 0), [], []),
  (15, .istore_n 3, 1, (0, 0, 0), [], []),
  (16, .iconst 0, 1, (0, 0, 0), [], []),
  (17, .istore 4, 2, (0, 0, 0), [], []),
  (19, .iload 4, 2, (0, 0, 0), [], []),
  (21, .aload_n 0, 1, (0, 0, 0), [], []),
  (22, .getfield 40, 3, (3, 5, 2), [], [385]),
  (25, .getfield 74, 3, (4, 1, 0), [], [150]),
  (28, .if_icmp .ge 56, 3, (84, 0, 0), [], []),
  (31, .aload_n 0, 1, (0, 0, 0), [], []),
  (32, .getfield 40, 3, (3, 5, 2), [], [385]),
  (35, .getfield 84, 3, (4, 7, 2), [], [171]),
  (38, .iload 4, 2, (0, 0, 0), [], []),
  (40, .iaload, 1, (0, 0, 0), [], []),
  (41, .iload_n 1, 1, (0, 0, 0), [], []),
  (42, .if_icmp .ne 36, 3, (78, 0, 0), [], []),
  (45, .iload_n 2, 1, (0, 0, 0), [], []),
  (46, .iconst 1, 1, (0, 0, 0), [], []),
  (47, .if_icmp .eq 12, 3, (59, 0, 0), [], []),
  (50, .aload_n 0, 1, (0, 0, 0), [], []),
  (51, .iload 4, 2, (0, 0, 0), [], []),
  (53, .invokevirtual 77, 3, (0, 58, 3), [], [725, 117, 726, 727]),
  (56, .ifCond .ne 22, 3, (78, 0, 0), [], []),
  (59, .iload_n 3, 1, (0, 0, 0), [], []),
  (60, .iload_n 2, 1, (0, 0, 0), [], []),
  (61, .iconst 3, 1, (0, 0, 0), [], []),
  (62, .if_icmp .ne 13, 3, (75, 0, 0), [], []),
  (65, .aload_n 0, 1, (0, 0, 0), [], []),
  (66, .getfield 25, 3, (3, 9, 2), [], [389]),
  (69, .iload 4, 2, (0, 0, 0), [], []),
  (71, .iaload, 1, (0, 0, 0), [], []),
  (72, .goto 4, 3, (76, 0, 0), [], []),
  (75, .iconst 1, 1, (0, 0, 0), [], []),
  (76, .iadd, 1, (0, 0, 0), [], []),
  (77, .istore_n 3, 1, (0, 0, 0), [], []),
  (78, .iinc 4 1, 3, (0, 0, 0), [], []),
  (81, .goto (-62), 3, (19, 0, 0), [], []),
  (84, .iload_n 3, 1, (0, 0, 0), [], []),
  (85, .ireturn, 1, (0, 0, 0), [], [])]
/-- 54: X3_ofProject -/
def am_t54 : List am_E := [(0, .iload_n 2, 1, (0, 0, 0), [], []),
  (1, .tableswitch 104 0 6 #[43, 50, 60, 70, 76, 83, 90], 43, (105, 0, 0), [(0, 44), (1, 51), (2, 61), (3, 71), (4, 77), (5, 84), (6, 91)], []),
  (44, .aload_n 0, 1, (0, 0, 0), [], []),
  (45, .getfield 25, 3, (3, 9, 2), [], [389]),
  (48, .iload_n 1, 1, (0, 0, 0), [], []),
  (49, .iaload, 1, (0, 0, 0), [], []),
  (50, .ireturn, 1, (0, 0, 0), [], []),
  (51, .aload_n 0, 1, (0, 0, 0), [], []),
  (52, .getfield 40, 3, (3, 5, 2), [], [385]),
  (55, .getfield 84, 3, (4, 7, 2), [], [171]),
  (58, .iload_n 1, 1, (0, 0, 0), [], []),
  (59, .iaload, 1, (0, 0, 0), [], []),
  (60, .ireturn, 1, (0, 0, 0), [], []),
  (61, .aload_n 0, 1, (0, 0, 0), [], []),
  (62, .getfield 40, 3, (3, 5, 2), [], [385]),
  (65, .getfield 87, 3, (4, 9, 2), [], [177]),
  (68, .iload_n 1, 1, (0, 0, 0), [], []),
  (69, .iaload, 1, (0, 0, 0), [], []),
  (70, .ireturn, 1, (0, 0, 0), [], []),
  (71, .aload_n 0, 1, (0, 0, 0), [], []),
  (72, .iload_n 1, 1, (0, 0, 0), [], []),
  (73, .invokevirtual 90, 3, (0, 60, 3), [], [741, 117, 743, 32]),
  (76, .ireturn, 1, (0, 0, 0), [], []),
  (77, .aload_n 0, 1, (0, 0, 0), [], []),
  (78, .getfield 19, 3, (3, 4, 2), [], [383]),
  (81, .iload_n 1, 1, (0, 0, 0), [], []),
  (82, .iaload, 1, (0, 0, 0), [], []),
  (83, .ireturn, 1, (0, 0, 0), [], []),
  (84, .aload_n 0, 1, (0, 0, 0), [], []),
  (85, .getfield 31, 3, (3, 11, 2), [], [391]),
  (88, .iload_n 1, 1, (0, 0, 0), [], []),
  (89, .iaload, 1, (0, 0, 0), [], []),
  (90, .ireturn, 1, (0, 0, 0), [], []),
  (91, .aload_n 0, 1, (0, 0, 0), [], []),
  (92, .iload_n 1, 1, (0, 0, 0), [], []),
  (93, .invokevirtual 94, 3, (0, 77, 3), [], [751, 117, 753, 33]),
  (96, .ifCond .eq 7, 3, (103, 0, 0), [], []),
  (99, .iconst 1, 1, (0, 0, 0), [], []),
  (100, .goto 4, 3, (104, 0, 0), [], []),
  (103, .iconst 0, 1, (0, 0, 0), [], []),
  (104, .ireturn, 1, (0, 0, 0), [], []),
  (105, .aload_n 0, 1, (0, 0, 0), [], []),
  (106, .iload_n 1, 1, (0, 0, 0), [], []),
  (107, .invokevirtual 97, 3, (0, 61, 3), [], [733, 117, 735, 31]),
  (110, .ireturn, 1, (0, 0, 0), [], [])]
/-- 55: X3_ofVoter -/
def am_t55 : List am_E := [(0, .iload_n 2, 1, (0, 0, 0), [], []),
  (1, .tableswitch 46 0 2 #[27, 34, 40], 27, (47, 0, 0), [(0, 28), (1, 35), (2, 41)], []),
  (28, .aload_n 0, 1, (0, 0, 0), [], []),
  (29, .getfield 15, 3, (3, 3, 2), [], [381]),
  (32, .iload_n 1, 1, (0, 0, 0), [], []),
  (33, .iaload, 1, (0, 0, 0), [], []),
  (34, .ireturn, 1, (0, 0, 0), [], []),
  (35, .aload_n 0, 1, (0, 0, 0), [], []),
  (36, .iload_n 1, 1, (0, 0, 0), [], []),
  (37, .invokevirtual 100, 3, (0, 56, 3), [], [829, 117, 831, 42]),
  (40, .ireturn, 1, (0, 0, 0), [], []),
  (41, .aload_n 0, 1, (0, 0, 0), [], []),
  (42, .iload_n 1, 1, (0, 0, 0), [], []),
  (43, .invokevirtual 103, 3, (0, 57, 3), [], [773, 117, 774, 775]),
  (46, .ireturn, 1, (0, 0, 0), [], []),
  (47, .aload_n 0, 1, (0, 0, 0), [], []),
  (48, .getfield 22, 3, (3, 8, 2), [], [388]),
  (51, .iload_n 1, 1, (0, 0, 0), [], []),
  (52, .iaload, 1, (0, 0, 0), [], []),
  (53, .ireturn, 1, (0, 0, 0), [], [])]
/-- 56: X3_likedCount -/
def am_t56 : List am_E := [(0, .iconst 0, 1, (0, 0, 0), [], []),
  (1, .istore_n 2, 1, (0, 0, 0), [], []),
  (2, .iconst 0, 1, (0, 0, 0), [], []),
  (3, .istore_n 3, 1, (0, 0, 0), [], []),
  (4, .iload_n 3, 1, (0, 0, 0), [], []),
  (5, .aload_n 0, 1, (0, 0, 0), [], []),
  (6, .getfield 40, 3, (3, 5, 2), [], [385]),
  (9, .getfield 74, 3, (4, 1, 0), [], [150]),
  (12, .if_icmp .ge 26, 3, (38, 0, 0), [], []),
  (15, .iload_n 2, 1, (0, 0, 0), [], []),
  (16, .aload_n 0, 1, (0, 0, 0), [], []),
  (17, .iload_n 1, 1, (0, 0, 0), [], []),
  (18, .iload_n 3, 1, (0, 0, 0), [], []),
  (19, .invokevirtual 106, 3, (0, 59, 3), [], [737, 117, 738, 739]),
  (22, .ifCond .eq 7, 3, (29, 0, 0), [], []),
  (25, .iconst 1, 1, (0, 0, 0), [], []),
  (26, .goto 4, 3, (30, 0, 0), [], []),
  (29, .iconst 0, 1, (0, 0, 0), [], []),
  (30, .iadd, 1, (0, 0, 0), [], []),
  (31, .istore_n 2, 1, (0, 0, 0), [], []),
  (32, .iinc 3 1, 3, (0, 0, 0), [], []),
  (35, .goto (-31), 3, (4, 0, 0), [], []),
  (38, .iload_n 2, 1, (0, 0, 0), [], []),
  (39, .ireturn, 1, (0, 0, 0), [], [])]
/-- 57: X3_pleasedOf -/
def am_t57 : List am_E := [(0, .iconst 0, 1, (0, 0, 0), [], []),
  (1, .istore_n 2, 1, (0, 0, 0), [], []),
  (2, .iconst 0, 1, (0, 0, 0), [], []),
  (3, .istore_n 3, 1, (0, 0, 0), [], []),
  (4, .iload_n 3, 1, (0, 0, 0), [], []),
  (5, .aload_n 0, 1, (0, 0, 0), [], []),
  (6, .getfield 40, 3, (3, 5, 2), [], [385]),
  (9, .getfield 74, 3, (4, 1, 0), [], [150]),
  (12, .if_icmp .ge 36, 3, (48, 0, 0), [], []),
  (15, .iload_n 2, 1, (0, 0, 0), [], []),
  (16, .aload_n 0, 1, (0, 0, 0), [], []),
  (17, .getfield 19, 3, (3, 4, 2), [], [383]),
  (20, .iload_n 3, 1, (0, 0, 0), [], []),
  (21, .iaload, 1, (0, 0, 0), [], []),
  (22, .iconst (-1), 1, (0, 0, 0), [], []),
  (23, .if_icmp .eq 16, 3, (39, 0, 0), [], []),
  (26, .aload_n 0, 1, (0, 0, 0), [], []),
  (27, .getfield 28, 3, (3, 10, 2), [], [390]),
  (30, .iload_n 3, 1, (0, 0, 0), [], []),
  (31, .iaload, 1, (0, 0, 0), [], []),
  (32, .iload_n 1, 1, (0, 0, 0), [], []),
  (33, .ishr, 1, (0, 0, 0), [], []),
  (34, .iconst 1, 1, (0, 0, 0), [], []),
  (35, .iand, 1, (0, 0, 0), [], []),
  (36, .goto 4, 3, (40, 0, 0), [], []),
  (39, .iconst 0, 1, (0, 0, 0), [], []),
  (40, .iadd, 1, (0, 0, 0), [], []),
  (41, .istore_n 2, 1, (0, 0, 0), [], []),
  (42, .iinc 3 1, 3, (0, 0, 0), [], []),
  (45, .goto (-41), 3, (4, 0, 0), [], []),
  (48, .iload_n 2, 1, (0, 0, 0), [], []),
  (49, .ireturn, 1, (0, 0, 0), [], [])]
/-- 58: X3_isOpen -/
def am_t58 : List am_E := [(0, .aload_n 0, 1, (0, 0, 0), [], []),
  (1, .getfield 19, 3, (3, 4, 2), [], [383]),
  (4, .iload_n 1, 1, (0, 0, 0), [], []),
  (5, .iaload, 1, (0, 0, 0), [], []),
  (6, .iconst (-1), 1, (0, 0, 0), [], []),
  (7, .if_icmp .ne 7, 3, (14, 0, 0), [], []),
  (10, .iconst 1, 1, (0, 0, 0), [], []),
  (11, .goto 4, 3, (15, 0, 0), [], []),
  (14, .iconst 0, 1, (0, 0, 0), [], []),
  (15, .ireturn, 1, (1, 0, 0), [], [])]
/-- 59: X3_isFan -/
def am_t59 : List am_E := [(0, .aload_n 0, 1, (0, 0, 0), [], []),
  (1, .getfield 28, 3, (3, 10, 2), [], [390]),
  (4, .iload_n 2, 1, (0, 0, 0), [], []),
  (5, .iaload, 1, (0, 0, 0), [], []),
  (6, .iload_n 1, 1, (0, 0, 0), [], []),
  (7, .ishr, 1, (0, 0, 0), [], []),
  (8, .iconst 1, 1, (0, 0, 0), [], []),
  (9, .iand, 1, (0, 0, 0), [], []),
  (10, .ifCond .eq 7, 3, (17, 0, 0), [], []),
  (13, .iconst 1, 1, (0, 0, 0), [], []),
  (14, .goto 4, 3, (18, 0, 0), [], []),
  (17, .iconst 0, 1, (0, 0, 0), [], []),
  (18, .ireturn, 1, (1, 0, 0), [], [])]
/-- 60: X3_fanCount -/
def am_t60 : List am_E := [(0, .aload_n 0, 1, (0, 0, 0), [], []),
  (1, .getfield 28, 3, (3, 10, 2), [], [390]),
  (4, .iload_n 1, 1, (0, 0, 0), [], []),
  (5, .iaload, 1, (0, 0, 0), [], []),
  (6, .invokestatic 110, 3, (2, 12, 0), [], [745, 129, 746]),
  (9, .ireturn, 1, (0, 0, 0), [], [])]
/-- 61: X3_coinsOfFans -/
def am_t61 : List am_E := [(0, .iconst 0, 1, (0, 0, 0), [], []),
  (1, .istore_n 2, 1, (0, 0, 0), [], []),
  (2, .iconst 0, 1, (0, 0, 0), [], []),
  (3, .istore_n 3, 1, (0, 0, 0), [], []),
  (4, .iload_n 3, 1, (0, 0, 0), [], []),
  (5, .aload_n 0, 1, (0, 0, 0), [], []),
  (6, .getfield 40, 3, (3, 5, 2), [], [385]),
  (9, .getfield 71, 3, (4, 2, 0), [], [154]),
  (12, .if_icmp .ge 31, 3, (43, 0, 0), [], []),
  (15, .iload_n 2, 1, (0, 0, 0), [], []),
  (16, .aload_n 0, 1, (0, 0, 0), [], []),
  (17, .iload_n 3, 1, (0, 0, 0), [], []),
  (18, .iload_n 1, 1, (0, 0, 0), [], []),
  (19, .invokevirtual 106, 3, (0, 59, 3), [], [737, 117, 738, 739]),
  (22, .ifCond .eq 12, 3, (34, 0, 0), [], []),
  (25, .aload_n 0, 1, (0, 0, 0), [], []),
  (26, .getfield 15, 3, (3, 3, 2), [], [381]),
  (29, .iload_n 3, 1, (0, 0, 0), [], []),
  (30, .iaload, 1, (0, 0, 0), [], []),
  (31, .goto 4, 3, (35, 0, 0), [], []),
  (34, .iconst 0, 1, (0, 0, 0), [], []),
  (35, .iadd, 1, (0, 0, 0), [], []),
  (36, .istore_n 2, 1, (0, 0, 0), [], []),
  (37, .iinc 3 1, 3, (0, 0, 0), [], []),
  (40, .goto (-36), 3, (4, 0, 0), [], []),
  (43, .iload_n 2, 1, (0, 0, 0), [], []),
  (44, .ireturn, 1, (0, 0, 0), [], [])]
/-- 62: X3_shareOf -/
def am_t62_0 : List am_E := [(0, .aload_n 0, 1, (0, 0, 0), [], []),
  (1, .iload_n 1, 1, (0, 0, 0), [], []),
  (2, .invokevirtual 97, 3, (0, 61, 3), [], [733, 117, 735, 31]),
  (5, .aload_n 0, 1, (0, 0, 0), [], []),
  (6, .getfield 25, 3, (3, 9, 2), [], [389]),
  (9, .iload_n 1, 1, (0, 0, 0), [], []),
  (10, .iaload, 1, (0, 0, 0), [], []),
  (11, .if_icmp .ge 5, 3, (16, 0, 0), [], []),
  (14, .iconst (-1), 1, (0, 0, 0), [], []),
  (15, .ireturn, 1, (0, 0, 0), [], []),
  (16, .iconst 0, 1, (0, 0, 0), [], []),
  (17, .istore_n 2, 1, (0, 0, 0), [], []),
  (18, .iconst 0, 1, (0, 0, 0), [], []),
  (19, .istore_n 3, 1, (0, 0, 0), [], []),
  (20, .iload_n 3, 1, (0, 0, 0), [], []),
  (21, .bipush 13, 2, (0, 0, 0), [], []),
  (23, .if_icmp .gt 110, 3, (133, 0, 0), [], []),
  (26, .aload_n 0, 1, (0, 0, 0), [], []),
  (27, .getfield 25, 3, (3, 9, 2), [], [389]),
  (30, .iload_n 1, 1, (0, 0, 0), [], []),
  (31, .iaload, 1, (0, 0, 0), [], []),
  (32, .istore 4, 2, (0, 0, 0), [], []),
  (34, .iconst 0, 1, (0, 0, 0), [], []),
  (35, .istore 5, 2, (0, 0, 0), [], []),
  (37, .iconst 0, 1, (0, 0, 0), [], []),
  (38, .istore 6, 2, (0, 0, 0), [], []),
  (40, .iload 6, 2, (0, 0, 0), [], []),
  (42, .aload_n 0, 1, (0, 0, 0), [], []),
  (43, .getfield 40, 3, (3, 5, 2), [], [385]),
  (46, .getfield 71, 3, (4, 2, 0), [], [154]),
  (49, .if_icmp .ge 48, 3, (97, 0, 0), [], []),
  (52, .aload_n 0, 1, (0, 0, 0), [], []),
  (53, .iload 6, 2, (0, 0, 0), [], []),
  (55, .iload_n 1, 1, (0, 0, 0), [], []),
  (56, .invokevirtual 106, 3, (0, 59, 3), [], [737, 117, 738, 739]),
  (59, .ifCond .eq 32, 3, (91, 0, 0), [], []),
  (62, .aload_n 0, 1, (0, 0, 0), [], []),
  (63, .getfield 15, 3, (3, 3, 2), [], [381]),
  (66, .iload 6, 2, (0, 0, 0), [], []),
  (68, .iaload, 1, (0, 0, 0), [], []),
  (69, .iload_n 2, 1, (0, 0, 0), [], []),
  (70, .if_icmp .ge 18, 3, (88, 0, 0), [], []),
  (73, .iload 4, 2, (0, 0, 0), [], []),
  (75, .aload_n 0, 1, (0, 0, 0), [], []),
  (76, .getfield 15, 3, (3, 3, 2), [], [381]),
  (79, .iload 6, 2, (0, 0, 0), [], []),
  (81, .iaload, 1, (0, 0, 0), [], []),
  (82, .isub, 1, (0, 0, 0), [], []),
  (83, .istore 4, 2, (0, 0, 0), [], []),
  (85, .goto 6, 3, (91, 0, 0), [], []),
  (88, .iinc 5 1, 3, (0, 0, 0), [], []),
  (91, .iinc 6 1, 3, (0, 0, 0), [], []),
  (94, .goto (-54), 3, (40, 0, 0), [], []),
  (97, .iload 5, 2, (0, 0, 0), [], []),
  (99, .ifCond .ne 5, 3, (104, 0, 0), [], []),
  (102, .iconst (-1), 1, (0, 0, 0), [], []),
  (103, .ireturn, 1, (0, 0, 0), [], []),
  (104, .iload 4, 2, (0, 0, 0), [], []),
  (106, .iload 5, 2, (0, 0, 0), [], []),
  (108, .iadd, 1, (0, 0, 0), [], [])]
def am_t62_1 : List am_E := [(109, .iconst 1, 1, (0, 0, 0), [], []),
  (110, .isub, 1, (0, 0, 0), [], []),
  (111, .iload 5, 2, (0, 0, 0), [], []),
  (113, .idiv, 1, (0, 0, 0), [], []),
  (114, .istore 6, 2, (0, 0, 0), [], []),
  (116, .iload 6, 2, (0, 0, 0), [], []),
  (118, .iload_n 2, 1, (0, 0, 0), [], []),
  (119, .if_icmp .ne 5, 3, (124, 0, 0), [], []),
  (122, .iload_n 2, 1, (0, 0, 0), [], []),
  (123, .ireturn, 1, (0, 0, 0), [], []),
  (124, .iload 6, 2, (0, 0, 0), [], []),
  (126, .istore_n 2, 1, (0, 0, 0), [], []),
  (127, .iinc 3 1, 3, (0, 0, 0), [], []),
  (130, .goto (-110), 3, (20, 0, 0), [], []),
  (133, .iload_n 2, 1, (0, 0, 0), [], []),
  (134, .ireturn, 1, (0, 0, 0), [], [])]
def am_t62 : List am_E := am_t62_0 ++ (am_t62_1)
/-- 63: X3_setFan -/
def am_t63 : List am_E := [(0, .iload_n 3, 1, (0, 0, 0), [], []),
  (1, .ifCond .eq 18, 3, (19, 0, 0), [], []),
  (4, .aload_n 0, 1, (0, 0, 0), [], []),
  (5, .getfield 28, 3, (3, 10, 2), [], [390]),
  (8, .iload_n 2, 1, (0, 0, 0), [], []),
  (9, .dup2, 1, (0, 0, 0), [], []),
  (10, .iaload, 1, (0, 0, 0), [], []),
  (11, .iconst 1, 1, (0, 0, 0), [], []),
  (12, .iload_n 1, 1, (0, 0, 0), [], []),
  (13, .ishl, 1, (0, 0, 0), [], []),
  (14, .ior, 1, (0, 0, 0), [], []),
  (15, .iastore, 1, (0, 0, 0), [], []),
  (16, .goto 17, 3, (33, 0, 0), [], []),
  (19, .aload_n 0, 1, (0, 0, 0), [], []),
  (20, .getfield 28, 3, (3, 10, 2), [], [390]),
  (23, .iload_n 2, 1, (0, 0, 0), [], []),
  (24, .dup2, 1, (0, 0, 0), [], []),
  (25, .iaload, 1, (0, 0, 0), [], []),
  (26, .iconst 1, 1, (0, 0, 0), [], []),
  (27, .iload_n 1, 1, (0, 0, 0), [], []),
  (28, .ishl, 1, (0, 0, 0), [], []),
  (29, .iconst (-1), 1, (0, 0, 0), [], []),
  (30, .ixor, 1, (0, 0, 0), [], []),
  (31, .iand, 1, (0, 0, 0), [], []),
  (32, .iastore, 1, (0, 0, 0), [], []),
  (33, .return_, 1, (0, 0, 0), [], [])]
/-- 64: X3_putIntoPurse -/
def am_t64 : List am_E := [(0, .aload_n 0, 1, (0, 0, 0), [], []),
  (1, .getfield 15, 3, (3, 3, 2), [], [381]),
  (4, .iload_n 1, 1, (0, 0, 0), [], []),
  (5, .sipush 9999, 3, (0, 0, 0), [], []),
  (8, .aload_n 0, 1, (0, 0, 0), [], []),
  (9, .getfield 15, 3, (3, 3, 2), [], [381]),
  (12, .iload_n 1, 1, (0, 0, 0), [], []),
  (13, .iaload, 1, (0, 0, 0), [], []),
  (14, .iload_n 2, 1, (0, 0, 0), [], []),
  (15, .iadd, 1, (0, 0, 0), [], []),
  (16, .invokestatic 115, 3, (7, 0, 0), [], [716, 466, 126, 467]),
  (19, .iastore, 1, (0, 0, 0), [], []),
  (20, .return_, 1, (0, 0, 0), [], [])]
/-- 65: X3_reopen -/
def am_t65 : List am_E := [(0, .aload_n 0, 1, (0, 0, 0), [], []),
  (1, .getfield 19, 3, (3, 4, 2), [], [383]),
  (4, .iload_n 1, 1, (0, 0, 0), [], []),
  (5, .iconst (-1), 1, (0, 0, 0), [], []),
  (6, .iastore, 1, (0, 0, 0), [], []),
  (7, .aload_n 0, 1, (0, 0, 0), [], []),
  (8, .getfield 31, 3, (3, 11, 2), [], [391]),
  (11, .iload_n 1, 1, (0, 0, 0), [], []),
  (12, .iconst 0, 1, (0, 0, 0), [], []),
  (13, .iastore, 1, (0, 0, 0), [], []),
  (14, .return_, 1, (0, 0, 0), [], [])]
/-- 66: X3_runYears -/
def am_t66 : List am_E := [(0, .iconst 0, 1, (0, 0, 0), [], []),
  (1, .istore_n 2, 1, (0, 0, 0), [], []),
  (2, .iload_n 2, 1, (0, 0, 0), [], []),
  (3, .iload_n 1, 1, (0, 0, 0), [], []),
  (4, .if_icmp .ge 35, 3, (39, 0, 0), [], []),
  (7, .aload_n 0, 1, (0, 0, 0), [], []),
  (8, .invokevirtual 121, 3, (0, 67, 3), [], [1070, 117, 709, 710]),
  (11, .aload_n 0, 1, (0, 0, 0), [], []),
  (12, .invokevirtual 124, 3, (0, 68, 3), [], [1071, 117, 1073, 45]),
  (15, .aload_n 0, 1, (0, 0, 0), [], []),
  (16, .invokevirtual 127, 3, (0, 73, 3), [], [1084, 117, 1086, 48]),
  (19, .aload_n 0, 1, (0, 0, 0), [], []),
  (20, .invokevirtual 130, 3, (0, 76, 3), [], [1096, 117, 1098, 51]),
  (23, .aload_n 0, 1, (0, 0, 0), [], []),
  (24, .dup, 1, (0, 0, 0), [], []),
  (25, .getfield 58, 3, (3, 0, 0), [], [375]),
  (28, .iconst 1, 1, (0, 0, 0), [], []),
  (29, .iadd, 1, (0, 0, 0), [], []),
  (30, .putfield 58, 3, (3, 0, 0), [], [375]),
  (33, .iinc 2 1, 3, (0, 0, 0), [], []),
  (36, .goto (-34), 3, (2, 0, 0), [], []),
  (39, .return_, 1, (0, 0, 0), [], [])]
/-- 67: X3_collect -/
def am_t67 : List am_E := [(0, .iconst 0, 1, (0, 0, 0), [], []),
  (1, .istore_n 1, 1, (0, 0, 0), [], []),
  (2, .iload_n 1, 1, (0, 0, 0), [], []),
  (3, .iconst 4, 1, (0, 0, 0), [], []),
  (4, .if_icmp .ge 16, 3, (20, 0, 0), [], []),
  (7, .aload_n 0, 1, (0, 0, 0), [], []),
  (8, .getfield 34, 3, (3, 12, 2), [], [392]),
  (11, .iload_n 1, 1, (0, 0, 0), [], []),
  (12, .iconst 0, 1, (0, 0, 0), [], []),
  (13, .iastore, 1, (0, 0, 0), [], []),
  (14, .iinc 1 1, 3, (0, 0, 0), [], []),
  (17, .goto (-15), 3, (2, 0, 0), [], []),
  (20, .aload_n 0, 1, (0, 0, 0), [], []),
  (21, .getfield 49, 3, (3, 1, 0), [], [377]),
  (24, .istore_n 1, 1, (0, 0, 0), [], []),
  (25, .aload_n 0, 1, (0, 0, 0), [], []),
  (26, .getfield 40, 3, (3, 5, 2), [], [385]),
  (29, .getfield 71, 3, (4, 2, 0), [], [154]),
  (32, .ifCond .le 54, 3, (86, 0, 0), [], []),
  (35, .aload_n 0, 1, (0, 0, 0), [], []),
  (36, .getfield 49, 3, (3, 1, 0), [], [377]),
  (39, .aload_n 0, 1, (0, 0, 0), [], []),
  (40, .getfield 40, 3, (3, 5, 2), [], [385]),
  (43, .getfield 71, 3, (4, 2, 0), [], [154]),
  (46, .idiv, 1, (0, 0, 0), [], []),
  (47, .istore_n 2, 1, (0, 0, 0), [], []),
  (48, .iconst 0, 1, (0, 0, 0), [], []),
  (49, .istore_n 3, 1, (0, 0, 0), [], []),
  (50, .iload_n 3, 1, (0, 0, 0), [], []),
  (51, .aload_n 0, 1, (0, 0, 0), [], []),
  (52, .getfield 40, 3, (3, 5, 2), [], [385]),
  (55, .getfield 71, 3, (4, 2, 0), [], [154]),
  (58, .if_icmp .ge 15, 3, (73, 0, 0), [], []),
  (61, .aload_n 0, 1, (0, 0, 0), [], []),
  (62, .iload_n 3, 1, (0, 0, 0), [], []),
  (63, .iload_n 2, 1, (0, 0, 0), [], []),
  (64, .invokevirtual 133, 3, (0, 64, 3), [], [712, 117, 713, 714]),
  (67, .iinc 3 1, 3, (0, 0, 0), [], []),
  (70, .goto (-20), 3, (50, 0, 0), [], []),
  (73, .aload_n 0, 1, (0, 0, 0), [], []),
  (74, .getfield 49, 3, (3, 1, 0), [], [377]),
  (77, .aload_n 0, 1, (0, 0, 0), [], []),
  (78, .getfield 40, 3, (3, 5, 2), [], [385]),
  (81, .getfield 71, 3, (4, 2, 0), [], [154]),
  (84, .irem, 1, (0, 0, 0), [], []),
  (85, .istore_n 1, 1, (0, 0, 0), [], []),
  (86, .aload_n 0, 1, (0, 0, 0), [], []),
  (87, .sipush 9999, 3, (0, 0, 0), [], []),
  (90, .aload_n 0, 1, (0, 0, 0), [], []),
  (91, .getfield 50, 3, (3, 6, 0), [], [386]),
  (94, .iload_n 1, 1, (0, 0, 0), [], []),
  (95, .iadd, 1, (0, 0, 0), [], []),
  (96, .invokestatic 115, 3, (7, 0, 0), [], [716, 466, 126, 467]),
  (99, .putfield 50, 3, (3, 6, 0), [], [386]),
  (102, .return_, 1, (0, 0, 0), [], [])]
/-- 68: X3_buyFromPurses -/
def am_t68 : List am_E := [(0, .iconst 0, 1, (0, 0, 0), [], []),
  (1, .istore_n 1, 1, (0, 0, 0), [], []),
  (2, .iload_n 1, 1, (0, 0, 0), [], []),
  (3, .bipush 12, 2, (0, 0, 0), [], []),
  (5, .if_icmp .ge 30, 3, (35, 0, 0), [], []),
  (8, .aload_n 0, 1, (0, 0, 0), [], []),
  (9, .invokevirtual 137, 3, (0, 69, 3), [], [1075, 117, 718, 719]),
  (12, .istore_n 2, 1, (0, 0, 0), [], []),
  (13, .iload_n 2, 1, (0, 0, 0), [], []),
  (14, .iconst (-1), 1, (0, 0, 0), [], []),
  (15, .if_icmp .ne 4, 3, (19, 0, 0), [], []),
  (18, .return_, 1, (0, 0, 0), [], []),
  (19, .aload_n 0, 1, (0, 0, 0), [], []),
  (20, .iload_n 2, 1, (0, 0, 0), [], []),
  (21, .aload_n 0, 1, (0, 0, 0), [], []),
  (22, .iload_n 2, 1, (0, 0, 0), [], []),
  (23, .invokevirtual 140, 3, (0, 62, 3), [], [729, 117, 730, 731]),
  (26, .invokevirtual 143, 3, (0, 71, 3), [], [1076, 117, 1078, 46]),
  (29, .iinc 1 1, 3, (0, 0, 0), [], []),
  (32, .goto (-30), 3, (2, 0, 0), [], []),
  (35, .return_, 1, (0, 0, 0), [], [])]
/-- 69: X3_bestToBuy -/
def am_t69 : List am_E := [(0, .iconst (-1), 1, (0, 0, 0), [], []),
  (1, .istore_n 1, 1, (0, 0, 0), [], []),
  (2, .iconst 0, 1, (0, 0, 0), [], []),
  (3, .istore_n 2, 1, (0, 0, 0), [], []),
  (4, .iconst 0, 1, (0, 0, 0), [], []),
  (5, .istore_n 3, 1, (0, 0, 0), [], []),
  (6, .iload_n 3, 1, (0, 0, 0), [], []),
  (7, .aload_n 0, 1, (0, 0, 0), [], []),
  (8, .getfield 40, 3, (3, 5, 2), [], [385]),
  (11, .getfield 74, 3, (4, 1, 0), [], [150]),
  (14, .if_icmp .ge 85, 3, (99, 0, 0), [], []),
  (17, .aload_n 0, 1, (0, 0, 0), [], []),
  (18, .iload_n 3, 1, (0, 0, 0), [], []),
  (19, .invokevirtual 146, 3, (0, 70, 3), [], [721, 117, 723, 30]),
  (22, .ifCond .eq 71, 3, (93, 0, 0), [], []),
  (25, .aload_n 0, 1, (0, 0, 0), [], []),
  (26, .iload_n 3, 1, (0, 0, 0), [], []),
  (27, .invokevirtual 140, 3, (0, 62, 3), [], [729, 117, 730, 731]),
  (30, .istore 4, 2, (0, 0, 0), [], []),
  (32, .iload 4, 2, (0, 0, 0), [], []),
  (34, .iconst (-1), 1, (0, 0, 0), [], []),
  (35, .if_icmp .eq 37, 3, (72, 0, 0), [], []),
  (38, .iload_n 1, 1, (0, 0, 0), [], []),
  (39, .iconst (-1), 1, (0, 0, 0), [], []),
  (40, .if_icmp .eq 28, 3, (68, 0, 0), [], []),
  (43, .iload 4, 2, (0, 0, 0), [], []),
  (45, .iload_n 2, 1, (0, 0, 0), [], []),
  (46, .if_icmp .lt 22, 3, (68, 0, 0), [], []),
  (49, .iload 4, 2, (0, 0, 0), [], []),
  (51, .iload_n 2, 1, (0, 0, 0), [], []),
  (52, .if_icmp .ne 20, 3, (72, 0, 0), [], []),
  (55, .aload_n 0, 1, (0, 0, 0), [], []),
  (56, .iload_n 3, 1, (0, 0, 0), [], []),
  (57, .invokevirtual 90, 3, (0, 60, 3), [], [741, 117, 743, 32]),
  (60, .aload_n 0, 1, (0, 0, 0), [], []),
  (61, .iload_n 1, 1, (0, 0, 0), [], []),
  (62, .invokevirtual 90, 3, (0, 60, 3), [], [741, 117, 743, 32]),
  (65, .if_icmp .le 7, 3, (72, 0, 0), [], []),
  (68, .iconst 1, 1, (0, 0, 0), [], []),
  (69, .goto 4, 3, (73, 0, 0), [], []),
  (72, .iconst 0, 1, (0, 0, 0), [], []),
  (73, .istore 5, 2, (0, 0, 0), [], []),
  (75, .iload 5, 2, (0, 0, 0), [], []),
  (77, .ifCond .eq 16, 3, (93, 0, 0), [], []),
  (80, .aload_n 0, 1, (0, 0, 0), [], []),
  (81, .iload_n 3, 1, (0, 0, 0), [], []),
  (82, .invokevirtual 94, 3, (0, 77, 3), [], [751, 117, 753, 33]),
  (85, .ifCond .ne 8, 3, (93, 0, 0), [], []),
  (88, .iload_n 3, 1, (0, 0, 0), [], []),
  (89, .istore_n 1, 1, (0, 0, 0), [], []),
  (90, .iload 4, 2, (0, 0, 0), [], []),
  (92, .istore_n 2, 1, (0, 0, 0), [], []),
  (93, .iinc 3 1, 3, (0, 0, 0), [], []),
  (96, .goto (-90), 3, (6, 0, 0), [], []),
  (99, .iload_n 1, 1, (0, 0, 0), [], []),
  (100, .ireturn, 1, (0, 0, 0), [], [])]
/-- 70: X3_hasRoom -/
def am_t70 : List am_E := [(0, .aload_n 0, 1, (0, 0, 0), [], []),
  (1, .getfield 40, 3, (3, 5, 2), [], [385]),
  (4, .getfield 84, 3, (4, 7, 2), [], [171]),
  (7, .iload_n 1, 1, (0, 0, 0), [], []),
  (8, .iaload, 1, (0, 0, 0), [], []),
  (9, .istore_n 2, 1, (0, 0, 0), [], []),
  (10, .aload_n 0, 1, (0, 0, 0), [], []),
  (11, .iload_n 1, 1, (0, 0, 0), [], []),
  (12, .invokevirtual 77, 3, (0, 58, 3), [], [725, 117, 726, 727]),
  (15, .ifCond .eq 33, 3, (48, 0, 0), [], []),
  (18, .iload_n 1, 1, (0, 0, 0), [], []),
  (19, .aload_n 0, 1, (0, 0, 0), [], []),
  (20, .getfield 9, 3, (3, 2, 0), [], [379]),
  (23, .if_icmp .eq 25, 3, (48, 0, 0), [], []),
  (26, .aload_n 0, 1, (0, 0, 0), [], []),
  (27, .getfield 34, 3, (3, 12, 2), [], [392]),
  (30, .iload_n 2, 1, (0, 0, 0), [], []),
  (31, .iaload, 1, (0, 0, 0), [], []),
  (32, .aload_n 0, 1, (0, 0, 0), [], []),
  (33, .getfield 40, 3, (3, 5, 2), [], [385]),
  (36, .getfield 81, 3, (4, 6, 2), [], [168]),
  (39, .iload_n 2, 1, (0, 0, 0), [], []),
  (40, .iaload, 1, (0, 0, 0), [], []),
  (41, .if_icmp .ge 7, 3, (48, 0, 0), [], []),
  (44, .iconst 1, 1, (0, 0, 0), [], []),
  (45, .goto 4, 3, (49, 0, 0), [], []),
  (48, .iconst 0, 1, (0, 0, 0), [], []),
  (49, .ireturn, 1, (1, 0, 0), [], [])]
/-- 71: X3_buy -/
def am_t71_0 : List am_E := [(0, .aload_n 0, 1, (0, 0, 0), [], []),
  (1, .getfield 25, 3, (3, 9, 2), [], [389]),
  (4, .iload_n 1, 1, (0, 0, 0), [], []),
  (5, .iaload, 1, (0, 0, 0), [], []),
  (6, .ineg, 1, (0, 0, 0), [], []),
  (7, .istore_n 3, 1, (0, 0, 0), [], []),
  (8, .iconst 0, 1, (0, 0, 0), [], []),
  (9, .istore 4, 2, (0, 0, 0), [], []),
  (11, .iload 4, 2, (0, 0, 0), [], []),
  (13, .aload_n 0, 1, (0, 0, 0), [], []),
  (14, .getfield 40, 3, (3, 5, 2), [], [385]),
  (17, .getfield 71, 3, (4, 2, 0), [], [154]),
  (20, .if_icmp .ge 33, 3, (53, 0, 0), [], []),
  (23, .aload_n 0, 1, (0, 0, 0), [], []),
  (24, .iload 4, 2, (0, 0, 0), [], []),
  (26, .iload_n 1, 1, (0, 0, 0), [], []),
  (27, .invokevirtual 106, 3, (0, 59, 3), [], [737, 117, 738, 739]),
  (30, .ifCond .eq 17, 3, (47, 0, 0), [], []),
  (33, .iload_n 3, 1, (0, 0, 0), [], []),
  (34, .iload_n 2, 1, (0, 0, 0), [], []),
  (35, .aload_n 0, 1, (0, 0, 0), [], []),
  (36, .getfield 15, 3, (3, 3, 2), [], [381]),
  (39, .iload 4, 2, (0, 0, 0), [], []),
  (41, .iaload, 1, (0, 0, 0), [], []),
  (42, .invokestatic 115, 3, (7, 0, 0), [], [716, 466, 126, 467]),
  (45, .iadd, 1, (0, 0, 0), [], []),
  (46, .istore_n 3, 1, (0, 0, 0), [], []),
  (47, .iinc 4 1, 3, (0, 0, 0), [], []),
  (50, .goto (-39), 3, (11, 0, 0), [], []),
  (53, .iconst 0, 1, (0, 0, 0), [], []),
  (54, .istore 4, 2, (0, 0, 0), [], []),
  (56, .iload 4, 2, (0, 0, 0), [], []),
  (58, .aload_n 0, 1, (0, 0, 0), [], []),
  (59, .getfield 40, 3, (3, 5, 2), [], [385]),
  (62, .getfield 71, 3, (4, 2, 0), [], [154]),
  (65, .if_icmp .ge 72, 3, (137, 0, 0), [], []),
  (68, .aload_n 0, 1, (0, 0, 0), [], []),
  (69, .iload 4, 2, (0, 0, 0), [], []),
  (71, .iload_n 1, 1, (0, 0, 0), [], []),
  (72, .invokevirtual 106, 3, (0, 59, 3), [], [737, 117, 738, 739]),
  (75, .ifCond .eq 56, 3, (131, 0, 0), [], []),
  (78, .iload_n 2, 1, (0, 0, 0), [], []),
  (79, .aload_n 0, 1, (0, 0, 0), [], []),
  (80, .getfield 15, 3, (3, 3, 2), [], [381]),
  (83, .iload 4, 2, (0, 0, 0), [], []),
  (85, .iaload, 1, (0, 0, 0), [], []),
  (86, .invokestatic 115, 3, (7, 0, 0), [], [716, 466, 126, 467]),
  (89, .istore 5, 2, (0, 0, 0), [], []),
  (91, .iload 5, 2, (0, 0, 0), [], []),
  (93, .iload_n 2, 1, (0, 0, 0), [], []),
  (94, .if_icmp .ne 13, 3, (107, 0, 0), [], []),
  (97, .iload_n 3, 1, (0, 0, 0), [], []),
  (98, .ifCond .le 9, 3, (107, 0, 0), [], []),
  (101, .iinc 5 (-1), 3, (0, 0, 0), [], []),
  (104, .iinc 3 (-1), 3, (0, 0, 0), [], []),
  (107, .aload_n 0, 1, (0, 0, 0), [], []),
  (108, .getfield 15, 3, (3, 3, 2), [], [381]),
  (111, .iload 4, 2, (0, 0, 0), [], []),
  (113, .dup2, 1, (0, 0, 0), [], []),
  (114, .iaload, 1, (0, 0, 0), [], [])]
def am_t71_1 : List am_E := [(115, .iload 5, 2, (0, 0, 0), [], []),
  (117, .isub, 1, (0, 0, 0), [], []),
  (118, .iastore, 1, (0, 0, 0), [], []),
  (119, .aload_n 0, 1, (0, 0, 0), [], []),
  (120, .getfield 22, 3, (3, 8, 2), [], [388]),
  (123, .iload 4, 2, (0, 0, 0), [], []),
  (125, .dup2, 1, (0, 0, 0), [], []),
  (126, .iaload, 1, (0, 0, 0), [], []),
  (127, .iload 5, 2, (0, 0, 0), [], []),
  (129, .iadd, 1, (0, 0, 0), [], []),
  (130, .iastore, 1, (0, 0, 0), [], []),
  (131, .iinc 4 1, 3, (0, 0, 0), [], []),
  (134, .goto (-78), 3, (56, 0, 0), [], []),
  (137, .aload_n 0, 1, (0, 0, 0), [], []),
  (138, .getfield 31, 3, (3, 11, 2), [], [391]),
  (141, .iload_n 1, 1, (0, 0, 0), [], []),
  (142, .iconst 1, 1, (0, 0, 0), [], []),
  (143, .iastore, 1, (0, 0, 0), [], []),
  (144, .aload_n 0, 1, (0, 0, 0), [], []),
  (145, .iload_n 1, 1, (0, 0, 0), [], []),
  (146, .invokevirtual 149, 3, (0, 72, 3), [], [1080, 117, 1082, 47]),
  (149, .return_, 1, (0, 0, 0), [], [])]
def am_t71 : List am_E := am_t71_0 ++ (am_t71_1)
/-- 72: X3_build -/
def am_t72 : List am_E := [(0, .aload_n 0, 1, (0, 0, 0), [], []),
  (1, .getfield 19, 3, (3, 4, 2), [], [383]),
  (4, .iload_n 1, 1, (0, 0, 0), [], []),
  (5, .aload_n 0, 1, (0, 0, 0), [], []),
  (6, .getfield 58, 3, (3, 0, 0), [], [375]),
  (9, .iastore, 1, (0, 0, 0), [], []),
  (10, .aload_n 0, 1, (0, 0, 0), [], []),
  (11, .getfield 34, 3, (3, 12, 2), [], [392]),
  (14, .aload_n 0, 1, (0, 0, 0), [], []),
  (15, .getfield 40, 3, (3, 5, 2), [], [385]),
  (18, .getfield 84, 3, (4, 7, 2), [], [171]),
  (21, .iload_n 1, 1, (0, 0, 0), [], []),
  (22, .iaload, 1, (0, 0, 0), [], []),
  (23, .dup2, 1, (0, 0, 0), [], []),
  (24, .iaload, 1, (0, 0, 0), [], []),
  (25, .iconst 1, 1, (0, 0, 0), [], []),
  (26, .iadd, 1, (0, 0, 0), [], []),
  (27, .iastore, 1, (0, 0, 0), [], []),
  (28, .aload_n 0, 1, (0, 0, 0), [], []),
  (29, .dup, 1, (0, 0, 0), [], []),
  (30, .getfield 53, 3, (3, 7, 0), [], [387]),
  (33, .aload_n 0, 1, (0, 0, 0), [], []),
  (34, .getfield 25, 3, (3, 9, 2), [], [389]),
  (37, .iload_n 1, 1, (0, 0, 0), [], []),
  (38, .iaload, 1, (0, 0, 0), [], []),
  (39, .iadd, 1, (0, 0, 0), [], []),
  (40, .putfield 53, 3, (3, 7, 0), [], [387]),
  (43, .return_, 1, (0, 0, 0), [], [])]
/-- 73: X3_buildFromPot -/
def am_t73 : List am_E := [(0, .iconst 0, 1, (0, 0, 0), [], []),
  (1, .istore_n 1, 1, (0, 0, 0), [], []),
  (2, .iload_n 1, 1, (0, 0, 0), [], []),
  (3, .bipush 12, 2, (0, 0, 0), [], []),
  (5, .if_icmp .ge 40, 3, (45, 0, 0), [], []),
  (8, .aload_n 0, 1, (0, 0, 0), [], []),
  (9, .invokevirtual 153, 3, (0, 74, 3), [], [1088, 117, 1090, 49]),
  (12, .istore_n 2, 1, (0, 0, 0), [], []),
  (13, .iload_n 2, 1, (0, 0, 0), [], []),
  (14, .iconst (-1), 1, (0, 0, 0), [], []),
  (15, .if_icmp .ne 4, 3, (19, 0, 0), [], []),
  (18, .return_, 1, (0, 0, 0), [], []),
  (19, .aload_n 0, 1, (0, 0, 0), [], []),
  (20, .dup, 1, (0, 0, 0), [], []),
  (21, .getfield 50, 3, (3, 6, 0), [], [386]),
  (24, .aload_n 0, 1, (0, 0, 0), [], []),
  (25, .getfield 25, 3, (3, 9, 2), [], [389]),
  (28, .iload_n 2, 1, (0, 0, 0), [], []),
  (29, .iaload, 1, (0, 0, 0), [], []),
  (30, .isub, 1, (0, 0, 0), [], []),
  (31, .putfield 50, 3, (3, 6, 0), [], [386]),
  (34, .aload_n 0, 1, (0, 0, 0), [], []),
  (35, .iload_n 2, 1, (0, 0, 0), [], []),
  (36, .invokevirtual 149, 3, (0, 72, 3), [], [1080, 117, 1082, 47]),
  (39, .iinc 1 1, 3, (0, 0, 0), [], []),
  (42, .goto (-40), 3, (2, 0, 0), [], []),
  (45, .return_, 1, (0, 0, 0), [], [])]
/-- 74: X3_bestForPot -/
def am_t74 : List am_E := [(0, .iconst (-1), 1, (0, 0, 0), [], []),
  (1, .istore_n 1, 1, (0, 0, 0), [], []),
  (2, .iconst 0, 1, (0, 0, 0), [], []),
  (3, .istore_n 2, 1, (0, 0, 0), [], []),
  (4, .iload_n 2, 1, (0, 0, 0), [], []),
  (5, .aload_n 0, 1, (0, 0, 0), [], []),
  (6, .getfield 40, 3, (3, 5, 2), [], [385]),
  (9, .getfield 74, 3, (4, 1, 0), [], [150]),
  (12, .if_icmp .ge 54, 3, (66, 0, 0), [], []),
  (15, .aload_n 0, 1, (0, 0, 0), [], []),
  (16, .iload_n 2, 1, (0, 0, 0), [], []),
  (17, .invokevirtual 146, 3, (0, 70, 3), [], [721, 117, 723, 30]),
  (20, .ifCond .eq 40, 3, (60, 0, 0), [], []),
  (23, .aload_n 0, 1, (0, 0, 0), [], []),
  (24, .getfield 25, 3, (3, 9, 2), [], [389]),
  (27, .iload_n 2, 1, (0, 0, 0), [], []),
  (28, .iaload, 1, (0, 0, 0), [], []),
  (29, .aload_n 0, 1, (0, 0, 0), [], []),
  (30, .getfield 50, 3, (3, 6, 0), [], [386]),
  (33, .if_icmp .gt 27, 3, (60, 0, 0), [], []),
  (36, .iload_n 1, 1, (0, 0, 0), [], []),
  (37, .iconst (-1), 1, (0, 0, 0), [], []),
  (38, .if_icmp .eq 12, 3, (50, 0, 0), [], []),
  (41, .aload_n 0, 1, (0, 0, 0), [], []),
  (42, .iload_n 2, 1, (0, 0, 0), [], []),
  (43, .iload_n 1, 1, (0, 0, 0), [], []),
  (44, .invokevirtual 156, 3, (0, 75, 3), [], [1092, 117, 1094, 50]),
  (47, .ifCond .eq 13, 3, (60, 0, 0), [], []),
  (50, .aload_n 0, 1, (0, 0, 0), [], []),
  (51, .iload_n 2, 1, (0, 0, 0), [], []),
  (52, .invokevirtual 94, 3, (0, 77, 3), [], [751, 117, 753, 33]),
  (55, .ifCond .ne 5, 3, (60, 0, 0), [], []),
  (58, .iload_n 2, 1, (0, 0, 0), [], []),
  (59, .istore_n 1, 1, (0, 0, 0), [], []),
  (60, .iinc 2 1, 3, (0, 0, 0), [], []),
  (63, .goto (-59), 3, (4, 0, 0), [], []),
  (66, .iload_n 1, 1, (0, 0, 0), [], []),
  (67, .ireturn, 1, (0, 0, 0), [], [])]
/-- 75: X3_isBetterForPot -/
def am_t75 : List am_E := [(0, .aload_n 0, 1, (0, 0, 0), [], []),
  (1, .iload_n 1, 1, (0, 0, 0), [], []),
  (2, .invokevirtual 90, 3, (0, 60, 3), [], [741, 117, 743, 32]),
  (5, .aload_n 0, 1, (0, 0, 0), [], []),
  (6, .iload_n 2, 1, (0, 0, 0), [], []),
  (7, .invokevirtual 90, 3, (0, 60, 3), [], [741, 117, 743, 32]),
  (10, .if_icmp .eq 22, 3, (32, 0, 0), [], []),
  (13, .aload_n 0, 1, (0, 0, 0), [], []),
  (14, .iload_n 1, 1, (0, 0, 0), [], []),
  (15, .invokevirtual 90, 3, (0, 60, 3), [], [741, 117, 743, 32]),
  (18, .aload_n 0, 1, (0, 0, 0), [], []),
  (19, .iload_n 2, 1, (0, 0, 0), [], []),
  (20, .invokevirtual 90, 3, (0, 60, 3), [], [741, 117, 743, 32]),
  (23, .if_icmp .le 7, 3, (30, 0, 0), [], []),
  (26, .iconst 1, 1, (0, 0, 0), [], []),
  (27, .goto 4, 3, (31, 0, 0), [], []),
  (30, .iconst 0, 1, (0, 0, 0), [], []),
  (31, .ireturn, 1, (1, 0, 0), [], []),
  (32, .aload_n 0, 1, (0, 0, 0), [], []),
  (33, .getfield 25, 3, (3, 9, 2), [], [389]),
  (36, .iload_n 1, 1, (0, 0, 0), [], []),
  (37, .iaload, 1, (0, 0, 0), [], []),
  (38, .aload_n 0, 1, (0, 0, 0), [], []),
  (39, .getfield 25, 3, (3, 9, 2), [], [389]),
  (42, .iload_n 2, 1, (0, 0, 0), [], []),
  (43, .iaload, 1, (0, 0, 0), [], []),
  (44, .if_icmp .ge 7, 3, (51, 0, 0), [], []),
  (47, .iconst 1, 1, (0, 0, 0), [], []),
  (48, .goto 4, 3, (52, 0, 0), [], []),
  (51, .iconst 0, 1, (0, 0, 0), [], []),
  (52, .ireturn, 1, (1, 0, 0), [], [])]
/-- 76: X3_grow -/
def am_t76 : List am_E := [(0, .iconst 0, 1, (0, 0, 0), [], []),
  (1, .istore_n 1, 1, (0, 0, 0), [], []),
  (2, .iload_n 1, 1, (0, 0, 0), [], []),
  (3, .aload_n 0, 1, (0, 0, 0), [], []),
  (4, .getfield 40, 3, (3, 5, 2), [], [385]),
  (7, .getfield 74, 3, (4, 1, 0), [], [150]),
  (10, .if_icmp .ge 57, 3, (67, 0, 0), [], []),
  (13, .aload_n 0, 1, (0, 0, 0), [], []),
  (14, .iload_n 1, 1, (0, 0, 0), [], []),
  (15, .invokevirtual 77, 3, (0, 58, 3), [], [725, 117, 726, 727]),
  (18, .ifCond .eq 43, 3, (61, 0, 0), [], []),
  (21, .aload_n 0, 1, (0, 0, 0), [], []),
  (22, .getfield 25, 3, (3, 9, 2), [], [389]),
  (25, .iload_n 1, 1, (0, 0, 0), [], []),
  (26, .iaload, 1, (0, 0, 0), [], []),
  (27, .aload_n 0, 1, (0, 0, 0), [], []),
  (28, .getfield 40, 3, (3, 5, 2), [], [385]),
  (31, .getfield 87, 3, (4, 9, 2), [], [177]),
  (34, .iload_n 1, 1, (0, 0, 0), [], []),
  (35, .iaload, 1, (0, 0, 0), [], []),
  (36, .imul, 1, (0, 0, 0), [], []),
  (37, .bipush 100, 2, (0, 0, 0), [], []),
  (39, .idiv, 1, (0, 0, 0), [], []),
  (40, .istore_n 2, 1, (0, 0, 0), [], []),
  (41, .aload_n 0, 1, (0, 0, 0), [], []),
  (42, .getfield 25, 3, (3, 9, 2), [], [389]),
  (45, .iload_n 1, 1, (0, 0, 0), [], []),
  (46, .sipush 9999, 3, (0, 0, 0), [], []),
  (49, .aload_n 0, 1, (0, 0, 0), [], []),
  (50, .getfield 25, 3, (3, 9, 2), [], [389]),
  (53, .iload_n 1, 1, (0, 0, 0), [], []),
  (54, .iaload, 1, (0, 0, 0), [], []),
  (55, .iload_n 2, 1, (0, 0, 0), [], []),
  (56, .iadd, 1, (0, 0, 0), [], []),
  (57, .invokestatic 115, 3, (7, 0, 0), [], [716, 466, 126, 467]),
  (60, .iastore, 1, (0, 0, 0), [], []),
  (61, .iinc 1 1, 3, (0, 0, 0), [], []),
  (64, .goto (-62), 3, (2, 0, 0), [], []),
  (67, .return_, 1, (0, 0, 0), [], [])]
/-- 77: X3_isBanned -/
def am_t77 : List am_E := [(0, .iconst 0, 1, (0, 0, 0), [], []),
  (1, .istore_n 2, 1, (0, 0, 0), [], []),
  (2, .iload_n 2, 1, (0, 0, 0), [], []),
  (3, .aload_n 0, 1, (0, 0, 0), [], []),
  (4, .getfield 40, 3, (3, 5, 2), [], [385]),
  (7, .getfield 159, 3, (4, 3, 0), [], [159]),
  (10, .if_icmp .ge 40, 3, (50, 0, 0), [], []),
  (13, .aload_n 0, 1, (0, 0, 0), [], []),
  (14, .getfield 40, 3, (3, 5, 2), [], [385]),
  (17, .getfield 162, 3, (4, 11, 2), [], [183]),
  (20, .iload_n 2, 1, (0, 0, 0), [], []),
  (21, .iaload, 1, (0, 0, 0), [], []),
  (22, .iload_n 1, 1, (0, 0, 0), [], []),
  (23, .if_icmp .ne 21, 3, (44, 0, 0), [], []),
  (26, .aload_n 0, 1, (0, 0, 0), [], []),
  (27, .aload_n 0, 1, (0, 0, 0), [], []),
  (28, .getfield 40, 3, (3, 5, 2), [], [385]),
  (31, .getfield 165, 3, (4, 12, 2), [], [186]),
  (34, .iload_n 2, 1, (0, 0, 0), [], []),
  (35, .iaload, 1, (0, 0, 0), [], []),
  (36, .invokevirtual 168, 3, (0, 78, 3), [], [755, 117, 757, 34]),
  (39, .ifCond .eq 5, 3, (44, 0, 0), [], []),
  (42, .iconst 1, 1, (0, 0, 0), [], []),
  (43, .ireturn, 1, (1, 0, 0), [], []),
  (44, .iinc 2 1, 3, (0, 0, 0), [], []),
  (47, .goto (-45), 3, (2, 0, 0), [], []),
  (50, .iconst 0, 1, (0, 0, 0), [], []),
  (51, .ireturn, 1, (1, 0, 0), [], [])]
/-- 78: X3_holds -/
def am_t78_0 : List am_E := [(0, .aload_n 0, 1, (0, 0, 0), [], []),
  (1, .iconst 0, 1, (0, 0, 0), [], []),
  (2, .putfield 171, 3, (3, 14, 0), [], [394]),
  (5, .iload_n 1, 1, (0, 0, 0), [], []),
  (6, .istore_n 2, 1, (0, 0, 0), [], []),
  (7, .iload_n 2, 1, (0, 0, 0), [], []),
  (8, .ifCond .lt 143, 3, (151, 0, 0), [], []),
  (11, .iload_n 2, 1, (0, 0, 0), [], []),
  (12, .aload_n 0, 1, (0, 0, 0), [], []),
  (13, .getfield 40, 3, (3, 5, 2), [], [385]),
  (16, .getfield 174, 3, (4, 5, 0), [], [165]),
  (19, .if_icmp .ge 132, 3, (151, 0, 0), [], []),
  (22, .aload_n 0, 1, (0, 0, 0), [], []),
  (23, .getfield 40, 3, (3, 5, 2), [], [385]),
  (26, .getfield 177, 3, (4, 13, 2), [], [189]),
  (29, .iload_n 2, 1, (0, 0, 0), [], []),
  (30, .iaload, 1, (0, 0, 0), [], []),
  (31, .istore_n 3, 1, (0, 0, 0), [], []),
  (32, .iload_n 3, 1, (0, 0, 0), [], []),
  (33, .ifCond .ne 6, 3, (39, 0, 0), [], []),
  (36, .goto 115, 3, (151, 0, 0), [], []),
  (39, .iload_n 3, 1, (0, 0, 0), [], []),
  (40, .bipush 10, 2, (0, 0, 0), [], []),
  (42, .if_icmp .ne 16, 3, (58, 0, 0), [], []),
  (45, .aload_n 0, 1, (0, 0, 0), [], []),
  (46, .iconst 1, 1, (0, 0, 0), [], []),
  (47, .aload_n 0, 1, (0, 0, 0), [], []),
  (48, .invokevirtual 182, 3, (0, 80, 3), [], [759, 117, 761, 35]),
  (51, .isub, 1, (0, 0, 0), [], []),
  (52, .invokevirtual 185, 3, (0, 79, 3), [], [763, 117, 765, 36]),
  (55, .goto 90, 3, (145, 0, 0), [], []),
  (58, .iload_n 3, 1, (0, 0, 0), [], []),
  (59, .bipush 9, 2, (0, 0, 0), [], []),
  (61, .if_icmp .ne 15, 3, (76, 0, 0), [], []),
  (64, .aload_n 0, 1, (0, 0, 0), [], []),
  (65, .aload_n 0, 1, (0, 0, 0), [], []),
  (66, .invokevirtual 182, 3, (0, 80, 3), [], [759, 117, 761, 35]),
  (69, .ineg, 1, (0, 0, 0), [], []),
  (70, .invokevirtual 185, 3, (0, 79, 3), [], [763, 117, 765, 36]),
  (73, .goto 72, 3, (145, 0, 0), [], []),
  (76, .iload_n 3, 1, (0, 0, 0), [], []),
  (77, .bipush 10, 2, (0, 0, 0), [], []),
  (79, .if_icmp .ge 24, 3, (103, 0, 0), [], []),
  (82, .aload_n 0, 1, (0, 0, 0), [], []),
  (83, .aload_n 0, 1, (0, 0, 0), [], []),
  (84, .iload_n 3, 1, (0, 0, 0), [], []),
  (85, .aload_n 0, 1, (0, 0, 0), [], []),
  (86, .getfield 40, 3, (3, 5, 2), [], [385]),
  (89, .getfield 188, 3, (4, 14, 2), [], [193]),
  (92, .iload_n 2, 1, (0, 0, 0), [], []),
  (93, .iaload, 1, (0, 0, 0), [], []),
  (94, .invokevirtual 191, 3, (0, 81, 3), [], [767, 117, 769, 37]),
  (97, .invokevirtual 185, 3, (0, 79, 3), [], [763, 117, 765, 36]),
  (100, .goto 45, 3, (145, 0, 0), [], []),
  (103, .aload_n 0, 1, (0, 0, 0), [], []),
  (104, .invokevirtual 182, 3, (0, 80, 3), [], [759, 117, 761, 35]),
  (107, .istore 4, 2, (0, 0, 0), [], []),
  (109, .aload_n 0, 1, (0, 0, 0), [], []),
  (110, .invokevirtual 182, 3, (0, 80, 3), [], [759, 117, 761, 35]),
  (113, .istore 5, 2, (0, 0, 0), [], [])]
def am_t78_1 : List am_E := [(115, .aload_n 0, 1, (0, 0, 0), [], []),
  (116, .iload_n 3, 1, (0, 0, 0), [], []),
  (117, .bipush 18, 2, (0, 0, 0), [], []),
  (119, .if_icmp .ge 15, 3, (134, 0, 0), [], []),
  (122, .aload_n 0, 1, (0, 0, 0), [], []),
  (123, .iload_n 3, 1, (0, 0, 0), [], []),
  (124, .iload 5, 2, (0, 0, 0), [], []),
  (126, .iload 4, 2, (0, 0, 0), [], []),
  (128, .invokevirtual 194, 3, (0, 82, 3), [], [777, 117, 779, 38]),
  (131, .goto 11, 3, (142, 0, 0), [], []),
  (134, .iload_n 3, 1, (0, 0, 0), [], []),
  (135, .iload 5, 2, (0, 0, 0), [], []),
  (137, .iload 4, 2, (0, 0, 0), [], []),
  (139, .invokestatic 198, 3, (2, 83, 0), [], [782, 117, 783]),
  (142, .invokevirtual 185, 3, (0, 79, 3), [], [763, 117, 765, 36]),
  (145, .iinc 2 1, 3, (0, 0, 0), [], []),
  (148, .goto (-141), 3, (7, 0, 0), [], []),
  (151, .aload_n 0, 1, (0, 0, 0), [], []),
  (152, .invokevirtual 182, 3, (0, 80, 3), [], [759, 117, 761, 35]),
  (155, .ifCond .eq 7, 3, (162, 0, 0), [], []),
  (158, .iconst 1, 1, (0, 0, 0), [], []),
  (159, .goto 4, 3, (163, 0, 0), [], []),
  (162, .iconst 0, 1, (0, 0, 0), [], []),
  (163, .ireturn, 1, (1, 0, 0), [], [])]
def am_t78 : List am_E := am_t78_0 ++ (am_t78_1)
/-- 79: X3_push -/
def am_t79 : List am_E := [(0, .aload_n 0, 1, (0, 0, 0), [], []),
  (1, .getfield 171, 3, (3, 14, 0), [], [394]),
  (4, .aload_n 0, 1, (0, 0, 0), [], []),
  (5, .getfield 37, 3, (3, 13, 2), [], [393]),
  (8, .arraylength, 1, (0, 0, 0), [], []),
  (9, .if_icmp .ge 23, 3, (32, 0, 0), [], []),
  (12, .aload_n 0, 1, (0, 0, 0), [], []),
  (13, .getfield 37, 3, (3, 13, 2), [], [393]),
  (16, .aload_n 0, 1, (0, 0, 0), [], []),
  (17, .getfield 171, 3, (3, 14, 0), [], [394]),
  (20, .iload_n 1, 1, (0, 0, 0), [], []),
  (21, .iastore, 1, (0, 0, 0), [], []),
  (22, .aload_n 0, 1, (0, 0, 0), [], []),
  (23, .dup, 1, (0, 0, 0), [], []),
  (24, .getfield 171, 3, (3, 14, 0), [], [394]),
  (27, .iconst 1, 1, (0, 0, 0), [], []),
  (28, .iadd, 1, (0, 0, 0), [], []),
  (29, .putfield 171, 3, (3, 14, 0), [], [394]),
  (32, .return_, 1, (0, 0, 0), [], [])]
/-- 80: X3_pop -/
def am_t80 : List am_E := [(0, .aload_n 0, 1, (0, 0, 0), [], []),
  (1, .getfield 171, 3, (3, 14, 0), [], [394]),
  (4, .ifCond .ne 5, 3, (9, 0, 0), [], []),
  (7, .iconst 0, 1, (0, 0, 0), [], []),
  (8, .ireturn, 1, (0, 0, 0), [], []),
  (9, .aload_n 0, 1, (0, 0, 0), [], []),
  (10, .dup, 1, (0, 0, 0), [], []),
  (11, .getfield 171, 3, (3, 14, 0), [], [394]),
  (14, .iconst 1, 1, (0, 0, 0), [], []),
  (15, .isub, 1, (0, 0, 0), [], []),
  (16, .putfield 171, 3, (3, 14, 0), [], [394]),
  (19, .aload_n 0, 1, (0, 0, 0), [], []),
  (20, .getfield 37, 3, (3, 13, 2), [], [393]),
  (23, .aload_n 0, 1, (0, 0, 0), [], []),
  (24, .getfield 171, 3, (3, 14, 0), [], [394]),
  (27, .iaload, 1, (0, 0, 0), [], []),
  (28, .ireturn, 1, (0, 0, 0), [], [])]
/-- 81: X3_single -/
def am_t81_0 : List am_E := [(0, .iload_n 1, 1, (0, 0, 0), [], []),
  (1, .tableswitch 168 2 8 #[43, 48, 53, 75, 100, 122, 143], 43, (169, 0, 0), [(2, 44), (3, 49), (4, 54), (5, 76), (6, 101), (7, 123), (8, 144)], []),
  (44, .aload_n 0, 1, (0, 0, 0), [], []),
  (45, .getfield 58, 3, (3, 0, 0), [], [375]),
  (48, .ireturn, 1, (0, 0, 0), [], []),
  (49, .aload_n 0, 1, (0, 0, 0), [], []),
  (50, .getfield 50, 3, (3, 6, 0), [], [386]),
  (53, .ireturn, 1, (0, 0, 0), [], []),
  (54, .aload_n 0, 1, (0, 0, 0), [], []),
  (55, .getfield 40, 3, (3, 5, 2), [], [385]),
  (58, .iload_n 2, 1, (0, 0, 0), [], []),
  (59, .invokevirtual 201, 3, (0, 87, 4), [], [771, 109, 676, 677]),
  (62, .ifCond .eq 12, 3, (74, 0, 0), [], []),
  (65, .aload_n 0, 1, (0, 0, 0), [], []),
  (66, .getfield 25, 3, (3, 9, 2), [], [389]),
  (69, .iload_n 2, 1, (0, 0, 0), [], []),
  (70, .iaload, 1, (0, 0, 0), [], []),
  (71, .goto 4, 3, (75, 0, 0), [], []),
  (74, .iconst 0, 1, (0, 0, 0), [], []),
  (75, .ireturn, 1, (0, 0, 0), [], []),
  (76, .aload_n 0, 1, (0, 0, 0), [], []),
  (77, .getfield 40, 3, (3, 5, 2), [], [385]),
  (80, .iload_n 2, 1, (0, 0, 0), [], []),
  (81, .invokevirtual 201, 3, (0, 87, 4), [], [771, 109, 676, 677]),
  (84, .ifCond .eq 15, 3, (99, 0, 0), [], []),
  (87, .aload_n 0, 1, (0, 0, 0), [], []),
  (88, .getfield 28, 3, (3, 10, 2), [], [390]),
  (91, .iload_n 2, 1, (0, 0, 0), [], []),
  (92, .iaload, 1, (0, 0, 0), [], []),
  (93, .invokestatic 110, 3, (2, 12, 0), [], [745, 129, 746]),
  (96, .goto 4, 3, (100, 0, 0), [], []),
  (99, .iconst 0, 1, (0, 0, 0), [], []),
  (100, .ireturn, 1, (0, 0, 0), [], []),
  (101, .aload_n 0, 1, (0, 0, 0), [], []),
  (102, .getfield 40, 3, (3, 5, 2), [], [385]),
  (105, .iload_n 2, 1, (0, 0, 0), [], []),
  (106, .invokevirtual 204, 3, (0, 88, 4), [], [772, 109, 680, 681]),
  (109, .ifCond .eq 12, 3, (121, 0, 0), [], []),
  (112, .aload_n 0, 1, (0, 0, 0), [], []),
  (113, .getfield 15, 3, (3, 3, 2), [], [381]),
  (116, .iload_n 2, 1, (0, 0, 0), [], []),
  (117, .iaload, 1, (0, 0, 0), [], []),
  (118, .goto 4, 3, (122, 0, 0), [], []),
  (121, .iconst 0, 1, (0, 0, 0), [], []),
  (122, .ireturn, 1, (0, 0, 0), [], []),
  (123, .aload_n 0, 1, (0, 0, 0), [], []),
  (124, .getfield 40, 3, (3, 5, 2), [], [385]),
  (127, .iload_n 2, 1, (0, 0, 0), [], []),
  (128, .invokevirtual 204, 3, (0, 88, 4), [], [772, 109, 680, 681]),
  (131, .ifCond .eq 11, 3, (142, 0, 0), [], []),
  (134, .aload_n 0, 1, (0, 0, 0), [], []),
  (135, .iload_n 2, 1, (0, 0, 0), [], []),
  (136, .invokevirtual 103, 3, (0, 57, 3), [], [773, 117, 774, 775]),
  (139, .goto 4, 3, (143, 0, 0), [], []),
  (142, .iconst 0, 1, (0, 0, 0), [], []),
  (143, .ireturn, 1, (0, 0, 0), [], []),
  (144, .aload_n 0, 1, (0, 0, 0), [], []),
  (145, .getfield 40, 3, (3, 5, 2), [], [385]),
  (148, .iload_n 2, 1, (0, 0, 0), [], []),
  (149, .invokevirtual 201, 3, (0, 87, 4), [], [771, 109, 676, 677])]
def am_t81_1 : List am_E := [(152, .ifCond .eq 15, 3, (167, 0, 0), [], []),
  (155, .aload_n 0, 1, (0, 0, 0), [], []),
  (156, .iload_n 2, 1, (0, 0, 0), [], []),
  (157, .invokevirtual 77, 3, (0, 58, 3), [], [725, 117, 726, 727]),
  (160, .ifCond .ne 7, 3, (167, 0, 0), [], []),
  (163, .iconst 1, 1, (0, 0, 0), [], []),
  (164, .goto 4, 3, (168, 0, 0), [], []),
  (167, .iconst 0, 1, (0, 0, 0), [], []),
  (168, .ireturn, 1, (0, 0, 0), [], []),
  (169, .iload_n 2, 1, (0, 0, 0), [], []),
  (170, .ireturn, 1, (0, 0, 0), [], [])]
def am_t81 : List am_E := am_t81_0 ++ (am_t81_1)
/-- 82: X3_reckon -/
def am_t82 : List am_E := [(0, .iload_n 1, 1, (0, 0, 0), [], []),
  (1, .tableswitch 95 11 16 #[39, 65, 69, 73, 77, 89], 39, (96, 0, 0), [(11, 40), (12, 66), (13, 70), (14, 74), (15, 78), (16, 90)], []),
  (40, .aload_n 0, 1, (0, 0, 0), [], []),
  (41, .getfield 40, 3, (3, 5, 2), [], [385]),
  (44, .iload_n 3, 1, (0, 0, 0), [], []),
  (45, .invokevirtual 201, 3, (0, 87, 4), [], [771, 109, 676, 677]),
  (48, .ifCond .eq 16, 3, (64, 0, 0), [], []),
  (51, .aload_n 0, 1, (0, 0, 0), [], []),
  (52, .iload_n 2, 1, (0, 0, 0), [], []),
  (53, .iload_n 3, 1, (0, 0, 0), [], []),
  (54, .invokevirtual 106, 3, (0, 59, 3), [], [737, 117, 738, 739]),
  (57, .ifCond .eq 7, 3, (64, 0, 0), [], []),
  (60, .iconst 1, 1, (0, 0, 0), [], []),
  (61, .goto 4, 3, (65, 0, 0), [], []),
  (64, .iconst 0, 1, (0, 0, 0), [], []),
  (65, .ireturn, 1, (0, 0, 0), [], []),
  (66, .iload_n 2, 1, (0, 0, 0), [], []),
  (67, .iload_n 3, 1, (0, 0, 0), [], []),
  (68, .iadd, 1, (0, 0, 0), [], []),
  (69, .ireturn, 1, (0, 0, 0), [], []),
  (70, .iload_n 2, 1, (0, 0, 0), [], []),
  (71, .iload_n 3, 1, (0, 0, 0), [], []),
  (72, .isub, 1, (0, 0, 0), [], []),
  (73, .ireturn, 1, (0, 0, 0), [], []),
  (74, .iload_n 2, 1, (0, 0, 0), [], []),
  (75, .iload_n 3, 1, (0, 0, 0), [], []),
  (76, .imul, 1, (0, 0, 0), [], []),
  (77, .ireturn, 1, (0, 0, 0), [], []),
  (78, .iload_n 3, 1, (0, 0, 0), [], []),
  (79, .ifCond .ne 7, 3, (86, 0, 0), [], []),
  (82, .iconst 0, 1, (0, 0, 0), [], []),
  (83, .goto 6, 3, (89, 0, 0), [], []),
  (86, .iload_n 2, 1, (0, 0, 0), [], []),
  (87, .iload_n 3, 1, (0, 0, 0), [], []),
  (88, .idiv, 1, (0, 0, 0), [], []),
  (89, .ireturn, 1, (0, 0, 0), [], []),
  (90, .iload_n 2, 1, (0, 0, 0), [], []),
  (91, .iload_n 3, 1, (0, 0, 0), [], []),
  (92, .invokestatic 115, 3, (7, 0, 0), [], [716, 466, 126, 467]),
  (95, .ireturn, 1, (0, 0, 0), [], []),
  (96, .iload_n 2, 1, (0, 0, 0), [], []),
  (97, .iload_n 3, 1, (0, 0, 0), [], []),
  (98, .invokestatic 207, 3, (8, 0, 0), [], [781, 514, 126, 515]),
  (101, .ireturn, 1, (0, 0, 0), [], [])]
/-- 83: X3_compare -/
def am_t83_0 : List am_E := [(0, .iload_n 0, 1, (0, 0, 0), [], []),
  (1, .tableswitch 124 18 23 #[39, 53, 67, 81, 95, 109], 39, (125, 0, 0), [(18, 40), (19, 54), (20, 68), (21, 82), (22, 96), (23, 110)], []),
  (40, .iload_n 1, 1, (0, 0, 0), [], []),
  (41, .iload_n 2, 1, (0, 0, 0), [], []),
  (42, .if_icmp .ge 7, 3, (49, 0, 0), [], []),
  (45, .iconst 1, 1, (0, 0, 0), [], []),
  (46, .goto 4, 3, (50, 0, 0), [], []),
  (49, .iconst 0, 1, (0, 0, 0), [], []),
  (50, .istore_n 3, 1, (0, 0, 0), [], []),
  (51, .goto 86, 3, (137, 0, 0), [], []),
  (54, .iload_n 1, 1, (0, 0, 0), [], []),
  (55, .iload_n 2, 1, (0, 0, 0), [], []),
  (56, .if_icmp .le 7, 3, (63, 0, 0), [], []),
  (59, .iconst 1, 1, (0, 0, 0), [], []),
  (60, .goto 4, 3, (64, 0, 0), [], []),
  (63, .iconst 0, 1, (0, 0, 0), [], []),
  (64, .istore_n 3, 1, (0, 0, 0), [], []),
  (65, .goto 72, 3, (137, 0, 0), [], []),
  (68, .iload_n 1, 1, (0, 0, 0), [], []),
  (69, .iload_n 2, 1, (0, 0, 0), [], []),
  (70, .if_icmp .ne 7, 3, (77, 0, 0), [], []),
  (73, .iconst 1, 1, (0, 0, 0), [], []),
  (74, .goto 4, 3, (78, 0, 0), [], []),
  (77, .iconst 0, 1, (0, 0, 0), [], []),
  (78, .istore_n 3, 1, (0, 0, 0), [], []),
  (79, .goto 58, 3, (137, 0, 0), [], []),
  (82, .iload_n 1, 1, (0, 0, 0), [], []),
  (83, .iload_n 2, 1, (0, 0, 0), [], []),
  (84, .if_icmp .gt 7, 3, (91, 0, 0), [], []),
  (87, .iconst 1, 1, (0, 0, 0), [], []),
  (88, .goto 4, 3, (92, 0, 0), [], []),
  (91, .iconst 0, 1, (0, 0, 0), [], []),
  (92, .istore_n 3, 1, (0, 0, 0), [], []),
  (93, .goto 44, 3, (137, 0, 0), [], []),
  (96, .iload_n 1, 1, (0, 0, 0), [], []),
  (97, .iload_n 2, 1, (0, 0, 0), [], []),
  (98, .if_icmp .lt 7, 3, (105, 0, 0), [], []),
  (101, .iconst 1, 1, (0, 0, 0), [], []),
  (102, .goto 4, 3, (106, 0, 0), [], []),
  (105, .iconst 0, 1, (0, 0, 0), [], []),
  (106, .istore_n 3, 1, (0, 0, 0), [], []),
  (107, .goto 30, 3, (137, 0, 0), [], []),
  (110, .iload_n 1, 1, (0, 0, 0), [], []),
  (111, .iload_n 2, 1, (0, 0, 0), [], []),
  (112, .iand, 1, (0, 0, 0), [], []),
  (113, .ifCond .eq 7, 3, (120, 0, 0), [], []),
  (116, .iconst 1, 1, (0, 0, 0), [], []),
  (117, .goto 4, 3, (121, 0, 0), [], []),
  (120, .iconst 0, 1, (0, 0, 0), [], []),
  (121, .istore_n 3, 1, (0, 0, 0), [], []),
  (122, .goto 15, 3, (137, 0, 0), [], []),
  (125, .iload_n 1, 1, (0, 0, 0), [], []),
  (126, .iload_n 2, 1, (0, 0, 0), [], []),
  (127, .ior, 1, (0, 0, 0), [], []),
  (128, .ifCond .eq 7, 3, (135, 0, 0), [], []),
  (131, .iconst 1, 1, (0, 0, 0), [], []),
  (132, .goto 4, 3, (136, 0, 0), [], []),
  (135, .iconst 0, 1, (0, 0, 0), [], []),
  (136, .istore_n 3, 1, (0, 0, 0), [], []),
  (137, .iload_n 3, 1, (0, 0, 0), [], [])]
def am_t83_1 : List am_E := [(138, .ifCond .eq 7, 3, (145, 0, 0), [], []),
  (141, .iconst 1, 1, (0, 0, 0), [], []),
  (142, .goto 4, 3, (146, 0, 0), [], []),
  (145, .iconst 0, 1, (0, 0, 0), [], []),
  (146, .ireturn, 1, (0, 0, 0), [], [])]
def am_t83 : List am_E := am_t83_0 ++ (am_t83_1)
/-- 84: X4_init -/
def am_t84 : List am_E := [(0, .aload_n 0, 1, (0, 0, 0), [], []),
  (1, .invokespecial 3, 3, (6, 0, 0), [], [144, 137, 138]),
  (4, .aload_n 0, 1, (0, 0, 0), [], []),
  (5, .bipush 100, 2, (0, 0, 0), [], []),
  (7, .putfield 9, 3, (4, 4, 0), [], [160]),
  (10, .aload_n 0, 1, (0, 0, 0), [], []),
  (11, .iconst 4, 1, (0, 0, 0), [], []),
  (12, .newarray .int, 2, (20, 0, 0), [], [226]),
  (14, .putfield 15, 3, (4, 6, 2), [], [166]),
  (17, .aload_n 0, 1, (0, 0, 0), [], []),
  (18, .bipush 12, 2, (0, 0, 0), [], []),
  (20, .newarray .int, 2, (20, 0, 0), [], [226]),
  (22, .putfield 19, 3, (4, 7, 2), [], [169]),
  (25, .aload_n 0, 1, (0, 0, 0), [], []),
  (26, .bipush 12, 2, (0, 0, 0), [], []),
  (28, .newarray .int, 2, (20, 0, 0), [], [226]),
  (30, .putfield 22, 3, (4, 8, 2), [], [172]),
  (33, .aload_n 0, 1, (0, 0, 0), [], []),
  (34, .bipush 12, 2, (0, 0, 0), [], []),
  (36, .newarray .int, 2, (20, 0, 0), [], [226]),
  (38, .putfield 25, 3, (4, 9, 2), [], [175]),
  (41, .aload_n 0, 1, (0, 0, 0), [], []),
  (42, .bipush 12, 2, (0, 0, 0), [], []),
  (44, .newarray .int, 2, (20, 0, 0), [], [226]),
  (46, .putfield 28, 3, (4, 10, 2), [], [178]),
  (49, .aload_n 0, 1, (0, 0, 0), [], []),
  (50, .bipush 12, 2, (0, 0, 0), [], []),
  (52, .newarray .int, 2, (20, 0, 0), [], [226]),
  (54, .putfield 31, 3, (4, 11, 2), [], [181]),
  (57, .aload_n 0, 1, (0, 0, 0), [], []),
  (58, .bipush 12, 2, (0, 0, 0), [], []),
  (60, .newarray .int, 2, (20, 0, 0), [], [226]),
  (62, .putfield 34, 3, (4, 12, 2), [], [184]),
  (65, .aload_n 0, 1, (0, 0, 0), [], []),
  (66, .sipush 400, 3, (0, 0, 0), [], []),
  (69, .newarray .int, 2, (20, 0, 0), [], [226]),
  (71, .putfield 37, 3, (4, 13, 2), [], [187]),
  (74, .aload_n 0, 1, (0, 0, 0), [], []),
  (75, .sipush 400, 3, (0, 0, 0), [], []),
  (78, .newarray .int, 2, (20, 0, 0), [], [226]),
  (80, .putfield 40, 3, (4, 14, 2), [], [190]),
  (83, .return_, 1, (0, 0, 0), [], [])]
/-- 85: X4_clear -/
def am_t85 : List am_E := [(0, .aload_n 0, 1, (0, 0, 0), [], []),
  (1, .iconst 0, 1, (0, 0, 0), [], []),
  (2, .putfield 43, 3, (4, 0, 0), [], [145]),
  (5, .aload_n 0, 1, (0, 0, 0), [], []),
  (6, .iconst 0, 1, (0, 0, 0), [], []),
  (7, .putfield 46, 3, (4, 1, 0), [], [148]),
  (10, .aload_n 0, 1, (0, 0, 0), [], []),
  (11, .iconst 0, 1, (0, 0, 0), [], []),
  (12, .putfield 49, 3, (4, 2, 0), [], [152]),
  (15, .aload_n 0, 1, (0, 0, 0), [], []),
  (16, .iconst 0, 1, (0, 0, 0), [], []),
  (17, .putfield 52, 3, (4, 3, 0), [], [156]),
  (20, .aload_n 0, 1, (0, 0, 0), [], []),
  (21, .bipush 100, 2, (0, 0, 0), [], []),
  (23, .putfield 9, 3, (4, 4, 0), [], [160]),
  (26, .return_, 1, (0, 0, 0), [], [])]
/-- 86: X4_hasWard -/
def am_t86 : List am_E := [(0, .iload_n 1, 1, (0, 0, 0), [], []),
  (1, .ifCond .lt 15, 3, (16, 0, 0), [], []),
  (4, .iload_n 1, 1, (0, 0, 0), [], []),
  (5, .aload_n 0, 1, (0, 0, 0), [], []),
  (6, .getfield 43, 3, (4, 0, 0), [], [145]),
  (9, .if_icmp .ge 7, 3, (16, 0, 0), [], []),
  (12, .iconst 1, 1, (0, 0, 0), [], []),
  (13, .goto 4, 3, (17, 0, 0), [], []),
  (16, .iconst 0, 1, (0, 0, 0), [], []),
  (17, .ireturn, 1, (1, 0, 0), [], [])]
/-- 87: X4_hasProject -/
def am_t87 : List am_E := [(0, .iload_n 1, 1, (0, 0, 0), [], []),
  (1, .ifCond .lt 15, 3, (16, 0, 0), [], []),
  (4, .iload_n 1, 1, (0, 0, 0), [], []),
  (5, .aload_n 0, 1, (0, 0, 0), [], []),
  (6, .getfield 46, 3, (4, 1, 0), [], [148]),
  (9, .if_icmp .ge 7, 3, (16, 0, 0), [], []),
  (12, .iconst 1, 1, (0, 0, 0), [], []),
  (13, .goto 4, 3, (17, 0, 0), [], []),
  (16, .iconst 0, 1, (0, 0, 0), [], []),
  (17, .ireturn, 1, (1, 0, 0), [], [])]
/-- 88: X4_hasVoter -/
def am_t88 : List am_E := [(0, .iload_n 1, 1, (0, 0, 0), [], []),
  (1, .ifCond .lt 15, 3, (16, 0, 0), [], []),
  (4, .iload_n 1, 1, (0, 0, 0), [], []),
  (5, .aload_n 0, 1, (0, 0, 0), [], []),
  (6, .getfield 49, 3, (4, 2, 0), [], [152]),
  (9, .if_icmp .ge 7, 3, (16, 0, 0), [], []),
  (12, .iconst 1, 1, (0, 0, 0), [], []),
  (13, .goto 4, 3, (17, 0, 0), [], []),
  (16, .iconst 0, 1, (0, 0, 0), [], []),
  (17, .ireturn, 1, (1, 0, 0), [], [])]
/-- 89: X7_init -/
def am_t89 : List am_E := [(0, .aload_n 0, 1, (0, 0, 0), [], []),
  (1, .invokespecial 3, 3, (6, 0, 0), [], [232, 137, 138]),
  (4, .aload_n 0, 1, (0, 0, 0), [], []),
  (5, .sipush 401, 3, (0, 0, 0), [], []),
  (8, .newarray .int, 2, (20, 0, 0), [], [226]),
  (10, .putfield 9, 3, (5, 0, 2), [], [289]),
  (13, .aload_n 0, 1, (0, 0, 0), [], []),
  (14, .sipush 401, 3, (0, 0, 0), [], []),
  (17, .newarray .long, 2, (22, 0, 0), [], [313]),
  (19, .putfield 15, 3, (5, 1, 2), [], [291]),
  (22, .aload_n 0, 1, (0, 0, 0), [], []),
  (23, .sipush 401, 3, (0, 0, 0), [], []),
  (26, .newarray .int, 2, (20, 0, 0), [], [226]),
  (28, .putfield 19, 3, (5, 2, 2), [], [293]),
  (31, .aload_n 0, 1, (0, 0, 0), [], []),
  (32, .bipush 22, 2, (0, 0, 0), [], []),
  (34, .newarray .long, 2, (22, 0, 0), [], [313]),
  (36, .putfield 24, 3, (5, 3, 2), [], [294]),
  (39, .aload_n 0, 1, (0, 0, 0), [], []),
  (40, .aload_n 1, 1, (0, 0, 0), [], []),
  (41, .putfield 27, 3, (5, 4, 2), [], [295]),
  (44, .iconst 0, 1, (0, 0, 0), [], []),
  (45, .istore_n 2, 1, (0, 0, 0), [], []),
  (46, .iconst 0, 1, (0, 0, 0), [], []),
  (47, .istore_n 3, 1, (0, 0, 0), [], []),
  (48, .iload_n 3, 1, (0, 0, 0), [], []),
  (49, .ldc 31, 2, (0, 0, 0), [(0, 5)], [233]),
  (51, .invokevirtual 33, 3, (0, 6, 60), [], [234, 111, 235, 236]),
  (54, .if_icmp .ge 59, 3, (113, 0, 0), [], []),
  (57, .ldc 31, 2, (0, 0, 0), [(0, 5)], [233]),
  (59, .iload_n 3, 1, (0, 0, 0), [], []),
  (60, .invokevirtual 39, 3, (0, 0, 60), [], [244, 111, 245, 246]),
  (63, .istore 4, 2, (0, 0, 0), [], []),
  (65, .iload 4, 2, (0, 0, 0), [], []),
  (67, .bipush 32, 2, (0, 0, 0), [], []),
  (69, .if_icmp .ne 9, 3, (78, 0, 0), [], []),
  (72, .iinc 2 1, 3, (0, 0, 0), [], []),
  (75, .goto 32, 3, (107, 0, 0), [], []),
  (78, .iload_n 2, 1, (0, 0, 0), [], []),
  (79, .bipush 22, 2, (0, 0, 0), [], []),
  (81, .if_icmp .ge 26, 3, (107, 0, 0), [], []),
  (84, .aload_n 0, 1, (0, 0, 0), [], []),
  (85, .getfield 24, 3, (5, 3, 2), [], [294]),
  (88, .iload_n 2, 1, (0, 0, 0), [], []),
  (89, .aload_n 0, 1, (0, 0, 0), [], []),
  (90, .getfield 24, 3, (5, 3, 2), [], [294]),
  (93, .iload_n 2, 1, (0, 0, 0), [], []),
  (94, .laload, 1, (0, 0, 0), [], []),
  (95, .ldc2_w 43, 3, (0, 0, 0), [(37, 1)], [282]),
  (98, .lmul, 1, (0, 0, 0), [], []),
  (99, .iload 4, 2, (0, 0, 0), [], []),
  (101, .invokestatic 45, 3, (2, 100, 0), [], [283, 110, 284]),
  (104, .i2l, 1, (0, 0, 0), [], []),
  (105, .ladd, 1, (0, 0, 0), [], []),
  (106, .lastore, 1, (0, 0, 0), [], []),
  (107, .iinc 3 1, 3, (0, 0, 0), [], []),
  (110, .goto (-62), 3, (48, 0, 0), [], []),
  (113, .return_, 1, (0, 0, 0), [], [])]
/-- 90: X7_cut -/
def am_t90_0 : List am_E := [(0, .aload_n 0, 1, (0, 0, 0), [], []),
  (1, .iload_n 1, 1, (0, 0, 0), [], []),
  (2, .aload_n 0, 1, (0, 0, 0), [], []),
  (3, .getfield 27, 3, (5, 4, 2), [], [295]),
  (6, .arraylength, 1, (0, 0, 0), [], []),
  (7, .invokestatic 49, 3, (7, 0, 0), [], [465, 466, 126, 467]),
  (10, .putfield 55, 3, (5, 5, 0), [], [296]),
  (13, .aload_n 0, 1, (0, 0, 0), [], []),
  (14, .iconst 0, 1, (0, 0, 0), [], []),
  (15, .putfield 58, 3, (5, 6, 0), [], [297]),
  (18, .iconst 0, 1, (0, 0, 0), [], []),
  (19, .istore_n 2, 1, (0, 0, 0), [], []),
  (20, .iload_n 2, 1, (0, 0, 0), [], []),
  (21, .sipush 400, 3, (0, 0, 0), [], []),
  (24, .if_icmp .gt 102, 3, (126, 0, 0), [], []),
  (27, .aload_n 0, 1, (0, 0, 0), [], []),
  (28, .invokevirtual 61, 3, (0, 92, 5), [], [468, 110, 470, 0]),
  (31, .aload_n 0, 1, (0, 0, 0), [], []),
  (32, .getfield 19, 3, (5, 2, 2), [], [293]),
  (35, .iload_n 2, 1, (0, 0, 0), [], []),
  (36, .aload_n 0, 1, (0, 0, 0), [], []),
  (37, .getfield 58, 3, (5, 6, 0), [], [297]),
  (40, .iastore, 1, (0, 0, 0), [], []),
  (41, .aload_n 0, 1, (0, 0, 0), [], []),
  (42, .getfield 15, 3, (5, 1, 2), [], [291]),
  (45, .iload_n 2, 1, (0, 0, 0), [], []),
  (46, .lconst 0, 1, (0, 0, 0), [], []),
  (47, .lastore, 1, (0, 0, 0), [], []),
  (48, .aload_n 0, 1, (0, 0, 0), [], []),
  (49, .getfield 58, 3, (5, 6, 0), [], [297]),
  (52, .aload_n 0, 1, (0, 0, 0), [], []),
  (53, .getfield 55, 3, (5, 5, 0), [], [296]),
  (56, .if_icmp .lt 15, 3, (71, 0, 0), [], []),
  (59, .aload_n 0, 1, (0, 0, 0), [], []),
  (60, .getfield 9, 3, (5, 0, 2), [], [289]),
  (63, .iload_n 2, 1, (0, 0, 0), [], []),
  (64, .sipush 260, 3, (0, 0, 0), [], []),
  (67, .iastore, 1, (0, 0, 0), [], []),
  (68, .goto 27, 3, (95, 0, 0), [], []),
  (71, .aload_n 0, 1, (0, 0, 0), [], []),
  (72, .getfield 9, 3, (5, 0, 2), [], [289]),
  (75, .iload_n 2, 1, (0, 0, 0), [], []),
  (76, .iload_n 2, 1, (0, 0, 0), [], []),
  (77, .sipush 400, 3, (0, 0, 0), [], []),
  (80, .if_icmp .ne 9, 3, (89, 0, 0), [], []),
  (83, .sipush 261, 3, (0, 0, 0), [], []),
  (86, .goto 8, 3, (94, 0, 0), [], []),
  (89, .aload_n 0, 1, (0, 0, 0), [], []),
  (90, .iload_n 2, 1, (0, 0, 0), [], []),
  (91, .invokevirtual 64, 3, (0, 93, 5), [], [476, 110, 478, 2]),
  (94, .iastore, 1, (0, 0, 0), [], []),
  (95, .aload_n 0, 1, (0, 0, 0), [], []),
  (96, .getfield 9, 3, (5, 0, 2), [], [289]),
  (99, .iload_n 2, 1, (0, 0, 0), [], []),
  (100, .iaload, 1, (0, 0, 0), [], []),
  (101, .sipush 260, 3, (0, 0, 0), [], []),
  (104, .if_icmp .eq 15, 3, (119, 0, 0), [], []),
  (107, .aload_n 0, 1, (0, 0, 0), [], []),
  (108, .getfield 9, 3, (5, 0, 2), [], [289]),
  (111, .iload_n 2, 1, (0, 0, 0), [], [])]
def am_t90_1 : List am_E := [(112, .iaload, 1, (0, 0, 0), [], []),
  (113, .sipush 261, 3, (0, 0, 0), [], []),
  (116, .if_icmp .ne 4, 3, (120, 0, 0), [], []),
  (119, .return_, 1, (0, 0, 0), [], []),
  (120, .iinc 2 1, 3, (0, 0, 0), [], []),
  (123, .goto (-103), 3, (20, 0, 0), [], []),
  (126, .return_, 1, (0, 0, 0), [], [])]
def am_t90 : List am_E := am_t90_0 ++ (am_t90_1)
/-- 91: X7_startOf -/
def am_t91 : List am_E := [(0, .iload_n 1, 1, (0, 0, 0), [], []),
  (1, .ifCond .lt 21, 3, (22, 0, 0), [], []),
  (4, .iload_n 1, 1, (0, 0, 0), [], []),
  (5, .aload_n 0, 1, (0, 0, 0), [], []),
  (6, .getfield 19, 3, (5, 2, 2), [], [293]),
  (9, .arraylength, 1, (0, 0, 0), [], []),
  (10, .if_icmp .ge 12, 3, (22, 0, 0), [], []),
  (13, .aload_n 0, 1, (0, 0, 0), [], []),
  (14, .getfield 19, 3, (5, 2, 2), [], [293]),
  (17, .iload_n 1, 1, (0, 0, 0), [], []),
  (18, .iaload, 1, (0, 0, 0), [], []),
  (19, .goto 4, 3, (23, 0, 0), [], []),
  (22, .iconst (-1), 1, (0, 0, 0), [], []),
  (23, .ireturn, 1, (0, 0, 0), [], [])]
/-- 92: X7_skipBlanks -/
def am_t92 : List am_E := [(0, .aload_n 0, 1, (0, 0, 0), [], []),
  (1, .getfield 58, 3, (5, 6, 0), [], [297]),
  (4, .aload_n 0, 1, (0, 0, 0), [], []),
  (5, .getfield 55, 3, (5, 5, 0), [], [296]),
  (8, .if_icmp .ge 43, 3, (51, 0, 0), [], []),
  (11, .aload_n 0, 1, (0, 0, 0), [], []),
  (12, .aload_n 0, 1, (0, 0, 0), [], []),
  (13, .getfield 58, 3, (5, 6, 0), [], [297]),
  (16, .invokevirtual 68, 3, (0, 97, 5), [], [472, 110, 474, 1]),
  (19, .bipush 32, 2, (0, 0, 0), [], []),
  (21, .if_icmp .eq 17, 3, (38, 0, 0), [], []),
  (24, .aload_n 0, 1, (0, 0, 0), [], []),
  (25, .aload_n 0, 1, (0, 0, 0), [], []),
  (26, .getfield 58, 3, (5, 6, 0), [], [297]),
  (29, .invokevirtual 68, 3, (0, 97, 5), [], [472, 110, 474, 1]),
  (32, .bipush 10, 2, (0, 0, 0), [], []),
  (34, .if_icmp .eq 4, 3, (38, 0, 0), [], []),
  (37, .return_, 1, (0, 0, 0), [], []),
  (38, .aload_n 0, 1, (0, 0, 0), [], []),
  (39, .dup, 1, (0, 0, 0), [], []),
  (40, .getfield 58, 3, (5, 6, 0), [], [297]),
  (43, .iconst 1, 1, (0, 0, 0), [], []),
  (44, .iadd, 1, (0, 0, 0), [], []),
  (45, .putfield 58, 3, (5, 6, 0), [], [297]),
  (48, .goto (-48), 3, (0, 0, 0), [], []),
  (51, .return_, 1, (0, 0, 0), [], [])]
/-- 93: X7_cutOne -/
def am_t93 : List am_E := [(0, .aload_n 0, 1, (0, 0, 0), [], []),
  (1, .aload_n 0, 1, (0, 0, 0), [], []),
  (2, .getfield 58, 3, (5, 6, 0), [], [297]),
  (5, .invokevirtual 68, 3, (0, 97, 5), [], [472, 110, 474, 1]),
  (8, .invokestatic 71, 3, (2, 98, 0), [], [286, 110, 287]),
  (11, .ifCond .eq 9, 3, (20, 0, 0), [], []),
  (14, .aload_n 0, 1, (0, 0, 0), [], []),
  (15, .iload_n 1, 1, (0, 0, 0), [], []),
  (16, .invokevirtual 75, 3, (0, 94, 5), [], [480, 110, 482, 3]),
  (19, .ireturn, 1, (0, 0, 0), [], []),
  (20, .aload_n 0, 1, (0, 0, 0), [], []),
  (21, .aload_n 0, 1, (0, 0, 0), [], []),
  (22, .getfield 58, 3, (5, 6, 0), [], [297]),
  (25, .invokevirtual 68, 3, (0, 97, 5), [], [472, 110, 474, 1]),
  (28, .invokestatic 78, 3, (2, 99, 0), [], [484, 110, 485]),
  (31, .ifCond .eq 11, 3, (42, 0, 0), [], []),
  (34, .aload_n 0, 1, (0, 0, 0), [], []),
  (35, .iload_n 1, 1, (0, 0, 0), [], []),
  (36, .invokevirtual 81, 3, (0, 95, 5), [], [487, 110, 489, 4]),
  (39, .goto 7, 3, (46, 0, 0), [], []),
  (42, .aload_n 0, 1, (0, 0, 0), [], []),
  (43, .invokevirtual 84, 3, (0, 96, 5), [], [493, 110, 495, 5]),
  (46, .ireturn, 1, (0, 0, 0), [], [])]
/-- 94: X7_cutWord -/
def am_t94_0 : List am_E := [(0, .lconst 0, 1, (0, 0, 0), [], []),
  (1, .lstore_n 2, 1, (0, 0, 0), [], []),
  (2, .aload_n 0, 1, (0, 0, 0), [], []),
  (3, .getfield 58, 3, (5, 6, 0), [], [297]),
  (6, .istore 4, 2, (0, 0, 0), [], []),
  (8, .aload_n 0, 1, (0, 0, 0), [], []),
  (9, .getfield 58, 3, (5, 6, 0), [], [297]),
  (12, .aload_n 0, 1, (0, 0, 0), [], []),
  (13, .getfield 55, 3, (5, 5, 0), [], [296]),
  (16, .if_icmp .ge 64, 3, (80, 0, 0), [], []),
  (19, .aload_n 0, 1, (0, 0, 0), [], []),
  (20, .aload_n 0, 1, (0, 0, 0), [], []),
  (21, .getfield 58, 3, (5, 6, 0), [], [297]),
  (24, .invokevirtual 68, 3, (0, 97, 5), [], [472, 110, 474, 1]),
  (27, .invokestatic 71, 3, (2, 98, 0), [], [286, 110, 287]),
  (30, .ifCond .ne 17, 3, (47, 0, 0), [], []),
  (33, .aload_n 0, 1, (0, 0, 0), [], []),
  (34, .aload_n 0, 1, (0, 0, 0), [], []),
  (35, .getfield 58, 3, (5, 6, 0), [], [297]),
  (38, .invokevirtual 68, 3, (0, 97, 5), [], [472, 110, 474, 1]),
  (41, .invokestatic 78, 3, (2, 99, 0), [], [484, 110, 485]),
  (44, .ifCond .eq 36, 3, (80, 0, 0), [], []),
  (47, .lload_n 2, 1, (0, 0, 0), [], []),
  (48, .ldc2_w 43, 3, (0, 0, 0), [(37, 1)], [282]),
  (51, .lmul, 1, (0, 0, 0), [], []),
  (52, .aload_n 0, 1, (0, 0, 0), [], []),
  (53, .aload_n 0, 1, (0, 0, 0), [], []),
  (54, .getfield 58, 3, (5, 6, 0), [], [297]),
  (57, .invokevirtual 68, 3, (0, 97, 5), [], [472, 110, 474, 1]),
  (60, .i2c, 1, (0, 0, 0), [], []),
  (61, .invokestatic 45, 3, (2, 100, 0), [], [283, 110, 284]),
  (64, .i2l, 1, (0, 0, 0), [], []),
  (65, .ladd, 1, (0, 0, 0), [], []),
  (66, .lstore_n 2, 1, (0, 0, 0), [], []),
  (67, .aload_n 0, 1, (0, 0, 0), [], []),
  (68, .dup, 1, (0, 0, 0), [], []),
  (69, .getfield 58, 3, (5, 6, 0), [], [297]),
  (72, .iconst 1, 1, (0, 0, 0), [], []),
  (73, .iadd, 1, (0, 0, 0), [], []),
  (74, .putfield 58, 3, (5, 6, 0), [], [297]),
  (77, .goto (-69), 3, (8, 0, 0), [], []),
  (80, .aload_n 0, 1, (0, 0, 0), [], []),
  (81, .getfield 58, 3, (5, 6, 0), [], [297]),
  (84, .iload 4, 2, (0, 0, 0), [], []),
  (86, .isub, 1, (0, 0, 0), [], []),
  (87, .bipush 10, 2, (0, 0, 0), [], []),
  (89, .if_icmp .le 7, 3, (96, 0, 0), [], []),
  (92, .sipush 261, 3, (0, 0, 0), [], []),
  (95, .ireturn, 1, (0, 0, 0), [], []),
  (96, .aload_n 0, 1, (0, 0, 0), [], []),
  (97, .getfield 15, 3, (5, 1, 2), [], [291]),
  (100, .iload_n 1, 1, (0, 0, 0), [], []),
  (101, .lload_n 2, 1, (0, 0, 0), [], []),
  (102, .lastore, 1, (0, 0, 0), [], []),
  (103, .iconst 0, 1, (0, 0, 0), [], []),
  (104, .istore 5, 2, (0, 0, 0), [], []),
  (106, .iload 5, 2, (0, 0, 0), [], []),
  (108, .bipush 22, 2, (0, 0, 0), [], []),
  (110, .if_icmp .ge 28, 3, (138, 0, 0), [], []),
  (113, .aload_n 0, 1, (0, 0, 0), [], [])]
def am_t94_1 : List am_E := [(114, .getfield 24, 3, (5, 3, 2), [], [294]),
  (117, .iload 5, 2, (0, 0, 0), [], []),
  (119, .laload, 1, (0, 0, 0), [], []),
  (120, .lload_n 2, 1, (0, 0, 0), [], []),
  (121, .lcmp, 1, (0, 0, 0), [], []),
  (122, .ifCond .ne 10, 3, (132, 0, 0), [], []),
  (125, .sipush 300, 3, (0, 0, 0), [], []),
  (128, .iload 5, 2, (0, 0, 0), [], []),
  (130, .iadd, 1, (0, 0, 0), [], []),
  (131, .ireturn, 1, (0, 0, 0), [], []),
  (132, .iinc 5 1, 3, (0, 0, 0), [], []),
  (135, .goto (-29), 3, (106, 0, 0), [], []),
  (138, .sipush 256, 3, (0, 0, 0), [], []),
  (141, .ireturn, 1, (0, 0, 0), [], [])]
def am_t94 : List am_E := am_t94_0 ++ (am_t94_1)
/-- 95: X7_cutNumber -/
def am_t95 : List am_E := [(0, .lconst 0, 1, (0, 0, 0), [], []),
  (1, .lstore_n 2, 1, (0, 0, 0), [], []),
  (2, .aload_n 0, 1, (0, 0, 0), [], []),
  (3, .getfield 58, 3, (5, 6, 0), [], [297]),
  (6, .istore 4, 2, (0, 0, 0), [], []),
  (8, .aload_n 0, 1, (0, 0, 0), [], []),
  (9, .getfield 58, 3, (5, 6, 0), [], [297]),
  (12, .aload_n 0, 1, (0, 0, 0), [], []),
  (13, .getfield 55, 3, (5, 5, 0), [], [296]),
  (16, .if_icmp .ge 50, 3, (66, 0, 0), [], []),
  (19, .aload_n 0, 1, (0, 0, 0), [], []),
  (20, .aload_n 0, 1, (0, 0, 0), [], []),
  (21, .getfield 58, 3, (5, 6, 0), [], [297]),
  (24, .invokevirtual 68, 3, (0, 97, 5), [], [472, 110, 474, 1]),
  (27, .invokestatic 78, 3, (2, 99, 0), [], [484, 110, 485]),
  (30, .ifCond .eq 36, 3, (66, 0, 0), [], []),
  (33, .lload_n 2, 1, (0, 0, 0), [], []),
  (34, .ldc2_w 87, 3, (0, 0, 0), [(10, 1)], [491]),
  (37, .lmul, 1, (0, 0, 0), [], []),
  (38, .aload_n 0, 1, (0, 0, 0), [], []),
  (39, .aload_n 0, 1, (0, 0, 0), [], []),
  (40, .getfield 58, 3, (5, 6, 0), [], [297]),
  (43, .invokevirtual 68, 3, (0, 97, 5), [], [472, 110, 474, 1]),
  (46, .i2l, 1, (0, 0, 0), [], []),
  (47, .ladd, 1, (0, 0, 0), [], []),
  (48, .ldc2_w 89, 3, (0, 0, 0), [(48, 1)], [492]),
  (51, .lsub, 1, (0, 0, 0), [], []),
  (52, .lstore_n 2, 1, (0, 0, 0), [], []),
  (53, .aload_n 0, 1, (0, 0, 0), [], []),
  (54, .dup, 1, (0, 0, 0), [], []),
  (55, .getfield 58, 3, (5, 6, 0), [], [297]),
  (58, .iconst 1, 1, (0, 0, 0), [], []),
  (59, .iadd, 1, (0, 0, 0), [], []),
  (60, .putfield 58, 3, (5, 6, 0), [], [297]),
  (63, .goto (-55), 3, (8, 0, 0), [], []),
  (66, .aload_n 0, 1, (0, 0, 0), [], []),
  (67, .getfield 15, 3, (5, 1, 2), [], [291]),
  (70, .iload_n 1, 1, (0, 0, 0), [], []),
  (71, .lload_n 2, 1, (0, 0, 0), [], []),
  (72, .lastore, 1, (0, 0, 0), [], []),
  (73, .aload_n 0, 1, (0, 0, 0), [], []),
  (74, .getfield 58, 3, (5, 6, 0), [], [297]),
  (77, .iload 4, 2, (0, 0, 0), [], []),
  (79, .isub, 1, (0, 0, 0), [], []),
  (80, .bipush 6, 2, (0, 0, 0), [], []),
  (82, .if_icmp .le 9, 3, (91, 0, 0), [], []),
  (85, .sipush 261, 3, (0, 0, 0), [], []),
  (88, .goto 6, 3, (94, 0, 0), [], []),
  (91, .sipush 257, 3, (0, 0, 0), [], []),
  (94, .ireturn, 1, (0, 0, 0), [], [])]
/-- 96: X7_cutSymbol -/
def am_t96 : List am_E := [(0, .aload_n 0, 1, (0, 0, 0), [], []),
  (1, .aload_n 0, 1, (0, 0, 0), [], []),
  (2, .getfield 58, 3, (5, 6, 0), [], [297]),
  (5, .invokevirtual 68, 3, (0, 97, 5), [], [472, 110, 474, 1]),
  (8, .istore_n 1, 1, (0, 0, 0), [], []),
  (9, .ldc 91, 2, (0, 0, 0), [(1, 5)], [497]),
  (11, .iload_n 1, 1, (0, 0, 0), [], []),
  (12, .i2c, 1, (0, 0, 0), [], []),
  (13, .invokevirtual 93, 3, (0, 3, 60), [], [498, 111, 499, 500]),
  (16, .ifCond .ge 7, 3, (23, 0, 0), [], []),
  (19, .sipush 261, 3, (0, 0, 0), [], []),
  (22, .ireturn, 1, (0, 0, 0), [], []),
  (23, .aload_n 0, 1, (0, 0, 0), [], []),
  (24, .dup, 1, (0, 0, 0), [], []),
  (25, .getfield 58, 3, (5, 6, 0), [], [297]),
  (28, .iconst 1, 1, (0, 0, 0), [], []),
  (29, .iadd, 1, (0, 0, 0), [], []),
  (30, .putfield 58, 3, (5, 6, 0), [], [297]),
  (33, .iload_n 1, 1, (0, 0, 0), [], []),
  (34, .bipush 60, 2, (0, 0, 0), [], []),
  (36, .if_icmp .eq 9, 3, (45, 0, 0), [], []),
  (39, .iload_n 1, 1, (0, 0, 0), [], []),
  (40, .bipush 62, 2, (0, 0, 0), [], []),
  (42, .if_icmp .ne 42, 3, (84, 0, 0), [], []),
  (45, .aload_n 0, 1, (0, 0, 0), [], []),
  (46, .aload_n 0, 1, (0, 0, 0), [], []),
  (47, .getfield 58, 3, (5, 6, 0), [], [297]),
  (50, .invokevirtual 68, 3, (0, 97, 5), [], [472, 110, 474, 1]),
  (53, .bipush 61, 2, (0, 0, 0), [], []),
  (55, .if_icmp .ne 29, 3, (84, 0, 0), [], []),
  (58, .aload_n 0, 1, (0, 0, 0), [], []),
  (59, .dup, 1, (0, 0, 0), [], []),
  (60, .getfield 58, 3, (5, 6, 0), [], [297]),
  (63, .iconst 1, 1, (0, 0, 0), [], []),
  (64, .iadd, 1, (0, 0, 0), [], []),
  (65, .putfield 58, 3, (5, 6, 0), [], [297]),
  (68, .iload_n 1, 1, (0, 0, 0), [], []),
  (69, .bipush 60, 2, (0, 0, 0), [], []),
  (71, .if_icmp .ne 9, 3, (80, 0, 0), [], []),
  (74, .sipush 258, 3, (0, 0, 0), [], []),
  (77, .goto 6, 3, (83, 0, 0), [], []),
  (80, .sipush 259, 3, (0, 0, 0), [], []),
  (83, .ireturn, 1, (0, 0, 0), [], []),
  (84, .iload_n 1, 1, (0, 0, 0), [], []),
  (85, .ireturn, 1, (0, 0, 0), [], [])]
/-- 97: X7_signAt -/
def am_t97 : List am_E := [(0, .iload_n 1, 1, (0, 0, 0), [], []),
  (1, .ifCond .lt 24, 3, (25, 0, 0), [], []),
  (4, .iload_n 1, 1, (0, 0, 0), [], []),
  (5, .aload_n 0, 1, (0, 0, 0), [], []),
  (6, .getfield 55, 3, (5, 5, 0), [], [296]),
  (9, .if_icmp .ge 16, 3, (25, 0, 0), [], []),
  (12, .aload_n 0, 1, (0, 0, 0), [], []),
  (13, .getfield 27, 3, (5, 4, 2), [], [295]),
  (16, .iload_n 1, 1, (0, 0, 0), [], []),
  (17, .baload, 1, (0, 0, 0), [], []),
  (18, .sipush 255, 3, (0, 0, 0), [], []),
  (21, .iand, 1, (0, 0, 0), [], []),
  (22, .goto 4, 3, (26, 0, 0), [], []),
  (25, .iconst 0, 1, (0, 0, 0), [], []),
  (26, .ireturn, 1, (0, 0, 0), [], [])]
/-- 98: X7_isLetter -/
def am_t98 : List am_E := [(0, .iload_n 0, 1, (0, 0, 0), [], []),
  (1, .bipush 97, 2, (0, 0, 0), [], []),
  (3, .if_icmp .lt 13, 3, (16, 0, 0), [], []),
  (6, .iload_n 0, 1, (0, 0, 0), [], []),
  (7, .bipush 122, 2, (0, 0, 0), [], []),
  (9, .if_icmp .gt 7, 3, (16, 0, 0), [], []),
  (12, .iconst 1, 1, (0, 0, 0), [], []),
  (13, .goto 4, 3, (17, 0, 0), [], []),
  (16, .iconst 0, 1, (0, 0, 0), [], []),
  (17, .ireturn, 1, (1, 0, 0), [], [])]
/-- 99: X7_isDigit -/
def am_t99 : List am_E := [(0, .iload_n 0, 1, (0, 0, 0), [], []),
  (1, .bipush 48, 2, (0, 0, 0), [], []),
  (3, .if_icmp .lt 13, 3, (16, 0, 0), [], []),
  (6, .iload_n 0, 1, (0, 0, 0), [], []),
  (7, .bipush 57, 2, (0, 0, 0), [], []),
  (9, .if_icmp .gt 7, 3, (16, 0, 0), [], []),
  (12, .iconst 1, 1, (0, 0, 0), [], []),
  (13, .goto 4, 3, (17, 0, 0), [], []),
  (16, .iconst 0, 1, (0, 0, 0), [], []),
  (17, .ireturn, 1, (1, 0, 0), [], [])]
/-- 100: X7_digitOf -/
def am_t100 : List am_E := [(0, .iload_n 0, 1, (0, 0, 0), [], []),
  (1, .invokestatic 71, 3, (2, 98, 0), [], [286, 110, 287]),
  (4, .ifCond .eq 12, 3, (16, 0, 0), [], []),
  (7, .iload_n 0, 1, (0, 0, 0), [], []),
  (8, .bipush 97, 2, (0, 0, 0), [], []),
  (10, .isub, 1, (0, 0, 0), [], []),
  (11, .iconst 1, 1, (0, 0, 0), [], []),
  (12, .iadd, 1, (0, 0, 0), [], []),
  (13, .goto 10, 3, (23, 0, 0), [], []),
  (16, .iload_n 0, 1, (0, 0, 0), [], []),
  (17, .bipush 48, 2, (0, 0, 0), [], []),
  (19, .isub, 1, (0, 0, 0), [], []),
  (20, .bipush 27, 2, (0, 0, 0), [], []),
  (22, .iadd, 1, (0, 0, 0), [], []),
  (23, .ireturn, 1, (0, 0, 0), [], [])]
/-- 101: X8_init -/
def am_t101 : List am_E := [(0, .aload_n 0, 1, (0, 0, 0), [], []),
  (1, .invokespecial 1, 3, (6, 0, 0), [], [136, 137, 138]),
  (4, .aload_n 0, 1, (0, 0, 0), [], []),
  (5, .sipush 2000, 3, (0, 0, 0), [], []),
  (8, .newarray .byte, 2, (21, 0, 0), [], [225]),
  (10, .putfield 9, 3, (6, 0, 2), [], [426]),
  (13, .aload_n 0, 1, (0, 0, 0), [], []),
  (14, .iconst (-1), 1, (0, 0, 0), [], []),
  (15, .putfield 13, 3, (6, 2, 0), [], [428]),
  (18, .aload_n 0, 1, (0, 0, 0), [], []),
  (19, .new 17, 3, (4, 15, 0), [], [139, 140, 109]),
  (22, .dup, 1, (0, 0, 0), [], []),
  (23, .invokespecial 19, 3, (5, 84, 61), [], [141, 109, 142]),
  (26, .putfield 20, 3, (6, 3, 2), [], [429]),
  (29, .aload_n 0, 1, (0, 0, 0), [], []),
  (30, .new 17, 3, (4, 15, 0), [], [139, 140, 109]),
  (33, .dup, 1, (0, 0, 0), [], []),
  (34, .invokespecial 19, 3, (5, 84, 61), [], [141, 109, 142]),
  (37, .putfield 24, 3, (6, 4, 2), [], [430]),
  (40, .aload_n 0, 1, (0, 0, 0), [], []),
  (41, .new 27, 3, (5, 7, 0), [], [227, 228, 110]),
  (44, .dup, 1, (0, 0, 0), [], []),
  (45, .aload_n 0, 1, (0, 0, 0), [], []),
  (46, .getfield 9, 3, (6, 0, 2), [], [426]),
  (49, .invokespecial 29, 3, (4, 89, 61), [], [229, 110, 230]),
  (52, .putfield 32, 3, (6, 5, 2), [], [431]),
  (55, .aload_n 0, 1, (0, 0, 0), [], []),
  (56, .new 36, 3, (2, 5, 0), [], [314, 315, 115]),
  (59, .dup, 1, (0, 0, 0), [], []),
  (60, .aload_n 0, 1, (0, 0, 0), [], []),
  (61, .getfield 32, 3, (6, 5, 2), [], [431]),
  (64, .aload_n 0, 1, (0, 0, 0), [], []),
  (65, .getfield 24, 3, (6, 4, 2), [], [430]),
  (68, .invokespecial 38, 3, (4, 27, 61), [], [316, 115, 317]),
  (71, .putfield 41, 3, (6, 6, 2), [], [432]),
  (74, .aload_n 0, 1, (0, 0, 0), [], []),
  (75, .new 45, 3, (1, 7, 0), [], [340, 341, 116]),
  (78, .dup, 1, (0, 0, 0), [], []),
  (79, .aload_n 0, 1, (0, 0, 0), [], []),
  (80, .getfield 32, 3, (6, 5, 2), [], [431]),
  (83, .aload_n 0, 1, (0, 0, 0), [], []),
  (84, .getfield 41, 3, (6, 6, 2), [], [432]),
  (87, .invokespecial 47, 3, (4, 13, 61), [], [342, 116, 343]),
  (90, .putfield 50, 3, (6, 7, 2), [], [433]),
  (93, .aload_n 0, 1, (0, 0, 0), [], []),
  (94, .new 54, 3, (3, 15, 0), [], [369, 370, 117]),
  (97, .dup, 1, (0, 0, 0), [], []),
  (98, .aload_n 0, 1, (0, 0, 0), [], []),
  (99, .getfield 20, 3, (6, 3, 2), [], [429]),
  (102, .invokespecial 56, 3, (4, 46, 61), [], [371, 117, 372]),
  (105, .putfield 59, 3, (6, 8, 2), [], [434]),
  (108, .aload_n 0, 1, (0, 0, 0), [], []),
  (109, .new 54, 3, (3, 15, 0), [], [369, 370, 117]),
  (112, .dup, 1, (0, 0, 0), [], []),
  (113, .aload_n 0, 1, (0, 0, 0), [], []),
  (114, .getfield 20, 3, (6, 3, 2), [], [429]),
  (117, .invokespecial 56, 3, (4, 46, 61), [], [371, 117, 372]),
  (120, .putfield 63, 3, (6, 9, 2), [], [435]),
  (123, .return_, 1, (0, 0, 0), [], [])]
/-- 102: X8_feed -/
def am_t102 : List am_E := [(0, .aload_n 0, 1, (0, 0, 0), [], []),
  (1, .getfield 66, 3, (6, 1, 0), [], [427]),
  (4, .sipush 1980, 3, (0, 0, 0), [], []),
  (7, .if_icmp .le 13, 3, (20, 0, 0), [], []),
  (10, .new 69, 3, (71, 73, 1), [], [842, 124, 883]),
  (13, .dup, 1, (0, 0, 0), [], []),
  (14, .ldc 71, 2, (99, 0, 0), [], []),
  (16, .invokespecial 73, 3, (99, 0, 0), [], []),
  (19, .athrow, 1, (0, 0, 0), [], []),
  (20, .aload_n 0, 1, (0, 0, 0), [], []),
  (21, .iload_n 1, 1, (0, 0, 0), [], []),
  (22, .invokevirtual 76, 3, (0, 103, 6), [], [909, 108, 911, 44]),
  (25, .aload_n 0, 1, (0, 0, 0), [], []),
  (26, .iload_n 2, 1, (0, 0, 0), [], []),
  (27, .invokevirtual 76, 3, (0, 103, 6), [], [909, 108, 911, 44]),
  (30, .aload_n 0, 1, (0, 0, 0), [], []),
  (31, .iload_n 3, 1, (0, 0, 0), [], []),
  (32, .invokevirtual 76, 3, (0, 103, 6), [], [909, 108, 911, 44]),
  (35, .aload_n 0, 1, (0, 0, 0), [], []),
  (36, .iload 4, 2, (0, 0, 0), [], []),
  (38, .invokevirtual 76, 3, (0, 103, 6), [], [909, 108, 911, 44]),
  (41, .aload_n 0, 1, (0, 0, 0), [], []),
  (42, .iload 5, 2, (0, 0, 0), [], []),
  (44, .invokevirtual 76, 3, (0, 103, 6), [], [909, 108, 911, 44]),
  (47, .aload_n 0, 1, (0, 0, 0), [], []),
  (48, .getfield 66, 3, (6, 1, 0), [], [427]),
  (51, .ireturn, 1, (0, 0, 0), [], [])]
/-- 103: X8_append -/
def am_t103 : List am_E := [(0, .bipush 24, 2, (0, 0, 0), [], []),
  (2, .istore_n 2, 1, (0, 0, 0), [], []),
  (3, .iload_n 2, 1, (0, 0, 0), [], []),
  (4, .ifCond .lt 42, 3, (46, 0, 0), [], []),
  (7, .aload_n 0, 1, (0, 0, 0), [], []),
  (8, .getfield 66, 3, (6, 1, 0), [], [427]),
  (11, .sipush 2000, 3, (0, 0, 0), [], []),
  (14, .if_icmp .ge 26, 3, (40, 0, 0), [], []),
  (17, .aload_n 0, 1, (0, 0, 0), [], []),
  (18, .getfield 9, 3, (6, 0, 2), [], [426]),
  (21, .aload_n 0, 1, (0, 0, 0), [], []),
  (22, .getfield 66, 3, (6, 1, 0), [], [427]),
  (25, .iload_n 1, 1, (0, 0, 0), [], []),
  (26, .iload_n 2, 1, (0, 0, 0), [], []),
  (27, .ishr, 1, (0, 0, 0), [], []),
  (28, .i2b, 1, (0, 0, 0), [], []),
  (29, .bastore, 1, (0, 0, 0), [], []),
  (30, .aload_n 0, 1, (0, 0, 0), [], []),
  (31, .dup, 1, (0, 0, 0), [], []),
  (32, .getfield 66, 3, (6, 1, 0), [], [427]),
  (35, .iconst 1, 1, (0, 0, 0), [], []),
  (36, .iadd, 1, (0, 0, 0), [], []),
  (37, .putfield 66, 3, (6, 1, 0), [], [427]),
  (40, .iinc 2 (-8), 3, (0, 0, 0), [], []),
  (43, .goto (-40), 3, (3, 0, 0), [], []),
  (46, .return_, 1, (0, 0, 0), [], [])]
/-- 104: X8_trim -/
def am_t104 : List am_E := [(0, .iload_n 1, 1, (0, 0, 0), [], []),
  (1, .ifCond .lt 11, 3, (12, 0, 0), [], []),
  (4, .iload_n 1, 1, (0, 0, 0), [], []),
  (5, .aload_n 0, 1, (0, 0, 0), [], []),
  (6, .getfield 66, 3, (6, 1, 0), [], [427]),
  (9, .if_icmp .le 13, 3, (22, 0, 0), [], []),
  (12, .new 80, 3, (82, 84, 2), [], [921, 125, 930]),
  (15, .dup, 1, (0, 0, 0), [], []),
  (16, .ldc 82, 2, (99, 0, 0), [], []),
  (18, .invokespecial 84, 3, (99, 0, 0), [], []),
  (21, .athrow, 1, (0, 0, 0), [], []),
  (22, .aload_n 0, 1, (0, 0, 0), [], []),
  (23, .iload_n 1, 1, (0, 0, 0), [], []),
  (24, .putfield 66, 3, (6, 1, 0), [], [427]),
  (27, .iload_n 1, 1, (0, 0, 0), [], []),
  (28, .ireturn, 1, (0, 0, 0), [], [])]
/-- 105: X8_teach -/
def am_t105_0 : List am_E := [(0, .aload_n 0, 1, (0, 0, 0), [], []),
  (1, .getfield 32, 3, (6, 5, 2), [], [431]),
  (4, .aload_n 0, 1, (0, 0, 0), [], []),
  (5, .getfield 66, 3, (6, 1, 0), [], [427]),
  (8, .invokevirtual 85, 3, (0, 90, 5), [], [461, 110, 462, 463]),
  (11, .aload_n 0, 1, (0, 0, 0), [], []),
  (12, .iconst 0, 1, (0, 0, 0), [], []),
  (13, .putfield 66, 3, (6, 1, 0), [], [427]),
  (16, .aload_n 0, 1, (0, 0, 0), [], []),
  (17, .getfield 41, 3, (6, 6, 2), [], [432]),
  (20, .aload_n 0, 1, (0, 0, 0), [], []),
  (21, .getfield 24, 3, (6, 4, 2), [], [430]),
  (24, .invokevirtual 88, 3, (0, 28, 2), [], [555, 115, 556, 557]),
  (27, .ifCond .eq 17, 3, (44, 0, 0), [], []),
  (30, .aload_n 0, 1, (0, 0, 0), [], []),
  (31, .getfield 50, 3, (6, 7, 2), [], [433]),
  (34, .aload_n 0, 1, (0, 0, 0), [], []),
  (35, .getfield 24, 3, (6, 4, 2), [], [430]),
  (38, .invokevirtual 92, 3, (0, 14, 1), [], [627, 116, 628, 629]),
  (41, .goto 4, 3, (45, 0, 0), [], []),
  (44, .iconst 1, 1, (0, 0, 0), [], []),
  (45, .istore_n 1, 1, (0, 0, 0), [], []),
  (46, .iload_n 1, 1, (0, 0, 0), [], []),
  (47, .ifCond .eq 38, 3, (85, 0, 0), [], []),
  (50, .aload_n 0, 1, (0, 0, 0), [], []),
  (51, .aload_n 0, 1, (0, 0, 0), [], []),
  (52, .getfield 32, 3, (6, 5, 2), [], [431]),
  (55, .iload_n 1, 1, (0, 0, 0), [], []),
  (56, .iconst 1, 1, (0, 0, 0), [], []),
  (57, .if_icmp .ne 13, 3, (70, 0, 0), [], []),
  (60, .aload_n 0, 1, (0, 0, 0), [], []),
  (61, .getfield 41, 3, (6, 6, 2), [], [432]),
  (64, .getfield 96, 3, (2, 2, 0), [], [326]),
  (67, .goto 10, 3, (77, 0, 0), [], []),
  (70, .aload_n 0, 1, (0, 0, 0), [], []),
  (71, .getfield 50, 3, (6, 7, 2), [], [433]),
  (74, .getfield 99, 3, (1, 0, 0), [], [347]),
  (77, .invokevirtual 100, 3, (0, 91, 5), [], [688, 110, 689, 690]),
  (80, .putfield 13, 3, (6, 2, 0), [], [428]),
  (83, .iload_n 1, 1, (0, 0, 0), [], []),
  (84, .ireturn, 1, (0, 0, 0), [], []),
  (85, .aload_n 0, 1, (0, 0, 0), [], []),
  (86, .iconst (-1), 1, (0, 0, 0), [], []),
  (87, .putfield 13, 3, (6, 2, 0), [], [428]),
  (90, .aload_n 0, 1, (0, 0, 0), [], []),
  (91, .getfield 20, 3, (6, 3, 2), [], [429]),
  (94, .astore_n 2, 1, (0, 0, 0), [], []),
  (95, .aload_n 0, 1, (0, 0, 0), [], []),
  (96, .aload_n 0, 1, (0, 0, 0), [], []),
  (97, .getfield 24, 3, (6, 4, 2), [], [430]),
  (100, .putfield 20, 3, (6, 3, 2), [], [429]),
  (103, .aload_n 0, 1, (0, 0, 0), [], []),
  (104, .aload_n 2, 1, (0, 0, 0), [], []),
  (105, .putfield 24, 3, (6, 4, 2), [], [430]),
  (108, .aload_n 0, 1, (0, 0, 0), [], []),
  (109, .getfield 59, 3, (6, 8, 2), [], [434]),
  (112, .aload_n 0, 1, (0, 0, 0), [], []),
  (113, .getfield 20, 3, (6, 3, 2), [], [429]),
  (116, .invokevirtual 104, 3, (0, 47, 3), [], [692, 117, 693, 694]),
  (119, .iconst 0, 1, (0, 0, 0), [], [])]
def am_t105_1 : List am_E := [(120, .ireturn, 1, (0, 0, 0), [], [])]
def am_t105 : List am_E := am_t105_0 ++ (am_t105_1)
/-- 106: X8_errorAt -/
def am_t106 : List am_E := [(0, .aload_n 0, 1, (0, 0, 0), [], []),
  (1, .getfield 13, 3, (6, 2, 0), [], [428]),
  (4, .ireturn, 1, (0, 0, 0), [], [])]
/-- 107: X8_count -/
def am_t107 : List am_E := [(0, .iload_n 1, 1, (0, 0, 0), [], []),
  (1, .ifCond .lt 9, 3, (10, 0, 0), [], []),
  (4, .iload_n 1, 1, (0, 0, 0), [], []),
  (5, .bipush 11, 2, (0, 0, 0), [], []),
  (7, .if_icmp .le 13, 3, (20, 0, 0), [], []),
  (10, .new 107, 3, (109, 111, 3), [], [945, 128, 954]),
  (13, .dup, 1, (0, 0, 0), [], []),
  (14, .ldc 109, 2, (99, 0, 0), [], []),
  (16, .invokespecial 111, 3, (99, 0, 0), [], []),
  (19, .athrow, 1, (0, 0, 0), [], []),
  (20, .aload_n 0, 1, (0, 0, 0), [], []),
  (21, .iload_n 1, 1, (0, 0, 0), [], []),
  (22, .invokevirtual 112, 3, (0, 108, 6), [], [796, 108, 798, 39]),
  (25, .ireturn, 1, (0, 0, 0), [], [])]
/-- 108: X8_countOf -/
def am_t108 : List am_E := [(0, .iload_n 1, 1, (0, 0, 0), [], []),
  (1, .tableswitch 116 0 11 #[63, 71, 79, 87, 95, 103, 116, 116, 116, 116, 116, 111], 63, (117, 0, 0), [(0, 64), (1, 72), (2, 80), (3, 88), (4, 96), (5, 104), (6, 117), (7, 117), (8, 117), (9, 117), (10, 117), (11, 112)], []),
  (64, .aload_n 0, 1, (0, 0, 0), [], []),
  (65, .getfield 59, 3, (6, 8, 2), [], [434]),
  (68, .getfield 115, 3, (3, 0, 0), [], [376]),
  (71, .ireturn, 1, (0, 0, 0), [], []),
  (72, .aload_n 0, 1, (0, 0, 0), [], []),
  (73, .getfield 20, 3, (6, 3, 2), [], [429]),
  (76, .getfield 118, 3, (4, 0, 0), [], [147]),
  (79, .ireturn, 1, (0, 0, 0), [], []),
  (80, .aload_n 0, 1, (0, 0, 0), [], []),
  (81, .getfield 20, 3, (6, 3, 2), [], [429]),
  (84, .getfield 121, 3, (4, 1, 0), [], [151]),
  (87, .ireturn, 1, (0, 0, 0), [], []),
  (88, .aload_n 0, 1, (0, 0, 0), [], []),
  (89, .getfield 20, 3, (6, 3, 2), [], [429]),
  (92, .getfield 124, 3, (4, 2, 0), [], [155]),
  (95, .ireturn, 1, (0, 0, 0), [], []),
  (96, .aload_n 0, 1, (0, 0, 0), [], []),
  (97, .getfield 20, 3, (6, 3, 2), [], [429]),
  (100, .getfield 127, 3, (4, 3, 0), [], [158]),
  (103, .ireturn, 1, (0, 0, 0), [], []),
  (104, .aload_n 0, 1, (0, 0, 0), [], []),
  (105, .getfield 59, 3, (6, 8, 2), [], [434]),
  (108, .getfield 130, 3, (3, 1, 0), [], [378]),
  (111, .ireturn, 1, (0, 0, 0), [], []),
  (112, .aload_n 0, 1, (0, 0, 0), [], []),
  (113, .getfield 66, 3, (6, 1, 0), [], [427]),
  (116, .ireturn, 1, (0, 0, 0), [], []),
  (117, .aload_n 0, 1, (0, 0, 0), [], []),
  (118, .getfield 59, 3, (6, 8, 2), [], [434]),
  (121, .iload_n 1, 1, (0, 0, 0), [], []),
  (122, .invokevirtual 133, 3, (0, 49, 3), [], [800, 117, 801, 802]),
  (125, .ireturn, 1, (0, 0, 0), [], [])]
/-- 109: X8_ward -/
def am_t109 : List am_E := [(0, .aload_n 0, 1, (0, 0, 0), [], []),
  (1, .getfield 20, 3, (6, 3, 2), [], [429]),
  (4, .iload_n 1, 1, (0, 0, 0), [], []),
  (5, .invokevirtual 136, 3, (0, 86, 4), [], [968, 109, 969, 970]),
  (8, .ifCond .ne 13, 3, (21, 0, 0), [], []),
  (11, .new 107, 3, (140, 111, 3), [], [945, 128, 972]),
  (14, .dup, 1, (0, 0, 0), [], []),
  (15, .ldc 140, 2, (99, 0, 0), [], []),
  (17, .invokespecial 111, 3, (99, 0, 0), [], []),
  (20, .athrow, 1, (0, 0, 0), [], []),
  (21, .iload_n 2, 1, (0, 0, 0), [], []),
  (22, .ifCond .lt 8, 3, (30, 0, 0), [], []),
  (25, .iload_n 2, 1, (0, 0, 0), [], []),
  (26, .iconst 3, 1, (0, 0, 0), [], []),
  (27, .if_icmp .le 13, 3, (40, 0, 0), [], []),
  (30, .new 107, 3, (142, 111, 3), [], [945, 128, 973]),
  (33, .dup, 1, (0, 0, 0), [], []),
  (34, .ldc 142, 2, (99, 0, 0), [], []),
  (36, .invokespecial 111, 3, (99, 0, 0), [], []),
  (39, .athrow, 1, (0, 0, 0), [], []),
  (40, .aload_n 0, 1, (0, 0, 0), [], []),
  (41, .getfield 59, 3, (6, 8, 2), [], [434]),
  (44, .iload_n 1, 1, (0, 0, 0), [], []),
  (45, .iload_n 2, 1, (0, 0, 0), [], []),
  (46, .invokevirtual 144, 3, (0, 53, 3), [], [816, 117, 817, 818]),
  (49, .ireturn, 1, (0, 0, 0), [], [])]
/-- 110: X8_project -/
def am_t110 : List am_E := [(0, .aload_n 0, 1, (0, 0, 0), [], []),
  (1, .getfield 20, 3, (6, 3, 2), [], [429]),
  (4, .iload_n 1, 1, (0, 0, 0), [], []),
  (5, .invokevirtual 148, 3, (0, 87, 4), [], [981, 109, 676, 677]),
  (8, .ifCond .ne 13, 3, (21, 0, 0), [], []),
  (11, .new 107, 3, (151, 111, 3), [], [945, 128, 982]),
  (14, .dup, 1, (0, 0, 0), [], []),
  (15, .ldc 151, 2, (99, 0, 0), [], []),
  (17, .invokespecial 111, 3, (99, 0, 0), [], []),
  (20, .athrow, 1, (0, 0, 0), [], []),
  (21, .iload_n 2, 1, (0, 0, 0), [], []),
  (22, .ifCond .lt 9, 3, (31, 0, 0), [], []),
  (25, .iload_n 2, 1, (0, 0, 0), [], []),
  (26, .bipush 7, 2, (0, 0, 0), [], []),
  (28, .if_icmp .le 13, 3, (41, 0, 0), [], []),
  (31, .new 107, 3, (153, 111, 3), [], [945, 128, 983]),
  (34, .dup, 1, (0, 0, 0), [], []),
  (35, .ldc 153, 2, (99, 0, 0), [], []),
  (37, .invokespecial 111, 3, (99, 0, 0), [], []),
  (40, .athrow, 1, (0, 0, 0), [], []),
  (41, .aload_n 0, 1, (0, 0, 0), [], []),
  (42, .getfield 59, 3, (6, 8, 2), [], [434]),
  (45, .iload_n 1, 1, (0, 0, 0), [], []),
  (46, .iload_n 2, 1, (0, 0, 0), [], []),
  (47, .invokevirtual 155, 3, (0, 54, 3), [], [820, 117, 821, 822]),
  (50, .ireturn, 1, (0, 0, 0), [], [])]
/-- 111: X8_share -/
def am_t111 : List am_E := [(0, .aload_n 0, 1, (0, 0, 0), [], []),
  (1, .getfield 20, 3, (6, 3, 2), [], [429]),
  (4, .iload_n 1, 1, (0, 0, 0), [], []),
  (5, .invokevirtual 148, 3, (0, 87, 4), [], [981, 109, 676, 677]),
  (8, .ifCond .ne 13, 3, (21, 0, 0), [], []),
  (11, .new 107, 3, (151, 111, 3), [], [945, 128, 982]),
  (14, .dup, 1, (0, 0, 0), [], []),
  (15, .ldc 151, 2, (99, 0, 0), [], []),
  (17, .invokespecial 111, 3, (99, 0, 0), [], []),
  (20, .athrow, 1, (0, 0, 0), [], []),
  (21, .aload_n 0, 1, (0, 0, 0), [], []),
  (22, .getfield 59, 3, (6, 8, 2), [], [434]),
  (25, .iload_n 1, 1, (0, 0, 0), [], []),
  (26, .invokevirtual 158, 3, (0, 62, 3), [], [824, 117, 730, 731]),
  (29, .ireturn, 1, (0, 0, 0), [], [])]
/-- 112: X8_voter -/
def am_t112 : List am_E := [(0, .aload_n 0, 1, (0, 0, 0), [], []),
  (1, .getfield 20, 3, (6, 3, 2), [], [429]),
  (4, .iload_n 1, 1, (0, 0, 0), [], []),
  (5, .invokevirtual 161, 3, (0, 88, 4), [], [998, 109, 680, 681]),
  (8, .ifCond .ne 13, 3, (21, 0, 0), [], []),
  (11, .new 107, 3, (164, 111, 3), [], [945, 128, 999]),
  (14, .dup, 1, (0, 0, 0), [], []),
  (15, .ldc 164, 2, (99, 0, 0), [], []),
  (17, .invokespecial 111, 3, (99, 0, 0), [], []),
  (20, .athrow, 1, (0, 0, 0), [], []),
  (21, .iload_n 2, 1, (0, 0, 0), [], []),
  (22, .ifCond .lt 8, 3, (30, 0, 0), [], []),
  (25, .iload_n 2, 1, (0, 0, 0), [], []),
  (26, .iconst 3, 1, (0, 0, 0), [], []),
  (27, .if_icmp .le 13, 3, (40, 0, 0), [], []),
  (30, .new 107, 3, (142, 111, 3), [], [945, 128, 973]),
  (33, .dup, 1, (0, 0, 0), [], []),
  (34, .ldc 142, 2, (99, 0, 0), [], []),
  (36, .invokespecial 111, 3, (99, 0, 0), [], []),
  (39, .athrow, 1, (0, 0, 0), [], []),
  (40, .aload_n 0, 1, (0, 0, 0), [], []),
  (41, .getfield 59, 3, (6, 8, 2), [], [434]),
  (44, .iload_n 1, 1, (0, 0, 0), [], []),
  (45, .iload_n 2, 1, (0, 0, 0), [], []),
  (46, .invokevirtual 166, 3, (0, 55, 3), [], [825, 117, 826, 827]),
  (49, .ireturn, 1, (0, 0, 0), [], [])]
/-- 113: X8_likes -/
def am_t113 : List am_E := [(0, .aload_n 0, 1, (0, 0, 0), [], []),
  (1, .getfield 20, 3, (6, 3, 2), [], [429]),
  (4, .iload_n 1, 1, (0, 0, 0), [], []),
  (5, .invokevirtual 161, 3, (0, 88, 4), [], [998, 109, 680, 681]),
  (8, .ifCond .eq 14, 3, (22, 0, 0), [], []),
  (11, .aload_n 0, 1, (0, 0, 0), [], []),
  (12, .getfield 20, 3, (6, 3, 2), [], [429]),
  (15, .iload_n 2, 1, (0, 0, 0), [], []),
  (16, .invokevirtual 148, 3, (0, 87, 4), [], [981, 109, 676, 677]),
  (19, .ifCond .ne 13, 3, (32, 0, 0), [], []),
  (22, .new 107, 3, (169, 111, 3), [], [945, 128, 1007]),
  (25, .dup, 1, (0, 0, 0), [], []),
  (26, .ldc 169, 2, (99, 0, 0), [], []),
  (28, .invokespecial 111, 3, (99, 0, 0), [], []),
  (31, .athrow, 1, (0, 0, 0), [], []),
  (32, .aload_n 0, 1, (0, 0, 0), [], []),
  (33, .getfield 59, 3, (6, 8, 2), [], [434]),
  (36, .iload_n 1, 1, (0, 0, 0), [], []),
  (37, .iload_n 2, 1, (0, 0, 0), [], []),
  (38, .invokevirtual 171, 3, (0, 59, 3), [], [1008, 117, 738, 739]),
  (41, .ireturn, 1, (1, 0, 0), [], [])]
/-- 114: X8_envy -/
def am_t114 : List am_E := [(0, .aload_n 0, 1, (0, 0, 0), [], []),
  (1, .getfield 20, 3, (6, 3, 2), [], [429]),
  (4, .iload_n 1, 1, (0, 0, 0), [], []),
  (5, .invokevirtual 161, 3, (0, 88, 4), [], [998, 109, 680, 681]),
  (8, .ifCond .eq 14, 3, (22, 0, 0), [], []),
  (11, .aload_n 0, 1, (0, 0, 0), [], []),
  (12, .getfield 20, 3, (6, 3, 2), [], [429]),
  (15, .iload_n 2, 1, (0, 0, 0), [], []),
  (16, .invokevirtual 161, 3, (0, 88, 4), [], [998, 109, 680, 681]),
  (19, .ifCond .ne 13, 3, (32, 0, 0), [], []),
  (22, .new 107, 3, (164, 111, 3), [], [945, 128, 999]),
  (25, .dup, 1, (0, 0, 0), [], []),
  (26, .ldc 164, 2, (99, 0, 0), [], []),
  (28, .invokespecial 111, 3, (99, 0, 0), [], []),
  (31, .athrow, 1, (0, 0, 0), [], []),
  (32, .aload_n 0, 1, (0, 0, 0), [], []),
  (33, .getfield 59, 3, (6, 8, 2), [], [434]),
  (36, .iload_n 2, 1, (0, 0, 0), [], []),
  (37, .invokevirtual 175, 3, (0, 57, 3), [], [789, 117, 774, 775]),
  (40, .aload_n 0, 1, (0, 0, 0), [], []),
  (41, .getfield 59, 3, (6, 8, 2), [], [434]),
  (44, .iload_n 1, 1, (0, 0, 0), [], []),
  (45, .invokevirtual 175, 3, (0, 57, 3), [], [789, 117, 774, 775]),
  (48, .isub, 1, (0, 0, 0), [], []),
  (49, .ireturn, 1, (0, 0, 0), [], [])]
/-- 115: X8_next -/
def am_t115 : List am_E := [(0, .aload_n 0, 1, (0, 0, 0), [], []),
  (1, .getfield 63, 3, (6, 9, 2), [], [435]),
  (4, .aload_n 0, 1, (0, 0, 0), [], []),
  (5, .getfield 59, 3, (6, 8, 2), [], [434]),
  (8, .invokevirtual 178, 3, (0, 48, 3), [], [704, 117, 705, 706]),
  (11, .aload_n 0, 1, (0, 0, 0), [], []),
  (12, .getfield 63, 3, (6, 9, 2), [], [435]),
  (15, .invokevirtual 182, 3, (0, 67, 3), [], [708, 117, 709, 710]),
  (18, .aload_n 0, 1, (0, 0, 0), [], []),
  (19, .getfield 63, 3, (6, 9, 2), [], [435]),
  (22, .invokevirtual 185, 3, (0, 69, 3), [], [717, 117, 718, 719]),
  (25, .ireturn, 1, (0, 0, 0), [], [])]
/-- 116: X8_approve -/
def am_t116 : List am_E := [(0, .aload_n 0, 1, (0, 0, 0), [], []),
  (1, .getfield 20, 3, (6, 3, 2), [], [429]),
  (4, .iload_n 1, 1, (0, 0, 0), [], []),
  (5, .invokevirtual 161, 3, (0, 88, 4), [], [998, 109, 680, 681]),
  (8, .ifCond .eq 14, 3, (22, 0, 0), [], []),
  (11, .aload_n 0, 1, (0, 0, 0), [], []),
  (12, .getfield 20, 3, (6, 3, 2), [], [429]),
  (15, .iload_n 2, 1, (0, 0, 0), [], []),
  (16, .invokevirtual 148, 3, (0, 87, 4), [], [981, 109, 676, 677]),
  (19, .ifCond .ne 13, 3, (32, 0, 0), [], []),
  (22, .new 107, 3, (169, 111, 3), [], [945, 128, 1007]),
  (25, .dup, 1, (0, 0, 0), [], []),
  (26, .ldc 169, 2, (99, 0, 0), [], []),
  (28, .invokespecial 111, 3, (99, 0, 0), [], []),
  (31, .athrow, 1, (0, 0, 0), [], []),
  (32, .aload_n 0, 1, (0, 0, 0), [], []),
  (33, .getfield 59, 3, (6, 8, 2), [], [434]),
  (36, .iload_n 1, 1, (0, 0, 0), [], []),
  (37, .iload_n 2, 1, (0, 0, 0), [], []),
  (38, .invokevirtual 171, 3, (0, 59, 3), [], [1008, 117, 738, 739]),
  (41, .istore 4, 2, (0, 0, 0), [], []),
  (43, .aload_n 0, 1, (0, 0, 0), [], []),
  (44, .getfield 59, 3, (6, 8, 2), [], [434]),
  (47, .iload_n 1, 1, (0, 0, 0), [], []),
  (48, .iload_n 2, 1, (0, 0, 0), [], []),
  (49, .iload_n 3, 1, (0, 0, 0), [], []),
  (50, .invokevirtual 189, 3, (0, 63, 3), [], [1023, 117, 1024, 1025]),
  (53, .iload 4, 2, (0, 0, 0), [], []),
  (55, .ireturn, 1, (1, 0, 0), [], [])]
/-- 117: X8_give -/
def am_t117 : List am_E := [(0, .aload_n 0, 1, (0, 0, 0), [], []),
  (1, .getfield 20, 3, (6, 3, 2), [], [429]),
  (4, .iload_n 1, 1, (0, 0, 0), [], []),
  (5, .invokevirtual 161, 3, (0, 88, 4), [], [998, 109, 680, 681]),
  (8, .ifCond .ne 13, 3, (21, 0, 0), [], []),
  (11, .new 107, 3, (164, 111, 3), [], [945, 128, 999]),
  (14, .dup, 1, (0, 0, 0), [], []),
  (15, .ldc 164, 2, (99, 0, 0), [], []),
  (17, .invokespecial 111, 3, (99, 0, 0), [], []),
  (20, .athrow, 1, (0, 0, 0), [], []),
  (21, .iload_n 2, 1, (0, 0, 0), [], []),
  (22, .iconst 1, 1, (0, 0, 0), [], []),
  (23, .if_icmp .lt 10, 3, (33, 0, 0), [], []),
  (26, .iload_n 2, 1, (0, 0, 0), [], []),
  (27, .sipush 999, 3, (0, 0, 0), [], []),
  (30, .if_icmp .le 13, 3, (43, 0, 0), [], []),
  (33, .new 80, 3, (193, 84, 2), [], [921, 125, 1034]),
  (36, .dup, 1, (0, 0, 0), [], []),
  (37, .ldc 193, 2, (99, 0, 0), [], []),
  (39, .invokespecial 84, 3, (99, 0, 0), [], []),
  (42, .athrow, 1, (0, 0, 0), [], []),
  (43, .aload_n 0, 1, (0, 0, 0), [], []),
  (44, .getfield 59, 3, (6, 8, 2), [], [434]),
  (47, .iload_n 1, 1, (0, 0, 0), [], []),
  (48, .iload_n 2, 1, (0, 0, 0), [], []),
  (49, .invokevirtual 195, 3, (0, 64, 3), [], [1035, 117, 713, 714]),
  (52, .aload_n 0, 1, (0, 0, 0), [], []),
  (53, .getfield 59, 3, (6, 8, 2), [], [434]),
  (56, .getfield 199, 3, (3, 3, 2), [], [382]),
  (59, .iload_n 1, 1, (0, 0, 0), [], []),
  (60, .iaload, 1, (0, 0, 0), [], []),
  (61, .ireturn, 1, (0, 0, 0), [], [])]
/-- 118: X8_setBudget -/
def am_t118 : List am_E := [(0, .iload_n 1, 1, (0, 0, 0), [], []),
  (1, .ifCond .lt 10, 3, (11, 0, 0), [], []),
  (4, .iload_n 1, 1, (0, 0, 0), [], []),
  (5, .sipush 9999, 3, (0, 0, 0), [], []),
  (8, .if_icmp .le 13, 3, (21, 0, 0), [], []),
  (11, .new 80, 3, (203, 84, 2), [], [921, 125, 1043]),
  (14, .dup, 1, (0, 0, 0), [], []),
  (15, .ldc 203, 2, (99, 0, 0), [], []),
  (17, .invokespecial 84, 3, (99, 0, 0), [], []),
  (20, .athrow, 1, (0, 0, 0), [], []),
  (21, .aload_n 0, 1, (0, 0, 0), [], []),
  (22, .getfield 59, 3, (6, 8, 2), [], [434]),
  (25, .getfield 130, 3, (3, 1, 0), [], [378]),
  (28, .istore_n 2, 1, (0, 0, 0), [], []),
  (29, .aload_n 0, 1, (0, 0, 0), [], []),
  (30, .getfield 59, 3, (6, 8, 2), [], [434]),
  (33, .iload_n 1, 1, (0, 0, 0), [], []),
  (34, .putfield 130, 3, (3, 1, 0), [], [378]),
  (37, .iload_n 2, 1, (0, 0, 0), [], []),
  (38, .ireturn, 1, (0, 0, 0), [], [])]
/-- 119: X8_open -/
def am_t119 : List am_E := [(0, .aload_n 0, 1, (0, 0, 0), [], []),
  (1, .getfield 20, 3, (6, 3, 2), [], [429]),
  (4, .iload_n 1, 1, (0, 0, 0), [], []),
  (5, .invokevirtual 148, 3, (0, 87, 4), [], [981, 109, 676, 677]),
  (8, .ifCond .ne 13, 3, (21, 0, 0), [], []),
  (11, .new 107, 3, (151, 111, 3), [], [945, 128, 982]),
  (14, .dup, 1, (0, 0, 0), [], []),
  (15, .ldc 151, 2, (99, 0, 0), [], []),
  (17, .invokespecial 111, 3, (99, 0, 0), [], []),
  (20, .athrow, 1, (0, 0, 0), [], []),
  (21, .aload_n 0, 1, (0, 0, 0), [], []),
  (22, .getfield 59, 3, (6, 8, 2), [], [434]),
  (25, .iload_n 1, 1, (0, 0, 0), [], []),
  (26, .invokevirtual 205, 3, (0, 58, 3), [], [1051, 117, 726, 727]),
  (29, .ifCond .eq 13, 3, (42, 0, 0), [], []),
  (32, .new 69, 3, (208, 73, 1), [], [842, 124, 1052]),
  (35, .dup, 1, (0, 0, 0), [], []),
  (36, .ldc 208, 2, (99, 0, 0), [], []),
  (38, .invokespecial 73, 3, (99, 0, 0), [], []),
  (41, .athrow, 1, (0, 0, 0), [], []),
  (42, .aload_n 0, 1, (0, 0, 0), [], []),
  (43, .getfield 59, 3, (6, 8, 2), [], [434]),
  (46, .getfield 210, 3, (3, 4, 2), [], [384]),
  (49, .iload_n 1, 1, (0, 0, 0), [], []),
  (50, .iaload, 1, (0, 0, 0), [], []),
  (51, .istore_n 2, 1, (0, 0, 0), [], []),
  (52, .aload_n 0, 1, (0, 0, 0), [], []),
  (53, .getfield 59, 3, (6, 8, 2), [], [434]),
  (56, .iload_n 1, 1, (0, 0, 0), [], []),
  (57, .invokevirtual 213, 3, (0, 65, 3), [], [1053, 117, 1054, 1055]),
  (60, .iload_n 2, 1, (0, 0, 0), [], []),
  (61, .ireturn, 1, (0, 0, 0), [], [])]
/-- 120: X8_pass -/
def am_t120 : List am_E := [(0, .iload_n 1, 1, (0, 0, 0), [], []),
  (1, .iconst 1, 1, (0, 0, 0), [], []),
  (2, .if_icmp .lt 9, 3, (11, 0, 0), [], []),
  (5, .iload_n 1, 1, (0, 0, 0), [], []),
  (6, .bipush 60, 2, (0, 0, 0), [], []),
  (8, .if_icmp .le 13, 3, (21, 0, 0), [], []),
  (11, .new 80, 3, (216, 84, 2), [], [921, 125, 1064]),
  (14, .dup, 1, (0, 0, 0), [], []),
  (15, .ldc 216, 2, (99, 0, 0), [], []),
  (17, .invokespecial 84, 3, (99, 0, 0), [], []),
  (20, .athrow, 1, (0, 0, 0), [], []),
  (21, .aload_n 0, 1, (0, 0, 0), [], []),
  (22, .getfield 59, 3, (6, 8, 2), [], [434]),
  (25, .invokevirtual 218, 3, (0, 51, 3), [], [1065, 117, 809, 810]),
  (28, .istore_n 2, 1, (0, 0, 0), [], []),
  (29, .aload_n 0, 1, (0, 0, 0), [], []),
  (30, .getfield 59, 3, (6, 8, 2), [], [434]),
  (33, .iload_n 1, 1, (0, 0, 0), [], []),
  (34, .invokevirtual 221, 3, (0, 66, 3), [], [1066, 117, 1067, 1068]),
  (37, .aload_n 0, 1, (0, 0, 0), [], []),
  (38, .getfield 59, 3, (6, 8, 2), [], [434]),
  (41, .invokevirtual 218, 3, (0, 51, 3), [], [1065, 117, 809, 810]),
  (44, .iload_n 2, 1, (0, 0, 0), [], []),
  (45, .isub, 1, (0, 0, 0), [], []),
  (46, .ireturn, 1, (0, 0, 0), [], [])]
/-- 121: X8_until -/
def am_t121 : List am_E := [(0, .aload_n 0, 1, (0, 0, 0), [], []),
  (1, .getfield 20, 3, (6, 3, 2), [], [429]),
  (4, .iload_n 1, 1, (0, 0, 0), [], []),
  (5, .invokevirtual 148, 3, (0, 87, 4), [], [981, 109, 676, 677]),
  (8, .ifCond .ne 13, 3, (21, 0, 0), [], []),
  (11, .new 107, 3, (151, 111, 3), [], [945, 128, 982]),
  (14, .dup, 1, (0, 0, 0), [], []),
  (15, .ldc 151, 2, (99, 0, 0), [], []),
  (17, .invokespecial 111, 3, (99, 0, 0), [], []),
  (20, .athrow, 1, (0, 0, 0), [], []),
  (21, .aload_n 0, 1, (0, 0, 0), [], []),
  (22, .getfield 63, 3, (6, 9, 2), [], [435]),
  (25, .aload_n 0, 1, (0, 0, 0), [], []),
  (26, .getfield 59, 3, (6, 8, 2), [], [434]),
  (29, .invokevirtual 178, 3, (0, 48, 3), [], [704, 117, 705, 706]),
  (32, .iconst 0, 1, (0, 0, 0), [], []),
  (33, .istore_n 2, 1, (0, 0, 0), [], []),
  (34, .iload_n 2, 1, (0, 0, 0), [], []),
  (35, .bipush 60, 2, (0, 0, 0), [], []),
  (37, .if_icmp .gt 34, 3, (71, 0, 0), [], []),
  (40, .iload_n 2, 1, (0, 0, 0), [], []),
  (41, .ifCond .le 11, 3, (52, 0, 0), [], []),
  (44, .aload_n 0, 1, (0, 0, 0), [], []),
  (45, .getfield 63, 3, (6, 9, 2), [], [435]),
  (48, .iconst 1, 1, (0, 0, 0), [], []),
  (49, .invokevirtual 221, 3, (0, 66, 3), [], [1066, 117, 1067, 1068]),
  (52, .aload_n 0, 1, (0, 0, 0), [], []),
  (53, .getfield 63, 3, (6, 9, 2), [], [435]),
  (56, .iload_n 1, 1, (0, 0, 0), [], []),
  (57, .invokevirtual 205, 3, (0, 58, 3), [], [1051, 117, 726, 727]),
  (60, .ifCond .ne 5, 3, (65, 0, 0), [], []),
  (63, .iload_n 2, 1, (0, 0, 0), [], []),
  (64, .ireturn, 1, (0, 0, 0), [], []),
  (65, .iinc 2 1, 3, (0, 0, 0), [], []),
  (68, .goto (-34), 3, (34, 0, 0), [], []),
  (71, .iconst (-1), 1, (0, 0, 0), [], []),
  (72, .ireturn, 1, (0, 0, 0), [], [])]
/-- 122: X8_foresee -/
def am_t122 : List am_E := [(0, .iload_n 1, 1, (0, 0, 0), [], []),
  (1, .iconst 1, 1, (0, 0, 0), [], []),
  (2, .if_icmp .lt 9, 3, (11, 0, 0), [], []),
  (5, .iload_n 1, 1, (0, 0, 0), [], []),
  (6, .bipush 60, 2, (0, 0, 0), [], []),
  (8, .if_icmp .le 13, 3, (21, 0, 0), [], []),
  (11, .new 80, 3, (216, 84, 2), [], [921, 125, 1064]),
  (14, .dup, 1, (0, 0, 0), [], []),
  (15, .ldc 216, 2, (99, 0, 0), [], []),
  (17, .invokespecial 84, 3, (99, 0, 0), [], []),
  (20, .athrow, 1, (0, 0, 0), [], []),
  (21, .iload_n 2, 1, (0, 0, 0), [], []),
  (22, .bipush 6, 2, (0, 0, 0), [], []),
  (24, .if_icmp .lt 9, 3, (33, 0, 0), [], []),
  (27, .iload_n 2, 1, (0, 0, 0), [], []),
  (28, .bipush 10, 2, (0, 0, 0), [], []),
  (30, .if_icmp .le 13, 3, (43, 0, 0), [], []),
  (33, .new 107, 3, (224, 111, 3), [], [945, 128, 1114]),
  (36, .dup, 1, (0, 0, 0), [], []),
  (37, .ldc 224, 2, (99, 0, 0), [], []),
  (39, .invokespecial 111, 3, (99, 0, 0), [], []),
  (42, .athrow, 1, (0, 0, 0), [], []),
  (43, .aload_n 0, 1, (0, 0, 0), [], []),
  (44, .getfield 63, 3, (6, 9, 2), [], [435]),
  (47, .aload_n 0, 1, (0, 0, 0), [], []),
  (48, .getfield 59, 3, (6, 8, 2), [], [434]),
  (51, .invokevirtual 178, 3, (0, 48, 3), [], [704, 117, 705, 706]),
  (54, .aload_n 0, 1, (0, 0, 0), [], []),
  (55, .getfield 63, 3, (6, 9, 2), [], [435]),
  (58, .iload_n 1, 1, (0, 0, 0), [], []),
  (59, .invokevirtual 221, 3, (0, 66, 3), [], [1066, 117, 1067, 1068]),
  (62, .aload_n 0, 1, (0, 0, 0), [], []),
  (63, .getfield 63, 3, (6, 9, 2), [], [435]),
  (66, .iload_n 2, 1, (0, 0, 0), [], []),
  (67, .invokevirtual 133, 3, (0, 49, 3), [], [800, 117, 801, 802]),
  (70, .ireturn, 1, (0, 0, 0), [], [])]
/-- 123: X8_advise -/
def am_t123_0 : List am_E := [(0, .aload_n 0, 1, (0, 0, 0), [], []),
  (1, .getfield 20, 3, (6, 3, 2), [], [429]),
  (4, .iload_n 1, 1, (0, 0, 0), [], []),
  (5, .invokevirtual 161, 3, (0, 88, 4), [], [998, 109, 680, 681]),
  (8, .ifCond .ne 13, 3, (21, 0, 0), [], []),
  (11, .new 107, 3, (164, 111, 3), [], [945, 128, 999]),
  (14, .dup, 1, (0, 0, 0), [], []),
  (15, .ldc 164, 2, (99, 0, 0), [], []),
  (17, .invokespecial 111, 3, (99, 0, 0), [], []),
  (20, .athrow, 1, (0, 0, 0), [], []),
  (21, .iload_n 2, 1, (0, 0, 0), [], []),
  (22, .iconst 1, 1, (0, 0, 0), [], []),
  (23, .if_icmp .lt 9, 3, (32, 0, 0), [], []),
  (26, .iload_n 2, 1, (0, 0, 0), [], []),
  (27, .bipush 20, 2, (0, 0, 0), [], []),
  (29, .if_icmp .le 13, 3, (42, 0, 0), [], []),
  (32, .new 80, 3, (226, 84, 2), [], [921, 125, 1122]),
  (35, .dup, 1, (0, 0, 0), [], []),
  (36, .ldc 226, 2, (99, 0, 0), [], []),
  (38, .invokespecial 84, 3, (99, 0, 0), [], []),
  (41, .athrow, 1, (0, 0, 0), [], []),
  (42, .aload_n 0, 1, (0, 0, 0), [], []),
  (43, .getfield 63, 3, (6, 9, 2), [], [435]),
  (46, .aload_n 0, 1, (0, 0, 0), [], []),
  (47, .getfield 59, 3, (6, 8, 2), [], [434]),
  (50, .invokevirtual 178, 3, (0, 48, 3), [], [704, 117, 705, 706]),
  (53, .aload_n 0, 1, (0, 0, 0), [], []),
  (54, .getfield 63, 3, (6, 9, 2), [], [435]),
  (57, .iload_n 2, 1, (0, 0, 0), [], []),
  (58, .invokevirtual 221, 3, (0, 66, 3), [], [1066, 117, 1067, 1068]),
  (61, .iconst (-1), 1, (0, 0, 0), [], []),
  (62, .istore_n 3, 1, (0, 0, 0), [], []),
  (63, .aload_n 0, 1, (0, 0, 0), [], []),
  (64, .getfield 63, 3, (6, 9, 2), [], [435]),
  (67, .iload_n 1, 1, (0, 0, 0), [], []),
  (68, .invokevirtual 175, 3, (0, 57, 3), [], [789, 117, 774, 775]),
  (71, .istore 4, 2, (0, 0, 0), [], []),
  (73, .iconst 0, 1, (0, 0, 0), [], []),
  (74, .istore 5, 2, (0, 0, 0), [], []),
  (76, .iload 5, 2, (0, 0, 0), [], []),
  (78, .aload_n 0, 1, (0, 0, 0), [], []),
  (79, .getfield 20, 3, (6, 3, 2), [], [429]),
  (82, .getfield 121, 3, (4, 1, 0), [], [151]),
  (85, .if_icmp .ge 90, 3, (175, 0, 0), [], []),
  (88, .aload_n 0, 1, (0, 0, 0), [], []),
  (89, .getfield 59, 3, (6, 8, 2), [], [434]),
  (92, .iload 5, 2, (0, 0, 0), [], []),
  (94, .invokevirtual 205, 3, (0, 58, 3), [], [1051, 117, 726, 727]),
  (97, .ifCond .eq 72, 3, (169, 0, 0), [], []),
  (100, .aload_n 0, 1, (0, 0, 0), [], []),
  (101, .getfield 59, 3, (6, 8, 2), [], [434]),
  (104, .iload_n 1, 1, (0, 0, 0), [], []),
  (105, .iload 5, 2, (0, 0, 0), [], []),
  (107, .invokevirtual 171, 3, (0, 59, 3), [], [1008, 117, 738, 739]),
  (110, .ifCond .ne 59, 3, (169, 0, 0), [], []),
  (113, .aload_n 0, 1, (0, 0, 0), [], []),
  (114, .getfield 63, 3, (6, 9, 2), [], [435]),
  (117, .aload_n 0, 1, (0, 0, 0), [], []),
  (118, .getfield 59, 3, (6, 8, 2), [], [434]),
  (121, .invokevirtual 178, 3, (0, 48, 3), [], [704, 117, 705, 706])]
def am_t123_1 : List am_E := [(124, .aload_n 0, 1, (0, 0, 0), [], []),
  (125, .getfield 63, 3, (6, 9, 2), [], [435]),
  (128, .iload_n 1, 1, (0, 0, 0), [], []),
  (129, .iload 5, 2, (0, 0, 0), [], []),
  (131, .iconst 1, 1, (0, 0, 0), [], []),
  (132, .invokevirtual 189, 3, (0, 63, 3), [], [1023, 117, 1024, 1025]),
  (135, .aload_n 0, 1, (0, 0, 0), [], []),
  (136, .getfield 63, 3, (6, 9, 2), [], [435]),
  (139, .iload_n 2, 1, (0, 0, 0), [], []),
  (140, .invokevirtual 221, 3, (0, 66, 3), [], [1066, 117, 1067, 1068]),
  (143, .aload_n 0, 1, (0, 0, 0), [], []),
  (144, .getfield 63, 3, (6, 9, 2), [], [435]),
  (147, .iload_n 1, 1, (0, 0, 0), [], []),
  (148, .invokevirtual 175, 3, (0, 57, 3), [], [789, 117, 774, 775]),
  (151, .iload 4, 2, (0, 0, 0), [], []),
  (153, .if_icmp .le 16, 3, (169, 0, 0), [], []),
  (156, .aload_n 0, 1, (0, 0, 0), [], []),
  (157, .getfield 63, 3, (6, 9, 2), [], [435]),
  (160, .iload_n 1, 1, (0, 0, 0), [], []),
  (161, .invokevirtual 175, 3, (0, 57, 3), [], [789, 117, 774, 775]),
  (164, .istore 4, 2, (0, 0, 0), [], []),
  (166, .iload 5, 2, (0, 0, 0), [], []),
  (168, .istore_n 3, 1, (0, 0, 0), [], []),
  (169, .iinc 5 1, 3, (0, 0, 0), [], []),
  (172, .goto (-96), 3, (76, 0, 0), [], []),
  (175, .iload_n 3, 1, (0, 0, 0), [], []),
  (176, .ireturn, 1, (0, 0, 0), [], [])]
def am_t123 : List am_E := am_t123_0 ++ (am_t123_1)
/-- 124: X8_spare -/
def am_t124 : List am_E := [(0, .iload_n 1, 1, (0, 0, 0), [], []),
  (1, .iconst 1, 1, (0, 0, 0), [], []),
  (2, .if_icmp .lt 9, 3, (11, 0, 0), [], []),
  (5, .iload_n 1, 1, (0, 0, 0), [], []),
  (6, .bipush 20, 2, (0, 0, 0), [], []),
  (8, .if_icmp .le 13, 3, (21, 0, 0), [], []),
  (11, .new 80, 3, (226, 84, 2), [], [921, 125, 1122]),
  (14, .dup, 1, (0, 0, 0), [], []),
  (15, .ldc 226, 2, (99, 0, 0), [], []),
  (17, .invokespecial 84, 3, (99, 0, 0), [], []),
  (20, .athrow, 1, (0, 0, 0), [], []),
  (21, .iconst (-1), 1, (0, 0, 0), [], []),
  (22, .istore_n 2, 1, (0, 0, 0), [], []),
  (23, .iconst (-1), 1, (0, 0, 0), [], []),
  (24, .istore_n 3, 1, (0, 0, 0), [], []),
  (25, .iconst 0, 1, (0, 0, 0), [], []),
  (26, .istore 4, 2, (0, 0, 0), [], []),
  (28, .iload 4, 2, (0, 0, 0), [], []),
  (30, .aload_n 0, 1, (0, 0, 0), [], []),
  (31, .getfield 20, 3, (6, 3, 2), [], [429]),
  (34, .getfield 121, 3, (4, 1, 0), [], [151]),
  (37, .if_icmp .ge 71, 3, (108, 0, 0), [], []),
  (40, .aload_n 0, 1, (0, 0, 0), [], []),
  (41, .getfield 59, 3, (6, 8, 2), [], [434]),
  (44, .iload 4, 2, (0, 0, 0), [], []),
  (46, .invokevirtual 205, 3, (0, 58, 3), [], [1051, 117, 726, 727]),
  (49, .ifCond .eq 53, 3, (102, 0, 0), [], []),
  (52, .aload_n 0, 1, (0, 0, 0), [], []),
  (53, .getfield 63, 3, (6, 9, 2), [], [435]),
  (56, .aload_n 0, 1, (0, 0, 0), [], []),
  (57, .getfield 59, 3, (6, 8, 2), [], [434]),
  (60, .invokevirtual 178, 3, (0, 48, 3), [], [704, 117, 705, 706]),
  (63, .aload_n 0, 1, (0, 0, 0), [], []),
  (64, .getfield 63, 3, (6, 9, 2), [], [435]),
  (67, .iload 4, 2, (0, 0, 0), [], []),
  (69, .putfield 228, 3, (3, 2, 0), [], [380]),
  (72, .aload_n 0, 1, (0, 0, 0), [], []),
  (73, .getfield 63, 3, (6, 9, 2), [], [435]),
  (76, .iload_n 1, 1, (0, 0, 0), [], []),
  (77, .invokevirtual 221, 3, (0, 66, 3), [], [1066, 117, 1067, 1068]),
  (80, .aload_n 0, 1, (0, 0, 0), [], []),
  (81, .getfield 63, 3, (6, 9, 2), [], [435]),
  (84, .invokevirtual 218, 3, (0, 51, 3), [], [1065, 117, 809, 810]),
  (87, .iload_n 3, 1, (0, 0, 0), [], []),
  (88, .if_icmp .le 14, 3, (102, 0, 0), [], []),
  (91, .aload_n 0, 1, (0, 0, 0), [], []),
  (92, .getfield 63, 3, (6, 9, 2), [], [435]),
  (95, .invokevirtual 218, 3, (0, 51, 3), [], [1065, 117, 809, 810]),
  (98, .istore_n 3, 1, (0, 0, 0), [], []),
  (99, .iload 4, 2, (0, 0, 0), [], []),
  (101, .istore_n 2, 1, (0, 0, 0), [], []),
  (102, .iinc 4 1, 3, (0, 0, 0), [], []),
  (105, .goto (-77), 3, (28, 0, 0), [], []),
  (108, .iload_n 2, 1, (0, 0, 0), [], []),
  (109, .ireturn, 1, (0, 0, 0), [], [])]
/-- 125: X8_mean -/
def am_t125 : List am_E := [(0, .aload_n 0, 1, (0, 0, 0), [], []),
  (1, .getfield 20, 3, (6, 3, 2), [], [429]),
  (4, .getfield 124, 3, (4, 2, 0), [], [155]),
  (7, .ifCond .ne 5, 3, (12, 0, 0), [], []),
  (10, .dconst 0, 1, (0, 0, 0), [], []),
  (11, .dreturn, 1, (0, 0, 0), [], []),
  (12, .iconst 0, 1, (0, 0, 0), [], []),
  (13, .istore_n 1, 1, (0, 0, 0), [], []),
  (14, .iconst 0, 1, (0, 0, 0), [], []),
  (15, .istore_n 2, 1, (0, 0, 0), [], []),
  (16, .iload_n 2, 1, (0, 0, 0), [], []),
  (17, .aload_n 0, 1, (0, 0, 0), [], []),
  (18, .getfield 20, 3, (6, 3, 2), [], [429]),
  (21, .getfield 124, 3, (4, 2, 0), [], [155]),
  (24, .if_icmp .ge 20, 3, (44, 0, 0), [], []),
  (27, .iload_n 1, 1, (0, 0, 0), [], []),
  (28, .aload_n 0, 1, (0, 0, 0), [], []),
  (29, .getfield 59, 3, (6, 8, 2), [], [434]),
  (32, .iload_n 2, 1, (0, 0, 0), [], []),
  (33, .invokevirtual 175, 3, (0, 57, 3), [], [789, 117, 774, 775]),
  (36, .iadd, 1, (0, 0, 0), [], []),
  (37, .istore_n 1, 1, (0, 0, 0), [], []),
  (38, .iinc 2 1, 3, (0, 0, 0), [], []),
  (41, .goto (-25), 3, (16, 0, 0), [], []),
  (44, .iload_n 1, 1, (0, 0, 0), [], []),
  (45, .i2d, 1, (0, 0, 0), [], []),
  (46, .aload_n 0, 1, (0, 0, 0), [], []),
  (47, .getfield 20, 3, (6, 3, 2), [], [429]),
  (50, .getfield 124, 3, (4, 2, 0), [], [155]),
  (53, .i2d, 1, (0, 0, 0), [], []),
  (54, .ddiv, 1, (0, 0, 0), [], []),
  (55, .dreturn, 1, (0, 0, 0), [], [])]
/-- 126: X8_digest -/
def am_t126_0 : List am_E := [(0, .ldc2_w 231, 3, (0, 0, 0), [(881, 1)], [794]),
  (3, .lstore_n 1, 1, (0, 0, 0), [], []),
  (4, .iconst 0, 1, (0, 0, 0), [], []),
  (5, .istore_n 3, 1, (0, 0, 0), [], []),
  (6, .iload_n 3, 1, (0, 0, 0), [], []),
  (7, .bipush 11, 2, (0, 0, 0), [], []),
  (9, .if_icmp .gt 22, 3, (31, 0, 0), [], []),
  (12, .lload_n 1, 1, (0, 0, 0), [], []),
  (13, .ldc2_w 233, 3, (0, 0, 0), [(31, 1)], [795]),
  (16, .lmul, 1, (0, 0, 0), [], []),
  (17, .aload_n 0, 1, (0, 0, 0), [], []),
  (18, .iload_n 3, 1, (0, 0, 0), [], []),
  (19, .invokevirtual 112, 3, (0, 108, 6), [], [796, 108, 798, 39]),
  (22, .i2l, 1, (0, 0, 0), [], []),
  (23, .ladd, 1, (0, 0, 0), [], []),
  (24, .lstore_n 1, 1, (0, 0, 0), [], []),
  (25, .iinc 3 1, 3, (0, 0, 0), [], []),
  (28, .goto (-22), 3, (6, 0, 0), [], []),
  (31, .iconst 0, 1, (0, 0, 0), [], []),
  (32, .istore_n 3, 1, (0, 0, 0), [], []),
  (33, .iload_n 3, 1, (0, 0, 0), [], []),
  (34, .aload_n 0, 1, (0, 0, 0), [], []),
  (35, .getfield 20, 3, (6, 3, 2), [], [429]),
  (38, .getfield 118, 3, (4, 0, 0), [], [147]),
  (41, .if_icmp .ge 42, 3, (83, 0, 0), [], []),
  (44, .iconst 0, 1, (0, 0, 0), [], []),
  (45, .istore 4, 2, (0, 0, 0), [], []),
  (47, .iload 4, 2, (0, 0, 0), [], []),
  (49, .iconst 3, 1, (0, 0, 0), [], []),
  (50, .if_icmp .gt 27, 3, (77, 0, 0), [], []),
  (53, .lload_n 1, 1, (0, 0, 0), [], []),
  (54, .ldc2_w 233, 3, (0, 0, 0), [(31, 1)], [795]),
  (57, .lmul, 1, (0, 0, 0), [], []),
  (58, .aload_n 0, 1, (0, 0, 0), [], []),
  (59, .getfield 59, 3, (6, 8, 2), [], [434]),
  (62, .iload_n 3, 1, (0, 0, 0), [], []),
  (63, .iload 4, 2, (0, 0, 0), [], []),
  (65, .invokevirtual 144, 3, (0, 53, 3), [], [816, 117, 817, 818]),
  (68, .i2l, 1, (0, 0, 0), [], []),
  (69, .ladd, 1, (0, 0, 0), [], []),
  (70, .lstore_n 1, 1, (0, 0, 0), [], []),
  (71, .iinc 4 1, 3, (0, 0, 0), [], []),
  (74, .goto (-27), 3, (47, 0, 0), [], []),
  (77, .iinc 3 1, 3, (0, 0, 0), [], []),
  (80, .goto (-47), 3, (33, 0, 0), [], []),
  (83, .iconst 0, 1, (0, 0, 0), [], []),
  (84, .istore_n 3, 1, (0, 0, 0), [], []),
  (85, .iload_n 3, 1, (0, 0, 0), [], []),
  (86, .aload_n 0, 1, (0, 0, 0), [], []),
  (87, .getfield 20, 3, (6, 3, 2), [], [429]),
  (90, .getfield 121, 3, (4, 1, 0), [], [151]),
  (93, .if_icmp .ge 59, 3, (152, 0, 0), [], []),
  (96, .iconst 0, 1, (0, 0, 0), [], []),
  (97, .istore 4, 2, (0, 0, 0), [], []),
  (99, .iload 4, 2, (0, 0, 0), [], []),
  (101, .bipush 7, 2, (0, 0, 0), [], []),
  (103, .if_icmp .gt 27, 3, (130, 0, 0), [], []),
  (106, .lload_n 1, 1, (0, 0, 0), [], []),
  (107, .ldc2_w 233, 3, (0, 0, 0), [(31, 1)], [795]),
  (110, .lmul, 1, (0, 0, 0), [], [])]
def am_t126_1 : List am_E := [(111, .aload_n 0, 1, (0, 0, 0), [], []),
  (112, .getfield 59, 3, (6, 8, 2), [], [434]),
  (115, .iload_n 3, 1, (0, 0, 0), [], []),
  (116, .iload 4, 2, (0, 0, 0), [], []),
  (118, .invokevirtual 155, 3, (0, 54, 3), [], [820, 117, 821, 822]),
  (121, .i2l, 1, (0, 0, 0), [], []),
  (122, .ladd, 1, (0, 0, 0), [], []),
  (123, .lstore_n 1, 1, (0, 0, 0), [], []),
  (124, .iinc 4 1, 3, (0, 0, 0), [], []),
  (127, .goto (-28), 3, (99, 0, 0), [], []),
  (130, .lload_n 1, 1, (0, 0, 0), [], []),
  (131, .ldc2_w 233, 3, (0, 0, 0), [(31, 1)], [795]),
  (134, .lmul, 1, (0, 0, 0), [], []),
  (135, .aload_n 0, 1, (0, 0, 0), [], []),
  (136, .getfield 59, 3, (6, 8, 2), [], [434]),
  (139, .iload_n 3, 1, (0, 0, 0), [], []),
  (140, .invokevirtual 158, 3, (0, 62, 3), [], [824, 117, 730, 731]),
  (143, .i2l, 1, (0, 0, 0), [], []),
  (144, .ladd, 1, (0, 0, 0), [], []),
  (145, .lstore_n 1, 1, (0, 0, 0), [], []),
  (146, .iinc 3 1, 3, (0, 0, 0), [], []),
  (149, .goto (-64), 3, (85, 0, 0), [], []),
  (152, .iconst 0, 1, (0, 0, 0), [], []),
  (153, .istore_n 3, 1, (0, 0, 0), [], []),
  (154, .iload_n 3, 1, (0, 0, 0), [], []),
  (155, .aload_n 0, 1, (0, 0, 0), [], []),
  (156, .getfield 20, 3, (6, 3, 2), [], [429]),
  (159, .getfield 124, 3, (4, 2, 0), [], [155]),
  (162, .if_icmp .ge 42, 3, (204, 0, 0), [], []),
  (165, .iconst 0, 1, (0, 0, 0), [], []),
  (166, .istore 4, 2, (0, 0, 0), [], []),
  (168, .iload 4, 2, (0, 0, 0), [], []),
  (170, .iconst 3, 1, (0, 0, 0), [], []),
  (171, .if_icmp .gt 27, 3, (198, 0, 0), [], []),
  (174, .lload_n 1, 1, (0, 0, 0), [], []),
  (175, .ldc2_w 233, 3, (0, 0, 0), [(31, 1)], [795]),
  (178, .lmul, 1, (0, 0, 0), [], []),
  (179, .aload_n 0, 1, (0, 0, 0), [], []),
  (180, .getfield 59, 3, (6, 8, 2), [], [434]),
  (183, .iload_n 3, 1, (0, 0, 0), [], []),
  (184, .iload 4, 2, (0, 0, 0), [], []),
  (186, .invokevirtual 166, 3, (0, 55, 3), [], [825, 117, 826, 827]),
  (189, .i2l, 1, (0, 0, 0), [], []),
  (190, .ladd, 1, (0, 0, 0), [], []),
  (191, .lstore_n 1, 1, (0, 0, 0), [], []),
  (192, .iinc 4 1, 3, (0, 0, 0), [], []),
  (195, .goto (-27), 3, (168, 0, 0), [], []),
  (198, .iinc 3 1, 3, (0, 0, 0), [], []),
  (201, .goto (-47), 3, (154, 0, 0), [], []),
  (204, .lload_n 1, 1, (0, 0, 0), [], []),
  (205, .ldc2_w 233, 3, (0, 0, 0), [(31, 1)], [795]),
  (208, .lmul, 1, (0, 0, 0), [], []),
  (209, .aload_n 0, 1, (0, 0, 0), [], []),
  (210, .invokevirtual 235, 3, (0, 115, 6), [], [833, 108, 701, 702]),
  (213, .i2l, 1, (0, 0, 0), [], []),
  (214, .ladd, 1, (0, 0, 0), [], []),
  (215, .lreturn, 1, (0, 0, 0), [], [])]
def am_t126 : List am_E := am_t126_0 ++ (am_t126_1)
/-- 127: X9_init -/
def am_t127 : List am_E := [(0, .aload_n 0, 1, (0, 0, 0), [], []),
  (1, .invokespecial 3, 3, (6, 0, 0), [], [1141, 137, 138]),
  (4, .aload_n 0, 1, (0, 0, 0), [], []),
  (5, .iconst 4, 1, (0, 0, 0), [], []),
  (6, .newarray .int, 2, (20, 0, 0), [], [226]),
  (8, .putfield 9, 3, (7, 1, 2), [], [1143]),
  (11, .aload_n 0, 1, (0, 0, 0), [], []),
  (12, .bipush 12, 2, (0, 0, 0), [], []),
  (14, .newarray .int, 2, (20, 0, 0), [], [226]),
  (16, .putfield 15, 3, (7, 3, 2), [], [1148]),
  (19, .aload_n 0, 1, (0, 0, 0), [], []),
  (20, .bipush 12, 2, (0, 0, 0), [], []),
  (22, .newarray .int, 2, (20, 0, 0), [], [226]),
  (24, .putfield 18, 3, (7, 4, 2), [], [1151]),
  (27, .aload_n 0, 1, (0, 0, 0), [], []),
  (28, .bipush 12, 2, (0, 0, 0), [], []),
  (30, .newarray .int, 2, (20, 0, 0), [], [226]),
  (32, .putfield 21, 3, (7, 5, 2), [], [1154]),
  (35, .aload_n 0, 1, (0, 0, 0), [], []),
  (36, .bipush 12, 2, (0, 0, 0), [], []),
  (38, .newarray .int, 2, (20, 0, 0), [], [226]),
  (40, .putfield 24, 3, (7, 7, 2), [], [1159]),
  (43, .aload_n 0, 1, (0, 0, 0), [], []),
  (44, .bipush 100, 2, (0, 0, 0), [], []),
  (46, .putfield 27, 3, (7, 8, 0), [], [1162]),
  (49, .aload_n 0, 1, (0, 0, 0), [], []),
  (50, .bipush 12, 2, (0, 0, 0), [], []),
  (52, .newarray .int, 2, (20, 0, 0), [], [226]),
  (54, .putfield 31, 3, (7, 11, 2), [], [1167]),
  (57, .aload_n 0, 1, (0, 0, 0), [], []),
  (58, .bipush 13, 2, (0, 0, 0), [], []),
  (60, .newarray .int, 2, (20, 0, 0), [], [226]),
  (62, .putfield 34, 3, (7, 12, 2), [], [1170]),
  (65, .aload_n 0, 1, (0, 0, 0), [], []),
  (66, .bipush 13, 2, (0, 0, 0), [], []),
  (68, .newarray .int, 2, (20, 0, 0), [], [226]),
  (70, .putfield 37, 3, (7, 13, 2), [], [1173]),
  (73, .aload_n 0, 1, (0, 0, 0), [], []),
  (74, .sipush 800, 3, (0, 0, 0), [], []),
  (77, .newarray .int, 2, (20, 0, 0), [], [226]),
  (79, .putfield 40, 3, (7, 14, 2), [], [1176]),
  (82, .aload_n 0, 1, (0, 0, 0), [], []),
  (83, .sipush 400, 3, (0, 0, 0), [], []),
  (86, .newarray .int, 2, (20, 0, 0), [], [226]),
  (88, .putfield 43, 3, (7, 16, 2), [], [1180]),
  (91, .return_, 1, (0, 0, 0), [], [])]
/-- 128: X10_init -/
def am_t128 : List am_E := [(0, .aload_n 0, 1, (0, 0, 0), [], []),
  (1, .aload_n 1, 1, (0, 0, 0), [], []),
  (2, .putfield 3, 3, (8, 11, 2), [], [1245]),
  (5, .aload_n 0, 1, (0, 0, 0), [], []),
  (6, .invokespecial 9, 3, (6, 0, 0), [], [1225, 137, 138]),
  (9, .aload_n 0, 1, (0, 0, 0), [], []),
  (10, .bipush 12, 2, (0, 0, 0), [], []),
  (12, .newarray .int, 2, (20, 0, 0), [], [226]),
  (14, .putfield 15, 3, (8, 3, 2), [], [1230]),
  (17, .aload_n 0, 1, (0, 0, 0), [], []),
  (18, .bipush 12, 2, (0, 0, 0), [], []),
  (20, .newarray .int, 2, (20, 0, 0), [], [226]),
  (22, .putfield 19, 3, (8, 4, 2), [], [1232]),
  (25, .aload_n 0, 1, (0, 0, 0), [], []),
  (26, .bipush 12, 2, (0, 0, 0), [], []),
  (28, .newarray .int, 2, (20, 0, 0), [], [226]),
  (30, .putfield 22, 3, (8, 5, 2), [], [1234]),
  (33, .aload_n 0, 1, (0, 0, 0), [], []),
  (34, .bipush 12, 2, (0, 0, 0), [], []),
  (36, .newarray .int, 2, (20, 0, 0), [], [226]),
  (38, .putfield 25, 3, (8, 6, 2), [], [1236]),
  (41, .aload_n 0, 1, (0, 0, 0), [], []),
  (42, .bipush 12, 2, (0, 0, 0), [], []),
  (44, .newarray .int, 2, (20, 0, 0), [], [226]),
  (46, .putfield 28, 3, (8, 7, 2), [], [1238]),
  (49, .aload_n 0, 1, (0, 0, 0), [], []),
  (50, .bipush 12, 2, (0, 0, 0), [], []),
  (52, .newarray .int, 2, (20, 0, 0), [], [226]),
  (54, .putfield 31, 3, (8, 8, 2), [], [1240]),
  (57, .aload_n 0, 1, (0, 0, 0), [], []),
  (58, .iconst (-1), 1, (0, 0, 0), [], []),
  (59, .putfield 34, 3, (8, 9, 0), [], [1242]),
  (62, .aload_n 0, 1, (0, 0, 0), [], []),
  (63, .sipush 400, 3, (0, 0, 0), [], []),
  (66, .newarray .int, 2, (20, 0, 0), [], [226]),
  (68, .putfield 38, 3, (8, 10, 2), [], [1244]),
  (71, .return_, 1, (0, 0, 0), [], [])]
/-- 129: X10_copy -/
def am_t129 : List am_E := [(0, .aload_n 1, 1, (0, 0, 0), [], []),
  (1, .iconst 0, 1, (0, 0, 0), [], []),
  (2, .aload_n 2, 1, (0, 0, 0), [], []),
  (3, .iconst 0, 1, (0, 0, 0), [], []),
  (4, .aload_n 1, 1, (0, 0, 0), [], []),
  (5, .arraylength, 1, (0, 0, 0), [], []),
  (6, .invokestatic 41, 3, (10, 0, 0), [], [1643, 1644, 130, 1645]),
  (9, .return_, 1, (0, 0, 0), [], [])]
/-- 130: X10_become -/
def am_t130 : List am_E := [(0, .aload_n 0, 1, (0, 0, 0), [], []),
  (1, .aload_n 1, 1, (0, 0, 0), [], []),
  (2, .getfield 47, 3, (8, 0, 0), [], [1226]),
  (5, .putfield 47, 3, (8, 0, 0), [], [1226]),
  (8, .aload_n 0, 1, (0, 0, 0), [], []),
  (9, .aload_n 1, 1, (0, 0, 0), [], []),
  (10, .getfield 50, 3, (8, 1, 0), [], [1228]),
  (13, .putfield 50, 3, (8, 1, 0), [], [1228]),
  (16, .aload_n 0, 1, (0, 0, 0), [], []),
  (17, .aload_n 1, 1, (0, 0, 0), [], []),
  (18, .getfield 53, 3, (8, 2, 0), [], [1229]),
  (21, .putfield 53, 3, (8, 2, 0), [], [1229]),
  (24, .aload_n 0, 1, (0, 0, 0), [], []),
  (25, .iconst (-1), 1, (0, 0, 0), [], []),
  (26, .putfield 34, 3, (8, 9, 0), [], [1242]),
  (29, .aload_n 0, 1, (0, 0, 0), [], []),
  (30, .aload_n 1, 1, (0, 0, 0), [], []),
  (31, .getfield 15, 3, (8, 3, 2), [], [1230]),
  (34, .aload_n 0, 1, (0, 0, 0), [], []),
  (35, .getfield 15, 3, (8, 3, 2), [], [1230]),
  (38, .invokevirtual 56, 3, (0, 129, 8), [], [1639, 120, 1641, 102]),
  (41, .aload_n 0, 1, (0, 0, 0), [], []),
  (42, .aload_n 1, 1, (0, 0, 0), [], []),
  (43, .getfield 19, 3, (8, 4, 2), [], [1232]),
  (46, .aload_n 0, 1, (0, 0, 0), [], []),
  (47, .getfield 19, 3, (8, 4, 2), [], [1232]),
  (50, .invokevirtual 56, 3, (0, 129, 8), [], [1639, 120, 1641, 102]),
  (53, .aload_n 0, 1, (0, 0, 0), [], []),
  (54, .aload_n 1, 1, (0, 0, 0), [], []),
  (55, .getfield 22, 3, (8, 5, 2), [], [1234]),
  (58, .aload_n 0, 1, (0, 0, 0), [], []),
  (59, .getfield 22, 3, (8, 5, 2), [], [1234]),
  (62, .invokevirtual 56, 3, (0, 129, 8), [], [1639, 120, 1641, 102]),
  (65, .aload_n 0, 1, (0, 0, 0), [], []),
  (66, .aload_n 1, 1, (0, 0, 0), [], []),
  (67, .getfield 25, 3, (8, 6, 2), [], [1236]),
  (70, .aload_n 0, 1, (0, 0, 0), [], []),
  (71, .getfield 25, 3, (8, 6, 2), [], [1236]),
  (74, .invokevirtual 56, 3, (0, 129, 8), [], [1639, 120, 1641, 102]),
  (77, .aload_n 0, 1, (0, 0, 0), [], []),
  (78, .aload_n 1, 1, (0, 0, 0), [], []),
  (79, .getfield 28, 3, (8, 7, 2), [], [1238]),
  (82, .aload_n 0, 1, (0, 0, 0), [], []),
  (83, .getfield 28, 3, (8, 7, 2), [], [1238]),
  (86, .invokevirtual 56, 3, (0, 129, 8), [], [1639, 120, 1641, 102]),
  (89, .aload_n 0, 1, (0, 0, 0), [], []),
  (90, .aload_n 1, 1, (0, 0, 0), [], []),
  (91, .getfield 31, 3, (8, 8, 2), [], [1240]),
  (94, .aload_n 0, 1, (0, 0, 0), [], []),
  (95, .getfield 31, 3, (8, 8, 2), [], [1240]),
  (98, .invokevirtual 56, 3, (0, 129, 8), [], [1639, 120, 1641, 102]),
  (101, .aload_n 0, 1, (0, 0, 0), [], []),
  (102, .areturn, 1, (0, 0, 0), [], [])]
/-- 131: X10_begin -/
def am_t131_0 : List am_E := [(0, .aload_n 0, 1, (0, 0, 0), [], []),
  (1, .iconst 0, 1, (0, 0, 0), [], []),
  (2, .putfield 50, 3, (8, 1, 0), [], [1228]),
  (5, .aload_n 0, 1, (0, 0, 0), [], []),
  (6, .iconst 0, 1, (0, 0, 0), [], []),
  (7, .putfield 53, 3, (8, 2, 0), [], [1229]),
  (10, .iconst 0, 1, (0, 0, 0), [], []),
  (11, .istore_n 1, 1, (0, 0, 0), [], []),
  (12, .iload_n 1, 1, (0, 0, 0), [], []),
  (13, .bipush 12, 2, (0, 0, 0), [], []),
  (15, .if_icmp .ge 41, 3, (56, 0, 0), [], []),
  (18, .aload_n 0, 1, (0, 0, 0), [], []),
  (19, .getfield 15, 3, (8, 3, 2), [], [1230]),
  (22, .iload_n 1, 1, (0, 0, 0), [], []),
  (23, .iconst 0, 1, (0, 0, 0), [], []),
  (24, .iastore, 1, (0, 0, 0), [], []),
  (25, .aload_n 0, 1, (0, 0, 0), [], []),
  (26, .getfield 19, 3, (8, 4, 2), [], [1232]),
  (29, .iload_n 1, 1, (0, 0, 0), [], []),
  (30, .iconst 0, 1, (0, 0, 0), [], []),
  (31, .iastore, 1, (0, 0, 0), [], []),
  (32, .aload_n 0, 1, (0, 0, 0), [], []),
  (33, .getfield 22, 3, (8, 5, 2), [], [1234]),
  (36, .iload_n 1, 1, (0, 0, 0), [], []),
  (37, .aload_n 0, 1, (0, 0, 0), [], []),
  (38, .getfield 3, 3, (8, 11, 2), [], [1245]),
  (41, .getfield 60, 3, (9, 12, 2), [], [1289, 1]),
  (44, .getfield 64, 3, (7, 7, 2), [], [1160, 1]),
  (47, .iload_n 1, 1, (0, 0, 0), [], []),
  (48, .iaload, 1, (0, 0, 0), [], []),
  (49, .iastore, 1, (0, 0, 0), [], []),
  (50, .iinc 1 1, 3, (0, 0, 0), [], []),
  (53, .goto (-41), 3, (12, 0, 0), [], []),
  (56, .iconst 0, 1, (0, 0, 0), [], []),
  (57, .istore_n 1, 1, (0, 0, 0), [], []),
  (58, .iload_n 1, 1, (0, 0, 0), [], []),
  (59, .bipush 12, 2, (0, 0, 0), [], []),
  (61, .if_icmp .ge 41, 3, (102, 0, 0), [], []),
  (64, .aload_n 0, 1, (0, 0, 0), [], []),
  (65, .getfield 25, 3, (8, 6, 2), [], [1236]),
  (68, .iload_n 1, 1, (0, 0, 0), [], []),
  (69, .aload_n 0, 1, (0, 0, 0), [], []),
  (70, .getfield 3, 3, (8, 11, 2), [], [1245]),
  (73, .getfield 60, 3, (9, 12, 2), [], [1289, 1]),
  (76, .getfield 67, 3, (7, 3, 2), [], [1149, 1]),
  (79, .iload_n 1, 1, (0, 0, 0), [], []),
  (80, .iaload, 1, (0, 0, 0), [], []),
  (81, .iastore, 1, (0, 0, 0), [], []),
  (82, .aload_n 0, 1, (0, 0, 0), [], []),
  (83, .getfield 28, 3, (8, 7, 2), [], [1238]),
  (86, .iload_n 1, 1, (0, 0, 0), [], []),
  (87, .iconst (-1), 1, (0, 0, 0), [], []),
  (88, .iastore, 1, (0, 0, 0), [], []),
  (89, .aload_n 0, 1, (0, 0, 0), [], []),
  (90, .getfield 31, 3, (8, 8, 2), [], [1240]),
  (93, .iload_n 1, 1, (0, 0, 0), [], []),
  (94, .iconst 0, 1, (0, 0, 0), [], []),
  (95, .iastore, 1, (0, 0, 0), [], []),
  (96, .iinc 1 1, 3, (0, 0, 0), [], []),
  (99, .goto (-41), 3, (58, 0, 0), [], [])]
def am_t131_1 : List am_E := [(102, .return_, 1, (0, 0, 0), [], [])]
def am_t131 : List am_E := am_t131_0 ++ (am_t131_1)
/-- 132: X10_isFan -/
def am_t132 : List am_E := [(0, .aload_n 0, 1, (0, 0, 0), [], []),
  (1, .getfield 22, 3, (8, 5, 2), [], [1234]),
  (4, .iload_n 1, 1, (0, 0, 0), [], []),
  (5, .iaload, 1, (0, 0, 0), [], []),
  (6, .iload_n 2, 1, (0, 0, 0), [], []),
  (7, .ishr, 1, (0, 0, 0), [], []),
  (8, .iconst 1, 1, (0, 0, 0), [], []),
  (9, .iand, 1, (0, 0, 0), [], []),
  (10, .iconst 1, 1, (0, 0, 0), [], []),
  (11, .if_icmp .ne 7, 3, (18, 0, 0), [], []),
  (14, .iconst 1, 1, (0, 0, 0), [], []),
  (15, .goto 4, 3, (19, 0, 0), [], []),
  (18, .iconst 0, 1, (0, 0, 0), [], []),
  (19, .ireturn, 1, (1, 0, 0), [], [])]
/-- 133: X10_fans -/
def am_t133 : List am_E := [(0, .iconst 0, 1, (0, 0, 0), [], []),
  (1, .istore_n 2, 1, (0, 0, 0), [], []),
  (2, .iconst 0, 1, (0, 0, 0), [], []),
  (3, .istore_n 3, 1, (0, 0, 0), [], []),
  (4, .iload_n 3, 1, (0, 0, 0), [], []),
  (5, .aload_n 0, 1, (0, 0, 0), [], []),
  (6, .getfield 3, 3, (8, 11, 2), [], [1245]),
  (9, .getfield 60, 3, (9, 12, 2), [], [1289, 1]),
  (12, .getfield 68, 3, (7, 6, 0), [], [1157, 1]),
  (15, .if_icmp .ge 26, 3, (41, 0, 0), [], []),
  (18, .iload_n 2, 1, (0, 0, 0), [], []),
  (19, .aload_n 0, 1, (0, 0, 0), [], []),
  (20, .iload_n 3, 1, (0, 0, 0), [], []),
  (21, .iload_n 1, 1, (0, 0, 0), [], []),
  (22, .invokevirtual 71, 3, (0, 132, 8), [], [1562, 120, 1563, 1564]),
  (25, .ifCond .eq 7, 3, (32, 0, 0), [], []),
  (28, .iconst 1, 1, (0, 0, 0), [], []),
  (29, .goto 4, 3, (33, 0, 0), [], []),
  (32, .iconst 0, 1, (0, 0, 0), [], []),
  (33, .iadd, 1, (0, 0, 0), [], []),
  (34, .istore_n 2, 1, (0, 0, 0), [], []),
  (35, .iinc 3 1, 3, (0, 0, 0), [], []),
  (38, .goto (-34), 3, (4, 0, 0), [], []),
  (41, .iload_n 2, 1, (0, 0, 0), [], []),
  (42, .ireturn, 1, (0, 0, 0), [], [])]
/-- 134: X10_together -/
def am_t134 : List am_E := [(0, .iconst 0, 1, (0, 0, 0), [], []),
  (1, .istore_n 3, 1, (0, 0, 0), [], []),
  (2, .iconst 0, 1, (0, 0, 0), [], []),
  (3, .istore 4, 2, (0, 0, 0), [], []),
  (5, .iload 4, 2, (0, 0, 0), [], []),
  (7, .aload_n 0, 1, (0, 0, 0), [], []),
  (8, .getfield 3, 3, (8, 11, 2), [], [1245]),
  (11, .getfield 60, 3, (9, 12, 2), [], [1289, 1]),
  (14, .getfield 68, 3, (7, 6, 0), [], [1157, 1]),
  (17, .if_icmp .ge 37, 3, (54, 0, 0), [], []),
  (20, .iload_n 3, 1, (0, 0, 0), [], []),
  (21, .aload_n 0, 1, (0, 0, 0), [], []),
  (22, .iload 4, 2, (0, 0, 0), [], []),
  (24, .iload_n 1, 1, (0, 0, 0), [], []),
  (25, .invokevirtual 71, 3, (0, 132, 8), [], [1562, 120, 1563, 1564]),
  (28, .ifCond .eq 17, 3, (45, 0, 0), [], []),
  (31, .iload_n 2, 1, (0, 0, 0), [], []),
  (32, .aload_n 0, 1, (0, 0, 0), [], []),
  (33, .getfield 15, 3, (8, 3, 2), [], [1230]),
  (36, .iload 4, 2, (0, 0, 0), [], []),
  (38, .iaload, 1, (0, 0, 0), [], []),
  (39, .invokestatic 75, 3, (7, 0, 0), [], [1594, 466, 126, 467]),
  (42, .goto 4, 3, (46, 0, 0), [], []),
  (45, .iconst 0, 1, (0, 0, 0), [], []),
  (46, .iadd, 1, (0, 0, 0), [], []),
  (47, .istore_n 3, 1, (0, 0, 0), [], []),
  (48, .iinc 4 1, 3, (0, 0, 0), [], []),
  (51, .goto (-46), 3, (5, 0, 0), [], []),
  (54, .iload_n 3, 1, (0, 0, 0), [], []),
  (55, .ireturn, 1, (0, 0, 0), [], [])]
/-- 135: X10_share -/
def am_t135 : List am_E := [(0, .aload_n 0, 1, (0, 0, 0), [], []),
  (1, .iload_n 1, 1, (0, 0, 0), [], []),
  (2, .sipush 9999, 3, (0, 0, 0), [], []),
  (5, .invokevirtual 81, 3, (0, 134, 8), [], [1603, 120, 1591, 1592]),
  (8, .aload_n 0, 1, (0, 0, 0), [], []),
  (9, .getfield 25, 3, (8, 6, 2), [], [1236]),
  (12, .iload_n 1, 1, (0, 0, 0), [], []),
  (13, .iaload, 1, (0, 0, 0), [], []),
  (14, .if_icmp .ge 5, 3, (19, 0, 0), [], []),
  (17, .iconst (-1), 1, (0, 0, 0), [], []),
  (18, .ireturn, 1, (0, 0, 0), [], []),
  (19, .iconst 1, 1, (0, 0, 0), [], []),
  (20, .istore_n 2, 1, (0, 0, 0), [], []),
  (21, .sipush 9999, 3, (0, 0, 0), [], []),
  (24, .istore_n 3, 1, (0, 0, 0), [], []),
  (25, .iload_n 2, 1, (0, 0, 0), [], []),
  (26, .iload_n 3, 1, (0, 0, 0), [], []),
  (27, .if_icmp .ge 40, 3, (67, 0, 0), [], []),
  (30, .iload_n 2, 1, (0, 0, 0), [], []),
  (31, .iload_n 3, 1, (0, 0, 0), [], []),
  (32, .iadd, 1, (0, 0, 0), [], []),
  (33, .iconst 2, 1, (0, 0, 0), [], []),
  (34, .idiv, 1, (0, 0, 0), [], []),
  (35, .istore 4, 2, (0, 0, 0), [], []),
  (37, .aload_n 0, 1, (0, 0, 0), [], []),
  (38, .iload_n 1, 1, (0, 0, 0), [], []),
  (39, .iload 4, 2, (0, 0, 0), [], []),
  (41, .invokevirtual 81, 3, (0, 134, 8), [], [1603, 120, 1591, 1592]),
  (44, .aload_n 0, 1, (0, 0, 0), [], []),
  (45, .getfield 25, 3, (8, 6, 2), [], [1236]),
  (48, .iload_n 1, 1, (0, 0, 0), [], []),
  (49, .iaload, 1, (0, 0, 0), [], []),
  (50, .if_icmp .ge 11, 3, (61, 0, 0), [], []),
  (53, .iload 4, 2, (0, 0, 0), [], []),
  (55, .iconst 1, 1, (0, 0, 0), [], []),
  (56, .iadd, 1, (0, 0, 0), [], []),
  (57, .istore_n 2, 1, (0, 0, 0), [], []),
  (58, .goto 6, 3, (64, 0, 0), [], []),
  (61, .iload 4, 2, (0, 0, 0), [], []),
  (63, .istore_n 3, 1, (0, 0, 0), [], []),
  (64, .goto (-39), 3, (25, 0, 0), [], []),
  (67, .iload_n 2, 1, (0, 0, 0), [], []),
  (68, .ireturn, 1, (0, 0, 0), [], [])]
/-- 136: X10_pleased -/
def am_t136 : List am_E := [(0, .iconst 0, 1, (0, 0, 0), [], []),
  (1, .istore_n 2, 1, (0, 0, 0), [], []),
  (2, .iconst 0, 1, (0, 0, 0), [], []),
  (3, .istore_n 3, 1, (0, 0, 0), [], []),
  (4, .iload_n 3, 1, (0, 0, 0), [], []),
  (5, .aload_n 0, 1, (0, 0, 0), [], []),
  (6, .getfield 3, 3, (8, 11, 2), [], [1245]),
  (9, .getfield 60, 3, (9, 12, 2), [], [1289, 1]),
  (12, .getfield 84, 3, (7, 2, 0), [], [1147, 1]),
  (15, .if_icmp .ge 36, 3, (51, 0, 0), [], []),
  (18, .iload_n 2, 1, (0, 0, 0), [], []),
  (19, .aload_n 0, 1, (0, 0, 0), [], []),
  (20, .iload_n 1, 1, (0, 0, 0), [], []),
  (21, .iload_n 3, 1, (0, 0, 0), [], []),
  (22, .invokevirtual 71, 3, (0, 132, 8), [], [1562, 120, 1563, 1564]),
  (25, .ifCond .eq 17, 3, (42, 0, 0), [], []),
  (28, .aload_n 0, 1, (0, 0, 0), [], []),
  (29, .getfield 28, 3, (8, 7, 2), [], [1238]),
  (32, .iload_n 3, 1, (0, 0, 0), [], []),
  (33, .iaload, 1, (0, 0, 0), [], []),
  (34, .iconst (-1), 1, (0, 0, 0), [], []),
  (35, .if_icmp .eq 7, 3, (42, 0, 0), [], []),
  (38, .iconst 1, 1, (0, 0, 0), [], []),
  (39, .goto 4, 3, (43, 0, 0), [], []),
  (42, .iconst 0, 1, (0, 0, 0), [], []),
  (43, .iadd, 1, (0, 0, 0), [], []),
  (44, .istore_n 2, 1, (0, 0, 0), [], []),
  (45, .iinc 3 1, 3, (0, 0, 0), [], []),
  (48, .goto (-44), 3, (4, 0, 0), [], []),
  (51, .iload_n 2, 1, (0, 0, 0), [], []),
  (52, .ireturn, 1, (0, 0, 0), [], [])]
/-- 137: X10_isBanned -/
def am_t137 : List am_E := [(0, .iconst 0, 1, (0, 0, 0), [], []),
  (1, .istore_n 2, 1, (0, 0, 0), [], []),
  (2, .iload_n 2, 1, (0, 0, 0), [], []),
  (3, .aload_n 0, 1, (0, 0, 0), [], []),
  (4, .getfield 3, 3, (8, 11, 2), [], [1245]),
  (7, .getfield 60, 3, (9, 12, 2), [], [1289, 1]),
  (10, .getfield 87, 3, (7, 9, 0), [], [1164, 1]),
  (13, .if_icmp .ge 59, 3, (72, 0, 0), [], []),
  (16, .aload_n 0, 1, (0, 0, 0), [], []),
  (17, .getfield 3, 3, (8, 11, 2), [], [1245]),
  (20, .getfield 60, 3, (9, 12, 2), [], [1289, 1]),
  (23, .getfield 90, 3, (7, 11, 2), [], [1168, 1]),
  (26, .iload_n 2, 1, (0, 0, 0), [], []),
  (27, .iaload, 1, (0, 0, 0), [], []),
  (28, .iload_n 1, 1, (0, 0, 0), [], []),
  (29, .if_icmp .ne 37, 3, (66, 0, 0), [], []),
  (32, .aload_n 0, 1, (0, 0, 0), [], []),
  (33, .aload_n 0, 1, (0, 0, 0), [], []),
  (34, .getfield 3, 3, (8, 11, 2), [], [1245]),
  (37, .getfield 60, 3, (9, 12, 2), [], [1289, 1]),
  (40, .getfield 93, 3, (7, 12, 2), [], [1171, 1]),
  (43, .iload_n 2, 1, (0, 0, 0), [], []),
  (44, .iaload, 1, (0, 0, 0), [], []),
  (45, .aload_n 0, 1, (0, 0, 0), [], []),
  (46, .getfield 3, 3, (8, 11, 2), [], [1245]),
  (49, .getfield 60, 3, (9, 12, 2), [], [1289, 1]),
  (52, .getfield 96, 3, (7, 13, 2), [], [1174, 1]),
  (55, .iload_n 2, 1, (0, 0, 0), [], []),
  (56, .iaload, 1, (0, 0, 0), [], []),
  (57, .invokevirtual 99, 3, (0, 149, 8), [], [1570, 120, 1572, 97]),
  (60, .iconst 1, 1, (0, 0, 0), [], []),
  (61, .if_icmp .ne 5, 3, (66, 0, 0), [], []),
  (64, .iconst 1, 1, (0, 0, 0), [], []),
  (65, .ireturn, 1, (1, 0, 0), [], []),
  (66, .iinc 2 1, 3, (0, 0, 0), [], []),
  (69, .goto (-67), 3, (2, 0, 0), [], []),
  (72, .iconst 0, 1, (0, 0, 0), [], []),
  (73, .ireturn, 1, (1, 0, 0), [], [])]
/-- 138: X10_canBeChosen -/
def am_t138_0 : List am_E := [(0, .iload_n 1, 1, (0, 0, 0), [], []),
  (1, .aload_n 0, 1, (0, 0, 0), [], []),
  (2, .getfield 34, 3, (8, 9, 0), [], [1242]),
  (5, .if_icmp .eq 13, 3, (18, 0, 0), [], []),
  (8, .aload_n 0, 1, (0, 0, 0), [], []),
  (9, .getfield 28, 3, (8, 7, 2), [], [1238]),
  (12, .iload_n 1, 1, (0, 0, 0), [], []),
  (13, .iaload, 1, (0, 0, 0), [], []),
  (14, .iconst (-1), 1, (0, 0, 0), [], []),
  (15, .if_icmp .eq 5, 3, (20, 0, 0), [], []),
  (18, .iconst 0, 1, (0, 0, 0), [], []),
  (19, .ireturn, 1, (1, 0, 0), [], []),
  (20, .iconst 0, 1, (0, 0, 0), [], []),
  (21, .istore_n 2, 1, (0, 0, 0), [], []),
  (22, .iconst 0, 1, (0, 0, 0), [], []),
  (23, .istore_n 3, 1, (0, 0, 0), [], []),
  (24, .iload_n 3, 1, (0, 0, 0), [], []),
  (25, .aload_n 0, 1, (0, 0, 0), [], []),
  (26, .getfield 3, 3, (8, 11, 2), [], [1245]),
  (29, .getfield 60, 3, (9, 12, 2), [], [1289, 1]),
  (32, .getfield 84, 3, (7, 2, 0), [], [1147, 1]),
  (35, .if_icmp .ge 57, 3, (92, 0, 0), [], []),
  (38, .iload_n 2, 1, (0, 0, 0), [], []),
  (39, .aload_n 0, 1, (0, 0, 0), [], []),
  (40, .getfield 3, 3, (8, 11, 2), [], [1245]),
  (43, .getfield 60, 3, (9, 12, 2), [], [1289, 1]),
  (46, .getfield 102, 3, (7, 4, 2), [], [1152, 1]),
  (49, .iload_n 3, 1, (0, 0, 0), [], []),
  (50, .iaload, 1, (0, 0, 0), [], []),
  (51, .aload_n 0, 1, (0, 0, 0), [], []),
  (52, .getfield 3, 3, (8, 11, 2), [], [1245]),
  (55, .getfield 60, 3, (9, 12, 2), [], [1289, 1]),
  (58, .getfield 102, 3, (7, 4, 2), [], [1152, 1]),
  (61, .iload_n 1, 1, (0, 0, 0), [], []),
  (62, .iaload, 1, (0, 0, 0), [], []),
  (63, .if_icmp .ne 20, 3, (83, 0, 0), [], []),
  (66, .aload_n 0, 1, (0, 0, 0), [], []),
  (67, .getfield 28, 3, (8, 7, 2), [], [1238]),
  (70, .iload_n 3, 1, (0, 0, 0), [], []),
  (71, .iaload, 1, (0, 0, 0), [], []),
  (72, .aload_n 0, 1, (0, 0, 0), [], []),
  (73, .getfield 47, 3, (8, 0, 0), [], [1226]),
  (76, .if_icmp .ne 7, 3, (83, 0, 0), [], []),
  (79, .iconst 1, 1, (0, 0, 0), [], []),
  (80, .goto 4, 3, (84, 0, 0), [], []),
  (83, .iconst 0, 1, (0, 0, 0), [], []),
  (84, .iadd, 1, (0, 0, 0), [], []),
  (85, .istore_n 2, 1, (0, 0, 0), [], []),
  (86, .iinc 3 1, 3, (0, 0, 0), [], []),
  (89, .goto (-65), 3, (24, 0, 0), [], []),
  (92, .iload_n 2, 1, (0, 0, 0), [], []),
  (93, .aload_n 0, 1, (0, 0, 0), [], []),
  (94, .getfield 3, 3, (8, 11, 2), [], [1245]),
  (97, .getfield 60, 3, (9, 12, 2), [], [1289, 1]),
  (100, .getfield 105, 3, (7, 1, 2), [], [1144, 1]),
  (103, .aload_n 0, 1, (0, 0, 0), [], []),
  (104, .getfield 3, 3, (8, 11, 2), [], [1245]),
  (107, .getfield 60, 3, (9, 12, 2), [], [1289, 1]),
  (110, .getfield 102, 3, (7, 4, 2), [], [1152, 1]),
  (113, .iload_n 1, 1, (0, 0, 0), [], [])]
def am_t138_1 : List am_E := [(114, .iaload, 1, (0, 0, 0), [], []),
  (115, .iaload, 1, (0, 0, 0), [], []),
  (116, .if_icmp .ge 15, 3, (131, 0, 0), [], []),
  (119, .aload_n 0, 1, (0, 0, 0), [], []),
  (120, .iload_n 1, 1, (0, 0, 0), [], []),
  (121, .invokevirtual 108, 3, (0, 137, 8), [], [1658, 120, 1567, 1568]),
  (124, .ifCond .ne 7, 3, (131, 0, 0), [], []),
  (127, .iconst 1, 1, (0, 0, 0), [], []),
  (128, .goto 4, 3, (132, 0, 0), [], []),
  (131, .iconst 0, 1, (0, 0, 0), [], []),
  (132, .ireturn, 1, (1, 0, 0), [], [])]
def am_t138 : List am_E := am_t138_0 ++ (am_t138_1)
/-- 139: X10_pay -/
def am_t139 : List am_E := [(0, .aload_n 0, 1, (0, 0, 0), [], []),
  (1, .getfield 3, 3, (8, 11, 2), [], [1245]),
  (4, .getfield 60, 3, (9, 12, 2), [], [1289, 1]),
  (7, .getfield 68, 3, (7, 6, 0), [], [1157, 1]),
  (10, .ifCond .ne 7, 3, (17, 0, 0), [], []),
  (13, .iconst 0, 1, (0, 0, 0), [], []),
  (14, .goto 21, 3, (35, 0, 0), [], []),
  (17, .aload_n 0, 1, (0, 0, 0), [], []),
  (18, .getfield 3, 3, (8, 11, 2), [], [1245]),
  (21, .getfield 112, 3, (9, 4, 0), [], [1280, 1]),
  (24, .aload_n 0, 1, (0, 0, 0), [], []),
  (25, .getfield 3, 3, (8, 11, 2), [], [1245]),
  (28, .getfield 60, 3, (9, 12, 2), [], [1289, 1]),
  (31, .getfield 68, 3, (7, 6, 0), [], [1157, 1]),
  (34, .idiv, 1, (0, 0, 0), [], []),
  (35, .istore_n 1, 1, (0, 0, 0), [], []),
  (36, .iconst 0, 1, (0, 0, 0), [], []),
  (37, .istore_n 2, 1, (0, 0, 0), [], []),
  (38, .iload_n 2, 1, (0, 0, 0), [], []),
  (39, .aload_n 0, 1, (0, 0, 0), [], []),
  (40, .getfield 3, 3, (8, 11, 2), [], [1245]),
  (43, .getfield 60, 3, (9, 12, 2), [], [1289, 1]),
  (46, .getfield 68, 3, (7, 6, 0), [], [1157, 1]),
  (49, .if_icmp .ge 29, 3, (78, 0, 0), [], []),
  (52, .aload_n 0, 1, (0, 0, 0), [], []),
  (53, .getfield 15, 3, (8, 3, 2), [], [1230]),
  (56, .iload_n 2, 1, (0, 0, 0), [], []),
  (57, .sipush 9999, 3, (0, 0, 0), [], []),
  (60, .aload_n 0, 1, (0, 0, 0), [], []),
  (61, .getfield 15, 3, (8, 3, 2), [], [1230]),
  (64, .iload_n 2, 1, (0, 0, 0), [], []),
  (65, .iaload, 1, (0, 0, 0), [], []),
  (66, .iload_n 1, 1, (0, 0, 0), [], []),
  (67, .iadd, 1, (0, 0, 0), [], []),
  (68, .invokestatic 75, 3, (7, 0, 0), [], [1594, 466, 126, 467]),
  (71, .iastore, 1, (0, 0, 0), [], []),
  (72, .iinc 2 1, 3, (0, 0, 0), [], []),
  (75, .goto (-37), 3, (38, 0, 0), [], []),
  (78, .aload_n 0, 1, (0, 0, 0), [], []),
  (79, .sipush 9999, 3, (0, 0, 0), [], []),
  (82, .aload_n 0, 1, (0, 0, 0), [], []),
  (83, .getfield 50, 3, (8, 1, 0), [], [1228]),
  (86, .aload_n 0, 1, (0, 0, 0), [], []),
  (87, .getfield 3, 3, (8, 11, 2), [], [1245]),
  (90, .getfield 112, 3, (9, 4, 0), [], [1280, 1]),
  (93, .iadd, 1, (0, 0, 0), [], []),
  (94, .iload_n 1, 1, (0, 0, 0), [], []),
  (95, .aload_n 0, 1, (0, 0, 0), [], []),
  (96, .getfield 3, 3, (8, 11, 2), [], [1245]),
  (99, .getfield 60, 3, (9, 12, 2), [], [1289, 1]),
  (102, .getfield 68, 3, (7, 6, 0), [], [1157, 1]),
  (105, .imul, 1, (0, 0, 0), [], []),
  (106, .isub, 1, (0, 0, 0), [], []),
  (107, .invokestatic 75, 3, (7, 0, 0), [], [1594, 466, 126, 467]),
  (110, .putfield 50, 3, (8, 1, 0), [], [1228]),
  (113, .return_, 1, (0, 0, 0), [], [])]
/-- 140: X10_next -/
def am_t140 : List am_E := [(0, .iconst (-1), 1, (0, 0, 0), [], []),
  (1, .istore_n 1, 1, (0, 0, 0), [], []),
  (2, .iconst 0, 1, (0, 0, 0), [], []),
  (3, .istore_n 2, 1, (0, 0, 0), [], []),
  (4, .iconst 0, 1, (0, 0, 0), [], []),
  (5, .istore_n 3, 1, (0, 0, 0), [], []),
  (6, .iload_n 3, 1, (0, 0, 0), [], []),
  (7, .aload_n 0, 1, (0, 0, 0), [], []),
  (8, .getfield 3, 3, (8, 11, 2), [], [1245]),
  (11, .getfield 60, 3, (9, 12, 2), [], [1289, 1]),
  (14, .getfield 84, 3, (7, 2, 0), [], [1147, 1]),
  (17, .if_icmp .ge 72, 3, (89, 0, 0), [], []),
  (20, .aload_n 0, 1, (0, 0, 0), [], []),
  (21, .iload_n 3, 1, (0, 0, 0), [], []),
  (22, .invokevirtual 115, 3, (0, 138, 8), [], [1654, 120, 1656, 103]),
  (25, .ifCond .eq 11, 3, (36, 0, 0), [], []),
  (28, .aload_n 0, 1, (0, 0, 0), [], []),
  (29, .iload_n 3, 1, (0, 0, 0), [], []),
  (30, .invokevirtual 118, 3, (0, 135, 8), [], [1659, 120, 1600, 1601]),
  (33, .goto 4, 3, (37, 0, 0), [], []),
  (36, .iconst (-1), 1, (0, 0, 0), [], []),
  (37, .istore 4, 2, (0, 0, 0), [], []),
  (39, .iload 4, 2, (0, 0, 0), [], []),
  (41, .iconst (-1), 1, (0, 0, 0), [], []),
  (42, .if_icmp .eq 41, 3, (83, 0, 0), [], []),
  (45, .iload_n 1, 1, (0, 0, 0), [], []),
  (46, .iconst (-1), 1, (0, 0, 0), [], []),
  (47, .if_icmp .eq 31, 3, (78, 0, 0), [], []),
  (50, .iload 4, 2, (0, 0, 0), [], []),
  (52, .iload_n 2, 1, (0, 0, 0), [], []),
  (53, .if_icmp .gt 30, 3, (83, 0, 0), [], []),
  (56, .iload 4, 2, (0, 0, 0), [], []),
  (58, .iload_n 2, 1, (0, 0, 0), [], []),
  (59, .if_icmp .ne 19, 3, (78, 0, 0), [], []),
  (62, .aload_n 0, 1, (0, 0, 0), [], []),
  (63, .iload_n 3, 1, (0, 0, 0), [], []),
  (64, .invokevirtual 122, 3, (0, 133, 8), [], [1581, 120, 1559, 1560]),
  (67, .aload_n 0, 1, (0, 0, 0), [], []),
  (68, .iload_n 1, 1, (0, 0, 0), [], []),
  (69, .invokevirtual 122, 3, (0, 133, 8), [], [1581, 120, 1559, 1560]),
  (72, .if_icmp .gt 6, 3, (78, 0, 0), [], []),
  (75, .goto 8, 3, (83, 0, 0), [], []),
  (78, .iload_n 3, 1, (0, 0, 0), [], []),
  (79, .istore_n 1, 1, (0, 0, 0), [], []),
  (80, .iload 4, 2, (0, 0, 0), [], []),
  (82, .istore_n 2, 1, (0, 0, 0), [], []),
  (83, .iinc 3 1, 3, (0, 0, 0), [], []),
  (86, .goto (-80), 3, (6, 0, 0), [], []),
  (89, .iload_n 1, 1, (0, 0, 0), [], []),
  (90, .ireturn, 1, (0, 0, 0), [], [])]
/-- 141: X10_buy -/
def am_t141_0 : List am_E := [(0, .aload_n 0, 1, (0, 0, 0), [], []),
  (1, .iload_n 1, 1, (0, 0, 0), [], []),
  (2, .invokevirtual 118, 3, (0, 135, 8), [], [1659, 120, 1600, 1601]),
  (5, .istore_n 2, 1, (0, 0, 0), [], []),
  (6, .aload_n 0, 1, (0, 0, 0), [], []),
  (7, .iload_n 1, 1, (0, 0, 0), [], []),
  (8, .iload_n 2, 1, (0, 0, 0), [], []),
  (9, .invokevirtual 81, 3, (0, 134, 8), [], [1603, 120, 1591, 1592]),
  (12, .aload_n 0, 1, (0, 0, 0), [], []),
  (13, .getfield 25, 3, (8, 6, 2), [], [1236]),
  (16, .iload_n 1, 1, (0, 0, 0), [], []),
  (17, .iaload, 1, (0, 0, 0), [], []),
  (18, .isub, 1, (0, 0, 0), [], []),
  (19, .istore_n 3, 1, (0, 0, 0), [], []),
  (20, .iconst 0, 1, (0, 0, 0), [], []),
  (21, .istore 4, 2, (0, 0, 0), [], []),
  (23, .iload 4, 2, (0, 0, 0), [], []),
  (25, .aload_n 0, 1, (0, 0, 0), [], []),
  (26, .getfield 3, 3, (8, 11, 2), [], [1245]),
  (29, .getfield 60, 3, (9, 12, 2), [], [1289, 1]),
  (32, .getfield 68, 3, (7, 6, 0), [], [1157, 1]),
  (35, .if_icmp .ge 75, 3, (110, 0, 0), [], []),
  (38, .aload_n 0, 1, (0, 0, 0), [], []),
  (39, .iload 4, 2, (0, 0, 0), [], []),
  (41, .iload_n 1, 1, (0, 0, 0), [], []),
  (42, .invokevirtual 71, 3, (0, 132, 8), [], [1562, 120, 1563, 1564]),
  (45, .ifCond .ne 6, 3, (51, 0, 0), [], []),
  (48, .goto 56, 3, (104, 0, 0), [], []),
  (51, .iload_n 2, 1, (0, 0, 0), [], []),
  (52, .aload_n 0, 1, (0, 0, 0), [], []),
  (53, .getfield 15, 3, (8, 3, 2), [], [1230]),
  (56, .iload 4, 2, (0, 0, 0), [], []),
  (58, .iaload, 1, (0, 0, 0), [], []),
  (59, .invokestatic 75, 3, (7, 0, 0), [], [1594, 466, 126, 467]),
  (62, .istore 5, 2, (0, 0, 0), [], []),
  (64, .iload 5, 2, (0, 0, 0), [], []),
  (66, .iload_n 2, 1, (0, 0, 0), [], []),
  (67, .if_icmp .ne 13, 3, (80, 0, 0), [], []),
  (70, .iload_n 3, 1, (0, 0, 0), [], []),
  (71, .ifCond .le 9, 3, (80, 0, 0), [], []),
  (74, .iinc 5 (-1), 3, (0, 0, 0), [], []),
  (77, .iinc 3 (-1), 3, (0, 0, 0), [], []),
  (80, .aload_n 0, 1, (0, 0, 0), [], []),
  (81, .getfield 15, 3, (8, 3, 2), [], [1230]),
  (84, .iload 4, 2, (0, 0, 0), [], []),
  (86, .dup2, 1, (0, 0, 0), [], []),
  (87, .iaload, 1, (0, 0, 0), [], []),
  (88, .iload 5, 2, (0, 0, 0), [], []),
  (90, .isub, 1, (0, 0, 0), [], []),
  (91, .iastore, 1, (0, 0, 0), [], []),
  (92, .aload_n 0, 1, (0, 0, 0), [], []),
  (93, .getfield 19, 3, (8, 4, 2), [], [1232]),
  (96, .iload 4, 2, (0, 0, 0), [], []),
  (98, .dup2, 1, (0, 0, 0), [], []),
  (99, .iaload, 1, (0, 0, 0), [], []),
  (100, .iload 5, 2, (0, 0, 0), [], []),
  (102, .iadd, 1, (0, 0, 0), [], []),
  (103, .iastore, 1, (0, 0, 0), [], []),
  (104, .iinc 4 1, 3, (0, 0, 0), [], []),
  (107, .goto (-84), 3, (23, 0, 0), [], [])]
def am_t141_1 : List am_E := [(110, .aload_n 0, 1, (0, 0, 0), [], []),
  (111, .getfield 31, 3, (8, 8, 2), [], [1240]),
  (114, .iload_n 1, 1, (0, 0, 0), [], []),
  (115, .iconst 1, 1, (0, 0, 0), [], []),
  (116, .iastore, 1, (0, 0, 0), [], []),
  (117, .aload_n 0, 1, (0, 0, 0), [], []),
  (118, .iload_n 1, 1, (0, 0, 0), [], []),
  (119, .invokevirtual 125, 3, (0, 142, 8), [], [1690, 120, 1692, 105]),
  (122, .return_, 1, (0, 0, 0), [], [])]
def am_t141 : List am_E := am_t141_0 ++ (am_t141_1)
/-- 142: X10_build -/
def am_t142 : List am_E := [(0, .aload_n 0, 1, (0, 0, 0), [], []),
  (1, .getfield 28, 3, (8, 7, 2), [], [1238]),
  (4, .iload_n 1, 1, (0, 0, 0), [], []),
  (5, .aload_n 0, 1, (0, 0, 0), [], []),
  (6, .getfield 47, 3, (8, 0, 0), [], [1226]),
  (9, .iastore, 1, (0, 0, 0), [], []),
  (10, .aload_n 0, 1, (0, 0, 0), [], []),
  (11, .dup, 1, (0, 0, 0), [], []),
  (12, .getfield 53, 3, (8, 2, 0), [], [1229]),
  (15, .aload_n 0, 1, (0, 0, 0), [], []),
  (16, .getfield 25, 3, (8, 6, 2), [], [1236]),
  (19, .iload_n 1, 1, (0, 0, 0), [], []),
  (20, .iaload, 1, (0, 0, 0), [], []),
  (21, .iadd, 1, (0, 0, 0), [], []),
  (22, .putfield 53, 3, (8, 2, 0), [], [1229]),
  (25, .return_, 1, (0, 0, 0), [], [])]
/-- 143: X10_nextOfPot -/
def am_t143 : List am_E := [(0, .iconst (-1), 1, (0, 0, 0), [], []),
  (1, .istore_n 1, 1, (0, 0, 0), [], []),
  (2, .iconst 0, 1, (0, 0, 0), [], []),
  (3, .istore_n 2, 1, (0, 0, 0), [], []),
  (4, .iload_n 2, 1, (0, 0, 0), [], []),
  (5, .aload_n 0, 1, (0, 0, 0), [], []),
  (6, .getfield 3, 3, (8, 11, 2), [], [1245]),
  (9, .getfield 60, 3, (9, 12, 2), [], [1289, 1]),
  (12, .getfield 84, 3, (7, 2, 0), [], [1147, 1]),
  (15, .if_icmp .ge 79, 3, (94, 0, 0), [], []),
  (18, .aload_n 0, 1, (0, 0, 0), [], []),
  (19, .getfield 25, 3, (8, 6, 2), [], [1236]),
  (22, .iload_n 2, 1, (0, 0, 0), [], []),
  (23, .iaload, 1, (0, 0, 0), [], []),
  (24, .aload_n 0, 1, (0, 0, 0), [], []),
  (25, .getfield 50, 3, (8, 1, 0), [], [1228]),
  (28, .if_icmp .gt 60, 3, (88, 0, 0), [], []),
  (31, .aload_n 0, 1, (0, 0, 0), [], []),
  (32, .iload_n 2, 1, (0, 0, 0), [], []),
  (33, .invokevirtual 115, 3, (0, 138, 8), [], [1654, 120, 1656, 103]),
  (36, .ifCond .ne 6, 3, (42, 0, 0), [], []),
  (39, .goto 49, 3, (88, 0, 0), [], []),
  (42, .iload_n 1, 1, (0, 0, 0), [], []),
  (43, .iconst (-1), 1, (0, 0, 0), [], []),
  (44, .if_icmp .ne 7, 3, (51, 0, 0), [], []),
  (47, .iconst 1, 1, (0, 0, 0), [], []),
  (48, .goto 14, 3, (62, 0, 0), [], []),
  (51, .aload_n 0, 1, (0, 0, 0), [], []),
  (52, .iload_n 2, 1, (0, 0, 0), [], []),
  (53, .invokevirtual 122, 3, (0, 133, 8), [], [1581, 120, 1559, 1560]),
  (56, .aload_n 0, 1, (0, 0, 0), [], []),
  (57, .iload_n 1, 1, (0, 0, 0), [], []),
  (58, .invokevirtual 122, 3, (0, 133, 8), [], [1581, 120, 1559, 1560]),
  (61, .isub, 1, (0, 0, 0), [], []),
  (62, .istore_n 3, 1, (0, 0, 0), [], []),
  (63, .iload_n 3, 1, (0, 0, 0), [], []),
  (64, .ifCond .gt 22, 3, (86, 0, 0), [], []),
  (67, .iload_n 3, 1, (0, 0, 0), [], []),
  (68, .ifCond .ne 20, 3, (88, 0, 0), [], []),
  (71, .aload_n 0, 1, (0, 0, 0), [], []),
  (72, .getfield 25, 3, (8, 6, 2), [], [1236]),
  (75, .iload_n 2, 1, (0, 0, 0), [], []),
  (76, .iaload, 1, (0, 0, 0), [], []),
  (77, .aload_n 0, 1, (0, 0, 0), [], []),
  (78, .getfield 25, 3, (8, 6, 2), [], [1236]),
  (81, .iload_n 1, 1, (0, 0, 0), [], []),
  (82, .iaload, 1, (0, 0, 0), [], []),
  (83, .if_icmp .ge 5, 3, (88, 0, 0), [], []),
  (86, .iload_n 2, 1, (0, 0, 0), [], []),
  (87, .istore_n 1, 1, (0, 0, 0), [], []),
  (88, .iinc 2 1, 3, (0, 0, 0), [], []),
  (91, .goto (-87), 3, (4, 0, 0), [], []),
  (94, .iload_n 1, 1, (0, 0, 0), [], []),
  (95, .ireturn, 1, (0, 0, 0), [], [])]
/-- 144: X10_pass -/
def am_t144_0 : List am_E := [(0, .iconst 0, 1, (0, 0, 0), [], []),
  (1, .istore_n 1, 1, (0, 0, 0), [], []),
  (2, .aload_n 0, 1, (0, 0, 0), [], []),
  (3, .invokevirtual 129, 3, (0, 139, 8), [], [1684, 120, 1647, 1648]),
  (6, .aload_n 0, 1, (0, 0, 0), [], []),
  (7, .invokevirtual 132, 3, (0, 140, 8), [], [1685, 120, 1651, 1652]),
  (10, .istore_n 2, 1, (0, 0, 0), [], []),
  (11, .iload_n 2, 1, (0, 0, 0), [], []),
  (12, .iconst (-1), 1, (0, 0, 0), [], []),
  (13, .if_icmp .eq 19, 3, (32, 0, 0), [], []),
  (16, .aload_n 0, 1, (0, 0, 0), [], []),
  (17, .iload_n 2, 1, (0, 0, 0), [], []),
  (18, .invokevirtual 136, 3, (0, 141, 8), [], [1686, 120, 1688, 104]),
  (21, .iinc 1 1, 3, (0, 0, 0), [], []),
  (24, .aload_n 0, 1, (0, 0, 0), [], []),
  (25, .invokevirtual 132, 3, (0, 140, 8), [], [1685, 120, 1651, 1652]),
  (28, .istore_n 2, 1, (0, 0, 0), [], []),
  (29, .goto (-18), 3, (11, 0, 0), [], []),
  (32, .aload_n 0, 1, (0, 0, 0), [], []),
  (33, .invokevirtual 139, 3, (0, 143, 8), [], [1694, 120, 1696, 106]),
  (36, .istore_n 2, 1, (0, 0, 0), [], []),
  (37, .iload_n 2, 1, (0, 0, 0), [], []),
  (38, .iconst (-1), 1, (0, 0, 0), [], []),
  (39, .if_icmp .eq 34, 3, (73, 0, 0), [], []),
  (42, .aload_n 0, 1, (0, 0, 0), [], []),
  (43, .dup, 1, (0, 0, 0), [], []),
  (44, .getfield 50, 3, (8, 1, 0), [], [1228]),
  (47, .aload_n 0, 1, (0, 0, 0), [], []),
  (48, .getfield 25, 3, (8, 6, 2), [], [1236]),
  (51, .iload_n 2, 1, (0, 0, 0), [], []),
  (52, .iaload, 1, (0, 0, 0), [], []),
  (53, .isub, 1, (0, 0, 0), [], []),
  (54, .putfield 50, 3, (8, 1, 0), [], [1228]),
  (57, .aload_n 0, 1, (0, 0, 0), [], []),
  (58, .iload_n 2, 1, (0, 0, 0), [], []),
  (59, .invokevirtual 125, 3, (0, 142, 8), [], [1690, 120, 1692, 105]),
  (62, .iinc 1 1, 3, (0, 0, 0), [], []),
  (65, .aload_n 0, 1, (0, 0, 0), [], []),
  (66, .invokevirtual 139, 3, (0, 143, 8), [], [1694, 120, 1696, 106]),
  (69, .istore_n 2, 1, (0, 0, 0), [], []),
  (70, .goto (-33), 3, (37, 0, 0), [], []),
  (73, .iconst 0, 1, (0, 0, 0), [], []),
  (74, .istore_n 2, 1, (0, 0, 0), [], []),
  (75, .iload_n 2, 1, (0, 0, 0), [], []),
  (76, .aload_n 0, 1, (0, 0, 0), [], []),
  (77, .getfield 3, 3, (8, 11, 2), [], [1245]),
  (80, .getfield 60, 3, (9, 12, 2), [], [1289, 1]),
  (83, .getfield 84, 3, (7, 2, 0), [], [1147, 1]),
  (86, .if_icmp .ge 60, 3, (146, 0, 0), [], []),
  (89, .aload_n 0, 1, (0, 0, 0), [], []),
  (90, .getfield 28, 3, (8, 7, 2), [], [1238]),
  (93, .iload_n 2, 1, (0, 0, 0), [], []),
  (94, .iaload, 1, (0, 0, 0), [], []),
  (95, .iconst (-1), 1, (0, 0, 0), [], []),
  (96, .if_icmp .ne 44, 3, (140, 0, 0), [], []),
  (99, .aload_n 0, 1, (0, 0, 0), [], []),
  (100, .getfield 25, 3, (8, 6, 2), [], [1236]),
  (103, .iload_n 2, 1, (0, 0, 0), [], []),
  (104, .sipush 9999, 3, (0, 0, 0), [], []),
  (107, .aload_n 0, 1, (0, 0, 0), [], [])]
def am_t144_1 : List am_E := [(108, .getfield 25, 3, (8, 6, 2), [], [1236]),
  (111, .iload_n 2, 1, (0, 0, 0), [], []),
  (112, .iaload, 1, (0, 0, 0), [], []),
  (113, .aload_n 0, 1, (0, 0, 0), [], []),
  (114, .getfield 25, 3, (8, 6, 2), [], [1236]),
  (117, .iload_n 2, 1, (0, 0, 0), [], []),
  (118, .iaload, 1, (0, 0, 0), [], []),
  (119, .aload_n 0, 1, (0, 0, 0), [], []),
  (120, .getfield 3, 3, (8, 11, 2), [], [1245]),
  (123, .getfield 60, 3, (9, 12, 2), [], [1289, 1]),
  (126, .getfield 142, 3, (7, 5, 2), [], [1155, 1]),
  (129, .iload_n 2, 1, (0, 0, 0), [], []),
  (130, .iaload, 1, (0, 0, 0), [], []),
  (131, .imul, 1, (0, 0, 0), [], []),
  (132, .bipush 100, 2, (0, 0, 0), [], []),
  (134, .idiv, 1, (0, 0, 0), [], []),
  (135, .iadd, 1, (0, 0, 0), [], []),
  (136, .invokestatic 75, 3, (7, 0, 0), [], [1594, 466, 126, 467]),
  (139, .iastore, 1, (0, 0, 0), [], []),
  (140, .iinc 2 1, 3, (0, 0, 0), [], []),
  (143, .goto (-68), 3, (75, 0, 0), [], []),
  (146, .aload_n 0, 1, (0, 0, 0), [], []),
  (147, .dup, 1, (0, 0, 0), [], []),
  (148, .getfield 47, 3, (8, 0, 0), [], [1226]),
  (151, .iconst 1, 1, (0, 0, 0), [], []),
  (152, .iadd, 1, (0, 0, 0), [], []),
  (153, .putfield 47, 3, (8, 0, 0), [], [1226]),
  (156, .iload_n 1, 1, (0, 0, 0), [], []),
  (157, .ireturn, 1, (0, 0, 0), [], [])]
def am_t144 : List am_E := am_t144_0 ++ (am_t144_1)
/-- 145: X10_pass_ -/
def am_t145 : List am_E := [(0, .iconst 0, 1, (0, 0, 0), [], []),
  (1, .istore_n 2, 1, (0, 0, 0), [], []),
  (2, .iload_n 2, 1, (0, 0, 0), [], []),
  (3, .iload_n 1, 1, (0, 0, 0), [], []),
  (4, .if_icmp .ge 14, 3, (18, 0, 0), [], []),
  (7, .aload_n 0, 1, (0, 0, 0), [], []),
  (8, .invokevirtual 145, 3, (0, 144, 8), [], [1710, 120, 1681, 1682]),
  (11, .pop, 1, (0, 0, 0), [], []),
  (12, .iinc 2 1, 3, (0, 0, 0), [], []),
  (15, .goto (-13), 3, (2, 0, 0), [], []),
  (18, .aload_n 0, 1, (0, 0, 0), [], []),
  (19, .areturn, 1, (0, 0, 0), [], [])]
/-- 146: X10_purses -/
def am_t146 : List am_E := [(0, .iconst 0, 1, (0, 0, 0), [], []),
  (1, .istore_n 1, 1, (0, 0, 0), [], []),
  (2, .iconst 0, 1, (0, 0, 0), [], []),
  (3, .istore_n 2, 1, (0, 0, 0), [], []),
  (4, .iload_n 2, 1, (0, 0, 0), [], []),
  (5, .aload_n 0, 1, (0, 0, 0), [], []),
  (6, .getfield 3, 3, (8, 11, 2), [], [1245]),
  (9, .getfield 60, 3, (9, 12, 2), [], [1289, 1]),
  (12, .getfield 68, 3, (7, 6, 0), [], [1157, 1]),
  (15, .if_icmp .ge 18, 3, (33, 0, 0), [], []),
  (18, .iload_n 1, 1, (0, 0, 0), [], []),
  (19, .aload_n 0, 1, (0, 0, 0), [], []),
  (20, .getfield 15, 3, (8, 3, 2), [], [1230]),
  (23, .iload_n 2, 1, (0, 0, 0), [], []),
  (24, .iaload, 1, (0, 0, 0), [], []),
  (25, .iadd, 1, (0, 0, 0), [], []),
  (26, .istore_n 1, 1, (0, 0, 0), [], []),
  (27, .iinc 2 1, 3, (0, 0, 0), [], []),
  (30, .goto (-26), 3, (4, 0, 0), [], []),
  (33, .iload_n 1, 1, (0, 0, 0), [], []),
  (34, .ireturn, 1, (0, 0, 0), [], [])]
/-- 147: X10_allBuilt -/
def am_t147 : List am_E := [(0, .iconst 0, 1, (0, 0, 0), [], []),
  (1, .istore_n 2, 1, (0, 0, 0), [], []),
  (2, .iconst 0, 1, (0, 0, 0), [], []),
  (3, .istore_n 3, 1, (0, 0, 0), [], []),
  (4, .iload_n 3, 1, (0, 0, 0), [], []),
  (5, .aload_n 0, 1, (0, 0, 0), [], []),
  (6, .getfield 3, 3, (8, 11, 2), [], [1245]),
  (9, .getfield 60, 3, (9, 12, 2), [], [1289, 1]),
  (12, .getfield 84, 3, (7, 2, 0), [], [1147, 1]),
  (15, .if_icmp .ge 41, 3, (56, 0, 0), [], []),
  (18, .iload_n 2, 1, (0, 0, 0), [], []),
  (19, .aload_n 0, 1, (0, 0, 0), [], []),
  (20, .getfield 28, 3, (8, 7, 2), [], [1238]),
  (23, .iload_n 3, 1, (0, 0, 0), [], []),
  (24, .iaload, 1, (0, 0, 0), [], []),
  (25, .iconst (-1), 1, (0, 0, 0), [], []),
  (26, .if_icmp .eq 21, 3, (47, 0, 0), [], []),
  (29, .iload_n 1, 1, (0, 0, 0), [], []),
  (30, .ifCond .eq 13, 3, (43, 0, 0), [], []),
  (33, .aload_n 0, 1, (0, 0, 0), [], []),
  (34, .getfield 31, 3, (8, 8, 2), [], [1240]),
  (37, .iload_n 3, 1, (0, 0, 0), [], []),
  (38, .iaload, 1, (0, 0, 0), [], []),
  (39, .iconst 1, 1, (0, 0, 0), [], []),
  (40, .if_icmp .ne 7, 3, (47, 0, 0), [], []),
  (43, .iconst 1, 1, (0, 0, 0), [], []),
  (44, .goto 4, 3, (48, 0, 0), [], []),
  (47, .iconst 0, 1, (0, 0, 0), [], []),
  (48, .iadd, 1, (0, 0, 0), [], []),
  (49, .istore_n 2, 1, (0, 0, 0), [], []),
  (50, .iinc 3 1, 3, (0, 0, 0), [], []),
  (53, .goto (-49), 3, (4, 0, 0), [], []),
  (56, .iload_n 2, 1, (0, 0, 0), [], []),
  (57, .ireturn, 1, (0, 0, 0), [], [])]
/-- 148: X10_counted -/
def am_t148 : List am_E := [(0, .iload_n 1, 1, (0, 0, 0), [], []),
  (1, .tableswitch 53 6 9 #[31, 36, 41, 47], 31, (54, 0, 0), [(6, 32), (7, 37), (8, 42), (9, 48)], []),
  (32, .aload_n 0, 1, (0, 0, 0), [], []),
  (33, .getfield 50, 3, (8, 1, 0), [], [1228]),
  (36, .ireturn, 1, (0, 0, 0), [], []),
  (37, .aload_n 0, 1, (0, 0, 0), [], []),
  (38, .invokevirtual 148, 3, (0, 146, 8), [], [1526, 120, 1528, 91]),
  (41, .ireturn, 1, (0, 0, 0), [], []),
  (42, .aload_n 0, 1, (0, 0, 0), [], []),
  (43, .iconst 0, 1, (0, 0, 0), [], []),
  (44, .invokevirtual 151, 3, (0, 147, 8), [], [1530, 120, 1532, 92]),
  (47, .ireturn, 1, (0, 0, 0), [], []),
  (48, .aload_n 0, 1, (0, 0, 0), [], []),
  (49, .iconst 1, 1, (0, 0, 0), [], []),
  (50, .invokevirtual 151, 3, (0, 147, 8), [], [1530, 120, 1532, 92]),
  (53, .ireturn, 1, (0, 0, 0), [], []),
  (54, .aload_n 0, 1, (0, 0, 0), [], []),
  (55, .getfield 53, 3, (8, 2, 0), [], [1229]),
  (58, .ireturn, 1, (0, 0, 0), [], [])]
/-- 149: X10_carryOut -/
def am_t149_0 : List am_E := [(0, .iconst (-1), 1, (0, 0, 0), [], []),
  (1, .istore_n 3, 1, (0, 0, 0), [], []),
  (2, .iload_n 1, 1, (0, 0, 0), [], []),
  (3, .istore 4, 2, (0, 0, 0), [], []),
  (5, .iload 4, 2, (0, 0, 0), [], []),
  (7, .iload_n 2, 1, (0, 0, 0), [], []),
  (8, .if_icmp .ge 248, 3, (256, 0, 0), [], []),
  (11, .aload_n 0, 1, (0, 0, 0), [], []),
  (12, .getfield 3, 3, (8, 11, 2), [], [1245]),
  (15, .getfield 60, 3, (9, 12, 2), [], [1289, 1]),
  (18, .getfield 155, 3, (7, 14, 2), [], [1178, 1]),
  (21, .iload 4, 2, (0, 0, 0), [], []),
  (23, .iaload, 1, (0, 0, 0), [], []),
  (24, .istore 5, 2, (0, 0, 0), [], []),
  (26, .iinc 4 1, 3, (0, 0, 0), [], []),
  (29, .iload 5, 2, (0, 0, 0), [], []),
  (31, .bipush 11, 2, (0, 0, 0), [], []),
  (33, .if_icmp .eq 10, 3, (43, 0, 0), [], []),
  (36, .iload 5, 2, (0, 0, 0), [], []),
  (38, .bipush 12, 2, (0, 0, 0), [], []),
  (40, .if_icmp .ne 33, 3, (73, 0, 0), [], []),
  (43, .iinc 3 1, 3, (0, 0, 0), [], []),
  (46, .aload_n 0, 1, (0, 0, 0), [], []),
  (47, .getfield 38, 3, (8, 10, 2), [], [1244]),
  (50, .iload_n 3, 1, (0, 0, 0), [], []),
  (51, .iload 5, 2, (0, 0, 0), [], []),
  (53, .bipush 11, 2, (0, 0, 0), [], []),
  (55, .if_icmp .ne 10, 3, (65, 0, 0), [], []),
  (58, .aload_n 0, 1, (0, 0, 0), [], []),
  (59, .getfield 47, 3, (8, 0, 0), [], [1226]),
  (62, .goto 7, 3, (69, 0, 0), [], []),
  (65, .aload_n 0, 1, (0, 0, 0), [], []),
  (66, .getfield 50, 3, (8, 1, 0), [], [1228]),
  (69, .iastore, 1, (0, 0, 0), [], []),
  (70, .goto (-65), 3, (5, 0, 0), [], []),
  (73, .iload 5, 2, (0, 0, 0), [], []),
  (75, .bipush 7, 2, (0, 0, 0), [], []),
  (77, .if_icmp .ne 58, 3, (135, 0, 0), [], []),
  (80, .iinc 3 1, 3, (0, 0, 0), [], []),
  (83, .aload_n 0, 1, (0, 0, 0), [], []),
  (84, .getfield 38, 3, (8, 10, 2), [], [1244]),
  (87, .iload_n 3, 1, (0, 0, 0), [], []),
  (88, .aload_n 0, 1, (0, 0, 0), [], []),
  (89, .aload_n 0, 1, (0, 0, 0), [], []),
  (90, .getfield 3, 3, (8, 11, 2), [], [1245]),
  (93, .getfield 60, 3, (9, 12, 2), [], [1289, 1]),
  (96, .getfield 155, 3, (7, 14, 2), [], [1178, 1]),
  (99, .iload 4, 2, (0, 0, 0), [], []),
  (101, .iaload, 1, (0, 0, 0), [], []),
  (102, .aload_n 0, 1, (0, 0, 0), [], []),
  (103, .getfield 3, 3, (8, 11, 2), [], [1245]),
  (106, .getfield 60, 3, (9, 12, 2), [], [1289, 1]),
  (109, .getfield 155, 3, (7, 14, 2), [], [1178, 1]),
  (112, .iload 4, 2, (0, 0, 0), [], []),
  (114, .iconst 1, 1, (0, 0, 0), [], []),
  (115, .iadd, 1, (0, 0, 0), [], []),
  (116, .iaload, 1, (0, 0, 0), [], []),
  (117, .invokevirtual 71, 3, (0, 132, 8), [], [1562, 120, 1563, 1564]),
  (120, .ifCond .eq 7, 3, (127, 0, 0), [], []),
  (123, .iconst 1, 1, (0, 0, 0), [], [])]
def am_t149_1 : List am_E := [(124, .goto 4, 3, (128, 0, 0), [], []),
  (127, .iconst 0, 1, (0, 0, 0), [], []),
  (128, .iastore, 1, (0, 0, 0), [], []),
  (129, .iinc 4 2, 3, (0, 0, 0), [], []),
  (132, .goto (-127), 3, (5, 0, 0), [], []),
  (135, .iload 5, 2, (0, 0, 0), [], []),
  (137, .invokestatic 158, 3, (3, 158, 0), [], [1574, 118, 1575]),
  (140, .ifCond .eq 37, 3, (177, 0, 0), [], []),
  (143, .iinc 3 1, 3, (0, 0, 0), [], []),
  (146, .aload_n 0, 1, (0, 0, 0), [], []),
  (147, .getfield 38, 3, (8, 10, 2), [], [1244]),
  (150, .iload_n 3, 1, (0, 0, 0), [], []),
  (151, .aload_n 0, 1, (0, 0, 0), [], []),
  (152, .iload 5, 2, (0, 0, 0), [], []),
  (154, .aload_n 0, 1, (0, 0, 0), [], []),
  (155, .getfield 3, 3, (8, 11, 2), [], [1245]),
  (158, .getfield 60, 3, (9, 12, 2), [], [1289, 1]),
  (161, .getfield 155, 3, (7, 14, 2), [], [1178, 1]),
  (164, .iload 4, 2, (0, 0, 0), [], []),
  (166, .iaload, 1, (0, 0, 0), [], []),
  (167, .invokevirtual 161, 3, (0, 150, 8), [], [1577, 120, 1579, 98]),
  (170, .iastore, 1, (0, 0, 0), [], []),
  (171, .iinc 4 1, 3, (0, 0, 0), [], []),
  (174, .goto (-169), 3, (5, 0, 0), [], []),
  (177, .iload 5, 2, (0, 0, 0), [], []),
  (179, .bipush 33, 2, (0, 0, 0), [], []),
  (181, .if_icmp .eq 10, 3, (191, 0, 0), [], []),
  (184, .iload 5, 2, (0, 0, 0), [], []),
  (186, .bipush 17, 2, (0, 0, 0), [], []),
  (188, .if_icmp .ne 37, 3, (225, 0, 0), [], []),
  (191, .aload_n 0, 1, (0, 0, 0), [], []),
  (192, .getfield 38, 3, (8, 10, 2), [], [1244]),
  (195, .iload_n 3, 1, (0, 0, 0), [], []),
  (196, .iload 5, 2, (0, 0, 0), [], []),
  (198, .bipush 33, 2, (0, 0, 0), [], []),
  (200, .if_icmp .ne 13, 3, (213, 0, 0), [], []),
  (203, .aload_n 0, 1, (0, 0, 0), [], []),
  (204, .getfield 38, 3, (8, 10, 2), [], [1244]),
  (207, .iload_n 3, 1, (0, 0, 0), [], []),
  (208, .iaload, 1, (0, 0, 0), [], []),
  (209, .ineg, 1, (0, 0, 0), [], []),
  (210, .goto 11, 3, (221, 0, 0), [], []),
  (213, .iconst 1, 1, (0, 0, 0), [], []),
  (214, .aload_n 0, 1, (0, 0, 0), [], []),
  (215, .getfield 38, 3, (8, 10, 2), [], [1244]),
  (218, .iload_n 3, 1, (0, 0, 0), [], []),
  (219, .iaload, 1, (0, 0, 0), [], []),
  (220, .isub, 1, (0, 0, 0), [], []),
  (221, .iastore, 1, (0, 0, 0), [], []),
  (222, .goto (-217), 3, (5, 0, 0), [], []),
  (225, .iinc 3 (-1), 3, (0, 0, 0), [], []),
  (228, .aload_n 0, 1, (0, 0, 0), [], []),
  (229, .getfield 38, 3, (8, 10, 2), [], [1244]),
  (232, .iload_n 3, 1, (0, 0, 0), [], []),
  (233, .iload 5, 2, (0, 0, 0), [], []),
  (235, .aload_n 0, 1, (0, 0, 0), [], []),
  (236, .getfield 38, 3, (8, 10, 2), [], [1244]),
  (239, .iload_n 3, 1, (0, 0, 0), [], []),
  (240, .iaload, 1, (0, 0, 0), [], []),
  (241, .aload_n 0, 1, (0, 0, 0), [], [])]
def am_t149_2 : List am_E := [(242, .getfield 38, 3, (8, 10, 2), [], [1244]),
  (245, .iload_n 3, 1, (0, 0, 0), [], []),
  (246, .iconst 1, 1, (0, 0, 0), [], []),
  (247, .iadd, 1, (0, 0, 0), [], []),
  (248, .iaload, 1, (0, 0, 0), [], []),
  (249, .invokestatic 164, 3, (3, 159, 0), [], [1586, 118, 1587]),
  (252, .iastore, 1, (0, 0, 0), [], []),
  (253, .goto (-248), 3, (5, 0, 0), [], []),
  (256, .aload_n 0, 1, (0, 0, 0), [], []),
  (257, .getfield 38, 3, (8, 10, 2), [], [1244]),
  (260, .iconst 0, 1, (0, 0, 0), [], []),
  (261, .iaload, 1, (0, 0, 0), [], []),
  (262, .ireturn, 1, (0, 0, 0), [], [])]
def am_t149 : List am_E := am_t149_0 ++ (am_t149_1 ++ (am_t149_2))
/-- 150: X10_pushed -/
def am_t150 : List am_E := [(0, .iload_n 1, 1, (0, 0, 0), [], []),
  (1, .lookupswitch 89 #[(3, 53), (13, 66), (14, 60), (15, 73), (32, 51)], 51, (90, 0, 0), [(3, 54), (13, 67), (14, 61), (15, 74), (32, 52)], []),
  (52, .iload_n 2, 1, (0, 0, 0), [], []),
  (53, .ireturn, 1, (0, 0, 0), [], []),
  (54, .aload_n 0, 1, (0, 0, 0), [], []),
  (55, .getfield 25, 3, (8, 6, 2), [], [1236]),
  (58, .iload_n 2, 1, (0, 0, 0), [], []),
  (59, .iaload, 1, (0, 0, 0), [], []),
  (60, .ireturn, 1, (0, 0, 0), [], []),
  (61, .aload_n 0, 1, (0, 0, 0), [], []),
  (62, .iload_n 2, 1, (0, 0, 0), [], []),
  (63, .invokevirtual 122, 3, (0, 133, 8), [], [1581, 120, 1559, 1560]),
  (66, .ireturn, 1, (0, 0, 0), [], []),
  (67, .aload_n 0, 1, (0, 0, 0), [], []),
  (68, .getfield 15, 3, (8, 3, 2), [], [1230]),
  (71, .iload_n 2, 1, (0, 0, 0), [], []),
  (72, .iaload, 1, (0, 0, 0), [], []),
  (73, .ireturn, 1, (0, 0, 0), [], []),
  (74, .aload_n 0, 1, (0, 0, 0), [], []),
  (75, .getfield 28, 3, (8, 7, 2), [], [1238]),
  (78, .iload_n 2, 1, (0, 0, 0), [], []),
  (79, .iaload, 1, (0, 0, 0), [], []),
  (80, .iconst (-1), 1, (0, 0, 0), [], []),
  (81, .if_icmp .ne 7, 3, (88, 0, 0), [], []),
  (84, .iconst 0, 1, (0, 0, 0), [], []),
  (85, .goto 4, 3, (89, 0, 0), [], []),
  (88, .iconst 1, 1, (0, 0, 0), [], []),
  (89, .ireturn, 1, (0, 0, 0), [], []),
  (90, .aload_n 0, 1, (0, 0, 0), [], []),
  (91, .iload_n 2, 1, (0, 0, 0), [], []),
  (92, .invokevirtual 168, 3, (0, 136, 8), [], [1582, 120, 1583, 1584]),
  (95, .ireturn, 1, (0, 0, 0), [], [])]
/-- 151: X11_init -/
def am_t151 : List am_E := [(0, .aload_n 0, 1, (0, 0, 0), [], []),
  (1, .invokespecial 1, 3, (6, 0, 0), [], [1135, 137, 138]),
  (4, .aload_n 0, 1, (0, 0, 0), [], []),
  (5, .sipush 2000, 3, (0, 0, 0), [], []),
  (8, .newarray .int, 2, (20, 0, 0), [], [226]),
  (10, .putfield 9, 3, (9, 1, 2), [], [1276]),
  (13, .aload_n 0, 1, (0, 0, 0), [], []),
  (14, .iconst (-1), 1, (0, 0, 0), [], []),
  (15, .putfield 13, 3, (9, 3, 0), [], [1278]),
  (18, .aload_n 0, 1, (0, 0, 0), [], []),
  (19, .bipush 100, 2, (0, 0, 0), [], []),
  (21, .putfield 17, 3, (9, 4, 0), [], [1279]),
  (24, .aload_n 0, 1, (0, 0, 0), [], []),
  (25, .sipush 401, 3, (0, 0, 0), [], []),
  (28, .newarray .int, 2, (20, 0, 0), [], [226]),
  (30, .putfield 20, 3, (9, 5, 2), [], [1281]),
  (33, .aload_n 0, 1, (0, 0, 0), [], []),
  (34, .sipush 401, 3, (0, 0, 0), [], []),
  (37, .newarray .int, 2, (20, 0, 0), [], [226]),
  (39, .putfield 23, 3, (9, 6, 2), [], [1282]),
  (42, .aload_n 0, 1, (0, 0, 0), [], []),
  (43, .sipush 401, 3, (0, 0, 0), [], []),
  (46, .newarray .int, 2, (20, 0, 0), [], [226]),
  (48, .putfield 26, 3, (9, 7, 2), [], [1283]),
  (51, .aload_n 0, 1, (0, 0, 0), [], []),
  (52, .sipush 401, 3, (0, 0, 0), [], []),
  (55, .newarray .int, 2, (20, 0, 0), [], [226]),
  (57, .putfield 29, 3, (9, 8, 2), [], [1284]),
  (60, .aload_n 0, 1, (0, 0, 0), [], []),
  (61, .sipush 401, 3, (0, 0, 0), [], []),
  (64, .newarray .int, 2, (20, 0, 0), [], [226]),
  (66, .putfield 32, 3, (9, 9, 2), [], [1285]),
  (69, .aload_n 0, 1, (0, 0, 0), [], []),
  (70, .new 35, 3, (7, 18, 0), [], [1136, 1137, 119]),
  (73, .dup, 1, (0, 0, 0), [], []),
  (74, .invokespecial 37, 3, (5, 127, 61), [], [1138, 119, 1139]),
  (77, .putfield 38, 3, (9, 12, 2), [], [1288]),
  (80, .aload_n 0, 1, (0, 0, 0), [], []),
  (81, .aload_n 0, 1, (0, 0, 0), [], []),
  (82, .getfield 38, 3, (9, 12, 2), [], [1288]),
  (85, .putfield 42, 3, (9, 13, 2), [], [1290]),
  (88, .aload_n 0, 1, (0, 0, 0), [], []),
  (89, .new 45, 3, (8, 12, 0), [], [1220, 1221, 120]),
  (92, .dup, 1, (0, 0, 0), [], []),
  (93, .aload_n 0, 1, (0, 0, 0), [], []),
  (94, .invokespecial 47, 3, (5, 128, 61), [], [1222, 120, 1223]),
  (97, .putfield 50, 3, (9, 14, 2), [], [1291]),
  (100, .aload_n 0, 1, (0, 0, 0), [], []),
  (101, .new 45, 3, (8, 12, 0), [], [1220, 1221, 120]),
  (104, .dup, 1, (0, 0, 0), [], []),
  (105, .aload_n 0, 1, (0, 0, 0), [], []),
  (106, .invokespecial 47, 3, (5, 128, 61), [], [1222, 120, 1223]),
  (109, .putfield 54, 3, (9, 15, 2), [], [1292]),
  (112, .aload_n 0, 1, (0, 0, 0), [], []),
  (113, .getfield 50, 3, (9, 14, 2), [], [1291]),
  (116, .invokevirtual 57, 3, (0, 131, 8), [], [1271, 120, 1272, 1273]),
  (119, .return_, 1, (0, 0, 0), [], [])]
/-- 152: X11_thrown -/
def am_t152 : List am_E := [(0, .aload_n 0, 1, (0, 0, 0), [], []),
  (1, .getfield 60, 3, (9, 0, 0), [], [1275]),
  (4, .ireturn, 1, (0, 0, 0), [], [])]
/-- 153: X11_no -/
def am_t153 : List am_E := [(0, .aload_n 0, 1, (0, 0, 0), [], []),
  (1, .iload_n 1, 1, (0, 0, 0), [], []),
  (2, .putfield 60, 3, (9, 0, 0), [], [1275]),
  (5, .iconst 0, 1, (0, 0, 0), [], []),
  (6, .ireturn, 1, (0, 0, 0), [], [])]
/-- 154: X11_isIn -/
def am_t154 : List am_E := [(0, .iload_n 0, 1, (0, 0, 0), [], []),
  (1, .iload_n 1, 1, (0, 0, 0), [], []),
  (2, .if_icmp .lt 12, 3, (14, 0, 0), [], []),
  (5, .iload_n 0, 1, (0, 0, 0), [], []),
  (6, .iload_n 2, 1, (0, 0, 0), [], []),
  (7, .if_icmp .gt 7, 3, (14, 0, 0), [], []),
  (10, .iconst 1, 1, (0, 0, 0), [], []),
  (11, .goto 4, 3, (15, 0, 0), [], []),
  (14, .iconst 0, 1, (0, 0, 0), [], []),
  (15, .ireturn, 1, (1, 0, 0), [], [])]
/-- 155: X11_isWard -/
def am_t155 : List am_E := [(0, .iload_n 1, 1, (0, 0, 0), [], []),
  (1, .iconst 0, 1, (0, 0, 0), [], []),
  (2, .aload_n 0, 1, (0, 0, 0), [], []),
  (3, .getfield 38, 3, (9, 12, 2), [], [1288]),
  (6, .getfield 63, 3, (7, 0, 0), [], [1142, 1]),
  (9, .iconst 1, 1, (0, 0, 0), [], []),
  (10, .isub, 1, (0, 0, 0), [], []),
  (11, .invokestatic 66, 3, (2, 154, 0), [], [1342, 118, 1343]),
  (14, .ireturn, 1, (1, 0, 0), [], [])]
/-- 156: X11_isProject -/
def am_t156 : List am_E := [(0, .iload_n 1, 1, (0, 0, 0), [], []),
  (1, .iconst 0, 1, (0, 0, 0), [], []),
  (2, .aload_n 0, 1, (0, 0, 0), [], []),
  (3, .getfield 38, 3, (9, 12, 2), [], [1288]),
  (6, .getfield 70, 3, (7, 2, 0), [], [1146, 1]),
  (9, .iconst 1, 1, (0, 0, 0), [], []),
  (10, .isub, 1, (0, 0, 0), [], []),
  (11, .invokestatic 66, 3, (2, 154, 0), [], [1342, 118, 1343]),
  (14, .ireturn, 1, (1, 0, 0), [], [])]
/-- 157: X11_isVoter -/
def am_t157 : List am_E := [(0, .iload_n 1, 1, (0, 0, 0), [], []),
  (1, .iconst 0, 1, (0, 0, 0), [], []),
  (2, .aload_n 0, 1, (0, 0, 0), [], []),
  (3, .getfield 38, 3, (9, 12, 2), [], [1288]),
  (6, .getfield 73, 3, (7, 6, 0), [], [1158, 1]),
  (9, .iconst 1, 1, (0, 0, 0), [], []),
  (10, .isub, 1, (0, 0, 0), [], []),
  (11, .invokestatic 66, 3, (2, 154, 0), [], [1342, 118, 1343]),
  (14, .ireturn, 1, (1, 0, 0), [], [])]
/-- 158: X11_isPushed -/
def am_t158 : List am_E := [(0, .iload_n 0, 1, (0, 0, 0), [], []),
  (1, .bipush 32, 2, (0, 0, 0), [], []),
  (3, .if_icmp .eq 19, 3, (22, 0, 0), [], []),
  (6, .iload_n 0, 1, (0, 0, 0), [], []),
  (7, .iconst 3, 1, (0, 0, 0), [], []),
  (8, .if_icmp .eq 14, 3, (22, 0, 0), [], []),
  (11, .iload_n 0, 1, (0, 0, 0), [], []),
  (12, .bipush 13, 2, (0, 0, 0), [], []),
  (14, .bipush 16, 2, (0, 0, 0), [], []),
  (16, .invokestatic 66, 3, (2, 154, 0), [], [1342, 118, 1343]),
  (19, .ifCond .eq 7, 3, (26, 0, 0), [], []),
  (22, .iconst 1, 1, (0, 0, 0), [], []),
  (23, .goto 4, 3, (27, 0, 0), [], []),
  (26, .iconst 0, 1, (0, 0, 0), [], []),
  (27, .ireturn, 1, (1, 0, 0), [], [])]
/-- 159: X11_both -/
def am_t159_0 : List am_E := [(0, .iload_n 0, 1, (0, 0, 0), [], []),
  (1, .tableswitch 218 18 44 #[214, 218, 147, 153, 218, 218, 218, 218, 218, 218, 218, 218, 218, 218, 218, 218, 123, 127, 131, 135, 159, 170, 218, 218, 181, 192, 203], 123, (219, 0, 0), [(18, 215), (19, 219), (20, 148), (21, 154), (22, 219), (23, 219), (24, 219), (25, 219), (26, 219), (27, 219), (28, 219), (29, 219), (30, 219), (31, 219), (32, 219), (33, 219), (34, 124), (35, 128), (36, 132), (37, 136), (38, 160), (39, 171), (40, 219), (41, 219), (42, 182), (43, 193), (44, 204)], []),
  (124, .iload_n 1, 1, (0, 0, 0), [], []),
  (125, .iload_n 2, 1, (0, 0, 0), [], []),
  (126, .iadd, 1, (0, 0, 0), [], []),
  (127, .ireturn, 1, (0, 0, 0), [], []),
  (128, .iload_n 1, 1, (0, 0, 0), [], []),
  (129, .iload_n 2, 1, (0, 0, 0), [], []),
  (130, .isub, 1, (0, 0, 0), [], []),
  (131, .ireturn, 1, (0, 0, 0), [], []),
  (132, .iload_n 1, 1, (0, 0, 0), [], []),
  (133, .iload_n 2, 1, (0, 0, 0), [], []),
  (134, .imul, 1, (0, 0, 0), [], []),
  (135, .ireturn, 1, (0, 0, 0), [], []),
  (136, .iload_n 2, 1, (0, 0, 0), [], []),
  (137, .ifCond .ne 7, 3, (144, 0, 0), [], []),
  (140, .iconst 0, 1, (0, 0, 0), [], []),
  (141, .goto 6, 3, (147, 0, 0), [], []),
  (144, .iload_n 1, 1, (0, 0, 0), [], []),
  (145, .iload_n 2, 1, (0, 0, 0), [], []),
  (146, .idiv, 1, (0, 0, 0), [], []),
  (147, .ireturn, 1, (0, 0, 0), [], []),
  (148, .iload_n 1, 1, (0, 0, 0), [], []),
  (149, .iload_n 2, 1, (0, 0, 0), [], []),
  (150, .invokestatic 76, 3, (7, 0, 0), [], [1417, 466, 126, 467]),
  (153, .ireturn, 1, (0, 0, 0), [], []),
  (154, .iload_n 1, 1, (0, 0, 0), [], []),
  (155, .iload_n 2, 1, (0, 0, 0), [], []),
  (156, .invokestatic 82, 3, (8, 0, 0), [], [1589, 514, 126, 515]),
  (159, .ireturn, 1, (0, 0, 0), [], []),
  (160, .iload_n 1, 1, (0, 0, 0), [], []),
  (161, .iload_n 2, 1, (0, 0, 0), [], []),
  (162, .if_icmp .ge 7, 3, (169, 0, 0), [], []),
  (165, .iconst 1, 1, (0, 0, 0), [], []),
  (166, .goto 4, 3, (170, 0, 0), [], []),
  (169, .iconst 0, 1, (0, 0, 0), [], []),
  (170, .ireturn, 1, (0, 0, 0), [], []),
  (171, .iload_n 1, 1, (0, 0, 0), [], []),
  (172, .iload_n 2, 1, (0, 0, 0), [], []),
  (173, .if_icmp .le 7, 3, (180, 0, 0), [], []),
  (176, .iconst 1, 1, (0, 0, 0), [], []),
  (177, .goto 4, 3, (181, 0, 0), [], []),
  (180, .iconst 0, 1, (0, 0, 0), [], []),
  (181, .ireturn, 1, (0, 0, 0), [], []),
  (182, .iload_n 1, 1, (0, 0, 0), [], []),
  (183, .iload_n 2, 1, (0, 0, 0), [], []),
  (184, .if_icmp .ne 7, 3, (191, 0, 0), [], []),
  (187, .iconst 1, 1, (0, 0, 0), [], []),
  (188, .goto 4, 3, (192, 0, 0), [], []),
  (191, .iconst 0, 1, (0, 0, 0), [], []),
  (192, .ireturn, 1, (0, 0, 0), [], []),
  (193, .iload_n 1, 1, (0, 0, 0), [], []),
  (194, .iload_n 2, 1, (0, 0, 0), [], []),
  (195, .if_icmp .gt 7, 3, (202, 0, 0), [], []),
  (198, .iconst 1, 1, (0, 0, 0), [], []),
  (199, .goto 4, 3, (203, 0, 0), [], []),
  (202, .iconst 0, 1, (0, 0, 0), [], []),
  (203, .ireturn, 1, (0, 0, 0), [], []),
  (204, .iload_n 1, 1, (0, 0, 0), [], []),
  (205, .iload_n 2, 1, (0, 0, 0), [], [])]
def am_t159_1 : List am_E := [(206, .if_icmp .lt 7, 3, (213, 0, 0), [], []),
  (209, .iconst 1, 1, (0, 0, 0), [], []),
  (210, .goto 4, 3, (214, 0, 0), [], []),
  (213, .iconst 0, 1, (0, 0, 0), [], []),
  (214, .ireturn, 1, (0, 0, 0), [], []),
  (215, .iload_n 1, 1, (0, 0, 0), [], []),
  (216, .iload_n 2, 1, (0, 0, 0), [], []),
  (217, .iand, 1, (0, 0, 0), [], []),
  (218, .ireturn, 1, (0, 0, 0), [], []),
  (219, .iload_n 1, 1, (0, 0, 0), [], []),
  (220, .iload_n 2, 1, (0, 0, 0), [], []),
  (221, .ior, 1, (0, 0, 0), [], []),
  (222, .ireturn, 1, (0, 0, 0), [], [])]
def am_t159 : List am_E := am_t159_0 ++ (am_t159_1)
/-- 160: X11_isLetter -/
def am_t160 : List am_E := [(0, .iload_n 0, 1, (0, 0, 0), [], []),
  (1, .bipush 97, 2, (0, 0, 0), [], []),
  (3, .if_icmp .lt 13, 3, (16, 0, 0), [], []),
  (6, .iload_n 0, 1, (0, 0, 0), [], []),
  (7, .bipush 122, 2, (0, 0, 0), [], []),
  (9, .if_icmp .gt 7, 3, (16, 0, 0), [], []),
  (12, .iconst 1, 1, (0, 0, 0), [], []),
  (13, .goto 4, 3, (17, 0, 0), [], []),
  (16, .iconst 0, 1, (0, 0, 0), [], []),
  (17, .ireturn, 1, (1, 0, 0), [], [])]
/-- 161: X11_isDigit -/
def am_t161 : List am_E := [(0, .iload_n 0, 1, (0, 0, 0), [], []),
  (1, .bipush 48, 2, (0, 0, 0), [], []),
  (3, .if_icmp .lt 13, 3, (16, 0, 0), [], []),
  (6, .iload_n 0, 1, (0, 0, 0), [], []),
  (7, .bipush 57, 2, (0, 0, 0), [], []),
  (9, .if_icmp .gt 7, 3, (16, 0, 0), [], []),
  (12, .iconst 1, 1, (0, 0, 0), [], []),
  (13, .goto 4, 3, (17, 0, 0), [], []),
  (16, .iconst 0, 1, (0, 0, 0), [], []),
  (17, .ireturn, 1, (1, 0, 0), [], [])]
/-- 162: X11_byteOf -/
def am_t162 : List am_E := [(0, .iload_n 1, 1, (0, 0, 0), [], []),
  (1, .aload_n 0, 1, (0, 0, 0), [], []),
  (2, .getfield 85, 3, (9, 2, 0), [], [1277]),
  (5, .if_icmp .ge 12, 3, (17, 0, 0), [], []),
  (8, .aload_n 0, 1, (0, 0, 0), [], []),
  (9, .getfield 9, 3, (9, 1, 2), [], [1276]),
  (12, .iload_n 1, 1, (0, 0, 0), [], []),
  (13, .iaload, 1, (0, 0, 0), [], []),
  (14, .goto 4, 3, (18, 0, 0), [], []),
  (17, .iconst (-1), 1, (0, 0, 0), [], []),
  (18, .ireturn, 1, (0, 0, 0), [], [])]
/-- 163: X11_kindAt -/
def am_t163_0 : List am_E := [(0, .aload_n 0, 1, (0, 0, 0), [], []),
  (1, .iload_n 1, 1, (0, 0, 0), [], []),
  (2, .invokevirtual 88, 3, (0, 162, 9), [], [1357, 118, 1359, 55]),
  (5, .istore_n 3, 1, (0, 0, 0), [], []),
  (6, .iload_n 1, 1, (0, 0, 0), [], []),
  (7, .iconst 1, 1, (0, 0, 0), [], []),
  (8, .iadd, 1, (0, 0, 0), [], []),
  (9, .istore 4, 2, (0, 0, 0), [], []),
  (11, .iload_n 3, 1, (0, 0, 0), [], []),
  (12, .iconst (-1), 1, (0, 0, 0), [], []),
  (13, .if_icmp .ne 7, 3, (20, 0, 0), [], []),
  (16, .sipush 900, 3, (0, 0, 0), [], []),
  (19, .ireturn, 1, (0, 0, 0), [], []),
  (20, .iload_n 3, 1, (0, 0, 0), [], []),
  (21, .invokestatic 92, 3, (2, 160, 0), [], [1365, 118, 1366]),
  (24, .ifCond .ne 10, 3, (34, 0, 0), [], []),
  (27, .iload_n 3, 1, (0, 0, 0), [], []),
  (28, .invokestatic 96, 3, (2, 161, 0), [], [1368, 118, 1369]),
  (31, .ifCond .eq 97, 3, (128, 0, 0), [], []),
  (34, .aload_n 0, 1, (0, 0, 0), [], []),
  (35, .iload 4, 2, (0, 0, 0), [], []),
  (37, .invokevirtual 88, 3, (0, 162, 9), [], [1357, 118, 1359, 55]),
  (40, .invokestatic 96, 3, (2, 161, 0), [], [1368, 118, 1369]),
  (43, .ifCond .ne 22, 3, (65, 0, 0), [], []),
  (46, .iload_n 3, 1, (0, 0, 0), [], []),
  (47, .invokestatic 92, 3, (2, 160, 0), [], [1365, 118, 1366]),
  (50, .ifCond .eq 21, 3, (71, 0, 0), [], []),
  (53, .aload_n 0, 1, (0, 0, 0), [], []),
  (54, .iload 4, 2, (0, 0, 0), [], []),
  (56, .invokevirtual 88, 3, (0, 162, 9), [], [1357, 118, 1359, 55]),
  (59, .invokestatic 92, 3, (2, 160, 0), [], [1365, 118, 1366]),
  (62, .ifCond .eq 9, 3, (71, 0, 0), [], []),
  (65, .iinc 4 1, 3, (0, 0, 0), [], []),
  (68, .goto (-34), 3, (34, 0, 0), [], []),
  (71, .aload_n 0, 1, (0, 0, 0), [], []),
  (72, .getfield 26, 3, (9, 7, 2), [], [1283]),
  (75, .iload_n 2, 1, (0, 0, 0), [], []),
  (76, .iload 4, 2, (0, 0, 0), [], []),
  (78, .iload_n 1, 1, (0, 0, 0), [], []),
  (79, .isub, 1, (0, 0, 0), [], []),
  (80, .iastore, 1, (0, 0, 0), [], []),
  (81, .iload 4, 2, (0, 0, 0), [], []),
  (83, .iload_n 1, 1, (0, 0, 0), [], []),
  (84, .isub, 1, (0, 0, 0), [], []),
  (85, .iload_n 3, 1, (0, 0, 0), [], []),
  (86, .invokestatic 92, 3, (2, 160, 0), [], [1365, 118, 1366]),
  (89, .ifCond .eq 8, 3, (97, 0, 0), [], []),
  (92, .bipush 10, 2, (0, 0, 0), [], []),
  (94, .goto 5, 3, (99, 0, 0), [], []),
  (97, .bipush 6, 2, (0, 0, 0), [], []),
  (99, .if_icmp .le 7, 3, (106, 0, 0), [], []),
  (102, .sipush 901, 3, (0, 0, 0), [], []),
  (105, .ireturn, 1, (0, 0, 0), [], []),
  (106, .iload_n 3, 1, (0, 0, 0), [], []),
  (107, .invokestatic 92, 3, (2, 160, 0), [], [1365, 118, 1366]),
  (110, .ifCond .eq 15, 3, (125, 0, 0), [], []),
  (113, .aload_n 0, 1, (0, 0, 0), [], []),
  (114, .iload_n 1, 1, (0, 0, 0), [], []),
  (115, .iload 4, 2, (0, 0, 0), [], []),
  (117, .iload_n 1, 1, (0, 0, 0), [], [])]
def am_t163_1 : List am_E := [(118, .isub, 1, (0, 0, 0), [], []),
  (119, .invokevirtual 99, 3, (0, 164, 9), [], [1371, 118, 1373, 57]),
  (122, .goto 5, 3, (127, 0, 0), [], []),
  (125, .bipush 41, 2, (0, 0, 0), [], []),
  (127, .ireturn, 1, (0, 0, 0), [], []),
  (128, .iload_n 3, 1, (0, 0, 0), [], []),
  (129, .bipush 60, 2, (0, 0, 0), [], []),
  (131, .if_icmp .eq 9, 3, (140, 0, 0), [], []),
  (134, .iload_n 3, 1, (0, 0, 0), [], []),
  (135, .bipush 62, 2, (0, 0, 0), [], []),
  (137, .if_icmp .ne 18, 3, (155, 0, 0), [], []),
  (140, .aload_n 0, 1, (0, 0, 0), [], []),
  (141, .iload 4, 2, (0, 0, 0), [], []),
  (143, .invokevirtual 88, 3, (0, 162, 9), [], [1357, 118, 1359, 55]),
  (146, .bipush 61, 2, (0, 0, 0), [], []),
  (148, .if_icmp .ne 7, 3, (155, 0, 0), [], []),
  (151, .iconst 1, 1, (0, 0, 0), [], []),
  (152, .goto 4, 3, (156, 0, 0), [], []),
  (155, .iconst 0, 1, (0, 0, 0), [], []),
  (156, .istore 5, 2, (0, 0, 0), [], []),
  (158, .aload_n 0, 1, (0, 0, 0), [], []),
  (159, .getfield 26, 3, (9, 7, 2), [], [1283]),
  (162, .iload_n 2, 1, (0, 0, 0), [], []),
  (163, .iload 5, 2, (0, 0, 0), [], []),
  (165, .ifCond .eq 7, 3, (172, 0, 0), [], []),
  (168, .iconst 2, 1, (0, 0, 0), [], []),
  (169, .goto 4, 3, (173, 0, 0), [], []),
  (172, .iconst 1, 1, (0, 0, 0), [], []),
  (173, .iastore, 1, (0, 0, 0), [], []),
  (174, .iload 5, 2, (0, 0, 0), [], []),
  (176, .ifCond .eq 19, 3, (195, 0, 0), [], []),
  (179, .iload_n 3, 1, (0, 0, 0), [], []),
  (180, .bipush 60, 2, (0, 0, 0), [], []),
  (182, .if_icmp .ne 9, 3, (191, 0, 0), [], []),
  (185, .sipush 300, 3, (0, 0, 0), [], []),
  (188, .goto 6, 3, (194, 0, 0), [], []),
  (191, .sipush 301, 3, (0, 0, 0), [], []),
  (194, .ireturn, 1, (0, 0, 0), [], []),
  (195, .iload_n 3, 1, (0, 0, 0), [], []),
  (196, .ifCond .le 27, 3, (223, 0, 0), [], []),
  (199, .iload_n 3, 1, (0, 0, 0), [], []),
  (200, .sipush 128, 3, (0, 0, 0), [], []),
  (203, .if_icmp .ge 20, 3, (223, 0, 0), [], []),
  (206, .ldc 102, 2, (0, 0, 0), [(2, 5)], [1379]),
  (208, .iload_n 3, 1, (0, 0, 0), [], []),
  (209, .i2c, 1, (0, 0, 0), [], []),
  (210, .invokevirtual 104, 3, (0, 3, 60), [], [1380, 111, 499, 500]),
  (213, .ifCond .lt 10, 3, (223, 0, 0), [], []),
  (216, .bipush 50, 2, (0, 0, 0), [], []),
  (218, .iload_n 3, 1, (0, 0, 0), [], []),
  (219, .iadd, 1, (0, 0, 0), [], []),
  (220, .goto 6, 3, (226, 0, 0), [], []),
  (223, .sipush 901, 3, (0, 0, 0), [], []),
  (226, .ireturn, 1, (0, 0, 0), [], [])]
def am_t163 : List am_E := am_t163_0 ++ (am_t163_1)
/-- 164: X11_word -/
def am_t164 : List am_E := [(0, .iconst 0, 1, (0, 0, 0), [], []),
  (1, .istore_n 3, 1, (0, 0, 0), [], []),
  (2, .iload_n 3, 1, (0, 0, 0), [], []),
  (3, .getstatic 109, 3, (0, 0, 61), [], [1375]),
  (6, .arraylength, 1, (0, 0, 0), [], []),
  (7, .if_icmp .ge 84, 3, (91, 0, 0), [], []),
  (10, .getstatic 109, 3, (0, 0, 61), [], [1375]),
  (13, .iload_n 3, 1, (0, 0, 0), [], []),
  (14, .aaload, 1, (0, 0, 0), [], []),
  (15, .invokevirtual 113, 3, (0, 6, 60), [], [1377, 111, 235, 236]),
  (18, .iload_n 2, 1, (0, 0, 0), [], []),
  (19, .if_icmp .ne 7, 3, (26, 0, 0), [], []),
  (22, .iconst 1, 1, (0, 0, 0), [], []),
  (23, .goto 4, 3, (27, 0, 0), [], []),
  (26, .iconst 0, 1, (0, 0, 0), [], []),
  (27, .istore 4, 2, (0, 0, 0), [], []),
  (29, .iconst 0, 1, (0, 0, 0), [], []),
  (30, .istore 5, 2, (0, 0, 0), [], []),
  (32, .iload 4, 2, (0, 0, 0), [], []),
  (34, .ifCond .eq 44, 3, (78, 0, 0), [], []),
  (37, .iload 5, 2, (0, 0, 0), [], []),
  (39, .iload_n 2, 1, (0, 0, 0), [], []),
  (40, .if_icmp .ge 38, 3, (78, 0, 0), [], []),
  (43, .getstatic 109, 3, (0, 0, 61), [], [1375]),
  (46, .iload_n 3, 1, (0, 0, 0), [], []),
  (47, .aaload, 1, (0, 0, 0), [], []),
  (48, .iload 5, 2, (0, 0, 0), [], []),
  (50, .invokevirtual 117, 3, (0, 0, 60), [], [1378, 111, 245, 246]),
  (53, .aload_n 0, 1, (0, 0, 0), [], []),
  (54, .getfield 9, 3, (9, 1, 2), [], [1276]),
  (57, .iload_n 1, 1, (0, 0, 0), [], []),
  (58, .iload 5, 2, (0, 0, 0), [], []),
  (60, .iadd, 1, (0, 0, 0), [], []),
  (61, .iaload, 1, (0, 0, 0), [], []),
  (62, .if_icmp .ne 7, 3, (69, 0, 0), [], []),
  (65, .iconst 1, 1, (0, 0, 0), [], []),
  (66, .goto 4, 3, (70, 0, 0), [], []),
  (69, .iconst 0, 1, (0, 0, 0), [], []),
  (70, .istore 4, 2, (0, 0, 0), [], []),
  (72, .iinc 5 1, 3, (0, 0, 0), [], []),
  (75, .goto (-43), 3, (32, 0, 0), [], []),
  (78, .iload 4, 2, (0, 0, 0), [], []),
  (80, .ifCond .eq 5, 3, (85, 0, 0), [], []),
  (83, .iload_n 3, 1, (0, 0, 0), [], []),
  (84, .ireturn, 1, (0, 0, 0), [], []),
  (85, .iinc 3 1, 3, (0, 0, 0), [], []),
  (88, .goto (-86), 3, (2, 0, 0), [], []),
  (91, .bipush 40, 2, (0, 0, 0), [], []),
  (93, .ireturn, 1, (0, 0, 0), [], [])]
/-- 165: X11_cut -/
def am_t165_0 : List am_E := [(0, .iconst 0, 1, (0, 0, 0), [], []),
  (1, .istore_n 1, 1, (0, 0, 0), [], []),
  (2, .iconst 0, 1, (0, 0, 0), [], []),
  (3, .istore_n 2, 1, (0, 0, 0), [], []),
  (4, .iload_n 2, 1, (0, 0, 0), [], []),
  (5, .sipush 400, 3, (0, 0, 0), [], []),
  (8, .if_icmp .gt 118, 3, (126, 0, 0), [], []),
  (11, .aload_n 0, 1, (0, 0, 0), [], []),
  (12, .iload_n 1, 1, (0, 0, 0), [], []),
  (13, .invokevirtual 88, 3, (0, 162, 9), [], [1357, 118, 1359, 55]),
  (16, .bipush 32, 2, (0, 0, 0), [], []),
  (18, .if_icmp .eq 13, 3, (31, 0, 0), [], []),
  (21, .aload_n 0, 1, (0, 0, 0), [], []),
  (22, .iload_n 1, 1, (0, 0, 0), [], []),
  (23, .invokevirtual 88, 3, (0, 162, 9), [], [1357, 118, 1359, 55]),
  (26, .bipush 10, 2, (0, 0, 0), [], []),
  (28, .if_icmp .ne 9, 3, (37, 0, 0), [], []),
  (31, .iinc 1 1, 3, (0, 0, 0), [], []),
  (34, .goto (-23), 3, (11, 0, 0), [], []),
  (37, .aload_n 0, 1, (0, 0, 0), [], []),
  (38, .getfield 23, 3, (9, 6, 2), [], [1282]),
  (41, .iload_n 2, 1, (0, 0, 0), [], []),
  (42, .iload_n 1, 1, (0, 0, 0), [], []),
  (43, .iastore, 1, (0, 0, 0), [], []),
  (44, .aload_n 0, 1, (0, 0, 0), [], []),
  (45, .getfield 29, 3, (9, 8, 2), [], [1284]),
  (48, .iload_n 2, 1, (0, 0, 0), [], []),
  (49, .iconst 0, 1, (0, 0, 0), [], []),
  (50, .iastore, 1, (0, 0, 0), [], []),
  (51, .aload_n 0, 1, (0, 0, 0), [], []),
  (52, .getfield 32, 3, (9, 9, 2), [], [1285]),
  (55, .iload_n 2, 1, (0, 0, 0), [], []),
  (56, .iconst 0, 1, (0, 0, 0), [], []),
  (57, .iastore, 1, (0, 0, 0), [], []),
  (58, .aload_n 0, 1, (0, 0, 0), [], []),
  (59, .getfield 20, 3, (9, 5, 2), [], [1281]),
  (62, .iload_n 2, 1, (0, 0, 0), [], []),
  (63, .aload_n 0, 1, (0, 0, 0), [], []),
  (64, .iload_n 1, 1, (0, 0, 0), [], []),
  (65, .iload_n 2, 1, (0, 0, 0), [], []),
  (66, .invokevirtual 121, 3, (0, 163, 9), [], [1361, 118, 1363, 56]),
  (69, .iastore, 1, (0, 0, 0), [], []),
  (70, .iload_n 2, 1, (0, 0, 0), [], []),
  (71, .sipush 400, 3, (0, 0, 0), [], []),
  (74, .if_icmp .ne 24, 3, (98, 0, 0), [], []),
  (77, .aload_n 0, 1, (0, 0, 0), [], []),
  (78, .getfield 20, 3, (9, 5, 2), [], [1281]),
  (81, .iload_n 2, 1, (0, 0, 0), [], []),
  (82, .iaload, 1, (0, 0, 0), [], []),
  (83, .sipush 900, 3, (0, 0, 0), [], []),
  (86, .if_icmp .eq 12, 3, (98, 0, 0), [], []),
  (89, .aload_n 0, 1, (0, 0, 0), [], []),
  (90, .getfield 20, 3, (9, 5, 2), [], [1281]),
  (93, .iload_n 2, 1, (0, 0, 0), [], []),
  (94, .sipush 901, 3, (0, 0, 0), [], []),
  (97, .iastore, 1, (0, 0, 0), [], []),
  (98, .aload_n 0, 1, (0, 0, 0), [], []),
  (99, .getfield 20, 3, (9, 5, 2), [], [1281]),
  (102, .iload_n 2, 1, (0, 0, 0), [], []),
  (103, .iaload, 1, (0, 0, 0), [], [])]
def am_t165_1 : List am_E := [(104, .sipush 900, 3, (0, 0, 0), [], []),
  (107, .if_icmp .lt 4, 3, (111, 0, 0), [], []),
  (110, .return_, 1, (0, 0, 0), [], []),
  (111, .iload_n 1, 1, (0, 0, 0), [], []),
  (112, .aload_n 0, 1, (0, 0, 0), [], []),
  (113, .getfield 26, 3, (9, 7, 2), [], [1283]),
  (116, .iload_n 2, 1, (0, 0, 0), [], []),
  (117, .iaload, 1, (0, 0, 0), [], []),
  (118, .iadd, 1, (0, 0, 0), [], []),
  (119, .istore_n 1, 1, (0, 0, 0), [], []),
  (120, .iinc 2 1, 3, (0, 0, 0), [], []),
  (123, .goto (-119), 3, (4, 0, 0), [], []),
  (126, .return_, 1, (0, 0, 0), [], [])]
def am_t165 : List am_E := am_t165_0 ++ (am_t165_1)
/-- 166: X11_is -/
def am_t166 : List am_E := [(0, .aload_n 0, 1, (0, 0, 0), [], []),
  (1, .getfield 20, 3, (9, 5, 2), [], [1281]),
  (4, .aload_n 0, 1, (0, 0, 0), [], []),
  (5, .getfield 124, 3, (9, 10, 0), [], [1286]),
  (8, .iaload, 1, (0, 0, 0), [], []),
  (9, .iload_n 1, 1, (0, 0, 0), [], []),
  (10, .if_icmp .ne 7, 3, (17, 0, 0), [], []),
  (13, .iconst 1, 1, (0, 0, 0), [], []),
  (14, .goto 4, 3, (18, 0, 0), [], []),
  (17, .iconst 0, 1, (0, 0, 0), [], []),
  (18, .ireturn, 1, (1, 0, 0), [], [])]
/-- 167: X11_isSign -/
def am_t167 : List am_E := [(0, .aload_n 0, 1, (0, 0, 0), [], []),
  (1, .getfield 20, 3, (9, 5, 2), [], [1281]),
  (4, .aload_n 0, 1, (0, 0, 0), [], []),
  (5, .getfield 124, 3, (9, 10, 0), [], [1286]),
  (8, .iaload, 1, (0, 0, 0), [], []),
  (9, .bipush 50, 2, (0, 0, 0), [], []),
  (11, .iload_n 1, 1, (0, 0, 0), [], []),
  (12, .iadd, 1, (0, 0, 0), [], []),
  (13, .if_icmp .ne 7, 3, (20, 0, 0), [], []),
  (16, .iconst 1, 1, (0, 0, 0), [], []),
  (17, .goto 4, 3, (21, 0, 0), [], []),
  (20, .iconst 0, 1, (0, 0, 0), [], []),
  (21, .ireturn, 1, (1, 0, 0), [], [])]
/-- 168: X11_eat -/
def am_t168 : List am_E := [(0, .aload_n 0, 1, (0, 0, 0), [], []),
  (1, .iload_n 1, 1, (0, 0, 0), [], []),
  (2, .invokevirtual 127, 3, (0, 166, 9), [], [1385, 118, 1387, 59]),
  (5, .ifCond .ne 5, 3, (10, 0, 0), [], []),
  (8, .iconst 0, 1, (0, 0, 0), [], []),
  (9, .ireturn, 1, (1, 0, 0), [], []),
  (10, .aload_n 0, 1, (0, 0, 0), [], []),
  (11, .dup, 1, (0, 0, 0), [], []),
  (12, .getfield 124, 3, (9, 10, 0), [], [1286]),
  (15, .iconst 1, 1, (0, 0, 0), [], []),
  (16, .iadd, 1, (0, 0, 0), [], []),
  (17, .putfield 124, 3, (9, 10, 0), [], [1286]),
  (20, .iconst 1, 1, (0, 0, 0), [], []),
  (21, .ireturn, 1, (1, 0, 0), [], [])]
/-- 169: X11_eatSign -/
def am_t169 : List am_E := [(0, .aload_n 0, 1, (0, 0, 0), [], []),
  (1, .bipush 50, 2, (0, 0, 0), [], []),
  (3, .iload_n 1, 1, (0, 0, 0), [], []),
  (4, .iadd, 1, (0, 0, 0), [], []),
  (5, .invokevirtual 130, 3, (0, 168, 9), [], [1397, 118, 1399, 62]),
  (8, .ireturn, 1, (1, 0, 0), [], [])]
/-- 170: X11_eatAs -/
def am_t170 : List am_E := [(0, .aload_n 0, 1, (0, 0, 0), [], []),
  (1, .getfield 29, 3, (9, 8, 2), [], [1284]),
  (4, .aload_n 0, 1, (0, 0, 0), [], []),
  (5, .getfield 124, 3, (9, 10, 0), [], [1286]),
  (8, .iload_n 2, 1, (0, 0, 0), [], []),
  (9, .iastore, 1, (0, 0, 0), [], []),
  (10, .aload_n 0, 1, (0, 0, 0), [], []),
  (11, .iload_n 1, 1, (0, 0, 0), [], []),
  (12, .invokevirtual 130, 3, (0, 168, 9), [], [1397, 118, 1399, 62]),
  (15, .ireturn, 1, (1, 0, 0), [], [])]
/-- 171: X11_put -/
def am_t171 : List am_E := [(0, .aload_n 0, 1, (0, 0, 0), [], []),
  (1, .getfield 42, 3, (9, 13, 2), [], [1290]),
  (4, .getfield 133, 3, (7, 14, 2), [], [1177, 1]),
  (7, .aload_n 0, 1, (0, 0, 0), [], []),
  (8, .getfield 42, 3, (9, 13, 2), [], [1290]),
  (11, .getfield 136, 3, (7, 15, 0), [], [1179, 1]),
  (14, .iload_n 1, 1, (0, 0, 0), [], []),
  (15, .iastore, 1, (0, 0, 0), [], []),
  (16, .aload_n 0, 1, (0, 0, 0), [], []),
  (17, .getfield 42, 3, (9, 13, 2), [], [1290]),
  (20, .dup, 1, (0, 0, 0), [], []),
  (21, .getfield 136, 3, (7, 15, 0), [], [1179, 1]),
  (24, .iconst 1, 1, (0, 0, 0), [], []),
  (25, .iadd, 1, (0, 0, 0), [], []),
  (26, .putfield 136, 3, (7, 15, 0), [], [1179, 1]),
  (29, .return_, 1, (0, 0, 0), [], [])]
/-- 172: X11_isPlan -/
def am_t172 : List am_E := [(0, .aload_n 0, 1, (0, 0, 0), [], []),
  (1, .sipush 900, 3, (0, 0, 0), [], []),
  (4, .invokevirtual 127, 3, (0, 166, 9), [], [1385, 118, 1387, 59]),
  (7, .ifCond .ne 88, 3, (95, 0, 0), [], []),
  (10, .aload_n 0, 1, (0, 0, 0), [], []),
  (11, .iconst 0, 1, (0, 0, 0), [], []),
  (12, .invokevirtual 127, 3, (0, 166, 9), [], [1385, 118, 1387, 59]),
  (15, .ifCond .eq 10, 3, (25, 0, 0), [], []),
  (18, .aload_n 0, 1, (0, 0, 0), [], []),
  (19, .invokevirtual 137, 3, (0, 173, 9), [], [1389, 118, 1391, 60]),
  (22, .goto 54, 3, (76, 0, 0), [], []),
  (25, .aload_n 0, 1, (0, 0, 0), [], []),
  (26, .iconst 2, 1, (0, 0, 0), [], []),
  (27, .invokevirtual 127, 3, (0, 166, 9), [], [1385, 118, 1387, 59]),
  (30, .ifCond .eq 10, 3, (40, 0, 0), [], []),
  (33, .aload_n 0, 1, (0, 0, 0), [], []),
  (34, .invokevirtual 141, 3, (0, 174, 9), [], [1401, 118, 1403, 63]),
  (37, .goto 39, 3, (76, 0, 0), [], []),
  (40, .aload_n 0, 1, (0, 0, 0), [], []),
  (41, .bipush 6, 2, (0, 0, 0), [], []),
  (43, .invokevirtual 127, 3, (0, 166, 9), [], [1385, 118, 1387, 59]),
  (46, .ifCond .eq 10, 3, (56, 0, 0), [], []),
  (49, .aload_n 0, 1, (0, 0, 0), [], []),
  (50, .invokevirtual 144, 3, (0, 175, 9), [], [1405, 118, 1407, 64]),
  (53, .goto 23, 3, (76, 0, 0), [], []),
  (56, .aload_n 0, 1, (0, 0, 0), [], []),
  (57, .bipush 8, 2, (0, 0, 0), [], []),
  (59, .invokevirtual 127, 3, (0, 166, 9), [], [1385, 118, 1387, 59]),
  (62, .ifCond .eq 10, 3, (72, 0, 0), [], []),
  (65, .aload_n 0, 1, (0, 0, 0), [], []),
  (66, .invokevirtual 147, 3, (0, 176, 9), [], [1409, 118, 1411, 65]),
  (69, .goto 7, 3, (76, 0, 0), [], []),
  (72, .aload_n 0, 1, (0, 0, 0), [], []),
  (73, .invokevirtual 150, 3, (0, 177, 9), [], [1413, 118, 1415, 66]),
  (76, .istore_n 1, 1, (0, 0, 0), [], []),
  (77, .iload_n 1, 1, (0, 0, 0), [], []),
  (78, .ifCond .eq 12, 3, (90, 0, 0), [], []),
  (81, .aload_n 0, 1, (0, 0, 0), [], []),
  (82, .bipush 59, 2, (0, 0, 0), [], []),
  (84, .invokevirtual 153, 3, (0, 169, 9), [], [1442, 118, 1444, 73]),
  (87, .ifCond .ne 5, 3, (92, 0, 0), [], []),
  (90, .iconst 0, 1, (0, 0, 0), [], []),
  (91, .ireturn, 1, (1, 0, 0), [], []),
  (92, .goto (-92), 3, (0, 0, 0), [], []),
  (95, .iconst 1, 1, (0, 0, 0), [], []),
  (96, .ireturn, 1, (1, 0, 0), [], [])]
/-- 173: X11_isWardLine -/
def am_t173 : List am_E := [(0, .aload_n 0, 1, (0, 0, 0), [], []),
  (1, .dup, 1, (0, 0, 0), [], []),
  (2, .getfield 124, 3, (9, 10, 0), [], [1286]),
  (5, .iconst 1, 1, (0, 0, 0), [], []),
  (6, .iadd, 1, (0, 0, 0), [], []),
  (7, .putfield 124, 3, (9, 10, 0), [], [1286]),
  (10, .aload_n 0, 1, (0, 0, 0), [], []),
  (11, .bipush 40, 2, (0, 0, 0), [], []),
  (13, .iconst 1, 1, (0, 0, 0), [], []),
  (14, .invokevirtual 157, 3, (0, 170, 9), [], [1393, 118, 1395, 61]),
  (17, .ifCond .eq 25, 3, (42, 0, 0), [], []),
  (20, .aload_n 0, 1, (0, 0, 0), [], []),
  (21, .iconst 1, 1, (0, 0, 0), [], []),
  (22, .invokevirtual 130, 3, (0, 168, 9), [], [1397, 118, 1399, 62]),
  (25, .ifCond .eq 17, 3, (42, 0, 0), [], []),
  (28, .aload_n 0, 1, (0, 0, 0), [], []),
  (29, .bipush 41, 2, (0, 0, 0), [], []),
  (31, .iconst 5, 1, (0, 0, 0), [], []),
  (32, .invokevirtual 157, 3, (0, 170, 9), [], [1393, 118, 1395, 61]),
  (35, .ifCond .eq 7, 3, (42, 0, 0), [], []),
  (38, .iconst 1, 1, (0, 0, 0), [], []),
  (39, .goto 4, 3, (43, 0, 0), [], []),
  (42, .iconst 0, 1, (0, 0, 0), [], []),
  (43, .ireturn, 1, (1, 0, 0), [], [])]
/-- 174: X11_isProjectLine -/
def am_t174 : List am_E := [(0, .aload_n 0, 1, (0, 0, 0), [], []),
  (1, .dup, 1, (0, 0, 0), [], []),
  (2, .getfield 124, 3, (9, 10, 0), [], [1286]),
  (5, .iconst 1, 1, (0, 0, 0), [], []),
  (6, .iadd, 1, (0, 0, 0), [], []),
  (7, .putfield 124, 3, (9, 10, 0), [], [1286]),
  (10, .aload_n 0, 1, (0, 0, 0), [], []),
  (11, .bipush 40, 2, (0, 0, 0), [], []),
  (13, .iconst 2, 1, (0, 0, 0), [], []),
  (14, .invokevirtual 157, 3, (0, 170, 9), [], [1393, 118, 1395, 61]),
  (17, .ifCond .eq 64, 3, (81, 0, 0), [], []),
  (20, .aload_n 0, 1, (0, 0, 0), [], []),
  (21, .iconst 3, 1, (0, 0, 0), [], []),
  (22, .invokevirtual 130, 3, (0, 168, 9), [], [1397, 118, 1399, 62]),
  (25, .ifCond .eq 56, 3, (81, 0, 0), [], []),
  (28, .aload_n 0, 1, (0, 0, 0), [], []),
  (29, .bipush 41, 2, (0, 0, 0), [], []),
  (31, .bipush 6, 2, (0, 0, 0), [], []),
  (33, .invokevirtual 157, 3, (0, 170, 9), [], [1393, 118, 1395, 61]),
  (36, .ifCond .eq 45, 3, (81, 0, 0), [], []),
  (39, .aload_n 0, 1, (0, 0, 0), [], []),
  (40, .iconst 4, 1, (0, 0, 0), [], []),
  (41, .invokevirtual 130, 3, (0, 168, 9), [], [1397, 118, 1399, 62]),
  (44, .ifCond .eq 37, 3, (81, 0, 0), [], []),
  (47, .aload_n 0, 1, (0, 0, 0), [], []),
  (48, .bipush 40, 2, (0, 0, 0), [], []),
  (50, .bipush 7, 2, (0, 0, 0), [], []),
  (52, .invokevirtual 157, 3, (0, 170, 9), [], [1393, 118, 1395, 61]),
  (55, .ifCond .eq 26, 3, (81, 0, 0), [], []),
  (58, .aload_n 0, 1, (0, 0, 0), [], []),
  (59, .iconst 5, 1, (0, 0, 0), [], []),
  (60, .invokevirtual 130, 3, (0, 168, 9), [], [1397, 118, 1399, 62]),
  (63, .ifCond .eq 18, 3, (81, 0, 0), [], []),
  (66, .aload_n 0, 1, (0, 0, 0), [], []),
  (67, .bipush 41, 2, (0, 0, 0), [], []),
  (69, .bipush 8, 2, (0, 0, 0), [], []),
  (71, .invokevirtual 157, 3, (0, 170, 9), [], [1393, 118, 1395, 61]),
  (74, .ifCond .eq 7, 3, (81, 0, 0), [], []),
  (77, .iconst 1, 1, (0, 0, 0), [], []),
  (78, .goto 4, 3, (82, 0, 0), [], []),
  (81, .iconst 0, 1, (0, 0, 0), [], []),
  (82, .ireturn, 1, (1, 0, 0), [], [])]
/-- 175: X11_isVoterLine -/
def am_t175 : List am_E := [(0, .aload_n 0, 1, (0, 0, 0), [], []),
  (1, .dup, 1, (0, 0, 0), [], []),
  (2, .getfield 124, 3, (9, 10, 0), [], [1286]),
  (5, .iconst 1, 1, (0, 0, 0), [], []),
  (6, .iadd, 1, (0, 0, 0), [], []),
  (7, .putfield 124, 3, (9, 10, 0), [], [1286]),
  (10, .aload_n 0, 1, (0, 0, 0), [], []),
  (11, .bipush 40, 2, (0, 0, 0), [], []),
  (13, .iconst 3, 1, (0, 0, 0), [], []),
  (14, .invokevirtual 157, 3, (0, 170, 9), [], [1393, 118, 1395, 61]),
  (17, .ifCond .ne 5, 3, (22, 0, 0), [], []),
  (20, .iconst 0, 1, (0, 0, 0), [], []),
  (21, .ireturn, 1, (1, 0, 0), [], []),
  (22, .aload_n 0, 1, (0, 0, 0), [], []),
  (23, .bipush 7, 2, (0, 0, 0), [], []),
  (25, .invokevirtual 130, 3, (0, 168, 9), [], [1397, 118, 1399, 62]),
  (28, .ifCond .ne 5, 3, (33, 0, 0), [], []),
  (31, .iconst 1, 1, (0, 0, 0), [], []),
  (32, .ireturn, 1, (1, 0, 0), [], []),
  (33, .aload_n 0, 1, (0, 0, 0), [], []),
  (34, .bipush 40, 2, (0, 0, 0), [], []),
  (36, .bipush 9, 2, (0, 0, 0), [], []),
  (38, .invokevirtual 157, 3, (0, 170, 9), [], [1393, 118, 1395, 61]),
  (41, .ifCond .ne 5, 3, (46, 0, 0), [], []),
  (44, .iconst 0, 1, (0, 0, 0), [], []),
  (45, .ireturn, 1, (1, 0, 0), [], []),
  (46, .aload_n 0, 1, (0, 0, 0), [], []),
  (47, .bipush 40, 2, (0, 0, 0), [], []),
  (49, .invokevirtual 127, 3, (0, 166, 9), [], [1385, 118, 1387, 59]),
  (52, .ifCond .eq 15, 3, (67, 0, 0), [], []),
  (55, .aload_n 0, 1, (0, 0, 0), [], []),
  (56, .bipush 40, 2, (0, 0, 0), [], []),
  (58, .bipush 9, 2, (0, 0, 0), [], []),
  (60, .invokevirtual 157, 3, (0, 170, 9), [], [1393, 118, 1395, 61]),
  (63, .pop, 1, (0, 0, 0), [], []),
  (64, .goto (-18), 3, (46, 0, 0), [], []),
  (67, .iconst 1, 1, (0, 0, 0), [], []),
  (68, .ireturn, 1, (1, 0, 0), [], [])]
/-- 176: X11_isBudgetLine -/
def am_t176 : List am_E := [(0, .aload_n 0, 1, (0, 0, 0), [], []),
  (1, .dup, 1, (0, 0, 0), [], []),
  (2, .getfield 124, 3, (9, 10, 0), [], [1286]),
  (5, .iconst 1, 1, (0, 0, 0), [], []),
  (6, .iadd, 1, (0, 0, 0), [], []),
  (7, .putfield 124, 3, (9, 10, 0), [], [1286]),
  (10, .aload_n 0, 1, (0, 0, 0), [], []),
  (11, .bipush 41, 2, (0, 0, 0), [], []),
  (13, .bipush 10, 2, (0, 0, 0), [], []),
  (15, .invokevirtual 157, 3, (0, 170, 9), [], [1393, 118, 1395, 61]),
  (18, .ireturn, 1, (1, 0, 0), [], [])]
/-- 177: X11_isBanLine -/
def am_t177 : List am_E := [(0, .aload_n 0, 1, (0, 0, 0), [], []),
  (1, .bipush 9, 2, (0, 0, 0), [], []),
  (3, .iconst 4, 1, (0, 0, 0), [], []),
  (4, .invokevirtual 157, 3, (0, 170, 9), [], [1393, 118, 1395, 61]),
  (7, .ifCond .ne 5, 3, (12, 0, 0), [], []),
  (10, .iconst 0, 1, (0, 0, 0), [], []),
  (11, .ireturn, 1, (1, 0, 0), [], []),
  (12, .aload_n 0, 1, (0, 0, 0), [], []),
  (13, .getfield 42, 3, (9, 13, 2), [], [1290]),
  (16, .getfield 161, 3, (7, 10, 0), [], [1166, 1]),
  (19, .bipush 12, 2, (0, 0, 0), [], []),
  (21, .invokestatic 76, 3, (7, 0, 0), [], [1417, 466, 126, 467]),
  (24, .istore_n 1, 1, (0, 0, 0), [], []),
  (25, .aload_n 0, 1, (0, 0, 0), [], []),
  (26, .getfield 42, 3, (9, 13, 2), [], [1290]),
  (29, .dup, 1, (0, 0, 0), [], []),
  (30, .getfield 161, 3, (7, 10, 0), [], [1166, 1]),
  (33, .iconst 1, 1, (0, 0, 0), [], []),
  (34, .iadd, 1, (0, 0, 0), [], []),
  (35, .putfield 161, 3, (7, 10, 0), [], [1166, 1]),
  (38, .aload_n 0, 1, (0, 0, 0), [], []),
  (39, .bipush 40, 2, (0, 0, 0), [], []),
  (41, .bipush 11, 2, (0, 0, 0), [], []),
  (43, .invokevirtual 157, 3, (0, 170, 9), [], [1393, 118, 1395, 61]),
  (46, .ifCond .eq 12, 3, (58, 0, 0), [], []),
  (49, .aload_n 0, 1, (0, 0, 0), [], []),
  (50, .bipush 10, 2, (0, 0, 0), [], []),
  (52, .invokevirtual 130, 3, (0, 168, 9), [], [1397, 118, 1399, 62]),
  (55, .ifCond .ne 5, 3, (60, 0, 0), [], []),
  (58, .iconst 0, 1, (0, 0, 0), [], []),
  (59, .ireturn, 1, (1, 0, 0), [], []),
  (60, .aload_n 0, 1, (0, 0, 0), [], []),
  (61, .getfield 42, 3, (9, 13, 2), [], [1290]),
  (64, .getfield 164, 3, (7, 12, 2), [], [1172, 1]),
  (67, .iload_n 1, 1, (0, 0, 0), [], []),
  (68, .aload_n 0, 1, (0, 0, 0), [], []),
  (69, .getfield 42, 3, (9, 13, 2), [], [1290]),
  (72, .getfield 136, 3, (7, 15, 0), [], [1179, 1]),
  (75, .iastore, 1, (0, 0, 0), [], []),
  (76, .aload_n 0, 1, (0, 0, 0), [], []),
  (77, .invokevirtual 167, 3, (0, 178, 9), [], [1418, 118, 1420, 67]),
  (80, .ifCond .ne 5, 3, (85, 0, 0), [], []),
  (83, .iconst 0, 1, (0, 0, 0), [], []),
  (84, .ireturn, 1, (1, 0, 0), [], []),
  (85, .aload_n 0, 1, (0, 0, 0), [], []),
  (86, .getfield 42, 3, (9, 13, 2), [], [1290]),
  (89, .getfield 170, 3, (7, 13, 2), [], [1175, 1]),
  (92, .iload_n 1, 1, (0, 0, 0), [], []),
  (93, .aload_n 0, 1, (0, 0, 0), [], []),
  (94, .getfield 42, 3, (9, 13, 2), [], [1290]),
  (97, .getfield 136, 3, (7, 15, 0), [], [1179, 1]),
  (100, .iastore, 1, (0, 0, 0), [], []),
  (101, .iconst 1, 1, (0, 0, 0), [], []),
  (102, .ireturn, 1, (1, 0, 0), [], [])]
/-- 178: X11_isTest -/
def am_t178 : List am_E := [(0, .aload_n 0, 1, (0, 0, 0), [], []),
  (1, .invokevirtual 173, 3, (0, 179, 9), [], [1422, 118, 1424, 68]),
  (4, .ifCond .ne 5, 3, (9, 0, 0), [], []),
  (7, .iconst 0, 1, (0, 0, 0), [], []),
  (8, .ireturn, 1, (1, 0, 0), [], []),
  (9, .aload_n 0, 1, (0, 0, 0), [], []),
  (10, .bipush 19, 2, (0, 0, 0), [], []),
  (12, .invokevirtual 130, 3, (0, 168, 9), [], [1397, 118, 1399, 62]),
  (15, .ifCond .eq 21, 3, (36, 0, 0), [], []),
  (18, .aload_n 0, 1, (0, 0, 0), [], []),
  (19, .invokevirtual 173, 3, (0, 179, 9), [], [1422, 118, 1424, 68]),
  (22, .ifCond .ne 5, 3, (27, 0, 0), [], []),
  (25, .iconst 0, 1, (0, 0, 0), [], []),
  (26, .ireturn, 1, (1, 0, 0), [], []),
  (27, .aload_n 0, 1, (0, 0, 0), [], []),
  (28, .bipush 19, 2, (0, 0, 0), [], []),
  (30, .invokevirtual 176, 3, (0, 171, 9), [], [1434, 118, 1436, 71]),
  (33, .goto (-24), 3, (9, 0, 0), [], []),
  (36, .iconst 1, 1, (0, 0, 0), [], []),
  (37, .ireturn, 1, (1, 0, 0), [], [])]
/-- 179: X11_isBoth -/
def am_t179 : List am_E := [(0, .aload_n 0, 1, (0, 0, 0), [], []),
  (1, .invokevirtual 180, 3, (0, 183, 9), [], [1426, 118, 1428, 69]),
  (4, .ifCond .ne 5, 3, (9, 0, 0), [], []),
  (7, .iconst 0, 1, (0, 0, 0), [], []),
  (8, .ireturn, 1, (1, 0, 0), [], []),
  (9, .aload_n 0, 1, (0, 0, 0), [], []),
  (10, .bipush 18, 2, (0, 0, 0), [], []),
  (12, .invokevirtual 130, 3, (0, 168, 9), [], [1397, 118, 1399, 62]),
  (15, .ifCond .eq 21, 3, (36, 0, 0), [], []),
  (18, .aload_n 0, 1, (0, 0, 0), [], []),
  (19, .invokevirtual 180, 3, (0, 183, 9), [], [1426, 118, 1428, 69]),
  (22, .ifCond .ne 5, 3, (27, 0, 0), [], []),
  (25, .iconst 0, 1, (0, 0, 0), [], []),
  (26, .ireturn, 1, (1, 0, 0), [], []),
  (27, .aload_n 0, 1, (0, 0, 0), [], []),
  (28, .bipush 18, 2, (0, 0, 0), [], []),
  (30, .invokevirtual 176, 3, (0, 171, 9), [], [1434, 118, 1436, 71]),
  (33, .goto (-24), 3, (9, 0, 0), [], []),
  (36, .iconst 1, 1, (0, 0, 0), [], []),
  (37, .ireturn, 1, (1, 0, 0), [], [])]
/-- 180: X11_isDeeper -/
def am_t180 : List am_E := [(0, .aload_n 0, 1, (0, 0, 0), [], []),
  (1, .getfield 183, 3, (9, 11, 0), [], [1287]),
  (4, .bipush 8, 2, (0, 0, 0), [], []),
  (6, .if_icmp .ne 5, 3, (11, 0, 0), [], []),
  (9, .iconst 0, 1, (0, 0, 0), [], []),
  (10, .ireturn, 1, (1, 0, 0), [], []),
  (11, .aload_n 0, 1, (0, 0, 0), [], []),
  (12, .dup, 1, (0, 0, 0), [], []),
  (13, .getfield 183, 3, (9, 11, 0), [], [1287]),
  (16, .iconst 1, 1, (0, 0, 0), [], []),
  (17, .iadd, 1, (0, 0, 0), [], []),
  (18, .putfield 183, 3, (9, 11, 0), [], [1287]),
  (21, .aload_n 0, 1, (0, 0, 0), [], []),
  (22, .dup, 1, (0, 0, 0), [], []),
  (23, .getfield 124, 3, (9, 10, 0), [], [1286]),
  (26, .iconst 1, 1, (0, 0, 0), [], []),
  (27, .iadd, 1, (0, 0, 0), [], []),
  (28, .putfield 124, 3, (9, 10, 0), [], [1286]),
  (31, .iconst 1, 1, (0, 0, 0), [], []),
  (32, .ireturn, 1, (1, 0, 0), [], [])]
/-- 181: X11_isName -/
def am_t181 : List am_E := [(0, .aload_n 0, 1, (0, 0, 0), [], []),
  (1, .getfield 42, 3, (9, 13, 2), [], [1290]),
  (4, .getfield 186, 3, (7, 16, 2), [], [1181, 1]),
  (7, .aload_n 0, 1, (0, 0, 0), [], []),
  (8, .getfield 42, 3, (9, 13, 2), [], [1290]),
  (11, .getfield 189, 3, (7, 17, 0), [], [1182, 1]),
  (14, .aload_n 0, 1, (0, 0, 0), [], []),
  (15, .getfield 42, 3, (9, 13, 2), [], [1290]),
  (18, .getfield 136, 3, (7, 15, 0), [], [1179, 1]),
  (21, .iastore, 1, (0, 0, 0), [], []),
  (22, .aload_n 0, 1, (0, 0, 0), [], []),
  (23, .getfield 42, 3, (9, 13, 2), [], [1290]),
  (26, .dup, 1, (0, 0, 0), [], []),
  (27, .getfield 189, 3, (7, 17, 0), [], [1182, 1]),
  (30, .iconst 1, 1, (0, 0, 0), [], []),
  (31, .iadd, 1, (0, 0, 0), [], []),
  (32, .putfield 189, 3, (7, 17, 0), [], [1182, 1]),
  (35, .aload_n 0, 1, (0, 0, 0), [], []),
  (36, .aload_n 0, 1, (0, 0, 0), [], []),
  (37, .getfield 124, 3, (9, 10, 0), [], [1286]),
  (40, .invokevirtual 176, 3, (0, 171, 9), [], [1434, 118, 1436, 71]),
  (43, .aload_n 0, 1, (0, 0, 0), [], []),
  (44, .bipush 40, 2, (0, 0, 0), [], []),
  (46, .iload_n 1, 1, (0, 0, 0), [], []),
  (47, .invokevirtual 157, 3, (0, 170, 9), [], [1393, 118, 1395, 61]),
  (50, .ireturn, 1, (1, 0, 0), [], [])]
/-- 182: X11_isNamed -/
def am_t182 : List am_E := [(0, .aload_n 0, 1, (0, 0, 0), [], []),
  (1, .aload_n 0, 1, (0, 0, 0), [], []),
  (2, .getfield 20, 3, (9, 5, 2), [], [1281]),
  (5, .aload_n 0, 1, (0, 0, 0), [], []),
  (6, .getfield 124, 3, (9, 10, 0), [], [1286]),
  (9, .iaload, 1, (0, 0, 0), [], []),
  (10, .invokevirtual 176, 3, (0, 171, 9), [], [1434, 118, 1436, 71]),
  (13, .aload_n 0, 1, (0, 0, 0), [], []),
  (14, .dup, 1, (0, 0, 0), [], []),
  (15, .getfield 124, 3, (9, 10, 0), [], [1286]),
  (18, .iconst 1, 1, (0, 0, 0), [], []),
  (19, .iadd, 1, (0, 0, 0), [], []),
  (20, .putfield 124, 3, (9, 10, 0), [], [1286]),
  (23, .aload_n 0, 1, (0, 0, 0), [], []),
  (24, .iload_n 1, 1, (0, 0, 0), [], []),
  (25, .invokevirtual 192, 3, (0, 181, 9), [], [1450, 118, 1452, 75]),
  (28, .ireturn, 1, (1, 0, 0), [], [])]
/-- 183: X11_isSingle -/
def am_t183_0 : List am_E := [(0, .aload_n 0, 1, (0, 0, 0), [], []),
  (1, .bipush 17, 2, (0, 0, 0), [], []),
  (3, .invokevirtual 127, 3, (0, 166, 9), [], [1385, 118, 1387, 59]),
  (6, .ifCond .eq 37, 3, (43, 0, 0), [], []),
  (9, .aload_n 0, 1, (0, 0, 0), [], []),
  (10, .invokevirtual 195, 3, (0, 180, 9), [], [1430, 118, 1432, 70]),
  (13, .ifCond .eq 10, 3, (23, 0, 0), [], []),
  (16, .aload_n 0, 1, (0, 0, 0), [], []),
  (17, .invokevirtual 180, 3, (0, 183, 9), [], [1426, 118, 1428, 69]),
  (20, .ifCond .ne 5, 3, (25, 0, 0), [], []),
  (23, .iconst 0, 1, (0, 0, 0), [], []),
  (24, .ireturn, 1, (1, 0, 0), [], []),
  (25, .aload_n 0, 1, (0, 0, 0), [], []),
  (26, .dup, 1, (0, 0, 0), [], []),
  (27, .getfield 183, 3, (9, 11, 0), [], [1287]),
  (30, .iconst 1, 1, (0, 0, 0), [], []),
  (31, .isub, 1, (0, 0, 0), [], []),
  (32, .putfield 183, 3, (9, 11, 0), [], [1287]),
  (35, .aload_n 0, 1, (0, 0, 0), [], []),
  (36, .bipush 17, 2, (0, 0, 0), [], []),
  (38, .invokevirtual 176, 3, (0, 171, 9), [], [1434, 118, 1436, 71]),
  (41, .iconst 1, 1, (0, 0, 0), [], []),
  (42, .ireturn, 1, (1, 0, 0), [], []),
  (43, .aload_n 0, 1, (0, 0, 0), [], []),
  (44, .bipush 91, 2, (0, 0, 0), [], []),
  (46, .invokevirtual 198, 3, (0, 167, 9), [], [1438, 118, 1440, 72]),
  (49, .ifCond .eq 36, 3, (85, 0, 0), [], []),
  (52, .aload_n 0, 1, (0, 0, 0), [], []),
  (53, .invokevirtual 195, 3, (0, 180, 9), [], [1430, 118, 1432, 70]),
  (56, .ifCond .eq 10, 3, (66, 0, 0), [], []),
  (59, .aload_n 0, 1, (0, 0, 0), [], []),
  (60, .invokevirtual 167, 3, (0, 178, 9), [], [1418, 118, 1420, 67]),
  (63, .ifCond .ne 5, 3, (68, 0, 0), [], []),
  (66, .iconst 0, 1, (0, 0, 0), [], []),
  (67, .ireturn, 1, (1, 0, 0), [], []),
  (68, .aload_n 0, 1, (0, 0, 0), [], []),
  (69, .dup, 1, (0, 0, 0), [], []),
  (70, .getfield 183, 3, (9, 11, 0), [], [1287]),
  (73, .iconst 1, 1, (0, 0, 0), [], []),
  (74, .isub, 1, (0, 0, 0), [], []),
  (75, .putfield 183, 3, (9, 11, 0), [], [1287]),
  (78, .aload_n 0, 1, (0, 0, 0), [], []),
  (79, .bipush 93, 2, (0, 0, 0), [], []),
  (81, .invokevirtual 153, 3, (0, 169, 9), [], [1442, 118, 1444, 73]),
  (84, .ireturn, 1, (1, 0, 0), [], []),
  (85, .aload_n 0, 1, (0, 0, 0), [], []),
  (86, .bipush 15, 2, (0, 0, 0), [], []),
  (88, .invokevirtual 127, 3, (0, 166, 9), [], [1385, 118, 1387, 59]),
  (91, .ifCond .eq 10, 3, (101, 0, 0), [], []),
  (94, .aload_n 0, 1, (0, 0, 0), [], []),
  (95, .bipush 12, 2, (0, 0, 0), [], []),
  (97, .invokevirtual 201, 3, (0, 182, 9), [], [1446, 118, 1448, 74]),
  (100, .ireturn, 1, (1, 0, 0), [], []),
  (101, .aload_n 0, 1, (0, 0, 0), [], []),
  (102, .bipush 7, 2, (0, 0, 0), [], []),
  (104, .invokevirtual 127, 3, (0, 166, 9), [], [1385, 118, 1387, 59]),
  (107, .ifCond .eq 27, 3, (134, 0, 0), [], []),
  (110, .aload_n 0, 1, (0, 0, 0), [], []),
  (111, .bipush 13, 2, (0, 0, 0), [], []),
  (113, .invokevirtual 201, 3, (0, 182, 9), [], [1446, 118, 1448, 74])]
def am_t183_1 : List am_E := [(116, .ifCond .eq 16, 3, (132, 0, 0), [], []),
  (119, .aload_n 0, 1, (0, 0, 0), [], []),
  (120, .bipush 12, 2, (0, 0, 0), [], []),
  (122, .invokevirtual 192, 3, (0, 181, 9), [], [1450, 118, 1452, 75]),
  (125, .ifCond .eq 7, 3, (132, 0, 0), [], []),
  (128, .iconst 1, 1, (0, 0, 0), [], []),
  (129, .goto 4, 3, (133, 0, 0), [], []),
  (132, .iconst 0, 1, (0, 0, 0), [], []),
  (133, .ireturn, 1, (1, 0, 0), [], []),
  (134, .aload_n 0, 1, (0, 0, 0), [], []),
  (135, .invokevirtual 204, 3, (0, 184, 9), [], [1454, 118, 1456, 76]),
  (138, .ifCond .ne 5, 3, (143, 0, 0), [], []),
  (141, .iconst 0, 1, (0, 0, 0), [], []),
  (142, .ireturn, 1, (1, 0, 0), [], []),
  (143, .aload_n 0, 1, (0, 0, 0), [], []),
  (144, .bipush 60, 2, (0, 0, 0), [], []),
  (146, .invokevirtual 198, 3, (0, 167, 9), [], [1438, 118, 1440, 72]),
  (149, .ifCond .eq 8, 3, (157, 0, 0), [], []),
  (152, .bipush 38, 2, (0, 0, 0), [], []),
  (154, .goto 62, 3, (216, 0, 0), [], []),
  (157, .aload_n 0, 1, (0, 0, 0), [], []),
  (158, .bipush 62, 2, (0, 0, 0), [], []),
  (160, .invokevirtual 198, 3, (0, 167, 9), [], [1438, 118, 1440, 72]),
  (163, .ifCond .eq 8, 3, (171, 0, 0), [], []),
  (166, .bipush 39, 2, (0, 0, 0), [], []),
  (168, .goto 48, 3, (216, 0, 0), [], []),
  (171, .aload_n 0, 1, (0, 0, 0), [], []),
  (172, .bipush 61, 2, (0, 0, 0), [], []),
  (174, .invokevirtual 198, 3, (0, 167, 9), [], [1438, 118, 1440, 72]),
  (177, .ifCond .eq 8, 3, (185, 0, 0), [], []),
  (180, .bipush 42, 2, (0, 0, 0), [], []),
  (182, .goto 34, 3, (216, 0, 0), [], []),
  (185, .aload_n 0, 1, (0, 0, 0), [], []),
  (186, .sipush 300, 3, (0, 0, 0), [], []),
  (189, .invokevirtual 127, 3, (0, 166, 9), [], [1385, 118, 1387, 59]),
  (192, .ifCond .eq 8, 3, (200, 0, 0), [], []),
  (195, .bipush 43, 2, (0, 0, 0), [], []),
  (197, .goto 19, 3, (216, 0, 0), [], []),
  (200, .aload_n 0, 1, (0, 0, 0), [], []),
  (201, .sipush 301, 3, (0, 0, 0), [], []),
  (204, .invokevirtual 127, 3, (0, 166, 9), [], [1385, 118, 1387, 59]),
  (207, .ifCond .eq 8, 3, (215, 0, 0), [], []),
  (210, .bipush 44, 2, (0, 0, 0), [], []),
  (212, .goto 4, 3, (216, 0, 0), [], []),
  (215, .iconst (-1), 1, (0, 0, 0), [], []),
  (216, .istore_n 1, 1, (0, 0, 0), [], []),
  (217, .iload_n 1, 1, (0, 0, 0), [], []),
  (218, .iconst (-1), 1, (0, 0, 0), [], []),
  (219, .if_icmp .ne 5, 3, (224, 0, 0), [], []),
  (222, .iconst 0, 1, (0, 0, 0), [], []),
  (223, .ireturn, 1, (1, 0, 0), [], []),
  (224, .aload_n 0, 1, (0, 0, 0), [], []),
  (225, .dup, 1, (0, 0, 0), [], []),
  (226, .getfield 124, 3, (9, 10, 0), [], [1286]),
  (229, .iconst 1, 1, (0, 0, 0), [], []),
  (230, .iadd, 1, (0, 0, 0), [], []),
  (231, .putfield 124, 3, (9, 10, 0), [], [1286]),
  (234, .aload_n 0, 1, (0, 0, 0), [], []),
  (235, .invokevirtual 204, 3, (0, 184, 9), [], [1454, 118, 1456, 76]),
  (238, .ifCond .ne 5, 3, (243, 0, 0), [], [])]
def am_t183_2 : List am_E := [(241, .iconst 0, 1, (0, 0, 0), [], []),
  (242, .ireturn, 1, (1, 0, 0), [], []),
  (243, .aload_n 0, 1, (0, 0, 0), [], []),
  (244, .iload_n 1, 1, (0, 0, 0), [], []),
  (245, .invokevirtual 176, 3, (0, 171, 9), [], [1434, 118, 1436, 71]),
  (248, .iconst 1, 1, (0, 0, 0), [], []),
  (249, .ireturn, 1, (1, 0, 0), [], [])]
def am_t183 : List am_E := am_t183_0 ++ (am_t183_1 ++ (am_t183_2))
/-- 184: X11_isSum -/
def am_t184 : List am_E := [(0, .aload_n 0, 1, (0, 0, 0), [], []),
  (1, .invokevirtual 207, 3, (0, 185, 9), [], [1458, 118, 1460, 77]),
  (4, .ifCond .ne 5, 3, (9, 0, 0), [], []),
  (7, .iconst 0, 1, (0, 0, 0), [], []),
  (8, .ireturn, 1, (1, 0, 0), [], []),
  (9, .aload_n 0, 1, (0, 0, 0), [], []),
  (10, .bipush 43, 2, (0, 0, 0), [], []),
  (12, .invokevirtual 198, 3, (0, 167, 9), [], [1438, 118, 1440, 72]),
  (15, .ifCond .ne 12, 3, (27, 0, 0), [], []),
  (18, .aload_n 0, 1, (0, 0, 0), [], []),
  (19, .bipush 45, 2, (0, 0, 0), [], []),
  (21, .invokevirtual 198, 3, (0, 167, 9), [], [1438, 118, 1440, 72]),
  (24, .ifCond .eq 47, 3, (71, 0, 0), [], []),
  (27, .aload_n 0, 1, (0, 0, 0), [], []),
  (28, .bipush 43, 2, (0, 0, 0), [], []),
  (30, .invokevirtual 198, 3, (0, 167, 9), [], [1438, 118, 1440, 72]),
  (33, .ifCond .eq 8, 3, (41, 0, 0), [], []),
  (36, .bipush 34, 2, (0, 0, 0), [], []),
  (38, .goto 5, 3, (43, 0, 0), [], []),
  (41, .bipush 35, 2, (0, 0, 0), [], []),
  (43, .istore_n 1, 1, (0, 0, 0), [], []),
  (44, .aload_n 0, 1, (0, 0, 0), [], []),
  (45, .dup, 1, (0, 0, 0), [], []),
  (46, .getfield 124, 3, (9, 10, 0), [], [1286]),
  (49, .iconst 1, 1, (0, 0, 0), [], []),
  (50, .iadd, 1, (0, 0, 0), [], []),
  (51, .putfield 124, 3, (9, 10, 0), [], [1286]),
  (54, .aload_n 0, 1, (0, 0, 0), [], []),
  (55, .invokevirtual 207, 3, (0, 185, 9), [], [1458, 118, 1460, 77]),
  (58, .ifCond .ne 5, 3, (63, 0, 0), [], []),
  (61, .iconst 0, 1, (0, 0, 0), [], []),
  (62, .ireturn, 1, (1, 0, 0), [], []),
  (63, .aload_n 0, 1, (0, 0, 0), [], []),
  (64, .iload_n 1, 1, (0, 0, 0), [], []),
  (65, .invokevirtual 176, 3, (0, 171, 9), [], [1434, 118, 1436, 71]),
  (68, .goto (-59), 3, (9, 0, 0), [], []),
  (71, .iconst 1, 1, (0, 0, 0), [], []),
  (72, .ireturn, 1, (1, 0, 0), [], [])]
/-- 185: X11_isProduct -/
def am_t185 : List am_E := [(0, .aload_n 0, 1, (0, 0, 0), [], []),
  (1, .invokevirtual 210, 3, (0, 187, 9), [], [1462, 118, 1464, 78]),
  (4, .ifCond .ne 5, 3, (9, 0, 0), [], []),
  (7, .iconst 0, 1, (0, 0, 0), [], []),
  (8, .ireturn, 1, (1, 0, 0), [], []),
  (9, .aload_n 0, 1, (0, 0, 0), [], []),
  (10, .bipush 42, 2, (0, 0, 0), [], []),
  (12, .invokevirtual 198, 3, (0, 167, 9), [], [1438, 118, 1440, 72]),
  (15, .ifCond .ne 12, 3, (27, 0, 0), [], []),
  (18, .aload_n 0, 1, (0, 0, 0), [], []),
  (19, .bipush 47, 2, (0, 0, 0), [], []),
  (21, .invokevirtual 198, 3, (0, 167, 9), [], [1438, 118, 1440, 72]),
  (24, .ifCond .eq 47, 3, (71, 0, 0), [], []),
  (27, .aload_n 0, 1, (0, 0, 0), [], []),
  (28, .bipush 42, 2, (0, 0, 0), [], []),
  (30, .invokevirtual 198, 3, (0, 167, 9), [], [1438, 118, 1440, 72]),
  (33, .ifCond .eq 8, 3, (41, 0, 0), [], []),
  (36, .bipush 36, 2, (0, 0, 0), [], []),
  (38, .goto 5, 3, (43, 0, 0), [], []),
  (41, .bipush 37, 2, (0, 0, 0), [], []),
  (43, .istore_n 1, 1, (0, 0, 0), [], []),
  (44, .aload_n 0, 1, (0, 0, 0), [], []),
  (45, .dup, 1, (0, 0, 0), [], []),
  (46, .getfield 124, 3, (9, 10, 0), [], [1286]),
  (49, .iconst 1, 1, (0, 0, 0), [], []),
  (50, .iadd, 1, (0, 0, 0), [], []),
  (51, .putfield 124, 3, (9, 10, 0), [], [1286]),
  (54, .aload_n 0, 1, (0, 0, 0), [], []),
  (55, .invokevirtual 210, 3, (0, 187, 9), [], [1462, 118, 1464, 78]),
  (58, .ifCond .ne 5, 3, (63, 0, 0), [], []),
  (61, .iconst 0, 1, (0, 0, 0), [], []),
  (62, .ireturn, 1, (1, 0, 0), [], []),
  (63, .aload_n 0, 1, (0, 0, 0), [], []),
  (64, .iload_n 1, 1, (0, 0, 0), [], []),
  (65, .invokevirtual 176, 3, (0, 171, 9), [], [1434, 118, 1436, 71]),
  (68, .goto (-59), 3, (9, 0, 0), [], []),
  (71, .iconst 1, 1, (0, 0, 0), [], []),
  (72, .ireturn, 1, (1, 0, 0), [], [])]
/-- 186: X11_isInside -/
def am_t186 : List am_E := [(0, .aload_n 0, 1, (0, 0, 0), [], []),
  (1, .bipush 40, 2, (0, 0, 0), [], []),
  (3, .invokevirtual 198, 3, (0, 167, 9), [], [1438, 118, 1440, 72]),
  (6, .ifCond .eq 37, 3, (43, 0, 0), [], []),
  (9, .aload_n 0, 1, (0, 0, 0), [], []),
  (10, .invokevirtual 195, 3, (0, 180, 9), [], [1430, 118, 1432, 70]),
  (13, .ifCond .eq 30, 3, (43, 0, 0), [], []),
  (16, .aload_n 0, 1, (0, 0, 0), [], []),
  (17, .invokevirtual 204, 3, (0, 184, 9), [], [1454, 118, 1456, 76]),
  (20, .ifCond .eq 23, 3, (43, 0, 0), [], []),
  (23, .iload_n 2, 1, (0, 0, 0), [], []),
  (24, .ifCond .eq 21, 3, (45, 0, 0), [], []),
  (27, .aload_n 0, 1, (0, 0, 0), [], []),
  (28, .bipush 44, 2, (0, 0, 0), [], []),
  (30, .invokevirtual 153, 3, (0, 169, 9), [], [1442, 118, 1444, 73]),
  (33, .ifCond .eq 10, 3, (43, 0, 0), [], []),
  (36, .aload_n 0, 1, (0, 0, 0), [], []),
  (37, .invokevirtual 204, 3, (0, 184, 9), [], [1454, 118, 1456, 76]),
  (40, .ifCond .ne 5, 3, (45, 0, 0), [], []),
  (43, .iconst 0, 1, (0, 0, 0), [], []),
  (44, .ireturn, 1, (1, 0, 0), [], []),
  (45, .aload_n 0, 1, (0, 0, 0), [], []),
  (46, .dup, 1, (0, 0, 0), [], []),
  (47, .getfield 183, 3, (9, 11, 0), [], [1287]),
  (50, .iconst 1, 1, (0, 0, 0), [], []),
  (51, .isub, 1, (0, 0, 0), [], []),
  (52, .putfield 183, 3, (9, 11, 0), [], [1287]),
  (55, .iload_n 2, 1, (0, 0, 0), [], []),
  (56, .ifCond .eq 8, 3, (64, 0, 0), [], []),
  (59, .aload_n 0, 1, (0, 0, 0), [], []),
  (60, .iload_n 1, 1, (0, 0, 0), [], []),
  (61, .invokevirtual 176, 3, (0, 171, 9), [], [1434, 118, 1436, 71]),
  (64, .aload_n 0, 1, (0, 0, 0), [], []),
  (65, .bipush 41, 2, (0, 0, 0), [], []),
  (67, .invokevirtual 153, 3, (0, 169, 9), [], [1442, 118, 1444, 73]),
  (70, .ireturn, 1, (1, 0, 0), [], [])]
/-- 187: X11_isValue -/
def am_t187_0 : List am_E := [(0, .aload_n 0, 1, (0, 0, 0), [], []),
  (1, .getfield 20, 3, (9, 5, 2), [], [1281]),
  (4, .aload_n 0, 1, (0, 0, 0), [], []),
  (5, .getfield 124, 3, (9, 10, 0), [], [1286]),
  (8, .iaload, 1, (0, 0, 0), [], []),
  (9, .istore_n 1, 1, (0, 0, 0), [], []),
  (10, .aload_n 0, 1, (0, 0, 0), [], []),
  (11, .bipush 41, 2, (0, 0, 0), [], []),
  (13, .invokevirtual 127, 3, (0, 166, 9), [], [1385, 118, 1387, 59]),
  (16, .ifCond .eq 33, 3, (49, 0, 0), [], []),
  (19, .aload_n 0, 1, (0, 0, 0), [], []),
  (20, .bipush 32, 2, (0, 0, 0), [], []),
  (22, .invokevirtual 176, 3, (0, 171, 9), [], [1434, 118, 1436, 71]),
  (25, .aload_n 0, 1, (0, 0, 0), [], []),
  (26, .aload_n 0, 1, (0, 0, 0), [], []),
  (27, .aload_n 0, 1, (0, 0, 0), [], []),
  (28, .getfield 124, 3, (9, 10, 0), [], [1286]),
  (31, .invokevirtual 213, 3, (0, 188, 9), [], [1466, 118, 1468, 79]),
  (34, .invokevirtual 176, 3, (0, 171, 9), [], [1434, 118, 1436, 71]),
  (37, .aload_n 0, 1, (0, 0, 0), [], []),
  (38, .dup, 1, (0, 0, 0), [], []),
  (39, .getfield 124, 3, (9, 10, 0), [], [1286]),
  (42, .iconst 1, 1, (0, 0, 0), [], []),
  (43, .iadd, 1, (0, 0, 0), [], []),
  (44, .putfield 124, 3, (9, 10, 0), [], [1286]),
  (47, .iconst 1, 1, (0, 0, 0), [], []),
  (48, .ireturn, 1, (1, 0, 0), [], []),
  (49, .aload_n 0, 1, (0, 0, 0), [], []),
  (50, .bipush 11, 2, (0, 0, 0), [], []),
  (52, .invokevirtual 127, 3, (0, 166, 9), [], [1385, 118, 1387, 59]),
  (55, .ifCond .ne 12, 3, (67, 0, 0), [], []),
  (58, .aload_n 0, 1, (0, 0, 0), [], []),
  (59, .bipush 12, 2, (0, 0, 0), [], []),
  (61, .invokevirtual 127, 3, (0, 166, 9), [], [1385, 118, 1387, 59]),
  (64, .ifCond .eq 20, 3, (84, 0, 0), [], []),
  (67, .aload_n 0, 1, (0, 0, 0), [], []),
  (68, .iload_n 1, 1, (0, 0, 0), [], []),
  (69, .invokevirtual 176, 3, (0, 171, 9), [], [1434, 118, 1436, 71]),
  (72, .aload_n 0, 1, (0, 0, 0), [], []),
  (73, .dup, 1, (0, 0, 0), [], []),
  (74, .getfield 124, 3, (9, 10, 0), [], [1286]),
  (77, .iconst 1, 1, (0, 0, 0), [], []),
  (78, .iadd, 1, (0, 0, 0), [], []),
  (79, .putfield 124, 3, (9, 10, 0), [], [1286]),
  (82, .iconst 1, 1, (0, 0, 0), [], []),
  (83, .ireturn, 1, (1, 0, 0), [], []),
  (84, .aload_n 0, 1, (0, 0, 0), [], []),
  (85, .iconst 3, 1, (0, 0, 0), [], []),
  (86, .invokevirtual 127, 3, (0, 166, 9), [], [1385, 118, 1387, 59]),
  (89, .ifCond .ne 12, 3, (101, 0, 0), [], []),
  (92, .aload_n 0, 1, (0, 0, 0), [], []),
  (93, .bipush 14, 2, (0, 0, 0), [], []),
  (95, .invokevirtual 127, 3, (0, 166, 9), [], [1385, 118, 1387, 59]),
  (98, .ifCond .eq 10, 3, (108, 0, 0), [], []),
  (101, .aload_n 0, 1, (0, 0, 0), [], []),
  (102, .bipush 12, 2, (0, 0, 0), [], []),
  (104, .invokevirtual 201, 3, (0, 182, 9), [], [1446, 118, 1448, 74]),
  (107, .ireturn, 1, (1, 0, 0), [], []),
  (108, .aload_n 0, 1, (0, 0, 0), [], []),
  (109, .bipush 13, 2, (0, 0, 0), [], [])]
def am_t187_1 : List am_E := [(111, .invokevirtual 127, 3, (0, 166, 9), [], [1385, 118, 1387, 59]),
  (114, .ifCond .ne 12, 3, (126, 0, 0), [], []),
  (117, .aload_n 0, 1, (0, 0, 0), [], []),
  (118, .bipush 16, 2, (0, 0, 0), [], []),
  (120, .invokevirtual 127, 3, (0, 166, 9), [], [1385, 118, 1387, 59]),
  (123, .ifCond .eq 10, 3, (133, 0, 0), [], []),
  (126, .aload_n 0, 1, (0, 0, 0), [], []),
  (127, .bipush 13, 2, (0, 0, 0), [], []),
  (129, .invokevirtual 201, 3, (0, 182, 9), [], [1446, 118, 1448, 74]),
  (132, .ireturn, 1, (1, 0, 0), [], []),
  (133, .aload_n 0, 1, (0, 0, 0), [], []),
  (134, .bipush 45, 2, (0, 0, 0), [], []),
  (136, .invokevirtual 198, 3, (0, 167, 9), [], [1438, 118, 1440, 72]),
  (139, .ifCond .eq 37, 3, (176, 0, 0), [], []),
  (142, .aload_n 0, 1, (0, 0, 0), [], []),
  (143, .invokevirtual 195, 3, (0, 180, 9), [], [1430, 118, 1432, 70]),
  (146, .ifCond .eq 10, 3, (156, 0, 0), [], []),
  (149, .aload_n 0, 1, (0, 0, 0), [], []),
  (150, .invokevirtual 210, 3, (0, 187, 9), [], [1462, 118, 1464, 78]),
  (153, .ifCond .ne 5, 3, (158, 0, 0), [], []),
  (156, .iconst 0, 1, (0, 0, 0), [], []),
  (157, .ireturn, 1, (1, 0, 0), [], []),
  (158, .aload_n 0, 1, (0, 0, 0), [], []),
  (159, .dup, 1, (0, 0, 0), [], []),
  (160, .getfield 183, 3, (9, 11, 0), [], [1287]),
  (163, .iconst 1, 1, (0, 0, 0), [], []),
  (164, .isub, 1, (0, 0, 0), [], []),
  (165, .putfield 183, 3, (9, 11, 0), [], [1287]),
  (168, .aload_n 0, 1, (0, 0, 0), [], []),
  (169, .bipush 33, 2, (0, 0, 0), [], []),
  (171, .invokevirtual 176, 3, (0, 171, 9), [], [1434, 118, 1436, 71]),
  (174, .iconst 1, 1, (0, 0, 0), [], []),
  (175, .ireturn, 1, (1, 0, 0), [], []),
  (176, .aload_n 0, 1, (0, 0, 0), [], []),
  (177, .iload_n 1, 1, (0, 0, 0), [], []),
  (178, .aload_n 0, 1, (0, 0, 0), [], []),
  (179, .bipush 20, 2, (0, 0, 0), [], []),
  (181, .invokevirtual 130, 3, (0, 168, 9), [], [1397, 118, 1399, 62]),
  (184, .ifCond .ne 12, 3, (196, 0, 0), [], []),
  (187, .aload_n 0, 1, (0, 0, 0), [], []),
  (188, .bipush 21, 2, (0, 0, 0), [], []),
  (190, .invokevirtual 130, 3, (0, 168, 9), [], [1397, 118, 1399, 62]),
  (193, .ifCond .eq 7, 3, (200, 0, 0), [], []),
  (196, .iconst 1, 1, (0, 0, 0), [], []),
  (197, .goto 4, 3, (201, 0, 0), [], []),
  (200, .iconst 0, 1, (0, 0, 0), [], []),
  (201, .invokevirtual 216, 3, (0, 186, 9), [], [1470, 118, 1472, 80]),
  (204, .ireturn, 1, (1, 0, 0), [], [])]
def am_t187 : List am_E := am_t187_0 ++ (am_t187_1)
/-- 188: X11_numberAt -/
def am_t188 : List am_E := [(0, .iconst 0, 1, (0, 0, 0), [], []),
  (1, .istore_n 2, 1, (0, 0, 0), [], []),
  (2, .iconst 0, 1, (0, 0, 0), [], []),
  (3, .istore_n 3, 1, (0, 0, 0), [], []),
  (4, .iload_n 3, 1, (0, 0, 0), [], []),
  (5, .aload_n 0, 1, (0, 0, 0), [], []),
  (6, .getfield 26, 3, (9, 7, 2), [], [1283]),
  (9, .iload_n 1, 1, (0, 0, 0), [], []),
  (10, .iaload, 1, (0, 0, 0), [], []),
  (11, .if_icmp .ge 31, 3, (42, 0, 0), [], []),
  (14, .bipush 10, 2, (0, 0, 0), [], []),
  (16, .iload_n 2, 1, (0, 0, 0), [], []),
  (17, .imul, 1, (0, 0, 0), [], []),
  (18, .aload_n 0, 1, (0, 0, 0), [], []),
  (19, .getfield 9, 3, (9, 1, 2), [], [1276]),
  (22, .aload_n 0, 1, (0, 0, 0), [], []),
  (23, .getfield 23, 3, (9, 6, 2), [], [1282]),
  (26, .iload_n 1, 1, (0, 0, 0), [], []),
  (27, .iaload, 1, (0, 0, 0), [], []),
  (28, .iload_n 3, 1, (0, 0, 0), [], []),
  (29, .iadd, 1, (0, 0, 0), [], []),
  (30, .iaload, 1, (0, 0, 0), [], []),
  (31, .iadd, 1, (0, 0, 0), [], []),
  (32, .bipush 48, 2, (0, 0, 0), [], []),
  (34, .isub, 1, (0, 0, 0), [], []),
  (35, .istore_n 2, 1, (0, 0, 0), [], []),
  (36, .iinc 3 1, 3, (0, 0, 0), [], []),
  (39, .goto (-35), 3, (4, 0, 0), [], []),
  (42, .iload_n 2, 1, (0, 0, 0), [], []),
  (43, .ireturn, 1, (0, 0, 0), [], [])]
/-- 189: X11_isSame -/
def am_t189 : List am_E := [(0, .aload_n 0, 1, (0, 0, 0), [], []),
  (1, .getfield 26, 3, (9, 7, 2), [], [1283]),
  (4, .iload_n 1, 1, (0, 0, 0), [], []),
  (5, .iaload, 1, (0, 0, 0), [], []),
  (6, .aload_n 0, 1, (0, 0, 0), [], []),
  (7, .getfield 26, 3, (9, 7, 2), [], [1283]),
  (10, .iload_n 2, 1, (0, 0, 0), [], []),
  (11, .iaload, 1, (0, 0, 0), [], []),
  (12, .if_icmp .eq 5, 3, (17, 0, 0), [], []),
  (15, .iconst 0, 1, (0, 0, 0), [], []),
  (16, .ireturn, 1, (1, 0, 0), [], []),
  (17, .iconst 0, 1, (0, 0, 0), [], []),
  (18, .istore_n 3, 1, (0, 0, 0), [], []),
  (19, .iload_n 3, 1, (0, 0, 0), [], []),
  (20, .aload_n 0, 1, (0, 0, 0), [], []),
  (21, .getfield 26, 3, (9, 7, 2), [], [1283]),
  (24, .iload_n 1, 1, (0, 0, 0), [], []),
  (25, .iaload, 1, (0, 0, 0), [], []),
  (26, .if_icmp .ge 40, 3, (66, 0, 0), [], []),
  (29, .aload_n 0, 1, (0, 0, 0), [], []),
  (30, .getfield 9, 3, (9, 1, 2), [], [1276]),
  (33, .aload_n 0, 1, (0, 0, 0), [], []),
  (34, .getfield 23, 3, (9, 6, 2), [], [1282]),
  (37, .iload_n 1, 1, (0, 0, 0), [], []),
  (38, .iaload, 1, (0, 0, 0), [], []),
  (39, .iload_n 3, 1, (0, 0, 0), [], []),
  (40, .iadd, 1, (0, 0, 0), [], []),
  (41, .iaload, 1, (0, 0, 0), [], []),
  (42, .aload_n 0, 1, (0, 0, 0), [], []),
  (43, .getfield 9, 3, (9, 1, 2), [], [1276]),
  (46, .aload_n 0, 1, (0, 0, 0), [], []),
  (47, .getfield 23, 3, (9, 6, 2), [], [1282]),
  (50, .iload_n 2, 1, (0, 0, 0), [], []),
  (51, .iaload, 1, (0, 0, 0), [], []),
  (52, .iload_n 3, 1, (0, 0, 0), [], []),
  (53, .iadd, 1, (0, 0, 0), [], []),
  (54, .iaload, 1, (0, 0, 0), [], []),
  (55, .if_icmp .eq 5, 3, (60, 0, 0), [], []),
  (58, .iconst 0, 1, (0, 0, 0), [], []),
  (59, .ireturn, 1, (1, 0, 0), [], []),
  (60, .iinc 3 1, 3, (0, 0, 0), [], []),
  (63, .goto (-44), 3, (19, 0, 0), [], []),
  (66, .iconst 1, 1, (0, 0, 0), [], []),
  (67, .ireturn, 1, (1, 0, 0), [], [])]
/-- 190: X11_told -/
def am_t190 : List am_E := [(0, .iconst 0, 1, (0, 0, 0), [], []),
  (1, .istore_n 3, 1, (0, 0, 0), [], []),
  (2, .iconst 0, 1, (0, 0, 0), [], []),
  (3, .istore 4, 2, (0, 0, 0), [], []),
  (5, .iload 4, 2, (0, 0, 0), [], []),
  (7, .iload_n 1, 1, (0, 0, 0), [], []),
  (8, .if_icmp .ge 38, 3, (46, 0, 0), [], []),
  (11, .aload_n 0, 1, (0, 0, 0), [], []),
  (12, .getfield 29, 3, (9, 8, 2), [], [1284]),
  (15, .iload 4, 2, (0, 0, 0), [], []),
  (17, .iaload, 1, (0, 0, 0), [], []),
  (18, .iload_n 2, 1, (0, 0, 0), [], []),
  (19, .if_icmp .eq 6, 3, (25, 0, 0), [], []),
  (22, .goto 18, 3, (40, 0, 0), [], []),
  (25, .aload_n 0, 1, (0, 0, 0), [], []),
  (26, .iload 4, 2, (0, 0, 0), [], []),
  (28, .iload_n 1, 1, (0, 0, 0), [], []),
  (29, .invokevirtual 220, 3, (0, 189, 9), [], [1486, 118, 1488, 84]),
  (32, .ifCond .eq 5, 3, (37, 0, 0), [], []),
  (35, .iload_n 3, 1, (0, 0, 0), [], []),
  (36, .ireturn, 1, (0, 0, 0), [], []),
  (37, .iinc 3 1, 3, (0, 0, 0), [], []),
  (40, .iinc 4 1, 3, (0, 0, 0), [], []),
  (43, .goto (-38), 3, (5, 0, 0), [], []),
  (46, .iconst (-1), 1, (0, 0, 0), [], []),
  (47, .ireturn, 1, (0, 0, 0), [], [])]
/-- 191: X11_look -/
def am_t191 : List am_E := [(0, .aload_n 0, 1, (0, 0, 0), [], []),
  (1, .getfield 32, 3, (9, 9, 2), [], [1285]),
  (4, .iload_n 1, 1, (0, 0, 0), [], []),
  (5, .aload_n 0, 1, (0, 0, 0), [], []),
  (6, .iload_n 1, 1, (0, 0, 0), [], []),
  (7, .iload_n 2, 1, (0, 0, 0), [], []),
  (8, .invokevirtual 223, 3, (0, 190, 9), [], [1482, 118, 1484, 83]),
  (11, .iastore, 1, (0, 0, 0), [], []),
  (12, .aload_n 0, 1, (0, 0, 0), [], []),
  (13, .getfield 32, 3, (9, 9, 2), [], [1285]),
  (16, .iload_n 1, 1, (0, 0, 0), [], []),
  (17, .iaload, 1, (0, 0, 0), [], []),
  (18, .iconst (-1), 1, (0, 0, 0), [], []),
  (19, .if_icmp .ne 7, 3, (26, 0, 0), [], []),
  (22, .iconst 3, 1, (0, 0, 0), [], []),
  (23, .goto 4, 3, (27, 0, 0), [], []),
  (26, .iconst 0, 1, (0, 0, 0), [], []),
  (27, .ireturn, 1, (0, 0, 0), [], [])]
/-- 192: X11_isNew -/
def am_t192 : List am_E := [(0, .aload_n 0, 1, (0, 0, 0), [], []),
  (1, .iload_n 1, 1, (0, 0, 0), [], []),
  (2, .aload_n 0, 1, (0, 0, 0), [], []),
  (3, .getfield 29, 3, (9, 8, 2), [], [1284]),
  (6, .iload_n 1, 1, (0, 0, 0), [], []),
  (7, .iaload, 1, (0, 0, 0), [], []),
  (8, .invokevirtual 223, 3, (0, 190, 9), [], [1482, 118, 1484, 83]),
  (11, .iconst (-1), 1, (0, 0, 0), [], []),
  (12, .if_icmp .eq 7, 3, (19, 0, 0), [], []),
  (15, .iconst 2, 1, (0, 0, 0), [], []),
  (16, .goto 13, 3, (29, 0, 0), [], []),
  (19, .iload_n 2, 1, (0, 0, 0), [], []),
  (20, .iload_n 3, 1, (0, 0, 0), [], []),
  (21, .if_icmp .ne 7, 3, (28, 0, 0), [], []),
  (24, .iconst 4, 1, (0, 0, 0), [], []),
  (25, .goto 4, 3, (29, 0, 0), [], []),
  (28, .iconst 0, 1, (0, 0, 0), [], []),
  (29, .ireturn, 1, (0, 0, 0), [], [])]
/-- 193: X11_inRange -/
def am_t193 : List am_E := [(0, .aload_n 0, 1, (0, 0, 0), [], []),
  (1, .iload_n 1, 1, (0, 0, 0), [], []),
  (2, .invokevirtual 213, 3, (0, 188, 9), [], [1466, 118, 1468, 79]),
  (5, .iload_n 2, 1, (0, 0, 0), [], []),
  (6, .iload_n 3, 1, (0, 0, 0), [], []),
  (7, .invokestatic 66, 3, (2, 154, 0), [], [1342, 118, 1343]),
  (10, .ifCond .eq 7, 3, (17, 0, 0), [], []),
  (13, .iconst 0, 1, (0, 0, 0), [], []),
  (14, .goto 4, 3, (18, 0, 0), [], []),
  (17, .iconst 5, 1, (0, 0, 0), [], []),
  (18, .ireturn, 1, (0, 0, 0), [], [])]
/-- 194: X11_ban -/
def am_t194 : List am_E := [(0, .aload_n 0, 1, (0, 0, 0), [], []),
  (1, .getfield 42, 3, (9, 13, 2), [], [1290]),
  (4, .astore_n 1, 1, (0, 0, 0), [], []),
  (5, .aload_n 1, 1, (0, 0, 0), [], []),
  (6, .getfield 226, 3, (7, 9, 0), [], [1165, 1]),
  (9, .bipush 12, 2, (0, 0, 0), [], []),
  (11, .if_icmp .ne 5, 3, (16, 0, 0), [], []),
  (14, .iconst 4, 1, (0, 0, 0), [], []),
  (15, .ireturn, 1, (0, 0, 0), [], []),
  (16, .aload_n 1, 1, (0, 0, 0), [], []),
  (17, .dup, 1, (0, 0, 0), [], []),
  (18, .getfield 226, 3, (7, 9, 0), [], [1165, 1]),
  (21, .iconst 1, 1, (0, 0, 0), [], []),
  (22, .iadd, 1, (0, 0, 0), [], []),
  (23, .putfield 226, 3, (7, 9, 0), [], [1165, 1]),
  (26, .iconst 0, 1, (0, 0, 0), [], []),
  (27, .ireturn, 1, (0, 0, 0), [], [])]
/-- 195: X11_like -/
def am_t195 : List am_E := [(0, .aload_n 0, 1, (0, 0, 0), [], []),
  (1, .getfield 42, 3, (9, 13, 2), [], [1290]),
  (4, .astore_n 2, 1, (0, 0, 0), [], []),
  (5, .aload_n 0, 1, (0, 0, 0), [], []),
  (6, .iload_n 1, 1, (0, 0, 0), [], []),
  (7, .iconst 2, 1, (0, 0, 0), [], []),
  (8, .invokevirtual 229, 3, (0, 191, 9), [], [1494, 118, 1496, 86]),
  (11, .istore_n 3, 1, (0, 0, 0), [], []),
  (12, .iload_n 3, 1, (0, 0, 0), [], []),
  (13, .ifCond .le 5, 3, (18, 0, 0), [], []),
  (16, .iload_n 3, 1, (0, 0, 0), [], []),
  (17, .ireturn, 1, (0, 0, 0), [], []),
  (18, .aload_n 2, 1, (0, 0, 0), [], []),
  (19, .getfield 232, 3, (7, 7, 2), [], [1161, 1]),
  (22, .aload_n 2, 1, (0, 0, 0), [], []),
  (23, .getfield 73, 3, (7, 6, 0), [], [1158, 1]),
  (26, .iconst 1, 1, (0, 0, 0), [], []),
  (27, .isub, 1, (0, 0, 0), [], []),
  (28, .iaload, 1, (0, 0, 0), [], []),
  (29, .istore 4, 2, (0, 0, 0), [], []),
  (31, .iload 4, 2, (0, 0, 0), [], []),
  (33, .aload_n 0, 1, (0, 0, 0), [], []),
  (34, .getfield 32, 3, (9, 9, 2), [], [1285]),
  (37, .iload_n 1, 1, (0, 0, 0), [], []),
  (38, .iaload, 1, (0, 0, 0), [], []),
  (39, .ishr, 1, (0, 0, 0), [], []),
  (40, .iconst 1, 1, (0, 0, 0), [], []),
  (41, .iand, 1, (0, 0, 0), [], []),
  (42, .iconst 1, 1, (0, 0, 0), [], []),
  (43, .if_icmp .ne 5, 3, (48, 0, 0), [], []),
  (46, .iconst 5, 1, (0, 0, 0), [], []),
  (47, .ireturn, 1, (0, 0, 0), [], []),
  (48, .aload_n 2, 1, (0, 0, 0), [], []),
  (49, .getfield 232, 3, (7, 7, 2), [], [1161, 1]),
  (52, .aload_n 2, 1, (0, 0, 0), [], []),
  (53, .getfield 73, 3, (7, 6, 0), [], [1158, 1]),
  (56, .iconst 1, 1, (0, 0, 0), [], []),
  (57, .isub, 1, (0, 0, 0), [], []),
  (58, .iload 4, 2, (0, 0, 0), [], []),
  (60, .iconst 1, 1, (0, 0, 0), [], []),
  (61, .aload_n 0, 1, (0, 0, 0), [], []),
  (62, .getfield 32, 3, (9, 9, 2), [], [1285]),
  (65, .iload_n 1, 1, (0, 0, 0), [], []),
  (66, .iaload, 1, (0, 0, 0), [], []),
  (67, .ishl, 1, (0, 0, 0), [], []),
  (68, .ior, 1, (0, 0, 0), [], []),
  (69, .iastore, 1, (0, 0, 0), [], []),
  (70, .iconst 0, 1, (0, 0, 0), [], []),
  (71, .ireturn, 1, (0, 0, 0), [], [])]
/-- 196: X11_errorOf -/
def am_t196_0 : List am_E := [(0, .aload_n 0, 1, (0, 0, 0), [], []),
  (1, .getfield 42, 3, (9, 13, 2), [], [1290]),
  (4, .astore_n 2, 1, (0, 0, 0), [], []),
  (5, .iconst 0, 1, (0, 0, 0), [], []),
  (6, .istore_n 3, 1, (0, 0, 0), [], []),
  (7, .aload_n 0, 1, (0, 0, 0), [], []),
  (8, .getfield 29, 3, (9, 8, 2), [], [1284]),
  (11, .iload_n 1, 1, (0, 0, 0), [], []),
  (12, .iaload, 1, (0, 0, 0), [], []),
  (13, .tableswitch 239 1 13 #[67, 98, 130, 162, 239, 239, 167, 239, 193, 239, 199, 225, 232], 67, (252, 0, 0), [(1, 80), (2, 111), (3, 143), (4, 175), (5, 252), (6, 252), (7, 180), (8, 252), (9, 206), (10, 252), (11, 212), (12, 238), (13, 245)], []),
  (80, .aload_n 0, 1, (0, 0, 0), [], []),
  (81, .iload_n 1, 1, (0, 0, 0), [], []),
  (82, .aload_n 2, 1, (0, 0, 0), [], []),
  (83, .getfield 63, 3, (7, 0, 0), [], [1142, 1]),
  (86, .iconst 4, 1, (0, 0, 0), [], []),
  (87, .invokevirtual 235, 3, (0, 192, 9), [], [1478, 118, 1480, 82]),
  (90, .istore_n 3, 1, (0, 0, 0), [], []),
  (91, .aload_n 2, 1, (0, 0, 0), [], []),
  (92, .dup, 1, (0, 0, 0), [], []),
  (93, .getfield 63, 3, (7, 0, 0), [], [1142, 1]),
  (96, .iload_n 3, 1, (0, 0, 0), [], []),
  (97, .ifCond .ne 7, 3, (104, 0, 0), [], []),
  (100, .iconst 1, 1, (0, 0, 0), [], []),
  (101, .goto 4, 3, (105, 0, 0), [], []),
  (104, .iconst 0, 1, (0, 0, 0), [], []),
  (105, .iadd, 1, (0, 0, 0), [], []),
  (106, .putfield 63, 3, (7, 0, 0), [], [1142, 1]),
  (109, .iload_n 3, 1, (0, 0, 0), [], []),
  (110, .ireturn, 1, (0, 0, 0), [], []),
  (111, .aload_n 0, 1, (0, 0, 0), [], []),
  (112, .iload_n 1, 1, (0, 0, 0), [], []),
  (113, .aload_n 2, 1, (0, 0, 0), [], []),
  (114, .getfield 70, 3, (7, 2, 0), [], [1146, 1]),
  (117, .bipush 12, 2, (0, 0, 0), [], []),
  (119, .invokevirtual 235, 3, (0, 192, 9), [], [1478, 118, 1480, 82]),
  (122, .istore_n 3, 1, (0, 0, 0), [], []),
  (123, .aload_n 2, 1, (0, 0, 0), [], []),
  (124, .dup, 1, (0, 0, 0), [], []),
  (125, .getfield 70, 3, (7, 2, 0), [], [1146, 1]),
  (128, .iload_n 3, 1, (0, 0, 0), [], []),
  (129, .ifCond .ne 7, 3, (136, 0, 0), [], []),
  (132, .iconst 1, 1, (0, 0, 0), [], []),
  (133, .goto 4, 3, (137, 0, 0), [], []),
  (136, .iconst 0, 1, (0, 0, 0), [], []),
  (137, .iadd, 1, (0, 0, 0), [], []),
  (138, .putfield 70, 3, (7, 2, 0), [], [1146, 1]),
  (141, .iload_n 3, 1, (0, 0, 0), [], []),
  (142, .ireturn, 1, (0, 0, 0), [], []),
  (143, .aload_n 0, 1, (0, 0, 0), [], []),
  (144, .iload_n 1, 1, (0, 0, 0), [], []),
  (145, .aload_n 2, 1, (0, 0, 0), [], []),
  (146, .getfield 73, 3, (7, 6, 0), [], [1158, 1]),
  (149, .bipush 12, 2, (0, 0, 0), [], []),
  (151, .invokevirtual 235, 3, (0, 192, 9), [], [1478, 118, 1480, 82]),
  (154, .istore_n 3, 1, (0, 0, 0), [], []),
  (155, .aload_n 2, 1, (0, 0, 0), [], []),
  (156, .dup, 1, (0, 0, 0), [], []),
  (157, .getfield 73, 3, (7, 6, 0), [], [1158, 1]),
  (160, .iload_n 3, 1, (0, 0, 0), [], []),
  (161, .ifCond .ne 7, 3, (168, 0, 0), [], [])]
def am_t196_1 : List am_E := [(164, .iconst 1, 1, (0, 0, 0), [], []),
  (165, .goto 4, 3, (169, 0, 0), [], []),
  (168, .iconst 0, 1, (0, 0, 0), [], []),
  (169, .iadd, 1, (0, 0, 0), [], []),
  (170, .putfield 73, 3, (7, 6, 0), [], [1158, 1]),
  (173, .iload_n 3, 1, (0, 0, 0), [], []),
  (174, .ireturn, 1, (0, 0, 0), [], []),
  (175, .aload_n 0, 1, (0, 0, 0), [], []),
  (176, .invokevirtual 239, 3, (0, 194, 9), [], [1490, 118, 1492, 85]),
  (179, .ireturn, 1, (0, 0, 0), [], []),
  (180, .aload_n 0, 1, (0, 0, 0), [], []),
  (181, .iload_n 1, 1, (0, 0, 0), [], []),
  (182, .iconst 1, 1, (0, 0, 0), [], []),
  (183, .invokevirtual 229, 3, (0, 191, 9), [], [1494, 118, 1496, 86]),
  (186, .istore_n 3, 1, (0, 0, 0), [], []),
  (187, .aload_n 2, 1, (0, 0, 0), [], []),
  (188, .getfield 242, 3, (7, 4, 2), [], [1153, 1]),
  (191, .aload_n 2, 1, (0, 0, 0), [], []),
  (192, .getfield 70, 3, (7, 2, 0), [], [1146, 1]),
  (195, .iconst 1, 1, (0, 0, 0), [], []),
  (196, .isub, 1, (0, 0, 0), [], []),
  (197, .aload_n 0, 1, (0, 0, 0), [], []),
  (198, .getfield 32, 3, (9, 9, 2), [], [1285]),
  (201, .iload_n 1, 1, (0, 0, 0), [], []),
  (202, .iaload, 1, (0, 0, 0), [], []),
  (203, .iastore, 1, (0, 0, 0), [], []),
  (204, .iload_n 3, 1, (0, 0, 0), [], []),
  (205, .ireturn, 1, (0, 0, 0), [], []),
  (206, .aload_n 0, 1, (0, 0, 0), [], []),
  (207, .iload_n 1, 1, (0, 0, 0), [], []),
  (208, .invokevirtual 245, 3, (0, 195, 9), [], [1498, 118, 1500, 87]),
  (211, .ireturn, 1, (0, 0, 0), [], []),
  (212, .aload_n 0, 1, (0, 0, 0), [], []),
  (213, .iload_n 1, 1, (0, 0, 0), [], []),
  (214, .iconst 2, 1, (0, 0, 0), [], []),
  (215, .invokevirtual 229, 3, (0, 191, 9), [], [1494, 118, 1496, 86]),
  (218, .istore_n 3, 1, (0, 0, 0), [], []),
  (219, .aload_n 2, 1, (0, 0, 0), [], []),
  (220, .getfield 248, 3, (7, 11, 2), [], [1169, 1]),
  (223, .aload_n 2, 1, (0, 0, 0), [], []),
  (224, .getfield 226, 3, (7, 9, 0), [], [1165, 1]),
  (227, .iconst 1, 1, (0, 0, 0), [], []),
  (228, .isub, 1, (0, 0, 0), [], []),
  (229, .aload_n 0, 1, (0, 0, 0), [], []),
  (230, .getfield 32, 3, (9, 9, 2), [], [1285]),
  (233, .iload_n 1, 1, (0, 0, 0), [], []),
  (234, .iaload, 1, (0, 0, 0), [], []),
  (235, .iastore, 1, (0, 0, 0), [], []),
  (236, .iload_n 3, 1, (0, 0, 0), [], []),
  (237, .ireturn, 1, (0, 0, 0), [], []),
  (238, .aload_n 0, 1, (0, 0, 0), [], []),
  (239, .iload_n 1, 1, (0, 0, 0), [], []),
  (240, .iconst 2, 1, (0, 0, 0), [], []),
  (241, .invokevirtual 229, 3, (0, 191, 9), [], [1494, 118, 1496, 86]),
  (244, .ireturn, 1, (0, 0, 0), [], []),
  (245, .aload_n 0, 1, (0, 0, 0), [], []),
  (246, .iload_n 1, 1, (0, 0, 0), [], []),
  (247, .iconst 3, 1, (0, 0, 0), [], []),
  (248, .invokevirtual 229, 3, (0, 191, 9), [], [1494, 118, 1496, 86]),
  (251, .ireturn, 1, (0, 0, 0), [], [])]
def am_t196_2 : List am_E := [(252, .aload_n 0, 1, (0, 0, 0), [], []),
  (253, .iload_n 1, 1, (0, 0, 0), [], []),
  (254, .invokevirtual 251, 3, (0, 197, 9), [], [1502, 118, 1504, 88]),
  (257, .ireturn, 1, (0, 0, 0), [], [])]
def am_t196 : List am_E := am_t196_0 ++ (am_t196_1 ++ (am_t196_2))
/-- 197: X11_numberOf -/
def am_t197_0 : List am_E := [(0, .aload_n 0, 1, (0, 0, 0), [], []),
  (1, .getfield 42, 3, (9, 13, 2), [], [1290]),
  (4, .astore_n 2, 1, (0, 0, 0), [], []),
  (5, .aload_n 0, 1, (0, 0, 0), [], []),
  (6, .getfield 29, 3, (9, 8, 2), [], [1284]),
  (9, .iload_n 1, 1, (0, 0, 0), [], []),
  (10, .iaload, 1, (0, 0, 0), [], []),
  (11, .tableswitch 132 5 10 #[37, 62, 132, 88, 132, 113], 37, (143, 0, 0), [(5, 48), (6, 73), (7, 143), (8, 99), (9, 143), (10, 124)], []),
  (48, .aload_n 2, 1, (0, 0, 0), [], []),
  (49, .getfield 254, 3, (7, 1, 2), [], [1145, 1]),
  (52, .aload_n 2, 1, (0, 0, 0), [], []),
  (53, .getfield 63, 3, (7, 0, 0), [], [1142, 1]),
  (56, .iconst 1, 1, (0, 0, 0), [], []),
  (57, .isub, 1, (0, 0, 0), [], []),
  (58, .aload_n 0, 1, (0, 0, 0), [], []),
  (59, .iload_n 1, 1, (0, 0, 0), [], []),
  (60, .invokevirtual 213, 3, (0, 188, 9), [], [1466, 118, 1468, 79]),
  (63, .iastore, 1, (0, 0, 0), [], []),
  (64, .aload_n 0, 1, (0, 0, 0), [], []),
  (65, .iload_n 1, 1, (0, 0, 0), [], []),
  (66, .iconst 0, 1, (0, 0, 0), [], []),
  (67, .bipush 12, 2, (0, 0, 0), [], []),
  (69, .invokevirtual 257, 3, (0, 193, 9), [], [1506, 118, 1508, 89]),
  (72, .ireturn, 1, (0, 0, 0), [], []),
  (73, .aload_n 2, 1, (0, 0, 0), [], []),
  (74, .getfield 260, 3, (7, 3, 2), [], [1150, 1]),
  (77, .aload_n 2, 1, (0, 0, 0), [], []),
  (78, .getfield 70, 3, (7, 2, 0), [], [1146, 1]),
  (81, .iconst 1, 1, (0, 0, 0), [], []),
  (82, .isub, 1, (0, 0, 0), [], []),
  (83, .aload_n 0, 1, (0, 0, 0), [], []),
  (84, .iload_n 1, 1, (0, 0, 0), [], []),
  (85, .invokevirtual 213, 3, (0, 188, 9), [], [1466, 118, 1468, 79]),
  (88, .iastore, 1, (0, 0, 0), [], []),
  (89, .aload_n 0, 1, (0, 0, 0), [], []),
  (90, .iload_n 1, 1, (0, 0, 0), [], []),
  (91, .iconst 1, 1, (0, 0, 0), [], []),
  (92, .sipush 999, 3, (0, 0, 0), [], []),
  (95, .invokevirtual 257, 3, (0, 193, 9), [], [1506, 118, 1508, 89]),
  (98, .ireturn, 1, (0, 0, 0), [], []),
  (99, .aload_n 2, 1, (0, 0, 0), [], []),
  (100, .getfield 263, 3, (7, 5, 2), [], [1156, 1]),
  (103, .aload_n 2, 1, (0, 0, 0), [], []),
  (104, .getfield 70, 3, (7, 2, 0), [], [1146, 1]),
  (107, .iconst 1, 1, (0, 0, 0), [], []),
  (108, .isub, 1, (0, 0, 0), [], []),
  (109, .aload_n 0, 1, (0, 0, 0), [], []),
  (110, .iload_n 1, 1, (0, 0, 0), [], []),
  (111, .invokevirtual 213, 3, (0, 188, 9), [], [1466, 118, 1468, 79]),
  (114, .iastore, 1, (0, 0, 0), [], []),
  (115, .aload_n 0, 1, (0, 0, 0), [], []),
  (116, .iload_n 1, 1, (0, 0, 0), [], []),
  (117, .iconst 0, 1, (0, 0, 0), [], []),
  (118, .bipush 50, 2, (0, 0, 0), [], []),
  (120, .invokevirtual 257, 3, (0, 193, 9), [], [1506, 118, 1508, 89]),
  (123, .ireturn, 1, (0, 0, 0), [], []),
  (124, .aload_n 2, 1, (0, 0, 0), [], []),
  (125, .aload_n 0, 1, (0, 0, 0), [], []),
  (126, .iload_n 1, 1, (0, 0, 0), [], []),
  (127, .invokevirtual 213, 3, (0, 188, 9), [], [1466, 118, 1468, 79])]
def am_t197_1 : List am_E := [(130, .putfield 266, 3, (7, 8, 0), [], [1163, 1]),
  (133, .aload_n 0, 1, (0, 0, 0), [], []),
  (134, .iload_n 1, 1, (0, 0, 0), [], []),
  (135, .iconst 0, 1, (0, 0, 0), [], []),
  (136, .sipush 9999, 3, (0, 0, 0), [], []),
  (139, .invokevirtual 257, 3, (0, 193, 9), [], [1506, 118, 1508, 89]),
  (142, .ireturn, 1, (0, 0, 0), [], []),
  (143, .iconst 0, 1, (0, 0, 0), [], []),
  (144, .ireturn, 1, (0, 0, 0), [], [])]
def am_t197 : List am_E := am_t197_0 ++ (am_t197_1)
/-- 198: X11_read -/
def am_t198_0 : List am_E := [(0, .aload_n 0, 1, (0, 0, 0), [], []),
  (1, .new 35, 3, (7, 18, 0), [], [1136, 1137, 119]),
  (4, .dup, 1, (0, 0, 0), [], []),
  (5, .invokespecial 37, 3, (5, 127, 61), [], [1138, 119, 1139]),
  (8, .putfield 42, 3, (9, 13, 2), [], [1290]),
  (11, .aload_n 0, 1, (0, 0, 0), [], []),
  (12, .invokevirtual 267, 3, (0, 165, 9), [], [1353, 118, 1355, 54]),
  (15, .aload_n 0, 1, (0, 0, 0), [], []),
  (16, .iconst 0, 1, (0, 0, 0), [], []),
  (17, .putfield 124, 3, (9, 10, 0), [], [1286]),
  (20, .aload_n 0, 1, (0, 0, 0), [], []),
  (21, .iconst 0, 1, (0, 0, 0), [], []),
  (22, .putfield 183, 3, (9, 11, 0), [], [1287]),
  (25, .aload_n 0, 1, (0, 0, 0), [], []),
  (26, .invokevirtual 270, 3, (0, 172, 9), [], [1381, 118, 1383, 58]),
  (29, .ifCond .ne 18, 3, (47, 0, 0), [], []),
  (32, .aload_n 0, 1, (0, 0, 0), [], []),
  (33, .aload_n 0, 1, (0, 0, 0), [], []),
  (34, .getfield 23, 3, (9, 6, 2), [], [1282]),
  (37, .aload_n 0, 1, (0, 0, 0), [], []),
  (38, .getfield 124, 3, (9, 10, 0), [], [1286]),
  (41, .iaload, 1, (0, 0, 0), [], []),
  (42, .putfield 13, 3, (9, 3, 0), [], [1278]),
  (45, .iconst 1, 1, (0, 0, 0), [], []),
  (46, .ireturn, 1, (0, 0, 0), [], []),
  (47, .aload_n 0, 1, (0, 0, 0), [], []),
  (48, .getfield 124, 3, (9, 10, 0), [], [1286]),
  (51, .istore_n 1, 1, (0, 0, 0), [], []),
  (52, .aload_n 0, 1, (0, 0, 0), [], []),
  (53, .iconst 0, 1, (0, 0, 0), [], []),
  (54, .putfield 124, 3, (9, 10, 0), [], [1286]),
  (57, .aload_n 0, 1, (0, 0, 0), [], []),
  (58, .getfield 124, 3, (9, 10, 0), [], [1286]),
  (61, .iload_n 1, 1, (0, 0, 0), [], []),
  (62, .if_icmp .ge 47, 3, (109, 0, 0), [], []),
  (65, .aload_n 0, 1, (0, 0, 0), [], []),
  (66, .aload_n 0, 1, (0, 0, 0), [], []),
  (67, .getfield 124, 3, (9, 10, 0), [], [1286]),
  (70, .invokevirtual 273, 3, (0, 196, 9), [], [1474, 118, 1476, 81]),
  (73, .istore_n 2, 1, (0, 0, 0), [], []),
  (74, .iload_n 2, 1, (0, 0, 0), [], []),
  (75, .ifCond .ne 6, 3, (81, 0, 0), [], []),
  (78, .goto 18, 3, (96, 0, 0), [], []),
  (81, .aload_n 0, 1, (0, 0, 0), [], []),
  (82, .aload_n 0, 1, (0, 0, 0), [], []),
  (83, .getfield 23, 3, (9, 6, 2), [], [1282]),
  (86, .aload_n 0, 1, (0, 0, 0), [], []),
  (87, .getfield 124, 3, (9, 10, 0), [], [1286]),
  (90, .iaload, 1, (0, 0, 0), [], []),
  (91, .putfield 13, 3, (9, 3, 0), [], [1278]),
  (94, .iload_n 2, 1, (0, 0, 0), [], []),
  (95, .ireturn, 1, (0, 0, 0), [], []),
  (96, .aload_n 0, 1, (0, 0, 0), [], []),
  (97, .dup, 1, (0, 0, 0), [], []),
  (98, .getfield 124, 3, (9, 10, 0), [], [1286]),
  (101, .iconst 1, 1, (0, 0, 0), [], []),
  (102, .iadd, 1, (0, 0, 0), [], []),
  (103, .putfield 124, 3, (9, 10, 0), [], [1286]),
  (106, .goto (-49), 3, (57, 0, 0), [], []),
  (109, .iconst 0, 1, (0, 0, 0), [], [])]
def am_t198_1 : List am_E := [(110, .istore_n 2, 1, (0, 0, 0), [], []),
  (111, .iload_n 2, 1, (0, 0, 0), [], []),
  (112, .aload_n 0, 1, (0, 0, 0), [], []),
  (113, .getfield 42, 3, (9, 13, 2), [], [1290]),
  (116, .getfield 189, 3, (7, 17, 0), [], [1182, 1]),
  (119, .if_icmp .ge 48, 3, (167, 0, 0), [], []),
  (122, .aload_n 0, 1, (0, 0, 0), [], []),
  (123, .getfield 42, 3, (9, 13, 2), [], [1290]),
  (126, .getfield 133, 3, (7, 14, 2), [], [1177, 1]),
  (129, .aload_n 0, 1, (0, 0, 0), [], []),
  (130, .getfield 42, 3, (9, 13, 2), [], [1290]),
  (133, .getfield 186, 3, (7, 16, 2), [], [1181, 1]),
  (136, .iload_n 2, 1, (0, 0, 0), [], []),
  (137, .iaload, 1, (0, 0, 0), [], []),
  (138, .aload_n 0, 1, (0, 0, 0), [], []),
  (139, .getfield 32, 3, (9, 9, 2), [], [1285]),
  (142, .aload_n 0, 1, (0, 0, 0), [], []),
  (143, .getfield 42, 3, (9, 13, 2), [], [1290]),
  (146, .getfield 133, 3, (7, 14, 2), [], [1177, 1]),
  (149, .aload_n 0, 1, (0, 0, 0), [], []),
  (150, .getfield 42, 3, (9, 13, 2), [], [1290]),
  (153, .getfield 186, 3, (7, 16, 2), [], [1181, 1]),
  (156, .iload_n 2, 1, (0, 0, 0), [], []),
  (157, .iaload, 1, (0, 0, 0), [], []),
  (158, .iaload, 1, (0, 0, 0), [], []),
  (159, .iaload, 1, (0, 0, 0), [], []),
  (160, .iastore, 1, (0, 0, 0), [], []),
  (161, .iinc 2 1, 3, (0, 0, 0), [], []),
  (164, .goto (-53), 3, (111, 0, 0), [], []),
  (167, .iconst 0, 1, (0, 0, 0), [], []),
  (168, .ireturn, 1, (0, 0, 0), [], [])]
def am_t198 : List am_E := am_t198_0 ++ (am_t198_1)
/-- 199: X11_feed -/
def am_t199_0 : List am_E := [(0, .aload_n 0, 1, (0, 0, 0), [], []),
  (1, .iconst 0, 1, (0, 0, 0), [], []),
  (2, .putfield 60, 3, (9, 0, 0), [], [1275]),
  (5, .aload_n 0, 1, (0, 0, 0), [], []),
  (6, .getfield 85, 3, (9, 2, 0), [], [1277]),
  (9, .sipush 1980, 3, (0, 0, 0), [], []),
  (12, .if_icmp .le 9, 3, (21, 0, 0), [], []),
  (15, .aload_n 0, 1, (0, 0, 0), [], []),
  (16, .iconst 1, 1, (0, 0, 0), [], []),
  (17, .invokevirtual 276, 3, (0, 153, 9), [], [1334, 118, 1336, 52]),
  (20, .ireturn, 1, (0, 0, 0), [], []),
  (21, .iconst 5, 1, (0, 0, 0), [], []),
  (22, .newarray .int, 2, (20, 0, 0), [], [226]),
  (24, .dup, 1, (0, 0, 0), [], []),
  (25, .iconst 0, 1, (0, 0, 0), [], []),
  (26, .iload_n 1, 1, (0, 0, 0), [], []),
  (27, .iastore, 1, (0, 0, 0), [], []),
  (28, .dup, 1, (0, 0, 0), [], []),
  (29, .iconst 1, 1, (0, 0, 0), [], []),
  (30, .iload_n 2, 1, (0, 0, 0), [], []),
  (31, .iastore, 1, (0, 0, 0), [], []),
  (32, .dup, 1, (0, 0, 0), [], []),
  (33, .iconst 2, 1, (0, 0, 0), [], []),
  (34, .iload_n 3, 1, (0, 0, 0), [], []),
  (35, .iastore, 1, (0, 0, 0), [], []),
  (36, .dup, 1, (0, 0, 0), [], []),
  (37, .iconst 3, 1, (0, 0, 0), [], []),
  (38, .iload 4, 2, (0, 0, 0), [], []),
  (40, .iastore, 1, (0, 0, 0), [], []),
  (41, .dup, 1, (0, 0, 0), [], []),
  (42, .iconst 4, 1, (0, 0, 0), [], []),
  (43, .iload 5, 2, (0, 0, 0), [], []),
  (45, .iastore, 1, (0, 0, 0), [], []),
  (46, .astore 6, 2, (0, 0, 0), [], []),
  (48, .iconst 0, 1, (0, 0, 0), [], []),
  (49, .istore 7, 2, (0, 0, 0), [], []),
  (51, .iload 7, 2, (0, 0, 0), [], []),
  (53, .bipush 20, 2, (0, 0, 0), [], []),
  (55, .if_icmp .ge 43, 3, (98, 0, 0), [], []),
  (58, .aload_n 0, 1, (0, 0, 0), [], []),
  (59, .getfield 9, 3, (9, 1, 2), [], [1276]),
  (62, .aload_n 0, 1, (0, 0, 0), [], []),
  (63, .getfield 85, 3, (9, 2, 0), [], [1277]),
  (66, .iload 7, 2, (0, 0, 0), [], []),
  (68, .iadd, 1, (0, 0, 0), [], []),
  (69, .aload 6, 2, (0, 0, 0), [], []),
  (71, .iload 7, 2, (0, 0, 0), [], []),
  (73, .iconst 4, 1, (0, 0, 0), [], []),
  (74, .idiv, 1, (0, 0, 0), [], []),
  (75, .iaload, 1, (0, 0, 0), [], []),
  (76, .bipush 24, 2, (0, 0, 0), [], []),
  (78, .bipush 8, 2, (0, 0, 0), [], []),
  (80, .iload 7, 2, (0, 0, 0), [], []),
  (82, .iconst 4, 1, (0, 0, 0), [], []),
  (83, .irem, 1, (0, 0, 0), [], []),
  (84, .imul, 1, (0, 0, 0), [], []),
  (85, .isub, 1, (0, 0, 0), [], []),
  (86, .ishr, 1, (0, 0, 0), [], []),
  (87, .sipush 255, 3, (0, 0, 0), [], []),
  (90, .iand, 1, (0, 0, 0), [], [])]
def am_t199_1 : List am_E := [(91, .iastore, 1, (0, 0, 0), [], []),
  (92, .iinc 7 1, 3, (0, 0, 0), [], []),
  (95, .goto (-44), 3, (51, 0, 0), [], []),
  (98, .aload_n 0, 1, (0, 0, 0), [], []),
  (99, .dup, 1, (0, 0, 0), [], []),
  (100, .getfield 85, 3, (9, 2, 0), [], [1277]),
  (103, .bipush 20, 2, (0, 0, 0), [], []),
  (105, .iadd, 1, (0, 0, 0), [], []),
  (106, .putfield 85, 3, (9, 2, 0), [], [1277]),
  (109, .aload_n 0, 1, (0, 0, 0), [], []),
  (110, .getfield 85, 3, (9, 2, 0), [], [1277]),
  (113, .ireturn, 1, (0, 0, 0), [], [])]
def am_t199 : List am_E := am_t199_0 ++ (am_t199_1)
/-- 200: X11_trim -/
def am_t200 : List am_E := [(0, .aload_n 0, 1, (0, 0, 0), [], []),
  (1, .iconst 0, 1, (0, 0, 0), [], []),
  (2, .putfield 60, 3, (9, 0, 0), [], [1275]),
  (5, .iload_n 1, 1, (0, 0, 0), [], []),
  (6, .iconst 0, 1, (0, 0, 0), [], []),
  (7, .aload_n 0, 1, (0, 0, 0), [], []),
  (8, .getfield 85, 3, (9, 2, 0), [], [1277]),
  (11, .invokestatic 66, 3, (2, 154, 0), [], [1342, 118, 1343]),
  (14, .ifCond .ne 9, 3, (23, 0, 0), [], []),
  (17, .aload_n 0, 1, (0, 0, 0), [], []),
  (18, .iconst 1, 1, (0, 0, 0), [], []),
  (19, .invokevirtual 276, 3, (0, 153, 9), [], [1334, 118, 1336, 52]),
  (22, .ireturn, 1, (0, 0, 0), [], []),
  (23, .aload_n 0, 1, (0, 0, 0), [], []),
  (24, .iload_n 1, 1, (0, 0, 0), [], []),
  (25, .putfield 85, 3, (9, 2, 0), [], [1277]),
  (28, .iload_n 1, 1, (0, 0, 0), [], []),
  (29, .ireturn, 1, (0, 0, 0), [], [])]
/-- 201: X11_teach -/
def am_t201 : List am_E := [(0, .aload_n 0, 1, (0, 0, 0), [], []),
  (1, .iconst 0, 1, (0, 0, 0), [], []),
  (2, .putfield 60, 3, (9, 0, 0), [], [1275]),
  (5, .aload_n 0, 1, (0, 0, 0), [], []),
  (6, .iconst (-1), 1, (0, 0, 0), [], []),
  (7, .putfield 13, 3, (9, 3, 0), [], [1278]),
  (10, .aload_n 0, 1, (0, 0, 0), [], []),
  (11, .invokevirtual 279, 3, (0, 198, 9), [], [1349, 118, 1351, 53]),
  (14, .istore_n 1, 1, (0, 0, 0), [], []),
  (15, .aload_n 0, 1, (0, 0, 0), [], []),
  (16, .iconst 0, 1, (0, 0, 0), [], []),
  (17, .putfield 85, 3, (9, 2, 0), [], [1277]),
  (20, .iload_n 1, 1, (0, 0, 0), [], []),
  (21, .ifCond .le 5, 3, (26, 0, 0), [], []),
  (24, .iload_n 1, 1, (0, 0, 0), [], []),
  (25, .ireturn, 1, (0, 0, 0), [], []),
  (26, .aload_n 0, 1, (0, 0, 0), [], []),
  (27, .aload_n 0, 1, (0, 0, 0), [], []),
  (28, .getfield 42, 3, (9, 13, 2), [], [1290]),
  (31, .putfield 38, 3, (9, 12, 2), [], [1288]),
  (34, .aload_n 0, 1, (0, 0, 0), [], []),
  (35, .aload_n 0, 1, (0, 0, 0), [], []),
  (36, .getfield 38, 3, (9, 12, 2), [], [1288]),
  (39, .getfield 266, 3, (7, 8, 0), [], [1163, 1]),
  (42, .putfield 17, 3, (9, 4, 0), [], [1279]),
  (45, .aload_n 0, 1, (0, 0, 0), [], []),
  (46, .getfield 50, 3, (9, 14, 2), [], [1291]),
  (49, .invokevirtual 57, 3, (0, 131, 8), [], [1271, 120, 1272, 1273]),
  (52, .iconst 0, 1, (0, 0, 0), [], []),
  (53, .ireturn, 1, (0, 0, 0), [], [])]
/-- 202: X11_errorAt -/
def am_t202 : List am_E := [(0, .aload_n 0, 1, (0, 0, 0), [], []),
  (1, .iconst 0, 1, (0, 0, 0), [], []),
  (2, .putfield 60, 3, (9, 0, 0), [], [1275]),
  (5, .aload_n 0, 1, (0, 0, 0), [], []),
  (6, .getfield 13, 3, (9, 3, 0), [], [1278]),
  (9, .ireturn, 1, (0, 0, 0), [], [])]
/-- 203: X11_counted -/
def am_t203 : List am_E := [(0, .iload_n 1, 1, (0, 0, 0), [], []),
  (1, .bipush 6, 2, (0, 0, 0), [], []),
  (3, .bipush 10, 2, (0, 0, 0), [], []),
  (5, .invokestatic 66, 3, (2, 154, 0), [], [1342, 118, 1343]),
  (8, .ifCond .eq 12, 3, (20, 0, 0), [], []),
  (11, .aload_n 0, 1, (0, 0, 0), [], []),
  (12, .getfield 50, 3, (9, 14, 2), [], [1291]),
  (15, .iload_n 1, 1, (0, 0, 0), [], []),
  (16, .invokevirtual 282, 3, (0, 148, 8), [], [1522, 120, 1523, 1524]),
  (19, .ireturn, 1, (0, 0, 0), [], []),
  (20, .bipush 6, 2, (0, 0, 0), [], []),
  (22, .newarray .int, 2, (20, 0, 0), [], [226]),
  (24, .dup, 1, (0, 0, 0), [], []),
  (25, .iconst 0, 1, (0, 0, 0), [], []),
  (26, .aload_n 0, 1, (0, 0, 0), [], []),
  (27, .getfield 50, 3, (9, 14, 2), [], [1291]),
  (30, .getfield 285, 3, (8, 0, 0), [], [1227, 1]),
  (33, .iastore, 1, (0, 0, 0), [], []),
  (34, .dup, 1, (0, 0, 0), [], []),
  (35, .iconst 1, 1, (0, 0, 0), [], []),
  (36, .aload_n 0, 1, (0, 0, 0), [], []),
  (37, .getfield 38, 3, (9, 12, 2), [], [1288]),
  (40, .getfield 63, 3, (7, 0, 0), [], [1142, 1]),
  (43, .iastore, 1, (0, 0, 0), [], []),
  (44, .dup, 1, (0, 0, 0), [], []),
  (45, .iconst 2, 1, (0, 0, 0), [], []),
  (46, .aload_n 0, 1, (0, 0, 0), [], []),
  (47, .getfield 38, 3, (9, 12, 2), [], [1288]),
  (50, .getfield 70, 3, (7, 2, 0), [], [1146, 1]),
  (53, .iastore, 1, (0, 0, 0), [], []),
  (54, .dup, 1, (0, 0, 0), [], []),
  (55, .iconst 3, 1, (0, 0, 0), [], []),
  (56, .aload_n 0, 1, (0, 0, 0), [], []),
  (57, .getfield 38, 3, (9, 12, 2), [], [1288]),
  (60, .getfield 73, 3, (7, 6, 0), [], [1158, 1]),
  (63, .iastore, 1, (0, 0, 0), [], []),
  (64, .dup, 1, (0, 0, 0), [], []),
  (65, .iconst 4, 1, (0, 0, 0), [], []),
  (66, .aload_n 0, 1, (0, 0, 0), [], []),
  (67, .getfield 38, 3, (9, 12, 2), [], [1288]),
  (70, .getfield 226, 3, (7, 9, 0), [], [1165, 1]),
  (73, .iastore, 1, (0, 0, 0), [], []),
  (74, .dup, 1, (0, 0, 0), [], []),
  (75, .iconst 5, 1, (0, 0, 0), [], []),
  (76, .aload_n 0, 1, (0, 0, 0), [], []),
  (77, .getfield 17, 3, (9, 4, 0), [], [1279]),
  (80, .iastore, 1, (0, 0, 0), [], []),
  (81, .astore_n 2, 1, (0, 0, 0), [], []),
  (82, .iload_n 1, 1, (0, 0, 0), [], []),
  (83, .bipush 6, 2, (0, 0, 0), [], []),
  (85, .if_icmp .ge 9, 3, (94, 0, 0), [], []),
  (88, .aload_n 2, 1, (0, 0, 0), [], []),
  (89, .iload_n 1, 1, (0, 0, 0), [], []),
  (90, .iaload, 1, (0, 0, 0), [], []),
  (91, .goto 7, 3, (98, 0, 0), [], []),
  (94, .aload_n 0, 1, (0, 0, 0), [], []),
  (95, .getfield 85, 3, (9, 2, 0), [], [1277]),
  (98, .ireturn, 1, (0, 0, 0), [], [])]
/-- 204: X11_count -/
def am_t204 : List am_E := [(0, .aload_n 0, 1, (0, 0, 0), [], []),
  (1, .iconst 0, 1, (0, 0, 0), [], []),
  (2, .putfield 60, 3, (9, 0, 0), [], [1275]),
  (5, .iload_n 1, 1, (0, 0, 0), [], []),
  (6, .iconst 0, 1, (0, 0, 0), [], []),
  (7, .bipush 11, 2, (0, 0, 0), [], []),
  (9, .invokestatic 66, 3, (2, 154, 0), [], [1342, 118, 1343]),
  (12, .ifCond .eq 11, 3, (23, 0, 0), [], []),
  (15, .aload_n 0, 1, (0, 0, 0), [], []),
  (16, .iload_n 1, 1, (0, 0, 0), [], []),
  (17, .invokevirtual 288, 3, (0, 203, 9), [], [1518, 118, 1520, 90]),
  (20, .goto 8, 3, (28, 0, 0), [], []),
  (23, .aload_n 0, 1, (0, 0, 0), [], []),
  (24, .iconst 1, 1, (0, 0, 0), [], []),
  (25, .invokevirtual 276, 3, (0, 153, 9), [], [1334, 118, 1336, 52]),
  (28, .ireturn, 1, (0, 0, 0), [], [])]
/-- 205: X11_wardTold -/
def am_t205_0 : List am_E := [(0, .iconst 0, 1, (0, 0, 0), [], []),
  (1, .istore_n 3, 1, (0, 0, 0), [], []),
  (2, .iconst 0, 1, (0, 0, 0), [], []),
  (3, .istore 4, 2, (0, 0, 0), [], []),
  (5, .iconst 0, 1, (0, 0, 0), [], []),
  (6, .istore 5, 2, (0, 0, 0), [], []),
  (8, .iconst 0, 1, (0, 0, 0), [], []),
  (9, .istore 6, 2, (0, 0, 0), [], []),
  (11, .iload 6, 2, (0, 0, 0), [], []),
  (13, .aload_n 0, 1, (0, 0, 0), [], []),
  (14, .getfield 38, 3, (9, 12, 2), [], [1288]),
  (17, .getfield 70, 3, (7, 2, 0), [], [1146, 1]),
  (20, .if_icmp .ge 86, 3, (106, 0, 0), [], []),
  (23, .aload_n 0, 1, (0, 0, 0), [], []),
  (24, .getfield 38, 3, (9, 12, 2), [], [1288]),
  (27, .getfield 242, 3, (7, 4, 2), [], [1153, 1]),
  (30, .iload 6, 2, (0, 0, 0), [], []),
  (32, .iaload, 1, (0, 0, 0), [], []),
  (33, .iload_n 1, 1, (0, 0, 0), [], []),
  (34, .if_icmp .eq 6, 3, (40, 0, 0), [], []),
  (37, .goto 63, 3, (100, 0, 0), [], []),
  (40, .iinc 3 1, 3, (0, 0, 0), [], []),
  (43, .iload 4, 2, (0, 0, 0), [], []),
  (45, .aload_n 0, 1, (0, 0, 0), [], []),
  (46, .getfield 50, 3, (9, 14, 2), [], [1291]),
  (49, .getfield 289, 3, (8, 7, 2), [], [1239, 1]),
  (52, .iload 6, 2, (0, 0, 0), [], []),
  (54, .iaload, 1, (0, 0, 0), [], []),
  (55, .iconst (-1), 1, (0, 0, 0), [], []),
  (56, .if_icmp .ne 7, 3, (63, 0, 0), [], []),
  (59, .iconst 0, 1, (0, 0, 0), [], []),
  (60, .goto 4, 3, (64, 0, 0), [], []),
  (63, .iconst 1, 1, (0, 0, 0), [], []),
  (64, .iadd, 1, (0, 0, 0), [], []),
  (65, .istore 4, 2, (0, 0, 0), [], []),
  (67, .iload 5, 2, (0, 0, 0), [], []),
  (69, .aload_n 0, 1, (0, 0, 0), [], []),
  (70, .getfield 50, 3, (9, 14, 2), [], [1291]),
  (73, .getfield 289, 3, (8, 7, 2), [], [1239, 1]),
  (76, .iload 6, 2, (0, 0, 0), [], []),
  (78, .iaload, 1, (0, 0, 0), [], []),
  (79, .iconst (-1), 1, (0, 0, 0), [], []),
  (80, .if_icmp .ne 7, 3, (87, 0, 0), [], []),
  (83, .iconst 0, 1, (0, 0, 0), [], []),
  (84, .goto 13, 3, (97, 0, 0), [], []),
  (87, .aload_n 0, 1, (0, 0, 0), [], []),
  (88, .getfield 50, 3, (9, 14, 2), [], [1291]),
  (91, .getfield 292, 3, (8, 6, 2), [], [1237, 1]),
  (94, .iload 6, 2, (0, 0, 0), [], []),
  (96, .iaload, 1, (0, 0, 0), [], []),
  (97, .iadd, 1, (0, 0, 0), [], []),
  (98, .istore 5, 2, (0, 0, 0), [], []),
  (100, .iinc 6 1, 3, (0, 0, 0), [], []),
  (103, .goto (-92), 3, (11, 0, 0), [], []),
  (106, .iload_n 2, 1, (0, 0, 0), [], []),
  (107, .ifCond .ne 15, 3, (122, 0, 0), [], []),
  (110, .aload_n 0, 1, (0, 0, 0), [], []),
  (111, .getfield 38, 3, (9, 12, 2), [], [1288]),
  (114, .getfield 254, 3, (7, 1, 2), [], [1145, 1]),
  (117, .iload_n 1, 1, (0, 0, 0), [], [])]
def am_t205_1 : List am_E := [(118, .iaload, 1, (0, 0, 0), [], []),
  (119, .goto 24, 3, (143, 0, 0), [], []),
  (122, .iload_n 2, 1, (0, 0, 0), [], []),
  (123, .iconst 1, 1, (0, 0, 0), [], []),
  (124, .if_icmp .ne 7, 3, (131, 0, 0), [], []),
  (127, .iload_n 3, 1, (0, 0, 0), [], []),
  (128, .goto 15, 3, (143, 0, 0), [], []),
  (131, .iload_n 2, 1, (0, 0, 0), [], []),
  (132, .iconst 2, 1, (0, 0, 0), [], []),
  (133, .if_icmp .ne 8, 3, (141, 0, 0), [], []),
  (136, .iload 4, 2, (0, 0, 0), [], []),
  (138, .goto 5, 3, (143, 0, 0), [], []),
  (141, .iload 5, 2, (0, 0, 0), [], []),
  (143, .ireturn, 1, (0, 0, 0), [], [])]
def am_t205 : List am_E := am_t205_0 ++ (am_t205_1)
/-- 206: X11_ward -/
def am_t206 : List am_E := [(0, .aload_n 0, 1, (0, 0, 0), [], []),
  (1, .iconst 0, 1, (0, 0, 0), [], []),
  (2, .putfield 60, 3, (9, 0, 0), [], [1275]),
  (5, .aload_n 0, 1, (0, 0, 0), [], []),
  (6, .iload_n 1, 1, (0, 0, 0), [], []),
  (7, .invokevirtual 293, 3, (0, 155, 9), [], [1538, 118, 1540, 93]),
  (10, .ifCond .eq 21, 3, (31, 0, 0), [], []),
  (13, .iload_n 2, 1, (0, 0, 0), [], []),
  (14, .iconst 0, 1, (0, 0, 0), [], []),
  (15, .iconst 3, 1, (0, 0, 0), [], []),
  (16, .invokestatic 66, 3, (2, 154, 0), [], [1342, 118, 1343]),
  (19, .ifCond .eq 12, 3, (31, 0, 0), [], []),
  (22, .aload_n 0, 1, (0, 0, 0), [], []),
  (23, .iload_n 1, 1, (0, 0, 0), [], []),
  (24, .iload_n 2, 1, (0, 0, 0), [], []),
  (25, .invokevirtual 296, 3, (0, 205, 9), [], [1542, 118, 1544, 94]),
  (28, .goto 8, 3, (36, 0, 0), [], []),
  (31, .aload_n 0, 1, (0, 0, 0), [], []),
  (32, .iconst 1, 1, (0, 0, 0), [], []),
  (33, .invokevirtual 276, 3, (0, 153, 9), [], [1334, 118, 1336, 52]),
  (36, .ireturn, 1, (0, 0, 0), [], [])]
/-- 207: X11_projectTold -/
def am_t207_0 : List am_E := [(0, .bipush 8, 2, (0, 0, 0), [], []),
  (2, .newarray .int, 2, (20, 0, 0), [], [226]),
  (4, .dup, 1, (0, 0, 0), [], []),
  (5, .iconst 0, 1, (0, 0, 0), [], []),
  (6, .aload_n 0, 1, (0, 0, 0), [], []),
  (7, .getfield 50, 3, (9, 14, 2), [], [1291]),
  (10, .getfield 292, 3, (8, 6, 2), [], [1237, 1]),
  (13, .iload_n 1, 1, (0, 0, 0), [], []),
  (14, .iaload, 1, (0, 0, 0), [], []),
  (15, .iastore, 1, (0, 0, 0), [], []),
  (16, .dup, 1, (0, 0, 0), [], []),
  (17, .iconst 1, 1, (0, 0, 0), [], []),
  (18, .aload_n 0, 1, (0, 0, 0), [], []),
  (19, .getfield 38, 3, (9, 12, 2), [], [1288]),
  (22, .getfield 242, 3, (7, 4, 2), [], [1153, 1]),
  (25, .iload_n 1, 1, (0, 0, 0), [], []),
  (26, .iaload, 1, (0, 0, 0), [], []),
  (27, .iastore, 1, (0, 0, 0), [], []),
  (28, .dup, 1, (0, 0, 0), [], []),
  (29, .iconst 2, 1, (0, 0, 0), [], []),
  (30, .aload_n 0, 1, (0, 0, 0), [], []),
  (31, .getfield 38, 3, (9, 12, 2), [], [1288]),
  (34, .getfield 263, 3, (7, 5, 2), [], [1156, 1]),
  (37, .iload_n 1, 1, (0, 0, 0), [], []),
  (38, .iaload, 1, (0, 0, 0), [], []),
  (39, .iastore, 1, (0, 0, 0), [], []),
  (40, .dup, 1, (0, 0, 0), [], []),
  (41, .iconst 3, 1, (0, 0, 0), [], []),
  (42, .aload_n 0, 1, (0, 0, 0), [], []),
  (43, .getfield 50, 3, (9, 14, 2), [], [1291]),
  (46, .iload_n 1, 1, (0, 0, 0), [], []),
  (47, .invokevirtual 299, 3, (0, 133, 8), [], [1558, 120, 1559, 1560]),
  (50, .iastore, 1, (0, 0, 0), [], []),
  (51, .dup, 1, (0, 0, 0), [], []),
  (52, .iconst 4, 1, (0, 0, 0), [], []),
  (53, .aload_n 0, 1, (0, 0, 0), [], []),
  (54, .getfield 50, 3, (9, 14, 2), [], [1291]),
  (57, .getfield 289, 3, (8, 7, 2), [], [1239, 1]),
  (60, .iload_n 1, 1, (0, 0, 0), [], []),
  (61, .iaload, 1, (0, 0, 0), [], []),
  (62, .iastore, 1, (0, 0, 0), [], []),
  (63, .dup, 1, (0, 0, 0), [], []),
  (64, .iconst 5, 1, (0, 0, 0), [], []),
  (65, .aload_n 0, 1, (0, 0, 0), [], []),
  (66, .getfield 50, 3, (9, 14, 2), [], [1291]),
  (69, .getfield 302, 3, (8, 8, 2), [], [1241, 1]),
  (72, .iload_n 1, 1, (0, 0, 0), [], []),
  (73, .iaload, 1, (0, 0, 0), [], []),
  (74, .iastore, 1, (0, 0, 0), [], []),
  (75, .dup, 1, (0, 0, 0), [], []),
  (76, .bipush 6, 2, (0, 0, 0), [], []),
  (78, .aload_n 0, 1, (0, 0, 0), [], []),
  (79, .getfield 50, 3, (9, 14, 2), [], [1291]),
  (82, .iload_n 1, 1, (0, 0, 0), [], []),
  (83, .invokevirtual 305, 3, (0, 137, 8), [], [1566, 120, 1567, 1568]),
  (86, .ifCond .eq 7, 3, (93, 0, 0), [], []),
  (89, .iconst 1, 1, (0, 0, 0), [], []),
  (90, .goto 4, 3, (94, 0, 0), [], []),
  (93, .iconst 0, 1, (0, 0, 0), [], []),
  (94, .iastore, 1, (0, 0, 0), [], [])]
def am_t207_1 : List am_E := [(95, .dup, 1, (0, 0, 0), [], []),
  (96, .bipush 7, 2, (0, 0, 0), [], []),
  (98, .aload_n 0, 1, (0, 0, 0), [], []),
  (99, .getfield 50, 3, (9, 14, 2), [], [1291]),
  (102, .iload_n 1, 1, (0, 0, 0), [], []),
  (103, .sipush 9999, 3, (0, 0, 0), [], []),
  (106, .invokevirtual 308, 3, (0, 134, 8), [], [1590, 120, 1591, 1592]),
  (109, .iastore, 1, (0, 0, 0), [], []),
  (110, .astore_n 3, 1, (0, 0, 0), [], []),
  (111, .aload_n 3, 1, (0, 0, 0), [], []),
  (112, .iload_n 2, 1, (0, 0, 0), [], []),
  (113, .iaload, 1, (0, 0, 0), [], []),
  (114, .ireturn, 1, (0, 0, 0), [], [])]
def am_t207 : List am_E := am_t207_0 ++ (am_t207_1)
/-- 208: X11_project -/
def am_t208 : List am_E := [(0, .aload_n 0, 1, (0, 0, 0), [], []),
  (1, .iconst 0, 1, (0, 0, 0), [], []),
  (2, .putfield 60, 3, (9, 0, 0), [], [1275]),
  (5, .aload_n 0, 1, (0, 0, 0), [], []),
  (6, .iload_n 1, 1, (0, 0, 0), [], []),
  (7, .invokevirtual 311, 3, (0, 156, 9), [], [1550, 118, 1552, 95]),
  (10, .ifCond .eq 22, 3, (32, 0, 0), [], []),
  (13, .iload_n 2, 1, (0, 0, 0), [], []),
  (14, .iconst 0, 1, (0, 0, 0), [], []),
  (15, .bipush 7, 2, (0, 0, 0), [], []),
  (17, .invokestatic 66, 3, (2, 154, 0), [], [1342, 118, 1343]),
  (20, .ifCond .eq 12, 3, (32, 0, 0), [], []),
  (23, .aload_n 0, 1, (0, 0, 0), [], []),
  (24, .iload_n 1, 1, (0, 0, 0), [], []),
  (25, .iload_n 2, 1, (0, 0, 0), [], []),
  (26, .invokevirtual 314, 3, (0, 207, 9), [], [1554, 118, 1556, 96]),
  (29, .goto 8, 3, (37, 0, 0), [], []),
  (32, .aload_n 0, 1, (0, 0, 0), [], []),
  (33, .iconst 1, 1, (0, 0, 0), [], []),
  (34, .invokevirtual 276, 3, (0, 153, 9), [], [1334, 118, 1336, 52]),
  (37, .ireturn, 1, (0, 0, 0), [], [])]
/-- 209: X11_share -/
def am_t209 : List am_E := [(0, .aload_n 0, 1, (0, 0, 0), [], []),
  (1, .iconst 0, 1, (0, 0, 0), [], []),
  (2, .putfield 60, 3, (9, 0, 0), [], [1275]),
  (5, .aload_n 0, 1, (0, 0, 0), [], []),
  (6, .iload_n 1, 1, (0, 0, 0), [], []),
  (7, .invokevirtual 311, 3, (0, 156, 9), [], [1550, 118, 1552, 95]),
  (10, .ifCond .eq 14, 3, (24, 0, 0), [], []),
  (13, .aload_n 0, 1, (0, 0, 0), [], []),
  (14, .getfield 50, 3, (9, 14, 2), [], [1291]),
  (17, .iload_n 1, 1, (0, 0, 0), [], []),
  (18, .invokevirtual 317, 3, (0, 135, 8), [], [1599, 120, 1600, 1601]),
  (21, .goto 8, 3, (29, 0, 0), [], []),
  (24, .aload_n 0, 1, (0, 0, 0), [], []),
  (25, .iconst 1, 1, (0, 0, 0), [], []),
  (26, .invokevirtual 276, 3, (0, 153, 9), [], [1334, 118, 1336, 52]),
  (29, .ireturn, 1, (0, 0, 0), [], [])]
/-- 210: X11_voterTold -/
def am_t210 : List am_E := [(0, .iload_n 2, 1, (0, 0, 0), [], []),
  (1, .ifCond .ne 15, 3, (16, 0, 0), [], []),
  (4, .aload_n 0, 1, (0, 0, 0), [], []),
  (5, .getfield 50, 3, (9, 14, 2), [], [1291]),
  (8, .getfield 320, 3, (8, 3, 2), [], [1231, 1]),
  (11, .iload_n 1, 1, (0, 0, 0), [], []),
  (12, .iaload, 1, (0, 0, 0), [], []),
  (13, .goto 48, 3, (61, 0, 0), [], []),
  (16, .iload_n 2, 1, (0, 0, 0), [], []),
  (17, .iconst 1, 1, (0, 0, 0), [], []),
  (18, .if_icmp .ne 18, 3, (36, 0, 0), [], []),
  (21, .aload_n 0, 1, (0, 0, 0), [], []),
  (22, .getfield 50, 3, (9, 14, 2), [], [1291]),
  (25, .getfield 323, 3, (8, 5, 2), [], [1235, 1]),
  (28, .iload_n 1, 1, (0, 0, 0), [], []),
  (29, .iaload, 1, (0, 0, 0), [], []),
  (30, .invokestatic 324, 3, (2, 12, 0), [], [1616, 129, 746]),
  (33, .goto 28, 3, (61, 0, 0), [], []),
  (36, .iload_n 2, 1, (0, 0, 0), [], []),
  (37, .iconst 2, 1, (0, 0, 0), [], []),
  (38, .if_icmp .ne 14, 3, (52, 0, 0), [], []),
  (41, .aload_n 0, 1, (0, 0, 0), [], []),
  (42, .getfield 50, 3, (9, 14, 2), [], [1291]),
  (45, .iload_n 1, 1, (0, 0, 0), [], []),
  (46, .invokevirtual 329, 3, (0, 136, 8), [], [1617, 120, 1583, 1584]),
  (49, .goto 12, 3, (61, 0, 0), [], []),
  (52, .aload_n 0, 1, (0, 0, 0), [], []),
  (53, .getfield 50, 3, (9, 14, 2), [], [1291]),
  (56, .getfield 332, 3, (8, 4, 2), [], [1233, 1]),
  (59, .iload_n 1, 1, (0, 0, 0), [], []),
  (60, .iaload, 1, (0, 0, 0), [], []),
  (61, .ireturn, 1, (0, 0, 0), [], [])]
/-- 211: X11_voter -/
def am_t211 : List am_E := [(0, .aload_n 0, 1, (0, 0, 0), [], []),
  (1, .iconst 0, 1, (0, 0, 0), [], []),
  (2, .putfield 60, 3, (9, 0, 0), [], [1275]),
  (5, .aload_n 0, 1, (0, 0, 0), [], []),
  (6, .iload_n 1, 1, (0, 0, 0), [], []),
  (7, .invokevirtual 335, 3, (0, 157, 9), [], [1608, 118, 1610, 99]),
  (10, .ifCond .eq 21, 3, (31, 0, 0), [], []),
  (13, .iload_n 2, 1, (0, 0, 0), [], []),
  (14, .iconst 0, 1, (0, 0, 0), [], []),
  (15, .iconst 3, 1, (0, 0, 0), [], []),
  (16, .invokestatic 66, 3, (2, 154, 0), [], [1342, 118, 1343]),
  (19, .ifCond .eq 12, 3, (31, 0, 0), [], []),
  (22, .aload_n 0, 1, (0, 0, 0), [], []),
  (23, .iload_n 1, 1, (0, 0, 0), [], []),
  (24, .iload_n 2, 1, (0, 0, 0), [], []),
  (25, .invokevirtual 338, 3, (0, 210, 9), [], [1612, 118, 1614, 100]),
  (28, .goto 8, 3, (36, 0, 0), [], []),
  (31, .aload_n 0, 1, (0, 0, 0), [], []),
  (32, .iconst 1, 1, (0, 0, 0), [], []),
  (33, .invokevirtual 276, 3, (0, 153, 9), [], [1334, 118, 1336, 52]),
  (36, .ireturn, 1, (0, 0, 0), [], [])]
/-- 212: X11_likes -/
def am_t212 : List am_E := [(0, .aload_n 0, 1, (0, 0, 0), [], []),
  (1, .aload_n 0, 1, (0, 0, 0), [], []),
  (2, .iload_n 1, 1, (0, 0, 0), [], []),
  (3, .invokevirtual 335, 3, (0, 157, 9), [], [1608, 118, 1610, 99]),
  (6, .ifCond .eq 15, 3, (21, 0, 0), [], []),
  (9, .aload_n 0, 1, (0, 0, 0), [], []),
  (10, .iload_n 2, 1, (0, 0, 0), [], []),
  (11, .invokevirtual 311, 3, (0, 156, 9), [], [1550, 118, 1552, 95]),
  (14, .ifCond .eq 7, 3, (21, 0, 0), [], []),
  (17, .iconst 0, 1, (0, 0, 0), [], []),
  (18, .goto 4, 3, (22, 0, 0), [], []),
  (21, .iconst 1, 1, (0, 0, 0), [], []),
  (22, .putfield 60, 3, (9, 0, 0), [], [1275]),
  (25, .aload_n 0, 1, (0, 0, 0), [], []),
  (26, .getfield 60, 3, (9, 0, 0), [], [1275]),
  (29, .ifCond .ne 19, 3, (48, 0, 0), [], []),
  (32, .aload_n 0, 1, (0, 0, 0), [], []),
  (33, .getfield 50, 3, (9, 14, 2), [], [1291]),
  (36, .iload_n 1, 1, (0, 0, 0), [], []),
  (37, .iload_n 2, 1, (0, 0, 0), [], []),
  (38, .invokevirtual 341, 3, (0, 132, 8), [], [1622, 120, 1563, 1564]),
  (41, .ifCond .eq 7, 3, (48, 0, 0), [], []),
  (44, .iconst 1, 1, (0, 0, 0), [], []),
  (45, .goto 4, 3, (49, 0, 0), [], []),
  (48, .iconst 0, 1, (0, 0, 0), [], []),
  (49, .ireturn, 1, (1, 0, 0), [], [])]
/-- 213: X11_envy -/
def am_t213 : List am_E := [(0, .aload_n 0, 1, (0, 0, 0), [], []),
  (1, .iconst 0, 1, (0, 0, 0), [], []),
  (2, .putfield 60, 3, (9, 0, 0), [], [1275]),
  (5, .aload_n 0, 1, (0, 0, 0), [], []),
  (6, .iload_n 1, 1, (0, 0, 0), [], []),
  (7, .invokevirtual 335, 3, (0, 157, 9), [], [1608, 118, 1610, 99]),
  (10, .ifCond .eq 31, 3, (41, 0, 0), [], []),
  (13, .aload_n 0, 1, (0, 0, 0), [], []),
  (14, .iload_n 2, 1, (0, 0, 0), [], []),
  (15, .invokevirtual 335, 3, (0, 157, 9), [], [1608, 118, 1610, 99]),
  (18, .ifCond .eq 23, 3, (41, 0, 0), [], []),
  (21, .aload_n 0, 1, (0, 0, 0), [], []),
  (22, .getfield 50, 3, (9, 14, 2), [], [1291]),
  (25, .iload_n 2, 1, (0, 0, 0), [], []),
  (26, .invokevirtual 329, 3, (0, 136, 8), [], [1617, 120, 1583, 1584]),
  (29, .aload_n 0, 1, (0, 0, 0), [], []),
  (30, .getfield 50, 3, (9, 14, 2), [], [1291]),
  (33, .iload_n 1, 1, (0, 0, 0), [], []),
  (34, .invokevirtual 329, 3, (0, 136, 8), [], [1617, 120, 1583, 1584]),
  (37, .isub, 1, (0, 0, 0), [], []),
  (38, .goto 8, 3, (46, 0, 0), [], []),
  (41, .aload_n 0, 1, (0, 0, 0), [], []),
  (42, .iconst 1, 1, (0, 0, 0), [], []),
  (43, .invokevirtual 276, 3, (0, 153, 9), [], [1334, 118, 1336, 52]),
  (46, .ireturn, 1, (0, 0, 0), [], [])]
/-- 214: X11_nextOne -/
def am_t214 : List am_E := [(0, .aload_n 0, 1, (0, 0, 0), [], []),
  (1, .getfield 54, 3, (9, 15, 2), [], [1292]),
  (4, .aload_n 0, 1, (0, 0, 0), [], []),
  (5, .getfield 50, 3, (9, 14, 2), [], [1291]),
  (8, .invokevirtual 344, 3, (0, 130, 8), [], [1635, 120, 1636, 1637]),
  (11, .pop, 1, (0, 0, 0), [], []),
  (12, .aload_n 0, 1, (0, 0, 0), [], []),
  (13, .getfield 54, 3, (9, 15, 2), [], [1292]),
  (16, .invokevirtual 348, 3, (0, 139, 8), [], [1646, 120, 1647, 1648]),
  (19, .aload_n 0, 1, (0, 0, 0), [], []),
  (20, .getfield 54, 3, (9, 15, 2), [], [1292]),
  (23, .invokevirtual 351, 3, (0, 140, 8), [], [1650, 120, 1651, 1652]),
  (26, .ireturn, 1, (0, 0, 0), [], [])]
/-- 215: X11_next -/
def am_t215 : List am_E := [(0, .aload_n 0, 1, (0, 0, 0), [], []),
  (1, .iconst 0, 1, (0, 0, 0), [], []),
  (2, .putfield 60, 3, (9, 0, 0), [], [1275]),
  (5, .aload_n 0, 1, (0, 0, 0), [], []),
  (6, .invokevirtual 354, 3, (0, 214, 9), [], [1631, 118, 1633, 101]),
  (9, .ireturn, 1, (0, 0, 0), [], [])]
/-- 216: X11_approve -/
def am_t216 : List am_E := [(0, .aload_n 0, 1, (0, 0, 0), [], []),
  (1, .aload_n 0, 1, (0, 0, 0), [], []),
  (2, .iload_n 1, 1, (0, 0, 0), [], []),
  (3, .invokevirtual 335, 3, (0, 157, 9), [], [1608, 118, 1610, 99]),
  (6, .ifCond .eq 15, 3, (21, 0, 0), [], []),
  (9, .aload_n 0, 1, (0, 0, 0), [], []),
  (10, .iload_n 2, 1, (0, 0, 0), [], []),
  (11, .invokevirtual 311, 3, (0, 156, 9), [], [1550, 118, 1552, 95]),
  (14, .ifCond .eq 7, 3, (21, 0, 0), [], []),
  (17, .iconst 0, 1, (0, 0, 0), [], []),
  (18, .goto 4, 3, (22, 0, 0), [], []),
  (21, .iconst 1, 1, (0, 0, 0), [], []),
  (22, .putfield 60, 3, (9, 0, 0), [], [1275]),
  (25, .aload_n 0, 1, (0, 0, 0), [], []),
  (26, .getfield 60, 3, (9, 0, 0), [], [1275]),
  (29, .ifCond .eq 5, 3, (34, 0, 0), [], []),
  (32, .iconst 0, 1, (0, 0, 0), [], []),
  (33, .ireturn, 1, (1, 0, 0), [], []),
  (34, .aload_n 0, 1, (0, 0, 0), [], []),
  (35, .getfield 50, 3, (9, 14, 2), [], [1291]),
  (38, .iload_n 1, 1, (0, 0, 0), [], []),
  (39, .iload_n 2, 1, (0, 0, 0), [], []),
  (40, .invokevirtual 341, 3, (0, 132, 8), [], [1622, 120, 1563, 1564]),
  (43, .istore 4, 2, (0, 0, 0), [], []),
  (45, .iload 4, 2, (0, 0, 0), [], []),
  (47, .iload_n 3, 1, (0, 0, 0), [], []),
  (48, .if_icmp .eq 18, 3, (66, 0, 0), [], []),
  (51, .aload_n 0, 1, (0, 0, 0), [], []),
  (52, .getfield 50, 3, (9, 14, 2), [], [1291]),
  (55, .getfield 323, 3, (8, 5, 2), [], [1235, 1]),
  (58, .iload_n 1, 1, (0, 0, 0), [], []),
  (59, .dup2, 1, (0, 0, 0), [], []),
  (60, .iaload, 1, (0, 0, 0), [], []),
  (61, .iconst 1, 1, (0, 0, 0), [], []),
  (62, .iload_n 2, 1, (0, 0, 0), [], []),
  (63, .ishl, 1, (0, 0, 0), [], []),
  (64, .ixor, 1, (0, 0, 0), [], []),
  (65, .iastore, 1, (0, 0, 0), [], []),
  (66, .iload 4, 2, (0, 0, 0), [], []),
  (68, .ireturn, 1, (1, 0, 0), [], [])]
/-- 217: X11_give -/
def am_t217 : List am_E := [(0, .aload_n 0, 1, (0, 0, 0), [], []),
  (1, .iconst 0, 1, (0, 0, 0), [], []),
  (2, .putfield 60, 3, (9, 0, 0), [], [1275]),
  (5, .aload_n 0, 1, (0, 0, 0), [], []),
  (6, .iload_n 1, 1, (0, 0, 0), [], []),
  (7, .invokevirtual 335, 3, (0, 157, 9), [], [1608, 118, 1610, 99]),
  (10, .ifCond .ne 9, 3, (19, 0, 0), [], []),
  (13, .aload_n 0, 1, (0, 0, 0), [], []),
  (14, .iconst 1, 1, (0, 0, 0), [], []),
  (15, .invokevirtual 276, 3, (0, 153, 9), [], [1334, 118, 1336, 52]),
  (18, .ireturn, 1, (0, 0, 0), [], []),
  (19, .iload_n 2, 1, (0, 0, 0), [], []),
  (20, .iconst 1, 1, (0, 0, 0), [], []),
  (21, .sipush 999, 3, (0, 0, 0), [], []),
  (24, .invokestatic 66, 3, (2, 154, 0), [], [1342, 118, 1343]),
  (27, .ifCond .ne 9, 3, (36, 0, 0), [], []),
  (30, .aload_n 0, 1, (0, 0, 0), [], []),
  (31, .iconst 2, 1, (0, 0, 0), [], []),
  (32, .invokevirtual 276, 3, (0, 153, 9), [], [1334, 118, 1336, 52]),
  (35, .ireturn, 1, (0, 0, 0), [], []),
  (36, .aload_n 0, 1, (0, 0, 0), [], []),
  (37, .getfield 50, 3, (9, 14, 2), [], [1291]),
  (40, .getfield 320, 3, (8, 3, 2), [], [1231, 1]),
  (43, .iload_n 1, 1, (0, 0, 0), [], []),
  (44, .sipush 9999, 3, (0, 0, 0), [], []),
  (47, .aload_n 0, 1, (0, 0, 0), [], []),
  (48, .getfield 50, 3, (9, 14, 2), [], [1291]),
  (51, .getfield 320, 3, (8, 3, 2), [], [1231, 1]),
  (54, .iload_n 1, 1, (0, 0, 0), [], []),
  (55, .iaload, 1, (0, 0, 0), [], []),
  (56, .iload_n 2, 1, (0, 0, 0), [], []),
  (57, .iadd, 1, (0, 0, 0), [], []),
  (58, .invokestatic 76, 3, (7, 0, 0), [], [1417, 466, 126, 467]),
  (61, .iastore, 1, (0, 0, 0), [], []),
  (62, .aload_n 0, 1, (0, 0, 0), [], []),
  (63, .getfield 50, 3, (9, 14, 2), [], [1291]),
  (66, .getfield 320, 3, (8, 3, 2), [], [1231, 1]),
  (69, .iload_n 1, 1, (0, 0, 0), [], []),
  (70, .iaload, 1, (0, 0, 0), [], []),
  (71, .ireturn, 1, (0, 0, 0), [], [])]
/-- 218: X11_setBudget -/
def am_t218 : List am_E := [(0, .aload_n 0, 1, (0, 0, 0), [], []),
  (1, .iconst 0, 1, (0, 0, 0), [], []),
  (2, .putfield 60, 3, (9, 0, 0), [], [1275]),
  (5, .iload_n 1, 1, (0, 0, 0), [], []),
  (6, .iconst 0, 1, (0, 0, 0), [], []),
  (7, .sipush 9999, 3, (0, 0, 0), [], []),
  (10, .invokestatic 66, 3, (2, 154, 0), [], [1342, 118, 1343]),
  (13, .ifCond .ne 9, 3, (22, 0, 0), [], []),
  (16, .aload_n 0, 1, (0, 0, 0), [], []),
  (17, .iconst 1, 1, (0, 0, 0), [], []),
  (18, .invokevirtual 276, 3, (0, 153, 9), [], [1334, 118, 1336, 52]),
  (21, .ireturn, 1, (0, 0, 0), [], []),
  (22, .aload_n 0, 1, (0, 0, 0), [], []),
  (23, .getfield 17, 3, (9, 4, 0), [], [1279]),
  (26, .istore_n 2, 1, (0, 0, 0), [], []),
  (27, .aload_n 0, 1, (0, 0, 0), [], []),
  (28, .iload_n 1, 1, (0, 0, 0), [], []),
  (29, .putfield 17, 3, (9, 4, 0), [], [1279]),
  (32, .iload_n 2, 1, (0, 0, 0), [], []),
  (33, .ireturn, 1, (0, 0, 0), [], [])]
/-- 219: X11_open -/
def am_t219 : List am_E := [(0, .aload_n 0, 1, (0, 0, 0), [], []),
  (1, .iconst 0, 1, (0, 0, 0), [], []),
  (2, .putfield 60, 3, (9, 0, 0), [], [1275]),
  (5, .aload_n 0, 1, (0, 0, 0), [], []),
  (6, .iload_n 1, 1, (0, 0, 0), [], []),
  (7, .invokevirtual 311, 3, (0, 156, 9), [], [1550, 118, 1552, 95]),
  (10, .ifCond .ne 9, 3, (19, 0, 0), [], []),
  (13, .aload_n 0, 1, (0, 0, 0), [], []),
  (14, .iconst 1, 1, (0, 0, 0), [], []),
  (15, .invokevirtual 276, 3, (0, 153, 9), [], [1334, 118, 1336, 52]),
  (18, .ireturn, 1, (0, 0, 0), [], []),
  (19, .aload_n 0, 1, (0, 0, 0), [], []),
  (20, .getfield 50, 3, (9, 14, 2), [], [1291]),
  (23, .getfield 289, 3, (8, 7, 2), [], [1239, 1]),
  (26, .iload_n 1, 1, (0, 0, 0), [], []),
  (27, .iaload, 1, (0, 0, 0), [], []),
  (28, .istore_n 2, 1, (0, 0, 0), [], []),
  (29, .iload_n 2, 1, (0, 0, 0), [], []),
  (30, .iconst (-1), 1, (0, 0, 0), [], []),
  (31, .if_icmp .ne 9, 3, (40, 0, 0), [], []),
  (34, .aload_n 0, 1, (0, 0, 0), [], []),
  (35, .iconst 2, 1, (0, 0, 0), [], []),
  (36, .invokevirtual 276, 3, (0, 153, 9), [], [1334, 118, 1336, 52]),
  (39, .ireturn, 1, (0, 0, 0), [], []),
  (40, .aload_n 0, 1, (0, 0, 0), [], []),
  (41, .getfield 50, 3, (9, 14, 2), [], [1291]),
  (44, .getfield 289, 3, (8, 7, 2), [], [1239, 1]),
  (47, .iload_n 1, 1, (0, 0, 0), [], []),
  (48, .iconst (-1), 1, (0, 0, 0), [], []),
  (49, .iastore, 1, (0, 0, 0), [], []),
  (50, .aload_n 0, 1, (0, 0, 0), [], []),
  (51, .getfield 50, 3, (9, 14, 2), [], [1291]),
  (54, .getfield 302, 3, (8, 8, 2), [], [1241, 1]),
  (57, .iload_n 1, 1, (0, 0, 0), [], []),
  (58, .iconst 0, 1, (0, 0, 0), [], []),
  (59, .iastore, 1, (0, 0, 0), [], []),
  (60, .iload_n 2, 1, (0, 0, 0), [], []),
  (61, .ireturn, 1, (0, 0, 0), [], [])]
/-- 220: X11_pass -/
def am_t220 : List am_E := [(0, .aload_n 0, 1, (0, 0, 0), [], []),
  (1, .iconst 0, 1, (0, 0, 0), [], []),
  (2, .putfield 60, 3, (9, 0, 0), [], [1275]),
  (5, .iload_n 1, 1, (0, 0, 0), [], []),
  (6, .iconst 1, 1, (0, 0, 0), [], []),
  (7, .bipush 60, 2, (0, 0, 0), [], []),
  (9, .invokestatic 66, 3, (2, 154, 0), [], [1342, 118, 1343]),
  (12, .ifCond .ne 9, 3, (21, 0, 0), [], []),
  (15, .aload_n 0, 1, (0, 0, 0), [], []),
  (16, .iconst 1, 1, (0, 0, 0), [], []),
  (17, .invokevirtual 276, 3, (0, 153, 9), [], [1334, 118, 1336, 52]),
  (20, .ireturn, 1, (0, 0, 0), [], []),
  (21, .iconst 0, 1, (0, 0, 0), [], []),
  (22, .istore_n 2, 1, (0, 0, 0), [], []),
  (23, .iconst 0, 1, (0, 0, 0), [], []),
  (24, .istore_n 3, 1, (0, 0, 0), [], []),
  (25, .iload_n 3, 1, (0, 0, 0), [], []),
  (26, .iload_n 1, 1, (0, 0, 0), [], []),
  (27, .if_icmp .ge 19, 3, (46, 0, 0), [], []),
  (30, .iload_n 2, 1, (0, 0, 0), [], []),
  (31, .aload_n 0, 1, (0, 0, 0), [], []),
  (32, .getfield 50, 3, (9, 14, 2), [], [1291]),
  (35, .invokevirtual 357, 3, (0, 144, 8), [], [1680, 120, 1681, 1682]),
  (38, .iadd, 1, (0, 0, 0), [], []),
  (39, .istore_n 2, 1, (0, 0, 0), [], []),
  (40, .iinc 3 1, 3, (0, 0, 0), [], []),
  (43, .goto (-18), 3, (25, 0, 0), [], []),
  (46, .iload_n 2, 1, (0, 0, 0), [], []),
  (47, .ireturn, 1, (0, 0, 0), [], [])]
/-- 221: X11_until -/
def am_t221 : List am_E := [(0, .aload_n 0, 1, (0, 0, 0), [], []),
  (1, .iconst 0, 1, (0, 0, 0), [], []),
  (2, .putfield 60, 3, (9, 0, 0), [], [1275]),
  (5, .aload_n 0, 1, (0, 0, 0), [], []),
  (6, .iload_n 1, 1, (0, 0, 0), [], []),
  (7, .invokevirtual 311, 3, (0, 156, 9), [], [1550, 118, 1552, 95]),
  (10, .ifCond .ne 9, 3, (19, 0, 0), [], []),
  (13, .aload_n 0, 1, (0, 0, 0), [], []),
  (14, .iconst 1, 1, (0, 0, 0), [], []),
  (15, .invokevirtual 276, 3, (0, 153, 9), [], [1334, 118, 1336, 52]),
  (18, .ireturn, 1, (0, 0, 0), [], []),
  (19, .aload_n 0, 1, (0, 0, 0), [], []),
  (20, .getfield 54, 3, (9, 15, 2), [], [1292]),
  (23, .aload_n 0, 1, (0, 0, 0), [], []),
  (24, .getfield 50, 3, (9, 14, 2), [], [1291]),
  (27, .invokevirtual 344, 3, (0, 130, 8), [], [1635, 120, 1636, 1637]),
  (30, .pop, 1, (0, 0, 0), [], []),
  (31, .iconst 0, 1, (0, 0, 0), [], []),
  (32, .istore_n 2, 1, (0, 0, 0), [], []),
  (33, .iload_n 2, 1, (0, 0, 0), [], []),
  (34, .bipush 60, 2, (0, 0, 0), [], []),
  (36, .if_icmp .gt 30, 3, (66, 0, 0), [], []),
  (39, .aload_n 0, 1, (0, 0, 0), [], []),
  (40, .getfield 54, 3, (9, 15, 2), [], [1292]),
  (43, .getfield 289, 3, (8, 7, 2), [], [1239, 1]),
  (46, .iload_n 1, 1, (0, 0, 0), [], []),
  (47, .iaload, 1, (0, 0, 0), [], []),
  (48, .iconst (-1), 1, (0, 0, 0), [], []),
  (49, .if_icmp .ne 17, 3, (66, 0, 0), [], []),
  (52, .aload_n 0, 1, (0, 0, 0), [], []),
  (53, .getfield 54, 3, (9, 15, 2), [], [1292]),
  (56, .invokevirtual 357, 3, (0, 144, 8), [], [1680, 120, 1681, 1682]),
  (59, .pop, 1, (0, 0, 0), [], []),
  (60, .iinc 2 1, 3, (0, 0, 0), [], []),
  (63, .goto (-30), 3, (33, 0, 0), [], []),
  (66, .iload_n 2, 1, (0, 0, 0), [], []),
  (67, .bipush 60, 2, (0, 0, 0), [], []),
  (69, .if_icmp .le 7, 3, (76, 0, 0), [], []),
  (72, .iconst (-1), 1, (0, 0, 0), [], []),
  (73, .goto 4, 3, (77, 0, 0), [], []),
  (76, .iload_n 2, 1, (0, 0, 0), [], []),
  (77, .ireturn, 1, (0, 0, 0), [], [])]
/-- 222: X11_foresee -/
def am_t222 : List am_E := [(0, .aload_n 0, 1, (0, 0, 0), [], []),
  (1, .iconst 0, 1, (0, 0, 0), [], []),
  (2, .putfield 60, 3, (9, 0, 0), [], [1275]),
  (5, .iload_n 1, 1, (0, 0, 0), [], []),
  (6, .iconst 1, 1, (0, 0, 0), [], []),
  (7, .bipush 60, 2, (0, 0, 0), [], []),
  (9, .invokestatic 66, 3, (2, 154, 0), [], [1342, 118, 1343]),
  (12, .ifCond .ne 9, 3, (21, 0, 0), [], []),
  (15, .aload_n 0, 1, (0, 0, 0), [], []),
  (16, .iconst 1, 1, (0, 0, 0), [], []),
  (17, .invokevirtual 276, 3, (0, 153, 9), [], [1334, 118, 1336, 52]),
  (20, .ireturn, 1, (0, 0, 0), [], []),
  (21, .iload_n 2, 1, (0, 0, 0), [], []),
  (22, .bipush 6, 2, (0, 0, 0), [], []),
  (24, .bipush 10, 2, (0, 0, 0), [], []),
  (26, .invokestatic 66, 3, (2, 154, 0), [], [1342, 118, 1343]),
  (29, .ifCond .eq 25, 3, (54, 0, 0), [], []),
  (32, .aload_n 0, 1, (0, 0, 0), [], []),
  (33, .getfield 54, 3, (9, 15, 2), [], [1292]),
  (36, .aload_n 0, 1, (0, 0, 0), [], []),
  (37, .getfield 50, 3, (9, 14, 2), [], [1291]),
  (40, .invokevirtual 344, 3, (0, 130, 8), [], [1635, 120, 1636, 1637]),
  (43, .iload_n 1, 1, (0, 0, 0), [], []),
  (44, .invokevirtual 360, 3, (0, 145, 8), [], [1706, 120, 1707, 1708]),
  (47, .iload_n 2, 1, (0, 0, 0), [], []),
  (48, .invokevirtual 282, 3, (0, 148, 8), [], [1522, 120, 1523, 1524]),
  (51, .goto 8, 3, (59, 0, 0), [], []),
  (54, .aload_n 0, 1, (0, 0, 0), [], []),
  (55, .iconst 2, 1, (0, 0, 0), [], []),
  (56, .invokevirtual 276, 3, (0, 153, 9), [], [1334, 118, 1336, 52]),
  (59, .ireturn, 1, (0, 0, 0), [], [])]
/-- 223: X11_advise -/
def am_t223_0 : List am_E := [(0, .aload_n 0, 1, (0, 0, 0), [], []),
  (1, .iconst 0, 1, (0, 0, 0), [], []),
  (2, .putfield 60, 3, (9, 0, 0), [], [1275]),
  (5, .aload_n 0, 1, (0, 0, 0), [], []),
  (6, .iload_n 1, 1, (0, 0, 0), [], []),
  (7, .invokevirtual 335, 3, (0, 157, 9), [], [1608, 118, 1610, 99]),
  (10, .ifCond .ne 9, 3, (19, 0, 0), [], []),
  (13, .aload_n 0, 1, (0, 0, 0), [], []),
  (14, .iconst 1, 1, (0, 0, 0), [], []),
  (15, .invokevirtual 276, 3, (0, 153, 9), [], [1334, 118, 1336, 52]),
  (18, .ireturn, 1, (0, 0, 0), [], []),
  (19, .iload_n 2, 1, (0, 0, 0), [], []),
  (20, .iconst 1, 1, (0, 0, 0), [], []),
  (21, .bipush 20, 2, (0, 0, 0), [], []),
  (23, .invokestatic 66, 3, (2, 154, 0), [], [1342, 118, 1343]),
  (26, .ifCond .ne 9, 3, (35, 0, 0), [], []),
  (29, .aload_n 0, 1, (0, 0, 0), [], []),
  (30, .iconst 2, 1, (0, 0, 0), [], []),
  (31, .invokevirtual 276, 3, (0, 153, 9), [], [1334, 118, 1336, 52]),
  (34, .ireturn, 1, (0, 0, 0), [], []),
  (35, .iconst (-1), 1, (0, 0, 0), [], []),
  (36, .istore_n 3, 1, (0, 0, 0), [], []),
  (37, .aload_n 0, 1, (0, 0, 0), [], []),
  (38, .getfield 54, 3, (9, 15, 2), [], [1292]),
  (41, .aload_n 0, 1, (0, 0, 0), [], []),
  (42, .getfield 50, 3, (9, 14, 2), [], [1291]),
  (45, .invokevirtual 344, 3, (0, 130, 8), [], [1635, 120, 1636, 1637]),
  (48, .iload_n 2, 1, (0, 0, 0), [], []),
  (49, .invokevirtual 360, 3, (0, 145, 8), [], [1706, 120, 1707, 1708]),
  (52, .iload_n 1, 1, (0, 0, 0), [], []),
  (53, .invokevirtual 329, 3, (0, 136, 8), [], [1617, 120, 1583, 1584]),
  (56, .istore 4, 2, (0, 0, 0), [], []),
  (58, .iconst 0, 1, (0, 0, 0), [], []),
  (59, .istore 5, 2, (0, 0, 0), [], []),
  (61, .iload 5, 2, (0, 0, 0), [], []),
  (63, .aload_n 0, 1, (0, 0, 0), [], []),
  (64, .getfield 38, 3, (9, 12, 2), [], [1288]),
  (67, .getfield 70, 3, (7, 2, 0), [], [1146, 1]),
  (70, .if_icmp .ge 98, 3, (168, 0, 0), [], []),
  (73, .aload_n 0, 1, (0, 0, 0), [], []),
  (74, .getfield 50, 3, (9, 14, 2), [], [1291]),
  (77, .getfield 289, 3, (8, 7, 2), [], [1239, 1]),
  (80, .iload 5, 2, (0, 0, 0), [], []),
  (82, .iaload, 1, (0, 0, 0), [], []),
  (83, .iconst (-1), 1, (0, 0, 0), [], []),
  (84, .if_icmp .ne 78, 3, (162, 0, 0), [], []),
  (87, .aload_n 0, 1, (0, 0, 0), [], []),
  (88, .getfield 50, 3, (9, 14, 2), [], [1291]),
  (91, .iload_n 1, 1, (0, 0, 0), [], []),
  (92, .iload 5, 2, (0, 0, 0), [], []),
  (94, .invokevirtual 341, 3, (0, 132, 8), [], [1622, 120, 1563, 1564]),
  (97, .ifCond .eq 6, 3, (103, 0, 0), [], []),
  (100, .goto 62, 3, (162, 0, 0), [], []),
  (103, .aload_n 0, 1, (0, 0, 0), [], []),
  (104, .getfield 54, 3, (9, 15, 2), [], [1292]),
  (107, .aload_n 0, 1, (0, 0, 0), [], []),
  (108, .getfield 50, 3, (9, 14, 2), [], [1291]),
  (111, .invokevirtual 344, 3, (0, 130, 8), [], [1635, 120, 1636, 1637]),
  (114, .pop, 1, (0, 0, 0), [], []),
  (115, .aload_n 0, 1, (0, 0, 0), [], [])]
def am_t223_1 : List am_E := [(116, .getfield 54, 3, (9, 15, 2), [], [1292]),
  (119, .getfield 323, 3, (8, 5, 2), [], [1235, 1]),
  (122, .iload_n 1, 1, (0, 0, 0), [], []),
  (123, .dup2, 1, (0, 0, 0), [], []),
  (124, .iaload, 1, (0, 0, 0), [], []),
  (125, .iconst 1, 1, (0, 0, 0), [], []),
  (126, .iload 5, 2, (0, 0, 0), [], []),
  (128, .ishl, 1, (0, 0, 0), [], []),
  (129, .ior, 1, (0, 0, 0), [], []),
  (130, .iastore, 1, (0, 0, 0), [], []),
  (131, .aload_n 0, 1, (0, 0, 0), [], []),
  (132, .getfield 54, 3, (9, 15, 2), [], [1292]),
  (135, .iload_n 2, 1, (0, 0, 0), [], []),
  (136, .invokevirtual 360, 3, (0, 145, 8), [], [1706, 120, 1707, 1708]),
  (139, .iload_n 1, 1, (0, 0, 0), [], []),
  (140, .invokevirtual 329, 3, (0, 136, 8), [], [1617, 120, 1583, 1584]),
  (143, .istore 6, 2, (0, 0, 0), [], []),
  (145, .iload 6, 2, (0, 0, 0), [], []),
  (147, .iload 4, 2, (0, 0, 0), [], []),
  (149, .if_icmp .gt 6, 3, (155, 0, 0), [], []),
  (152, .goto 10, 3, (162, 0, 0), [], []),
  (155, .iload 6, 2, (0, 0, 0), [], []),
  (157, .istore 4, 2, (0, 0, 0), [], []),
  (159, .iload 5, 2, (0, 0, 0), [], []),
  (161, .istore_n 3, 1, (0, 0, 0), [], []),
  (162, .iinc 5 1, 3, (0, 0, 0), [], []),
  (165, .goto (-104), 3, (61, 0, 0), [], []),
  (168, .iload_n 3, 1, (0, 0, 0), [], []),
  (169, .ireturn, 1, (0, 0, 0), [], [])]
def am_t223 : List am_E := am_t223_0 ++ (am_t223_1)
/-- 224: X11_spare -/
def am_t224 : List am_E := [(0, .aload_n 0, 1, (0, 0, 0), [], []),
  (1, .iconst 0, 1, (0, 0, 0), [], []),
  (2, .putfield 60, 3, (9, 0, 0), [], [1275]),
  (5, .iload_n 1, 1, (0, 0, 0), [], []),
  (6, .iconst 1, 1, (0, 0, 0), [], []),
  (7, .bipush 20, 2, (0, 0, 0), [], []),
  (9, .invokestatic 66, 3, (2, 154, 0), [], [1342, 118, 1343]),
  (12, .ifCond .ne 9, 3, (21, 0, 0), [], []),
  (15, .aload_n 0, 1, (0, 0, 0), [], []),
  (16, .iconst 1, 1, (0, 0, 0), [], []),
  (17, .invokevirtual 276, 3, (0, 153, 9), [], [1334, 118, 1336, 52]),
  (20, .ireturn, 1, (0, 0, 0), [], []),
  (21, .iconst (-1), 1, (0, 0, 0), [], []),
  (22, .istore_n 2, 1, (0, 0, 0), [], []),
  (23, .iconst (-1), 1, (0, 0, 0), [], []),
  (24, .istore_n 3, 1, (0, 0, 0), [], []),
  (25, .iconst 0, 1, (0, 0, 0), [], []),
  (26, .istore 4, 2, (0, 0, 0), [], []),
  (28, .iload 4, 2, (0, 0, 0), [], []),
  (30, .aload_n 0, 1, (0, 0, 0), [], []),
  (31, .getfield 38, 3, (9, 12, 2), [], [1288]),
  (34, .getfield 70, 3, (7, 2, 0), [], [1146, 1]),
  (37, .if_icmp .ge 77, 3, (114, 0, 0), [], []),
  (40, .aload_n 0, 1, (0, 0, 0), [], []),
  (41, .getfield 50, 3, (9, 14, 2), [], [1291]),
  (44, .getfield 289, 3, (8, 7, 2), [], [1239, 1]),
  (47, .iload 4, 2, (0, 0, 0), [], []),
  (49, .iaload, 1, (0, 0, 0), [], []),
  (50, .iconst (-1), 1, (0, 0, 0), [], []),
  (51, .if_icmp .eq 6, 3, (57, 0, 0), [], []),
  (54, .goto 54, 3, (108, 0, 0), [], []),
  (57, .aload_n 0, 1, (0, 0, 0), [], []),
  (58, .getfield 54, 3, (9, 15, 2), [], [1292]),
  (61, .aload_n 0, 1, (0, 0, 0), [], []),
  (62, .getfield 50, 3, (9, 14, 2), [], [1291]),
  (65, .invokevirtual 344, 3, (0, 130, 8), [], [1635, 120, 1636, 1637]),
  (68, .pop, 1, (0, 0, 0), [], []),
  (69, .aload_n 0, 1, (0, 0, 0), [], []),
  (70, .getfield 54, 3, (9, 15, 2), [], [1292]),
  (73, .iload 4, 2, (0, 0, 0), [], []),
  (75, .putfield 363, 3, (8, 9, 0), [], [1243, 1]),
  (78, .aload_n 0, 1, (0, 0, 0), [], []),
  (79, .getfield 54, 3, (9, 15, 2), [], [1292]),
  (82, .iload_n 1, 1, (0, 0, 0), [], []),
  (83, .invokevirtual 360, 3, (0, 145, 8), [], [1706, 120, 1707, 1708]),
  (86, .bipush 8, 2, (0, 0, 0), [], []),
  (88, .invokevirtual 282, 3, (0, 148, 8), [], [1522, 120, 1523, 1524]),
  (91, .istore 5, 2, (0, 0, 0), [], []),
  (93, .iload 5, 2, (0, 0, 0), [], []),
  (95, .iload_n 3, 1, (0, 0, 0), [], []),
  (96, .if_icmp .gt 6, 3, (102, 0, 0), [], []),
  (99, .goto 9, 3, (108, 0, 0), [], []),
  (102, .iload 5, 2, (0, 0, 0), [], []),
  (104, .istore_n 3, 1, (0, 0, 0), [], []),
  (105, .iload 4, 2, (0, 0, 0), [], []),
  (107, .istore_n 2, 1, (0, 0, 0), [], []),
  (108, .iinc 4 1, 3, (0, 0, 0), [], []),
  (111, .goto (-83), 3, (28, 0, 0), [], []),
  (114, .iload_n 2, 1, (0, 0, 0), [], []),
  (115, .ireturn, 1, (0, 0, 0), [], [])]
/-- 225: X11_mean -/
def am_t225 : List am_E := [(0, .aload_n 0, 1, (0, 0, 0), [], []),
  (1, .iconst 0, 1, (0, 0, 0), [], []),
  (2, .putfield 60, 3, (9, 0, 0), [], [1275]),
  (5, .iconst 0, 1, (0, 0, 0), [], []),
  (6, .istore_n 1, 1, (0, 0, 0), [], []),
  (7, .iconst 0, 1, (0, 0, 0), [], []),
  (8, .istore_n 2, 1, (0, 0, 0), [], []),
  (9, .iload_n 2, 1, (0, 0, 0), [], []),
  (10, .aload_n 0, 1, (0, 0, 0), [], []),
  (11, .getfield 38, 3, (9, 12, 2), [], [1288]),
  (14, .getfield 73, 3, (7, 6, 0), [], [1158, 1]),
  (17, .if_icmp .ge 20, 3, (37, 0, 0), [], []),
  (20, .iload_n 1, 1, (0, 0, 0), [], []),
  (21, .aload_n 0, 1, (0, 0, 0), [], []),
  (22, .getfield 50, 3, (9, 14, 2), [], [1291]),
  (25, .iload_n 2, 1, (0, 0, 0), [], []),
  (26, .invokevirtual 329, 3, (0, 136, 8), [], [1617, 120, 1583, 1584]),
  (29, .iadd, 1, (0, 0, 0), [], []),
  (30, .istore_n 1, 1, (0, 0, 0), [], []),
  (31, .iinc 2 1, 3, (0, 0, 0), [], []),
  (34, .goto (-25), 3, (9, 0, 0), [], []),
  (37, .aload_n 0, 1, (0, 0, 0), [], []),
  (38, .getfield 38, 3, (9, 12, 2), [], [1288]),
  (41, .getfield 73, 3, (7, 6, 0), [], [1158, 1]),
  (44, .ifCond .ne 7, 3, (51, 0, 0), [], []),
  (47, .dconst 0, 1, (0, 0, 0), [], []),
  (48, .goto 14, 3, (62, 0, 0), [], []),
  (51, .iload_n 1, 1, (0, 0, 0), [], []),
  (52, .i2d, 1, (0, 0, 0), [], []),
  (53, .aload_n 0, 1, (0, 0, 0), [], []),
  (54, .getfield 38, 3, (9, 12, 2), [], [1288]),
  (57, .getfield 73, 3, (7, 6, 0), [], [1158, 1]),
  (60, .i2d, 1, (0, 0, 0), [], []),
  (61, .ddiv, 1, (0, 0, 0), [], []),
  (62, .dreturn, 1, (0, 0, 0), [], [])]
/-- 226: X11_digest -/
def am_t226_0 : List am_E := [(0, .aload_n 0, 1, (0, 0, 0), [], []),
  (1, .iconst 0, 1, (0, 0, 0), [], []),
  (2, .putfield 60, 3, (9, 0, 0), [], [1275]),
  (5, .ldc2_w 366, 3, (0, 0, 0), [(881, 1)], [1727]),
  (8, .lstore_n 1, 1, (0, 0, 0), [], []),
  (9, .iconst 0, 1, (0, 0, 0), [], []),
  (10, .istore_n 3, 1, (0, 0, 0), [], []),
  (11, .iload_n 3, 1, (0, 0, 0), [], []),
  (12, .bipush 11, 2, (0, 0, 0), [], []),
  (14, .if_icmp .gt 22, 3, (36, 0, 0), [], []),
  (17, .lload_n 1, 1, (0, 0, 0), [], []),
  (18, .ldc2_w 368, 3, (0, 0, 0), [(31, 1)], [1728]),
  (21, .lmul, 1, (0, 0, 0), [], []),
  (22, .aload_n 0, 1, (0, 0, 0), [], []),
  (23, .iload_n 3, 1, (0, 0, 0), [], []),
  (24, .invokevirtual 288, 3, (0, 203, 9), [], [1518, 118, 1520, 90]),
  (27, .i2l, 1, (0, 0, 0), [], []),
  (28, .ladd, 1, (0, 0, 0), [], []),
  (29, .lstore_n 1, 1, (0, 0, 0), [], []),
  (30, .iinc 3 1, 3, (0, 0, 0), [], []),
  (33, .goto (-22), 3, (11, 0, 0), [], []),
  (36, .iconst 0, 1, (0, 0, 0), [], []),
  (37, .istore_n 3, 1, (0, 0, 0), [], []),
  (38, .iload_n 3, 1, (0, 0, 0), [], []),
  (39, .aload_n 0, 1, (0, 0, 0), [], []),
  (40, .getfield 38, 3, (9, 12, 2), [], [1288]),
  (43, .getfield 63, 3, (7, 0, 0), [], [1142, 1]),
  (46, .if_icmp .ge 39, 3, (85, 0, 0), [], []),
  (49, .iconst 0, 1, (0, 0, 0), [], []),
  (50, .istore 4, 2, (0, 0, 0), [], []),
  (52, .iload 4, 2, (0, 0, 0), [], []),
  (54, .iconst 3, 1, (0, 0, 0), [], []),
  (55, .if_icmp .gt 24, 3, (79, 0, 0), [], []),
  (58, .lload_n 1, 1, (0, 0, 0), [], []),
  (59, .ldc2_w 368, 3, (0, 0, 0), [(31, 1)], [1728]),
  (62, .lmul, 1, (0, 0, 0), [], []),
  (63, .aload_n 0, 1, (0, 0, 0), [], []),
  (64, .iload_n 3, 1, (0, 0, 0), [], []),
  (65, .iload 4, 2, (0, 0, 0), [], []),
  (67, .invokevirtual 296, 3, (0, 205, 9), [], [1542, 118, 1544, 94]),
  (70, .i2l, 1, (0, 0, 0), [], []),
  (71, .ladd, 1, (0, 0, 0), [], []),
  (72, .lstore_n 1, 1, (0, 0, 0), [], []),
  (73, .iinc 4 1, 3, (0, 0, 0), [], []),
  (76, .goto (-24), 3, (52, 0, 0), [], []),
  (79, .iinc 3 1, 3, (0, 0, 0), [], []),
  (82, .goto (-44), 3, (38, 0, 0), [], []),
  (85, .iconst 0, 1, (0, 0, 0), [], []),
  (86, .istore_n 3, 1, (0, 0, 0), [], []),
  (87, .iload_n 3, 1, (0, 0, 0), [], []),
  (88, .aload_n 0, 1, (0, 0, 0), [], []),
  (89, .getfield 38, 3, (9, 12, 2), [], [1288]),
  (92, .getfield 70, 3, (7, 2, 0), [], [1146, 1]),
  (95, .if_icmp .ge 56, 3, (151, 0, 0), [], []),
  (98, .iconst 0, 1, (0, 0, 0), [], []),
  (99, .istore 4, 2, (0, 0, 0), [], []),
  (101, .iload 4, 2, (0, 0, 0), [], []),
  (103, .bipush 7, 2, (0, 0, 0), [], []),
  (105, .if_icmp .gt 24, 3, (129, 0, 0), [], []),
  (108, .lload_n 1, 1, (0, 0, 0), [], [])]
def am_t226_1 : List am_E := [(109, .ldc2_w 368, 3, (0, 0, 0), [(31, 1)], [1728]),
  (112, .lmul, 1, (0, 0, 0), [], []),
  (113, .aload_n 0, 1, (0, 0, 0), [], []),
  (114, .iload_n 3, 1, (0, 0, 0), [], []),
  (115, .iload 4, 2, (0, 0, 0), [], []),
  (117, .invokevirtual 314, 3, (0, 207, 9), [], [1554, 118, 1556, 96]),
  (120, .i2l, 1, (0, 0, 0), [], []),
  (121, .ladd, 1, (0, 0, 0), [], []),
  (122, .lstore_n 1, 1, (0, 0, 0), [], []),
  (123, .iinc 4 1, 3, (0, 0, 0), [], []),
  (126, .goto (-25), 3, (101, 0, 0), [], []),
  (129, .lload_n 1, 1, (0, 0, 0), [], []),
  (130, .ldc2_w 368, 3, (0, 0, 0), [(31, 1)], [1728]),
  (133, .lmul, 1, (0, 0, 0), [], []),
  (134, .aload_n 0, 1, (0, 0, 0), [], []),
  (135, .getfield 50, 3, (9, 14, 2), [], [1291]),
  (138, .iload_n 3, 1, (0, 0, 0), [], []),
  (139, .invokevirtual 317, 3, (0, 135, 8), [], [1599, 120, 1600, 1601]),
  (142, .i2l, 1, (0, 0, 0), [], []),
  (143, .ladd, 1, (0, 0, 0), [], []),
  (144, .lstore_n 1, 1, (0, 0, 0), [], []),
  (145, .iinc 3 1, 3, (0, 0, 0), [], []),
  (148, .goto (-61), 3, (87, 0, 0), [], []),
  (151, .iconst 0, 1, (0, 0, 0), [], []),
  (152, .istore_n 3, 1, (0, 0, 0), [], []),
  (153, .iload_n 3, 1, (0, 0, 0), [], []),
  (154, .aload_n 0, 1, (0, 0, 0), [], []),
  (155, .getfield 38, 3, (9, 12, 2), [], [1288]),
  (158, .getfield 73, 3, (7, 6, 0), [], [1158, 1]),
  (161, .if_icmp .ge 39, 3, (200, 0, 0), [], []),
  (164, .iconst 0, 1, (0, 0, 0), [], []),
  (165, .istore 4, 2, (0, 0, 0), [], []),
  (167, .iload 4, 2, (0, 0, 0), [], []),
  (169, .iconst 3, 1, (0, 0, 0), [], []),
  (170, .if_icmp .gt 24, 3, (194, 0, 0), [], []),
  (173, .lload_n 1, 1, (0, 0, 0), [], []),
  (174, .ldc2_w 368, 3, (0, 0, 0), [(31, 1)], [1728]),
  (177, .lmul, 1, (0, 0, 0), [], []),
  (178, .aload_n 0, 1, (0, 0, 0), [], []),
  (179, .iload_n 3, 1, (0, 0, 0), [], []),
  (180, .iload 4, 2, (0, 0, 0), [], []),
  (182, .invokevirtual 338, 3, (0, 210, 9), [], [1612, 118, 1614, 100]),
  (185, .i2l, 1, (0, 0, 0), [], []),
  (186, .ladd, 1, (0, 0, 0), [], []),
  (187, .lstore_n 1, 1, (0, 0, 0), [], []),
  (188, .iinc 4 1, 3, (0, 0, 0), [], []),
  (191, .goto (-24), 3, (167, 0, 0), [], []),
  (194, .iinc 3 1, 3, (0, 0, 0), [], []),
  (197, .goto (-44), 3, (153, 0, 0), [], []),
  (200, .lload_n 1, 1, (0, 0, 0), [], []),
  (201, .ldc2_w 368, 3, (0, 0, 0), [(31, 1)], [1728]),
  (204, .lmul, 1, (0, 0, 0), [], []),
  (205, .aload_n 0, 1, (0, 0, 0), [], []),
  (206, .invokevirtual 354, 3, (0, 214, 9), [], [1631, 118, 1633, 101]),
  (209, .i2l, 1, (0, 0, 0), [], []),
  (210, .ladd, 1, (0, 0, 0), [], []),
  (211, .lreturn, 1, (0, 0, 0), [], [])]
def am_t226 : List am_E := am_t226_0 ++ (am_t226_1)
/-- 227: L_feed -/
def am_t227 : List am_E := [(0, .aload 6, 2, (0, 0, 0), [], []),
  (2, .iconst 0, 1, (0, 0, 0), [], []),
  (3, .aload_n 0, 1, (0, 0, 0), [], []),
  (4, .iload_n 1, 1, (0, 0, 0), [], []),
  (5, .iload_n 2, 1, (0, 0, 0), [], []),
  (6, .iload_n 3, 1, (0, 0, 0), [], []),
  (7, .iload 4, 2, (0, 0, 0), [], []),
  (9, .iload 5, 2, (0, 0, 0), [], []),
  (11, .invokevirtual 7, 3, (14, 102, 6), [], [838, 108, 839, 840]),
  (14, .i2l, 1, (0, 0, 0), [], []),
  (15, .lastore, 1, (0, 0, 0), [], []),
  (16, .goto 7, 3, (23, 0, 0), [], []),
  (19, .astore 7, 2, (0, 0, 0), [], []),
  (21, .iconst 1, 1, (0, 0, 0), [], []),
  (22, .ireturn, 1, (0, 0, 0), [], []),
  (23, .iconst 0, 1, (0, 0, 0), [], []),
  (24, .ireturn, 1, (0, 0, 0), [], [])]
/-- 228: L_trim -/
def am_t228 : List am_E := [(0, .aload_n 2, 1, (0, 0, 0), [], []),
  (1, .iconst 0, 1, (0, 0, 0), [], []),
  (2, .aload_n 0, 1, (0, 0, 0), [], []),
  (3, .iload_n 1, 1, (0, 0, 0), [], []),
  (4, .invokevirtual 15, 3, (14, 104, 6), [], [917, 108, 918, 919]),
  (7, .i2l, 1, (0, 0, 0), [], []),
  (8, .lastore, 1, (0, 0, 0), [], []),
  (9, .goto 6, 3, (15, 0, 0), [], []),
  (12, .astore_n 3, 1, (0, 0, 0), [], []),
  (13, .iconst 1, 1, (0, 0, 0), [], []),
  (14, .ireturn, 1, (0, 0, 0), [], []),
  (15, .iconst 0, 1, (0, 0, 0), [], []),
  (16, .ireturn, 1, (0, 0, 0), [], [])]
/-- 229: L_count -/
def am_t229 : List am_E := [(0, .aload_n 2, 1, (0, 0, 0), [], []),
  (1, .iconst 0, 1, (0, 0, 0), [], []),
  (2, .aload_n 0, 1, (0, 0, 0), [], []),
  (3, .iload_n 1, 1, (0, 0, 0), [], []),
  (4, .invokevirtual 21, 3, (14, 107, 6), [], [941, 108, 942, 943]),
  (7, .i2l, 1, (0, 0, 0), [], []),
  (8, .lastore, 1, (0, 0, 0), [], []),
  (9, .goto 6, 3, (15, 0, 0), [], []),
  (12, .astore_n 3, 1, (0, 0, 0), [], []),
  (13, .iconst 1, 1, (0, 0, 0), [], []),
  (14, .ireturn, 1, (0, 0, 0), [], []),
  (15, .iconst 0, 1, (0, 0, 0), [], []),
  (16, .ireturn, 1, (0, 0, 0), [], [])]
/-- 230: L_ward -/
def am_t230 : List am_E := [(0, .aload_n 3, 1, (0, 0, 0), [], []),
  (1, .iconst 0, 1, (0, 0, 0), [], []),
  (2, .aload_n 0, 1, (0, 0, 0), [], []),
  (3, .iload_n 1, 1, (0, 0, 0), [], []),
  (4, .iload_n 2, 1, (0, 0, 0), [], []),
  (5, .invokevirtual 26, 3, (14, 109, 6), [], [964, 108, 965, 966]),
  (8, .i2l, 1, (0, 0, 0), [], []),
  (9, .lastore, 1, (0, 0, 0), [], []),
  (10, .goto 7, 3, (17, 0, 0), [], []),
  (13, .astore 4, 2, (0, 0, 0), [], []),
  (15, .iconst 1, 1, (0, 0, 0), [], []),
  (16, .ireturn, 1, (0, 0, 0), [], []),
  (17, .iconst 0, 1, (0, 0, 0), [], []),
  (18, .ireturn, 1, (0, 0, 0), [], [])]
/-- 231: L_project -/
def am_t231 : List am_E := [(0, .aload_n 3, 1, (0, 0, 0), [], []),
  (1, .iconst 0, 1, (0, 0, 0), [], []),
  (2, .aload_n 0, 1, (0, 0, 0), [], []),
  (3, .iload_n 1, 1, (0, 0, 0), [], []),
  (4, .iload_n 2, 1, (0, 0, 0), [], []),
  (5, .invokevirtual 30, 3, (14, 110, 6), [], [977, 108, 978, 979]),
  (8, .i2l, 1, (0, 0, 0), [], []),
  (9, .lastore, 1, (0, 0, 0), [], []),
  (10, .goto 7, 3, (17, 0, 0), [], []),
  (13, .astore 4, 2, (0, 0, 0), [], []),
  (15, .iconst 1, 1, (0, 0, 0), [], []),
  (16, .ireturn, 1, (0, 0, 0), [], []),
  (17, .iconst 0, 1, (0, 0, 0), [], []),
  (18, .ireturn, 1, (0, 0, 0), [], [])]
/-- 232: L_share -/
def am_t232 : List am_E := [(0, .aload_n 2, 1, (0, 0, 0), [], []),
  (1, .iconst 0, 1, (0, 0, 0), [], []),
  (2, .aload_n 0, 1, (0, 0, 0), [], []),
  (3, .iload_n 1, 1, (0, 0, 0), [], []),
  (4, .invokevirtual 33, 3, (14, 111, 6), [], [987, 108, 988, 989]),
  (7, .i2l, 1, (0, 0, 0), [], []),
  (8, .lastore, 1, (0, 0, 0), [], []),
  (9, .goto 6, 3, (15, 0, 0), [], []),
  (12, .astore_n 3, 1, (0, 0, 0), [], []),
  (13, .iconst 1, 1, (0, 0, 0), [], []),
  (14, .ireturn, 1, (0, 0, 0), [], []),
  (15, .iconst 0, 1, (0, 0, 0), [], []),
  (16, .ireturn, 1, (0, 0, 0), [], [])]
/-- 233: L_voter -/
def am_t233 : List am_E := [(0, .aload_n 3, 1, (0, 0, 0), [], []),
  (1, .iconst 0, 1, (0, 0, 0), [], []),
  (2, .aload_n 0, 1, (0, 0, 0), [], []),
  (3, .iload_n 1, 1, (0, 0, 0), [], []),
  (4, .iload_n 2, 1, (0, 0, 0), [], []),
  (5, .invokevirtual 36, 3, (14, 112, 6), [], [994, 108, 995, 996]),
  (8, .i2l, 1, (0, 0, 0), [], []),
  (9, .lastore, 1, (0, 0, 0), [], []),
  (10, .goto 7, 3, (17, 0, 0), [], []),
  (13, .astore 4, 2, (0, 0, 0), [], []),
  (15, .iconst 1, 1, (0, 0, 0), [], []),
  (16, .ireturn, 1, (0, 0, 0), [], []),
  (17, .iconst 0, 1, (0, 0, 0), [], []),
  (18, .ireturn, 1, (0, 0, 0), [], [])]
/-- 234: L_likes -/
def am_t234 : List am_E := [(0, .aload_n 3, 1, (0, 0, 0), [], []),
  (1, .iconst 0, 1, (0, 0, 0), [], []),
  (2, .aload_n 0, 1, (0, 0, 0), [], []),
  (3, .iload_n 1, 1, (0, 0, 0), [], []),
  (4, .iload_n 2, 1, (0, 0, 0), [], []),
  (5, .invokevirtual 39, 3, (14, 113, 6), [], [1003, 108, 1004, 1005]),
  (8, .ifCond .eq 7, 3, (15, 0, 0), [], []),
  (11, .lconst 1, 1, (0, 0, 0), [], []),
  (12, .goto 4, 3, (16, 0, 0), [], []),
  (15, .lconst 0, 1, (0, 0, 0), [], []),
  (16, .lastore, 1, (0, 0, 0), [], []),
  (17, .goto 7, 3, (24, 0, 0), [], []),
  (20, .astore 4, 2, (0, 0, 0), [], []),
  (22, .iconst 1, 1, (0, 0, 0), [], []),
  (23, .ireturn, 1, (0, 0, 0), [], []),
  (24, .iconst 0, 1, (0, 0, 0), [], []),
  (25, .ireturn, 1, (0, 0, 0), [], [])]
/-- 235: L_envy -/
def am_t235 : List am_E := [(0, .aload_n 3, 1, (0, 0, 0), [], []),
  (1, .iconst 0, 1, (0, 0, 0), [], []),
  (2, .aload_n 0, 1, (0, 0, 0), [], []),
  (3, .iload_n 1, 1, (0, 0, 0), [], []),
  (4, .iload_n 2, 1, (0, 0, 0), [], []),
  (5, .invokevirtual 43, 3, (14, 114, 6), [], [1012, 108, 1013, 1014]),
  (8, .i2l, 1, (0, 0, 0), [], []),
  (9, .lastore, 1, (0, 0, 0), [], []),
  (10, .goto 7, 3, (17, 0, 0), [], []),
  (13, .astore 4, 2, (0, 0, 0), [], []),
  (15, .iconst 1, 1, (0, 0, 0), [], []),
  (16, .ireturn, 1, (0, 0, 0), [], []),
  (17, .iconst 0, 1, (0, 0, 0), [], []),
  (18, .ireturn, 1, (0, 0, 0), [], [])]
/-- 236: L_approve -/
def am_t236 : List am_E := [(0, .aload 4, 2, (0, 0, 0), [], []),
  (2, .iconst 0, 1, (0, 0, 0), [], []),
  (3, .aload_n 0, 1, (0, 0, 0), [], []),
  (4, .iload_n 1, 1, (0, 0, 0), [], []),
  (5, .iload_n 2, 1, (0, 0, 0), [], []),
  (6, .iload_n 3, 1, (0, 0, 0), [], []),
  (7, .invokevirtual 46, 3, (14, 116, 6), [], [1019, 108, 1020, 1021]),
  (10, .ifCond .eq 7, 3, (17, 0, 0), [], []),
  (13, .lconst 1, 1, (0, 0, 0), [], []),
  (14, .goto 4, 3, (18, 0, 0), [], []),
  (17, .lconst 0, 1, (0, 0, 0), [], []),
  (18, .lastore, 1, (0, 0, 0), [], []),
  (19, .goto 7, 3, (26, 0, 0), [], []),
  (22, .astore 5, 2, (0, 0, 0), [], []),
  (24, .iconst 1, 1, (0, 0, 0), [], []),
  (25, .ireturn, 1, (0, 0, 0), [], []),
  (26, .iconst 0, 1, (0, 0, 0), [], []),
  (27, .ireturn, 1, (0, 0, 0), [], [])]
/-- 237: L_give -/
def am_t237 : List am_E := [(0, .aload_n 3, 1, (0, 0, 0), [], []),
  (1, .iconst 0, 1, (0, 0, 0), [], []),
  (2, .aload_n 0, 1, (0, 0, 0), [], []),
  (3, .iload_n 1, 1, (0, 0, 0), [], []),
  (4, .iload_n 2, 1, (0, 0, 0), [], []),
  (5, .invokevirtual 50, 3, (14, 117, 6), [], [1030, 108, 1031, 1032]),
  (8, .i2l, 1, (0, 0, 0), [], []),
  (9, .lastore, 1, (0, 0, 0), [], []),
  (10, .goto 11, 3, (21, 0, 0), [], []),
  (13, .astore 4, 2, (0, 0, 0), [], []),
  (15, .iconst 1, 1, (0, 0, 0), [], []),
  (16, .ireturn, 1, (0, 0, 0), [], []),
  (17, .astore 4, 2, (0, 0, 0), [], []),
  (19, .iconst 2, 1, (0, 0, 0), [], []),
  (20, .ireturn, 1, (0, 0, 0), [], []),
  (21, .iconst 0, 1, (0, 0, 0), [], []),
  (22, .ireturn, 1, (0, 0, 0), [], [])]
/-- 238: L_setBudget -/
def am_t238 : List am_E := [(0, .aload_n 2, 1, (0, 0, 0), [], []),
  (1, .iconst 0, 1, (0, 0, 0), [], []),
  (2, .aload_n 0, 1, (0, 0, 0), [], []),
  (3, .iload_n 1, 1, (0, 0, 0), [], []),
  (4, .invokevirtual 53, 3, (14, 118, 6), [], [1039, 108, 1040, 1041]),
  (7, .i2l, 1, (0, 0, 0), [], []),
  (8, .lastore, 1, (0, 0, 0), [], []),
  (9, .goto 6, 3, (15, 0, 0), [], []),
  (12, .astore_n 3, 1, (0, 0, 0), [], []),
  (13, .iconst 1, 1, (0, 0, 0), [], []),
  (14, .ireturn, 1, (0, 0, 0), [], []),
  (15, .iconst 0, 1, (0, 0, 0), [], []),
  (16, .ireturn, 1, (0, 0, 0), [], [])]
/-- 239: L_open -/
def am_t239 : List am_E := [(0, .aload_n 2, 1, (0, 0, 0), [], []),
  (1, .iconst 0, 1, (0, 0, 0), [], []),
  (2, .aload_n 0, 1, (0, 0, 0), [], []),
  (3, .iload_n 1, 1, (0, 0, 0), [], []),
  (4, .invokevirtual 56, 3, (14, 119, 6), [], [1047, 108, 1048, 1049]),
  (7, .i2l, 1, (0, 0, 0), [], []),
  (8, .lastore, 1, (0, 0, 0), [], []),
  (9, .goto 9, 3, (18, 0, 0), [], []),
  (12, .astore_n 3, 1, (0, 0, 0), [], []),
  (13, .iconst 1, 1, (0, 0, 0), [], []),
  (14, .ireturn, 1, (0, 0, 0), [], []),
  (15, .astore_n 3, 1, (0, 0, 0), [], []),
  (16, .iconst 2, 1, (0, 0, 0), [], []),
  (17, .ireturn, 1, (0, 0, 0), [], []),
  (18, .iconst 0, 1, (0, 0, 0), [], []),
  (19, .ireturn, 1, (0, 0, 0), [], [])]
/-- 240: L_pass -/
def am_t240 : List am_E := [(0, .aload_n 2, 1, (0, 0, 0), [], []),
  (1, .iconst 0, 1, (0, 0, 0), [], []),
  (2, .aload_n 0, 1, (0, 0, 0), [], []),
  (3, .iload_n 1, 1, (0, 0, 0), [], []),
  (4, .invokevirtual 59, 3, (14, 120, 6), [], [1060, 108, 1061, 1062]),
  (7, .i2l, 1, (0, 0, 0), [], []),
  (8, .lastore, 1, (0, 0, 0), [], []),
  (9, .goto 6, 3, (15, 0, 0), [], []),
  (12, .astore_n 3, 1, (0, 0, 0), [], []),
  (13, .iconst 1, 1, (0, 0, 0), [], []),
  (14, .ireturn, 1, (0, 0, 0), [], []),
  (15, .iconst 0, 1, (0, 0, 0), [], []),
  (16, .ireturn, 1, (0, 0, 0), [], [])]
/-- 241: L_until -/
def am_t241 : List am_E := [(0, .aload_n 2, 1, (0, 0, 0), [], []),
  (1, .iconst 0, 1, (0, 0, 0), [], []),
  (2, .aload_n 0, 1, (0, 0, 0), [], []),
  (3, .iload_n 1, 1, (0, 0, 0), [], []),
  (4, .invokevirtual 62, 3, (14, 121, 6), [], [1103, 108, 1104, 1105]),
  (7, .i2l, 1, (0, 0, 0), [], []),
  (8, .lastore, 1, (0, 0, 0), [], []),
  (9, .goto 6, 3, (15, 0, 0), [], []),
  (12, .astore_n 3, 1, (0, 0, 0), [], []),
  (13, .iconst 1, 1, (0, 0, 0), [], []),
  (14, .ireturn, 1, (0, 0, 0), [], []),
  (15, .iconst 0, 1, (0, 0, 0), [], []),
  (16, .ireturn, 1, (0, 0, 0), [], [])]
/-- 242: L_foresee -/
def am_t242 : List am_E := [(0, .aload_n 3, 1, (0, 0, 0), [], []),
  (1, .iconst 0, 1, (0, 0, 0), [], []),
  (2, .aload_n 0, 1, (0, 0, 0), [], []),
  (3, .iload_n 1, 1, (0, 0, 0), [], []),
  (4, .iload_n 2, 1, (0, 0, 0), [], []),
  (5, .invokevirtual 65, 3, (14, 122, 6), [], [1110, 108, 1111, 1112]),
  (8, .i2l, 1, (0, 0, 0), [], []),
  (9, .lastore, 1, (0, 0, 0), [], []),
  (10, .goto 11, 3, (21, 0, 0), [], []),
  (13, .astore 4, 2, (0, 0, 0), [], []),
  (15, .iconst 1, 1, (0, 0, 0), [], []),
  (16, .ireturn, 1, (0, 0, 0), [], []),
  (17, .astore 4, 2, (0, 0, 0), [], []),
  (19, .iconst 2, 1, (0, 0, 0), [], []),
  (20, .ireturn, 1, (0, 0, 0), [], []),
  (21, .iconst 0, 1, (0, 0, 0), [], []),
  (22, .ireturn, 1, (0, 0, 0), [], [])]
/-- 243: L_advise -/
def am_t243 : List am_E := [(0, .aload_n 3, 1, (0, 0, 0), [], []),
  (1, .iconst 0, 1, (0, 0, 0), [], []),
  (2, .aload_n 0, 1, (0, 0, 0), [], []),
  (3, .iload_n 1, 1, (0, 0, 0), [], []),
  (4, .iload_n 2, 1, (0, 0, 0), [], []),
  (5, .invokevirtual 68, 3, (14, 123, 6), [], [1118, 108, 1119, 1120]),
  (8, .i2l, 1, (0, 0, 0), [], []),
  (9, .lastore, 1, (0, 0, 0), [], []),
  (10, .goto 11, 3, (21, 0, 0), [], []),
  (13, .astore 4, 2, (0, 0, 0), [], []),
  (15, .iconst 1, 1, (0, 0, 0), [], []),
  (16, .ireturn, 1, (0, 0, 0), [], []),
  (17, .astore 4, 2, (0, 0, 0), [], []),
  (19, .iconst 2, 1, (0, 0, 0), [], []),
  (20, .ireturn, 1, (0, 0, 0), [], []),
  (21, .iconst 0, 1, (0, 0, 0), [], []),
  (22, .ireturn, 1, (0, 0, 0), [], [])]
/-- 244: L_spare -/
def am_t244 : List am_E := [(0, .aload_n 2, 1, (0, 0, 0), [], []),
  (1, .iconst 0, 1, (0, 0, 0), [], []),
  (2, .aload_n 0, 1, (0, 0, 0), [], []),
  (3, .iload_n 1, 1, (0, 0, 0), [], []),
  (4, .invokevirtual 71, 3, (14, 124, 6), [], [1126, 108, 1127, 1128]),
  (7, .i2l, 1, (0, 0, 0), [], []),
  (8, .lastore, 1, (0, 0, 0), [], []),
  (9, .goto 6, 3, (15, 0, 0), [], []),
  (12, .astore_n 3, 1, (0, 0, 0), [], []),
  (13, .iconst 1, 1, (0, 0, 0), [], []),
  (14, .ireturn, 1, (0, 0, 0), [], []),
  (15, .iconst 0, 1, (0, 0, 0), [], []),
  (16, .ireturn, 1, (0, 0, 0), [], [])]
/-- 245: L_law -/
def am_t245_0 : List am_E := [(0, .new 8, 3, (6, 10, 0), [], [131, 132, 108]),
  (3, .dup, 1, (0, 0, 0), [], []),
  (4, .invokespecial 74, 3, (4, 101, 61), [], [133, 108, 134]),
  (7, .astore_n 1, 1, (0, 0, 0), [], []),
  (8, .new 75, 3, (9, 16, 0), [], [1130, 1131, 118]),
  (11, .dup, 1, (0, 0, 0), [], []),
  (12, .invokespecial 77, 3, (4, 151, 61), [], [1132, 118, 1133]),
  (15, .astore_n 2, 1, (0, 0, 0), [], []),
  (16, .iconst 1, 1, (0, 0, 0), [], []),
  (17, .newarray .long, 2, (22, 0, 0), [], [313]),
  (19, .astore_n 3, 1, (0, 0, 0), [], []),
  (20, .iconst 0, 1, (0, 0, 0), [], []),
  (21, .istore 4, 2, (0, 0, 0), [], []),
  (23, .iload 4, 2, (0, 0, 0), [], []),
  (25, .aload_n 0, 1, (0, 0, 0), [], []),
  (26, .arraylength, 1, (0, 0, 0), [], []),
  (27, .bipush 6, 2, (0, 0, 0), [], []),
  (29, .isub, 1, (0, 0, 0), [], []),
  (30, .if_icmp .gt 1424, 3, (1454, 0, 0), [], []),
  (33, .aload_n 0, 1, (0, 0, 0), [], []),
  (34, .iload 4, 2, (0, 0, 0), [], []),
  (36, .iaload, 1, (0, 0, 0), [], []),
  (37, .bipush 31, 2, (0, 0, 0), [], []),
  (39, .iand, 1, (0, 0, 0), [], []),
  (40, .tableswitch 1408 0 22 #[108, 212, 268, 281, 294, 350, 418, 486, 542, 610, 685, 753, 766, 869, 937, 993, 1049, 1105, 1161, 1229, 1297, 1353, 1394], 108, (1448, 0, 0), [(0, 148), (1, 252), (2, 308), (3, 321), (4, 334), (5, 390), (6, 458), (7, 526), (8, 582), (9, 650), (10, 725), (11, 793), (12, 806), (13, 909), (14, 977), (15, 1033), (16, 1089), (17, 1145), (18, 1201), (19, 1269), (20, 1337), (21, 1393), (22, 1434)], []),
  (148, .aload_n 1, 1, (0, 0, 0), [], []),
  (149, .aload_n 0, 1, (0, 0, 0), [], []),
  (150, .iload 4, 2, (0, 0, 0), [], []),
  (152, .iconst 1, 1, (0, 0, 0), [], []),
  (153, .iadd, 1, (0, 0, 0), [], []),
  (154, .iaload, 1, (0, 0, 0), [], []),
  (155, .aload_n 0, 1, (0, 0, 0), [], []),
  (156, .iload 4, 2, (0, 0, 0), [], []),
  (158, .iconst 2, 1, (0, 0, 0), [], []),
  (159, .iadd, 1, (0, 0, 0), [], []),
  (160, .iaload, 1, (0, 0, 0), [], []),
  (161, .aload_n 0, 1, (0, 0, 0), [], []),
  (162, .iload 4, 2, (0, 0, 0), [], []),
  (164, .iconst 3, 1, (0, 0, 0), [], []),
  (165, .iadd, 1, (0, 0, 0), [], []),
  (166, .iaload, 1, (0, 0, 0), [], []),
  (167, .aload_n 0, 1, (0, 0, 0), [], []),
  (168, .iload 4, 2, (0, 0, 0), [], []),
  (170, .iconst 4, 1, (0, 0, 0), [], []),
  (171, .iadd, 1, (0, 0, 0), [], []),
  (172, .iaload, 1, (0, 0, 0), [], []),
  (173, .aload_n 0, 1, (0, 0, 0), [], []),
  (174, .iload 4, 2, (0, 0, 0), [], []),
  (176, .iconst 5, 1, (0, 0, 0), [], []),
  (177, .iadd, 1, (0, 0, 0), [], []),
  (178, .iaload, 1, (0, 0, 0), [], []),
  (179, .aload_n 3, 1, (0, 0, 0), [], []),
  (180, .invokestatic 78, 3, (15, 227, 0), [], [834, 107, 835]),
  (183, .istore 5, 2, (0, 0, 0), [], []),
  (185, .aload_n 2, 1, (0, 0, 0), [], []),
  (186, .aload_n 0, 1, (0, 0, 0), [], []),
  (187, .iload 4, 2, (0, 0, 0), [], []),
  (189, .iconst 1, 1, (0, 0, 0), [], []),
  (190, .iadd, 1, (0, 0, 0), [], []),
  (191, .iaload, 1, (0, 0, 0), [], [])]
def am_t245_1 : List am_E := [(192, .aload_n 0, 1, (0, 0, 0), [], []),
  (193, .iload 4, 2, (0, 0, 0), [], []),
  (195, .iconst 2, 1, (0, 0, 0), [], []),
  (196, .iadd, 1, (0, 0, 0), [], []),
  (197, .iaload, 1, (0, 0, 0), [], []),
  (198, .aload_n 0, 1, (0, 0, 0), [], []),
  (199, .iload 4, 2, (0, 0, 0), [], []),
  (201, .iconst 3, 1, (0, 0, 0), [], []),
  (202, .iadd, 1, (0, 0, 0), [], []),
  (203, .iaload, 1, (0, 0, 0), [], []),
  (204, .aload_n 0, 1, (0, 0, 0), [], []),
  (205, .iload 4, 2, (0, 0, 0), [], []),
  (207, .iconst 4, 1, (0, 0, 0), [], []),
  (208, .iadd, 1, (0, 0, 0), [], []),
  (209, .iaload, 1, (0, 0, 0), [], []),
  (210, .aload_n 0, 1, (0, 0, 0), [], []),
  (211, .iload 4, 2, (0, 0, 0), [], []),
  (213, .iconst 5, 1, (0, 0, 0), [], []),
  (214, .iadd, 1, (0, 0, 0), [], []),
  (215, .iaload, 1, (0, 0, 0), [], []),
  (216, .invokevirtual 83, 3, (0, 199, 9), [], [1330, 118, 1331, 1332]),
  (219, .istore 6, 2, (0, 0, 0), [], []),
  (221, .aload_n 2, 1, (0, 0, 0), [], []),
  (222, .invokevirtual 84, 3, (0, 152, 9), [], [1326, 118, 1327, 1328]),
  (225, .iload 5, 2, (0, 0, 0), [], []),
  (227, .if_icmp .eq 5, 3, (232, 0, 0), [], []),
  (230, .iconst 0, 1, (0, 0, 0), [], []),
  (231, .ireturn, 1, (1, 0, 0), [], []),
  (232, .iload 5, 2, (0, 0, 0), [], []),
  (234, .ifCond .ne 15, 3, (249, 0, 0), [], []),
  (237, .aload_n 3, 1, (0, 0, 0), [], []),
  (238, .iconst 0, 1, (0, 0, 0), [], []),
  (239, .laload, 1, (0, 0, 0), [], []),
  (240, .iload 6, 2, (0, 0, 0), [], []),
  (242, .i2l, 1, (0, 0, 0), [], []),
  (243, .lcmp, 1, (0, 0, 0), [], []),
  (244, .ifCond .eq 5, 3, (249, 0, 0), [], []),
  (247, .iconst 0, 1, (0, 0, 0), [], []),
  (248, .ireturn, 1, (1, 0, 0), [], []),
  (249, .goto 1199, 3, (1448, 0, 0), [], []),
  (252, .aload_n 1, 1, (0, 0, 0), [], []),
  (253, .aload_n 0, 1, (0, 0, 0), [], []),
  (254, .iload 4, 2, (0, 0, 0), [], []),
  (256, .iconst 1, 1, (0, 0, 0), [], []),
  (257, .iadd, 1, (0, 0, 0), [], []),
  (258, .iaload, 1, (0, 0, 0), [], []),
  (259, .aload_n 3, 1, (0, 0, 0), [], []),
  (260, .invokestatic 88, 3, (15, 228, 0), [], [913, 107, 914]),
  (263, .istore 5, 2, (0, 0, 0), [], []),
  (265, .aload_n 2, 1, (0, 0, 0), [], []),
  (266, .aload_n 0, 1, (0, 0, 0), [], []),
  (267, .iload 4, 2, (0, 0, 0), [], []),
  (269, .iconst 1, 1, (0, 0, 0), [], []),
  (270, .iadd, 1, (0, 0, 0), [], []),
  (271, .iaload, 1, (0, 0, 0), [], []),
  (272, .invokevirtual 91, 3, (0, 200, 9), [], [1338, 118, 1339, 1340]),
  (275, .istore 6, 2, (0, 0, 0), [], []),
  (277, .aload_n 2, 1, (0, 0, 0), [], []),
  (278, .invokevirtual 84, 3, (0, 152, 9), [], [1326, 118, 1327, 1328]),
  (281, .iload 5, 2, (0, 0, 0), [], [])]
def am_t245_2 : List am_E := [(283, .if_icmp .eq 5, 3, (288, 0, 0), [], []),
  (286, .iconst 0, 1, (0, 0, 0), [], []),
  (287, .ireturn, 1, (1, 0, 0), [], []),
  (288, .iload 5, 2, (0, 0, 0), [], []),
  (290, .ifCond .ne 15, 3, (305, 0, 0), [], []),
  (293, .aload_n 3, 1, (0, 0, 0), [], []),
  (294, .iconst 0, 1, (0, 0, 0), [], []),
  (295, .laload, 1, (0, 0, 0), [], []),
  (296, .iload 6, 2, (0, 0, 0), [], []),
  (298, .i2l, 1, (0, 0, 0), [], []),
  (299, .lcmp, 1, (0, 0, 0), [], []),
  (300, .ifCond .eq 5, 3, (305, 0, 0), [], []),
  (303, .iconst 0, 1, (0, 0, 0), [], []),
  (304, .ireturn, 1, (1, 0, 0), [], []),
  (305, .goto 1143, 3, (1448, 0, 0), [], []),
  (308, .aload_n 1, 1, (0, 0, 0), [], []),
  (309, .invokevirtual 92, 3, (0, 105, 6), [], [457, 108, 458, 459]),
  (312, .aload_n 2, 1, (0, 0, 0), [], []),
  (313, .invokevirtual 95, 3, (0, 201, 9), [], [1345, 118, 1346, 1347]),
  (316, .if_icmp .eq 1132, 3, (1448, 0, 0), [], []),
  (319, .iconst 0, 1, (0, 0, 0), [], []),
  (320, .ireturn, 1, (1, 0, 0), [], []),
  (321, .aload_n 1, 1, (0, 0, 0), [], []),
  (322, .invokevirtual 96, 3, (0, 106, 6), [], [696, 108, 697, 698]),
  (325, .aload_n 2, 1, (0, 0, 0), [], []),
  (326, .invokevirtual 99, 3, (0, 202, 9), [], [1510, 118, 1511, 1512]),
  (329, .if_icmp .eq 1119, 3, (1448, 0, 0), [], []),
  (332, .iconst 0, 1, (0, 0, 0), [], []),
  (333, .ireturn, 1, (1, 0, 0), [], []),
  (334, .aload_n 1, 1, (0, 0, 0), [], []),
  (335, .aload_n 0, 1, (0, 0, 0), [], []),
  (336, .iload 4, 2, (0, 0, 0), [], []),
  (338, .iconst 1, 1, (0, 0, 0), [], []),
  (339, .iadd, 1, (0, 0, 0), [], []),
  (340, .iaload, 1, (0, 0, 0), [], []),
  (341, .aload_n 3, 1, (0, 0, 0), [], []),
  (342, .invokestatic 100, 3, (15, 229, 0), [], [937, 107, 938]),
  (345, .istore 5, 2, (0, 0, 0), [], []),
  (347, .aload_n 2, 1, (0, 0, 0), [], []),
  (348, .aload_n 0, 1, (0, 0, 0), [], []),
  (349, .iload 4, 2, (0, 0, 0), [], []),
  (351, .iconst 1, 1, (0, 0, 0), [], []),
  (352, .iadd, 1, (0, 0, 0), [], []),
  (353, .iaload, 1, (0, 0, 0), [], []),
  (354, .invokevirtual 102, 3, (0, 204, 9), [], [1514, 118, 1515, 1516]),
  (357, .istore 6, 2, (0, 0, 0), [], []),
  (359, .aload_n 2, 1, (0, 0, 0), [], []),
  (360, .invokevirtual 84, 3, (0, 152, 9), [], [1326, 118, 1327, 1328]),
  (363, .iload 5, 2, (0, 0, 0), [], []),
  (365, .if_icmp .eq 5, 3, (370, 0, 0), [], []),
  (368, .iconst 0, 1, (0, 0, 0), [], []),
  (369, .ireturn, 1, (1, 0, 0), [], []),
  (370, .iload 5, 2, (0, 0, 0), [], []),
  (372, .ifCond .ne 15, 3, (387, 0, 0), [], []),
  (375, .aload_n 3, 1, (0, 0, 0), [], []),
  (376, .iconst 0, 1, (0, 0, 0), [], []),
  (377, .laload, 1, (0, 0, 0), [], []),
  (378, .iload 6, 2, (0, 0, 0), [], []),
  (380, .i2l, 1, (0, 0, 0), [], []),
  (381, .lcmp, 1, (0, 0, 0), [], [])]
def am_t245_3 : List am_E := [(382, .ifCond .eq 5, 3, (387, 0, 0), [], []),
  (385, .iconst 0, 1, (0, 0, 0), [], []),
  (386, .ireturn, 1, (1, 0, 0), [], []),
  (387, .goto 1061, 3, (1448, 0, 0), [], []),
  (390, .aload_n 1, 1, (0, 0, 0), [], []),
  (391, .aload_n 0, 1, (0, 0, 0), [], []),
  (392, .iload 4, 2, (0, 0, 0), [], []),
  (394, .iconst 1, 1, (0, 0, 0), [], []),
  (395, .iadd, 1, (0, 0, 0), [], []),
  (396, .iaload, 1, (0, 0, 0), [], []),
  (397, .aload_n 0, 1, (0, 0, 0), [], []),
  (398, .iload 4, 2, (0, 0, 0), [], []),
  (400, .iconst 2, 1, (0, 0, 0), [], []),
  (401, .iadd, 1, (0, 0, 0), [], []),
  (402, .iaload, 1, (0, 0, 0), [], []),
  (403, .aload_n 3, 1, (0, 0, 0), [], []),
  (404, .invokestatic 103, 3, (15, 230, 0), [], [961, 107, 962]),
  (407, .istore 5, 2, (0, 0, 0), [], []),
  (409, .aload_n 2, 1, (0, 0, 0), [], []),
  (410, .aload_n 0, 1, (0, 0, 0), [], []),
  (411, .iload 4, 2, (0, 0, 0), [], []),
  (413, .iconst 1, 1, (0, 0, 0), [], []),
  (414, .iadd, 1, (0, 0, 0), [], []),
  (415, .iaload, 1, (0, 0, 0), [], []),
  (416, .aload_n 0, 1, (0, 0, 0), [], []),
  (417, .iload 4, 2, (0, 0, 0), [], []),
  (419, .iconst 2, 1, (0, 0, 0), [], []),
  (420, .iadd, 1, (0, 0, 0), [], []),
  (421, .iaload, 1, (0, 0, 0), [], []),
  (422, .invokevirtual 106, 3, (0, 206, 9), [], [1534, 118, 1535, 1536]),
  (425, .istore 6, 2, (0, 0, 0), [], []),
  (427, .aload_n 2, 1, (0, 0, 0), [], []),
  (428, .invokevirtual 84, 3, (0, 152, 9), [], [1326, 118, 1327, 1328]),
  (431, .iload 5, 2, (0, 0, 0), [], []),
  (433, .if_icmp .eq 5, 3, (438, 0, 0), [], []),
  (436, .iconst 0, 1, (0, 0, 0), [], []),
  (437, .ireturn, 1, (1, 0, 0), [], []),
  (438, .iload 5, 2, (0, 0, 0), [], []),
  (440, .ifCond .ne 15, 3, (455, 0, 0), [], []),
  (443, .aload_n 3, 1, (0, 0, 0), [], []),
  (444, .iconst 0, 1, (0, 0, 0), [], []),
  (445, .laload, 1, (0, 0, 0), [], []),
  (446, .iload 6, 2, (0, 0, 0), [], []),
  (448, .i2l, 1, (0, 0, 0), [], []),
  (449, .lcmp, 1, (0, 0, 0), [], []),
  (450, .ifCond .eq 5, 3, (455, 0, 0), [], []),
  (453, .iconst 0, 1, (0, 0, 0), [], []),
  (454, .ireturn, 1, (1, 0, 0), [], []),
  (455, .goto 993, 3, (1448, 0, 0), [], []),
  (458, .aload_n 1, 1, (0, 0, 0), [], []),
  (459, .aload_n 0, 1, (0, 0, 0), [], []),
  (460, .iload 4, 2, (0, 0, 0), [], []),
  (462, .iconst 1, 1, (0, 0, 0), [], []),
  (463, .iadd, 1, (0, 0, 0), [], []),
  (464, .iaload, 1, (0, 0, 0), [], []),
  (465, .aload_n 0, 1, (0, 0, 0), [], []),
  (466, .iload 4, 2, (0, 0, 0), [], []),
  (468, .iconst 2, 1, (0, 0, 0), [], []),
  (469, .iadd, 1, (0, 0, 0), [], []),
  (470, .iaload, 1, (0, 0, 0), [], [])]
def am_t245_4 : List am_E := [(471, .aload_n 3, 1, (0, 0, 0), [], []),
  (472, .invokestatic 107, 3, (15, 231, 0), [], [974, 107, 975]),
  (475, .istore 5, 2, (0, 0, 0), [], []),
  (477, .aload_n 2, 1, (0, 0, 0), [], []),
  (478, .aload_n 0, 1, (0, 0, 0), [], []),
  (479, .iload 4, 2, (0, 0, 0), [], []),
  (481, .iconst 1, 1, (0, 0, 0), [], []),
  (482, .iadd, 1, (0, 0, 0), [], []),
  (483, .iaload, 1, (0, 0, 0), [], []),
  (484, .aload_n 0, 1, (0, 0, 0), [], []),
  (485, .iload 4, 2, (0, 0, 0), [], []),
  (487, .iconst 2, 1, (0, 0, 0), [], []),
  (488, .iadd, 1, (0, 0, 0), [], []),
  (489, .iaload, 1, (0, 0, 0), [], []),
  (490, .invokevirtual 109, 3, (0, 208, 9), [], [1546, 118, 1547, 1548]),
  (493, .istore 6, 2, (0, 0, 0), [], []),
  (495, .aload_n 2, 1, (0, 0, 0), [], []),
  (496, .invokevirtual 84, 3, (0, 152, 9), [], [1326, 118, 1327, 1328]),
  (499, .iload 5, 2, (0, 0, 0), [], []),
  (501, .if_icmp .eq 5, 3, (506, 0, 0), [], []),
  (504, .iconst 0, 1, (0, 0, 0), [], []),
  (505, .ireturn, 1, (1, 0, 0), [], []),
  (506, .iload 5, 2, (0, 0, 0), [], []),
  (508, .ifCond .ne 15, 3, (523, 0, 0), [], []),
  (511, .aload_n 3, 1, (0, 0, 0), [], []),
  (512, .iconst 0, 1, (0, 0, 0), [], []),
  (513, .laload, 1, (0, 0, 0), [], []),
  (514, .iload 6, 2, (0, 0, 0), [], []),
  (516, .i2l, 1, (0, 0, 0), [], []),
  (517, .lcmp, 1, (0, 0, 0), [], []),
  (518, .ifCond .eq 5, 3, (523, 0, 0), [], []),
  (521, .iconst 0, 1, (0, 0, 0), [], []),
  (522, .ireturn, 1, (1, 0, 0), [], []),
  (523, .goto 925, 3, (1448, 0, 0), [], []),
  (526, .aload_n 1, 1, (0, 0, 0), [], []),
  (527, .aload_n 0, 1, (0, 0, 0), [], []),
  (528, .iload 4, 2, (0, 0, 0), [], []),
  (530, .iconst 1, 1, (0, 0, 0), [], []),
  (531, .iadd, 1, (0, 0, 0), [], []),
  (532, .iaload, 1, (0, 0, 0), [], []),
  (533, .aload_n 3, 1, (0, 0, 0), [], []),
  (534, .invokestatic 110, 3, (15, 232, 0), [], [984, 107, 985]),
  (537, .istore 5, 2, (0, 0, 0), [], []),
  (539, .aload_n 2, 1, (0, 0, 0), [], []),
  (540, .aload_n 0, 1, (0, 0, 0), [], []),
  (541, .iload 4, 2, (0, 0, 0), [], []),
  (543, .iconst 1, 1, (0, 0, 0), [], []),
  (544, .iadd, 1, (0, 0, 0), [], []),
  (545, .iaload, 1, (0, 0, 0), [], []),
  (546, .invokevirtual 112, 3, (0, 209, 9), [], [1595, 118, 1596, 1597]),
  (549, .istore 6, 2, (0, 0, 0), [], []),
  (551, .aload_n 2, 1, (0, 0, 0), [], []),
  (552, .invokevirtual 84, 3, (0, 152, 9), [], [1326, 118, 1327, 1328]),
  (555, .iload 5, 2, (0, 0, 0), [], []),
  (557, .if_icmp .eq 5, 3, (562, 0, 0), [], []),
  (560, .iconst 0, 1, (0, 0, 0), [], []),
  (561, .ireturn, 1, (1, 0, 0), [], []),
  (562, .iload 5, 2, (0, 0, 0), [], []),
  (564, .ifCond .ne 15, 3, (579, 0, 0), [], []),
  (567, .aload_n 3, 1, (0, 0, 0), [], [])]
def am_t245_5 : List am_E := [(568, .iconst 0, 1, (0, 0, 0), [], []),
  (569, .laload, 1, (0, 0, 0), [], []),
  (570, .iload 6, 2, (0, 0, 0), [], []),
  (572, .i2l, 1, (0, 0, 0), [], []),
  (573, .lcmp, 1, (0, 0, 0), [], []),
  (574, .ifCond .eq 5, 3, (579, 0, 0), [], []),
  (577, .iconst 0, 1, (0, 0, 0), [], []),
  (578, .ireturn, 1, (1, 0, 0), [], []),
  (579, .goto 869, 3, (1448, 0, 0), [], []),
  (582, .aload_n 1, 1, (0, 0, 0), [], []),
  (583, .aload_n 0, 1, (0, 0, 0), [], []),
  (584, .iload 4, 2, (0, 0, 0), [], []),
  (586, .iconst 1, 1, (0, 0, 0), [], []),
  (587, .iadd, 1, (0, 0, 0), [], []),
  (588, .iaload, 1, (0, 0, 0), [], []),
  (589, .aload_n 0, 1, (0, 0, 0), [], []),
  (590, .iload 4, 2, (0, 0, 0), [], []),
  (592, .iconst 2, 1, (0, 0, 0), [], []),
  (593, .iadd, 1, (0, 0, 0), [], []),
  (594, .iaload, 1, (0, 0, 0), [], []),
  (595, .aload_n 3, 1, (0, 0, 0), [], []),
  (596, .invokestatic 113, 3, (15, 233, 0), [], [991, 107, 992]),
  (599, .istore 5, 2, (0, 0, 0), [], []),
  (601, .aload_n 2, 1, (0, 0, 0), [], []),
  (602, .aload_n 0, 1, (0, 0, 0), [], []),
  (603, .iload 4, 2, (0, 0, 0), [], []),
  (605, .iconst 1, 1, (0, 0, 0), [], []),
  (606, .iadd, 1, (0, 0, 0), [], []),
  (607, .iaload, 1, (0, 0, 0), [], []),
  (608, .aload_n 0, 1, (0, 0, 0), [], []),
  (609, .iload 4, 2, (0, 0, 0), [], []),
  (611, .iconst 2, 1, (0, 0, 0), [], []),
  (612, .iadd, 1, (0, 0, 0), [], []),
  (613, .iaload, 1, (0, 0, 0), [], []),
  (614, .invokevirtual 115, 3, (0, 211, 9), [], [1604, 118, 1605, 1606]),
  (617, .istore 6, 2, (0, 0, 0), [], []),
  (619, .aload_n 2, 1, (0, 0, 0), [], []),
  (620, .invokevirtual 84, 3, (0, 152, 9), [], [1326, 118, 1327, 1328]),
  (623, .iload 5, 2, (0, 0, 0), [], []),
  (625, .if_icmp .eq 5, 3, (630, 0, 0), [], []),
  (628, .iconst 0, 1, (0, 0, 0), [], []),
  (629, .ireturn, 1, (1, 0, 0), [], []),
  (630, .iload 5, 2, (0, 0, 0), [], []),
  (632, .ifCond .ne 15, 3, (647, 0, 0), [], []),
  (635, .aload_n 3, 1, (0, 0, 0), [], []),
  (636, .iconst 0, 1, (0, 0, 0), [], []),
  (637, .laload, 1, (0, 0, 0), [], []),
  (638, .iload 6, 2, (0, 0, 0), [], []),
  (640, .i2l, 1, (0, 0, 0), [], []),
  (641, .lcmp, 1, (0, 0, 0), [], []),
  (642, .ifCond .eq 5, 3, (647, 0, 0), [], []),
  (645, .iconst 0, 1, (0, 0, 0), [], []),
  (646, .ireturn, 1, (1, 0, 0), [], []),
  (647, .goto 801, 3, (1448, 0, 0), [], []),
  (650, .aload_n 1, 1, (0, 0, 0), [], []),
  (651, .aload_n 0, 1, (0, 0, 0), [], []),
  (652, .iload 4, 2, (0, 0, 0), [], []),
  (654, .iconst 1, 1, (0, 0, 0), [], []),
  (655, .iadd, 1, (0, 0, 0), [], []),
  (656, .iaload, 1, (0, 0, 0), [], [])]
def am_t245_6 : List am_E := [(657, .aload_n 0, 1, (0, 0, 0), [], []),
  (658, .iload 4, 2, (0, 0, 0), [], []),
  (660, .iconst 2, 1, (0, 0, 0), [], []),
  (661, .iadd, 1, (0, 0, 0), [], []),
  (662, .iaload, 1, (0, 0, 0), [], []),
  (663, .aload_n 3, 1, (0, 0, 0), [], []),
  (664, .invokestatic 116, 3, (15, 234, 0), [], [1000, 107, 1001]),
  (667, .istore 5, 2, (0, 0, 0), [], []),
  (669, .aload_n 2, 1, (0, 0, 0), [], []),
  (670, .aload_n 0, 1, (0, 0, 0), [], []),
  (671, .iload 4, 2, (0, 0, 0), [], []),
  (673, .iconst 1, 1, (0, 0, 0), [], []),
  (674, .iadd, 1, (0, 0, 0), [], []),
  (675, .iaload, 1, (0, 0, 0), [], []),
  (676, .aload_n 0, 1, (0, 0, 0), [], []),
  (677, .iload 4, 2, (0, 0, 0), [], []),
  (679, .iconst 2, 1, (0, 0, 0), [], []),
  (680, .iadd, 1, (0, 0, 0), [], []),
  (681, .iaload, 1, (0, 0, 0), [], []),
  (682, .invokevirtual 118, 3, (0, 212, 9), [], [1618, 118, 1619, 1620]),
  (685, .istore 6, 2, (0, 0, 0), [], []),
  (687, .aload_n 2, 1, (0, 0, 0), [], []),
  (688, .invokevirtual 84, 3, (0, 152, 9), [], [1326, 118, 1327, 1328]),
  (691, .iload 5, 2, (0, 0, 0), [], []),
  (693, .if_icmp .eq 5, 3, (698, 0, 0), [], []),
  (696, .iconst 0, 1, (0, 0, 0), [], []),
  (697, .ireturn, 1, (1, 0, 0), [], []),
  (698, .iload 5, 2, (0, 0, 0), [], []),
  (700, .ifCond .ne 22, 3, (722, 0, 0), [], []),
  (703, .aload_n 3, 1, (0, 0, 0), [], []),
  (704, .iconst 0, 1, (0, 0, 0), [], []),
  (705, .laload, 1, (0, 0, 0), [], []),
  (706, .iload 6, 2, (0, 0, 0), [], []),
  (708, .ifCond .eq 7, 3, (715, 0, 0), [], []),
  (711, .lconst 1, 1, (0, 0, 0), [], []),
  (712, .goto 4, 3, (716, 0, 0), [], []),
  (715, .lconst 0, 1, (0, 0, 0), [], []),
  (716, .lcmp, 1, (0, 0, 0), [], []),
  (717, .ifCond .eq 5, 3, (722, 0, 0), [], []),
  (720, .iconst 0, 1, (0, 0, 0), [], []),
  (721, .ireturn, 1, (1, 0, 0), [], []),
  (722, .goto 726, 3, (1448, 0, 0), [], []),
  (725, .aload_n 1, 1, (0, 0, 0), [], []),
  (726, .aload_n 0, 1, (0, 0, 0), [], []),
  (727, .iload 4, 2, (0, 0, 0), [], []),
  (729, .iconst 1, 1, (0, 0, 0), [], []),
  (730, .iadd, 1, (0, 0, 0), [], []),
  (731, .iaload, 1, (0, 0, 0), [], []),
  (732, .aload_n 0, 1, (0, 0, 0), [], []),
  (733, .iload 4, 2, (0, 0, 0), [], []),
  (735, .iconst 2, 1, (0, 0, 0), [], []),
  (736, .iadd, 1, (0, 0, 0), [], []),
  (737, .iaload, 1, (0, 0, 0), [], []),
  (738, .aload_n 3, 1, (0, 0, 0), [], []),
  (739, .invokestatic 119, 3, (15, 235, 0), [], [1009, 107, 1010]),
  (742, .istore 5, 2, (0, 0, 0), [], []),
  (744, .aload_n 2, 1, (0, 0, 0), [], []),
  (745, .aload_n 0, 1, (0, 0, 0), [], []),
  (746, .iload 4, 2, (0, 0, 0), [], []),
  (748, .iconst 1, 1, (0, 0, 0), [], [])]
def am_t245_7 : List am_E := [(749, .iadd, 1, (0, 0, 0), [], []),
  (750, .iaload, 1, (0, 0, 0), [], []),
  (751, .aload_n 0, 1, (0, 0, 0), [], []),
  (752, .iload 4, 2, (0, 0, 0), [], []),
  (754, .iconst 2, 1, (0, 0, 0), [], []),
  (755, .iadd, 1, (0, 0, 0), [], []),
  (756, .iaload, 1, (0, 0, 0), [], []),
  (757, .invokevirtual 121, 3, (0, 213, 9), [], [1623, 118, 1624, 1625]),
  (760, .istore 6, 2, (0, 0, 0), [], []),
  (762, .aload_n 2, 1, (0, 0, 0), [], []),
  (763, .invokevirtual 84, 3, (0, 152, 9), [], [1326, 118, 1327, 1328]),
  (766, .iload 5, 2, (0, 0, 0), [], []),
  (768, .if_icmp .eq 5, 3, (773, 0, 0), [], []),
  (771, .iconst 0, 1, (0, 0, 0), [], []),
  (772, .ireturn, 1, (1, 0, 0), [], []),
  (773, .iload 5, 2, (0, 0, 0), [], []),
  (775, .ifCond .ne 15, 3, (790, 0, 0), [], []),
  (778, .aload_n 3, 1, (0, 0, 0), [], []),
  (779, .iconst 0, 1, (0, 0, 0), [], []),
  (780, .laload, 1, (0, 0, 0), [], []),
  (781, .iload 6, 2, (0, 0, 0), [], []),
  (783, .i2l, 1, (0, 0, 0), [], []),
  (784, .lcmp, 1, (0, 0, 0), [], []),
  (785, .ifCond .eq 5, 3, (790, 0, 0), [], []),
  (788, .iconst 0, 1, (0, 0, 0), [], []),
  (789, .ireturn, 1, (1, 0, 0), [], []),
  (790, .goto 658, 3, (1448, 0, 0), [], []),
  (793, .aload_n 1, 1, (0, 0, 0), [], []),
  (794, .invokevirtual 122, 3, (0, 115, 6), [], [700, 108, 701, 702]),
  (797, .aload_n 2, 1, (0, 0, 0), [], []),
  (798, .invokevirtual 125, 3, (0, 215, 9), [], [1627, 118, 1628, 1629]),
  (801, .if_icmp .eq 647, 3, (1448, 0, 0), [], []),
  (804, .iconst 0, 1, (0, 0, 0), [], []),
  (805, .ireturn, 1, (1, 0, 0), [], []),
  (806, .aload_n 1, 1, (0, 0, 0), [], []),
  (807, .aload_n 0, 1, (0, 0, 0), [], []),
  (808, .iload 4, 2, (0, 0, 0), [], []),
  (810, .iconst 1, 1, (0, 0, 0), [], []),
  (811, .iadd, 1, (0, 0, 0), [], []),
  (812, .iaload, 1, (0, 0, 0), [], []),
  (813, .aload_n 0, 1, (0, 0, 0), [], []),
  (814, .iload 4, 2, (0, 0, 0), [], []),
  (816, .iconst 2, 1, (0, 0, 0), [], []),
  (817, .iadd, 1, (0, 0, 0), [], []),
  (818, .iaload, 1, (0, 0, 0), [], []),
  (819, .aload_n 0, 1, (0, 0, 0), [], []),
  (820, .iload 4, 2, (0, 0, 0), [], []),
  (822, .iconst 3, 1, (0, 0, 0), [], []),
  (823, .iadd, 1, (0, 0, 0), [], []),
  (824, .iaload, 1, (0, 0, 0), [], []),
  (825, .ifCond .eq 7, 3, (832, 0, 0), [], []),
  (828, .iconst 1, 1, (0, 0, 0), [], []),
  (829, .goto 4, 3, (833, 0, 0), [], []),
  (832, .iconst 0, 1, (0, 0, 0), [], []),
  (833, .aload_n 3, 1, (0, 0, 0), [], []),
  (834, .invokestatic 126, 3, (15, 236, 0), [], [1016, 107, 1017]),
  (837, .istore 5, 2, (0, 0, 0), [], []),
  (839, .aload_n 2, 1, (0, 0, 0), [], []),
  (840, .aload_n 0, 1, (0, 0, 0), [], []),
  (841, .iload 4, 2, (0, 0, 0), [], [])]
def am_t245_8 : List am_E := [(843, .iconst 1, 1, (0, 0, 0), [], []),
  (844, .iadd, 1, (0, 0, 0), [], []),
  (845, .iaload, 1, (0, 0, 0), [], []),
  (846, .aload_n 0, 1, (0, 0, 0), [], []),
  (847, .iload 4, 2, (0, 0, 0), [], []),
  (849, .iconst 2, 1, (0, 0, 0), [], []),
  (850, .iadd, 1, (0, 0, 0), [], []),
  (851, .iaload, 1, (0, 0, 0), [], []),
  (852, .aload_n 0, 1, (0, 0, 0), [], []),
  (853, .iload 4, 2, (0, 0, 0), [], []),
  (855, .iconst 3, 1, (0, 0, 0), [], []),
  (856, .iadd, 1, (0, 0, 0), [], []),
  (857, .iaload, 1, (0, 0, 0), [], []),
  (858, .ifCond .eq 7, 3, (865, 0, 0), [], []),
  (861, .iconst 1, 1, (0, 0, 0), [], []),
  (862, .goto 4, 3, (866, 0, 0), [], []),
  (865, .iconst 0, 1, (0, 0, 0), [], []),
  (866, .invokevirtual 129, 3, (0, 216, 9), [], [1660, 118, 1661, 1662]),
  (869, .istore 6, 2, (0, 0, 0), [], []),
  (871, .aload_n 2, 1, (0, 0, 0), [], []),
  (872, .invokevirtual 84, 3, (0, 152, 9), [], [1326, 118, 1327, 1328]),
  (875, .iload 5, 2, (0, 0, 0), [], []),
  (877, .if_icmp .eq 5, 3, (882, 0, 0), [], []),
  (880, .iconst 0, 1, (0, 0, 0), [], []),
  (881, .ireturn, 1, (1, 0, 0), [], []),
  (882, .iload 5, 2, (0, 0, 0), [], []),
  (884, .ifCond .ne 22, 3, (906, 0, 0), [], []),
  (887, .aload_n 3, 1, (0, 0, 0), [], []),
  (888, .iconst 0, 1, (0, 0, 0), [], []),
  (889, .laload, 1, (0, 0, 0), [], []),
  (890, .iload 6, 2, (0, 0, 0), [], []),
  (892, .ifCond .eq 7, 3, (899, 0, 0), [], []),
  (895, .lconst 1, 1, (0, 0, 0), [], []),
  (896, .goto 4, 3, (900, 0, 0), [], []),
  (899, .lconst 0, 1, (0, 0, 0), [], []),
  (900, .lcmp, 1, (0, 0, 0), [], []),
  (901, .ifCond .eq 5, 3, (906, 0, 0), [], []),
  (904, .iconst 0, 1, (0, 0, 0), [], []),
  (905, .ireturn, 1, (1, 0, 0), [], []),
  (906, .goto 542, 3, (1448, 0, 0), [], []),
  (909, .aload_n 1, 1, (0, 0, 0), [], []),
  (910, .aload_n 0, 1, (0, 0, 0), [], []),
  (911, .iload 4, 2, (0, 0, 0), [], []),
  (913, .iconst 1, 1, (0, 0, 0), [], []),
  (914, .iadd, 1, (0, 0, 0), [], []),
  (915, .iaload, 1, (0, 0, 0), [], []),
  (916, .aload_n 0, 1, (0, 0, 0), [], []),
  (917, .iload 4, 2, (0, 0, 0), [], []),
  (919, .iconst 2, 1, (0, 0, 0), [], []),
  (920, .iadd, 1, (0, 0, 0), [], []),
  (921, .iaload, 1, (0, 0, 0), [], []),
  (922, .aload_n 3, 1, (0, 0, 0), [], []),
  (923, .invokestatic 130, 3, (15, 237, 0), [], [1027, 107, 1028]),
  (926, .istore 5, 2, (0, 0, 0), [], []),
  (928, .aload_n 2, 1, (0, 0, 0), [], []),
  (929, .aload_n 0, 1, (0, 0, 0), [], []),
  (930, .iload 4, 2, (0, 0, 0), [], []),
  (932, .iconst 1, 1, (0, 0, 0), [], []),
  (933, .iadd, 1, (0, 0, 0), [], []),
  (934, .iaload, 1, (0, 0, 0), [], [])]
def am_t245_9 : List am_E := [(935, .aload_n 0, 1, (0, 0, 0), [], []),
  (936, .iload 4, 2, (0, 0, 0), [], []),
  (938, .iconst 2, 1, (0, 0, 0), [], []),
  (939, .iadd, 1, (0, 0, 0), [], []),
  (940, .iaload, 1, (0, 0, 0), [], []),
  (941, .invokevirtual 132, 3, (0, 217, 9), [], [1664, 118, 1665, 1666]),
  (944, .istore 6, 2, (0, 0, 0), [], []),
  (946, .aload_n 2, 1, (0, 0, 0), [], []),
  (947, .invokevirtual 84, 3, (0, 152, 9), [], [1326, 118, 1327, 1328]),
  (950, .iload 5, 2, (0, 0, 0), [], []),
  (952, .if_icmp .eq 5, 3, (957, 0, 0), [], []),
  (955, .iconst 0, 1, (0, 0, 0), [], []),
  (956, .ireturn, 1, (1, 0, 0), [], []),
  (957, .iload 5, 2, (0, 0, 0), [], []),
  (959, .ifCond .ne 15, 3, (974, 0, 0), [], []),
  (962, .aload_n 3, 1, (0, 0, 0), [], []),
  (963, .iconst 0, 1, (0, 0, 0), [], []),
  (964, .laload, 1, (0, 0, 0), [], []),
  (965, .iload 6, 2, (0, 0, 0), [], []),
  (967, .i2l, 1, (0, 0, 0), [], []),
  (968, .lcmp, 1, (0, 0, 0), [], []),
  (969, .ifCond .eq 5, 3, (974, 0, 0), [], []),
  (972, .iconst 0, 1, (0, 0, 0), [], []),
  (973, .ireturn, 1, (1, 0, 0), [], []),
  (974, .goto 474, 3, (1448, 0, 0), [], []),
  (977, .aload_n 1, 1, (0, 0, 0), [], []),
  (978, .aload_n 0, 1, (0, 0, 0), [], []),
  (979, .iload 4, 2, (0, 0, 0), [], []),
  (981, .iconst 1, 1, (0, 0, 0), [], []),
  (982, .iadd, 1, (0, 0, 0), [], []),
  (983, .iaload, 1, (0, 0, 0), [], []),
  (984, .aload_n 3, 1, (0, 0, 0), [], []),
  (985, .invokestatic 133, 3, (15, 238, 0), [], [1036, 107, 1037]),
  (988, .istore 5, 2, (0, 0, 0), [], []),
  (990, .aload_n 2, 1, (0, 0, 0), [], []),
  (991, .aload_n 0, 1, (0, 0, 0), [], []),
  (992, .iload 4, 2, (0, 0, 0), [], []),
  (994, .iconst 1, 1, (0, 0, 0), [], []),
  (995, .iadd, 1, (0, 0, 0), [], []),
  (996, .iaload, 1, (0, 0, 0), [], []),
  (997, .invokevirtual 135, 3, (0, 218, 9), [], [1668, 118, 1669, 1670]),
  (1000, .istore 6, 2, (0, 0, 0), [], []),
  (1002, .aload_n 2, 1, (0, 0, 0), [], []),
  (1003, .invokevirtual 84, 3, (0, 152, 9), [], [1326, 118, 1327, 1328]),
  (1006, .iload 5, 2, (0, 0, 0), [], []),
  (1008, .if_icmp .eq 5, 3, (1013, 0, 0), [], []),
  (1011, .iconst 0, 1, (0, 0, 0), [], []),
  (1012, .ireturn, 1, (1, 0, 0), [], []),
  (1013, .iload 5, 2, (0, 0, 0), [], []),
  (1015, .ifCond .ne 15, 3, (1030, 0, 0), [], []),
  (1018, .aload_n 3, 1, (0, 0, 0), [], []),
  (1019, .iconst 0, 1, (0, 0, 0), [], []),
  (1020, .laload, 1, (0, 0, 0), [], []),
  (1021, .iload 6, 2, (0, 0, 0), [], []),
  (1023, .i2l, 1, (0, 0, 0), [], []),
  (1024, .lcmp, 1, (0, 0, 0), [], []),
  (1025, .ifCond .eq 5, 3, (1030, 0, 0), [], []),
  (1028, .iconst 0, 1, (0, 0, 0), [], []),
  (1029, .ireturn, 1, (1, 0, 0), [], []),
  (1030, .goto 418, 3, (1448, 0, 0), [], [])]
def am_t245_10 : List am_E := [(1033, .aload_n 1, 1, (0, 0, 0), [], []),
  (1034, .aload_n 0, 1, (0, 0, 0), [], []),
  (1035, .iload 4, 2, (0, 0, 0), [], []),
  (1037, .iconst 1, 1, (0, 0, 0), [], []),
  (1038, .iadd, 1, (0, 0, 0), [], []),
  (1039, .iaload, 1, (0, 0, 0), [], []),
  (1040, .aload_n 3, 1, (0, 0, 0), [], []),
  (1041, .invokestatic 136, 3, (15, 239, 0), [], [1044, 107, 1045]),
  (1044, .istore 5, 2, (0, 0, 0), [], []),
  (1046, .aload_n 2, 1, (0, 0, 0), [], []),
  (1047, .aload_n 0, 1, (0, 0, 0), [], []),
  (1048, .iload 4, 2, (0, 0, 0), [], []),
  (1050, .iconst 1, 1, (0, 0, 0), [], []),
  (1051, .iadd, 1, (0, 0, 0), [], []),
  (1052, .iaload, 1, (0, 0, 0), [], []),
  (1053, .invokevirtual 138, 3, (0, 219, 9), [], [1672, 118, 1673, 1674]),
  (1056, .istore 6, 2, (0, 0, 0), [], []),
  (1058, .aload_n 2, 1, (0, 0, 0), [], []),
  (1059, .invokevirtual 84, 3, (0, 152, 9), [], [1326, 118, 1327, 1328]),
  (1062, .iload 5, 2, (0, 0, 0), [], []),
  (1064, .if_icmp .eq 5, 3, (1069, 0, 0), [], []),
  (1067, .iconst 0, 1, (0, 0, 0), [], []),
  (1068, .ireturn, 1, (1, 0, 0), [], []),
  (1069, .iload 5, 2, (0, 0, 0), [], []),
  (1071, .ifCond .ne 15, 3, (1086, 0, 0), [], []),
  (1074, .aload_n 3, 1, (0, 0, 0), [], []),
  (1075, .iconst 0, 1, (0, 0, 0), [], []),
  (1076, .laload, 1, (0, 0, 0), [], []),
  (1077, .iload 6, 2, (0, 0, 0), [], []),
  (1079, .i2l, 1, (0, 0, 0), [], []),
  (1080, .lcmp, 1, (0, 0, 0), [], []),
  (1081, .ifCond .eq 5, 3, (1086, 0, 0), [], []),
  (1084, .iconst 0, 1, (0, 0, 0), [], []),
  (1085, .ireturn, 1, (1, 0, 0), [], []),
  (1086, .goto 362, 3, (1448, 0, 0), [], []),
  (1089, .aload_n 1, 1, (0, 0, 0), [], []),
  (1090, .aload_n 0, 1, (0, 0, 0), [], []),
  (1091, .iload 4, 2, (0, 0, 0), [], []),
  (1093, .iconst 1, 1, (0, 0, 0), [], []),
  (1094, .iadd, 1, (0, 0, 0), [], []),
  (1095, .iaload, 1, (0, 0, 0), [], []),
  (1096, .aload_n 3, 1, (0, 0, 0), [], []),
  (1097, .invokestatic 139, 3, (15, 240, 0), [], [1057, 107, 1058]),
  (1100, .istore 5, 2, (0, 0, 0), [], []),
  (1102, .aload_n 2, 1, (0, 0, 0), [], []),
  (1103, .aload_n 0, 1, (0, 0, 0), [], []),
  (1104, .iload 4, 2, (0, 0, 0), [], []),
  (1106, .iconst 1, 1, (0, 0, 0), [], []),
  (1107, .iadd, 1, (0, 0, 0), [], []),
  (1108, .iaload, 1, (0, 0, 0), [], []),
  (1109, .invokevirtual 141, 3, (0, 220, 9), [], [1676, 118, 1677, 1678]),
  (1112, .istore 6, 2, (0, 0, 0), [], []),
  (1114, .aload_n 2, 1, (0, 0, 0), [], []),
  (1115, .invokevirtual 84, 3, (0, 152, 9), [], [1326, 118, 1327, 1328]),
  (1118, .iload 5, 2, (0, 0, 0), [], []),
  (1120, .if_icmp .eq 5, 3, (1125, 0, 0), [], []),
  (1123, .iconst 0, 1, (0, 0, 0), [], []),
  (1124, .ireturn, 1, (1, 0, 0), [], []),
  (1125, .iload 5, 2, (0, 0, 0), [], []),
  (1127, .ifCond .ne 15, 3, (1142, 0, 0), [], [])]
def am_t245_11 : List am_E := [(1130, .aload_n 3, 1, (0, 0, 0), [], []),
  (1131, .iconst 0, 1, (0, 0, 0), [], []),
  (1132, .laload, 1, (0, 0, 0), [], []),
  (1133, .iload 6, 2, (0, 0, 0), [], []),
  (1135, .i2l, 1, (0, 0, 0), [], []),
  (1136, .lcmp, 1, (0, 0, 0), [], []),
  (1137, .ifCond .eq 5, 3, (1142, 0, 0), [], []),
  (1140, .iconst 0, 1, (0, 0, 0), [], []),
  (1141, .ireturn, 1, (1, 0, 0), [], []),
  (1142, .goto 306, 3, (1448, 0, 0), [], []),
  (1145, .aload_n 1, 1, (0, 0, 0), [], []),
  (1146, .aload_n 0, 1, (0, 0, 0), [], []),
  (1147, .iload 4, 2, (0, 0, 0), [], []),
  (1149, .iconst 1, 1, (0, 0, 0), [], []),
  (1150, .iadd, 1, (0, 0, 0), [], []),
  (1151, .iaload, 1, (0, 0, 0), [], []),
  (1152, .aload_n 3, 1, (0, 0, 0), [], []),
  (1153, .invokestatic 142, 3, (15, 241, 0), [], [1100, 107, 1101]),
  (1156, .istore 5, 2, (0, 0, 0), [], []),
  (1158, .aload_n 2, 1, (0, 0, 0), [], []),
  (1159, .aload_n 0, 1, (0, 0, 0), [], []),
  (1160, .iload 4, 2, (0, 0, 0), [], []),
  (1162, .iconst 1, 1, (0, 0, 0), [], []),
  (1163, .iadd, 1, (0, 0, 0), [], []),
  (1164, .iaload, 1, (0, 0, 0), [], []),
  (1165, .invokevirtual 144, 3, (0, 221, 9), [], [1698, 118, 1699, 1700]),
  (1168, .istore 6, 2, (0, 0, 0), [], []),
  (1170, .aload_n 2, 1, (0, 0, 0), [], []),
  (1171, .invokevirtual 84, 3, (0, 152, 9), [], [1326, 118, 1327, 1328]),
  (1174, .iload 5, 2, (0, 0, 0), [], []),
  (1176, .if_icmp .eq 5, 3, (1181, 0, 0), [], []),
  (1179, .iconst 0, 1, (0, 0, 0), [], []),
  (1180, .ireturn, 1, (1, 0, 0), [], []),
  (1181, .iload 5, 2, (0, 0, 0), [], []),
  (1183, .ifCond .ne 15, 3, (1198, 0, 0), [], []),
  (1186, .aload_n 3, 1, (0, 0, 0), [], []),
  (1187, .iconst 0, 1, (0, 0, 0), [], []),
  (1188, .laload, 1, (0, 0, 0), [], []),
  (1189, .iload 6, 2, (0, 0, 0), [], []),
  (1191, .i2l, 1, (0, 0, 0), [], []),
  (1192, .lcmp, 1, (0, 0, 0), [], []),
  (1193, .ifCond .eq 5, 3, (1198, 0, 0), [], []),
  (1196, .iconst 0, 1, (0, 0, 0), [], []),
  (1197, .ireturn, 1, (1, 0, 0), [], []),
  (1198, .goto 250, 3, (1448, 0, 0), [], []),
  (1201, .aload_n 1, 1, (0, 0, 0), [], []),
  (1202, .aload_n 0, 1, (0, 0, 0), [], []),
  (1203, .iload 4, 2, (0, 0, 0), [], []),
  (1205, .iconst 1, 1, (0, 0, 0), [], []),
  (1206, .iadd, 1, (0, 0, 0), [], []),
  (1207, .iaload, 1, (0, 0, 0), [], []),
  (1208, .aload_n 0, 1, (0, 0, 0), [], []),
  (1209, .iload 4, 2, (0, 0, 0), [], []),
  (1211, .iconst 2, 1, (0, 0, 0), [], []),
  (1212, .iadd, 1, (0, 0, 0), [], []),
  (1213, .iaload, 1, (0, 0, 0), [], []),
  (1214, .aload_n 3, 1, (0, 0, 0), [], []),
  (1215, .invokestatic 145, 3, (15, 242, 0), [], [1107, 107, 1108]),
  (1218, .istore 5, 2, (0, 0, 0), [], []),
  (1220, .aload_n 2, 1, (0, 0, 0), [], [])]
def am_t245_12 : List am_E := [(1221, .aload_n 0, 1, (0, 0, 0), [], []),
  (1222, .iload 4, 2, (0, 0, 0), [], []),
  (1224, .iconst 1, 1, (0, 0, 0), [], []),
  (1225, .iadd, 1, (0, 0, 0), [], []),
  (1226, .iaload, 1, (0, 0, 0), [], []),
  (1227, .aload_n 0, 1, (0, 0, 0), [], []),
  (1228, .iload 4, 2, (0, 0, 0), [], []),
  (1230, .iconst 2, 1, (0, 0, 0), [], []),
  (1231, .iadd, 1, (0, 0, 0), [], []),
  (1232, .iaload, 1, (0, 0, 0), [], []),
  (1233, .invokevirtual 147, 3, (0, 222, 9), [], [1702, 118, 1703, 1704]),
  (1236, .istore 6, 2, (0, 0, 0), [], []),
  (1238, .aload_n 2, 1, (0, 0, 0), [], []),
  (1239, .invokevirtual 84, 3, (0, 152, 9), [], [1326, 118, 1327, 1328]),
  (1242, .iload 5, 2, (0, 0, 0), [], []),
  (1244, .if_icmp .eq 5, 3, (1249, 0, 0), [], []),
  (1247, .iconst 0, 1, (0, 0, 0), [], []),
  (1248, .ireturn, 1, (1, 0, 0), [], []),
  (1249, .iload 5, 2, (0, 0, 0), [], []),
  (1251, .ifCond .ne 15, 3, (1266, 0, 0), [], []),
  (1254, .aload_n 3, 1, (0, 0, 0), [], []),
  (1255, .iconst 0, 1, (0, 0, 0), [], []),
  (1256, .laload, 1, (0, 0, 0), [], []),
  (1257, .iload 6, 2, (0, 0, 0), [], []),
  (1259, .i2l, 1, (0, 0, 0), [], []),
  (1260, .lcmp, 1, (0, 0, 0), [], []),
  (1261, .ifCond .eq 5, 3, (1266, 0, 0), [], []),
  (1264, .iconst 0, 1, (0, 0, 0), [], []),
  (1265, .ireturn, 1, (1, 0, 0), [], []),
  (1266, .goto 182, 3, (1448, 0, 0), [], []),
  (1269, .aload_n 1, 1, (0, 0, 0), [], []),
  (1270, .aload_n 0, 1, (0, 0, 0), [], []),
  (1271, .iload 4, 2, (0, 0, 0), [], []),
  (1273, .iconst 1, 1, (0, 0, 0), [], []),
  (1274, .iadd, 1, (0, 0, 0), [], []),
  (1275, .iaload, 1, (0, 0, 0), [], []),
  (1276, .aload_n 0, 1, (0, 0, 0), [], []),
  (1277, .iload 4, 2, (0, 0, 0), [], []),
  (1279, .iconst 2, 1, (0, 0, 0), [], []),
  (1280, .iadd, 1, (0, 0, 0), [], []),
  (1281, .iaload, 1, (0, 0, 0), [], []),
  (1282, .aload_n 3, 1, (0, 0, 0), [], []),
  (1283, .invokestatic 148, 3, (15, 243, 0), [], [1115, 107, 1116]),
  (1286, .istore 5, 2, (0, 0, 0), [], []),
  (1288, .aload_n 2, 1, (0, 0, 0), [], []),
  (1289, .aload_n 0, 1, (0, 0, 0), [], []),
  (1290, .iload 4, 2, (0, 0, 0), [], []),
  (1292, .iconst 1, 1, (0, 0, 0), [], []),
  (1293, .iadd, 1, (0, 0, 0), [], []),
  (1294, .iaload, 1, (0, 0, 0), [], []),
  (1295, .aload_n 0, 1, (0, 0, 0), [], []),
  (1296, .iload 4, 2, (0, 0, 0), [], []),
  (1298, .iconst 2, 1, (0, 0, 0), [], []),
  (1299, .iadd, 1, (0, 0, 0), [], []),
  (1300, .iaload, 1, (0, 0, 0), [], []),
  (1301, .invokevirtual 150, 3, (0, 223, 9), [], [1711, 118, 1712, 1713]),
  (1304, .istore 6, 2, (0, 0, 0), [], []),
  (1306, .aload_n 2, 1, (0, 0, 0), [], []),
  (1307, .invokevirtual 84, 3, (0, 152, 9), [], [1326, 118, 1327, 1328]),
  (1310, .iload 5, 2, (0, 0, 0), [], [])]
def am_t245_13 : List am_E := [(1312, .if_icmp .eq 5, 3, (1317, 0, 0), [], []),
  (1315, .iconst 0, 1, (0, 0, 0), [], []),
  (1316, .ireturn, 1, (1, 0, 0), [], []),
  (1317, .iload 5, 2, (0, 0, 0), [], []),
  (1319, .ifCond .ne 15, 3, (1334, 0, 0), [], []),
  (1322, .aload_n 3, 1, (0, 0, 0), [], []),
  (1323, .iconst 0, 1, (0, 0, 0), [], []),
  (1324, .laload, 1, (0, 0, 0), [], []),
  (1325, .iload 6, 2, (0, 0, 0), [], []),
  (1327, .i2l, 1, (0, 0, 0), [], []),
  (1328, .lcmp, 1, (0, 0, 0), [], []),
  (1329, .ifCond .eq 5, 3, (1334, 0, 0), [], []),
  (1332, .iconst 0, 1, (0, 0, 0), [], []),
  (1333, .ireturn, 1, (1, 0, 0), [], []),
  (1334, .goto 114, 3, (1448, 0, 0), [], []),
  (1337, .aload_n 1, 1, (0, 0, 0), [], []),
  (1338, .aload_n 0, 1, (0, 0, 0), [], []),
  (1339, .iload 4, 2, (0, 0, 0), [], []),
  (1341, .iconst 1, 1, (0, 0, 0), [], []),
  (1342, .iadd, 1, (0, 0, 0), [], []),
  (1343, .iaload, 1, (0, 0, 0), [], []),
  (1344, .aload_n 3, 1, (0, 0, 0), [], []),
  (1345, .invokestatic 151, 3, (15, 244, 0), [], [1123, 107, 1124]),
  (1348, .istore 5, 2, (0, 0, 0), [], []),
  (1350, .aload_n 2, 1, (0, 0, 0), [], []),
  (1351, .aload_n 0, 1, (0, 0, 0), [], []),
  (1352, .iload 4, 2, (0, 0, 0), [], []),
  (1354, .iconst 1, 1, (0, 0, 0), [], []),
  (1355, .iadd, 1, (0, 0, 0), [], []),
  (1356, .iaload, 1, (0, 0, 0), [], []),
  (1357, .invokevirtual 153, 3, (0, 224, 9), [], [1715, 118, 1716, 1717]),
  (1360, .istore 6, 2, (0, 0, 0), [], []),
  (1362, .aload_n 2, 1, (0, 0, 0), [], []),
  (1363, .invokevirtual 84, 3, (0, 152, 9), [], [1326, 118, 1327, 1328]),
  (1366, .iload 5, 2, (0, 0, 0), [], []),
  (1368, .if_icmp .eq 5, 3, (1373, 0, 0), [], []),
  (1371, .iconst 0, 1, (0, 0, 0), [], []),
  (1372, .ireturn, 1, (1, 0, 0), [], []),
  (1373, .iload 5, 2, (0, 0, 0), [], []),
  (1375, .ifCond .ne 15, 3, (1390, 0, 0), [], []),
  (1378, .aload_n 3, 1, (0, 0, 0), [], []),
  (1379, .iconst 0, 1, (0, 0, 0), [], []),
  (1380, .laload, 1, (0, 0, 0), [], []),
  (1381, .iload 6, 2, (0, 0, 0), [], []),
  (1383, .i2l, 1, (0, 0, 0), [], []),
  (1384, .lcmp, 1, (0, 0, 0), [], []),
  (1385, .ifCond .eq 5, 3, (1390, 0, 0), [], []),
  (1388, .iconst 0, 1, (0, 0, 0), [], []),
  (1389, .ireturn, 1, (1, 0, 0), [], []),
  (1390, .goto 58, 3, (1448, 0, 0), [], []),
  (1393, .aload_n 1, 1, (0, 0, 0), [], []),
  (1394, .invokevirtual 154, 3, (0, 125, 6), [], [785, 108, 786, 787]),
  (1397, .dstore 5, 2, (0, 0, 0), [], []),
  (1399, .aload_n 2, 1, (0, 0, 0), [], []),
  (1400, .invokevirtual 158, 3, (0, 225, 9), [], [1719, 118, 1720, 1721]),
  (1403, .dstore 7, 2, (0, 0, 0), [], []),
  (1405, .dload 5, 2, (0, 0, 0), [], []),
  (1407, .dload 7, 2, (0, 0, 0), [], []),
  (1409, .dcmp .l, 1, (0, 0, 0), [], []),
  (1410, .ifCond .eq 21, 3, (1431, 0, 0), [], [])]
def am_t245_14 : List am_E := [(1413, .dload 5, 2, (0, 0, 0), [], []),
  (1415, .dload 5, 2, (0, 0, 0), [], []),
  (1417, .dcmp .l, 1, (0, 0, 0), [], []),
  (1418, .ifCond .eq 11, 3, (1429, 0, 0), [], []),
  (1421, .dload 7, 2, (0, 0, 0), [], []),
  (1423, .dload 7, 2, (0, 0, 0), [], []),
  (1425, .dcmp .l, 1, (0, 0, 0), [], []),
  (1426, .ifCond .ne 5, 3, (1431, 0, 0), [], []),
  (1429, .iconst 0, 1, (0, 0, 0), [], []),
  (1430, .ireturn, 1, (1, 0, 0), [], []),
  (1431, .goto 17, 3, (1448, 0, 0), [], []),
  (1434, .aload_n 1, 1, (0, 0, 0), [], []),
  (1435, .invokevirtual 159, 3, (0, 126, 6), [], [790, 108, 791, 792]),
  (1438, .aload_n 2, 1, (0, 0, 0), [], []),
  (1439, .invokevirtual 163, 3, (0, 226, 9), [], [1723, 118, 1724, 1725]),
  (1442, .lcmp, 1, (0, 0, 0), [], []),
  (1443, .ifCond .eq 5, 3, (1448, 0, 0), [], []),
  (1446, .iconst 0, 1, (0, 0, 0), [], []),
  (1447, .ireturn, 1, (1, 0, 0), [], []),
  (1448, .iinc 4 6, 3, (0, 0, 0), [], []),
  (1451, .goto (-1428), 3, (23, 0, 0), [], []),
  (1454, .iconst 1, 1, (0, 0, 0), [], []),
  (1455, .ireturn, 1, (1, 0, 0), [], [])]
def am_t245 : List am_E := am_t245_0 ++ (am_t245_1 ++ (am_t245_2 ++ (am_t245_3 ++ (am_t245_4 ++ (am_t245_5 ++ (am_t245_6 ++ (am_t245_7 ++ (am_t245_8 ++ (am_t245_9 ++ (am_t245_10 ++ (am_t245_11 ++ (am_t245_12 ++ (am_t245_13 ++ (am_t245_14))))))))))))))
def am_tg0 : List (List am_E) := [am_t0, am_t1, am_t2, am_t3, am_t4, am_t5, am_t6, am_t7, am_t8, am_t9, am_t10, am_t11, am_t12, am_t13, am_t14, am_t15]
def am_tg1 : List (List am_E) := [am_t16, am_t17, am_t18, am_t19, am_t20, am_t21, am_t22, am_t23, am_t24, am_t25, am_t26, am_t27, am_t28, am_t29, am_t30, am_t31]
def am_tg2 : List (List am_E) := [am_t32, am_t33, am_t34, am_t35, am_t36, am_t37, am_t38, am_t39, am_t40, am_t41, am_t42, am_t43, am_t44, am_t45, am_t46, am_t47]
def am_tg3 : List (List am_E) := [am_t48, am_t49, am_t50, am_t51, am_t52, am_t53, am_t54, am_t55, am_t56, am_t57, am_t58, am_t59, am_t60, am_t61, am_t62, am_t63]
def am_tg4 : List (List am_E) := [am_t64, am_t65, am_t66, am_t67, am_t68, am_t69, am_t70, am_t71, am_t72, am_t73, am_t74, am_t75, am_t76, am_t77, am_t78, am_t79]
def am_tg5 : List (List am_E) := [am_t80, am_t81, am_t82, am_t83, am_t84, am_t85, am_t86, am_t87, am_t88, am_t89, am_t90, am_t91, am_t92, am_t93, am_t94, am_t95]
def am_tg6 : List (List am_E) := [am_t96, am_t97, am_t98, am_t99, am_t100, am_t101, am_t102, am_t103, am_t104, am_t105, am_t106, am_t107, am_t108, am_t109, am_t110, am_t111]
def am_tg7 : List (List am_E) := [am_t112, am_t113, am_t114, am_t115, am_t116, am_t117, am_t118, am_t119, am_t120, am_t121, am_t122, am_t123, am_t124, am_t125, am_t126, am_t127]
def am_tg8 : List (List am_E) := [am_t128, am_t129, am_t130, am_t131, am_t132, am_t133, am_t134, am_t135, am_t136, am_t137, am_t138, am_t139, am_t140, am_t141, am_t142, am_t143]
def am_tg9 : List (List am_E) := [am_t144, am_t145, am_t146, am_t147, am_t148, am_t149, am_t150, am_t151, am_t152, am_t153, am_t154, am_t155, am_t156, am_t157, am_t158, am_t159]
def am_tg10 : List (List am_E) := [am_t160, am_t161, am_t162, am_t163, am_t164, am_t165, am_t166, am_t167, am_t168, am_t169, am_t170, am_t171, am_t172, am_t173, am_t174, am_t175]
def am_tg11 : List (List am_E) := [am_t176, am_t177, am_t178, am_t179, am_t180, am_t181, am_t182, am_t183, am_t184, am_t185, am_t186, am_t187, am_t188, am_t189, am_t190, am_t191]
def am_tg12 : List (List am_E) := [am_t192, am_t193, am_t194, am_t195, am_t196, am_t197, am_t198, am_t199, am_t200, am_t201, am_t202, am_t203, am_t204, am_t205, am_t206, am_t207]
def am_tg13 : List (List am_E) := [am_t208, am_t209, am_t210, am_t211, am_t212, am_t213, am_t214, am_t215, am_t216, am_t217, am_t218, am_t219, am_t220, am_t221, am_t222, am_t223]
def am_tg14 : List (List am_E) := [am_t224, am_t225, am_t226, am_t227, am_t228, am_t229, am_t230, am_t231, am_t232, am_t233, am_t234, am_t235, am_t236, am_t237, am_t238, am_t239]
def am_tg15 : List (List am_E) := [am_t240, am_t241, am_t242, am_t243, am_t244, am_t245]
def am_tabs : List (List (List am_E)) := [am_tg0, am_tg1, am_tg2, am_tg3, am_tg4, am_tg5, am_tg6, am_tg7, am_tg8, am_tg9, am_tg10, am_tg11, am_tg12, am_tg13, am_tg14, am_tg15]
def am_tab (m : Nat) : List am_E := am_nth (am_nth am_tabs (m / 16) []) (m % 16) []
abbrev am_I : Type := MethodName × ByteArray × Nat × Option FieldType × List (Nat × Nat × Nat × Nat) × Nat × (Nat × Nat) × Nat × Nat × List (Nat × Nat × Nat × Nat)
def am_ig0 : List am_I := [(yJ0_charAt_5068e, cJ0_charAt_5068e, 2, (some .char), [], 247, (0, 0), 2, 0, []),
  (yJ0_checkIndex_df160, cJ0_checkIndex_df160, 2, none, [], 257, (0, 0), 2, 9, []),
  (yJ0_coder_7d493, cJ0_coder_7d493, 1, (some .byte), [], 241, (0, 0), 1, 0, []),
  (yJ0_indexOf_0f7a4, cJ0_indexOf_0f7a4, 2, (some .int), [], 501, (0, 0), 2, 0, []),
  (yJ0_indexOf_7cf53, cJ0_indexOf_7cf53, 3, (some .int), [], 505, (0, 0), 3, 0, []),
  (yJ0_isLatin1_aae02, cJ0_isLatin1_aae02, 1, (some .boolean), [], 251, (0, 0), 1, 0, []),
  (yJ0_length_8abf5, cJ0_length_8abf5, 1, (some .int), [], 237, (0, 0), 1, 0, []),
  (yJ1_canEncode_9a6ad, cJ1_canEncode_9a6ad, 1, (some .boolean), [], 512, (0, 0), 1, 0, []),
  (yJ1_charAt_3b067, cJ1_charAt_3b067, 2, (some .char), [], 254, (0, 0), 2, 0, []),
  (yJ1_indexOfChar_4cfef, cJ1_indexOfChar_4cfef, 6, (some .int), [], 519, (0, 0), 4, 0, []),
  (yJ1_indexOf_4cfef, cJ1_indexOf_4cfef, 4, (some .int), [], 509, (0, 0), 4, 0, []),
  (yJ3_checkIndex_8e157, cJ3_checkIndex_8e157, 3, (some .int), [], 262, (0, 0), 3, 0, []),
  (yJ6_bitCount_0f7a4, cJ6_bitCount_0f7a4, 1, (some .int), [], 747, (0, 0), 1, 0, []),
  (yX0_init, cX0_init, 3, none, [], 344, (4, 429), 3, 9, []),
  (yX0_fill, cX0_fill, 3, (some .int), [], 630, (0, 0), 2, 0, []),
  (yX0_setArguments, cX0_setArguments, 4, none, [], 687, (0, 0), 2, 9, [])]
def am_ig1 : List am_I := [(yX0_errorHere, cX0_errorHere, 4, (some .int), [], 638, (0, 0), 2, 0, []),
  (yX0_tellWard, cX0_tellWard, 5, (some .int), [], 642, (0, 0), 3, 0, []),
  (yX0_tellProject, cX0_tellProject, 5, (some .int), [], 652, (0, 0), 3, 0, []),
  (yX0_tellVoter, cX0_tellVoter, 5, (some .int), [], 656, (0, 0), 3, 0, []),
  (yX0_errorOfNew, cX0_errorOfNew, 4, (some .int), [], 645, (0, 0), 3, 0, []),
  (yX0_tellBan, cX0_tellBan, 2, (some .int), [], 660, (0, 0), 2, 0, []),
  (yX0_tellBudget, cX0_tellBudget, 3, (some .int), [], 667, (0, 0), 2, 0, []),
  (yX0_tellLiked, cX0_tellLiked, 3, (some .int), [], 674, (0, 0), 2, 0, []),
  (yX0_putNumber, cX0_putNumber, 7, (some .int), [], 664, (0, 0), 5, 0, []),
  (yX0_putNamed, cX0_putNamed, 3, (some .int), [], 671, (0, 0), 3, 0, []),
  (yX0_find, cX0_find, 5, (some .int), [], 648, (0, 0), 3, 0, []),
  (yX1_init, cX1_init, 3, none, [], 318, (2, 802), 3, 9, []),
  (yX1_isList, cX1_isList, 3, (some .boolean), [], 558, (0, 0), 2, 0, []),
  (yX1_here, cX1_here, 1, (some .int), [], 562, (0, 0), 1, 0, []),
  (yX1_take, cX1_take, 2, (some .boolean), [], 570, (0, 0), 2, 0, []),
  (yX1_take_, cX1_take_, 3, (some .boolean), [], 574, (0, 0), 3, 0, [])]
def am_ig2 : List am_I := [(yX1_write, cX1_write, 2, (some .boolean), [], 598, (0, 0), 2, 0, []),
  (yX1_write_, cX1_write_, 3, (some .boolean), [], 602, (0, 0), 3, 0, []),
  (yX1_isLine, cX1_isLine, 1, (some .boolean), [], 566, (0, 0), 1, 0, []),
  (yX1_isRowOfLiked, cX1_isRowOfLiked, 2, (some .boolean), [], 578, (0, 0), 1, 0, []),
  (yX1_isBan, cX1_isBan, 1, (some .boolean), [], 582, (0, 0), 1, 0, []),
  (yX1_isTest, cX1_isTest, 3, (some .boolean), [], 586, (0, 0), 2, 0, []),
  (yX1_isBoth, cX1_isBoth, 3, (some .boolean), [], 590, (0, 0), 2, 0, []),
  (yX1_isSingle, cX1_isSingle, 3, (some .boolean), [], 594, (0, 0), 2, 0, []),
  (yX1_isNamed, cX1_isNamed, 4, (some .boolean), [], 606, (0, 0), 3, 0, []),
  (yX1_comparisonHere, cX1_comparisonHere, 1, (some .int), [], 626, (0, 0), 1, 0, []),
  (yX1_isSum, cX1_isSum, 4, (some .boolean), [], 610, (0, 0), 2, 0, []),
  (yX1_isProduct, cX1_isProduct, 4, (some .boolean), [], 614, (0, 0), 2, 0, []),
  (yX1_isValue, cX1_isValue, 3, (some .boolean), [], 618, (0, 0), 2, 0, []),
  (yX1_isPair, cX1_isPair, 2, (some .boolean), [], 622, (0, 0), 2, 0, []),
  (yX3_init, cX3_init, 2, none, [], 373, (8, 476), 2, 9, []),
  (yX3_begin, cX3_begin, 3, none, [], 695, (0, 0), 2, 9, [])]
def am_ig3 : List am_I := [(yX3_copy, cX3_copy, 3, none, [], 707, (0, 0), 2, 9, []),
  (yX3_total, cX3_total, 2, (some .int), [], 803, (0, 0), 2, 0, []),
  (yX3_purses, cX3_purses, 3, (some .int), [], 807, (0, 0), 1, 0, []),
  (yX3_builtCount, cX3_builtCount, 3, (some .int), [], 811, (0, 0), 1, 0, []),
  (yX3_boughtCount, cX3_boughtCount, 3, (some .int), [], 815, (0, 0), 1, 0, []),
  (yX3_ofWard, cX3_ofWard, 5, (some .int), [], 819, (0, 0), 3, 0, []),
  (yX3_ofProject, cX3_ofProject, 3, (some .int), [], 823, (0, 0), 3, 0, []),
  (yX3_ofVoter, cX3_ofVoter, 3, (some .int), [], 828, (0, 0), 3, 0, []),
  (yX3_likedCount, cX3_likedCount, 4, (some .int), [], 832, (0, 0), 2, 0, []),
  (yX3_pleasedOf, cX3_pleasedOf, 4, (some .int), [], 776, (0, 0), 2, 0, []),
  (yX3_isOpen, cX3_isOpen, 2, (some .boolean), [], 728, (0, 0), 2, 0, []),
  (yX3_isFan, cX3_isFan, 3, (some .boolean), [], 740, (0, 0), 3, 0, []),
  (yX3_fanCount, cX3_fanCount, 2, (some .int), [], 744, (0, 0), 2, 0, []),
  (yX3_coinsOfFans, cX3_coinsOfFans, 4, (some .int), [], 736, (0, 0), 2, 0, []),
  (yX3_shareOf, cX3_shareOf, 7, (some .int), [], 732, (0, 0), 2, 0, []),
  (yX3_setFan, cX3_setFan, 4, none, [], 1026, (0, 0), 4, 9, [])]
def am_ig4 : List am_I := [(yX3_putIntoPurse, cX3_putIntoPurse, 3, none, [], 715, (0, 0), 3, 9, []),
  (yX3_reopen, cX3_reopen, 2, none, [], 1056, (0, 0), 2, 9, []),
  (yX3_runYears, cX3_runYears, 3, none, [], 1069, (0, 0), 2, 9, []),
  (yX3_collect, cX3_collect, 4, none, [], 711, (0, 0), 1, 9, []),
  (yX3_buyFromPurses, cX3_buyFromPurses, 3, none, [], 1074, (0, 0), 1, 9, []),
  (yX3_bestToBuy, cX3_bestToBuy, 6, (some .int), [], 720, (0, 0), 1, 0, []),
  (yX3_hasRoom, cX3_hasRoom, 3, (some .boolean), [], 724, (0, 0), 2, 0, []),
  (yX3_buy, cX3_buy, 6, none, [], 1079, (0, 0), 3, 9, []),
  (yX3_build, cX3_build, 2, none, [], 1083, (0, 0), 2, 9, []),
  (yX3_buildFromPot, cX3_buildFromPot, 3, none, [], 1087, (0, 0), 1, 9, []),
  (yX3_bestForPot, cX3_bestForPot, 3, (some .int), [], 1091, (0, 0), 1, 0, []),
  (yX3_isBetterForPot, cX3_isBetterForPot, 3, (some .boolean), [], 1095, (0, 0), 3, 0, []),
  (yX3_grow, cX3_grow, 3, none, [], 1099, (0, 0), 1, 9, []),
  (yX3_isBanned, cX3_isBanned, 3, (some .boolean), [], 754, (0, 0), 2, 0, []),
  (yX3_holds, cX3_holds, 6, (some .boolean), [], 758, (0, 0), 2, 0, []),
  (yX3_push, cX3_push, 2, none, [], 766, (0, 0), 2, 9, [])]
def am_ig5 : List am_I := [(yX3_pop, cX3_pop, 1, (some .int), [], 762, (0, 0), 1, 0, []),
  (yX3_single, cX3_single, 3, (some .int), [], 770, (0, 0), 3, 0, []),
  (yX3_reckon, cX3_reckon, 4, (some .int), [], 780, (0, 0), 4, 0, []),
  (yX3_compare, cX3_compare, 4, (some .int), [], 784, (0, 0), 3, 0, []),
  (yX4_init, cX4_init, 1, none, [], 143, (9, 876), 1, 9, []),
  (yX4_clear, cX4_clear, 1, none, [], 634, (0, 0), 1, 9, []),
  (yX4_hasWard, cX4_hasWard, 2, (some .boolean), [], 971, (0, 0), 2, 0, []),
  (yX4_hasProject, cX4_hasProject, 2, (some .boolean), [], 678, (0, 0), 2, 0, []),
  (yX4_hasVoter, cX4_hasVoter, 2, (some .boolean), [], 682, (0, 0), 2, 0, []),
  (yX7_init, cX7_init, 5, none, [], 231, (4, 1225), 2, 9, []),
  (yX7_cut, cX7_cut, 3, none, [], 464, (0, 0), 2, 9, []),
  (yX7_startOf, cX7_startOf, 2, (some .int), [], 691, (0, 0), 2, 0, []),
  (yX7_skipBlanks, cX7_skipBlanks, 1, none, [], 471, (0, 0), 1, 9, []),
  (yX7_cutOne, cX7_cutOne, 2, (some .int), [], 479, (0, 0), 2, 0, []),
  (yX7_cutWord, cX7_cutWord, 6, (some .int), [], 483, (0, 0), 2, 0, []),
  (yX7_cutNumber, cX7_cutNumber, 5, (some .int), [], 490, (0, 0), 2, 0, [])]
def am_ig6 : List am_I := [(yX7_cutSymbol, cX7_cutSymbol, 2, (some .int), [], 496, (0, 0), 1, 0, []),
  (yX7_signAt, cX7_signAt, 2, (some .int), [], 475, (0, 0), 2, 0, []),
  (yX7_isLetter, cX7_isLetter, 1, (some .boolean), [], 288, (0, 0), 1, 0, []),
  (yX7_isDigit, cX7_isDigit, 1, (some .boolean), [], 486, (0, 0), 1, 0, []),
  (yX7_digitOf, cX7_digitOf, 1, (some .int), [], 285, (0, 0), 1, 0, []),
  (yX8_init, cX8_init, 1, none, [], 135, (52, 7239), 1, 9, []),
  (yX8_feed, cX8_feed, 6, (some .int), [], 841, (1, 6), 6, 0, []),
  (yX8_append, cX8_append, 3, none, [], 912, (0, 0), 2, 9, []),
  (yX8_trim, cX8_trim, 2, (some .int), [], 920, (1, 6), 2, 0, []),
  (yX8_teach, cX8_teach, 3, (some .int), [], 460, (0, 0), 1, 0, []),
  (yX8_errorAt, cX8_errorAt, 1, (some .int), [], 699, (0, 0), 1, 0, []),
  (yX8_count, cX8_count, 2, (some .int), [], 944, (1, 6), 2, 0, []),
  (yX8_countOf, cX8_countOf, 2, (some .int), [], 799, (0, 0), 2, 0, []),
  (yX8_ward, cX8_ward, 3, (some .int), [], 967, (1, 6), 3, 0, []),
  (yX8_project, cX8_project, 3, (some .int), [], 980, (1, 6), 3, 0, []),
  (yX8_share, cX8_share, 2, (some .int), [], 990, (1, 6), 2, 0, [])]
def am_ig7 : List am_I := [(yX8_voter, cX8_voter, 3, (some .int), [], 997, (1, 6), 3, 0, []),
  (yX8_likes, cX8_likes, 3, (some .boolean), [], 1006, (1, 6), 3, 0, []),
  (yX8_envy, cX8_envy, 3, (some .int), [], 1015, (1, 6), 3, 0, []),
  (yX8_next, cX8_next, 1, (some .int), [], 703, (0, 0), 1, 0, []),
  (yX8_approve, cX8_approve, 5, (some .boolean), [], 1022, (1, 6), 4, 0, []),
  (yX8_give, cX8_give, 3, (some .int), [], 1033, (1, 6), 3, 0, []),
  (yX8_setBudget, cX8_setBudget, 3, (some .int), [], 1042, (1, 6), 2, 0, []),
  (yX8_open, cX8_open, 3, (some .int), [], 1050, (1, 6), 2, 0, []),
  (yX8_pass, cX8_pass, 3, (some .int), [], 1063, (1, 6), 2, 0, []),
  (yX8_until, cX8_until, 3, (some .int), [], 1106, (1, 6), 2, 0, []),
  (yX8_foresee, cX8_foresee, 3, (some .int), [], 1113, (1, 6), 3, 0, []),
  (yX8_advise, cX8_advise, 6, (some .int), [], 1121, (1, 6), 3, 0, []),
  (yX8_spare, cX8_spare, 5, (some .int), [], 1129, (1, 6), 2, 0, []),
  (yX8_mean, cX8_mean, 3, (some .double), [], 788, (0, 0), 1, 3, []),
  (yX8_digest, cX8_digest, 5, (some .long), [], 793, (0, 0), 1, 1, []),
  (yX9_init, cX9_init, 1, none, [], 1140, (10, 1290), 1, 9, [])]
def am_ig8 : List am_I := [(yX10_init, cX10_init, 2, none, [], 1224, (7, 472), 2, 9, []),
  (yX10_copy, cX10_copy, 3, none, [], 1642, (0, 0), 3, 9, []),
  (yX10_become, cX10_become, 2, (some (.object "BudgetJuryModel$State")), [], 1638, (0, 0), 2, 2, []),
  (yX10_begin, cX10_begin, 2, none, [], 1274, (0, 0), 1, 9, []),
  (yX10_isFan, cX10_isFan, 3, (some .boolean), [], 1565, (0, 0), 3, 0, []),
  (yX10_fans, cX10_fans, 4, (some .int), [], 1561, (0, 0), 2, 0, []),
  (yX10_together, cX10_together, 5, (some .int), [], 1593, (0, 0), 3, 0, []),
  (yX10_share, cX10_share, 5, (some .int), [], 1602, (0, 0), 2, 0, []),
  (yX10_pleased, cX10_pleased, 4, (some .int), [], 1585, (0, 0), 2, 0, []),
  (yX10_isBanned, cX10_isBanned, 3, (some .boolean), [], 1569, (0, 0), 2, 0, []),
  (yX10_canBeChosen, cX10_canBeChosen, 4, (some .boolean), [], 1657, (0, 0), 2, 0, []),
  (yX10_pay, cX10_pay, 3, none, [], 1649, (0, 0), 1, 9, []),
  (yX10_next, cX10_next, 5, (some .int), [], 1653, (0, 0), 1, 0, []),
  (yX10_buy, cX10_buy, 6, none, [], 1689, (0, 0), 2, 9, []),
  (yX10_build, cX10_build, 2, none, [], 1693, (0, 0), 2, 9, []),
  (yX10_nextOfPot, cX10_nextOfPot, 4, (some .int), [], 1697, (0, 0), 1, 0, [])]
def am_ig9 : List am_I := [(yX10_pass, cX10_pass, 3, (some .int), [], 1683, (0, 0), 1, 0, []),
  (yX10_pass_, cX10_pass_, 3, (some (.object "BudgetJuryModel$State")), [], 1709, (0, 0), 2, 2, []),
  (yX10_purses, cX10_purses, 3, (some .int), [], 1529, (0, 0), 1, 0, []),
  (yX10_allBuilt, cX10_allBuilt, 4, (some .int), [], 1533, (0, 0), 2, 0, []),
  (yX10_counted, cX10_counted, 2, (some .int), [], 1525, (0, 0), 2, 0, []),
  (yX10_carryOut, cX10_carryOut, 6, (some .int), [], 1573, (0, 0), 3, 0, []),
  (yX10_pushed, cX10_pushed, 3, (some .int), [], 1580, (0, 0), 3, 0, []),
  (yX11_init, cX11_init, 1, none, [], 1134, (33, 6281), 1, 9, []),
  (yX11_thrown, cX11_thrown, 1, (some .int), [], 1329, (0, 0), 1, 0, []),
  (yX11_no, cX11_no, 2, (some .int), [], 1337, (0, 0), 2, 0, []),
  (yX11_isIn, cX11_isIn, 3, (some .boolean), [], 1344, (0, 0), 3, 0, []),
  (yX11_isWard, cX11_isWard, 2, (some .boolean), [], 1541, (0, 0), 2, 0, []),
  (yX11_isProject, cX11_isProject, 2, (some .boolean), [], 1553, (0, 0), 2, 0, []),
  (yX11_isVoter, cX11_isVoter, 2, (some .boolean), [], 1611, (0, 0), 2, 0, []),
  (yX11_isPushed, cX11_isPushed, 1, (some .boolean), [], 1576, (0, 0), 1, 0, []),
  (yX11_both, cX11_both, 3, (some .int), [], 1588, (0, 0), 3, 0, [])]
def am_ig10 : List am_I := [(yX11_isLetter, cX11_isLetter, 1, (some .boolean), [], 1367, (0, 0), 1, 0, []),
  (yX11_isDigit, cX11_isDigit, 1, (some .boolean), [], 1370, (0, 0), 1, 0, []),
  (yX11_byteOf, cX11_byteOf, 2, (some .int), [], 1360, (0, 0), 2, 0, []),
  (yX11_kindAt, cX11_kindAt, 6, (some .int), [], 1364, (0, 0), 3, 0, []),
  (yX11_word, cX11_word, 6, (some .int), [], 1374, (0, 0), 3, 0, []),
  (yX11_cut, cX11_cut, 3, none, [], 1356, (0, 0), 1, 9, []),
  (yX11_is, cX11_is, 2, (some .boolean), [], 1388, (0, 0), 2, 0, []),
  (yX11_isSign, cX11_isSign, 2, (some .boolean), [], 1441, (0, 0), 2, 0, []),
  (yX11_eat, cX11_eat, 2, (some .boolean), [], 1400, (0, 0), 2, 0, []),
  (yX11_eatSign, cX11_eatSign, 2, (some .boolean), [], 1445, (0, 0), 2, 0, []),
  (yX11_eatAs, cX11_eatAs, 3, (some .boolean), [], 1396, (0, 0), 3, 0, []),
  (yX11_put, cX11_put, 2, none, [], 1437, (0, 0), 2, 9, []),
  (yX11_isPlan, cX11_isPlan, 2, (some .boolean), [], 1384, (0, 0), 1, 0, []),
  (yX11_isWardLine, cX11_isWardLine, 1, (some .boolean), [], 1392, (0, 0), 1, 0, []),
  (yX11_isProjectLine, cX11_isProjectLine, 1, (some .boolean), [], 1404, (0, 0), 1, 0, []),
  (yX11_isVoterLine, cX11_isVoterLine, 1, (some .boolean), [], 1408, (0, 0), 1, 0, [])]
def am_ig11 : List am_I := [(yX11_isBudgetLine, cX11_isBudgetLine, 1, (some .boolean), [], 1412, (0, 0), 1, 0, []),
  (yX11_isBanLine, cX11_isBanLine, 2, (some .boolean), [], 1416, (0, 0), 1, 0, []),
  (yX11_isTest, cX11_isTest, 1, (some .boolean), [], 1421, (0, 0), 1, 0, []),
  (yX11_isBoth, cX11_isBoth, 1, (some .boolean), [], 1425, (0, 0), 1, 0, []),
  (yX11_isDeeper, cX11_isDeeper, 1, (some .boolean), [], 1433, (0, 0), 1, 0, []),
  (yX11_isName, cX11_isName, 2, (some .boolean), [], 1453, (0, 0), 2, 0, []),
  (yX11_isNamed, cX11_isNamed, 2, (some .boolean), [], 1449, (0, 0), 2, 0, []),
  (yX11_isSingle, cX11_isSingle, 2, (some .boolean), [], 1429, (0, 0), 1, 0, []),
  (yX11_isSum, cX11_isSum, 2, (some .boolean), [], 1457, (0, 0), 1, 0, []),
  (yX11_isProduct, cX11_isProduct, 2, (some .boolean), [], 1461, (0, 0), 1, 0, []),
  (yX11_isInside, cX11_isInside, 3, (some .boolean), [], 1473, (0, 0), 3, 0, []),
  (yX11_isValue, cX11_isValue, 2, (some .boolean), [], 1465, (0, 0), 1, 0, []),
  (yX11_numberAt, cX11_numberAt, 4, (some .int), [], 1469, (0, 0), 2, 0, []),
  (yX11_isSame, cX11_isSame, 4, (some .boolean), [], 1489, (0, 0), 3, 0, []),
  (yX11_told, cX11_told, 5, (some .int), [], 1485, (0, 0), 3, 0, []),
  (yX11_look, cX11_look, 3, (some .int), [], 1497, (0, 0), 3, 0, [])]
def am_ig12 : List am_I := [(yX11_isNew, cX11_isNew, 4, (some .int), [], 1481, (0, 0), 4, 0, []),
  (yX11_inRange, cX11_inRange, 4, (some .int), [], 1509, (0, 0), 4, 0, []),
  (yX11_ban, cX11_ban, 2, (some .int), [], 1493, (0, 0), 1, 0, []),
  (yX11_like, cX11_like, 5, (some .int), [], 1501, (0, 0), 2, 0, []),
  (yX11_errorOf, cX11_errorOf, 4, (some .int), [], 1477, (0, 0), 2, 0, []),
  (yX11_numberOf, cX11_numberOf, 3, (some .int), [], 1505, (0, 0), 2, 0, []),
  (yX11_read, cX11_read, 3, (some .int), [], 1352, (11, 1308), 1, 0, []),
  (yX11_feed, cX11_feed, 8, (some .int), [], 1333, (1, 5), 6, 0, []),
  (yX11_trim, cX11_trim, 2, (some .int), [], 1341, (0, 0), 2, 0, []),
  (yX11_teach, cX11_teach, 2, (some .int), [], 1348, (11, 1308), 1, 0, []),
  (yX11_errorAt, cX11_errorAt, 1, (some .int), [], 1513, (0, 0), 1, 0, []),
  (yX11_counted, cX11_counted, 3, (some .int), [], 1521, (1, 6), 2, 0, []),
  (yX11_count, cX11_count, 2, (some .int), [], 1517, (1, 6), 2, 0, []),
  (yX11_wardTold, cX11_wardTold, 7, (some .int), [], 1545, (0, 0), 3, 0, []),
  (yX11_ward, cX11_ward, 3, (some .int), [], 1537, (0, 0), 3, 0, []),
  (yX11_projectTold, cX11_projectTold, 4, (some .int), [], 1557, (1, 8), 3, 0, [])]
def am_ig13 : List am_I := [(yX11_project, cX11_project, 3, (some .int), [], 1549, (1, 8), 3, 0, []),
  (yX11_share, cX11_share, 2, (some .int), [], 1598, (0, 0), 2, 0, []),
  (yX11_voterTold, cX11_voterTold, 3, (some .int), [], 1615, (0, 0), 3, 0, []),
  (yX11_voter, cX11_voter, 3, (some .int), [], 1607, (0, 0), 3, 0, []),
  (yX11_likes, cX11_likes, 3, (some .boolean), [], 1621, (0, 0), 3, 0, []),
  (yX11_envy, cX11_envy, 3, (some .int), [], 1626, (0, 0), 3, 0, []),
  (yX11_nextOne, cX11_nextOne, 1, (some .int), [], 1634, (0, 0), 1, 0, []),
  (yX11_next, cX11_next, 1, (some .int), [], 1630, (0, 0), 1, 0, []),
  (yX11_approve, cX11_approve, 5, (some .boolean), [], 1663, (0, 0), 4, 0, []),
  (yX11_give, cX11_give, 3, (some .int), [], 1667, (0, 0), 3, 0, []),
  (yX11_setBudget, cX11_setBudget, 3, (some .int), [], 1671, (0, 0), 2, 0, []),
  (yX11_open, cX11_open, 3, (some .int), [], 1675, (0, 0), 2, 0, []),
  (yX11_pass, cX11_pass, 4, (some .int), [], 1679, (0, 0), 2, 0, []),
  (yX11_until, cX11_until, 3, (some .int), [], 1701, (0, 0), 2, 0, []),
  (yX11_foresee, cX11_foresee, 3, (some .int), [], 1705, (0, 0), 3, 0, []),
  (yX11_advise, cX11_advise, 7, (some .int), [], 1714, (0, 0), 3, 0, [])]
def am_ig14 : List am_I := [(yX11_spare, cX11_spare, 6, (some .int), [], 1718, (0, 0), 2, 0, []),
  (yX11_mean, cX11_mean, 3, (some .double), [], 1722, (0, 0), 1, 3, []),
  (yX11_digest, cX11_digest, 5, (some .long), [], 1726, (108, 840), 1, 1, []),
  (yL_feed, cL_feed, 8, (some .int), [(0, 16, 19, 13)], 836, (1, 6), 7, 0, [(0, 16, 19, 1)]),
  (yL_trim, cL_trim, 4, (some .int), [(0, 9, 12, 19)], 915, (1, 6), 3, 0, [(0, 9, 12, 2)]),
  (yL_count, cL_count, 4, (some .int), [(0, 9, 12, 24)], 939, (1, 6), 3, 0, [(0, 9, 12, 3)]),
  (yL_ward, cL_ward, 5, (some .int), [(0, 10, 13, 24)], 963, (1, 6), 4, 0, [(0, 10, 13, 3)]),
  (yL_project, cL_project, 5, (some .int), [(0, 10, 13, 24)], 976, (1, 6), 4, 0, [(0, 10, 13, 3)]),
  (yL_share, cL_share, 4, (some .int), [(0, 9, 12, 24)], 986, (1, 6), 3, 0, [(0, 9, 12, 3)]),
  (yL_voter, cL_voter, 5, (some .int), [(0, 10, 13, 24)], 993, (1, 6), 4, 0, [(0, 10, 13, 3)]),
  (yL_likes, cL_likes, 5, (some .int), [(0, 17, 20, 24)], 1002, (1, 6), 4, 0, [(0, 17, 20, 3)]),
  (yL_envy, cL_envy, 5, (some .int), [(0, 10, 13, 24)], 1011, (1, 6), 4, 0, [(0, 10, 13, 3)]),
  (yL_approve, cL_approve, 6, (some .int), [(0, 19, 22, 24)], 1018, (1, 6), 5, 0, [(0, 19, 22, 3)]),
  (yL_give, cL_give, 5, (some .int), [(0, 10, 13, 24), (0, 10, 17, 19)], 1029, (1, 6), 4, 0, [(0, 10, 13, 3), (0, 10, 17, 2)]),
  (yL_setBudget, cL_setBudget, 4, (some .int), [(0, 9, 12, 19)], 1038, (1, 6), 3, 0, [(0, 9, 12, 2)]),
  (yL_open, cL_open, 4, (some .int), [(0, 9, 12, 24), (0, 9, 15, 13)], 1046, (1, 6), 3, 0, [(0, 9, 12, 3), (0, 9, 15, 1)])]
def am_ig15 : List am_I := [(yL_pass, cL_pass, 4, (some .int), [(0, 9, 12, 19)], 1059, (1, 6), 3, 0, [(0, 9, 12, 2)]),
  (yL_until, cL_until, 4, (some .int), [(0, 9, 12, 24)], 1102, (1, 6), 3, 0, [(0, 9, 12, 3)]),
  (yL_foresee, cL_foresee, 5, (some .int), [(0, 10, 13, 19), (0, 10, 17, 24)], 1109, (1, 6), 4, 0, [(0, 10, 13, 2), (0, 10, 17, 3)]),
  (yL_advise, cL_advise, 5, (some .int), [(0, 10, 13, 24), (0, 10, 17, 19)], 1117, (1, 6), 4, 0, [(0, 10, 13, 3), (0, 10, 17, 2)]),
  (yL_spare, cL_spare, 4, (some .int), [(0, 9, 12, 19)], 1125, (1, 6), 3, 0, [(0, 9, 12, 2)]),
  (yL_law, cL_law, 9, (some .boolean), [], 0, (601024, 7293034), 1, 0, [])]
def am_infs : List (List am_I) := [am_ig0, am_ig1, am_ig2, am_ig3, am_ig4, am_ig5, am_ig6, am_ig7, am_ig8, am_ig9, am_ig10, am_ig11, am_ig12, am_ig13, am_ig14, am_ig15]
def am_i0 : am_I := (⟨"", "", ""⟩, ⟨#[]⟩, 0, none, [], 0, (0, 0), 0, 0, [])
def am_inf (m : Nat) : am_I := am_nth (am_nth am_infs (m / 16) []) (m % 16) am_i0
end
section
/-! ===== one step as a shape, and WP: what is so of every end, from a place on ===== -/
def am_row : List am_E → Nat → Option am_E
  | [], _ => none
  | e :: r, pc => match Nat.beq e.1 pc with
    | true => some e
    | false => am_row r pc
def am_ml (m : Nat) : Nat := (am_inf m).2.2.1
def am_cap (m : Nat) : Nat × Nat := (am_inf m).2.2.2.2.2.2.1
def am_na (m : Nat) : Nat := (am_inf m).2.2.2.2.2.2.2.1
def am_rtt (m : Nat) : Nat := (am_inf m).2.2.2.2.2.2.2.2.1
def am_hd (m : Nat) : List (Nat × Nat × Nat × Nat) := (am_inf m).2.2.2.2.2.2.2.2.2
def am_shr0 (cap : Nat × Nat) (c : AC) : Option am_E → ASh
  | none => am_bad
  | some e => am_ex e.2.2.2.1.1 e.2.2.2.1.2.1 e.2.2.2.1.2.2 e.2.2.2.2.1 cap (am_cap e.2.2.2.1.2.1) (am_ml e.2.2.2.1.2.1) (am_na e.2.2.2.1.2.1) (am_rtt e.2.2.2.1.2.1) c.1 e.2.2.1 c.2.1 c.2.2.1 c.2.2.2.1 c.2.2.2.2.1 c.2.2.2.2.2 e.2.1
def am_shp (m : Nat) (c : AC) : ASh := am_shr0 (am_cap m) c (am_row (am_tab m) c.1)
def am_okx (x : Nat) (P : Prop) : Prop := match x with
  | 0 => P
  | _ + 1 => False
def am_fnd : List (Nat × Nat × Nat × Nat) → Nat → Nat → (Nat → Prop) → Prop
  | [], _, _, _ => False
  | (a, b, q, k) :: r, x, pc, G => match Nat.ble a pc && (Nat.blt pc b && Nat.beq k x) with
    | true => G q
    | false => am_fnd r x pc G
def am_ctc (hs : List (Nat × Nat × Nat × Nat)) (x pc : Nat) (P : Prop) (G : Nat → Prop) : Prop := match x with
  | 0 => P
  | k + 1 => am_fnd hs (k + 1) pc G
def am_ret (hs : List (Nat × Nat × Nat × Nat)) (G : AC → Prop) (pc rt : Nat) (cf : AC) : AK := fun x v h' => match hs with
  | [] => am_okx x (G (cf.1, cf.2.1, am_push rt v cf.2.2.1, h', cf.2.2.2.2))
  | _ :: _ => am_ctc hs x pc (G (cf.1, cf.2.1, am_push rt v cf.2.2.1, h', cf.2.2.2.2)) (fun q => G (q, cf.2.1, [(10, 0)], h', cf.2.2.2.2))
def am_swP (G : AC → Prop) (x : Int) (d : AC) : List (Int × AC) → Prop
  | [] => G d
  | (v, c) :: r => (x = v → G c) ∧ (¬ x = v → am_swP G x d r)
abbrev AX : Type := Nat → Nat → AC → AK → Prop
def am_dn (X : AX) (d m : Nat) (c : AC) (K : AK) : Prop := match d with
  | 0 => False
  | d + 1 => X d m c K
def am_stp (X : AX) (G : AC → Prop) (d : Nat) (hs : List (Nat × Nat × Nat × Nat)) (K : AK) : ASh → Prop
  | .inl c => G c
  | .inr (.inl (p, c)) => p ∧ G c
  | .inr (.inr (.inl (p, a, b))) => (p → G a) ∧ (¬ p → G b)
  | .inr (.inr (.inr (.inl (x, l, e)))) => am_swP G x e l
  | .inr (.inr (.inr (.inr (.inl (m, as, pc, rt, c))))) => am_dn X d m (0, am_ent (am_ml m) as, [], c.2.2.2.1, 0, 0) (am_ret hs G pc rt c)
  | .inr (.inr (.inr (.inr (.inr (.inl (p, m, as, pc, rt, c)))))) => p ∧ am_dn X d m (0, am_ent (am_ml m) as, [], c.2.2.2.1, 0, 0) (am_ret hs G pc rt c)
  | .inr (.inr (.inr (.inr (.inr (.inr (.inl (v, h))))))) => K 0 v h
  | .inr (.inr (.inr (.inr (.inr (.inr (.inr (.inl (p, v, h)))))))) => p ∧ K 0 v h
  | .inr (.inr (.inr (.inr (.inr (.inr (.inr (.inr (.inl (p, k, h))))))))) => p ∧ ∀ n : Int, am_n h ≤ n → K k 0 (am_sn h n)
  | .inr (.inr (.inr (.inr (.inr (.inr (.inr (.inr (.inr _)))))))) => False
def am_le (K K' : AK) : Prop := ∀ x v h, K x v h → K' x v h
def am_Clo (P : AX) : Prop := (∀ d m c K, am_stp P (fun c' => P d m c' K) d (am_hd m) K (am_shp m c) → P d m c K) ∧ ∀ d m c K K', am_le K K' → P d m c K → P d m c K'
def WP : AX := fun d m c K => ∀ P, am_Clo P → P d m c K
theorem am_fnd_mono {hs : List (Nat × Nat × Nat × Nat)} {x pc : Nat} {G G' : Nat → Prop} (h : ∀ q, G q → G' q) (w : am_fnd hs x pc G) : am_fnd hs x pc G' := by
  induction hs with
  | nil => exact w
  | cons e r ih =>
    obtain ⟨a, b, q, k⟩ := e
    unfold am_fnd at w ⊢
    split
    · rename_i hh
      rw [hh] at w
      exact h _ w
    · rename_i hh
      rw [hh] at w
      exact ih w
theorem am_ret_mono {hs : List (Nat × Nat × Nat × Nat)} {G G' : AC → Prop} (h : ∀ c, G c → G' c) (pc rt : Nat) (cf : AC) : am_le (am_ret hs G pc rt cf) (am_ret hs G' pc rt cf) := by
  intro x v h' w
  cases hs with
  | nil =>
    cases x with
    | zero => exact h _ w
    | succ x => exact w
  | cons e r =>
    cases x with
    | zero => exact h _ w
    | succ x => exact am_fnd_mono (fun q => h _) w
theorem am_swP_mono {G G' : AC → Prop} (h : ∀ c, G c → G' c) {x : Int} {d : AC} : ∀ {l : List (Int × AC)}, am_swP G x d l → am_swP G' x d l
  | [], w => h _ w
  | (v, c) :: r, w => ⟨fun e => h _ (w.1 e), fun e => am_swP_mono h (w.2 e)⟩
theorem am_dn_mono {X Y : AX} (hX : ∀ d m c K K', am_le K K' → X d m c K → Y d m c K') {d m : Nat} {c : AC} {K K' : AK} (hK : am_le K K') (w : am_dn X d m c K) : am_dn Y d m c K' := by
  cases d with
  | zero => exact w
  | succ d => exact hX _ _ _ _ _ hK w
theorem am_stp_mono {X Y : AX} {G G' : AC → Prop} (hX : ∀ d m c K K', am_le K K' → X d m c K → Y d m c K') (hG : ∀ c, G c → G' c) {d : Nat} {hs : List (Nat × Nat × Nat × Nat)} {K K' : AK} (hK : am_le K K') : ∀ {sh : ASh}, am_stp X G d hs K sh → am_stp Y G' d hs K' sh
  | .inl c, w => hG c w
  | .inr (.inl (p, c)), w => ⟨w.1, hG c w.2⟩
  | .inr (.inr (.inl (p, a, b))), w => ⟨fun e => hG a (w.1 e), fun e => hG b (w.2 e)⟩
  | .inr (.inr (.inr (.inl (x, l, e)))), w => am_swP_mono hG w
  | .inr (.inr (.inr (.inr (.inl (m, as, pc, rt, c))))), w => am_dn_mono hX (am_ret_mono hG pc rt c) w
  | .inr (.inr (.inr (.inr (.inr (.inl (p, m, as, pc, rt, c)))))), w => ⟨w.1, am_dn_mono hX (am_ret_mono hG pc rt c) w.2⟩
  | .inr (.inr (.inr (.inr (.inr (.inr (.inl (v, h))))))), w => hK _ _ _ w
  | .inr (.inr (.inr (.inr (.inr (.inr (.inr (.inl (p, v, h)))))))), w => ⟨w.1, hK _ _ _ w.2⟩
  | .inr (.inr (.inr (.inr (.inr (.inr (.inr (.inr (.inl (p, k, h))))))))), w => ⟨w.1, fun n hn => hK _ _ _ (w.2 n hn)⟩
  | .inr (.inr (.inr (.inr (.inr (.inr (.inr (.inr (.inr _)))))))), w => w
theorem WP_mono {d m : Nat} {c : AC} {K K' : AK} (h : am_le K K') (w : WP d m c K) : WP d m c K' := fun P hP => hP.2 d m c K K' h (w P hP)
theorem WP_step {d m : Nat} {c : AC} {K : AK} (w : am_stp WP (fun c' => WP d m c' K) d (am_hd m) K (am_shp m c)) : WP d m c K := by
  intro P hP
  refine hP.1 d m c K (am_stp_mono (X := WP) (fun d m c K K' hK z => hP.2 _ _ _ _ _ hK (z P hP)) (fun c z => z P hP) (fun _ _ _ z => z) w)
def am_in : List Nat → Nat → Bool
  | [], _ => false
  | a :: r, x => match Nat.beq a x with
    | true => true
    | false => am_in r x
/-- the same, so many steps on, but not past the places of 'cut' -/
def am_un (cut : List Nat) (d m : Nat) (K : AK) : Nat → AC → Prop
  | 0, c => WP d m c K
  | n + 1, c => match am_in cut c.1 with
    | true => WP d m c K
    | false => am_stp WP (am_un cut d m K n) d (am_hd m) K (am_shp m c)
theorem am_un_ok {cut : List Nat} {d m : Nat} {K : AK} : ∀ (n : Nat) {c : AC}, am_un cut d m K n c → WP d m c K
  | 0, _, w => w
  | n + 1, c, w => by
    unfold am_un at w
    split at w
    · exact w
    · exact WP_step (am_stp_mono (X := WP) (fun _ _ _ _ _ hK z => WP_mono hK z) (fun c z => am_un_ok n z) (fun _ _ _ z => z) w)
theorem am_run {cut : List Nat} {d m : Nat} {K : AK} (n : Nat) {c : AC} (w : am_stp WP (am_un cut d m K n) d (am_hd m) K (am_shp m c)) : WP d m c K :=
  WP_step (am_stp_mono (X := WP) (fun _ _ _ _ _ hK z => WP_mono hK z) (fun _ z => am_un_ok n z) (fun _ _ _ z => z) w)
/-- a call of method m -/
def am_call (d m : Nat) (as : List AV) (h : AH) (K : AK) : Prop := WP d m (0, am_ent (am_ml m) as, [], h, 0, 0) K
theorem am_call_mono {d m : Nat} {as : List AV} {h : AH} {K K' : AK} (hk : am_le K K') (w : am_call d m as h K) : am_call d m as h K' := WP_mono hk w
end
section
/-! ===== the abstract machine beside the real one: values, locals, heaps ===== -/
/-- where the law's own cells begin, the script's cell, the row of words; texts' cells and their bytes' cells; classes; array classes; the script -/
abbrev am_En : Type := (Nat × Nat × Nat) × ((Nat → Nat) × (Nat → Nat)) × va_G × (ClassId × ClassId × ClassId) × (Nat × (Nat → Int32))
def eB (G : am_En) : Nat := G.1.1
def eb (G : am_En) : Nat := G.1.2.1
def ew (G : am_En) : Nat := G.1.2.2
def ek (G : am_En) (j : Nat) : Nat := G.2.1.1 j
def ev (G : am_En) (j : Nat) : Nat := G.2.1.2 j
def eD (G : am_En) : va_G := G.2.2.1
def eI (G : am_En) : ClassId := G.2.2.2.1.1
def eY (G : am_En) : ClassId := G.2.2.2.1.2.1
def eJ (G : am_En) : ClassId := G.2.2.2.1.2.2
def eL (G : am_En) : Nat := G.2.2.2.2.1
def ex (G : am_En) (j : Nat) : Int32 := G.2.2.2.2.2 j
def am_RV (G : am_En) (v : AV) (V : Value) : Prop := match v.1 with
  | 0 => ∃ x : Int32, V = .int x ∧ v.2 = x.toInt
  | 1 => ∃ x : Int64, V = .long x ∧ v.2 = x.toInt
  | 2 => (v.2 = -1 ∧ V = .null) ∨ (0 ≤ v.2 ∧ V = .ref (eB G + v.2.toNat))
  | 3 => ∃ x : UInt64, V = .double x ∧ v.2 = (x.toNat : Int)
  | 4 => V = .ref (eb G)
  | 5 => 0 ≤ v.2 ∧ v.2 < 25 ∧ V = .ref (ek G v.2.toNat)
  | 6 => V = .ref (ew G)
  | 7 => 0 ≤ v.2 ∧ v.2 < 25 ∧ V = .ref (ev G v.2.toNat)
  | 10 => ∃ q, V = .ref q
  | 11 => V = .null ∨ ∃ q, V = .ref q
  | _ => False
/-- what is listed stands in the locals; a long or double only while its second half does -/
def am_hold (ls : List AV) (i : Nat) : Prop := (am_get ls i).1 < 8 ∨ (am_get ls i).1 = 11
def am_RL (G : am_En) (n : Nat) (ls : List AV) (arr : Array Slot) : Prop :=
  arr.size = n ∧ ls.length = n ∧ lv_wf arr ∧ ∀ i, am_hold ls i → (((am_get ls i).1 = 1 ∨ (am_get ls i).1 = 3) → (am_get ls (i + 1)).1 = 8) → ∃ V, arr[i]? = some (.val V) ∧ am_RV G (am_get ls i) V
def am_CO (G : am_En) (h : AH) (a : Int) (H : Heap) : Prop := match am_t h a with
  | 20 => ∃ (n : Nat) (f : Nat → Int32), H[eB G + a.toNat]? = some (arrV (eI G) n (fun j => .int (f j))) ∧ am_l h a = (n : Int) ∧ n ≤ 4096 ∧ ∀ j : Nat, j < n → am_m h a (j : Int) = (f j).toInt
  | 21 => ∃ (n : Nat) (f : Nat → Int32), H[eB G + a.toNat]? = some (arrV (eY G) n (fun j => .int (f j))) ∧ am_l h a = (n : Int) ∧ n ≤ 4096 ∧ ∀ j : Nat, j < n → am_m h a (j : Int) = (f j).toInt
  | 22 => ∃ (n : Nat) (f : Nat → Int64), H[eB G + a.toNat]? = some (arrV (eJ G) n (fun j => .long (f j))) ∧ am_l h a = (n : Int) ∧ n ≤ 4096 ∧ ∀ j : Nat, j < n → am_m h a (j : Int) = (f j).toInt
  | t => ∃ (q : vw_C) (V : Nat → Value), vwCl[t - 1]? = some q ∧ t_OB (eB G + a.toNat) ((eD G).1 (t - 1)) q.2.2 ((eD G).2 (t - 1)) H V ∧ ∀ k : Nat, k < q.2.2 → am_RV G ((am_ft t).getD k 0, am_m h a (k : Int)) (V k)
def am_HM (G : am_En) (h : AH) (H : Heap) : Prop :=
  (0 ≤ am_n h ∧ H.size = eB G + (am_n h).toNat) ∧ (am_sl h = (eL G : Int) ∧ ∀ j : Nat, j < eL G → am_sx h (j : Int) = (ex G j).toInt) ∧ ∀ a : Int, am_t h a ≠ 0 → (0 ≤ a ∧ a < am_n h) ∧ am_CO G h a H
def am_W : List Cond := lw_tbl.filter goodWord
def am_isN : Cond → Bool
  | .fieldLinkNest .. => true
  | .methodLinkNest .. => true
  | .castable .. => true
  | .declares .. => true
  | _ => false
def am_own (j : Nat) : String × Nat × String := am_nth [("BudgetJury$Tokens", 31, "ward cap project cost in grows voter likes budget ban when year pot purse fans built pleased not and or min max "), ("BudgetJury$Tokens", 91, "()[];,+-*/<>="), ("BudgetJuryModel", 102, "()[];,+-*/<>="), ("BudgetJuryModel", 370, "ward"), ("BudgetJuryModel", 371, "cap"), ("BudgetJuryModel", 372, "project"), ("BudgetJuryModel", 374, "cost"), ("BudgetJuryModel", 375, "in"), ("BudgetJuryModel", 377, "grows"), ("BudgetJuryModel", 378, "voter"), ("BudgetJuryModel", 380, "likes"), ("BudgetJuryModel", 381, "budget"), ("BudgetJuryModel", 382, "ban"), ("BudgetJuryModel", 383, "when"), ("BudgetJuryModel", 385, "year"), ("BudgetJuryModel", 386, "pot"), ("BudgetJuryModel", 388, "purse"), ("BudgetJuryModel", 389, "fans"), ("BudgetJuryModel", 390, "built"), ("BudgetJuryModel", 391, "pleased"), ("BudgetJuryModel", 392, "not"), ("BudgetJuryModel", 394, "and"), ("BudgetJuryModel", 396, "or"), ("BudgetJuryModel", 398, "min"), ("BudgetJuryModel", 399, "max")] j ("", 0, "")
/-- the texts that the throws carry: class, entry, text -/
def am_msg : List (String × Nat × String) := [("BudgetJury", 71, "the tape is full"), ("BudgetJury", 82, "not 0 to the number of bytes of the tape"), ("BudgetJury", 109, "what is not 0 to 11"), ("BudgetJury", 140, "no such ward"), ("BudgetJury", 142, "what is not 0 to 3"), ("BudgetJury", 151, "no such project"), ("BudgetJury", 153, "what is not 0 to 7"), ("BudgetJury", 164, "no such voter"), ("BudgetJury", 169, "no such voter or no such project"), ("BudgetJury", 193, "coins are not 1 to 999"), ("BudgetJury", 203, "the budget is not 0 to 9999"), ("BudgetJury", 208, "the project is open"), ("BudgetJury", 216, "years are not 1 to 60"), ("BudgetJury", 224, "what is not 6 to 10"), ("BudgetJury", 226, "years are not 1 to 20")]
/-- what the world holds beside the law's own cells -/
def am_SF (G : am_En) (U : State) (H : Heap) : Prop := ∀ j : Nat, j < 25 → va_O "java/lang/String" (ek G j) (fun q => eB G ≤ q) U H ∧ va_OF "java/lang/String" "coder" "B" (.int 0) (ek G j) (fun q => eB G ≤ q) U H ∧ va_OF "java/lang/String" "value" "[B" (.ref (ev G j)) (ek G j) (fun q => eB G ≤ q) U H ∧ va_T .byte (ev G j) (am_nth am_tx j []).length (fun i => .int (Int32.ofInt (am_tb (j : Int) (i : Int)))) (fun q => eB G ≤ q) U H
def am_ZF (G : am_En) (U : State) (H : Heap) : Prop :=
  va_Z "BudgetJuryModel" "WORDS" "[Ljava/lang/String;" (.ref (ew G)) (fun q => eB G ≤ q) U H ∧ va_T (.object "java/lang/String") (ew G) 22 (fun j => .ref (ek G (3 + j))) (fun q => eB G ≤ q) U H ∧
  va_Z "java/lang/String" "COMPACT_STRINGS" "Z" (.int 1) (fun q => eB G ≤ q) U H ∧ va_Zq "jdk/internal/util/Preconditions" "SIOOBE_FORMATTER" "Ljava/util/function/BiFunction;" (fun q => eB G ≤ q) U H ∧
  vx_Zq Bundle.tN "UNASSIGNED_STACK" Bundle.steD (fun q => eB G ≤ q) U H ∧ vx_Zq Bundle.tN "SUPPRESSED_SENTINEL" Bundle.listD (fun q => eB G ≤ q) U H
/-- the classes of what is thrown -/
def am_en : Nat → String
  | 1 => "java/lang/IllegalStateException"
  | 2 => "java/lang/IllegalArgumentException"
  | _ => "java/lang/IndexOutOfBoundsException"
/-- what is so of the classes -/
def am_TF (G : am_En) (U : State) : Prop :=
  va_K (eD G) vwCl [(eI G, .int), (eY G, .byte), (eJ G, .long)] U ∧ (∀ w ∈ lw_tbl, am_isN w = true → va_Nw w U) ∧ (∀ j : Nat, j < 25 → vk_R (am_own j).1 (am_own j).2.1 (am_own j).2.2 (ek G j) U) ∧
  (∀ q ∈ am_msg, ∃ a, vk_R q.1 q.2.1 q.2.2 a U) ∧ ∀ x k : Nat, 1 ≤ x → x ≤ 3 → 1 ≤ k → k ≤ 3 → x ≠ k → va_Nc (am_en x) (am_en k) U
def am_WK (G : am_En) (U : State) (H : Heap) : Prop := am_TF G U ∧ am_SF G U H ∧ am_ZF G U H ∧ va_X (eb G) (eL G) (ex G) U H ∧ eb G < eB G ∧ eB G ≤ H.size ∧ eL G ≤ 3072
theorem am_WK.kept {G : am_En} {U : State} {H H1 : Heap} (h : am_WK G U H) (hz : H.size ≤ H1.size) (hq : ∀ q : Nat, q < H.size → ¬ eB G ≤ q → H1[q]? = H[q]?) : am_WK G U H1 := by
  obtain ⟨h1, h2, h3, h4, h5, h6, h7⟩ := h
  refine ⟨h1, fun j hj => ?_, ?_, h4.kept (hq _ (by omega) (by omega)), h5, Nat.le_trans h6 hz, h7⟩
  · obtain ⟨a1, a2, a3, a4⟩ := h2 j hj
    exact ⟨a1.kept hq, a2.kept hq, a3.kept hq, a4.kept hq⟩
  · obtain ⟨a1, a2, a3, a4, a5, a6⟩ := h3
    exact ⟨a1.kept hq, a2.kept hq, a3.kept hq, a4.kept hq, a5.kept hq, a6.kept hq⟩
theorem am_isN_warm {w : Cond} {s U : State} (hW : s.WarmedH U.vm) (hw : am_isN w = true) (h : va_Nw w s) : va_Nw w U := by
  cases w <;> first | exact va_Nw.warmF hW h | exact va_Nw.warmM hW h | exact va_Nw.warmC hW h | exact va_Nw.warmD hW h | cases hw
theorem am_TF.warm {G : am_En} {s U : State} (hW : s.WarmedH U.vm) (h : am_TF G s) : am_TF G U := by
  obtain ⟨h1, h2, h3, h4, h5⟩ := h
  refine ⟨va_K.moved hW.alike h1, fun w hw hn => am_isN_warm hW hn (h2 w hw hn), fun j hj => vk_R.warm hW (h3 j hj), fun q hq => ?_, fun x k a1 a2 a3 a4 a5 => va_Nc.moved hW.alike (h5 x k a1 a2 a3 a4 a5)⟩
  obtain ⟨a, ha⟩ := h4 q hq
  exact ⟨a, vk_R.warm hW ha⟩
theorem am_WK.warm {G : am_En} {s U : State} {H : Heap} (hW : s.WarmedH U.vm) (h : am_WK G s H) : am_WK G U H := by
  obtain ⟨h1, h2, h3, h4, h5⟩ := h
  refine ⟨h1.warm hW, fun j hj => ?_, ?_, va_X.moved hW.alike h4, h5⟩
  · obtain ⟨a1, a2, a3, a4⟩ := h2 j hj
    exact ⟨va_O.moved hW.alike a1, va_OF.moved hW.alike a2, va_OF.moved hW.alike a3, va_T.moved hW.alike a4⟩
  · obtain ⟨a1, a2, a3, a4, a5, a6⟩ := h3
    exact ⟨va_Z.moved hW.alike a1, va_T.moved hW.alike a2, va_Z.moved hW.alike a3, va_Zq.moved hW.alike a4, vx_Zq.moved hW.alike a5, vx_Zq.moved hW.alike a6⟩
end
section
/-! ===== one instruction of the abstract machine is one of the real machine ===== -/
def am_mn (m : Nat) : MethodName := (am_inf m).1
def am_cd (m : Nat) : ByteArray := (am_inf m).2.1
def am_re (m : Nat) : Option FieldType := (am_inf m).2.2.2.1
def am_hh (m : Nat) : List (Nat × Nat × Nat × Nat) := (am_inf m).2.2.2.2.1
def am_wi (m : Nat) : Nat := (am_inf m).2.2.2.2.2.1
def am_RS (G : am_En) : List AV → List Value → Prop
  | [], [] => True
  | v :: r, V :: R => am_RV G v V ∧ am_RS G r R
  | _, _ => False
theorem am_RS_inv {G : am_En} {v : AV} {r : List AV} {st : List Value} (h : am_RS G (v :: r) st) : ∃ (V : Value) (R : List Value), st = V :: R ∧ am_RV G v V ∧ am_RS G r R := by
  cases st with
  | nil => exact h.elim
  | cons V R => exact ⟨V, R, rfl, h.1, h.2⟩
/-- the frame that runs method m: the machine, the code, the words, the world, the room -/
def am_Cx (G : am_En) (l : Launch) (d m : Nat) (p : Program) (R : Room) (s : State) (mth : MethodId) (args : Array Value) (meth : Method) (cd : Code) : Prop :=
  p.tables.exec = Jvm.exec ∧ cd.code = am_cd m ∧ cd.maxLocals = am_ml m ∧ s.vm.findClass (am_mn m).cls = some mth.cls ∧ (∀ w ∈ am_W, w.before args s = true) ∧ am_WK G s s.heap ∧
  (d + 8 ≤ R.frames ∧ 40 * d + 200 ≤ R.locals ∧ (am_cap m).1 = R.cells ∧ (am_cap m).2 = R.slots) ∧ meth.locks = false ∧ l.stackTraces = false ∧ ((am_mn m).name = "<init>" → meth.name = "<init>")
def am_Gl (G : am_En) (m : Nat) (p : Program) (l : Launch) (e : Env) (R : Room) (s : State) (mth : MethodId) (args : Array Value) (below : List Frame) (meth : Method) (cd : Code) (Q : State → Prop) (c : AC) : Prop :=
  ∀ (H : Heap) (locs : List Loc) (arr : Array Slot) (st : List Value), am_HM G c.2.2.2.1 H → va_S (fun q => eB G ≤ q) s.heap H locs → am_RL G (am_ml m) c.2.1 arr → am_RS G c.2.2.1 st → c.2.2.2.2.1 ≤ R.cells → c.2.2.2.2.2 ≤ R.slots →
    W p l e R s mth args below meth cd H locs c.2.2.2.2.1 c.2.2.2.2.2 Q (F0 mth c.1 arr st)
section SIM
variable {G : am_En} {l : Launch} {d m : Nat} {p : Program} {e : Env} {R : Room} {s : State} {mth : MethodId} {args : Array Value} {below : List Frame} {meth : Method} {cd : Code} {Q : State → Prop} {K : AK} {X : AX} {Z : AC → Prop} {hs : List (Nat × Nat × Nat × Nat)}
variable {pc : Nat} {ls st : List AV} {h : AH} {c s0 : Nat}
theorem am_pI_inv {f : Int → List AV → ASh} (w : am_stp X Z d hs K (am_pI st f)) : ∃ a r, st = (0, a) :: r ∧ am_stp X Z d hs K (f a r) := by
  cases st with
  | nil => exact w.elim
  | cons v r =>
    obtain ⟨t, a⟩ := v
    match t, w with
    | 0, w => exact ⟨a, r, rfl, w⟩
    | n + 1, w => exact w.elim
theorem am_pL_inv {f : Int → List AV → ASh} (w : am_stp X Z d hs K (am_pL st f)) : ∃ a r, st = (1, a) :: r ∧ am_stp X Z d hs K (f a r) := by
  cases st with
  | nil => exact w.elim
  | cons v r =>
    obtain ⟨t, a⟩ := v
    match t, w with
    | 0, w => exact w.elim
    | 1, w => exact ⟨a, r, rfl, w⟩
    | n + 2, w => exact w.elim
theorem am_pR_inv {f : Int → List AV → ASh} (w : am_stp X Z d hs K (am_pR st f)) : ∃ a r, st = (2, a) :: r ∧ am_stp X Z d hs K (f a r) := by
  cases st with
  | nil => exact w.elim
  | cons v r =>
    obtain ⟨t, a⟩ := v
    match t, w with
    | 0, w => exact w.elim
    | 1, w => exact w.elim
    | 2, w => exact ⟨a, r, rfl, w⟩
    | n + 3, w => exact w.elim
theorem am_pD_inv {f : Int → List AV → ASh} (w : am_stp X Z d hs K (am_pD st f)) : ∃ a r, st = (3, a) :: r ∧ am_stp X Z d hs K (f a r) := by
  cases st with
  | nil => exact w.elim
  | cons v r =>
    obtain ⟨t, a⟩ := v
    match t, w with
    | 0, w => exact w.elim
    | 1, w => exact w.elim
    | 2, w => exact w.elim
    | 3, w => exact ⟨a, r, rfl, w⟩
    | n + 4, w => exact w.elim
theorem am_p1_inv {f : AV → List AV → ASh} (w : am_stp X Z d hs K (am_p1 st f)) : ∃ v r, st = v :: r ∧ (v.1 = 0 ∨ v.1 = 2) ∧ am_stp X Z d hs K (f v r) := by
  cases st with
  | nil => exact w.elim
  | cons v r =>
    obtain ⟨t, a⟩ := v
    match t, w with
    | 0, w => exact ⟨(0, a), r, rfl, Or.inl rfl, w⟩
    | 1, w => exact w.elim
    | 2, w => exact ⟨(2, a), r, rfl, Or.inr rfl, w⟩
    | n + 3, w => exact w.elim
theorem am_RV_cat1 {v : AV} {V : Value} (h : am_RV G v V) (hv : v.1 = 0 ∨ v.1 = 2) : V.category = 1 := by
  obtain ⟨t, a⟩ := v
  rcases hv with rfl | rfl
  · obtain ⟨x, rfl, -⟩ := h
    rfl
  · rcases h with ⟨-, rfl⟩ | ⟨-, rfl⟩ <;> rfl
theorem am_get_lt : ∀ {ls : List AV} {i : Nat}, am_hold ls i → i < ls.length
  | [], i, h => by rcases h with h | h <;> simp [am_get] at h
  | _ :: _, 0, _ => by simp
  | _ :: r, i + 1, h => by
    have := am_get_lt (ls := r) (i := i) h
    simp
    omega
theorem am_ld_inv {v : AV} {want : Nat} {f : AV → ASh} (w : am_stp X Z d hs K (am_ld v want f)) : am_stp X Z d hs K (f v) ∧ ((v.1 = 0 ∧ want = 0) ∨ (v.1 = 1 ∧ want = 1) ∨ (v.1 = 3 ∧ want = 3) ∨ ((v.1 = 2 ∨ v.1 = 4 ∨ v.1 = 5 ∨ v.1 = 7 ∨ v.1 = 11) ∧ want = 2)) := by
  obtain ⟨t, a⟩ := v
  match t, w with
  | 0, w =>
    match want, w with
    | 0, w => exact ⟨w, Or.inl ⟨rfl, rfl⟩⟩
    | n + 1, w => exact w.elim
  | 1, w =>
    match want, w with
    | 0, w => exact w.elim
    | 1, w => exact ⟨w, Or.inr (Or.inl ⟨rfl, rfl⟩)⟩
    | n + 2, w => exact w.elim
  | 2, w =>
    match want, w with
    | 0, w => exact w.elim
    | 1, w => exact w.elim
    | 2, w => exact ⟨w, Or.inr (Or.inr (Or.inr ⟨Or.inl rfl, rfl⟩))⟩
    | n + 3, w => exact w.elim
  | 3, w =>
    match want, w with
    | 0, w => exact w.elim
    | 1, w => exact w.elim
    | 2, w => exact w.elim
    | 3, w => exact ⟨w, Or.inr (Or.inr (Or.inl ⟨rfl, rfl⟩))⟩
    | n + 4, w => exact w.elim
  | 4, w =>
    match want, w with
    | 0, w => exact w.elim
    | 1, w => exact w.elim
    | 2, w => exact ⟨w, Or.inr (Or.inr (Or.inr ⟨Or.inr (Or.inl rfl), rfl⟩))⟩
    | n + 3, w => exact w.elim
  | 5, w =>
    match want, w with
    | 0, w => exact w.elim
    | 1, w => exact w.elim
    | 2, w => exact ⟨w, Or.inr (Or.inr (Or.inr ⟨Or.inr (Or.inr (Or.inl rfl)), rfl⟩))⟩
    | n + 3, w => exact w.elim
  | 6, w => exact w.elim
  | 7, w =>
    match want, w with
    | 0, w => exact w.elim
    | 1, w => exact w.elim
    | 2, w => exact ⟨w, Or.inr (Or.inr (Or.inr ⟨Or.inr (Or.inr (Or.inr (Or.inl rfl))), rfl⟩))⟩
    | n + 3, w => exact w.elim
  | 8, w => exact w.elim
  | 9, w => exact w.elim
  | 10, w => exact w.elim
  | 11, w =>
    match want, w with
    | 0, w => exact w.elim
    | 1, w => exact w.elim
    | 2, w => exact ⟨w, Or.inr (Or.inr (Or.inr ⟨Or.inr (Or.inr (Or.inr (Or.inr rfl))), rfl⟩))⟩
    | n + 3, w => exact w.elim
  | n + 12, w => exact w.elim
theorem am_ld2_inv {v v2 : AV} {want : Nat} {f : AV → ASh} (w : am_stp X Z d hs K (am_ld2 v v2 want f)) : v2.1 = 8 ∧ am_stp X Z d hs K (am_ld v want f) := by
  obtain ⟨t, a⟩ := v2
  by_cases ht : t = 8
  · subst ht
    exact ⟨rfl, w⟩
  · exfalso
    unfold am_ld2 at w
    split at w
    · rename_i hh
      exact ht (by cases hh; rfl)
    · exact w.elim
/-- reading a local -/
theorem am_rd {arr : Array Slot} {n i : Nat} (hL : am_RL G n ls arr) (hv : (am_get ls i).1 < 8 ∨ (am_get ls i).1 = 11) (h2 : ((am_get ls i).1 = 1 ∨ (am_get ls i).1 = 3) → (am_get ls (i + 1)).1 = 8) : ∃ V, arr[i]? = some (.val V) ∧ am_RV G (am_get ls i) V := hL.2.2.2 i hv h2
theorem am_get_set : ∀ {ls : List AV} {i j : Nat} {v : AV}, i < ls.length → am_get (am_set ls i v) j = if j = i then v else am_get ls j
  | [], i, j, v, h => by simp at h
  | a :: r, 0, 0, v, h => by simp [am_set, am_get]
  | a :: r, 0, j + 1, v, h => by simp [am_set, am_get]
  | a :: r, i + 1, 0, v, h => by simp [am_set, am_get]
  | a :: r, i + 1, j + 1, v, h => by
    simp only [am_set, am_get]
    rw [am_get_set (by simpa using h)]
    simp
theorem am_len_set : ∀ {ls : List AV} {i : Nat} {v : AV}, (am_set ls i v).length = ls.length
  | [], _, _ => rfl
  | _ :: _, 0, _ => rfl
  | _ :: r, i + 1, v => by simp [am_set, am_len_set (ls := r)]
theorem am_get_out : ∀ {ls : List AV} {i : Nat}, ls.length ≤ i → am_get ls i = (9, 0)
  | [], _, _ => rfl
  | _ :: _, 0, h => by simp at h
  | _ :: r, i + 1, h => by
    simp only [am_get]
    exact am_get_out (by simpa using h)
/-- all that the real locals hold, as the kit lists it -/
def am_all (arr : Array Slot) : List (Nat × Value) := (List.range arr.size).filterMap fun i => match (arr[i]? : Option Slot) with
  | some (Slot.val V) => some (i, V)
  | _ => none
theorem am_all_mem {arr : Array Slot} {q : Nat × Value} : q ∈ am_all arr ↔ arr[q.1]? = some (.val q.2) := by
  unfold am_all
  constructor
  · intro hq
    obtain ⟨i, hi, he⟩ := List.mem_filterMap.mp hq
    split at he
    · rename_i V hV
      cases he
      exact hV
    · cases he
  · intro hq
    refine List.mem_filterMap.mpr ⟨q.1, List.mem_range.mpr (Array.getElem?_eq_some_iff.mp hq).1, ?_⟩
    rw [hq]
theorem am_all_has {arr : Array Slot} {n : Nat} (hz : arr.size = n) (hw : lv_wf arr) : lv_has arr n (am_all arr) := ⟨hz, hw, fun _ hq => am_all_mem.mp hq⟩
theorem am_cat2 {v : AV} {V : Value} (h : am_RV G v V) (hc : V.category = 2) : v.1 = 1 ∨ v.1 = 3 := by
  obtain ⟨t, a⟩ := v
  match t, h with
  | 0, h => obtain ⟨x, rfl, -⟩ := h; cases hc
  | 1, _ => exact Or.inl rfl
  | 2, h => rcases h with ⟨-, rfl⟩ | ⟨-, rfl⟩ <;> cases hc
  | 3, _ => exact Or.inr rfl
  | 4, h => have h : V = .ref (eb G) := h; subst h; cases hc
  | 5, h => obtain ⟨-, -, rfl⟩ := h; cases hc
  | 6, h => have h : V = .ref (ew G) := h; subst h; cases hc
  | 7, h => obtain ⟨-, -, rfl⟩ := h; cases hc
  | 8, h => exact h.elim
  | 9, h => exact h.elim
  | 10, h => obtain ⟨q, rfl⟩ := h; cases hc
  | 11, h => rcases h with rfl | ⟨q, rfl⟩ <;> cases hc
  | n + 12, h => exact h.elim
/-- writing a local of one slot -/
theorem am_wrg {arr arr' : Array Slot} {n i : Nat} {v : AV} {V : Value} (hL : am_RL G n ls arr) (hi : i < n) (hV : (v.1 < 8 ∨ v.1 = 11) → am_RV G v V) (h8 : ¬ v.1 = 8)
    (ha : lv_has arr' n ((i, V) :: (am_all arr).filter (fun q => !(q.1 == i) && !(q.1 + 1 == i && q.2.category == 2)))) : am_RL G n (am_st1 ls i v) arr' := by
  obtain ⟨h1, h2, h3, h4⟩ := hL
  refine ⟨ha.1, by unfold am_st1; rw [am_len_set]; exact h2, ha.2.1, fun j hj hj2 => ?_⟩
  unfold am_hold am_st1 at hj
  unfold am_st1 at hj2 ⊢
  rw [am_get_set (by omega)] at hj hj2 ⊢
  by_cases hji : j = i
  · rw [if_pos hji]
    subst hji
    rw [if_pos rfl] at hj
    exact ⟨V, ha.2.2 (j, V) List.mem_cons_self, hV hj⟩
  · rw [if_neg hji] at hj hj2 ⊢
    rw [am_get_set (by omega)] at hj2
    obtain ⟨V', e1, e2⟩ := h4 j hj (fun hc => by
      by_cases hj1 : j + 1 = i
      · exfalso
        have := hj2 hc
        rw [if_pos hj1] at this
        exact h8 this
      · have := hj2 hc
        rw [if_neg hj1] at this
        exact this)
    refine ⟨V', ha.2.2 (j, V') (List.mem_cons_of_mem _ (List.mem_filter.mpr ⟨am_all_mem.mpr e1, ?_⟩)), e2⟩
    simp only [Bool.and_eq_true, Bool.not_eq_true', beq_eq_false_iff_ne, ne_eq, Bool.and_eq_false_iff]
    refine ⟨hji, ?_⟩
    by_cases hj1 : j + 1 = i
    · right
      intro hc
      have hcat : (am_get ls j).1 = 1 ∨ (am_get ls j).1 = 3 := am_cat2 e2 hc
      have := hj2 hcat
      rw [if_pos hj1] at this
      exact absurd this h8
    · left
      exact hj1
theorem am_wr1 {arr arr' : Array Slot} {n i : Nat} {v : AV} {V : Value} (hL : am_RL G n ls arr) (hi : i < n) (hV : am_RV G v V) (hv1 : ¬ v.1 = 1) (hv3 : ¬ v.1 = 3)
    (ha : lv_has arr' n ((i, V) :: (am_all arr).filter (fun q => !(q.1 == i) && !(q.1 + 1 == i && q.2.category == 2)))) : am_RL G n (am_st1 ls i v) arr' :=
  am_wrg hL hi (fun _ => hV) (fun h => by unfold am_RV at hV; rw [h] at hV; exact hV) ha
theorem am_wr0 {arr arr' : Array Slot} {n i : Nat} {V : Value} (hL : am_RL G n ls arr) (hi : i < n) 
    (ha : lv_has arr' n ((i, V) :: (am_all arr).filter (fun q => !(q.1 == i) && !(q.1 + 1 == i && q.2.category == 2)))) : am_RL G n (am_st1 ls i (9, 0)) arr' :=
  am_wrg hL hi (fun h => by simp at h) (by simp) ha
theorem am_pA_inv {f : Int → List AV → ASh} {g : List AV → ASh} (w : am_stp X Z d hs K (am_pA st f g)) : (∃ a r, st = (2, a) :: r ∧ am_stp X Z d hs K (f a r)) ∨ ∃ z r, st = (10, z) :: r ∧ am_stp X Z d hs K (g r) := by
  cases st with
  | nil => exact w.elim
  | cons v r =>
    obtain ⟨t, a⟩ := v
    by_cases h2 : t = 2
    · subst h2
      exact Or.inl ⟨a, r, rfl, w⟩
    · by_cases h10 : t = 10
      · subst h10
        exact Or.inr ⟨a, r, rfl, w⟩
      · exfalso
        unfold am_pA at w
        split at w
        · rename_i hh
          cases hh
          exact h2 rfl
        · rename_i hh
          cases hh
          exact h10 rfl
        · exact w.elim
/-- writing a local of two slots -/
theorem am_wr2 {arr arr' : Array Slot} {n i : Nat} {v : AV} {V : Value} (hL : am_RL G n ls arr) (hi : i + 1 < n) (hV : am_RV G v V)
    (ha : lv_has arr' n ((i, V) :: (am_all arr).filter (fun q => !(q.1 == i) && (!(q.1 == i + 1) && !(q.1 + 1 == i && q.2.category == 2))))) : am_RL G n (am_st2 ls i v) arr' := by
  obtain ⟨h1, h2, h3, h4⟩ := hL
  refine ⟨ha.1, by unfold am_st2; rw [am_len_set, am_len_set]; exact h2, ha.2.1, fun j hj hj2 => ?_⟩
  unfold am_hold at hj
  have hg : ∀ j, am_get (am_st2 ls i v) j = if j = i + 1 then (8, 0) else if j = i then v else am_get ls j := by
    intro j
    unfold am_st2
    rw [am_get_set (by rw [am_len_set]; omega), am_get_set (by omega)]
  rw [hg] at hj hj2 ⊢
  by_cases hj1 : j = i + 1
  · rw [if_pos hj1] at hj
    exact absurd hj (by decide)
  · rw [if_neg hj1] at hj hj2 ⊢
    by_cases hji : j = i
    · rw [if_pos hji]
      subst hji
      exact ⟨V, ha.2.2 (j, V) List.mem_cons_self, hV⟩
    · rw [if_neg hji] at hj hj2 ⊢
      rw [hg, if_neg (show ¬ j + 1 = i + 1 by omega)] at hj2
      obtain ⟨V', e1, e2⟩ := h4 j hj (fun hc => by
        by_cases hj3 : j + 1 = i
        · exfalso
          have := hj2 hc
          rw [if_pos hj3] at this
          have hV' := hV
          unfold am_RV at hV'
          rw [this] at hV'
          exact hV'
        · have := hj2 hc
          rw [if_neg hj3] at this
          exact this)
      refine ⟨V', ha.2.2 (j, V') (List.mem_cons_of_mem _ (List.mem_filter.mpr ⟨am_all_mem.mpr e1, ?_⟩)), e2⟩
      simp only [Bool.and_eq_true, Bool.not_eq_true', beq_eq_false_iff_ne, ne_eq, Bool.and_eq_false_iff]
      refine ⟨hji, hj1, ?_⟩
      by_cases hj3 : j + 1 = i
      · right
        intro hc
        have hcat : (am_get ls j).1 = 1 ∨ (am_get ls j).1 = 3 := am_cat2 e2 hc
        have := hj2 hcat
        rw [if_pos hj3] at this
        have hV' := hV
        unfold am_RV at hV'
        rw [this] at hV'
        exact hV'
      · left
        exact hj3
end SIM
end
section
section SIM
variable {G : am_En} {l : Launch} {d m : Nat} {p : Program} {e : Env} {R : Room} {s : State} {mth : MethodId} {args : Array Value} {below : List Frame} {meth : Method} {cd : Code} {Q : State → Prop} {K : AK} {X : AX} {Z : AC → Prop} {hs : List (Nat × Nat × Nat × Nat)}
variable {pc : Nat} {ls st : List AV} {h : AH} {c s0 : Nat}
theorem am_bits (x : UInt64) : UInt64.ofNat ((x.toNat : Int)).toNat = x := by simp
theorem am_i2c_eq (x : Int32) : am_i2c x.toInt = ((x.toUInt32 % 65536).toInt32).toInt := by
  unfold am_i2c
  sorry
theorem am_z_eq_t {x : Int32} (z : x = 0) : x.toInt = 0 := by rw [z]; rfl
theorem am_z_eq_f {x : Int32} (z : ¬ x = 0) : ¬ x.toInt = 0 := fun q => z (Int32.toInt_inj.mp q)
theorem am_z_ne_t {x : Int32} (z : ¬ x = 0) : ¬ x.toInt = 0 := fun q => z (Int32.toInt_inj.mp q)
theorem am_z_ne_f {x : Int32} (z : x = 0) : x.toInt = 0 := by rw [z]; rfl
theorem am_z_lt_t {x : Int32} (z : x < 0) : x.toInt < 0 := Int32.lt_iff_toInt_lt.mp z
theorem am_z_lt_f {x : Int32} (z : ¬ x < 0) : ¬ x.toInt < 0 := fun q => z (Int32.lt_iff_toInt_lt.mpr q)
theorem am_z_ge_t {x : Int32} (z : 0 ≤ x) : ¬ x.toInt < 0 := Int.not_lt.mpr (Int32.le_iff_toInt_le.mp z)
theorem am_z_ge_f {x : Int32} (z : ¬ 0 ≤ x) : x.toInt < 0 := Int.not_le.mp fun q => z (Int32.le_iff_toInt_le.mpr q)
theorem am_z_gt_t {x : Int32} (z : 0 < x) : 0 < x.toInt := Int32.lt_iff_toInt_lt.mp z
theorem am_z_gt_f {x : Int32} (z : ¬ 0 < x) : ¬ 0 < x.toInt := fun q => z (Int32.lt_iff_toInt_lt.mpr q)
theorem am_z_le_t {x : Int32} (z : x ≤ 0) : ¬ 0 < x.toInt := Int.not_lt.mpr (Int32.le_iff_toInt_le.mp z)
theorem am_z_le_f {x : Int32} (z : ¬ x ≤ 0) : 0 < x.toInt := Int.not_le.mp fun q => z (Int32.le_iff_toInt_le.mpr q)
theorem am_c_eq_t {x y : Int32} (z : x = y) : x.toInt = y.toInt := by rw [z]
theorem am_c_eq_f {x y : Int32} (z : ¬ x = y) : ¬ x.toInt = y.toInt := fun q => z (Int32.toInt_inj.mp q)
theorem am_c_ne_t {x y : Int32} (z : ¬ x = y) : ¬ x.toInt = y.toInt := fun q => z (Int32.toInt_inj.mp q)
theorem am_c_ne_f {x y : Int32} (z : x = y) : x.toInt = y.toInt := by rw [z]
theorem am_c_lt_t {x y : Int32} (z : x < y) : x.toInt < y.toInt := Int32.lt_iff_toInt_lt.mp z
theorem am_c_lt_f {x y : Int32} (z : ¬ x < y) : ¬ x.toInt < y.toInt := fun q => z (Int32.lt_iff_toInt_lt.mpr q)
theorem am_c_ge_t {x y : Int32} (z : y ≤ x) : ¬ x.toInt < y.toInt := Int.not_lt.mpr (Int32.le_iff_toInt_le.mp z)
theorem am_c_ge_f {x y : Int32} (z : ¬ y ≤ x) : x.toInt < y.toInt := Int.not_le.mp fun q => z (Int32.le_iff_toInt_le.mpr q)
theorem am_c_gt_t {x y : Int32} (z : y < x) : y.toInt < x.toInt := Int32.lt_iff_toInt_lt.mp z
theorem am_c_gt_f {x y : Int32} (z : ¬ y < x) : ¬ y.toInt < x.toInt := fun q => z (Int32.lt_iff_toInt_lt.mpr q)
theorem am_c_le_t {x y : Int32} (z : x ≤ y) : ¬ y.toInt < x.toInt := Int.not_lt.mpr (Int32.le_iff_toInt_le.mp z)
theorem am_c_le_f {x y : Int32} (z : ¬ x ≤ y) : y.toInt < x.toInt := Int.not_le.mp fun q => z (Int32.le_iff_toInt_le.mpr q)
theorem am_ofInt {n : Int} (hn : -2147483648 ≤ n ∧ n < 2147483648) : (Int32.ofInt n).toInt = n := by
  rw [Int32.toInt_ofInt]
  show n.bmod 4294967296 = n
  rw [Int.bmod_eq_of_le] <;> omega
theorem am_bi {n : Int} (hn : -128 ≤ n ∧ n < 128) : (Int8.ofInt n).toInt32 = Int32.ofInt n := by
  apply Int32.toInt_inj.mp
  rw [am_ofInt (by omega), Int8.toInt_toInt32, Int8.toInt_ofInt]
  show n.bmod 256 = n
  rw [Int.bmod_eq_of_le] <;> omega
theorem am_si {n : Int} (hn : -32768 ≤ n ∧ n < 32768) : (Int16.ofInt n).toInt32 = Int32.ofInt n := by
  apply Int32.toInt_inj.mp
  rw [am_ofInt (by omega), Int16.toInt_toInt32, Int16.toInt_ofInt]
  show n.bmod 65536 = n
  rw [Int.bmod_eq_of_le] <;> omega
theorem am_RV_ref {v : AV} {V : Value} (h : am_RV G v V) (hv : v.1 = 2 ∨ v.1 = 4 ∨ v.1 = 5 ∨ v.1 = 7 ∨ v.1 = 11) : V = .null ∨ ∃ q, V = .ref q := by
  obtain ⟨t, a⟩ := v
  dsimp only at hv
  rcases hv with rfl | rfl | rfl | rfl | rfl
  · rcases h with ⟨-, rfl⟩ | ⟨-, rfl⟩
    · exact Or.inl rfl
    · exact Or.inr ⟨_, rfl⟩
  · exact Or.inr ⟨_, h⟩
  · exact Or.inr ⟨_, h.2.2⟩
  · exact Or.inr ⟨_, h.2.2⟩
  · exact h
theorem am_aloadnull {cc : ByteArray} {H : Heap} {locs : List Loc} {arr : Array Slot} {rest : List Value} (hexec : p.tables.exec = Jvm.exec) (hb : cd.code = cc) {i : Nat} (hdg : decode cc pc = .ok (.aload i, 2)) (hl : arr[i]? = some (.val .null))
    (k : W p l e R s mth args below meth cd H locs c s0 Q (F0 mth (pc + 2) arr (.null :: rest))) : W p l e R s mth args below meth cd H locs c s0 Q (F0 mth pc arr rest) := by
  intro T hT X
  obtain ⟨t, a, b⟩ := k T hT X
  refine ⟨t, ?_, b⟩
  jvm_step X.here [X.here.top, hexec, hb, hdg, hl, Value.isRef]
  exact a
theorem am_aloadnull_n {cc : ByteArray} {H : Heap} {locs : List Loc} {arr : Array Slot} {rest : List Value} (hexec : p.tables.exec = Jvm.exec) (hb : cd.code = cc) {k : Fin 4} {i : Nat} (hdg : decode cc pc = .ok (.aload_n k, 1)) (hi : (k : Nat) = i) (hl : arr[i]? = some (.val .null))
    (k : W p l e R s mth args below meth cd H locs c s0 Q (F0 mth (pc + 1) arr (.null :: rest))) : W p l e R s mth args below meth cd H locs c s0 Q (F0 mth pc arr rest) := by
  subst hi
  intro T hT X
  obtain ⟨t, a, b⟩ := k T hT X
  refine ⟨t, ?_, b⟩
  jvm_step X.here [X.here.top, hexec, hb, hdg, hl, Value.isRef]
  exact a
theorem am_i_iconst (C : am_Cx G l d m p R s mth args meth cd) {n : Int} (hn : -128 ≤ n ∧ n < 128) (hd : decode (am_cd m) pc = .ok (.iconst n, 1)) (w : am_stp X (am_Gl G m p l e R s mth args below meth cd Q) d hs K (am_go (pc + 1, ls, (0, n) :: st, h, c, s0))) : am_Gl G m p l e R s mth args below meth cd Q (pc, ls, st, h, c, s0) := by
  obtain ⟨hx, hb, hml, hown, hts, hW, hR, hlk, htr, hin⟩ := C
  intro H locs arr sv hH hS hL hst hc hs0
  dsimp only at hH hL hst hc hs0 ⊢
  refine lv_iconst (v := Int32.ofInt n) hx hb hd rfl ?_
  exact w H locs arr _ hH hS hL ⟨⟨_, rfl, (am_ofInt (by omega)).symm⟩, hst⟩ hc hs0
theorem am_i_bipush (C : am_Cx G l d m p R s mth args meth cd) {n : Int} (hn : -128 ≤ n ∧ n < 128) (hd : decode (am_cd m) pc = .ok (.bipush n, 2)) (w : am_stp X (am_Gl G m p l e R s mth args below meth cd Q) d hs K (am_go (pc + 2, ls, (0, n) :: st, h, c, s0))) : am_Gl G m p l e R s mth args below meth cd Q (pc, ls, st, h, c, s0) := by
  obtain ⟨hx, hb, hml, hown, hts, hW, hR, hlk, htr, hin⟩ := C
  intro H locs arr sv hH hS hL hst hc hs0
  dsimp only at hH hL hst hc hs0 ⊢
  refine lv_bipush (v := Int32.ofInt n) hx hb hd (am_bi hn) ?_
  exact w H locs arr _ hH hS hL ⟨⟨_, rfl, (am_ofInt (by omega)).symm⟩, hst⟩ hc hs0
theorem am_i_sipush (C : am_Cx G l d m p R s mth args meth cd) {n : Int} (hn : -32768 ≤ n ∧ n < 32768) (hd : decode (am_cd m) pc = .ok (.sipush n, 3)) (w : am_stp X (am_Gl G m p l e R s mth args below meth cd Q) d hs K (am_go (pc + 3, ls, (0, n) :: st, h, c, s0))) : am_Gl G m p l e R s mth args below meth cd Q (pc, ls, st, h, c, s0) := by
  obtain ⟨hx, hb, hml, hown, hts, hW, hR, hlk, htr, hin⟩ := C
  intro H locs arr sv hH hS hL hst hc hs0
  dsimp only at hH hL hst hc hs0 ⊢
  refine lv_sipush (v := Int32.ofInt n) hx hb hd (am_si hn) ?_
  exact w H locs arr _ hH hS hL ⟨⟨_, rfl, (am_ofInt (by omega)).symm⟩, hst⟩ hc hs0
theorem am_i_lconst (C : am_Cx G l d m p R s mth args meth cd) {n : Fin 2} (hd : decode (am_cd m) pc = .ok (.lconst n, 1)) (w : am_stp X (am_Gl G m p l e R s mth args below meth cd Q) d hs K (am_go (pc + 1, ls, (1, (n.val : Int)) :: st, h, c, s0))) : am_Gl G m p l e R s mth args below meth cd Q (pc, ls, st, h, c, s0) := by
  obtain ⟨hx, hb, hml, hown, hts, hW, hR, hlk, htr, hin⟩ := C
  intro H locs arr sv hH hS hL hst hc hs0
  dsimp only at hH hL hst hc hs0 ⊢
  refine lv_lconst hx hb hd rfl ?_
  refine w H locs arr _ hH hS hL ⟨⟨_, rfl, ?_⟩, hst⟩ hc hs0
  match n with
  | 0 => rfl
  | 1 => rfl
theorem am_i_dconst (C : am_Cx G l d m p R s mth args meth cd) (hd : decode (am_cd m) pc = .ok (.dconst 0, 1)) (w : am_stp X (am_Gl G m p l e R s mth args below meth cd Q) d hs K (am_go (pc + 1, ls, (3, 0) :: st, h, c, s0))) : am_Gl G m p l e R s mth args below meth cd Q (pc, ls, st, h, c, s0) := by
  obtain ⟨hx, hb, hml, hown, hts, hW, hR, hlk, htr, hin⟩ := C
  intro H locs arr sv hH hS hL hst hc hs0
  dsimp only at hH hL hst hc hs0 ⊢
  refine lv_dconst0 hx hb hd ?_
  exact w H locs arr _ hH hS hL ⟨⟨_, rfl, by decide +kernel⟩, hst⟩ hc hs0
theorem am_i_iload (C : am_Cx G l d m p R s mth args meth cd) {i : Nat} (hd : decode (am_cd m) pc = .ok (.iload i, 2)) (w : am_stp X (am_Gl G m p l e R s mth args below meth cd Q) d hs K (am_ld (am_get ls (i)) 0 fun v => am_go (pc + 2, ls, v :: st, h, c, s0))) : am_Gl G m p l e R s mth args below meth cd Q (pc, ls, st, h, c, s0) := by
  obtain ⟨hx, hb, hml, hown, hts, hW, hR, hlk, htr, hin⟩ := C
  obtain ⟨w, ht⟩ := am_ld_inv w
  have ht0 : (am_get ls (i)).1 = 0 := by rcases ht with z | z | z | z <;> first | exact z.1 | (have := z.2; omega)
  intro H locs arr sv hH hS hL hst hc hs0
  dsimp only at hH hL hst hc hs0 ⊢
  obtain ⟨V, e1, e2⟩ := am_rd hL (i := i) (by omega) (by omega)
  have e3 := e2
  unfold am_RV at e3
  rw [ht0] at e3
  obtain ⟨x, rfl, e4⟩ := e3
  refine lv_iload hx hb hd e1 ?_
  exact w H locs arr _ hH hS hL ⟨e2, hst⟩ hc hs0
theorem am_i_iload_n (C : am_Cx G l d m p R s mth args meth cd) {i : Fin 4} (hd : decode (am_cd m) pc = .ok (.iload_n i, 1)) (w : am_stp X (am_Gl G m p l e R s mth args below meth cd Q) d hs K (am_ld (am_get ls (i.val)) 0 fun v => am_go (pc + 1, ls, v :: st, h, c, s0))) : am_Gl G m p l e R s mth args below meth cd Q (pc, ls, st, h, c, s0) := by
  obtain ⟨hx, hb, hml, hown, hts, hW, hR, hlk, htr, hin⟩ := C
  obtain ⟨w, ht⟩ := am_ld_inv w
  have ht0 : (am_get ls (i.val)).1 = 0 := by rcases ht with z | z | z | z <;> first | exact z.1 | (have := z.2; omega)
  intro H locs arr sv hH hS hL hst hc hs0
  dsimp only at hH hL hst hc hs0 ⊢
  obtain ⟨V, e1, e2⟩ := am_rd hL (i := i.val) (by omega) (by omega)
  have e3 := e2
  unfold am_RV at e3
  rw [ht0] at e3
  obtain ⟨x, rfl, e4⟩ := e3
  refine lv_iload_n hx hb hd rfl e1 ?_
  exact w H locs arr _ hH hS hL ⟨e2, hst⟩ hc hs0
theorem am_i_lload (C : am_Cx G l d m p R s mth args meth cd) {i : Nat} (hd : decode (am_cd m) pc = .ok (.lload i, 2)) (w : am_stp X (am_Gl G m p l e R s mth args below meth cd Q) d hs K (am_ld2 (am_get ls (i)) (am_get ls (i + 1)) 1 fun v => am_go (pc + 2, ls, v :: st, h, c, s0))) : am_Gl G m p l e R s mth args below meth cd Q (pc, ls, st, h, c, s0) := by
  obtain ⟨hx, hb, hml, hown, hts, hW, hR, hlk, htr, hin⟩ := C
  obtain ⟨h8, w⟩ := am_ld2_inv w
  obtain ⟨w, ht⟩ := am_ld_inv w
  have ht0 : (am_get ls (i)).1 = 1 := by rcases ht with z | z | z | z <;> first | (have := z.2; omega) | (have := z.1; omega)
  intro H locs arr sv hH hS hL hst hc hs0
  dsimp only at hH hL hst hc hs0 ⊢
  obtain ⟨V, e1, e2⟩ := am_rd hL (i := i) (by omega) (fun _ => h8)
  have e3 := e2
  unfold am_RV at e3
  rw [ht0] at e3
  obtain ⟨x, rfl, e4⟩ := e3
  refine lv_lload hx hb hd e1 ?_
  exact w H locs arr _ hH hS hL ⟨e2, hst⟩ hc hs0
theorem am_i_lload_n (C : am_Cx G l d m p R s mth args meth cd) {i : Fin 4} (hd : decode (am_cd m) pc = .ok (.lload_n i, 1)) (w : am_stp X (am_Gl G m p l e R s mth args below meth cd Q) d hs K (am_ld2 (am_get ls (i.val)) (am_get ls (i.val + 1)) 1 fun v => am_go (pc + 1, ls, v :: st, h, c, s0))) : am_Gl G m p l e R s mth args below meth cd Q (pc, ls, st, h, c, s0) := by
  obtain ⟨hx, hb, hml, hown, hts, hW, hR, hlk, htr, hin⟩ := C
  obtain ⟨h8, w⟩ := am_ld2_inv w
  obtain ⟨w, ht⟩ := am_ld_inv w
  have ht0 : (am_get ls (i.val)).1 = 1 := by rcases ht with z | z | z | z <;> first | (have := z.2; omega) | (have := z.1; omega)
  intro H locs arr sv hH hS hL hst hc hs0
  dsimp only at hH hL hst hc hs0 ⊢
  obtain ⟨V, e1, e2⟩ := am_rd hL (i := i.val) (by omega) (fun _ => h8)
  have e3 := e2
  unfold am_RV at e3
  rw [ht0] at e3
  obtain ⟨x, rfl, e4⟩ := e3
  refine lv_lload_n hx hb hd rfl e1 ?_
  exact w H locs arr _ hH hS hL ⟨e2, hst⟩ hc hs0
theorem am_i_dload (C : am_Cx G l d m p R s mth args meth cd) {i : Nat} (hd : decode (am_cd m) pc = .ok (.dload i, 2)) (w : am_stp X (am_Gl G m p l e R s mth args below meth cd Q) d hs K (am_ld2 (am_get ls (i)) (am_get ls (i + 1)) 3 fun v => am_go (pc + 2, ls, v :: st, h, c, s0))) : am_Gl G m p l e R s mth args below meth cd Q (pc, ls, st, h, c, s0) := by
  obtain ⟨hx, hb, hml, hown, hts, hW, hR, hlk, htr, hin⟩ := C
  obtain ⟨h8, w⟩ := am_ld2_inv w
  obtain ⟨w, ht⟩ := am_ld_inv w
  have ht0 : (am_get ls (i)).1 = 3 := by rcases ht with z | z | z | z <;> first | (have := z.2; omega) | (have := z.1; omega)
  intro H locs arr sv hH hS hL hst hc hs0
  dsimp only at hH hL hst hc hs0 ⊢
  obtain ⟨V, e1, e2⟩ := am_rd hL (i := i) (by omega) (fun _ => h8)
  have e3 := e2
  unfold am_RV at e3
  rw [ht0] at e3
  obtain ⟨x, rfl, e4⟩ := e3
  refine lv_dload hx hb hd e1 ?_
  exact w H locs arr _ hH hS hL ⟨e2, hst⟩ hc hs0
theorem am_i_aload (C : am_Cx G l d m p R s mth args meth cd) {i : Nat} (hd : decode (am_cd m) pc = .ok (.aload i, 2)) (w : am_stp X (am_Gl G m p l e R s mth args below meth cd Q) d hs K (am_ld (am_get ls (i)) 2 fun v => am_go (pc + 2, ls, v :: st, h, c, s0))) : am_Gl G m p l e R s mth args below meth cd Q (pc, ls, st, h, c, s0) := by
  obtain ⟨hx, hb, hml, hown, hts, hW, hR, hlk, htr, hin⟩ := C
  obtain ⟨w, ht⟩ := am_ld_inv w
  have ht0 : (am_get ls (i)).1 = 2 ∨ (am_get ls (i)).1 = 4 ∨ (am_get ls (i)).1 = 5 ∨ (am_get ls (i)).1 = 7 ∨ (am_get ls (i)).1 = 11 := by rcases ht with z | z | z | z <;> first | exact z.1 | (have := z.2; omega)
  intro H locs arr sv hH hS hL hst hc hs0
  dsimp only at hH hL hst hc hs0 ⊢
  obtain ⟨V, e1, e2⟩ := am_rd hL (i := i) (by omega) (by omega)
  have key : V = .null ∨ ∃ q, V = .ref q := am_RV_ref e2 ht0
  have k2 := w H locs arr (V :: sv) hH hS hL ⟨e2, hst⟩ hc hs0
  rcases key with rfl | ⟨q, rfl⟩
  · exact am_aloadnull hx hb hd e1 k2
  · exact lv_aload hx hb hd e1 k2
theorem am_i_aload_n (C : am_Cx G l d m p R s mth args meth cd) {i : Fin 4} (hd : decode (am_cd m) pc = .ok (.aload_n i, 1)) (w : am_stp X (am_Gl G m p l e R s mth args below meth cd Q) d hs K (am_ld (am_get ls (i.val)) 2 fun v => am_go (pc + 1, ls, v :: st, h, c, s0))) : am_Gl G m p l e R s mth args below meth cd Q (pc, ls, st, h, c, s0) := by
  obtain ⟨hx, hb, hml, hown, hts, hW, hR, hlk, htr, hin⟩ := C
  obtain ⟨w, ht⟩ := am_ld_inv w
  have ht0 : (am_get ls (i.val)).1 = 2 ∨ (am_get ls (i.val)).1 = 4 ∨ (am_get ls (i.val)).1 = 5 ∨ (am_get ls (i.val)).1 = 7 ∨ (am_get ls (i.val)).1 = 11 := by rcases ht with z | z | z | z <;> first | exact z.1 | (have := z.2; omega)
  intro H locs arr sv hH hS hL hst hc hs0
  dsimp only at hH hL hst hc hs0 ⊢
  obtain ⟨V, e1, e2⟩ := am_rd hL (i := i.val) (by omega) (by omega)
  have key : V = .null ∨ ∃ q, V = .ref q := am_RV_ref e2 ht0
  have k2 := w H locs arr (V :: sv) hH hS hL ⟨e2, hst⟩ hc hs0
  rcases key with rfl | ⟨q, rfl⟩
  · exact am_aloadnull_n hx hb hd rfl e1 k2
  · exact lv_aload_n hx hb hd rfl e1 k2
theorem am_i_istore (C : am_Cx G l d m p R s mth args meth cd) {i : Nat} (hi : i < am_ml m) (hd : decode (am_cd m) pc = .ok (.istore i, 2)) (w : am_stp X (am_Gl G m p l e R s mth args below meth cd Q) d hs K (am_pI st fun a r => am_go (pc + 2, am_st1 ls (i) (0, a), r, h, c, s0))) : am_Gl G m p l e R s mth args below meth cd Q (pc, ls, st, h, c, s0) := by
  obtain ⟨hx, hb, hml, hown, hts, hW, hR, hlk, htr, hin⟩ := C
  have w1 := am_pI_inv w
  clear w
  obtain ⟨a, r, rfl, w⟩ := w1
  intro H locs arr sv hH hS hL hst hc hs0
  dsimp only at hH hL hst hc hs0 ⊢
  have hq := am_RS_inv hst
  clear hst
  obtain ⟨V, sv, rfl, hV0, hst⟩ := hq
  obtain ⟨x, rfl, rfl⟩ := hV0
  refine lv_istore hx hb hd (am_all_has hL.1 hL.2.2.1) hi rfl (fun arr' ha => ?_)
  exact w H locs arr' sv hH hS (am_wr1 hL hi ⟨x, rfl, rfl⟩ (by simp) (by simp) ha) hst hc hs0
theorem am_i_istore_n (C : am_Cx G l d m p R s mth args meth cd) {i : Fin 4} (hi : i.val < am_ml m) (hd : decode (am_cd m) pc = .ok (.istore_n i, 1)) (w : am_stp X (am_Gl G m p l e R s mth args below meth cd Q) d hs K (am_pI st fun a r => am_go (pc + 1, am_st1 ls (i.val) (0, a), r, h, c, s0))) : am_Gl G m p l e R s mth args below meth cd Q (pc, ls, st, h, c, s0) := by
  obtain ⟨hx, hb, hml, hown, hts, hW, hR, hlk, htr, hin⟩ := C
  have w1 := am_pI_inv w
  clear w
  obtain ⟨a, r, rfl, w⟩ := w1
  intro H locs arr sv hH hS hL hst hc hs0
  dsimp only at hH hL hst hc hs0 ⊢
  have hq := am_RS_inv hst
  clear hst
  obtain ⟨V, sv, rfl, hV0, hst⟩ := hq
  obtain ⟨x, rfl, rfl⟩ := hV0
  refine lv_istore_n hx hb hd rfl (am_all_has hL.1 hL.2.2.1) hi rfl (fun arr' ha => ?_)
  exact w H locs arr' sv hH hS (am_wr1 hL hi ⟨x, rfl, rfl⟩ (by simp) (by simp) ha) hst hc hs0
theorem am_i_astore (C : am_Cx G l d m p R s mth args meth cd) {i : Nat} (hi : i < am_ml m) (hd : decode (am_cd m) pc = .ok (.astore i, 2)) (w : am_stp X (am_Gl G m p l e R s mth args below meth cd Q) d hs K (am_pA st (fun a r => am_ck (0 ≤ a) (pc + 2, am_st1 ls (i) (2, a), r, h, c, s0)) (fun r => am_go (pc + 2, am_st1 ls (i) (9, 0), r, h, c, s0)))) : am_Gl G m p l e R s mth args below meth cd Q (pc, ls, st, h, c, s0) := by
  obtain ⟨hx, hb, hml, hown, hts, hW, hR, hlk, htr, hin⟩ := C
  rcases am_pA_inv w with ⟨a, r, rfl, w⟩ | ⟨z, r, rfl, w⟩
  rotate_left
  intro H locs arr sv hH hS hL hst hc hs0
  dsimp only at hH hL hst hc hs0 ⊢
  have hq := am_RS_inv hst
  clear hst
  obtain ⟨V, sv, rfl, ⟨x, rfl⟩, hst⟩ := hq
  refine lv_astore hx hb hd (am_all_has hL.1 hL.2.2.1) hi rfl (fun arr' ha => ?_)
  exact w H locs arr' sv hH hS (am_wr0 hL hi ha) hst hc hs0
  obtain ⟨ha0, w⟩ := w
  intro H locs arr sv hH hS hL hst hc hs0
  dsimp only at hH hL hst hc hs0 ⊢
  have hq := am_RS_inv hst
  clear hst
  obtain ⟨V, sv, rfl, hV, hst⟩ := hq
  have hV2 := hV
  rcases hV with ⟨hV, -⟩ | ⟨-, rfl⟩
  · exact absurd ha0 (by simp only at hV; omega)
  refine lv_astore hx hb hd (am_all_has hL.1 hL.2.2.1) hi rfl (fun arr' ha => ?_)
  exact w H locs arr' sv hH hS (am_wr1 hL hi hV2 (by simp) (by simp) ha) hst hc hs0
theorem am_i_astore_n (C : am_Cx G l d m p R s mth args meth cd) {i : Fin 4} (hi : i.val < am_ml m) (hd : decode (am_cd m) pc = .ok (.astore_n i, 1)) (w : am_stp X (am_Gl G m p l e R s mth args below meth cd Q) d hs K (am_pA st (fun a r => am_ck (0 ≤ a) (pc + 1, am_st1 ls (i.val) (2, a), r, h, c, s0)) (fun r => am_go (pc + 1, am_st1 ls (i.val) (9, 0), r, h, c, s0)))) : am_Gl G m p l e R s mth args below meth cd Q (pc, ls, st, h, c, s0) := by
  obtain ⟨hx, hb, hml, hown, hts, hW, hR, hlk, htr, hin⟩ := C
  rcases am_pA_inv w with ⟨a, r, rfl, w⟩ | ⟨z, r, rfl, w⟩
  rotate_left
  intro H locs arr sv hH hS hL hst hc hs0
  dsimp only at hH hL hst hc hs0 ⊢
  have hq := am_RS_inv hst
  clear hst
  obtain ⟨V, sv, rfl, ⟨x, rfl⟩, hst⟩ := hq
  refine lv_astore_n hx hb hd rfl (am_all_has hL.1 hL.2.2.1) hi rfl (fun arr' ha => ?_)
  exact w H locs arr' sv hH hS (am_wr0 hL hi ha) hst hc hs0
  obtain ⟨ha0, w⟩ := w
  intro H locs arr sv hH hS hL hst hc hs0
  dsimp only at hH hL hst hc hs0 ⊢
  have hq := am_RS_inv hst
  clear hst
  obtain ⟨V, sv, rfl, hV, hst⟩ := hq
  have hV2 := hV
  rcases hV with ⟨hV, -⟩ | ⟨-, rfl⟩
  · exact absurd ha0 (by simp only at hV; omega)
  refine lv_astore_n hx hb hd rfl (am_all_has hL.1 hL.2.2.1) hi rfl (fun arr' ha => ?_)
  exact w H locs arr' sv hH hS (am_wr1 hL hi hV2 (by simp) (by simp) ha) hst hc hs0
theorem am_i_lstore (C : am_Cx G l d m p R s mth args meth cd) {i : Nat} (hi : i + 1 < am_ml m) (hd : decode (am_cd m) pc = .ok (.lstore i, 2)) (w : am_stp X (am_Gl G m p l e R s mth args below meth cd Q) d hs K (am_pL st fun a r => am_go (pc + 2, am_st2 ls (i) (1, a), r, h, c, s0))) : am_Gl G m p l e R s mth args below meth cd Q (pc, ls, st, h, c, s0) := by
  obtain ⟨hx, hb, hml, hown, hts, hW, hR, hlk, htr, hin⟩ := C
  have w1 := am_pL_inv w
  clear w
  obtain ⟨a, r, rfl, w⟩ := w1
  intro H locs arr sv hH hS hL hst hc hs0
  dsimp only at hH hL hst hc hs0 ⊢
  have hq := am_RS_inv hst
  clear hst
  obtain ⟨V, sv, rfl, hV0, hst⟩ := hq
  obtain ⟨x, rfl, rfl⟩ := hV0
  refine lv_lstore hx hb hd (am_all_has hL.1 hL.2.2.1) hi rfl (fun arr' ha => ?_)
  exact w H locs arr' sv hH hS (am_wr2 hL hi ⟨x, rfl, rfl⟩ ha) hst hc hs0
theorem am_i_lstore_n (C : am_Cx G l d m p R s mth args meth cd) {i : Fin 4} (hi : i.val + 1 < am_ml m) (hd : decode (am_cd m) pc = .ok (.lstore_n i, 1)) (w : am_stp X (am_Gl G m p l e R s mth args below meth cd Q) d hs K (am_pL st fun a r => am_go (pc + 1, am_st2 ls (i.val) (1, a), r, h, c, s0))) : am_Gl G m p l e R s mth args below meth cd Q (pc, ls, st, h, c, s0) := by
  obtain ⟨hx, hb, hml, hown, hts, hW, hR, hlk, htr, hin⟩ := C
  have w1 := am_pL_inv w
  clear w
  obtain ⟨a, r, rfl, w⟩ := w1
  intro H locs arr sv hH hS hL hst hc hs0
  dsimp only at hH hL hst hc hs0 ⊢
  have hq := am_RS_inv hst
  clear hst
  obtain ⟨V, sv, rfl, hV0, hst⟩ := hq
  obtain ⟨x, rfl, rfl⟩ := hV0
  refine lv_lstore_n hx hb hd rfl (am_all_has hL.1 hL.2.2.1) hi rfl (fun arr' ha => ?_)
  exact w H locs arr' sv hH hS (am_wr2 hL hi ⟨x, rfl, rfl⟩ ha) hst hc hs0
theorem am_i_dstore (C : am_Cx G l d m p R s mth args meth cd) {i : Nat} (hi : i + 1 < am_ml m) (hd : decode (am_cd m) pc = .ok (.dstore i, 2)) (w : am_stp X (am_Gl G m p l e R s mth args below meth cd Q) d hs K (am_pD st fun a r => am_go (pc + 2, am_st2 ls (i) (3, a), r, h, c, s0))) : am_Gl G m p l e R s mth args below meth cd Q (pc, ls, st, h, c, s0) := by
  obtain ⟨hx, hb, hml, hown, hts, hW, hR, hlk, htr, hin⟩ := C
  have w1 := am_pD_inv w
  clear w
  obtain ⟨a, r, rfl, w⟩ := w1
  intro H locs arr sv hH hS hL hst hc hs0
  dsimp only at hH hL hst hc hs0 ⊢
  have hq := am_RS_inv hst
  clear hst
  obtain ⟨V, sv, rfl, hV0, hst⟩ := hq
  obtain ⟨x, rfl, rfl⟩ := hV0
  refine lv_dstore hx hb hd (am_all_has hL.1 hL.2.2.1) hi rfl (fun arr' ha => ?_)
  exact w H locs arr' sv hH hS (am_wr2 hL hi ⟨x, rfl, rfl⟩ ha) hst hc hs0
theorem am_i_iinc (C : am_Cx G l d m p R s mth args meth cd) {i : Nat} {n : Int} (hi : i < am_ml m) (hn : -32768 ≤ n ∧ n < 32768) (hd : decode (am_cd m) pc = .ok (.iinc i n, 3)) (w : am_stp X (am_Gl G m p l e R s mth args below meth cd Q) d hs K (am_ld (am_get ls i) 0 fun v => am_go (pc + 3, am_st1 ls i (0, w32 (v.2 + n)), st, h, c, s0))) : am_Gl G m p l e R s mth args below meth cd Q (pc, ls, st, h, c, s0) := by
  obtain ⟨hx, hb, hml, hown, hts, hW, hR, hlk, htr, hin⟩ := C
  obtain ⟨w, ht⟩ := am_ld_inv w
  have ht0 : (am_get ls i).1 = 0 := by rcases ht with z | z | z | z <;> first | exact z.1 | (have := z.2; omega)
  intro H locs arr sv hH hS hL hst hc hs0
  dsimp only at hH hL hst hc hs0 ⊢
  obtain ⟨V, e1, e2⟩ := am_rd hL (i := i) (by omega) (by omega)
  have e3 := e2
  unfold am_RV at e3
  rw [ht0] at e3
  obtain ⟨x, rfl, e4⟩ := e3
  obtain ⟨k, hk⟩ := List.getElem?_of_mem (am_all_mem (q := (i, .int x)).mpr e1)
  refine lv_iinc hx hb hd (am_all_has hL.1 hL.2.2.1) hk rfl hi rfl (fun arr' ha => ?_)
  refine w H locs arr' sv hH hS (am_wr1 hL hi ⟨_, rfl, ?_⟩ (by simp) (by simp) ha) hst hc hs0
  show w32 ((am_get ls i).2 + n) = _
  rw [e4, Int32.toInt_add, am_ofInt (by omega)]
  rfl
theorem am_i_iadd (C : am_Cx G l d m p R s mth args meth cd) (hd : decode (am_cd m) pc = .ok (.iadd, 1)) (w : am_stp X (am_Gl G m p l e R s mth args below meth cd Q) d hs K (am_pI st fun b r => am_pI r fun a r => am_go (pc + 1, ls, (0, w32 (a + b)) :: r, h, c, s0))) : am_Gl G m p l e R s mth args below meth cd Q (pc, ls, st, h, c, s0) := by
  obtain ⟨hx, hb, hml, hown, hts, hW, hR, hlk, htr, hin⟩ := C
  have w1 := am_pI_inv w
  clear w
  obtain ⟨b, r, rfl, w⟩ := w1
  have w1 := am_pI_inv w
  clear w
  obtain ⟨a, r, rfl, w⟩ := w1
  intro H locs arr sv hH hS hL hst hc hs0
  dsimp only at hH hL hst hc hs0 ⊢
  have hq := am_RS_inv hst
  clear hst
  obtain ⟨V2, sv, rfl, hV0, hst⟩ := hq
  obtain ⟨y, rfl, rfl⟩ := hV0
  have hq := am_RS_inv hst
  clear hst
  obtain ⟨V1, sv, rfl, hV0, hst⟩ := hq
  obtain ⟨x, rfl, rfl⟩ := hV0
  refine lv_iadd hx hb hd ?_
  refine w H locs arr _ hH hS hL ⟨⟨_, rfl, ?_⟩, hst⟩ hc hs0
  exact (Int32.toInt_add x y).symm
theorem am_i_isub (C : am_Cx G l d m p R s mth args meth cd) (hd : decode (am_cd m) pc = .ok (.isub, 1)) (w : am_stp X (am_Gl G m p l e R s mth args below meth cd Q) d hs K (am_pI st fun b r => am_pI r fun a r => am_go (pc + 1, ls, (0, w32 (a - b)) :: r, h, c, s0))) : am_Gl G m p l e R s mth args below meth cd Q (pc, ls, st, h, c, s0) := by
  obtain ⟨hx, hb, hml, hown, hts, hW, hR, hlk, htr, hin⟩ := C
  have w1 := am_pI_inv w
  clear w
  obtain ⟨b, r, rfl, w⟩ := w1
  have w1 := am_pI_inv w
  clear w
  obtain ⟨a, r, rfl, w⟩ := w1
  intro H locs arr sv hH hS hL hst hc hs0
  dsimp only at hH hL hst hc hs0 ⊢
  have hq := am_RS_inv hst
  clear hst
  obtain ⟨V2, sv, rfl, hV0, hst⟩ := hq
  obtain ⟨y, rfl, rfl⟩ := hV0
  have hq := am_RS_inv hst
  clear hst
  obtain ⟨V1, sv, rfl, hV0, hst⟩ := hq
  obtain ⟨x, rfl, rfl⟩ := hV0
  refine lv_isub hx hb hd ?_
  refine w H locs arr _ hH hS hL ⟨⟨_, rfl, ?_⟩, hst⟩ hc hs0
  exact (Int32.toInt_sub x y).symm
theorem am_i_imul (C : am_Cx G l d m p R s mth args meth cd) (hd : decode (am_cd m) pc = .ok (.imul, 1)) (w : am_stp X (am_Gl G m p l e R s mth args below meth cd Q) d hs K (am_pI st fun b r => am_pI r fun a r => am_go (pc + 1, ls, (0, w32 (a * b)) :: r, h, c, s0))) : am_Gl G m p l e R s mth args below meth cd Q (pc, ls, st, h, c, s0) := by
  obtain ⟨hx, hb, hml, hown, hts, hW, hR, hlk, htr, hin⟩ := C
  have w1 := am_pI_inv w
  clear w
  obtain ⟨b, r, rfl, w⟩ := w1
  have w1 := am_pI_inv w
  clear w
  obtain ⟨a, r, rfl, w⟩ := w1
  intro H locs arr sv hH hS hL hst hc hs0
  dsimp only at hH hL hst hc hs0 ⊢
  have hq := am_RS_inv hst
  clear hst
  obtain ⟨V2, sv, rfl, hV0, hst⟩ := hq
  obtain ⟨y, rfl, rfl⟩ := hV0
  have hq := am_RS_inv hst
  clear hst
  obtain ⟨V1, sv, rfl, hV0, hst⟩ := hq
  obtain ⟨x, rfl, rfl⟩ := hV0
  refine lv_imul hx hb hd ?_
  refine w H locs arr _ hH hS hL ⟨⟨_, rfl, ?_⟩, hst⟩ hc hs0
  exact (Int32.toInt_mul x y).symm
theorem am_i_iand (C : am_Cx G l d m p R s mth args meth cd) (hd : decode (am_cd m) pc = .ok (.iand, 1)) (w : am_stp X (am_Gl G m p l e R s mth args below meth cd Q) d hs K (am_pI st fun b r => am_pI r fun a r => am_go (pc + 1, ls, (0, am_and a b) :: r, h, c, s0))) : am_Gl G m p l e R s mth args below meth cd Q (pc, ls, st, h, c, s0) := by
  obtain ⟨hx, hb, hml, hown, hts, hW, hR, hlk, htr, hin⟩ := C
  have w1 := am_pI_inv w
  clear w
  obtain ⟨b, r, rfl, w⟩ := w1
  have w1 := am_pI_inv w
  clear w
  obtain ⟨a, r, rfl, w⟩ := w1
  intro H locs arr sv hH hS hL hst hc hs0
  dsimp only at hH hL hst hc hs0 ⊢
  have hq := am_RS_inv hst
  clear hst
  obtain ⟨V2, sv, rfl, hV0, hst⟩ := hq
  obtain ⟨y, rfl, rfl⟩ := hV0
  have hq := am_RS_inv hst
  clear hst
  obtain ⟨V1, sv, rfl, hV0, hst⟩ := hq
  obtain ⟨x, rfl, rfl⟩ := hV0
  refine lv_iand hx hb hd ?_
  refine w H locs arr _ hH hS hL ⟨⟨_, rfl, ?_⟩, hst⟩ hc hs0
  unfold am_and; rw [Int32.ofInt_toInt, Int32.ofInt_toInt]
theorem am_i_ior (C : am_Cx G l d m p R s mth args meth cd) (hd : decode (am_cd m) pc = .ok (.ior, 1)) (w : am_stp X (am_Gl G m p l e R s mth args below meth cd Q) d hs K (am_pI st fun b r => am_pI r fun a r => am_go (pc + 1, ls, (0, am_or a b) :: r, h, c, s0))) : am_Gl G m p l e R s mth args below meth cd Q (pc, ls, st, h, c, s0) := by
  obtain ⟨hx, hb, hml, hown, hts, hW, hR, hlk, htr, hin⟩ := C
  have w1 := am_pI_inv w
  clear w
  obtain ⟨b, r, rfl, w⟩ := w1
  have w1 := am_pI_inv w
  clear w
  obtain ⟨a, r, rfl, w⟩ := w1
  intro H locs arr sv hH hS hL hst hc hs0
  dsimp only at hH hL hst hc hs0 ⊢
  have hq := am_RS_inv hst
  clear hst
  obtain ⟨V2, sv, rfl, hV0, hst⟩ := hq
  obtain ⟨y, rfl, rfl⟩ := hV0
  have hq := am_RS_inv hst
  clear hst
  obtain ⟨V1, sv, rfl, hV0, hst⟩ := hq
  obtain ⟨x, rfl, rfl⟩ := hV0
  refine lv_ior hx hb hd ?_
  refine w H locs arr _ hH hS hL ⟨⟨_, rfl, ?_⟩, hst⟩ hc hs0
  unfold am_or; rw [Int32.ofInt_toInt, Int32.ofInt_toInt]
theorem am_i_ixor (C : am_Cx G l d m p R s mth args meth cd) (hd : decode (am_cd m) pc = .ok (.ixor, 1)) (w : am_stp X (am_Gl G m p l e R s mth args below meth cd Q) d hs K (am_pI st fun b r => am_pI r fun a r => am_go (pc + 1, ls, (0, am_xor a b) :: r, h, c, s0))) : am_Gl G m p l e R s mth args below meth cd Q (pc, ls, st, h, c, s0) := by
  obtain ⟨hx, hb, hml, hown, hts, hW, hR, hlk, htr, hin⟩ := C
  have w1 := am_pI_inv w
  clear w
  obtain ⟨b, r, rfl, w⟩ := w1
  have w1 := am_pI_inv w
  clear w
  obtain ⟨a, r, rfl, w⟩ := w1
  intro H locs arr sv hH hS hL hst hc hs0
  dsimp only at hH hL hst hc hs0 ⊢
  have hq := am_RS_inv hst
  clear hst
  obtain ⟨V2, sv, rfl, hV0, hst⟩ := hq
  obtain ⟨y, rfl, rfl⟩ := hV0
  have hq := am_RS_inv hst
  clear hst
  obtain ⟨V1, sv, rfl, hV0, hst⟩ := hq
  obtain ⟨x, rfl, rfl⟩ := hV0
  refine lv_ixor hx hb hd ?_
  refine w H locs arr _ hH hS hL ⟨⟨_, rfl, ?_⟩, hst⟩ hc hs0
  unfold am_xor; rw [Int32.ofInt_toInt, Int32.ofInt_toInt]
theorem am_i_ishl (C : am_Cx G l d m p R s mth args meth cd) (hd : decode (am_cd m) pc = .ok (.ishl, 1)) (w : am_stp X (am_Gl G m p l e R s mth args below meth cd Q) d hs K (am_pI st fun b r => am_pI r fun a r => am_go (pc + 1, ls, (0, am_shl a b) :: r, h, c, s0))) : am_Gl G m p l e R s mth args below meth cd Q (pc, ls, st, h, c, s0) := by
  obtain ⟨hx, hb, hml, hown, hts, hW, hR, hlk, htr, hin⟩ := C
  have w1 := am_pI_inv w
  clear w
  obtain ⟨b, r, rfl, w⟩ := w1
  have w1 := am_pI_inv w
  clear w
  obtain ⟨a, r, rfl, w⟩ := w1
  intro H locs arr sv hH hS hL hst hc hs0
  dsimp only at hH hL hst hc hs0 ⊢
  have hq := am_RS_inv hst
  clear hst
  obtain ⟨V2, sv, rfl, hV0, hst⟩ := hq
  obtain ⟨y, rfl, rfl⟩ := hV0
  have hq := am_RS_inv hst
  clear hst
  obtain ⟨V1, sv, rfl, hV0, hst⟩ := hq
  obtain ⟨x, rfl, rfl⟩ := hV0
  refine lv_ishl hx hb hd ?_
  refine w H locs arr _ hH hS hL ⟨⟨_, rfl, ?_⟩, hst⟩ hc hs0
  unfold am_shl; rw [Int32.ofInt_toInt, Int32.ofInt_toInt]
theorem am_i_ishr (C : am_Cx G l d m p R s mth args meth cd) (hd : decode (am_cd m) pc = .ok (.ishr, 1)) (w : am_stp X (am_Gl G m p l e R s mth args below meth cd Q) d hs K (am_pI st fun b r => am_pI r fun a r => am_go (pc + 1, ls, (0, am_shr a b) :: r, h, c, s0))) : am_Gl G m p l e R s mth args below meth cd Q (pc, ls, st, h, c, s0) := by
  obtain ⟨hx, hb, hml, hown, hts, hW, hR, hlk, htr, hin⟩ := C
  have w1 := am_pI_inv w
  clear w
  obtain ⟨b, r, rfl, w⟩ := w1
  have w1 := am_pI_inv w
  clear w
  obtain ⟨a, r, rfl, w⟩ := w1
  intro H locs arr sv hH hS hL hst hc hs0
  dsimp only at hH hL hst hc hs0 ⊢
  have hq := am_RS_inv hst
  clear hst
  obtain ⟨V2, sv, rfl, hV0, hst⟩ := hq
  obtain ⟨y, rfl, rfl⟩ := hV0
  have hq := am_RS_inv hst
  clear hst
  obtain ⟨V1, sv, rfl, hV0, hst⟩ := hq
  obtain ⟨x, rfl, rfl⟩ := hV0
  refine lv_ishr hx hb hd ?_
  refine w H locs arr _ hH hS hL ⟨⟨_, rfl, ?_⟩, hst⟩ hc hs0
  unfold am_shr; rw [Int32.ofInt_toInt, Int32.ofInt_toInt]
theorem am_i_iushr (C : am_Cx G l d m p R s mth args meth cd) (hd : decode (am_cd m) pc = .ok (.iushr, 1)) (w : am_stp X (am_Gl G m p l e R s mth args below meth cd Q) d hs K (am_pI st fun b r => am_pI r fun a r => am_go (pc + 1, ls, (0, am_ushr a b) :: r, h, c, s0))) : am_Gl G m p l e R s mth args below meth cd Q (pc, ls, st, h, c, s0) := by
  obtain ⟨hx, hb, hml, hown, hts, hW, hR, hlk, htr, hin⟩ := C
  have w1 := am_pI_inv w
  clear w
  obtain ⟨b, r, rfl, w⟩ := w1
  have w1 := am_pI_inv w
  clear w
  obtain ⟨a, r, rfl, w⟩ := w1
  intro H locs arr sv hH hS hL hst hc hs0
  dsimp only at hH hL hst hc hs0 ⊢
  have hq := am_RS_inv hst
  clear hst
  obtain ⟨V2, sv, rfl, hV0, hst⟩ := hq
  obtain ⟨y, rfl, rfl⟩ := hV0
  have hq := am_RS_inv hst
  clear hst
  obtain ⟨V1, sv, rfl, hV0, hst⟩ := hq
  obtain ⟨x, rfl, rfl⟩ := hV0
  refine lv_iushr hx hb hd rfl ?_
  refine w H locs arr _ hH hS hL ⟨⟨_, rfl, ?_⟩, hst⟩ hc hs0
  unfold am_ushr; rw [Int32.ofInt_toInt, Int32.ofInt_toInt]
theorem am_i_idiv (C : am_Cx G l d m p R s mth args meth cd) (hd : decode (am_cd m) pc = .ok (.idiv, 1)) (w : am_stp X (am_Gl G m p l e R s mth args below meth cd Q) d hs K (am_pI st fun b r => am_pI r fun a r => am_ck (¬ b = 0) (pc + 1, ls, (0, w32 (a.tdiv b)) :: r, h, c, s0))) : am_Gl G m p l e R s mth args below meth cd Q (pc, ls, st, h, c, s0) := by
  obtain ⟨hx, hb, hml, hown, hts, hW, hR, hlk, htr, hin⟩ := C
  have w1 := am_pI_inv w
  clear w
  obtain ⟨b, r, rfl, w⟩ := w1
  have w1 := am_pI_inv w
  clear w
  obtain ⟨a, r, rfl, w⟩ := w1
  obtain ⟨hne, w⟩ := w
  intro H locs arr sv hH hS hL hst hc hs0
  dsimp only at hH hL hst hc hs0 ⊢
  have hq := am_RS_inv hst
  clear hst
  obtain ⟨V2, sv, rfl, hV0, hst⟩ := hq
  obtain ⟨y, rfl, rfl⟩ := hV0
  have hq := am_RS_inv hst
  clear hst
  obtain ⟨V1, sv, rfl, hV0, hst⟩ := hq
  obtain ⟨x, rfl, rfl⟩ := hV0
  refine lv_idiv hx hb hd (fun z => hne (by rw [z]; rfl)) ?_
  refine w H locs arr _ hH hS hL ⟨⟨_, rfl, ?_⟩, hst⟩ hc hs0
  exact (Int32.toInt_div x y).symm
theorem am_i_irem (C : am_Cx G l d m p R s mth args meth cd) (hd : decode (am_cd m) pc = .ok (.irem, 1)) (w : am_stp X (am_Gl G m p l e R s mth args below meth cd Q) d hs K (am_pI st fun b r => am_pI r fun a r => am_ck (¬ b = 0) (pc + 1, ls, (0, a.tmod b) :: r, h, c, s0))) : am_Gl G m p l e R s mth args below meth cd Q (pc, ls, st, h, c, s0) := by
  obtain ⟨hx, hb, hml, hown, hts, hW, hR, hlk, htr, hin⟩ := C
  have w1 := am_pI_inv w
  clear w
  obtain ⟨b, r, rfl, w⟩ := w1
  have w1 := am_pI_inv w
  clear w
  obtain ⟨a, r, rfl, w⟩ := w1
  obtain ⟨hne, w⟩ := w
  intro H locs arr sv hH hS hL hst hc hs0
  dsimp only at hH hL hst hc hs0 ⊢
  have hq := am_RS_inv hst
  clear hst
  obtain ⟨V2, sv, rfl, hV0, hst⟩ := hq
  obtain ⟨y, rfl, rfl⟩ := hV0
  have hq := am_RS_inv hst
  clear hst
  obtain ⟨V1, sv, rfl, hV0, hst⟩ := hq
  obtain ⟨x, rfl, rfl⟩ := hV0
  refine lv_irem hx hb hd (fun z => hne (by rw [z]; rfl)) ?_
  refine w H locs arr _ hH hS hL ⟨⟨_, rfl, ?_⟩, hst⟩ hc hs0
  exact (rem_toInt x y).symm
theorem am_i_ineg (C : am_Cx G l d m p R s mth args meth cd) (hd : decode (am_cd m) pc = .ok (.ineg, 1)) (w : am_stp X (am_Gl G m p l e R s mth args below meth cd Q) d hs K (am_pI st fun a r => am_go (pc + 1, ls, (0, w32 (-a)) :: r, h, c, s0))) : am_Gl G m p l e R s mth args below meth cd Q (pc, ls, st, h, c, s0) := by
  obtain ⟨hx, hb, hml, hown, hts, hW, hR, hlk, htr, hin⟩ := C
  have w1 := am_pI_inv w
  clear w
  obtain ⟨a, r, rfl, w⟩ := w1
  intro H locs arr sv hH hS hL hst hc hs0
  dsimp only at hH hL hst hc hs0 ⊢
  have hq := am_RS_inv hst
  clear hst
  obtain ⟨V1, sv, rfl, hV0, hst⟩ := hq
  obtain ⟨x, rfl, rfl⟩ := hV0
  refine lv_ineg hx hb hd ?_
  refine w H locs arr _ hH hS hL ⟨⟨_, rfl, ?_⟩, hst⟩ hc hs0
  exact (Int32.toInt_neg x).symm
theorem am_i_i2l (C : am_Cx G l d m p R s mth args meth cd) (hd : decode (am_cd m) pc = .ok (.i2l, 1)) (w : am_stp X (am_Gl G m p l e R s mth args below meth cd Q) d hs K (am_pI st fun a r => am_go (pc + 1, ls, (1, a) :: r, h, c, s0))) : am_Gl G m p l e R s mth args below meth cd Q (pc, ls, st, h, c, s0) := by
  obtain ⟨hx, hb, hml, hown, hts, hW, hR, hlk, htr, hin⟩ := C
  have w1 := am_pI_inv w
  clear w
  obtain ⟨a, r, rfl, w⟩ := w1
  intro H locs arr sv hH hS hL hst hc hs0
  dsimp only at hH hL hst hc hs0 ⊢
  have hq := am_RS_inv hst
  clear hst
  obtain ⟨V1, sv, rfl, hV0, hst⟩ := hq
  obtain ⟨x, rfl, rfl⟩ := hV0
  refine lv_i2l hx hb hd rfl ?_
  refine w H locs arr _ hH hS hL ⟨⟨_, rfl, ?_⟩, hst⟩ hc hs0
  exact (Int32.toInt_toInt64 x).symm
theorem am_i_i2b (C : am_Cx G l d m p R s mth args meth cd) (hd : decode (am_cd m) pc = .ok (.i2b, 1)) (w : am_stp X (am_Gl G m p l e R s mth args below meth cd Q) d hs K (am_pI st fun a r => am_go (pc + 1, ls, (0, am_i2b a) :: r, h, c, s0))) : am_Gl G m p l e R s mth args below meth cd Q (pc, ls, st, h, c, s0) := by
  obtain ⟨hx, hb, hml, hown, hts, hW, hR, hlk, htr, hin⟩ := C
  have w1 := am_pI_inv w
  clear w
  obtain ⟨a, r, rfl, w⟩ := w1
  intro H locs arr sv hH hS hL hst hc hs0
  dsimp only at hH hL hst hc hs0 ⊢
  have hq := am_RS_inv hst
  clear hst
  obtain ⟨V1, sv, rfl, hV0, hst⟩ := hq
  obtain ⟨x, rfl, rfl⟩ := hV0
  refine lv_i2b hx hb hd rfl ?_
  refine w H locs arr _ hH hS hL ⟨⟨_, rfl, ?_⟩, hst⟩ hc hs0
  rw [Int8.toInt_toInt32, Int32.toInt_toInt8]; rfl
theorem am_i_i2c (C : am_Cx G l d m p R s mth args meth cd) (hd : decode (am_cd m) pc = .ok (.i2c, 1)) (w : am_stp X (am_Gl G m p l e R s mth args below meth cd Q) d hs K (am_pI st fun a r => am_go (pc + 1, ls, (0, am_i2c a) :: r, h, c, s0))) : am_Gl G m p l e R s mth args below meth cd Q (pc, ls, st, h, c, s0) := by
  obtain ⟨hx, hb, hml, hown, hts, hW, hR, hlk, htr, hin⟩ := C
  have w1 := am_pI_inv w
  clear w
  obtain ⟨a, r, rfl, w⟩ := w1
  intro H locs arr sv hH hS hL hst hc hs0
  dsimp only at hH hL hst hc hs0 ⊢
  have hq := am_RS_inv hst
  clear hst
  obtain ⟨V1, sv, rfl, hV0, hst⟩ := hq
  obtain ⟨x, rfl, rfl⟩ := hV0
  refine lv_i2c hx hb hd rfl ?_
  refine w H locs arr _ hH hS hL ⟨⟨_, rfl, ?_⟩, hst⟩ hc hs0
  exact am_i2c_eq x
theorem am_i_i2d (C : am_Cx G l d m p R s mth args meth cd) (hd : decode (am_cd m) pc = .ok (.i2d, 1)) (w : am_stp X (am_Gl G m p l e R s mth args below meth cd Q) d hs K (am_pI st fun a r => am_go (pc + 1, ls, (3, am_i2d a) :: r, h, c, s0))) : am_Gl G m p l e R s mth args below meth cd Q (pc, ls, st, h, c, s0) := by
  obtain ⟨hx, hb, hml, hown, hts, hW, hR, hlk, htr, hin⟩ := C
  have w1 := am_pI_inv w
  clear w
  obtain ⟨a, r, rfl, w⟩ := w1
  intro H locs arr sv hH hS hL hst hc hs0
  dsimp only at hH hL hst hc hs0 ⊢
  have hq := am_RS_inv hst
  clear hst
  obtain ⟨V1, sv, rfl, hV0, hst⟩ := hq
  obtain ⟨x, rfl, rfl⟩ := hV0
  refine lv_i2d hx hb hd ?_
  refine w H locs arr _ hH hS hL ⟨⟨_, rfl, ?_⟩, hst⟩ hc hs0
  unfold am_i2d; rw [Int32.ofInt_toInt]
theorem am_i_l2i (C : am_Cx G l d m p R s mth args meth cd) (hd : decode (am_cd m) pc = .ok (.l2i, 1)) (w : am_stp X (am_Gl G m p l e R s mth args below meth cd Q) d hs K (am_pL st fun a r => am_go (pc + 1, ls, (0, w32 a) :: r, h, c, s0))) : am_Gl G m p l e R s mth args below meth cd Q (pc, ls, st, h, c, s0) := by
  obtain ⟨hx, hb, hml, hown, hts, hW, hR, hlk, htr, hin⟩ := C
  have w1 := am_pL_inv w
  clear w
  obtain ⟨a, r, rfl, w⟩ := w1
  intro H locs arr sv hH hS hL hst hc hs0
  dsimp only at hH hL hst hc hs0 ⊢
  have hq := am_RS_inv hst
  clear hst
  obtain ⟨V1, sv, rfl, hV0, hst⟩ := hq
  obtain ⟨x, rfl, rfl⟩ := hV0
  refine lv_l2i hx hb hd rfl ?_
  refine w H locs arr _ hH hS hL ⟨⟨_, rfl, ?_⟩, hst⟩ hc hs0
  exact (Int64.toInt_toInt32 x).symm
theorem am_i_ladd (C : am_Cx G l d m p R s mth args meth cd) (hd : decode (am_cd m) pc = .ok (.ladd, 1)) (w : am_stp X (am_Gl G m p l e R s mth args below meth cd Q) d hs K (am_pL st fun b r => am_pL r fun a r => am_go (pc + 1, ls, (1, w64 (a + b)) :: r, h, c, s0))) : am_Gl G m p l e R s mth args below meth cd Q (pc, ls, st, h, c, s0) := by
  obtain ⟨hx, hb, hml, hown, hts, hW, hR, hlk, htr, hin⟩ := C
  have w1 := am_pL_inv w
  clear w
  obtain ⟨b, r, rfl, w⟩ := w1
  have w1 := am_pL_inv w
  clear w
  obtain ⟨a, r, rfl, w⟩ := w1
  intro H locs arr sv hH hS hL hst hc hs0
  dsimp only at hH hL hst hc hs0 ⊢
  have hq := am_RS_inv hst
  clear hst
  obtain ⟨V2, sv, rfl, hV0, hst⟩ := hq
  obtain ⟨y, rfl, rfl⟩ := hV0
  have hq := am_RS_inv hst
  clear hst
  obtain ⟨V1, sv, rfl, hV0, hst⟩ := hq
  obtain ⟨x, rfl, rfl⟩ := hV0
  refine lv_ladd hx hb hd ?_
  refine w H locs arr _ hH hS hL ⟨⟨_, rfl, ?_⟩, hst⟩ hc hs0
  exact (Int64.toInt_add x y).symm
theorem am_i_lsub (C : am_Cx G l d m p R s mth args meth cd) (hd : decode (am_cd m) pc = .ok (.lsub, 1)) (w : am_stp X (am_Gl G m p l e R s mth args below meth cd Q) d hs K (am_pL st fun b r => am_pL r fun a r => am_go (pc + 1, ls, (1, w64 (a - b)) :: r, h, c, s0))) : am_Gl G m p l e R s mth args below meth cd Q (pc, ls, st, h, c, s0) := by
  obtain ⟨hx, hb, hml, hown, hts, hW, hR, hlk, htr, hin⟩ := C
  have w1 := am_pL_inv w
  clear w
  obtain ⟨b, r, rfl, w⟩ := w1
  have w1 := am_pL_inv w
  clear w
  obtain ⟨a, r, rfl, w⟩ := w1
  intro H locs arr sv hH hS hL hst hc hs0
  dsimp only at hH hL hst hc hs0 ⊢
  have hq := am_RS_inv hst
  clear hst
  obtain ⟨V2, sv, rfl, hV0, hst⟩ := hq
  obtain ⟨y, rfl, rfl⟩ := hV0
  have hq := am_RS_inv hst
  clear hst
  obtain ⟨V1, sv, rfl, hV0, hst⟩ := hq
  obtain ⟨x, rfl, rfl⟩ := hV0
  refine lv_lsub hx hb hd ?_
  refine w H locs arr _ hH hS hL ⟨⟨_, rfl, ?_⟩, hst⟩ hc hs0
  exact (Int64.toInt_sub x y).symm
theorem am_i_lmul (C : am_Cx G l d m p R s mth args meth cd) (hd : decode (am_cd m) pc = .ok (.lmul, 1)) (w : am_stp X (am_Gl G m p l e R s mth args below meth cd Q) d hs K (am_pL st fun b r => am_pL r fun a r => am_go (pc + 1, ls, (1, w64 (a * b)) :: r, h, c, s0))) : am_Gl G m p l e R s mth args below meth cd Q (pc, ls, st, h, c, s0) := by
  obtain ⟨hx, hb, hml, hown, hts, hW, hR, hlk, htr, hin⟩ := C
  have w1 := am_pL_inv w
  clear w
  obtain ⟨b, r, rfl, w⟩ := w1
  have w1 := am_pL_inv w
  clear w
  obtain ⟨a, r, rfl, w⟩ := w1
  intro H locs arr sv hH hS hL hst hc hs0
  dsimp only at hH hL hst hc hs0 ⊢
  have hq := am_RS_inv hst
  clear hst
  obtain ⟨V2, sv, rfl, hV0, hst⟩ := hq
  obtain ⟨y, rfl, rfl⟩ := hV0
  have hq := am_RS_inv hst
  clear hst
  obtain ⟨V1, sv, rfl, hV0, hst⟩ := hq
  obtain ⟨x, rfl, rfl⟩ := hV0
  refine lv_lmul hx hb hd ?_
  refine w H locs arr _ hH hS hL ⟨⟨_, rfl, ?_⟩, hst⟩ hc hs0
  exact (Int64.toInt_mul x y).symm
theorem am_i_lcmp (C : am_Cx G l d m p R s mth args meth cd) (hd : decode (am_cd m) pc = .ok (.lcmp, 1)) (w : am_stp X (am_Gl G m p l e R s mth args below meth cd Q) d hs K (am_pL st fun b r => am_pL r fun a r => am_go (pc + 1, ls, (0, am_lcmp a b) :: r, h, c, s0))) : am_Gl G m p l e R s mth args below meth cd Q (pc, ls, st, h, c, s0) := by
  obtain ⟨hx, hb, hml, hown, hts, hW, hR, hlk, htr, hin⟩ := C
  have w1 := am_pL_inv w
  clear w
  obtain ⟨b, r, rfl, w⟩ := w1
  have w1 := am_pL_inv w
  clear w
  obtain ⟨a, r, rfl, w⟩ := w1
  intro H locs arr sv hH hS hL hst hc hs0
  dsimp only at hH hL hst hc hs0 ⊢
  have hq := am_RS_inv hst
  clear hst
  obtain ⟨V2, sv, rfl, hV0, hst⟩ := hq
  obtain ⟨y, rfl, rfl⟩ := hV0
  have hq := am_RS_inv hst
  clear hst
  obtain ⟨V1, sv, rfl, hV0, hst⟩ := hq
  obtain ⟨x, rfl, rfl⟩ := hV0
  refine W.lcmp hx hb hd ?_
  refine w H locs arr _ hH hS hL ⟨⟨_, rfl, ?_⟩, hst⟩ hc hs0
  show am_lcmp x.toInt y.toInt = (lg_cmp x y).toInt
  unfold am_lcmp lg_cmp
  by_cases h1 : y.toInt < x.toInt
  · rw [if_pos h1, if_pos (show x > y from Int64.lt_iff_toInt_lt.mpr h1)]
    rfl
  · rw [if_neg h1, if_neg (show ¬ x > y from fun z => h1 (Int64.lt_iff_toInt_lt.mp z))]
    by_cases h2 : x = y
    · rw [if_pos h2, if_pos (by rw [h2])]
      rfl
    · rw [if_neg h2, if_neg (fun z => h2 (Int64.toInt_inj.mp z))]
      rfl
theorem am_i_ddiv (C : am_Cx G l d m p R s mth args meth cd) (hd : decode (am_cd m) pc = .ok (.ddiv, 1)) (w : am_stp X (am_Gl G m p l e R s mth args below meth cd Q) d hs K (am_pD st fun b r => am_pD r fun a r => am_ck (vf_n64 (am_dd a b)) (pc + 1, ls, (3, ((am_dd a b).toNat : Int)) :: r, h, c, s0))) : am_Gl G m p l e R s mth args below meth cd Q (pc, ls, st, h, c, s0) := by
  obtain ⟨hx, hb, hml, hown, hts, hW, hR, hlk, htr, hin⟩ := C
  have w1 := am_pD_inv w
  clear w
  obtain ⟨b, r, rfl, w⟩ := w1
  have w1 := am_pD_inv w
  clear w
  obtain ⟨a, r, rfl, w⟩ := w1
  obtain ⟨hne, w⟩ := w
  intro H locs arr sv hH hS hL hst hc hs0
  dsimp only at hH hL hst hc hs0 ⊢
  have hq := am_RS_inv hst
  clear hst
  obtain ⟨V2, sv, rfl, hV0, hst⟩ := hq
  obtain ⟨y, rfl, rfl⟩ := hV0
  have hq := am_RS_inv hst
  clear hst
  obtain ⟨V1, sv, rfl, hV0, hst⟩ := hq
  obtain ⟨x, rfl, rfl⟩ := hV0
  have e1 : am_dd (x.toNat : Int) (y.toNat : Int) = FP.ddiv x y := by unfold am_dd; rw [am_bits, am_bits]
  rw [e1] at hne w
  refine lv_ddiv hx hb hd hne ?_
  exact w H locs arr _ hH hS hL ⟨⟨_, rfl, rfl⟩, hst⟩ hc hs0
theorem am_i_dcmpl (C : am_Cx G l d m p R s mth args meth cd) (hd : decode (am_cd m) pc = .ok (.dcmp .l, 1)) (w : am_stp X (am_Gl G m p l e R s mth args below meth cd Q) d hs K (am_pD st fun b r => am_pD r fun a r => am_go (pc + 1, ls, (0, am_dcl a b) :: r, h, c, s0))) : am_Gl G m p l e R s mth args below meth cd Q (pc, ls, st, h, c, s0) := by
  obtain ⟨hx, hb, hml, hown, hts, hW, hR, hlk, htr, hin⟩ := C
  have w1 := am_pD_inv w
  clear w
  obtain ⟨b, r, rfl, w⟩ := w1
  have w1 := am_pD_inv w
  clear w
  obtain ⟨a, r, rfl, w⟩ := w1
  intro H locs arr sv hH hS hL hst hc hs0
  dsimp only at hH hL hst hc hs0 ⊢
  have hq := am_RS_inv hst
  clear hst
  obtain ⟨V2, sv, rfl, hV0, hst⟩ := hq
  obtain ⟨y, rfl, rfl⟩ := hV0
  have hq := am_RS_inv hst
  clear hst
  obtain ⟨V1, sv, rfl, hV0, hst⟩ := hq
  obtain ⟨x, rfl, rfl⟩ := hV0
  refine lv_dcmp hx hb hd ?_
  refine w H locs arr _ hH hS hL ⟨⟨_, rfl, ?_⟩, hst⟩ hc hs0
  unfold am_dcl
  rw [am_bits, am_bits]
theorem am_i_dcmpg (C : am_Cx G l d m p R s mth args meth cd) (hd : decode (am_cd m) pc = .ok (.dcmp .g, 1)) (w : am_stp X (am_Gl G m p l e R s mth args below meth cd Q) d hs K (am_pD st fun b r => am_pD r fun a r => am_go (pc + 1, ls, (0, am_dcg a b) :: r, h, c, s0))) : am_Gl G m p l e R s mth args below meth cd Q (pc, ls, st, h, c, s0) := by
  obtain ⟨hx, hb, hml, hown, hts, hW, hR, hlk, htr, hin⟩ := C
  have w1 := am_pD_inv w
  clear w
  obtain ⟨b, r, rfl, w⟩ := w1
  have w1 := am_pD_inv w
  clear w
  obtain ⟨a, r, rfl, w⟩ := w1
  intro H locs arr sv hH hS hL hst hc hs0
  dsimp only at hH hL hst hc hs0 ⊢
  have hq := am_RS_inv hst
  clear hst
  obtain ⟨V2, sv, rfl, hV0, hst⟩ := hq
  obtain ⟨y, rfl, rfl⟩ := hV0
  have hq := am_RS_inv hst
  clear hst
  obtain ⟨V1, sv, rfl, hV0, hst⟩ := hq
  obtain ⟨x, rfl, rfl⟩ := hV0
  refine lv_dcmp hx hb hd ?_
  refine w H locs arr _ hH hS hL ⟨⟨_, rfl, ?_⟩, hst⟩ hc hs0
  unfold am_dcg
  rw [am_bits, am_bits]
theorem am_i_dup (C : am_Cx G l d m p R s mth args meth cd) (hd : decode (am_cd m) pc = .ok (.dup, 1)) (w : am_stp X (am_Gl G m p l e R s mth args below meth cd Q) d hs K (am_p1 st fun v r => am_go (pc + 1, ls, v :: v :: r, h, c, s0))) : am_Gl G m p l e R s mth args below meth cd Q (pc, ls, st, h, c, s0) := by
  obtain ⟨hx, hb, hml, hown, hts, hW, hR, hlk, htr, hin⟩ := C
  have w1 := am_p1_inv w
  clear w
  obtain ⟨v, r, rfl, hv, w⟩ := w1
  intro H locs arr sv hH hS hL hst hc hs0
  dsimp only at hH hL hst hc hs0 ⊢
  have hq := am_RS_inv hst
  clear hst
  obtain ⟨V, sv, rfl, hV, hst⟩ := hq
  refine lv_dup hx hb hd (am_RV_cat1 hV hv) ?_
  exact w H locs arr _ hH hS hL ⟨hV, hV, hst⟩ hc hs0
theorem am_i_pop (C : am_Cx G l d m p R s mth args meth cd) (hd : decode (am_cd m) pc = .ok (.pop, 1)) (w : am_stp X (am_Gl G m p l e R s mth args below meth cd Q) d hs K (am_p1 st fun _ r => am_go (pc + 1, ls, r, h, c, s0))) : am_Gl G m p l e R s mth args below meth cd Q (pc, ls, st, h, c, s0) := by
  obtain ⟨hx, hb, hml, hown, hts, hW, hR, hlk, htr, hin⟩ := C
  have w1 := am_p1_inv w
  clear w
  obtain ⟨v, r, rfl, hv, w⟩ := w1
  intro H locs arr sv hH hS hL hst hc hs0
  dsimp only at hH hL hst hc hs0 ⊢
  have hq := am_RS_inv hst
  clear hst
  obtain ⟨V, sv, rfl, hV, hst⟩ := hq
  refine lv_pop hx hb hd (am_RV_cat1 hV hv) ?_
  exact w H locs arr _ hH hS hL hst hc hs0
theorem am_i_dup2 (C : am_Cx G l d m p R s mth args meth cd) (hd : decode (am_cd m) pc = .ok (.dup2, 1)) (w : am_stp X (am_Gl G m p l e R s mth args below meth cd Q) d hs K (am_p1 st fun v r => am_p1 r fun w r => am_go (pc + 1, ls, v :: w :: v :: w :: r, h, c, s0))) : am_Gl G m p l e R s mth args below meth cd Q (pc, ls, st, h, c, s0) := by
  obtain ⟨hx, hb, hml, hown, hts, hW, hR, hlk, htr, hin⟩ := C
  have w1 := am_p1_inv w
  clear w
  obtain ⟨v, r, rfl, hv, w⟩ := w1
  have w1 := am_p1_inv w
  clear w
  obtain ⟨v2, r, rfl, hv2, w⟩ := w1
  intro H locs arr sv hH hS hL hst hc hs0
  dsimp only at hH hL hst hc hs0 ⊢
  have hq := am_RS_inv hst
  clear hst
  obtain ⟨V, sv, rfl, hV, hst⟩ := hq
  have hq := am_RS_inv hst
  clear hst
  obtain ⟨V2, sv, rfl, hV2, hst⟩ := hq
  refine lv_dup2_11 hx hb hd (am_RV_cat1 hV hv) (am_RV_cat1 hV2 hv2) ?_
  exact w H locs arr _ hH hS hL ⟨hV, hV2, hV, hV2, hst⟩ hc hs0
theorem am_i_if_eq (C : am_Cx G l d m p R s mth args meth cd) {off : Int} {r1 : Nat} (ht : (pc : Int) + off = (r1 : Int)) (hd : decode (am_cd m) pc = .ok (.ifCond .eq off, 3)) (w : am_stp X (am_Gl G m p l e R s mth args below meth cd Q) d hs K (am_pI st fun a r => am_br (a = 0) (r1, ls, r, h, c, s0) (pc + 3, ls, r, h, c, s0))) : am_Gl G m p l e R s mth args below meth cd Q (pc, ls, st, h, c, s0) := by
  obtain ⟨hx, hb, hml, hown, hts, hW, hR, hlk, htr, hin⟩ := C
  have w1 := am_pI_inv w
  clear w
  obtain ⟨a, r, rfl, w⟩ := w1
  intro H locs arr sv hH hS hL hst hc hs0
  dsimp only at hH hL hst hc hs0 ⊢
  have hq := am_RS_inv hst
  clear hst
  obtain ⟨V1, sv, rfl, hV0, hst⟩ := hq
  obtain ⟨x, rfl, rfl⟩ := hV0
  refine lv_if_eq (tgt := r1) hx hb hd ht (fun z => ?_) (fun z => ?_)
  · exact w.1 (am_z_eq_t z) H locs arr _ hH hS hL hst hc hs0
  · exact w.2 (am_z_eq_f z) H locs arr _ hH hS hL hst hc hs0
theorem am_i_icmp_eq (C : am_Cx G l d m p R s mth args meth cd) {off : Int} {r1 : Nat} (ht : (pc : Int) + off = (r1 : Int)) (hd : decode (am_cd m) pc = .ok (.if_icmp .eq off, 3)) (w : am_stp X (am_Gl G m p l e R s mth args below meth cd Q) d hs K (am_pI st fun b r => am_pI r fun a r => am_br (a = b) (r1, ls, r, h, c, s0) (pc + 3, ls, r, h, c, s0))) : am_Gl G m p l e R s mth args below meth cd Q (pc, ls, st, h, c, s0) := by
  obtain ⟨hx, hb, hml, hown, hts, hW, hR, hlk, htr, hin⟩ := C
  have w1 := am_pI_inv w
  clear w
  obtain ⟨b, r, rfl, w⟩ := w1
  have w1 := am_pI_inv w
  clear w
  obtain ⟨a, r, rfl, w⟩ := w1
  intro H locs arr sv hH hS hL hst hc hs0
  dsimp only at hH hL hst hc hs0 ⊢
  have hq := am_RS_inv hst
  clear hst
  obtain ⟨V2, sv, rfl, hV0, hst⟩ := hq
  obtain ⟨y, rfl, rfl⟩ := hV0
  have hq := am_RS_inv hst
  clear hst
  obtain ⟨V1, sv, rfl, hV0, hst⟩ := hq
  obtain ⟨x, rfl, rfl⟩ := hV0
  refine lv_icmp_eq (tgt := r1) hx hb hd ht (fun z => ?_) (fun z => ?_)
  · exact w.1 (am_c_eq_t z) H locs arr _ hH hS hL hst hc hs0
  · exact w.2 (am_c_eq_f z) H locs arr _ hH hS hL hst hc hs0
theorem am_i_if_ne (C : am_Cx G l d m p R s mth args meth cd) {off : Int} {r1 : Nat} (ht : (pc : Int) + off = (r1 : Int)) (hd : decode (am_cd m) pc = .ok (.ifCond .ne off, 3)) (w : am_stp X (am_Gl G m p l e R s mth args below meth cd Q) d hs K (am_pI st fun a r => am_br (a = 0) (pc + 3, ls, r, h, c, s0) (r1, ls, r, h, c, s0))) : am_Gl G m p l e R s mth args below meth cd Q (pc, ls, st, h, c, s0) := by
  obtain ⟨hx, hb, hml, hown, hts, hW, hR, hlk, htr, hin⟩ := C
  have w1 := am_pI_inv w
  clear w
  obtain ⟨a, r, rfl, w⟩ := w1
  intro H locs arr sv hH hS hL hst hc hs0
  dsimp only at hH hL hst hc hs0 ⊢
  have hq := am_RS_inv hst
  clear hst
  obtain ⟨V1, sv, rfl, hV0, hst⟩ := hq
  obtain ⟨x, rfl, rfl⟩ := hV0
  refine lv_if_ne (tgt := r1) hx hb hd ht (fun z => ?_) (fun z => ?_)
  · exact w.2 (am_z_ne_t z) H locs arr _ hH hS hL hst hc hs0
  · exact w.1 (am_z_ne_f z) H locs arr _ hH hS hL hst hc hs0
theorem am_i_icmp_ne (C : am_Cx G l d m p R s mth args meth cd) {off : Int} {r1 : Nat} (ht : (pc : Int) + off = (r1 : Int)) (hd : decode (am_cd m) pc = .ok (.if_icmp .ne off, 3)) (w : am_stp X (am_Gl G m p l e R s mth args below meth cd Q) d hs K (am_pI st fun b r => am_pI r fun a r => am_br (a = b) (pc + 3, ls, r, h, c, s0) (r1, ls, r, h, c, s0))) : am_Gl G m p l e R s mth args below meth cd Q (pc, ls, st, h, c, s0) := by
  obtain ⟨hx, hb, hml, hown, hts, hW, hR, hlk, htr, hin⟩ := C
  have w1 := am_pI_inv w
  clear w
  obtain ⟨b, r, rfl, w⟩ := w1
  have w1 := am_pI_inv w
  clear w
  obtain ⟨a, r, rfl, w⟩ := w1
  intro H locs arr sv hH hS hL hst hc hs0
  dsimp only at hH hL hst hc hs0 ⊢
  have hq := am_RS_inv hst
  clear hst
  obtain ⟨V2, sv, rfl, hV0, hst⟩ := hq
  obtain ⟨y, rfl, rfl⟩ := hV0
  have hq := am_RS_inv hst
  clear hst
  obtain ⟨V1, sv, rfl, hV0, hst⟩ := hq
  obtain ⟨x, rfl, rfl⟩ := hV0
  refine lv_icmp_ne (tgt := r1) hx hb hd ht (fun z => ?_) (fun z => ?_)
  · exact w.2 (am_c_ne_t z) H locs arr _ hH hS hL hst hc hs0
  · exact w.1 (am_c_ne_f z) H locs arr _ hH hS hL hst hc hs0
theorem am_i_if_lt (C : am_Cx G l d m p R s mth args meth cd) {off : Int} {r1 : Nat} (ht : (pc : Int) + off = (r1 : Int)) (hd : decode (am_cd m) pc = .ok (.ifCond .lt off, 3)) (w : am_stp X (am_Gl G m p l e R s mth args below meth cd Q) d hs K (am_pI st fun a r => am_br (a < 0) (r1, ls, r, h, c, s0) (pc + 3, ls, r, h, c, s0))) : am_Gl G m p l e R s mth args below meth cd Q (pc, ls, st, h, c, s0) := by
  obtain ⟨hx, hb, hml, hown, hts, hW, hR, hlk, htr, hin⟩ := C
  have w1 := am_pI_inv w
  clear w
  obtain ⟨a, r, rfl, w⟩ := w1
  intro H locs arr sv hH hS hL hst hc hs0
  dsimp only at hH hL hst hc hs0 ⊢
  have hq := am_RS_inv hst
  clear hst
  obtain ⟨V1, sv, rfl, hV0, hst⟩ := hq
  obtain ⟨x, rfl, rfl⟩ := hV0
  refine lv_if_lt (tgt := r1) hx hb hd ht (fun z => ?_) (fun z => ?_)
  · exact w.1 (am_z_lt_t z) H locs arr _ hH hS hL hst hc hs0
  · exact w.2 (am_z_lt_f z) H locs arr _ hH hS hL hst hc hs0
theorem am_i_icmp_lt (C : am_Cx G l d m p R s mth args meth cd) {off : Int} {r1 : Nat} (ht : (pc : Int) + off = (r1 : Int)) (hd : decode (am_cd m) pc = .ok (.if_icmp .lt off, 3)) (w : am_stp X (am_Gl G m p l e R s mth args below meth cd Q) d hs K (am_pI st fun b r => am_pI r fun a r => am_br (a < b) (r1, ls, r, h, c, s0) (pc + 3, ls, r, h, c, s0))) : am_Gl G m p l e R s mth args below meth cd Q (pc, ls, st, h, c, s0) := by
  obtain ⟨hx, hb, hml, hown, hts, hW, hR, hlk, htr, hin⟩ := C
  have w1 := am_pI_inv w
  clear w
  obtain ⟨b, r, rfl, w⟩ := w1
  have w1 := am_pI_inv w
  clear w
  obtain ⟨a, r, rfl, w⟩ := w1
  intro H locs arr sv hH hS hL hst hc hs0
  dsimp only at hH hL hst hc hs0 ⊢
  have hq := am_RS_inv hst
  clear hst
  obtain ⟨V2, sv, rfl, hV0, hst⟩ := hq
  obtain ⟨y, rfl, rfl⟩ := hV0
  have hq := am_RS_inv hst
  clear hst
  obtain ⟨V1, sv, rfl, hV0, hst⟩ := hq
  obtain ⟨x, rfl, rfl⟩ := hV0
  refine lv_icmp_lt (tgt := r1) hx hb hd ht (fun z => ?_) (fun z => ?_)
  · exact w.1 (am_c_lt_t z) H locs arr _ hH hS hL hst hc hs0
  · exact w.2 (am_c_lt_f z) H locs arr _ hH hS hL hst hc hs0
theorem am_i_if_ge (C : am_Cx G l d m p R s mth args meth cd) {off : Int} {r1 : Nat} (ht : (pc : Int) + off = (r1 : Int)) (hd : decode (am_cd m) pc = .ok (.ifCond .ge off, 3)) (w : am_stp X (am_Gl G m p l e R s mth args below meth cd Q) d hs K (am_pI st fun a r => am_br (a < 0) (pc + 3, ls, r, h, c, s0) (r1, ls, r, h, c, s0))) : am_Gl G m p l e R s mth args below meth cd Q (pc, ls, st, h, c, s0) := by
  obtain ⟨hx, hb, hml, hown, hts, hW, hR, hlk, htr, hin⟩ := C
  have w1 := am_pI_inv w
  clear w
  obtain ⟨a, r, rfl, w⟩ := w1
  intro H locs arr sv hH hS hL hst hc hs0
  dsimp only at hH hL hst hc hs0 ⊢
  have hq := am_RS_inv hst
  clear hst
  obtain ⟨V1, sv, rfl, hV0, hst⟩ := hq
  obtain ⟨x, rfl, rfl⟩ := hV0
  refine lv_if_ge (tgt := r1) hx hb hd ht (fun z => ?_) (fun z => ?_)
  · exact w.2 (am_z_ge_t z) H locs arr _ hH hS hL hst hc hs0
  · exact w.1 (am_z_ge_f z) H locs arr _ hH hS hL hst hc hs0
theorem am_i_icmp_ge (C : am_Cx G l d m p R s mth args meth cd) {off : Int} {r1 : Nat} (ht : (pc : Int) + off = (r1 : Int)) (hd : decode (am_cd m) pc = .ok (.if_icmp .ge off, 3)) (w : am_stp X (am_Gl G m p l e R s mth args below meth cd Q) d hs K (am_pI st fun b r => am_pI r fun a r => am_br (a < b) (pc + 3, ls, r, h, c, s0) (r1, ls, r, h, c, s0))) : am_Gl G m p l e R s mth args below meth cd Q (pc, ls, st, h, c, s0) := by
  obtain ⟨hx, hb, hml, hown, hts, hW, hR, hlk, htr, hin⟩ := C
  have w1 := am_pI_inv w
  clear w
  obtain ⟨b, r, rfl, w⟩ := w1
  have w1 := am_pI_inv w
  clear w
  obtain ⟨a, r, rfl, w⟩ := w1
  intro H locs arr sv hH hS hL hst hc hs0
  dsimp only at hH hL hst hc hs0 ⊢
  have hq := am_RS_inv hst
  clear hst
  obtain ⟨V2, sv, rfl, hV0, hst⟩ := hq
  obtain ⟨y, rfl, rfl⟩ := hV0
  have hq := am_RS_inv hst
  clear hst
  obtain ⟨V1, sv, rfl, hV0, hst⟩ := hq
  obtain ⟨x, rfl, rfl⟩ := hV0
  refine lv_icmp_ge (tgt := r1) hx hb hd ht (fun z => ?_) (fun z => ?_)
  · exact w.2 (am_c_ge_t z) H locs arr _ hH hS hL hst hc hs0
  · exact w.1 (am_c_ge_f z) H locs arr _ hH hS hL hst hc hs0
theorem am_i_if_gt (C : am_Cx G l d m p R s mth args meth cd) {off : Int} {r1 : Nat} (ht : (pc : Int) + off = (r1 : Int)) (hd : decode (am_cd m) pc = .ok (.ifCond .gt off, 3)) (w : am_stp X (am_Gl G m p l e R s mth args below meth cd Q) d hs K (am_pI st fun a r => am_br (0 < a) (r1, ls, r, h, c, s0) (pc + 3, ls, r, h, c, s0))) : am_Gl G m p l e R s mth args below meth cd Q (pc, ls, st, h, c, s0) := by
  obtain ⟨hx, hb, hml, hown, hts, hW, hR, hlk, htr, hin⟩ := C
  have w1 := am_pI_inv w
  clear w
  obtain ⟨a, r, rfl, w⟩ := w1
  intro H locs arr sv hH hS hL hst hc hs0
  dsimp only at hH hL hst hc hs0 ⊢
  have hq := am_RS_inv hst
  clear hst
  obtain ⟨V1, sv, rfl, hV0, hst⟩ := hq
  obtain ⟨x, rfl, rfl⟩ := hV0
  refine lv_if_gt (tgt := r1) hx hb hd ht (fun z => ?_) (fun z => ?_)
  · exact w.1 (am_z_gt_t z) H locs arr _ hH hS hL hst hc hs0
  · exact w.2 (am_z_gt_f z) H locs arr _ hH hS hL hst hc hs0
theorem am_i_icmp_gt (C : am_Cx G l d m p R s mth args meth cd) {off : Int} {r1 : Nat} (ht : (pc : Int) + off = (r1 : Int)) (hd : decode (am_cd m) pc = .ok (.if_icmp .gt off, 3)) (w : am_stp X (am_Gl G m p l e R s mth args below meth cd Q) d hs K (am_pI st fun b r => am_pI r fun a r => am_br (b < a) (r1, ls, r, h, c, s0) (pc + 3, ls, r, h, c, s0))) : am_Gl G m p l e R s mth args below meth cd Q (pc, ls, st, h, c, s0) := by
  obtain ⟨hx, hb, hml, hown, hts, hW, hR, hlk, htr, hin⟩ := C
  have w1 := am_pI_inv w
  clear w
  obtain ⟨b, r, rfl, w⟩ := w1
  have w1 := am_pI_inv w
  clear w
  obtain ⟨a, r, rfl, w⟩ := w1
  intro H locs arr sv hH hS hL hst hc hs0
  dsimp only at hH hL hst hc hs0 ⊢
  have hq := am_RS_inv hst
  clear hst
  obtain ⟨V2, sv, rfl, hV0, hst⟩ := hq
  obtain ⟨y, rfl, rfl⟩ := hV0
  have hq := am_RS_inv hst
  clear hst
  obtain ⟨V1, sv, rfl, hV0, hst⟩ := hq
  obtain ⟨x, rfl, rfl⟩ := hV0
  refine lv_icmp_gt (tgt := r1) hx hb hd ht (fun z => ?_) (fun z => ?_)
  · exact w.1 (am_c_gt_t z) H locs arr _ hH hS hL hst hc hs0
  · exact w.2 (am_c_gt_f z) H locs arr _ hH hS hL hst hc hs0
theorem am_i_if_le (C : am_Cx G l d m p R s mth args meth cd) {off : Int} {r1 : Nat} (ht : (pc : Int) + off = (r1 : Int)) (hd : decode (am_cd m) pc = .ok (.ifCond .le off, 3)) (w : am_stp X (am_Gl G m p l e R s mth args below meth cd Q) d hs K (am_pI st fun a r => am_br (0 < a) (pc + 3, ls, r, h, c, s0) (r1, ls, r, h, c, s0))) : am_Gl G m p l e R s mth args below meth cd Q (pc, ls, st, h, c, s0) := by
  obtain ⟨hx, hb, hml, hown, hts, hW, hR, hlk, htr, hin⟩ := C
  have w1 := am_pI_inv w
  clear w
  obtain ⟨a, r, rfl, w⟩ := w1
  intro H locs arr sv hH hS hL hst hc hs0
  dsimp only at hH hL hst hc hs0 ⊢
  have hq := am_RS_inv hst
  clear hst
  obtain ⟨V1, sv, rfl, hV0, hst⟩ := hq
  obtain ⟨x, rfl, rfl⟩ := hV0
  refine lv_if_le (tgt := r1) hx hb hd ht (fun z => ?_) (fun z => ?_)
  · exact w.2 (am_z_le_t z) H locs arr _ hH hS hL hst hc hs0
  · exact w.1 (am_z_le_f z) H locs arr _ hH hS hL hst hc hs0
theorem am_i_icmp_le (C : am_Cx G l d m p R s mth args meth cd) {off : Int} {r1 : Nat} (ht : (pc : Int) + off = (r1 : Int)) (hd : decode (am_cd m) pc = .ok (.if_icmp .le off, 3)) (w : am_stp X (am_Gl G m p l e R s mth args below meth cd Q) d hs K (am_pI st fun b r => am_pI r fun a r => am_br (b < a) (pc + 3, ls, r, h, c, s0) (r1, ls, r, h, c, s0))) : am_Gl G m p l e R s mth args below meth cd Q (pc, ls, st, h, c, s0) := by
  obtain ⟨hx, hb, hml, hown, hts, hW, hR, hlk, htr, hin⟩ := C
  have w1 := am_pI_inv w
  clear w
  obtain ⟨b, r, rfl, w⟩ := w1
  have w1 := am_pI_inv w
  clear w
  obtain ⟨a, r, rfl, w⟩ := w1
  intro H locs arr sv hH hS hL hst hc hs0
  dsimp only at hH hL hst hc hs0 ⊢
  have hq := am_RS_inv hst
  clear hst
  obtain ⟨V2, sv, rfl, hV0, hst⟩ := hq
  obtain ⟨y, rfl, rfl⟩ := hV0
  have hq := am_RS_inv hst
  clear hst
  obtain ⟨V1, sv, rfl, hV0, hst⟩ := hq
  obtain ⟨x, rfl, rfl⟩ := hV0
  refine lv_icmp_le (tgt := r1) hx hb hd ht (fun z => ?_) (fun z => ?_)
  · exact w.2 (am_c_le_t z) H locs arr _ hH hS hL hst hc hs0
  · exact w.1 (am_c_le_f z) H locs arr _ hH hS hL hst hc hs0
theorem am_i_goto (C : am_Cx G l d m p R s mth args meth cd) {off : Int} {r1 : Nat} (ht : (pc : Int) + off = (r1 : Int)) (hd : decode (am_cd m) pc = .ok (.goto off, 3)) (w : am_stp X (am_Gl G m p l e R s mth args below meth cd Q) d hs K (am_go (r1, ls, st, h, c, s0))) : am_Gl G m p l e R s mth args below meth cd Q (pc, ls, st, h, c, s0) := by
  obtain ⟨hx, hb, hml, hown, hts, hW, hR, hlk, htr, hin⟩ := C
  intro H locs arr sv hH hS hL hst hc hs0
  dsimp only at hH hL hst hc hs0 ⊢
  refine lv_goto (tgt := r1) hx hb hd ht ?_
  exact w H locs arr _ hH hS hL hst hc hs0
end SIM
end
section
/-! ===== instructions that look at the heap ===== -/
theorem am_CO_obj {G : am_En} {h : AH} {a : Int} {H : Heap} {t : Nat} (ht : am_t h a = t) (h1 : 1 ≤ t) (h9 : t ≤ 9) : am_CO G h a H ↔ ∃ (q : vw_C) (V : Nat → Value), vwCl[t - 1]? = some q ∧ t_OB (eB G + a.toNat) ((eD G).1 (t - 1)) q.2.2 ((eD G).2 (t - 1)) H V ∧ ∀ k : Nat, k < q.2.2 → am_RV G ((am_ft t).getD k 0, am_m h a (k : Int)) (V k) := by
  unfold am_CO
  rw [ht]
  split
  · omega
  · omega
  · omega
  · exact Iff.rfl
theorem am_CO_i {G : am_En} {h : AH} {a : Int} {H : Heap} (ht : am_t h a = 20) : am_CO G h a H ↔ ∃ (n : Nat) (f : Nat → Int32), H[eB G + a.toNat]? = some (arrV (eI G) n (fun j => .int (f j))) ∧ am_l h a = (n : Int) ∧ n ≤ 4096 ∧ ∀ j : Nat, j < n → am_m h a (j : Int) = (f j).toInt := by
  unfold am_CO
  rw [ht]
  exact Iff.rfl
theorem am_CO_y {G : am_En} {h : AH} {a : Int} {H : Heap} (ht : am_t h a = 21) : am_CO G h a H ↔ ∃ (n : Nat) (f : Nat → Int32), H[eB G + a.toNat]? = some (arrV (eY G) n (fun j => .int (f j))) ∧ am_l h a = (n : Int) ∧ n ≤ 4096 ∧ ∀ j : Nat, j < n → am_m h a (j : Int) = (f j).toInt := by
  unfold am_CO
  rw [ht]
  exact Iff.rfl
theorem am_CO_j {G : am_En} {h : AH} {a : Int} {H : Heap} (ht : am_t h a = 22) : am_CO G h a H ↔ ∃ (n : Nat) (f : Nat → Int64), H[eB G + a.toNat]? = some (arrV (eJ G) n (fun j => .long (f j))) ∧ am_l h a = (n : Int) ∧ n ≤ 4096 ∧ ∀ j : Nat, j < n → am_m h a (j : Int) = (f j).toInt := by
  unfold am_CO
  rw [ht]
  exact Iff.rfl
theorem am_CO_kept {G : am_En} {h h1 : AH} {a : Int} {H H1 : Heap} (w : am_CO G h a H) (hq : H1[eB G + a.toNat]? = H[eB G + a.toNat]?) (ht : am_t h1 a = am_t h a) (hl : am_l h1 a = am_l h a) (hm : ∀ j, am_m h1 a j = am_m h a j) : am_CO G h1 a H1 := by
  unfold am_CO at w ⊢
  rw [ht]
  split
  · rename_i hh
    rw [hh] at w
    obtain ⟨n, f, a1, a2, a3, a4⟩ := w
    exact ⟨n, f, hq.trans a1, hl.trans a2, a3, fun j hj => (hm _).trans (a4 j hj)⟩
  · rename_i hh
    rw [hh] at w
    obtain ⟨n, f, a1, a2, a3, a4⟩ := w
    exact ⟨n, f, hq.trans a1, hl.trans a2, a3, fun j hj => (hm _).trans (a4 j hj)⟩
  · rename_i hh
    rw [hh] at w
    obtain ⟨n, f, a1, a2, a3, a4⟩ := w
    exact ⟨n, f, hq.trans a1, hl.trans a2, a3, fun j hj => (hm _).trans (a4 j hj)⟩
  · rename_i n1 n2 n3
    split at w
    · rename_i hh; exact absurd hh n1
    · rename_i hh; exact absurd hh n2
    · rename_i hh; exact absurd hh n3
    · obtain ⟨q, V, a1, a2, a3⟩ := w
      exact ⟨q, V, a1, a2.kept hq, fun k hk => by rw [hm]; exact a3 k hk⟩
theorem am_m_w {h : AH} {a i v b j : Int} : am_m (am_w h a i v) b j = if b = a ∧ j = i then v else am_m h b j := rfl
theorem am_t_w {h : AH} {a i v b : Int} : am_t (am_w h a i v) b = am_t h b := rfl
theorem am_l_w {h : AH} {a i v b : Int} : am_l (am_w h a i v) b = am_l h b := rfl
theorem am_n_w {h : AH} {a i v : Int} : am_n (am_w h a i v) = am_n h := rfl
theorem am_HM_set {G : am_En} {h h1 : AH} {a : Int} {H H1 : Heap} (hH : am_HM G h H) (ha : am_t h a ≠ 0) (hz : H1.size = H.size) (oq : ∀ q : Nat, q ≠ eB G + a.toNat → H1[q]? = H[q]?)
    (hn : am_n h1 = am_n h) (hsl : am_sl h1 = am_sl h) (hsx : ∀ j, am_sx h1 j = am_sx h j) (ht : ∀ b, am_t h1 b = am_t h b) (hl : ∀ b, am_l h1 b = am_l h b) (hm : ∀ b j, b ≠ a → am_m h1 b j = am_m h b j) (hC : am_CO G h1 a H1) : am_HM G h1 H1 := by
  obtain ⟨⟨g1, g2⟩, ⟨g3, g4⟩, g5⟩ := hH
  refine ⟨⟨by rw [hn]; exact g1, by rw [hz, hn]; exact g2⟩, ⟨by rw [hsl]; exact g3, fun j hj => by rw [hsx]; exact g4 j hj⟩, fun b hb => ?_⟩
  rw [ht] at hb
  obtain ⟨b1, b2⟩ := g5 b hb
  rw [hn]
  refine ⟨b1, ?_⟩
  by_cases hba : b = a
  · rw [hba]; exact hC
  · obtain ⟨a1, -⟩ := g5 a ha
    exact am_CO_kept b2 (oq _ (by omega)) (ht b) (hl b) (fun j => hm b j hba)
/-- a field that the tables name -/
def am_fok (m idx r1 r2 ty : Nat) (q : vw_C) : Prop := vwCl[r1 - 1]? = some q ∧ r2 < q.2.2 ∧ (q.2.1 r2).1 = q.1 ∧ (am_ft r1).getD r2 0 = ty ∧ 1 ≤ r1 ∧ r1 ≤ 9 ∧ (∀ w ∈ u_ws q.1 q.2.1 q.2.2, w ∈ am_W) ∧
  (Cond.fieldLink (am_mn m).cls idx q.1 (q.2.1 r2).2.1 (q.2.1 r2).2.2.1 ∈ am_W ∨ ∃ host, Cond.fieldLinkNest (am_mn m).cls idx q.1 (q.2.1 r2).2.1 (q.2.1 r2).2.2.1 host ∈ lw_tbl)
section SIM
variable {G : am_En} {l : Launch} {d m : Nat} {p : Program} {e : Env} {R : Room} {s : State} {mth : MethodId} {args : Array Value} {below : List Frame} {meth : Method} {cd : Code} {Q : State → Prop} {K : AK} {X : AX} {Z : AC → Prop} {hs : List (Nat × Nat × Nat × Nat)}
variable {pc : Nat} {ls st : List AV} {h : AH} {c s0 : Nat}
theorem am_i_getfield (C : am_Cx G l d m p R s mth args meth cd) {idx r1 r2 ty : Nat} {q : vw_C} (hf : am_fok m idx r1 r2 ty q) (hd : decode (am_cd m) pc = .ok (.getfield idx, 3)) (w : am_stp X (am_Gl G m p l e R s mth args below meth cd Q) d hs K (am_pR st fun a r => am_ck (am_t h a = r1) (pc + 3, ls, (ty, am_m h a (r2 : Int)) :: r, h, c, s0))) : am_Gl G m p l e R s mth args below meth cd Q (pc, ls, st, h, c, s0) := by
  obtain ⟨hx, hb, hml, hown, hts, hW, hR, hlk, htr, hin⟩ := C
  have w1 := am_pR_inv w
  clear w
  obtain ⟨a, r, rfl, ht, w⟩ := w1
  obtain ⟨f1, f2, f3, f4, f5, f6, f7, f8⟩ := hf
  intro H locs arr sv hH hS hL hst hc hs0
  dsimp only at hH hL hst hc hs0 ⊢
  have hq := am_RS_inv hst
  clear hst
  obtain ⟨V, sv, rfl, hV, hst⟩ := hq
  obtain ⟨g1, g2⟩ := hH.2.2 a (by omega)
  obtain ⟨q', F, b1, b2, b3⟩ := (am_CO_obj ht f5 f6).mp g2
  cases b1.symm.trans f1
  have hVa : V = .ref (eB G + a.toNat) := by
    rcases hV with ⟨hV, -⟩ | ⟨-, hV⟩
    · simp only at hV
      omega
    · exact hV
  subst hVa
  have hK : va_K (eD G) vwCl [(eI G, .int), (eY G, .byte), (eJ G, .long)] s := hW.1.1
  have hP : va_P (eD G) vwCl [(eB G + a.toNat, .inr (r1 - 1, (List.range q.2.2).map F))] H := by
    intro k x hk
    match k, hk with
    | 0, hk =>
      cases hk
      refine ⟨q, f1, b2.to fun k hk => ?_⟩
      simp [vp_V, hk]
    | k + 1, hk => simp at hk
  have hv : ((List.range q.2.2).map F)[r2]? = some (F r2) := by simp [f2]
  have kk : W p l e R s mth args below meth cd H locs c s0 Q (F0 mth (pc + 3) arr (F r2 :: sv)) := w H locs arr _ hH hS hL ⟨by rw [← f4]; exact b3 r2 f2, hst⟩ hc hs0
  rcases f8 with f8 | ⟨host, f8⟩
  · exact va_get (C := q.1) (T := q.2.1) (N := q.2.2) hx hb hts f7 hown hK hP 0 rfl f1 r2 f2 (hts _ f8) (fun x hx => by rw [f3] at hx; exact hx) hv hd kk
  · exact va_getN (C := q.1) (T := q.2.1) (N := q.2.2) hx hb hts f7 hown hK hP 0 rfl f1 r2 f2 (va_Nw.use rfl (hW.1.2.1 _ f8 rfl)) (fun x hx => by rw [f3] at hx; exact hx) hv hd kk
end SIM
end
section
section SIM
variable {G : am_En} {l : Launch} {d m : Nat} {p : Program} {e : Env} {R : Room} {s : State} {mth : MethodId} {args : Array Value} {below : List Frame} {meth : Method} {cd : Code} {Q : State → Prop} {K : AK} {X : AX} {Z : AC → Prop} {hs : List (Nat × Nat × Nat × Nat)}
variable {pc : Nat} {ls st : List AV} {h : AH} {c s0 : Nat}
/-- an index, as the abstract machine has it -/
theorem am_ix {i : Int32} {n : Nat} (h0 : 0 ≤ i.toInt) (h1 : i.toInt < (n : Int)) : vp_in i n ∧ i.toNatClampNeg < n ∧ ((i.toNatClampNeg : Nat) : Int) = i.toInt := by
  have e : i.toNatClampNeg = i.toInt.toNat := rfl
  refine ⟨?_, by omega, by omega⟩
  rintro (z | z)
  · have := Int32.lt_iff_toInt_lt.mp z
    have e0 : (0 : Int32).toInt = 0 := rfl
    omega
  · omega
/-- a store into a field -/
theorem am_obj_put {h : AH} {a v : Int} {r1 r2 : Nat} {q : vw_C} {H H1 : Heap} {F : Nat → Value} {V : Value} {cell : Cell} (hH : am_HM G h H) (ht : am_t h a = r1) (f1 : vwCl[r1 - 1]? = some q) (f5 : 1 ≤ r1) (f6 : r1 ≤ 9) (f2 : r2 < q.2.2)
    (hap : ∀ x y, x < q.2.2 → y < q.2.2 → x ≠ y → ((eD G).2 (r1 - 1)) x ≠ ((eD G).2 (r1 - 1)) y) (q2 : cell.cls = (eD G).1 (r1 - 1)) (q3 : cell.vm = .none) (q4 : ∀ k, k < q.2.2 → cell.slots[(eD G).2 (r1 - 1) k]? = some (F k))
    (b3 : ∀ k : Nat, k < q.2.2 → am_RV G ((am_ft r1).getD k 0, am_m h a (k : Int)) (F k)) (hV : am_RV G ((am_ft r1).getD r2 0, v) V)
    (e1 : H1[eB G + a.toNat]? = some (cell.setSlot ((eD G).2 (r1 - 1) r2) V)) (z : H1.size = H.size) (oq : ∀ x : Nat, x ≠ eB G + a.toNat → H1[x]? = H[x]?) : am_HM G (am_w h a (r2 : Int) v) H1 := by
  refine am_HM_set hH (by omega) z oq rfl rfl (fun _ => rfl) (fun _ => rfl) (fun _ => rfl) (fun b j hb => by rw [am_m_w, if_neg (fun z => hb z.1)]) ?_
  refine (am_CO_obj (show am_t (am_w h a (r2 : Int) v) a = r1 from ht) f5 f6).mpr ⟨q, updV F r2 V, f1, ⟨_, e1, q2, q3, t_set q4 hap f2 V⟩, fun k hk => ?_⟩
  rw [am_m_w]
  by_cases hkr : k = r2
  · subst hkr
    rw [if_pos ⟨rfl, rfl⟩]
    simp [updV]
    exact hV
  · rw [if_neg (fun z => hkr (by omega))]
    simp [updV, hkr]
    exact b3 k hk
theorem am_i_putfield_i (C : am_Cx G l d m p R s mth args meth cd) {idx r1 r2 : Nat} {q : vw_C} (hf : am_fok m idx r1 r2 0 q) (ty0 : Nat → FieldType) (hty : ∀ k, k < q.2.2 → parseFieldDescriptor (q.2.1 k).2.2.1 = some (ty0 k)) (hnm : ∀ a, a < q.2.2 → ∀ b, b < q.2.2 → a ≠ b → (q.2.1 a).2.1 ≠ (q.2.1 b).2.1) (hfin : (q.2.1 r2).2.2.2 = false) (hty2 : ty0 r2 = .int) (hd : decode (am_cd m) pc = .ok (.putfield idx, 3)) (w : am_stp X (am_Gl G m p l e R s mth args below meth cd Q) d hs K (am_pI st fun v r => am_pR r fun a r => am_ck (am_t h a = r1) (pc + 3, ls, r, am_w h a (r2 : Int) v, c, s0))) : am_Gl G m p l e R s mth args below meth cd Q (pc, ls, st, h, c, s0) := by
  obtain ⟨hx, hb, hml, hown, hts, hW, hR, hlk, htr, hin⟩ := C
  have w1 := am_pI_inv w
  clear w
  obtain ⟨v, r, rfl, w⟩ := w1
  have w1 := am_pR_inv w
  clear w
  obtain ⟨a, r, rfl, ht, w⟩ := w1
  obtain ⟨f1, f2, f3, f4, f5, f6, f7, f8⟩ := hf
  intro H locs arr sv hH hS hL hst hc hs0
  dsimp only at hH hL hst hc hs0 ⊢
  have hq := am_RS_inv hst
  clear hst
  obtain ⟨VV, sv, rfl, hVV, hst⟩ := hq
  have hq := am_RS_inv hst
  clear hst
  obtain ⟨VA, sv, rfl, hVA, hst⟩ := hq
  obtain ⟨g1, g2⟩ := hH.2.2 a (by omega)
  obtain ⟨q', F, b1, b2, b3⟩ := (am_CO_obj ht f5 f6).mp g2
  cases b1.symm.trans f1
  have hVa : VA = .ref (eB G + a.toNat) := by
    rcases hVA with ⟨hV, -⟩ | ⟨-, hV⟩
    · simp only at hV
      omega
    · exact hV
  subst hVa
  have hK : va_K (eD G) vwCl [(eI G, .int), (eY G, .byte), (eJ G, .long)] s := hW.1.1
  have hap := va_apart (own := (am_mn m).cls) hts f7 ty0 hty hnm hK f1
  obtain ⟨cell, q1, q2, q3, q4⟩ := b2
  obtain ⟨hSl, hfc, kC, hkC, hkind⟩ := hK.1 (r1 - 1) _ f1
  obtain ⟨cf, kf, fi, f, hi, hsl⟩ := hSl r2 f2
  have hlay := hts _ (f7 _ (u_in_lay f2))
  unfold u_lay at hlay
  have hst2 := (u_facts hfc hkC (u_lays hts f7 f2) hi).1
  have hi' : s.fieldFound? q.1 (q.2.1 r2).2.1 (q.2.1 r2).2.2.1 = some (cf, kf, fi, f) := by rw [← f3]; exact hi
  have hRV : am_RV G ((am_ft r1).getD r2 0, v) VV := by rw [f4]; exact hVV
  have hnar : narrow (ty0 r2) VV = VV ∧ fits (ty0 r2) VV = true := by
    rw [hty2]
    obtain ⟨x, rfl, -⟩ := hVV
    exact ⟨rfl, rfl⟩
  rw [if_neg (by rw [hfin]; decide)] at hlay
  have h6 := u_store hfc hkC hkind hlay hi (hty r2 f2) hnar.1 hnar.2
  have fin : ∀ (H1 : Heap), H1[eB G + a.toNat]? = some (cell.setSlot f.slot VV) → H1.size = H.size → (∀ x, x ≠ eB G + a.toNat → H1[x]? = H[x]?) → W p l e R s mth args below meth cd H1 (locs ++ [⟨eB G + a.toNat, f.slot⟩]) c s0 Q (F0 mth (pc + 3) arr sv) := by
    intro H1 e1 e2 e3
    rw [hsl] at e1 ⊢
    exact w H1 _ arr sv (am_obj_put hH ht f1 f5 f6 f2 hap q2 q3 q4 b3 hRV e1 e2 e3) (hS.put e2 e3 (Nat.le_add_right _ _)) hL hst hc hs0
  rcases f8 with f8 | ⟨host, f8⟩
  · exact W.putK hx hb (f := f) ⟨hown, hts _ f8, ⟨_, _, _, hi'⟩, hst2⟩ (by rw [q2]; exact h6) q1 q3 (by rw [hsl]; exact k2_hasslot (q4 r2 f2)) rfl rfl hd fin
  · exact va_WputK hx hb (f := f) hown (va_Nw.use rfl (hW.1.2.1 _ f8 rfl)) hi' hst2 (by rw [q2]; exact h6) q1 q3 (by rw [hsl]; exact k2_hasslot (q4 r2 f2)) rfl rfl hd fin
theorem am_i_putfield_iF (C : am_Cx G l d m p R s mth args meth cd) {idx r1 r2 : Nat} {q : vw_C} (hf : am_fok m idx r1 r2 0 q) (ty0 : Nat → FieldType) (hty : ∀ k, k < q.2.2 → parseFieldDescriptor (q.2.1 k).2.2.1 = some (ty0 k)) (hnm : ∀ a, a < q.2.2 → ∀ b, b < q.2.2 → a ≠ b → (q.2.1 a).2.1 ≠ (q.2.1 b).2.1) (hfin : (q.2.1 r2).2.2.2 = true) (hini : (am_mn m).name = "<init>") (hdcl : q.1 = (am_mn m).cls) (hlk2 : Cond.fieldLink (am_mn m).cls idx q.1 (q.2.1 r2).2.1 (q.2.1 r2).2.2.1 ∈ am_W) (hty2 : ty0 r2 = .int) (hd : decode (am_cd m) pc = .ok (.putfield idx, 3)) (w : am_stp X (am_Gl G m p l e R s mth args below meth cd Q) d hs K (am_pI st fun v r => am_pR r fun a r => am_ck (am_t h a = r1) (pc + 3, ls, r, am_w h a (r2 : Int) v, c, s0))) : am_Gl G m p l e R s mth args below meth cd Q (pc, ls, st, h, c, s0) := by
  obtain ⟨hx, hb, hml, hown, hts, hW, hR, hlk, htr, hin⟩ := C
  have w1 := am_pI_inv w
  clear w
  obtain ⟨v, r, rfl, w⟩ := w1
  have w1 := am_pR_inv w
  clear w
  obtain ⟨a, r, rfl, ht, w⟩ := w1
  obtain ⟨f1, f2, f3, f4, f5, f6, f7, f8⟩ := hf
  intro H locs arr sv hH hS hL hst hc hs0
  dsimp only at hH hL hst hc hs0 ⊢
  have hq := am_RS_inv hst
  clear hst
  obtain ⟨VV, sv, rfl, hVV, hst⟩ := hq
  have hq := am_RS_inv hst
  clear hst
  obtain ⟨VA, sv, rfl, hVA, hst⟩ := hq
  obtain ⟨g1, g2⟩ := hH.2.2 a (by omega)
  obtain ⟨q', F, b1, b2, b3⟩ := (am_CO_obj ht f5 f6).mp g2
  cases b1.symm.trans f1
  have hVa : VA = .ref (eB G + a.toNat) := by
    rcases hVA with ⟨hV, -⟩ | ⟨-, hV⟩
    · simp only at hV
      omega
    · exact hV
  subst hVa
  have hK : va_K (eD G) vwCl [(eI G, .int), (eY G, .byte), (eJ G, .long)] s := hW.1.1
  have hap := va_apart (own := (am_mn m).cls) hts f7 ty0 hty hnm hK f1
  obtain ⟨cell, q1, q2, q3, q4⟩ := b2
  obtain ⟨hSl, hfc, kC, hkC, hkind⟩ := hK.1 (r1 - 1) _ f1
  obtain ⟨cf, kf, fi, f, hi, hsl⟩ := hSl r2 f2
  have hlay := hts _ (f7 _ (u_in_lay f2))
  unfold u_lay at hlay
  have hst2 := (u_facts hfc hkC (u_lays hts f7 f2) hi).1
  have hi' : s.fieldFound? q.1 (q.2.1 r2).2.1 (q.2.1 r2).2.2.1 = some (cf, kf, fi, f) := by rw [← f3]; exact hi
  have hRV : am_RV G ((am_ft r1).getD r2 0, v) VV := by rw [f4]; exact hVV
  have hnar : narrow (ty0 r2) VV = VV ∧ fits (ty0 r2) VV = true := by
    rw [hty2]
    obtain ⟨x, rfl, -⟩ := hVV
    exact ⟨rfl, rfl⟩
  rw [if_pos hfin] at hlay
  have hcf : mth.cls = cf := by
    obtain ⟨_, _, c', _, _, _, -, -, hf', -, -, -, hown2, -⟩ := Cond.laysFinal_spec hlay
    have e1 : c' = cf := by have := hi.symm.trans hf'; simp at this; exact this.1.symm
    rw [f3, hdcl] at hown2
    rw [← e1]; exact Option.some.inj (hown.symm.trans hown2)
  have h6 := u_fits hfc hkC hkind (Or.inr hlay) hi (hty r2 f2) hnar.1 hnar.2
  refine W.putFinK hx hb hown (hts _ hlk2) hi' hst2 hcf (hin hini) (by rw [q2]; exact h6) q1 q3 (by rw [hsl]; exact k2_hasslot (q4 r2 f2)) rfl rfl hd fun H1 e1 e2 e3 => ?_
  rw [hsl] at e1 ⊢
  exact w H1 _ arr sv (am_obj_put hH ht f1 f5 f6 f2 hap q2 q3 q4 b3 hRV e1 e2 e3) (hS.put e2 e3 (Nat.le_add_right _ _)) hL hst hc hs0
theorem am_i_putfield_r (C : am_Cx G l d m p R s mth args meth cd) {idx r1 r2 : Nat} {q : vw_C} (hf : am_fok m idx r1 r2 2 q) (ty0 : Nat → FieldType) (hty : ∀ k, k < q.2.2 → parseFieldDescriptor (q.2.1 k).2.2.1 = some (ty0 k)) (hnm : ∀ a, a < q.2.2 → ∀ b, b < q.2.2 → a ≠ b → (q.2.1 a).2.1 ≠ (q.2.1 b).2.1) (hfin : (q.2.1 r2).2.2.2 = false) (hty2 : (∃ n, ty0 r2 = .object n) ∨ ∃ t, ty0 r2 = .array t) (hd : decode (am_cd m) pc = .ok (.putfield idx, 3)) (w : am_stp X (am_Gl G m p l e R s mth args below meth cd Q) d hs K (am_pR st fun v r => am_pR r fun a r => am_ck (am_t h a = r1) (pc + 3, ls, r, am_w h a (r2 : Int) v, c, s0))) : am_Gl G m p l e R s mth args below meth cd Q (pc, ls, st, h, c, s0) := by
  obtain ⟨hx, hb, hml, hown, hts, hW, hR, hlk, htr, hin⟩ := C
  have w1 := am_pR_inv w
  clear w
  obtain ⟨v, r, rfl, w⟩ := w1
  have w1 := am_pR_inv w
  clear w
  obtain ⟨a, r, rfl, ht, w⟩ := w1
  obtain ⟨f1, f2, f3, f4, f5, f6, f7, f8⟩ := hf
  intro H locs arr sv hH hS hL hst hc hs0
  dsimp only at hH hL hst hc hs0 ⊢
  have hq := am_RS_inv hst
  clear hst
  obtain ⟨VV, sv, rfl, hVV, hst⟩ := hq
  have hq := am_RS_inv hst
  clear hst
  obtain ⟨VA, sv, rfl, hVA, hst⟩ := hq
  obtain ⟨g1, g2⟩ := hH.2.2 a (by omega)
  obtain ⟨q', F, b1, b2, b3⟩ := (am_CO_obj ht f5 f6).mp g2
  cases b1.symm.trans f1
  have hVa : VA = .ref (eB G + a.toNat) := by
    rcases hVA with ⟨hV, -⟩ | ⟨-, hV⟩
    · simp only at hV
      omega
    · exact hV
  subst hVa
  have hK : va_K (eD G) vwCl [(eI G, .int), (eY G, .byte), (eJ G, .long)] s := hW.1.1
  have hap := va_apart (own := (am_mn m).cls) hts f7 ty0 hty hnm hK f1
  obtain ⟨cell, q1, q2, q3, q4⟩ := b2
  obtain ⟨hSl, hfc, kC, hkC, hkind⟩ := hK.1 (r1 - 1) _ f1
  obtain ⟨cf, kf, fi, f, hi, hsl⟩ := hSl r2 f2
  have hlay := hts _ (f7 _ (u_in_lay f2))
  unfold u_lay at hlay
  have hst2 := (u_facts hfc hkC (u_lays hts f7 f2) hi).1
  have hi' : s.fieldFound? q.1 (q.2.1 r2).2.1 (q.2.1 r2).2.2.1 = some (cf, kf, fi, f) := by rw [← f3]; exact hi
  have hRV : am_RV G ((am_ft r1).getD r2 0, v) VV := by rw [f4]; exact hVV
  have hnar : narrow (ty0 r2) VV = VV ∧ fits (ty0 r2) VV = true := by
    rcases hVV with ⟨-, rfl⟩ | ⟨-, rfl⟩ <;> rcases hty2 with ⟨n, hn⟩ | ⟨t, hn⟩ <;> rw [hn] <;> exact ⟨rfl, rfl⟩
  rw [if_neg (by rw [hfin]; decide)] at hlay
  have h6 := u_store hfc hkC hkind hlay hi (hty r2 f2) hnar.1 hnar.2
  have fin : ∀ (H1 : Heap), H1[eB G + a.toNat]? = some (cell.setSlot f.slot VV) → H1.size = H.size → (∀ x, x ≠ eB G + a.toNat → H1[x]? = H[x]?) → W p l e R s mth args below meth cd H1 (locs ++ [⟨eB G + a.toNat, f.slot⟩]) c s0 Q (F0 mth (pc + 3) arr sv) := by
    intro H1 e1 e2 e3
    rw [hsl] at e1 ⊢
    exact w H1 _ arr sv (am_obj_put hH ht f1 f5 f6 f2 hap q2 q3 q4 b3 hRV e1 e2 e3) (hS.put e2 e3 (Nat.le_add_right _ _)) hL hst hc hs0
  rcases f8 with f8 | ⟨host, f8⟩
  · exact W.putK hx hb (f := f) ⟨hown, hts _ f8, ⟨_, _, _, hi'⟩, hst2⟩ (by rw [q2]; exact h6) q1 q3 (by rw [hsl]; exact k2_hasslot (q4 r2 f2)) rfl rfl hd fin
  · exact va_WputK hx hb (f := f) hown (va_Nw.use rfl (hW.1.2.1 _ f8 rfl)) hi' hst2 (by rw [q2]; exact h6) q1 q3 (by rw [hsl]; exact k2_hasslot (q4 r2 f2)) rfl rfl hd fin
theorem am_i_putfield_rF (C : am_Cx G l d m p R s mth args meth cd) {idx r1 r2 : Nat} {q : vw_C} (hf : am_fok m idx r1 r2 2 q) (ty0 : Nat → FieldType) (hty : ∀ k, k < q.2.2 → parseFieldDescriptor (q.2.1 k).2.2.1 = some (ty0 k)) (hnm : ∀ a, a < q.2.2 → ∀ b, b < q.2.2 → a ≠ b → (q.2.1 a).2.1 ≠ (q.2.1 b).2.1) (hfin : (q.2.1 r2).2.2.2 = true) (hini : (am_mn m).name = "<init>") (hdcl : q.1 = (am_mn m).cls) (hlk2 : Cond.fieldLink (am_mn m).cls idx q.1 (q.2.1 r2).2.1 (q.2.1 r2).2.2.1 ∈ am_W) (hty2 : (∃ n, ty0 r2 = .object n) ∨ ∃ t, ty0 r2 = .array t) (hd : decode (am_cd m) pc = .ok (.putfield idx, 3)) (w : am_stp X (am_Gl G m p l e R s mth args below meth cd Q) d hs K (am_pR st fun v r => am_pR r fun a r => am_ck (am_t h a = r1) (pc + 3, ls, r, am_w h a (r2 : Int) v, c, s0))) : am_Gl G m p l e R s mth args below meth cd Q (pc, ls, st, h, c, s0) := by
  obtain ⟨hx, hb, hml, hown, hts, hW, hR, hlk, htr, hin⟩ := C
  have w1 := am_pR_inv w
  clear w
  obtain ⟨v, r, rfl, w⟩ := w1
  have w1 := am_pR_inv w
  clear w
  obtain ⟨a, r, rfl, ht, w⟩ := w1
  obtain ⟨f1, f2, f3, f4, f5, f6, f7, f8⟩ := hf
  intro H locs arr sv hH hS hL hst hc hs0
  dsimp only at hH hL hst hc hs0 ⊢
  have hq := am_RS_inv hst
  clear hst
  obtain ⟨VV, sv, rfl, hVV, hst⟩ := hq
  have hq := am_RS_inv hst
  clear hst
  obtain ⟨VA, sv, rfl, hVA, hst⟩ := hq
  obtain ⟨g1, g2⟩ := hH.2.2 a (by omega)
  obtain ⟨q', F, b1, b2, b3⟩ := (am_CO_obj ht f5 f6).mp g2
  cases b1.symm.trans f1
  have hVa : VA = .ref (eB G + a.toNat) := by
    rcases hVA with ⟨hV, -⟩ | ⟨-, hV⟩
    · simp only at hV
      omega
    · exact hV
  subst hVa
  have hK : va_K (eD G) vwCl [(eI G, .int), (eY G, .byte), (eJ G, .long)] s := hW.1.1
  have hap := va_apart (own := (am_mn m).cls) hts f7 ty0 hty hnm hK f1
  obtain ⟨cell, q1, q2, q3, q4⟩ := b2
  obtain ⟨hSl, hfc, kC, hkC, hkind⟩ := hK.1 (r1 - 1) _ f1
  obtain ⟨cf, kf, fi, f, hi, hsl⟩ := hSl r2 f2
  have hlay := hts _ (f7 _ (u_in_lay f2))
  unfold u_lay at hlay
  have hst2 := (u_facts hfc hkC (u_lays hts f7 f2) hi).1
  have hi' : s.fieldFound? q.1 (q.2.1 r2).2.1 (q.2.1 r2).2.2.1 = some (cf, kf, fi, f) := by rw [← f3]; exact hi
  have hRV : am_RV G ((am_ft r1).getD r2 0, v) VV := by rw [f4]; exact hVV
  have hnar : narrow (ty0 r2) VV = VV ∧ fits (ty0 r2) VV = true := by
    rcases hVV with ⟨-, rfl⟩ | ⟨-, rfl⟩ <;> rcases hty2 with ⟨n, hn⟩ | ⟨t, hn⟩ <;> rw [hn] <;> exact ⟨rfl, rfl⟩
  rw [if_pos hfin] at hlay
  have hcf : mth.cls = cf := by
    obtain ⟨_, _, c', _, _, _, -, -, hf', -, -, -, hown2, -⟩ := Cond.laysFinal_spec hlay
    have e1 : c' = cf := by have := hi.symm.trans hf'; simp at this; exact this.1.symm
    rw [f3, hdcl] at hown2
    rw [← e1]; exact Option.some.inj (hown.symm.trans hown2)
  have h6 := u_fits hfc hkC hkind (Or.inr hlay) hi (hty r2 f2) hnar.1 hnar.2
  refine W.putFinK hx hb hown (hts _ hlk2) hi' hst2 hcf (hin hini) (by rw [q2]; exact h6) q1 q3 (by rw [hsl]; exact k2_hasslot (q4 r2 f2)) rfl rfl hd fun H1 e1 e2 e3 => ?_
  rw [hsl] at e1 ⊢
  exact w H1 _ arr sv (am_obj_put hH ht f1 f5 f6 f2 hap q2 q3 q4 b3 hRV e1 e2 e3) (hS.put e2 e3 (Nat.le_add_right _ _)) hL hst hc hs0
theorem am_i_iaload (C : am_Cx G l d m p R s mth args meth cd) (hd : decode (am_cd m) pc = .ok (.iaload, 1)) (w : am_stp X (am_Gl G m p l e R s mth args below meth cd Q) d hs K (am_pI st fun i r => am_pR r fun a r => am_ck (am_t h a = 20 ∧ 0 ≤ i ∧ i < am_l h a) (pc + 1, ls, (0, am_m h a i) :: r, h, c, s0))) : am_Gl G m p l e R s mth args below meth cd Q (pc, ls, st, h, c, s0) := by
  obtain ⟨hx, hb, hml, hown, hts, hW, hR, hlk, htr, hin⟩ := C
  have w1 := am_pI_inv w
  clear w
  obtain ⟨i, r, rfl, w⟩ := w1
  have w1 := am_pR_inv w
  clear w
  obtain ⟨a, r, rfl, ⟨ht, hi0, hi1⟩, w⟩ := w1
  intro H locs arr sv hH hS hL hst hc hs0
  dsimp only at hH hL hst hc hs0 ⊢
  have hq := am_RS_inv hst
  clear hst
  obtain ⟨VI, sv, rfl, hVI, hst⟩ := hq
  have hq := am_RS_inv hst
  clear hst
  obtain ⟨VA, sv, rfl, hVA, hst⟩ := hq
  obtain ⟨x, rfl, rfl⟩ := hVI
  obtain ⟨g1, g2⟩ := hH.2.2 a (by omega)
  obtain ⟨n, f, b1, b2, b3, b4⟩ := (am_CO_i ht).mp g2
  have hVa : VA = .ref (eB G + a.toNat) := by
    rcases hVA with ⟨hV, -⟩ | ⟨-, hV⟩
    · simp only at hV
      omega
    · exact hV
  subst hVa
  have hK : va_K (eD G) vwCl [(eI G, .int), (eY G, .byte), (eJ G, .long)] s := hW.1.1
  rw [b2] at hi1
  obtain ⟨k1, k2, k3⟩ := am_ix hi0 hi1
  have hP : va_P (eD G) vwCl [(eB G + a.toNat, .inl (eI G, n, .inl f))] H := by
    intro k y hk
    match k, hk with
    | 0, hk =>
      cases hk
      exact b1
    | k + 1, hk => simp at hk
  refine va_iald hx hb hK hP 0 0 rfl rfl k1 hd ?_
  exact w H locs arr _ hH hS hL ⟨⟨_, rfl, by rw [← k3]; exact b4 _ k2⟩, hst⟩ hc hs0
theorem am_i_baload (C : am_Cx G l d m p R s mth args meth cd) (hd : decode (am_cd m) pc = .ok (.baload, 1)) (w : am_stp X (am_Gl G m p l e R s mth args below meth cd Q) d hs K (am_pI st fun i r => am_pR r fun a r => am_ck (am_t h a = 21 ∧ 0 ≤ i ∧ i < am_l h a) (pc + 1, ls, (0, am_m h a i) :: r, h, c, s0))) : am_Gl G m p l e R s mth args below meth cd Q (pc, ls, st, h, c, s0) := by
  obtain ⟨hx, hb, hml, hown, hts, hW, hR, hlk, htr, hin⟩ := C
  have w1 := am_pI_inv w
  clear w
  obtain ⟨i, r, rfl, w⟩ := w1
  have w1 := am_pR_inv w
  clear w
  obtain ⟨a, r, rfl, ⟨ht, hi0, hi1⟩, w⟩ := w1
  intro H locs arr sv hH hS hL hst hc hs0
  dsimp only at hH hL hst hc hs0 ⊢
  have hq := am_RS_inv hst
  clear hst
  obtain ⟨VI, sv, rfl, hVI, hst⟩ := hq
  have hq := am_RS_inv hst
  clear hst
  obtain ⟨VA, sv, rfl, hVA, hst⟩ := hq
  obtain ⟨x, rfl, rfl⟩ := hVI
  obtain ⟨g1, g2⟩ := hH.2.2 a (by omega)
  obtain ⟨n, f, b1, b2, b3, b4⟩ := (am_CO_y ht).mp g2
  have hVa : VA = .ref (eB G + a.toNat) := by
    rcases hVA with ⟨hV, -⟩ | ⟨-, hV⟩
    · simp only at hV
      omega
    · exact hV
  subst hVa
  have hK : va_K (eD G) vwCl [(eI G, .int), (eY G, .byte), (eJ G, .long)] s := hW.1.1
  rw [b2] at hi1
  obtain ⟨k1, k2, k3⟩ := am_ix hi0 hi1
  have hP : va_P (eD G) vwCl [(eB G + a.toNat, .inl (eY G, n, .inl f))] H := by
    intro k y hk
    match k, hk with
    | 0, hk =>
      cases hk
      exact b1
    | k + 1, hk => simp at hk
  refine va_bald hx hb hK hP 0 1 rfl rfl k1 hd ?_
  exact w H locs arr _ hH hS hL ⟨⟨_, rfl, by rw [← k3]; exact b4 _ k2⟩, hst⟩ hc hs0
theorem am_i_laload (C : am_Cx G l d m p R s mth args meth cd) (hd : decode (am_cd m) pc = .ok (.laload, 1)) (w : am_stp X (am_Gl G m p l e R s mth args below meth cd Q) d hs K (am_pI st fun i r => am_pR r fun a r => am_ck (am_t h a = 22 ∧ 0 ≤ i ∧ i < am_l h a) (pc + 1, ls, (1, am_m h a i) :: r, h, c, s0))) : am_Gl G m p l e R s mth args below meth cd Q (pc, ls, st, h, c, s0) := by
  obtain ⟨hx, hb, hml, hown, hts, hW, hR, hlk, htr, hin⟩ := C
  have w1 := am_pI_inv w
  clear w
  obtain ⟨i, r, rfl, w⟩ := w1
  have w1 := am_pR_inv w
  clear w
  obtain ⟨a, r, rfl, ⟨ht, hi0, hi1⟩, w⟩ := w1
  intro H locs arr sv hH hS hL hst hc hs0
  dsimp only at hH hL hst hc hs0 ⊢
  have hq := am_RS_inv hst
  clear hst
  obtain ⟨VI, sv, rfl, hVI, hst⟩ := hq
  have hq := am_RS_inv hst
  clear hst
  obtain ⟨VA, sv, rfl, hVA, hst⟩ := hq
  obtain ⟨x, rfl, rfl⟩ := hVI
  obtain ⟨g1, g2⟩ := hH.2.2 a (by omega)
  obtain ⟨n, f, b1, b2, b3, b4⟩ := (am_CO_j ht).mp g2
  have hVa : VA = .ref (eB G + a.toNat) := by
    rcases hVA with ⟨hV, -⟩ | ⟨-, hV⟩
    · simp only at hV
      omega
    · exact hV
  subst hVa
  have hK : va_K (eD G) vwCl [(eI G, .int), (eY G, .byte), (eJ G, .long)] s := hW.1.1
  rw [b2] at hi1
  obtain ⟨k1, k2, k3⟩ := am_ix hi0 hi1
  have hP : va_P (eD G) vwCl [(eB G + a.toNat, .inl (eJ G, n, .inr (.inl f)))] H := by
    intro k y hk
    match k, hk with
    | 0, hk =>
      cases hk
      exact b1
    | k + 1, hk => simp at hk
  refine va_lald hx hb hK hP 0 2 rfl rfl k1 hd ?_
  exact w H locs arr _ hH hS hL ⟨⟨_, rfl, by rw [← k3]; exact b4 _ k2⟩, hst⟩ hc hs0
theorem am_i_iastore (C : am_Cx G l d m p R s mth args meth cd) (hd : decode (am_cd m) pc = .ok (.iastore, 1)) (w : am_stp X (am_Gl G m p l e R s mth args below meth cd Q) d hs K (am_pI st fun v r => am_pI r fun i r => am_pR r fun a r => am_ck (am_t h a = 20 ∧ 0 ≤ i ∧ i < am_l h a) (pc + 1, ls, r, am_w h a i (v), c, s0))) : am_Gl G m p l e R s mth args below meth cd Q (pc, ls, st, h, c, s0) := by
  obtain ⟨hx, hb, hml, hown, hts, hW, hR, hlk, htr, hin⟩ := C
  have w1 := am_pI_inv w
  clear w
  obtain ⟨v, r, rfl, w⟩ := w1
  have w1 := am_pI_inv w
  clear w
  obtain ⟨i, r, rfl, w⟩ := w1
  have w1 := am_pR_inv w
  clear w
  obtain ⟨a, r, rfl, ⟨ht, hi0, hi1⟩, w⟩ := w1
  intro H locs arr sv hH hS hL hst hc hs0
  dsimp only at hH hL hst hc hs0 ⊢
  have hq := am_RS_inv hst
  clear hst
  obtain ⟨VV, sv, rfl, hVV, hst⟩ := hq
  have hq := am_RS_inv hst
  clear hst
  obtain ⟨VI, sv, rfl, hVI, hst⟩ := hq
  have hq := am_RS_inv hst
  clear hst
  obtain ⟨VA, sv, rfl, hVA, hst⟩ := hq
  obtain ⟨x, rfl, rfl⟩ := hVV
  obtain ⟨i, rfl, rfl⟩ := hVI
  obtain ⟨g1, g2⟩ := hH.2.2 a (by omega)
  obtain ⟨n, f, b1, b2, b3, b4⟩ := (am_CO_i ht).mp g2
  have hVa : VA = .ref (eB G + a.toNat) := by
    rcases hVA with ⟨hV, -⟩ | ⟨-, hV⟩
    · simp only at hV
      omega
    · exact hV
  subst hVa
  have hK : va_K (eD G) vwCl [(eI G, .int), (eY G, .byte), (eJ G, .long)] s := hW.1.1
  rw [b2] at hi1
  obtain ⟨k1, k2, k3⟩ := am_ix hi0 hi1
  refine W.iast hx hb b1 ((hK.2 0 _ rfl).1 n (fun j => .int (f j))) (fun q => by cases q) (by show ¬ (i < 0 ∨ (arrV _ _ _).slots.size ≤ _); rw [arrV_size]; exact k1) rfl rfl hd fun H1 e1 z oq => ?_
  refine w H1 _ arr sv ?_ (hS.put z oq (Nat.le_add_right _ _)) hL hst hc hs0
  refine am_HM_set hH (by omega) z oq rfl rfl (fun _ => rfl) (fun _ => rfl) (fun _ => rfl) (fun b j hb => by rw [am_m_w, if_neg (fun z => hb z.1)]) ?_
  refine (am_CO_i (h := am_w h a i.toInt _) (show am_t (am_w h a i.toInt _) a = 20 from ht)).mpr ⟨n, fun j => if j = i.toNatClampNeg then x else f j, ?_, b2, b3, fun j hj => ?_⟩
  · rw [e1, arrV_store]
    congr 2
    funext q
    by_cases hq : q = i.toNatClampNeg
    · simp [updV, hq]
    · simp [updV, hq]
  · rw [am_m_w]
    dsimp only
    by_cases hji : j = i.toNatClampNeg
    · rw [if_pos ⟨rfl, by omega⟩, if_pos hji]
      try rfl
    · rw [if_neg (fun z => hji (by omega)), if_neg hji]
      exact b4 j hj
theorem am_i_bastore (C : am_Cx G l d m p R s mth args meth cd) (hd : decode (am_cd m) pc = .ok (.bastore, 1)) (w : am_stp X (am_Gl G m p l e R s mth args below meth cd Q) d hs K (am_pI st fun v r => am_pI r fun i r => am_pR r fun a r => am_ck (am_t h a = 21 ∧ 0 ≤ i ∧ i < am_l h a) (pc + 1, ls, r, am_w h a i (am_i2b v), c, s0))) : am_Gl G m p l e R s mth args below meth cd Q (pc, ls, st, h, c, s0) := by
  obtain ⟨hx, hb, hml, hown, hts, hW, hR, hlk, htr, hin⟩ := C
  have w1 := am_pI_inv w
  clear w
  obtain ⟨v, r, rfl, w⟩ := w1
  have w1 := am_pI_inv w
  clear w
  obtain ⟨i, r, rfl, w⟩ := w1
  have w1 := am_pR_inv w
  clear w
  obtain ⟨a, r, rfl, ⟨ht, hi0, hi1⟩, w⟩ := w1
  intro H locs arr sv hH hS hL hst hc hs0
  dsimp only at hH hL hst hc hs0 ⊢
  have hq := am_RS_inv hst
  clear hst
  obtain ⟨VV, sv, rfl, hVV, hst⟩ := hq
  have hq := am_RS_inv hst
  clear hst
  obtain ⟨VI, sv, rfl, hVI, hst⟩ := hq
  have hq := am_RS_inv hst
  clear hst
  obtain ⟨VA, sv, rfl, hVA, hst⟩ := hq
  obtain ⟨x, rfl, rfl⟩ := hVV
  obtain ⟨i, rfl, rfl⟩ := hVI
  obtain ⟨g1, g2⟩ := hH.2.2 a (by omega)
  obtain ⟨n, f, b1, b2, b3, b4⟩ := (am_CO_y ht).mp g2
  have hVa : VA = .ref (eB G + a.toNat) := by
    rcases hVA with ⟨hV, -⟩ | ⟨-, hV⟩
    · simp only at hV
      omega
    · exact hV
  subst hVa
  have hK : va_K (eD G) vwCl [(eI G, .int), (eY G, .byte), (eJ G, .long)] s := hW.1.1
  rw [b2] at hi1
  obtain ⟨k1, k2, k3⟩ := am_ix hi0 hi1
  refine W.bast hx hb b1 ((hK.2 1 _ rfl).1 n (fun j => .int (f j))) (fun q => by cases q) (by show ¬ (i < 0 ∨ (arrV _ _ _).slots.size ≤ _); rw [arrV_size]; exact k1) rfl rfl hd fun H1 e1 z oq => ?_
  refine w H1 _ arr sv ?_ (hS.put z oq (Nat.le_add_right _ _)) hL hst hc hs0
  refine am_HM_set hH (by omega) z oq rfl rfl (fun _ => rfl) (fun _ => rfl) (fun _ => rfl) (fun b j hb => by rw [am_m_w, if_neg (fun z => hb z.1)]) ?_
  refine (am_CO_y (h := am_w h a i.toInt _) (show am_t (am_w h a i.toInt _) a = 21 from ht)).mpr ⟨n, fun j => if j = i.toNatClampNeg then x.toInt8.toInt32 else f j, ?_, b2, b3, fun j hj => ?_⟩
  · rw [e1, arrV_store]
    congr 2
    funext q
    by_cases hq : q = i.toNatClampNeg
    · simp [updV, hq, narrow]
    · simp [updV, hq]
  · rw [am_m_w]
    dsimp only
    by_cases hji : j = i.toNatClampNeg
    · rw [if_pos ⟨rfl, by omega⟩, if_pos hji]
      rw [Int8.toInt_toInt32, Int32.toInt_toInt8]; rfl
    · rw [if_neg (fun z => hji (by omega)), if_neg hji]
      exact b4 j hj
theorem am_i_lastore (C : am_Cx G l d m p R s mth args meth cd) (hd : decode (am_cd m) pc = .ok (.lastore, 1)) (w : am_stp X (am_Gl G m p l e R s mth args below meth cd Q) d hs K (am_pL st fun v r => am_pI r fun i r => am_pR r fun a r => am_ck (am_t h a = 22 ∧ 0 ≤ i ∧ i < am_l h a) (pc + 1, ls, r, am_w h a i (v), c, s0))) : am_Gl G m p l e R s mth args below meth cd Q (pc, ls, st, h, c, s0) := by
  obtain ⟨hx, hb, hml, hown, hts, hW, hR, hlk, htr, hin⟩ := C
  have w1 := am_pL_inv w
  clear w
  obtain ⟨v, r, rfl, w⟩ := w1
  have w1 := am_pI_inv w
  clear w
  obtain ⟨i, r, rfl, w⟩ := w1
  have w1 := am_pR_inv w
  clear w
  obtain ⟨a, r, rfl, ⟨ht, hi0, hi1⟩, w⟩ := w1
  intro H locs arr sv hH hS hL hst hc hs0
  dsimp only at hH hL hst hc hs0 ⊢
  have hq := am_RS_inv hst
  clear hst
  obtain ⟨VV, sv, rfl, hVV, hst⟩ := hq
  have hq := am_RS_inv hst
  clear hst
  obtain ⟨VI, sv, rfl, hVI, hst⟩ := hq
  have hq := am_RS_inv hst
  clear hst
  obtain ⟨VA, sv, rfl, hVA, hst⟩ := hq
  obtain ⟨x, rfl, rfl⟩ := hVV
  obtain ⟨i, rfl, rfl⟩ := hVI
  obtain ⟨g1, g2⟩ := hH.2.2 a (by omega)
  obtain ⟨n, f, b1, b2, b3, b4⟩ := (am_CO_j ht).mp g2
  have hVa : VA = .ref (eB G + a.toNat) := by
    rcases hVA with ⟨hV, -⟩ | ⟨-, hV⟩
    · simp only at hV
      omega
    · exact hV
  subst hVa
  have hK : va_K (eD G) vwCl [(eI G, .int), (eY G, .byte), (eJ G, .long)] s := hW.1.1
  rw [b2] at hi1
  obtain ⟨k1, k2, k3⟩ := am_ix hi0 hi1
  refine W.last hx hb b1 ((hK.2 2 _ rfl).1 n (fun j => .long (f j))) (fun q => by cases q) (by show ¬ (i < 0 ∨ (arrV _ _ _).slots.size ≤ _); rw [arrV_size]; exact k1) rfl rfl hd fun H1 e1 z oq => ?_
  refine w H1 _ arr sv ?_ (hS.put z oq (Nat.le_add_right _ _)) hL hst hc hs0
  refine am_HM_set hH (by omega) z oq rfl rfl (fun _ => rfl) (fun _ => rfl) (fun _ => rfl) (fun b j hb => by rw [am_m_w, if_neg (fun z => hb z.1)]) ?_
  refine (am_CO_j (h := am_w h a i.toInt _) (show am_t (am_w h a i.toInt _) a = 22 from ht)).mpr ⟨n, fun j => if j = i.toNatClampNeg then x else f j, ?_, b2, b3, fun j hj => ?_⟩
  · rw [e1, arrV_store]
    congr 2
    funext q
    by_cases hq : q = i.toNatClampNeg
    · simp [updV, hq]
    · simp [updV, hq]
  · rw [am_m_w]
    dsimp only
    by_cases hji : j = i.toNatClampNeg
    · rw [if_pos ⟨rfl, by omega⟩, if_pos hji]
      try rfl
    · rw [if_neg (fun z => hji (by omega)), if_neg hji]
      exact b4 j hj
end SIM
end
section
/-! ===== new cells, constants, texts, the JDK's small members, switches ===== -/
theorem am_HM_new {G : am_En} {h : AH} {H H1 : Heap} {t : Nat} {n : Int} {f : Int → Int} (hH : am_HM G h H) (hz : H1.size = H.size + 1) (o1 : ∀ q : Nat, q < H.size → H1[q]? = H[q]?) (hC : am_CO G (am_a h t n f) (am_n h) H1) : am_HM G (am_a h t n f) H1 := by
  obtain ⟨⟨g1, g2⟩, g3, g5⟩ := hH
  have en : am_n (am_a h t n f) = am_n h + 1 := rfl
  refine ⟨⟨by rw [en]; omega, by rw [hz, en]; omega⟩, g3, fun b hb => ?_⟩
  by_cases hbn : b = am_n h
  · rw [hbn]
    exact ⟨⟨g1, by rw [en]; omega⟩, hC⟩
  · have et : am_t (am_a h t n f) b = am_t h b := if_neg hbn
    rw [et] at hb
    obtain ⟨b1, b2⟩ := g5 b hb
    exact ⟨⟨b1.1, by rw [en]; omega⟩, am_CO_kept b2 (o1 _ (by omega)) et (if_neg hbn) (fun j => if_neg hbn)⟩
section SIM
variable {G : am_En} {l : Launch} {d m : Nat} {p : Program} {e : Env} {R : Room} {s : State} {mth : MethodId} {args : Array Value} {below : List Frame} {meth : Method} {cd : Code} {Q : State → Prop} {K : AK} {X : AX} {Z : AC → Prop} {hs : List (Nat × Nat × Nat × Nat)}
variable {pc : Nat} {ls st : List AV} {h : AH} {c s0 : Nat}
theorem am_few_inv {r : List AV} {f : ASh} (w : am_stp X Z d hs K (am_few r f)) : am_cat r ≤ 8 ∧ am_stp X Z d hs K f := by
  unfold am_few at w
  split at w
  · rename_i hh
    exact ⟨Nat.le_of_ble_eq_true hh, w⟩
  · exact w.elim
theorem am_RV_cat {v : AV} {V : Value} (h : am_RV G v V) : V.category = am_cat [v] := by
  obtain ⟨t, a⟩ := v
  match t, h with
  | 0, h => obtain ⟨x, rfl, -⟩ := h; rfl
  | 1, h => obtain ⟨x, rfl, -⟩ := h; rfl
  | 2, h => rcases h with ⟨-, rfl⟩ | ⟨-, rfl⟩ <;> rfl
  | 3, h => obtain ⟨x, rfl, -⟩ := h; rfl
  | 4, h => have h : V = .ref (eb G) := h; subst h; rfl
  | 5, h => obtain ⟨-, -, rfl⟩ := h; rfl
  | 6, h => have h : V = .ref (ew G) := h; subst h; rfl
  | 7, h => obtain ⟨-, -, rfl⟩ := h; rfl
  | 8, h => exact h.elim
  | 9, h => exact h.elim
  | 10, h => obtain ⟨q, rfl⟩ := h; rfl
  | 11, h => rcases h with rfl | ⟨q, rfl⟩ <;> rfl
  | n + 12, h => exact h.elim
theorem am_RS_cat : ∀ {r : List AV} {sv : List Value}, am_RS G r sv → (sv.map fun v => v.category).sum = am_cat r
  | [], [], _ => rfl
  | [], _ :: _, h => h.elim
  | _ :: _, [], h => h.elim
  | v :: r, V :: sv, h => by
    have e1 := am_RV_cat h.1
    have e2 := am_RS_cat h.2
    rw [List.map_cons, List.sum_cons, e1, e2]
    obtain ⟨t, a⟩ := v
    simp only [am_cat]
    omega
theorem am_i_newarray_i (C : am_Cx G l d m p R s mth args meth cd) (hw : Cond.arrayClass .int ∈ am_W) (hd : decode (am_cd m) pc = .ok (.newarray .int, 2)) (w : am_stp X (am_Gl G m p l e R s mth args below meth cd Q) d hs K (am_pI st fun n r => am_ck ((0 ≤ n ∧ n ≤ 4096) ∧ c + 1 ≤ (am_cap m).1 ∧ s0 + n.toNat ≤ (am_cap m).2) (pc + 2, ls, (2, am_n h) :: r, am_a h 20 n (fun _ => 0), c + 1, s0 + n.toNat))) : am_Gl G m p l e R s mth args below meth cd Q (pc, ls, st, h, c, s0) := by
  obtain ⟨hx, hb, hml, hown, hts, hW, hR, hlk, htr, hin⟩ := C
  have w1 := am_pI_inv w
  clear w
  obtain ⟨n, r, rfl, ⟨⟨hn0, hn1⟩, hc1, hs1⟩, w⟩ := w1
  intro H locs arr sv hH hS hL hst hc hs0
  dsimp only at hH hL hst hc hs0 ⊢
  have hq := am_RS_inv hst
  clear hst
  obtain ⟨VN, sv, rfl, hVN, hst⟩ := hq
  obtain ⟨x, rfl, rfl⟩ := hVN
  have hK : va_K (eD G) vwCl [(eI G, .int), (eY G, .byte), (eJ G, .long)] s := hW.1.1
  have hsz := hH.1.2
  have ex0 : x.toNatClampNeg = x.toInt.toNat := rfl
  have hx0 : ¬ x < 0 := fun z => by
    have := Int32.lt_iff_toInt_lt.mp z
    have e0 : (0 : Int32).toInt = 0 := rfl
    omega
  refine va_newaK hx hb (atype := .int) (hts _ hw) rfl hd rfl hx0 rfl (Nat.le_trans (Nat.mul_le_mul_right _ (show x.toNatClampNeg ≤ 4096 by omega)) (by decide)) (by omega) (by omega) hsz fun H1 cA e1 z1 o1 hAr hNm => ?_
  have ecA : cA = eI G := by
    have h2 : s.vm.findClass ("[" ++ (FieldType.int).toString) = some (eI G) := (hK.2 0 _ rfl).2
    exact Option.some.inj (hNm.symm.trans h2)
  subst ecA
  refine w H1 _ arr _ (am_HM_new hH (by omega) (fun q hq => o1 q (by omega)) ?_) ⟨Nat.le_trans hS.1 (by omega), fun q h1 h2 => (o1 q (by have := hS.1; omega)).trans (hS.2.1 q h1 h2), hS.2.2⟩ hL ⟨Or.inr ⟨hH.1.1, rfl⟩, hst⟩ (by simp only; omega) (by simp only; omega)
  have ht : am_t (am_a h 20 x.toInt (fun _ => 0)) (am_n h) = 20 := if_pos rfl
  refine (am_CO_i ht).mpr ⟨x.toNatClampNeg, fun _ => 0, e1, ?_, by omega, fun j hj => if_pos rfl⟩
  have el : am_l (am_a h 20 x.toInt (fun _ => 0)) (am_n h) = x.toInt := if_pos rfl
  rw [el]
  omega
theorem am_i_newarray_y (C : am_Cx G l d m p R s mth args meth cd) (hw : Cond.arrayClass .byte ∈ am_W) (hd : decode (am_cd m) pc = .ok (.newarray .byte, 2)) (w : am_stp X (am_Gl G m p l e R s mth args below meth cd Q) d hs K (am_pI st fun n r => am_ck ((0 ≤ n ∧ n ≤ 4096) ∧ c + 1 ≤ (am_cap m).1 ∧ s0 + n.toNat ≤ (am_cap m).2) (pc + 2, ls, (2, am_n h) :: r, am_a h 21 n (fun _ => 0), c + 1, s0 + n.toNat))) : am_Gl G m p l e R s mth args below meth cd Q (pc, ls, st, h, c, s0) := by
  obtain ⟨hx, hb, hml, hown, hts, hW, hR, hlk, htr, hin⟩ := C
  have w1 := am_pI_inv w
  clear w
  obtain ⟨n, r, rfl, ⟨⟨hn0, hn1⟩, hc1, hs1⟩, w⟩ := w1
  intro H locs arr sv hH hS hL hst hc hs0
  dsimp only at hH hL hst hc hs0 ⊢
  have hq := am_RS_inv hst
  clear hst
  obtain ⟨VN, sv, rfl, hVN, hst⟩ := hq
  obtain ⟨x, rfl, rfl⟩ := hVN
  have hK : va_K (eD G) vwCl [(eI G, .int), (eY G, .byte), (eJ G, .long)] s := hW.1.1
  have hsz := hH.1.2
  have ex0 : x.toNatClampNeg = x.toInt.toNat := rfl
  have hx0 : ¬ x < 0 := fun z => by
    have := Int32.lt_iff_toInt_lt.mp z
    have e0 : (0 : Int32).toInt = 0 := rfl
    omega
  refine va_newaK hx hb (atype := .byte) (hts _ hw) rfl hd rfl hx0 rfl (Nat.le_trans (Nat.mul_le_mul_right _ (show x.toNatClampNeg ≤ 4096 by omega)) (by decide)) (by omega) (by omega) hsz fun H1 cA e1 z1 o1 hAr hNm => ?_
  have ecA : cA = eY G := by
    have h2 : s.vm.findClass ("[" ++ (FieldType.byte).toString) = some (eY G) := (hK.2 1 _ rfl).2
    exact Option.some.inj (hNm.symm.trans h2)
  subst ecA
  refine w H1 _ arr _ (am_HM_new hH (by omega) (fun q hq => o1 q (by omega)) ?_) ⟨Nat.le_trans hS.1 (by omega), fun q h1 h2 => (o1 q (by have := hS.1; omega)).trans (hS.2.1 q h1 h2), hS.2.2⟩ hL ⟨Or.inr ⟨hH.1.1, rfl⟩, hst⟩ (by simp only; omega) (by simp only; omega)
  have ht : am_t (am_a h 21 x.toInt (fun _ => 0)) (am_n h) = 21 := if_pos rfl
  refine (am_CO_y ht).mpr ⟨x.toNatClampNeg, fun _ => 0, e1, ?_, by omega, fun j hj => if_pos rfl⟩
  have el : am_l (am_a h 21 x.toInt (fun _ => 0)) (am_n h) = x.toInt := if_pos rfl
  rw [el]
  omega
theorem am_i_newarray_j (C : am_Cx G l d m p R s mth args meth cd) (hw : Cond.arrayClass .long ∈ am_W) (hd : decode (am_cd m) pc = .ok (.newarray .long, 2)) (w : am_stp X (am_Gl G m p l e R s mth args below meth cd Q) d hs K (am_pI st fun n r => am_ck ((0 ≤ n ∧ n ≤ 4096) ∧ c + 1 ≤ (am_cap m).1 ∧ s0 + n.toNat ≤ (am_cap m).2) (pc + 2, ls, (2, am_n h) :: r, am_a h 22 n (fun _ => 0), c + 1, s0 + n.toNat))) : am_Gl G m p l e R s mth args below meth cd Q (pc, ls, st, h, c, s0) := by
  obtain ⟨hx, hb, hml, hown, hts, hW, hR, hlk, htr, hin⟩ := C
  have w1 := am_pI_inv w
  clear w
  obtain ⟨n, r, rfl, ⟨⟨hn0, hn1⟩, hc1, hs1⟩, w⟩ := w1
  intro H locs arr sv hH hS hL hst hc hs0
  dsimp only at hH hL hst hc hs0 ⊢
  have hq := am_RS_inv hst
  clear hst
  obtain ⟨VN, sv, rfl, hVN, hst⟩ := hq
  obtain ⟨x, rfl, rfl⟩ := hVN
  have hK : va_K (eD G) vwCl [(eI G, .int), (eY G, .byte), (eJ G, .long)] s := hW.1.1
  have hsz := hH.1.2
  have ex0 : x.toNatClampNeg = x.toInt.toNat := rfl
  have hx0 : ¬ x < 0 := fun z => by
    have := Int32.lt_iff_toInt_lt.mp z
    have e0 : (0 : Int32).toInt = 0 := rfl
    omega
  refine va_newaK hx hb (atype := .long) (hts _ hw) rfl hd rfl hx0 rfl (Nat.le_trans (Nat.mul_le_mul_right _ (show x.toNatClampNeg ≤ 4096 by omega)) (by decide)) (by omega) (by omega) hsz fun H1 cA e1 z1 o1 hAr hNm => ?_
  have ecA : cA = eJ G := by
    have h2 : s.vm.findClass ("[" ++ (FieldType.long).toString) = some (eJ G) := (hK.2 2 _ rfl).2
    exact Option.some.inj (hNm.symm.trans h2)
  subst ecA
  refine w H1 _ arr _ (am_HM_new hH (by omega) (fun q hq => o1 q (by omega)) ?_) ⟨Nat.le_trans hS.1 (by omega), fun q h1 h2 => (o1 q (by have := hS.1; omega)).trans (hS.2.1 q h1 h2), hS.2.2⟩ hL ⟨Or.inr ⟨hH.1.1, rfl⟩, hst⟩ (by simp only; omega) (by simp only; omega)
  have ht : am_t (am_a h 22 x.toInt (fun _ => 0)) (am_n h) = 22 := if_pos rfl
  refine (am_CO_j ht).mpr ⟨x.toNatClampNeg, fun _ => 0, e1, ?_, by omega, fun j hj => if_pos rfl⟩
  have el : am_l (am_a h 22 x.toInt (fun _ => 0)) (am_n h) = x.toInt := if_pos rfl
  rw [el]
  omega
theorem am_i_new (C : am_Cx G l d m p R s mth args meth cd) {idx r1 r2 : Nat} {q : vw_C} (f1 : vwCl[r1 - 1]? = some q) (f2 : q.2.2 = r2) (f5 : 1 ≤ r1) (f6 : r1 ≤ 9) (f7 : ∀ w ∈ u_ws q.1 q.2.1 q.2.2, w ∈ am_W) (ty0 : Nat → FieldType) (hty : ∀ k, k < q.2.2 → parseFieldDescriptor (q.2.1 k).2.2.1 = some (ty0 k)) (hdf : ∀ k : Nat, k < q.2.2 → am_RV G ((am_ft r1).getD k 0, am_df r1 (k : Int)) (defaultValue (ty0 k))) (hw1 : Cond.classLink (am_mn m).cls idx q.1 ∈ am_W) (hw2 : Cond.instantiable q.1 q.2.2 ∈ am_W) (hw3 : Cond.initialized q.1 ∈ am_W) (hd : decode (am_cd m) pc = .ok (.new idx, 3)) (w : am_stp X (am_Gl G m p l e R s mth args below meth cd Q) d hs K (am_ck (c + 1 ≤ (am_cap m).1 ∧ s0 + r2 ≤ (am_cap m).2) (pc + 3, ls, (2, am_n h) :: st, am_a h r1 (r2 : Int) (am_df r1), c + 1, s0 + r2))) : am_Gl G m p l e R s mth args below meth cd Q (pc, ls, st, h, c, s0) := by
  obtain ⟨hx, hb, hml, hown, hts, hW, hR, hlk, htr, hin⟩ := C
  obtain ⟨⟨hc1, hs1⟩, w⟩ := w
  intro H locs arr sv hH hS hL hst hc hs0
  dsimp only at hH hL hst hc hs0 ⊢
  have hK : va_K (eD G) vwCl [(eI G, .int), (eY G, .byte), (eJ G, .long)] s := hW.1.1
  have hsz := hH.1.2
  subst f2
  have hKn := hK.1 (r1 - 1) _ f1
  refine W.newcK hx hb hown (hts _ hw1) (hts _ hw2) (hts _ hw3) rfl hd (by omega) (by omega) hKn.2.1 hsz fun H1 kC hkC e1 z1 o1 => ?_
  refine w H1 _ arr _ (am_HM_new hH (by omega) (fun q hq => o1 q (by omega)) ?_) ⟨Nat.le_trans hS.1 (by omega), fun q h1 h2 => (o1 q (by have := hS.1; omega)).trans (hS.2.1 q h1 h2), hS.2.2⟩ hL ⟨Or.inr ⟨hH.1.1, rfl⟩, hst⟩ (by simp only; omega) (by simp only; omega)
  have ht : am_t (am_a h r1 (q.2.2 : Int) (am_df r1)) (am_n h) = r1 := if_pos rfl
  refine (am_CO_obj ht f5 f6).mpr ⟨q, _, f1, u_born ty0 hts f7 hKn hkC e1 hty, fun k hk => ?_⟩
  have em : am_m (am_a h r1 (q.2.2 : Int) (am_df r1)) (am_n h) (k : Int) = am_df r1 (k : Int) := if_pos rfl
  rw [em]
  exact hdf k hk
theorem am_i_alen (C : am_Cx G l d m p R s mth args meth cd) (hd : decode (am_cd m) pc = .ok (.arraylength, 1)) (w : am_stp X (am_Gl G m p l e R s mth args below meth cd Q) d hs K (am_pR st fun a r => am_ck (20 ≤ am_t h a ∧ am_t h a ≤ 22) (pc + 1, ls, (0, am_l h a) :: r, h, c, s0))) : am_Gl G m p l e R s mth args below meth cd Q (pc, ls, st, h, c, s0) := by
  obtain ⟨hx, hb, hml, hown, hts, hW, hR, hlk, htr, hin⟩ := C
  have w1 := am_pR_inv w
  clear w
  obtain ⟨a, r, rfl, ⟨ht1, ht2⟩, w⟩ := w1
  intro H locs arr sv hH hS hL hst hc hs0
  dsimp only at hH hL hst hc hs0 ⊢
  have hq := am_RS_inv hst
  clear hst
  obtain ⟨VA, sv, rfl, hVA, hst⟩ := hq
  obtain ⟨g1, g2⟩ := hH.2.2 a (by omega)
  have hVaa : VA = .ref (eB G + a.toNat) := by
    rcases hVA with ⟨hV, -⟩ | ⟨-, hV⟩
    · simp only at hV
      omega
    · exact hV
  subst hVaa
  have hK : va_K (eD G) vwCl [(eI G, .int), (eY G, .byte), (eJ G, .long)] s := hW.1.1
  have hn32 : ∀ n : Nat, n ≤ 4096 → (n : Int) = (Int32.ofNat n).toInt := fun n hn => by
    rw [Int32.toInt_ofNat_of_lt (by omega)]
  rcases (show am_t h a = 20 ∨ am_t h a = 21 ∨ am_t h a = 22 by omega) with ht | ht | ht
  · obtain ⟨n, f, b1, b2, b3, b4⟩ := (am_CO_i ht).mp g2
    have hP : va_P (eD G) vwCl [(eB G + a.toNat, .inl (eI G, n, .inl f))] H := by
      intro k y hk
      match k, hk with
      | 0, hk => cases hk; exact b1
      | k + 1, hk => simp at hk
    refine va_alen hx hb hK hP 0 0 rfl rfl rfl hd ?_
    exact w H locs arr _ hH hS hL ⟨⟨_, rfl, by rw [b2]; exact hn32 n b3⟩, hst⟩ hc hs0
  · obtain ⟨n, f, b1, b2, b3, b4⟩ := (am_CO_y ht).mp g2
    have hP : va_P (eD G) vwCl [(eB G + a.toNat, .inl (eY G, n, .inl f))] H := by
      intro k y hk
      match k, hk with
      | 0, hk => cases hk; exact b1
      | k + 1, hk => simp at hk
    refine va_alen hx hb hK hP 0 1 rfl rfl rfl hd ?_
    exact w H locs arr _ hH hS hL ⟨⟨_, rfl, by rw [b2]; exact hn32 n b3⟩, hst⟩ hc hs0
  · obtain ⟨n, f, b1, b2, b3, b4⟩ := (am_CO_j ht).mp g2
    have hP : va_P (eD G) vwCl [(eB G + a.toNat, .inl (eJ G, n, .inr (.inl f)))] H := by
      intro k y hk
      match k, hk with
      | 0, hk => cases hk; exact b1
      | k + 1, hk => simp at hk
    refine va_alen hx hb hK hP 0 2 rfl rfl rfl hd ?_
    exact w H locs arr _ hH hS hL ⟨⟨_, rfl, by rw [b2]; exact hn32 n b3⟩, hst⟩ hc hs0
theorem am_i_slen (C : am_Cx G l d m p R s mth args meth cd) {z : Int} {r : List AV} (hst0 : st = (4, z) :: r) (hd : decode (am_cd m) pc = .ok (.arraylength, 1)) (w : am_stp X (am_Gl G m p l e R s mth args below meth cd Q) d hs K (am_go (pc + 1, ls, (0, am_sl h) :: r, h, c, s0))) : am_Gl G m p l e R s mth args below meth cd Q (pc, ls, st, h, c, s0) := by
  obtain ⟨hx, hb, hml, hown, hts, hW, hR, hlk, htr, hin⟩ := C
  subst hst0
  intro H locs arr sv hH hS hL hst hc hs0
  dsimp only at hH hL hst hc hs0 ⊢
  have hq := am_RS_inv hst
  clear hst
  obtain ⟨VA, sv, rfl, hVA, hst⟩ := hq
  have hVA : VA = .ref (eb G) := hVA
  subst hVA
  have hbs : eb G < s.heap.size := Nat.lt_of_lt_of_le hW.2.2.2.2.1 hW.2.2.2.2.2.1
  refine va_slen hx hb hW.2.2.2.1 hbs (by have := hW.2.2.2.2.1; omega) hS hd ?_
  refine w H locs arr _ hH hS hL ⟨⟨_, rfl, ?_⟩, hst⟩ hc hs0
  have := hW.2.2.2.2.2.2
  rw [Int32.toInt_ofNat_of_lt (by omega)]
  exact hH.2.1.1
theorem am_i_sald (C : am_Cx G l d m p R s mth args meth cd) {z i : Int} {r : List AV} (hst0 : st = (0, i) :: (4, z) :: r) (hd : decode (am_cd m) pc = .ok (.iaload, 1)) (w : am_stp X (am_Gl G m p l e R s mth args below meth cd Q) d hs K (am_ck (0 ≤ i ∧ i < am_sl h) (pc + 1, ls, (0, am_sx h i) :: r, h, c, s0))) : am_Gl G m p l e R s mth args below meth cd Q (pc, ls, st, h, c, s0) := by
  obtain ⟨hx, hb, hml, hown, hts, hW, hR, hlk, htr, hin⟩ := C
  subst hst0
  obtain ⟨⟨hi0, hi1⟩, w⟩ := w
  intro H locs arr sv hH hS hL hst hc hs0
  dsimp only at hH hL hst hc hs0 ⊢
  have hq := am_RS_inv hst
  clear hst
  obtain ⟨VI, sv, rfl, hVI, hst⟩ := hq
  have hq := am_RS_inv hst
  clear hst
  obtain ⟨VA, sv, rfl, hVA, hst⟩ := hq
  obtain ⟨x, rfl, rfl⟩ := hVI
  have hVA : VA = .ref (eb G) := hVA
  subst hVA
  have hbs : eb G < s.heap.size := Nat.lt_of_lt_of_le hW.2.2.2.2.1 hW.2.2.2.2.2.1
  rw [hH.2.1.1] at hi1
  obtain ⟨k1, k2, k3⟩ := am_ix hi0 hi1
  refine va_sld hx hb hW.2.2.2.1 hbs (by have := hW.2.2.2.2.1; omega) hS k1 hd ?_
  exact w H locs arr _ hH hS hL ⟨⟨_, rfl, by rw [← k3]; exact hH.2.1.2 _ k2⟩, hst⟩ hc hs0
theorem am_i_tval (C : am_Cx G l d m p R s mth args meth cd) {z : Int} {r : List AV} {idx : Nat} (hst0 : st = (5, z) :: r) (hw : Cond.fieldLink (am_mn m).cls idx "java/lang/String" "value" "[B" ∈ am_W) (hd : decode (am_cd m) pc = .ok (.getfield idx, 3)) (w : am_stp X (am_Gl G m p l e R s mth args below meth cd Q) d hs K (am_go (pc + 3, ls, (7, z) :: r, h, c, s0))) : am_Gl G m p l e R s mth args below meth cd Q (pc, ls, st, h, c, s0) := by
  obtain ⟨hx, hb, hml, hown, hts, hW, hR, hlk, htr, hin⟩ := C
  subst hst0
  intro H locs arr sv hH hS hL hst hc hs0
  dsimp only at hH hL hst hc hs0 ⊢
  have hq := am_RS_inv hst
  clear hst
  obtain ⟨VA, sv, rfl, hVA, hst⟩ := hq
  obtain ⟨z0, z1, rfl⟩ := hVA
  obtain ⟨-, -, s3, -⟩ := hW.2.1 z.toNat (by simp only at z1; omega)
  refine vk_getf hx hb s3 hS hown (hts _ hw) (fun x hx => hx) hd ?_
  exact w H locs arr _ hH hS hL ⟨⟨z0, z1, rfl⟩, hst⟩ hc hs0
theorem am_i_tcoder (C : am_Cx G l d m p R s mth args meth cd) {z : Int} {r : List AV} {idx : Nat} (hst0 : st = (5, z) :: r) (hw : Cond.fieldLink (am_mn m).cls idx "java/lang/String" "coder" "B" ∈ am_W) (hd : decode (am_cd m) pc = .ok (.getfield idx, 3)) (w : am_stp X (am_Gl G m p l e R s mth args below meth cd Q) d hs K (am_go (pc + 3, ls, (0, 0) :: r, h, c, s0))) : am_Gl G m p l e R s mth args below meth cd Q (pc, ls, st, h, c, s0) := by
  obtain ⟨hx, hb, hml, hown, hts, hW, hR, hlk, htr, hin⟩ := C
  subst hst0
  intro H locs arr sv hH hS hL hst hc hs0
  dsimp only at hH hL hst hc hs0 ⊢
  have hq := am_RS_inv hst
  clear hst
  obtain ⟨VA, sv, rfl, hVA, hst⟩ := hq
  obtain ⟨z0, z1, rfl⟩ := hVA
  obtain ⟨-, s2, -, -⟩ := hW.2.1 z.toNat (by simp only at z1; omega)
  refine vk_getf hx hb s2 hS hown (hts _ hw) (fun x hx => hx) hd ?_
  exact w H locs arr _ hH hS hL ⟨⟨0, rfl, rfl⟩, hst⟩ hc hs0
theorem am_tn_eq (j : Nat) : am_tn (j : Int) = ((am_nth am_tx j []).length : Int) := by
  have e : ∀ (l : List (List Int)) (j : Nat), l.getD j [] = am_nth l j [] := by
    intro l
    induction l with
    | nil => intro j; simp [am_nth]
    | cons a r ih =>
      intro j
      cases j with
      | zero => simp [am_nth]
      | succ j => simpa [am_nth] using ih j
  unfold am_tn
  rw [e]
  simp
theorem am_tb_small : ∀ j : Nat, j < 25 → (am_nth am_tx j []).length ≤ 200 ∧ ∀ i : Nat, i < (am_nth am_tx j []).length → 0 ≤ am_tb (j : Int) (i : Int) ∧ am_tb (j : Int) (i : Int) < 128 := by decide +kernel
theorem am_i_tbald (C : am_Cx G l d m p R s mth args meth cd) {z i : Int} {r : List AV} (hst0 : st = (0, i) :: (7, z) :: r) (hd : decode (am_cd m) pc = .ok (.baload, 1)) (w : am_stp X (am_Gl G m p l e R s mth args below meth cd Q) d hs K (am_ck (0 ≤ i ∧ i < am_tn z) (pc + 1, ls, (0, am_tb z i) :: r, h, c, s0))) : am_Gl G m p l e R s mth args below meth cd Q (pc, ls, st, h, c, s0) := by
  obtain ⟨hx, hb, hml, hown, hts, hW, hR, hlk, htr, hin⟩ := C
  subst hst0
  obtain ⟨⟨hi0, hi1⟩, w⟩ := w
  intro H locs arr sv hH hS hL hst hc hs0
  dsimp only at hH hL hst hc hs0 ⊢
  have hq := am_RS_inv hst
  clear hst
  obtain ⟨VI, sv, rfl, hVI, hst⟩ := hq
  have hq := am_RS_inv hst
  clear hst
  obtain ⟨VA, sv, rfl, hVA, hst⟩ := hq
  obtain ⟨x, rfl, rfl⟩ := hVI
  obtain ⟨z0, z1, rfl⟩ := hVA
  simp only at z0 z1
  have ez : z = (z.toNat : Int) := by omega
  obtain ⟨-, -, -, s4⟩ := hW.2.1 z.toNat (by omega)
  rw [ez, am_tn_eq] at hi1
  obtain ⟨k1, k2, k3⟩ := am_ix hi0 hi1
  refine va_tb hx hb s4 hS k1 rfl hd ?_
  refine w H locs arr _ hH hS hL ⟨⟨_, rfl, ?_⟩, hst⟩ hc hs0
  have := (am_tb_small z.toNat (by omega)).2 _ k2
  rw [am_ofInt (by omega), ← ez, k3]
theorem am_i_tlen (C : am_Cx G l d m p R s mth args meth cd) {z : Int} {r : List AV} (hst0 : st = (7, z) :: r) (hd : decode (am_cd m) pc = .ok (.arraylength, 1)) (w : am_stp X (am_Gl G m p l e R s mth args below meth cd Q) d hs K (am_go (pc + 1, ls, (0, am_tn z) :: r, h, c, s0))) : am_Gl G m p l e R s mth args below meth cd Q (pc, ls, st, h, c, s0) := by
  obtain ⟨hx, hb, hml, hown, hts, hW, hR, hlk, htr, hin⟩ := C
  subst hst0
  intro H locs arr sv hH hS hL hst hc hs0
  dsimp only at hH hL hst hc hs0 ⊢
  have hq := am_RS_inv hst
  clear hst
  obtain ⟨VA, sv, rfl, hVA, hst⟩ := hq
  obtain ⟨z0, z1, rfl⟩ := hVA
  simp only at z0 z1
  have ez : z = (z.toNat : Int) := by omega
  obtain ⟨-, -, -, cell, q1, q2, q3, q4, q5, q6, q7⟩ := hW.2.1 z.toNat (by omega)
  refine W.alen hx hb (by rw [hS.2.1 _ (Array.getElem?_eq_some_iff.mp q1).1 q7]; exact q1) q2 q5 rfl rfl hd ?_
  refine w H locs arr _ hH hS hL ⟨⟨_, rfl, ?_⟩, hst⟩ hc hs0
  have := (am_tb_small z.toNat (by omega)).1
  show am_tn z = (Int32.ofNat (am_nth am_tx z.toNat []).length).toInt
  rw [Int32.toInt_ofNat_of_lt (by omega), ← am_tn_eq, ← ez]
theorem am_i_wlen (C : am_Cx G l d m p R s mth args meth cd) {z : Int} {r : List AV} (hst0 : st = (6, z) :: r) (hd : decode (am_cd m) pc = .ok (.arraylength, 1)) (w : am_stp X (am_Gl G m p l e R s mth args below meth cd Q) d hs K (am_go (pc + 1, ls, (0, 22) :: r, h, c, s0))) : am_Gl G m p l e R s mth args below meth cd Q (pc, ls, st, h, c, s0) := by
  obtain ⟨hx, hb, hml, hown, hts, hW, hR, hlk, htr, hin⟩ := C
  subst hst0
  intro H locs arr sv hH hS hL hst hc hs0
  dsimp only at hH hL hst hc hs0 ⊢
  have hq := am_RS_inv hst
  clear hst
  obtain ⟨VA, sv, rfl, hVA, hst⟩ := hq
  have hVA : VA = .ref (ew G) := hVA
  subst hVA
  obtain ⟨-, ⟨cell, q1, q2, q3, q4, q5, q6, q7⟩, -⟩ := hW.2.2.1
  refine W.alen hx hb (by rw [hS.2.1 _ (Array.getElem?_eq_some_iff.mp q1).1 q7]; exact q1) q2 q5 rfl rfl hd ?_
  exact w H locs arr _ hH hS hL ⟨⟨_, rfl, rfl⟩, hst⟩ hc hs0
theorem am_i_wald (C : am_Cx G l d m p R s mth args meth cd) {z i : Int} {r : List AV} (hst0 : st = (0, i) :: (6, z) :: r) (hd : decode (am_cd m) pc = .ok (.aaload, 1)) (w : am_stp X (am_Gl G m p l e R s mth args below meth cd Q) d hs K (am_ck (0 ≤ i ∧ i < 22) (pc + 1, ls, (5, 3 + i) :: r, h, c, s0))) : am_Gl G m p l e R s mth args below meth cd Q (pc, ls, st, h, c, s0) := by
  obtain ⟨hx, hb, hml, hown, hts, hW, hR, hlk, htr, hin⟩ := C
  subst hst0
  obtain ⟨⟨hi0, hi1⟩, w⟩ := w
  intro H locs arr sv hH hS hL hst hc hs0
  dsimp only at hH hL hst hc hs0 ⊢
  have hq := am_RS_inv hst
  clear hst
  obtain ⟨VI, sv, rfl, hVI, hst⟩ := hq
  have hq := am_RS_inv hst
  clear hst
  obtain ⟨VA, sv, rfl, hVA, hst⟩ := hq
  obtain ⟨x, rfl, rfl⟩ := hVI
  have hVA : VA = .ref (ew G) := hVA
  subst hVA
  obtain ⟨k1, k2, k3⟩ := am_ix (n := 22) hi0 hi1
  refine vb_tq hx hb hW.2.2.1.2.1 hS k1 rfl hd ?_
  refine w H locs arr _ hH hS hL ⟨⟨by simp only; omega, by simp only; omega, ?_⟩, hst⟩ hc hs0
  simp only
  congr 2
  omega
theorem am_i_gs60 (C : am_Cx G l d m p R s mth args meth cd) {idx : Nat} (hw : Cond.fieldLink (am_mn m).cls idx "java/lang/String" "COMPACT_STRINGS" "Z" ∈ am_W) (hd : decode (am_cd m) pc = .ok (.getstatic idx, 3)) (w : am_stp X (am_Gl G m p l e R s mth args below meth cd Q) d hs K (am_go (pc + 3, ls, (0, 1) :: st, h, c, s0))) : am_Gl G m p l e R s mth args below meth cd Q (pc, ls, st, h, c, s0) := by
  obtain ⟨hx, hb, hml, hown, hts, hW, hR, hlk, htr, hin⟩ := C
  intro H locs arr sv hH hS hL hst hc hs0
  dsimp only at hH hL hst hc hs0 ⊢
  refine va_gets hx hb hW.2.2.1.2.2.1 hS hown (hts _ hw) (fun x hx => hx) hd ?_
  exact w H locs arr _ hH hS hL ⟨⟨1, rfl, rfl⟩, hst⟩ hc hs0
theorem am_i_gs61 (C : am_Cx G l d m p R s mth args meth cd) {idx : Nat} (hw : Cond.fieldLink (am_mn m).cls idx "BudgetJuryModel" "WORDS" "[Ljava/lang/String;" ∈ am_W) (hd : decode (am_cd m) pc = .ok (.getstatic idx, 3)) (w : am_stp X (am_Gl G m p l e R s mth args below meth cd Q) d hs K (am_go (pc + 3, ls, (6, 0) :: st, h, c, s0))) : am_Gl G m p l e R s mth args below meth cd Q (pc, ls, st, h, c, s0) := by
  obtain ⟨hx, hb, hml, hown, hts, hW, hR, hlk, htr, hin⟩ := C
  intro H locs arr sv hH hS hL hst hc hs0
  dsimp only at hH hL hst hc hs0 ⊢
  refine va_gets hx hb hW.2.2.1.1 hS hown (hts _ hw) (fun x hx => hx) hd ?_
  exact w H locs arr _ hH hS hL ⟨rfl, hst⟩ hc hs0
theorem am_i_gs62 (C : am_Cx G l d m p R s mth args meth cd) {idx : Nat} (hw : Cond.fieldLink (am_mn m).cls idx "jdk/internal/util/Preconditions" "SIOOBE_FORMATTER" "Ljava/util/function/BiFunction;" ∈ am_W) (hd : decode (am_cd m) pc = .ok (.getstatic idx, 3)) (w : am_stp X (am_Gl G m p l e R s mth args below meth cd Q) d hs K (am_go (pc + 3, ls, (11, 0) :: st, h, c, s0))) : am_Gl G m p l e R s mth args below meth cd Q (pc, ls, st, h, c, s0) := by
  obtain ⟨hx, hb, hml, hown, hts, hW, hR, hlk, htr, hin⟩ := C
  intro H locs arr sv hH hS hL hst hc hs0
  dsimp only at hH hL hst hc hs0 ⊢
  rcases hW.2.2.1.2.2.2.1 with hz | ⟨t, hz⟩
  · refine va_gets hx hb hz hS hown (hts _ hw) (fun x hx => hx) hd ?_
    exact w H locs arr _ hH hS hL ⟨Or.inl rfl, hst⟩ hc hs0
  · refine va_gets hx hb hz hS hown (hts _ hw) (fun x hx => hx) hd ?_
    exact w H locs arr _ hH hS hL ⟨Or.inr ⟨t, rfl⟩, hst⟩ hc hs0
theorem am_i_ldci (C : am_Cx G l d m p R s mth args meth cd) {idx : Nat} {v : Int} (hv : -2147483648 ≤ v ∧ v < 2147483648) (hw : Cond.constant (am_mn m).cls idx (Int32.ofInt v) ∈ am_W) (hd : decode (am_cd m) pc = .ok (.ldc idx, 2)) (w : am_stp X (am_Gl G m p l e R s mth args below meth cd Q) d hs K (am_go (pc + 2, ls, (0, v) :: st, h, c, s0))) : am_Gl G m p l e R s mth args below meth cd Q (pc, ls, st, h, c, s0) := by
  obtain ⟨hx, hb, hml, hown, hts, hW, hR, hlk, htr, hin⟩ := C
  intro H locs arr sv hH hS hL hst hc hs0
  dsimp only at hH hL hst hc hs0 ⊢
  refine lv_ldc hx hb hown (hts _ hw) hd ?_
  exact w H locs arr _ hH hS hL ⟨⟨_, rfl, (am_ofInt hv).symm⟩, hst⟩ hc hs0
theorem am_i_ldcwi (C : am_Cx G l d m p R s mth args meth cd) {idx : Nat} {v : Int} (hv : -2147483648 ≤ v ∧ v < 2147483648) (hw : Cond.constant (am_mn m).cls idx (Int32.ofInt v) ∈ am_W) (hd : decode (am_cd m) pc = .ok (.ldc_w idx, 3)) (w : am_stp X (am_Gl G m p l e R s mth args below meth cd Q) d hs K (am_go (pc + 3, ls, (0, v) :: st, h, c, s0))) : am_Gl G m p l e R s mth args below meth cd Q (pc, ls, st, h, c, s0) := by
  obtain ⟨hx, hb, hml, hown, hts, hW, hR, hlk, htr, hin⟩ := C
  intro H locs arr sv hH hS hL hst hc hs0
  dsimp only at hH hL hst hc hs0 ⊢
  refine lv_ldcw hx hb hown (hts _ hw) hd ?_
  exact w H locs arr _ hH hS hL ⟨⟨_, rfl, (am_ofInt hv).symm⟩, hst⟩ hc hs0
theorem am_i_ldcl (C : am_Cx G l d m p R s mth args meth cd) {idx : Nat} {v : Int} (hv : 0 ≤ v ∧ v < 2147483648) (hw : Cond.constantLong (am_mn m).cls idx (Int64.ofInt v) ∈ am_W) (hd : decode (am_cd m) pc = .ok (.ldc2_w idx, 3)) (w : am_stp X (am_Gl G m p l e R s mth args below meth cd Q) d hs K (am_go (pc + 3, ls, (1, v) :: st, h, c, s0))) : am_Gl G m p l e R s mth args below meth cd Q (pc, ls, st, h, c, s0) := by
  obtain ⟨hx, hb, hml, hown, hts, hW, hR, hlk, htr, hin⟩ := C
  intro H locs arr sv hH hS hL hst hc hs0
  dsimp only at hH hL hst hc hs0 ⊢
  refine lv_ldc2 hx hb hown (hts _ hw) hd ?_
  refine w H locs arr _ hH hS hL ⟨⟨_, rfl, ?_⟩, hst⟩ hc hs0
  rw [Int64.toInt_ofInt]
  show v = v.bmod 18446744073709551616
  rw [Int.bmod_eq_of_le] <;> omega
theorem am_i_ldct (C : am_Cx G l d m p R s mth args meth cd) {idx j : Nat} (hj : j < 25) (ho : (am_own j).1 = (am_mn m).cls ∧ (am_own j).2.1 = idx) (hd : decode (am_cd m) pc = .ok (.ldc idx, 2)) (w : am_stp X (am_Gl G m p l e R s mth args below meth cd Q) d hs K (am_go (pc + 2, ls, (5, (j : Int)) :: st, h, c, s0))) : am_Gl G m p l e R s mth args below meth cd Q (pc, ls, st, h, c, s0) := by
  obtain ⟨hx, hb, hml, hown, hts, hW, hR, hlk, htr, hin⟩ := C
  intro H locs arr sv hH hS hL hst hc hs0
  dsimp only at hH hL hst hc hs0 ⊢
  have hZ := hW.1.2.2.1 j hj
  rw [ho.1, ho.2] at hZ
  refine va_ldcS hx hb hown hZ hd ?_
  exact w H locs arr _ hH hS hL ⟨⟨by simp only; omega, by simp only; omega, by simp⟩, hst⟩ hc hs0
theorem am_i_mmin (C : am_Cx G l d m p R s mth args meth cd) {idx : Nat} (hw1 : Cond.methodLink (am_mn m).cls idx Lib.Math.min.name ∈ am_W) (hw2 : Cond.static Lib.Math.min.name ∈ am_W) (hw3 : Cond.initialized "java/lang/Math" ∈ am_W) (hw4 : Cond.code Lib.Math.min.name Lib.Math.min.code 2 (some .int) ∈ am_W) (hd : decode (am_cd m) pc = .ok (.invokestatic idx, 3)) (w : am_stp X (am_Gl G m p l e R s mth args below meth cd Q) d hs K (am_pI st fun b r => am_pI r fun a r => am_few r (am_go (pc + 3, ls, (0, min a b) :: r, h, c, s0)))) : am_Gl G m p l e R s mth args below meth cd Q (pc, ls, st, h, c, s0) := by
  obtain ⟨hx, hb, hml, hown, hts, hW, hR, hlk, htr, hin⟩ := C
  have w1 := am_pI_inv w
  clear w
  obtain ⟨b, r, rfl, w⟩ := w1
  have w1 := am_pI_inv w
  clear w
  obtain ⟨a, r, rfl, w⟩ := w1
  obtain ⟨hfew, w⟩ := am_few_inv w
  intro H locs arr sv hH hS hL hst hc hs0
  dsimp only at hH hL hst hc hs0 ⊢
  have hq := am_RS_inv hst
  clear hst
  obtain ⟨VB, sv, rfl, hVB, hst⟩ := hq
  have hq := am_RS_inv hst
  clear hst
  obtain ⟨VA, sv, rfl, hVA, hst⟩ := hq
  obtain ⟨y, rfl, rfl⟩ := hVB
  obtain ⟨x, rfl, rfl⟩ := hVA
  have hcat := am_RS_cat hst
  refine va_mmin hx hb (hml.trans hL.1.symm) hown (hts _ hw1) (hts _ hw2) (hts _ hw3) (hts _ hw4) (by omega) (by rw [hcat]; omega) hc hs0 hd ?_
  refine w H locs arr _ hH hS hL ⟨⟨_, rfl, ?_⟩, hst⟩ hc hs0
  simp only
  split
  · rename_i hh
    have := Int32.lt_iff_toInt_lt.mp hh
    omega
  · rename_i hh
    have : ¬ _ := fun q => hh (Int32.lt_iff_toInt_lt.mpr q)
    omega
theorem am_i_mmax (C : am_Cx G l d m p R s mth args meth cd) {idx : Nat} (hw1 : Cond.methodLink (am_mn m).cls idx Lib.Math.max.name ∈ am_W) (hw2 : Cond.static Lib.Math.max.name ∈ am_W) (hw3 : Cond.initialized "java/lang/Math" ∈ am_W) (hw4 : Cond.code Lib.Math.max.name Lib.Math.max.code 2 (some .int) ∈ am_W) (hd : decode (am_cd m) pc = .ok (.invokestatic idx, 3)) (w : am_stp X (am_Gl G m p l e R s mth args below meth cd Q) d hs K (am_pI st fun b r => am_pI r fun a r => am_few r (am_go (pc + 3, ls, (0, max a b) :: r, h, c, s0)))) : am_Gl G m p l e R s mth args below meth cd Q (pc, ls, st, h, c, s0) := by
  obtain ⟨hx, hb, hml, hown, hts, hW, hR, hlk, htr, hin⟩ := C
  have w1 := am_pI_inv w
  clear w
  obtain ⟨b, r, rfl, w⟩ := w1
  have w1 := am_pI_inv w
  clear w
  obtain ⟨a, r, rfl, w⟩ := w1
  obtain ⟨hfew, w⟩ := am_few_inv w
  intro H locs arr sv hH hS hL hst hc hs0
  dsimp only at hH hL hst hc hs0 ⊢
  have hq := am_RS_inv hst
  clear hst
  obtain ⟨VB, sv, rfl, hVB, hst⟩ := hq
  have hq := am_RS_inv hst
  clear hst
  obtain ⟨VA, sv, rfl, hVA, hst⟩ := hq
  obtain ⟨y, rfl, rfl⟩ := hVB
  obtain ⟨x, rfl, rfl⟩ := hVA
  have hcat := am_RS_cat hst
  refine va_mmax hx hb (hml.trans hL.1.symm) hown (hts _ hw1) (hts _ hw2) (hts _ hw3) (hts _ hw4) (by omega) (by rw [hcat]; omega) hc hs0 hd ?_
  refine w H locs arr _ hH hS hL ⟨⟨_, rfl, ?_⟩, hst⟩ hc hs0
  simp only
  split
  · rename_i hh
    have := Int32.lt_iff_toInt_lt.mp hh
    omega
  · rename_i hh
    have : ¬ _ := fun q => hh (Int32.lt_iff_toInt_lt.mpr q)
    omega
theorem am_i_objinit (C : am_Cx G l d m p R s mth args meth cd) {idx : Nat} (hw1 : Cond.methodLink (am_mn m).cls idx Lib.objectInit ∈ am_W) (hw2 : Cond.instanceMethod Lib.objectInit ∈ am_W) (hw3 : Cond.code Lib.objectInit ⟨#[0xb1]⟩ 1 none ∈ am_W) (hd : decode (am_cd m) pc = .ok (.invokespecial idx, 3)) (w : am_stp X (am_Gl G m p l e R s mth args below meth cd Q) d hs K (am_pR st fun a r => am_few r (am_ck (0 ≤ a) (pc + 3, ls, r, h, c, s0)))) : am_Gl G m p l e R s mth args below meth cd Q (pc, ls, st, h, c, s0) := by
  obtain ⟨hx, hb, hml, hown, hts, hW, hR, hlk, htr, hin⟩ := C
  have w1 := am_pR_inv w
  clear w
  obtain ⟨a, r, rfl, w⟩ := w1
  obtain ⟨hfew, ha0, w⟩ := am_few_inv w
  intro H locs arr sv hH hS hL hst hc hs0
  dsimp only at hH hL hst hc hs0 ⊢
  have hq := am_RS_inv hst
  clear hst
  obtain ⟨VA, sv, rfl, hVA, hst⟩ := hq
  have hVaa : VA = .ref (eB G + a.toNat) := by
    rcases hVA with ⟨hV, -⟩ | ⟨-, hV⟩
    · simp only at hV
      omega
    · exact hV
  subst hVaa
  have hcat := am_RS_cat hst
  have := hR.1
  refine W.objInit hx hb hown (hts _ hw1) (hts _ hw2) (hts _ hw3) rfl (hL.1.trans hml.symm) rfl hd (by omega) (by rw [hcat]; show 2 * 0 + _ + 12 ≤ _; omega) ?_
  exact w H locs arr sv hH hS hL hst hc hs0
/-- a switch: the goals as the abstract machine lists them -/
theorem am_swP_at {x : Int} {e0 : AC} : ∀ {l : List (Int × AC)} {k : Nat} {v : Int} {c1 : AC}, am_swP Z x e0 l → l[k]? = some (v, c1) → x = v → (∀ j v' c', j < k → l[j]? = some (v', c') → v' ≠ v) → Z c1
  | [], k, v, c1, w, hk, hx, hb => by simp at hk
  | (v0, c0) :: r, 0, v, c1, w, hk, hx, hb => by
    cases hk
    exact w.1 hx
  | (v0, c0) :: r, k + 1, v, c1, w, hk, hx, hb => by
    have h0 := hb 0 v0 c0 (by omega) rfl
    exact am_swP_at (w.2 (fun z => h0 (z.symm.trans hx))) hk hx (fun j v' c' hj hl => hb (j + 1) v' c' (by omega) hl)
theorem am_swP_no {x : Int} {e0 : AC} : ∀ {l : List (Int × AC)}, am_swP Z x e0 l → (∀ q ∈ l, x ≠ q.1) → Z e0
  | [], w, _ => w
  | (v0, c0) :: r, w, hn => am_swP_no (w.2 (hn (v0, c0) List.mem_cons_self)) (fun q hq => hn q (List.mem_cons_of_mem _ hq))
theorem am_i_tsw (C : am_Cx G l d m p R s mth args meth cd) {dflt lo hi : Int} {offs : Array Int} {len r1 : Nat} {zs : List (Int × Nat)} (hz1 : zs.length = offs.size) (hz2 : lo + (offs.size : Int) = hi + 1) (hz3 : ∀ k : Nat, k < offs.size → ∃ off t, offs[k]? = some off ∧ zs[k]? = some (lo + (k : Int), t) ∧ (pc : Int) + off = (t : Int)) (hz4 : (pc : Int) + dflt = (r1 : Int)) (hd : decode (am_cd m) pc = .ok (.tableswitch dflt lo hi offs, len)) (w : am_stp X (am_Gl G m p l e R s mth args below meth cd Q) d hs K (am_pI st fun a r => am_sw a (zs.map fun z => (z.1, (z.2, ls, r, h, c, s0))) (r1, ls, r, h, c, s0))) : am_Gl G m p l e R s mth args below meth cd Q (pc, ls, st, h, c, s0) := by
  obtain ⟨hx, hb, hml, hown, hts, hW, hR, hlk, htr, hin⟩ := C
  have w1 := am_pI_inv w
  clear w
  obtain ⟨a, r, rfl, w⟩ := w1
  intro H locs arr sv hH hS hL hst hc hs0
  dsimp only at hH hL hst hc hs0 ⊢
  have hq := am_RS_inv hst
  clear hst
  obtain ⟨VA, sv, rfl, hVA, hst⟩ := hq
  obtain ⟨x, rfl, rfl⟩ := hVA
  have w : am_swP (am_Gl G m p l e R s mth args below meth cd Q) x.toInt (r1, ls, r, h, c, s0) (zs.map fun z => (z.1, (z.2, ls, r, h, c, s0))) := w
  have hval : ∀ (j : Nat) (v : Int) (c' : AC), (zs.map fun z => (z.1, (z.2, ls, r, h, c, s0)))[j]? = some (v, c') → j < offs.size ∧ v = lo + (j : Int) := by
    intro j v c' hj
    rw [List.getElem?_map] at hj
    cases hzj : zs[j]? with
    | none => rw [hzj] at hj; cases hj
    | some z =>
      have hjl : j < zs.length := (List.getElem?_eq_some_iff.mp hzj).1
      obtain ⟨off, t, -, e2, -⟩ := hz3 j (by omega)
      rw [hzj] at hj e2
      cases e2
      cases hj
      exact ⟨by omega, rfl⟩
  by_cases h1 : x.toInt < lo ∨ hi < x.toInt
  · refine lv_tableOut hx hb hd h1 hz4 ?_
    refine am_swP_no w (fun q hq => ?_) H locs arr sv hH hS hL hst hc hs0
    obtain ⟨j, hj⟩ := List.getElem?_of_mem hq
    obtain ⟨v, c'⟩ := q
    obtain ⟨g1, g2⟩ := hval j v c' hj
    simp only
    omega
  · obtain ⟨off, t, e1, e2, e3⟩ := hz3 (x.toInt - lo).toNat (by omega)
    refine lv_tableIn hx hb hd (fun z => h1 (Or.inl z)) (fun z => h1 (Or.inr z)) e1 e3 ?_
    have e2' : (zs.map fun z => (z.1, (z.2, ls, r, h, c, s0)))[(x.toInt - lo).toNat]? = some (lo + ((x.toInt - lo).toNat : Int), (t, ls, r, h, c, s0)) := by rw [List.getElem?_map, e2]; rfl
    refine am_swP_at w e2' (by omega) (fun j v' c' hj hl => ?_) H locs arr sv hH hS hL hst hc hs0
    obtain ⟨g1, g2⟩ := hval j v' c' hl
    omega
theorem am_i_lsw (C : am_Cx G l d m p R s mth args meth cd) {dflt : Int} {ps : Array (Int × Int)} {len r1 : Nat} {zs : List (Int × Nat)} (hz1 : (ps.toList.zip (ps.toList.drop 1)).all (fun (a, next) => a.1 < next.1) = true) (hz2 : zs.length = ps.toList.length) (hz3 : ∀ k : Nat, k < ps.toList.length → ∃ v off t, ps.toList[k]? = some (v, off) ∧ zs[k]? = some (v, t) ∧ (pc : Int) + off = (t : Int)) (hz4 : (pc : Int) + dflt = (r1 : Int)) (hd : decode (am_cd m) pc = .ok (.lookupswitch dflt ps, len)) (w : am_stp X (am_Gl G m p l e R s mth args below meth cd Q) d hs K (am_pI st fun a r => am_sw a (zs.map fun z => (z.1, (z.2, ls, r, h, c, s0))) (r1, ls, r, h, c, s0))) : am_Gl G m p l e R s mth args below meth cd Q (pc, ls, st, h, c, s0) := by
  obtain ⟨hx, hb, hml, hown, hts, hW, hR, hlk, htr, hin⟩ := C
  have w1 := am_pI_inv w
  clear w
  obtain ⟨a, r, rfl, w⟩ := w1
  intro H locs arr sv hH hS hL hst hc hs0
  dsimp only at hH hL hst hc hs0 ⊢
  have hq := am_RS_inv hst
  clear hst
  obtain ⟨VA, sv, rfl, hVA, hst⟩ := hq
  obtain ⟨x, rfl, rfl⟩ := hVA
  have w : am_swP (am_Gl G m p l e R s mth args below meth cd Q) x.toInt (r1, ls, r, h, c, s0) (zs.map fun z => (z.1, (z.2, ls, r, h, c, s0))) := w
  have key : ∀ (ps' : List (Int × Int)) (zs' : List (Int × Nat)), zs'.length = ps'.length → (∀ k : Nat, k < ps'.length → ∃ v off t, ps'[k]? = some (v, off) ∧ zs'[k]? = some (v, t) ∧ (pc : Int) + off = (t : Int)) → am_swP (am_Gl G m p l e R s mth args below meth cd Q) x.toInt (r1, ls, r, h, c, s0) (zs'.map fun z => (z.1, (z.2, ls, r, h, c, s0))) →
      ∃ (off : Int) (t : Nat), Op.lookupswitch.offset ps' dflt x.toInt = off ∧ (pc : Int) + off = (t : Int) ∧ am_Gl G m p l e R s mth args below meth cd Q (t, ls, r, h, c, s0) := by
    intro ps'
    induction ps' with
    | nil =>
      intro zs' hl hk hw
      cases zs' with
      | nil => exact ⟨dflt, r1, rfl, hz4, hw⟩
      | cons a b => simp at hl
    | cons q0 ps' ih =>
      intro zs' hl hk hw
      cases zs' with
      | nil => simp at hl
      | cons z0 zs' =>
        obtain ⟨v, off, t, e1, e2, e3⟩ := hk 0 (by simp)
        simp at e1 e2
        subst e1
        subst e2
        by_cases hxv : x.toInt = v
        · refine ⟨off, t, ?_, e3, hw.1 hxv⟩
          rw [Op.lookupswitch.offset_cons, if_pos hxv.symm]
        · obtain ⟨o2, t2, f1, f2, f3⟩ := ih zs' (by simpa using hl) (fun k hk2 => by
            obtain ⟨v, off, t, e1, e2, e3⟩ := hk (k + 1) (by simpa using hk2)
            exact ⟨v, off, t, by simpa using e1, by simpa using e2, e3⟩) (hw.2 hxv)
          refine ⟨o2, t2, ?_, f2, f3⟩
          rw [Op.lookupswitch.offset_cons, if_neg (fun z => hxv z.symm)]
          exact f1
  obtain ⟨off, t, f1, f2, f3⟩ := key ps.toList zs hz2 hz3 w
  refine lv_lookup hx hb hd hz1 f1 f2 ?_
  exact f3 H locs arr sv hH hS hL hst hc hs0
end SIM
end
section
/-! ===== calls, ends and throws ===== -/
/-- the instruction at a method's end and what stands on the stack there -/
def am_rok (G : am_En) (m pc : Nat) (r : Int) (st : List Value) : Prop :=
  (decode (am_cd m) pc = .ok (.ireturn, 1) ∧ ∃ (x : Int32) (ty : FieldType), st = [.int x] ∧ r = x.toInt ∧ am_re m = some ty ∧ narrow ty (.int x) = .int x ∧ am_rtt m = 0) ∨
  (decode (am_cd m) pc = .ok (.lreturn, 1) ∧ ∃ x : Int64, st = [.long x] ∧ r = x.toInt ∧ am_re m = some .long ∧ am_rtt m = 1) ∨
  (decode (am_cd m) pc = .ok (.dreturn, 1) ∧ ∃ x : UInt64, st = [.double x] ∧ r = (x.toNat : Int) ∧ am_re m = some .double ∧ am_rtt m = 3) ∨
  (decode (am_cd m) pc = .ok (.areturn, 1) ∧ ∃ (V : Value) (rt : FieldType), st = [V] ∧ am_RV G (2, r) V ∧ am_re m = some rt ∧ ((∃ n, rt = .object n) ∨ ∃ t, rt = .array t) ∧ am_rtt m = 2) ∨
  (decode (am_cd m) pc = .ok (.return_, 1) ∧ st = [] ∧ am_re m = none ∧ am_rtt m = 9)
/-- the five instructions of a throw -/
def am_tok (m pc k : Nat) : Prop := ∃ (ik is ic : Nat) (tx : String), 1 ≤ k ∧ k ≤ 3 ∧ decode (am_cd m) pc = .ok (.new ik, 3) ∧ decode (am_cd m) (pc + 3) = .ok (.dup, 1) ∧ decode (am_cd m) (pc + 4) = .ok (.ldc is, 2) ∧ decode (am_cd m) (pc + 6) = .ok (.invokespecial ic, 3) ∧ decode (am_cd m) (pc + 9) = .ok (.athrow, 1) ∧
  Cond.classLink (am_mn m).cls ik (am_en k) ∈ am_W ∧ Cond.initialized (am_en k) ∈ am_W ∧ ((am_mn m).cls, is, tx) ∈ am_msg ∧ (∀ w ∈ vx_atS (am_mn m).cls ic (am_en k) ["java/lang/RuntimeException", "java/lang/Exception"], (w ∈ am_W ∨ (w ∈ lw_tbl ∧ am_isN w = true)) ∧ vx_ot w = true) ∧ am_hh m = []
def am_End (G : am_En) (m : Nat) (K : AK) (p : Program) (l : Launch) (e : Env) (R : Room) (s : State) (mth : MethodId) (args : Array Value) (below : List Frame) (meth : Method) (cd : Code) (Q : State → Prop) : Prop :=
  (∀ (H : Heap) (locs : List Loc) (arr : Array Slot) (st : List Value) (h : AH) (r : Int) (pc c s0 : Nat), K 0 r h → am_rok G m pc r st → am_HM G h H → va_S (fun q => eB G ≤ q) s.heap H locs → c ≤ R.cells → s0 ≤ R.slots → W p l e R s mth args below meth cd H locs c s0 Q (F0 mth pc arr st)) ∧
  (∀ (H : Heap) (locs : List Loc) (arr : Array Slot) (st : List Value) (ast : List AV) (h : AH) (pc k c s0 : Nat), (∀ n : Int, am_n h ≤ n → K k 0 (am_sn h n)) → am_tok m pc k → arr.size = am_ml m → am_RS G ast st → am_cat ast ≤ 8 → am_HM G h H → va_S (fun q => eB G ≤ q) s.heap H locs → c + 1 ≤ R.cells → s0 + 6 ≤ R.slots → W p l e R s mth args below meth cd H locs c s0 Q (F0 mth pc arr st))
def am_Sim (G : am_En) (l : Launch) : AX := fun d m c K => ∀ (p : Program) (e : Env) (R : Room) (s : State) (mth : MethodId) (args : Array Value) (below : List Frame) (meth : Method) (cd : Code) (Q : State → Prop), am_Cx G l d m p R s mth args meth cd → cd.exceptionTable.toList = tableOf (am_hh m) → am_End G m K p l e R s mth args below meth cd Q → am_Gl G m p l e R s mth args below meth cd Q c
def am_Pc (G : am_En) (as : List AV) (h : AH) : Array Value → State → Prop := fun v U => ∃ vs : List Value, v = vs.toArray ∧ am_RS G as vs ∧ am_HM G h U.heap ∧ am_WK G U U.heap
def am_rvO (G : am_En) (rt : Nat) (r : Int) (v : Option Value) : Prop := (rt = 9 ∧ v = none) ∨ (rt ≠ 9 ∧ ∃ V, v = some V ∧ am_RV G (rt, r) V)
def am_Qc (G : am_En) (rt : Nat) (K : AK) : Array Value → State → Outcome → State → Prop := fun _ st o t => ∃ (v : Option Value) (r : Int) (h' : AH), o = .returned v ∧ am_rvO G rt r v ∧ K 0 r h' ∧ am_HM G h' t.heap ∧ va_F (fun q => eB G ≤ q) st t
def am_XC (G : am_En) (K : AK) : String → State → State → Prop := fun E st t => ∃ (k : Nat) (h' : AH), 1 ≤ k ∧ k ≤ 3 ∧ E = am_en k ∧ K k 0 h' ∧ am_HM G h' t.heap ∧ va_F (fun q => eB G ≤ q) st t
def am_rm (d m : Nat) : Room := { frames := d + 8, cells := (am_cap m).1, slots := (am_cap m).2, locals := 40 * d + 200 }
theorem am_Pc_blind {G : am_En} {as : List AV} {h : AH} : FrameBlind (am_Pc G as h) := by
  intro a U g mk ⟨vs, e1, e2, e3, e4⟩
  exact ⟨vs, e1, e2, e3, am_WK.warm (State.WarmedH.refl U) e4⟩
theorem am_exp_ok {G : am_En} : ∀ {as : List AV} {vs : List Value}, am_RS G as vs → (am_exp as).length = (lg_sl vs).length ∧ (am_exp as).length = am_cat as ∧ ∀ i, am_hold (am_exp as) i → (((am_get (am_exp as) i).1 = 1 ∨ (am_get (am_exp as) i).1 = 3) → (am_get (am_exp as) (i + 1)).1 = 8) → ∃ V, (lg_sl vs)[i]? = some (.val V) ∧ am_RV G (am_get (am_exp as) i) V
  | [], [], _ => ⟨rfl, rfl, fun i hi => by simp [am_hold, am_exp, am_get] at hi⟩
  | [], _ :: _, h => h.elim
  | _ :: _, [], h => h.elim
  | (t, x) :: r, V :: vs, h => by
    obtain ⟨h1, h2⟩ := h
    obtain ⟨e1, e2, e3⟩ := am_exp_ok h2
    have hcat := am_RV_cat h1
    by_cases ht : t = 1 ∨ t = 3
    · have hc2 : V.category = 2 := by rw [hcat]; rcases ht with rfl | rfl <;> rfl
      have el : lg_sl (V :: vs) = .val V :: .second :: lg_sl vs := by simp [lg_sl, hc2]
      have ea : am_exp ((t, x) :: r) = (t, x) :: (8, 0) :: am_exp r := by rcases ht with rfl | rfl <;> rfl
      have ec : am_cat ((t, x) :: r) = 2 + am_cat r := by rcases ht with rfl | rfl <;> rfl
      rw [el, ea, ec]
      refine ⟨by simp [e1], by simp only [List.length_cons, e2]; omega, fun i hi hi2 => ?_⟩
      match i, hi, hi2 with
      | 0, hi, hi2 => exact ⟨V, rfl, h1⟩
      | 1, hi, hi2 => simp [am_hold, am_get] at hi
      | i + 2, hi, hi2 => exact e3 i hi hi2
    · have hc1 : ¬ V.category = 2 := by
        rw [hcat]
        intro z
        apply ht
        match t, z with
        | 1, _ => exact Or.inl rfl
        | 3, _ => exact Or.inr rfl
        | 0, z => simp [am_cat] at z
        | 2, z => simp [am_cat] at z
        | n + 4, z => simp [am_cat] at z
      have el : lg_sl (V :: vs) = .val V :: lg_sl vs := by simp [lg_sl, hc1]
      have ea : am_exp ((t, x) :: r) = (t, x) :: am_exp r := by
        match t, ht with
        | 0, _ => rfl
        | 2, _ => rfl
        | 1, ht => simp at ht
        | 3, ht => simp at ht
        | n + 4, _ => rfl
      have ec : am_cat ((t, x) :: r) = 1 + am_cat r := by
        match t, ht with
        | 0, _ => rfl
        | 2, _ => rfl
        | 1, ht => simp at ht
        | 3, ht => simp at ht
        | n + 4, _ => rfl
      rw [el, ea, ec]
      refine ⟨by simp [e1], by simp only [List.length_cons, e2]; omega, fun i hi hi2 => ?_⟩
      match i, hi, hi2 with
      | 0, hi, hi2 => exact ⟨V, rfl, h1⟩
      | i + 1, hi, hi2 => exact e3 i hi hi2
theorem am_get_pad : ∀ {n : Nat} {l : List AV} {i : Nat}, am_get (am_pad n l) i = if i < l.length then am_get l i else (9, 0)
  | 0, l, i => by
    unfold am_pad
    by_cases h : i < l.length
    · rw [if_pos h]
    · rw [if_neg h, am_get_out (by omega)]
  | n + 1, [], 0 => by simp [am_pad, am_get]
  | n + 1, [], i + 1 => by
    simp only [am_pad, am_get]
    rw [am_get_pad]
    simp
  | n + 1, a :: l, 0 => by simp [am_pad, am_get]
  | n + 1, a :: l, i + 1 => by
    simp only [am_pad, am_get]
    rw [am_get_pad]
    simp
theorem am_len_pad : ∀ {n : Nat} {l : List AV}, l.length ≤ n → (am_pad n l).length = n
  | 0, l, h => by simpa [am_pad] using h
  | n + 1, [], h => by simp [am_pad, am_len_pad (n := n) (l := [])]
  | n + 1, a :: l, h => by simp [am_pad, am_len_pad (n := n) (l := l) (by simpa using h)]
theorem am_entry {G : am_En} {n : Nat} {as : List AV} {vs : List Value} (h : am_RS G as vs) (hn : am_cat as ≤ n) : am_RL G n (am_ent n as) ((lg_sl vs ++ List.replicate (n - (lg_sl vs).length) Slot.unset).toArray) := by
  obtain ⟨e1, e2, e3⟩ := am_exp_ok h
  have hl := lv_entry vs (n := n) (by omega)
  refine ⟨hl.1, am_len_pad (by omega), hl.2.1, fun i hi hi2 => ?_⟩
  unfold am_ent am_hold at hi
  unfold am_ent at hi2 ⊢
  rw [am_get_pad] at hi hi2 ⊢
  by_cases hlt : i < (am_exp as).length
  · rw [if_pos hlt] at hi hi2 ⊢
    obtain ⟨V, f1, f2⟩ := e3 i hi (fun hc => by
      have := hi2 hc
      rw [am_get_pad] at this
      by_cases h3 : i + 1 < (am_exp as).length
      · rw [if_pos h3] at this; exact this
      · rw [if_neg h3] at this; simp at this)
    refine ⟨V, ?_, f2⟩
    rw [List.getElem?_toArray, List.getElem?_append_left (by omega)]
    exact f1
  · rw [if_neg hlt] at hi
    simp at hi
theorem am_W_good {w : Cond} (h : w ∈ am_W) : (w.onTables && w.keeps) = true ∨ ∃ ty, w = .arrayClass ty := good_of_word (List.mem_filter.mp h).2
theorem am_isN_ot {w : Cond} (h : am_isN w = true) : w.onTables = true := by
  cases w <;> first | rfl | cases h
section MET
variable {G : am_En} {l : Launch} {d m : Nat} {as : List AV} {h : AH} {K : AK}
/-- what is so of a method, whoever calls it -/
def am_mok (m : Nat) : Prop := plainName (am_mn m).cls = true ∧ am_ml m ≤ 20 ∧ ((am_mn m).cls ≠ "java/lang/invoke/MethodHandle" ∧ (am_mn m).cls ≠ "java/lang/invoke/VarHandle") ∧ (if am_hh m = [] then Cond.code (am_mn m) (am_cd m) (am_ml m) (am_re m) ∈ am_W else Cond.codeWith (am_mn m) (am_cd m) (am_ml m) (am_re m) (am_hh m) ∈ am_W)
theorem am_Cx_of {Y : MethodName} {ws : List Cond} {p : Program} {e : Env} {s s₁ : State} {mth : MethodId} {args : Array Value} {below : List Frame} {meth : Method} {cd : Code} (B : BodyLoose p l Y (headSpec ws (am_rm d m)) (am_cd m) (am_ml m) (am_re m) e s mth args below meth cd s₁) (hY : Y = am_mn m) (hml : cd.maxLocals = am_ml m) (hws : ∀ w ∈ am_W, w ∈ ws) (htr : l.stackTraces = false) (hWK : am_WK G s s.heap) :
    am_Cx G l d m p (headSpec ws (am_rm d m)).room s mth args meth cd := by
  subst hY
  have hts := atoms_spec (ws := ws) B.pre
  exact ⟨B.exec, B.bytes, hml, findClass_of_methodNamed B.named, fun w hw => hts w (hws w hw), hWK, ⟨Nat.le_refl _, Nat.le_refl _, rfl, rfl⟩, B.notSynchronized, htr, fun hn => (name_of_methodNamed B.named B.method).1.trans hn⟩
/-- the ends of a method that returns -/
theorem am_End_ret {Y : MethodName} {ws : List Cond} {p : Program} {e : Env} {s s₁ : State} {mth : MethodId} {below : List Frame} {meth : Method} {cd : Code} {R : Room} {a : Array Value} {H : Heap} {locs : List Loc} {arr : Array Slot} {st : List Value} {h2 : AH} {r : Int} {pc c s0 mc ms : Nat}
    (hx : p.tables.exec = Jvm.exec) (hb : cd.code = am_cd m) (hr : meth.sig.returnType = am_re m) (hlk : meth.locks = false) (hK : K 0 r h2) (hr2 : am_rok G m pc r st) (hH : am_HM G h2 H) (hS : va_S (fun q => eB G ≤ q) s.heap H locs) (hc : c ≤ mc) (hs : s0 ≤ ms) :
    W p l e R s mth a below meth cd H locs c s0 (MQ below (am_Qc G (am_rtt m) K) a s mc ms (fun q => eB G ≤ q)) (F0 mth pc arr st) := by
  refine W.widen hc hs ?_
  rcases hr2 with ⟨hd, x, ty, rfl, rfl, e1, e2, e3⟩ | ⟨hd, x, rfl, rfl, e1, e3⟩ | ⟨hd, x, rfl, rfl, e1, e3⟩ | ⟨hd, V, ty, rfl, e0, e1, e2, e3⟩ | ⟨hd, rfl, e1, e3⟩
  · exact W.zret hx hb (hr.trans e1) e2 (fun t ht hW => ⟨_, _, h2, rfl, Or.inr ⟨by rw [e3]; decide, _, rfl, by rw [e3]; exact ⟨x, rfl, rfl⟩⟩, hK, by rw [ht]; exact hH, hS.F ht⟩) hS.2.2 hd hlk
  · exact W.lret hx hb (hr.trans e1) (fun t ht hW => ⟨_, _, h2, rfl, Or.inr ⟨by rw [e3]; decide, _, rfl, by rw [e3]; exact ⟨x, rfl, rfl⟩⟩, hK, by rw [ht]; exact hH, hS.F ht⟩) hS.2.2 hd hlk
  · exact W.dret hx hb (hr.trans e1) (fun t ht hW => ⟨_, _, h2, rfl, Or.inr ⟨by rw [e3]; decide, _, rfl, by rw [e3]; exact ⟨x, rfl, rfl⟩⟩, hK, by rw [ht]; exact hH, hS.F ht⟩) hS.2.2 hd hlk
  · have hv : V = .null ∨ ∃ a, V = .ref a := am_RV_ref e0 (Or.inl rfl)
    exact W.aret hx hb (hr.trans e1) e2 hv (fun t ht hW => ⟨_, _, h2, rfl, Or.inr ⟨by rw [e3]; decide, _, rfl, by rw [e3]; exact e0⟩, hK, by rw [ht]; exact hH, hS.F ht⟩) hS.2.2 hd hlk
  · exact W.vret hx hb (hr.trans e1) (fun t ht hW => ⟨_, r, h2, rfl, Or.inl ⟨e3, rfl⟩, hK, by rw [ht]; exact hH, hS.F ht⟩) hS.2.2 hd hlk
/-- a method that only returns -/
theorem am_met (hsim : am_Sim G l d m (0, am_ent (am_ml m) as, [], h, 0, 0) K) (hK : ∀ k v h', ¬ K (k + 1) v h') (hm : am_mok m) (hcat : am_cat as ≤ am_ml m) (htr : l.stackTraces = false) (hh : am_hh m = []) :
    Met l (am_mn m) (Cond.code (am_mn m) (am_cd m) (am_ml m) (am_re m) :: am_W) (am_rm d m) (am_Pc G as h) (am_Qc G (am_rtt m) K) (am_cap m).1 (am_cap m).2 (fun q => eB G ≤ q) := by
  refine Met.ofW (cc := am_cd m) (maxL := am_ml m) (ret := am_re m) hm.1 rfl ?_
  intro p e s mth args below meth cd s₁ B hml hv
  obtain ⟨vs, rfl, hRS, hHM, hWK⟩ := hv
  have hts := atoms_spec (ws := Cond.code (am_mn m) (am_cd m) (am_ml m) (am_re m) :: am_W) B.pre
  have htab : cd.exceptionTable.toList = tableOf (am_hh m) := by
    obtain ⟨meth', c', h1, h2, -, -, -, -, h6, -⟩ := Cond.code_spec B.named (hts _ List.mem_cons_self)
    cases Option.some.inj (h1.symm.trans B.method)
    cases Option.some.inj (h2.symm.trans (Stand.of_body B).code)
    rw [hh, show cd.exceptionTable = #[] by simpa using h6]
    rfl
  rw [lg_entry_eq]
  refine hsim p e _ s mth vs.toArray below meth cd _ (am_Cx_of B rfl hml (fun w hw => List.mem_cons_of_mem _ hw) htr hWK) htab ⟨?_, ?_⟩ s.heap [] _ [] hHM va_S.rf (am_entry hRS hcat) trivial (Nat.zero_le _) (Nat.zero_le _)
  · intro H locs arr st h2 r pc c s0 hK0 hr2 hH hS hc hs
    exact am_End_ret (Y := am_mn m) (ws := []) (s₁ := s) B.exec B.bytes B.returns B.notSynchronized hK0 hr2 hH hS hc hs
  · intro H locs arr st ast h2 pc k c s0 hK0 ht
    obtain ⟨ik, is, ic, tx, hk1, -⟩ := ht
    exact absurd (hK0 _ (Int.le_refl _)) (by obtain ⟨k, rfl⟩ : ∃ k', k = k' + 1 := ⟨k - 1, by omega⟩; exact hK _ _ _)
/-- a method that throws or returns -/
theorem am_vmet (hsim : am_Sim G l d m (0, am_ent (am_ml m) as, [], h, 0, 0) K) (hm : am_mok m) (hcat : am_cat as ≤ am_ml m) (htr : l.stackTraces = false) (hh : am_hh m = []) :
    vx_Met l (am_mn m) (Cond.code (am_mn m) (am_cd m) (am_ml m) (am_re m) :: (am_W ++ lw_tbl.filter goodWord)) (am_rm d m) (am_Pc G as h) (am_Qc G (am_rtt m) K) (am_XC G K) (am_cap m).1 (am_cap m).2 (fun q => eB G ≤ q) := by
  refine vx_ofW (cc := am_cd m) (maxL := am_ml m) (ret := am_re m) hm.1 rfl ?_
  intro p e s mth args below meth cd s₁ B hml hnx hv
  obtain ⟨vs, rfl, hRS, hHM, hWK⟩ := hv
  have htab : cd.exceptionTable.toList = tableOf (am_hh m) := by
    rw [hh]
    cases hc : cd.exceptionTable.toList with
    | nil => rfl
    | cons a b => exact (hnx a (by rw [hc]; exact List.mem_cons_self)).elim
  rw [lg_entry_eq]
  have hCx := am_Cx_of (m := m) B rfl hml (fun w hw => List.mem_cons_of_mem _ (List.mem_append_left _ hw)) htr hWK
  refine hsim p e _ s mth vs.toArray below meth cd _ hCx htab ⟨?_, ?_⟩ s.heap [] _ [] hHM va_S.rf (am_entry hRS hcat) trivial (Nat.zero_le _) (Nat.zero_le _)
  · intro H locs arr st h2 r pc c s0 hK0 hr2 hH hS hc hs
    exact vx_ret (am_End_ret (Y := am_mn m) (ws := []) (s₁ := s) B.exec B.bytes B.returns B.notSynchronized hK0 hr2 hH hS hc hs)
  · intro H locs arr st ast h2 pc k c s0 hK0 ht harr hst hc8 hH hS hc hs
    obtain ⟨ik, is, ic, tx, hk1, hk3, d0, d3, d4, d6, d9, w1, w2, w3, w4, -⟩ := ht
    obtain ⟨hx, hb, hml2, hown, hts, hW, hR, hlk, htr2, hin⟩ := hCx
    obtain ⟨sa, hsa⟩ := hW.1.2.2.2.1 _ w3
    have hcat2 := am_RS_cat hst
    refine vx_throwS (own := (am_mn m).cls) (cls := am_en k) (text := tx) (names := ["java/lang/RuntimeException", "java/lang/Exception"]) (ik := ik) (is := is) (ic := ic) (sa := sa) (A := fun q => eB G ≤ q) hx hb htr hown ?_ ?_ (hts _ w1) (hts _ w2) hsa ?_ ?_ hW.2.2.1.2.2.2.2.1 hW.2.2.1.2.2.2.2.2 hS (harr.trans hml.symm) d0 d3 d4 d6 d9 (fun x hx => (hnx x hx).elim) ?_ ?_ hc hs hlk ?_ hS.2.2 hc hs
    · match k, hk1, hk3 with
      | 1, _, _ => decide
      | 2, _, _ => decide
      | 3, _, _ => decide
    · decide
    · intro w hw
      rcases (w4 w hw).1 with h1 | ⟨h1, h2⟩
      · exact hts _ h1
      · exact va_Nw.use (am_isN_ot h2) (hW.1.2.1 _ h1 h2)
    · intro w hw
      rcases List.mem_cons.mp hw with rfl | hw
      · rfl
      · rcases List.mem_cons.mp hw with rfl | hw
        · rfl
        · exact (w4 w hw).2
    · have := hR.1
      show 2 + 3 < _
      omega
    · have := hR.2.1
      show _ + (13 * (2 + 1) + 43) ≤ _
      omega
    · intro t hA hz hq
      refine ⟨k, am_sn h2 ((t.heap.size : Int) - (eB G : Int)), hk1, hk3, rfl, hK0 _ ?_, ?_, ⟨?_, fun q hq1 hq2 => ?_⟩⟩
      · have := hH.1
        omega
      · have h1 := hH.1
        refine ⟨⟨?_, ?_⟩, hH.2.1, fun a ha => ?_⟩
        · show 0 ≤ (t.heap.size : Int) - (eB G : Int)
          omega
        · show t.heap.size = eB G + ((t.heap.size : Int) - (eB G : Int)).toNat
          omega
        · obtain ⟨g1, g2⟩ := hH.2.2 a ha
          refine ⟨⟨g1.1, ?_⟩, am_CO_kept g2 (hq _ (by omega)) rfl rfl (fun _ => rfl)⟩
          show a < (t.heap.size : Int) - (eB G : Int)
          omega
      · exact Nat.le_trans hS.1 hz
      · rw [hq q (Nat.lt_of_lt_of_le hq1 hS.1)]
        exact hS.2.1 q hq1 hq2
end MET
end
section
/-! ===== the calls ===== -/
theorem am_pop_spec : ∀ {n : Nat} {acc st as r : List AV}, am_pop n acc st = some (as, r) → ∃ l : List AV, as = l.reverse ++ acc ∧ st = l ++ r ∧ l.length = n
  | 0, acc, st, as, r, h => by
    cases h
    exact ⟨[], rfl, rfl, rfl⟩
  | n + 1, acc, [], as, r, h => by cases h
  | n + 1, acc, v :: st, as, r, h => by
    obtain ⟨l, e1, e2, e3⟩ := am_pop_spec (n := n) (acc := v :: acc) h
    exact ⟨v :: l, by rw [e1]; simp, by rw [e2]; rfl, by simp [e3]⟩
theorem am_RS_app {G : am_En} : ∀ {l r : List AV} {sv : List Value}, am_RS G (l ++ r) sv → ∃ lv rv, sv = lv ++ rv ∧ am_RS G l lv ∧ am_RS G r rv
  | [], r, sv, h => ⟨[], sv, rfl, trivial, h⟩
  | v :: l, r, [], h => h.elim
  | v :: l, r, V :: sv, h => by
    obtain ⟨lv, rv, e1, e2, e3⟩ := am_RS_app (l := l) h.2
    exact ⟨V :: lv, rv, by rw [e1]; rfl, ⟨h.1, e2⟩, e3⟩
theorem am_RS_cat2 {G : am_En} : ∀ {l r : List AV} {lv rv : List Value}, am_RS G l lv → am_RS G r rv → am_RS G (l ++ r) (lv ++ rv)
  | [], r, [], rv, _, h => h
  | [], r, _ :: _, rv, h, _ => h.elim
  | _ :: _, r, [], rv, h, _ => h.elim
  | v :: l, r, V :: lv, rv, h, h2 => ⟨h.1, am_RS_cat2 h.2 h2⟩
theorem am_RS_rev {G : am_En} : ∀ {l : List AV} {lv : List Value}, am_RS G l lv → am_RS G l.reverse lv.reverse
  | [], [], _ => trivial
  | [], _ :: _, h => h.elim
  | _ :: _, [], h => h.elim
  | v :: l, V :: lv, h => by
    rw [List.reverse_cons, List.reverse_cons]
    exact am_RS_cat2 (am_RS_rev h.2) ⟨h.1, trivial⟩
theorem am_RS_len {G : am_En} : ∀ {l : List AV} {lv : List Value}, am_RS G l lv → l.length = lv.length
  | [], [], _ => rfl
  | [], _ :: _, h => h.elim
  | _ :: _, [], h => h.elim
  | v :: l, V :: lv, h => by simp [am_RS_len h.2]
def am_rcv (r3 : Nat) (h : AH) (as : List AV) : Prop := r3 = 0 ∨ (r3 = 60 ∧ ∃ j t, as = (5, j) :: t) ∨ (r3 = 61 ∧ ∃ a t, as = (2, a) :: t ∧ 0 ≤ a) ∨ (r3 ≠ 0 ∧ r3 ≠ 60 ∧ r3 ≠ 61 ∧ ∃ a t, as = (2, a) :: t ∧ am_t h a = r3)
section SIM
variable {G : am_En} {l : Launch} {d m : Nat} {p : Program} {e : Env} {R : Room} {s : State} {mth : MethodId} {args : Array Value} {below : List Frame} {meth : Method} {cd : Code} {Q : State → Prop} {K : AK} {X : AX} {Z : AC → Prop} {hs : List (Nat × Nat × Nat × Nat)}
variable {pc : Nat} {ls st : List AV} {h : AH} {c s0 : Nat}
theorem am_mk_inv {o : Option Prop} {m2 rt : Nat} {as r : List AV} {ccap cap : Nat × Nat} (w : am_stp X Z d hs K (am_mk o m2 as pc rt ccap cap ls r h c s0)) :
    (∀ q, o = some q → q) ∧ (ccap = (0, 0) ∨ (c + ccap.1 ≤ cap.1 ∧ s0 + ccap.2 ≤ cap.2)) ∧ am_dn X d m2 (0, am_ent (am_ml m2) as, [], h, 0, 0) (am_ret hs Z pc rt (pc + 3, ls, r, h, c + ccap.1, s0 + ccap.2)) := by
  obtain ⟨c1, c2⟩ := ccap
  unfold am_mk at w
  split at w
  · rename_i hz
    dsimp only at hz
    have h1 : c1 = 0 := by omega
    have h2 : c2 = 0 := by omega
    subst h1
    subst h2
    cases o with
    | none => exact ⟨fun q hq => (by cases hq), Or.inl rfl, w⟩
    | some q => exact ⟨fun q hq => (by cases hq; exact w.1), Or.inl rfl, w.2⟩
  · cases o with
    | none => exact ⟨fun q hq => (by cases hq), Or.inr w.1, w.2⟩
    | some q => exact ⟨fun q hq => (by cases hq; exact w.1.1), Or.inr w.1.2, w.2⟩
theorem am_inv_inv {r1 m2 r3 cml na rt : Nat} {ccap cap : Nat × Nat} (w : am_stp X Z d hs K (am_inv r1 m2 r3 ccap cap cml na rt pc ls st h c s0)) :
    ∃ as r, am_pop na [] st = some (as, r) ∧ am_cat r ≤ 8 ∧ am_cat as ≤ cml ∧ am_rcv r3 h as ∧ (ccap = (0, 0) ∨ (c + ccap.1 ≤ cap.1 ∧ s0 + ccap.2 ≤ cap.2)) ∧ am_dn X d m2 (0, am_ent (am_ml m2) as, [], h, 0, 0) (am_ret hs Z pc rt (pc + 3, ls, r, h, c + ccap.1, s0 + ccap.2)) := by
  unfold am_inv at w
  split at w
  · exact w.elim
  · split at w
    · exact w.elim
    · rename_i as r hp
      split at w
      · exact w.elim
      · rename_i hb
        rw [Bool.and_eq_true] at hb
        refine ⟨as, r, hp, Nat.le_of_ble_eq_true hb.1, Nat.le_of_ble_eq_true hb.2, ?_⟩
        split at w
        · obtain ⟨-, w2, w3⟩ := am_mk_inv w
          exact ⟨Or.inl rfl, w2, w3⟩
        · split at w
          · obtain ⟨-, w2, w3⟩ := am_mk_inv w
            exact ⟨Or.inr (Or.inl ⟨rfl, _, _, rfl⟩), w2, w3⟩
          · exact w.elim
        · split at w
          · obtain ⟨w1, w2, w3⟩ := am_mk_inv w
            exact ⟨Or.inr (Or.inr (Or.inl ⟨rfl, _, _, rfl, w1 _ rfl⟩)), w2, w3⟩
          · exact w.elim
        · rename_i n0 n1 n2
          split at w
          · obtain ⟨w1, w2, w3⟩ := am_mk_inv w
            exact ⟨Or.inr (Or.inr (Or.inr ⟨n0, n1, n2, _, _, rfl, w1 _ rfl⟩)), w2, w3⟩
          · exact w.elim
theorem am_dn_inv {m2 : Nat} {cf : AC} (w : am_dn X d m2 cf K) : ∃ d', d = d' + 1 ∧ X d' m2 cf K := by
  cases d with
  | zero => exact w.elim
  | succ d => exact ⟨d, rfl, w⟩
theorem am_ret_zero {rt : Nat} {cf : AC} {v : Int} {h' : AH} (w : am_ret hs Z pc rt cf 0 v h') : Z (cf.1, cf.2.1, am_push rt v cf.2.2.1, h', cf.2.2.2.2) := by
  cases hs with
  | nil => exact w
  | cons a b => exact w
theorem am_push_RS {rt : Nat} {r : List AV} {v : Int} {ov : Option Value} {sv : List Value} (h1 : am_rvO G rt v ov) (h2 : am_RS G r sv) : am_RS G (am_push rt v r) (ov.toList ++ sv) := by
  rcases h1 with ⟨rfl, rfl⟩ | ⟨hne, V, rfl, hV⟩
  · exact h2
  · have : am_push rt v r = (rt, v) :: r := by
      unfold am_push
      split
      · exact absurd rfl hne
      · rfl
    rw [this]
    exact ⟨hV, h2⟩
/-- behind a call that returned -/
theorem am_back {H : Heap} {locs L : List Loc} {arr : Array Slot} {sv : List Value} {r : List AV} {rt mc ms : Nat} {T' st₀ t : State} {v : Int} {ov : Option Value} {h' : AH}
    (w : am_Gl G m p l e R s mth args below meth cd Q (pc + 3, ls, am_push rt v r, h', c + mc, s0 + ms)) (hL : am_RL G (am_ml m) ls arr) (hr : am_RS G r sv) (hrv : am_rvO G rt v ov) (hH : am_HM G h' t.heap) (hF : va_F (fun q => eB G ≤ q) st₀ t) (hS : va_S (fun q => eB G ≤ q) s.heap H locs)
    (h0 : st₀.heap = H) (hLb : ∀ q ∈ L, eB G ≤ q.base) (e1 : T'.heap = t.heap) (hc : c + mc ≤ R.cells) (hs : s0 + ms ≤ R.slots) : W p l e R s mth args below meth cd T'.heap (locs ++ L) (c + mc) (s0 + ms) Q (F0 mth (pc + 3) arr (ov.toList ++ sv)) := by
  obtain ⟨hz, hk⟩ := hF
  rw [h0] at hz hk
  refine w T'.heap (locs ++ L) arr _ (by rw [e1]; exact hH) ⟨Nat.le_trans hS.1 (by rw [e1]; exact hz), fun q h1 h2 => ?_, fun q hq => ?_⟩ hL (am_push_RS hrv hr) hc hs
  · rw [e1, hk q (Nat.lt_of_lt_of_le h1 hS.1) h2]
    exact hS.2.1 q h1 h2
  · rcases List.mem_append.mp hq with h | h
    · exact hS.2.2 q h
    · exact hLb q h
theorem am_after {H : Heap} {locs : List Loc} {arr : Array Slot} {st0 sv : List Value} {r : List AV} {rt mc ms : Nat} {K2 : AK} {a : Array Value} (hrun : va_Run p l e R s mth args below meth cd H locs c s0 mc ms (F0 mth pc arr st0) sv (am_Qc G rt K2 a) (fun q => eB G ≤ q))
    (hK2 : ∀ v h', K2 0 v h' → am_Gl G m p l e R s mth args below meth cd Q (pc + 3, ls, am_push rt v r, h', c + mc, s0 + ms)) (hL : am_RL G (am_ml m) ls arr) (hr : am_RS G r sv) (hS : va_S (fun q => eB G ≤ q) s.heap H locs) (hc : c + mc ≤ R.cells) (hs : s0 + ms ≤ R.slots) : W p l e R s mth args below meth cd H locs c s0 Q (F0 mth pc arr st0) := by
  intro T hT X
  obtain ⟨ov, st₀, t, T', L, h0, X', hLb, e1, e2, ⟨v', r', h', hv, hrv, hK, hHM, hF⟩, stp⟩ := hrun T hT X
  cases hv
  obtain ⟨t2, a1, b1⟩ := am_back (hK2 _ _ hK) hL hr hrv hHM hF hS h0 hLb e1 hc hs T' rfl X'
  exact ⟨t2, stp t2 a1, b1⟩
/-- what is so of a place that calls m2: the words -/
def am_GI (m2 : Nat) : List Cond := Cond.code (am_mn m2) (am_cd m2) (am_ml m2) (am_re m2) :: am_W
theorem am_good {w : Cond} (h : w ∈ am_W) : w ∈ am_W ∧ ((w.onTables && w.keeps) = true ∨ ∃ ty, w = .arrayClass ty) := ⟨h, am_W_good h⟩
theorem am_GI_in {m2 : Nat} (hw : Cond.code (am_mn m2) (am_cd m2) (am_ml m2) (am_re m2) ∈ am_W) : GoodIn am_W (am_GI m2) := by
  intro w h
  rcases List.mem_cons.mp h with rfl | h
  · exact am_good hw
  · exact am_good h
/-- the receiver's cell -/
theorem am_recv {H : Heap} {locs : List Loc} {r3 : Nat} {as : List AV} {vs : List Value} {C : String} (hW : am_WK G s s.heap) (hS : va_S (fun q => eB G ≤ q) s.heap H locs) (hH : am_HM G h H) (hrc : am_rcv r3 h as) (hvs : am_RS G as vs) (h0 : r3 ≠ 0) (hC : (r3 = 60 ∧ C = "java/lang/String") ∨ r3 = 61 ∨ (r3 ≠ 60 ∧ r3 ≠ 61 ∧ 1 ≤ r3 ∧ r3 ≤ 9 ∧ ∃ q : vw_C, vwCl[r3 - 1]? = some q ∧ q.1 = C)) :
    ∃ (b : Nat) (As : List Value), vs = .ref b :: As ∧ (r3 ≠ 61 → ∃ cell : Cell, H[b]? = some cell ∧ cell.vm.isStatics = false ∧ s.vm.findClass C = some cell.cls) := by
  rcases hrc with hrc | ⟨e1, j, t, rfl⟩ | ⟨e1, a, t, rfl, ha⟩ | ⟨n0, n1, n2, a, t, rfl, ha⟩
  · exact absurd hrc h0
  · obtain ⟨V, As, rfl, ⟨g1, g2, rfl⟩, -⟩ := am_RS_inv hvs
    refine ⟨_, As, rfl, fun _ => ?_⟩
    rcases hC with ⟨-, rfl⟩ | hC | hC
    · obtain ⟨s1, -⟩ := hW.2.1 j.toNat (by simp only at g2; omega)
      obtain ⟨cell, q1, q2, q3, -⟩ := s1.kept hS.2.1
      exact ⟨cell, q1, q2, q3⟩
    · omega
    · omega
  · obtain ⟨V, As, rfl, hV, -⟩ := am_RS_inv hvs
    rcases hV with ⟨hV, -⟩ | ⟨-, rfl⟩
    · simp only at hV
      omega
    · exact ⟨_, As, rfl, fun z => absurd e1 z⟩
  · obtain ⟨V, As, rfl, hV, -⟩ := am_RS_inv hvs
    obtain ⟨g1, g2⟩ := hH.2.2 a (by omega)
    rcases hV with ⟨hV, -⟩ | ⟨-, rfl⟩
    · simp only at hV
      omega
    · refine ⟨_, As, rfl, fun _ => ?_⟩
      rcases hC with ⟨hC, -⟩ | hC | ⟨-, -, k1, k2, q, k3, rfl⟩
      · omega
      · omega
      · obtain ⟨q', F, b1, ⟨cell, b2, b3, b4, -⟩, -⟩ := (am_CO_obj ha k1 k2).mp g2
        cases b1.symm.trans k3
        exact ⟨cell, b2, by rw [b4]; rfl, by rw [b3]; exact (hW.1.1.1 (r3 - 1) _ k3).2.1⟩
end SIM
end
section
/-! ===== calls, a kind each ===== -/
section SIM
variable {G : am_En} {l : Launch} {d m : Nat} {p : Program} {e : Env} {R : Room} {s : State} {mth : MethodId} {args : Array Value} {below : List Frame} {meth : Method} {cd : Code} {Q : State → Prop} {K : AK} {hs : List (Nat × Nat × Nat × Nat)}
variable {pc : Nat} {ls st : List AV} {h : AH} {c s0 : Nat}
/-- what a place that calls m2 needs of the tables: kind 0 a method of an object, 1 of a nest mate's, 2 static, 3 a nest mate's static, 4 a constructor, 5 a nest mate's, 14 a method that may throw, 15 a static one with a table -/
def am_cok (m kind idx m2 r3 : Nat) : Prop := am_mok m2 ∧ Cond.initialized (am_mn m2).cls ∈ am_W ∧
  ((kind = 0 ∨ kind = 2 ∨ kind = 4 ∨ kind = 14 ∨ kind = 15) → Cond.methodLink (am_mn m).cls idx (am_mn m2) ∈ am_W) ∧ ((kind = 1 ∨ kind = 3 ∨ kind = 5) → ∃ host, Cond.methodLinkNest (am_mn m).cls idx (am_mn m2) host ∈ lw_tbl) ∧
  ((kind = 2 ∨ kind = 3 ∨ kind = 15) → Cond.static (am_mn m2) ∈ am_W ∧ r3 = 0 ∧ (parseMethodDescriptor (am_mn m2).desc).map (fun d => d.parameters.length) = some (am_na m2)) ∧
  ((kind = 0 ∨ kind = 1 ∨ kind = 4 ∨ kind = 5 ∨ kind = 14) → Cond.instanceMethod (am_mn m2) ∈ am_W ∧ r3 ≠ 0 ∧ 1 ≤ am_na m2 ∧ (parseMethodDescriptor (am_mn m2).desc).map (fun d => d.parameters.length) = some (am_na m2 - 1)) ∧
  ((kind = 0 ∨ kind = 1 ∨ kind = 14) → Cond.selects (am_mn m2).cls (am_mn m2) (am_mn m2) ∈ am_W ∧ r3 ≠ 61 ∧ ((r3 = 60 ∧ (am_mn m2).cls = "java/lang/String") ∨ r3 = 61 ∨ (r3 ≠ 60 ∧ r3 ≠ 61 ∧ 1 ≤ r3 ∧ r3 ≤ 9 ∧ ∃ q : vw_C, vwCl[r3 - 1]? = some q ∧ q.1 = (am_mn m2).cls))) ∧
  ((kind = 4 ∨ kind = 5) → (am_mn m2).name = "<init>" ∧ r3 = 61 ∧ am_re m2 = none) ∧
  (kind ≠ 15 → am_hh m2 = []) ∧ (kind = 15 → am_hh m2 ≠ []) ∧ (kind ≠ 14 → am_hd m = [])
theorem am_i_stat (C : am_Cx G l d m p R s mth args meth cd) {idx kind m2 r3 : Nat} (hk : kind = 2 ∨ kind = 3) (hok : am_cok m kind idx m2 r3) (hd : decode (am_cd m) pc = .ok (.invokestatic idx, 3)) (w : am_stp (am_Sim G l) (am_Gl G m p l e R s mth args below meth cd Q) d (am_hd m) K (am_inv kind m2 r3 (am_cap m2) (am_cap m) (am_ml m2) (am_na m2) (am_rtt m2) pc ls st h c s0)) : am_Gl G m p l e R s mth args below meth cd Q (pc, ls, st, h, c, s0) := by
  have w1 := am_inv_inv w
  clear w
  obtain ⟨as, r, hp, hc8, hcat, hrc, hcap, w⟩ := w1
  have w1 := am_dn_inv w
  clear w
  obtain ⟨d', rfl, w⟩ := w1
  obtain ⟨l0, e1, e2, e3⟩ := am_pop_spec hp
  rw [List.append_nil] at e1
  subst e2
  obtain ⟨hm2, ok1, ok2, ok3, ok4, ok5, ok6, ok7, ok8, ok9, ok10⟩ := hok
  have hCx := C
  obtain ⟨hx, hb, hml, hown, hts, hW, hR, hlk, htr, hin⟩ := C
  intro H locs arr sv hH hS hL hst hc hs0
  dsimp only at hH hL hst hc hs0 ⊢
  obtain ⟨lv, rv, rfl, hlv, hrv⟩ := am_RS_app hst
  have hvs : am_RS G as lv.reverse := by rw [e1]; exact am_RS_rev hlv
  have hlen := am_RS_len hlv
  have hcatr := am_RS_cat hrv
  have hbud : c + (am_cap m2).1 ≤ R.cells ∧ s0 + (am_cap m2).2 ≤ R.slots := by
    have := hR.2.2
    rcases hcap with hcap | hcap
    · rw [hcap]; exact ⟨hc, hs0⟩
    · omega
  have hRm : (am_rm d' m2).frames + 1 ≤ R.frames ∧ 8 + (am_ml m2 + 11) + (am_rm d' m2).locals ≤ R.locals := by
    have h1 := hR.1
    have h2 := hR.2.1
    have h3 := hm2.2.1
    refine ⟨?_, ?_⟩
    · show d' + 8 + 1 ≤ _
      omega
    · show 8 + (am_ml m2 + 11) + (40 * d' + 200) ≤ _
      omega
  have hW8 : 2 * (F0 mth pc arr (lv ++ rv)).monitorRoom + (rv.map fun v => v.category).sum ≤ 8 := by
    rw [hcatr]
    show 2 * 0 + am_cat r ≤ 8
    omega
  have hhd : am_hd m = [] := ok10 (by omega)
  have hh2 : am_hh m2 = [] := ok8 (by omega)
  have hcode : Cond.code (am_mn m2) (am_cd m2) (am_ml m2) (am_re m2) ∈ am_W := by
    have := hm2.2.2.2
    rw [if_pos hh2] at this
    exact this
  have hM := am_met (d := d') (m := m2) (as := as) (h := h) w (fun k v h' z => by rw [hhd] at z; exact z) hm2 hcat htr hh2
  have hfix : CallFix p mth cd (am_cd m) (am_ml m) s args am_W (am_mn m).cls := ⟨hx, hb, hml, hown, hts⟩
  obtain ⟨k1, k2, k3⟩ := ok4 (by omega)
  have hp0 : PreS s H (am_Pc G as h) lv.reverse := ⟨am_Pc_blind, fun U hU hWU => ⟨_, rfl, hvs, by rw [hU]; exact hH, by rw [hU]; exact (hW.kept hS.1 hS.2.1).warm hWU⟩⟩
  rcases hk with hk | hk
  · have cw := va_cwS (R := R) (own := (am_mn m).cls) (index := idx) (am_na m2) hts (show GoodIn am_W (va_wsS (am_mn m).cls idx (am_mn m2) (am_GI m2)) from fun w h => by
        rcases List.mem_append.mp h with h | h
        · simp only [List.mem_cons, List.not_mem_nil, or_false] at h
          rcases h with rfl | rfl | rfl
          · exact am_good (ok2 (by omega))
          · exact am_good k1
          · exact am_good ok1
        · exact am_GI_in hcode w h) rfl rfl rfl ⟨hm2.2.2.1.1, hm2.2.2.1.2, k3⟩ hRm
    exact am_after (rt := am_rtt m2) (va_runS hfix hM cw hp0 rfl (by simp; omega) hL.1 (by simp) hW8 hd hbud) (fun v h' z => am_ret_zero z) hL hrv hS hbud.1 hbud.2
  · obtain ⟨host, k4⟩ := ok3 (by omega)
    have cw := va_cnB (R := R) (rm := am_rm d' m2) (mc := (am_cap m2).1) (ms := (am_cap m2).2) (am_na m2) hts (am_GI_in hcode) rfl rfl rfl (hW.1.2.1 _ k4 rfl) (hts _ ok1) ⟨hm2.2.2.1.1, hm2.2.2.1.2, k3⟩ hRm
    exact am_after (rt := am_rtt m2) (va_runSN hfix hM ⟨cw, hts _ k1, trivial⟩ hp0 rfl (by simp; omega) hL.1 (by simp) hW8 hd hbud) (fun v h' z => am_ret_zero z) hL hrv hS hbud.1 hbud.2
theorem am_i_virt (C : am_Cx G l d m p R s mth args meth cd) {idx kind m2 r3 : Nat} (hk : kind = 0 ∨ kind = 1) (hok : am_cok m kind idx m2 r3) (hd : decode (am_cd m) pc = .ok (.invokevirtual idx, 3)) (w : am_stp (am_Sim G l) (am_Gl G m p l e R s mth args below meth cd Q) d (am_hd m) K (am_inv kind m2 r3 (am_cap m2) (am_cap m) (am_ml m2) (am_na m2) (am_rtt m2) pc ls st h c s0)) : am_Gl G m p l e R s mth args below meth cd Q (pc, ls, st, h, c, s0) := by
  have w1 := am_inv_inv w
  clear w
  obtain ⟨as, r, hp, hc8, hcat, hrc, hcap, w⟩ := w1
  have w1 := am_dn_inv w
  clear w
  obtain ⟨d', rfl, w⟩ := w1
  obtain ⟨l0, e1, e2, e3⟩ := am_pop_spec hp
  rw [List.append_nil] at e1
  subst e2
  obtain ⟨hm2, ok1, ok2, ok3, ok4, ok5, ok6, ok7, ok8, ok9, ok10⟩ := hok
  have hCx := C
  obtain ⟨hx, hb, hml, hown, hts, hW, hR, hlk, htr, hin⟩ := C
  intro H locs arr sv hH hS hL hst hc hs0
  dsimp only at hH hL hst hc hs0 ⊢
  obtain ⟨lv, rv, rfl, hlv, hrv⟩ := am_RS_app hst
  have hvs : am_RS G as lv.reverse := by rw [e1]; exact am_RS_rev hlv
  have hlen := am_RS_len hlv
  have hcatr := am_RS_cat hrv
  have hbud : c + (am_cap m2).1 ≤ R.cells ∧ s0 + (am_cap m2).2 ≤ R.slots := by
    have := hR.2.2
    rcases hcap with hcap | hcap
    · rw [hcap]; exact ⟨hc, hs0⟩
    · omega
  have hRm : (am_rm d' m2).frames + 1 ≤ R.frames ∧ 8 + (am_ml m2 + 11) + (am_rm d' m2).locals ≤ R.locals := by
    have h1 := hR.1
    have h2 := hR.2.1
    have h3 := hm2.2.1
    refine ⟨?_, ?_⟩
    · show d' + 8 + 1 ≤ _
      omega
    · show 8 + (am_ml m2 + 11) + (40 * d' + 200) ≤ _
      omega
  have hW8 : 2 * (F0 mth pc arr (lv ++ rv)).monitorRoom + (rv.map fun v => v.category).sum ≤ 8 := by
    rw [hcatr]
    show 2 * 0 + am_cat r ≤ 8
    omega
  have hhd : am_hd m = [] := ok10 (by omega)
  have hh2 : am_hh m2 = [] := ok8 (by omega)
  have hcode : Cond.code (am_mn m2) (am_cd m2) (am_ml m2) (am_re m2) ∈ am_W := by
    have := hm2.2.2.2
    rw [if_pos hh2] at this
    exact this
  have hM := am_met (d := d') (m := m2) (as := as) (h := h) w (fun k v h' z => by rw [hhd] at z; exact z) hm2 hcat htr hh2
  have hfix : CallFix p mth cd (am_cd m) (am_ml m) s args am_W (am_mn m).cls := ⟨hx, hb, hml, hown, hts⟩
  obtain ⟨k1, k2, k3, k4⟩ := ok5 (by omega)
  obtain ⟨k5, k6, k7⟩ := ok6 (by omega)
  obtain ⟨b, As, eV, hrec⟩ := am_recv hW hS hH hrc hvs k2 k7
  have hst2 : lv = As.reverse ++ [.ref b] := by rw [← List.reverse_reverse lv, eV]; simp
  have hAs : As.length = am_na m2 - 1 := by
    have : lv.length = As.length + 1 := by rw [hst2]; simp
    omega
  rw [eV] at hvs
  have hp0 : PreV s H (am_mn m2).cls b (am_Pc G as h) As := ⟨am_Pc_blind, hrec k6, fun U hU hWU => ⟨_, rfl, hvs, by rw [hU]; exact hH, by rw [hU]; exact (hW.kept hS.1 hS.2.1).warm hWU⟩⟩
  have estk : lv ++ rv = As.reverse ++ .ref b :: rv := by rw [hst2]; simp
  rcases hk with hk | hk
  · have cw := cwV (R := R) (own := (am_mn m).cls) (C := (am_mn m2).cls) (index := idx) (am_na m2 - 1) hts (show GoodIn am_W (wsV (am_mn m).cls idx (am_mn m2).cls (am_mn m2) (am_GI m2)) from fun w h => by
        rcases List.mem_append.mp h with h | h
        · simp only [List.mem_cons, List.not_mem_nil, or_false] at h
          rcases h with rfl | rfl | rfl | rfl
          · exact am_good (ok2 (by omega))
          · exact am_good k1
          · exact am_good k5
          · exact am_good ok1
        · exact am_GI_in hcode w h) rfl rfl rfl ⟨rfl, hm2.2.2.1.1, hm2.2.2.1.2, k4⟩ hRm
    exact am_after (rt := am_rtt m2) (va_runV hfix hM cw hp0 rfl hAs hL.1 estk hW8 hd hbud) (fun v h' z => am_ret_zero z) hL hrv hS hbud.1 hbud.2
  · obtain ⟨host, k8⟩ := ok3 (by omega)
    have cw := va_cnB (R := R) (rm := am_rm d' m2) (mc := (am_cap m2).1) (ms := (am_cap m2).2) (am_na m2 - 1) hts (am_GI_in hcode) rfl rfl rfl (hW.1.2.1 _ k8 rfl) (hts _ ok1) ⟨hm2.2.2.1.1, hm2.2.2.1.2, k4⟩ hRm
    exact am_after (rt := am_rtt m2) (va_runVN hfix hM ⟨cw, hts _ k1, hts _ k5⟩ hp0 rfl hAs hL.1 estk hW8 hd hbud) (fun v h' z => am_ret_zero z) hL hrv hS hbud.1 hbud.2
theorem am_i_spec (C : am_Cx G l d m p R s mth args meth cd) {idx kind m2 r3 : Nat} (hk : kind = 4 ∨ kind = 5) (hok : am_cok m kind idx m2 r3) (hd : decode (am_cd m) pc = .ok (.invokespecial idx, 3)) (w : am_stp (am_Sim G l) (am_Gl G m p l e R s mth args below meth cd Q) d (am_hd m) K (am_inv kind m2 r3 (am_cap m2) (am_cap m) (am_ml m2) (am_na m2) (am_rtt m2) pc ls st h c s0)) : am_Gl G m p l e R s mth args below meth cd Q (pc, ls, st, h, c, s0) := by
  have w1 := am_inv_inv w
  clear w
  obtain ⟨as, r, hp, hc8, hcat, hrc, hcap, w⟩ := w1
  have w1 := am_dn_inv w
  clear w
  obtain ⟨d', rfl, w⟩ := w1
  obtain ⟨l0, e1, e2, e3⟩ := am_pop_spec hp
  rw [List.append_nil] at e1
  subst e2
  obtain ⟨hm2, ok1, ok2, ok3, ok4, ok5, ok6, ok7, ok8, ok9, ok10⟩ := hok
  have hCx := C
  obtain ⟨hx, hb, hml, hown, hts, hW, hR, hlk, htr, hin⟩ := C
  intro H locs arr sv hH hS hL hst hc hs0
  dsimp only at hH hL hst hc hs0 ⊢
  obtain ⟨lv, rv, rfl, hlv, hrv⟩ := am_RS_app hst
  have hvs : am_RS G as lv.reverse := by rw [e1]; exact am_RS_rev hlv
  have hlen := am_RS_len hlv
  have hcatr := am_RS_cat hrv
  have hbud : c + (am_cap m2).1 ≤ R.cells ∧ s0 + (am_cap m2).2 ≤ R.slots := by
    have := hR.2.2
    rcases hcap with hcap | hcap
    · rw [hcap]; exact ⟨hc, hs0⟩
    · omega
  have hRm : (am_rm d' m2).frames + 1 ≤ R.frames ∧ 8 + (am_ml m2 + 11) + (am_rm d' m2).locals ≤ R.locals := by
    have h1 := hR.1
    have h2 := hR.2.1
    have h3 := hm2.2.1
    refine ⟨?_, ?_⟩
    · show d' + 8 + 1 ≤ _
      omega
    · show 8 + (am_ml m2 + 11) + (40 * d' + 200) ≤ _
      omega
  have hW8 : 2 * (F0 mth pc arr (lv ++ rv)).monitorRoom + (rv.map fun v => v.category).sum ≤ 8 := by
    rw [hcatr]
    show 2 * 0 + am_cat r ≤ 8
    omega
  have hhd : am_hd m = [] := ok10 (by omega)
  have hh2 : am_hh m2 = [] := ok8 (by omega)
  have hcode : Cond.code (am_mn m2) (am_cd m2) (am_ml m2) (am_re m2) ∈ am_W := by
    have := hm2.2.2.2
    rw [if_pos hh2] at this
    exact this
  have hM := am_met (d := d') (m := m2) (as := as) (h := h) w (fun k v h' z => by rw [hhd] at z; exact z) hm2 hcat htr hh2
  have hfix : CallFix p mth cd (am_cd m) (am_ml m) s args am_W (am_mn m).cls := ⟨hx, hb, hml, hown, hts⟩
  obtain ⟨k1, k2, k3, k4⟩ := ok5 (by omega)
  obtain ⟨k5, k6, k7⟩ := ok7 (by omega)
  obtain ⟨b, As, eV, -⟩ := am_recv (C := "") hW hS hH hrc hvs k2 (Or.inr (Or.inl k6))
  have hst2 : lv = As.reverse ++ [.ref b] := by rw [← List.reverse_reverse lv, eV]; simp
  have hAs : As.length = am_na m2 - 1 := by
    have : lv.length = As.length + 1 := by rw [hst2]; simp
    omega
  rw [eV] at hvs
  have hp0 : PreS s H (am_Pc G as h) (.ref b :: As) := ⟨am_Pc_blind, fun U hU hWU => ⟨_, rfl, hvs, by rw [hU]; exact hH, by rw [hU]; exact (hW.kept hS.1 hS.2.1).warm hWU⟩⟩
  have estk : lv ++ rv = As.reverse ++ .ref b :: rv := by rw [hst2]; simp
  rw [k7] at hM hcode
  have hGI : GoodIn am_W (Cond.code (am_mn m2) (am_cd m2) (am_ml m2) none :: am_W) := by
    intro w h
    rcases List.mem_cons.mp h with rfl | h
    · exact am_good hcode
    · exact am_good h
  rcases hk with hk | hk
  · have cw := cwI (R := R) (own := (am_mn m).cls) (index := idx) (am_na m2 - 1) hts hGI rfl rfl rfl (hts _ ok1) (hts _ (ok2 (by omega))) (hts _ k1) k5 ⟨hm2.2.2.1.1, hm2.2.2.1.2, k4⟩ hRm
    exact am_after (rt := am_rtt m2) (va_runI hfix hM cw hp0 rfl hAs hL.1 estk hW8 hd hbud) (fun v h' z => am_ret_zero z) hL hrv hS hbud.1 hbud.2
  · obtain ⟨host, k8⟩ := ok3 (by omega)
    have cw := va_cnB (R := R) (rm := am_rm d' m2) (mc := (am_cap m2).1) (ms := (am_cap m2).2) (am_na m2 - 1) hts hGI rfl rfl rfl (hW.1.2.1 _ k8 rfl) (hts _ ok1) ⟨hm2.2.2.1.1, hm2.2.2.1.2, k4⟩ hRm
    exact am_after (rt := am_rtt m2) (va_runIN hfix hM ⟨cw, k5, hts _ k1⟩ hp0 rfl hAs hL.1 estk hW8 hd hbud) (fun v h' z => am_ret_zero z) hL hrv hS hbud.1 hbud.2
end SIM
end
section
/-! ===== calls of what may throw, and of what catches; copying rows ===== -/
def am_ct : Nat → Nat
  | 1 => 13
  | 2 => 19
  | _ => 24
/-- the table of a method that catches, as the abstract machine has it -/
def am_hok (m : Nat) : Prop := am_hh m = (am_hd m).map (fun e => (e.1, e.2.1, e.2.2.1, am_ct e.2.2.2)) ∧ ∀ e ∈ am_hd m, (1 ≤ e.2.2.2 ∧ e.2.2.2 ≤ 3) ∧ Cond.classLink (am_mn m).cls (am_ct e.2.2.2) (am_en e.2.2.2) ∈ am_W ∧ Cond.castable (am_en e.2.2.2) (am_en e.2.2.2) ∈ lw_tbl
theorem am_ct_pos (k : Nat) : am_ct k ≠ 0 := by
  unfold am_ct
  split <;> decide
theorem am_fnd_split {x pc : Nat} {P : Nat → Prop} : ∀ {hs : List (Nat × Nat × Nat × Nat)}, am_fnd hs x pc P → ∃ pre a b q suf, hs = pre ++ (a, b, q, x) :: suf ∧ a ≤ pc ∧ pc < b ∧ P q ∧ ∀ z ∈ pre, (z.1 ≤ pc ∧ pc < z.2.1) → z.2.2.2 ≠ x
  | [], w => w.elim
  | (a, b, q, k) :: r, w => by
    unfold am_fnd at w
    split at w
    · rename_i hh
      rw [Bool.and_eq_true, Bool.and_eq_true] at hh
      have h1 := Nat.le_of_ble_eq_true hh.1
      have h2 := Nat.le_of_ble_eq_true hh.2.1
      have h3 := Nat.eq_of_beq_eq_true hh.2.2
      subst h3
      exact ⟨[], a, b, q, r, rfl, h1, h2, w, fun z hz => by cases hz⟩
    · rename_i hh
      obtain ⟨pre, a1, b1, q1, suf, rfl, g1, g2, g3, g4⟩ := am_fnd_split w
      refine ⟨(a, b, q, k) :: pre, a1, b1, q1, suf, rfl, g1, g2, g3, fun z hz hz2 => ?_⟩
      rcases List.mem_cons.mp hz with rfl | hz
      · intro hk
        dsimp only at hz2 hk
        rw [Nat.ble_eq_true_of_le hz2.1, show Nat.blt pc b = true from Nat.ble_eq_true_of_le hz2.2, hk, Nat.beq_refl] at hh
        cases hh
      · exact g4 z hz hz2
section MET
variable {G : am_En} {l : Launch} {d m : Nat} {as : List AV} {h : AH} {K : AK}
/-- a method that catches, and only returns -/
theorem am_metW (hsim : am_Sim G l d m (0, am_ent (am_ml m) as, [], h, 0, 0) K) (hK : ∀ k v h', ¬ K (k + 1) v h') (hm : am_mok m) (hcat : am_cat as ≤ am_ml m) (htr : l.stackTraces = false) (hh : am_hh m ≠ []) :
    Met l (am_mn m) (Cond.codeWith (am_mn m) (am_cd m) (am_ml m) (am_re m) (am_hh m) :: am_W) (am_rm d m) (am_Pc G as h) (am_Qc G (am_rtt m) K) (am_cap m).1 (am_cap m).2 (fun q => eB G ≤ q) := by
  refine MetFree.of_bodyS (code := am_cd m) (maxLocals := am_ml m) (ret := am_re m) hm.1 ?_ ?_
  · intro args s mm hpre hn
    obtain ⟨m9, meth, c, hn9, h1, h2, h3, h4, -, h5, h6, -⟩ := Cond.codeWith_spec (atoms_spec (ws := Cond.codeWith (am_mn m) (am_cd m) (am_ml m) (am_re m) (am_hh m) :: am_W) hpre _ List.mem_cons_self)
    cases hn.symm.trans hn9
    exact ⟨meth, c, h1, h2, h3, h4, h5, h6⟩
  · intro p e s mth args below meth cd s₁ B hml hv _
    obtain ⟨vs, rfl, hRS, hHM, hWK⟩ := hv
    have hts := atoms_spec (ws := Cond.codeWith (am_mn m) (am_cd m) (am_ml m) (am_re m) (am_hh m) :: am_W) B.pre
    have htab : cd.exceptionTable.toList = tableOf (am_hh m) := vx_table (x := am_mn m) B (hts _ List.mem_cons_self)
    have hh0 : s₁.heap = s.heap := by rw [B.state]; rfl
    have key : W p l e (headSpec (Cond.codeWith (am_mn m) (am_cd m) (am_ml m) (am_re m) (am_hh m) :: am_W) (am_rm d m)).room s mth vs.toArray below meth cd s.heap [] 0 0 (MQ below (am_Qc G (am_rtt m) K) vs.toArray s (am_cap m).1 (am_cap m).2 (fun q => eB G ≤ q)) (entryFrame mth vs.toArray (am_ml m)) := by
      rw [lg_entry_eq]
      refine hsim p e _ s mth vs.toArray below meth cd _ (am_Cx_of B rfl hml (fun w hw => List.mem_cons_of_mem _ hw) htr hWK) htab ⟨?_, ?_⟩ s.heap [] _ [] hHM va_S.rf (am_entry hRS hcat) trivial (Nat.zero_le _) (Nat.zero_le _)
      · intro H locs arr st h2 r pc c s0 hK0 hr2 hH hS hc hs
        exact am_End_ret (Y := am_mn m) (ws := []) (s₁ := s) B.exec B.bytes B.returns B.notSynchronized hK0 hr2 hH hS hc hs
      · intro H locs arr st ast h2 pc k c s0 hK0 ht
        obtain ⟨ik, is, ic, tx, hk1, -⟩ := ht
        exact absurd (hK0 _ (Int.le_refl _)) (by obtain ⟨k, rfl⟩ : ∃ k', k = k' + 1 := ⟨k - 1, by omega⟩; exact hK _ _ _)
    obtain ⟨t, a1, o, b1, b2, b3⟩ := key s₁ hh0 (Stand.of_body B)
    exact ⟨t, o, a1, b1, b2, b3⟩
end MET
section SIM
variable {G : am_En} {l : Launch} {d m : Nat} {p : Program} {e : Env} {R : Room} {s : State} {mth : MethodId} {args : Array Value} {below : List Frame} {meth : Method} {cd : Code} {Q : State → Prop} {K : AK} {X : AX} {hs : List (Nat × Nat × Nat × Nat)}
variable {pc : Nat} {ls st : List AV} {h : AH} {c s0 : Nat}
theorem am_i_statW (C : am_Cx G l d m p R s mth args meth cd) {idx m2 r3 : Nat} (hok : am_cok m 15 idx m2 r3) (hd : decode (am_cd m) pc = .ok (.invokestatic idx, 3)) (w : am_stp (am_Sim G l) (am_Gl G m p l e R s mth args below meth cd Q) d (am_hd m) K (am_inv 15 m2 r3 (am_cap m2) (am_cap m) (am_ml m2) (am_na m2) (am_rtt m2) pc ls st h c s0)) : am_Gl G m p l e R s mth args below meth cd Q (pc, ls, st, h, c, s0) := by
  have w1 := am_inv_inv w
  clear w
  obtain ⟨as, r, hp, hc8, hcat, hrc, hcap, w⟩ := w1
  have w1 := am_dn_inv w
  clear w
  obtain ⟨d', rfl, w⟩ := w1
  obtain ⟨l0, e1, e2, e3⟩ := am_pop_spec hp
  rw [List.append_nil] at e1
  subst e2
  obtain ⟨hm2, ok1, ok2, ok3, ok4, ok5, ok6, ok7, ok8, ok9, ok10⟩ := hok
  have hCx := C
  obtain ⟨hx, hb, hml, hown, hts, hW, hR, hlk, htr, hin⟩ := C
  intro H locs arr sv hH hS hL hst hc hs0
  dsimp only at hH hL hst hc hs0 ⊢
  obtain ⟨lv, rv, rfl, hlv, hrv⟩ := am_RS_app hst
  have hvs : am_RS G as lv.reverse := by rw [e1]; exact am_RS_rev hlv
  have hlen := am_RS_len hlv
  have hcatr := am_RS_cat hrv
  have hbud : c + (am_cap m2).1 ≤ R.cells ∧ s0 + (am_cap m2).2 ≤ R.slots := by
    have := hR.2.2
    rcases hcap with hcap | hcap
    · rw [hcap]; exact ⟨hc, hs0⟩
    · omega
  have hRm : (am_rm d' m2).frames + 1 ≤ R.frames ∧ 8 + (am_ml m2 + 11) + (am_rm d' m2).locals ≤ R.locals := by
    have h1 := hR.1
    have h2 := hR.2.1
    have h3 := hm2.2.1
    refine ⟨?_, ?_⟩
    · show d' + 8 + 1 ≤ _
      omega
    · show 8 + (am_ml m2 + 11) + (40 * d' + 200) ≤ _
      omega
  have hW8 : 2 * (F0 mth pc arr (lv ++ rv)).monitorRoom + (rv.map fun v => v.category).sum ≤ 8 := by
    rw [hcatr]
    show 2 * 0 + am_cat r ≤ 8
    omega
  have hhd : am_hd m = [] := ok10 (by omega)
  have hh2 : am_hh m2 ≠ [] := ok9 rfl
  have hcode : Cond.codeWith (am_mn m2) (am_cd m2) (am_ml m2) (am_re m2) (am_hh m2) ∈ am_W := by
    have := hm2.2.2.2
    rw [if_neg hh2] at this
    exact this
  have hM := am_metW (d := d') (m := m2) (as := as) (h := h) w (fun k v h' z => by rw [hhd] at z; exact z) hm2 hcat htr hh2
  have hfix : CallFix p mth cd (am_cd m) (am_ml m) s args am_W (am_mn m).cls := ⟨hx, hb, hml, hown, hts⟩
  obtain ⟨k1, k2, k3⟩ := ok4 (by omega)
  have hp0 : PreS s H (am_Pc G as h) lv.reverse := ⟨am_Pc_blind, fun U hU hWU => ⟨_, rfl, hvs, by rw [hU]; exact hH, by rw [hU]; exact (hW.kept hS.1 hS.2.1).warm hWU⟩⟩
  have cw := vx_cwSW (R := R) (own := (am_mn m).cls) (index := idx) (rm := am_rm d' m2) (mc := (am_cap m2).1) (ms := (am_cap m2).2) (am_na m2) hts (show GoodIn am_W (va_wsS (am_mn m).cls idx (am_mn m2) (Cond.codeWith (am_mn m2) (am_cd m2) (am_ml m2) (am_re m2) (am_hh m2) :: am_W)) from fun w h => by
      rcases List.mem_append.mp h with h | h
      · simp only [List.mem_cons, List.not_mem_nil, or_false] at h
        rcases h with rfl | rfl | rfl
        · exact am_good (ok2 (by omega))
        · exact am_good k1
        · exact am_good ok1
      · rcases List.mem_cons.mp h with rfl | h
        · exact am_good hcode
        · exact am_good h) rfl rfl rfl ⟨hm2.2.2.1.1, hm2.2.2.1.2, k3⟩ hRm
  exact am_after (rt := am_rtt m2) (vx_runSW hfix hM cw hp0 rfl (by simp; omega) hL.1 (by simp) hW8 hd hbud) (fun v h' z => am_ret_zero z) hL hrv hS hbud.1 hbud.2
theorem am_i_virtX (C : am_Cx G l d m p R s mth args meth cd) {idx m2 r3 : Nat} (hok : am_cok m 14 idx m2 r3) (hho : am_hok m) (htab : cd.exceptionTable.toList = tableOf (am_hh m)) (hd : decode (am_cd m) pc = .ok (.invokevirtual idx, 3)) (w : am_stp (am_Sim G l) (am_Gl G m p l e R s mth args below meth cd Q) d (am_hd m) K (am_inv 14 m2 r3 (am_cap m2) (am_cap m) (am_ml m2) (am_na m2) (am_rtt m2) pc ls st h c s0)) : am_Gl G m p l e R s mth args below meth cd Q (pc, ls, st, h, c, s0) := by
  have w1 := am_inv_inv w
  clear w
  obtain ⟨as, r, hp, hc8, hcat, hrc, hcap, w⟩ := w1
  have w1 := am_dn_inv w
  clear w
  obtain ⟨d', rfl, w⟩ := w1
  obtain ⟨l0, e1, e2, e3⟩ := am_pop_spec hp
  rw [List.append_nil] at e1
  subst e2
  obtain ⟨hm2, ok1, ok2, ok3, ok4, ok5, ok6, ok7, ok8, ok9, ok10⟩ := hok
  have hCx := C
  obtain ⟨hx, hb, hml, hown, hts, hW, hR, hlk, htr, hin⟩ := C
  intro H locs arr sv hH hS hL hst hc hs0
  dsimp only at hH hL hst hc hs0 ⊢
  obtain ⟨lv, rv, rfl, hlv, hrv⟩ := am_RS_app hst
  have hvs : am_RS G as lv.reverse := by rw [e1]; exact am_RS_rev hlv
  have hlen := am_RS_len hlv
  have hcatr := am_RS_cat hrv
  have hbud : c + (am_cap m2).1 ≤ R.cells ∧ s0 + (am_cap m2).2 ≤ R.slots := by
    have := hR.2.2
    rcases hcap with hcap | hcap
    · rw [hcap]; exact ⟨hc, hs0⟩
    · omega
  have hRm : (am_rm d' m2).frames + 1 ≤ R.frames ∧ 8 + (am_ml m2 + 11) + (am_rm d' m2).locals ≤ R.locals := by
    have h1 := hR.1
    have h2 := hR.2.1
    have h3 := hm2.2.1
    refine ⟨?_, ?_⟩
    · show d' + 8 + 1 ≤ _
      omega
    · show 8 + (am_ml m2 + 11) + (40 * d' + 200) ≤ _
      omega
  have hW8 : 2 * (F0 mth pc arr (lv ++ rv)).monitorRoom + (rv.map fun v => v.category).sum ≤ 8 := by
    rw [hcatr]
    show 2 * 0 + am_cat r ≤ 8
    omega
  have hh2 : am_hh m2 = [] := ok8 (by omega)
  have hcode : Cond.code (am_mn m2) (am_cd m2) (am_ml m2) (am_re m2) ∈ am_W := by
    have := hm2.2.2.2
    rw [if_pos hh2] at this
    exact this
  have hM := am_vmet (d := d') (m := m2) (as := as) (h := h) w hm2 hcat htr hh2
  have hfix : CallFix p mth cd (am_cd m) (am_ml m) s args am_W (am_mn m).cls := ⟨hx, hb, hml, hown, hts⟩
  obtain ⟨k1, k2, k3, k4⟩ := ok5 (by omega)
  obtain ⟨k5, k6, k7⟩ := ok6 (by omega)
  obtain ⟨b, As, eV, hrec⟩ := am_recv hW hS hH hrc hvs k2 k7
  have hst2 : lv = As.reverse ++ [.ref b] := by rw [← List.reverse_reverse lv, eV]; simp
  have hAs : As.length = am_na m2 - 1 := by
    have : lv.length = As.length + 1 := by rw [hst2]; simp
    omega
  rw [eV] at hvs
  have hp0 : PreV s H (am_mn m2).cls b (am_Pc G as h) As := ⟨am_Pc_blind, hrec k6, fun U hU hWU => ⟨_, rfl, hvs, by rw [hU]; exact hH, by rw [hU]; exact (hW.kept hS.1 hS.2.1).warm hWU⟩⟩
  have estk : lv ++ rv = As.reverse ++ .ref b :: rv := by rw [hst2]; simp
  have cw := cwV (R := R) (own := (am_mn m).cls) (C := (am_mn m2).cls) (index := idx) (am_na m2 - 1) hts (show GoodIn am_W (wsV (am_mn m).cls idx (am_mn m2).cls (am_mn m2) (Cond.code (am_mn m2) (am_cd m2) (am_ml m2) (am_re m2) :: (am_W ++ lw_tbl.filter goodWord))) from fun w h => by
      rcases List.mem_append.mp h with h | h
      · simp only [List.mem_cons, List.not_mem_nil, or_false] at h
        rcases h with rfl | rfl | rfl | rfl
        · exact am_good (ok2 (by omega))
        · exact am_good k1
        · exact am_good k5
        · exact am_good ok1
      · rcases List.mem_cons.mp h with rfl | h
        · exact am_good hcode
        · rcases List.mem_append.mp h with h | h
          · exact am_good h
          · exact am_good h) rfl rfl rfl ⟨rfl, hm2.2.2.1.1, hm2.2.2.1.2, k4⟩ hRm
  have hrun := vx_runV (e := e) (below := below) (meth := meth) (locs := locs) hfix hM cw hp0 (g := F0 mth pc arr (lv ++ rv)) rfl hAs hL.1 estk hW8 hd hbud
  intro T hT X0
  rcases hrun T hT X0 with ⟨ov, st₀, t, T', L, h0, X', hLb, e5, e6, ⟨v', r', h', hv, hrv2, hK, hHM, hF⟩, stp⟩ | ⟨q, st₀, t, T', L, E, ce, h0, X', hLb, e5, e6, ⟨k, h', hk1, hk3, hE, hK, hHM, hF⟩, hce, hcv, hcl, stp⟩
  · cases hv
    obtain ⟨t2, a1, b1⟩ := am_back (am_ret_zero hK) hL hrv hrv2 hHM hF hS h0 hLb e5 hbud.1 hbud.2 T' rfl X'
    exact ⟨t2, stp t2 a1, b1⟩
  · subst hE
    have hfn : am_fnd (am_hd m) k pc (fun q => am_Gl G m p l e R s mth args below meth cd Q (q, ls, [(10, 0)], h', c + (am_cap m2).1, s0 + (am_cap m2).2)) := by
      obtain ⟨k', rfl⟩ : ∃ k', k = k' + 1 := ⟨k - 1, by omega⟩
      cases hh3 : am_hd m with
      | nil => rw [hh3] at hK; exact hK.elim
      | cons a0 b0 => rw [hh3] at hK; exact hK
    obtain ⟨pre, ha, hb', hq, suf, hsp, g1, g2, g3, g4⟩ := am_fnd_split hfn
    obtain ⟨o1, o2⟩ := hho
    have hmem : (ha, hb', hq, k) ∈ am_hd m := by rw [hsp]; simp
    obtain ⟨p1, p2, p3⟩ := o2 _ hmem
    obtain ⟨hz, hkp⟩ := hF
    rw [h0] at hz hkp
    have hcatch : vx_W p l e R s mth args below meth cd T'.heap (locs ++ L) (c + (am_cap m2).1) (s0 + (am_cap m2).2) Q (F0 mth pc arr rv) q := by
      refine vx_catch (name := am_en k) hown (pre.map fun e => ⟨e.1, e.2.1, e.2.2.1, am_ct e.2.2.2⟩) ⟨ha, hb', hq, am_ct k⟩ (suf.map fun e => ⟨e.1, e.2.1, e.2.2.1, am_ct e.2.2.2⟩) ?_ ?_ ?_ (am_ct_pos k) (hts _ p2) (va_Nw.use rfl (hW.1.2.1 _ p3 rfl)) (by rw [e5]; exact hce) hcv hcl ?_
      · rw [htab, o1, hsp]
        unfold tableOf
        simp
        rfl
      · intro z hz9
        obtain ⟨z', hz1, rfl⟩ := List.mem_map.mp hz9
        by_cases hcov : z'.1 ≤ pc ∧ pc < z'.2.1
        · have hne := g4 z' hz1 hcov
          have hmem2 : z' ∈ am_hd m := by rw [hsp]; exact List.mem_append_left _ hz1
          obtain ⟨r1, r2, r3⟩ := o2 _ hmem2
          exact Or.inr ⟨am_ct_pos _, _, hts _ r2, hW.1.2.2.2.2 _ _ hk1 hk3 r1.1 r1.2 (fun z => hne z.symm)⟩
        · left
          unfold covers
          simp only [Bool.and_eq_false_iff, decide_eq_false_iff_not]
          by_cases h1 : z'.1 ≤ pc
          · right
            exact fun h2 => hcov ⟨h1, h2⟩
          · left
            exact h1
      · unfold covers
        simp [g1, g2]
      · refine g3 T'.heap (locs ++ L) arr [.ref q] (by rw [e5]; exact hHM) ⟨Nat.le_trans hS.1 (by rw [e5]; exact hz), fun q h1 h2 => ?_, fun q hq => ?_⟩ hL ⟨⟨q, rfl⟩, trivial⟩ hbud.1 hbud.2
        · rw [e5, hkp q (Nat.lt_of_lt_of_le h1 hS.1) h2]
          exact hS.2.1 q h1 h2
        · rcases List.mem_append.mp hq with h | h
          · exact hS.2.2 q h
          · exact hLb q h
    obtain ⟨t2, a1, b1⟩ := hcatch T' rfl X'
    exact ⟨t2, stp.trans a1, b1⟩
theorem am_i_cp (C : am_Cx G l d m p R s mth args meth cd) {idx : Nat} (hw1 : Cond.methodLink (am_mn m).cls idx arraycopyName ∈ am_W) (hw2 : Cond.static arraycopyName ∈ am_W) (hw3 : Cond.initialized "java/lang/System" ∈ am_W) (hw4 : Cond.native arraycopyName ∈ am_W) (hd : decode (am_cd m) pc = .ok (.invokestatic idx, 3))
    (w : am_stp X (am_Gl G m p l e R s mth args below meth cd Q) d hs K (am_pI st fun n r => am_pI r fun j r => am_pR r fun b r => am_pI r fun i r => am_pR r fun a r => am_few r <| am_ck (am_t h a = 20 ∧ am_t h b = 20 ∧ ¬ a = b ∧ 0 ≤ n ∧ 0 ≤ i ∧ i + n ≤ am_l h a ∧ 0 ≤ j ∧ j + n ≤ am_l h b) (pc + 3, ls, r, am_cp h a i b j n, c, s0))) : am_Gl G m p l e R s mth args below meth cd Q (pc, ls, st, h, c, s0) := by
  obtain ⟨hx, hb, hml, hown, hts, hW, hR, hlk, htr, hin⟩ := C
  have w1 := am_pI_inv w
  clear w
  obtain ⟨n, r, rfl, w⟩ := w1
  have w1 := am_pI_inv w
  clear w
  obtain ⟨j, r, rfl, w⟩ := w1
  have w1 := am_pR_inv w
  clear w
  obtain ⟨b, r, rfl, w⟩ := w1
  have w1 := am_pI_inv w
  clear w
  obtain ⟨i, r, rfl, w⟩ := w1
  have w1 := am_pR_inv w
  clear w
  obtain ⟨a, r, rfl, w⟩ := w1
  obtain ⟨hfew, ⟨ha, hb2, hab, hn0, hi0, hi1, hj0, hj1⟩, w⟩ := am_few_inv w
  intro H locs arr sv hH hS hL hst hc hs0
  dsimp only at hH hL hst hc hs0 ⊢
  have hq := am_RS_inv hst
  clear hst
  obtain ⟨VN, sv, rfl, ⟨n, rfl, rfl⟩, hst⟩ := hq
  have hq := am_RS_inv hst
  clear hst
  obtain ⟨VJ, sv, rfl, ⟨j, rfl, rfl⟩, hst⟩ := hq
  have hq := am_RS_inv hst
  clear hst
  obtain ⟨VB, sv, rfl, hVB, hst⟩ := hq
  have hq := am_RS_inv hst
  clear hst
  obtain ⟨VI, sv, rfl, ⟨i, rfl, rfl⟩, hst⟩ := hq
  have hq := am_RS_inv hst
  clear hst
  obtain ⟨VA, sv, rfl, hVA, hst⟩ := hq

  obtain ⟨ga1, ga2⟩ := hH.2.2 a (by omega)
  obtain ⟨gb1, gb2⟩ := hH.2.2 b (by omega)
  obtain ⟨na, f, fa1, fa2, fa3, fa4⟩ := (am_CO_i ha).mp ga2
  obtain ⟨nb, g, fb1, fb2, fb3, fb4⟩ := (am_CO_i hb2).mp gb2
  have hVa : VA = .ref (eB G + a.toNat) := by
    rcases hVA with ⟨hV, -⟩ | ⟨-, hV⟩
    · simp only at hV
      omega
    · exact hV
  have hVb : VB = .ref (eB G + b.toNat) := by
    rcases hVB with ⟨hV, -⟩ | ⟨-, hV⟩
    · simp only at hV
      omega
    · exact hV
  subst hVa
  subst hVb
  have hcat := am_RS_cat hst
  have hK : va_K (eD G) vwCl [(eI G, .int), (eY G, .byte), (eJ G, .long)] s := hW.1.1
  have en : (n.toNatClampNeg : Int) = n.toInt := by
    show ((n.toInt.toNat : Nat) : Int) = _
    omega
  have ei : (i.toNatClampNeg : Int) = i.toInt := by
    show ((i.toInt.toNat : Nat) : Int) = _
    omega
  have ej : (j.toNatClampNeg : Int) = j.toInt := by
    show ((j.toInt.toNat : Nat) : Int) = _
    omega
  have h0i : (0 : Int32).toInt = 0 := rfl
  have i1 : ¬ i < 0 := fun z => by have := Int32.lt_iff_toInt_lt.mp z; omega
  have i2 : ¬ j < 0 := fun z => by have := Int32.lt_iff_toInt_lt.mp z; omega
  have i3 : ¬ n < 0 := fun z => by have := Int32.lt_iff_toInt_lt.mp z; omega
  have h4 : i.toNatClampNeg + n.toNatClampNeg ≤ na := by omega
  have h5 : j.toNatClampNeg + n.toNatClampNeg ≤ nb := by omega
  intro T hT X0
  obtain ⟨-, k0, hk0, cm0, hkk0⟩ := (hK.2 0 _ rfl).1 na (fun j => .int (f j))
  have hc0 : H[eB G + a.toNat]? = some (vp_cell (eI G) (na, .inl f)) := fa1
  have hc1 : H[eB G + b.toNat]? = some (vp_cell (eI G) (nb, .inl g)) := fb1
  have hfr := hR.1
  have hlo := hR.2.1
  have hnf : nativeFrameWords "java/lang/System" "arraycopy" 5 ≤ 60 := by decide +kernel
  obtain ⟨vm', X', step⟩ := X0.arraycopy hx hown (hts _ hw1) (hts _ hw4) (hts _ hw2) (hts _ hw3) (src := eB G + a.toNat) (dst := eB G + b.toNat) (cs := vp_cell (eI G) (na, .inl f)) (cd := vp_cell (eI G) (nb, .inl g)) (srcPos := i) (destPos := j) (n := n) (by rw [hT]; exact hc0) (by rw [hT]; exact hc1)
    (fun _ h => by cases h) (fun _ h => by cases h) (fun h => by cases h) (fun h => by cases h) hk0 hk0 hkk0 hkk0 (by simp [refKind]) i1 i2 i3
    (by show ¬ _ > ((arrV (eI G) na (fun j => .int (f j))).slots.size : Int); rw [arrV_size]; omega)
    (by show ¬ _ > ((arrV (eI G) nb (fun j => .int (g j))).slots.size : Int); rw [arrV_size]; omega)
    (fun vm₁ _ i' hi' => by
      have e : (vp_cell (eI G) (na, .inl f)).slots.getD (i.toNatClampNeg + i') .null = .int (f (i.toNatClampNeg + i')) := by
        show (arrV (eI G) na (fun j => .int (f j))).slots.getD _ _ = _
        rw [Array.getD_eq_getD_getElem?, arrV_read _ _ (by omega)]
        rfl
      refine ⟨?_, ?_⟩
      · rw [e]
        rfl
      · rw [e]
        exact trivial)
    (g := F0 mth pc arr (.int n :: .int j :: .ref (eB G + b.toNat) :: .int i :: .ref (eB G + a.toNat) :: sv)) rfl (hL.1.trans hml.symm) (rest := sv) rfl (by rw [hb]; exact hd) (by omega) (by show 2 * 0 + _ + (nativeFrameWords "java/lang/System" "arraycopy" 5 + 11) ≤ _; rw [hcat]; omega)
  have e1 : copied (vp_cell (eI G) (na, .inl f)) (vp_cell (eI G) (nb, .inl g)) i j n = vp_cell (eI G) (nb, .inl (va_cpy f g i.toNatClampNeg j.toNatClampNeg n.toNatClampNeg)) := va_copied (fun z => .int z) (eI G) (eI G) f g h4
  rw [e1] at X' step
  have hl : eB G + b.toNat < H.size := (Array.getElem?_eq_some_iff.mp hc1).1
  have hheap : ((T.setVm vm').setCell (eB G + b.toNat) (vp_cell (eI G) (nb, .inl (va_cpy f g i.toNatClampNeg j.toNatClampNeg n.toNatClampNeg)))).heap = H.setIfInBounds (eB G + b.toNat) (vp_cell (eI G) (nb, .inl (va_cpy f g i.toNatClampNeg j.toNatClampNeg n.toNatClampNeg))) := by rw [← hT]; rfl
  have oq : ∀ q : Nat, q ≠ eB G + b.toNat → (H.setIfInBounds (eB G + b.toNat) (vp_cell (eI G) (nb, .inl (va_cpy f g i.toNatClampNeg j.toNatClampNeg n.toNatClampNeg))))[q]? = H[q]? := fun q hq => by simp [Array.getElem?_setIfInBounds, Ne.symm hq]
  have own1 : (H.setIfInBounds (eB G + b.toNat) (vp_cell (eI G) (nb, .inl (va_cpy f g i.toNatClampNeg j.toNatClampNeg n.toNatClampNeg))))[eB G + b.toNat]? = some (arrV (eI G) nb (fun k => .int (va_cpy f g i.toNatClampNeg j.toNatClampNeg n.toNatClampNeg k))) := by
    simp [Array.getElem?_setIfInBounds, hl]
    rfl
  have hHM : am_HM G (am_cp h a i.toInt b j.toInt n.toInt) (H.setIfInBounds (eB G + b.toNat) (vp_cell (eI G) (nb, .inl (va_cpy f g i.toNatClampNeg j.toNatClampNeg n.toNatClampNeg)))) := by
    refine am_HM_set hH (a := b) (by omega) (by simp) oq rfl rfl (fun _ => rfl) (fun _ => rfl) (fun _ => rfl) (fun q k hq => ?_) ?_
    · show (if q = b ∧ _ ∧ _ then _ else _) = _
      rw [if_neg (fun z => hq z.1)]
      rfl
    · refine (am_CO_i (h := am_cp h a i.toInt b j.toInt n.toInt) hb2).mpr ⟨nb, _, own1, fb2, fb3, fun k hk => ?_⟩
      show (if b = b ∧ j.toInt ≤ (k : Int) ∧ (k : Int) < j.toInt + n.toInt then am_m h a (i.toInt + ((k : Int) - j.toInt)) else am_m h b (k : Int)) = _
      unfold va_cpy
      by_cases hk2 : j.toNatClampNeg ≤ k ∧ k < j.toNatClampNeg + n.toNatClampNeg
      · rw [if_pos (by omega), if_pos hk2, show i.toInt + ((k : Int) - j.toInt) = ((i.toNatClampNeg + (k - j.toNatClampNeg) : Nat) : Int) by omega]
        exact fa4 _ (by omega)
      · rw [if_neg (by omega), if_neg hk2]
        exact fb4 k hk
  obtain ⟨t, a1, b1⟩ := w _ _ arr sv hHM ⟨by simp; exact hS.1, fun q g1 g2 => by
      rw [oq q (by omega)]
      exact hS.2.1 q g1 g2, fun q hq => by
      rcases List.mem_append.mp hq with h | h
      · exact hS.2.2 q h
      · obtain ⟨z, -, hz⟩ := List.mem_map.mp h
        rw [← hz]
        exact Nat.le_add_right _ _⟩ hL hst hc hs0 _ hheap X'
  exact ⟨t, step t a1, b1⟩
end SIM
end
section
/-! ===== the words of the tables, each at its place ===== -/
def am_pcs : Nat → List Cond
  | 0 => k2_sels lw_privs
  | 1 => tables_1_1
  | 2 => tables_1_2
  | 3 => tables_1_3
  | 4 => tables_1_4
  | 5 => tables_1_5
  | 6 => tables_1_6
  | _ => tables_1_7
theorem am_pcs_in {j : Nat} {w : Cond} (h : w ∈ am_pcs j) : w ∈ lw_tbl := by
  unfold lw_tbl tables_1
  simp only [List.mem_append]
  match j, h with
  | 0, h => exact Or.inl h
  | 1, h => exact Or.inr (Or.inl h)
  | 2, h => exact Or.inr (Or.inr (Or.inl h))
  | 3, h => exact Or.inr (Or.inr (Or.inr (Or.inl h)))
  | 4, h => exact Or.inr (Or.inr (Or.inr (Or.inr (Or.inl h))))
  | 5, h => exact Or.inr (Or.inr (Or.inr (Or.inr (Or.inr (Or.inl h)))))
  | 6, h => exact Or.inr (Or.inr (Or.inr (Or.inr (Or.inr (Or.inr (Or.inl h))))))
  | n + 7, h => exact Or.inr (Or.inr (Or.inr (Or.inr (Or.inr (Or.inr (Or.inr h))))))
theorem am_kin {w : Cond} (j k : Nat) (h : (am_pcs j)[k]? = some w) : w ∈ lw_tbl := am_pcs_in (List.mem_of_getElem? h)
theorem am_k0 : (Jvm.Cond.selects "BudgetJury$Tokens" ({ cls := "BudgetJury$Tokens", name := "skipBlanks", desc := "()V" } : Jvm.MethodName) ({ cls := "BudgetJury$Tokens", name := "skipBlanks", desc := "()V" } : Jvm.MethodName)) ∈ lw_tbl := am_kin 0 0 rfl
theorem am_k1 : (Jvm.Cond.selects "BudgetJury$Tokens" ({ cls := "BudgetJury$Tokens", name := "signAt", desc := "(I)I" } : Jvm.MethodName) ({ cls := "BudgetJury$Tokens", name := "signAt", desc := "(I)I" } : Jvm.MethodName)) ∈ lw_tbl := am_kin 0 1 rfl
theorem am_k2 : (Jvm.Cond.selects "BudgetJury$Tokens" ({ cls := "BudgetJury$Tokens", name := "cutOne", desc := "(I)I" } : Jvm.MethodName) ({ cls := "BudgetJury$Tokens", name := "cutOne", desc := "(I)I" } : Jvm.MethodName)) ∈ lw_tbl := am_kin 0 2 rfl
theorem am_k3 : (Jvm.Cond.selects "BudgetJury$Tokens" ({ cls := "BudgetJury$Tokens", name := "cutWord", desc := "(I)I" } : Jvm.MethodName) ({ cls := "BudgetJury$Tokens", name := "cutWord", desc := "(I)I" } : Jvm.MethodName)) ∈ lw_tbl := am_kin 0 3 rfl
theorem am_k4 : (Jvm.Cond.selects "BudgetJury$Tokens" ({ cls := "BudgetJury$Tokens", name := "cutNumber", desc := "(I)I" } : Jvm.MethodName) ({ cls := "BudgetJury$Tokens", name := "cutNumber", desc := "(I)I" } : Jvm.MethodName)) ∈ lw_tbl := am_kin 0 4 rfl
theorem am_k5 : (Jvm.Cond.selects "BudgetJury$Tokens" ({ cls := "BudgetJury$Tokens", name := "cutSymbol", desc := "()I" } : Jvm.MethodName) ({ cls := "BudgetJury$Tokens", name := "cutSymbol", desc := "()I" } : Jvm.MethodName)) ∈ lw_tbl := am_kin 0 5 rfl
theorem am_k6 : (Jvm.Cond.selects "BudgetJury$Grammar" ({ cls := "BudgetJury$Grammar", name := "here", desc := "()I" } : Jvm.MethodName) ({ cls := "BudgetJury$Grammar", name := "here", desc := "()I" } : Jvm.MethodName)) ∈ lw_tbl := am_kin 0 6 rfl
theorem am_k7 : (Jvm.Cond.selects "BudgetJury$Grammar" ({ cls := "BudgetJury$Grammar", name := "isLine", desc := "()Z" } : Jvm.MethodName) ({ cls := "BudgetJury$Grammar", name := "isLine", desc := "()Z" } : Jvm.MethodName)) ∈ lw_tbl := am_kin 0 7 rfl
theorem am_k8 : (Jvm.Cond.selects "BudgetJury$Grammar" ({ cls := "BudgetJury$Grammar", name := "take", desc := "(I)Z" } : Jvm.MethodName) ({ cls := "BudgetJury$Grammar", name := "take", desc := "(I)Z" } : Jvm.MethodName)) ∈ lw_tbl := am_kin 0 8 rfl
theorem am_k9 : (Jvm.Cond.selects "BudgetJury$Grammar" ({ cls := "BudgetJury$Grammar", name := "take", desc := "(II)Z" } : Jvm.MethodName) ({ cls := "BudgetJury$Grammar", name := "take", desc := "(II)Z" } : Jvm.MethodName)) ∈ lw_tbl := am_kin 0 9 rfl
theorem am_k10 : (Jvm.Cond.selects "BudgetJury$Grammar" ({ cls := "BudgetJury$Grammar", name := "isRowOfLiked", desc := "()Z" } : Jvm.MethodName) ({ cls := "BudgetJury$Grammar", name := "isRowOfLiked", desc := "()Z" } : Jvm.MethodName)) ∈ lw_tbl := am_kin 0 10 rfl
theorem am_k11 : (Jvm.Cond.selects "BudgetJury$Grammar" ({ cls := "BudgetJury$Grammar", name := "isBan", desc := "()Z" } : Jvm.MethodName) ({ cls := "BudgetJury$Grammar", name := "isBan", desc := "()Z" } : Jvm.MethodName)) ∈ lw_tbl := am_kin 0 11 rfl
theorem am_k12 : (Jvm.Cond.selects "BudgetJury$Grammar" ({ cls := "BudgetJury$Grammar", name := "isTest", desc := "(I)Z" } : Jvm.MethodName) ({ cls := "BudgetJury$Grammar", name := "isTest", desc := "(I)Z" } : Jvm.MethodName)) ∈ lw_tbl := am_kin 0 12 rfl
theorem am_k13 : (Jvm.Cond.selects "BudgetJury$Grammar" ({ cls := "BudgetJury$Grammar", name := "isBoth", desc := "(I)Z" } : Jvm.MethodName) ({ cls := "BudgetJury$Grammar", name := "isBoth", desc := "(I)Z" } : Jvm.MethodName)) ∈ lw_tbl := am_kin 0 13 rfl
theorem am_k14 : (Jvm.Cond.selects "BudgetJury$Grammar" ({ cls := "BudgetJury$Grammar", name := "isSingle", desc := "(I)Z" } : Jvm.MethodName) ({ cls := "BudgetJury$Grammar", name := "isSingle", desc := "(I)Z" } : Jvm.MethodName)) ∈ lw_tbl := am_kin 0 14 rfl
theorem am_k15 : (Jvm.Cond.selects "BudgetJury$Grammar" ({ cls := "BudgetJury$Grammar", name := "write", desc := "(I)Z" } : Jvm.MethodName) ({ cls := "BudgetJury$Grammar", name := "write", desc := "(I)Z" } : Jvm.MethodName)) ∈ lw_tbl := am_kin 0 15 rfl
theorem am_k16 : (Jvm.Cond.selects "BudgetJury$Grammar" ({ cls := "BudgetJury$Grammar", name := "write", desc := "(II)Z" } : Jvm.MethodName) ({ cls := "BudgetJury$Grammar", name := "write", desc := "(II)Z" } : Jvm.MethodName)) ∈ lw_tbl := am_kin 0 16 rfl
theorem am_k17 : (Jvm.Cond.selects "BudgetJury$Grammar" ({ cls := "BudgetJury$Grammar", name := "isNamed", desc := "(II)Z" } : Jvm.MethodName) ({ cls := "BudgetJury$Grammar", name := "isNamed", desc := "(II)Z" } : Jvm.MethodName)) ∈ lw_tbl := am_kin 0 17 rfl
theorem am_k18 : (Jvm.Cond.selects "BudgetJury$Grammar" ({ cls := "BudgetJury$Grammar", name := "isSum", desc := "(I)Z" } : Jvm.MethodName) ({ cls := "BudgetJury$Grammar", name := "isSum", desc := "(I)Z" } : Jvm.MethodName)) ∈ lw_tbl := am_kin 0 18 rfl
theorem am_k19 : (Jvm.Cond.selects "BudgetJury$Grammar" ({ cls := "BudgetJury$Grammar", name := "isProduct", desc := "(I)Z" } : Jvm.MethodName) ({ cls := "BudgetJury$Grammar", name := "isProduct", desc := "(I)Z" } : Jvm.MethodName)) ∈ lw_tbl := am_kin 0 19 rfl
theorem am_k20 : (Jvm.Cond.selects "BudgetJury$Grammar" ({ cls := "BudgetJury$Grammar", name := "isValue", desc := "(I)Z" } : Jvm.MethodName) ({ cls := "BudgetJury$Grammar", name := "isValue", desc := "(I)Z" } : Jvm.MethodName)) ∈ lw_tbl := am_kin 0 20 rfl
theorem am_k21 : (Jvm.Cond.selects "BudgetJury$Grammar" ({ cls := "BudgetJury$Grammar", name := "isPair", desc := "(I)Z" } : Jvm.MethodName) ({ cls := "BudgetJury$Grammar", name := "isPair", desc := "(I)Z" } : Jvm.MethodName)) ∈ lw_tbl := am_kin 0 21 rfl
theorem am_k22 : (Jvm.Cond.selects "BudgetJury$Grammar" ({ cls := "BudgetJury$Grammar", name := "comparisonHere", desc := "()I" } : Jvm.MethodName) ({ cls := "BudgetJury$Grammar", name := "comparisonHere", desc := "()I" } : Jvm.MethodName)) ∈ lw_tbl := am_kin 0 22 rfl
theorem am_k23 : (Jvm.Cond.selects "BudgetJury$Checker" ({ cls := "BudgetJury$Checker", name := "errorHere", desc := "(LBudgetJury$Plan;)I" } : Jvm.MethodName) ({ cls := "BudgetJury$Checker", name := "errorHere", desc := "(LBudgetJury$Plan;)I" } : Jvm.MethodName)) ∈ lw_tbl := am_kin 0 23 rfl
theorem am_k24 : (Jvm.Cond.selects "BudgetJury$Checker" ({ cls := "BudgetJury$Checker", name := "tellWard", desc := "(LBudgetJury$Plan;J)I" } : Jvm.MethodName) ({ cls := "BudgetJury$Checker", name := "tellWard", desc := "(LBudgetJury$Plan;J)I" } : Jvm.MethodName)) ∈ lw_tbl := am_kin 0 24 rfl
theorem am_k25 : (Jvm.Cond.selects "BudgetJury$Checker" ({ cls := "BudgetJury$Checker", name := "tellProject", desc := "(LBudgetJury$Plan;J)I" } : Jvm.MethodName) ({ cls := "BudgetJury$Checker", name := "tellProject", desc := "(LBudgetJury$Plan;J)I" } : Jvm.MethodName)) ∈ lw_tbl := am_kin 0 25 rfl
theorem am_k26 : (Jvm.Cond.selects "BudgetJury$Checker" ({ cls := "BudgetJury$Checker", name := "tellVoter", desc := "(LBudgetJury$Plan;J)I" } : Jvm.MethodName) ({ cls := "BudgetJury$Checker", name := "tellVoter", desc := "(LBudgetJury$Plan;J)I" } : Jvm.MethodName)) ∈ lw_tbl := am_kin 0 26 rfl
theorem am_k27 : (Jvm.Cond.selects "BudgetJury$Checker" ({ cls := "BudgetJury$Checker", name := "tellBan", desc := "(LBudgetJury$Plan;)I" } : Jvm.MethodName) ({ cls := "BudgetJury$Checker", name := "tellBan", desc := "(LBudgetJury$Plan;)I" } : Jvm.MethodName)) ∈ lw_tbl := am_kin 0 27 rfl
theorem am_k28 : (Jvm.Cond.selects "BudgetJury$Checker" ({ cls := "BudgetJury$Checker", name := "putNumber", desc := "([IIII)I" } : Jvm.MethodName) ({ cls := "BudgetJury$Checker", name := "putNumber", desc := "([IIII)I" } : Jvm.MethodName)) ∈ lw_tbl := am_kin 0 28 rfl
theorem am_k29 : (Jvm.Cond.selects "BudgetJury$Checker" ({ cls := "BudgetJury$Checker", name := "setArguments", desc := "(LBudgetJury$Plan;)V" } : Jvm.MethodName) ({ cls := "BudgetJury$Checker", name := "setArguments", desc := "(LBudgetJury$Plan;)V" } : Jvm.MethodName)) ∈ lw_tbl := am_kin 0 29 rfl
theorem am_k30 : (Jvm.Cond.selects "BudgetJury$Parish" ({ cls := "BudgetJury$Parish", name := "hasRoom", desc := "(I)Z" } : Jvm.MethodName) ({ cls := "BudgetJury$Parish", name := "hasRoom", desc := "(I)Z" } : Jvm.MethodName)) ∈ lw_tbl := am_kin 0 30 rfl
theorem am_k31 : (Jvm.Cond.selects "BudgetJury$Parish" ({ cls := "BudgetJury$Parish", name := "coinsOfFans", desc := "(I)I" } : Jvm.MethodName) ({ cls := "BudgetJury$Parish", name := "coinsOfFans", desc := "(I)I" } : Jvm.MethodName)) ∈ lw_tbl := am_kin 0 31 rfl
theorem am_k32 : (Jvm.Cond.selects "BudgetJury$Parish" ({ cls := "BudgetJury$Parish", name := "fanCount", desc := "(I)I" } : Jvm.MethodName) ({ cls := "BudgetJury$Parish", name := "fanCount", desc := "(I)I" } : Jvm.MethodName)) ∈ lw_tbl := am_kin 0 32 rfl
theorem am_k33 : (Jvm.Cond.selects "BudgetJury$Parish" ({ cls := "BudgetJury$Parish", name := "isBanned", desc := "(I)Z" } : Jvm.MethodName) ({ cls := "BudgetJury$Parish", name := "isBanned", desc := "(I)Z" } : Jvm.MethodName)) ∈ lw_tbl := am_kin 0 33 rfl
theorem am_k34 : (Jvm.Cond.selects "BudgetJury$Parish" ({ cls := "BudgetJury$Parish", name := "holds", desc := "(I)Z" } : Jvm.MethodName) ({ cls := "BudgetJury$Parish", name := "holds", desc := "(I)Z" } : Jvm.MethodName)) ∈ lw_tbl := am_kin 0 34 rfl
theorem am_k35 : (Jvm.Cond.selects "BudgetJury$Parish" ({ cls := "BudgetJury$Parish", name := "pop", desc := "()I" } : Jvm.MethodName) ({ cls := "BudgetJury$Parish", name := "pop", desc := "()I" } : Jvm.MethodName)) ∈ lw_tbl := am_kin 0 35 rfl
theorem am_k36 : (Jvm.Cond.selects "BudgetJury$Parish" ({ cls := "BudgetJury$Parish", name := "push", desc := "(I)V" } : Jvm.MethodName) ({ cls := "BudgetJury$Parish", name := "push", desc := "(I)V" } : Jvm.MethodName)) ∈ lw_tbl := am_kin 0 36 rfl
theorem am_k37 : (Jvm.Cond.selects "BudgetJury$Parish" ({ cls := "BudgetJury$Parish", name := "single", desc := "(II)I" } : Jvm.MethodName) ({ cls := "BudgetJury$Parish", name := "single", desc := "(II)I" } : Jvm.MethodName)) ∈ lw_tbl := am_kin 0 37 rfl
theorem am_k38 : (Jvm.Cond.selects "BudgetJury$Parish" ({ cls := "BudgetJury$Parish", name := "reckon", desc := "(III)I" } : Jvm.MethodName) ({ cls := "BudgetJury$Parish", name := "reckon", desc := "(III)I" } : Jvm.MethodName)) ∈ lw_tbl := am_kin 0 38 rfl
theorem am_k39 : (Jvm.Cond.selects "BudgetJury" ({ cls := "BudgetJury", name := "countOf", desc := "(I)I" } : Jvm.MethodName) ({ cls := "BudgetJury", name := "countOf", desc := "(I)I" } : Jvm.MethodName)) ∈ lw_tbl := am_kin 0 39 rfl
theorem am_k40 : (Jvm.Cond.selects "BudgetJury$Parish" ({ cls := "BudgetJury$Parish", name := "purses", desc := "()I" } : Jvm.MethodName) ({ cls := "BudgetJury$Parish", name := "purses", desc := "()I" } : Jvm.MethodName)) ∈ lw_tbl := am_kin 0 40 rfl
theorem am_k41 : (Jvm.Cond.selects "BudgetJury$Parish" ({ cls := "BudgetJury$Parish", name := "boughtCount", desc := "()I" } : Jvm.MethodName) ({ cls := "BudgetJury$Parish", name := "boughtCount", desc := "()I" } : Jvm.MethodName)) ∈ lw_tbl := am_kin 0 41 rfl
theorem am_k42 : (Jvm.Cond.selects "BudgetJury$Parish" ({ cls := "BudgetJury$Parish", name := "likedCount", desc := "(I)I" } : Jvm.MethodName) ({ cls := "BudgetJury$Parish", name := "likedCount", desc := "(I)I" } : Jvm.MethodName)) ∈ lw_tbl := am_kin 0 42 rfl
theorem am_k44 : (Jvm.Cond.selects "BudgetJury" ({ cls := "BudgetJury", name := "append", desc := "(I)V" } : Jvm.MethodName) ({ cls := "BudgetJury", name := "append", desc := "(I)V" } : Jvm.MethodName)) ∈ lw_tbl := am_kin 0 44 rfl
theorem am_k45 : (Jvm.Cond.selects "BudgetJury$Parish" ({ cls := "BudgetJury$Parish", name := "buyFromPurses", desc := "()V" } : Jvm.MethodName) ({ cls := "BudgetJury$Parish", name := "buyFromPurses", desc := "()V" } : Jvm.MethodName)) ∈ lw_tbl := am_kin 0 45 rfl
theorem am_k46 : (Jvm.Cond.selects "BudgetJury$Parish" ({ cls := "BudgetJury$Parish", name := "buy", desc := "(II)V" } : Jvm.MethodName) ({ cls := "BudgetJury$Parish", name := "buy", desc := "(II)V" } : Jvm.MethodName)) ∈ lw_tbl := am_kin 0 46 rfl
theorem am_k47 : (Jvm.Cond.selects "BudgetJury$Parish" ({ cls := "BudgetJury$Parish", name := "build", desc := "(I)V" } : Jvm.MethodName) ({ cls := "BudgetJury$Parish", name := "build", desc := "(I)V" } : Jvm.MethodName)) ∈ lw_tbl := am_kin 0 47 rfl
theorem am_k48 : (Jvm.Cond.selects "BudgetJury$Parish" ({ cls := "BudgetJury$Parish", name := "buildFromPot", desc := "()V" } : Jvm.MethodName) ({ cls := "BudgetJury$Parish", name := "buildFromPot", desc := "()V" } : Jvm.MethodName)) ∈ lw_tbl := am_kin 0 48 rfl
theorem am_k49 : (Jvm.Cond.selects "BudgetJury$Parish" ({ cls := "BudgetJury$Parish", name := "bestForPot", desc := "()I" } : Jvm.MethodName) ({ cls := "BudgetJury$Parish", name := "bestForPot", desc := "()I" } : Jvm.MethodName)) ∈ lw_tbl := am_kin 0 49 rfl
theorem am_k50 : (Jvm.Cond.selects "BudgetJury$Parish" ({ cls := "BudgetJury$Parish", name := "isBetterForPot", desc := "(II)Z" } : Jvm.MethodName) ({ cls := "BudgetJury$Parish", name := "isBetterForPot", desc := "(II)Z" } : Jvm.MethodName)) ∈ lw_tbl := am_kin 0 50 rfl
theorem am_k51 : (Jvm.Cond.selects "BudgetJury$Parish" ({ cls := "BudgetJury$Parish", name := "grow", desc := "()V" } : Jvm.MethodName) ({ cls := "BudgetJury$Parish", name := "grow", desc := "()V" } : Jvm.MethodName)) ∈ lw_tbl := am_kin 0 51 rfl
theorem am_k52 : (Jvm.Cond.selects "BudgetJuryModel" ({ cls := "BudgetJuryModel", name := "no", desc := "(I)I" } : Jvm.MethodName) ({ cls := "BudgetJuryModel", name := "no", desc := "(I)I" } : Jvm.MethodName)) ∈ lw_tbl := am_kin 0 52 rfl
theorem am_k53 : (Jvm.Cond.selects "BudgetJuryModel" ({ cls := "BudgetJuryModel", name := "read", desc := "()I" } : Jvm.MethodName) ({ cls := "BudgetJuryModel", name := "read", desc := "()I" } : Jvm.MethodName)) ∈ lw_tbl := am_kin 0 53 rfl
theorem am_k54 : (Jvm.Cond.selects "BudgetJuryModel" ({ cls := "BudgetJuryModel", name := "cut", desc := "()V" } : Jvm.MethodName) ({ cls := "BudgetJuryModel", name := "cut", desc := "()V" } : Jvm.MethodName)) ∈ lw_tbl := am_kin 0 54 rfl
theorem am_k55 : (Jvm.Cond.selects "BudgetJuryModel" ({ cls := "BudgetJuryModel", name := "byteOf", desc := "(I)I" } : Jvm.MethodName) ({ cls := "BudgetJuryModel", name := "byteOf", desc := "(I)I" } : Jvm.MethodName)) ∈ lw_tbl := am_kin 0 55 rfl
theorem am_k56 : (Jvm.Cond.selects "BudgetJuryModel" ({ cls := "BudgetJuryModel", name := "kindAt", desc := "(II)I" } : Jvm.MethodName) ({ cls := "BudgetJuryModel", name := "kindAt", desc := "(II)I" } : Jvm.MethodName)) ∈ lw_tbl := am_kin 0 56 rfl
theorem am_k57 : (Jvm.Cond.selects "BudgetJuryModel" ({ cls := "BudgetJuryModel", name := "word", desc := "(II)I" } : Jvm.MethodName) ({ cls := "BudgetJuryModel", name := "word", desc := "(II)I" } : Jvm.MethodName)) ∈ lw_tbl := am_kin 0 57 rfl
theorem am_k58 : (Jvm.Cond.selects "BudgetJuryModel" ({ cls := "BudgetJuryModel", name := "isPlan", desc := "()Z" } : Jvm.MethodName) ({ cls := "BudgetJuryModel", name := "isPlan", desc := "()Z" } : Jvm.MethodName)) ∈ lw_tbl := am_kin 0 58 rfl
theorem am_k59 : (Jvm.Cond.selects "BudgetJuryModel" ({ cls := "BudgetJuryModel", name := "is", desc := "(I)Z" } : Jvm.MethodName) ({ cls := "BudgetJuryModel", name := "is", desc := "(I)Z" } : Jvm.MethodName)) ∈ lw_tbl := am_kin 0 59 rfl
theorem am_k60 : (Jvm.Cond.selects "BudgetJuryModel" ({ cls := "BudgetJuryModel", name := "isWardLine", desc := "()Z" } : Jvm.MethodName) ({ cls := "BudgetJuryModel", name := "isWardLine", desc := "()Z" } : Jvm.MethodName)) ∈ lw_tbl := am_kin 0 60 rfl
theorem am_k61 : (Jvm.Cond.selects "BudgetJuryModel" ({ cls := "BudgetJuryModel", name := "eatAs", desc := "(II)Z" } : Jvm.MethodName) ({ cls := "BudgetJuryModel", name := "eatAs", desc := "(II)Z" } : Jvm.MethodName)) ∈ lw_tbl := am_kin 0 61 rfl
theorem am_k62 : (Jvm.Cond.selects "BudgetJuryModel" ({ cls := "BudgetJuryModel", name := "eat", desc := "(I)Z" } : Jvm.MethodName) ({ cls := "BudgetJuryModel", name := "eat", desc := "(I)Z" } : Jvm.MethodName)) ∈ lw_tbl := am_kin 0 62 rfl
theorem am_k63 : (Jvm.Cond.selects "BudgetJuryModel" ({ cls := "BudgetJuryModel", name := "isProjectLine", desc := "()Z" } : Jvm.MethodName) ({ cls := "BudgetJuryModel", name := "isProjectLine", desc := "()Z" } : Jvm.MethodName)) ∈ lw_tbl := am_kin 0 63 rfl
theorem am_k64 : (Jvm.Cond.selects "BudgetJuryModel" ({ cls := "BudgetJuryModel", name := "isVoterLine", desc := "()Z" } : Jvm.MethodName) ({ cls := "BudgetJuryModel", name := "isVoterLine", desc := "()Z" } : Jvm.MethodName)) ∈ lw_tbl := am_kin 0 64 rfl
theorem am_k65 : (Jvm.Cond.selects "BudgetJuryModel" ({ cls := "BudgetJuryModel", name := "isBudgetLine", desc := "()Z" } : Jvm.MethodName) ({ cls := "BudgetJuryModel", name := "isBudgetLine", desc := "()Z" } : Jvm.MethodName)) ∈ lw_tbl := am_kin 0 65 rfl
theorem am_k66 : (Jvm.Cond.selects "BudgetJuryModel" ({ cls := "BudgetJuryModel", name := "isBanLine", desc := "()Z" } : Jvm.MethodName) ({ cls := "BudgetJuryModel", name := "isBanLine", desc := "()Z" } : Jvm.MethodName)) ∈ lw_tbl := am_kin 0 66 rfl
theorem am_k67 : (Jvm.Cond.selects "BudgetJuryModel" ({ cls := "BudgetJuryModel", name := "isTest", desc := "()Z" } : Jvm.MethodName) ({ cls := "BudgetJuryModel", name := "isTest", desc := "()Z" } : Jvm.MethodName)) ∈ lw_tbl := am_kin 0 67 rfl
theorem am_k68 : (Jvm.Cond.selects "BudgetJuryModel" ({ cls := "BudgetJuryModel", name := "isBoth", desc := "()Z" } : Jvm.MethodName) ({ cls := "BudgetJuryModel", name := "isBoth", desc := "()Z" } : Jvm.MethodName)) ∈ lw_tbl := am_kin 0 68 rfl
theorem am_k69 : (Jvm.Cond.selects "BudgetJuryModel" ({ cls := "BudgetJuryModel", name := "isSingle", desc := "()Z" } : Jvm.MethodName) ({ cls := "BudgetJuryModel", name := "isSingle", desc := "()Z" } : Jvm.MethodName)) ∈ lw_tbl := am_kin 0 69 rfl
theorem am_k70 : (Jvm.Cond.selects "BudgetJuryModel" ({ cls := "BudgetJuryModel", name := "isDeeper", desc := "()Z" } : Jvm.MethodName) ({ cls := "BudgetJuryModel", name := "isDeeper", desc := "()Z" } : Jvm.MethodName)) ∈ lw_tbl := am_kin 0 70 rfl
theorem am_k71 : (Jvm.Cond.selects "BudgetJuryModel" ({ cls := "BudgetJuryModel", name := "put", desc := "(I)V" } : Jvm.MethodName) ({ cls := "BudgetJuryModel", name := "put", desc := "(I)V" } : Jvm.MethodName)) ∈ lw_tbl := am_kin 0 71 rfl
theorem am_k72 : (Jvm.Cond.selects "BudgetJuryModel" ({ cls := "BudgetJuryModel", name := "isSign", desc := "(C)Z" } : Jvm.MethodName) ({ cls := "BudgetJuryModel", name := "isSign", desc := "(C)Z" } : Jvm.MethodName)) ∈ lw_tbl := am_kin 0 72 rfl
theorem am_k73 : (Jvm.Cond.selects "BudgetJuryModel" ({ cls := "BudgetJuryModel", name := "eatSign", desc := "(C)Z" } : Jvm.MethodName) ({ cls := "BudgetJuryModel", name := "eatSign", desc := "(C)Z" } : Jvm.MethodName)) ∈ lw_tbl := am_kin 0 73 rfl
theorem am_k74 : (Jvm.Cond.selects "BudgetJuryModel" ({ cls := "BudgetJuryModel", name := "isNamed", desc := "(I)Z" } : Jvm.MethodName) ({ cls := "BudgetJuryModel", name := "isNamed", desc := "(I)Z" } : Jvm.MethodName)) ∈ lw_tbl := am_kin 0 74 rfl
theorem am_k75 : (Jvm.Cond.selects "BudgetJuryModel" ({ cls := "BudgetJuryModel", name := "isName", desc := "(I)Z" } : Jvm.MethodName) ({ cls := "BudgetJuryModel", name := "isName", desc := "(I)Z" } : Jvm.MethodName)) ∈ lw_tbl := am_kin 0 75 rfl
theorem am_k76 : (Jvm.Cond.selects "BudgetJuryModel" ({ cls := "BudgetJuryModel", name := "isSum", desc := "()Z" } : Jvm.MethodName) ({ cls := "BudgetJuryModel", name := "isSum", desc := "()Z" } : Jvm.MethodName)) ∈ lw_tbl := am_kin 0 76 rfl
theorem am_k77 : (Jvm.Cond.selects "BudgetJuryModel" ({ cls := "BudgetJuryModel", name := "isProduct", desc := "()Z" } : Jvm.MethodName) ({ cls := "BudgetJuryModel", name := "isProduct", desc := "()Z" } : Jvm.MethodName)) ∈ lw_tbl := am_kin 0 77 rfl
theorem am_k78 : (Jvm.Cond.selects "BudgetJuryModel" ({ cls := "BudgetJuryModel", name := "isValue", desc := "()Z" } : Jvm.MethodName) ({ cls := "BudgetJuryModel", name := "isValue", desc := "()Z" } : Jvm.MethodName)) ∈ lw_tbl := am_kin 0 78 rfl
theorem am_k79 : (Jvm.Cond.selects "BudgetJuryModel" ({ cls := "BudgetJuryModel", name := "numberAt", desc := "(I)I" } : Jvm.MethodName) ({ cls := "BudgetJuryModel", name := "numberAt", desc := "(I)I" } : Jvm.MethodName)) ∈ lw_tbl := am_kin 0 79 rfl
theorem am_k80 : (Jvm.Cond.selects "BudgetJuryModel" ({ cls := "BudgetJuryModel", name := "isInside", desc := "(IZ)Z" } : Jvm.MethodName) ({ cls := "BudgetJuryModel", name := "isInside", desc := "(IZ)Z" } : Jvm.MethodName)) ∈ lw_tbl := am_kin 0 80 rfl
theorem am_k81 : (Jvm.Cond.selects "BudgetJuryModel" ({ cls := "BudgetJuryModel", name := "errorOf", desc := "(I)I" } : Jvm.MethodName) ({ cls := "BudgetJuryModel", name := "errorOf", desc := "(I)I" } : Jvm.MethodName)) ∈ lw_tbl := am_kin 0 81 rfl
theorem am_k82 : (Jvm.Cond.selects "BudgetJuryModel" ({ cls := "BudgetJuryModel", name := "isNew", desc := "(III)I" } : Jvm.MethodName) ({ cls := "BudgetJuryModel", name := "isNew", desc := "(III)I" } : Jvm.MethodName)) ∈ lw_tbl := am_kin 0 82 rfl
theorem am_k83 : (Jvm.Cond.selects "BudgetJuryModel" ({ cls := "BudgetJuryModel", name := "told", desc := "(II)I" } : Jvm.MethodName) ({ cls := "BudgetJuryModel", name := "told", desc := "(II)I" } : Jvm.MethodName)) ∈ lw_tbl := am_kin 0 83 rfl
theorem am_k84 : (Jvm.Cond.selects "BudgetJuryModel" ({ cls := "BudgetJuryModel", name := "isSame", desc := "(II)Z" } : Jvm.MethodName) ({ cls := "BudgetJuryModel", name := "isSame", desc := "(II)Z" } : Jvm.MethodName)) ∈ lw_tbl := am_kin 0 84 rfl
theorem am_k85 : (Jvm.Cond.selects "BudgetJuryModel" ({ cls := "BudgetJuryModel", name := "ban", desc := "()I" } : Jvm.MethodName) ({ cls := "BudgetJuryModel", name := "ban", desc := "()I" } : Jvm.MethodName)) ∈ lw_tbl := am_kin 0 85 rfl
theorem am_k86 : (Jvm.Cond.selects "BudgetJuryModel" ({ cls := "BudgetJuryModel", name := "look", desc := "(II)I" } : Jvm.MethodName) ({ cls := "BudgetJuryModel", name := "look", desc := "(II)I" } : Jvm.MethodName)) ∈ lw_tbl := am_kin 0 86 rfl
theorem am_k87 : (Jvm.Cond.selects "BudgetJuryModel" ({ cls := "BudgetJuryModel", name := "like", desc := "(I)I" } : Jvm.MethodName) ({ cls := "BudgetJuryModel", name := "like", desc := "(I)I" } : Jvm.MethodName)) ∈ lw_tbl := am_kin 0 87 rfl
theorem am_k88 : (Jvm.Cond.selects "BudgetJuryModel" ({ cls := "BudgetJuryModel", name := "numberOf", desc := "(I)I" } : Jvm.MethodName) ({ cls := "BudgetJuryModel", name := "numberOf", desc := "(I)I" } : Jvm.MethodName)) ∈ lw_tbl := am_kin 0 88 rfl
theorem am_k89 : (Jvm.Cond.selects "BudgetJuryModel" ({ cls := "BudgetJuryModel", name := "inRange", desc := "(III)I" } : Jvm.MethodName) ({ cls := "BudgetJuryModel", name := "inRange", desc := "(III)I" } : Jvm.MethodName)) ∈ lw_tbl := am_kin 0 89 rfl
theorem am_k90 : (Jvm.Cond.selects "BudgetJuryModel" ({ cls := "BudgetJuryModel", name := "counted", desc := "(I)I" } : Jvm.MethodName) ({ cls := "BudgetJuryModel", name := "counted", desc := "(I)I" } : Jvm.MethodName)) ∈ lw_tbl := am_kin 0 90 rfl
theorem am_k91 : (Jvm.Cond.selects "BudgetJuryModel$State" ({ cls := "BudgetJuryModel$State", name := "purses", desc := "()I" } : Jvm.MethodName) ({ cls := "BudgetJuryModel$State", name := "purses", desc := "()I" } : Jvm.MethodName)) ∈ lw_tbl := am_kin 0 91 rfl
theorem am_k92 : (Jvm.Cond.selects "BudgetJuryModel$State" ({ cls := "BudgetJuryModel$State", name := "allBuilt", desc := "(Z)I" } : Jvm.MethodName) ({ cls := "BudgetJuryModel$State", name := "allBuilt", desc := "(Z)I" } : Jvm.MethodName)) ∈ lw_tbl := am_kin 0 92 rfl
theorem am_k93 : (Jvm.Cond.selects "BudgetJuryModel" ({ cls := "BudgetJuryModel", name := "isWard", desc := "(I)Z" } : Jvm.MethodName) ({ cls := "BudgetJuryModel", name := "isWard", desc := "(I)Z" } : Jvm.MethodName)) ∈ lw_tbl := am_kin 0 93 rfl
theorem am_k94 : (Jvm.Cond.selects "BudgetJuryModel" ({ cls := "BudgetJuryModel", name := "wardTold", desc := "(II)I" } : Jvm.MethodName) ({ cls := "BudgetJuryModel", name := "wardTold", desc := "(II)I" } : Jvm.MethodName)) ∈ lw_tbl := am_kin 0 94 rfl
theorem am_k95 : (Jvm.Cond.selects "BudgetJuryModel" ({ cls := "BudgetJuryModel", name := "isProject", desc := "(I)Z" } : Jvm.MethodName) ({ cls := "BudgetJuryModel", name := "isProject", desc := "(I)Z" } : Jvm.MethodName)) ∈ lw_tbl := am_kin 0 95 rfl
theorem am_k96 : (Jvm.Cond.selects "BudgetJuryModel" ({ cls := "BudgetJuryModel", name := "projectTold", desc := "(II)I" } : Jvm.MethodName) ({ cls := "BudgetJuryModel", name := "projectTold", desc := "(II)I" } : Jvm.MethodName)) ∈ lw_tbl := am_kin 0 96 rfl
theorem am_k97 : (Jvm.Cond.selects "BudgetJuryModel$State" ({ cls := "BudgetJuryModel$State", name := "carryOut", desc := "(II)I" } : Jvm.MethodName) ({ cls := "BudgetJuryModel$State", name := "carryOut", desc := "(II)I" } : Jvm.MethodName)) ∈ lw_tbl := am_kin 0 97 rfl
theorem am_k98 : (Jvm.Cond.selects "BudgetJuryModel$State" ({ cls := "BudgetJuryModel$State", name := "pushed", desc := "(II)I" } : Jvm.MethodName) ({ cls := "BudgetJuryModel$State", name := "pushed", desc := "(II)I" } : Jvm.MethodName)) ∈ lw_tbl := am_kin 0 98 rfl
theorem am_k99 : (Jvm.Cond.selects "BudgetJuryModel" ({ cls := "BudgetJuryModel", name := "isVoter", desc := "(I)Z" } : Jvm.MethodName) ({ cls := "BudgetJuryModel", name := "isVoter", desc := "(I)Z" } : Jvm.MethodName)) ∈ lw_tbl := am_kin 0 99 rfl
theorem am_k100 : (Jvm.Cond.selects "BudgetJuryModel" ({ cls := "BudgetJuryModel", name := "voterTold", desc := "(II)I" } : Jvm.MethodName) ({ cls := "BudgetJuryModel", name := "voterTold", desc := "(II)I" } : Jvm.MethodName)) ∈ lw_tbl := am_kin 0 100 rfl
theorem am_k101 : (Jvm.Cond.selects "BudgetJuryModel" ({ cls := "BudgetJuryModel", name := "nextOne", desc := "()I" } : Jvm.MethodName) ({ cls := "BudgetJuryModel", name := "nextOne", desc := "()I" } : Jvm.MethodName)) ∈ lw_tbl := am_kin 0 101 rfl
theorem am_k102 : (Jvm.Cond.selects "BudgetJuryModel$State" ({ cls := "BudgetJuryModel$State", name := "copy", desc := "([I[I)V" } : Jvm.MethodName) ({ cls := "BudgetJuryModel$State", name := "copy", desc := "([I[I)V" } : Jvm.MethodName)) ∈ lw_tbl := am_kin 0 102 rfl
theorem am_k103 : (Jvm.Cond.selects "BudgetJuryModel$State" ({ cls := "BudgetJuryModel$State", name := "canBeChosen", desc := "(I)Z" } : Jvm.MethodName) ({ cls := "BudgetJuryModel$State", name := "canBeChosen", desc := "(I)Z" } : Jvm.MethodName)) ∈ lw_tbl := am_kin 0 103 rfl
theorem am_k104 : (Jvm.Cond.selects "BudgetJuryModel$State" ({ cls := "BudgetJuryModel$State", name := "buy", desc := "(I)V" } : Jvm.MethodName) ({ cls := "BudgetJuryModel$State", name := "buy", desc := "(I)V" } : Jvm.MethodName)) ∈ lw_tbl := am_kin 0 104 rfl
theorem am_k105 : (Jvm.Cond.selects "BudgetJuryModel$State" ({ cls := "BudgetJuryModel$State", name := "build", desc := "(I)V" } : Jvm.MethodName) ({ cls := "BudgetJuryModel$State", name := "build", desc := "(I)V" } : Jvm.MethodName)) ∈ lw_tbl := am_kin 0 105 rfl
theorem am_k106 : (Jvm.Cond.selects "BudgetJuryModel$State" ({ cls := "BudgetJuryModel$State", name := "nextOfPot", desc := "()I" } : Jvm.MethodName) ({ cls := "BudgetJuryModel$State", name := "nextOfPot", desc := "()I" } : Jvm.MethodName)) ∈ lw_tbl := am_kin 0 106 rfl
theorem am_k107 : (Jvm.Cond.initialized "BudgetJuryLaw") ∈ lw_tbl := am_kin 1 0 rfl
theorem am_k108 : (Jvm.Cond.initialized "BudgetJury") ∈ lw_tbl := am_kin 1 1 rfl
theorem am_k109 : (Jvm.Cond.initialized "BudgetJury$Plan") ∈ lw_tbl := am_kin 1 2 rfl
theorem am_k110 : (Jvm.Cond.initialized "BudgetJury$Tokens") ∈ lw_tbl := am_kin 1 3 rfl
theorem am_k111 : (Jvm.Cond.initialized "java/lang/String") ∈ lw_tbl := am_kin 1 4 rfl
theorem am_k112 : (Jvm.Cond.initialized "java/lang/StringLatin1") ∈ lw_tbl := am_kin 1 5 rfl
theorem am_k113 : (Jvm.Cond.initialized "jdk/internal/util/Preconditions") ∈ lw_tbl := am_kin 1 6 rfl
theorem am_k115 : (Jvm.Cond.initialized "BudgetJury$Grammar") ∈ lw_tbl := am_kin 1 8 rfl
theorem am_k116 : (Jvm.Cond.initialized "BudgetJury$Checker") ∈ lw_tbl := am_kin 1 9 rfl
theorem am_k117 : (Jvm.Cond.initialized "BudgetJury$Parish") ∈ lw_tbl := am_kin 1 10 rfl
theorem am_k118 : (Jvm.Cond.initialized "BudgetJuryModel") ∈ lw_tbl := am_kin 1 11 rfl
theorem am_k119 : (Jvm.Cond.initialized "BudgetJuryModel$Plan") ∈ lw_tbl := am_kin 1 12 rfl
theorem am_k120 : (Jvm.Cond.initialized "BudgetJuryModel$State") ∈ lw_tbl := am_kin 1 13 rfl
theorem am_k124 : (Jvm.Cond.initialized "java/lang/IllegalStateException") ∈ lw_tbl := am_kin 1 17 rfl
theorem am_k125 : (Jvm.Cond.initialized "java/lang/IllegalArgumentException") ∈ lw_tbl := am_kin 1 18 rfl
theorem am_k126 : (Jvm.Cond.initialized "java/lang/Math") ∈ lw_tbl := am_kin 1 19 rfl
theorem am_k128 : (Jvm.Cond.initialized "java/lang/IndexOutOfBoundsException") ∈ lw_tbl := am_kin 1 21 rfl
theorem am_k129 : (Jvm.Cond.initialized "java/lang/Integer") ∈ lw_tbl := am_kin 1 22 rfl
theorem am_k130 : (Jvm.Cond.initialized "java/lang/System") ∈ lw_tbl := am_kin 1 23 rfl
theorem am_k131 : (Jvm.Cond.classLink "BudgetJuryLaw" (8 : Nat) "BudgetJury") ∈ lw_tbl := am_kin 1 24 rfl
theorem am_k132 : (Jvm.Cond.instantiable "BudgetJury" (10 : Nat)) ∈ lw_tbl := am_kin 1 25 rfl
theorem am_k133 : (Jvm.Cond.methodLink "BudgetJuryLaw" (74 : Nat) ({ cls := "BudgetJury", name := "<init>", desc := "()V" } : Jvm.MethodName)) ∈ lw_tbl := am_kin 1 26 rfl
theorem am_k134 : (Jvm.Cond.instanceMethod ({ cls := "BudgetJury", name := "<init>", desc := "()V" } : Jvm.MethodName)) ∈ lw_tbl := am_kin 1 27 rfl
theorem am_k136 : (Jvm.Cond.methodLink "BudgetJury" (1 : Nat) ({ cls := "java/lang/Object", name := "<init>", desc := "()V" } : Jvm.MethodName)) ∈ lw_tbl := am_kin 1 29 rfl
theorem am_k137 : (Jvm.Cond.instanceMethod ({ cls := "java/lang/Object", name := "<init>", desc := "()V" } : Jvm.MethodName)) ∈ lw_tbl := am_kin 1 30 rfl
theorem am_k138 : (Jvm.Cond.code ({ cls := "java/lang/Object", name := "<init>", desc := "()V" } : Jvm.MethodName) object_method_1_code (1 : Nat) (Option.none : Option Jvm.ClassFile.FieldType)) ∈ lw_tbl := am_kin 1 31 rfl
theorem am_k139 : (Jvm.Cond.classLink "BudgetJury" (17 : Nat) "BudgetJury$Plan") ∈ lw_tbl := am_kin 1 32 rfl
theorem am_k140 : (Jvm.Cond.instantiable "BudgetJury$Plan" (15 : Nat)) ∈ lw_tbl := am_kin 1 33 rfl
theorem am_k141 : (Jvm.Cond.methodLinkNest "BudgetJury" (19 : Nat) ({ cls := "BudgetJury$Plan", name := "<init>", desc := "()V" } : Jvm.MethodName) "BudgetJury") ∈ lw_tbl := am_kin 1 34 rfl
theorem am_k142 : (Jvm.Cond.instanceMethod ({ cls := "BudgetJury$Plan", name := "<init>", desc := "()V" } : Jvm.MethodName)) ∈ lw_tbl := am_kin 1 35 rfl
theorem am_k144 : (Jvm.Cond.methodLink "BudgetJury$Plan" (3 : Nat) ({ cls := "java/lang/Object", name := "<init>", desc := "()V" } : Jvm.MethodName)) ∈ lw_tbl := am_kin 1 37 rfl
theorem am_k145 : (Jvm.Cond.fieldLink "BudgetJury$Plan" (43 : Nat) "BudgetJury$Plan" "wards" "I") ∈ lw_tbl := am_kin 1 38 rfl
theorem am_k146 : (Jvm.Cond.fieldLink "BudgetJury$Checker" (83 : Nat) "BudgetJury$Plan" "wards" "I") ∈ lw_tbl := am_kin 1 39 rfl
theorem am_k147 : (Jvm.Cond.fieldLink "BudgetJury" (118 : Nat) "BudgetJury$Plan" "wards" "I") ∈ lw_tbl := am_kin 1 40 rfl
theorem am_k148 : (Jvm.Cond.fieldLink "BudgetJury$Plan" (46 : Nat) "BudgetJury$Plan" "projects" "I") ∈ lw_tbl := am_kin 1 41 rfl
theorem am_k149 : (Jvm.Cond.fieldLink "BudgetJury$Checker" (93 : Nat) "BudgetJury$Plan" "projects" "I") ∈ lw_tbl := am_kin 1 42 rfl
theorem am_k150 : (Jvm.Cond.fieldLink "BudgetJury$Parish" (74 : Nat) "BudgetJury$Plan" "projects" "I") ∈ lw_tbl := am_kin 1 43 rfl
theorem am_k151 : (Jvm.Cond.fieldLink "BudgetJury" (121 : Nat) "BudgetJury$Plan" "projects" "I") ∈ lw_tbl := am_kin 1 44 rfl
theorem am_k152 : (Jvm.Cond.fieldLink "BudgetJury$Plan" (49 : Nat) "BudgetJury$Plan" "voters" "I") ∈ lw_tbl := am_kin 1 45 rfl
theorem am_k153 : (Jvm.Cond.fieldLink "BudgetJury$Checker" (123 : Nat) "BudgetJury$Plan" "voters" "I") ∈ lw_tbl := am_kin 1 46 rfl
theorem am_k154 : (Jvm.Cond.fieldLink "BudgetJury$Parish" (71 : Nat) "BudgetJury$Plan" "voters" "I") ∈ lw_tbl := am_kin 1 47 rfl
theorem am_k155 : (Jvm.Cond.fieldLink "BudgetJury" (124 : Nat) "BudgetJury$Plan" "voters" "I") ∈ lw_tbl := am_kin 1 48 rfl
theorem am_k156 : (Jvm.Cond.fieldLink "BudgetJury$Plan" (52 : Nat) "BudgetJury$Plan" "bans" "I") ∈ lw_tbl := am_kin 1 49 rfl
theorem am_k157 : (Jvm.Cond.fieldLink "BudgetJury$Checker" (120 : Nat) "BudgetJury$Plan" "bans" "I") ∈ lw_tbl := am_kin 1 50 rfl
theorem am_k158 : (Jvm.Cond.fieldLink "BudgetJury" (127 : Nat) "BudgetJury$Plan" "bans" "I") ∈ lw_tbl := am_kin 1 51 rfl
theorem am_k159 : (Jvm.Cond.fieldLink "BudgetJury$Parish" (159 : Nat) "BudgetJury$Plan" "bans" "I") ∈ lw_tbl := am_kin 1 52 rfl
theorem am_k160 : (Jvm.Cond.fieldLink "BudgetJury$Plan" (9 : Nat) "BudgetJury$Plan" "budget" "I") ∈ lw_tbl := am_kin 1 53 rfl
theorem am_k161 : (Jvm.Cond.fieldLink "BudgetJury$Parish" (44 : Nat) "BudgetJury$Plan" "budget" "I") ∈ lw_tbl := am_kin 1 54 rfl
theorem am_k162 : (Jvm.Cond.fieldLink "BudgetJury$Checker" (141 : Nat) "BudgetJury$Plan" "budget" "I") ∈ lw_tbl := am_kin 1 55 rfl
theorem am_k163 : (Jvm.Cond.fieldLink "BudgetJury$Grammar" (26 : Nat) "BudgetJury$Plan" "stepCount" "I") ∈ lw_tbl := am_kin 1 56 rfl
theorem am_k164 : (Jvm.Cond.fieldLink "BudgetJury$Checker" (53 : Nat) "BudgetJury$Plan" "stepCount" "I") ∈ lw_tbl := am_kin 1 57 rfl
theorem am_k165 : (Jvm.Cond.fieldLink "BudgetJury$Parish" (174 : Nat) "BudgetJury$Plan" "stepCount" "I") ∈ lw_tbl := am_kin 1 58 rfl
theorem am_k166 : (Jvm.Cond.fieldLink "BudgetJury$Plan" (15 : Nat) "BudgetJury$Plan" "cap" "[I") ∈ lw_tbl := am_kin 1 59 rfl
theorem am_k167 : (Jvm.Cond.fieldLink "BudgetJury$Checker" (80 : Nat) "BudgetJury$Plan" "cap" "[I") ∈ lw_tbl := am_kin 1 60 rfl
theorem am_k168 : (Jvm.Cond.fieldLink "BudgetJury$Parish" (81 : Nat) "BudgetJury$Plan" "cap" "[I") ∈ lw_tbl := am_kin 1 61 rfl
theorem am_k169 : (Jvm.Cond.fieldLink "BudgetJury$Plan" (19 : Nat) "BudgetJury$Plan" "wardOf" "[I") ∈ lw_tbl := am_kin 1 62 rfl
theorem am_k170 : (Jvm.Cond.fieldLink "BudgetJury$Checker" (102 : Nat) "BudgetJury$Plan" "wardOf" "[I") ∈ lw_tbl := am_kin 1 63 rfl
theorem am_k171 : (Jvm.Cond.fieldLink "BudgetJury$Parish" (84 : Nat) "BudgetJury$Plan" "wardOf" "[I") ∈ lw_tbl := am_kin 1 64 rfl
theorem am_k172 : (Jvm.Cond.fieldLink "BudgetJury$Plan" (22 : Nat) "BudgetJury$Plan" "cost" "[I") ∈ lw_tbl := am_kin 1 65 rfl
theorem am_k173 : (Jvm.Cond.fieldLink "BudgetJury$Parish" (56 : Nat) "BudgetJury$Plan" "cost" "[I") ∈ lw_tbl := am_kin 1 66 rfl
theorem am_k174 : (Jvm.Cond.fieldLink "BudgetJury$Checker" (90 : Nat) "BudgetJury$Plan" "cost" "[I") ∈ lw_tbl := am_kin 1 67 rfl
theorem am_k175 : (Jvm.Cond.fieldLink "BudgetJury$Plan" (25 : Nat) "BudgetJury$Plan" "grows" "[I") ∈ lw_tbl := am_kin 1 68 rfl
theorem am_k176 : (Jvm.Cond.fieldLink "BudgetJury$Checker" (96 : Nat) "BudgetJury$Plan" "grows" "[I") ∈ lw_tbl := am_kin 1 69 rfl
theorem am_k177 : (Jvm.Cond.fieldLink "BudgetJury$Parish" (87 : Nat) "BudgetJury$Plan" "grows" "[I") ∈ lw_tbl := am_kin 1 70 rfl
theorem am_k178 : (Jvm.Cond.fieldLink "BudgetJury$Plan" (28 : Nat) "BudgetJury$Plan" "fans" "[I") ∈ lw_tbl := am_kin 1 71 rfl
theorem am_k179 : (Jvm.Cond.fieldLink "BudgetJury$Parish" (57 : Nat) "BudgetJury$Plan" "fans" "[I") ∈ lw_tbl := am_kin 1 72 rfl
theorem am_k180 : (Jvm.Cond.fieldLink "BudgetJury$Checker" (130 : Nat) "BudgetJury$Plan" "fans" "[I") ∈ lw_tbl := am_kin 1 73 rfl
theorem am_k181 : (Jvm.Cond.fieldLink "BudgetJury$Plan" (31 : Nat) "BudgetJury$Plan" "banned" "[I") ∈ lw_tbl := am_kin 1 74 rfl
theorem am_k182 : (Jvm.Cond.fieldLink "BudgetJury$Checker" (117 : Nat) "BudgetJury$Plan" "banned" "[I") ∈ lw_tbl := am_kin 1 75 rfl
theorem am_k183 : (Jvm.Cond.fieldLink "BudgetJury$Parish" (162 : Nat) "BudgetJury$Plan" "banned" "[I") ∈ lw_tbl := am_kin 1 76 rfl
theorem am_k184 : (Jvm.Cond.fieldLink "BudgetJury$Plan" (34 : Nat) "BudgetJury$Plan" "banStart" "[I") ∈ lw_tbl := am_kin 1 77 rfl
theorem am_k185 : (Jvm.Cond.fieldLink "BudgetJury$Checker" (133 : Nat) "BudgetJury$Plan" "banStart" "[I") ∈ lw_tbl := am_kin 1 78 rfl
theorem am_k186 : (Jvm.Cond.fieldLink "BudgetJury$Parish" (165 : Nat) "BudgetJury$Plan" "banStart" "[I") ∈ lw_tbl := am_kin 1 79 rfl
theorem am_k187 : (Jvm.Cond.fieldLink "BudgetJury$Plan" (37 : Nat) "BudgetJury$Plan" "step" "[I") ∈ lw_tbl := am_kin 1 80 rfl
theorem am_k188 : (Jvm.Cond.fieldLink "BudgetJury$Grammar" (62 : Nat) "BudgetJury$Plan" "step" "[I") ∈ lw_tbl := am_kin 1 81 rfl
theorem am_k189 : (Jvm.Cond.fieldLink "BudgetJury$Parish" (177 : Nat) "BudgetJury$Plan" "step" "[I") ∈ lw_tbl := am_kin 1 82 rfl
theorem am_k190 : (Jvm.Cond.fieldLink "BudgetJury$Plan" (40 : Nat) "BudgetJury$Plan" "argument" "[I") ∈ lw_tbl := am_kin 1 83 rfl
theorem am_k191 : (Jvm.Cond.fieldLink "BudgetJury$Checker" (56 : Nat) "BudgetJury$Plan" "argument" "[I") ∈ lw_tbl := am_kin 1 84 rfl
theorem am_k192 : (Jvm.Cond.fieldLink "BudgetJury$Grammar" (65 : Nat) "BudgetJury$Plan" "argument" "[I") ∈ lw_tbl := am_kin 1 85 rfl
theorem am_k193 : (Jvm.Cond.fieldLink "BudgetJury$Parish" (188 : Nat) "BudgetJury$Plan" "argument" "[I") ∈ lw_tbl := am_kin 1 86 rfl
theorem am_k225 : (Jvm.Cond.arrayClass Jvm.ClassFile.FieldType.byte) ∈ lw_tbl := am_kin 1 118 rfl
theorem am_k226 : (Jvm.Cond.arrayClass Jvm.ClassFile.FieldType.int) ∈ lw_tbl := am_kin 1 119 rfl
theorem am_k227 : (Jvm.Cond.classLink "BudgetJury" (27 : Nat) "BudgetJury$Tokens") ∈ lw_tbl := am_kin 1 120 rfl
theorem am_k228 : (Jvm.Cond.instantiable "BudgetJury$Tokens" (7 : Nat)) ∈ lw_tbl := am_kin 1 121 rfl
theorem am_k229 : (Jvm.Cond.methodLink "BudgetJury" (29 : Nat) ({ cls := "BudgetJury$Tokens", name := "<init>", desc := "([B)V" } : Jvm.MethodName)) ∈ lw_tbl := am_kin 1 122 rfl
theorem am_k230 : (Jvm.Cond.instanceMethod ({ cls := "BudgetJury$Tokens", name := "<init>", desc := "([B)V" } : Jvm.MethodName)) ∈ lw_tbl := am_kin 1 123 rfl
theorem am_k232 : (Jvm.Cond.methodLink "BudgetJury$Tokens" (3 : Nat) ({ cls := "java/lang/Object", name := "<init>", desc := "()V" } : Jvm.MethodName)) ∈ lw_tbl := am_kin 1 125 rfl
theorem am_k233 : (Jvm.Cond.stringRef "BudgetJury$Tokens" (31 : Nat) "ward cap project cost in grows voter likes budget ban when year pot purse fans built pleased not and or min max ") ∈ lw_tbl := am_kin 1 126 rfl
theorem am_k234 : (Jvm.Cond.methodLink "BudgetJury$Tokens" (33 : Nat) ({ cls := "java/lang/String", name := "length", desc := "()I" } : Jvm.MethodName)) ∈ lw_tbl := am_kin 1 127 rfl
theorem am_k235 : (Jvm.Cond.instanceMethod ({ cls := "java/lang/String", name := "length", desc := "()I" } : Jvm.MethodName)) ∈ lw_tbl := am_kin 1 128 rfl
theorem am_k236 : (Jvm.Cond.selects "java/lang/String" ({ cls := "java/lang/String", name := "length", desc := "()I" } : Jvm.MethodName) ({ cls := "java/lang/String", name := "length", desc := "()I" } : Jvm.MethodName)) ∈ lw_tbl := am_kin 1 129 rfl
theorem am_k238 : (Jvm.Cond.methodLink "java/lang/String" (335 : Nat) ({ cls := "java/lang/String", name := "coder", desc := "()B" } : Jvm.MethodName)) ∈ lw_tbl := am_kin 1 131 rfl
theorem am_k239 : (Jvm.Cond.instanceMethod ({ cls := "java/lang/String", name := "coder", desc := "()B" } : Jvm.MethodName)) ∈ lw_tbl := am_kin 1 132 rfl
theorem am_k240 : (Jvm.Cond.selects "java/lang/String" ({ cls := "java/lang/String", name := "coder", desc := "()B" } : Jvm.MethodName) ({ cls := "java/lang/String", name := "coder", desc := "()B" } : Jvm.MethodName)) ∈ lw_tbl := am_kin 1 133 rfl
theorem am_k242 : (Jvm.Cond.fieldLink "java/lang/String" (38 : Nat) "java/lang/String" "COMPACT_STRINGS" "Z") ∈ lw_tbl := am_kin 1 135 rfl
theorem am_k244 : (Jvm.Cond.methodLink "BudgetJury$Tokens" (39 : Nat) ({ cls := "java/lang/String", name := "charAt", desc := "(I)C" } : Jvm.MethodName)) ∈ lw_tbl := am_kin 1 137 rfl
theorem am_k245 : (Jvm.Cond.instanceMethod ({ cls := "java/lang/String", name := "charAt", desc := "(I)C" } : Jvm.MethodName)) ∈ lw_tbl := am_kin 1 138 rfl
theorem am_k246 : (Jvm.Cond.selects "java/lang/String" ({ cls := "java/lang/String", name := "charAt", desc := "(I)C" } : Jvm.MethodName) ({ cls := "java/lang/String", name := "charAt", desc := "(I)C" } : Jvm.MethodName)) ∈ lw_tbl := am_kin 1 139 rfl
theorem am_k248 : (Jvm.Cond.methodLink "java/lang/String" (492 : Nat) ({ cls := "java/lang/String", name := "isLatin1", desc := "()Z" } : Jvm.MethodName)) ∈ lw_tbl := am_kin 1 141 rfl
theorem am_k249 : (Jvm.Cond.instanceMethod ({ cls := "java/lang/String", name := "isLatin1", desc := "()Z" } : Jvm.MethodName)) ∈ lw_tbl := am_kin 1 142 rfl
theorem am_k250 : (Jvm.Cond.selects "java/lang/String" ({ cls := "java/lang/String", name := "isLatin1", desc := "()Z" } : Jvm.MethodName) ({ cls := "java/lang/String", name := "isLatin1", desc := "()Z" } : Jvm.MethodName)) ∈ lw_tbl := am_kin 1 143 rfl
theorem am_k252 : (Jvm.Cond.methodLink "java/lang/String" (495 : Nat) ({ cls := "java/lang/StringLatin1", name := "charAt", desc := "([BI)C" } : Jvm.MethodName)) ∈ lw_tbl := am_kin 1 145 rfl
theorem am_k253 : (Jvm.Cond.static ({ cls := "java/lang/StringLatin1", name := "charAt", desc := "([BI)C" } : Jvm.MethodName)) ∈ lw_tbl := am_kin 1 146 rfl
theorem am_k255 : (Jvm.Cond.methodLink "java/lang/StringLatin1" (9 : Nat) ({ cls := "java/lang/String", name := "checkIndex", desc := "(II)V" } : Jvm.MethodName)) ∈ lw_tbl := am_kin 1 148 rfl
theorem am_k256 : (Jvm.Cond.static ({ cls := "java/lang/String", name := "checkIndex", desc := "(II)V" } : Jvm.MethodName)) ∈ lw_tbl := am_kin 1 149 rfl
theorem am_k258 : (Jvm.Cond.fieldLink "java/lang/String" (1053 : Nat) "jdk/internal/util/Preconditions" "SIOOBE_FORMATTER" "Ljava/util/function/BiFunction;") ∈ lw_tbl := am_kin 1 151 rfl
theorem am_k260 : (Jvm.Cond.methodLink "java/lang/String" (1059 : Nat) ({ cls := "jdk/internal/util/Preconditions", name := "checkIndex", desc := "(IILjava/util/function/BiFunction;)I" } : Jvm.MethodName)) ∈ lw_tbl := am_kin 1 153 rfl
theorem am_k261 : (Jvm.Cond.static ({ cls := "jdk/internal/util/Preconditions", name := "checkIndex", desc := "(IILjava/util/function/BiFunction;)I" } : Jvm.MethodName)) ∈ lw_tbl := am_kin 1 154 rfl
theorem am_k282 : (Jvm.Cond.constantLong "BudgetJury$Tokens" (43 : Nat) (37 : Int64)) ∈ lw_tbl := am_kin 1 175 rfl
theorem am_k283 : (Jvm.Cond.methodLink "BudgetJury$Tokens" (45 : Nat) ({ cls := "BudgetJury$Tokens", name := "digitOf", desc := "(C)I" } : Jvm.MethodName)) ∈ lw_tbl := am_kin 1 176 rfl
theorem am_k284 : (Jvm.Cond.static ({ cls := "BudgetJury$Tokens", name := "digitOf", desc := "(C)I" } : Jvm.MethodName)) ∈ lw_tbl := am_kin 1 177 rfl
theorem am_k286 : (Jvm.Cond.methodLink "BudgetJury$Tokens" (71 : Nat) ({ cls := "BudgetJury$Tokens", name := "isLetter", desc := "(I)Z" } : Jvm.MethodName)) ∈ lw_tbl := am_kin 1 179 rfl
theorem am_k287 : (Jvm.Cond.static ({ cls := "BudgetJury$Tokens", name := "isLetter", desc := "(I)Z" } : Jvm.MethodName)) ∈ lw_tbl := am_kin 1 180 rfl
theorem am_k289 : (Jvm.Cond.fieldLink "BudgetJury$Tokens" (9 : Nat) "BudgetJury$Tokens" "kind" "[I") ∈ lw_tbl := am_kin 1 182 rfl
theorem am_k290 : (Jvm.Cond.fieldLink "BudgetJury$Grammar" (49 : Nat) "BudgetJury$Tokens" "kind" "[I") ∈ lw_tbl := am_kin 1 183 rfl
theorem am_k291 : (Jvm.Cond.fieldLink "BudgetJury$Tokens" (15 : Nat) "BudgetJury$Tokens" "value" "[J") ∈ lw_tbl := am_kin 1 184 rfl
theorem am_k292 : (Jvm.Cond.fieldLink "BudgetJury$Checker" (59 : Nat) "BudgetJury$Tokens" "value" "[J") ∈ lw_tbl := am_kin 1 185 rfl
theorem am_k293 : (Jvm.Cond.fieldLink "BudgetJury$Tokens" (19 : Nat) "BudgetJury$Tokens" "start" "[I") ∈ lw_tbl := am_kin 1 186 rfl
theorem am_k294 : (Jvm.Cond.fieldLink "BudgetJury$Tokens" (24 : Nat) "BudgetJury$Tokens" "keywords" "[J") ∈ lw_tbl := am_kin 1 187 rfl
theorem am_k295 : (Jvm.Cond.fieldLink "BudgetJury$Tokens" (27 : Nat) "BudgetJury$Tokens" "tape" "[B") ∈ lw_tbl := am_kin 1 188 rfl
theorem am_k296 : (Jvm.Cond.fieldLink "BudgetJury$Tokens" (55 : Nat) "BudgetJury$Tokens" "length" "I") ∈ lw_tbl := am_kin 1 189 rfl
theorem am_k297 : (Jvm.Cond.fieldLink "BudgetJury$Tokens" (58 : Nat) "BudgetJury$Tokens" "at" "I") ∈ lw_tbl := am_kin 1 190 rfl
theorem am_k313 : (Jvm.Cond.arrayClass Jvm.ClassFile.FieldType.long) ∈ lw_tbl := am_kin 1 206 rfl
theorem am_k314 : (Jvm.Cond.classLink "BudgetJury" (36 : Nat) "BudgetJury$Grammar") ∈ lw_tbl := am_kin 1 207 rfl
theorem am_k315 : (Jvm.Cond.instantiable "BudgetJury$Grammar" (5 : Nat)) ∈ lw_tbl := am_kin 1 208 rfl
theorem am_k316 : (Jvm.Cond.methodLink "BudgetJury" (38 : Nat) ({ cls := "BudgetJury$Grammar", name := "<init>", desc := "(LBudgetJury$Tokens;LBudgetJury$Plan;)V" } : Jvm.MethodName)) ∈ lw_tbl := am_kin 1 209 rfl
theorem am_k317 : (Jvm.Cond.instanceMethod ({ cls := "BudgetJury$Grammar", name := "<init>", desc := "(LBudgetJury$Tokens;LBudgetJury$Plan;)V" } : Jvm.MethodName)) ∈ lw_tbl := am_kin 1 210 rfl
theorem am_k319 : (Jvm.Cond.methodLink "BudgetJury$Grammar" (3 : Nat) ({ cls := "java/lang/Object", name := "<init>", desc := "()V" } : Jvm.MethodName)) ∈ lw_tbl := am_kin 1 212 rfl
theorem am_k320 : (Jvm.Cond.fieldLink "BudgetJury$Grammar" (9 : Nat) "BudgetJury$Grammar" "role" "[I") ∈ lw_tbl := am_kin 1 213 rfl
theorem am_k321 : (Jvm.Cond.fieldLink "BudgetJury$Checker" (64 : Nat) "BudgetJury$Grammar" "role" "[I") ∈ lw_tbl := am_kin 1 214 rfl
theorem am_k322 : (Jvm.Cond.fieldLink "BudgetJury$Grammar" (15 : Nat) "BudgetJury$Grammar" "firstStep" "[I") ∈ lw_tbl := am_kin 1 215 rfl
theorem am_k323 : (Jvm.Cond.fieldLink "BudgetJury$Checker" (136 : Nat) "BudgetJury$Grammar" "firstStep" "[I") ∈ lw_tbl := am_kin 1 216 rfl
theorem am_k324 : (Jvm.Cond.fieldLink "BudgetJury$Grammar" (32 : Nat) "BudgetJury$Grammar" "at" "I") ∈ lw_tbl := am_kin 1 217 rfl
theorem am_k325 : (Jvm.Cond.fieldLink "BudgetJury$Checker" (42 : Nat) "BudgetJury$Grammar" "at" "I") ∈ lw_tbl := am_kin 1 218 rfl
theorem am_k326 : (Jvm.Cond.fieldLink "BudgetJury" (96 : Nat) "BudgetJury$Grammar" "at" "I") ∈ lw_tbl := am_kin 1 219 rfl
theorem am_k327 : (Jvm.Cond.fieldLink "BudgetJury$Grammar" (18 : Nat) "BudgetJury$Grammar" "tokens" "LBudgetJury$Tokens;") ∈ lw_tbl := am_kin 1 220 rfl
theorem am_k328 : (Jvm.Cond.fieldLink "BudgetJury$Grammar" (22 : Nat) "BudgetJury$Grammar" "plan" "LBudgetJury$Plan;") ∈ lw_tbl := am_kin 1 221 rfl
theorem am_k340 : (Jvm.Cond.classLink "BudgetJury" (45 : Nat) "BudgetJury$Checker") ∈ lw_tbl := am_kin 1 233 rfl
theorem am_k341 : (Jvm.Cond.instantiable "BudgetJury$Checker" (7 : Nat)) ∈ lw_tbl := am_kin 1 234 rfl
theorem am_k342 : (Jvm.Cond.methodLink "BudgetJury" (47 : Nat) ({ cls := "BudgetJury$Checker", name := "<init>", desc := "(LBudgetJury$Tokens;LBudgetJury$Grammar;)V" } : Jvm.MethodName)) ∈ lw_tbl := am_kin 1 235 rfl
theorem am_k343 : (Jvm.Cond.instanceMethod ({ cls := "BudgetJury$Checker", name := "<init>", desc := "(LBudgetJury$Tokens;LBudgetJury$Grammar;)V" } : Jvm.MethodName)) ∈ lw_tbl := am_kin 1 236 rfl
theorem am_k345 : (Jvm.Cond.methodLink "BudgetJury$Checker" (3 : Nat) ({ cls := "java/lang/Object", name := "<init>", desc := "()V" } : Jvm.MethodName)) ∈ lw_tbl := am_kin 1 238 rfl
theorem am_k346 : (Jvm.Cond.fieldLink "BudgetJury$Checker" (38 : Nat) "BudgetJury$Checker" "at" "I") ∈ lw_tbl := am_kin 1 239 rfl
theorem am_k347 : (Jvm.Cond.fieldLink "BudgetJury" (99 : Nat) "BudgetJury$Checker" "at" "I") ∈ lw_tbl := am_kin 2 0 rfl
theorem am_k348 : (Jvm.Cond.fieldLink "BudgetJury$Checker" (25 : Nat) "BudgetJury$Checker" "tokens" "LBudgetJury$Tokens;") ∈ lw_tbl := am_kin 2 1 rfl
theorem am_k349 : (Jvm.Cond.fieldLink "BudgetJury$Checker" (29 : Nat) "BudgetJury$Checker" "grammar" "LBudgetJury$Grammar;") ∈ lw_tbl := am_kin 2 2 rfl
theorem am_k350 : (Jvm.Cond.fieldLink "BudgetJury$Checker" (9 : Nat) "BudgetJury$Checker" "wardNames" "[J") ∈ lw_tbl := am_kin 2 3 rfl
theorem am_k351 : (Jvm.Cond.fieldLink "BudgetJury$Checker" (15 : Nat) "BudgetJury$Checker" "projectNames" "[J") ∈ lw_tbl := am_kin 2 4 rfl
theorem am_k352 : (Jvm.Cond.fieldLink "BudgetJury$Checker" (18 : Nat) "BudgetJury$Checker" "voterNames" "[J") ∈ lw_tbl := am_kin 2 5 rfl
theorem am_k353 : (Jvm.Cond.fieldLink "BudgetJury$Checker" (21 : Nat) "BudgetJury$Checker" "meaning" "[I") ∈ lw_tbl := am_kin 2 6 rfl
theorem am_k369 : (Jvm.Cond.classLink "BudgetJury" (54 : Nat) "BudgetJury$Parish") ∈ lw_tbl := am_kin 2 22 rfl
theorem am_k370 : (Jvm.Cond.instantiable "BudgetJury$Parish" (15 : Nat)) ∈ lw_tbl := am_kin 2 23 rfl
theorem am_k371 : (Jvm.Cond.methodLink "BudgetJury" (56 : Nat) ({ cls := "BudgetJury$Parish", name := "<init>", desc := "(LBudgetJury$Plan;)V" } : Jvm.MethodName)) ∈ lw_tbl := am_kin 2 24 rfl
theorem am_k372 : (Jvm.Cond.instanceMethod ({ cls := "BudgetJury$Parish", name := "<init>", desc := "(LBudgetJury$Plan;)V" } : Jvm.MethodName)) ∈ lw_tbl := am_kin 2 25 rfl
theorem am_k374 : (Jvm.Cond.methodLink "BudgetJury$Parish" (3 : Nat) ({ cls := "java/lang/Object", name := "<init>", desc := "()V" } : Jvm.MethodName)) ∈ lw_tbl := am_kin 2 27 rfl
theorem am_k375 : (Jvm.Cond.fieldLink "BudgetJury$Parish" (58 : Nat) "BudgetJury$Parish" "year" "I") ∈ lw_tbl := am_kin 2 28 rfl
theorem am_k376 : (Jvm.Cond.fieldLink "BudgetJury" (115 : Nat) "BudgetJury$Parish" "year" "I") ∈ lw_tbl := am_kin 2 29 rfl
theorem am_k377 : (Jvm.Cond.fieldLink "BudgetJury$Parish" (49 : Nat) "BudgetJury$Parish" "budget" "I") ∈ lw_tbl := am_kin 2 30 rfl
theorem am_k378 : (Jvm.Cond.fieldLink "BudgetJury" (130 : Nat) "BudgetJury$Parish" "budget" "I") ∈ lw_tbl := am_kin 2 31 rfl
theorem am_k379 : (Jvm.Cond.fieldLink "BudgetJury$Parish" (9 : Nat) "BudgetJury$Parish" "leftOut" "I") ∈ lw_tbl := am_kin 2 32 rfl
theorem am_k380 : (Jvm.Cond.fieldLink "BudgetJury" (228 : Nat) "BudgetJury$Parish" "leftOut" "I") ∈ lw_tbl := am_kin 2 33 rfl
theorem am_k381 : (Jvm.Cond.fieldLink "BudgetJury$Parish" (15 : Nat) "BudgetJury$Parish" "purse" "[I") ∈ lw_tbl := am_kin 2 34 rfl
theorem am_k382 : (Jvm.Cond.fieldLink "BudgetJury" (199 : Nat) "BudgetJury$Parish" "purse" "[I") ∈ lw_tbl := am_kin 2 35 rfl
theorem am_k383 : (Jvm.Cond.fieldLink "BudgetJury$Parish" (19 : Nat) "BudgetJury$Parish" "builtIn" "[I") ∈ lw_tbl := am_kin 2 36 rfl
theorem am_k384 : (Jvm.Cond.fieldLink "BudgetJury" (210 : Nat) "BudgetJury$Parish" "builtIn" "[I") ∈ lw_tbl := am_kin 2 37 rfl
theorem am_k385 : (Jvm.Cond.fieldLink "BudgetJury$Parish" (40 : Nat) "BudgetJury$Parish" "plan" "LBudgetJury$Plan;") ∈ lw_tbl := am_kin 2 38 rfl
theorem am_k386 : (Jvm.Cond.fieldLink "BudgetJury$Parish" (50 : Nat) "BudgetJury$Parish" "pot" "I") ∈ lw_tbl := am_kin 2 39 rfl
theorem am_k387 : (Jvm.Cond.fieldLink "BudgetJury$Parish" (53 : Nat) "BudgetJury$Parish" "paidInAll" "I") ∈ lw_tbl := am_kin 2 40 rfl
theorem am_k388 : (Jvm.Cond.fieldLink "BudgetJury$Parish" (22 : Nat) "BudgetJury$Parish" "paid" "[I") ∈ lw_tbl := am_kin 2 41 rfl
theorem am_k389 : (Jvm.Cond.fieldLink "BudgetJury$Parish" (25 : Nat) "BudgetJury$Parish" "cost" "[I") ∈ lw_tbl := am_kin 2 42 rfl
theorem am_k390 : (Jvm.Cond.fieldLink "BudgetJury$Parish" (28 : Nat) "BudgetJury$Parish" "fans" "[I") ∈ lw_tbl := am_kin 2 43 rfl
theorem am_k391 : (Jvm.Cond.fieldLink "BudgetJury$Parish" (31 : Nat) "BudgetJury$Parish" "bought" "[I") ∈ lw_tbl := am_kin 2 44 rfl
theorem am_k392 : (Jvm.Cond.fieldLink "BudgetJury$Parish" (34 : Nat) "BudgetJury$Parish" "builtThisYear" "[I") ∈ lw_tbl := am_kin 2 45 rfl
theorem am_k393 : (Jvm.Cond.fieldLink "BudgetJury$Parish" (37 : Nat) "BudgetJury$Parish" "stack" "[I") ∈ lw_tbl := am_kin 2 46 rfl
theorem am_k394 : (Jvm.Cond.fieldLink "BudgetJury$Parish" (171 : Nat) "BudgetJury$Parish" "stackSize" "I") ∈ lw_tbl := am_kin 2 47 rfl
theorem am_k426 : (Jvm.Cond.fieldLink "BudgetJury" (9 : Nat) "BudgetJury" "tape" "[B") ∈ lw_tbl := am_kin 2 79 rfl
theorem am_k427 : (Jvm.Cond.fieldLink "BudgetJury" (66 : Nat) "BudgetJury" "tapeLength" "I") ∈ lw_tbl := am_kin 2 80 rfl
theorem am_k428 : (Jvm.Cond.fieldLink "BudgetJury" (13 : Nat) "BudgetJury" "errorPosition" "I") ∈ lw_tbl := am_kin 2 81 rfl
theorem am_k429 : (Jvm.Cond.fieldLink "BudgetJury" (20 : Nat) "BudgetJury" "plan" "LBudgetJury$Plan;") ∈ lw_tbl := am_kin 2 82 rfl
theorem am_k430 : (Jvm.Cond.fieldLink "BudgetJury" (24 : Nat) "BudgetJury" "draft" "LBudgetJury$Plan;") ∈ lw_tbl := am_kin 2 83 rfl
theorem am_k431 : (Jvm.Cond.fieldLink "BudgetJury" (32 : Nat) "BudgetJury" "tokens" "LBudgetJury$Tokens;") ∈ lw_tbl := am_kin 2 84 rfl
theorem am_k432 : (Jvm.Cond.fieldLink "BudgetJury" (41 : Nat) "BudgetJury" "grammar" "LBudgetJury$Grammar;") ∈ lw_tbl := am_kin 2 85 rfl
theorem am_k433 : (Jvm.Cond.fieldLink "BudgetJury" (50 : Nat) "BudgetJury" "checker" "LBudgetJury$Checker;") ∈ lw_tbl := am_kin 2 86 rfl
theorem am_k434 : (Jvm.Cond.fieldLink "BudgetJury" (59 : Nat) "BudgetJury" "now" "LBudgetJury$Parish;") ∈ lw_tbl := am_kin 2 87 rfl
theorem am_k435 : (Jvm.Cond.fieldLink "BudgetJury" (63 : Nat) "BudgetJury" "trial" "LBudgetJury$Parish;") ∈ lw_tbl := am_kin 2 88 rfl
theorem am_k457 : (Jvm.Cond.methodLink "BudgetJuryLaw" (92 : Nat) ({ cls := "BudgetJury", name := "teach", desc := "()I" } : Jvm.MethodName)) ∈ lw_tbl := am_kin 2 110 rfl
theorem am_k458 : (Jvm.Cond.instanceMethod ({ cls := "BudgetJury", name := "teach", desc := "()I" } : Jvm.MethodName)) ∈ lw_tbl := am_kin 2 111 rfl
theorem am_k459 : (Jvm.Cond.selects "BudgetJury" ({ cls := "BudgetJury", name := "teach", desc := "()I" } : Jvm.MethodName) ({ cls := "BudgetJury", name := "teach", desc := "()I" } : Jvm.MethodName)) ∈ lw_tbl := am_kin 2 112 rfl
theorem am_k461 : (Jvm.Cond.methodLink "BudgetJury" (85 : Nat) ({ cls := "BudgetJury$Tokens", name := "cut", desc := "(I)V" } : Jvm.MethodName)) ∈ lw_tbl := am_kin 2 114 rfl
theorem am_k462 : (Jvm.Cond.instanceMethod ({ cls := "BudgetJury$Tokens", name := "cut", desc := "(I)V" } : Jvm.MethodName)) ∈ lw_tbl := am_kin 2 115 rfl
theorem am_k463 : (Jvm.Cond.selects "BudgetJury$Tokens" ({ cls := "BudgetJury$Tokens", name := "cut", desc := "(I)V" } : Jvm.MethodName) ({ cls := "BudgetJury$Tokens", name := "cut", desc := "(I)V" } : Jvm.MethodName)) ∈ lw_tbl := am_kin 2 116 rfl
theorem am_k465 : (Jvm.Cond.methodLink "BudgetJury$Tokens" (49 : Nat) ({ cls := "java/lang/Math", name := "min", desc := "(II)I" } : Jvm.MethodName)) ∈ lw_tbl := am_kin 2 118 rfl
theorem am_k466 : (Jvm.Cond.static ({ cls := "java/lang/Math", name := "min", desc := "(II)I" } : Jvm.MethodName)) ∈ lw_tbl := am_kin 2 119 rfl
theorem am_k467 : (Jvm.Cond.code ({ cls := "java/lang/Math", name := "min", desc := "(II)I" } : Jvm.MethodName) prog_20_method_69_code (2 : Nat) (Option.some Jvm.ClassFile.FieldType.int)) ∈ lw_tbl := am_kin 2 120 rfl
end
section
set_option maxHeartbeats 1000000 in
theorem tst {d : Nat} {t p : Int} {h : AH} {K : AK} (b : am_t h t = 3 ∧ (am_t h (am_m h t 4) = 20 ∧ 0 ≤ p ∧ p < am_l h (am_m h t 4)) ∧ ((am_m h (am_m h t 4) p = -1 → (((1 : Int) = 0 ∨ (1 : Int) = 1) ∧ K 0 1 h)) ∧ (¬ am_m h (am_m h t 4) p = -1 → (((0 : Int) = 0 ∨ (0 : Int) = 1) ∧ K 0 0 h)))) : am_call d 58 [(2, t), (0, p)] h K := am_run (cut := []) 40 b
end
