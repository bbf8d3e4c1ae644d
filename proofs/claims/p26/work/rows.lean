section
-- ===== PART A: goes FIRST, ahead of the names: the tables' words, and 'selects' of the private methods out of them =====
/-- a private method of a class that the tables say can be made, by its rows of tables_1 -/
def lw_okq (q : MethodName × Nat) : Prop := (q.1.cls ≠ "java/lang/invoke/MethodHandle" ∧ q.1.cls ≠ "java/lang/invoke/VarHandle") ∧ Cond.instantiable q.1.cls q.2 ∈ tables_1 ∧ Cond.privateMethod q.1 ∈ tables_1 ∧ Cond.instanceMethod q.1 ∈ tables_1
theorem lw_p0 : lw_okq (⟨"java/lang/Throwable", "fillInStackTrace", "(I)Ljava/lang/Throwable;"⟩, 6) := ⟨⟨by decide +kernel, by decide +kernel⟩, List.mem_of_getElem? (i := 398) (by decide +kernel), List.mem_of_getElem? (i := 396) (by decide +kernel), List.mem_of_getElem? (i := 397) (by decide +kernel)⟩
theorem lw_p1 : lw_okq (⟨"BudgetJury", "countOf", "(I)I"⟩, 10) := ⟨⟨by decide +kernel, by decide +kernel⟩, List.mem_of_getElem? (i := 30) (by decide +kernel), List.mem_of_getElem? (i := 427) (by decide +kernel), List.mem_of_getElem? (i := 428) (by decide +kernel)⟩
theorem lw_p2 : lw_okq (⟨"BudgetJury$Parish", "purses", "()I"⟩, 15) := ⟨⟨by decide +kernel, by decide +kernel⟩, List.mem_of_getElem? (i := 268) (by decide +kernel), List.mem_of_getElem? (i := 435) (by decide +kernel), List.mem_of_getElem? (i := 436) (by decide +kernel)⟩
theorem lw_p3 : lw_okq (⟨"BudgetJury$Parish", "boughtCount", "()I"⟩, 15) := ⟨⟨by decide +kernel, by decide +kernel⟩, List.mem_of_getElem? (i := 268) (by decide +kernel), List.mem_of_getElem? (i := 447) (by decide +kernel), List.mem_of_getElem? (i := 448) (by decide +kernel)⟩
theorem lw_p4 : lw_okq (⟨"BudgetJury$Parish", "fanCount", "(I)I"⟩, 15) := ⟨⟨by decide +kernel, by decide +kernel⟩, List.mem_of_getElem? (i := 268) (by decide +kernel), List.mem_of_getElem? (i := 479) (by decide +kernel), List.mem_of_getElem? (i := 480) (by decide +kernel)⟩
theorem lw_p5 : lw_okq (⟨"BudgetJury$Parish", "isBanned", "(I)Z"⟩, 15) := ⟨⟨by decide +kernel, by decide +kernel⟩, List.mem_of_getElem? (i := 268) (by decide +kernel), List.mem_of_getElem? (i := 489) (by decide +kernel), List.mem_of_getElem? (i := 490) (by decide +kernel)⟩
theorem lw_p6 : lw_okq (⟨"BudgetJury$Parish", "holds", "(I)Z"⟩, 15) := ⟨⟨by decide +kernel, by decide +kernel⟩, List.mem_of_getElem? (i := 268) (by decide +kernel), List.mem_of_getElem? (i := 493) (by decide +kernel), List.mem_of_getElem? (i := 494) (by decide +kernel)⟩
theorem lw_p7 : lw_okq (⟨"BudgetJury$Parish", "pop", "()I"⟩, 15) := ⟨⟨by decide +kernel, by decide +kernel⟩, List.mem_of_getElem? (i := 268) (by decide +kernel), List.mem_of_getElem? (i := 497) (by decide +kernel), List.mem_of_getElem? (i := 498) (by decide +kernel)⟩
theorem lw_p8 : lw_okq (⟨"BudgetJury$Parish", "push", "(I)V"⟩, 15) := ⟨⟨by decide +kernel, by decide +kernel⟩, List.mem_of_getElem? (i := 268) (by decide +kernel), List.mem_of_getElem? (i := 501) (by decide +kernel), List.mem_of_getElem? (i := 502) (by decide +kernel)⟩
theorem lw_p9 : lw_okq (⟨"BudgetJury$Parish", "single", "(II)I"⟩, 15) := ⟨⟨by decide +kernel, by decide +kernel⟩, List.mem_of_getElem? (i := 268) (by decide +kernel), List.mem_of_getElem? (i := 505) (by decide +kernel), List.mem_of_getElem? (i := 506) (by decide +kernel)⟩
theorem lw_p10 : lw_okq (⟨"BudgetJury$Parish", "reckon", "(III)I"⟩, 15) := ⟨⟨by decide +kernel, by decide +kernel⟩, List.mem_of_getElem? (i := 268) (by decide +kernel), List.mem_of_getElem? (i := 518) (by decide +kernel), List.mem_of_getElem? (i := 519) (by decide +kernel)⟩
theorem lw_p11 : lw_okq (⟨"BudgetJury$Parish", "coinsOfFans", "(I)I"⟩, 15) := ⟨⟨by decide +kernel, by decide +kernel⟩, List.mem_of_getElem? (i := 268) (by decide +kernel), List.mem_of_getElem? (i := 535) (by decide +kernel), List.mem_of_getElem? (i := 536) (by decide +kernel)⟩
theorem lw_p12 : lw_okq (⟨"BudgetJury$Parish", "likedCount", "(I)I"⟩, 15) := ⟨⟨by decide +kernel, by decide +kernel⟩, List.mem_of_getElem? (i := 268) (by decide +kernel), List.mem_of_getElem? (i := 557) (by decide +kernel), List.mem_of_getElem? (i := 558) (by decide +kernel)⟩
theorem lw_p13 : lw_okq (⟨"BudgetJury$Parish", "hasRoom", "(I)Z"⟩, 15) := ⟨⟨by decide +kernel, by decide +kernel⟩, List.mem_of_getElem? (i := 268) (by decide +kernel), List.mem_of_getElem? (i := 592) (by decide +kernel), List.mem_of_getElem? (i := 593) (by decide +kernel)⟩
theorem lw_p14 : lw_okq (⟨"BudgetJury$Parish", "buyFromPurses", "()V"⟩, 15) := ⟨⟨by decide +kernel, by decide +kernel⟩, List.mem_of_getElem? (i := 268) (by decide +kernel), List.mem_of_getElem? (i := 623) (by decide +kernel), List.mem_of_getElem? (i := 624) (by decide +kernel)⟩
theorem lw_p15 : lw_okq (⟨"BudgetJury$Parish", "buy", "(II)V"⟩, 15) := ⟨⟨by decide +kernel, by decide +kernel⟩, List.mem_of_getElem? (i := 268) (by decide +kernel), List.mem_of_getElem? (i := 628) (by decide +kernel), List.mem_of_getElem? (i := 629) (by decide +kernel)⟩
def lw_privs_1 : List (MethodName × Nat) := [(⟨"java/lang/Throwable", "fillInStackTrace", "(I)Ljava/lang/Throwable;"⟩, 6), (⟨"BudgetJury", "countOf", "(I)I"⟩, 10), (⟨"BudgetJury$Parish", "purses", "()I"⟩, 15), (⟨"BudgetJury$Parish", "boughtCount", "()I"⟩, 15), (⟨"BudgetJury$Parish", "fanCount", "(I)I"⟩, 15), (⟨"BudgetJury$Parish", "isBanned", "(I)Z"⟩, 15), (⟨"BudgetJury$Parish", "holds", "(I)Z"⟩, 15), (⟨"BudgetJury$Parish", "pop", "()I"⟩, 15), (⟨"BudgetJury$Parish", "push", "(I)V"⟩, 15), (⟨"BudgetJury$Parish", "single", "(II)I"⟩, 15), (⟨"BudgetJury$Parish", "reckon", "(III)I"⟩, 15), (⟨"BudgetJury$Parish", "coinsOfFans", "(I)I"⟩, 15), (⟨"BudgetJury$Parish", "likedCount", "(I)I"⟩, 15), (⟨"BudgetJury$Parish", "hasRoom", "(I)Z"⟩, 15), (⟨"BudgetJury$Parish", "buyFromPurses", "()V"⟩, 15), (⟨"BudgetJury$Parish", "buy", "(II)V"⟩, 15)]
theorem lw_r1 : ∀ q ∈ lw_privs_1, lw_okq q := List.forall_mem_cons.mpr ⟨lw_p0, List.forall_mem_cons.mpr ⟨lw_p1, List.forall_mem_cons.mpr ⟨lw_p2, List.forall_mem_cons.mpr ⟨lw_p3, List.forall_mem_cons.mpr ⟨lw_p4, List.forall_mem_cons.mpr ⟨lw_p5, List.forall_mem_cons.mpr ⟨lw_p6, List.forall_mem_cons.mpr ⟨lw_p7, List.forall_mem_cons.mpr ⟨lw_p8, List.forall_mem_cons.mpr ⟨lw_p9, List.forall_mem_cons.mpr ⟨lw_p10, List.forall_mem_cons.mpr ⟨lw_p11, List.forall_mem_cons.mpr ⟨lw_p12, List.forall_mem_cons.mpr ⟨lw_p13, List.forall_mem_cons.mpr ⟨lw_p14, List.forall_mem_cons.mpr ⟨lw_p15, fun _ h => absurd h List.not_mem_nil⟩⟩⟩⟩⟩⟩⟩⟩⟩⟩⟩⟩⟩⟩⟩⟩
theorem lw_p16 : lw_okq (⟨"BudgetJury$Parish", "build", "(I)V"⟩, 15) := ⟨⟨by decide +kernel, by decide +kernel⟩, List.mem_of_getElem? (i := 268) (by decide +kernel), List.mem_of_getElem? (i := 632) (by decide +kernel), List.mem_of_getElem? (i := 633) (by decide +kernel)⟩
theorem lw_p17 : lw_okq (⟨"BudgetJury$Parish", "buildFromPot", "()V"⟩, 15) := ⟨⟨by decide +kernel, by decide +kernel⟩, List.mem_of_getElem? (i := 268) (by decide +kernel), List.mem_of_getElem? (i := 636) (by decide +kernel), List.mem_of_getElem? (i := 637) (by decide +kernel)⟩
theorem lw_p18 : lw_okq (⟨"BudgetJury$Parish", "bestForPot", "()I"⟩, 15) := ⟨⟨by decide +kernel, by decide +kernel⟩, List.mem_of_getElem? (i := 268) (by decide +kernel), List.mem_of_getElem? (i := 640) (by decide +kernel), List.mem_of_getElem? (i := 641) (by decide +kernel)⟩
theorem lw_p19 : lw_okq (⟨"BudgetJury$Parish", "isBetterForPot", "(II)Z"⟩, 15) := ⟨⟨by decide +kernel, by decide +kernel⟩, List.mem_of_getElem? (i := 268) (by decide +kernel), List.mem_of_getElem? (i := 644) (by decide +kernel), List.mem_of_getElem? (i := 645) (by decide +kernel)⟩
theorem lw_p20 : lw_okq (⟨"BudgetJury$Parish", "grow", "()V"⟩, 15) := ⟨⟨by decide +kernel, by decide +kernel⟩, List.mem_of_getElem? (i := 268) (by decide +kernel), List.mem_of_getElem? (i := 648) (by decide +kernel), List.mem_of_getElem? (i := 649) (by decide +kernel)⟩
theorem lw_p21 : lw_okq (⟨"BudgetJuryLaw$Sim", "buy", "(I)V"⟩, 10) := ⟨⟨by decide +kernel, by decide +kernel⟩, List.mem_of_getElem? (i := 774) (by decide +kernel), List.mem_of_getElem? (i := 772) (by decide +kernel), List.mem_of_getElem? (i := 773) (by decide +kernel)⟩
theorem lw_p22 : lw_okq (⟨"BudgetJuryLaw$Sim", "build", "(I)V"⟩, 10) := ⟨⟨by decide +kernel, by decide +kernel⟩, List.mem_of_getElem? (i := 774) (by decide +kernel), List.mem_of_getElem? (i := 777) (by decide +kernel), List.mem_of_getElem? (i := 778) (by decide +kernel)⟩
theorem lw_p23 : lw_okq (⟨"BudgetJury", "append", "(I)V"⟩, 10) := ⟨⟨by decide +kernel, by decide +kernel⟩, List.mem_of_getElem? (i := 30) (by decide +kernel), List.mem_of_getElem? (i := 899) (by decide +kernel), List.mem_of_getElem? (i := 900) (by decide +kernel)⟩
theorem lw_p24 : lw_okq (⟨"BudgetJury$Tokens", "skipBlanks", "()V"⟩, 7) := ⟨⟨by decide +kernel, by decide +kernel⟩, List.mem_of_getElem? (i := 126) (by decide +kernel), List.mem_of_getElem? (i := 912) (by decide +kernel), List.mem_of_getElem? (i := 913) (by decide +kernel)⟩
theorem lw_p25 : lw_okq (⟨"BudgetJury$Tokens", "signAt", "(I)I"⟩, 7) := ⟨⟨by decide +kernel, by decide +kernel⟩, List.mem_of_getElem? (i := 126) (by decide +kernel), List.mem_of_getElem? (i := 916) (by decide +kernel), List.mem_of_getElem? (i := 917) (by decide +kernel)⟩
theorem lw_p26 : lw_okq (⟨"BudgetJury$Tokens", "cutOne", "(I)I"⟩, 7) := ⟨⟨by decide +kernel, by decide +kernel⟩, List.mem_of_getElem? (i := 126) (by decide +kernel), List.mem_of_getElem? (i := 920) (by decide +kernel), List.mem_of_getElem? (i := 921) (by decide +kernel)⟩
theorem lw_p27 : lw_okq (⟨"BudgetJury$Tokens", "cutWord", "(I)I"⟩, 7) := ⟨⟨by decide +kernel, by decide +kernel⟩, List.mem_of_getElem? (i := 126) (by decide +kernel), List.mem_of_getElem? (i := 924) (by decide +kernel), List.mem_of_getElem? (i := 925) (by decide +kernel)⟩
theorem lw_p28 : lw_okq (⟨"BudgetJury$Tokens", "cutNumber", "(I)I"⟩, 7) := ⟨⟨by decide +kernel, by decide +kernel⟩, List.mem_of_getElem? (i := 126) (by decide +kernel), List.mem_of_getElem? (i := 931) (by decide +kernel), List.mem_of_getElem? (i := 932) (by decide +kernel)⟩
theorem lw_p29 : lw_okq (⟨"BudgetJury$Tokens", "cutSymbol", "()I"⟩, 7) := ⟨⟨by decide +kernel, by decide +kernel⟩, List.mem_of_getElem? (i := 126) (by decide +kernel), List.mem_of_getElem? (i := 937) (by decide +kernel), List.mem_of_getElem? (i := 938) (by decide +kernel)⟩
theorem lw_p30 : lw_okq (⟨"BudgetJury$Grammar", "here", "()I"⟩, 5) := ⟨⟨by decide +kernel, by decide +kernel⟩, List.mem_of_getElem? (i := 213) (by decide +kernel), List.mem_of_getElem? (i := 1001) (by decide +kernel), List.mem_of_getElem? (i := 1002) (by decide +kernel)⟩
theorem lw_p31 : lw_okq (⟨"BudgetJury$Grammar", "isLine", "()Z"⟩, 5) := ⟨⟨by decide +kernel, by decide +kernel⟩, List.mem_of_getElem? (i := 213) (by decide +kernel), List.mem_of_getElem? (i := 1005) (by decide +kernel), List.mem_of_getElem? (i := 1006) (by decide +kernel)⟩
def lw_privs_2 : List (MethodName × Nat) := [(⟨"BudgetJury$Parish", "build", "(I)V"⟩, 15), (⟨"BudgetJury$Parish", "buildFromPot", "()V"⟩, 15), (⟨"BudgetJury$Parish", "bestForPot", "()I"⟩, 15), (⟨"BudgetJury$Parish", "isBetterForPot", "(II)Z"⟩, 15), (⟨"BudgetJury$Parish", "grow", "()V"⟩, 15), (⟨"BudgetJuryLaw$Sim", "buy", "(I)V"⟩, 10), (⟨"BudgetJuryLaw$Sim", "build", "(I)V"⟩, 10), (⟨"BudgetJury", "append", "(I)V"⟩, 10), (⟨"BudgetJury$Tokens", "skipBlanks", "()V"⟩, 7), (⟨"BudgetJury$Tokens", "signAt", "(I)I"⟩, 7), (⟨"BudgetJury$Tokens", "cutOne", "(I)I"⟩, 7), (⟨"BudgetJury$Tokens", "cutWord", "(I)I"⟩, 7), (⟨"BudgetJury$Tokens", "cutNumber", "(I)I"⟩, 7), (⟨"BudgetJury$Tokens", "cutSymbol", "()I"⟩, 7), (⟨"BudgetJury$Grammar", "here", "()I"⟩, 5), (⟨"BudgetJury$Grammar", "isLine", "()Z"⟩, 5)]
theorem lw_r2 : ∀ q ∈ lw_privs_2, lw_okq q := List.forall_mem_cons.mpr ⟨lw_p16, List.forall_mem_cons.mpr ⟨lw_p17, List.forall_mem_cons.mpr ⟨lw_p18, List.forall_mem_cons.mpr ⟨lw_p19, List.forall_mem_cons.mpr ⟨lw_p20, List.forall_mem_cons.mpr ⟨lw_p21, List.forall_mem_cons.mpr ⟨lw_p22, List.forall_mem_cons.mpr ⟨lw_p23, List.forall_mem_cons.mpr ⟨lw_p24, List.forall_mem_cons.mpr ⟨lw_p25, List.forall_mem_cons.mpr ⟨lw_p26, List.forall_mem_cons.mpr ⟨lw_p27, List.forall_mem_cons.mpr ⟨lw_p28, List.forall_mem_cons.mpr ⟨lw_p29, List.forall_mem_cons.mpr ⟨lw_p30, List.forall_mem_cons.mpr ⟨lw_p31, fun _ h => absurd h List.not_mem_nil⟩⟩⟩⟩⟩⟩⟩⟩⟩⟩⟩⟩⟩⟩⟩⟩
theorem lw_p32 : lw_okq (⟨"BudgetJury$Grammar", "take", "(I)Z"⟩, 5) := ⟨⟨by decide +kernel, by decide +kernel⟩, List.mem_of_getElem? (i := 213) (by decide +kernel), List.mem_of_getElem? (i := 1009) (by decide +kernel), List.mem_of_getElem? (i := 1010) (by decide +kernel)⟩
theorem lw_p33 : lw_okq (⟨"BudgetJury$Grammar", "take", "(II)Z"⟩, 5) := ⟨⟨by decide +kernel, by decide +kernel⟩, List.mem_of_getElem? (i := 213) (by decide +kernel), List.mem_of_getElem? (i := 1013) (by decide +kernel), List.mem_of_getElem? (i := 1014) (by decide +kernel)⟩
theorem lw_p34 : lw_okq (⟨"BudgetJury$Grammar", "isRowOfLiked", "()Z"⟩, 5) := ⟨⟨by decide +kernel, by decide +kernel⟩, List.mem_of_getElem? (i := 213) (by decide +kernel), List.mem_of_getElem? (i := 1017) (by decide +kernel), List.mem_of_getElem? (i := 1018) (by decide +kernel)⟩
theorem lw_p35 : lw_okq (⟨"BudgetJury$Grammar", "isBan", "()Z"⟩, 5) := ⟨⟨by decide +kernel, by decide +kernel⟩, List.mem_of_getElem? (i := 213) (by decide +kernel), List.mem_of_getElem? (i := 1021) (by decide +kernel), List.mem_of_getElem? (i := 1022) (by decide +kernel)⟩
theorem lw_p36 : lw_okq (⟨"BudgetJury$Grammar", "isTest", "(I)Z"⟩, 5) := ⟨⟨by decide +kernel, by decide +kernel⟩, List.mem_of_getElem? (i := 213) (by decide +kernel), List.mem_of_getElem? (i := 1025) (by decide +kernel), List.mem_of_getElem? (i := 1026) (by decide +kernel)⟩
theorem lw_p37 : lw_okq (⟨"BudgetJury$Grammar", "isBoth", "(I)Z"⟩, 5) := ⟨⟨by decide +kernel, by decide +kernel⟩, List.mem_of_getElem? (i := 213) (by decide +kernel), List.mem_of_getElem? (i := 1029) (by decide +kernel), List.mem_of_getElem? (i := 1030) (by decide +kernel)⟩
theorem lw_p38 : lw_okq (⟨"BudgetJury$Grammar", "isSingle", "(I)Z"⟩, 5) := ⟨⟨by decide +kernel, by decide +kernel⟩, List.mem_of_getElem? (i := 213) (by decide +kernel), List.mem_of_getElem? (i := 1033) (by decide +kernel), List.mem_of_getElem? (i := 1034) (by decide +kernel)⟩
theorem lw_p39 : lw_okq (⟨"BudgetJury$Grammar", "write", "(I)Z"⟩, 5) := ⟨⟨by decide +kernel, by decide +kernel⟩, List.mem_of_getElem? (i := 213) (by decide +kernel), List.mem_of_getElem? (i := 1037) (by decide +kernel), List.mem_of_getElem? (i := 1038) (by decide +kernel)⟩
theorem lw_p40 : lw_okq (⟨"BudgetJury$Grammar", "write", "(II)Z"⟩, 5) := ⟨⟨by decide +kernel, by decide +kernel⟩, List.mem_of_getElem? (i := 213) (by decide +kernel), List.mem_of_getElem? (i := 1041) (by decide +kernel), List.mem_of_getElem? (i := 1042) (by decide +kernel)⟩
theorem lw_p41 : lw_okq (⟨"BudgetJury$Grammar", "isNamed", "(II)Z"⟩, 5) := ⟨⟨by decide +kernel, by decide +kernel⟩, List.mem_of_getElem? (i := 213) (by decide +kernel), List.mem_of_getElem? (i := 1045) (by decide +kernel), List.mem_of_getElem? (i := 1046) (by decide +kernel)⟩
theorem lw_p42 : lw_okq (⟨"BudgetJury$Grammar", "isSum", "(I)Z"⟩, 5) := ⟨⟨by decide +kernel, by decide +kernel⟩, List.mem_of_getElem? (i := 213) (by decide +kernel), List.mem_of_getElem? (i := 1049) (by decide +kernel), List.mem_of_getElem? (i := 1050) (by decide +kernel)⟩
theorem lw_p43 : lw_okq (⟨"BudgetJury$Grammar", "isProduct", "(I)Z"⟩, 5) := ⟨⟨by decide +kernel, by decide +kernel⟩, List.mem_of_getElem? (i := 213) (by decide +kernel), List.mem_of_getElem? (i := 1053) (by decide +kernel), List.mem_of_getElem? (i := 1054) (by decide +kernel)⟩
theorem lw_p44 : lw_okq (⟨"BudgetJury$Grammar", "isValue", "(I)Z"⟩, 5) := ⟨⟨by decide +kernel, by decide +kernel⟩, List.mem_of_getElem? (i := 213) (by decide +kernel), List.mem_of_getElem? (i := 1057) (by decide +kernel), List.mem_of_getElem? (i := 1058) (by decide +kernel)⟩
theorem lw_p45 : lw_okq (⟨"BudgetJury$Grammar", "isPair", "(I)Z"⟩, 5) := ⟨⟨by decide +kernel, by decide +kernel⟩, List.mem_of_getElem? (i := 213) (by decide +kernel), List.mem_of_getElem? (i := 1061) (by decide +kernel), List.mem_of_getElem? (i := 1062) (by decide +kernel)⟩
theorem lw_p46 : lw_okq (⟨"BudgetJury$Grammar", "comparisonHere", "()I"⟩, 5) := ⟨⟨by decide +kernel, by decide +kernel⟩, List.mem_of_getElem? (i := 213) (by decide +kernel), List.mem_of_getElem? (i := 1065) (by decide +kernel), List.mem_of_getElem? (i := 1066) (by decide +kernel)⟩
theorem lw_p47 : lw_okq (⟨"BudgetJury$Checker", "errorHere", "(LBudgetJury$Plan;)I"⟩, 7) := ⟨⟨by decide +kernel, by decide +kernel⟩, List.mem_of_getElem? (i := 239) (by decide +kernel), List.mem_of_getElem? (i := 1077) (by decide +kernel), List.mem_of_getElem? (i := 1078) (by decide +kernel)⟩
def lw_privs_3 : List (MethodName × Nat) := [(⟨"BudgetJury$Grammar", "take", "(I)Z"⟩, 5), (⟨"BudgetJury$Grammar", "take", "(II)Z"⟩, 5), (⟨"BudgetJury$Grammar", "isRowOfLiked", "()Z"⟩, 5), (⟨"BudgetJury$Grammar", "isBan", "()Z"⟩, 5), (⟨"BudgetJury$Grammar", "isTest", "(I)Z"⟩, 5), (⟨"BudgetJury$Grammar", "isBoth", "(I)Z"⟩, 5), (⟨"BudgetJury$Grammar", "isSingle", "(I)Z"⟩, 5), (⟨"BudgetJury$Grammar", "write", "(I)Z"⟩, 5), (⟨"BudgetJury$Grammar", "write", "(II)Z"⟩, 5), (⟨"BudgetJury$Grammar", "isNamed", "(II)Z"⟩, 5), (⟨"BudgetJury$Grammar", "isSum", "(I)Z"⟩, 5), (⟨"BudgetJury$Grammar", "isProduct", "(I)Z"⟩, 5), (⟨"BudgetJury$Grammar", "isValue", "(I)Z"⟩, 5), (⟨"BudgetJury$Grammar", "isPair", "(I)Z"⟩, 5), (⟨"BudgetJury$Grammar", "comparisonHere", "()I"⟩, 5), (⟨"BudgetJury$Checker", "errorHere", "(LBudgetJury$Plan;)I"⟩, 7)]
theorem lw_r3 : ∀ q ∈ lw_privs_3, lw_okq q := List.forall_mem_cons.mpr ⟨lw_p32, List.forall_mem_cons.mpr ⟨lw_p33, List.forall_mem_cons.mpr ⟨lw_p34, List.forall_mem_cons.mpr ⟨lw_p35, List.forall_mem_cons.mpr ⟨lw_p36, List.forall_mem_cons.mpr ⟨lw_p37, List.forall_mem_cons.mpr ⟨lw_p38, List.forall_mem_cons.mpr ⟨lw_p39, List.forall_mem_cons.mpr ⟨lw_p40, List.forall_mem_cons.mpr ⟨lw_p41, List.forall_mem_cons.mpr ⟨lw_p42, List.forall_mem_cons.mpr ⟨lw_p43, List.forall_mem_cons.mpr ⟨lw_p44, List.forall_mem_cons.mpr ⟨lw_p45, List.forall_mem_cons.mpr ⟨lw_p46, List.forall_mem_cons.mpr ⟨lw_p47, fun _ h => absurd h List.not_mem_nil⟩⟩⟩⟩⟩⟩⟩⟩⟩⟩⟩⟩⟩⟩⟩⟩
theorem lw_p48 : lw_okq (⟨"BudgetJury$Checker", "tellWard", "(LBudgetJury$Plan;J)I"⟩, 7) := ⟨⟨by decide +kernel, by decide +kernel⟩, List.mem_of_getElem? (i := 239) (by decide +kernel), List.mem_of_getElem? (i := 1081) (by decide +kernel), List.mem_of_getElem? (i := 1082) (by decide +kernel)⟩
theorem lw_p49 : lw_okq (⟨"BudgetJury$Checker", "tellProject", "(LBudgetJury$Plan;J)I"⟩, 7) := ⟨⟨by decide +kernel, by decide +kernel⟩, List.mem_of_getElem? (i := 239) (by decide +kernel), List.mem_of_getElem? (i := 1091) (by decide +kernel), List.mem_of_getElem? (i := 1092) (by decide +kernel)⟩
theorem lw_p50 : lw_okq (⟨"BudgetJury$Checker", "tellVoter", "(LBudgetJury$Plan;J)I"⟩, 7) := ⟨⟨by decide +kernel, by decide +kernel⟩, List.mem_of_getElem? (i := 239) (by decide +kernel), List.mem_of_getElem? (i := 1095) (by decide +kernel), List.mem_of_getElem? (i := 1096) (by decide +kernel)⟩
theorem lw_p51 : lw_okq (⟨"BudgetJury$Checker", "tellBan", "(LBudgetJury$Plan;)I"⟩, 7) := ⟨⟨by decide +kernel, by decide +kernel⟩, List.mem_of_getElem? (i := 239) (by decide +kernel), List.mem_of_getElem? (i := 1099) (by decide +kernel), List.mem_of_getElem? (i := 1100) (by decide +kernel)⟩
theorem lw_p52 : lw_okq (⟨"BudgetJury$Checker", "putNumber", "([IIII)I"⟩, 7) := ⟨⟨by decide +kernel, by decide +kernel⟩, List.mem_of_getElem? (i := 239) (by decide +kernel), List.mem_of_getElem? (i := 1103) (by decide +kernel), List.mem_of_getElem? (i := 1104) (by decide +kernel)⟩
theorem lw_p53 : lw_okq (⟨"BudgetJury$Checker", "setArguments", "(LBudgetJury$Plan;)V"⟩, 7) := ⟨⟨by decide +kernel, by decide +kernel⟩, List.mem_of_getElem? (i := 239) (by decide +kernel), List.mem_of_getElem? (i := 1120) (by decide +kernel), List.mem_of_getElem? (i := 1121) (by decide +kernel)⟩
def lw_privs_4 : List (MethodName × Nat) := [(⟨"BudgetJury$Checker", "tellWard", "(LBudgetJury$Plan;J)I"⟩, 7), (⟨"BudgetJury$Checker", "tellProject", "(LBudgetJury$Plan;J)I"⟩, 7), (⟨"BudgetJury$Checker", "tellVoter", "(LBudgetJury$Plan;J)I"⟩, 7), (⟨"BudgetJury$Checker", "tellBan", "(LBudgetJury$Plan;)I"⟩, 7), (⟨"BudgetJury$Checker", "putNumber", "([IIII)I"⟩, 7), (⟨"BudgetJury$Checker", "setArguments", "(LBudgetJury$Plan;)V"⟩, 7)]
theorem lw_r4 : ∀ q ∈ lw_privs_4, lw_okq q := List.forall_mem_cons.mpr ⟨lw_p48, List.forall_mem_cons.mpr ⟨lw_p49, List.forall_mem_cons.mpr ⟨lw_p50, List.forall_mem_cons.mpr ⟨lw_p51, List.forall_mem_cons.mpr ⟨lw_p52, List.forall_mem_cons.mpr ⟨lw_p53, fun _ h => absurd h List.not_mem_nil⟩⟩⟩⟩⟩⟩
def lw_privs : List (MethodName × Nat) := lw_privs_1 ++ (lw_privs_2 ++ (lw_privs_3 ++ (lw_privs_4)))
def lw_tbl : List Cond := k2_sels lw_privs ++ tables_1
theorem lw_privs_ok : ∀ q ∈ lw_privs, lw_okq q := by
  show ∀ q ∈ lw_privs_1 ++ (lw_privs_2 ++ (lw_privs_3 ++ (lw_privs_4))), lw_okq q
  exact List.forall_mem_append.mpr ⟨lw_r1, List.forall_mem_append.mpr ⟨lw_r2, List.forall_mem_append.mpr ⟨lw_r3, lw_r4⟩⟩⟩
/-- the streams that the claim lets the run draw from -/
abbrev lw_cs : List Choice := [Jvm.Choice.named "NaN.bits", Jvm.Choice.named "NaN.copy"]
theorem lw_bits : nanBits ∈ lw_cs := by first | decide | exact List.mem_cons_self | simp [lw_cs, nanBits]
/-! ===== BEGIN words of one list among another's, by their places ===== -/
theorem goodIn_r {big : List Cond} (ws : List Cond) (ps : List Nat) (hp : ws = ps.filterMap (fun i => big[i]?)) (h : ws.all goodWord = true) : GoodIn big ws := by
  intro w hw
  have h1 := List.all_eq_true.mp h w hw
  rw [hp] at hw
  obtain ⟨i, -, hi⟩ := List.mem_filterMap.mp hw
  have hm : w ∈ big := by first | exact List.mem_of_getElem? hi | exact List.getElem?_mem hi
  exact ⟨hm, good_of_word h1⟩
theorem goodIn_app {big a b : List Cond} (ha : GoodIn big a) (hb : GoodIn big b) : GoodIn big (a ++ b) := fun w h => (List.mem_append.mp h).elim (ha w) (hb w)
theorem goodIn_ca {big a b : List Cond} {c : Cond} (ha : GoodIn big (c :: a)) (hb : GoodIn big b) : GoodIn big (c :: (a ++ b)) := fun w h => (List.mem_cons.mp h).elim (fun e => ha w (List.mem_cons.mpr (Or.inl e))) (fun h => (List.mem_append.mp h).elim (fun h => ha w (List.mem_cons.mpr (Or.inr h))) (hb w))
theorem goodIn_sub {big ws : List Cond} (hm : ∀ w ∈ ws, w ∈ big) (h : ws.all goodWord = true) : GoodIn big ws := fun w hw => ⟨hm w hw, good_of_word (List.all_eq_true.mp h w hw)⟩
/-! ===== END ===== -/


/-! ===== BEGIN exceptions that leave a method, and their catching by the caller (launches without stack traces) ===== -/
section VXA
/-! The laws vx_back, vx_callV, vx_callS, vx_callSW, vx_throw0, vx_throwS follow proofs of the library, with one case more: JvmDerived/Free/Laws.lean (Back.of_free), Shelf42/LK1.lean (callV, callS), Shelf/KitTraced.lean (throwNew0V, throwNewS). -/
/-- where a method has thrown q: the class by its name, the cell, what was written, the world -/
def vx_T (XC : String → State → State → Prop) (st : State) (q : Addr) (t : State) (mc ms : Nat) (free : Addr → Prop) : Prop :=
  ∃ (E : String) (ce : Cell) (L : List Loc), XC E st t ∧ t.heap[q]? = some ce ∧ ce.vm = .none ∧ st.vm.findClass E = some ce.cls ∧ st.WarmedH t.vm ∧ st.sameButNew ({ t with vm := st.vm } : State) L mc ms ∧ ∀ z ∈ L, free z.base
def vx_Q (Qc : Array Value → State → Outcome → State → Prop) (XC : String → State → State → Prop) (mc ms : Nat) (free : Addr → Prop) : Array Value → State → Outcome → State → Prop := fun a st o t =>
  (Qc a st o t ∧ ∃ L, FrameEnd st o t L mc ms ∧ ∀ q ∈ L, free q.base) ∨ ∃ q, o = .threw q ∧ vx_T XC st q t mc ms free
/-- a callee that returns or throws -/
def vx_Met (l : Launch) (y : MethodName) (ws : List Cond) (rm : Room) (Pc : Array Value → State → Prop) (Qc : Array Value → State → Outcome → State → Prop) (XC : String → State → State → Prop) (mc ms : Nat) (free : Addr → Prop) : Prop :=
  MetFree l y (headSpec ws rm) Pc (fun _ _ _ _ _ => True) (vx_Q Qc XC mc ms free)
def vx_Post (XC : String → State → State → Prop) (mc ms : Nat) (free : Addr → Prop) : Pt → Array Value → Addr → Pt → Prop := fun A a q B =>
  ∃ (g : JFrame) (mk : MethodId) (t : State) (L : List Loc) (E : String) (ce : Cell), B.U.heap = t.heap ∧ B.U.vm = t.vm ∧ XC E (A.U.calling g mk a) t ∧ t.heap[q]? = some ce ∧ ce.vm = .none ∧ A.U.vm.findClass E = some ce.cls ∧ B.locs = A.locs ++ L ∧ (∀ z ∈ L, free z.base) ∧ B.cells = A.cells + mc ∧ B.slots = A.slots + ms
def vx_Back (l : Launch) (R : Room) (p : Program) (e : Env) (below : List Frame) (s : State) (sargs : Array Value) (y : MethodName) (len W9 : Nat)
    (Pre : Pt → Array Value → Prop) (Post : Pt → Array Value → Option Value → Pt → Prop) (PostX : Pt → Array Value → Addr → Pt → Prop) : Prop :=
  ∀ (m : MethodId) (meth : Method) (c : Code) (A : Pt) (g : JFrame) (ig : Instr) (mk : MethodId) (a : Array Value),
    Stand p l e R s m sargs below meth c A.U A.locs A.cells A.slots → g.method = m → g.locals.size = c.maxLocals → decode c.code g.pc = .ok (ig, len) →
    2 * g.monitorRoom + (g.stack.map fun v => v.category).sum ≤ W9 → A.U.methodNamed? y = some mk → Pre A a →
    (∃ (v : Option Value) (B : Pt), Stand p l e R s m sargs below meth c B.U B.locs B.cells B.slots ∧ Post A a v B ∧
      Steps p.tables e below (doInvoke e (A.U.setTop g) [] mk a).1 (B.U.setTop { g with pc := g.pc + len, stack := v.toList ++ g.stack })) ∨
    (∃ (q : Addr) (B : Pt), Stand p l e R s m sargs below meth c B.U B.locs B.cells B.slots ∧ PostX A a q B ∧
      Steps p.tables e below (doInvoke e (A.U.setTop g) [] mk a).1 ((B.U.setTop g).pushFrame (.throwing q)))
section Payer
variable {l : Launch} {R : Room} {p : Program} {e : Env} {below : List Frame} {s : State} {sargs : Array Value} {y : MethodName} {len W9 : Nat}
theorem vx_back {ws : List Cond} {rm : Room} {Pc : Array Value → State → Prop} {Qc : Array Value → State → Outcome → State → Prop} {XC : String → State → State → Prop} {mc ms : Nat} {free : Addr → Prop} {bytes : ByteArray} {maxL : Nat} {ret : Option FieldType}
    (hM : vx_Met l y ws rm Pc Qc XC mc ms free) (hblind : FrameBlind Pc) (hrc : rm.cells = mc) (hrs : rm.slots = ms)
    (hframes : rm.frames + 1 ≤ R.frames) (hlocals : W9 + (maxL + 11) + rm.locals ≤ R.locals)
    (hws : ∀ w ∈ ws, ∀ a' U, s.WarmedH U.vm → w.before a' U = true) (hcode : Cond.code y bytes maxL ret ∈ ws) (hinit : ∀ a' U, s.WarmedH U.vm → (Cond.initialized y.cls).before a' U = true) :
    vx_Back l R p e below s sargs y len W9 (PreOf R mc ms Pc) (PostOf Qc mc ms free) (vx_Post XC mc ms free) := by
  intro m meth c A g ig mk a X hg hsize hdg hW hn hp
  have h1 : (headSpec ws rm).pre.before a A.U = true := atoms_intro fun w hw => hws w hw _ _ X.warmed
  have h2 : (Cond.code y bytes maxL ret).before a A.U = true := hws _ hcode _ _ X.warmed
  have h3 : (Cond.initialized y.cls).before a A.U = true := hinit _ _ X.warmed
  have h4 : A.cells + (headSpec ws rm).room.cells ≤ R.cells := by rw [show (headSpec ws rm).room.cells = mc from hrc]; exact hp.1
  have h5 : A.slots + (headSpec ws rm).room.slots ≤ R.slots := by rw [show (headSpec ws rm).room.slots = ms from hrs]; exact hp.2.1
  have hPc : Pc a (A.U.calling g mk a) := hblind _ _ _ _ hp.2.2
  obtain ⟨U, Ls, c0, s0⟩ := A
  dsimp only [Pt.U, Pt.locs, Pt.cells, Pt.slots] at h1 h2 h3 h4 h5 X hn hPc ⊢
  obtain ⟨methY, cY, hmY, hcY, -, hlY, -, -, -, -⟩ := Cond.code_spec hn h2
  obtain ⟨kY, hkY, -⟩ := className_of_methodNamed hn
  have hinitY : kY.init = .initialized := Cond.initialized_spec (findClass_of_methodNamed hn) hkY h3
  have h : At U g.method c below := by rw [hg]; exact X.here
  have hlocals9 : W9 + (maxL + 11) + (headSpec ws rm).room.locals ≤ R.locals := hlocals
  have happ : (headSpec ws rm).appliesLoose y e.platform (U.calling g mk a) = true :=
    Spec.appliesLoose_calling (g := g) h hdg hn hkY hinitY
      (X.room_calling (g := g) (R' := (headSpec ws rm).room) hsize hmY hcY hframes (by rw [hlY]; omega) h4 h5) h1
  obtain ⟨mid, hmid⟩ := h.above
  have hfr : (U.setTop g).frames = (.java g :: mid) ++ below := by rw [State.frames_setTop' g h.top, hmid]; rfl
  obtain ⟨o, s₂, hsteps, -, hend, hq⟩ := Steps.callFree hM p X.admits X.cas X.clock (acts := []) hfr happ hPc trivial
  have hq' : vx_Q Qc XC mc ms free a (U.calling g mk a) o s₂ := hq
  rw [State.frames_setTop' g h.top] at hend
  obtain ⟨g₀, hg0⟩ := Option.isSome_iff_exists.mp h.top
  obtain ⟨r, hr⟩ := State.topJava?_eq_some.mp hg0
  have hr' : (({ U with heap := s₂.heap, slotsUsed := s₂.slotsUsed } : State).setVm s₂.vm).frames = .java g₀ :: r := hr
  rcases hq' with ⟨hqc, L, hfe, hL⟩ | ⟨q, rfl, E, ce, L, hx, hce, hcv, hcl, hW₂, hsm, hL⟩
  · obtain ⟨⟨v, rfl⟩, hW₂, e2, q2, q3, q4, q5, q6⟩ := id hfe
    have e3 : s₂ = ({ (U.calling g mk a).setFrames s₂.frames with heap := s₂.heap, slotsUsed := s₂.slotsUsed } : State).setVm s₂.vm := by
      have : s₂ = ({ s₂ with vm := (U.calling g mk a).vm } : State).setVm s₂.vm := rfl
      rw [e2] at this
      exact this
    obtain ⟨c₂, i₂, len₂, hc₂, hd₂, hf₂⟩ := hend
    have hW' : U.WarmedH s₂.vm := hW₂
    have hcc : c₂ = c := by
      have h1 : s₂.code? g.method = U.code? g.method := by
        rw [State.code?_eq, State.code?_eq, hW'.alike.method?]
      exact Option.some.inj (hc₂.symm.trans (h1.trans h.code))
    subst hcc
    have hlen : len₂ = len := by rw [hdg] at hd₂; cases hd₂; rfl
    subst hlen
    have hs₂ : s₂ = (({ U with heap := s₂.heap, slotsUsed := s₂.slotsUsed } : State).setVm s₂.vm).setTop { g with pc := g.pc + len₂, stack := v.toList ++ g.stack } := by
      refine e3.trans ?_
      rw [hf₂, State.calling_eq h.top, State.setFrames_setFrames, State.setTop_of_frames _ hr', hr]
      rfl
    have hsame : U.sameButNew ({ U with heap := s₂.heap, slotsUsed := s₂.slotsUsed } : State) L mc ms := by
      refine ⟨?_, q2, q3, q4, q5, q6⟩
      obtain ⟨t, ht, -⟩ := State.frames_cons hr
      show ({ U with heap := s₂.heap, slotsUsed := s₂.slotsUsed } : State) = { U.setFrames U.frames with heap := s₂.heap, slotsUsed := s₂.slotsUsed }
      rw [State.setFrames_self ht]
    subst hg
    refine Or.inl ⟨v, ⟨(({ U with heap := s₂.heap, slotsUsed := s₂.slotsUsed } : State).setVm s₂.vm), Ls ++ L, c0 + mc, s0 + ms⟩,
      ⟨X.admits, X.cas, X.clock, X.frames, X.room, X.hears, X.method, X.code, (X.here.setHeapUsed s₂.heap s₂.slotsUsed).setVm hW'.alike, X.tail, State.WarmedH.trans X.warmed hW', X.limits, X.bytes, X.same.trans (hsame.setVm s.vm)⟩,
      ⟨g, mk, s₂, L, rfl, rfl, hqc, rfl, hL, rfl, rfl⟩, ?_⟩
    show Steps p.tables e below _ ((({ U with heap := s₂.heap, slotsUsed := s₂.slotsUsed } : State).setVm s₂.vm).setTop { g with pc := g.pc + len₂, stack := v.toList ++ g.stack })
    rw [← hs₂]
    exact hsteps
  · obtain ⟨e2, q2, q3, q4, q5, q6⟩ := id hsm
    have e3 : s₂ = ({ (U.calling g mk a).setFrames s₂.frames with heap := s₂.heap, slotsUsed := s₂.slotsUsed } : State).setVm s₂.vm := by
      have : s₂ = ({ s₂ with vm := (U.calling g mk a).vm } : State).setVm s₂.vm := rfl
      rw [e2] at this
      exact this
    have hf₂ : s₂.frames = .throwing q :: .java g :: U.frames.tail := hend
    have hW' : U.WarmedH s₂.vm := hW₂
    have hs₂ : s₂ = ((({ U with heap := s₂.heap, slotsUsed := s₂.slotsUsed } : State).setVm s₂.vm).setTop g).pushFrame (.throwing q) := by
      refine e3.trans ?_
      rw [hf₂, State.calling_eq h.top, State.setFrames_setFrames, State.pushFrame, State.frames_setTop _ hr', State.setTop_of_frames _ hr', State.setFrames_setFrames, hr]
      rfl
    have hsame : U.sameButNew ({ U with heap := s₂.heap, slotsUsed := s₂.slotsUsed } : State) L mc ms := by
      refine ⟨?_, q2, q3, q4, q5, q6⟩
      obtain ⟨t, ht, -⟩ := State.frames_cons hr
      show ({ U with heap := s₂.heap, slotsUsed := s₂.slotsUsed } : State) = { U.setFrames U.frames with heap := s₂.heap, slotsUsed := s₂.slotsUsed }
      rw [State.setFrames_self ht]
    subst hg
    refine Or.inr ⟨q, ⟨(({ U with heap := s₂.heap, slotsUsed := s₂.slotsUsed } : State).setVm s₂.vm), Ls ++ L, c0 + mc, s0 + ms⟩,
      ⟨X.admits, X.cas, X.clock, X.frames, X.room, X.hears, X.method, X.code, (X.here.setHeapUsed s₂.heap s₂.slotsUsed).setVm hW'.alike, X.tail, State.WarmedH.trans X.warmed hW', X.limits, X.bytes, X.same.trans (hsame.setVm s.vm)⟩,
      ⟨g, mk, s₂, L, E, ce, rfl, rfl, hx, hce, hcv, hcl, rfl, hL, rfl, rfl⟩, ?_⟩
    show Steps p.tables e below _ (((({ U with heap := s₂.heap, slotsUsed := s₂.slotsUsed } : State).setVm s₂.vm).setTop g).pushFrame (.throwing q))
    rw [← hs₂]
    exact hsteps
end Payer
section Calls
variable {p : Program} {l : Launch} {e : Env} {R : Room} {s : State} {m : MethodId} {args : Array Value} {below : List Frame} {meth : Method} {c : Code} {T : State} {locs : List Loc} {cells slots : Nat}
theorem vx_callV (X : Stand p l e R s m args below meth c T locs cells slots) (hexec : p.tables.exec = Jvm.exec) {own C : String} {index : Nat} {y : MethodName} {bytes : ByteArray} {maxL : Nat} {ret : Option FieldType}
    (hown : s.vm.findClass own = some m.cls) (hlink : (Cond.methodLink own index y).before args s = true) (hinst : (Cond.instanceMethod y).before args s = true) (hsel : (Cond.selects C y y).before args s = true)
    (hcode : (Cond.code y bytes maxL ret).before args s = true) (hy : y.cls ≠ "java/lang/invoke/MethodHandle" ∧ y.cls ≠ "java/lang/invoke/VarHandle")
    {W9 : Nat} {Pre : Pt → Array Value → Prop} {Post : Pt → Array Value → Option Value → Pt → Prop} {PostX : Pt → Array Value → Addr → Pt → Prop} (hK : vx_Back l R p e below s args y 3 W9 Pre Post PostX)
    {b : Addr} {cellB : Cell} (hcell : T.heap[b]? = some cellB) (hobj : cellB.vm.isStatics = false) (hcls : s.vm.findClass C = some cellB.cls)
    {g : JFrame} (hg : g.method = m) (hsize : g.locals.size = c.maxLocals) {argsL rest : List Value} (hlen : ∀ sig, parseMethodDescriptor y.desc = some sig → argsL.length = sig.parameters.length)
    (hstack : g.stack = argsL.reverse ++ .ref b :: rest) (hW : 2 * g.monitorRoom + (rest.map fun v => v.category).sum ≤ W9) (hdg : decode c.code g.pc = .ok (.invokevirtual index, 3))
    (hpre : ∀ vm₁, s.WarmedH vm₁ → Pre ⟨T.setVm vm₁, locs, cells, slots⟩ (Value.ref b :: argsL).toArray) :
    (∃ (v : Option Value) (vm₁ : Vm) (B : Pt), s.WarmedH vm₁ ∧ Stand p l e R s m args below meth c B.U B.locs B.cells B.slots ∧ Post ⟨T.setVm vm₁, locs, cells, slots⟩ (Value.ref b :: argsL).toArray v B ∧
      ∀ target, Steps p.tables e below (B.U.setTop { g with pc := g.pc + 3, stack := v.toList ++ rest }) target → Steps p.tables e below (T.setTop g) target) ∨
    (∃ (q : Addr) (vm₁ : Vm) (B : Pt), s.WarmedH vm₁ ∧ Stand p l e R s m args below meth c B.U B.locs B.cells B.slots ∧ PostX ⟨T.setVm vm₁, locs, cells, slots⟩ (Value.ref b :: argsL).toArray q B ∧
      Steps p.tables e below (T.setTop g) ((B.U.setTop { g with stack := rest }).pushFrame (.throwing q))) := by
  obtain ⟨mk, methM, hnamed, hmethM, hstM, habM⟩ := Cond.instanceMethod_spec hinst
  obtain ⟨methM', cM, hmethM', -, -, -, -, -, -, hsigM⟩ := Cond.code_spec hnamed hcode
  cases hmethM.symm.trans hmethM'
  obtain ⟨c2, r2, m2, q1, q2, q3, q4, kP, hkP, hkPi⟩ := Cond.selects_spec hsel
  cases hcls.symm.trans q1
  cases (State.methodFound?_of_named hnamed hy).symm.trans q2
  cases hnamed.symm.trans q3
  have hselP : selectMethod e.platform s.vm cellB.cls mk = .method mk := by rw [Launch.admits_selectMethod X.admits]; exact q4
  obtain ⟨vm₁, X₁, hstep₁⟩ := X.invokevirtual hexec hown hlink hnamed hmethM hstM hkP hkPi hy (a := b) (cell := cellB) hcell
    (fun z h => by rw [h] at hobj; cases hobj) hselP hmethM habM hkP hkPi (g := g) hg (argsL := argsL) (rest := rest) (hlen _ hsigM) hstack hdg
  rcases hK m meth c ⟨T.setVm vm₁, locs, cells, slots⟩ { g with stack := rest } (.invokevirtual index) mk (Value.ref b :: argsL).toArray X₁ hg hsize hdg hW (X₁.named hnamed) (hpre vm₁ X₁.warmed) with ⟨v, B, X', hpost, hsteps⟩ | ⟨q, B, X', hpost, hsteps⟩
  · exact Or.inl ⟨v, vm₁, B, X₁.warmed, X', hpost, fun target h => hstep₁ _ fun acts => by rw [doInvoke_state]; exact hsteps.trans h⟩
  · exact Or.inr ⟨q, vm₁, B, X₁.warmed, X', hpost, hstep₁ _ fun acts => by rw [doInvoke_state]; exact hsteps⟩
theorem vx_callS (X : Stand p l e R s m args below meth c T locs cells slots) (hexec : p.tables.exec = Jvm.exec) {own : String} {index : Nat} {y : MethodName} {bytes : ByteArray} {maxL : Nat} {ret : Option FieldType}
    (hown : s.vm.findClass own = some m.cls) (hlink : (Cond.methodLink own index y).before args s = true) (hstat : (Cond.static y).before args s = true) (hinit : (Cond.initialized y.cls).before args s = true)
    (hcode : (Cond.code y bytes maxL ret).before args s = true) (hy : y.cls ≠ "java/lang/invoke/MethodHandle" ∧ y.cls ≠ "java/lang/invoke/VarHandle")
    {W9 : Nat} {Pre : Pt → Array Value → Prop} {Post : Pt → Array Value → Option Value → Pt → Prop} {PostX : Pt → Array Value → Addr → Pt → Prop} (hK : vx_Back l R p e below s args y 3 W9 Pre Post PostX)
    {g : JFrame} (hg : g.method = m) (hsize : g.locals.size = c.maxLocals) {argsL rest : List Value} (hlen : ∀ sig, parseMethodDescriptor y.desc = some sig → argsL.length = sig.parameters.length)
    (hstack : g.stack = argsL.reverse ++ rest) (hW : 2 * g.monitorRoom + (rest.map fun v => v.category).sum ≤ W9) (hdg : decode c.code g.pc = .ok (.invokestatic index, 3))
    (hpre : ∀ vm₁, s.WarmedH vm₁ → Pre ⟨T.setVm vm₁, locs, cells, slots⟩ argsL.toArray) :
    (∃ (v : Option Value) (vm₁ : Vm) (B : Pt), s.WarmedH vm₁ ∧ Stand p l e R s m args below meth c B.U B.locs B.cells B.slots ∧ Post ⟨T.setVm vm₁, locs, cells, slots⟩ argsL.toArray v B ∧
      ∀ target, Steps p.tables e below (B.U.setTop { g with pc := g.pc + 3, stack := v.toList ++ rest }) target → Steps p.tables e below (T.setTop g) target) ∨
    (∃ (q : Addr) (vm₁ : Vm) (B : Pt), s.WarmedH vm₁ ∧ Stand p l e R s m args below meth c B.U B.locs B.cells B.slots ∧ PostX ⟨T.setVm vm₁, locs, cells, slots⟩ argsL.toArray q B ∧
      Steps p.tables e below (T.setTop g) ((B.U.setTop { g with stack := rest }).pushFrame (.throwing q))) := by
  obtain ⟨mk, hnamed⟩ := Cond.code_named hcode
  obtain ⟨methM, cM, hmethM, -, -, -, -, -, -, hsigM⟩ := Cond.code_spec hnamed hcode
  have hstatic : methM.isStatic = true := Cond.static_spec hnamed hmethM hstat
  obtain ⟨kP, hkP, -⟩ := className_of_methodNamed hnamed
  have hinitP : kP.init = .initialized := Cond.initialized_spec (findClass_of_methodNamed hnamed) hkP hinit
  obtain ⟨vm₁, X₁, hstep₁⟩ := X.invokestatic hexec hown hlink hnamed hmethM hstatic hkP hinitP hy (g := g) hg (argsL := argsL) (rest := rest) (hlen _ hsigM) hstack hdg
  rcases hK m meth c ⟨T.setVm vm₁, locs, cells, slots⟩ { g with stack := rest } (.invokestatic index) mk argsL.toArray X₁ hg hsize hdg hW (X₁.named hnamed) (hpre vm₁ X₁.warmed) with ⟨v, B, X', hpost, hsteps⟩ | ⟨q, B, X', hpost, hsteps⟩
  · exact Or.inl ⟨v, vm₁, B, X₁.warmed, X', hpost, fun target h => hstep₁ _ fun acts => by rw [doInvoke_state]; exact hsteps.trans h⟩
  · exact Or.inr ⟨q, vm₁, B, X₁.warmed, X', hpost, hstep₁ _ fun acts => by rw [doInvoke_state]; exact hsteps⟩
end Calls
theorem vx_cls {s : State} {T : State} {vm₁ : Vm} {E : String} {k : ClassId} (hW : s.WarmedH vm₁) (h : (T.setVm vm₁).vm.findClass E = some k) : s.vm.findClass E = some k := by
  have h1 : vm₁.findClass E = some k := h
  rw [hW.alike.findClass] at h1
  exact h1
/-- the method's frame g, with q thrown over it -/
def vx_W (p : Program) (l : Launch) (e : Env) (R : Room) (s : State) (m : MethodId) (args : Array Value) (below : List Frame) (meth : Method) (c : Code) (H : Heap) (locs : List Loc) (cells slots : Nat) (Q : State → Prop) (g : JFrame) (q : Addr) : Prop :=
  ∀ T : State, T.heap = H → Stand p l e R s m args below meth c T locs cells slots → ∃ t, Steps p.tables e below ((T.setTop g).pushFrame (.throwing q)) t ∧ Q t
def vx_Run (p : Program) (l : Launch) (e : Env) (R : Room) (s : State) (m : MethodId) (args : Array Value) (below : List Frame) (meth : Method) (c : Code) (H : Heap) (locs : List Loc) (cells slots mc ms : Nat) (g : JFrame) (rest : List Value) (Qa : State → Outcome → State → Prop) (XC : String → State → State → Prop) (free : Addr → Prop) : Prop :=
  ∀ T : State, T.heap = H → Stand p l e R s m args below meth c T locs cells slots →
    (∃ (v : Option Value) (st₀ t T' : State) (L : List Loc), st₀.heap = H ∧ Stand p l e R s m args below meth c T' (locs ++ L) (cells + mc) (slots + ms) ∧ (∀ q ∈ L, free q.base) ∧ T'.heap = t.heap ∧ T'.vm = t.vm ∧ Qa st₀ (.returned v) t ∧
      Goes p e below T g T' { g with pc := g.pc + 3, stack := v.toList ++ rest }) ∨
    (∃ (q : Addr) (st₀ t T' : State) (L : List Loc) (E : String) (ce : Cell), st₀.heap = H ∧ Stand p l e R s m args below meth c T' (locs ++ L) (cells + mc) (slots + ms) ∧ (∀ z ∈ L, free z.base) ∧ T'.heap = t.heap ∧ T'.vm = t.vm ∧ XC E st₀ t ∧ t.heap[q]? = some ce ∧ ce.vm = .none ∧ s.vm.findClass E = some ce.cls ∧
      Steps p.tables e below (T.setTop g) ((T'.setTop { g with stack := rest }).pushFrame (.throwing q)))
def vx_X {S : Type} (px : S → Prop) (B : String → S → State → Prop) (A : Nat → Prop) : String → State → State → Prop := fun E st t => ∃ u : S, px u ∧ B E u t ∧ va_F A st t
section Runs
variable {p : Program} {l : Launch} {e : Env} {R : Room} {s : State} {m : MethodId} {args : Array Value} {below : List Frame} {meth : Method} {c : Code} {H : Heap} {locs : List Loc} {cells slots : Nat}
variable {y : MethodName} {bytes cc : ByteArray} {maxL nL mc ms n index : Nat} {ret : Option FieldType} {ws : List Cond} {rm : Room} {Pc : Array Value → State → Prop} {Qc : Array Value → State → Outcome → State → Prop} {XC : String → State → State → Prop} {free : Addr → Prop} {Ts : List Cond} {own C : String} {b : Addr} {As rest : List Value} {g : JFrame}
theorem vx_callBack (cb : CallB R s args own index y bytes maxL ret ws rm mc ms n) (hM : vx_Met l y ws rm Pc Qc XC mc ms free) (hbl : FrameBlind Pc) : vx_Back l R p e below s args y 3 8 (PreOf R mc ms Pc) (PostOf Qc mc ms free) (vx_Post XC mc ms free) := by
  obtain ⟨hrc, hrs, hfr, hlo, hws, hcw, -, hini, -⟩ := cb
  exact vx_back (bytes := bytes) (maxL := maxL) (ret := ret) hM hbl hrc hrs hfr hlo hws hcw (fun a' U hW => word_at hW (Or.inl (by first | rfl | simp [Cond.onTables, Cond.keeps, Cond.steady])) hini)
theorem vx_runV (S : CallFix p m c cc nL s args Ts own) (hM : vx_Met l y ws rm Pc Qc XC mc ms free) (cw : CallW R s args own C index y bytes maxL ret ws rm mc ms n) (hp : PreV s H C b Pc As)
    (hg : g.method = m) (hn : As.length = n) (hsize : g.locals.size = nL) (hstack : g.stack = As.reverse ++ .ref b :: rest) (hW : 2 * g.monitorRoom + (rest.map fun v => v.category).sum ≤ 8) (hdg : decode cc g.pc = .ok (.invokevirtual index, 3)) (hf : cells + mc ≤ R.cells ∧ slots + ms ≤ R.slots) :
    vx_Run p l e R s m args below meth c H locs cells slots mc ms g rest (Qc (Value.ref b :: As).toArray) XC free := by
  have hK : vx_Back l R p e below s args y 3 8 (PreOf R mc ms Pc) (PostOf Qc mc ms free) (vx_Post XC mc ms free) := vx_callBack cw.1 hM hp.1
  obtain ⟨⟨-, -, -, -, -, -, hcode, -, hy, hlen, hl⟩, hin, hse⟩ := cw
  obtain ⟨hx, hb, hml, ho, -⟩ := S
  obtain ⟨-, ⟨cellB, hcB, hoB, hclB⟩, hPc⟩ := hp
  intro T hT X
  rcases vx_callV X hx (C := C) (bytes := bytes) (maxL := maxL) (ret := ret) ho hl hin hse hcode hy hK (by rw [hT]; exact hcB) hoB hclB hg (hsize.trans hml.symm) (argsL := As) (rest := rest) (fun sig h => hn.trans (hlen sig h)) hstack hW (by rw [hb]; exact hdg)
    (fun vm₁ hW₁ => ⟨hf.1, hf.2, hPc (T.setVm vm₁) hT hW₁⟩) with ⟨v, vm₁, ⟨U', l2, c2, s2⟩, hW₁, X', ⟨g', mk, t, L, e1, e2, hq, h1, hL, h2, h3⟩, st⟩ | ⟨q, vm₁, ⟨U', l2, c2, s2⟩, hW₁, X', ⟨g', mk, t, L, E, ce, e1, e2, hq, hce, hcv, hcl, h1, hL, h2, h3⟩, st⟩
  · dsimp only [Pt.U, Pt.locs, Pt.cells, Pt.slots] at X' e1 e2 h1 h2 h3 st
    subst h1; subst h2; subst h3
    exact Or.inl ⟨v, (T.setVm vm₁).calling g' mk (Value.ref b :: As).toArray, t, U', L, hT, X', hL, e1, e2, hq, st⟩
  · dsimp only [Pt.U, Pt.locs, Pt.cells, Pt.slots] at X' e1 e2 h1 h2 h3 st hcl
    subst h1; subst h2; subst h3
    exact Or.inr ⟨q, (T.setVm vm₁).calling g' mk (Value.ref b :: As).toArray, t, U', L, E, ce, hT, X', hL, e1, e2, hq, hce, hcv, vx_cls hW₁ hcl, st⟩
theorem vx_runS (S : CallFix p m c cc nL s args Ts own) (hM : vx_Met l y ws rm Pc Qc XC mc ms free) (cw : CallB R s args own index y bytes maxL ret ws rm mc ms n ∧ (Cond.static y).before args s = true) (hp : PreS s H Pc As)
    (hg : g.method = m) (hn : As.length = n) (hsize : g.locals.size = nL) (hstack : g.stack = As.reverse ++ rest) (hW : 2 * g.monitorRoom + (rest.map fun v => v.category).sum ≤ 8) (hdg : decode cc g.pc = .ok (.invokestatic index, 3)) (hf : cells + mc ≤ R.cells ∧ slots + ms ≤ R.slots) :
    vx_Run p l e R s m args below meth c H locs cells slots mc ms g rest (Qc As.toArray) XC free := by
  have hK : vx_Back l R p e below s args y 3 8 (PreOf R mc ms Pc) (PostOf Qc mc ms free) (vx_Post XC mc ms free) := vx_callBack cw.1 hM hp.1
  obtain ⟨⟨-, -, -, -, -, -, hcode, hini, hy, hlen, hl⟩, hstt⟩ := cw
  obtain ⟨hx, hb, hml, ho, -⟩ := S
  intro T hT X
  rcases vx_callS X hx (bytes := bytes) (maxL := maxL) (ret := ret) ho hl hstt hini hcode hy hK hg (hsize.trans hml.symm) (argsL := As) (rest := rest) (fun sig h => hn.trans (hlen sig h)) hstack hW (by rw [hb]; exact hdg)
    (fun vm₁ hW₁ => ⟨hf.1, hf.2, hp.2 (T.setVm vm₁) hT hW₁⟩) with ⟨v, vm₁, ⟨U', l2, c2, s2⟩, hW₁, X', ⟨g', mk, t, L, e1, e2, hq, h1, hL, h2, h3⟩, st⟩ | ⟨q, vm₁, ⟨U', l2, c2, s2⟩, hW₁, X', ⟨g', mk, t, L, E, ce, e1, e2, hq, hce, hcv, hcl, h1, hL, h2, h3⟩, st⟩
  · dsimp only [Pt.U, Pt.locs, Pt.cells, Pt.slots] at X' e1 e2 h1 h2 h3 st
    subst h1; subst h2; subst h3
    exact Or.inl ⟨v, (T.setVm vm₁).calling g' mk As.toArray, t, U', L, hT, X', hL, e1, e2, hq, st⟩
  · dsimp only [Pt.U, Pt.locs, Pt.cells, Pt.slots] at X' e1 e2 h1 h2 h3 st hcl
    subst h1; subst h2; subst h3
    exact Or.inr ⟨q, (T.setVm vm₁).calling g' mk As.toArray, t, U', L, E, ce, hT, X', hL, e1, e2, hq, hce, hcv, vx_cls hW₁ hcl, st⟩
end Runs
section Rows
variable {p : Program} {l : Launch} {e : Env} {R : Room} {s : State} {m : MethodId} {args : Array Value} {below : List Frame} {meth : Method} {c : Code} {H : Heap} {locs : List Loc} {cells slots : Nat} {Q : State → Prop}
variable {mc ms : Nat} {free : Addr → Prop} {A0 A1 : Nat → Prop} {H0 : Heap} {a : Array Value} {pc : Nat} {ls : Array Slot} {st0 rest : List Value}
theorem vx_keep {st₀ t T' : State} {L : List Loc} (h0 : st₀.heap = H) (e1 : T'.heap = t.heap) (hS : va_S A0 H0 H locs) (hA : ∀ q, q < H.size → A1 q → A0 q) (hf : ∀ q, free q → A0 q) (hL : ∀ q ∈ L, free q.base) (hF : va_F A1 st₀ t) :
    H.size ≤ T'.heap.size ∧ (∀ q : Nat, q < H.size → ¬ A1 q → T'.heap[q]? = H[q]?) ∧ va_S A0 H0 T'.heap (locs ++ L) := by
  obtain ⟨hz, hk⟩ := hF
  rw [h0] at hz hk
  exact ⟨by rw [e1]; exact hz, fun q h1 h2 => by rw [e1]; exact hk q h1 h2,
    ⟨Nat.le_trans hS.1 (by rw [e1]; exact hz), fun q h1 h2 => by rw [e1, hk q (Nat.lt_of_lt_of_le h1 hS.1) (fun z => h2 (hA q (Nat.lt_of_lt_of_le h1 hS.1) z))]; exact hS.2.1 q h1 h2, fun q hq => by
      rcases List.mem_append.mp hq with h | h
      · exact hS.2.2 q h
      · exact hf _ (hL q h)⟩⟩
theorem vx_calli {S SX : Type} {post : Int32 → S → Prop} {px : SX → Prop} {B : S → State → Prop} {BX : String → SX → State → Prop} {AX : Nat → Prop} (hr : vx_Run p l e R s m args below meth c H locs cells slots mc ms (F0 m pc ls st0) rest (va_Qi post B A1 a) (vx_X px BX AX) free) (hS : va_S A0 H0 H locs) (hA : ∀ q, q < H.size → A1 q → A0 q) (hf : ∀ q, free q → A0 q) (hAX : ∀ q, q < H.size → AX q → A0 q)
    (kx : ∀ (E : String) (ce : Cell) (q9 : Addr) (u : SX) (t : State) (H1 : Heap) (locs1 : List Loc), t.heap = H1 → s.vm.Alike t.vm → px u → BX E u t → H.size ≤ H1.size → (∀ q : Nat, q < H.size → ¬ AX q → H1[q]? = H[q]?) → va_S A0 H0 H1 locs1 → H1[q9]? = some ce → ce.vm = .none → s.vm.findClass E = some ce.cls → vx_W p l e R s m args below meth c H1 locs1 (cells + mc) (slots + ms) Q (F0 m pc ls rest) q9)
    (kk : ∀ (r : Int32) (u : S) (t : State) (H1 : Heap) (locs1 : List Loc), t.heap = H1 → s.vm.Alike t.vm → post r u → B u t → H.size ≤ H1.size → (∀ q : Nat, q < H.size → ¬ A1 q → H1[q]? = H[q]?) → va_S A0 H0 H1 locs1 → W p l e R s m args below meth c H1 locs1 (cells + mc) (slots + ms) Q (F0 m (pc + 3) ls (.int r :: rest))) : W p l e R s m args below meth c H locs cells slots Q (F0 m pc ls st0) := by
  intro T hT X
  rcases hr T hT X with ⟨v, st₀, t, T', L, h0, X', hL, e1, e2, ⟨⟨r, u, hv, hp, hb⟩, hF⟩, st⟩ | ⟨q, st₀, t, T', L, E, ce, h0, X', hL, e1, e2, ⟨u, hp, hb, hF⟩, hce, hcv, hcl, st⟩
  · cases hv
    obtain ⟨k1, k2, k3⟩ := vx_keep h0 e1 hS hA hf hL hF
    obtain ⟨t2, a1, b1⟩ := kk r u t T'.heap (locs ++ L) e1.symm (by rw [← e2]; exact X'.warmed.alike) hp hb k1 k2 k3 T' rfl X'
    exact ⟨t2, st t2 a1, b1⟩
  · obtain ⟨k1, k2, k3⟩ := vx_keep h0 e1 hS hAX hf hL hF
    obtain ⟨t2, a1, b1⟩ := kx E ce q u t T'.heap (locs ++ L) e1.symm (by rw [← e2]; exact X'.warmed.alike) hp hb k1 k2 k3 (by rw [e1]; exact hce) hcv hcl T' rfl X'
    exact ⟨t2, st.trans a1, b1⟩
theorem vx_calll {S SX : Type} {post : Int64 → S → Prop} {px : SX → Prop} {B : S → State → Prop} {BX : String → SX → State → Prop} {AX : Nat → Prop} (hr : vx_Run p l e R s m args below meth c H locs cells slots mc ms (F0 m pc ls st0) rest (va_Ql post B A1 a) (vx_X px BX AX) free) (hS : va_S A0 H0 H locs) (hA : ∀ q, q < H.size → A1 q → A0 q) (hf : ∀ q, free q → A0 q) (hAX : ∀ q, q < H.size → AX q → A0 q)
    (kx : ∀ (E : String) (ce : Cell) (q9 : Addr) (u : SX) (t : State) (H1 : Heap) (locs1 : List Loc), t.heap = H1 → s.vm.Alike t.vm → px u → BX E u t → H.size ≤ H1.size → (∀ q : Nat, q < H.size → ¬ AX q → H1[q]? = H[q]?) → va_S A0 H0 H1 locs1 → H1[q9]? = some ce → ce.vm = .none → s.vm.findClass E = some ce.cls → vx_W p l e R s m args below meth c H1 locs1 (cells + mc) (slots + ms) Q (F0 m pc ls rest) q9)
    (kk : ∀ (r : Int64) (u : S) (t : State) (H1 : Heap) (locs1 : List Loc), t.heap = H1 → s.vm.Alike t.vm → post r u → B u t → H.size ≤ H1.size → (∀ q : Nat, q < H.size → ¬ A1 q → H1[q]? = H[q]?) → va_S A0 H0 H1 locs1 → W p l e R s m args below meth c H1 locs1 (cells + mc) (slots + ms) Q (F0 m (pc + 3) ls (.long r :: rest))) : W p l e R s m args below meth c H locs cells slots Q (F0 m pc ls st0) := by
  intro T hT X
  rcases hr T hT X with ⟨v, st₀, t, T', L, h0, X', hL, e1, e2, ⟨⟨r, u, hv, hp, hb⟩, hF⟩, st⟩ | ⟨q, st₀, t, T', L, E, ce, h0, X', hL, e1, e2, ⟨u, hp, hb, hF⟩, hce, hcv, hcl, st⟩
  · cases hv
    obtain ⟨k1, k2, k3⟩ := vx_keep h0 e1 hS hA hf hL hF
    obtain ⟨t2, a1, b1⟩ := kk r u t T'.heap (locs ++ L) e1.symm (by rw [← e2]; exact X'.warmed.alike) hp hb k1 k2 k3 T' rfl X'
    exact ⟨t2, st t2 a1, b1⟩
  · obtain ⟨k1, k2, k3⟩ := vx_keep h0 e1 hS hAX hf hL hF
    obtain ⟨t2, a1, b1⟩ := kx E ce q u t T'.heap (locs ++ L) e1.symm (by rw [← e2]; exact X'.warmed.alike) hp hb k1 k2 k3 (by rw [e1]; exact hce) hcv hcl T' rfl X'
    exact ⟨t2, st.trans a1, b1⟩
theorem vx_callf {S SX : Type} {post : UInt32 → S → Prop} {px : SX → Prop} {B : S → State → Prop} {BX : String → SX → State → Prop} {AX : Nat → Prop} (hr : vx_Run p l e R s m args below meth c H locs cells slots mc ms (F0 m pc ls st0) rest (va_Qf post B A1 a) (vx_X px BX AX) free) (hS : va_S A0 H0 H locs) (hA : ∀ q, q < H.size → A1 q → A0 q) (hf : ∀ q, free q → A0 q) (hAX : ∀ q, q < H.size → AX q → A0 q)
    (kx : ∀ (E : String) (ce : Cell) (q9 : Addr) (u : SX) (t : State) (H1 : Heap) (locs1 : List Loc), t.heap = H1 → s.vm.Alike t.vm → px u → BX E u t → H.size ≤ H1.size → (∀ q : Nat, q < H.size → ¬ AX q → H1[q]? = H[q]?) → va_S A0 H0 H1 locs1 → H1[q9]? = some ce → ce.vm = .none → s.vm.findClass E = some ce.cls → vx_W p l e R s m args below meth c H1 locs1 (cells + mc) (slots + ms) Q (F0 m pc ls rest) q9)
    (kk : ∀ (r : UInt32) (u : S) (t : State) (H1 : Heap) (locs1 : List Loc), t.heap = H1 → s.vm.Alike t.vm → post r u → B u t → H.size ≤ H1.size → (∀ q : Nat, q < H.size → ¬ A1 q → H1[q]? = H[q]?) → va_S A0 H0 H1 locs1 → W p l e R s m args below meth c H1 locs1 (cells + mc) (slots + ms) Q (F0 m (pc + 3) ls (.float r :: rest))) : W p l e R s m args below meth c H locs cells slots Q (F0 m pc ls st0) := by
  intro T hT X
  rcases hr T hT X with ⟨v, st₀, t, T', L, h0, X', hL, e1, e2, ⟨⟨r, u, hv, hp, hb⟩, hF⟩, st⟩ | ⟨q, st₀, t, T', L, E, ce, h0, X', hL, e1, e2, ⟨u, hp, hb, hF⟩, hce, hcv, hcl, st⟩
  · cases hv
    obtain ⟨k1, k2, k3⟩ := vx_keep h0 e1 hS hA hf hL hF
    obtain ⟨t2, a1, b1⟩ := kk r u t T'.heap (locs ++ L) e1.symm (by rw [← e2]; exact X'.warmed.alike) hp hb k1 k2 k3 T' rfl X'
    exact ⟨t2, st t2 a1, b1⟩
  · obtain ⟨k1, k2, k3⟩ := vx_keep h0 e1 hS hAX hf hL hF
    obtain ⟨t2, a1, b1⟩ := kx E ce q u t T'.heap (locs ++ L) e1.symm (by rw [← e2]; exact X'.warmed.alike) hp hb k1 k2 k3 (by rw [e1]; exact hce) hcv hcl T' rfl X'
    exact ⟨t2, st.trans a1, b1⟩
theorem vx_calld {S SX : Type} {post : UInt64 → S → Prop} {px : SX → Prop} {B : S → State → Prop} {BX : String → SX → State → Prop} {AX : Nat → Prop} (hr : vx_Run p l e R s m args below meth c H locs cells slots mc ms (F0 m pc ls st0) rest (va_Qd post B A1 a) (vx_X px BX AX) free) (hS : va_S A0 H0 H locs) (hA : ∀ q, q < H.size → A1 q → A0 q) (hf : ∀ q, free q → A0 q) (hAX : ∀ q, q < H.size → AX q → A0 q)
    (kx : ∀ (E : String) (ce : Cell) (q9 : Addr) (u : SX) (t : State) (H1 : Heap) (locs1 : List Loc), t.heap = H1 → s.vm.Alike t.vm → px u → BX E u t → H.size ≤ H1.size → (∀ q : Nat, q < H.size → ¬ AX q → H1[q]? = H[q]?) → va_S A0 H0 H1 locs1 → H1[q9]? = some ce → ce.vm = .none → s.vm.findClass E = some ce.cls → vx_W p l e R s m args below meth c H1 locs1 (cells + mc) (slots + ms) Q (F0 m pc ls rest) q9)
    (kk : ∀ (r : UInt64) (u : S) (t : State) (H1 : Heap) (locs1 : List Loc), t.heap = H1 → s.vm.Alike t.vm → post r u → B u t → H.size ≤ H1.size → (∀ q : Nat, q < H.size → ¬ A1 q → H1[q]? = H[q]?) → va_S A0 H0 H1 locs1 → W p l e R s m args below meth c H1 locs1 (cells + mc) (slots + ms) Q (F0 m (pc + 3) ls (.double r :: rest))) : W p l e R s m args below meth c H locs cells slots Q (F0 m pc ls st0) := by
  intro T hT X
  rcases hr T hT X with ⟨v, st₀, t, T', L, h0, X', hL, e1, e2, ⟨⟨r, u, hv, hp, hb⟩, hF⟩, st⟩ | ⟨q, st₀, t, T', L, E, ce, h0, X', hL, e1, e2, ⟨u, hp, hb, hF⟩, hce, hcv, hcl, st⟩
  · cases hv
    obtain ⟨k1, k2, k3⟩ := vx_keep h0 e1 hS hA hf hL hF
    obtain ⟨t2, a1, b1⟩ := kk r u t T'.heap (locs ++ L) e1.symm (by rw [← e2]; exact X'.warmed.alike) hp hb k1 k2 k3 T' rfl X'
    exact ⟨t2, st t2 a1, b1⟩
  · obtain ⟨k1, k2, k3⟩ := vx_keep h0 e1 hS hAX hf hL hF
    obtain ⟨t2, a1, b1⟩ := kx E ce q u t T'.heap (locs ++ L) e1.symm (by rw [← e2]; exact X'.warmed.alike) hp hb k1 k2 k3 (by rw [e1]; exact hce) hcv hcl T' rfl X'
    exact ⟨t2, st.trans a1, b1⟩
theorem vx_callv {S SX : Type} {post : S → Prop} {px : SX → Prop} {B : S → State → Prop} {BX : String → SX → State → Prop} {AX : Nat → Prop} (hr : vx_Run p l e R s m args below meth c H locs cells slots mc ms (F0 m pc ls st0) rest (va_Qv post B A1 a) (vx_X px BX AX) free) (hS : va_S A0 H0 H locs) (hA : ∀ q, q < H.size → A1 q → A0 q) (hf : ∀ q, free q → A0 q) (hAX : ∀ q, q < H.size → AX q → A0 q)
    (kx : ∀ (E : String) (ce : Cell) (q9 : Addr) (u : SX) (t : State) (H1 : Heap) (locs1 : List Loc), t.heap = H1 → s.vm.Alike t.vm → px u → BX E u t → H.size ≤ H1.size → (∀ q : Nat, q < H.size → ¬ AX q → H1[q]? = H[q]?) → va_S A0 H0 H1 locs1 → H1[q9]? = some ce → ce.vm = .none → s.vm.findClass E = some ce.cls → vx_W p l e R s m args below meth c H1 locs1 (cells + mc) (slots + ms) Q (F0 m pc ls rest) q9)
    (kk : ∀ (u : S) (t : State) (H1 : Heap) (locs1 : List Loc), t.heap = H1 → s.vm.Alike t.vm → post u → B u t → H.size ≤ H1.size → (∀ q : Nat, q < H.size → ¬ A1 q → H1[q]? = H[q]?) → va_S A0 H0 H1 locs1 → W p l e R s m args below meth c H1 locs1 (cells + mc) (slots + ms) Q (F0 m (pc + 3) ls (rest))) : W p l e R s m args below meth c H locs cells slots Q (F0 m pc ls st0) := by
  intro T hT X
  rcases hr T hT X with ⟨v, st₀, t, T', L, h0, X', hL, e1, e2, ⟨⟨u, hv, hp, hb⟩, hF⟩, st⟩ | ⟨q, st₀, t, T', L, E, ce, h0, X', hL, e1, e2, ⟨u, hp, hb, hF⟩, hce, hcv, hcl, st⟩
  · cases hv
    obtain ⟨k1, k2, k3⟩ := vx_keep h0 e1 hS hA hf hL hF
    obtain ⟨t2, a1, b1⟩ := kk u t T'.heap (locs ++ L) e1.symm (by rw [← e2]; exact X'.warmed.alike) hp hb k1 k2 k3 T' rfl X'
    exact ⟨t2, st t2 a1, b1⟩
  · obtain ⟨k1, k2, k3⟩ := vx_keep h0 e1 hS hAX hf hL hF
    obtain ⟨t2, a1, b1⟩ := kx E ce q u t T'.heap (locs ++ L) e1.symm (by rw [← e2]; exact X'.warmed.alike) hp hb k1 k2 k3 (by rw [e1]; exact hce) hcv hcl T' rfl X'
    exact ⟨t2, st.trans a1, b1⟩
/-- caught by the row x of this method's table; the rows ahead don't take it -/
theorem vx_catch {own name : String} {E : String} {ce : Cell} {q : Addr} (hown : s.vm.findClass own = some m.cls) (pre : List ExceptionTableEntry) (x : ExceptionTableEntry) (suf : List ExceptionTableEntry) (hsplit : c.exceptionTable.toList = pre ++ x :: suf)
    (hpass : ∀ z ∈ pre, covers z pc = false ∨ (z.catchType ≠ 0 ∧ ∃ nm : String, (Cond.classLink own z.catchType nm).before args s = true ∧ va_Nc E nm s)) (hx : covers x pc = true) (h0 : x.catchType ≠ 0)
    (hlink : (Cond.classLink own x.catchType name).before args s = true) (hcast : (Cond.castable E name).before args s = true) (hcell : H[q]? = some ce) (hv : ce.vm = .none) (hcl : s.vm.findClass E = some ce.cls)
    (kk : W p l e R s m args below meth c H locs cells slots Q (F0 m x.handlerPc ls [.ref q])) : vx_W p l e R s m args below meth c H locs cells slots Q (F0 m pc ls rest) q := by
  intro T hT X
  have hpl : e.platform.magicAccessors = ({} : Platform).magicAccessors := by rw [X.admits.platform]
  obtain ⟨c3, c4, hc3, hc4, hasg⟩ := Cond.castable_spec hcast
  cases Option.some.inj (hc3.symm.trans hcl)
  obtain ⟨c5, hc5, hcl5⟩ := Cond.classLink_spec hown hlink e.platform hpl
  cases Option.some.inj (hc4.symm.trans hc5)
  obtain ⟨vm', X', st⟩ := X.thenCaughtThrough q (g := F0 m pc ls rest) rfl (Steps.refl _) (by rw [hT]; exact hcell) (by rw [hv]; rfl) (by obtain ⟨k9, h9, -⟩ := Vm.findClass_spec hcl; exact ⟨k9, h9⟩) pre x suf hsplit
    (fun z hz => by
      rcases hpass z hz with h | ⟨hz0, nm, hl1, hn1⟩
      · exact Or.inl h
      · obtain ⟨c6, hc6, hcl6⟩ := Cond.classLink_spec hown hl1 e.platform hpl
        obtain ⟨a8, b8, h1, h2, h3⟩ := hn1
        cases Option.some.inj (h1.symm.trans hcl)
        cases Option.some.inj (h2.symm.trans hc6)
        exact Or.inr ⟨hz0, _, hcl6, h3⟩) hx (Or.inr ⟨h0, c4, hcl5, hasg⟩)
  obtain ⟨t, a1, b1⟩ := kk (T.setVm vm') hT X'
  exact ⟨t, st.trans a1, b1⟩
end Rows
section Ends
variable {p : Program} {l : Launch} {e : Env} {R : Room} {s : State} {m : MethodId} {args : Array Value} {below : List Frame} {meth : Method} {c : Code} {H : Heap} {locs : List Loc} {cells slots : Nat} {Q : State → Prop}
variable {mc ms : Nat} {free : Addr → Prop} {A0 A1 : Nat → Prop} {H0 : Heap} {a : Array Value} {ls : Array Slot} {st0 rest : List Value}
variable {Qc : Array Value → State → Outcome → State → Prop} {XC : String → State → State → Prop}
/-- what a body that may throw owes at its end -/
def vx_MQ (below : List Frame) (Qc : Array Value → State → Outcome → State → Prop) (XC : String → State → State → Prop) (a : Array Value) (s : State) (mc ms : Nat) (free : Addr → Prop) : State → Prop := fun t =>
  ∃ o, t.status = .running ∧ Ended t below o ∧ vx_Q Qc XC mc ms free a s o t
theorem vx_ret {g : JFrame} {mc ms : Nat} (k : W p l e R s m args below meth c H locs cells slots (MQ below Qc args s mc ms free) g) : W p l e R s m args below meth c H locs cells slots (vx_MQ below Qc XC args s mc ms free) g := by
  intro T hT X
  obtain ⟨t, a1, o, b1, b2, b3, b4⟩ := k T hT X
  exact ⟨t, a1, o, b1, b2, Or.inl ⟨b3, b4⟩⟩
/-- not caught here: it goes on to the caller -/
theorem vx_widen {g : JFrame} {q : Addr} {k n : Nat} (h1 : cells ≤ k) (h2 : slots ≤ n) (kk : vx_W p l e R s m args below meth c H locs k n Q g q) : vx_W p l e R s m args below meth c H locs cells slots Q g q := fun T hT X => kk T hT (stand_widen X h1 h2)
theorem vx_out {pc : Nat} {E : String} {ce : Cell} {q : Addr} {mc ms : Nat} (hout : ∀ x ∈ c.exceptionTable.toList, covers x pc = false) (hlocks : meth.locks = false) (hcell : H[q]? = some ce) (hv : ce.vm = .none) (hcl : s.vm.findClass E = some ce.cls)
    (hx : ∀ t : State, t.heap = H → s.vm.Alike t.vm → XC E s t) (hf : ∀ z ∈ locs, free z.base) (hc : cells ≤ mc) (hs : slots ≤ ms) :
    vx_W p l e R s m args below meth c H locs cells slots (vx_MQ below Qc XC args s mc ms free) (F0 m pc ls rest) q := by
  intro T hT X
  obtain ⟨st1, hrun, hend, hW, hsm⟩ := X.leaveThrown q (g := F0 m pc ls rest) rfl rfl rfl hout hlocks
  have hcell9 : (T.setFrames (.throwing q :: below)).heap[q]? = some ce := by
    show T.heap[q]? = some ce
    rw [hT]; exact hcell
  exact ⟨_, st1, .threw q, hrun, hend, Or.inr ⟨q, rfl, E, ce, locs, hx _ hT hW.alike, hcell9, hv, hcl, hW, hsm.mono hc hs, hf⟩⟩
theorem vx_frame {U : State} {k n : Nat} (h : s.sameButNew ({ U with vm := s.vm } : State) locs k n) : s.heap.size ≤ U.heap.size ∧ ∀ q : Nat, q < s.heap.size → (∀ z ∈ locs, z.base ≠ q) → U.heap[q]? = s.heap[q]? := by
  obtain ⟨-, h2, -, -, -, h6⟩ := h
  refine ⟨h2, fun q hq hz => ?_⟩
  obtain ⟨c9, e1, e2, e3, e4⟩ := h6 q _ (Array.getElem?_eq_getElem hq)
  have hs : c9.slots = (s.heap[q]).slots := Array.ext_getElem? fun i => e4 i fun hm => hz _ hm rfl
  have h9 : c9 = s.heap[q] := by
    rw [hs] at e2
    exact e2
  have e5 : U.heap[q]? = some c9 := e1
  rw [e5, h9, Array.getElem?_eq_getElem hq]
/-- the words of a throw but the four that speak of the heap -/
def vx_no (w : Cond) : Bool := decide (w ≠ .isRef (.static Bundle.tN "UNASSIGNED_STACK" Bundle.steD)) && decide (w ≠ .isRef (.static Bundle.tN "SUPPRESSED_SENTINEL" Bundle.listD)) && decide (w ≠ .laysStatic Bundle.tN "UNASSIGNED_STACK" Bundle.steD) && decide (w ≠ .laysStatic Bundle.tN "SUPPRESSED_SENTINEL" Bundle.listD)
def vx_at0 (own : String) (ic : Nat) (X : String) (names : List String) : List Cond := (Bundle.ownAtoms0 own ic X names).filter vx_no
def vx_atS (own : String) (ic : Nat) (X : String) (names : List String) : List Cond := (Bundle.ownAtoms own ic X names).filter vx_no
/-- a word that the tables alone decide, or a good one -/
def vx_ot (w : Cond) : Bool := w.onTables || goodWord w
theorem vx_ot_at {args a' : Array Value} {s U : State} {w : Cond} (hW : s.WarmedH U.vm) (hvm : s.vm = U.vm) (hg : vx_ot w = true) (h : w.before args s = true) : w.before a' U = true := by
  simp only [vx_ot, Bool.or_eq_true] at hg
  rcases hg with hg | hg
  · exact va_tabs hg hvm h
  · exact word_at hW (good_of_word hg) h
/-- a list's words: the good ones out of the method's own list, the others by premises of their own -/
theorem vx_hat {args : Array Value} {s : State} {L B : List Cond} (h1 : ∀ w ∈ L.filter goodWord, w.before args s = true) (h2 : ∀ w ∈ L.filter (fun w => !goodWord w), w ∈ B) (h3 : ∀ w ∈ B, w.before args s = true) : ∀ w ∈ L, w.before args s = true := by
  intro w hw
  by_cases g : goodWord w = true
  · exact h1 w (List.mem_filter.mpr ⟨hw, g⟩)
  · refine h3 w (h2 w (List.mem_filter.mpr ⟨hw, ?_⟩))
    show (!goodWord w) = true
    cases hgw : goodWord w
    · rfl
    · exact absurd hgw g
theorem vx_c {args : Array Value} {s : State} {w : Cond} {B : List Cond} (h : w.before args s = true) (t : ∀ w ∈ B, w.before args s = true) : ∀ w' ∈ w :: B, w'.before args s = true := fun w' h' => (List.mem_cons.mp h').elim (fun e => by rw [e]; exact h) (t w')
theorem vx_n {args : Array Value} {s : State} : ∀ w ∈ ([] : List Cond), w.before args s = true := fun _ h => nomatch h
theorem vx_own {args : Array Value} {s : State} {L : List Cond} (h1 : ∀ w ∈ L.filter vx_no, w.before args s = true)
    (hU : (Cond.isRef (.static Bundle.tN "UNASSIGNED_STACK" Bundle.steD)).before args s = true) (hN : (Cond.isRef (.static Bundle.tN "SUPPRESSED_SENTINEL" Bundle.listD)).before args s = true)
    (lU : (Cond.laysStatic Bundle.tN "UNASSIGNED_STACK" Bundle.steD).before args s = true) (lN : (Cond.laysStatic Bundle.tN "SUPPRESSED_SENTINEL" Bundle.listD).before args s = true) : ∀ w ∈ L, w.before args s = true := by
  intro w hw
  by_cases e1 : w = .isRef (.static Bundle.tN "UNASSIGNED_STACK" Bundle.steD)
  · rw [e1]; exact hU
  · by_cases e2 : w = .isRef (.static Bundle.tN "SUPPRESSED_SENTINEL" Bundle.listD)
    · rw [e2]; exact hN
    · by_cases e3 : w = .laysStatic Bundle.tN "UNASSIGNED_STACK" Bundle.steD
      · rw [e3]; exact lU
      · by_cases e4 : w = .laysStatic Bundle.tN "SUPPRESSED_SENTINEL" Bundle.listD
        · rw [e4]; exact lN
        · exact h1 w (List.mem_filter.mpr ⟨hw, by unfold vx_no; rw [decide_eq_true e1, decide_eq_true e2, decide_eq_true e3, decide_eq_true e4]; rfl⟩)
/-- where a static field lies, its class's statics cell in H -/
def vx_L (C n d : String) (A : Nat → Prop) (U : State) (H : Heap) : Prop := ∃ (c : ClassId) (k : Class) (i : Nat) (f : Field) (a : Nat) (cell : Cell), U.vm.findClass C = some c ∧ U.fieldFound? C n d = some (c, k, i, f) ∧ f.isStatic = true ∧ k.statics = some a ∧ H[a]? = some cell ∧ cell.vm.isStatics = true ∧ cell.cls = c ∧ f.slot < cell.slots.size ∧ k.staticTypes[f.slot]? = some f.type ∧ ¬ A a
theorem vx_L.moved {C n d : String} {A : Nat → Prop} {u U : State} {H : Heap} (hvm : u.vm.Alike U.vm) (h : vx_L C n d A u H) : vx_L C n d A U H := by
  obtain ⟨c, k, i, f, a, cell, h1, h2, h3, h4, h5, h6, h7, h8, h9, h10⟩ := h
  obtain ⟨k', hi', he⟩ := State.fieldFound?_setVm hvm h2
  exact ⟨c, k', i, f, a, cell, by rw [hvm.findClass]; exact h1, hi', h3, by rw [he]; exact h4, h5, h6, h7, h8, by rw [he]; exact h9, h10⟩
theorem vx_L.kept {C n d : String} {A : Nat → Prop} {U : State} {H H1 : Heap} (h : vx_L C n d A U H) (hq : ∀ a : Nat, a < H.size → ¬ A a → H1[a]? = H[a]?) : vx_L C n d A U H1 := by
  obtain ⟨c, k, i, f, a, cell, h1, h2, h3, h4, h5, h6, h7, h8, h9, h10⟩ := h
  exact ⟨c, k, i, f, a, cell, h1, h2, h3, h4, by rw [hq a (Array.getElem?_eq_some_iff.mp h5).1 h10]; exact h5, h6, h7, h8, h9, h10⟩
theorem vx_L.narrow {C n d : String} {A B : Nat → Prop} {U : State} {H : Heap} (h : vx_L C n d A U H) (hAB : ∀ q, B q → A q) : vx_L C n d B U H := by
  obtain ⟨c, k, i, f, a, cell, h1, h2, h3, h4, h5, h6, h7, h8, h9, h10⟩ := h
  exact ⟨c, k, i, f, a, cell, h1, h2, h3, h4, h5, h6, h7, h8, h9, fun z => h10 (hAB _ z)⟩
theorem vx_L.word {C n d : String} {A : Nat → Prop} {s : State} {args : Array Value} (h : vx_L C n d A s s.heap) : (Cond.laysStatic C n d).before args s = true := by
  obtain ⟨c, k, i, f, a, cell, h1, h2, h3, h4, h5, h6, h7, h8, h9, -⟩ := h
  show (Cond.laysStatic C n d).holds args s none s [] = true
  exact Cond.laysStatic_of h1 h2 h3 h4 h5 h6 h7 h8 h9
/-- .. and what it holds: null or some reference -/
def vx_Zq (C n d : String) (A : Nat → Prop) (U : State) (H : Heap) : Prop := va_Zq C n d A U H ∧ vx_L C n d A U H
theorem vx_Zq.moved {C n d : String} {A : Nat → Prop} {u U : State} {H : Heap} (hvm : u.vm.Alike U.vm) (h : vx_Zq C n d A u H) : vx_Zq C n d A U H := ⟨va_Zq.moved hvm h.1, vx_L.moved hvm h.2⟩
theorem vx_Zq.kept {C n d : String} {A : Nat → Prop} {U : State} {H H1 : Heap} (h : vx_Zq C n d A U H) (hq : ∀ a : Nat, a < H.size → ¬ A a → H1[a]? = H[a]?) : vx_Zq C n d A U H1 := ⟨va_Zq.kept h.1 hq, vx_L.kept h.2 hq⟩
theorem vx_Zq.narrow {C n d : String} {A B : Nat → Prop} {U : State} {H : Heap} (h : vx_Zq C n d A U H) (hAB : ∀ q, B q → A q) : vx_Zq C n d B U H := ⟨va_Zq.narrow h.1 hAB, vx_L.narrow h.2 hAB⟩
theorem vx_Zqof {args : Array Value} {s : State} {C n d : String} {A : Nat → Prop} (hl : (Cond.laysStatic C n d).before args s = true) (hini : (Cond.initialized C).before args s = true) (h : (Cond.isRef (.static C n d)).before args s = true) (hA : ∀ a : Nat, a < s.heap.size → ¬ A a) : vx_Zq C n d A s s.heap := by
  refine ⟨va_Zqof hl hini h hA, ?_⟩
  obtain ⟨c, k, i, f, a, cell, h1, h2, h3, h4, h5, h6, h7, h8, h9⟩ := Cond.laysStatic_spec hl
  exact ⟨c, k, i, f, a, cell, h1, h2, h3, h4, h5, h6, h7, h8, h9, hA a (Array.getElem?_eq_some_iff.mp h5).1⟩
theorem vx_isRef {C n d : String} {v : Value} {A : Nat → Prop} {s : State} {args : Array Value} (h : va_Z C n d v A s s.heap) (hv : v.isRef = true) : (Cond.isRef (.static C n d)).before args s = true := by
  obtain ⟨cf, kf, fi, f, a, cell, h1, h2, h3, h4, h5, h6, h7, -⟩ := h
  have he : (Term.static C n d).eval args s none [] s = some v := by
    simp [Term.eval, State.fieldNamed?, h1, h2, h4, h5, h6, h7]
  simp only [Cond.before, Cond.holds, Cond.value, he]
  cases v <;> simp_all [Value.isRef]
theorem vx_isRefq {C n d : String} {A : Nat → Prop} {s : State} {args : Array Value} (h : va_Zq C n d A s s.heap) : (Cond.isRef (.static C n d)).before args s = true := by
  rcases h with h | ⟨t, h⟩
  · exact vx_isRef h rfl
  · exact vx_isRef h rfl
/-- the same frame, seen from here: as if the method were called anew in this heap -/
theorem vx_rebase {T : State} (X : Stand p l e R s m args below meth c T locs cells slots) {R' : Room} (hf : R'.frames ≤ R.frames) (hl : R'.locals ≤ R.locals) (hc : cells + R'.cells ≤ R.cells) (hs : slots + R'.slots ≤ R.slots) :
    Stand p l e R' ((T.setVm s.vm).setFrames (.invoking m args :: below)) m args below meth c T [] 0 0 := by
  have htop : (T.setVm s.vm).topJava?.isSome := X.here.top
  have hF : ((T.setVm s.vm).setFrames (.invoking m args :: below)).frames = .invoking m args :: below := State.frames_setFrames _ (State.cur_lt_of_top htop)
  obtain ⟨g₀, hg0⟩ := Option.isSome_iff_exists.mp htop
  obtain ⟨r, hr⟩ := State.topJava?_eq_some.mp hg0
  have hl9 : e.platform.stackLimits (T.setVm s.vm).me = e.platform.stackLimits s.me := X.limits
  have hb9 : (T.setVm s.vm).me.stackBytes = s.me.stackBytes := X.bytes
  refine ⟨X.admits, X.cas, X.clock, hF, ?_, X.hears, X.method, X.code, X.here, X.tail, X.warmed, ?_, ?_, ?_⟩
  · have h := X.room
    have hU : ((T.setVm s.vm).setFrames (.invoking m args :: below)).localsInUse = s.localsInUse := by
      rw [State.localsInUse_invoking hF (meth := meth) (c := c) X.method X.code, State.localsInUse_invoking X.frames X.method X.code]
    simp only [State.hasRoom, Bool.and_eq_true, decide_eq_true_eq] at h ⊢
    obtain ⟨⟨⟨⟨h1, h2, h3, h4, h5, h6⟩, h7⟩, h8⟩, h9⟩ := h
    rw [X.frames, List.length_cons] at h2 h3
    have q1 := X.heapSize
    have q2 := X.used
    simp only [hF, hU, List.length_cons, State.stackLimits_setFrames, State.stackBytes_setFrames, hl9, hb9]
    refine ⟨⟨⟨⟨by omega, by omega, by omega, by omega, by omega, h6⟩, ?_⟩, ?_⟩, X.book⟩
    · show T.heap.size + R'.cells ≤ e.platform.maxCells
      omega
    · show T.slotsUsed + R'.slots ≤ e.platform.maxSlots
      omega
  · rw [State.stackLimits_setFrames]; rfl
  · rw [State.stackBytes_setFrames]; rfl
  · refine ⟨?_, Nat.le_refl _, Nat.le_refl _, ?_, ?_, fun a c9 h9 => ⟨c9, h9, rfl, rfl, fun _ _ => rfl⟩⟩
    · obtain ⟨t, ht, -⟩ := State.frames_cons hr
      show T.setVm s.vm = { ((T.setVm s.vm).setFrames (.invoking m args :: below)).setFrames (T.setVm s.vm).frames with heap := T.heap, slotsUsed := T.slotsUsed }
      rw [State.setFrames_setFrames, State.setFrames_self ht]
      rfl
    · show T.slotsUsed = T.slotsUsed + ((T.heap.toList.drop T.heap.size).map (·.slots.size)).sum
      rw [List.drop_eq_nil_of_le (Nat.le_of_eq Array.length_toList)]
      rfl
    · show ((T.heap.toList.drop T.heap.size).map (·.slots.size)).sum ≤ 0
      rw [List.drop_eq_nil_of_le (Nat.le_of_eq Array.length_toList)]
      exact Nat.le_refl _
/-- 'throw new E()': new; dup; invokespecial; athrow -/
theorem vx_throw0 {cc : ByteArray} {pc : Nat} (hexec : p.tables.exec = Jvm.exec) (hb : c.code = cc) (hl : l.stackTraces = false) {own cls : String} {names : List String} {ik ic mc ms : Nat} {A : Nat → Prop}
    (hown : s.vm.findClass own = some m.cls) (hcls : Bundle.fit cls = true) (hnames : ∀ n ∈ names, Bundle.fit n = true)
    (hk : (Cond.classLink own ik cls).before args s = true) (hini : (Cond.initialized cls).before args s = true) (hat : ∀ w ∈ vx_at0 own ic cls names, w.before args s = true)
    (hgood : ∀ w ∈ Cond.classLink own ik cls :: Cond.initialized cls :: vx_at0 own ic cls names, vx_ot w = true)
    (hU : vx_Zq Bundle.tN "UNASSIGNED_STACK" Bundle.steD A s s.heap) (hN : vx_Zq Bundle.tN "SUPPRESSED_SENTINEL" Bundle.listD A s s.heap) (hS : va_S A s.heap H locs) (hsize : ls.size = c.maxLocals)
    (d0 : decode cc pc = .ok (.new ik, 3)) (d3 : decode cc (pc + 3) = .ok (.dup, 1)) (d4 : decode cc (pc + 4) = .ok (.invokespecial ic, 3)) (d7 : decode cc (pc + 7) = .ok (.athrow, 1))
    (hout : ∀ x ∈ c.exceptionTable.toList, covers x (pc + 7) = false)
    (hRframes : names.length + 3 < R.frames) (hRlocals : (rest.map fun v => v.category).sum + (13 * (names.length + 1) + 42) ≤ R.locals) (hRcells : cells + 1 ≤ R.cells) (hRslots : slots + 6 ≤ R.slots) (hlocks : meth.locks = false)
    (hx : ∀ t : State, s.vm.Alike t.vm → H.size ≤ t.heap.size → (∀ q : Nat, q < H.size → t.heap[q]? = H[q]?) → XC cls s t)
    (hf : ∀ z ∈ locs, free z.base) (hc : cells + 1 ≤ mc) (hs : slots + 6 ≤ ms) :
    W p l e R s m args below meth c H locs cells slots (vx_MQ below Qc XC args s mc ms free) (F0 m pc ls rest) := by
  intro T hT X
  have htr : e.platform.stackTraces = false := (show e.platform.stackTraces = l.stackTraces by rw [X.admits.platform]).trans hl
  have Y := vx_rebase X (R' := { frames := R.frames, locals := R.locals, cells := 1, slots := 6 }) (Nat.le_refl _) (Nat.le_refl _) hRcells hRslots
  obtain ⟨s', hA⟩ : ∃ z, z = (T.setVm s.vm).setFrames (.invoking m args :: below) := ⟨_, rfl⟩
  rw [← hA] at Y
  have hvm : s'.vm = s.vm := by rw [hA]; rfl
  have hhp : s'.heap = H := by rw [hA]; exact hT
  have hW0 : s.WarmedH s'.vm := by rw [hvm]; exact State.WarmedH.refl s
  have hat' : ∀ w ∈ vx_at0 own ic cls names, w.before args s' = true := fun w hw => vx_ot_at hW0 hvm.symm (hgood w (List.mem_cons_of_mem _ (List.mem_cons_of_mem _ hw))) (hat w hw)
  have hk' : (Cond.classLink own ik cls).before args s' = true := vx_ot_at hW0 hvm.symm (hgood _ List.mem_cons_self) hk
  have hini' : (Cond.initialized cls).before args s' = true := vx_ot_at hW0 hvm.symm (hgood _ (List.mem_cons_of_mem _ List.mem_cons_self)) hini
  have hU' : vx_Zq Bundle.tN "UNASSIGNED_STACK" Bundle.steD A s' s'.heap := by rw [hhp]; exact vx_Zq.moved hW0.alike (hU.kept hS.2.1)
  have hN' : vx_Zq Bundle.tN "SUPPRESSED_SENTINEL" Bundle.listD A s' s'.heap := by rw [hhp]; exact vx_Zq.moved hW0.alike (hN.kept hS.2.1)
  have h : ∀ w ∈ Bundle.ownAtoms0 own ic cls names, w.before args s' = true := vx_own hat' (vx_isRefq hU'.1) (vx_isRefq hN'.1) hU'.2.word hN'.2.word
  have hown' : s'.vm.findClass own = some m.cls := by rw [hvm]; exact hown
  have hins : (Cond.instantiable cls 6).before args s' = true := h _ (by simp [Bundle.ownAtoms0])
  obtain ⟨vm₁, cX, kX, hfX, hkX, -, -, X₁, st1⟩ := Y.newCold hexec (own := own) (C := cls) (index := ik) (n := 6) hown' hk' hins hini'
    (g := F0 m pc ls rest) rfl (by rw [hb]; exact d0) (Nat.le_refl _) (Nat.le_refl _)
  generalize hT1 : (T.setVm vm₁).pushCell { cls := cX, slots := kX.instanceTypes.map defaultValue, vm := .none } = T1 at X₁ st1
  have hcat : (Value.ref T.heap.size).category = 1 := rfl
  have hcellA : T1.heap[T.heap.size]? = some (freshCell cX kX) := by rw [← hT1]; exact State.heap_pushCell_size _ _
  have d3' : decode c.code (pc + 3) = .ok (.dup, 1) := by rw [hb]; exact d3
  obtain ⟨U, hsteps, hrun, hend, hW, hsame, ce, hce, hO⟩ := X₁.ctorThrow0 hexec htr (own := own) (cls := cls) (names := names) (ic := ic) hown' hcls hnames h (fun x hx => nomatch hx) hfX hkX hcellA (by rw [hhp, hT]; exact Nat.le_refl _)
    (g := { method := m, pc := pc + 4, locals := ls, stack := .ref T.heap.size :: .ref T.heap.size :: rest, locked := none }) rfl hsize rfl rfl (rest := rest) rfl
    (by rw [hb]; exact d4) (by rw [hb]; exact d7) hout hRframes (by simp only [List.map_cons, List.sum_cons, hcat]; omega) hlocks
  obtain ⟨f1, f2⟩ := vx_frame hsame
  rw [hhp] at f1 f2
  have hWs : s.WarmedH U.vm := State.WarmedH.trans hW0 hW
  have hcl : s.vm.findClass cls = some ce.cls := by
    have h9 := hO.cls
    rw [hvm] at h9
    exact h9
  have hall : s.sameButNew ({ U with vm := s.vm } : State) locs mc ms := by
    subst hA
    obtain ⟨e1, e2⟩ := hsame
    rw [State.setFrames_setFrames] at e1
    have h2 : (T.setVm s.vm).sameButNew ({ U with vm := s.vm } : State) [] (0 + 1) (0 + 6) := ⟨e1, e2⟩
    have h3 := X.same.trans h2
    rw [List.append_nil] at h3
    exact h3.mono hc hs
  refine ⟨U, ?_, .threw T.heap.size, hrun, hend, Or.inr ⟨T.heap.size, rfl, cls, ce, locs, hx U hWs.alike f1 (fun q hq => f2 q hq (fun z hz => nomatch hz)), hce, hO.vm, hcl, hWs, hall, hf⟩⟩
  refine st1 _ ?_
  show Steps p.tables e below (T1.setTop { method := m, pc := pc + 3, locals := ls, stack := .ref T.heap.size :: rest, locked := none }) _
  jvm_step X₁.here [X₁.here.top, hexec, d3', Value.category]
  exact hsteps
/-- 'throw new E("text")': new; dup; ldc; invokespecial; athrow -/
theorem vx_throwS {cc : ByteArray} {pc : Nat} (hexec : p.tables.exec = Jvm.exec) (hb : c.code = cc) (hl : l.stackTraces = false) {own cls text : String} {names : List String} {ik is ic mc ms sa : Nat} {A : Nat → Prop}
    (hown : s.vm.findClass own = some m.cls) (hcls : Bundle.fit cls = true) (hnames : ∀ n ∈ names, Bundle.fit n = true)
    (hk : (Cond.classLink own ik cls).before args s = true) (hini : (Cond.initialized cls).before args s = true) (hstr : vk_R own is text sa s) (hat : ∀ w ∈ vx_atS own ic cls names, w.before args s = true)
    (hgood : ∀ w ∈ Cond.classLink own ik cls :: Cond.initialized cls :: vx_atS own ic cls names, vx_ot w = true)
    (hU : vx_Zq Bundle.tN "UNASSIGNED_STACK" Bundle.steD A s s.heap) (hN : vx_Zq Bundle.tN "SUPPRESSED_SENTINEL" Bundle.listD A s s.heap) (hS : va_S A s.heap H locs) (hsize : ls.size = c.maxLocals)
    (d0 : decode cc pc = .ok (.new ik, 3)) (d3 : decode cc (pc + 3) = .ok (.dup, 1)) (d4 : decode cc (pc + 4) = .ok (.ldc is, 2)) (d6 : decode cc (pc + 6) = .ok (.invokespecial ic, 3)) (d9 : decode cc (pc + 9) = .ok (.athrow, 1))
    (hout : ∀ x ∈ c.exceptionTable.toList, covers x (pc + 9) = false)
    (hRframes : names.length + 3 < R.frames) (hRlocals : (rest.map fun v => v.category).sum + (13 * (names.length + 1) + 43) ≤ R.locals) (hRcells : cells + 1 ≤ R.cells) (hRslots : slots + 6 ≤ R.slots) (hlocks : meth.locks = false)
    (hx : ∀ t : State, s.vm.Alike t.vm → H.size ≤ t.heap.size → (∀ q : Nat, q < H.size → t.heap[q]? = H[q]?) → XC cls s t)
    (hf : ∀ z ∈ locs, free z.base) (hc : cells + 1 ≤ mc) (hs : slots + 6 ≤ ms) :
    W p l e R s m args below meth c H locs cells slots (vx_MQ below Qc XC args s mc ms free) (F0 m pc ls rest) := by
  intro T hT X
  have htr : e.platform.stackTraces = false := (show e.platform.stackTraces = l.stackTraces by rw [X.admits.platform]).trans hl
  have Y := vx_rebase X (R' := { frames := R.frames, locals := R.locals, cells := 1, slots := 6 }) (Nat.le_refl _) (Nat.le_refl _) hRcells hRslots
  obtain ⟨s', hA⟩ : ∃ z, z = (T.setVm s.vm).setFrames (.invoking m args :: below) := ⟨_, rfl⟩
  rw [← hA] at Y
  have hvm : s'.vm = s.vm := by rw [hA]; rfl
  have hhp : s'.heap = H := by rw [hA]; exact hT
  have hW0 : s.WarmedH s'.vm := by rw [hvm]; exact State.WarmedH.refl s
  have hat' : ∀ w ∈ vx_atS own ic cls names, w.before args s' = true := fun w hw => vx_ot_at hW0 hvm.symm (hgood w (List.mem_cons_of_mem _ (List.mem_cons_of_mem _ hw))) (hat w hw)
  have hk' : (Cond.classLink own ik cls).before args s' = true := vx_ot_at hW0 hvm.symm (hgood _ List.mem_cons_self) hk
  have hini' : (Cond.initialized cls).before args s' = true := vx_ot_at hW0 hvm.symm (hgood _ (List.mem_cons_of_mem _ List.mem_cons_self)) hini
  have hU' : vx_Zq Bundle.tN "UNASSIGNED_STACK" Bundle.steD A s' s'.heap := by rw [hhp]; exact vx_Zq.moved hW0.alike (hU.kept hS.2.1)
  have hN' : vx_Zq Bundle.tN "SUPPRESSED_SENTINEL" Bundle.listD A s' s'.heap := by rw [hhp]; exact vx_Zq.moved hW0.alike (hN.kept hS.2.1)
  have h : ∀ w ∈ Bundle.ownAtoms own ic cls names, w.before args s' = true := vx_own hat' (vx_isRefq hU'.1) (vx_isRefq hN'.1) hU'.2.word hN'.2.word
  have hown' : s'.vm.findClass own = some m.cls := by rw [hvm]; exact hown
  have hins : (Cond.instantiable cls 6).before args s' = true := h _ (by simp [Bundle.ownAtoms])
  obtain ⟨vm₁, cX, kX, hfX, hkX, -, -, X₁, st1⟩ := Y.newCold hexec (own := own) (C := cls) (index := ik) (n := 6) hown' hk' hins hini'
    (g := F0 m pc ls rest) rfl (by rw [hb]; exact d0) (Nat.le_refl _) (Nat.le_refl _)
  generalize hT1 : (T.setVm vm₁).pushCell { cls := cX, slots := kX.instanceTypes.map defaultValue, vm := .none } = T1 at X₁ st1
  have hcat : (Value.ref T.heap.size).category = 1 := rfl
  have hcellA : T1.heap[T.heap.size]? = some (freshCell cX kX) := by rw [← hT1]; exact State.heap_pushCell_size _ _
  have d3' : decode c.code (pc + 3) = .ok (.dup, 1) := by rw [hb]; exact d3
  have d4' : decode c.code (pc + 4) = .ok (.ldc is, 2) := by rw [hb]; exact d4
  have hstr' : vk_R own is text sa s' := vk_R.warm hW0 hstr
  obtain ⟨U, hsteps, hrun, hend, hW, hsame, ce, hce, hO⟩ := X₁.ctorThrowS hexec htr (own := own) (cls := cls) (names := names) (ic := ic) hown' hcls hnames h (fun x hx => nomatch hx) hfX hkX hcellA (by rw [hhp, hT]; exact Nat.le_refl _) (msg := .ref sa) rfl
    (g := { method := m, pc := pc + 6, locals := ls, stack := .ref sa :: .ref T.heap.size :: .ref T.heap.size :: rest, locked := none }) rfl hsize rfl rfl (rest := rest) rfl
    (by rw [hb]; exact d6) (by rw [hb]; exact d9) hout hRframes (by simp only [List.map_cons, List.sum_cons, hcat]; omega) hlocks
  obtain ⟨f1, f2⟩ := vx_frame hsame
  rw [hhp] at f1 f2
  have hWs : s.WarmedH U.vm := State.WarmedH.trans hW0 hW
  have hcl : s.vm.findClass cls = some ce.cls := by
    have h9 := hO.cls
    rw [hvm] at h9
    exact h9
  have hall : s.sameButNew ({ U with vm := s.vm } : State) locs mc ms := by
    subst hA
    obtain ⟨e1, e2⟩ := hsame
    rw [State.setFrames_setFrames] at e1
    have h2 : (T.setVm s.vm).sameButNew ({ U with vm := s.vm } : State) [] (0 + 1) (0 + 6) := ⟨e1, e2⟩
    have h3 := X.same.trans h2
    rw [List.append_nil] at h3
    exact h3.mono hc hs
  refine ⟨U, ?_, .threw T.heap.size, hrun, hend, Or.inr ⟨T.heap.size, rfl, cls, ce, locs, hx U hWs.alike f1 (fun q hq => f2 q hq (fun z hz => nomatch hz)), hce, hO.vm, hcl, hWs, hall, hf⟩⟩
  refine st1 _ ?_
  show Steps p.tables e below (T1.setTop { method := m, pc := pc + 3, locals := ls, stack := .ref T.heap.size :: rest, locked := none }) _
  jvm_step X₁.here [X₁.here.top, hexec, d3', Value.category]
  exact X₁.ldcString hexec (own := own) (text := text) (index := is) (a := sa) hown' hstr'.1 hstr'.2
    (g := { method := m, pc := pc + 4, locals := ls, stack := .ref T.heap.size :: .ref T.heap.size :: rest, locked := none }) rfl d4' _ hsteps
/-- 'throw new E("text")', the text by a wide index -/
theorem vx_throwSW {cc : ByteArray} {pc : Nat} (hexec : p.tables.exec = Jvm.exec) (hb : c.code = cc) (hl : l.stackTraces = false) {own cls text : String} {names : List String} {ik is ic mc ms sa : Nat} {A : Nat → Prop}
    (hown : s.vm.findClass own = some m.cls) (hcls : Bundle.fit cls = true) (hnames : ∀ n ∈ names, Bundle.fit n = true)
    (hk : (Cond.classLink own ik cls).before args s = true) (hini : (Cond.initialized cls).before args s = true) (hstr : vk_R own is text sa s) (hat : ∀ w ∈ vx_atS own ic cls names, w.before args s = true)
    (hgood : ∀ w ∈ Cond.classLink own ik cls :: Cond.initialized cls :: vx_atS own ic cls names, vx_ot w = true)
    (hU : vx_Zq Bundle.tN "UNASSIGNED_STACK" Bundle.steD A s s.heap) (hN : vx_Zq Bundle.tN "SUPPRESSED_SENTINEL" Bundle.listD A s s.heap) (hS : va_S A s.heap H locs) (hsize : ls.size = c.maxLocals)
    (d0 : decode cc pc = .ok (.new ik, 3)) (d3 : decode cc (pc + 3) = .ok (.dup, 1)) (d4 : decode cc (pc + 4) = .ok (.ldc_w is, 3)) (d7 : decode cc (pc + 7) = .ok (.invokespecial ic, 3)) (d10 : decode cc (pc + 10) = .ok (.athrow, 1))
    (hout : ∀ x ∈ c.exceptionTable.toList, covers x (pc + 10) = false)
    (hRframes : names.length + 3 < R.frames) (hRlocals : (rest.map fun v => v.category).sum + (13 * (names.length + 1) + 43) ≤ R.locals) (hRcells : cells + 1 ≤ R.cells) (hRslots : slots + 6 ≤ R.slots) (hlocks : meth.locks = false)
    (hx : ∀ t : State, s.vm.Alike t.vm → H.size ≤ t.heap.size → (∀ q : Nat, q < H.size → t.heap[q]? = H[q]?) → XC cls s t)
    (hf : ∀ z ∈ locs, free z.base) (hc : cells + 1 ≤ mc) (hs : slots + 6 ≤ ms) :
    W p l e R s m args below meth c H locs cells slots (vx_MQ below Qc XC args s mc ms free) (F0 m pc ls rest) := by
  intro T hT X
  have htr : e.platform.stackTraces = false := (show e.platform.stackTraces = l.stackTraces by rw [X.admits.platform]).trans hl
  have Y := vx_rebase X (R' := { frames := R.frames, locals := R.locals, cells := 1, slots := 6 }) (Nat.le_refl _) (Nat.le_refl _) hRcells hRslots
  obtain ⟨s', hA⟩ : ∃ z, z = (T.setVm s.vm).setFrames (.invoking m args :: below) := ⟨_, rfl⟩
  rw [← hA] at Y
  have hvm : s'.vm = s.vm := by rw [hA]; rfl
  have hhp : s'.heap = H := by rw [hA]; exact hT
  have hW0 : s.WarmedH s'.vm := by rw [hvm]; exact State.WarmedH.refl s
  have hat' : ∀ w ∈ vx_atS own ic cls names, w.before args s' = true := fun w hw => vx_ot_at hW0 hvm.symm (hgood w (List.mem_cons_of_mem _ (List.mem_cons_of_mem _ hw))) (hat w hw)
  have hk' : (Cond.classLink own ik cls).before args s' = true := vx_ot_at hW0 hvm.symm (hgood _ List.mem_cons_self) hk
  have hini' : (Cond.initialized cls).before args s' = true := vx_ot_at hW0 hvm.symm (hgood _ (List.mem_cons_of_mem _ List.mem_cons_self)) hini
  have hU' : vx_Zq Bundle.tN "UNASSIGNED_STACK" Bundle.steD A s' s'.heap := by rw [hhp]; exact vx_Zq.moved hW0.alike (hU.kept hS.2.1)
  have hN' : vx_Zq Bundle.tN "SUPPRESSED_SENTINEL" Bundle.listD A s' s'.heap := by rw [hhp]; exact vx_Zq.moved hW0.alike (hN.kept hS.2.1)
  have h : ∀ w ∈ Bundle.ownAtoms own ic cls names, w.before args s' = true := vx_own hat' (vx_isRefq hU'.1) (vx_isRefq hN'.1) hU'.2.word hN'.2.word
  have hown' : s'.vm.findClass own = some m.cls := by rw [hvm]; exact hown
  have hins : (Cond.instantiable cls 6).before args s' = true := h _ (by simp [Bundle.ownAtoms])
  obtain ⟨vm₁, cX, kX, hfX, hkX, -, -, X₁, st1⟩ := Y.newCold hexec (own := own) (C := cls) (index := ik) (n := 6) hown' hk' hins hini'
    (g := F0 m pc ls rest) rfl (by rw [hb]; exact d0) (Nat.le_refl _) (Nat.le_refl _)
  generalize hT1 : (T.setVm vm₁).pushCell { cls := cX, slots := kX.instanceTypes.map defaultValue, vm := .none } = T1 at X₁ st1
  have hcat : (Value.ref T.heap.size).category = 1 := rfl
  have hcellA : T1.heap[T.heap.size]? = some (freshCell cX kX) := by rw [← hT1]; exact State.heap_pushCell_size _ _
  have d3' : decode c.code (pc + 3) = .ok (.dup, 1) := by rw [hb]; exact d3
  have d4' : decode c.code (pc + 4) = .ok (.ldc_w is, 3) := by rw [hb]; exact d4
  have hstr' : vk_R own is text sa s' := vk_R.warm hW0 hstr
  obtain ⟨U, hsteps, hrun, hend, hW, hsame, ce, hce, hO⟩ := X₁.ctorThrowS hexec htr (own := own) (cls := cls) (names := names) (ic := ic) hown' hcls hnames h (fun x hx => nomatch hx) hfX hkX hcellA (by rw [hhp, hT]; exact Nat.le_refl _) (msg := .ref sa) rfl
    (g := { method := m, pc := pc + 7, locals := ls, stack := .ref sa :: .ref T.heap.size :: .ref T.heap.size :: rest, locked := none }) rfl hsize rfl rfl (rest := rest) rfl
    (by rw [hb]; exact d7) (by rw [hb]; exact d10) hout hRframes (by simp only [List.map_cons, List.sum_cons, hcat]; omega) hlocks
  obtain ⟨f1, f2⟩ := vx_frame hsame
  rw [hhp] at f1 f2
  have hWs : s.WarmedH U.vm := State.WarmedH.trans hW0 hW
  have hcl : s.vm.findClass cls = some ce.cls := by
    have h9 := hO.cls
    rw [hvm] at h9
    exact h9
  have hall : s.sameButNew ({ U with vm := s.vm } : State) locs mc ms := by
    subst hA
    obtain ⟨e1, e2⟩ := hsame
    rw [State.setFrames_setFrames] at e1
    have h2 : (T.setVm s.vm).sameButNew ({ U with vm := s.vm } : State) [] (0 + 1) (0 + 6) := ⟨e1, e2⟩
    have h3 := X.same.trans h2
    rw [List.append_nil] at h3
    exact h3.mono hc hs
  refine ⟨U, ?_, .threw T.heap.size, hrun, hend, Or.inr ⟨T.heap.size, rfl, cls, ce, locs, hx U hWs.alike f1 (fun q hq => f2 q hq (fun z hz => nomatch hz)), hce, hO.vm, hcl, hWs, hall, hf⟩⟩
  refine st1 _ ?_
  show Steps p.tables e below (T1.setTop { method := m, pc := pc + 3, locals := ls, stack := .ref T.heap.size :: rest, locked := none }) _
  jvm_step X₁.here [X₁.here.top, hexec, d3', Value.category]
  exact X₁.ldcStringW hexec (own := own) (text := text) (index := is) (a := sa) hown' hstr'.1 hstr'.2
    (g := { method := m, pc := pc + 4, locals := ls, stack := .ref T.heap.size :: .ref T.heap.size :: rest, locked := none }) rfl d4' _ hsteps
end Ends
section Bodies
variable {l : Launch}
theorem vx_ofW {y : MethodName} {ws ws' : List Cond} {rm : Room} {Pc : Array Value → State → Prop} {Qc : Array Value → State → Outcome → State → Prop} {XC : String → State → State → Prop} {mc ms : Nat} {free : Addr → Prop} {cc : ByteArray} {maxL : Nat} {ret : Option FieldType}
    (hy : plainName y.cls = true) (hw : ws = Cond.code y cc maxL ret :: ws')
    (body : ∀ p e s m args below meth c s₁, BodyLoose p l y (headSpec ws rm) cc maxL ret e s m args below meth c s₁ → c.maxLocals = maxL → (∀ x ∈ c.exceptionTable.toList, False) → Pc args s →
      W p l e (headSpec ws rm).room s m args below meth c s.heap [] 0 0 (vx_MQ below Qc XC args s mc ms free) (entryFrame m args maxL)) : vx_Met l y ws rm Pc Qc XC mc ms free := by
  refine MetFree.of_bodyS (code := cc) (maxLocals := maxL) (ret := ret) hy ?_ ?_
  · intro args s m h hn
    obtain ⟨meth, c, h1, h2, h3, h4, h5, h6, -, -⟩ := Cond.code_spec hn (atoms_spec (ws := ws) h _ (by rw [hw]; exact List.mem_cons_self))
    exact ⟨meth, c, h1, h2, h3, h4, h5, h6⟩
  · intro p e s m args below meth c s₁ B hml hP _
    have hh0 : s₁.heap = s.heap := by rw [B.state]; rfl
    have ht : ∀ x ∈ c.exceptionTable.toList, False := by
      obtain ⟨meth9, c9, h1, h2, -, -, -, -, h7, -⟩ := Cond.code_spec B.named (atoms_spec (ws := ws) B.pre _ (by rw [hw]; exact List.mem_cons_self))
      cases Option.some.inj (h1.symm.trans B.method)
      cases Option.some.inj (h2.symm.trans (Stand.of_body B).code)
      intro x hx
      rw [Array.isEmpty_iff.mp h7] at hx
      cases hx
    obtain ⟨t, a1, o, b1, b2, b3⟩ := body p e s m args below meth c s₁ B hml ht hP s₁ hh0 (Stand.of_body B)
    exact ⟨t, o, a1, b1, b2, b3⟩
/-- the table of a body with handlers -/
theorem vx_table {p : Program} {x y : MethodName} {S : Spec} {cc bytes : ByteArray} {maxL maxL' : Nat} {ret ret' : Option FieldType} {e : Env} {s s₁ : State} {m : MethodId} {args : Array Value} {below : List Frame} {meth : Method} {c : Code} {hh : List (Nat × Nat × Nat × Nat)}
    (B : BodyLoose p l y S cc maxL ret e s m args below meth c s₁) (h : (Cond.codeWith y bytes maxL' ret' hh).before args s = true) : c.exceptionTable.toList = tableOf hh := by
  obtain ⟨m9, meth9, c9, hn9, h1, h2, -, -, h6, -⟩ := Cond.codeWith_spec h
  cases Option.some.inj (hn9.symm.trans B.named)
  cases Option.some.inj (h1.symm.trans B.method)
  cases Option.some.inj (h2.symm.trans (Stand.of_body B).code)
  rw [← h6, table_eq]
end Bodies
end VXA
/-! ===== END ===== -/
/-! ===== BEGIN a static call of a method with an exception table ===== -/
section VXS
variable {p : Program} {l : Launch} {e : Env} {R : Room} {s : State} {m : MethodId} {args : Array Value} {below : List Frame} {meth : Method} {c : Code} {T : State} {H : Heap} {locs : List Loc} {cells slots : Nat}
abbrev vx_CSW (R : Room) (s : State) (args : Array Value) (own : String) (index : Nat) (y : MethodName) (bytes : ByteArray) (maxL : Nat) (ret : Option FieldType) (hh : List (Nat × Nat × Nat × Nat)) (ws : List Cond) (rm : Room) (mc ms n : Nat) : Prop :=
  (rm.cells = mc ∧ rm.slots = ms ∧ rm.frames + 1 ≤ R.frames ∧ 8 + (maxL + 11) + rm.locals ≤ R.locals ∧ (∀ w ∈ ws, ∀ (a' : Array Value) (U : State), s.WarmedH U.vm → w.before a' U = true) ∧ Cond.codeWith y bytes maxL ret hh ∈ ws) ∧
  (Cond.codeWith y bytes maxL ret hh).before args s = true ∧ (Cond.initialized y.cls).before args s = true ∧ (y.cls ≠ "java/lang/invoke/MethodHandle" ∧ y.cls ≠ "java/lang/invoke/VarHandle") ∧
  (∀ sig, parseMethodDescriptor y.desc = some sig → n = sig.parameters.length) ∧ (Cond.methodLink own index y).before args s = true ∧ (Cond.static y).before args s = true
theorem vx_cwSW {own : String} {index maxL mc ms : Nat} {y : MethodName} {bytes : ByteArray} {ret : Option FieldType} {hh : List (Nat × Nat × Nat × Nat)} {Ts ws ws' : List Cond} {rm : Room} (n : Nat) (ht : ∀ w ∈ Ts, w.before args s = true) (hT : GoodIn Ts (va_wsS own index y ws)) (hw : ws = Cond.codeWith y bytes maxL ret hh :: ws') (hrc : rm.cells = mc) (hrs : rm.slots = ms)
    (hd : y.cls ≠ "java/lang/invoke/MethodHandle" ∧ y.cls ≠ "java/lang/invoke/VarHandle" ∧ (parseMethodDescriptor y.desc).map (fun d => d.parameters.length) = some n) (hR : rm.frames + 1 ≤ R.frames ∧ 8 + (maxL + 11) + rm.locals ≤ R.locals) :
    vx_CSW R s args own index y bytes maxL ret hh ws rm mc ms n := by
  have ok : ∀ w ∈ va_wsS own index y ws, w.before args s = true := fun w h => ht w (hT w h).1
  have hG : GoodIn Ts ws := fun w h => hT w (by unfold va_wsS; exact List.mem_append_right _ h)
  have hc : Cond.codeWith y bytes maxL ret hh ∈ ws := by rw [hw]; exact List.mem_cons_self
  refine ⟨⟨hrc, hrs, hR.1, hR.2, pay_in ht hG, hc⟩, ht _ (hG _ hc).1, ok _ (by simp [va_wsS]), ⟨hd.1, hd.2.1⟩, fun sig h => ?_, ok _ (by simp [va_wsS]), ok _ (by simp [va_wsS])⟩
  have h2 := hd.2.2
  rw [h] at h2
  exact (Option.some.inj h2).symm
theorem vx_callSW (X : Stand p l e R s m args below meth c T locs cells slots) (hexec : p.tables.exec = Jvm.exec) {own : String} {index : Nat} {y : MethodName} {bytes : ByteArray} {maxL : Nat} {ret : Option FieldType} {hh : List (Nat × Nat × Nat × Nat)}
    (hown : s.vm.findClass own = some m.cls) (hlink : (Cond.methodLink own index y).before args s = true) (hstat : (Cond.static y).before args s = true) (hinit : (Cond.initialized y.cls).before args s = true)
    (hcode : (Cond.codeWith y bytes maxL ret hh).before args s = true) (hy : y.cls ≠ "java/lang/invoke/MethodHandle" ∧ y.cls ≠ "java/lang/invoke/VarHandle")
    {W9 : Nat} {Pre : Pt → Array Value → Prop} {Post : Pt → Array Value → Option Value → Pt → Prop} (hK : Back l R p e below s args y 3 W9 Pre Post)
    {g : JFrame} (hg : g.method = m) (hsize : g.locals.size = c.maxLocals) {argsL rest : List Value} (hlen : ∀ sig, parseMethodDescriptor y.desc = some sig → argsL.length = sig.parameters.length)
    (hstack : g.stack = argsL.reverse ++ rest) (hW : 2 * g.monitorRoom + (rest.map fun v => v.category).sum ≤ W9) (hdg : decode c.code g.pc = .ok (.invokestatic index, 3))
    (hpre : ∀ vm₁, s.WarmedH vm₁ → Pre ⟨T.setVm vm₁, locs, cells, slots⟩ argsL.toArray) :
    ∃ (v : Option Value) (vm₁ : Vm) (B : Pt), s.WarmedH vm₁ ∧ Stand p l e R s m args below meth c B.U B.locs B.cells B.slots ∧ Post ⟨T.setVm vm₁, locs, cells, slots⟩ argsL.toArray v B ∧
      ∀ target, Steps p.tables e below (B.U.setTop { g with pc := g.pc + 3, stack := v.toList ++ rest }) target → Steps p.tables e below (T.setTop g) target := by
  obtain ⟨mk, methM, cM, hnamed, hmethM, -, -, -, -, -, -, hsigM⟩ := Cond.codeWith_spec hcode
  have hstatic : methM.isStatic = true := Cond.static_spec hnamed hmethM hstat
  obtain ⟨kP, hkP, -⟩ := className_of_methodNamed hnamed
  have hinitP : kP.init = .initialized := Cond.initialized_spec (findClass_of_methodNamed hnamed) hkP hinit
  obtain ⟨vm₁, X₁, hstep₁⟩ := X.invokestatic hexec hown hlink hnamed hmethM hstatic hkP hinitP hy (g := g) hg (argsL := argsL) (rest := rest) (hlen _ hsigM) hstack hdg
  obtain ⟨v, B, X', hpost, hsteps⟩ := hK m meth c ⟨T.setVm vm₁, locs, cells, slots⟩ { g with stack := rest } (.invokestatic index) mk argsL.toArray X₁ hg hsize hdg hW (X₁.named hnamed) (hpre vm₁ X₁.warmed)
  exact ⟨v, vm₁, B, X₁.warmed, X', hpost, fun target h => hstep₁ _ fun acts => by rw [doInvoke_state]; exact hsteps.trans h⟩
theorem vx_runSW {y : MethodName} {bytes cc : ByteArray} {maxL nL mc ms n index : Nat} {ret : Option FieldType} {hh : List (Nat × Nat × Nat × Nat)} {ws : List Cond} {rm : Room} {Pc : Array Value → State → Prop} {Qc : Array Value → State → Outcome → State → Prop} {free : Addr → Prop} {Ts : List Cond} {own : String} {As rest : List Value} {g : JFrame}
    (S : CallFix p m c cc nL s args Ts own) (hM : Met l y ws rm Pc Qc mc ms free) (cw : vx_CSW R s args own index y bytes maxL ret hh ws rm mc ms n) (hp : PreS s H Pc As)
    (hg : g.method = m) (hn : As.length = n) (hsize : g.locals.size = nL) (hstack : g.stack = As.reverse ++ rest) (hW : 2 * g.monitorRoom + (rest.map fun v => v.category).sum ≤ 8) (hdg : decode cc g.pc = .ok (.invokestatic index, 3)) (hf : cells + mc ≤ R.cells ∧ slots + ms ≤ R.slots) :
    va_Run p l e R s m args below meth c H locs cells slots mc ms g rest (Qc As.toArray) (free) := by
  obtain ⟨⟨hrc, hrs, hfr, hlo, hws, hcw⟩, hcode, hini, hy, hlen, hl, hstt⟩ := cw
  have hK : Back l R p e below s args y 3 8 (PreOf R mc ms Pc) (PostOf Qc mc ms free) := va_backW (hh := hh) (bytes := bytes) (maxL := maxL) (ret := ret) hM hp.1 hrc hrs hfr hlo hws hcw (fun a' U hW => word_at hW (Or.inl (by first | rfl | simp [Cond.onTables, Cond.keeps, Cond.steady])) hini)
  obtain ⟨hx, hb, hml, ho, -⟩ := S
  intro T hT X
  obtain ⟨v, vm₁, ⟨U', l2, c2, s2⟩, hW₁, X', ⟨g', mk, t, L, e1, e2, hq, h1, hL, h2, h3⟩, st⟩ := vx_callSW X hx (hh := hh) (bytes := bytes) (maxL := maxL) (ret := ret) ho hl hstt hini hcode hy hK hg (hsize.trans hml.symm) (argsL := As) (rest := rest) (fun sig h => hn.trans (hlen sig h)) hstack hW (by rw [hb]; exact hdg)
    (fun vm₁ hW₁ => ⟨hf.1, hf.2, hp.2 (T.setVm vm₁) hT hW₁⟩)
  dsimp only [Pt.U, Pt.locs, Pt.cells, Pt.slots] at X' e1 e2 h1 h2 h3 st
  subst h1; subst h2; subst h3
  exact ⟨v, (T.setVm vm₁).calling g' mk As.toArray, t, U', L, hT, X', hL, e1, e2, hq, st⟩
/-- not caught here, past rows that name other classes: it goes on to the caller -/
theorem vx_outP {p : Program} {l : Launch} {e : Env} {R : Room} {s : State} {m : MethodId} {args : Array Value} {below : List Frame} {meth : Method} {c : Code} {H : Heap} {locs : List Loc} {cells slots : Nat} {free : Addr → Prop} {ls : Array Slot} {rest : List Value} {Qc : Array Value → State → Outcome → State → Prop} {XC : String → State → State → Prop}
    {pc : Nat} {own E : String} {ce : Cell} {q : Addr} {mc ms : Nat} (hown : s.vm.findClass own = some m.cls) (hlocks : meth.locks = false)
    (hpass : ∀ z ∈ c.exceptionTable.toList, covers z pc = false ∨ (z.catchType ≠ 0 ∧ ∃ nm : String, (Cond.classLink own z.catchType nm).before args s = true ∧ va_Nc E nm s)) (hcell : H[q]? = some ce) (hv : ce.vm = .none) (hcl : s.vm.findClass E = some ce.cls)
    (hx : ∀ t : State, t.heap = H → s.vm.Alike t.vm → XC E s t) (hf : ∀ z ∈ locs, free z.base) (hc : cells ≤ mc) (hs : slots ≤ ms) :
    vx_W p l e R s m args below meth c H locs cells slots (vx_MQ below Qc XC args s mc ms free) (F0 m pc ls rest) q := by
  intro T hT X
  have hpl : e.platform.magicAccessors = ({} : Platform).magicAccessors := by rw [X.admits.platform]
  obtain ⟨vm', hW', X', st⟩ := X.outThrough hlocks q (g := F0 m pc ls rest) rfl rfl rfl (cell := ce) (by rw [hT]; exact hcell) (by rw [hv]; rfl)
    (by obtain ⟨k9, h9, -⟩ := Vm.findClass_spec hcl; exact ⟨k9, h9⟩) (fun z hz => by
      rcases hpass z hz with h | ⟨hz0, nm, hl1, hn1⟩
      · exact Or.inl h
      · obtain ⟨c6, hc6, hcl6⟩ := Cond.classLink_spec hown hl1 e.platform hpl
        obtain ⟨a8, b8, h1, h2, h3⟩ := hn1
        cases Option.some.inj (h1.symm.trans hcl)
        cases Option.some.inj (h2.symm.trans hc6)
        exact Or.inr ⟨hz0, _, hcl6, h3⟩)
  obtain ⟨g₀, hfr⟩ := X'.frames_eq
  have hcell9 : ((T.setVm vm').setFrames (.throwing q :: below)).heap[q]? = some ce := by
    show T.heap[q]? = some ce
    rw [hT]; exact hcell
  have hend : Ended ((T.setVm vm').setFrames (.throwing q :: below)) below (.threw q) := State.frames_setFrames _ (State.cur_lt_of_frames hfr)
  refine ⟨(T.setVm vm').setFrames (.throwing q :: below), ?_, .threw q, X'.here.running, hend, Or.inr ⟨q, rfl, E, ce, locs, hx _ hT (X'.ends _).1.alike, hcell9, hv, hcl, (X'.ends _).1, (X'.ends _).2.mono hc hs, hf⟩⟩
  rw [X.pushThrowing_eq]
  exact st
/-- a thing of a world lies in the heap -/
theorem vx_lt {D : va_G} {cl : List vw_C} {ws : va_W} {H1 : Heap} (h : va_P D cl ws H1) {k : Nat} {q : Nat × va_E} (hk : ws[k]? = some q) : q.1 < H1.size := (h k q hk).lt
end VXS
/-! ===== END ===== -/
/-! ===== BEGIN methods with a table of their own: called by a name, returning or throwing ===== -/
section VXH
/-! vx_backW, vx_callVX, vx_callSX, vx_callVW, vx_runVW, vx_runVX, vx_runSX, vx_ofWH follow the same proofs as their sisters above (Free/Laws.lean, Shelf42/LK1.lean); vx_outP calls Shelf42/NT130.lean (outThrough). -/
section
variable {l : Launch} {R : Room} {p : Program} {e : Env} {below : List Frame} {s : State} {sargs : Array Value} {y : MethodName} {len W9 : Nat}
theorem vx_backW {ws : List Cond} {rm : Room} {Pc : Array Value → State → Prop} {Qc : Array Value → State → Outcome → State → Prop} {XC : String → State → State → Prop} {mc ms : Nat} {free : Addr → Prop} {bytes : ByteArray} {maxL : Nat} {ret : Option FieldType} {hh : List (Nat × Nat × Nat × Nat)}
    (hM : vx_Met l y ws rm Pc Qc XC mc ms free) (hblind : FrameBlind Pc) (hrc : rm.cells = mc) (hrs : rm.slots = ms)
    (hframes : rm.frames + 1 ≤ R.frames) (hlocals : W9 + (maxL + 11) + rm.locals ≤ R.locals)
    (hws : ∀ w ∈ ws, ∀ a' U, s.WarmedH U.vm → w.before a' U = true) (hcode : Cond.codeWith y bytes maxL ret hh ∈ ws) (hinit : ∀ a' U, s.WarmedH U.vm → (Cond.initialized y.cls).before a' U = true) :
    vx_Back l R p e below s sargs y len W9 (PreOf R mc ms Pc) (PostOf Qc mc ms free) (vx_Post XC mc ms free) := by
  intro m meth c A g ig mk a X hg hsize hdg hW hn hp
  have h1 : (headSpec ws rm).pre.before a A.U = true := atoms_intro fun w hw => hws w hw _ _ X.warmed
  have h2 : (Cond.codeWith y bytes maxL ret hh).before a A.U = true := hws _ hcode _ _ X.warmed
  have h3 : (Cond.initialized y.cls).before a A.U = true := hinit _ _ X.warmed
  have h4 : A.cells + (headSpec ws rm).room.cells ≤ R.cells := by rw [show (headSpec ws rm).room.cells = mc from hrc]; exact hp.1
  have h5 : A.slots + (headSpec ws rm).room.slots ≤ R.slots := by rw [show (headSpec ws rm).room.slots = ms from hrs]; exact hp.2.1
  have hPc : Pc a (A.U.calling g mk a) := hblind _ _ _ _ hp.2.2
  obtain ⟨U, Ls, c0, s0⟩ := A
  dsimp only [Pt.U, Pt.locs, Pt.cells, Pt.slots] at h1 h2 h3 h4 h5 X hn hPc ⊢
  obtain ⟨m9, methY, cY, hn9, hmY, hcY, -, hlY, -⟩ := Cond.codeWith_spec h2
  cases Option.some.inj (hn9.symm.trans hn)
  obtain ⟨kY, hkY, -⟩ := className_of_methodNamed hn
  have hinitY : kY.init = .initialized := Cond.initialized_spec (findClass_of_methodNamed hn) hkY h3
  have h : At U g.method c below := by rw [hg]; exact X.here
  have hlocals9 : W9 + (maxL + 11) + (headSpec ws rm).room.locals ≤ R.locals := hlocals
  have happ : (headSpec ws rm).appliesLoose y e.platform (U.calling g mk a) = true :=
    Spec.appliesLoose_calling (g := g) h hdg hn hkY hinitY
      (X.room_calling (g := g) (R' := (headSpec ws rm).room) hsize hmY hcY hframes (by rw [hlY]; omega) h4 h5) h1
  obtain ⟨mid, hmid⟩ := h.above
  have hfr : (U.setTop g).frames = (.java g :: mid) ++ below := by rw [State.frames_setTop' g h.top, hmid]; rfl
  obtain ⟨o, s₂, hsteps, -, hend, hq⟩ := Steps.callFree hM p X.admits X.cas X.clock (acts := []) hfr happ hPc trivial
  have hq' : vx_Q Qc XC mc ms free a (U.calling g mk a) o s₂ := hq
  rw [State.frames_setTop' g h.top] at hend
  obtain ⟨g₀, hg0⟩ := Option.isSome_iff_exists.mp h.top
  obtain ⟨r, hr⟩ := State.topJava?_eq_some.mp hg0
  have hr' : (({ U with heap := s₂.heap, slotsUsed := s₂.slotsUsed } : State).setVm s₂.vm).frames = .java g₀ :: r := hr
  rcases hq' with ⟨hqc, L, hfe, hL⟩ | ⟨q, rfl, E, ce, L, hx, hce, hcv, hcl, hW₂, hsm, hL⟩
  · obtain ⟨⟨v, rfl⟩, hW₂, e2, q2, q3, q4, q5, q6⟩ := id hfe
    have e3 : s₂ = ({ (U.calling g mk a).setFrames s₂.frames with heap := s₂.heap, slotsUsed := s₂.slotsUsed } : State).setVm s₂.vm := by
      have : s₂ = ({ s₂ with vm := (U.calling g mk a).vm } : State).setVm s₂.vm := rfl
      rw [e2] at this
      exact this
    obtain ⟨c₂, i₂, len₂, hc₂, hd₂, hf₂⟩ := hend
    have hW' : U.WarmedH s₂.vm := hW₂
    have hcc : c₂ = c := by
      have h1 : s₂.code? g.method = U.code? g.method := by
        rw [State.code?_eq, State.code?_eq, hW'.alike.method?]
      exact Option.some.inj (hc₂.symm.trans (h1.trans h.code))
    subst hcc
    have hlen : len₂ = len := by rw [hdg] at hd₂; cases hd₂; rfl
    subst hlen
    have hs₂ : s₂ = (({ U with heap := s₂.heap, slotsUsed := s₂.slotsUsed } : State).setVm s₂.vm).setTop { g with pc := g.pc + len₂, stack := v.toList ++ g.stack } := by
      refine e3.trans ?_
      rw [hf₂, State.calling_eq h.top, State.setFrames_setFrames, State.setTop_of_frames _ hr', hr]
      rfl
    have hsame : U.sameButNew ({ U with heap := s₂.heap, slotsUsed := s₂.slotsUsed } : State) L mc ms := by
      refine ⟨?_, q2, q3, q4, q5, q6⟩
      obtain ⟨t, ht, -⟩ := State.frames_cons hr
      show ({ U with heap := s₂.heap, slotsUsed := s₂.slotsUsed } : State) = { U.setFrames U.frames with heap := s₂.heap, slotsUsed := s₂.slotsUsed }
      rw [State.setFrames_self ht]
    subst hg
    refine Or.inl ⟨v, ⟨(({ U with heap := s₂.heap, slotsUsed := s₂.slotsUsed } : State).setVm s₂.vm), Ls ++ L, c0 + mc, s0 + ms⟩,
      ⟨X.admits, X.cas, X.clock, X.frames, X.room, X.hears, X.method, X.code, (X.here.setHeapUsed s₂.heap s₂.slotsUsed).setVm hW'.alike, X.tail, State.WarmedH.trans X.warmed hW', X.limits, X.bytes, X.same.trans (hsame.setVm s.vm)⟩,
      ⟨g, mk, s₂, L, rfl, rfl, hqc, rfl, hL, rfl, rfl⟩, ?_⟩
    show Steps p.tables e below _ ((({ U with heap := s₂.heap, slotsUsed := s₂.slotsUsed } : State).setVm s₂.vm).setTop { g with pc := g.pc + len₂, stack := v.toList ++ g.stack })
    rw [← hs₂]
    exact hsteps
  · obtain ⟨e2, q2, q3, q4, q5, q6⟩ := id hsm
    have e3 : s₂ = ({ (U.calling g mk a).setFrames s₂.frames with heap := s₂.heap, slotsUsed := s₂.slotsUsed } : State).setVm s₂.vm := by
      have : s₂ = ({ s₂ with vm := (U.calling g mk a).vm } : State).setVm s₂.vm := rfl
      rw [e2] at this
      exact this
    have hf₂ : s₂.frames = .throwing q :: .java g :: U.frames.tail := hend
    have hW' : U.WarmedH s₂.vm := hW₂
    have hs₂ : s₂ = ((({ U with heap := s₂.heap, slotsUsed := s₂.slotsUsed } : State).setVm s₂.vm).setTop g).pushFrame (.throwing q) := by
      refine e3.trans ?_
      rw [hf₂, State.calling_eq h.top, State.setFrames_setFrames, State.pushFrame, State.frames_setTop _ hr', State.setTop_of_frames _ hr', State.setFrames_setFrames, hr]
      rfl
    have hsame : U.sameButNew ({ U with heap := s₂.heap, slotsUsed := s₂.slotsUsed } : State) L mc ms := by
      refine ⟨?_, q2, q3, q4, q5, q6⟩
      obtain ⟨t, ht, -⟩ := State.frames_cons hr
      show ({ U with heap := s₂.heap, slotsUsed := s₂.slotsUsed } : State) = { U.setFrames U.frames with heap := s₂.heap, slotsUsed := s₂.slotsUsed }
      rw [State.setFrames_self ht]
    subst hg
    refine Or.inr ⟨q, ⟨(({ U with heap := s₂.heap, slotsUsed := s₂.slotsUsed } : State).setVm s₂.vm), Ls ++ L, c0 + mc, s0 + ms⟩,
      ⟨X.admits, X.cas, X.clock, X.frames, X.room, X.hears, X.method, X.code, (X.here.setHeapUsed s₂.heap s₂.slotsUsed).setVm hW'.alike, X.tail, State.WarmedH.trans X.warmed hW', X.limits, X.bytes, X.same.trans (hsame.setVm s.vm)⟩,
      ⟨g, mk, s₂, L, E, ce, rfl, rfl, hx, hce, hcv, hcl, rfl, hL, rfl, rfl⟩, ?_⟩
    show Steps p.tables e below _ (((({ U with heap := s₂.heap, slotsUsed := s₂.slotsUsed } : State).setVm s₂.vm).setTop g).pushFrame (.throwing q))
    rw [← hs₂]
    exact hsteps
end
variable {p : Program} {l : Launch} {e : Env} {R : Room} {s : State} {m : MethodId} {args : Array Value} {below : List Frame} {meth : Method} {c : Code} {T : State} {H : Heap} {locs : List Loc} {cells slots : Nat}
theorem vx_callVX (X : Stand p l e R s m args below meth c T locs cells slots) (hexec : p.tables.exec = Jvm.exec) {own C : String} {index : Nat} {y : MethodName} {bytes : ByteArray} {maxL : Nat} {ret : Option FieldType} {hh : List (Nat × Nat × Nat × Nat)}
    (hown : s.vm.findClass own = some m.cls) (hlink : (Cond.methodLink own index y).before args s = true) (hinst : (Cond.instanceMethod y).before args s = true) (hsel : (Cond.selects C y y).before args s = true)
    (hcode : (Cond.codeWith y bytes maxL ret hh).before args s = true) (hy : y.cls ≠ "java/lang/invoke/MethodHandle" ∧ y.cls ≠ "java/lang/invoke/VarHandle")
    {W9 : Nat} {Pre : Pt → Array Value → Prop} {Post : Pt → Array Value → Option Value → Pt → Prop} {PostX : Pt → Array Value → Addr → Pt → Prop} (hK : vx_Back l R p e below s args y 3 W9 Pre Post PostX)
    {b : Addr} {cellB : Cell} (hcell : T.heap[b]? = some cellB) (hobj : cellB.vm.isStatics = false) (hcls : s.vm.findClass C = some cellB.cls)
    {g : JFrame} (hg : g.method = m) (hsize : g.locals.size = c.maxLocals) {argsL rest : List Value} (hlen : ∀ sig, parseMethodDescriptor y.desc = some sig → argsL.length = sig.parameters.length)
    (hstack : g.stack = argsL.reverse ++ .ref b :: rest) (hW : 2 * g.monitorRoom + (rest.map fun v => v.category).sum ≤ W9) (hdg : decode c.code g.pc = .ok (.invokevirtual index, 3))
    (hpre : ∀ vm₁, s.WarmedH vm₁ → Pre ⟨T.setVm vm₁, locs, cells, slots⟩ (Value.ref b :: argsL).toArray) :
    (∃ (v : Option Value) (vm₁ : Vm) (B : Pt), s.WarmedH vm₁ ∧ Stand p l e R s m args below meth c B.U B.locs B.cells B.slots ∧ Post ⟨T.setVm vm₁, locs, cells, slots⟩ (Value.ref b :: argsL).toArray v B ∧
      ∀ target, Steps p.tables e below (B.U.setTop { g with pc := g.pc + 3, stack := v.toList ++ rest }) target → Steps p.tables e below (T.setTop g) target) ∨
    (∃ (q : Addr) (vm₁ : Vm) (B : Pt), s.WarmedH vm₁ ∧ Stand p l e R s m args below meth c B.U B.locs B.cells B.slots ∧ PostX ⟨T.setVm vm₁, locs, cells, slots⟩ (Value.ref b :: argsL).toArray q B ∧
      Steps p.tables e below (T.setTop g) ((B.U.setTop { g with stack := rest }).pushFrame (.throwing q))) := by
  obtain ⟨mk, methM, hnamed, hmethM, hstM, habM⟩ := Cond.instanceMethod_spec hinst
  obtain ⟨m8, methM', cM, hn8, hmethM', -, -, -, -, -, -, hsigM⟩ := Cond.codeWith_spec hcode
  cases Option.some.inj (hn8.symm.trans hnamed)
  cases hmethM.symm.trans hmethM'
  obtain ⟨c2, r2, m2, q1, q2, q3, q4, kP, hkP, hkPi⟩ := Cond.selects_spec hsel
  cases hcls.symm.trans q1
  cases (State.methodFound?_of_named hnamed hy).symm.trans q2
  cases hnamed.symm.trans q3
  have hselP : selectMethod e.platform s.vm cellB.cls mk = .method mk := by rw [Launch.admits_selectMethod X.admits]; exact q4
  obtain ⟨vm₁, X₁, hstep₁⟩ := X.invokevirtual hexec hown hlink hnamed hmethM hstM hkP hkPi hy (a := b) (cell := cellB) hcell
    (fun z h => by rw [h] at hobj; cases hobj) hselP hmethM habM hkP hkPi (g := g) hg (argsL := argsL) (rest := rest) (hlen _ hsigM) hstack hdg
  rcases hK m meth c ⟨T.setVm vm₁, locs, cells, slots⟩ { g with stack := rest } (.invokevirtual index) mk (Value.ref b :: argsL).toArray X₁ hg hsize hdg hW (X₁.named hnamed) (hpre vm₁ X₁.warmed) with ⟨v, B, X', hpost, hsteps⟩ | ⟨q, B, X', hpost, hsteps⟩
  · exact Or.inl ⟨v, vm₁, B, X₁.warmed, X', hpost, fun target h => hstep₁ _ fun acts => by rw [doInvoke_state]; exact hsteps.trans h⟩
  · exact Or.inr ⟨q, vm₁, B, X₁.warmed, X', hpost, hstep₁ _ fun acts => by rw [doInvoke_state]; exact hsteps⟩
theorem vx_callSX (X : Stand p l e R s m args below meth c T locs cells slots) (hexec : p.tables.exec = Jvm.exec) {own : String} {index : Nat} {y : MethodName} {bytes : ByteArray} {maxL : Nat} {ret : Option FieldType} {hh : List (Nat × Nat × Nat × Nat)}
    (hown : s.vm.findClass own = some m.cls) (hlink : (Cond.methodLink own index y).before args s = true) (hstat : (Cond.static y).before args s = true) (hinit : (Cond.initialized y.cls).before args s = true)
    (hcode : (Cond.codeWith y bytes maxL ret hh).before args s = true) (hy : y.cls ≠ "java/lang/invoke/MethodHandle" ∧ y.cls ≠ "java/lang/invoke/VarHandle")
    {W9 : Nat} {Pre : Pt → Array Value → Prop} {Post : Pt → Array Value → Option Value → Pt → Prop} {PostX : Pt → Array Value → Addr → Pt → Prop} (hK : vx_Back l R p e below s args y 3 W9 Pre Post PostX)
    {g : JFrame} (hg : g.method = m) (hsize : g.locals.size = c.maxLocals) {argsL rest : List Value} (hlen : ∀ sig, parseMethodDescriptor y.desc = some sig → argsL.length = sig.parameters.length)
    (hstack : g.stack = argsL.reverse ++ rest) (hW : 2 * g.monitorRoom + (rest.map fun v => v.category).sum ≤ W9) (hdg : decode c.code g.pc = .ok (.invokestatic index, 3))
    (hpre : ∀ vm₁, s.WarmedH vm₁ → Pre ⟨T.setVm vm₁, locs, cells, slots⟩ argsL.toArray) :
    (∃ (v : Option Value) (vm₁ : Vm) (B : Pt), s.WarmedH vm₁ ∧ Stand p l e R s m args below meth c B.U B.locs B.cells B.slots ∧ Post ⟨T.setVm vm₁, locs, cells, slots⟩ argsL.toArray v B ∧
      ∀ target, Steps p.tables e below (B.U.setTop { g with pc := g.pc + 3, stack := v.toList ++ rest }) target → Steps p.tables e below (T.setTop g) target) ∨
    (∃ (q : Addr) (vm₁ : Vm) (B : Pt), s.WarmedH vm₁ ∧ Stand p l e R s m args below meth c B.U B.locs B.cells B.slots ∧ PostX ⟨T.setVm vm₁, locs, cells, slots⟩ argsL.toArray q B ∧
      Steps p.tables e below (T.setTop g) ((B.U.setTop { g with stack := rest }).pushFrame (.throwing q))) := by
  obtain ⟨mk, methM, cM, hnamed, hmethM, -, -, -, -, -, -, hsigM⟩ := Cond.codeWith_spec hcode
  have hstatic : methM.isStatic = true := Cond.static_spec hnamed hmethM hstat
  obtain ⟨kP, hkP, -⟩ := className_of_methodNamed hnamed
  have hinitP : kP.init = .initialized := Cond.initialized_spec (findClass_of_methodNamed hnamed) hkP hinit
  obtain ⟨vm₁, X₁, hstep₁⟩ := X.invokestatic hexec hown hlink hnamed hmethM hstatic hkP hinitP hy (g := g) hg (argsL := argsL) (rest := rest) (hlen _ hsigM) hstack hdg
  rcases hK m meth c ⟨T.setVm vm₁, locs, cells, slots⟩ { g with stack := rest } (.invokestatic index) mk argsL.toArray X₁ hg hsize hdg hW (X₁.named hnamed) (hpre vm₁ X₁.warmed) with ⟨v, B, X', hpost, hsteps⟩ | ⟨q, B, X', hpost, hsteps⟩
  · exact Or.inl ⟨v, vm₁, B, X₁.warmed, X', hpost, fun target h => hstep₁ _ fun acts => by rw [doInvoke_state]; exact hsteps.trans h⟩
  · exact Or.inr ⟨q, vm₁, B, X₁.warmed, X', hpost, hstep₁ _ fun acts => by rw [doInvoke_state]; exact hsteps⟩
theorem vx_callVW (X : Stand p l e R s m args below meth c T locs cells slots) (hexec : p.tables.exec = Jvm.exec) {own C : String} {index : Nat} {y : MethodName} {bytes : ByteArray} {maxL : Nat} {ret : Option FieldType} {hh : List (Nat × Nat × Nat × Nat)}
    (hown : s.vm.findClass own = some m.cls) (hlink : (Cond.methodLink own index y).before args s = true) (hinst : (Cond.instanceMethod y).before args s = true) (hsel : (Cond.selects C y y).before args s = true)
    (hcode : (Cond.codeWith y bytes maxL ret hh).before args s = true) (hy : y.cls ≠ "java/lang/invoke/MethodHandle" ∧ y.cls ≠ "java/lang/invoke/VarHandle")
    {W9 : Nat} {Pre : Pt → Array Value → Prop} {Post : Pt → Array Value → Option Value → Pt → Prop} (hK : Back l R p e below s args y 3 W9 Pre Post)
    {b : Addr} {cellB : Cell} (hcell : T.heap[b]? = some cellB) (hobj : cellB.vm.isStatics = false) (hcls : s.vm.findClass C = some cellB.cls)
    {g : JFrame} (hg : g.method = m) (hsize : g.locals.size = c.maxLocals) {argsL rest : List Value} (hlen : ∀ sig, parseMethodDescriptor y.desc = some sig → argsL.length = sig.parameters.length)
    (hstack : g.stack = argsL.reverse ++ .ref b :: rest) (hW : 2 * g.monitorRoom + (rest.map fun v => v.category).sum ≤ W9) (hdg : decode c.code g.pc = .ok (.invokevirtual index, 3))
    (hpre : ∀ vm₁, s.WarmedH vm₁ → Pre ⟨T.setVm vm₁, locs, cells, slots⟩ (Value.ref b :: argsL).toArray) :
    ∃ (v : Option Value) (vm₁ : Vm) (B : Pt), s.WarmedH vm₁ ∧ Stand p l e R s m args below meth c B.U B.locs B.cells B.slots ∧ Post ⟨T.setVm vm₁, locs, cells, slots⟩ (Value.ref b :: argsL).toArray v B ∧
      ∀ target, Steps p.tables e below (B.U.setTop { g with pc := g.pc + 3, stack := v.toList ++ rest }) target → Steps p.tables e below (T.setTop g) target := by
  obtain ⟨mk, methM, hnamed, hmethM, hstM, habM⟩ := Cond.instanceMethod_spec hinst
  obtain ⟨m8, methM', cM, hn8, hmethM', -, -, -, -, -, -, hsigM⟩ := Cond.codeWith_spec hcode
  cases Option.some.inj (hn8.symm.trans hnamed)
  cases hmethM.symm.trans hmethM'
  obtain ⟨c2, r2, m2, q1, q2, q3, q4, kP, hkP, hkPi⟩ := Cond.selects_spec hsel
  cases hcls.symm.trans q1
  cases (State.methodFound?_of_named hnamed hy).symm.trans q2
  cases hnamed.symm.trans q3
  have hselP : selectMethod e.platform s.vm cellB.cls mk = .method mk := by rw [Launch.admits_selectMethod X.admits]; exact q4
  obtain ⟨vm₁, X₁, hstep₁⟩ := X.invokevirtual hexec hown hlink hnamed hmethM hstM hkP hkPi hy (a := b) (cell := cellB) hcell
    (fun z h => by rw [h] at hobj; cases hobj) hselP hmethM habM hkP hkPi (g := g) hg (argsL := argsL) (rest := rest) (hlen _ hsigM) hstack hdg
  obtain ⟨v, B, X', hpost, hsteps⟩ := hK m meth c ⟨T.setVm vm₁, locs, cells, slots⟩ { g with stack := rest } (.invokevirtual index) mk (Value.ref b :: argsL).toArray X₁ hg hsize hdg hW (X₁.named hnamed) (hpre vm₁ X₁.warmed)
  exact ⟨v, vm₁, B, X₁.warmed, X', hpost, fun target h => hstep₁ _ fun acts => by rw [doInvoke_state]; exact hsteps.trans h⟩
abbrev vx_CVW (R : Room) (s : State) (args : Array Value) (own C : String) (index : Nat) (y : MethodName) (bytes : ByteArray) (maxL : Nat) (ret : Option FieldType) (hh : List (Nat × Nat × Nat × Nat)) (ws : List Cond) (rm : Room) (mc ms n : Nat) : Prop :=
  (rm.cells = mc ∧ rm.slots = ms ∧ rm.frames + 1 ≤ R.frames ∧ 8 + (maxL + 11) + rm.locals ≤ R.locals ∧ (∀ w ∈ ws, ∀ (a' : Array Value) (U : State), s.WarmedH U.vm → w.before a' U = true) ∧ Cond.codeWith y bytes maxL ret hh ∈ ws) ∧
  (Cond.codeWith y bytes maxL ret hh).before args s = true ∧ (Cond.initialized y.cls).before args s = true ∧ (y.cls ≠ "java/lang/invoke/MethodHandle" ∧ y.cls ≠ "java/lang/invoke/VarHandle") ∧
  (∀ sig, parseMethodDescriptor y.desc = some sig → n = sig.parameters.length) ∧ (Cond.methodLink own index y).before args s = true ∧ (Cond.instanceMethod y).before args s = true ∧ (Cond.selects C y y).before args s = true
theorem vx_cwVW {own C : String} {index maxL mc ms : Nat} {y : MethodName} {bytes : ByteArray} {ret : Option FieldType} {hh : List (Nat × Nat × Nat × Nat)} {Ts ws ws' : List Cond} {rm : Room} (n : Nat) (ht : ∀ w ∈ Ts, w.before args s = true) (hT : GoodIn Ts (wsV own index C y ws)) (hw : ws = Cond.codeWith y bytes maxL ret hh :: ws') (hrc : rm.cells = mc) (hrs : rm.slots = ms)
    (hd : y.cls = C ∧ y.cls ≠ "java/lang/invoke/MethodHandle" ∧ y.cls ≠ "java/lang/invoke/VarHandle" ∧ (parseMethodDescriptor y.desc).map (fun d => d.parameters.length) = some n) (hR : rm.frames + 1 ≤ R.frames ∧ 8 + (maxL + 11) + rm.locals ≤ R.locals) :
    vx_CVW R s args own C index y bytes maxL ret hh ws rm mc ms n := by
  obtain ⟨hC, hd⟩ := hd
  subst hC
  have ok : ∀ w ∈ wsV own index y.cls y ws, w.before args s = true := fun w h => ht w (hT w h).1
  have hG : GoodIn Ts ws := fun w h => hT w (by unfold wsV; exact List.mem_append_right _ h)
  have hc : Cond.codeWith y bytes maxL ret hh ∈ ws := by rw [hw]; exact List.mem_cons_self
  refine ⟨⟨hrc, hrs, hR.1, hR.2, pay_in ht hG, hc⟩, ht _ (hG _ hc).1, ok _ (by simp [wsV]), ⟨hd.1, hd.2.1⟩, fun sig h => ?_, ok _ (by simp [wsV]), ok _ (by simp [wsV]), ok _ (by simp [wsV])⟩
  have h2 := hd.2.2
  rw [h] at h2
  exact (Option.some.inj h2).symm
theorem vx_runVW {y : MethodName} {bytes cc : ByteArray} {maxL nL mc ms n index : Nat} {ret : Option FieldType} {hh : List (Nat × Nat × Nat × Nat)} {ws : List Cond} {rm : Room} {Pc : Array Value → State → Prop} {Qc : Array Value → State → Outcome → State → Prop} {free : Addr → Prop} {Ts : List Cond} {own C : String} {b : Addr} {As rest : List Value} {g : JFrame}
    (S : CallFix p m c cc nL s args Ts own) (hM : Met l y ws rm Pc Qc mc ms free) (cw : vx_CVW R s args own C index y bytes maxL ret hh ws rm mc ms n) (hp : PreV s H C b Pc As)
    (hg : g.method = m) (hn : As.length = n) (hsize : g.locals.size = nL) (hstack : g.stack = As.reverse ++ .ref b :: rest) (hW : 2 * g.monitorRoom + (rest.map fun v => v.category).sum ≤ 8) (hdg : decode cc g.pc = .ok (.invokevirtual index, 3)) (hf : cells + mc ≤ R.cells ∧ slots + ms ≤ R.slots) :
    va_Run p l e R s m args below meth c H locs cells slots mc ms g rest (Qc (Value.ref b :: As).toArray) free := by
  obtain ⟨⟨hrc, hrs, hfr, hlo, hws, hcw⟩, hcode, hini, hy, hlen, hl, hin, hse⟩ := cw
  have hK : Back l R p e below s args y 3 8 (PreOf R mc ms Pc) (PostOf Qc mc ms free) := va_backW (hh := hh) (bytes := bytes) (maxL := maxL) (ret := ret) hM hp.1 hrc hrs hfr hlo hws hcw (fun a' U hW => word_at hW (Or.inl (by first | rfl | simp [Cond.onTables, Cond.keeps, Cond.steady])) hini)
  obtain ⟨hx, hb, hml, ho, -⟩ := S
  obtain ⟨-, ⟨cellB, hcB, hoB, hclB⟩, hPc⟩ := hp
  intro T hT X
  obtain ⟨v, vm₁, ⟨U', l2, c2, s2⟩, hW₁, X', ⟨g', mk, t, L, e1, e2, hq, h1, hL, h2, h3⟩, st⟩ := vx_callVW X hx (C := C) (hh := hh) (bytes := bytes) (maxL := maxL) (ret := ret) ho hl hin hse hcode hy hK (by rw [hT]; exact hcB) hoB hclB hg (hsize.trans hml.symm) (argsL := As) (rest := rest) (fun sig h => hn.trans (hlen sig h)) hstack hW (by rw [hb]; exact hdg)
    (fun vm₁ hW₁ => ⟨hf.1, hf.2, hPc (T.setVm vm₁) hT hW₁⟩)
  dsimp only [Pt.U, Pt.locs, Pt.cells, Pt.slots] at X' e1 e2 h1 h2 h3 st
  subst h1; subst h2; subst h3
  exact ⟨v, (T.setVm vm₁).calling g' mk (Value.ref b :: As).toArray, t, U', L, hT, X', hL, e1, e2, hq, st⟩
section
variable {y : MethodName} {bytes cc : ByteArray} {maxL nL mc ms n index : Nat} {ret : Option FieldType} {ws : List Cond} {rm : Room} {Pc : Array Value → State → Prop} {Qc : Array Value → State → Outcome → State → Prop} {XC : String → State → State → Prop} {free : Addr → Prop} {Ts : List Cond} {own C : String} {b : Addr} {As rest : List Value} {g : JFrame}
theorem vx_runVX {hh : List (Nat × Nat × Nat × Nat)} (S : CallFix p m c cc nL s args Ts own) (hM : vx_Met l y ws rm Pc Qc XC mc ms free) (cw : vx_CVW R s args own C index y bytes maxL ret hh ws rm mc ms n) (hp : PreV s H C b Pc As)
    (hg : g.method = m) (hn : As.length = n) (hsize : g.locals.size = nL) (hstack : g.stack = As.reverse ++ .ref b :: rest) (hW : 2 * g.monitorRoom + (rest.map fun v => v.category).sum ≤ 8) (hdg : decode cc g.pc = .ok (.invokevirtual index, 3)) (hf : cells + mc ≤ R.cells ∧ slots + ms ≤ R.slots) :
    vx_Run p l e R s m args below meth c H locs cells slots mc ms g rest (Qc (Value.ref b :: As).toArray) XC free := by
  obtain ⟨⟨hrc, hrs, hfr, hlo, hws, hcw⟩, hcode, hini, hy, hlen, hl, hin, hse⟩ := cw
  have hK : vx_Back l R p e below s args y 3 8 (PreOf R mc ms Pc) (PostOf Qc mc ms free) (vx_Post XC mc ms free) := vx_backW (hh := hh) (bytes := bytes) (maxL := maxL) (ret := ret) hM hp.1 hrc hrs hfr hlo hws hcw (fun a' U hW => word_at hW (Or.inl (by first | rfl | simp [Cond.onTables, Cond.keeps, Cond.steady])) hini)
  obtain ⟨hx, hb, hml, ho, -⟩ := S
  obtain ⟨-, ⟨cellB, hcB, hoB, hclB⟩, hPc⟩ := hp
  intro T hT X
  rcases vx_callVX X hx (C := C) (hh := hh) (bytes := bytes) (maxL := maxL) (ret := ret) ho hl hin hse hcode hy hK (by rw [hT]; exact hcB) hoB hclB hg (hsize.trans hml.symm) (argsL := As) (rest := rest) (fun sig h => hn.trans (hlen sig h)) hstack hW (by rw [hb]; exact hdg)
    (fun vm₁ hW₁ => ⟨hf.1, hf.2, hPc (T.setVm vm₁) hT hW₁⟩) with ⟨v, vm₁, ⟨U', l2, c2, s2⟩, hW₁, X', ⟨g', mk, t, L, e1, e2, hq, h1, hL, h2, h3⟩, st⟩ | ⟨q, vm₁, ⟨U', l2, c2, s2⟩, hW₁, X', ⟨g', mk, t, L, E, ce, e1, e2, hq, hce, hcv, hcl, h1, hL, h2, h3⟩, st⟩
  · dsimp only [Pt.U, Pt.locs, Pt.cells, Pt.slots] at X' e1 e2 h1 h2 h3 st
    subst h1; subst h2; subst h3
    exact Or.inl ⟨v, (T.setVm vm₁).calling g' mk (Value.ref b :: As).toArray, t, U', L, hT, X', hL, e1, e2, hq, st⟩
  · dsimp only [Pt.U, Pt.locs, Pt.cells, Pt.slots] at X' e1 e2 h1 h2 h3 st hcl
    subst h1; subst h2; subst h3
    exact Or.inr ⟨q, (T.setVm vm₁).calling g' mk (Value.ref b :: As).toArray, t, U', L, E, ce, hT, X', hL, e1, e2, hq, hce, hcv, vx_cls hW₁ hcl, st⟩
theorem vx_runSX {hh : List (Nat × Nat × Nat × Nat)} (S : CallFix p m c cc nL s args Ts own) (hM : vx_Met l y ws rm Pc Qc XC mc ms free) (cw : vx_CSW R s args own index y bytes maxL ret hh ws rm mc ms n) (hp : PreS s H Pc As)
    (hg : g.method = m) (hn : As.length = n) (hsize : g.locals.size = nL) (hstack : g.stack = As.reverse ++ rest) (hW : 2 * g.monitorRoom + (rest.map fun v => v.category).sum ≤ 8) (hdg : decode cc g.pc = .ok (.invokestatic index, 3)) (hf : cells + mc ≤ R.cells ∧ slots + ms ≤ R.slots) :
    vx_Run p l e R s m args below meth c H locs cells slots mc ms g rest (Qc As.toArray) XC free := by
  obtain ⟨⟨hrc, hrs, hfr, hlo, hws, hcw⟩, hcode, hini, hy, hlen, hl, hstt⟩ := cw
  have hK : vx_Back l R p e below s args y 3 8 (PreOf R mc ms Pc) (PostOf Qc mc ms free) (vx_Post XC mc ms free) := vx_backW (hh := hh) (bytes := bytes) (maxL := maxL) (ret := ret) hM hp.1 hrc hrs hfr hlo hws hcw (fun a' U hW => word_at hW (Or.inl (by first | rfl | simp [Cond.onTables, Cond.keeps, Cond.steady])) hini)
  obtain ⟨hx, hb, hml, ho, -⟩ := S
  intro T hT X
  rcases vx_callSX X hx (hh := hh) (bytes := bytes) (maxL := maxL) (ret := ret) ho hl hstt hini hcode hy hK hg (hsize.trans hml.symm) (argsL := As) (rest := rest) (fun sig h => hn.trans (hlen sig h)) hstack hW (by rw [hb]; exact hdg)
    (fun vm₁ hW₁ => ⟨hf.1, hf.2, hp.2 (T.setVm vm₁) hT hW₁⟩) with ⟨v, vm₁, ⟨U', l2, c2, s2⟩, hW₁, X', ⟨g', mk, t, L, e1, e2, hq, h1, hL, h2, h3⟩, st⟩ | ⟨q, vm₁, ⟨U', l2, c2, s2⟩, hW₁, X', ⟨g', mk, t, L, E, ce, e1, e2, hq, hce, hcv, hcl, h1, hL, h2, h3⟩, st⟩
  · dsimp only [Pt.U, Pt.locs, Pt.cells, Pt.slots] at X' e1 e2 h1 h2 h3 st
    subst h1; subst h2; subst h3
    exact Or.inl ⟨v, (T.setVm vm₁).calling g' mk As.toArray, t, U', L, hT, X', hL, e1, e2, hq, st⟩
  · dsimp only [Pt.U, Pt.locs, Pt.cells, Pt.slots] at X' e1 e2 h1 h2 h3 st hcl
    subst h1; subst h2; subst h3
    exact Or.inr ⟨q, (T.setVm vm₁).calling g' mk As.toArray, t, U', L, E, ce, hT, X', hL, e1, e2, hq, hce, hcv, vx_cls hW₁ hcl, st⟩
end
end VXH
theorem vx_ofWH {l : Launch} {y : MethodName} {ws ws' : List Cond} {rm : Room} {Pc : Array Value → State → Prop} {Qc : Array Value → State → Outcome → State → Prop} {XC : String → State → State → Prop} {mc ms : Nat} {free : Addr → Prop} {cc : ByteArray} {maxL : Nat} {ret : Option FieldType} {hh : List (Nat × Nat × Nat × Nat)}
    (hy : plainName y.cls = true) (hw : ws = Cond.codeWith y cc maxL ret hh :: ws')
    (body : ∀ p e s m args below meth c s₁, BodyLoose p l y (headSpec ws rm) cc maxL ret e s m args below meth c s₁ → c.maxLocals = maxL → Pc args s →
      W p l e (headSpec ws rm).room s m args below meth c s.heap [] 0 0 (vx_MQ below Qc XC args s mc ms free) (entryFrame m args maxL)) : vx_Met l y ws rm Pc Qc XC mc ms free := by
  refine MetFree.of_bodyS (code := cc) (maxLocals := maxL) (ret := ret) hy ?_ ?_
  · intro args s m h hn
    obtain ⟨m9, meth, c, hn9, h1, h2, h3, h4, -, h5, h6, -⟩ := Cond.codeWith_spec (atoms_spec (ws := ws) h _ (by rw [hw]; exact List.mem_cons_self))
    cases hn.symm.trans hn9
    exact ⟨meth, c, h1, h2, h3, h4, h5, h6⟩
  · intro p e s m args below meth c s₁ B hml hP _
    have hh0 : s₁.heap = s.heap := by rw [B.state]; rfl
    obtain ⟨t, a1, o, b1, b2, b3⟩ := body p e s m args below meth c s₁ B hml hP s₁ hh0 (Stand.of_body B)
    exact ⟨t, o, a1, b1, b2, b3⟩
/-! ===== END ===== -/

def RX0 : String := "BudgetJury$Checker"
def TX0 : u_T := fun k => match k with
  | 0 => ("BudgetJury$Checker", "at", "I", false)
  | 1 => ("BudgetJury$Checker", "tokens", "LBudgetJury$Tokens;", true)
  | 2 => ("BudgetJury$Checker", "grammar", "LBudgetJury$Grammar;", true)
  | 3 => ("BudgetJury$Checker", "wardNames", "[J", true)
  | 4 => ("BudgetJury$Checker", "projectNames", "[J", true)
  | 5 => ("BudgetJury$Checker", "voterNames", "[J", true)
  | _ => ("BudgetJury$Checker", "meaning", "[I", true)
def tyX0 : Nat → FieldType := fun k => match k with
  | 0 => .int
  | 1 => .object "BudgetJury$Tokens"
  | 2 => .object "BudgetJury$Grammar"
  | 3 => .array .long
  | 4 => .array .long
  | 5 => .array .long
  | _ => .array .int
abbrev wsX00 : List Cond := u_ws RX0 TX0 7
theorem nmX0 : ∀ a, a < 7 → ∀ b, b < 7 → a ≠ b → (TX0 a).2.1 ≠ (TX0 b).2.1 := by decide +kernel
theorem tyX0_ok : ∀ k, k < 7 → parseFieldDescriptor (TX0 k).2.2.1 = some (tyX0 k) := by decide +kernel
abbrev cX0_init : ByteArray := prog_2_method_1_code
def yX0_init : MethodName := ⟨RX0, "<init>", "(LBudgetJury$Tokens;LBudgetJury$Grammar;)V"⟩
abbrev cX0_fill : ByteArray := prog_2_method_2_code
def yX0_fill : MethodName := ⟨RX0, "fill", "(LBudgetJury$Plan;)I"⟩
abbrev cX0_setArguments : ByteArray := prog_2_method_3_code
def yX0_setArguments : MethodName := ⟨RX0, "setArguments", "(LBudgetJury$Plan;)V"⟩
abbrev cX0_errorHere : ByteArray := prog_2_method_4_code
def yX0_errorHere : MethodName := ⟨RX0, "errorHere", "(LBudgetJury$Plan;)I"⟩
abbrev cX0_tellWard : ByteArray := prog_2_method_5_code
def yX0_tellWard : MethodName := ⟨RX0, "tellWard", "(LBudgetJury$Plan;J)I"⟩
abbrev cX0_tellProject : ByteArray := prog_2_method_6_code
def yX0_tellProject : MethodName := ⟨RX0, "tellProject", "(LBudgetJury$Plan;J)I"⟩
abbrev cX0_tellVoter : ByteArray := prog_2_method_7_code
def yX0_tellVoter : MethodName := ⟨RX0, "tellVoter", "(LBudgetJury$Plan;J)I"⟩
abbrev cX0_errorOfNew : ByteArray := prog_2_method_8_code
def yX0_errorOfNew : MethodName := ⟨RX0, "errorOfNew", "([JIJ)I"⟩
abbrev cX0_tellBan : ByteArray := prog_2_method_9_code
def yX0_tellBan : MethodName := ⟨RX0, "tellBan", "(LBudgetJury$Plan;)I"⟩
abbrev cX0_tellBudget : ByteArray := prog_2_method_10_code
def yX0_tellBudget : MethodName := ⟨RX0, "tellBudget", "(LBudgetJury$Plan;J)I"⟩
abbrev cX0_tellLiked : ByteArray := prog_2_method_11_code
def yX0_tellLiked : MethodName := ⟨RX0, "tellLiked", "(LBudgetJury$Plan;I)I"⟩
abbrev cX0_putNumber : ByteArray := prog_2_method_12_code
def yX0_putNumber : MethodName := ⟨RX0, "putNumber", "([IIII)I"⟩
abbrev cX0_putNamed : ByteArray := prog_2_method_13_code
def yX0_putNamed : MethodName := ⟨RX0, "putNamed", "([III)I"⟩
abbrev cX0_find : ByteArray := prog_2_method_14_code
def yX0_find : MethodName := ⟨RX0, "find", "([JIJ)I"⟩
def RX1 : String := "BudgetJury$Grammar"
def TX1 : u_T := fun k => match k with
  | 0 => ("BudgetJury$Grammar", "role", "[I", true)
  | 1 => ("BudgetJury$Grammar", "firstStep", "[I", true)
  | 2 => ("BudgetJury$Grammar", "at", "I", false)
  | 3 => ("BudgetJury$Grammar", "tokens", "LBudgetJury$Tokens;", true)
  | _ => ("BudgetJury$Grammar", "plan", "LBudgetJury$Plan;", false)
def tyX1 : Nat → FieldType := fun k => match k with
  | 0 => .array .int
  | 1 => .array .int
  | 2 => .int
  | 3 => .object "BudgetJury$Tokens"
  | _ => .object "BudgetJury$Plan"
abbrev wsX10 : List Cond := u_ws RX1 TX1 5
theorem nmX1 : ∀ a, a < 5 → ∀ b, b < 5 → a ≠ b → (TX1 a).2.1 ≠ (TX1 b).2.1 := by decide +kernel
theorem tyX1_ok : ∀ k, k < 5 → parseFieldDescriptor (TX1 k).2.2.1 = some (tyX1 k) := by decide +kernel
abbrev cX1_init : ByteArray := prog_3_method_1_code
def yX1_init : MethodName := ⟨RX1, "<init>", "(LBudgetJury$Tokens;LBudgetJury$Plan;)V"⟩
abbrev cX1_isList : ByteArray := prog_3_method_2_code
def yX1_isList : MethodName := ⟨RX1, "isList", "(LBudgetJury$Plan;)Z"⟩
abbrev cX1_here : ByteArray := prog_3_method_3_code
def yX1_here : MethodName := ⟨RX1, "here", "()I"⟩
abbrev cX1_take : ByteArray := prog_3_method_4_code
def yX1_take : MethodName := ⟨RX1, "take", "(I)Z"⟩
abbrev cX1_take_ : ByteArray := prog_3_method_5_code
def yX1_take_ : MethodName := ⟨RX1, "take", "(II)Z"⟩
abbrev cX1_write : ByteArray := prog_3_method_6_code
def yX1_write : MethodName := ⟨RX1, "write", "(I)Z"⟩
abbrev cX1_write_ : ByteArray := prog_3_method_7_code
def yX1_write_ : MethodName := ⟨RX1, "write", "(II)Z"⟩
abbrev cX1_isLine : ByteArray := prog_3_method_8_code
def yX1_isLine : MethodName := ⟨RX1, "isLine", "()Z"⟩
abbrev cX1_isRowOfLiked : ByteArray := prog_3_method_9_code
def yX1_isRowOfLiked : MethodName := ⟨RX1, "isRowOfLiked", "()Z"⟩
abbrev cX1_isBan : ByteArray := prog_3_method_10_code
def yX1_isBan : MethodName := ⟨RX1, "isBan", "()Z"⟩
abbrev cX1_isTest : ByteArray := prog_3_method_11_code
def yX1_isTest : MethodName := ⟨RX1, "isTest", "(I)Z"⟩
abbrev cX1_isBoth : ByteArray := prog_3_method_12_code
def yX1_isBoth : MethodName := ⟨RX1, "isBoth", "(I)Z"⟩
abbrev cX1_isSingle : ByteArray := prog_3_method_13_code
def yX1_isSingle : MethodName := ⟨RX1, "isSingle", "(I)Z"⟩
abbrev cX1_isNamed : ByteArray := prog_3_method_14_code
def yX1_isNamed : MethodName := ⟨RX1, "isNamed", "(II)Z"⟩
abbrev cX1_comparisonHere : ByteArray := prog_3_method_15_code
def yX1_comparisonHere : MethodName := ⟨RX1, "comparisonHere", "()I"⟩
abbrev cX1_isSum : ByteArray := prog_3_method_16_code
def yX1_isSum : MethodName := ⟨RX1, "isSum", "(I)Z"⟩
abbrev cX1_isProduct : ByteArray := prog_3_method_17_code
def yX1_isProduct : MethodName := ⟨RX1, "isProduct", "(I)Z"⟩
abbrev cX1_isValue : ByteArray := prog_3_method_18_code
def yX1_isValue : MethodName := ⟨RX1, "isValue", "(I)Z"⟩
abbrev cX1_isPair : ByteArray := prog_3_method_19_code
def yX1_isPair : MethodName := ⟨RX1, "isPair", "(I)Z"⟩
def RX2 : String := "BudgetJury$Kind"
def TX2 : u_T := fun k => match k with
  | _ => ("", "", "", false)
def tyX2 : Nat → FieldType := fun k => match k with
  | _ => .int
abbrev wsX20 : List Cond := u_ws RX2 TX2 0
theorem nmX2 : ∀ a, a < 0 → ∀ b, b < 0 → a ≠ b → (TX2 a).2.1 ≠ (TX2 b).2.1 := by decide +kernel
theorem tyX2_ok : ∀ k, k < 0 → parseFieldDescriptor (TX2 k).2.2.1 = some (tyX2 k) := by decide +kernel
def RX3 : String := "BudgetJury$Parish"
def TX3 : u_T := fun k => match k with
  | 0 => ("BudgetJury$Parish", "year", "I", false)
  | 1 => ("BudgetJury$Parish", "budget", "I", false)
  | 2 => ("BudgetJury$Parish", "leftOut", "I", false)
  | 3 => ("BudgetJury$Parish", "purse", "[I", true)
  | 4 => ("BudgetJury$Parish", "builtIn", "[I", true)
  | 5 => ("BudgetJury$Parish", "plan", "LBudgetJury$Plan;", false)
  | 6 => ("BudgetJury$Parish", "pot", "I", false)
  | 7 => ("BudgetJury$Parish", "paidInAll", "I", false)
  | 8 => ("BudgetJury$Parish", "paid", "[I", true)
  | 9 => ("BudgetJury$Parish", "cost", "[I", true)
  | 10 => ("BudgetJury$Parish", "fans", "[I", true)
  | 11 => ("BudgetJury$Parish", "bought", "[I", true)
  | 12 => ("BudgetJury$Parish", "builtThisYear", "[I", true)
  | 13 => ("BudgetJury$Parish", "stack", "[I", true)
  | _ => ("BudgetJury$Parish", "stackSize", "I", false)
def tyX3 : Nat → FieldType := fun k => match k with
  | 0 => .int
  | 1 => .int
  | 2 => .int
  | 3 => .array .int
  | 4 => .array .int
  | 5 => .object "BudgetJury$Plan"
  | 6 => .int
  | 7 => .int
  | 8 => .array .int
  | 9 => .array .int
  | 10 => .array .int
  | 11 => .array .int
  | 12 => .array .int
  | 13 => .array .int
  | _ => .int
abbrev wsX30 : List Cond := u_ws RX3 TX3 15
theorem nmX3 : ∀ a, a < 15 → ∀ b, b < 15 → a ≠ b → (TX3 a).2.1 ≠ (TX3 b).2.1 := by decide +kernel
theorem tyX3_ok : ∀ k, k < 15 → parseFieldDescriptor (TX3 k).2.2.1 = some (tyX3 k) := by decide +kernel
abbrev cX3_init : ByteArray := prog_5_method_1_code
def yX3_init : MethodName := ⟨RX3, "<init>", "(LBudgetJury$Plan;)V"⟩
abbrev cX3_begin : ByteArray := prog_5_method_2_code
def yX3_begin : MethodName := ⟨RX3, "begin", "(LBudgetJury$Plan;)V"⟩
abbrev cX3_copy : ByteArray := prog_5_method_3_code
def yX3_copy : MethodName := ⟨RX3, "copy", "(LBudgetJury$Parish;)V"⟩
abbrev cX3_total : ByteArray := prog_5_method_4_code
def yX3_total : MethodName := ⟨RX3, "total", "(I)I"⟩
abbrev cX3_purses : ByteArray := prog_5_method_5_code
def yX3_purses : MethodName := ⟨RX3, "purses", "()I"⟩
abbrev cX3_builtCount : ByteArray := prog_5_method_6_code
def yX3_builtCount : MethodName := ⟨RX3, "builtCount", "()I"⟩
abbrev cX3_boughtCount : ByteArray := prog_5_method_7_code
def yX3_boughtCount : MethodName := ⟨RX3, "boughtCount", "()I"⟩
abbrev cX3_ofWard : ByteArray := prog_5_method_8_code
def yX3_ofWard : MethodName := ⟨RX3, "ofWard", "(II)I"⟩
abbrev cX3_ofProject : ByteArray := prog_5_method_9_code
def yX3_ofProject : MethodName := ⟨RX3, "ofProject", "(II)I"⟩
abbrev cX3_ofVoter : ByteArray := prog_5_method_10_code
def yX3_ofVoter : MethodName := ⟨RX3, "ofVoter", "(II)I"⟩
abbrev cX3_likedCount : ByteArray := prog_5_method_11_code
def yX3_likedCount : MethodName := ⟨RX3, "likedCount", "(I)I"⟩
abbrev cX3_pleasedOf : ByteArray := prog_5_method_12_code
def yX3_pleasedOf : MethodName := ⟨RX3, "pleasedOf", "(I)I"⟩
abbrev cX3_isOpen : ByteArray := prog_5_method_13_code
def yX3_isOpen : MethodName := ⟨RX3, "isOpen", "(I)Z"⟩
abbrev cX3_isFan : ByteArray := prog_5_method_14_code
def yX3_isFan : MethodName := ⟨RX3, "isFan", "(II)Z"⟩
abbrev cX3_fanCount : ByteArray := prog_5_method_15_code
def yX3_fanCount : MethodName := ⟨RX3, "fanCount", "(I)I"⟩
abbrev cX3_coinsOfFans : ByteArray := prog_5_method_16_code
def yX3_coinsOfFans : MethodName := ⟨RX3, "coinsOfFans", "(I)I"⟩
abbrev cX3_shareOf : ByteArray := prog_5_method_17_code
def yX3_shareOf : MethodName := ⟨RX3, "shareOf", "(I)I"⟩
abbrev cX3_setFan : ByteArray := prog_5_method_18_code
def yX3_setFan : MethodName := ⟨RX3, "setFan", "(IIZ)V"⟩
abbrev cX3_putIntoPurse : ByteArray := prog_5_method_19_code
def yX3_putIntoPurse : MethodName := ⟨RX3, "putIntoPurse", "(II)V"⟩
abbrev cX3_reopen : ByteArray := prog_5_method_20_code
def yX3_reopen : MethodName := ⟨RX3, "reopen", "(I)V"⟩
abbrev cX3_runYears : ByteArray := prog_5_method_21_code
def yX3_runYears : MethodName := ⟨RX3, "runYears", "(I)V"⟩
abbrev cX3_collect : ByteArray := prog_5_method_22_code
def yX3_collect : MethodName := ⟨RX3, "collect", "()V"⟩
abbrev cX3_buyFromPurses : ByteArray := prog_5_method_23_code
def yX3_buyFromPurses : MethodName := ⟨RX3, "buyFromPurses", "()V"⟩
abbrev cX3_bestToBuy : ByteArray := prog_5_method_24_code
def yX3_bestToBuy : MethodName := ⟨RX3, "bestToBuy", "()I"⟩
abbrev cX3_hasRoom : ByteArray := prog_5_method_25_code
def yX3_hasRoom : MethodName := ⟨RX3, "hasRoom", "(I)Z"⟩
abbrev cX3_buy : ByteArray := prog_5_method_26_code
def yX3_buy : MethodName := ⟨RX3, "buy", "(II)V"⟩
abbrev cX3_build : ByteArray := prog_5_method_27_code
def yX3_build : MethodName := ⟨RX3, "build", "(I)V"⟩
abbrev cX3_buildFromPot : ByteArray := prog_5_method_28_code
def yX3_buildFromPot : MethodName := ⟨RX3, "buildFromPot", "()V"⟩
abbrev cX3_bestForPot : ByteArray := prog_5_method_29_code
def yX3_bestForPot : MethodName := ⟨RX3, "bestForPot", "()I"⟩
abbrev cX3_isBetterForPot : ByteArray := prog_5_method_30_code
def yX3_isBetterForPot : MethodName := ⟨RX3, "isBetterForPot", "(II)Z"⟩
abbrev cX3_grow : ByteArray := prog_5_method_31_code
def yX3_grow : MethodName := ⟨RX3, "grow", "()V"⟩
abbrev cX3_isBanned : ByteArray := prog_5_method_32_code
def yX3_isBanned : MethodName := ⟨RX3, "isBanned", "(I)Z"⟩
abbrev cX3_holds : ByteArray := prog_5_method_33_code
def yX3_holds : MethodName := ⟨RX3, "holds", "(I)Z"⟩
abbrev cX3_push : ByteArray := prog_5_method_34_code
def yX3_push : MethodName := ⟨RX3, "push", "(I)V"⟩
abbrev cX3_pop : ByteArray := prog_5_method_35_code
def yX3_pop : MethodName := ⟨RX3, "pop", "()I"⟩
abbrev cX3_single : ByteArray := prog_5_method_36_code
def yX3_single : MethodName := ⟨RX3, "single", "(II)I"⟩
abbrev cX3_reckon : ByteArray := prog_5_method_37_code
def yX3_reckon : MethodName := ⟨RX3, "reckon", "(III)I"⟩
abbrev cX3_compare : ByteArray := prog_5_method_38_code
def yX3_compare : MethodName := ⟨RX3, "compare", "(III)I"⟩
def RX4 : String := "BudgetJury$Plan"
def TX4 : u_T := fun k => match k with
  | 0 => ("BudgetJury$Plan", "wards", "I", false)
  | 1 => ("BudgetJury$Plan", "projects", "I", false)
  | 2 => ("BudgetJury$Plan", "voters", "I", false)
  | 3 => ("BudgetJury$Plan", "bans", "I", false)
  | 4 => ("BudgetJury$Plan", "budget", "I", false)
  | 5 => ("BudgetJury$Plan", "stepCount", "I", false)
  | 6 => ("BudgetJury$Plan", "cap", "[I", true)
  | 7 => ("BudgetJury$Plan", "wardOf", "[I", true)
  | 8 => ("BudgetJury$Plan", "cost", "[I", true)
  | 9 => ("BudgetJury$Plan", "grows", "[I", true)
  | 10 => ("BudgetJury$Plan", "fans", "[I", true)
  | 11 => ("BudgetJury$Plan", "banned", "[I", true)
  | 12 => ("BudgetJury$Plan", "banStart", "[I", true)
  | 13 => ("BudgetJury$Plan", "step", "[I", true)
  | _ => ("BudgetJury$Plan", "argument", "[I", true)
def tyX4 : Nat → FieldType := fun k => match k with
  | 0 => .int
  | 1 => .int
  | 2 => .int
  | 3 => .int
  | 4 => .int
  | 5 => .int
  | 6 => .array .int
  | 7 => .array .int
  | 8 => .array .int
  | 9 => .array .int
  | 10 => .array .int
  | 11 => .array .int
  | 12 => .array .int
  | 13 => .array .int
  | _ => .array .int
abbrev wsX40 : List Cond := u_ws RX4 TX4 15
theorem nmX4 : ∀ a, a < 15 → ∀ b, b < 15 → a ≠ b → (TX4 a).2.1 ≠ (TX4 b).2.1 := by decide +kernel
theorem tyX4_ok : ∀ k, k < 15 → parseFieldDescriptor (TX4 k).2.2.1 = some (tyX4 k) := by decide +kernel
abbrev cX4_init : ByteArray := prog_6_method_1_code
def yX4_init : MethodName := ⟨RX4, "<init>", "()V"⟩
abbrev cX4_clear : ByteArray := prog_6_method_2_code
def yX4_clear : MethodName := ⟨RX4, "clear", "()V"⟩
abbrev cX4_hasWard : ByteArray := prog_6_method_3_code
def yX4_hasWard : MethodName := ⟨RX4, "hasWard", "(I)Z"⟩
abbrev cX4_hasProject : ByteArray := prog_6_method_4_code
def yX4_hasProject : MethodName := ⟨RX4, "hasProject", "(I)Z"⟩
abbrev cX4_hasVoter : ByteArray := prog_6_method_5_code
def yX4_hasVoter : MethodName := ⟨RX4, "hasVoter", "(I)Z"⟩
def RX5 : String := "BudgetJury$Role"
def TX5 : u_T := fun k => match k with
  | _ => ("", "", "", false)
def tyX5 : Nat → FieldType := fun k => match k with
  | _ => .int
abbrev wsX50 : List Cond := u_ws RX5 TX5 0
theorem nmX5 : ∀ a, a < 0 → ∀ b, b < 0 → a ≠ b → (TX5 a).2.1 ≠ (TX5 b).2.1 := by decide +kernel
theorem tyX5_ok : ∀ k, k < 0 → parseFieldDescriptor (TX5 k).2.2.1 = some (tyX5 k) := by decide +kernel
def RX6 : String := "BudgetJury$Step"
def TX6 : u_T := fun k => match k with
  | _ => ("", "", "", false)
def tyX6 : Nat → FieldType := fun k => match k with
  | _ => .int
abbrev wsX60 : List Cond := u_ws RX6 TX6 0
theorem nmX6 : ∀ a, a < 0 → ∀ b, b < 0 → a ≠ b → (TX6 a).2.1 ≠ (TX6 b).2.1 := by decide +kernel
theorem tyX6_ok : ∀ k, k < 0 → parseFieldDescriptor (TX6 k).2.2.1 = some (tyX6 k) := by decide +kernel
def RX7 : String := "BudgetJury$Tokens"
def TX7 : u_T := fun k => match k with
  | 0 => ("BudgetJury$Tokens", "kind", "[I", true)
  | 1 => ("BudgetJury$Tokens", "value", "[J", true)
  | 2 => ("BudgetJury$Tokens", "start", "[I", true)
  | 3 => ("BudgetJury$Tokens", "keywords", "[J", true)
  | 4 => ("BudgetJury$Tokens", "tape", "[B", true)
  | 5 => ("BudgetJury$Tokens", "length", "I", false)
  | _ => ("BudgetJury$Tokens", "at", "I", false)
def tyX7 : Nat → FieldType := fun k => match k with
  | 0 => .array .int
  | 1 => .array .long
  | 2 => .array .int
  | 3 => .array .long
  | 4 => .array .byte
  | 5 => .int
  | _ => .int
abbrev wsX70 : List Cond := u_ws RX7 TX7 7
theorem nmX7 : ∀ a, a < 7 → ∀ b, b < 7 → a ≠ b → (TX7 a).2.1 ≠ (TX7 b).2.1 := by decide +kernel
theorem tyX7_ok : ∀ k, k < 7 → parseFieldDescriptor (TX7 k).2.2.1 = some (tyX7 k) := by decide +kernel
abbrev cX7_init : ByteArray := prog_9_method_1_code
def yX7_init : MethodName := ⟨RX7, "<init>", "([B)V"⟩
abbrev cX7_cut : ByteArray := prog_9_method_2_code
def yX7_cut : MethodName := ⟨RX7, "cut", "(I)V"⟩
abbrev cX7_startOf : ByteArray := prog_9_method_3_code
def yX7_startOf : MethodName := ⟨RX7, "startOf", "(I)I"⟩
abbrev cX7_skipBlanks : ByteArray := prog_9_method_4_code
def yX7_skipBlanks : MethodName := ⟨RX7, "skipBlanks", "()V"⟩
abbrev cX7_cutOne : ByteArray := prog_9_method_5_code
def yX7_cutOne : MethodName := ⟨RX7, "cutOne", "(I)I"⟩
abbrev cX7_cutWord : ByteArray := prog_9_method_6_code
def yX7_cutWord : MethodName := ⟨RX7, "cutWord", "(I)I"⟩
abbrev cX7_cutNumber : ByteArray := prog_9_method_7_code
def yX7_cutNumber : MethodName := ⟨RX7, "cutNumber", "(I)I"⟩
abbrev cX7_cutSymbol : ByteArray := prog_9_method_8_code
def yX7_cutSymbol : MethodName := ⟨RX7, "cutSymbol", "()I"⟩
abbrev cX7_signAt : ByteArray := prog_9_method_9_code
def yX7_signAt : MethodName := ⟨RX7, "signAt", "(I)I"⟩
abbrev cX7_isLetter : ByteArray := prog_9_method_10_code
def yX7_isLetter : MethodName := ⟨RX7, "isLetter", "(I)Z"⟩
abbrev cX7_isDigit : ByteArray := prog_9_method_11_code
def yX7_isDigit : MethodName := ⟨RX7, "isDigit", "(I)Z"⟩
abbrev cX7_digitOf : ByteArray := prog_9_method_12_code
def yX7_digitOf : MethodName := ⟨RX7, "digitOf", "(C)I"⟩
def RX8 : String := "BudgetJury"
def TX8 : u_T := fun k => match k with
  | 0 => ("BudgetJury", "tape", "[B", true)
  | 1 => ("BudgetJury", "tapeLength", "I", false)
  | 2 => ("BudgetJury", "errorPosition", "I", false)
  | 3 => ("BudgetJury", "plan", "LBudgetJury$Plan;", false)
  | 4 => ("BudgetJury", "draft", "LBudgetJury$Plan;", false)
  | 5 => ("BudgetJury", "tokens", "LBudgetJury$Tokens;", true)
  | 6 => ("BudgetJury", "grammar", "LBudgetJury$Grammar;", true)
  | 7 => ("BudgetJury", "checker", "LBudgetJury$Checker;", true)
  | 8 => ("BudgetJury", "now", "LBudgetJury$Parish;", true)
  | _ => ("BudgetJury", "trial", "LBudgetJury$Parish;", true)
def tyX8 : Nat → FieldType := fun k => match k with
  | 0 => .array .byte
  | 1 => .int
  | 2 => .int
  | 3 => .object "BudgetJury$Plan"
  | 4 => .object "BudgetJury$Plan"
  | 5 => .object "BudgetJury$Tokens"
  | 6 => .object "BudgetJury$Grammar"
  | 7 => .object "BudgetJury$Checker"
  | 8 => .object "BudgetJury$Parish"
  | _ => .object "BudgetJury$Parish"
abbrev wsX80 : List Cond := u_ws RX8 TX8 10
theorem nmX8 : ∀ a, a < 10 → ∀ b, b < 10 → a ≠ b → (TX8 a).2.1 ≠ (TX8 b).2.1 := by decide +kernel
theorem tyX8_ok : ∀ k, k < 10 → parseFieldDescriptor (TX8 k).2.2.1 = some (tyX8 k) := by decide +kernel
abbrev cX8_init : ByteArray := prog_1_method_1_code
def yX8_init : MethodName := ⟨RX8, "<init>", "()V"⟩
abbrev cX8_feed : ByteArray := prog_1_method_2_code
def yX8_feed : MethodName := ⟨RX8, "feed", "(IIIII)I"⟩
abbrev cX8_append : ByteArray := prog_1_method_3_code
def yX8_append : MethodName := ⟨RX8, "append", "(I)V"⟩
abbrev cX8_trim : ByteArray := prog_1_method_4_code
def yX8_trim : MethodName := ⟨RX8, "trim", "(I)I"⟩
abbrev cX8_teach : ByteArray := prog_1_method_5_code
def yX8_teach : MethodName := ⟨RX8, "teach", "()I"⟩
abbrev cX8_count : ByteArray := prog_1_method_7_code
def yX8_count : MethodName := ⟨RX8, "count", "(I)I"⟩
abbrev cX8_countOf : ByteArray := prog_1_method_8_code
def yX8_countOf : MethodName := ⟨RX8, "countOf", "(I)I"⟩
abbrev cX8_ward : ByteArray := prog_1_method_9_code
def yX8_ward : MethodName := ⟨RX8, "ward", "(II)I"⟩
abbrev cX8_project : ByteArray := prog_1_method_10_code
def yX8_project : MethodName := ⟨RX8, "project", "(II)I"⟩
abbrev cX8_share : ByteArray := prog_1_method_11_code
def yX8_share : MethodName := ⟨RX8, "share", "(I)I"⟩
abbrev cX8_voter : ByteArray := prog_1_method_12_code
def yX8_voter : MethodName := ⟨RX8, "voter", "(II)I"⟩
abbrev cX8_likes : ByteArray := prog_1_method_13_code
def yX8_likes : MethodName := ⟨RX8, "likes", "(II)Z"⟩
abbrev cX8_envy : ByteArray := prog_1_method_14_code
def yX8_envy : MethodName := ⟨RX8, "envy", "(II)I"⟩
abbrev cX8_next : ByteArray := prog_1_method_15_code
def yX8_next : MethodName := ⟨RX8, "next", "()I"⟩
abbrev cX8_approve : ByteArray := prog_1_method_16_code
def yX8_approve : MethodName := ⟨RX8, "approve", "(IIZ)Z"⟩
abbrev cX8_give : ByteArray := prog_1_method_17_code
def yX8_give : MethodName := ⟨RX8, "give", "(II)I"⟩
abbrev cX8_setBudget : ByteArray := prog_1_method_18_code
def yX8_setBudget : MethodName := ⟨RX8, "setBudget", "(I)I"⟩
abbrev cX8_open : ByteArray := prog_1_method_19_code
def yX8_open : MethodName := ⟨RX8, "open", "(I)I"⟩
abbrev cX8_pass : ByteArray := prog_1_method_20_code
def yX8_pass : MethodName := ⟨RX8, "pass", "(I)I"⟩
abbrev cX8_until : ByteArray := prog_1_method_21_code
def yX8_until : MethodName := ⟨RX8, "until", "(I)I"⟩
abbrev cX8_foresee : ByteArray := prog_1_method_22_code
def yX8_foresee : MethodName := ⟨RX8, "foresee", "(II)I"⟩
abbrev cX8_advise : ByteArray := prog_1_method_23_code
def yX8_advise : MethodName := ⟨RX8, "advise", "(II)I"⟩
abbrev cX8_spare : ByteArray := prog_1_method_24_code
def yX8_spare : MethodName := ⟨RX8, "spare", "(I)I"⟩
abbrev cX8_mean : ByteArray := prog_1_method_25_code
def yX8_mean : MethodName := ⟨RX8, "mean", "()D"⟩
abbrev cX8_digest : ByteArray := prog_1_method_26_code
def yX8_digest : MethodName := ⟨RX8, "digest", "()J"⟩
def RX9 : String := "BudgetJuryLaw$Sim"
def TX9 : u_T := fun k => match k with
  | 0 => ("BudgetJuryLaw$Sim", "year", "I", false)
  | 1 => ("BudgetJuryLaw$Sim", "pot", "I", false)
  | 2 => ("BudgetJuryLaw$Sim", "paid", "I", false)
  | 3 => ("BudgetJuryLaw$Sim", "budget", "I", false)
  | 4 => ("BudgetJuryLaw$Sim", "caps", "[I", false)
  | 5 => ("BudgetJuryLaw$Sim", "projects", "[[I", false)
  | 6 => ("BudgetJuryLaw$Sim", "voters", "[[I", false)
  | 7 => ("BudgetJuryLaw$Sim", "likes", "[[Z", false)
  | 8 => ("BudgetJuryLaw$Sim", "bans", "[[I", false)
  | _ => ("BudgetJuryLaw$Sim", "barred", "I", false)
def tyX9 : Nat → FieldType := fun k => match k with
  | 0 => .int
  | 1 => .int
  | 2 => .int
  | 3 => .int
  | 4 => .array .int
  | 5 => .array (.array .int)
  | 6 => .array (.array .int)
  | 7 => .array (.array .boolean)
  | 8 => .array (.array .int)
  | _ => .int
abbrev wsX90 : List Cond := u_ws RX9 TX9 10
theorem nmX9 : ∀ a, a < 10 → ∀ b, b < 10 → a ≠ b → (TX9 a).2.1 ≠ (TX9 b).2.1 := by decide +kernel
theorem tyX9_ok : ∀ k, k < 10 → parseFieldDescriptor (TX9 k).2.2.1 = some (tyX9 k) := by decide +kernel
abbrev cX9_init : ByteArray := prog_11_method_1_code
def yX9_init : MethodName := ⟨RX9, "<init>", "()V"⟩
abbrev cX9_fans : ByteArray := prog_11_method_2_code
def yX9_fans : MethodName := ⟨RX9, "fans", "(I)I"⟩
abbrev cX9_rich : ByteArray := prog_11_method_3_code
def yX9_rich : MethodName := ⟨RX9, "rich", "(I)I"⟩
abbrev cX9_pleased : ByteArray := prog_11_method_4_code
def yX9_pleased : MethodName := ⟨RX9, "pleased", "(I)I"⟩
abbrev cX9_holds : ByteArray := prog_11_method_5_code
def yX9_holds : MethodName := ⟨RX9, "holds", "([I)Z"⟩
abbrev cX9_isBanned : ByteArray := prog_11_method_6_code
def yX9_isBanned : MethodName := ⟨RX9, "isBanned", "(I)Z"⟩
abbrev cX9_canBe : ByteArray := prog_11_method_7_code
def yX9_canBe : MethodName := ⟨RX9, "canBe", "(I)Z"⟩
abbrev cX9_share : ByteArray := prog_11_method_8_code
def yX9_share : MethodName := ⟨RX9, "share", "(I)I"⟩
abbrev cX9_open : ByteArray := prog_11_method_9_code
def yX9_open : MethodName := ⟨RX9, "open", "()V"⟩
abbrev cX9_next : ByteArray := prog_11_method_10_code
def yX9_next : MethodName := ⟨RX9, "next", "()I"⟩
abbrev cX9_buy : ByteArray := prog_11_method_11_code
def yX9_buy : MethodName := ⟨RX9, "buy", "(I)V"⟩
abbrev cX9_build : ByteArray := prog_11_method_12_code
def yX9_build : MethodName := ⟨RX9, "build", "(I)V"⟩
abbrev cX9_pass : ByteArray := prog_11_method_13_code
def yX9_pass : MethodName := ⟨RX9, "pass", "()I"⟩
abbrev cX9_same : ByteArray := prog_11_method_15_code
def yX9_same : MethodName := ⟨RX9, "same", "([[I)[[I"⟩
abbrev cX9_copy : ByteArray := prog_11_method_16_code
def yX9_copy : MethodName := ⟨RX9, "copy", "()LBudgetJuryLaw$Sim;"⟩
abbrev cX9_built : ByteArray := prog_11_method_17_code
def yX9_built : MethodName := ⟨RX9, "built", "()I"⟩
abbrev cX9_counts : ByteArray := prog_11_method_18_code
def yX9_counts : MethodName := ⟨RX9, "counts", "()[I"⟩
abbrev cX9_isSame : ByteArray := prog_11_method_19_code
def yX9_isSame : MethodName := ⟨RX9, "isSame", "(LBudgetJury;)Z"⟩
def RX10 : String := "BudgetJuryModel$Plan"
def TX10 : u_T := fun k => match k with
  | _ => ("", "", "", false)
def tyX10 : Nat → FieldType := fun k => match k with
  | _ => .int
abbrev wsX100 : List Cond := u_ws RX10 TX10 0
theorem nmX10 : ∀ a, a < 0 → ∀ b, b < 0 → a ≠ b → (TX10 a).2.1 ≠ (TX10 b).2.1 := by decide +kernel
theorem tyX10_ok : ∀ k, k < 0 → parseFieldDescriptor (TX10 k).2.2.1 = some (tyX10 k) := by decide +kernel
def RX11 : String := "BudgetJuryModel$State"
def TX11 : u_T := fun k => match k with
  | _ => ("", "", "", false)
def tyX11 : Nat → FieldType := fun k => match k with
  | _ => .int
abbrev wsX110 : List Cond := u_ws RX11 TX11 0
theorem nmX11 : ∀ a, a < 0 → ∀ b, b < 0 → a ≠ b → (TX11 a).2.1 ≠ (TX11 b).2.1 := by decide +kernel
theorem tyX11_ok : ∀ k, k < 0 → parseFieldDescriptor (TX11 k).2.2.1 = some (tyX11 k) := by decide +kernel
def RX12 : String := "BudgetJuryModel"
def TX12 : u_T := fun k => match k with
  | _ => ("", "", "", false)
def tyX12 : Nat → FieldType := fun k => match k with
  | _ => .int
abbrev wsX120 : List Cond := u_ws RX12 TX12 0
theorem nmX12 : ∀ a, a < 0 → ∀ b, b < 0 → a ≠ b → (TX12 a).2.1 ≠ (TX12 b).2.1 := by decide +kernel
theorem tyX12_ok : ∀ k, k < 0 → parseFieldDescriptor (TX12 k).2.2.1 = some (tyX12 k) := by decide +kernel
def RJ5 : String := "java/lang/AbstractStringBuilder"
def TJ5 : u_T := fun k => match k with
  | _ => ("", "", "", false)
def tyJ5 : Nat → FieldType := fun k => match k with
  | _ => .int
abbrev wsJ50 : List Cond := u_ws RJ5 TJ5 0
theorem nmJ5 : ∀ a, a < 0 → ∀ b, b < 0 → a ≠ b → (TJ5 a).2.1 ≠ (TJ5 b).2.1 := by decide +kernel
theorem tyJ5_ok : ∀ k, k < 0 → parseFieldDescriptor (TJ5 k).2.2.1 = some (tyJ5 k) := by decide +kernel
abbrev cJ5_init_d00df : ByteArray := prog_15_method_2_code
def yJ5_init_d00df : MethodName := ⟨RJ5, "<init>", "(I)V"⟩
abbrev cJ5_length_8abf5 : ByteArray := prog_15_method_6_code
def yJ5_length_8abf5 : MethodName := ⟨RJ5, "length", "()I"⟩
abbrev cJ5_ensureCapacityInternal_d00df : ByteArray := prog_15_method_9_code
def yJ5_ensureCapacityInternal_d00df : MethodName := ⟨RJ5, "ensureCapacityInternal", "(I)V"⟩
abbrev cJ5_newCapacity_0f7a4 : ByteArray := prog_15_method_10_code
def yJ5_newCapacity_0f7a4 : MethodName := ⟨RJ5, "newCapacity", "(I)I"⟩
abbrev cJ5_inflate_da8c8 : ByteArray := prog_15_method_11_code
def yJ5_inflate_da8c8 : MethodName := ⟨RJ5, "inflate", "()V"⟩
abbrev cJ5_append_cf1ce : ByteArray := prog_15_method_22_code
def yJ5_append_cf1ce : MethodName := ⟨RJ5, "append", "(Ljava/lang/String;)Ljava/lang/AbstractStringBuilder;"⟩
abbrev cJ5_appendNull_278bc : ByteArray := prog_15_method_26_code
def yJ5_appendNull_278bc : MethodName := ⟨RJ5, "appendNull", "()Ljava/lang/AbstractStringBuilder;"⟩
abbrev cJ5_append_c97b9 : ByteArray := prog_15_method_32_code
def yJ5_append_c97b9 : MethodName := ⟨RJ5, "append", "(I)Ljava/lang/AbstractStringBuilder;"⟩
abbrev cJ5_getValue_6d5f1 : ByteArray := prog_15_method_64_code
def yJ5_getValue_6d5f1 : MethodName := ⟨RJ5, "getValue", "()[B"⟩
abbrev cJ5_isLatin1_aae02 : ByteArray := prog_15_method_68_code
def yJ5_isLatin1_aae02 : MethodName := ⟨RJ5, "isLatin1", "()Z"⟩
abbrev cJ5_inflateIfNeededFor_a7421 : ByteArray := prog_15_method_71_code
def yJ5_inflateIfNeededFor_a7421 : MethodName := ⟨RJ5, "inflateIfNeededFor", "(Ljava/lang/String;)V"⟩
abbrev cJ5_putStringAt_47b60 : ByteArray := prog_15_method_73_code
def yJ5_putStringAt_47b60 : MethodName := ⟨RJ5, "putStringAt", "(ILjava/lang/String;)V"⟩
def RJ11 : String := "java/lang/Character"
def TJ11 : u_T := fun k => match k with
  | _ => ("", "", "", false)
def tyJ11 : Nat → FieldType := fun k => match k with
  | _ => .int
abbrev wsJ110 : List Cond := u_ws RJ11 TJ11 0
theorem nmJ11 : ∀ a, a < 0 → ∀ b, b < 0 → a ≠ b → (TJ11 a).2.1 ≠ (TJ11 b).2.1 := by decide +kernel
theorem tyJ11_ok : ∀ k, k < 0 → parseFieldDescriptor (TJ11 k).2.2.1 = some (tyJ11 k) := by decide +kernel
abbrev cJ11_isValidCodePoint_9a6ad : ByteArray := prog_16_method_11_code
def yJ11_isValidCodePoint_9a6ad : MethodName := ⟨RJ11, "isValidCodePoint", "(I)Z"⟩
abbrev cJ11_highSurrogate_5068e : ByteArray := prog_16_method_28_code
def yJ11_highSurrogate_5068e : MethodName := ⟨RJ11, "highSurrogate", "(I)C"⟩
abbrev cJ11_lowSurrogate_5068e : ByteArray := prog_16_method_29_code
def yJ11_lowSurrogate_5068e : MethodName := ⟨RJ11, "lowSurrogate", "(I)C"⟩
def RJ6 : String := "java/lang/Integer"
def TJ6 : u_T := fun k => match k with
  | _ => ("", "", "", false)
def tyJ6 : Nat → FieldType := fun k => match k with
  | _ => .int
abbrev wsJ60 : List Cond := u_ws RJ6 TJ6 0
theorem nmJ6 : ∀ a, a < 0 → ∀ b, b < 0 → a ≠ b → (TJ6 a).2.1 ≠ (TJ6 b).2.1 := by decide +kernel
theorem tyJ6_ok : ∀ k, k < 0 → parseFieldDescriptor (TJ6 k).2.2.1 = some (tyJ6 k) := by decide +kernel
abbrev cJ6_getChars_ba4f3 : ByteArray := prog_23_method_12_code
def yJ6_getChars_ba4f3 : MethodName := ⟨RJ6, "getChars", "(II[B)I"⟩
abbrev cJ6_stringSize_0f7a4 : ByteArray := prog_23_method_13_code
def yJ6_stringSize_0f7a4 : MethodName := ⟨RJ6, "stringSize", "(I)I"⟩
abbrev cJ6_bitCount_0f7a4 : ByteArray := prog_23_method_49_code
def yJ6_bitCount_0f7a4 : MethodName := ⟨RJ6, "bitCount", "(I)I"⟩
def RJ9 : String := "java/lang/Math"
def TJ9 : u_T := fun k => match k with
  | _ => ("", "", "", false)
def tyJ9 : Nat → FieldType := fun k => match k with
  | _ => .int
abbrev wsJ90 : List Cond := u_ws RJ9 TJ9 0
theorem nmJ9 : ∀ a, a < 0 → ∀ b, b < 0 → a ≠ b → (TJ9 a).2.1 ≠ (TJ9 b).2.1 := by decide +kernel
theorem tyJ9_ok : ∀ k, k < 0 → parseFieldDescriptor (TJ9 k).2.2.1 = some (tyJ9 k) := by decide +kernel
abbrev cJ9_abs_294c1 : ByteArray := prog_24_method_64_code
def yJ9_abs_294c1 : MethodName := ⟨RJ9, "abs", "(D)D"⟩
abbrev cJ9_max_7cf53 : ByteArray := prog_24_method_65_code
def yJ9_max_7cf53 : MethodName := ⟨RJ9, "max", "(II)I"⟩
abbrev cJ9_min_7cf53 : ByteArray := prog_24_method_69_code
def yJ9_min_7cf53 : MethodName := ⟨RJ9, "min", "(II)I"⟩
def RJ0 : String := "java/lang/String"
def TJ0 : u_T := fun k => match k with
  | 0 => ("java/lang/String", "value", "[B", true)
  | 1 => ("java/lang/String", "coder", "B", true)
  | 2 => ("java/lang/String", "hash", "I", false)
  | _ => ("java/lang/String", "hashIsZero", "Z", false)
def tyJ0 : Nat → FieldType := fun k => match k with
  | 0 => .array .byte
  | 1 => .byte
  | 2 => .int
  | _ => .boolean
abbrev wsJ00 : List Cond := u_ws RJ0 TJ0 4
theorem nmJ0 : ∀ a, a < 4 → ∀ b, b < 4 → a ≠ b → (TJ0 a).2.1 ≠ (TJ0 b).2.1 := by decide +kernel
theorem tyJ0_ok : ∀ k, k < 4 → parseFieldDescriptor (TJ0 k).2.2.1 = some (tyJ0 k) := by decide +kernel
abbrev cJ0_init_81219 : ByteArray := prog_27_method_53_code
def yJ0_init_81219 : MethodName := ⟨RJ0, "<init>", "(Ljava/lang/StringBuilder;)V"⟩
abbrev cJ0_length_8abf5 : ByteArray := prog_27_method_54_code
def yJ0_length_8abf5 : MethodName := ⟨RJ0, "length", "()I"⟩
abbrev cJ0_charAt_5068e : ByteArray := prog_27_method_56_code
def yJ0_charAt_5068e : MethodName := ⟨RJ0, "charAt", "(I)C"⟩
abbrev cJ0_indexOf_0f7a4 : ByteArray := prog_27_method_79_code
def yJ0_indexOf_0f7a4 : MethodName := ⟨RJ0, "indexOf", "(I)I"⟩
abbrev cJ0_indexOf_7cf53 : ByteArray := prog_27_method_80_code
def yJ0_indexOf_7cf53 : MethodName := ⟨RJ0, "indexOf", "(II)I"⟩
abbrev cJ0_getBytes_840e7 : ByteArray := prog_27_method_147_code
def yJ0_getBytes_840e7 : MethodName := ⟨RJ0, "getBytes", "([BIB)V"⟩
abbrev cJ0_init_db425 : ByteArray := prog_27_method_150_code
def yJ0_init_db425 : MethodName := ⟨RJ0, "<init>", "(Ljava/lang/AbstractStringBuilder;Ljava/lang/Void;)V"⟩
abbrev cJ0_coder_7d493 : ByteArray := prog_27_method_152_code
def yJ0_coder_7d493 : MethodName := ⟨RJ0, "coder", "()B"⟩
abbrev cJ0_isLatin1_aae02 : ByteArray := prog_27_method_154_code
def yJ0_isLatin1_aae02 : MethodName := ⟨RJ0, "isLatin1", "()Z"⟩
abbrev cJ0_checkIndex_df160 : ByteArray := prog_27_method_155_code
def yJ0_checkIndex_df160 : MethodName := ⟨RJ0, "checkIndex", "(II)V"⟩
abbrev cJ0_checkBoundsOffCount_cabcc : ByteArray := prog_27_method_157_code
def yJ0_checkBoundsOffCount_cabcc : MethodName := ⟨RJ0, "checkBoundsOffCount", "(III)I"⟩
abbrev cJ0_checkBoundsBeginEnd_23922 : ByteArray := prog_27_method_158_code
def yJ0_checkBoundsBeginEnd_23922 : MethodName := ⟨RJ0, "checkBoundsBeginEnd", "(III)V"⟩
def RJ4 : String := "java/lang/StringBuilder"
def TJ4 : u_T := fun k => match k with
  | 0 => ("java/lang/AbstractStringBuilder", "value", "[B", false)
  | 1 => ("java/lang/AbstractStringBuilder", "coder", "B", false)
  | 2 => ("java/lang/AbstractStringBuilder", "maybeLatin1", "Z", false)
  | _ => ("java/lang/AbstractStringBuilder", "count", "I", false)
def tyJ4 : Nat → FieldType := fun k => match k with
  | 0 => .array .byte
  | 1 => .byte
  | 2 => .boolean
  | _ => .int
abbrev wsJ40 : List Cond := u_ws RJ4 TJ4 4
theorem nmJ4 : ∀ a, a < 4 → ∀ b, b < 4 → a ≠ b → (TJ4 a).2.1 ≠ (TJ4 b).2.1 := by decide +kernel
theorem tyJ4_ok : ∀ k, k < 4 → parseFieldDescriptor (TJ4 k).2.2.1 = some (tyJ4 k) := by decide +kernel
abbrev cJ4_init_da8c8 : ByteArray := prog_28_method_1_code
def yJ4_init_da8c8 : MethodName := ⟨RJ4, "<init>", "()V"⟩
abbrev cJ4_append_15ec4 : ByteArray := prog_28_method_7_code
def yJ4_append_15ec4 : MethodName := ⟨RJ4, "append", "(Ljava/lang/String;)Ljava/lang/StringBuilder;"⟩
abbrev cJ4_append_bf812 : ByteArray := prog_28_method_15_code
def yJ4_append_bf812 : MethodName := ⟨RJ4, "append", "(I)Ljava/lang/StringBuilder;"⟩
abbrev cJ4_toString_0e30d : ByteArray := prog_28_method_42_code
def yJ4_toString_0e30d : MethodName := ⟨RJ4, "toString", "()Ljava/lang/String;"⟩
abbrev cJ4_length_8abf5 : ByteArray := prog_28_method_93_code
def yJ4_length_8abf5 : MethodName := ⟨RJ4, "length", "()I"⟩
def RJ1 : String := "java/lang/StringLatin1"
def TJ1 : u_T := fun k => match k with
  | _ => ("", "", "", false)
def tyJ1 : Nat → FieldType := fun k => match k with
  | _ => .int
abbrev wsJ10 : List Cond := u_ws RJ1 TJ1 0
theorem nmJ1 : ∀ a, a < 0 → ∀ b, b < 0 → a ≠ b → (TJ1 a).2.1 ≠ (TJ1 b).2.1 := by decide +kernel
theorem tyJ1_ok : ∀ k, k < 0 → parseFieldDescriptor (TJ1 k).2.2.1 = some (tyJ1 k) := by decide +kernel
abbrev cJ1_charAt_3b067 : ByteArray := prog_29_method_2_code
def yJ1_charAt_3b067 : MethodName := ⟨RJ1, "charAt", "([BI)C"⟩
abbrev cJ1_canEncode_9a6ad : ByteArray := prog_29_method_4_code
def yJ1_canEncode_9a6ad : MethodName := ⟨RJ1, "canEncode", "(I)Z"⟩
abbrev cJ1_indexOf_4cfef : ByteArray := prog_29_method_22_code
def yJ1_indexOf_4cfef : MethodName := ⟨RJ1, "indexOf", "([BIII)I"⟩
abbrev cJ1_indexOfChar_4cfef : ByteArray := prog_29_method_23_code
def yJ1_indexOfChar_4cfef : MethodName := ⟨RJ1, "indexOfChar", "([BIII)I"⟩
abbrev cJ1_inflate_0e8fd : ByteArray := prog_29_method_50_code
def yJ1_inflate_0e8fd : MethodName := ⟨RJ1, "inflate", "([BI[BII)V"⟩
def RJ2 : String := "java/lang/StringUTF16"
def TJ2 : u_T := fun k => match k with
  | _ => ("", "", "", false)
def tyJ2 : Nat → FieldType := fun k => match k with
  | _ => .int
abbrev wsJ20 : List Cond := u_ws RJ2 TJ2 0
theorem nmJ2 : ∀ a, a < 0 → ∀ b, b < 0 → a ≠ b → (TJ2 a).2.1 ≠ (TJ2 b).2.1 := by decide +kernel
theorem tyJ2_ok : ∀ k, k < 0 → parseFieldDescriptor (TJ2 k).2.2.1 = some (tyJ2 k) := by decide +kernel
abbrev cJ2_newBytesFor_77867 : ByteArray := prog_30_method_2_code
def yJ2_newBytesFor_77867 : MethodName := ⟨RJ2, "newBytesFor", "(I)[B"⟩
abbrev cJ2_newBytesLength_0f7a4 : ByteArray := prog_30_method_3_code
def yJ2_newBytesLength_0f7a4 : MethodName := ⟨RJ2, "newBytesLength", "(I)I"⟩
abbrev cJ2_putChar_b72d1 : ByteArray := prog_30_method_4_code
def yJ2_putChar_b72d1 : MethodName := ⟨RJ2, "putChar", "([BII)V"⟩
abbrev cJ2_getChar_3b067 : ByteArray := prog_30_method_5_code
def yJ2_getChar_3b067 : MethodName := ⟨RJ2, "getChar", "([BI)C"⟩
abbrev cJ2_length_9d52b : ByteArray := prog_30_method_6_code
def yJ2_length_9d52b : MethodName := ⟨RJ2, "length", "([B)I"⟩
abbrev cJ2_coderFromArrayLen_85cad : ByteArray := prog_30_method_15_code
def yJ2_coderFromArrayLen_85cad : MethodName := ⟨RJ2, "coderFromArrayLen", "([BI)B"⟩
abbrev cJ2_compress_39247 : ByteArray := prog_30_method_17_code
def yJ2_compress_39247 : MethodName := ⟨RJ2, "compress", "([BII)[B"⟩
abbrev cJ2_compress_5af95 : ByteArray := prog_30_method_22_code
def yJ2_compress_5af95 : MethodName := ⟨RJ2, "compress", "([BI[BII)I"⟩
abbrev cJ2_indexOf_4cfef : ByteArray := prog_30_method_40_code
def yJ2_indexOf_4cfef : MethodName := ⟨RJ2, "indexOf", "([BIII)I"⟩
abbrev cJ2_indexOfChar_4cfef : ByteArray := prog_30_method_47_code
def yJ2_indexOfChar_4cfef : MethodName := ⟨RJ2, "indexOfChar", "([BIII)I"⟩
abbrev cJ2_indexOfCharUnsafe_4cfef : ByteArray := prog_30_method_48_code
def yJ2_indexOfCharUnsafe_4cfef : MethodName := ⟨RJ2, "indexOfCharUnsafe", "([BIII)I"⟩
abbrev cJ2_indexOfSupplementary_4cfef : ByteArray := prog_30_method_49_code
def yJ2_indexOfSupplementary_4cfef : MethodName := ⟨RJ2, "indexOfSupplementary", "([BIII)I"⟩
abbrev cJ2_getChars_46870 : ByteArray := prog_30_method_77_code
def yJ2_getChars_46870 : MethodName := ⟨RJ2, "getChars", "(III[B)I"⟩
abbrev cJ2_putCharsAt_cd4e5 : ByteArray := prog_30_method_81_code
def yJ2_putCharsAt_cd4e5 : MethodName := ⟨RJ2, "putCharsAt", "([BICCCC)I"⟩
abbrev cJ2_charAt_3b067 : ByteArray := prog_30_method_83_code
def yJ2_charAt_3b067 : MethodName := ⟨RJ2, "charAt", "([BI)C"⟩
abbrev cJ2_inflate_0e8fd : ByteArray := prog_30_method_86_code
def yJ2_inflate_0e8fd : MethodName := ⟨RJ2, "inflate", "([BI[BII)V"⟩
abbrev cJ2_getChars_ba4f3 : ByteArray := prog_30_method_89_code
def yJ2_getChars_ba4f3 : MethodName := ⟨RJ2, "getChars", "(II[B)I"⟩
abbrev cJ2_checkIndex_2214a : ByteArray := prog_30_method_91_code
def yJ2_checkIndex_2214a : MethodName := ⟨RJ2, "checkIndex", "(I[B)V"⟩
abbrev cJ2_checkBoundsBeginEnd_d044e : ByteArray := prog_30_method_93_code
def yJ2_checkBoundsBeginEnd_d044e : MethodName := ⟨RJ2, "checkBoundsBeginEnd", "(II[B)V"⟩
abbrev cJ2_checkBoundsOffCount_d044e : ByteArray := prog_30_method_94_code
def yJ2_checkBoundsOffCount_d044e : MethodName := ⟨RJ2, "checkBoundsOffCount", "(II[B)V"⟩
def RJ10 : String := "java/lang/System"
def TJ10 : u_T := fun k => match k with
  | _ => ("", "", "", false)
def tyJ10 : Nat → FieldType := fun k => match k with
  | _ => .int
abbrev wsJ100 : List Cond := u_ws RJ10 TJ10 0
theorem nmJ10 : ∀ a, a < 0 → ∀ b, b < 0 → a ≠ b → (TJ10 a).2.1 ≠ (TJ10 b).2.1 := by decide +kernel
theorem tyJ10_ok : ∀ k, k < 0 → parseFieldDescriptor (TJ10 k).2.2.1 = some (tyJ10 k) := by decide +kernel
def RJ7 : String := "java/util/Arrays"
def TJ7 : u_T := fun k => match k with
  | _ => ("", "", "", false)
def tyJ7 : Nat → FieldType := fun k => match k with
  | _ => .int
abbrev wsJ70 : List Cond := u_ws RJ7 TJ7 0
theorem nmJ7 : ∀ a, a < 0 → ∀ b, b < 0 → a ≠ b → (TJ7 a).2.1 ≠ (TJ7 b).2.1 := by decide +kernel
theorem tyJ7_ok : ∀ k, k < 0 → parseFieldDescriptor (TJ7 k).2.2.1 = some (tyJ7 k) := by decide +kernel
abbrev cJ7_sort_2022b : ByteArray := prog_33_method_2_code
def yJ7_sort_2022b : MethodName := ⟨RJ7, "sort", "([I)V"⟩
abbrev cJ7_copyOf_9075b : ByteArray := prog_33_method_121_code
def yJ7_copyOf_9075b : MethodName := ⟨RJ7, "copyOf", "([BI)[B"⟩
abbrev cJ7_copyOf_59c91 : ByteArray := prog_33_method_123_code
def yJ7_copyOf_59c91 : MethodName := ⟨RJ7, "copyOf", "([II)[I"⟩
abbrev cJ7_checkLength_df160 : ByteArray := prog_33_method_131_code
def yJ7_checkLength_df160 : MethodName := ⟨RJ7, "checkLength", "(II)V"⟩
abbrev cJ7_copyOfRange_39247 : ByteArray := prog_33_method_132_code
def yJ7_copyOfRange_39247 : MethodName := ⟨RJ7, "copyOfRange", "([BII)[B"⟩
abbrev cJ7_copyOfRangeByte_39247 : ByteArray := prog_33_method_133_code
def yJ7_copyOfRangeByte_39247 : MethodName := ⟨RJ7, "copyOfRangeByte", "([BII)[B"⟩
def RX13 : String := "java/util/DualPivotQuicksort"
def TX13 : u_T := fun k => match k with
  | _ => ("", "", "", false)
def tyX13 : Nat → FieldType := fun k => match k with
  | _ => .int
abbrev wsX130 : List Cond := u_ws RX13 TX13 0
theorem nmX13 : ∀ a, a < 0 → ∀ b, b < 0 → a ≠ b → (TX13 a).2.1 ≠ (TX13 b).2.1 := by decide +kernel
theorem tyX13_ok : ∀ k, k < 0 → parseFieldDescriptor (TX13 k).2.2.1 = some (tyX13 k) := by decide +kernel
abbrev cX13_sort : ByteArray := prog_34_method_3_code
def yX13_sort : MethodName := ⟨RX13, "sort", "([IIII)V"⟩
abbrev cX13_sort_ : ByteArray := prog_34_method_4_code
def yX13_sort_ : MethodName := ⟨RX13, "sort", "(Ljava/util/DualPivotQuicksort$Sorter;[IIII)V"⟩
abbrev cX13_mixedInsertionSort : ByteArray := prog_34_method_5_code
def yX13_mixedInsertionSort : MethodName := ⟨RX13, "mixedInsertionSort", "([IIII)V"⟩
abbrev cX13_insertionSort : ByteArray := prog_34_method_6_code
def yX13_insertionSort : MethodName := ⟨RX13, "insertionSort", "([III)V"⟩
abbrev cX13_heapSort : ByteArray := prog_34_method_7_code
def yX13_heapSort : MethodName := ⟨RX13, "heapSort", "([III)V"⟩
abbrev cX13_pushDown : ByteArray := prog_34_method_8_code
def yX13_pushDown : MethodName := ⟨RX13, "pushDown", "([IIIII)V"⟩
abbrev cX13_tryMergeRuns : ByteArray := prog_34_method_9_code
def yX13_tryMergeRuns : MethodName := ⟨RX13, "tryMergeRuns", "(Ljava/util/DualPivotQuicksort$Sorter;[III)Z"⟩
abbrev cX13_mergeRuns : ByteArray := prog_34_method_10_code
def yX13_mergeRuns : MethodName := ⟨RX13, "mergeRuns", "([I[IIIZ[III)[I"⟩
abbrev cX13_mergeParts : ByteArray := prog_34_method_11_code
def yX13_mergeParts : MethodName := ⟨RX13, "mergeParts", "(Ljava/util/DualPivotQuicksort$Merger;[II[III[III)V"⟩
def RJ8 : String := "jdk/internal/util/ArraysSupport"
def TJ8 : u_T := fun k => match k with
  | _ => ("", "", "", false)
def tyJ8 : Nat → FieldType := fun k => match k with
  | _ => .int
abbrev wsJ80 : List Cond := u_ws RJ8 TJ8 0
theorem nmJ8 : ∀ a, a < 0 → ∀ b, b < 0 → a ≠ b → (TJ8 a).2.1 ≠ (TJ8 b).2.1 := by decide +kernel
theorem tyJ8_ok : ∀ k, k < 0 → parseFieldDescriptor (TJ8 k).2.2.1 = some (tyJ8 k) := by decide +kernel
abbrev cJ8_newLength_cabcc : ByteArray := prog_35_method_27_code
def yJ8_newLength_cabcc : MethodName := ⟨RJ8, "newLength", "(III)I"⟩
abbrev cJ8_hugeLength_7cf53 : ByteArray := prog_35_method_28_code
def yJ8_hugeLength_7cf53 : MethodName := ⟨RJ8, "hugeLength", "(II)I"⟩
def RJ3 : String := "jdk/internal/util/Preconditions"
def TJ3 : u_T := fun k => match k with
  | _ => ("", "", "", false)
def tyJ3 : Nat → FieldType := fun k => match k with
  | _ => .int
abbrev wsJ30 : List Cond := u_ws RJ3 TJ3 0
theorem nmJ3 : ∀ a, a < 0 → ∀ b, b < 0 → a ≠ b → (TJ3 a).2.1 ≠ (TJ3 b).2.1 := by decide +kernel
theorem tyJ3_ok : ∀ k, k < 0 → parseFieldDescriptor (TJ3 k).2.2.1 = some (tyJ3 k) := by decide +kernel
abbrev cJ3_checkIndex_8e157 : ByteArray := prog_36_method_11_code
def yJ3_checkIndex_8e157 : MethodName := ⟨RJ3, "checkIndex", "(IILjava/util/function/BiFunction;)I"⟩
abbrev cJ3_checkFromToIndex_8c36e : ByteArray := prog_36_method_12_code
def yJ3_checkFromToIndex_8c36e : MethodName := ⟨RJ3, "checkFromToIndex", "(IIILjava/util/function/BiFunction;)I"⟩
abbrev cJ3_checkFromIndexSize_8c36e : ByteArray := prog_36_method_13_code
def yJ3_checkFromIndexSize_8c36e : MethodName := ⟨RJ3, "checkFromIndexSize", "(IIILjava/util/function/BiFunction;)I"⟩
def RL : String := "BudgetJuryLaw"
abbrev cL_below : ByteArray := method_2_code
def yL_below : MethodName := ⟨RL, "below", "(II)I"⟩
abbrev cL_cell : ByteArray := method_3_code
def yL_cell : MethodName := ⟨RL, "cell", "([II)I"⟩
abbrev cL_taught : ByteArray := method_4_code
def yL_taught : MethodName := ⟨RL, "taught", "(LBudgetJury;Ljava/lang/String;)I"⟩
abbrev cL_test : ByteArray := method_5_code
def yL_test : MethodName := ⟨RL, "test", "([ILBudgetJuryLaw$Sim;)Ljava/lang/String;"⟩
abbrev cL_list : ByteArray := method_6_code
def yL_list : MethodName := ⟨RL, "list", "([ILjava/lang/StringBuilder;)LBudgetJuryLaw$Sim;"⟩
abbrev cL_act : ByteArray := method_7_code
def yL_act : MethodName := ⟨RL, "act", "(LBudgetJury;LBudgetJuryLaw$Sim;I)Z"⟩
abbrev cL_law : ByteArray := code
def yL_law : MethodName := ⟨RL, "law", "([I)Z"⟩
abbrev vwCl : List vw_C := [(RX0, TX0, 7), (RX1, TX1, 5), (RX3, TX3, 15), (RX4, TX4, 15), (RX7, TX7, 7), (RX8, TX8, 10), (RX9, TX9, 10), (RJ4, TJ4, 4), (RJ0, TJ0, 4)]
end
section
/-! ===== THE ABSTRACT MACHINE: whole numbers on stack and in locals, a heap of tags, lengths and contents at addresses counted from where the law began ===== -/
/-- a value: 0 int, 1 long, 2 an object's address (-1 null), 3 double (its bits), 4 the script, 5 a text, 6 the row of words, 7 a text's bytes, 8 second half, 9 nothing, 10 some reference, 11 some old reference or null -/
abbrev AV : Type := Nat × Int
/-- a heap: tags (0 nothing), lengths, contents, the next address, the script's length and ints -/
abbrev AH : Type := (Int → Nat) × (Int → Int) × (Int → Int → Int) × Int × Int × (Int → Int)
def am_t (h : AH) (a : Int) : Nat := h.1 a
def am_l (h : AH) (a : Int) : Int := h.2.1 a
def am_m (h : AH) (a i : Int) : Int := h.2.2.1 a i
def am_n (h : AH) : Int := h.2.2.2.1
def am_sl (h : AH) : Int := h.2.2.2.2.1
def am_sx (h : AH) (i : Int) : Int := h.2.2.2.2.2 i
def am_w (h : AH) (a i v : Int) : AH := (h.1, h.2.1, fun b j => if b = a ∧ j = i then v else h.2.2.1 b j, h.2.2.2)
def am_a (h : AH) (t : Nat) (n : Int) (f : Int → Int) : AH := (fun b => if b = h.2.2.2.1 then t else h.1 b, fun b => if b = h.2.2.2.1 then n else h.2.1 b, fun b j => if b = h.2.2.2.1 then f j else h.2.2.1 b j, h.2.2.2.1 + 1, h.2.2.2.2)
def am_sn (h : AH) (n : Int) : AH := (h.1, h.2.1, h.2.2.1, n, h.2.2.2.2)
/-- a row of n rows of m zeros -/
def am_mk2 (h : AH) (t u : Nat) (n m : Int) : AH := (fun b => if b = h.2.2.2.1 then t else if h.2.2.2.1 < b ∧ b ≤ h.2.2.2.1 + n then u else h.1 b, fun b => if b = h.2.2.2.1 then n else if h.2.2.2.1 < b ∧ b ≤ h.2.2.2.1 + n then m else h.2.1 b, fun b j => if b = h.2.2.2.1 then h.2.2.2.1 + 1 + j else if h.2.2.2.1 < b ∧ b ≤ h.2.2.2.1 + n then 0 else h.2.2.1 b j, h.2.2.2.1 + 1 + n, h.2.2.2.2)
def am_cp (h : AH) (a i b j n : Int) : AH := (h.1, h.2.1, fun q k => if q = b ∧ j ≤ k ∧ k < j + n then h.2.2.1 a (i + (k - j)) else h.2.2.1 q k, h.2.2.2)
/-- place in the code, locals, stack, heap, cells and slots made so far in this call -/
abbrev AC : Type := Nat × List AV × List AV × AH × Nat × Nat
/-- what is wanted at the end: 0 and the answer, or the kind of what is thrown and its address; the heap -/
abbrev AK : Type := Nat → Int → AH → Prop
abbrev ASh : Type := AC ⊕ (Prop × AC) ⊕ (Prop × AC × AC) ⊕ (Int × List (Int × AC) × AC) ⊕ (Nat × List AV × Nat × Nat × AC) ⊕ (Prop × Nat × List AV × Nat × Nat × AC) ⊕ (Int × AH) ⊕ (Prop × Int × AH) ⊕ (Prop × Nat × AH) ⊕ Unit
def am_go (c : AC) : ASh := .inl c
def am_ck (p : Prop) (c : AC) : ASh := .inr (.inl (p, c))
def am_br (p : Prop) (a b : AC) : ASh := .inr (.inr (.inl (p, a, b)))
def am_sw (x : Int) (l : List (Int × AC)) (d : AC) : ASh := .inr (.inr (.inr (.inl (x, l, d))))
def am_cl (m : Nat) (as : List AV) (pc rt : Nat) (c : AC) : ASh := .inr (.inr (.inr (.inr (.inl (m, as, pc, rt, c)))))
def am_cc (p : Prop) (m : Nat) (as : List AV) (pc rt : Nat) (c : AC) : ASh := .inr (.inr (.inr (.inr (.inr (.inl (p, m, as, pc, rt, c))))))
def am_rt (v : Int) (h : AH) : ASh := .inr (.inr (.inr (.inr (.inr (.inr (.inl (v, h)))))))
def am_rc (p : Prop) (v : Int) (h : AH) : ASh := .inr (.inr (.inr (.inr (.inr (.inr (.inr (.inl (p, v, h))))))))
def am_th (p : Prop) (k : Nat) (h : AH) : ASh := .inr (.inr (.inr (.inr (.inr (.inr (.inr (.inr (.inl (p, k, h)))))))))
def am_bad : ASh := .inr (.inr (.inr (.inr (.inr (.inr (.inr (.inr (.inr ()))))))))
def am_nth {α : Type} : List α → Nat → α → α
  | [], _, d => d
  | a :: _, 0, _ => a
  | _ :: r, n + 1, d => am_nth r n d
def am_get : List AV → Nat → AV
  | [], _ => (9, 0)
  | a :: _, 0 => a
  | _ :: r, n + 1 => am_get r n
def am_set : List AV → Nat → AV → List AV
  | [], _, _ => []
  | _ :: r, 0, v => v :: r
  | a :: r, n + 1, v => a :: am_set r n v
def am_exp : List AV → List AV
  | [] => []
  | (t, x) :: r => match t with
    | 1 => (1, x) :: (8, 0) :: am_exp r
    | 3 => (3, x) :: (8, 0) :: am_exp r
    | t => (t, x) :: am_exp r
def am_pad : Nat → List AV → List AV
  | 0, l => l
  | n + 1, [] => (9, 0) :: am_pad n []
  | n + 1, a :: l => a :: am_pad n l
def am_ent (n : Nat) (as : List AV) : List AV := am_pad n (am_exp as)
def am_pop : Nat → List AV → List AV → Option (List AV × List AV)
  | 0, acc, st => some (acc, st)
  | _ + 1, _, [] => none
  | n + 1, acc, v :: st => am_pop n (v :: acc) st
def am_cat : List AV → Nat
  | [] => 0
  | (t, _) :: r => (match t with
    | 1 => 2
    | 3 => 2
    | _ => 1) + am_cat r
def am_push (rt : Nat) (v : Int) (st : List AV) : List AV := match rt with
  | 9 => st
  | t => (t, v) :: st
/-- numbers of the language -/
def w32 (x : Int) : Int := x.bmod 4294967296
def w64 (x : Int) : Int := x.bmod 18446744073709551616
def am_and (a b : Int) : Int := (Int32.ofInt a &&& Int32.ofInt b).toInt
def am_or (a b : Int) : Int := (Int32.ofInt a ||| Int32.ofInt b).toInt
def am_xor (a b : Int) : Int := (Int32.ofInt a ^^^ Int32.ofInt b).toInt
def am_shl (a b : Int) : Int := (Int32.ofInt a <<< (Int32.ofInt b &&& 31)).toInt
def am_shr (a b : Int) : Int := (Int32.ofInt a >>> (Int32.ofInt b &&& 31)).toInt
def am_ushr (a b : Int) : Int := ((Int32.ofInt a).toUInt32 >>> ((Int32.ofInt b).toUInt32 &&& Int32.toUInt32 31)).toInt32.toInt
def am_i2b (a : Int) : Int := a.bmod 256
def am_i2c (a : Int) : Int := a % 65536
def am_land (a b : Int) : Int := (Int64.ofInt a &&& Int64.ofInt b).toInt
def am_i2d (a : Int) : Int := ((FP.i2d (Int32.ofInt a)).toNat : Int)
def am_dd (a b : Int) : UInt64 := FP.ddiv (UInt64.ofNat a.toNat) (UInt64.ofNat b.toNat)
def am_dm (a b : Int) : UInt64 := FP.dmul (UInt64.ofNat a.toNat) (UInt64.ofNat b.toNat)
def am_ds (a b : Int) : UInt64 := FP.dsub (UInt64.ofNat a.toNat) (UInt64.ofNat b.toNat)
/-- a double's bits as a long, and back -/
def am_d2l (a : Int) : Int := (UInt64.ofNat a.toNat).toInt64.toInt
def am_l2d (a : Int) : Int := ((Int64.ofInt a).toUInt64.toNat : Int)
/-- room for new cells below the place of null -/
def am_fr (h : AH) : Prop := am_n h < -5000 ∨ 0 ≤ am_n h
def am_dcl (a b : Int) : Int := (Op.cmpValue (FP.dcmp (UInt64.ofNat a.toNat) (UInt64.ofNat b.toNat)) .l).toInt
def am_dcg (a b : Int) : Int := (Op.cmpValue (FP.dcmp (UInt64.ofNat a.toNat) (UInt64.ofNat b.toNat)) .g).toInt
def am_lcmp (a b : Int) : Int := if b < a then 1 else if a = b then 0 else -1
/-- texts -/
def am_tx : List (List Int) := [[119, 97, 114, 100, 32, 99, 97, 112, 32, 112, 114, 111, 106, 101, 99, 116, 32, 99, 111, 115, 116, 32, 105, 110, 32, 103, 114, 111, 119, 115, 32, 118, 111, 116, 101, 114, 32, 108, 105, 107, 101, 115, 32, 98, 117, 100, 103, 101, 116, 32, 98, 97, 110, 32, 119, 104, 101, 110, 32, 121, 101, 97, 114, 32, 112, 111, 116, 32, 112, 117, 114, 115, 101, 32, 102, 97, 110, 115, 32, 98, 117, 105, 108, 116, 32, 112, 108, 101, 97, 115, 101, 100, 32, 110, 111, 116, 32, 97, 110, 100, 32, 111, 114, 32, 109, 105, 110, 32, 109, 97, 120, 32], [40, 41, 91, 93, 59, 44, 43, 45, 42, 47, 60, 62, 61], [112], [118], [121, 101, 97, 114, 47], [42], [61, 121, 101, 97, 114], [112, 111, 116, 60], [98, 117, 105, 108, 116, 32], [108, 105, 107, 101, 115, 32], [32], [99, 111, 115, 116, 32], [62, 53, 42], [110, 111, 116, 32, 102, 97, 110, 115, 32], [62, 61], [112, 117, 114, 115, 101, 32], [62], [32, 111, 114, 32, 112, 108, 101, 97, 115, 101, 100, 32], [109, 105, 110, 40, 112, 111, 116, 44], [41, 45, 121, 101, 97, 114, 60, 48, 32, 97, 110, 100, 32, 91, 121, 101, 97, 114, 62], [32, 111, 114, 32, 110, 111, 116, 32, 98, 117, 105, 108, 116, 32], [93], [119, 97, 114, 100, 32, 119], [32, 99, 97, 112, 32], [59], [98, 117, 100, 103, 101, 116, 32], [59, 10], [112, 114, 111, 106, 101, 99, 116, 32, 112], [32, 99, 111, 115, 116, 32], [32, 105, 110, 32, 119], [32, 103, 114, 111, 119, 115, 32], [118, 111, 116, 101, 114, 32, 118], [32, 108, 105, 107, 101, 115, 32, 112], [32, 112], [98, 97, 110, 32, 112], [32, 119, 104, 101, 110, 32]]
def am_tb (j i : Int) : Int := (am_tx.getD j.toNat []).getD i.toNat 0
def am_tn (j : Int) : Int := ((am_tx.getD j.toNat []).length : Int)
/-- the types of a class's fields, by its tag -/
def am_ft : Nat → List Nat
  | 1 => [0, 2, 2, 2, 2, 2, 2]
  | 2 => [2, 2, 0, 2, 2]
  | 3 => [0, 0, 0, 2, 2, 2, 0, 0, 2, 2, 2, 2, 2, 2, 0]
  | 4 => [0, 0, 0, 0, 0, 0, 2, 2, 2, 2, 2, 2, 2, 2, 2]
  | 5 => [2, 2, 2, 2, 2, 0, 0]
  | 6 => [2, 0, 0, 2, 2, 2, 2, 2, 2, 2]
  | 7 => [0, 0, 0, 0, 2, 2, 2, 2, 2, 0]
  | 8 => [2, 0, 0, 0]
  | 9 => [2, 0, 0, 0]
  | _ => []
def am_df (t : Nat) (k : Int) : Int := match (am_ft t).getD k.toNat 0 with
  | 2 => -1
  | _ => 0
def am_pI (st : List AV) (f : Int → List AV → ASh) : ASh := match st with
  | (0, a) :: r => f a r
  | _ => am_bad
def am_pL (st : List AV) (f : Int → List AV → ASh) : ASh := match st with
  | (1, a) :: r => f a r
  | _ => am_bad
def am_pR (st : List AV) (f : Int → List AV → ASh) : ASh := match st with
  | (2, a) :: r => f a r
  | _ => am_bad
def am_pA (st : List AV) (f : Int → List AV → ASh) (g : List AV → ASh) : ASh := match st with
  | (2, a) :: r => f a r
  | (10, _) :: r => g r
  | _ => am_bad
def am_pD (st : List AV) (f : Int → List AV → ASh) : ASh := match st with
  | (3, a) :: r => f a r
  | _ => am_bad
def am_few (r : List AV) (f : ASh) : ASh := match Nat.ble (am_cat r) 8 with
  | true => f
  | false => am_bad
/-- a value of one slot -/
def am_p1 (st : List AV) (f : AV → List AV → ASh) : ASh := match st with
  | (t, a) :: r => (match t with
    | 0 => f (0, a) r
    | 2 => f (2, a) r
    | _ => am_bad)
  | [] => am_bad
def am_ld (v : AV) (want : Nat) (f : AV → ASh) : ASh := match v with
  | (t, a) => (match t with
    | 0 => (match want with
      | 0 => f (0, a)
      | _ => am_bad)
    | 1 => (match want with
      | 1 => f (1, a)
      | _ => am_bad)
    | 2 => (match want with
      | 2 => f (2, a)
      | _ => am_bad)
    | 3 => (match want with
      | 3 => f (3, a)
      | _ => am_bad)
    | 4 => (match want with
      | 2 => f (4, a)
      | _ => am_bad)
    | 5 => (match want with
      | 2 => f (5, a)
      | _ => am_bad)
    | 7 => (match want with
      | 2 => f (7, a)
      | _ => am_bad)
    | 11 => (match want with
      | 2 => f (11, a)
      | _ => am_bad)
    | _ => am_bad)
/-- a long or double needs its second half -/
def am_ld2 (v w : AV) (want : Nat) (f : AV → ASh) : ASh := match w with
  | (8, _) => am_ld v want f
  | _ => am_bad
def am_st1 (ls : List AV) (i : Nat) (v : AV) : List AV := am_set ls i v
def am_st2 (ls : List AV) (i : Nat) (v : AV) : List AV := am_set (am_set ls i v) (i + 1) (8, 0)
def am_mk (o : Option Prop) (m : Nat) (as : List AV) (pc rt : Nat) (ccap cap : Nat × Nat) (ls r : List AV) (h : AH) (c s : Nat) : ASh := match ccap.1 + ccap.2 with
  | 0 => (match o with
    | none => am_cl m as pc rt (pc + 3, ls, r, h, c, s)
    | some p => am_cc p m as pc rt (pc + 3, ls, r, h, c, s))
  | _ + 1 => (match o with
    | none => am_cc (c + ccap.1 ≤ cap.1 ∧ s + ccap.2 ≤ cap.2) m as pc rt (pc + 3, ls, r, h, c + ccap.1, s + ccap.2)
    | some p => am_cc (p ∧ c + ccap.1 ≤ cap.1 ∧ s + ccap.2 ≤ cap.2) m as pc rt (pc + 3, ls, r, h, c + ccap.1, s + ccap.2))
/-- a call: r3 tells what the receiver has to be -/
def am_inv (r1 m r3 : Nat) (ccap cap : Nat × Nat) (cml na rt pc : Nat) (ls st : List AV) (h : AH) (c s : Nat) : ASh := match r1 with
  | 99 => am_bad
  | _ => (match am_pop na [] st with
    | none => am_bad
    | some (as, r) => (match Nat.ble (am_cat r) 8 && Nat.ble (am_cat as) cml with
      | false => am_bad
      | true => (match r3 with
        | 0 => am_mk none m as pc rt ccap cap ls r h c s
        | 60 => (match as with
          | (5, _) :: _ => am_mk none m as pc rt ccap cap ls r h c s
          | (2, a) :: _ => am_mk (some (am_t h a = 9 ∨ am_t h a = 18)) m as pc rt ccap cap ls r h c s
          | _ => am_bad)
        | 62 => (match as with
          | (2, a) :: _ => am_mk (some (¬ a = -1)) m as pc rt ccap cap ls r h c s
          | _ => am_bad)
        | 61 => (match as with
          | (2, a) :: _ => am_mk (some (0 ≤ a)) m as pc rt ccap cap ls r h c s
          | _ => am_bad)
        | k => (match as with
          | (2, a) :: _ => am_mk (some (am_t h a = k)) m as pc rt ccap cap ls r h c s
          | _ => am_bad))))
/-- what an instruction does; r1 r2 r3 zs: what it names, told by the tables; cap: the cells and slots that the method may make; na, rt: how many values the callee takes, and the type of what it answers; its cap -/
def am_ex (r1 r2 r3 : Nat) (zs : List (Int × Nat)) (cap ccap : Nat × Nat) (cml na rt : Nat) (pc ln : Nat) (ls st : List AV) (h : AH) (c s : Nat) : Instr → ASh
  | .iconst n => am_go (pc + ln, ls, (0, n) :: st, h, c, s)
  | .bipush n => am_go (pc + ln, ls, (0, n) :: st, h, c, s)
  | .sipush n => am_go (pc + ln, ls, (0, n) :: st, h, c, s)
  | .lconst n => am_go (pc + ln, ls, (1, (n.val : Int)) :: st, h, c, s)
  | .dconst n => (match n.val with
    | 0 => am_go (pc + ln, ls, (3, 0) :: st, h, c, s)
    | _ => am_bad)
  | .iload i => am_ld (am_get ls i) 0 fun v => am_go (pc + ln, ls, v :: st, h, c, s)
  | .iload_n i => am_ld (am_get ls i.val) 0 fun v => am_go (pc + ln, ls, v :: st, h, c, s)
  | .aload i => am_ld (am_get ls i) 2 fun v => am_go (pc + ln, ls, v :: st, h, c, s)
  | .aload_n i => am_ld (am_get ls i.val) 2 fun v => am_go (pc + ln, ls, v :: st, h, c, s)
  | .lload i => am_ld2 (am_get ls i) (am_get ls (i + 1)) 1 fun v => am_go (pc + ln, ls, v :: st, h, c, s)
  | .lload_n i => am_ld2 (am_get ls i.val) (am_get ls (i.val + 1)) 1 fun v => am_go (pc + ln, ls, v :: st, h, c, s)
  | .dload i => am_ld2 (am_get ls i) (am_get ls (i + 1)) 3 fun v => am_go (pc + ln, ls, v :: st, h, c, s)
  | .istore i => am_pI st fun a r => am_go (pc + ln, am_st1 ls i (0, a), r, h, c, s)
  | .istore_n i => am_pI st fun a r => am_go (pc + ln, am_st1 ls i.val (0, a), r, h, c, s)
  | .astore i => am_pA st (fun a r => (match r1 with
    | 0 => am_ck (0 ≤ a) (pc + ln, am_st1 ls i (2, a), r, h, c, s)
    | _ => am_ck (¬ a = -1) (pc + ln, am_st1 ls i (2, a), r, h, c, s))) (fun r => am_go (pc + ln, am_st1 ls i (9, 0), r, h, c, s))
  | .astore_n i => am_pA st (fun a r => (match r1 with
    | 0 => am_ck (0 ≤ a) (pc + ln, am_st1 ls i.val (2, a), r, h, c, s)
    | _ => am_ck (¬ a = -1) (pc + ln, am_st1 ls i.val (2, a), r, h, c, s))) (fun r => am_go (pc + ln, am_st1 ls i.val (9, 0), r, h, c, s))
  | .dload_n i => am_ld2 (am_get ls i.val) (am_get ls (i.val + 1)) 3 fun v => am_go (pc + ln, ls, v :: st, h, c, s)
  | .aconst_null => am_go (pc + ln, ls, (2, -1) :: st, h, c, s)
  | .lstore i => am_pL st fun a r => am_go (pc + ln, am_st2 ls i (1, a), r, h, c, s)
  | .lstore_n i => am_pL st fun a r => am_go (pc + ln, am_st2 ls i.val (1, a), r, h, c, s)
  | .dstore i => am_pD st fun a r => am_go (pc + ln, am_st2 ls i (3, a), r, h, c, s)
  | .iinc i n => am_ld (am_get ls i) 0 fun v => am_go (pc + ln, am_st1 ls i (0, w32 (v.2 + n)), st, h, c, s)
  | .iadd => am_pI st fun b r => am_pI r fun a r => am_go (pc + ln, ls, (0, w32 (a + b)) :: r, h, c, s)
  | .isub => am_pI st fun b r => am_pI r fun a r => am_go (pc + ln, ls, (0, w32 (a - b)) :: r, h, c, s)
  | .imul => am_pI st fun b r => am_pI r fun a r => am_go (pc + ln, ls, (0, w32 (a * b)) :: r, h, c, s)
  | .idiv => am_pI st fun b r => am_pI r fun a r => am_ck (¬ b = 0) (pc + ln, ls, (0, w32 (a.tdiv b)) :: r, h, c, s)
  | .irem => am_pI st fun b r => am_pI r fun a r => am_ck (¬ b = 0) (pc + ln, ls, (0, a.tmod b) :: r, h, c, s)
  | .ineg => am_pI st fun a r => am_go (pc + ln, ls, (0, w32 (-a)) :: r, h, c, s)
  | .iand => am_pI st fun b r => am_pI r fun a r => am_go (pc + ln, ls, (0, am_and a b) :: r, h, c, s)
  | .ior => am_pI st fun b r => am_pI r fun a r => am_go (pc + ln, ls, (0, am_or a b) :: r, h, c, s)
  | .ixor => am_pI st fun b r => am_pI r fun a r => am_go (pc + ln, ls, (0, am_xor a b) :: r, h, c, s)
  | .ishl => am_pI st fun b r => am_pI r fun a r => am_go (pc + ln, ls, (0, am_shl a b) :: r, h, c, s)
  | .ishr => am_pI st fun b r => am_pI r fun a r => am_go (pc + ln, ls, (0, am_shr a b) :: r, h, c, s)
  | .iushr => am_pI st fun b r => am_pI r fun a r => am_go (pc + ln, ls, (0, am_ushr a b) :: r, h, c, s)
  | .i2l => am_pI st fun a r => am_go (pc + ln, ls, (1, a) :: r, h, c, s)
  | .i2b => am_pI st fun a r => am_go (pc + ln, ls, (0, am_i2b a) :: r, h, c, s)
  | .i2c => am_pI st fun a r => am_go (pc + ln, ls, (0, am_i2c a) :: r, h, c, s)
  | .i2d => am_pI st fun a r => am_go (pc + ln, ls, (3, am_i2d a) :: r, h, c, s)
  | .l2i => am_pL st fun a r => am_go (pc + ln, ls, (0, w32 a) :: r, h, c, s)
  | .ladd => am_pL st fun b r => am_pL r fun a r => am_go (pc + ln, ls, (1, w64 (a + b)) :: r, h, c, s)
  | .lsub => am_pL st fun b r => am_pL r fun a r => am_go (pc + ln, ls, (1, w64 (a - b)) :: r, h, c, s)
  | .lmul => am_pL st fun b r => am_pL r fun a r => am_go (pc + ln, ls, (1, w64 (a * b)) :: r, h, c, s)
  | .land => am_pL st fun b r => am_pL r fun a r => am_go (pc + ln, ls, (1, am_land a b) :: r, h, c, s)
  | .lcmp => am_pL st fun b r => am_pL r fun a r => am_go (pc + ln, ls, (0, am_lcmp a b) :: r, h, c, s)
  | .ddiv => am_pD st fun b r => am_pD r fun a r => am_ck (vf_n64 (am_dd a b)) (pc + ln, ls, (3, ((am_dd a b).toNat : Int)) :: r, h, c, s)
  | .dmul => am_pD st fun b r => am_pD r fun a r => am_ck (vf_n64 (am_dm a b)) (pc + ln, ls, (3, ((am_dm a b).toNat : Int)) :: r, h, c, s)
  | .dsub => am_pD st fun b r => am_pD r fun a r => am_ck (vf_n64 (am_ds a b)) (pc + ln, ls, (3, ((am_ds a b).toNat : Int)) :: r, h, c, s)
  | .dcmp op => am_pD st fun b r => am_pD r fun a r => (match op with
    | .l => am_go (pc + ln, ls, (0, am_dcl a b) :: r, h, c, s)
    | .g => am_go (pc + ln, ls, (0, am_dcg a b) :: r, h, c, s))
  | .dup => am_p1 st fun v r => am_go (pc + ln, ls, v :: v :: r, h, c, s)
  | .pop => am_p1 st fun _ r => am_go (pc + ln, ls, r, h, c, s)
  | .dup2 => am_p1 st fun v r => am_p1 r fun w r => am_go (pc + ln, ls, v :: w :: v :: w :: r, h, c, s)
  | .ifCond cd _ => am_pI st fun a r => (match cd with
    | .eq => am_br (a = 0) (r1, ls, r, h, c, s) (pc + ln, ls, r, h, c, s)
    | .ne => am_br (a = 0) (pc + ln, ls, r, h, c, s) (r1, ls, r, h, c, s)
    | .lt => am_br (a < 0) (r1, ls, r, h, c, s) (pc + ln, ls, r, h, c, s)
    | .ge => am_br (a < 0) (pc + ln, ls, r, h, c, s) (r1, ls, r, h, c, s)
    | .gt => am_br (0 < a) (r1, ls, r, h, c, s) (pc + ln, ls, r, h, c, s)
    | .le => am_br (0 < a) (pc + ln, ls, r, h, c, s) (r1, ls, r, h, c, s))
  | .if_icmp cd _ => am_pI st fun b r => am_pI r fun a r => (match cd with
    | .eq => am_br (a = b) (r1, ls, r, h, c, s) (pc + ln, ls, r, h, c, s)
    | .ne => am_br (a = b) (pc + ln, ls, r, h, c, s) (r1, ls, r, h, c, s)
    | .lt => am_br (a < b) (r1, ls, r, h, c, s) (pc + ln, ls, r, h, c, s)
    | .ge => am_br (a < b) (pc + ln, ls, r, h, c, s) (r1, ls, r, h, c, s)
    | .gt => am_br (b < a) (r1, ls, r, h, c, s) (pc + ln, ls, r, h, c, s)
    | .le => am_br (b < a) (pc + ln, ls, r, h, c, s) (r1, ls, r, h, c, s))
  | .ifnull _ => am_pR st fun a r => am_br (a = -1) (r1, ls, r, h, c, s) (pc + ln, ls, r, h, c, s)
  | .ifnonnull _ => am_pR st fun a r => am_br (a = -1) (pc + ln, ls, r, h, c, s) (r1, ls, r, h, c, s)
  | .goto _ => am_go (r1, ls, st, h, c, s)
  | .tableswitch _ _ _ _ => am_pI st fun a r => am_sw a (zs.map fun z => (z.1, (z.2, ls, r, h, c, s))) (r1, ls, r, h, c, s)
  | .lookupswitch _ _ => am_pI st fun a r => am_sw a (zs.map fun z => (z.1, (z.2, ls, r, h, c, s))) (r1, ls, r, h, c, s)
  | .getfield _ => (match r3 with
    | 50 => (match st with
      | (5, j) :: r => am_go (pc + ln, ls, (7, j) :: r, h, c, s)
      | (2, a) :: r => am_ck (am_t h a = 9 ∨ am_t h a = 18) (pc + ln, ls, (2, am_m h a 0) :: r, h, c, s)
      | _ => am_bad)
    | 51 => (match st with
      | (5, _) :: r => am_go (pc + ln, ls, (0, 0) :: r, h, c, s)
      | (2, a) :: r => am_ck (am_t h a = 9 ∨ am_t h a = 18) (pc + ln, ls, (0, am_m h a 1) :: r, h, c, s)
      | _ => am_bad)
    | 0 => am_pR st fun a r => am_ck (am_t h a = r1) (pc + ln, ls, (0, am_m h a (r2 : Int)) :: r, h, c, s)
    | 2 => am_pR st fun a r => am_ck (am_t h a = r1) (pc + ln, ls, (2, am_m h a (r2 : Int)) :: r, h, c, s)
    | _ => am_bad)
  | .putfield _ => (match r3 with
    | 0 => am_pI st fun v r => am_pR r fun a r => am_ck (am_t h a = r1) (pc + ln, ls, r, am_w h a (r2 : Int) v, c, s)
    | 2 => am_pR st fun v r => am_pR r fun a r => am_ck (am_t h a = r1) (pc + ln, ls, r, am_w h a (r2 : Int) v, c, s)
    | 4 => am_pI st fun v r => am_pR r fun a r => am_ck (am_t h a = r1 ∧ v = 0) (pc + ln, ls, r, am_w h a (r2 : Int) v, c, s)
    | _ => am_bad)
  | .getstatic _ => (match r3 with
    | 60 => am_go (pc + ln, ls, (0, 1) :: st, h, c, s)
    | 62 => am_go (pc + ln, ls, (11, 0) :: st, h, c, s)
    | 63 => am_go (pc + ln, ls, (2, -300000073) :: st, h, c, s)
    | 64 => am_go (pc + ln, ls, (2, -300000075) :: st, h, c, s)
    | _ => am_bad)
  | .iaload => am_pI st fun i r => (match r with
    | (2, a) :: r => am_ck (am_t h a = 20 ∧ 0 ≤ i ∧ i < am_l h a) (pc + ln, ls, (0, am_m h a i) :: r, h, c, s)
    | (4, _) :: r => am_ck (0 ≤ i ∧ i < am_sl h) (pc + ln, ls, (0, am_sx h i) :: r, h, c, s)
    | _ => am_bad)
  | .baload => am_pI st fun i r => (match r with
    | (2, a) :: r => (match r1 with
      | 0 => am_ck (am_t h a = 21 ∧ 0 ≤ i ∧ i < am_l h a) (pc + ln, ls, (0, am_m h a i) :: r, h, c, s)
      | 1 => am_ck ((am_t h a = 21 ∨ am_t h a = 26) ∧ 0 ≤ i ∧ i < am_l h a) (pc + ln, ls, (0, am_m h a i) :: r, h, c, s)
      | _ => am_ck (am_t h a = 23 ∧ 0 ≤ i ∧ i < am_l h a) (pc + ln, ls, (0, am_m h a i) :: r, h, c, s))
    | (7, j) :: r => am_ck (0 ≤ i ∧ i < am_tn j) (pc + ln, ls, (0, am_tb j i) :: r, h, c, s)
    | _ => am_bad)
  | .laload => am_pI st fun i r => am_pR r fun a r => am_ck (am_t h a = 22 ∧ 0 ≤ i ∧ i < am_l h a) (pc + ln, ls, (1, am_m h a i) :: r, h, c, s)
  | .aaload => am_pI st fun i r => am_pR r fun a r => am_ck ((am_t h a = 24 ∨ am_t h a = 25) ∧ 0 ≤ i ∧ i < am_l h a) (pc + ln, ls, (2, am_m h a i) :: r, h, c, s)
  | .aastore => am_pR st fun v r => am_pI r fun i r => am_pR r fun a r => am_ck ((am_t h a = 24 ∧ am_t h v = 20 ∨ am_t h a = 25 ∧ am_t h v = 23) ∧ 0 ≤ i ∧ i < am_l h a) (pc + ln, ls, r, am_w h a i v, c, s)
  | .iastore => am_pI st fun v r => am_pI r fun i r => am_pR r fun a r => am_ck (am_t h a = 20 ∧ 0 ≤ i ∧ i < am_l h a) (pc + ln, ls, r, am_w h a i v, c, s)
  | .bastore => am_pI st fun v r => am_pI r fun i r => am_pR r fun a r => (match r1 with
    | 2 => am_ck (am_t h a = 23 ∧ (v = 0 ∨ v = 1) ∧ 0 ≤ i ∧ i < am_l h a) (pc + ln, ls, r, am_w h a i v, c, s)
    | _ => am_ck (am_t h a = 21 ∧ 0 ≤ i ∧ i < am_l h a) (pc + ln, ls, r, am_w h a i (am_i2b v), c, s))
  | .lastore => am_pL st fun v r => am_pI r fun i r => am_pR r fun a r => am_ck (am_t h a = 22 ∧ 0 ≤ i ∧ i < am_l h a) (pc + ln, ls, r, am_w h a i v, c, s)
  | .arraylength => (match st with
    | (2, a) :: r => (match r1 with
      | 0 => am_ck (20 ≤ am_t h a ∧ am_t h a ≤ 22) (pc + ln, ls, (0, am_l h a) :: r, h, c, s)
      | _ => am_ck (20 ≤ am_t h a ∧ am_t h a ≤ 26) (pc + ln, ls, (0, am_l h a) :: r, h, c, s))
    | (4, _) :: r => am_go (pc + ln, ls, (0, am_sl h) :: r, h, c, s)
    | (7, j) :: r => am_go (pc + ln, ls, (0, am_tn j) :: r, h, c, s)
    | _ => am_bad)
  | .newarray _ => am_pI st fun n r => am_ck (((0 ≤ n ∧ n ≤ 4096) ∧ am_fr h) ∧ c + 1 ≤ cap.1 ∧ s + n.toNat ≤ cap.2) (pc + ln, ls, (2, am_n h) :: r, am_a h r1 n (fun _ => 0), c + 1, s + n.toNat)
  | .anewarray _ => am_pI st fun n r => am_ck (((0 ≤ n ∧ n ≤ 4096) ∧ am_fr h) ∧ c + 1 ≤ cap.1 ∧ s + n.toNat ≤ cap.2) (pc + ln, ls, (2, am_n h) :: r, am_a h r1 n (fun _ => -1), c + 1, s + n.toNat)
  | .multianewarray _ _ => am_pI st fun m r => am_pI r fun n r => am_ck (((0 ≤ n ∧ n ≤ 64 ∧ 0 ≤ m ∧ m ≤ 64) ∧ am_fr h) ∧ c + (1 + n.toNat) ≤ cap.1 ∧ s + (n.toNat + n.toNat * m.toNat) ≤ cap.2) (pc + ln, ls, (2, am_n h) :: r, am_mk2 h r1 r2 n m, c + (1 + n.toNat), s + (n.toNat + n.toNat * m.toNat))
  | .checkcast _ => am_pR st fun a r => am_ck (am_t h a = r1) (pc + ln, ls, (2, a) :: r, h, c, s)
  | .new _ => (match r3 with
    | 0 => am_ck (am_fr h ∧ c + 1 ≤ cap.1 ∧ s + r2 ≤ cap.2) (pc + ln, ls, (2, am_n h) :: st, am_a h r1 (r2 : Int) (am_df r1), c + 1, s + r2)
    | k => (match st with
      | [] => am_th (c + 1 ≤ cap.1 ∧ s + 6 ≤ cap.2) k h
      | _ => am_bad))
  | .ldc _ => (match zs with
    | (v, t) :: _ => am_go (pc + ln, ls, (t, v) :: st, h, c, s)
    | [] => am_bad)
  | .ldc_w _ => (match zs with
    | (v, t) :: _ => am_go (pc + ln, ls, (t, v) :: st, h, c, s)
    | [] => am_bad)
  | .ldc2_w _ => (match zs with
    | (v, t) :: _ => am_go (pc + ln, ls, (t, v) :: st, h, c, s)
    | [] => am_bad)
  | .invokevirtual _ => (match r1 with
    | 16 => am_pR st fun a r => am_few r (am_ck ((am_t h a = r3 ∧ am_fr h) ∧ c + 1 ≤ cap.1 ∧ s + (am_l h a).toNat ≤ cap.2) (pc + ln, ls, (2, am_n h) :: r, am_a h r3 (am_l h a) (am_m h a), c + 1, s + (am_l h a).toNat))
    | _ => am_inv r1 r2 r3 ccap cap cml na rt pc ls st h c s)
  | .invokespecial _ => (match r1 with
    | 6 => am_pR st fun a r => am_few r (am_ck (0 ≤ a) (pc + ln, ls, r, h, c, s))
    | 17 => am_pR st fun a r => am_few r (am_ck (¬ a = -1) (pc + ln, ls, r, h, c, s))
    | _ => am_inv r1 r2 r3 ccap cap cml na rt pc ls st h c s)
  | .invokestatic _ => (match r1 with
    | 7 => am_pI st fun b r => am_pI r fun a r => am_few r (am_go (pc + ln, ls, (0, min a b) :: r, h, c, s))
    | 8 => am_pI st fun b r => am_pI r fun a r => am_few r (am_go (pc + ln, ls, (0, max a b) :: r, h, c, s))
    | 11 => am_pI st fun n r => am_pI r fun j r => am_pR r fun b r => am_pI r fun i r => am_pR r fun a r => am_few r <| am_ck ((am_t h a = 21 ∨ am_t h a = 26) ∧ am_t h b = 21 ∧ ¬ a = b ∧ 0 ≤ n ∧ 0 ≤ i ∧ i + n ≤ am_l h a ∧ 0 ≤ j ∧ j + n ≤ am_l h b) (pc + ln, ls, r, am_cp h a i b j n, c, s)
    | 18 => am_pD st fun a r => am_few r (am_go (pc + ln, ls, (1, am_d2l a) :: r, h, c, s))
    | 19 => am_pL st fun a r => am_few r (am_ck (vn_snl2d (Int64.ofInt a) = false) (pc + ln, ls, (3, am_l2d a) :: r, h, c, s))
    | _ => am_inv r1 r2 r3 ccap cap cml na rt pc ls st h c s)
  | .ireturn => am_pI st fun v r => (match r with
    | [] => (match r1 with
      | 0 => am_rt v h
      | 1 => am_rc (v = 0 ∨ v = 1) v h
      | 2 => am_rc (0 ≤ v ∧ v < 65536) v h
      | 3 => am_rc (-128 ≤ v ∧ v < 128) v h
      | _ => am_bad)
    | _ => am_bad)
  | .lreturn => am_pL st fun v r => (match r with
    | [] => am_rt v h
    | _ => am_bad)
  | .dreturn => am_pD st fun v r => (match r with
    | [] => am_rt v h
    | _ => am_bad)
  | .areturn => am_pR st fun v r => (match r with
    | [] => am_rt v h
    | _ => am_bad)
  | .return_ => (match st with
    | [] => am_rt 0 h
    | _ => am_bad)
  | _ => am_bad
end
section
/-! ===== THE METHODS, printed: a row an instruction: place, instruction, its length, what it names, constants or a switch's goals, places of its words in lw_tbl ===== -/
abbrev am_E : Type := Nat × Instr × Nat × (Nat × Nat × Nat) × List (Int × Nat) × List Nat
/-- 0: J0_charAt_5068e -/
def am_t0 : List am_E := [(0, .aload_n 0, 1, (0, 0, 0), [], []),
  (1, .invokevirtual 492, 3, (0, 5, 60), [], [200, 57, 201, 202]),
  (4, .ifCond .eq 12, 3, (16, 0, 0), [], []),
  (7, .aload_n 0, 1, (0, 0, 0), [], []),
  (8, .getfield 9, 3, (0, 0, 50), [], [1394]),
  (11, .iload_n 1, 1, (0, 0, 0), [], []),
  (12, .invokestatic 495, 3, (2, 8, 0), [], [204, 65, 205]),
  (15, .ireturn, 1, (2, 0, 0), [], []),
  (16, .aload_n 0, 1, (0, 0, 0), [], []),
  (17, .getfield 9, 3, (0, 0, 50), [], [1394]),
  (20, .iload_n 1, 1, (0, 0, 0), [], []),
  (21, .invokestatic 498, 3, (99, 0, 0), [], []),
  (24, .ireturn, 1, (2, 0, 0), [], [])]
/-- 1: J0_checkIndex_df160 -/
def am_t1 : List am_E := [(0, .iload_n 0, 1, (0, 0, 0), [], []),
  (1, .iload_n 1, 1, (0, 0, 0), [], []),
  (2, .getstatic 1053, 3, (0, 0, 62), [], [210]),
  (5, .invokestatic 1059, 3, (2, 11, 0), [], [212, 64, 213]),
  (8, .pop, 1, (0, 0, 0), [], []),
  (9, .return_, 1, (0, 0, 0), [], [])]
/-- 2: J0_coder_7d493 -/
def am_t2 : List am_E := [(0, .getstatic 38, 3, (0, 0, 60), [], [194]),
  (3, .ifCond .eq 10, 3, (13, 0, 0), [], []),
  (6, .aload_n 0, 1, (0, 0, 0), [], []),
  (7, .getfield 15, 3, (0, 0, 51), [], [1395]),
  (10, .goto 4, 3, (14, 0, 0), [], []),
  (13, .iconst 1, 1, (0, 0, 0), [], []),
  (14, .ireturn, 1, (3, 0, 0), [], [])]
/-- 3: J0_indexOf_0f7a4 -/
def am_t3 : List am_E := [(0, .aload_n 0, 1, (0, 0, 0), [], []),
  (1, .iload_n 1, 1, (0, 0, 0), [], []),
  (2, .iconst 0, 1, (0, 0, 0), [], []),
  (3, .invokevirtual 633, 3, (0, 4, 60), [], [999, 57, 1000, 1001]),
  (6, .ireturn, 1, (0, 0, 0), [], [])]
/-- 4: J0_indexOf_7cf53 -/
def am_t4 : List am_E := [(0, .aload_n 0, 1, (0, 0, 0), [], []),
  (1, .invokevirtual 492, 3, (0, 5, 60), [], [200, 57, 201, 202]),
  (4, .ifCond .eq 19, 3, (23, 0, 0), [], []),
  (7, .aload_n 0, 1, (0, 0, 0), [], []),
  (8, .getfield 9, 3, (0, 0, 50), [], [1394]),
  (11, .iload_n 1, 1, (0, 0, 0), [], []),
  (12, .iload_n 2, 1, (0, 0, 0), [], []),
  (13, .aload_n 0, 1, (0, 0, 0), [], []),
  (14, .invokevirtual 505, 3, (0, 6, 60), [], [1003, 57, 187, 188]),
  (17, .invokestatic 637, 3, (2, 10, 0), [], [1004, 65, 1005]),
  (20, .goto 16, 3, (36, 0, 0), [], []),
  (23, .aload_n 0, 1, (0, 0, 0), [], []),
  (24, .getfield 9, 3, (0, 0, 50), [], [1394]),
  (27, .iload_n 1, 1, (0, 0, 0), [], []),
  (28, .iload_n 2, 1, (0, 0, 0), [], []),
  (29, .aload_n 0, 1, (0, 0, 0), [], []),
  (30, .invokevirtual 505, 3, (0, 6, 60), [], [1003, 57, 187, 188]),
  (33, .invokestatic 640, 3, (99, 0, 0), [], []),
  (36, .ireturn, 1, (0, 0, 0), [], [])]
/-- 5: J0_isLatin1_aae02 -/
def am_t5 : List am_E := [(0, .getstatic 38, 3, (0, 0, 60), [], [194]),
  (3, .ifCond .eq 14, 3, (17, 0, 0), [], []),
  (6, .aload_n 0, 1, (0, 0, 0), [], []),
  (7, .getfield 15, 3, (0, 0, 51), [], [1395]),
  (10, .ifCond .ne 7, 3, (17, 0, 0), [], []),
  (13, .iconst 1, 1, (0, 0, 0), [], []),
  (14, .goto 4, 3, (18, 0, 0), [], []),
  (17, .iconst 0, 1, (0, 0, 0), [], []),
  (18, .ireturn, 1, (1, 0, 0), [], [])]
/-- 6: J0_length_8abf5 -/
def am_t6 : List am_E := [(0, .aload_n 0, 1, (0, 0, 0), [], []),
  (1, .getfield 9, 3, (0, 0, 50), [], [1394]),
  (4, .arraylength, 1, (1, 0, 0), [], []),
  (5, .aload_n 0, 1, (0, 0, 0), [], []),
  (6, .invokevirtual 335, 3, (0, 2, 60), [], [190, 57, 191, 192]),
  (9, .ishr, 1, (0, 0, 0), [], []),
  (10, .ireturn, 1, (0, 0, 0), [], [])]
/-- 7: J1_canEncode_9a6ad -/
def am_t7 : List am_E := [(0, .iload_n 0, 1, (0, 0, 0), [], []),
  (1, .ifCond .lt 14, 3, (15, 0, 0), [], []),
  (4, .iload_n 0, 1, (0, 0, 0), [], []),
  (5, .sipush 255, 3, (0, 0, 0), [], []),
  (8, .if_icmp .gt 7, 3, (15, 0, 0), [], []),
  (11, .iconst 1, 1, (0, 0, 0), [], []),
  (12, .goto 4, 3, (16, 0, 0), [], []),
  (15, .iconst 0, 1, (0, 0, 0), [], []),
  (16, .ireturn, 1, (1, 0, 0), [], [])]
/-- 8: J1_charAt_3b067 -/
def am_t8 : List am_E := [(0, .iload_n 1, 1, (0, 0, 0), [], []),
  (1, .aload_n 0, 1, (0, 0, 0), [], []),
  (2, .arraylength, 1, (1, 0, 0), [], []),
  (3, .invokestatic 9, 3, (2, 1, 0), [], [207, 57, 208]),
  (6, .aload_n 0, 1, (0, 0, 0), [], []),
  (7, .iload_n 1, 1, (0, 0, 0), [], []),
  (8, .baload, 1, (1, 0, 0), [], []),
  (9, .sipush 255, 3, (0, 0, 0), [], []),
  (12, .iand, 1, (0, 0, 0), [], []),
  (13, .i2c, 1, (0, 0, 0), [], []),
  (14, .ireturn, 1, (2, 0, 0), [], [])]
/-- 9: J1_indexOfChar_4cfef -/
def am_t9 : List am_E := [(0, .iload_n 1, 1, (0, 0, 0), [], []),
  (1, .i2b, 1, (0, 0, 0), [], []),
  (2, .istore 4, 2, (0, 0, 0), [], []),
  (4, .iload_n 2, 1, (0, 0, 0), [], []),
  (5, .istore 5, 2, (0, 0, 0), [], []),
  (7, .iload 5, 2, (0, 0, 0), [], []),
  (9, .iload_n 3, 1, (0, 0, 0), [], []),
  (10, .if_icmp .ge 21, 3, (31, 0, 0), [], []),
  (13, .aload_n 0, 1, (0, 0, 0), [], []),
  (14, .iload 5, 2, (0, 0, 0), [], []),
  (16, .baload, 1, (1, 0, 0), [], []),
  (17, .iload 4, 2, (0, 0, 0), [], []),
  (19, .if_icmp .ne 6, 3, (25, 0, 0), [], []),
  (22, .iload 5, 2, (0, 0, 0), [], []),
  (24, .ireturn, 1, (0, 0, 0), [], []),
  (25, .iinc 5 1, 3, (0, 0, 0), [], []),
  (28, .goto (-21), 3, (7, 0, 0), [], []),
  (31, .iconst (-1), 1, (0, 0, 0), [], []),
  (32, .ireturn, 1, (0, 0, 0), [], [])]
/-- 10: J1_indexOf_4cfef -/
def am_t10 : List am_E := [(0, .iload_n 1, 1, (0, 0, 0), [], []),
  (1, .invokestatic 88, 3, (2, 7, 0), [], [1007, 65, 1008]),
  (4, .ifCond .ne 5, 3, (9, 0, 0), [], []),
  (7, .iconst (-1), 1, (0, 0, 0), [], []),
  (8, .ireturn, 1, (0, 0, 0), [], []),
  (9, .iload_n 2, 1, (0, 0, 0), [], []),
  (10, .iconst 0, 1, (0, 0, 0), [], []),
  (11, .invokestatic 92, 3, (8, 0, 8), [], [1010, 583, 61, 584]),
  (14, .istore_n 2, 1, (0, 0, 0), [], []),
  (15, .iload_n 3, 1, (0, 0, 0), [], []),
  (16, .aload_n 0, 1, (0, 0, 0), [], []),
  (17, .arraylength, 1, (1, 0, 0), [], []),
  (18, .invokestatic 38, 3, (7, 0, 0), [], [1011, 580, 61, 581]),
  (21, .istore_n 3, 1, (0, 0, 0), [], []),
  (22, .iload_n 2, 1, (0, 0, 0), [], []),
  (23, .iload_n 3, 1, (0, 0, 0), [], []),
  (24, .if_icmp .lt 5, 3, (29, 0, 0), [], []),
  (27, .iconst (-1), 1, (0, 0, 0), [], []),
  (28, .ireturn, 1, (0, 0, 0), [], []),
  (29, .aload_n 0, 1, (0, 0, 0), [], []),
  (30, .iload_n 1, 1, (0, 0, 0), [], []),
  (31, .iload_n 2, 1, (0, 0, 0), [], []),
  (32, .iload_n 3, 1, (0, 0, 0), [], []),
  (33, .invokestatic 95, 3, (2, 9, 0), [], [1012, 65, 1013]),
  (36, .ireturn, 1, (0, 0, 0), [], [])]
/-- 11: J3_checkIndex_8e157 -/
def am_t11 : List am_E := [(0, .iload_n 0, 1, (0, 0, 0), [], []),
  (1, .ifCond .lt 8, 3, (9, 0, 0), [], []),
  (4, .iload_n 0, 1, (0, 0, 0), [], []),
  (5, .iload_n 1, 1, (0, 0, 0), [], []),
  (6, .if_icmp .lt 10, 3, (16, 0, 0), [], []),
  (9, .aload_n 2, 1, (0, 0, 0), [], []),
  (10, .iload_n 0, 1, (0, 0, 0), [], []),
  (11, .iload_n 1, 1, (0, 0, 0), [], []),
  (12, .invokestatic 95, 3, (99, 0, 0), [], []),
  (15, .athrow, 1, (0, 0, 0), [], []),
  (16, .iload_n 0, 1, (0, 0, 0), [], []),
  (17, .ireturn, 1, (0, 0, 0), [], [])]
/-- 12: J6_bitCount_0f7a4 -/
def am_t12 : List am_E := [(0, .iload_n 0, 1, (0, 0, 0), [], []),
  (1, .iload_n 0, 1, (0, 0, 0), [], []),
  (2, .iconst 1, 1, (0, 0, 0), [], []),
  (3, .iushr, 1, (0, 0, 0), [], []),
  (4, .ldc_w 265, 3, (0, 0, 0), [(1431655765, 0)], [539]),
  (7, .iand, 1, (0, 0, 0), [], []),
  (8, .isub, 1, (0, 0, 0), [], []),
  (9, .istore_n 0, 1, (0, 0, 0), [], []),
  (10, .iload_n 0, 1, (0, 0, 0), [], []),
  (11, .ldc_w 266, 3, (0, 0, 0), [(858993459, 0)], [540]),
  (14, .iand, 1, (0, 0, 0), [], []),
  (15, .iload_n 0, 1, (0, 0, 0), [], []),
  (16, .iconst 2, 1, (0, 0, 0), [], []),
  (17, .iushr, 1, (0, 0, 0), [], []),
  (18, .ldc_w 266, 3, (0, 0, 0), [(858993459, 0)], [540]),
  (21, .iand, 1, (0, 0, 0), [], []),
  (22, .iadd, 1, (0, 0, 0), [], []),
  (23, .istore_n 0, 1, (0, 0, 0), [], []),
  (24, .iload_n 0, 1, (0, 0, 0), [], []),
  (25, .iload_n 0, 1, (0, 0, 0), [], []),
  (26, .iconst 4, 1, (0, 0, 0), [], []),
  (27, .iushr, 1, (0, 0, 0), [], []),
  (28, .iadd, 1, (0, 0, 0), [], []),
  (29, .ldc_w 267, 3, (0, 0, 0), [(252645135, 0)], [541]),
  (32, .iand, 1, (0, 0, 0), [], []),
  (33, .istore_n 0, 1, (0, 0, 0), [], []),
  (34, .iload_n 0, 1, (0, 0, 0), [], []),
  (35, .iload_n 0, 1, (0, 0, 0), [], []),
  (36, .bipush 8, 2, (0, 0, 0), [], []),
  (38, .iushr, 1, (0, 0, 0), [], []),
  (39, .iadd, 1, (0, 0, 0), [], []),
  (40, .istore_n 0, 1, (0, 0, 0), [], []),
  (41, .iload_n 0, 1, (0, 0, 0), [], []),
  (42, .iload_n 0, 1, (0, 0, 0), [], []),
  (43, .bipush 16, 2, (0, 0, 0), [], []),
  (45, .iushr, 1, (0, 0, 0), [], []),
  (46, .iadd, 1, (0, 0, 0), [], []),
  (47, .istore_n 0, 1, (0, 0, 0), [], []),
  (48, .iload_n 0, 1, (0, 0, 0), [], []),
  (49, .bipush 63, 2, (0, 0, 0), [], []),
  (51, .iand, 1, (0, 0, 0), [], []),
  (52, .ireturn, 1, (0, 0, 0), [], [])]
/-- 13: X0_init -/
def am_t13 : List am_E := [(0, .aload_n 0, 1, (0, 0, 0), [], []),
  (1, .invokespecial 3, 3, (6, 0, 0), [], [297, 89, 90]),
  (4, .aload_n 0, 1, (0, 0, 0), [], []),
  (5, .iconst 4, 1, (0, 0, 0), [], []),
  (6, .newarray .long, 2, (22, 0, 0), [], [265]),
  (8, .putfield 9, 3, (1, 3, 2), [], [302]),
  (11, .aload_n 0, 1, (0, 0, 0), [], []),
  (12, .bipush 12, 2, (0, 0, 0), [], []),
  (14, .newarray .long, 2, (22, 0, 0), [], [265]),
  (16, .putfield 15, 3, (1, 4, 2), [], [303]),
  (19, .aload_n 0, 1, (0, 0, 0), [], []),
  (20, .bipush 12, 2, (0, 0, 0), [], []),
  (22, .newarray .long, 2, (22, 0, 0), [], [265]),
  (24, .putfield 18, 3, (1, 5, 2), [], [304]),
  (27, .aload_n 0, 1, (0, 0, 0), [], []),
  (28, .sipush 401, 3, (0, 0, 0), [], []),
  (31, .newarray .int, 2, (20, 0, 0), [], [178]),
  (33, .putfield 21, 3, (1, 6, 2), [], [305]),
  (36, .aload_n 0, 1, (0, 0, 0), [], []),
  (37, .aload_n 1, 1, (0, 0, 0), [], []),
  (38, .putfield 25, 3, (1, 1, 2), [], [300]),
  (41, .aload_n 0, 1, (0, 0, 0), [], []),
  (42, .aload_n 2, 1, (0, 0, 0), [], []),
  (43, .putfield 29, 3, (1, 2, 2), [], [301]),
  (46, .return_, 1, (0, 0, 0), [], [])]
/-- 14: X0_fill -/
def am_t14 : List am_E := [(0, .aload_n 1, 1, (0, 0, 0), [], []),
  (1, .invokevirtual 33, 3, (0, 85, 4), [], [1126, 69, 1127, 1128]),
  (4, .aload_n 0, 1, (0, 0, 0), [], []),
  (5, .iconst 0, 1, (0, 0, 0), [], []),
  (6, .putfield 38, 3, (1, 0, 0), [], [298]),
  (9, .aload_n 0, 1, (0, 0, 0), [], []),
  (10, .getfield 38, 3, (1, 0, 0), [], [298]),
  (13, .aload_n 0, 1, (0, 0, 0), [], []),
  (14, .getfield 29, 3, (1, 2, 2), [], [301]),
  (17, .getfield 42, 3, (2, 2, 0), [], [277]),
  (20, .if_icmp .ge 38, 3, (58, 0, 0), [], []),
  (23, .aload_n 0, 1, (0, 0, 0), [], []),
  (24, .getfield 38, 3, (1, 0, 0), [], [298]),
  (27, .sipush 400, 3, (0, 0, 0), [], []),
  (30, .if_icmp .ge 28, 3, (58, 0, 0), [], []),
  (33, .aload_n 0, 1, (0, 0, 0), [], []),
  (34, .aload_n 1, 1, (0, 0, 0), [], []),
  (35, .invokevirtual 45, 3, (0, 16, 1), [], [1130, 72, 1132, 47]),
  (38, .istore_n 2, 1, (0, 0, 0), [], []),
  (39, .iload_n 2, 1, (0, 0, 0), [], []),
  (40, .ifCond .eq 5, 3, (45, 0, 0), [], []),
  (43, .iload_n 2, 1, (0, 0, 0), [], []),
  (44, .ireturn, 1, (0, 0, 0), [], []),
  (45, .aload_n 0, 1, (0, 0, 0), [], []),
  (46, .dup, 1, (0, 0, 0), [], []),
  (47, .getfield 38, 3, (1, 0, 0), [], [298]),
  (50, .iconst 1, 1, (0, 0, 0), [], []),
  (51, .iadd, 1, (0, 0, 0), [], []),
  (52, .putfield 38, 3, (1, 0, 0), [], [298]),
  (55, .goto (-46), 3, (9, 0, 0), [], []),
  (58, .aload_n 0, 1, (0, 0, 0), [], []),
  (59, .aload_n 1, 1, (0, 0, 0), [], []),
  (60, .invokevirtual 49, 3, (0, 15, 1), [], [1173, 72, 1175, 53]),
  (63, .iconst 0, 1, (0, 0, 0), [], []),
  (64, .ireturn, 1, (0, 0, 0), [], [])]
/-- 15: X0_setArguments -/
def am_t15 : List am_E := [(0, .iconst 0, 1, (0, 0, 0), [], []),
  (1, .istore_n 2, 1, (0, 0, 0), [], []),
  (2, .iload_n 2, 1, (0, 0, 0), [], []),
  (3, .aload_n 1, 1, (0, 0, 0), [], []),
  (4, .getfield 53, 3, (4, 5, 0), [], [116]),
  (7, .if_icmp .ge 54, 3, (61, 0, 0), [], []),
  (10, .iload_n 2, 1, (0, 0, 0), [], []),
  (11, .aload_n 1, 1, (0, 0, 0), [], []),
  (12, .getfield 56, 3, (4, 14, 2), [], [143]),
  (15, .arraylength, 1, (0, 0, 0), [], []),
  (16, .if_icmp .ge 45, 3, (61, 0, 0), [], []),
  (19, .aload_n 1, 1, (0, 0, 0), [], []),
  (20, .getfield 56, 3, (4, 14, 2), [], [143]),
  (23, .iload_n 2, 1, (0, 0, 0), [], []),
  (24, .iaload, 1, (0, 0, 0), [], []),
  (25, .istore_n 3, 1, (0, 0, 0), [], []),
  (26, .aload_n 1, 1, (0, 0, 0), [], []),
  (27, .getfield 56, 3, (4, 14, 2), [], [143]),
  (30, .iload_n 2, 1, (0, 0, 0), [], []),
  (31, .iload_n 3, 1, (0, 0, 0), [], []),
  (32, .ifCond .lt 21, 3, (53, 0, 0), [], []),
  (35, .iload_n 3, 1, (0, 0, 0), [], []),
  (36, .aload_n 0, 1, (0, 0, 0), [], []),
  (37, .getfield 21, 3, (1, 6, 2), [], [305]),
  (40, .arraylength, 1, (0, 0, 0), [], []),
  (41, .if_icmp .ge 12, 3, (53, 0, 0), [], []),
  (44, .aload_n 0, 1, (0, 0, 0), [], []),
  (45, .getfield 21, 3, (1, 6, 2), [], [305]),
  (48, .iload_n 3, 1, (0, 0, 0), [], []),
  (49, .iaload, 1, (0, 0, 0), [], []),
  (50, .goto 4, 3, (54, 0, 0), [], []),
  (53, .iconst 0, 1, (0, 0, 0), [], []),
  (54, .iastore, 1, (0, 0, 0), [], []),
  (55, .iinc 2 1, 3, (0, 0, 0), [], []),
  (58, .goto (-56), 3, (2, 0, 0), [], []),
  (61, .return_, 1, (0, 0, 0), [], [])]
/-- 16: X0_errorHere -/
def am_t16_0 : List am_E := [(0, .aload_n 0, 1, (0, 0, 0), [], []),
  (1, .getfield 21, 3, (1, 6, 2), [], [305]),
  (4, .aload_n 0, 1, (0, 0, 0), [], []),
  (5, .getfield 38, 3, (1, 0, 0), [], [298]),
  (8, .iconst 0, 1, (0, 0, 0), [], []),
  (9, .iastore, 1, (0, 0, 0), [], []),
  (10, .aload_n 0, 1, (0, 0, 0), [], []),
  (11, .getfield 25, 3, (1, 1, 2), [], [300]),
  (14, .getfield 59, 3, (5, 1, 2), [], [244]),
  (17, .aload_n 0, 1, (0, 0, 0), [], []),
  (18, .getfield 38, 3, (1, 0, 0), [], [298]),
  (21, .laload, 1, (0, 0, 0), [], []),
  (22, .lstore_n 2, 1, (0, 0, 0), [], []),
  (23, .aload_n 0, 1, (0, 0, 0), [], []),
  (24, .getfield 29, 3, (1, 2, 2), [], [301]),
  (27, .getfield 64, 3, (2, 0, 2), [], [273]),
  (30, .aload_n 0, 1, (0, 0, 0), [], []),
  (31, .getfield 38, 3, (1, 0, 0), [], [298]),
  (34, .iaload, 1, (0, 0, 0), [], []),
  (35, .tableswitch 290 1 14 #[69, 76, 83, 90, 96, 114, 133, 151, 157, 183, 200, 226, 250, 274], 69, (325, 0, 0), [(1, 104), (2, 111), (3, 118), (4, 125), (5, 131), (6, 149), (7, 168), (8, 186), (9, 192), (10, 218), (11, 235), (12, 261), (13, 285), (14, 309)], []),
  (104, .aload_n 0, 1, (0, 0, 0), [], []),
  (105, .aload_n 1, 1, (0, 0, 0), [], []),
  (106, .lload_n 2, 1, (0, 0, 0), [], []),
  (107, .invokevirtual 67, 3, (0, 17, 1), [], [1134, 72, 1136, 48]),
  (110, .ireturn, 1, (0, 0, 0), [], []),
  (111, .aload_n 0, 1, (0, 0, 0), [], []),
  (112, .aload_n 1, 1, (0, 0, 0), [], []),
  (113, .lload_n 2, 1, (0, 0, 0), [], []),
  (114, .invokevirtual 71, 3, (0, 18, 1), [], [1144, 72, 1146, 49]),
  (117, .ireturn, 1, (0, 0, 0), [], []),
  (118, .aload_n 0, 1, (0, 0, 0), [], []),
  (119, .aload_n 1, 1, (0, 0, 0), [], []),
  (120, .lload_n 2, 1, (0, 0, 0), [], []),
  (121, .invokevirtual 74, 3, (0, 19, 1), [], [1148, 72, 1150, 50]),
  (124, .ireturn, 1, (0, 0, 0), [], []),
  (125, .aload_n 0, 1, (0, 0, 0), [], []),
  (126, .aload_n 1, 1, (0, 0, 0), [], []),
  (127, .invokevirtual 77, 3, (0, 21, 1), [], [1152, 72, 1154, 51]),
  (130, .ireturn, 1, (0, 0, 0), [], []),
  (131, .aload_n 0, 1, (0, 0, 0), [], []),
  (132, .aload_n 1, 1, (0, 0, 0), [], []),
  (133, .getfield 80, 3, (4, 6, 2), [], [119]),
  (136, .aload_n 1, 1, (0, 0, 0), [], []),
  (137, .getfield 83, 3, (4, 0, 0), [], [98]),
  (140, .iconst 1, 1, (0, 0, 0), [], []),
  (141, .isub, 1, (0, 0, 0), [], []),
  (142, .iconst 0, 1, (0, 0, 0), [], []),
  (143, .bipush 12, 2, (0, 0, 0), [], []),
  (145, .invokevirtual 86, 3, (0, 24, 1), [], [1156, 72, 1158, 52]),
  (148, .ireturn, 1, (0, 0, 0), [], []),
  (149, .aload_n 0, 1, (0, 0, 0), [], []),
  (150, .aload_n 1, 1, (0, 0, 0), [], []),
  (151, .getfield 90, 3, (4, 8, 2), [], [126]),
  (154, .aload_n 1, 1, (0, 0, 0), [], []),
  (155, .getfield 93, 3, (4, 1, 0), [], [101]),
  (158, .iconst 1, 1, (0, 0, 0), [], []),
  (159, .isub, 1, (0, 0, 0), [], []),
  (160, .iconst 1, 1, (0, 0, 0), [], []),
  (161, .sipush 999, 3, (0, 0, 0), [], []),
  (164, .invokevirtual 86, 3, (0, 24, 1), [], [1156, 72, 1158, 52])]
def am_t16_1 : List am_E := [(167, .ireturn, 1, (0, 0, 0), [], []),
  (168, .aload_n 0, 1, (0, 0, 0), [], []),
  (169, .aload_n 1, 1, (0, 0, 0), [], []),
  (170, .getfield 96, 3, (4, 9, 2), [], [128]),
  (173, .aload_n 1, 1, (0, 0, 0), [], []),
  (174, .getfield 93, 3, (4, 1, 0), [], [101]),
  (177, .iconst 1, 1, (0, 0, 0), [], []),
  (178, .isub, 1, (0, 0, 0), [], []),
  (179, .iconst 0, 1, (0, 0, 0), [], []),
  (180, .bipush 50, 2, (0, 0, 0), [], []),
  (182, .invokevirtual 86, 3, (0, 24, 1), [], [1156, 72, 1158, 52]),
  (185, .ireturn, 1, (0, 0, 0), [], []),
  (186, .aload_n 1, 1, (0, 0, 0), [], []),
  (187, .lload_n 2, 1, (0, 0, 0), [], []),
  (188, .invokestatic 99, 3, (2, 22, 0), [], [1160, 72, 1161]),
  (191, .ireturn, 1, (0, 0, 0), [], []),
  (192, .aload_n 1, 1, (0, 0, 0), [], []),
  (193, .getfield 102, 3, (4, 7, 2), [], [122]),
  (196, .aload_n 1, 1, (0, 0, 0), [], []),
  (197, .getfield 93, 3, (4, 1, 0), [], [101]),
  (200, .iconst 1, 1, (0, 0, 0), [], []),
  (201, .isub, 1, (0, 0, 0), [], []),
  (202, .aload_n 0, 1, (0, 0, 0), [], []),
  (203, .getfield 9, 3, (1, 3, 2), [], [302]),
  (206, .aload_n 1, 1, (0, 0, 0), [], []),
  (207, .getfield 83, 3, (4, 0, 0), [], [98]),
  (210, .lload_n 2, 1, (0, 0, 0), [], []),
  (211, .invokestatic 105, 3, (2, 26, 0), [], [1141, 72, 1142]),
  (214, .invokestatic 109, 3, (2, 25, 0), [], [1164, 72, 1165]),
  (217, .ireturn, 1, (0, 0, 0), [], []),
  (218, .aload_n 1, 1, (0, 0, 0), [], []),
  (219, .aload_n 0, 1, (0, 0, 0), [], []),
  (220, .getfield 15, 3, (1, 4, 2), [], [303]),
  (223, .aload_n 1, 1, (0, 0, 0), [], []),
  (224, .getfield 93, 3, (4, 1, 0), [], [101]),
  (227, .lload_n 2, 1, (0, 0, 0), [], []),
  (228, .invokestatic 105, 3, (2, 26, 0), [], [1141, 72, 1142]),
  (231, .invokestatic 113, 3, (2, 23, 0), [], [1167, 72, 1168]),
  (234, .ireturn, 1, (0, 0, 0), [], []),
  (235, .aload_n 1, 1, (0, 0, 0), [], []),
  (236, .getfield 117, 3, (4, 11, 2), [], [134]),
  (239, .aload_n 1, 1, (0, 0, 0), [], []),
  (240, .getfield 120, 3, (4, 3, 0), [], [109]),
  (243, .iconst 1, 1, (0, 0, 0), [], []),
  (244, .isub, 1, (0, 0, 0), [], []),
  (245, .aload_n 0, 1, (0, 0, 0), [], []),
  (246, .getfield 15, 3, (1, 4, 2), [], [303]),
  (249, .aload_n 1, 1, (0, 0, 0), [], []),
  (250, .getfield 93, 3, (4, 1, 0), [], [101]),
  (253, .lload_n 2, 1, (0, 0, 0), [], []),
  (254, .invokestatic 105, 3, (2, 26, 0), [], [1141, 72, 1142]),
  (257, .invokestatic 109, 3, (2, 25, 0), [], [1164, 72, 1165]),
  (260, .ireturn, 1, (0, 0, 0), [], []),
  (261, .aload_n 0, 1, (0, 0, 0), [], []),
  (262, .getfield 21, 3, (1, 6, 2), [], [305]),
  (265, .aload_n 0, 1, (0, 0, 0), [], []),
  (266, .getfield 38, 3, (1, 0, 0), [], [298]),
  (269, .aload_n 0, 1, (0, 0, 0), [], []),
  (270, .getfield 15, 3, (1, 4, 2), [], [303]),
  (273, .aload_n 1, 1, (0, 0, 0), [], [])]
def am_t16_2 : List am_E := [(274, .getfield 93, 3, (4, 1, 0), [], [101]),
  (277, .lload_n 2, 1, (0, 0, 0), [], []),
  (278, .invokestatic 105, 3, (2, 26, 0), [], [1141, 72, 1142]),
  (281, .invokestatic 109, 3, (2, 25, 0), [], [1164, 72, 1165]),
  (284, .ireturn, 1, (0, 0, 0), [], []),
  (285, .aload_n 0, 1, (0, 0, 0), [], []),
  (286, .getfield 21, 3, (1, 6, 2), [], [305]),
  (289, .aload_n 0, 1, (0, 0, 0), [], []),
  (290, .getfield 38, 3, (1, 0, 0), [], [298]),
  (293, .aload_n 0, 1, (0, 0, 0), [], []),
  (294, .getfield 18, 3, (1, 5, 2), [], [304]),
  (297, .aload_n 1, 1, (0, 0, 0), [], []),
  (298, .getfield 123, 3, (4, 2, 0), [], [105]),
  (301, .lload_n 2, 1, (0, 0, 0), [], []),
  (302, .invokestatic 105, 3, (2, 26, 0), [], [1141, 72, 1142]),
  (305, .invokestatic 109, 3, (2, 25, 0), [], [1164, 72, 1165]),
  (308, .ireturn, 1, (0, 0, 0), [], []),
  (309, .aload_n 0, 1, (0, 0, 0), [], []),
  (310, .aload_n 0, 1, (0, 0, 0), [], []),
  (311, .getfield 21, 3, (1, 6, 2), [], [305]),
  (314, .aload_n 0, 1, (0, 0, 0), [], []),
  (315, .getfield 38, 3, (1, 0, 0), [], [298]),
  (318, .iconst 0, 1, (0, 0, 0), [], []),
  (319, .ldc 126, 2, (0, 0, 0), [(999999, 0)], [1172]),
  (321, .invokevirtual 86, 3, (0, 24, 1), [], [1156, 72, 1158, 52]),
  (324, .ireturn, 1, (0, 0, 0), [], []),
  (325, .iconst 0, 1, (0, 0, 0), [], []),
  (326, .ireturn, 1, (0, 0, 0), [], [])]
def am_t16 : List am_E := am_t16_0 ++ (am_t16_1 ++ (am_t16_2))
/-- 17: X0_tellWard -/
def am_t17 : List am_E := [(0, .aload_n 0, 1, (0, 0, 0), [], []),
  (1, .getfield 9, 3, (1, 3, 2), [], [302]),
  (4, .aload_n 1, 1, (0, 0, 0), [], []),
  (5, .getfield 83, 3, (4, 0, 0), [], [98]),
  (8, .lload_n 2, 1, (0, 0, 0), [], []),
  (9, .invokestatic 127, 3, (2, 20, 0), [], [1138, 72, 1139]),
  (12, .istore 4, 2, (0, 0, 0), [], []),
  (14, .iload 4, 2, (0, 0, 0), [], []),
  (16, .ifCond .ne 23, 3, (39, 0, 0), [], []),
  (19, .aload_n 0, 1, (0, 0, 0), [], []),
  (20, .getfield 9, 3, (1, 3, 2), [], [302]),
  (23, .aload_n 1, 1, (0, 0, 0), [], []),
  (24, .getfield 83, 3, (4, 0, 0), [], [98]),
  (27, .lload_n 2, 1, (0, 0, 0), [], []),
  (28, .lastore, 1, (0, 0, 0), [], []),
  (29, .aload_n 1, 1, (0, 0, 0), [], []),
  (30, .dup, 1, (0, 0, 0), [], []),
  (31, .getfield 83, 3, (4, 0, 0), [], [98]),
  (34, .iconst 1, 1, (0, 0, 0), [], []),
  (35, .iadd, 1, (0, 0, 0), [], []),
  (36, .putfield 83, 3, (4, 0, 0), [], [98]),
  (39, .iload 4, 2, (0, 0, 0), [], []),
  (41, .ireturn, 1, (0, 0, 0), [], [])]
/-- 18: X0_tellProject -/
def am_t18 : List am_E := [(0, .aload_n 0, 1, (0, 0, 0), [], []),
  (1, .getfield 15, 3, (1, 4, 2), [], [303]),
  (4, .aload_n 1, 1, (0, 0, 0), [], []),
  (5, .getfield 93, 3, (4, 1, 0), [], [101]),
  (8, .lload_n 2, 1, (0, 0, 0), [], []),
  (9, .invokestatic 127, 3, (2, 20, 0), [], [1138, 72, 1139]),
  (12, .istore 4, 2, (0, 0, 0), [], []),
  (14, .iload 4, 2, (0, 0, 0), [], []),
  (16, .ifCond .ne 33, 3, (49, 0, 0), [], []),
  (19, .aload_n 0, 1, (0, 0, 0), [], []),
  (20, .getfield 15, 3, (1, 4, 2), [], [303]),
  (23, .aload_n 1, 1, (0, 0, 0), [], []),
  (24, .getfield 93, 3, (4, 1, 0), [], [101]),
  (27, .lload_n 2, 1, (0, 0, 0), [], []),
  (28, .lastore, 1, (0, 0, 0), [], []),
  (29, .aload_n 1, 1, (0, 0, 0), [], []),
  (30, .getfield 130, 3, (4, 10, 2), [], [132]),
  (33, .aload_n 1, 1, (0, 0, 0), [], []),
  (34, .getfield 93, 3, (4, 1, 0), [], [101]),
  (37, .iconst 0, 1, (0, 0, 0), [], []),
  (38, .iastore, 1, (0, 0, 0), [], []),
  (39, .aload_n 1, 1, (0, 0, 0), [], []),
  (40, .dup, 1, (0, 0, 0), [], []),
  (41, .getfield 93, 3, (4, 1, 0), [], [101]),
  (44, .iconst 1, 1, (0, 0, 0), [], []),
  (45, .iadd, 1, (0, 0, 0), [], []),
  (46, .putfield 93, 3, (4, 1, 0), [], [101]),
  (49, .iload 4, 2, (0, 0, 0), [], []),
  (51, .ireturn, 1, (0, 0, 0), [], [])]
/-- 19: X0_tellVoter -/
def am_t19 : List am_E := [(0, .aload_n 0, 1, (0, 0, 0), [], []),
  (1, .getfield 18, 3, (1, 5, 2), [], [304]),
  (4, .aload_n 1, 1, (0, 0, 0), [], []),
  (5, .getfield 123, 3, (4, 2, 0), [], [105]),
  (8, .lload_n 2, 1, (0, 0, 0), [], []),
  (9, .invokestatic 127, 3, (2, 20, 0), [], [1138, 72, 1139]),
  (12, .istore 4, 2, (0, 0, 0), [], []),
  (14, .iload 4, 2, (0, 0, 0), [], []),
  (16, .ifCond .ne 23, 3, (39, 0, 0), [], []),
  (19, .aload_n 0, 1, (0, 0, 0), [], []),
  (20, .getfield 18, 3, (1, 5, 2), [], [304]),
  (23, .aload_n 1, 1, (0, 0, 0), [], []),
  (24, .getfield 123, 3, (4, 2, 0), [], [105]),
  (27, .lload_n 2, 1, (0, 0, 0), [], []),
  (28, .lastore, 1, (0, 0, 0), [], []),
  (29, .aload_n 1, 1, (0, 0, 0), [], []),
  (30, .dup, 1, (0, 0, 0), [], []),
  (31, .getfield 123, 3, (4, 2, 0), [], [105]),
  (34, .iconst 1, 1, (0, 0, 0), [], []),
  (35, .iadd, 1, (0, 0, 0), [], []),
  (36, .putfield 123, 3, (4, 2, 0), [], [105]),
  (39, .iload 4, 2, (0, 0, 0), [], []),
  (41, .ireturn, 1, (0, 0, 0), [], [])]
/-- 20: X0_errorOfNew -/
def am_t20 : List am_E := [(0, .aload_n 0, 1, (0, 0, 0), [], []),
  (1, .iload_n 1, 1, (0, 0, 0), [], []),
  (2, .lload_n 2, 1, (0, 0, 0), [], []),
  (3, .invokestatic 105, 3, (2, 26, 0), [], [1141, 72, 1142]),
  (6, .iconst (-1), 1, (0, 0, 0), [], []),
  (7, .if_icmp .eq 5, 3, (12, 0, 0), [], []),
  (10, .iconst 2, 1, (0, 0, 0), [], []),
  (11, .ireturn, 1, (0, 0, 0), [], []),
  (12, .iload_n 1, 1, (0, 0, 0), [], []),
  (13, .aload_n 0, 1, (0, 0, 0), [], []),
  (14, .arraylength, 1, (0, 0, 0), [], []),
  (15, .if_icmp .lt 7, 3, (22, 0, 0), [], []),
  (18, .iconst 4, 1, (0, 0, 0), [], []),
  (19, .goto 4, 3, (23, 0, 0), [], []),
  (22, .iconst 0, 1, (0, 0, 0), [], []),
  (23, .ireturn, 1, (0, 0, 0), [], [])]
/-- 21: X0_tellBan -/
def am_t21 : List am_E := [(0, .aload_n 1, 1, (0, 0, 0), [], []),
  (1, .getfield 120, 3, (4, 3, 0), [], [109]),
  (4, .bipush 12, 2, (0, 0, 0), [], []),
  (6, .if_icmp .lt 5, 3, (11, 0, 0), [], []),
  (9, .iconst 4, 1, (0, 0, 0), [], []),
  (10, .ireturn, 1, (0, 0, 0), [], []),
  (11, .aload_n 1, 1, (0, 0, 0), [], []),
  (12, .getfield 133, 3, (4, 12, 2), [], [137]),
  (15, .aload_n 1, 1, (0, 0, 0), [], []),
  (16, .getfield 120, 3, (4, 3, 0), [], [109]),
  (19, .aload_n 0, 1, (0, 0, 0), [], []),
  (20, .getfield 29, 3, (1, 2, 2), [], [301]),
  (23, .getfield 136, 3, (2, 1, 2), [], [275]),
  (26, .aload_n 0, 1, (0, 0, 0), [], []),
  (27, .getfield 38, 3, (1, 0, 0), [], [298]),
  (30, .iaload, 1, (0, 0, 0), [], []),
  (31, .iastore, 1, (0, 0, 0), [], []),
  (32, .aload_n 1, 1, (0, 0, 0), [], []),
  (33, .dup, 1, (0, 0, 0), [], []),
  (34, .getfield 120, 3, (4, 3, 0), [], [109]),
  (37, .iconst 1, 1, (0, 0, 0), [], []),
  (38, .iadd, 1, (0, 0, 0), [], []),
  (39, .putfield 120, 3, (4, 3, 0), [], [109]),
  (42, .iconst 0, 1, (0, 0, 0), [], []),
  (43, .ireturn, 1, (0, 0, 0), [], [])]
/-- 22: X0_tellBudget -/
def am_t22 : List am_E := [(0, .lload_n 1, 1, (0, 0, 0), [], []),
  (1, .ldc2_w 139, 3, (0, 0, 0), [(9999, 1)], [1163]),
  (4, .lcmp, 1, (0, 0, 0), [], []),
  (5, .ifCond .le 5, 3, (10, 0, 0), [], []),
  (8, .iconst 5, 1, (0, 0, 0), [], []),
  (9, .ireturn, 1, (0, 0, 0), [], []),
  (10, .aload_n 0, 1, (0, 0, 0), [], []),
  (11, .lload_n 1, 1, (0, 0, 0), [], []),
  (12, .l2i, 1, (0, 0, 0), [], []),
  (13, .putfield 141, 3, (4, 4, 0), [], [114]),
  (16, .iconst 0, 1, (0, 0, 0), [], []),
  (17, .ireturn, 1, (0, 0, 0), [], [])]
/-- 23: X0_tellLiked -/
def am_t23 : List am_E := [(0, .aload_n 0, 1, (0, 0, 0), [], []),
  (1, .getfield 123, 3, (4, 2, 0), [], [105]),
  (4, .iconst 1, 1, (0, 0, 0), [], []),
  (5, .isub, 1, (0, 0, 0), [], []),
  (6, .istore_n 2, 1, (0, 0, 0), [], []),
  (7, .aload_n 0, 1, (0, 0, 0), [], []),
  (8, .iload_n 1, 1, (0, 0, 0), [], []),
  (9, .invokevirtual 144, 3, (0, 87, 4), [], [1170, 69, 523, 524]),
  (12, .ifCond .eq 11, 3, (23, 0, 0), [], []),
  (15, .aload_n 0, 1, (0, 0, 0), [], []),
  (16, .iload_n 2, 1, (0, 0, 0), [], []),
  (17, .invokevirtual 148, 3, (0, 88, 4), [], [1171, 69, 564, 565]),
  (20, .ifCond .ne 5, 3, (25, 0, 0), [], []),
  (23, .iconst 3, 1, (0, 0, 0), [], []),
  (24, .ireturn, 1, (0, 0, 0), [], []),
  (25, .aload_n 0, 1, (0, 0, 0), [], []),
  (26, .getfield 130, 3, (4, 10, 2), [], [132]),
  (29, .iload_n 1, 1, (0, 0, 0), [], []),
  (30, .iaload, 1, (0, 0, 0), [], []),
  (31, .iload_n 2, 1, (0, 0, 0), [], []),
  (32, .ishr, 1, (0, 0, 0), [], []),
  (33, .iconst 1, 1, (0, 0, 0), [], []),
  (34, .iand, 1, (0, 0, 0), [], []),
  (35, .ifCond .eq 5, 3, (40, 0, 0), [], []),
  (38, .iconst 5, 1, (0, 0, 0), [], []),
  (39, .ireturn, 1, (0, 0, 0), [], []),
  (40, .aload_n 0, 1, (0, 0, 0), [], []),
  (41, .getfield 130, 3, (4, 10, 2), [], [132]),
  (44, .iload_n 1, 1, (0, 0, 0), [], []),
  (45, .dup2, 1, (0, 0, 0), [], []),
  (46, .iaload, 1, (0, 0, 0), [], []),
  (47, .iconst 1, 1, (0, 0, 0), [], []),
  (48, .iload_n 2, 1, (0, 0, 0), [], []),
  (49, .ishl, 1, (0, 0, 0), [], []),
  (50, .ior, 1, (0, 0, 0), [], []),
  (51, .iastore, 1, (0, 0, 0), [], []),
  (52, .iconst 0, 1, (0, 0, 0), [], []),
  (53, .ireturn, 1, (0, 0, 0), [], [])]
/-- 24: X0_putNumber -/
def am_t24 : List am_E := [(0, .aload_n 0, 1, (0, 0, 0), [], []),
  (1, .getfield 25, 3, (1, 1, 2), [], [300]),
  (4, .getfield 59, 3, (5, 1, 2), [], [244]),
  (7, .aload_n 0, 1, (0, 0, 0), [], []),
  (8, .getfield 38, 3, (1, 0, 0), [], [298]),
  (11, .laload, 1, (0, 0, 0), [], []),
  (12, .lstore 5, 2, (0, 0, 0), [], []),
  (14, .lload 5, 2, (0, 0, 0), [], []),
  (16, .iload_n 3, 1, (0, 0, 0), [], []),
  (17, .i2l, 1, (0, 0, 0), [], []),
  (18, .lcmp, 1, (0, 0, 0), [], []),
  (19, .ifCond .lt 12, 3, (31, 0, 0), [], []),
  (22, .lload 5, 2, (0, 0, 0), [], []),
  (24, .iload 4, 2, (0, 0, 0), [], []),
  (26, .i2l, 1, (0, 0, 0), [], []),
  (27, .lcmp, 1, (0, 0, 0), [], []),
  (28, .ifCond .le 5, 3, (33, 0, 0), [], []),
  (31, .iconst 5, 1, (0, 0, 0), [], []),
  (32, .ireturn, 1, (0, 0, 0), [], []),
  (33, .iload_n 2, 1, (0, 0, 0), [], []),
  (34, .ifCond .lt 15, 3, (49, 0, 0), [], []),
  (37, .iload_n 2, 1, (0, 0, 0), [], []),
  (38, .aload_n 1, 1, (0, 0, 0), [], []),
  (39, .arraylength, 1, (0, 0, 0), [], []),
  (40, .if_icmp .ge 9, 3, (49, 0, 0), [], []),
  (43, .aload_n 1, 1, (0, 0, 0), [], []),
  (44, .iload_n 2, 1, (0, 0, 0), [], []),
  (45, .lload 5, 2, (0, 0, 0), [], []),
  (47, .l2i, 1, (0, 0, 0), [], []),
  (48, .iastore, 1, (0, 0, 0), [], []),
  (49, .iconst 0, 1, (0, 0, 0), [], []),
  (50, .ireturn, 1, (0, 0, 0), [], [])]
/-- 25: X0_putNamed -/
def am_t25 : List am_E := [(0, .iload_n 2, 1, (0, 0, 0), [], []),
  (1, .iconst (-1), 1, (0, 0, 0), [], []),
  (2, .if_icmp .ne 5, 3, (7, 0, 0), [], []),
  (5, .iconst 3, 1, (0, 0, 0), [], []),
  (6, .ireturn, 1, (0, 0, 0), [], []),
  (7, .iload_n 1, 1, (0, 0, 0), [], []),
  (8, .ifCond .lt 13, 3, (21, 0, 0), [], []),
  (11, .iload_n 1, 1, (0, 0, 0), [], []),
  (12, .aload_n 0, 1, (0, 0, 0), [], []),
  (13, .arraylength, 1, (0, 0, 0), [], []),
  (14, .if_icmp .ge 7, 3, (21, 0, 0), [], []),
  (17, .aload_n 0, 1, (0, 0, 0), [], []),
  (18, .iload_n 1, 1, (0, 0, 0), [], []),
  (19, .iload_n 2, 1, (0, 0, 0), [], []),
  (20, .iastore, 1, (0, 0, 0), [], []),
  (21, .iconst 0, 1, (0, 0, 0), [], []),
  (22, .ireturn, 1, (0, 0, 0), [], [])]
/-- 26: X0_find -/
def am_t26 : List am_E := [(0, .iconst 0, 1, (0, 0, 0), [], []),
  (1, .istore 4, 2, (0, 0, 0), [], []),
  (3, .iload 4, 2, (0, 0, 0), [], []),
  (5, .iload_n 1, 1, (0, 0, 0), [], []),
  (6, .if_icmp .ge 28, 3, (34, 0, 0), [], []),
  (9, .iload 4, 2, (0, 0, 0), [], []),
  (11, .aload_n 0, 1, (0, 0, 0), [], []),
  (12, .arraylength, 1, (0, 0, 0), [], []),
  (13, .if_icmp .ge 21, 3, (34, 0, 0), [], []),
  (16, .aload_n 0, 1, (0, 0, 0), [], []),
  (17, .iload 4, 2, (0, 0, 0), [], []),
  (19, .laload, 1, (0, 0, 0), [], []),
  (20, .lload_n 2, 1, (0, 0, 0), [], []),
  (21, .lcmp, 1, (0, 0, 0), [], []),
  (22, .ifCond .ne 6, 3, (28, 0, 0), [], []),
  (25, .iload 4, 2, (0, 0, 0), [], []),
  (27, .ireturn, 1, (0, 0, 0), [], []),
  (28, .iinc 4 1, 3, (0, 0, 0), [], []),
  (31, .goto (-28), 3, (3, 0, 0), [], []),
  (34, .iconst (-1), 1, (0, 0, 0), [], []),
  (35, .ireturn, 1, (0, 0, 0), [], [])]
/-- 27: X1_init -/
def am_t27 : List am_E := [(0, .aload_n 0, 1, (0, 0, 0), [], []),
  (1, .invokespecial 3, 3, (6, 0, 0), [], [271, 89, 90]),
  (4, .aload_n 0, 1, (0, 0, 0), [], []),
  (5, .sipush 401, 3, (0, 0, 0), [], []),
  (8, .newarray .int, 2, (20, 0, 0), [], [178]),
  (10, .putfield 9, 3, (2, 0, 2), [], [272]),
  (13, .aload_n 0, 1, (0, 0, 0), [], []),
  (14, .sipush 401, 3, (0, 0, 0), [], []),
  (17, .newarray .int, 2, (20, 0, 0), [], [178]),
  (19, .putfield 15, 3, (2, 1, 2), [], [274]),
  (22, .aload_n 0, 1, (0, 0, 0), [], []),
  (23, .aload_n 1, 1, (0, 0, 0), [], []),
  (24, .putfield 18, 3, (2, 3, 2), [], [279]),
  (27, .aload_n 0, 1, (0, 0, 0), [], []),
  (28, .aload_n 2, 1, (0, 0, 0), [], []),
  (29, .putfield 22, 3, (2, 4, 2), [], [280]),
  (32, .return_, 1, (0, 0, 0), [], [])]
/-- 28: X1_isList -/
def am_t28 : List am_E := [(0, .aload_n 0, 1, (0, 0, 0), [], []),
  (1, .aload_n 1, 1, (0, 0, 0), [], []),
  (2, .putfield 22, 3, (2, 4, 2), [], [280]),
  (5, .aload_n 1, 1, (0, 0, 0), [], []),
  (6, .iconst 0, 1, (0, 0, 0), [], []),
  (7, .putfield 26, 3, (4, 5, 0), [], [115]),
  (10, .aload_n 0, 1, (0, 0, 0), [], []),
  (11, .iconst 0, 1, (0, 0, 0), [], []),
  (12, .putfield 32, 3, (2, 2, 0), [], [276]),
  (15, .iconst 0, 1, (0, 0, 0), [], []),
  (16, .istore_n 2, 1, (0, 0, 0), [], []),
  (17, .iload_n 2, 1, (0, 0, 0), [], []),
  (18, .sipush 400, 3, (0, 0, 0), [], []),
  (21, .if_icmp .ge 39, 3, (60, 0, 0), [], []),
  (24, .aload_n 0, 1, (0, 0, 0), [], []),
  (25, .invokevirtual 35, 3, (0, 29, 2), [], [1054, 71, 1056, 30]),
  (28, .sipush 260, 3, (0, 0, 0), [], []),
  (31, .if_icmp .ne 5, 3, (36, 0, 0), [], []),
  (34, .iconst 1, 1, (0, 0, 0), [], []),
  (35, .ireturn, 1, (1, 0, 0), [], []),
  (36, .aload_n 0, 1, (0, 0, 0), [], []),
  (37, .invokevirtual 41, 3, (0, 34, 2), [], [1058, 71, 1060, 31]),
  (40, .ifCond .eq 12, 3, (52, 0, 0), [], []),
  (43, .aload_n 0, 1, (0, 0, 0), [], []),
  (44, .bipush 59, 2, (0, 0, 0), [], []),
  (46, .invokevirtual 45, 3, (0, 30, 2), [], [1062, 71, 1064, 32]),
  (49, .ifCond .ne 5, 3, (54, 0, 0), [], []),
  (52, .iconst 0, 1, (0, 0, 0), [], []),
  (53, .ireturn, 1, (1, 0, 0), [], []),
  (54, .iinc 2 1, 3, (0, 0, 0), [], []),
  (57, .goto (-40), 3, (17, 0, 0), [], []),
  (60, .aload_n 0, 1, (0, 0, 0), [], []),
  (61, .invokevirtual 35, 3, (0, 29, 2), [], [1054, 71, 1056, 30]),
  (64, .sipush 260, 3, (0, 0, 0), [], []),
  (67, .if_icmp .ne 7, 3, (74, 0, 0), [], []),
  (70, .iconst 1, 1, (0, 0, 0), [], []),
  (71, .goto 4, 3, (75, 0, 0), [], []),
  (74, .iconst 0, 1, (0, 0, 0), [], []),
  (75, .ireturn, 1, (1, 0, 0), [], [])]
/-- 29: X1_here -/
def am_t29 : List am_E := [(0, .aload_n 0, 1, (0, 0, 0), [], []),
  (1, .getfield 32, 3, (2, 2, 0), [], [276]),
  (4, .ifCond .lt 33, 3, (37, 0, 0), [], []),
  (7, .aload_n 0, 1, (0, 0, 0), [], []),
  (8, .getfield 32, 3, (2, 2, 0), [], [276]),
  (11, .aload_n 0, 1, (0, 0, 0), [], []),
  (12, .getfield 18, 3, (2, 3, 2), [], [279]),
  (15, .getfield 49, 3, (5, 0, 2), [], [242]),
  (18, .arraylength, 1, (0, 0, 0), [], []),
  (19, .if_icmp .ge 18, 3, (37, 0, 0), [], []),
  (22, .aload_n 0, 1, (0, 0, 0), [], []),
  (23, .getfield 18, 3, (2, 3, 2), [], [279]),
  (26, .getfield 49, 3, (5, 0, 2), [], [242]),
  (29, .aload_n 0, 1, (0, 0, 0), [], []),
  (30, .getfield 32, 3, (2, 2, 0), [], [276]),
  (33, .iaload, 1, (0, 0, 0), [], []),
  (34, .goto 6, 3, (40, 0, 0), [], []),
  (37, .sipush 260, 3, (0, 0, 0), [], []),
  (40, .ireturn, 1, (0, 0, 0), [], [])]
/-- 30: X1_take -/
def am_t30 : List am_E := [(0, .aload_n 0, 1, (0, 0, 0), [], []),
  (1, .iload_n 1, 1, (0, 0, 0), [], []),
  (2, .iconst 0, 1, (0, 0, 0), [], []),
  (3, .invokevirtual 56, 3, (0, 31, 2), [], [1066, 71, 1068, 33]),
  (6, .ireturn, 1, (1, 0, 0), [], [])]
/-- 31: X1_take_ -/
def am_t31 : List am_E := [(0, .aload_n 0, 1, (0, 0, 0), [], []),
  (1, .getfield 32, 3, (2, 2, 0), [], [276]),
  (4, .ifCond .lt 29, 3, (33, 0, 0), [], []),
  (7, .aload_n 0, 1, (0, 0, 0), [], []),
  (8, .getfield 32, 3, (2, 2, 0), [], [276]),
  (11, .sipush 400, 3, (0, 0, 0), [], []),
  (14, .if_icmp .ge 19, 3, (33, 0, 0), [], []),
  (17, .aload_n 0, 1, (0, 0, 0), [], []),
  (18, .getfield 18, 3, (2, 3, 2), [], [279]),
  (21, .getfield 49, 3, (5, 0, 2), [], [242]),
  (24, .aload_n 0, 1, (0, 0, 0), [], []),
  (25, .getfield 32, 3, (2, 2, 0), [], [276]),
  (28, .iaload, 1, (0, 0, 0), [], []),
  (29, .iload_n 1, 1, (0, 0, 0), [], []),
  (30, .if_icmp .eq 5, 3, (35, 0, 0), [], []),
  (33, .iconst 0, 1, (0, 0, 0), [], []),
  (34, .ireturn, 1, (1, 0, 0), [], []),
  (35, .aload_n 0, 1, (0, 0, 0), [], []),
  (36, .getfield 9, 3, (2, 0, 2), [], [272]),
  (39, .aload_n 0, 1, (0, 0, 0), [], []),
  (40, .getfield 32, 3, (2, 2, 0), [], [276]),
  (43, .iload_n 2, 1, (0, 0, 0), [], []),
  (44, .iastore, 1, (0, 0, 0), [], []),
  (45, .aload_n 0, 1, (0, 0, 0), [], []),
  (46, .dup, 1, (0, 0, 0), [], []),
  (47, .getfield 32, 3, (2, 2, 0), [], [276]),
  (50, .iconst 1, 1, (0, 0, 0), [], []),
  (51, .iadd, 1, (0, 0, 0), [], []),
  (52, .putfield 32, 3, (2, 2, 0), [], [276]),
  (55, .iconst 1, 1, (0, 0, 0), [], []),
  (56, .ireturn, 1, (1, 0, 0), [], [])]
/-- 32: X1_write -/
def am_t32 : List am_E := [(0, .aload_n 0, 1, (0, 0, 0), [], []),
  (1, .iload_n 1, 1, (0, 0, 0), [], []),
  (2, .iconst 0, 1, (0, 0, 0), [], []),
  (3, .invokevirtual 59, 3, (0, 33, 2), [], [1094, 71, 1096, 40]),
  (6, .ireturn, 1, (1, 0, 0), [], [])]
/-- 33: X1_write_ -/
def am_t33 : List am_E := [(0, .aload_n 0, 1, (0, 0, 0), [], []),
  (1, .getfield 22, 3, (2, 4, 2), [], [280]),
  (4, .getfield 26, 3, (4, 5, 0), [], [115]),
  (7, .ifCond .lt 21, 3, (28, 0, 0), [], []),
  (10, .aload_n 0, 1, (0, 0, 0), [], []),
  (11, .getfield 22, 3, (2, 4, 2), [], [280]),
  (14, .getfield 26, 3, (4, 5, 0), [], [115]),
  (17, .aload_n 0, 1, (0, 0, 0), [], []),
  (18, .getfield 22, 3, (2, 4, 2), [], [280]),
  (21, .getfield 62, 3, (4, 13, 2), [], [140]),
  (24, .arraylength, 1, (0, 0, 0), [], []),
  (25, .if_icmp .lt 5, 3, (30, 0, 0), [], []),
  (28, .iconst 0, 1, (0, 0, 0), [], []),
  (29, .ireturn, 1, (1, 0, 0), [], []),
  (30, .aload_n 0, 1, (0, 0, 0), [], []),
  (31, .getfield 22, 3, (2, 4, 2), [], [280]),
  (34, .getfield 62, 3, (4, 13, 2), [], [140]),
  (37, .aload_n 0, 1, (0, 0, 0), [], []),
  (38, .getfield 22, 3, (2, 4, 2), [], [280]),
  (41, .getfield 26, 3, (4, 5, 0), [], [115]),
  (44, .iload_n 1, 1, (0, 0, 0), [], []),
  (45, .iastore, 1, (0, 0, 0), [], []),
  (46, .aload_n 0, 1, (0, 0, 0), [], []),
  (47, .getfield 22, 3, (2, 4, 2), [], [280]),
  (50, .getfield 65, 3, (4, 14, 2), [], [144]),
  (53, .aload_n 0, 1, (0, 0, 0), [], []),
  (54, .getfield 22, 3, (2, 4, 2), [], [280]),
  (57, .getfield 26, 3, (4, 5, 0), [], [115]),
  (60, .iload_n 2, 1, (0, 0, 0), [], []),
  (61, .iastore, 1, (0, 0, 0), [], []),
  (62, .aload_n 0, 1, (0, 0, 0), [], []),
  (63, .getfield 22, 3, (2, 4, 2), [], [280]),
  (66, .dup, 1, (0, 0, 0), [], []),
  (67, .getfield 26, 3, (4, 5, 0), [], [115]),
  (70, .iconst 1, 1, (0, 0, 0), [], []),
  (71, .iadd, 1, (0, 0, 0), [], []),
  (72, .putfield 26, 3, (4, 5, 0), [], [115]),
  (75, .iconst 1, 1, (0, 0, 0), [], []),
  (76, .ireturn, 1, (1, 0, 0), [], [])]
/-- 34: X1_isLine -/
def am_t34_0 : List am_E := [(0, .aload_n 0, 1, (0, 0, 0), [], []),
  (1, .invokevirtual 35, 3, (0, 29, 2), [], [1054, 71, 1056, 30]),
  (4, .tableswitch 274 300 309 #[56, 274, 104, 274, 274, 274, 197, 274, 241, 269], 56, (278, 0, 0), [(300, 60), (301, 278), (302, 108), (303, 278), (304, 278), (305, 278), (306, 201), (307, 278), (308, 245), (309, 273)], []),
  (60, .aload_n 0, 1, (0, 0, 0), [], []),
  (61, .sipush 300, 3, (0, 0, 0), [], []),
  (64, .invokevirtual 45, 3, (0, 30, 2), [], [1062, 71, 1064, 32]),
  (67, .ifCond .eq 39, 3, (106, 0, 0), [], []),
  (70, .aload_n 0, 1, (0, 0, 0), [], []),
  (71, .sipush 256, 3, (0, 0, 0), [], []),
  (74, .iconst 1, 1, (0, 0, 0), [], []),
  (75, .invokevirtual 56, 3, (0, 31, 2), [], [1066, 71, 1068, 33]),
  (78, .ifCond .eq 28, 3, (106, 0, 0), [], []),
  (81, .aload_n 0, 1, (0, 0, 0), [], []),
  (82, .sipush 301, 3, (0, 0, 0), [], []),
  (85, .invokevirtual 45, 3, (0, 30, 2), [], [1062, 71, 1064, 32]),
  (88, .ifCond .eq 18, 3, (106, 0, 0), [], []),
  (91, .aload_n 0, 1, (0, 0, 0), [], []),
  (92, .sipush 257, 3, (0, 0, 0), [], []),
  (95, .iconst 5, 1, (0, 0, 0), [], []),
  (96, .invokevirtual 56, 3, (0, 31, 2), [], [1066, 71, 1068, 33]),
  (99, .ifCond .eq 7, 3, (106, 0, 0), [], []),
  (102, .iconst 1, 1, (0, 0, 0), [], []),
  (103, .goto 4, 3, (107, 0, 0), [], []),
  (106, .iconst 0, 1, (0, 0, 0), [], []),
  (107, .ireturn, 1, (1, 0, 0), [], []),
  (108, .aload_n 0, 1, (0, 0, 0), [], []),
  (109, .sipush 302, 3, (0, 0, 0), [], []),
  (112, .invokevirtual 45, 3, (0, 30, 2), [], [1062, 71, 1064, 32]),
  (115, .ifCond .eq 84, 3, (199, 0, 0), [], []),
  (118, .aload_n 0, 1, (0, 0, 0), [], []),
  (119, .sipush 256, 3, (0, 0, 0), [], []),
  (122, .iconst 2, 1, (0, 0, 0), [], []),
  (123, .invokevirtual 56, 3, (0, 31, 2), [], [1066, 71, 1068, 33]),
  (126, .ifCond .eq 73, 3, (199, 0, 0), [], []),
  (129, .aload_n 0, 1, (0, 0, 0), [], []),
  (130, .sipush 303, 3, (0, 0, 0), [], []),
  (133, .invokevirtual 45, 3, (0, 30, 2), [], [1062, 71, 1064, 32]),
  (136, .ifCond .eq 63, 3, (199, 0, 0), [], []),
  (139, .aload_n 0, 1, (0, 0, 0), [], []),
  (140, .sipush 257, 3, (0, 0, 0), [], []),
  (143, .bipush 6, 2, (0, 0, 0), [], []),
  (145, .invokevirtual 56, 3, (0, 31, 2), [], [1066, 71, 1068, 33]),
  (148, .ifCond .eq 51, 3, (199, 0, 0), [], []),
  (151, .aload_n 0, 1, (0, 0, 0), [], []),
  (152, .sipush 304, 3, (0, 0, 0), [], []),
  (155, .invokevirtual 45, 3, (0, 30, 2), [], [1062, 71, 1064, 32]),
  (158, .ifCond .eq 41, 3, (199, 0, 0), [], []),
  (161, .aload_n 0, 1, (0, 0, 0), [], []),
  (162, .sipush 256, 3, (0, 0, 0), [], []),
  (165, .bipush 9, 2, (0, 0, 0), [], []),
  (167, .invokevirtual 56, 3, (0, 31, 2), [], [1066, 71, 1068, 33]),
  (170, .ifCond .eq 29, 3, (199, 0, 0), [], []),
  (173, .aload_n 0, 1, (0, 0, 0), [], []),
  (174, .sipush 305, 3, (0, 0, 0), [], []),
  (177, .invokevirtual 45, 3, (0, 30, 2), [], [1062, 71, 1064, 32]),
  (180, .ifCond .eq 19, 3, (199, 0, 0), [], []),
  (183, .aload_n 0, 1, (0, 0, 0), [], []),
  (184, .sipush 257, 3, (0, 0, 0), [], []),
  (187, .bipush 7, 2, (0, 0, 0), [], []),
  (189, .invokevirtual 56, 3, (0, 31, 2), [], [1066, 71, 1068, 33])]
def am_t34_1 : List am_E := [(192, .ifCond .eq 7, 3, (199, 0, 0), [], []),
  (195, .iconst 1, 1, (0, 0, 0), [], []),
  (196, .goto 4, 3, (200, 0, 0), [], []),
  (199, .iconst 0, 1, (0, 0, 0), [], []),
  (200, .ireturn, 1, (1, 0, 0), [], []),
  (201, .aload_n 0, 1, (0, 0, 0), [], []),
  (202, .sipush 306, 3, (0, 0, 0), [], []),
  (205, .invokevirtual 45, 3, (0, 30, 2), [], [1062, 71, 1064, 32]),
  (208, .ifCond .eq 35, 3, (243, 0, 0), [], []),
  (211, .aload_n 0, 1, (0, 0, 0), [], []),
  (212, .sipush 256, 3, (0, 0, 0), [], []),
  (215, .iconst 3, 1, (0, 0, 0), [], []),
  (216, .invokevirtual 56, 3, (0, 31, 2), [], [1066, 71, 1068, 33]),
  (219, .ifCond .eq 24, 3, (243, 0, 0), [], []),
  (222, .aload_n 0, 1, (0, 0, 0), [], []),
  (223, .sipush 307, 3, (0, 0, 0), [], []),
  (226, .invokevirtual 45, 3, (0, 30, 2), [], [1062, 71, 1064, 32]),
  (229, .ifCond .eq 10, 3, (239, 0, 0), [], []),
  (232, .aload_n 0, 1, (0, 0, 0), [], []),
  (233, .invokevirtual 68, 3, (0, 35, 2), [], [1070, 71, 1072, 34]),
  (236, .ifCond .eq 7, 3, (243, 0, 0), [], []),
  (239, .iconst 1, 1, (0, 0, 0), [], []),
  (240, .goto 4, 3, (244, 0, 0), [], []),
  (243, .iconst 0, 1, (0, 0, 0), [], []),
  (244, .ireturn, 1, (1, 0, 0), [], []),
  (245, .aload_n 0, 1, (0, 0, 0), [], []),
  (246, .sipush 308, 3, (0, 0, 0), [], []),
  (249, .invokevirtual 45, 3, (0, 30, 2), [], [1062, 71, 1064, 32]),
  (252, .ifCond .eq 19, 3, (271, 0, 0), [], []),
  (255, .aload_n 0, 1, (0, 0, 0), [], []),
  (256, .sipush 257, 3, (0, 0, 0), [], []),
  (259, .bipush 8, 2, (0, 0, 0), [], []),
  (261, .invokevirtual 56, 3, (0, 31, 2), [], [1066, 71, 1068, 33]),
  (264, .ifCond .eq 7, 3, (271, 0, 0), [], []),
  (267, .iconst 1, 1, (0, 0, 0), [], []),
  (268, .goto 4, 3, (272, 0, 0), [], []),
  (271, .iconst 0, 1, (0, 0, 0), [], []),
  (272, .ireturn, 1, (1, 0, 0), [], []),
  (273, .aload_n 0, 1, (0, 0, 0), [], []),
  (274, .invokevirtual 71, 3, (0, 36, 2), [], [1074, 71, 1076, 35]),
  (277, .ireturn, 1, (1, 0, 0), [], []),
  (278, .iconst 0, 1, (0, 0, 0), [], []),
  (279, .ireturn, 1, (1, 0, 0), [], [])]
def am_t34 : List am_E := am_t34_0 ++ (am_t34_1)
/-- 35: X1_isRowOfLiked -/
def am_t35 : List am_E := [(0, .aload_n 0, 1, (0, 0, 0), [], []),
  (1, .sipush 256, 3, (0, 0, 0), [], []),
  (4, .bipush 10, 2, (0, 0, 0), [], []),
  (6, .invokevirtual 56, 3, (0, 31, 2), [], [1066, 71, 1068, 33]),
  (9, .ifCond .ne 5, 3, (14, 0, 0), [], []),
  (12, .iconst 0, 1, (0, 0, 0), [], []),
  (13, .ireturn, 1, (1, 0, 0), [], []),
  (14, .iconst 0, 1, (0, 0, 0), [], []),
  (15, .istore_n 1, 1, (0, 0, 0), [], []),
  (16, .iload_n 1, 1, (0, 0, 0), [], []),
  (17, .sipush 400, 3, (0, 0, 0), [], []),
  (20, .if_icmp .ge 21, 3, (41, 0, 0), [], []),
  (23, .aload_n 0, 1, (0, 0, 0), [], []),
  (24, .sipush 256, 3, (0, 0, 0), [], []),
  (27, .bipush 10, 2, (0, 0, 0), [], []),
  (29, .invokevirtual 56, 3, (0, 31, 2), [], [1066, 71, 1068, 33]),
  (32, .ifCond .eq 9, 3, (41, 0, 0), [], []),
  (35, .iinc 1 1, 3, (0, 0, 0), [], []),
  (38, .goto (-22), 3, (16, 0, 0), [], []),
  (41, .iconst 1, 1, (0, 0, 0), [], []),
  (42, .ireturn, 1, (1, 0, 0), [], [])]
/-- 36: X1_isBan -/
def am_t36 : List am_E := [(0, .aload_n 0, 1, (0, 0, 0), [], []),
  (1, .getfield 32, 3, (2, 2, 0), [], [276]),
  (4, .ifCond .lt 31, 3, (35, 0, 0), [], []),
  (7, .aload_n 0, 1, (0, 0, 0), [], []),
  (8, .getfield 32, 3, (2, 2, 0), [], [276]),
  (11, .aload_n 0, 1, (0, 0, 0), [], []),
  (12, .getfield 15, 3, (2, 1, 2), [], [274]),
  (15, .arraylength, 1, (0, 0, 0), [], []),
  (16, .if_icmp .ge 19, 3, (35, 0, 0), [], []),
  (19, .aload_n 0, 1, (0, 0, 0), [], []),
  (20, .getfield 15, 3, (2, 1, 2), [], [274]),
  (23, .aload_n 0, 1, (0, 0, 0), [], []),
  (24, .getfield 32, 3, (2, 2, 0), [], [276]),
  (27, .aload_n 0, 1, (0, 0, 0), [], []),
  (28, .getfield 22, 3, (2, 4, 2), [], [280]),
  (31, .getfield 26, 3, (4, 5, 0), [], [115]),
  (34, .iastore, 1, (0, 0, 0), [], []),
  (35, .aload_n 0, 1, (0, 0, 0), [], []),
  (36, .sipush 309, 3, (0, 0, 0), [], []),
  (39, .iconst 4, 1, (0, 0, 0), [], []),
  (40, .invokevirtual 56, 3, (0, 31, 2), [], [1066, 71, 1068, 33]),
  (43, .ifCond .eq 45, 3, (88, 0, 0), [], []),
  (46, .aload_n 0, 1, (0, 0, 0), [], []),
  (47, .sipush 256, 3, (0, 0, 0), [], []),
  (50, .bipush 11, 2, (0, 0, 0), [], []),
  (52, .invokevirtual 56, 3, (0, 31, 2), [], [1066, 71, 1068, 33]),
  (55, .ifCond .eq 33, 3, (88, 0, 0), [], []),
  (58, .aload_n 0, 1, (0, 0, 0), [], []),
  (59, .sipush 310, 3, (0, 0, 0), [], []),
  (62, .invokevirtual 45, 3, (0, 30, 2), [], [1062, 71, 1064, 32]),
  (65, .ifCond .eq 23, 3, (88, 0, 0), [], []),
  (68, .aload_n 0, 1, (0, 0, 0), [], []),
  (69, .iconst 0, 1, (0, 0, 0), [], []),
  (70, .invokevirtual 74, 3, (0, 37, 2), [], [1078, 71, 1080, 36]),
  (73, .ifCond .eq 15, 3, (88, 0, 0), [], []),
  (76, .aload_n 0, 1, (0, 0, 0), [], []),
  (77, .iconst 0, 1, (0, 0, 0), [], []),
  (78, .invokevirtual 79, 3, (0, 32, 2), [], [1090, 71, 1092, 39]),
  (81, .ifCond .eq 7, 3, (88, 0, 0), [], []),
  (84, .iconst 1, 1, (0, 0, 0), [], []),
  (85, .goto 4, 3, (89, 0, 0), [], []),
  (88, .iconst 0, 1, (0, 0, 0), [], []),
  (89, .ireturn, 1, (1, 0, 0), [], [])]
/-- 37: X1_isTest -/
def am_t37 : List am_E := [(0, .aload_n 0, 1, (0, 0, 0), [], []),
  (1, .iload_n 1, 1, (0, 0, 0), [], []),
  (2, .invokevirtual 81, 3, (0, 38, 2), [], [1082, 71, 1084, 37]),
  (5, .ifCond .ne 5, 3, (10, 0, 0), [], []),
  (8, .iconst 0, 1, (0, 0, 0), [], []),
  (9, .ireturn, 1, (1, 0, 0), [], []),
  (10, .iconst 0, 1, (0, 0, 0), [], []),
  (11, .istore_n 2, 1, (0, 0, 0), [], []),
  (12, .iload_n 2, 1, (0, 0, 0), [], []),
  (13, .sipush 400, 3, (0, 0, 0), [], []),
  (16, .if_icmp .ge 38, 3, (54, 0, 0), [], []),
  (19, .aload_n 0, 1, (0, 0, 0), [], []),
  (20, .sipush 319, 3, (0, 0, 0), [], []),
  (23, .invokevirtual 45, 3, (0, 30, 2), [], [1062, 71, 1064, 32]),
  (26, .ifCond .eq 28, 3, (54, 0, 0), [], []),
  (29, .aload_n 0, 1, (0, 0, 0), [], []),
  (30, .iload_n 1, 1, (0, 0, 0), [], []),
  (31, .invokevirtual 81, 3, (0, 38, 2), [], [1082, 71, 1084, 37]),
  (34, .ifCond .eq 12, 3, (46, 0, 0), [], []),
  (37, .aload_n 0, 1, (0, 0, 0), [], []),
  (38, .bipush 24, 2, (0, 0, 0), [], []),
  (40, .invokevirtual 79, 3, (0, 32, 2), [], [1090, 71, 1092, 39]),
  (43, .ifCond .ne 5, 3, (48, 0, 0), [], []),
  (46, .iconst 0, 1, (0, 0, 0), [], []),
  (47, .ireturn, 1, (1, 0, 0), [], []),
  (48, .iinc 2 1, 3, (0, 0, 0), [], []),
  (51, .goto (-39), 3, (12, 0, 0), [], []),
  (54, .iconst 1, 1, (0, 0, 0), [], []),
  (55, .ireturn, 1, (1, 0, 0), [], [])]
/-- 38: X1_isBoth -/
def am_t38 : List am_E := [(0, .aload_n 0, 1, (0, 0, 0), [], []),
  (1, .iload_n 1, 1, (0, 0, 0), [], []),
  (2, .invokevirtual 84, 3, (0, 39, 2), [], [1086, 71, 1088, 38]),
  (5, .ifCond .ne 5, 3, (10, 0, 0), [], []),
  (8, .iconst 0, 1, (0, 0, 0), [], []),
  (9, .ireturn, 1, (1, 0, 0), [], []),
  (10, .iconst 0, 1, (0, 0, 0), [], []),
  (11, .istore_n 2, 1, (0, 0, 0), [], []),
  (12, .iload_n 2, 1, (0, 0, 0), [], []),
  (13, .sipush 400, 3, (0, 0, 0), [], []),
  (16, .if_icmp .ge 38, 3, (54, 0, 0), [], []),
  (19, .aload_n 0, 1, (0, 0, 0), [], []),
  (20, .sipush 318, 3, (0, 0, 0), [], []),
  (23, .invokevirtual 45, 3, (0, 30, 2), [], [1062, 71, 1064, 32]),
  (26, .ifCond .eq 28, 3, (54, 0, 0), [], []),
  (29, .aload_n 0, 1, (0, 0, 0), [], []),
  (30, .iload_n 1, 1, (0, 0, 0), [], []),
  (31, .invokevirtual 84, 3, (0, 39, 2), [], [1086, 71, 1088, 38]),
  (34, .ifCond .eq 12, 3, (46, 0, 0), [], []),
  (37, .aload_n 0, 1, (0, 0, 0), [], []),
  (38, .bipush 23, 2, (0, 0, 0), [], []),
  (40, .invokevirtual 79, 3, (0, 32, 2), [], [1090, 71, 1092, 39]),
  (43, .ifCond .ne 5, 3, (48, 0, 0), [], []),
  (46, .iconst 0, 1, (0, 0, 0), [], []),
  (47, .ireturn, 1, (1, 0, 0), [], []),
  (48, .iinc 2 1, 3, (0, 0, 0), [], []),
  (51, .goto (-39), 3, (12, 0, 0), [], []),
  (54, .iconst 1, 1, (0, 0, 0), [], []),
  (55, .ireturn, 1, (1, 0, 0), [], [])]
/-- 39: X1_isSingle -/
def am_t39_0 : List am_E := [(0, .aload_n 0, 1, (0, 0, 0), [], []),
  (1, .invokevirtual 35, 3, (0, 29, 2), [], [1054, 71, 1056, 30]),
  (4, .lookupswitch 197 #[(91, 85), (307, 152), (315, 125), (317, 44)], 44, (201, 0, 0), [(91, 89), (307, 156), (315, 129), (317, 48)], []),
  (48, .iload_n 1, 1, (0, 0, 0), [], []),
  (49, .bipush 8, 2, (0, 0, 0), [], []),
  (51, .if_icmp .ge 36, 3, (87, 0, 0), [], []),
  (54, .aload_n 0, 1, (0, 0, 0), [], []),
  (55, .sipush 317, 3, (0, 0, 0), [], []),
  (58, .invokevirtual 45, 3, (0, 30, 2), [], [1062, 71, 1064, 32]),
  (61, .ifCond .eq 26, 3, (87, 0, 0), [], []),
  (64, .aload_n 0, 1, (0, 0, 0), [], []),
  (65, .iload_n 1, 1, (0, 0, 0), [], []),
  (66, .iconst 1, 1, (0, 0, 0), [], []),
  (67, .iadd, 1, (0, 0, 0), [], []),
  (68, .invokevirtual 84, 3, (0, 39, 2), [], [1086, 71, 1088, 38]),
  (71, .ifCond .eq 16, 3, (87, 0, 0), [], []),
  (74, .aload_n 0, 1, (0, 0, 0), [], []),
  (75, .bipush 10, 2, (0, 0, 0), [], []),
  (77, .invokevirtual 79, 3, (0, 32, 2), [], [1090, 71, 1092, 39]),
  (80, .ifCond .eq 7, 3, (87, 0, 0), [], []),
  (83, .iconst 1, 1, (0, 0, 0), [], []),
  (84, .goto 4, 3, (88, 0, 0), [], []),
  (87, .iconst 0, 1, (0, 0, 0), [], []),
  (88, .ireturn, 1, (1, 0, 0), [], []),
  (89, .iload_n 1, 1, (0, 0, 0), [], []),
  (90, .bipush 8, 2, (0, 0, 0), [], []),
  (92, .if_icmp .ge 35, 3, (127, 0, 0), [], []),
  (95, .aload_n 0, 1, (0, 0, 0), [], []),
  (96, .bipush 91, 2, (0, 0, 0), [], []),
  (98, .invokevirtual 45, 3, (0, 30, 2), [], [1062, 71, 1064, 32]),
  (101, .ifCond .eq 26, 3, (127, 0, 0), [], []),
  (104, .aload_n 0, 1, (0, 0, 0), [], []),
  (105, .iload_n 1, 1, (0, 0, 0), [], []),
  (106, .iconst 1, 1, (0, 0, 0), [], []),
  (107, .iadd, 1, (0, 0, 0), [], []),
  (108, .invokevirtual 74, 3, (0, 37, 2), [], [1078, 71, 1080, 36]),
  (111, .ifCond .eq 16, 3, (127, 0, 0), [], []),
  (114, .aload_n 0, 1, (0, 0, 0), [], []),
  (115, .bipush 93, 2, (0, 0, 0), [], []),
  (117, .invokevirtual 45, 3, (0, 30, 2), [], [1062, 71, 1064, 32]),
  (120, .ifCond .eq 7, 3, (127, 0, 0), [], []),
  (123, .iconst 1, 1, (0, 0, 0), [], []),
  (124, .goto 4, 3, (128, 0, 0), [], []),
  (127, .iconst 0, 1, (0, 0, 0), [], []),
  (128, .ireturn, 1, (1, 0, 0), [], []),
  (129, .aload_n 0, 1, (0, 0, 0), [], []),
  (130, .sipush 315, 3, (0, 0, 0), [], []),
  (133, .invokevirtual 45, 3, (0, 30, 2), [], [1062, 71, 1064, 32]),
  (136, .ifCond .eq 18, 3, (154, 0, 0), [], []),
  (139, .aload_n 0, 1, (0, 0, 0), [], []),
  (140, .bipush 12, 2, (0, 0, 0), [], []),
  (142, .bipush 8, 2, (0, 0, 0), [], []),
  (144, .invokevirtual 87, 3, (0, 40, 2), [], [1098, 71, 1100, 41]),
  (147, .ifCond .eq 7, 3, (154, 0, 0), [], []),
  (150, .iconst 1, 1, (0, 0, 0), [], []),
  (151, .goto 4, 3, (155, 0, 0), [], []),
  (154, .iconst 0, 1, (0, 0, 0), [], []),
  (155, .ireturn, 1, (1, 0, 0), [], []),
  (156, .aload_n 0, 1, (0, 0, 0), [], []),
  (157, .sipush 307, 3, (0, 0, 0), [], [])]
def am_t39_1 : List am_E := [(160, .invokevirtual 45, 3, (0, 30, 2), [], [1062, 71, 1064, 32]),
  (163, .ifCond .eq 36, 3, (199, 0, 0), [], []),
  (166, .aload_n 0, 1, (0, 0, 0), [], []),
  (167, .bipush 13, 2, (0, 0, 0), [], []),
  (169, .iconst 1, 1, (0, 0, 0), [], []),
  (170, .invokevirtual 87, 3, (0, 40, 2), [], [1098, 71, 1100, 41]),
  (173, .ifCond .eq 26, 3, (199, 0, 0), [], []),
  (176, .aload_n 0, 1, (0, 0, 0), [], []),
  (177, .bipush 12, 2, (0, 0, 0), [], []),
  (179, .iconst 1, 1, (0, 0, 0), [], []),
  (180, .invokevirtual 87, 3, (0, 40, 2), [], [1098, 71, 1100, 41]),
  (183, .ifCond .eq 16, 3, (199, 0, 0), [], []),
  (186, .aload_n 0, 1, (0, 0, 0), [], []),
  (187, .bipush 11, 2, (0, 0, 0), [], []),
  (189, .invokevirtual 79, 3, (0, 32, 2), [], [1090, 71, 1092, 39]),
  (192, .ifCond .eq 7, 3, (199, 0, 0), [], []),
  (195, .iconst 1, 1, (0, 0, 0), [], []),
  (196, .goto 4, 3, (200, 0, 0), [], []),
  (199, .iconst 0, 1, (0, 0, 0), [], []),
  (200, .ireturn, 1, (1, 0, 0), [], []),
  (201, .aload_n 0, 1, (0, 0, 0), [], []),
  (202, .iload_n 1, 1, (0, 0, 0), [], []),
  (203, .invokevirtual 90, 3, (0, 42, 2), [], [1102, 71, 1104, 42]),
  (206, .ifCond .ne 5, 3, (211, 0, 0), [], []),
  (209, .iconst 0, 1, (0, 0, 0), [], []),
  (210, .ireturn, 1, (1, 0, 0), [], []),
  (211, .aload_n 0, 1, (0, 0, 0), [], []),
  (212, .invokevirtual 93, 3, (0, 41, 2), [], [1118, 71, 1120, 46]),
  (215, .istore_n 2, 1, (0, 0, 0), [], []),
  (216, .iload_n 2, 1, (0, 0, 0), [], []),
  (217, .ifCond .eq 34, 3, (251, 0, 0), [], []),
  (220, .aload_n 0, 1, (0, 0, 0), [], []),
  (221, .aload_n 0, 1, (0, 0, 0), [], []),
  (222, .invokevirtual 35, 3, (0, 29, 2), [], [1054, 71, 1056, 30]),
  (225, .invokevirtual 45, 3, (0, 30, 2), [], [1062, 71, 1064, 32]),
  (228, .ifCond .eq 23, 3, (251, 0, 0), [], []),
  (231, .aload_n 0, 1, (0, 0, 0), [], []),
  (232, .iload_n 1, 1, (0, 0, 0), [], []),
  (233, .invokevirtual 90, 3, (0, 42, 2), [], [1102, 71, 1104, 42]),
  (236, .ifCond .eq 15, 3, (251, 0, 0), [], []),
  (239, .aload_n 0, 1, (0, 0, 0), [], []),
  (240, .iload_n 2, 1, (0, 0, 0), [], []),
  (241, .invokevirtual 79, 3, (0, 32, 2), [], [1090, 71, 1092, 39]),
  (244, .ifCond .eq 7, 3, (251, 0, 0), [], []),
  (247, .iconst 1, 1, (0, 0, 0), [], []),
  (248, .goto 4, 3, (252, 0, 0), [], []),
  (251, .iconst 0, 1, (0, 0, 0), [], []),
  (252, .ireturn, 1, (1, 0, 0), [], [])]
def am_t39 : List am_E := am_t39_0 ++ (am_t39_1)
/-- 40: X1_isNamed -/
def am_t40 : List am_E := [(0, .aload_n 0, 1, (0, 0, 0), [], []),
  (1, .getfield 32, 3, (2, 2, 0), [], [276]),
  (4, .istore_n 3, 1, (0, 0, 0), [], []),
  (5, .aload_n 0, 1, (0, 0, 0), [], []),
  (6, .sipush 256, 3, (0, 0, 0), [], []),
  (9, .iload_n 1, 1, (0, 0, 0), [], []),
  (10, .invokevirtual 56, 3, (0, 31, 2), [], [1066, 71, 1068, 33]),
  (13, .ifCond .eq 16, 3, (29, 0, 0), [], []),
  (16, .aload_n 0, 1, (0, 0, 0), [], []),
  (17, .iload_n 2, 1, (0, 0, 0), [], []),
  (18, .iload_n 3, 1, (0, 0, 0), [], []),
  (19, .invokevirtual 59, 3, (0, 33, 2), [], [1094, 71, 1096, 40]),
  (22, .ifCond .eq 7, 3, (29, 0, 0), [], []),
  (25, .iconst 1, 1, (0, 0, 0), [], []),
  (26, .goto 4, 3, (30, 0, 0), [], []),
  (29, .iconst 0, 1, (0, 0, 0), [], []),
  (30, .ireturn, 1, (1, 0, 0), [], [])]
/-- 41: X1_comparisonHere -/
def am_t41 : List am_E := [(0, .aload_n 0, 1, (0, 0, 0), [], []),
  (1, .invokevirtual 35, 3, (0, 29, 2), [], [1054, 71, 1056, 30]),
  (4, .lookupswitch 67 #[(60, 52), (61, 58), (62, 55), (258, 61), (259, 64)], 52, (71, 0, 0), [(60, 56), (61, 62), (62, 59), (258, 65), (259, 68)], []),
  (56, .bipush 18, 2, (0, 0, 0), [], []),
  (58, .ireturn, 1, (0, 0, 0), [], []),
  (59, .bipush 19, 2, (0, 0, 0), [], []),
  (61, .ireturn, 1, (0, 0, 0), [], []),
  (62, .bipush 20, 2, (0, 0, 0), [], []),
  (64, .ireturn, 1, (0, 0, 0), [], []),
  (65, .bipush 21, 2, (0, 0, 0), [], []),
  (67, .ireturn, 1, (0, 0, 0), [], []),
  (68, .bipush 22, 2, (0, 0, 0), [], []),
  (70, .ireturn, 1, (0, 0, 0), [], []),
  (71, .iconst 0, 1, (0, 0, 0), [], []),
  (72, .ireturn, 1, (0, 0, 0), [], [])]
/-- 42: X1_isSum -/
def am_t42 : List am_E := [(0, .aload_n 0, 1, (0, 0, 0), [], []),
  (1, .iload_n 1, 1, (0, 0, 0), [], []),
  (2, .invokevirtual 96, 3, (0, 43, 2), [], [1106, 71, 1108, 43]),
  (5, .ifCond .ne 5, 3, (10, 0, 0), [], []),
  (8, .iconst 0, 1, (0, 0, 0), [], []),
  (9, .ireturn, 1, (1, 0, 0), [], []),
  (10, .iconst 0, 1, (0, 0, 0), [], []),
  (11, .istore_n 2, 1, (0, 0, 0), [], []),
  (12, .iload_n 2, 1, (0, 0, 0), [], []),
  (13, .sipush 400, 3, (0, 0, 0), [], []),
  (16, .if_icmp .ge 64, 3, (80, 0, 0), [], []),
  (19, .aload_n 0, 1, (0, 0, 0), [], []),
  (20, .invokevirtual 35, 3, (0, 29, 2), [], [1054, 71, 1056, 30]),
  (23, .bipush 43, 2, (0, 0, 0), [], []),
  (25, .if_icmp .ne 8, 3, (33, 0, 0), [], []),
  (28, .bipush 12, 2, (0, 0, 0), [], []),
  (30, .goto 5, 3, (35, 0, 0), [], []),
  (33, .bipush 13, 2, (0, 0, 0), [], []),
  (35, .istore_n 3, 1, (0, 0, 0), [], []),
  (36, .aload_n 0, 1, (0, 0, 0), [], []),
  (37, .bipush 43, 2, (0, 0, 0), [], []),
  (39, .invokevirtual 45, 3, (0, 30, 2), [], [1062, 71, 1064, 32]),
  (42, .ifCond .ne 14, 3, (56, 0, 0), [], []),
  (45, .aload_n 0, 1, (0, 0, 0), [], []),
  (46, .bipush 45, 2, (0, 0, 0), [], []),
  (48, .invokevirtual 45, 3, (0, 30, 2), [], [1062, 71, 1064, 32]),
  (51, .ifCond .ne 5, 3, (56, 0, 0), [], []),
  (54, .iconst 1, 1, (0, 0, 0), [], []),
  (55, .ireturn, 1, (1, 0, 0), [], []),
  (56, .aload_n 0, 1, (0, 0, 0), [], []),
  (57, .iload_n 1, 1, (0, 0, 0), [], []),
  (58, .invokevirtual 96, 3, (0, 43, 2), [], [1106, 71, 1108, 43]),
  (61, .ifCond .eq 11, 3, (72, 0, 0), [], []),
  (64, .aload_n 0, 1, (0, 0, 0), [], []),
  (65, .iload_n 3, 1, (0, 0, 0), [], []),
  (66, .invokevirtual 79, 3, (0, 32, 2), [], [1090, 71, 1092, 39]),
  (69, .ifCond .ne 5, 3, (74, 0, 0), [], []),
  (72, .iconst 0, 1, (0, 0, 0), [], []),
  (73, .ireturn, 1, (1, 0, 0), [], []),
  (74, .iinc 2 1, 3, (0, 0, 0), [], []),
  (77, .goto (-65), 3, (12, 0, 0), [], []),
  (80, .iconst 1, 1, (0, 0, 0), [], []),
  (81, .ireturn, 1, (1, 0, 0), [], [])]
/-- 43: X1_isProduct -/
def am_t43 : List am_E := [(0, .aload_n 0, 1, (0, 0, 0), [], []),
  (1, .iload_n 1, 1, (0, 0, 0), [], []),
  (2, .invokevirtual 99, 3, (0, 44, 2), [], [1110, 71, 1112, 44]),
  (5, .ifCond .ne 5, 3, (10, 0, 0), [], []),
  (8, .iconst 0, 1, (0, 0, 0), [], []),
  (9, .ireturn, 1, (1, 0, 0), [], []),
  (10, .iconst 0, 1, (0, 0, 0), [], []),
  (11, .istore_n 2, 1, (0, 0, 0), [], []),
  (12, .iload_n 2, 1, (0, 0, 0), [], []),
  (13, .sipush 400, 3, (0, 0, 0), [], []),
  (16, .if_icmp .ge 64, 3, (80, 0, 0), [], []),
  (19, .aload_n 0, 1, (0, 0, 0), [], []),
  (20, .invokevirtual 35, 3, (0, 29, 2), [], [1054, 71, 1056, 30]),
  (23, .bipush 42, 2, (0, 0, 0), [], []),
  (25, .if_icmp .ne 8, 3, (33, 0, 0), [], []),
  (28, .bipush 14, 2, (0, 0, 0), [], []),
  (30, .goto 5, 3, (35, 0, 0), [], []),
  (33, .bipush 15, 2, (0, 0, 0), [], []),
  (35, .istore_n 3, 1, (0, 0, 0), [], []),
  (36, .aload_n 0, 1, (0, 0, 0), [], []),
  (37, .bipush 42, 2, (0, 0, 0), [], []),
  (39, .invokevirtual 45, 3, (0, 30, 2), [], [1062, 71, 1064, 32]),
  (42, .ifCond .ne 14, 3, (56, 0, 0), [], []),
  (45, .aload_n 0, 1, (0, 0, 0), [], []),
  (46, .bipush 47, 2, (0, 0, 0), [], []),
  (48, .invokevirtual 45, 3, (0, 30, 2), [], [1062, 71, 1064, 32]),
  (51, .ifCond .ne 5, 3, (56, 0, 0), [], []),
  (54, .iconst 1, 1, (0, 0, 0), [], []),
  (55, .ireturn, 1, (1, 0, 0), [], []),
  (56, .aload_n 0, 1, (0, 0, 0), [], []),
  (57, .iload_n 1, 1, (0, 0, 0), [], []),
  (58, .invokevirtual 99, 3, (0, 44, 2), [], [1110, 71, 1112, 44]),
  (61, .ifCond .eq 11, 3, (72, 0, 0), [], []),
  (64, .aload_n 0, 1, (0, 0, 0), [], []),
  (65, .iload_n 3, 1, (0, 0, 0), [], []),
  (66, .invokevirtual 79, 3, (0, 32, 2), [], [1090, 71, 1092, 39]),
  (69, .ifCond .ne 5, 3, (74, 0, 0), [], []),
  (72, .iconst 0, 1, (0, 0, 0), [], []),
  (73, .ireturn, 1, (1, 0, 0), [], []),
  (74, .iinc 2 1, 3, (0, 0, 0), [], []),
  (77, .goto (-65), 3, (12, 0, 0), [], []),
  (80, .iconst 1, 1, (0, 0, 0), [], []),
  (81, .ireturn, 1, (1, 0, 0), [], [])]
/-- 44: X1_isValue -/
def am_t44_0 : List am_E := [(0, .aload_n 0, 1, (0, 0, 0), [], []),
  (1, .getfield 32, 3, (2, 2, 0), [], [276]),
  (4, .istore_n 2, 1, (0, 0, 0), [], []),
  (5, .aload_n 0, 1, (0, 0, 0), [], []),
  (6, .invokevirtual 35, 3, (0, 29, 2), [], [1054, 71, 1056, 30]),
  (9, .lookupswitch 426 #[(40, 320), (45, 280), (257, 99), (303, 174), (311, 126), (312, 150), (313, 226), (314, 200), (316, 253), (320, 360), (321, 393)], 99, (435, 0, 0), [(40, 329), (45, 289), (257, 108), (303, 183), (311, 135), (312, 159), (313, 235), (314, 209), (316, 262), (320, 369), (321, 402)], []),
  (108, .aload_n 0, 1, (0, 0, 0), [], []),
  (109, .sipush 257, 3, (0, 0, 0), [], []),
  (112, .bipush 14, 2, (0, 0, 0), [], []),
  (114, .invokevirtual 56, 3, (0, 31, 2), [], [1066, 71, 1068, 33]),
  (117, .ifCond .eq 16, 3, (133, 0, 0), [], []),
  (120, .aload_n 0, 1, (0, 0, 0), [], []),
  (121, .iconst 1, 1, (0, 0, 0), [], []),
  (122, .iload_n 2, 1, (0, 0, 0), [], []),
  (123, .invokevirtual 59, 3, (0, 33, 2), [], [1094, 71, 1096, 40]),
  (126, .ifCond .eq 7, 3, (133, 0, 0), [], []),
  (129, .iconst 1, 1, (0, 0, 0), [], []),
  (130, .goto 4, 3, (134, 0, 0), [], []),
  (133, .iconst 0, 1, (0, 0, 0), [], []),
  (134, .ireturn, 1, (1, 0, 0), [], []),
  (135, .aload_n 0, 1, (0, 0, 0), [], []),
  (136, .sipush 311, 3, (0, 0, 0), [], []),
  (139, .invokevirtual 45, 3, (0, 30, 2), [], [1062, 71, 1064, 32]),
  (142, .ifCond .eq 15, 3, (157, 0, 0), [], []),
  (145, .aload_n 0, 1, (0, 0, 0), [], []),
  (146, .iconst 2, 1, (0, 0, 0), [], []),
  (147, .invokevirtual 79, 3, (0, 32, 2), [], [1090, 71, 1092, 39]),
  (150, .ifCond .eq 7, 3, (157, 0, 0), [], []),
  (153, .iconst 1, 1, (0, 0, 0), [], []),
  (154, .goto 4, 3, (158, 0, 0), [], []),
  (157, .iconst 0, 1, (0, 0, 0), [], []),
  (158, .ireturn, 1, (1, 0, 0), [], []),
  (159, .aload_n 0, 1, (0, 0, 0), [], []),
  (160, .sipush 312, 3, (0, 0, 0), [], []),
  (163, .invokevirtual 45, 3, (0, 30, 2), [], [1062, 71, 1064, 32]),
  (166, .ifCond .eq 15, 3, (181, 0, 0), [], []),
  (169, .aload_n 0, 1, (0, 0, 0), [], []),
  (170, .iconst 3, 1, (0, 0, 0), [], []),
  (171, .invokevirtual 79, 3, (0, 32, 2), [], [1090, 71, 1092, 39]),
  (174, .ifCond .eq 7, 3, (181, 0, 0), [], []),
  (177, .iconst 1, 1, (0, 0, 0), [], []),
  (178, .goto 4, 3, (182, 0, 0), [], []),
  (181, .iconst 0, 1, (0, 0, 0), [], []),
  (182, .ireturn, 1, (1, 0, 0), [], []),
  (183, .aload_n 0, 1, (0, 0, 0), [], []),
  (184, .sipush 303, 3, (0, 0, 0), [], []),
  (187, .invokevirtual 45, 3, (0, 30, 2), [], [1062, 71, 1064, 32]),
  (190, .ifCond .eq 17, 3, (207, 0, 0), [], []),
  (193, .aload_n 0, 1, (0, 0, 0), [], []),
  (194, .bipush 12, 2, (0, 0, 0), [], []),
  (196, .iconst 4, 1, (0, 0, 0), [], []),
  (197, .invokevirtual 87, 3, (0, 40, 2), [], [1098, 71, 1100, 41]),
  (200, .ifCond .eq 7, 3, (207, 0, 0), [], []),
  (203, .iconst 1, 1, (0, 0, 0), [], []),
  (204, .goto 4, 3, (208, 0, 0), [], []),
  (207, .iconst 0, 1, (0, 0, 0), [], []),
  (208, .ireturn, 1, (1, 0, 0), [], []),
  (209, .aload_n 0, 1, (0, 0, 0), [], []),
  (210, .sipush 314, 3, (0, 0, 0), [], []),
  (213, .invokevirtual 45, 3, (0, 30, 2), [], [1062, 71, 1064, 32])]
def am_t44_1 : List am_E := [(216, .ifCond .eq 17, 3, (233, 0, 0), [], []),
  (219, .aload_n 0, 1, (0, 0, 0), [], []),
  (220, .bipush 12, 2, (0, 0, 0), [], []),
  (222, .iconst 5, 1, (0, 0, 0), [], []),
  (223, .invokevirtual 87, 3, (0, 40, 2), [], [1098, 71, 1100, 41]),
  (226, .ifCond .eq 7, 3, (233, 0, 0), [], []),
  (229, .iconst 1, 1, (0, 0, 0), [], []),
  (230, .goto 4, 3, (234, 0, 0), [], []),
  (233, .iconst 0, 1, (0, 0, 0), [], []),
  (234, .ireturn, 1, (1, 0, 0), [], []),
  (235, .aload_n 0, 1, (0, 0, 0), [], []),
  (236, .sipush 313, 3, (0, 0, 0), [], []),
  (239, .invokevirtual 45, 3, (0, 30, 2), [], [1062, 71, 1064, 32]),
  (242, .ifCond .eq 18, 3, (260, 0, 0), [], []),
  (245, .aload_n 0, 1, (0, 0, 0), [], []),
  (246, .bipush 13, 2, (0, 0, 0), [], []),
  (248, .bipush 6, 2, (0, 0, 0), [], []),
  (250, .invokevirtual 87, 3, (0, 40, 2), [], [1098, 71, 1100, 41]),
  (253, .ifCond .eq 7, 3, (260, 0, 0), [], []),
  (256, .iconst 1, 1, (0, 0, 0), [], []),
  (257, .goto 4, 3, (261, 0, 0), [], []),
  (260, .iconst 0, 1, (0, 0, 0), [], []),
  (261, .ireturn, 1, (1, 0, 0), [], []),
  (262, .aload_n 0, 1, (0, 0, 0), [], []),
  (263, .sipush 316, 3, (0, 0, 0), [], []),
  (266, .invokevirtual 45, 3, (0, 30, 2), [], [1062, 71, 1064, 32]),
  (269, .ifCond .eq 18, 3, (287, 0, 0), [], []),
  (272, .aload_n 0, 1, (0, 0, 0), [], []),
  (273, .bipush 13, 2, (0, 0, 0), [], []),
  (275, .bipush 7, 2, (0, 0, 0), [], []),
  (277, .invokevirtual 87, 3, (0, 40, 2), [], [1098, 71, 1100, 41]),
  (280, .ifCond .eq 7, 3, (287, 0, 0), [], []),
  (283, .iconst 1, 1, (0, 0, 0), [], []),
  (284, .goto 4, 3, (288, 0, 0), [], []),
  (287, .iconst 0, 1, (0, 0, 0), [], []),
  (288, .ireturn, 1, (1, 0, 0), [], []),
  (289, .iload_n 1, 1, (0, 0, 0), [], []),
  (290, .bipush 8, 2, (0, 0, 0), [], []),
  (292, .if_icmp .ge 35, 3, (327, 0, 0), [], []),
  (295, .aload_n 0, 1, (0, 0, 0), [], []),
  (296, .bipush 45, 2, (0, 0, 0), [], []),
  (298, .invokevirtual 45, 3, (0, 30, 2), [], [1062, 71, 1064, 32]),
  (301, .ifCond .eq 26, 3, (327, 0, 0), [], []),
  (304, .aload_n 0, 1, (0, 0, 0), [], []),
  (305, .iload_n 1, 1, (0, 0, 0), [], []),
  (306, .iconst 1, 1, (0, 0, 0), [], []),
  (307, .iadd, 1, (0, 0, 0), [], []),
  (308, .invokevirtual 99, 3, (0, 44, 2), [], [1110, 71, 1112, 44]),
  (311, .ifCond .eq 16, 3, (327, 0, 0), [], []),
  (314, .aload_n 0, 1, (0, 0, 0), [], []),
  (315, .bipush 9, 2, (0, 0, 0), [], []),
  (317, .invokevirtual 79, 3, (0, 32, 2), [], [1090, 71, 1092, 39]),
  (320, .ifCond .eq 7, 3, (327, 0, 0), [], []),
  (323, .iconst 1, 1, (0, 0, 0), [], []),
  (324, .goto 4, 3, (328, 0, 0), [], []),
  (327, .iconst 0, 1, (0, 0, 0), [], []),
  (328, .ireturn, 1, (1, 0, 0), [], []),
  (329, .iload_n 1, 1, (0, 0, 0), [], []),
  (330, .bipush 8, 2, (0, 0, 0), [], []),
  (332, .if_icmp .ge 35, 3, (367, 0, 0), [], [])]
def am_t44_2 : List am_E := [(335, .aload_n 0, 1, (0, 0, 0), [], []),
  (336, .bipush 40, 2, (0, 0, 0), [], []),
  (338, .invokevirtual 45, 3, (0, 30, 2), [], [1062, 71, 1064, 32]),
  (341, .ifCond .eq 26, 3, (367, 0, 0), [], []),
  (344, .aload_n 0, 1, (0, 0, 0), [], []),
  (345, .iload_n 1, 1, (0, 0, 0), [], []),
  (346, .iconst 1, 1, (0, 0, 0), [], []),
  (347, .iadd, 1, (0, 0, 0), [], []),
  (348, .invokevirtual 90, 3, (0, 42, 2), [], [1102, 71, 1104, 42]),
  (351, .ifCond .eq 16, 3, (367, 0, 0), [], []),
  (354, .aload_n 0, 1, (0, 0, 0), [], []),
  (355, .bipush 41, 2, (0, 0, 0), [], []),
  (357, .invokevirtual 45, 3, (0, 30, 2), [], [1062, 71, 1064, 32]),
  (360, .ifCond .eq 7, 3, (367, 0, 0), [], []),
  (363, .iconst 1, 1, (0, 0, 0), [], []),
  (364, .goto 4, 3, (368, 0, 0), [], []),
  (367, .iconst 0, 1, (0, 0, 0), [], []),
  (368, .ireturn, 1, (1, 0, 0), [], []),
  (369, .aload_n 0, 1, (0, 0, 0), [], []),
  (370, .sipush 320, 3, (0, 0, 0), [], []),
  (373, .invokevirtual 45, 3, (0, 30, 2), [], [1062, 71, 1064, 32]),
  (376, .ifCond .eq 24, 3, (400, 0, 0), [], []),
  (379, .aload_n 0, 1, (0, 0, 0), [], []),
  (380, .iload_n 1, 1, (0, 0, 0), [], []),
  (381, .invokevirtual 102, 3, (0, 45, 2), [], [1114, 71, 1116, 45]),
  (384, .ifCond .eq 16, 3, (400, 0, 0), [], []),
  (387, .aload_n 0, 1, (0, 0, 0), [], []),
  (388, .bipush 16, 2, (0, 0, 0), [], []),
  (390, .invokevirtual 79, 3, (0, 32, 2), [], [1090, 71, 1092, 39]),
  (393, .ifCond .eq 7, 3, (400, 0, 0), [], []),
  (396, .iconst 1, 1, (0, 0, 0), [], []),
  (397, .goto 4, 3, (401, 0, 0), [], []),
  (400, .iconst 0, 1, (0, 0, 0), [], []),
  (401, .ireturn, 1, (1, 0, 0), [], []),
  (402, .aload_n 0, 1, (0, 0, 0), [], []),
  (403, .sipush 321, 3, (0, 0, 0), [], []),
  (406, .invokevirtual 45, 3, (0, 30, 2), [], [1062, 71, 1064, 32]),
  (409, .ifCond .eq 24, 3, (433, 0, 0), [], []),
  (412, .aload_n 0, 1, (0, 0, 0), [], []),
  (413, .iload_n 1, 1, (0, 0, 0), [], []),
  (414, .invokevirtual 102, 3, (0, 45, 2), [], [1114, 71, 1116, 45]),
  (417, .ifCond .eq 16, 3, (433, 0, 0), [], []),
  (420, .aload_n 0, 1, (0, 0, 0), [], []),
  (421, .bipush 17, 2, (0, 0, 0), [], []),
  (423, .invokevirtual 79, 3, (0, 32, 2), [], [1090, 71, 1092, 39]),
  (426, .ifCond .eq 7, 3, (433, 0, 0), [], []),
  (429, .iconst 1, 1, (0, 0, 0), [], []),
  (430, .goto 4, 3, (434, 0, 0), [], []),
  (433, .iconst 0, 1, (0, 0, 0), [], []),
  (434, .ireturn, 1, (1, 0, 0), [], []),
  (435, .iconst 0, 1, (0, 0, 0), [], []),
  (436, .ireturn, 1, (1, 0, 0), [], [])]
def am_t44 : List am_E := am_t44_0 ++ (am_t44_1 ++ (am_t44_2))
/-- 45: X1_isPair -/
def am_t45 : List am_E := [(0, .iload_n 1, 1, (0, 0, 0), [], []),
  (1, .bipush 8, 2, (0, 0, 0), [], []),
  (3, .if_icmp .ge 54, 3, (57, 0, 0), [], []),
  (6, .aload_n 0, 1, (0, 0, 0), [], []),
  (7, .bipush 40, 2, (0, 0, 0), [], []),
  (9, .invokevirtual 45, 3, (0, 30, 2), [], [1062, 71, 1064, 32]),
  (12, .ifCond .eq 45, 3, (57, 0, 0), [], []),
  (15, .aload_n 0, 1, (0, 0, 0), [], []),
  (16, .iload_n 1, 1, (0, 0, 0), [], []),
  (17, .iconst 1, 1, (0, 0, 0), [], []),
  (18, .iadd, 1, (0, 0, 0), [], []),
  (19, .invokevirtual 90, 3, (0, 42, 2), [], [1102, 71, 1104, 42]),
  (22, .ifCond .eq 35, 3, (57, 0, 0), [], []),
  (25, .aload_n 0, 1, (0, 0, 0), [], []),
  (26, .bipush 44, 2, (0, 0, 0), [], []),
  (28, .invokevirtual 45, 3, (0, 30, 2), [], [1062, 71, 1064, 32]),
  (31, .ifCond .eq 26, 3, (57, 0, 0), [], []),
  (34, .aload_n 0, 1, (0, 0, 0), [], []),
  (35, .iload_n 1, 1, (0, 0, 0), [], []),
  (36, .iconst 1, 1, (0, 0, 0), [], []),
  (37, .iadd, 1, (0, 0, 0), [], []),
  (38, .invokevirtual 90, 3, (0, 42, 2), [], [1102, 71, 1104, 42]),
  (41, .ifCond .eq 16, 3, (57, 0, 0), [], []),
  (44, .aload_n 0, 1, (0, 0, 0), [], []),
  (45, .bipush 41, 2, (0, 0, 0), [], []),
  (47, .invokevirtual 45, 3, (0, 30, 2), [], [1062, 71, 1064, 32]),
  (50, .ifCond .eq 7, 3, (57, 0, 0), [], []),
  (53, .iconst 1, 1, (0, 0, 0), [], []),
  (54, .goto 4, 3, (58, 0, 0), [], []),
  (57, .iconst 0, 1, (0, 0, 0), [], []),
  (58, .ireturn, 1, (1, 0, 0), [], [])]
/-- 46: X3_init -/
def am_t46 : List am_E := [(0, .aload_n 0, 1, (0, 0, 0), [], []),
  (1, .invokespecial 3, 3, (6, 0, 0), [], [326, 89, 90]),
  (4, .aload_n 0, 1, (0, 0, 0), [], []),
  (5, .iconst (-1), 1, (0, 0, 0), [], []),
  (6, .putfield 9, 3, (3, 2, 0), [], [331]),
  (9, .aload_n 0, 1, (0, 0, 0), [], []),
  (10, .bipush 12, 2, (0, 0, 0), [], []),
  (12, .newarray .int, 2, (20, 0, 0), [], [178]),
  (14, .putfield 15, 3, (3, 3, 2), [], [333]),
  (17, .aload_n 0, 1, (0, 0, 0), [], []),
  (18, .bipush 12, 2, (0, 0, 0), [], []),
  (20, .newarray .int, 2, (20, 0, 0), [], [178]),
  (22, .putfield 19, 3, (3, 4, 2), [], [335]),
  (25, .aload_n 0, 1, (0, 0, 0), [], []),
  (26, .bipush 12, 2, (0, 0, 0), [], []),
  (28, .newarray .int, 2, (20, 0, 0), [], [178]),
  (30, .putfield 22, 3, (3, 8, 2), [], [340]),
  (33, .aload_n 0, 1, (0, 0, 0), [], []),
  (34, .bipush 12, 2, (0, 0, 0), [], []),
  (36, .newarray .int, 2, (20, 0, 0), [], [178]),
  (38, .putfield 25, 3, (3, 9, 2), [], [341]),
  (41, .aload_n 0, 1, (0, 0, 0), [], []),
  (42, .bipush 12, 2, (0, 0, 0), [], []),
  (44, .newarray .int, 2, (20, 0, 0), [], [178]),
  (46, .putfield 28, 3, (3, 10, 2), [], [342]),
  (49, .aload_n 0, 1, (0, 0, 0), [], []),
  (50, .bipush 12, 2, (0, 0, 0), [], []),
  (52, .newarray .int, 2, (20, 0, 0), [], [178]),
  (54, .putfield 31, 3, (3, 11, 2), [], [343]),
  (57, .aload_n 0, 1, (0, 0, 0), [], []),
  (58, .iconst 4, 1, (0, 0, 0), [], []),
  (59, .newarray .int, 2, (20, 0, 0), [], [178]),
  (61, .putfield 34, 3, (3, 12, 2), [], [344]),
  (64, .aload_n 0, 1, (0, 0, 0), [], []),
  (65, .sipush 400, 3, (0, 0, 0), [], []),
  (68, .newarray .int, 2, (20, 0, 0), [], [178]),
  (70, .putfield 37, 3, (3, 13, 2), [], [345]),
  (73, .aload_n 0, 1, (0, 0, 0), [], []),
  (74, .aload_n 1, 1, (0, 0, 0), [], []),
  (75, .putfield 40, 3, (3, 5, 2), [], [337]),
  (78, .aload_n 0, 1, (0, 0, 0), [], []),
  (79, .aload_n 1, 1, (0, 0, 0), [], []),
  (80, .getfield 44, 3, (4, 4, 0), [], [113]),
  (83, .putfield 49, 3, (3, 1, 0), [], [329]),
  (86, .return_, 1, (0, 0, 0), [], [])]
/-- 47: X3_begin -/
def am_t47_0 : List am_E := [(0, .aload_n 0, 1, (0, 0, 0), [], []),
  (1, .aload_n 1, 1, (0, 0, 0), [], []),
  (2, .putfield 40, 3, (3, 5, 2), [], [337]),
  (5, .aload_n 0, 1, (0, 0, 0), [], []),
  (6, .aload_n 1, 1, (0, 0, 0), [], []),
  (7, .getfield 44, 3, (4, 4, 0), [], [113]),
  (10, .putfield 49, 3, (3, 1, 0), [], [329]),
  (13, .aload_n 0, 1, (0, 0, 0), [], []),
  (14, .iconst 0, 1, (0, 0, 0), [], []),
  (15, .putfield 50, 3, (3, 6, 0), [], [338]),
  (18, .aload_n 0, 1, (0, 0, 0), [], []),
  (19, .iconst 0, 1, (0, 0, 0), [], []),
  (20, .putfield 53, 3, (3, 7, 0), [], [339]),
  (23, .iconst 0, 1, (0, 0, 0), [], []),
  (24, .istore_n 2, 1, (0, 0, 0), [], []),
  (25, .iload_n 2, 1, (0, 0, 0), [], []),
  (26, .bipush 12, 2, (0, 0, 0), [], []),
  (28, .if_icmp .ge 23, 3, (51, 0, 0), [], []),
  (31, .aload_n 0, 1, (0, 0, 0), [], []),
  (32, .getfield 15, 3, (3, 3, 2), [], [333]),
  (35, .iload_n 2, 1, (0, 0, 0), [], []),
  (36, .iconst 0, 1, (0, 0, 0), [], []),
  (37, .iastore, 1, (0, 0, 0), [], []),
  (38, .aload_n 0, 1, (0, 0, 0), [], []),
  (39, .getfield 22, 3, (3, 8, 2), [], [340]),
  (42, .iload_n 2, 1, (0, 0, 0), [], []),
  (43, .iconst 0, 1, (0, 0, 0), [], []),
  (44, .iastore, 1, (0, 0, 0), [], []),
  (45, .iinc 2 1, 3, (0, 0, 0), [], []),
  (48, .goto (-23), 3, (25, 0, 0), [], []),
  (51, .iconst 0, 1, (0, 0, 0), [], []),
  (52, .istore_n 2, 1, (0, 0, 0), [], []),
  (53, .iload_n 2, 1, (0, 0, 0), [], []),
  (54, .bipush 12, 2, (0, 0, 0), [], []),
  (56, .if_icmp .ge 47, 3, (103, 0, 0), [], []),
  (59, .aload_n 0, 1, (0, 0, 0), [], []),
  (60, .getfield 25, 3, (3, 9, 2), [], [341]),
  (63, .iload_n 2, 1, (0, 0, 0), [], []),
  (64, .aload_n 1, 1, (0, 0, 0), [], []),
  (65, .getfield 56, 3, (4, 8, 2), [], [125]),
  (68, .iload_n 2, 1, (0, 0, 0), [], []),
  (69, .iaload, 1, (0, 0, 0), [], []),
  (70, .iastore, 1, (0, 0, 0), [], []),
  (71, .aload_n 0, 1, (0, 0, 0), [], []),
  (72, .getfield 28, 3, (3, 10, 2), [], [342]),
  (75, .iload_n 2, 1, (0, 0, 0), [], []),
  (76, .aload_n 1, 1, (0, 0, 0), [], []),
  (77, .getfield 57, 3, (4, 10, 2), [], [131]),
  (80, .iload_n 2, 1, (0, 0, 0), [], []),
  (81, .iaload, 1, (0, 0, 0), [], []),
  (82, .iastore, 1, (0, 0, 0), [], []),
  (83, .aload_n 0, 1, (0, 0, 0), [], []),
  (84, .getfield 19, 3, (3, 4, 2), [], [335]),
  (87, .iload_n 2, 1, (0, 0, 0), [], []),
  (88, .iconst (-1), 1, (0, 0, 0), [], []),
  (89, .iastore, 1, (0, 0, 0), [], []),
  (90, .aload_n 0, 1, (0, 0, 0), [], []),
  (91, .getfield 31, 3, (3, 11, 2), [], [343]),
  (94, .iload_n 2, 1, (0, 0, 0), [], []),
  (95, .iconst 0, 1, (0, 0, 0), [], [])]
def am_t47_1 : List am_E := [(96, .iastore, 1, (0, 0, 0), [], []),
  (97, .iinc 2 1, 3, (0, 0, 0), [], []),
  (100, .goto (-47), 3, (53, 0, 0), [], []),
  (103, .return_, 1, (0, 0, 0), [], [])]
def am_t47 : List am_E := am_t47_0 ++ (am_t47_1)
/-- 48: X3_copy -/
def am_t48_0 : List am_E := [(0, .aload_n 0, 1, (0, 0, 0), [], []),
  (1, .aload_n 1, 1, (0, 0, 0), [], []),
  (2, .getfield 40, 3, (3, 5, 2), [], [337]),
  (5, .putfield 40, 3, (3, 5, 2), [], [337]),
  (8, .aload_n 0, 1, (0, 0, 0), [], []),
  (9, .aload_n 1, 1, (0, 0, 0), [], []),
  (10, .getfield 58, 3, (3, 0, 0), [], [327]),
  (13, .putfield 58, 3, (3, 0, 0), [], [327]),
  (16, .aload_n 0, 1, (0, 0, 0), [], []),
  (17, .aload_n 1, 1, (0, 0, 0), [], []),
  (18, .getfield 49, 3, (3, 1, 0), [], [329]),
  (21, .putfield 49, 3, (3, 1, 0), [], [329]),
  (24, .aload_n 0, 1, (0, 0, 0), [], []),
  (25, .aload_n 1, 1, (0, 0, 0), [], []),
  (26, .getfield 50, 3, (3, 6, 0), [], [338]),
  (29, .putfield 50, 3, (3, 6, 0), [], [338]),
  (32, .aload_n 0, 1, (0, 0, 0), [], []),
  (33, .aload_n 1, 1, (0, 0, 0), [], []),
  (34, .getfield 53, 3, (3, 7, 0), [], [339]),
  (37, .putfield 53, 3, (3, 7, 0), [], [339]),
  (40, .aload_n 0, 1, (0, 0, 0), [], []),
  (41, .iconst (-1), 1, (0, 0, 0), [], []),
  (42, .putfield 9, 3, (3, 2, 0), [], [331]),
  (45, .iconst 0, 1, (0, 0, 0), [], []),
  (46, .istore_n 2, 1, (0, 0, 0), [], []),
  (47, .iload_n 2, 1, (0, 0, 0), [], []),
  (48, .bipush 12, 2, (0, 0, 0), [], []),
  (50, .if_icmp .ge 33, 3, (83, 0, 0), [], []),
  (53, .aload_n 0, 1, (0, 0, 0), [], []),
  (54, .getfield 15, 3, (3, 3, 2), [], [333]),
  (57, .iload_n 2, 1, (0, 0, 0), [], []),
  (58, .aload_n 1, 1, (0, 0, 0), [], []),
  (59, .getfield 15, 3, (3, 3, 2), [], [333]),
  (62, .iload_n 2, 1, (0, 0, 0), [], []),
  (63, .iaload, 1, (0, 0, 0), [], []),
  (64, .iastore, 1, (0, 0, 0), [], []),
  (65, .aload_n 0, 1, (0, 0, 0), [], []),
  (66, .getfield 22, 3, (3, 8, 2), [], [340]),
  (69, .iload_n 2, 1, (0, 0, 0), [], []),
  (70, .aload_n 1, 1, (0, 0, 0), [], []),
  (71, .getfield 22, 3, (3, 8, 2), [], [340]),
  (74, .iload_n 2, 1, (0, 0, 0), [], []),
  (75, .iaload, 1, (0, 0, 0), [], []),
  (76, .iastore, 1, (0, 0, 0), [], []),
  (77, .iinc 2 1, 3, (0, 0, 0), [], []),
  (80, .goto (-33), 3, (47, 0, 0), [], []),
  (83, .iconst 0, 1, (0, 0, 0), [], []),
  (84, .istore_n 2, 1, (0, 0, 0), [], []),
  (85, .iload_n 2, 1, (0, 0, 0), [], []),
  (86, .bipush 12, 2, (0, 0, 0), [], []),
  (88, .if_icmp .ge 57, 3, (145, 0, 0), [], []),
  (91, .aload_n 0, 1, (0, 0, 0), [], []),
  (92, .getfield 25, 3, (3, 9, 2), [], [341]),
  (95, .iload_n 2, 1, (0, 0, 0), [], []),
  (96, .aload_n 1, 1, (0, 0, 0), [], []),
  (97, .getfield 25, 3, (3, 9, 2), [], [341]),
  (100, .iload_n 2, 1, (0, 0, 0), [], []),
  (101, .iaload, 1, (0, 0, 0), [], []),
  (102, .iastore, 1, (0, 0, 0), [], []),
  (103, .aload_n 0, 1, (0, 0, 0), [], [])]
def am_t48_1 : List am_E := [(104, .getfield 28, 3, (3, 10, 2), [], [342]),
  (107, .iload_n 2, 1, (0, 0, 0), [], []),
  (108, .aload_n 1, 1, (0, 0, 0), [], []),
  (109, .getfield 28, 3, (3, 10, 2), [], [342]),
  (112, .iload_n 2, 1, (0, 0, 0), [], []),
  (113, .iaload, 1, (0, 0, 0), [], []),
  (114, .iastore, 1, (0, 0, 0), [], []),
  (115, .aload_n 0, 1, (0, 0, 0), [], []),
  (116, .getfield 19, 3, (3, 4, 2), [], [335]),
  (119, .iload_n 2, 1, (0, 0, 0), [], []),
  (120, .aload_n 1, 1, (0, 0, 0), [], []),
  (121, .getfield 19, 3, (3, 4, 2), [], [335]),
  (124, .iload_n 2, 1, (0, 0, 0), [], []),
  (125, .iaload, 1, (0, 0, 0), [], []),
  (126, .iastore, 1, (0, 0, 0), [], []),
  (127, .aload_n 0, 1, (0, 0, 0), [], []),
  (128, .getfield 31, 3, (3, 11, 2), [], [343]),
  (131, .iload_n 2, 1, (0, 0, 0), [], []),
  (132, .aload_n 1, 1, (0, 0, 0), [], []),
  (133, .getfield 31, 3, (3, 11, 2), [], [343]),
  (136, .iload_n 2, 1, (0, 0, 0), [], []),
  (137, .iaload, 1, (0, 0, 0), [], []),
  (138, .iastore, 1, (0, 0, 0), [], []),
  (139, .iinc 2 1, 3, (0, 0, 0), [], []),
  (142, .goto (-57), 3, (85, 0, 0), [], []),
  (145, .return_, 1, (0, 0, 0), [], [])]
def am_t48 : List am_E := am_t48_0 ++ (am_t48_1)
/-- 49: X3_total -/
def am_t49 : List am_E := [(0, .iload_n 1, 1, (0, 0, 0), [], []),
  (1, .tableswitch 51 6 9 #[31, 36, 41, 46], 31, (52, 0, 0), [(6, 32), (7, 37), (8, 42), (9, 47)], []),
  (32, .aload_n 0, 1, (0, 0, 0), [], []),
  (33, .getfield 50, 3, (3, 6, 0), [], [338]),
  (36, .ireturn, 1, (0, 0, 0), [], []),
  (37, .aload_n 0, 1, (0, 0, 0), [], []),
  (38, .invokevirtual 61, 3, (0, 50, 3), [], [488, 73, 490, 2]),
  (41, .ireturn, 1, (0, 0, 0), [], []),
  (42, .aload_n 0, 1, (0, 0, 0), [], []),
  (43, .invokevirtual 65, 3, (0, 51, 3), [], [492, 73, 493, 494]),
  (46, .ireturn, 1, (0, 0, 0), [], []),
  (47, .aload_n 0, 1, (0, 0, 0), [], []),
  (48, .invokevirtual 68, 3, (0, 52, 3), [], [500, 73, 502, 3]),
  (51, .ireturn, 1, (0, 0, 0), [], []),
  (52, .aload_n 0, 1, (0, 0, 0), [], []),
  (53, .getfield 53, 3, (3, 7, 0), [], [339]),
  (56, .ireturn, 1, (0, 0, 0), [], [])]
/-- 50: X3_purses -/
def am_t50 : List am_E := [(0, .iconst 0, 1, (0, 0, 0), [], []),
  (1, .istore_n 1, 1, (0, 0, 0), [], []),
  (2, .iconst 0, 1, (0, 0, 0), [], []),
  (3, .istore_n 2, 1, (0, 0, 0), [], []),
  (4, .iload_n 2, 1, (0, 0, 0), [], []),
  (5, .aload_n 0, 1, (0, 0, 0), [], []),
  (6, .getfield 40, 3, (3, 5, 2), [], [337]),
  (9, .getfield 71, 3, (4, 2, 0), [], [106]),
  (12, .if_icmp .ge 18, 3, (30, 0, 0), [], []),
  (15, .iload_n 1, 1, (0, 0, 0), [], []),
  (16, .aload_n 0, 1, (0, 0, 0), [], []),
  (17, .getfield 15, 3, (3, 3, 2), [], [333]),
  (20, .iload_n 2, 1, (0, 0, 0), [], []),
  (21, .iaload, 1, (0, 0, 0), [], []),
  (22, .iadd, 1, (0, 0, 0), [], []),
  (23, .istore_n 1, 1, (0, 0, 0), [], []),
  (24, .iinc 2 1, 3, (0, 0, 0), [], []),
  (27, .goto (-23), 3, (4, 0, 0), [], []),
  (30, .iload_n 1, 1, (0, 0, 0), [], []),
  (31, .ireturn, 1, (0, 0, 0), [], [])]
/-- 51: X3_builtCount -/
def am_t51 : List am_E := [(0, .iconst 0, 1, (0, 0, 0), [], []),
  (1, .istore_n 1, 1, (0, 0, 0), [], []),
  (2, .iconst 0, 1, (0, 0, 0), [], []),
  (3, .istore_n 2, 1, (0, 0, 0), [], []),
  (4, .iload_n 2, 1, (0, 0, 0), [], []),
  (5, .aload_n 0, 1, (0, 0, 0), [], []),
  (6, .getfield 40, 3, (3, 5, 2), [], [337]),
  (9, .getfield 74, 3, (4, 1, 0), [], [102]),
  (12, .if_icmp .ge 25, 3, (37, 0, 0), [], []),
  (15, .iload_n 1, 1, (0, 0, 0), [], []),
  (16, .aload_n 0, 1, (0, 0, 0), [], []),
  (17, .iload_n 2, 1, (0, 0, 0), [], []),
  (18, .invokevirtual 77, 3, (0, 58, 3), [], [496, 73, 497, 498]),
  (21, .ifCond .eq 7, 3, (28, 0, 0), [], []),
  (24, .iconst 0, 1, (0, 0, 0), [], []),
  (25, .goto 4, 3, (29, 0, 0), [], []),
  (28, .iconst 1, 1, (0, 0, 0), [], []),
  (29, .iadd, 1, (0, 0, 0), [], []),
  (30, .istore_n 1, 1, (0, 0, 0), [], []),
  (31, .iinc 2 1, 3, (0, 0, 0), [], []),
  (34, .goto (-30), 3, (4, 0, 0), [], []),
  (37, .iload_n 1, 1, (0, 0, 0), [], []),
  (38, .ireturn, 1, (0, 0, 0), [], [])]
/-- 52: X3_boughtCount -/
def am_t52 : List am_E := [(0, .iconst 0, 1, (0, 0, 0), [], []),
  (1, .istore_n 1, 1, (0, 0, 0), [], []),
  (2, .iconst 0, 1, (0, 0, 0), [], []),
  (3, .istore_n 2, 1, (0, 0, 0), [], []),
  (4, .iload_n 2, 1, (0, 0, 0), [], []),
  (5, .aload_n 0, 1, (0, 0, 0), [], []),
  (6, .getfield 40, 3, (3, 5, 2), [], [337]),
  (9, .getfield 74, 3, (4, 1, 0), [], [102]),
  (12, .if_icmp .ge 18, 3, (30, 0, 0), [], []),
  (15, .iload_n 1, 1, (0, 0, 0), [], []),
  (16, .aload_n 0, 1, (0, 0, 0), [], []),
  (17, .getfield 31, 3, (3, 11, 2), [], [343]),
  (20, .iload_n 2, 1, (0, 0, 0), [], []),
  (21, .iaload, 1, (0, 0, 0), [], []),
  (22, .iadd, 1, (0, 0, 0), [], []),
  (23, .istore_n 1, 1, (0, 0, 0), [], []),
  (24, .iinc 2 1, 3, (0, 0, 0), [], []),
  (27, .goto (-23), 3, (4, 0, 0), [], []),
  (30, .iload_n 1, 1, (0, 0, 0), [], []),
  (31, .ireturn, 1, (0, 0, 0), [], [])]
/-- 53: X3_ofWard -/
def am_t53 : List am_E := [(0, .iload_n 2, 1, (0, 0, 0), [], []),
  (1, .ifCond .ne 13, 3, (14, 0, 0), [], []),
  (4, .aload_n 0, 1, (0, 0, 0), [], []),
  (5, .getfield 40, 3, (3, 5, 2), [], [337]),
  (8, .getfield 81, 3, (4, 6, 2), [], [120]),
  (11, .iload_n 1, 1, (0, 0, 0), [], []),
  (12, .iaload, 1, (0, 0, 0), [], []),
  (13, .ireturn, 1, (0, 0, 0), [], []),
  (14, .iconst 0, 1, (0, 0, 0), [], []),
  (15, .istore_n 3, 1, (0, 0, 0), [], []),
  (16, .iconst 0, 1, (0, 0, 0), [], []),
  (17, .istore 4, 2, (0, 0, 0), [], []),
  (19, .iload 4, 2, (0, 0, 0), [], []),
  (21, .aload_n 0, 1, (0, 0, 0), [], []),
  (22, .getfield 40, 3, (3, 5, 2), [], [337]),
  (25, .getfield 74, 3, (4, 1, 0), [], [102]),
  (28, .if_icmp .ge 56, 3, (84, 0, 0), [], []),
  (31, .aload_n 0, 1, (0, 0, 0), [], []),
  (32, .getfield 40, 3, (3, 5, 2), [], [337]),
  (35, .getfield 84, 3, (4, 7, 2), [], [123]),
  (38, .iload 4, 2, (0, 0, 0), [], []),
  (40, .iaload, 1, (0, 0, 0), [], []),
  (41, .iload_n 1, 1, (0, 0, 0), [], []),
  (42, .if_icmp .ne 36, 3, (78, 0, 0), [], []),
  (45, .iload_n 2, 1, (0, 0, 0), [], []),
  (46, .iconst 1, 1, (0, 0, 0), [], []),
  (47, .if_icmp .eq 12, 3, (59, 0, 0), [], []),
  (50, .aload_n 0, 1, (0, 0, 0), [], []),
  (51, .iload 4, 2, (0, 0, 0), [], []),
  (53, .invokevirtual 77, 3, (0, 58, 3), [], [496, 73, 497, 498]),
  (56, .ifCond .ne 22, 3, (78, 0, 0), [], []),
  (59, .iload_n 3, 1, (0, 0, 0), [], []),
  (60, .iload_n 2, 1, (0, 0, 0), [], []),
  (61, .iconst 3, 1, (0, 0, 0), [], []),
  (62, .if_icmp .ne 13, 3, (75, 0, 0), [], []),
  (65, .aload_n 0, 1, (0, 0, 0), [], []),
  (66, .getfield 25, 3, (3, 9, 2), [], [341]),
  (69, .iload 4, 2, (0, 0, 0), [], []),
  (71, .iaload, 1, (0, 0, 0), [], []),
  (72, .goto 4, 3, (76, 0, 0), [], []),
  (75, .iconst 1, 1, (0, 0, 0), [], []),
  (76, .iadd, 1, (0, 0, 0), [], []),
  (77, .istore_n 3, 1, (0, 0, 0), [], []),
  (78, .iinc 4 1, 3, (0, 0, 0), [], []),
  (81, .goto (-62), 3, (19, 0, 0), [], []),
  (84, .iload_n 3, 1, (0, 0, 0), [], []),
  (85, .ireturn, 1, (0, 0, 0), [], [])]
/-- 54: X3_ofProject -/
def am_t54 : List am_E := [(0, .iload_n 2, 1, (0, 0, 0), [], []),
  (1, .tableswitch 104 0 6 #[43, 50, 60, 70, 76, 83, 90], 43, (105, 0, 0), [(0, 44), (1, 51), (2, 61), (3, 71), (4, 77), (5, 84), (6, 91)], []),
  (44, .aload_n 0, 1, (0, 0, 0), [], []),
  (45, .getfield 25, 3, (3, 9, 2), [], [341]),
  (48, .iload_n 1, 1, (0, 0, 0), [], []),
  (49, .iaload, 1, (0, 0, 0), [], []),
  (50, .ireturn, 1, (0, 0, 0), [], []),
  (51, .aload_n 0, 1, (0, 0, 0), [], []),
  (52, .getfield 40, 3, (3, 5, 2), [], [337]),
  (55, .getfield 84, 3, (4, 7, 2), [], [123]),
  (58, .iload_n 1, 1, (0, 0, 0), [], []),
  (59, .iaload, 1, (0, 0, 0), [], []),
  (60, .ireturn, 1, (0, 0, 0), [], []),
  (61, .aload_n 0, 1, (0, 0, 0), [], []),
  (62, .getfield 40, 3, (3, 5, 2), [], [337]),
  (65, .getfield 87, 3, (4, 9, 2), [], [129]),
  (68, .iload_n 1, 1, (0, 0, 0), [], []),
  (69, .iaload, 1, (0, 0, 0), [], []),
  (70, .ireturn, 1, (0, 0, 0), [], []),
  (71, .aload_n 0, 1, (0, 0, 0), [], []),
  (72, .iload_n 1, 1, (0, 0, 0), [], []),
  (73, .invokevirtual 90, 3, (0, 60, 3), [], [532, 73, 534, 4]),
  (76, .ireturn, 1, (0, 0, 0), [], []),
  (77, .aload_n 0, 1, (0, 0, 0), [], []),
  (78, .getfield 19, 3, (3, 4, 2), [], [335]),
  (81, .iload_n 1, 1, (0, 0, 0), [], []),
  (82, .iaload, 1, (0, 0, 0), [], []),
  (83, .ireturn, 1, (0, 0, 0), [], []),
  (84, .aload_n 0, 1, (0, 0, 0), [], []),
  (85, .getfield 31, 3, (3, 11, 2), [], [343]),
  (88, .iload_n 1, 1, (0, 0, 0), [], []),
  (89, .iaload, 1, (0, 0, 0), [], []),
  (90, .ireturn, 1, (0, 0, 0), [], []),
  (91, .aload_n 0, 1, (0, 0, 0), [], []),
  (92, .iload_n 1, 1, (0, 0, 0), [], []),
  (93, .invokevirtual 94, 3, (0, 77, 3), [], [542, 73, 544, 5]),
  (96, .ifCond .eq 7, 3, (103, 0, 0), [], []),
  (99, .iconst 1, 1, (0, 0, 0), [], []),
  (100, .goto 4, 3, (104, 0, 0), [], []),
  (103, .iconst 0, 1, (0, 0, 0), [], []),
  (104, .ireturn, 1, (0, 0, 0), [], []),
  (105, .aload_n 0, 1, (0, 0, 0), [], []),
  (106, .iload_n 1, 1, (0, 0, 0), [], []),
  (107, .invokevirtual 97, 3, (0, 61, 3), [], [588, 73, 590, 11]),
  (110, .ireturn, 1, (0, 0, 0), [], [])]
/-- 55: X3_ofVoter -/
def am_t55 : List am_E := [(0, .iload_n 2, 1, (0, 0, 0), [], []),
  (1, .tableswitch 46 0 2 #[27, 34, 40], 27, (47, 0, 0), [(0, 28), (1, 35), (2, 41)], []),
  (28, .aload_n 0, 1, (0, 0, 0), [], []),
  (29, .getfield 15, 3, (3, 3, 2), [], [333]),
  (32, .iload_n 1, 1, (0, 0, 0), [], []),
  (33, .iaload, 1, (0, 0, 0), [], []),
  (34, .ireturn, 1, (0, 0, 0), [], []),
  (35, .aload_n 0, 1, (0, 0, 0), [], []),
  (36, .iload_n 1, 1, (0, 0, 0), [], []),
  (37, .invokevirtual 100, 3, (0, 56, 3), [], [610, 73, 612, 12]),
  (40, .ireturn, 1, (0, 0, 0), [], []),
  (41, .aload_n 0, 1, (0, 0, 0), [], []),
  (42, .iload_n 1, 1, (0, 0, 0), [], []),
  (43, .invokevirtual 103, 3, (0, 57, 3), [], [567, 73, 568, 569]),
  (46, .ireturn, 1, (0, 0, 0), [], []),
  (47, .aload_n 0, 1, (0, 0, 0), [], []),
  (48, .getfield 22, 3, (3, 8, 2), [], [340]),
  (51, .iload_n 1, 1, (0, 0, 0), [], []),
  (52, .iaload, 1, (0, 0, 0), [], []),
  (53, .ireturn, 1, (0, 0, 0), [], [])]
/-- 56: X3_likedCount -/
def am_t56 : List am_E := [(0, .iconst 0, 1, (0, 0, 0), [], []),
  (1, .istore_n 2, 1, (0, 0, 0), [], []),
  (2, .iconst 0, 1, (0, 0, 0), [], []),
  (3, .istore_n 3, 1, (0, 0, 0), [], []),
  (4, .iload_n 3, 1, (0, 0, 0), [], []),
  (5, .aload_n 0, 1, (0, 0, 0), [], []),
  (6, .getfield 40, 3, (3, 5, 2), [], [337]),
  (9, .getfield 74, 3, (4, 1, 0), [], [102]),
  (12, .if_icmp .ge 26, 3, (38, 0, 0), [], []),
  (15, .iload_n 2, 1, (0, 0, 0), [], []),
  (16, .aload_n 0, 1, (0, 0, 0), [], []),
  (17, .iload_n 1, 1, (0, 0, 0), [], []),
  (18, .iload_n 3, 1, (0, 0, 0), [], []),
  (19, .invokevirtual 106, 3, (0, 59, 3), [], [575, 73, 576, 577]),
  (22, .ifCond .eq 7, 3, (29, 0, 0), [], []),
  (25, .iconst 1, 1, (0, 0, 0), [], []),
  (26, .goto 4, 3, (30, 0, 0), [], []),
  (29, .iconst 0, 1, (0, 0, 0), [], []),
  (30, .iadd, 1, (0, 0, 0), [], []),
  (31, .istore_n 2, 1, (0, 0, 0), [], []),
  (32, .iinc 3 1, 3, (0, 0, 0), [], []),
  (35, .goto (-31), 3, (4, 0, 0), [], []),
  (38, .iload_n 2, 1, (0, 0, 0), [], []),
  (39, .ireturn, 1, (0, 0, 0), [], [])]
/-- 57: X3_pleasedOf -/
def am_t57 : List am_E := [(0, .iconst 0, 1, (0, 0, 0), [], []),
  (1, .istore_n 2, 1, (0, 0, 0), [], []),
  (2, .iconst 0, 1, (0, 0, 0), [], []),
  (3, .istore_n 3, 1, (0, 0, 0), [], []),
  (4, .iload_n 3, 1, (0, 0, 0), [], []),
  (5, .aload_n 0, 1, (0, 0, 0), [], []),
  (6, .getfield 40, 3, (3, 5, 2), [], [337]),
  (9, .getfield 74, 3, (4, 1, 0), [], [102]),
  (12, .if_icmp .ge 36, 3, (48, 0, 0), [], []),
  (15, .iload_n 2, 1, (0, 0, 0), [], []),
  (16, .aload_n 0, 1, (0, 0, 0), [], []),
  (17, .getfield 19, 3, (3, 4, 2), [], [335]),
  (20, .iload_n 3, 1, (0, 0, 0), [], []),
  (21, .iaload, 1, (0, 0, 0), [], []),
  (22, .iconst (-1), 1, (0, 0, 0), [], []),
  (23, .if_icmp .eq 16, 3, (39, 0, 0), [], []),
  (26, .aload_n 0, 1, (0, 0, 0), [], []),
  (27, .getfield 28, 3, (3, 10, 2), [], [342]),
  (30, .iload_n 3, 1, (0, 0, 0), [], []),
  (31, .iaload, 1, (0, 0, 0), [], []),
  (32, .iload_n 1, 1, (0, 0, 0), [], []),
  (33, .ishr, 1, (0, 0, 0), [], []),
  (34, .iconst 1, 1, (0, 0, 0), [], []),
  (35, .iand, 1, (0, 0, 0), [], []),
  (36, .goto 4, 3, (40, 0, 0), [], []),
  (39, .iconst 0, 1, (0, 0, 0), [], []),
  (40, .iadd, 1, (0, 0, 0), [], []),
  (41, .istore_n 2, 1, (0, 0, 0), [], []),
  (42, .iinc 3 1, 3, (0, 0, 0), [], []),
  (45, .goto (-41), 3, (4, 0, 0), [], []),
  (48, .iload_n 2, 1, (0, 0, 0), [], []),
  (49, .ireturn, 1, (0, 0, 0), [], [])]
/-- 58: X3_isOpen -/
def am_t58 : List am_E := [(0, .aload_n 0, 1, (0, 0, 0), [], []),
  (1, .getfield 19, 3, (3, 4, 2), [], [335]),
  (4, .iload_n 1, 1, (0, 0, 0), [], []),
  (5, .iaload, 1, (0, 0, 0), [], []),
  (6, .iconst (-1), 1, (0, 0, 0), [], []),
  (7, .if_icmp .ne 7, 3, (14, 0, 0), [], []),
  (10, .iconst 1, 1, (0, 0, 0), [], []),
  (11, .goto 4, 3, (15, 0, 0), [], []),
  (14, .iconst 0, 1, (0, 0, 0), [], []),
  (15, .ireturn, 1, (1, 0, 0), [], [])]
/-- 59: X3_isFan -/
def am_t59 : List am_E := [(0, .aload_n 0, 1, (0, 0, 0), [], []),
  (1, .getfield 28, 3, (3, 10, 2), [], [342]),
  (4, .iload_n 2, 1, (0, 0, 0), [], []),
  (5, .iaload, 1, (0, 0, 0), [], []),
  (6, .iload_n 1, 1, (0, 0, 0), [], []),
  (7, .ishr, 1, (0, 0, 0), [], []),
  (8, .iconst 1, 1, (0, 0, 0), [], []),
  (9, .iand, 1, (0, 0, 0), [], []),
  (10, .ifCond .eq 7, 3, (17, 0, 0), [], []),
  (13, .iconst 1, 1, (0, 0, 0), [], []),
  (14, .goto 4, 3, (18, 0, 0), [], []),
  (17, .iconst 0, 1, (0, 0, 0), [], []),
  (18, .ireturn, 1, (1, 0, 0), [], [])]
/-- 60: X3_fanCount -/
def am_t60 : List am_E := [(0, .aload_n 0, 1, (0, 0, 0), [], []),
  (1, .getfield 28, 3, (3, 10, 2), [], [342]),
  (4, .iload_n 1, 1, (0, 0, 0), [], []),
  (5, .iaload, 1, (0, 0, 0), [], []),
  (6, .invokestatic 110, 3, (2, 12, 0), [], [536, 67, 537]),
  (9, .ireturn, 1, (0, 0, 0), [], [])]
/-- 61: X3_coinsOfFans -/
def am_t61 : List am_E := [(0, .iconst 0, 1, (0, 0, 0), [], []),
  (1, .istore_n 2, 1, (0, 0, 0), [], []),
  (2, .iconst 0, 1, (0, 0, 0), [], []),
  (3, .istore_n 3, 1, (0, 0, 0), [], []),
  (4, .iload_n 3, 1, (0, 0, 0), [], []),
  (5, .aload_n 0, 1, (0, 0, 0), [], []),
  (6, .getfield 40, 3, (3, 5, 2), [], [337]),
  (9, .getfield 71, 3, (4, 2, 0), [], [106]),
  (12, .if_icmp .ge 31, 3, (43, 0, 0), [], []),
  (15, .iload_n 2, 1, (0, 0, 0), [], []),
  (16, .aload_n 0, 1, (0, 0, 0), [], []),
  (17, .iload_n 3, 1, (0, 0, 0), [], []),
  (18, .iload_n 1, 1, (0, 0, 0), [], []),
  (19, .invokevirtual 106, 3, (0, 59, 3), [], [575, 73, 576, 577]),
  (22, .ifCond .eq 12, 3, (34, 0, 0), [], []),
  (25, .aload_n 0, 1, (0, 0, 0), [], []),
  (26, .getfield 15, 3, (3, 3, 2), [], [333]),
  (29, .iload_n 3, 1, (0, 0, 0), [], []),
  (30, .iaload, 1, (0, 0, 0), [], []),
  (31, .goto 4, 3, (35, 0, 0), [], []),
  (34, .iconst 0, 1, (0, 0, 0), [], []),
  (35, .iadd, 1, (0, 0, 0), [], []),
  (36, .istore_n 2, 1, (0, 0, 0), [], []),
  (37, .iinc 3 1, 3, (0, 0, 0), [], []),
  (40, .goto (-36), 3, (4, 0, 0), [], []),
  (43, .iload_n 2, 1, (0, 0, 0), [], []),
  (44, .ireturn, 1, (0, 0, 0), [], [])]
/-- 62: X3_shareOf -/
def am_t62_0 : List am_E := [(0, .aload_n 0, 1, (0, 0, 0), [], []),
  (1, .iload_n 1, 1, (0, 0, 0), [], []),
  (2, .invokevirtual 97, 3, (0, 61, 3), [], [588, 73, 590, 11]),
  (5, .aload_n 0, 1, (0, 0, 0), [], []),
  (6, .getfield 25, 3, (3, 9, 2), [], [341]),
  (9, .iload_n 1, 1, (0, 0, 0), [], []),
  (10, .iaload, 1, (0, 0, 0), [], []),
  (11, .if_icmp .ge 5, 3, (16, 0, 0), [], []),
  (14, .iconst (-1), 1, (0, 0, 0), [], []),
  (15, .ireturn, 1, (0, 0, 0), [], []),
  (16, .iconst 0, 1, (0, 0, 0), [], []),
  (17, .istore_n 2, 1, (0, 0, 0), [], []),
  (18, .iconst 0, 1, (0, 0, 0), [], []),
  (19, .istore_n 3, 1, (0, 0, 0), [], []),
  (20, .iload_n 3, 1, (0, 0, 0), [], []),
  (21, .bipush 13, 2, (0, 0, 0), [], []),
  (23, .if_icmp .gt 110, 3, (133, 0, 0), [], []),
  (26, .aload_n 0, 1, (0, 0, 0), [], []),
  (27, .getfield 25, 3, (3, 9, 2), [], [341]),
  (30, .iload_n 1, 1, (0, 0, 0), [], []),
  (31, .iaload, 1, (0, 0, 0), [], []),
  (32, .istore 4, 2, (0, 0, 0), [], []),
  (34, .iconst 0, 1, (0, 0, 0), [], []),
  (35, .istore 5, 2, (0, 0, 0), [], []),
  (37, .iconst 0, 1, (0, 0, 0), [], []),
  (38, .istore 6, 2, (0, 0, 0), [], []),
  (40, .iload 6, 2, (0, 0, 0), [], []),
  (42, .aload_n 0, 1, (0, 0, 0), [], []),
  (43, .getfield 40, 3, (3, 5, 2), [], [337]),
  (46, .getfield 71, 3, (4, 2, 0), [], [106]),
  (49, .if_icmp .ge 48, 3, (97, 0, 0), [], []),
  (52, .aload_n 0, 1, (0, 0, 0), [], []),
  (53, .iload 6, 2, (0, 0, 0), [], []),
  (55, .iload_n 1, 1, (0, 0, 0), [], []),
  (56, .invokevirtual 106, 3, (0, 59, 3), [], [575, 73, 576, 577]),
  (59, .ifCond .eq 32, 3, (91, 0, 0), [], []),
  (62, .aload_n 0, 1, (0, 0, 0), [], []),
  (63, .getfield 15, 3, (3, 3, 2), [], [333]),
  (66, .iload 6, 2, (0, 0, 0), [], []),
  (68, .iaload, 1, (0, 0, 0), [], []),
  (69, .iload_n 2, 1, (0, 0, 0), [], []),
  (70, .if_icmp .ge 18, 3, (88, 0, 0), [], []),
  (73, .iload 4, 2, (0, 0, 0), [], []),
  (75, .aload_n 0, 1, (0, 0, 0), [], []),
  (76, .getfield 15, 3, (3, 3, 2), [], [333]),
  (79, .iload 6, 2, (0, 0, 0), [], []),
  (81, .iaload, 1, (0, 0, 0), [], []),
  (82, .isub, 1, (0, 0, 0), [], []),
  (83, .istore 4, 2, (0, 0, 0), [], []),
  (85, .goto 6, 3, (91, 0, 0), [], []),
  (88, .iinc 5 1, 3, (0, 0, 0), [], []),
  (91, .iinc 6 1, 3, (0, 0, 0), [], []),
  (94, .goto (-54), 3, (40, 0, 0), [], []),
  (97, .iload 5, 2, (0, 0, 0), [], []),
  (99, .ifCond .ne 5, 3, (104, 0, 0), [], []),
  (102, .iconst (-1), 1, (0, 0, 0), [], []),
  (103, .ireturn, 1, (0, 0, 0), [], []),
  (104, .iload 4, 2, (0, 0, 0), [], []),
  (106, .iload 5, 2, (0, 0, 0), [], []),
  (108, .iadd, 1, (0, 0, 0), [], [])]
def am_t62_1 : List am_E := [(109, .iconst 1, 1, (0, 0, 0), [], []),
  (110, .isub, 1, (0, 0, 0), [], []),
  (111, .iload 5, 2, (0, 0, 0), [], []),
  (113, .idiv, 1, (0, 0, 0), [], []),
  (114, .istore 6, 2, (0, 0, 0), [], []),
  (116, .iload 6, 2, (0, 0, 0), [], []),
  (118, .iload_n 2, 1, (0, 0, 0), [], []),
  (119, .if_icmp .ne 5, 3, (124, 0, 0), [], []),
  (122, .iload_n 2, 1, (0, 0, 0), [], []),
  (123, .ireturn, 1, (0, 0, 0), [], []),
  (124, .iload 6, 2, (0, 0, 0), [], []),
  (126, .istore_n 2, 1, (0, 0, 0), [], []),
  (127, .iinc 3 1, 3, (0, 0, 0), [], []),
  (130, .goto (-110), 3, (20, 0, 0), [], []),
  (133, .iload_n 2, 1, (0, 0, 0), [], []),
  (134, .ireturn, 1, (0, 0, 0), [], [])]
def am_t62 : List am_E := am_t62_0 ++ (am_t62_1)
/-- 63: X3_setFan -/
def am_t63 : List am_E := [(0, .iload_n 3, 1, (0, 0, 0), [], []),
  (1, .ifCond .eq 18, 3, (19, 0, 0), [], []),
  (4, .aload_n 0, 1, (0, 0, 0), [], []),
  (5, .getfield 28, 3, (3, 10, 2), [], [342]),
  (8, .iload_n 2, 1, (0, 0, 0), [], []),
  (9, .dup2, 1, (0, 0, 0), [], []),
  (10, .iaload, 1, (0, 0, 0), [], []),
  (11, .iconst 1, 1, (0, 0, 0), [], []),
  (12, .iload_n 1, 1, (0, 0, 0), [], []),
  (13, .ishl, 1, (0, 0, 0), [], []),
  (14, .ior, 1, (0, 0, 0), [], []),
  (15, .iastore, 1, (0, 0, 0), [], []),
  (16, .goto 17, 3, (33, 0, 0), [], []),
  (19, .aload_n 0, 1, (0, 0, 0), [], []),
  (20, .getfield 28, 3, (3, 10, 2), [], [342]),
  (23, .iload_n 2, 1, (0, 0, 0), [], []),
  (24, .dup2, 1, (0, 0, 0), [], []),
  (25, .iaload, 1, (0, 0, 0), [], []),
  (26, .iconst 1, 1, (0, 0, 0), [], []),
  (27, .iload_n 1, 1, (0, 0, 0), [], []),
  (28, .ishl, 1, (0, 0, 0), [], []),
  (29, .iconst (-1), 1, (0, 0, 0), [], []),
  (30, .ixor, 1, (0, 0, 0), [], []),
  (31, .iand, 1, (0, 0, 0), [], []),
  (32, .iastore, 1, (0, 0, 0), [], []),
  (33, .return_, 1, (0, 0, 0), [], [])]
/-- 64: X3_putIntoPurse -/
def am_t64 : List am_E := [(0, .aload_n 0, 1, (0, 0, 0), [], []),
  (1, .getfield 15, 3, (3, 3, 2), [], [333]),
  (4, .iload_n 1, 1, (0, 0, 0), [], []),
  (5, .sipush 9999, 3, (0, 0, 0), [], []),
  (8, .aload_n 0, 1, (0, 0, 0), [], []),
  (9, .getfield 15, 3, (3, 3, 2), [], [333]),
  (12, .iload_n 1, 1, (0, 0, 0), [], []),
  (13, .iaload, 1, (0, 0, 0), [], []),
  (14, .iload_n 2, 1, (0, 0, 0), [], []),
  (15, .iadd, 1, (0, 0, 0), [], []),
  (16, .invokestatic 115, 3, (7, 0, 0), [], [579, 580, 61, 581]),
  (19, .iastore, 1, (0, 0, 0), [], []),
  (20, .return_, 1, (0, 0, 0), [], [])]
/-- 65: X3_reopen -/
def am_t65 : List am_E := [(0, .aload_n 0, 1, (0, 0, 0), [], []),
  (1, .getfield 19, 3, (3, 4, 2), [], [335]),
  (4, .iload_n 1, 1, (0, 0, 0), [], []),
  (5, .iconst (-1), 1, (0, 0, 0), [], []),
  (6, .iastore, 1, (0, 0, 0), [], []),
  (7, .aload_n 0, 1, (0, 0, 0), [], []),
  (8, .getfield 31, 3, (3, 11, 2), [], [343]),
  (11, .iload_n 1, 1, (0, 0, 0), [], []),
  (12, .iconst 0, 1, (0, 0, 0), [], []),
  (13, .iastore, 1, (0, 0, 0), [], []),
  (14, .return_, 1, (0, 0, 0), [], [])]
/-- 66: X3_runYears -/
def am_t66 : List am_E := [(0, .iconst 0, 1, (0, 0, 0), [], []),
  (1, .istore_n 2, 1, (0, 0, 0), [], []),
  (2, .iload_n 2, 1, (0, 0, 0), [], []),
  (3, .iload_n 1, 1, (0, 0, 0), [], []),
  (4, .if_icmp .ge 35, 3, (39, 0, 0), [], []),
  (7, .aload_n 0, 1, (0, 0, 0), [], []),
  (8, .invokevirtual 121, 3, (0, 67, 3), [], [675, 73, 634, 635]),
  (11, .aload_n 0, 1, (0, 0, 0), [], []),
  (12, .invokevirtual 124, 3, (0, 68, 3), [], [676, 73, 678, 14]),
  (15, .aload_n 0, 1, (0, 0, 0), [], []),
  (16, .invokevirtual 127, 3, (0, 73, 3), [], [689, 73, 691, 17]),
  (19, .aload_n 0, 1, (0, 0, 0), [], []),
  (20, .invokevirtual 130, 3, (0, 76, 3), [], [701, 73, 703, 20]),
  (23, .aload_n 0, 1, (0, 0, 0), [], []),
  (24, .dup, 1, (0, 0, 0), [], []),
  (25, .getfield 58, 3, (3, 0, 0), [], [327]),
  (28, .iconst 1, 1, (0, 0, 0), [], []),
  (29, .iadd, 1, (0, 0, 0), [], []),
  (30, .putfield 58, 3, (3, 0, 0), [], [327]),
  (33, .iinc 2 1, 3, (0, 0, 0), [], []),
  (36, .goto (-34), 3, (2, 0, 0), [], []),
  (39, .return_, 1, (0, 0, 0), [], [])]
/-- 67: X3_collect -/
def am_t67 : List am_E := [(0, .iconst 0, 1, (0, 0, 0), [], []),
  (1, .istore_n 1, 1, (0, 0, 0), [], []),
  (2, .iload_n 1, 1, (0, 0, 0), [], []),
  (3, .iconst 4, 1, (0, 0, 0), [], []),
  (4, .if_icmp .ge 16, 3, (20, 0, 0), [], []),
  (7, .aload_n 0, 1, (0, 0, 0), [], []),
  (8, .getfield 34, 3, (3, 12, 2), [], [344]),
  (11, .iload_n 1, 1, (0, 0, 0), [], []),
  (12, .iconst 0, 1, (0, 0, 0), [], []),
  (13, .iastore, 1, (0, 0, 0), [], []),
  (14, .iinc 1 1, 3, (0, 0, 0), [], []),
  (17, .goto (-15), 3, (2, 0, 0), [], []),
  (20, .aload_n 0, 1, (0, 0, 0), [], []),
  (21, .getfield 49, 3, (3, 1, 0), [], [329]),
  (24, .istore_n 1, 1, (0, 0, 0), [], []),
  (25, .aload_n 0, 1, (0, 0, 0), [], []),
  (26, .getfield 40, 3, (3, 5, 2), [], [337]),
  (29, .getfield 71, 3, (4, 2, 0), [], [106]),
  (32, .ifCond .le 54, 3, (86, 0, 0), [], []),
  (35, .aload_n 0, 1, (0, 0, 0), [], []),
  (36, .getfield 49, 3, (3, 1, 0), [], [329]),
  (39, .aload_n 0, 1, (0, 0, 0), [], []),
  (40, .getfield 40, 3, (3, 5, 2), [], [337]),
  (43, .getfield 71, 3, (4, 2, 0), [], [106]),
  (46, .idiv, 1, (0, 0, 0), [], []),
  (47, .istore_n 2, 1, (0, 0, 0), [], []),
  (48, .iconst 0, 1, (0, 0, 0), [], []),
  (49, .istore_n 3, 1, (0, 0, 0), [], []),
  (50, .iload_n 3, 1, (0, 0, 0), [], []),
  (51, .aload_n 0, 1, (0, 0, 0), [], []),
  (52, .getfield 40, 3, (3, 5, 2), [], [337]),
  (55, .getfield 71, 3, (4, 2, 0), [], [106]),
  (58, .if_icmp .ge 15, 3, (73, 0, 0), [], []),
  (61, .aload_n 0, 1, (0, 0, 0), [], []),
  (62, .iload_n 3, 1, (0, 0, 0), [], []),
  (63, .iload_n 2, 1, (0, 0, 0), [], []),
  (64, .invokevirtual 133, 3, (0, 64, 3), [], [637, 73, 638, 639]),
  (67, .iinc 3 1, 3, (0, 0, 0), [], []),
  (70, .goto (-20), 3, (50, 0, 0), [], []),
  (73, .aload_n 0, 1, (0, 0, 0), [], []),
  (74, .getfield 49, 3, (3, 1, 0), [], [329]),
  (77, .aload_n 0, 1, (0, 0, 0), [], []),
  (78, .getfield 40, 3, (3, 5, 2), [], [337]),
  (81, .getfield 71, 3, (4, 2, 0), [], [106]),
  (84, .irem, 1, (0, 0, 0), [], []),
  (85, .istore_n 1, 1, (0, 0, 0), [], []),
  (86, .aload_n 0, 1, (0, 0, 0), [], []),
  (87, .sipush 9999, 3, (0, 0, 0), [], []),
  (90, .aload_n 0, 1, (0, 0, 0), [], []),
  (91, .getfield 50, 3, (3, 6, 0), [], [338]),
  (94, .iload_n 1, 1, (0, 0, 0), [], []),
  (95, .iadd, 1, (0, 0, 0), [], []),
  (96, .invokestatic 115, 3, (7, 0, 0), [], [579, 580, 61, 581]),
  (99, .putfield 50, 3, (3, 6, 0), [], [338]),
  (102, .return_, 1, (0, 0, 0), [], [])]
/-- 68: X3_buyFromPurses -/
def am_t68 : List am_E := [(0, .iconst 0, 1, (0, 0, 0), [], []),
  (1, .istore_n 1, 1, (0, 0, 0), [], []),
  (2, .iload_n 1, 1, (0, 0, 0), [], []),
  (3, .bipush 12, 2, (0, 0, 0), [], []),
  (5, .if_icmp .ge 30, 3, (35, 0, 0), [], []),
  (8, .aload_n 0, 1, (0, 0, 0), [], []),
  (9, .invokevirtual 137, 3, (0, 69, 3), [], [680, 73, 642, 643]),
  (12, .istore_n 2, 1, (0, 0, 0), [], []),
  (13, .iload_n 2, 1, (0, 0, 0), [], []),
  (14, .iconst (-1), 1, (0, 0, 0), [], []),
  (15, .if_icmp .ne 4, 3, (19, 0, 0), [], []),
  (18, .return_, 1, (0, 0, 0), [], []),
  (19, .aload_n 0, 1, (0, 0, 0), [], []),
  (20, .iload_n 2, 1, (0, 0, 0), [], []),
  (21, .aload_n 0, 1, (0, 0, 0), [], []),
  (22, .iload_n 2, 1, (0, 0, 0), [], []),
  (23, .invokevirtual 140, 3, (0, 62, 3), [], [649, 73, 597, 598]),
  (26, .invokevirtual 143, 3, (0, 71, 3), [], [681, 73, 683, 15]),
  (29, .iinc 1 1, 3, (0, 0, 0), [], []),
  (32, .goto (-30), 3, (2, 0, 0), [], []),
  (35, .return_, 1, (0, 0, 0), [], [])]
/-- 69: X3_bestToBuy -/
def am_t69 : List am_E := [(0, .iconst (-1), 1, (0, 0, 0), [], []),
  (1, .istore_n 1, 1, (0, 0, 0), [], []),
  (2, .iconst 0, 1, (0, 0, 0), [], []),
  (3, .istore_n 2, 1, (0, 0, 0), [], []),
  (4, .iconst 0, 1, (0, 0, 0), [], []),
  (5, .istore_n 3, 1, (0, 0, 0), [], []),
  (6, .iload_n 3, 1, (0, 0, 0), [], []),
  (7, .aload_n 0, 1, (0, 0, 0), [], []),
  (8, .getfield 40, 3, (3, 5, 2), [], [337]),
  (11, .getfield 74, 3, (4, 1, 0), [], [102]),
  (14, .if_icmp .ge 85, 3, (99, 0, 0), [], []),
  (17, .aload_n 0, 1, (0, 0, 0), [], []),
  (18, .iload_n 3, 1, (0, 0, 0), [], []),
  (19, .invokevirtual 146, 3, (0, 70, 3), [], [645, 73, 647, 13]),
  (22, .ifCond .eq 71, 3, (93, 0, 0), [], []),
  (25, .aload_n 0, 1, (0, 0, 0), [], []),
  (26, .iload_n 3, 1, (0, 0, 0), [], []),
  (27, .invokevirtual 140, 3, (0, 62, 3), [], [649, 73, 597, 598]),
  (30, .istore 4, 2, (0, 0, 0), [], []),
  (32, .iload 4, 2, (0, 0, 0), [], []),
  (34, .iconst (-1), 1, (0, 0, 0), [], []),
  (35, .if_icmp .eq 37, 3, (72, 0, 0), [], []),
  (38, .iload_n 1, 1, (0, 0, 0), [], []),
  (39, .iconst (-1), 1, (0, 0, 0), [], []),
  (40, .if_icmp .eq 28, 3, (68, 0, 0), [], []),
  (43, .iload 4, 2, (0, 0, 0), [], []),
  (45, .iload_n 2, 1, (0, 0, 0), [], []),
  (46, .if_icmp .lt 22, 3, (68, 0, 0), [], []),
  (49, .iload 4, 2, (0, 0, 0), [], []),
  (51, .iload_n 2, 1, (0, 0, 0), [], []),
  (52, .if_icmp .ne 20, 3, (72, 0, 0), [], []),
  (55, .aload_n 0, 1, (0, 0, 0), [], []),
  (56, .iload_n 3, 1, (0, 0, 0), [], []),
  (57, .invokevirtual 90, 3, (0, 60, 3), [], [532, 73, 534, 4]),
  (60, .aload_n 0, 1, (0, 0, 0), [], []),
  (61, .iload_n 1, 1, (0, 0, 0), [], []),
  (62, .invokevirtual 90, 3, (0, 60, 3), [], [532, 73, 534, 4]),
  (65, .if_icmp .le 7, 3, (72, 0, 0), [], []),
  (68, .iconst 1, 1, (0, 0, 0), [], []),
  (69, .goto 4, 3, (73, 0, 0), [], []),
  (72, .iconst 0, 1, (0, 0, 0), [], []),
  (73, .istore 5, 2, (0, 0, 0), [], []),
  (75, .iload 5, 2, (0, 0, 0), [], []),
  (77, .ifCond .eq 16, 3, (93, 0, 0), [], []),
  (80, .aload_n 0, 1, (0, 0, 0), [], []),
  (81, .iload_n 3, 1, (0, 0, 0), [], []),
  (82, .invokevirtual 94, 3, (0, 77, 3), [], [542, 73, 544, 5]),
  (85, .ifCond .ne 8, 3, (93, 0, 0), [], []),
  (88, .iload_n 3, 1, (0, 0, 0), [], []),
  (89, .istore_n 1, 1, (0, 0, 0), [], []),
  (90, .iload 4, 2, (0, 0, 0), [], []),
  (92, .istore_n 2, 1, (0, 0, 0), [], []),
  (93, .iinc 3 1, 3, (0, 0, 0), [], []),
  (96, .goto (-90), 3, (6, 0, 0), [], []),
  (99, .iload_n 1, 1, (0, 0, 0), [], []),
  (100, .ireturn, 1, (0, 0, 0), [], [])]
/-- 70: X3_hasRoom -/
def am_t70 : List am_E := [(0, .aload_n 0, 1, (0, 0, 0), [], []),
  (1, .getfield 40, 3, (3, 5, 2), [], [337]),
  (4, .getfield 84, 3, (4, 7, 2), [], [123]),
  (7, .iload_n 1, 1, (0, 0, 0), [], []),
  (8, .iaload, 1, (0, 0, 0), [], []),
  (9, .istore_n 2, 1, (0, 0, 0), [], []),
  (10, .aload_n 0, 1, (0, 0, 0), [], []),
  (11, .iload_n 1, 1, (0, 0, 0), [], []),
  (12, .invokevirtual 77, 3, (0, 58, 3), [], [496, 73, 497, 498]),
  (15, .ifCond .eq 33, 3, (48, 0, 0), [], []),
  (18, .iload_n 1, 1, (0, 0, 0), [], []),
  (19, .aload_n 0, 1, (0, 0, 0), [], []),
  (20, .getfield 9, 3, (3, 2, 0), [], [331]),
  (23, .if_icmp .eq 25, 3, (48, 0, 0), [], []),
  (26, .aload_n 0, 1, (0, 0, 0), [], []),
  (27, .getfield 34, 3, (3, 12, 2), [], [344]),
  (30, .iload_n 2, 1, (0, 0, 0), [], []),
  (31, .iaload, 1, (0, 0, 0), [], []),
  (32, .aload_n 0, 1, (0, 0, 0), [], []),
  (33, .getfield 40, 3, (3, 5, 2), [], [337]),
  (36, .getfield 81, 3, (4, 6, 2), [], [120]),
  (39, .iload_n 2, 1, (0, 0, 0), [], []),
  (40, .iaload, 1, (0, 0, 0), [], []),
  (41, .if_icmp .ge 7, 3, (48, 0, 0), [], []),
  (44, .iconst 1, 1, (0, 0, 0), [], []),
  (45, .goto 4, 3, (49, 0, 0), [], []),
  (48, .iconst 0, 1, (0, 0, 0), [], []),
  (49, .ireturn, 1, (1, 0, 0), [], [])]
/-- 71: X3_buy -/
def am_t71_0 : List am_E := [(0, .aload_n 0, 1, (0, 0, 0), [], []),
  (1, .getfield 25, 3, (3, 9, 2), [], [341]),
  (4, .iload_n 1, 1, (0, 0, 0), [], []),
  (5, .iaload, 1, (0, 0, 0), [], []),
  (6, .ineg, 1, (0, 0, 0), [], []),
  (7, .istore_n 3, 1, (0, 0, 0), [], []),
  (8, .iconst 0, 1, (0, 0, 0), [], []),
  (9, .istore 4, 2, (0, 0, 0), [], []),
  (11, .iload 4, 2, (0, 0, 0), [], []),
  (13, .aload_n 0, 1, (0, 0, 0), [], []),
  (14, .getfield 40, 3, (3, 5, 2), [], [337]),
  (17, .getfield 71, 3, (4, 2, 0), [], [106]),
  (20, .if_icmp .ge 33, 3, (53, 0, 0), [], []),
  (23, .aload_n 0, 1, (0, 0, 0), [], []),
  (24, .iload 4, 2, (0, 0, 0), [], []),
  (26, .iload_n 1, 1, (0, 0, 0), [], []),
  (27, .invokevirtual 106, 3, (0, 59, 3), [], [575, 73, 576, 577]),
  (30, .ifCond .eq 17, 3, (47, 0, 0), [], []),
  (33, .iload_n 3, 1, (0, 0, 0), [], []),
  (34, .iload_n 2, 1, (0, 0, 0), [], []),
  (35, .aload_n 0, 1, (0, 0, 0), [], []),
  (36, .getfield 15, 3, (3, 3, 2), [], [333]),
  (39, .iload 4, 2, (0, 0, 0), [], []),
  (41, .iaload, 1, (0, 0, 0), [], []),
  (42, .invokestatic 115, 3, (7, 0, 0), [], [579, 580, 61, 581]),
  (45, .iadd, 1, (0, 0, 0), [], []),
  (46, .istore_n 3, 1, (0, 0, 0), [], []),
  (47, .iinc 4 1, 3, (0, 0, 0), [], []),
  (50, .goto (-39), 3, (11, 0, 0), [], []),
  (53, .iconst 0, 1, (0, 0, 0), [], []),
  (54, .istore 4, 2, (0, 0, 0), [], []),
  (56, .iload 4, 2, (0, 0, 0), [], []),
  (58, .aload_n 0, 1, (0, 0, 0), [], []),
  (59, .getfield 40, 3, (3, 5, 2), [], [337]),
  (62, .getfield 71, 3, (4, 2, 0), [], [106]),
  (65, .if_icmp .ge 72, 3, (137, 0, 0), [], []),
  (68, .aload_n 0, 1, (0, 0, 0), [], []),
  (69, .iload 4, 2, (0, 0, 0), [], []),
  (71, .iload_n 1, 1, (0, 0, 0), [], []),
  (72, .invokevirtual 106, 3, (0, 59, 3), [], [575, 73, 576, 577]),
  (75, .ifCond .eq 56, 3, (131, 0, 0), [], []),
  (78, .iload_n 2, 1, (0, 0, 0), [], []),
  (79, .aload_n 0, 1, (0, 0, 0), [], []),
  (80, .getfield 15, 3, (3, 3, 2), [], [333]),
  (83, .iload 4, 2, (0, 0, 0), [], []),
  (85, .iaload, 1, (0, 0, 0), [], []),
  (86, .invokestatic 115, 3, (7, 0, 0), [], [579, 580, 61, 581]),
  (89, .istore 5, 2, (0, 0, 0), [], []),
  (91, .iload 5, 2, (0, 0, 0), [], []),
  (93, .iload_n 2, 1, (0, 0, 0), [], []),
  (94, .if_icmp .ne 13, 3, (107, 0, 0), [], []),
  (97, .iload_n 3, 1, (0, 0, 0), [], []),
  (98, .ifCond .le 9, 3, (107, 0, 0), [], []),
  (101, .iinc 5 (-1), 3, (0, 0, 0), [], []),
  (104, .iinc 3 (-1), 3, (0, 0, 0), [], []),
  (107, .aload_n 0, 1, (0, 0, 0), [], []),
  (108, .getfield 15, 3, (3, 3, 2), [], [333]),
  (111, .iload 4, 2, (0, 0, 0), [], []),
  (113, .dup2, 1, (0, 0, 0), [], []),
  (114, .iaload, 1, (0, 0, 0), [], [])]
def am_t71_1 : List am_E := [(115, .iload 5, 2, (0, 0, 0), [], []),
  (117, .isub, 1, (0, 0, 0), [], []),
  (118, .iastore, 1, (0, 0, 0), [], []),
  (119, .aload_n 0, 1, (0, 0, 0), [], []),
  (120, .getfield 22, 3, (3, 8, 2), [], [340]),
  (123, .iload 4, 2, (0, 0, 0), [], []),
  (125, .dup2, 1, (0, 0, 0), [], []),
  (126, .iaload, 1, (0, 0, 0), [], []),
  (127, .iload 5, 2, (0, 0, 0), [], []),
  (129, .iadd, 1, (0, 0, 0), [], []),
  (130, .iastore, 1, (0, 0, 0), [], []),
  (131, .iinc 4 1, 3, (0, 0, 0), [], []),
  (134, .goto (-78), 3, (56, 0, 0), [], []),
  (137, .aload_n 0, 1, (0, 0, 0), [], []),
  (138, .getfield 31, 3, (3, 11, 2), [], [343]),
  (141, .iload_n 1, 1, (0, 0, 0), [], []),
  (142, .iconst 1, 1, (0, 0, 0), [], []),
  (143, .iastore, 1, (0, 0, 0), [], []),
  (144, .aload_n 0, 1, (0, 0, 0), [], []),
  (145, .iload_n 1, 1, (0, 0, 0), [], []),
  (146, .invokevirtual 149, 3, (0, 72, 3), [], [685, 73, 687, 16]),
  (149, .return_, 1, (0, 0, 0), [], [])]
def am_t71 : List am_E := am_t71_0 ++ (am_t71_1)
/-- 72: X3_build -/
def am_t72 : List am_E := [(0, .aload_n 0, 1, (0, 0, 0), [], []),
  (1, .getfield 19, 3, (3, 4, 2), [], [335]),
  (4, .iload_n 1, 1, (0, 0, 0), [], []),
  (5, .aload_n 0, 1, (0, 0, 0), [], []),
  (6, .getfield 58, 3, (3, 0, 0), [], [327]),
  (9, .iastore, 1, (0, 0, 0), [], []),
  (10, .aload_n 0, 1, (0, 0, 0), [], []),
  (11, .getfield 34, 3, (3, 12, 2), [], [344]),
  (14, .aload_n 0, 1, (0, 0, 0), [], []),
  (15, .getfield 40, 3, (3, 5, 2), [], [337]),
  (18, .getfield 84, 3, (4, 7, 2), [], [123]),
  (21, .iload_n 1, 1, (0, 0, 0), [], []),
  (22, .iaload, 1, (0, 0, 0), [], []),
  (23, .dup2, 1, (0, 0, 0), [], []),
  (24, .iaload, 1, (0, 0, 0), [], []),
  (25, .iconst 1, 1, (0, 0, 0), [], []),
  (26, .iadd, 1, (0, 0, 0), [], []),
  (27, .iastore, 1, (0, 0, 0), [], []),
  (28, .aload_n 0, 1, (0, 0, 0), [], []),
  (29, .dup, 1, (0, 0, 0), [], []),
  (30, .getfield 53, 3, (3, 7, 0), [], [339]),
  (33, .aload_n 0, 1, (0, 0, 0), [], []),
  (34, .getfield 25, 3, (3, 9, 2), [], [341]),
  (37, .iload_n 1, 1, (0, 0, 0), [], []),
  (38, .iaload, 1, (0, 0, 0), [], []),
  (39, .iadd, 1, (0, 0, 0), [], []),
  (40, .putfield 53, 3, (3, 7, 0), [], [339]),
  (43, .return_, 1, (0, 0, 0), [], [])]
/-- 73: X3_buildFromPot -/
def am_t73 : List am_E := [(0, .iconst 0, 1, (0, 0, 0), [], []),
  (1, .istore_n 1, 1, (0, 0, 0), [], []),
  (2, .iload_n 1, 1, (0, 0, 0), [], []),
  (3, .bipush 12, 2, (0, 0, 0), [], []),
  (5, .if_icmp .ge 40, 3, (45, 0, 0), [], []),
  (8, .aload_n 0, 1, (0, 0, 0), [], []),
  (9, .invokevirtual 153, 3, (0, 74, 3), [], [693, 73, 695, 18]),
  (12, .istore_n 2, 1, (0, 0, 0), [], []),
  (13, .iload_n 2, 1, (0, 0, 0), [], []),
  (14, .iconst (-1), 1, (0, 0, 0), [], []),
  (15, .if_icmp .ne 4, 3, (19, 0, 0), [], []),
  (18, .return_, 1, (0, 0, 0), [], []),
  (19, .aload_n 0, 1, (0, 0, 0), [], []),
  (20, .dup, 1, (0, 0, 0), [], []),
  (21, .getfield 50, 3, (3, 6, 0), [], [338]),
  (24, .aload_n 0, 1, (0, 0, 0), [], []),
  (25, .getfield 25, 3, (3, 9, 2), [], [341]),
  (28, .iload_n 2, 1, (0, 0, 0), [], []),
  (29, .iaload, 1, (0, 0, 0), [], []),
  (30, .isub, 1, (0, 0, 0), [], []),
  (31, .putfield 50, 3, (3, 6, 0), [], [338]),
  (34, .aload_n 0, 1, (0, 0, 0), [], []),
  (35, .iload_n 2, 1, (0, 0, 0), [], []),
  (36, .invokevirtual 149, 3, (0, 72, 3), [], [685, 73, 687, 16]),
  (39, .iinc 1 1, 3, (0, 0, 0), [], []),
  (42, .goto (-40), 3, (2, 0, 0), [], []),
  (45, .return_, 1, (0, 0, 0), [], [])]
/-- 74: X3_bestForPot -/
def am_t74 : List am_E := [(0, .iconst (-1), 1, (0, 0, 0), [], []),
  (1, .istore_n 1, 1, (0, 0, 0), [], []),
  (2, .iconst 0, 1, (0, 0, 0), [], []),
  (3, .istore_n 2, 1, (0, 0, 0), [], []),
  (4, .iload_n 2, 1, (0, 0, 0), [], []),
  (5, .aload_n 0, 1, (0, 0, 0), [], []),
  (6, .getfield 40, 3, (3, 5, 2), [], [337]),
  (9, .getfield 74, 3, (4, 1, 0), [], [102]),
  (12, .if_icmp .ge 54, 3, (66, 0, 0), [], []),
  (15, .aload_n 0, 1, (0, 0, 0), [], []),
  (16, .iload_n 2, 1, (0, 0, 0), [], []),
  (17, .invokevirtual 146, 3, (0, 70, 3), [], [645, 73, 647, 13]),
  (20, .ifCond .eq 40, 3, (60, 0, 0), [], []),
  (23, .aload_n 0, 1, (0, 0, 0), [], []),
  (24, .getfield 25, 3, (3, 9, 2), [], [341]),
  (27, .iload_n 2, 1, (0, 0, 0), [], []),
  (28, .iaload, 1, (0, 0, 0), [], []),
  (29, .aload_n 0, 1, (0, 0, 0), [], []),
  (30, .getfield 50, 3, (3, 6, 0), [], [338]),
  (33, .if_icmp .gt 27, 3, (60, 0, 0), [], []),
  (36, .iload_n 1, 1, (0, 0, 0), [], []),
  (37, .iconst (-1), 1, (0, 0, 0), [], []),
  (38, .if_icmp .eq 12, 3, (50, 0, 0), [], []),
  (41, .aload_n 0, 1, (0, 0, 0), [], []),
  (42, .iload_n 2, 1, (0, 0, 0), [], []),
  (43, .iload_n 1, 1, (0, 0, 0), [], []),
  (44, .invokevirtual 156, 3, (0, 75, 3), [], [697, 73, 699, 19]),
  (47, .ifCond .eq 13, 3, (60, 0, 0), [], []),
  (50, .aload_n 0, 1, (0, 0, 0), [], []),
  (51, .iload_n 2, 1, (0, 0, 0), [], []),
  (52, .invokevirtual 94, 3, (0, 77, 3), [], [542, 73, 544, 5]),
  (55, .ifCond .ne 5, 3, (60, 0, 0), [], []),
  (58, .iload_n 2, 1, (0, 0, 0), [], []),
  (59, .istore_n 1, 1, (0, 0, 0), [], []),
  (60, .iinc 2 1, 3, (0, 0, 0), [], []),
  (63, .goto (-59), 3, (4, 0, 0), [], []),
  (66, .iload_n 1, 1, (0, 0, 0), [], []),
  (67, .ireturn, 1, (0, 0, 0), [], [])]
/-- 75: X3_isBetterForPot -/
def am_t75 : List am_E := [(0, .aload_n 0, 1, (0, 0, 0), [], []),
  (1, .iload_n 1, 1, (0, 0, 0), [], []),
  (2, .invokevirtual 90, 3, (0, 60, 3), [], [532, 73, 534, 4]),
  (5, .aload_n 0, 1, (0, 0, 0), [], []),
  (6, .iload_n 2, 1, (0, 0, 0), [], []),
  (7, .invokevirtual 90, 3, (0, 60, 3), [], [532, 73, 534, 4]),
  (10, .if_icmp .eq 22, 3, (32, 0, 0), [], []),
  (13, .aload_n 0, 1, (0, 0, 0), [], []),
  (14, .iload_n 1, 1, (0, 0, 0), [], []),
  (15, .invokevirtual 90, 3, (0, 60, 3), [], [532, 73, 534, 4]),
  (18, .aload_n 0, 1, (0, 0, 0), [], []),
  (19, .iload_n 2, 1, (0, 0, 0), [], []),
  (20, .invokevirtual 90, 3, (0, 60, 3), [], [532, 73, 534, 4]),
  (23, .if_icmp .le 7, 3, (30, 0, 0), [], []),
  (26, .iconst 1, 1, (0, 0, 0), [], []),
  (27, .goto 4, 3, (31, 0, 0), [], []),
  (30, .iconst 0, 1, (0, 0, 0), [], []),
  (31, .ireturn, 1, (1, 0, 0), [], []),
  (32, .aload_n 0, 1, (0, 0, 0), [], []),
  (33, .getfield 25, 3, (3, 9, 2), [], [341]),
  (36, .iload_n 1, 1, (0, 0, 0), [], []),
  (37, .iaload, 1, (0, 0, 0), [], []),
  (38, .aload_n 0, 1, (0, 0, 0), [], []),
  (39, .getfield 25, 3, (3, 9, 2), [], [341]),
  (42, .iload_n 2, 1, (0, 0, 0), [], []),
  (43, .iaload, 1, (0, 0, 0), [], []),
  (44, .if_icmp .ge 7, 3, (51, 0, 0), [], []),
  (47, .iconst 1, 1, (0, 0, 0), [], []),
  (48, .goto 4, 3, (52, 0, 0), [], []),
  (51, .iconst 0, 1, (0, 0, 0), [], []),
  (52, .ireturn, 1, (1, 0, 0), [], [])]
/-- 76: X3_grow -/
def am_t76 : List am_E := [(0, .iconst 0, 1, (0, 0, 0), [], []),
  (1, .istore_n 1, 1, (0, 0, 0), [], []),
  (2, .iload_n 1, 1, (0, 0, 0), [], []),
  (3, .aload_n 0, 1, (0, 0, 0), [], []),
  (4, .getfield 40, 3, (3, 5, 2), [], [337]),
  (7, .getfield 74, 3, (4, 1, 0), [], [102]),
  (10, .if_icmp .ge 57, 3, (67, 0, 0), [], []),
  (13, .aload_n 0, 1, (0, 0, 0), [], []),
  (14, .iload_n 1, 1, (0, 0, 0), [], []),
  (15, .invokevirtual 77, 3, (0, 58, 3), [], [496, 73, 497, 498]),
  (18, .ifCond .eq 43, 3, (61, 0, 0), [], []),
  (21, .aload_n 0, 1, (0, 0, 0), [], []),
  (22, .getfield 25, 3, (3, 9, 2), [], [341]),
  (25, .iload_n 1, 1, (0, 0, 0), [], []),
  (26, .iaload, 1, (0, 0, 0), [], []),
  (27, .aload_n 0, 1, (0, 0, 0), [], []),
  (28, .getfield 40, 3, (3, 5, 2), [], [337]),
  (31, .getfield 87, 3, (4, 9, 2), [], [129]),
  (34, .iload_n 1, 1, (0, 0, 0), [], []),
  (35, .iaload, 1, (0, 0, 0), [], []),
  (36, .imul, 1, (0, 0, 0), [], []),
  (37, .bipush 100, 2, (0, 0, 0), [], []),
  (39, .idiv, 1, (0, 0, 0), [], []),
  (40, .istore_n 2, 1, (0, 0, 0), [], []),
  (41, .aload_n 0, 1, (0, 0, 0), [], []),
  (42, .getfield 25, 3, (3, 9, 2), [], [341]),
  (45, .iload_n 1, 1, (0, 0, 0), [], []),
  (46, .sipush 9999, 3, (0, 0, 0), [], []),
  (49, .aload_n 0, 1, (0, 0, 0), [], []),
  (50, .getfield 25, 3, (3, 9, 2), [], [341]),
  (53, .iload_n 1, 1, (0, 0, 0), [], []),
  (54, .iaload, 1, (0, 0, 0), [], []),
  (55, .iload_n 2, 1, (0, 0, 0), [], []),
  (56, .iadd, 1, (0, 0, 0), [], []),
  (57, .invokestatic 115, 3, (7, 0, 0), [], [579, 580, 61, 581]),
  (60, .iastore, 1, (0, 0, 0), [], []),
  (61, .iinc 1 1, 3, (0, 0, 0), [], []),
  (64, .goto (-62), 3, (2, 0, 0), [], []),
  (67, .return_, 1, (0, 0, 0), [], [])]
/-- 77: X3_isBanned -/
def am_t77 : List am_E := [(0, .iconst 0, 1, (0, 0, 0), [], []),
  (1, .istore_n 2, 1, (0, 0, 0), [], []),
  (2, .iload_n 2, 1, (0, 0, 0), [], []),
  (3, .aload_n 0, 1, (0, 0, 0), [], []),
  (4, .getfield 40, 3, (3, 5, 2), [], [337]),
  (7, .getfield 159, 3, (4, 3, 0), [], [111]),
  (10, .if_icmp .ge 40, 3, (50, 0, 0), [], []),
  (13, .aload_n 0, 1, (0, 0, 0), [], []),
  (14, .getfield 40, 3, (3, 5, 2), [], [337]),
  (17, .getfield 162, 3, (4, 11, 2), [], [135]),
  (20, .iload_n 2, 1, (0, 0, 0), [], []),
  (21, .iaload, 1, (0, 0, 0), [], []),
  (22, .iload_n 1, 1, (0, 0, 0), [], []),
  (23, .if_icmp .ne 21, 3, (44, 0, 0), [], []),
  (26, .aload_n 0, 1, (0, 0, 0), [], []),
  (27, .aload_n 0, 1, (0, 0, 0), [], []),
  (28, .getfield 40, 3, (3, 5, 2), [], [337]),
  (31, .getfield 165, 3, (4, 12, 2), [], [138]),
  (34, .iload_n 2, 1, (0, 0, 0), [], []),
  (35, .iaload, 1, (0, 0, 0), [], []),
  (36, .invokevirtual 168, 3, (0, 78, 3), [], [546, 73, 548, 6]),
  (39, .ifCond .eq 5, 3, (44, 0, 0), [], []),
  (42, .iconst 1, 1, (0, 0, 0), [], []),
  (43, .ireturn, 1, (1, 0, 0), [], []),
  (44, .iinc 2 1, 3, (0, 0, 0), [], []),
  (47, .goto (-45), 3, (2, 0, 0), [], []),
  (50, .iconst 0, 1, (0, 0, 0), [], []),
  (51, .ireturn, 1, (1, 0, 0), [], [])]
/-- 78: X3_holds -/
def am_t78_0 : List am_E := [(0, .aload_n 0, 1, (0, 0, 0), [], []),
  (1, .iconst 0, 1, (0, 0, 0), [], []),
  (2, .putfield 171, 3, (3, 14, 0), [], [346]),
  (5, .iload_n 1, 1, (0, 0, 0), [], []),
  (6, .istore_n 2, 1, (0, 0, 0), [], []),
  (7, .iload_n 2, 1, (0, 0, 0), [], []),
  (8, .ifCond .lt 143, 3, (151, 0, 0), [], []),
  (11, .iload_n 2, 1, (0, 0, 0), [], []),
  (12, .aload_n 0, 1, (0, 0, 0), [], []),
  (13, .getfield 40, 3, (3, 5, 2), [], [337]),
  (16, .getfield 174, 3, (4, 5, 0), [], [117]),
  (19, .if_icmp .ge 132, 3, (151, 0, 0), [], []),
  (22, .aload_n 0, 1, (0, 0, 0), [], []),
  (23, .getfield 40, 3, (3, 5, 2), [], [337]),
  (26, .getfield 177, 3, (4, 13, 2), [], [141]),
  (29, .iload_n 2, 1, (0, 0, 0), [], []),
  (30, .iaload, 1, (0, 0, 0), [], []),
  (31, .istore_n 3, 1, (0, 0, 0), [], []),
  (32, .iload_n 3, 1, (0, 0, 0), [], []),
  (33, .ifCond .ne 6, 3, (39, 0, 0), [], []),
  (36, .goto 115, 3, (151, 0, 0), [], []),
  (39, .iload_n 3, 1, (0, 0, 0), [], []),
  (40, .bipush 10, 2, (0, 0, 0), [], []),
  (42, .if_icmp .ne 16, 3, (58, 0, 0), [], []),
  (45, .aload_n 0, 1, (0, 0, 0), [], []),
  (46, .iconst 1, 1, (0, 0, 0), [], []),
  (47, .aload_n 0, 1, (0, 0, 0), [], []),
  (48, .invokevirtual 182, 3, (0, 80, 3), [], [550, 73, 552, 7]),
  (51, .isub, 1, (0, 0, 0), [], []),
  (52, .invokevirtual 185, 3, (0, 79, 3), [], [554, 73, 556, 8]),
  (55, .goto 90, 3, (145, 0, 0), [], []),
  (58, .iload_n 3, 1, (0, 0, 0), [], []),
  (59, .bipush 9, 2, (0, 0, 0), [], []),
  (61, .if_icmp .ne 15, 3, (76, 0, 0), [], []),
  (64, .aload_n 0, 1, (0, 0, 0), [], []),
  (65, .aload_n 0, 1, (0, 0, 0), [], []),
  (66, .invokevirtual 182, 3, (0, 80, 3), [], [550, 73, 552, 7]),
  (69, .ineg, 1, (0, 0, 0), [], []),
  (70, .invokevirtual 185, 3, (0, 79, 3), [], [554, 73, 556, 8]),
  (73, .goto 72, 3, (145, 0, 0), [], []),
  (76, .iload_n 3, 1, (0, 0, 0), [], []),
  (77, .bipush 10, 2, (0, 0, 0), [], []),
  (79, .if_icmp .ge 24, 3, (103, 0, 0), [], []),
  (82, .aload_n 0, 1, (0, 0, 0), [], []),
  (83, .aload_n 0, 1, (0, 0, 0), [], []),
  (84, .iload_n 3, 1, (0, 0, 0), [], []),
  (85, .aload_n 0, 1, (0, 0, 0), [], []),
  (86, .getfield 40, 3, (3, 5, 2), [], [337]),
  (89, .getfield 188, 3, (4, 14, 2), [], [145]),
  (92, .iload_n 2, 1, (0, 0, 0), [], []),
  (93, .iaload, 1, (0, 0, 0), [], []),
  (94, .invokevirtual 191, 3, (0, 81, 3), [], [558, 73, 560, 9]),
  (97, .invokevirtual 185, 3, (0, 79, 3), [], [554, 73, 556, 8]),
  (100, .goto 45, 3, (145, 0, 0), [], []),
  (103, .aload_n 0, 1, (0, 0, 0), [], []),
  (104, .invokevirtual 182, 3, (0, 80, 3), [], [550, 73, 552, 7]),
  (107, .istore 4, 2, (0, 0, 0), [], []),
  (109, .aload_n 0, 1, (0, 0, 0), [], []),
  (110, .invokevirtual 182, 3, (0, 80, 3), [], [550, 73, 552, 7]),
  (113, .istore 5, 2, (0, 0, 0), [], [])]
def am_t78_1 : List am_E := [(115, .aload_n 0, 1, (0, 0, 0), [], []),
  (116, .iload_n 3, 1, (0, 0, 0), [], []),
  (117, .bipush 18, 2, (0, 0, 0), [], []),
  (119, .if_icmp .ge 15, 3, (134, 0, 0), [], []),
  (122, .aload_n 0, 1, (0, 0, 0), [], []),
  (123, .iload_n 3, 1, (0, 0, 0), [], []),
  (124, .iload 5, 2, (0, 0, 0), [], []),
  (126, .iload 4, 2, (0, 0, 0), [], []),
  (128, .invokevirtual 194, 3, (0, 82, 3), [], [571, 73, 573, 10]),
  (131, .goto 11, 3, (142, 0, 0), [], []),
  (134, .iload_n 3, 1, (0, 0, 0), [], []),
  (135, .iload 5, 2, (0, 0, 0), [], []),
  (137, .iload 4, 2, (0, 0, 0), [], []),
  (139, .invokestatic 198, 3, (2, 83, 0), [], [585, 73, 586]),
  (142, .invokevirtual 185, 3, (0, 79, 3), [], [554, 73, 556, 8]),
  (145, .iinc 2 1, 3, (0, 0, 0), [], []),
  (148, .goto (-141), 3, (7, 0, 0), [], []),
  (151, .aload_n 0, 1, (0, 0, 0), [], []),
  (152, .invokevirtual 182, 3, (0, 80, 3), [], [550, 73, 552, 7]),
  (155, .ifCond .eq 7, 3, (162, 0, 0), [], []),
  (158, .iconst 1, 1, (0, 0, 0), [], []),
  (159, .goto 4, 3, (163, 0, 0), [], []),
  (162, .iconst 0, 1, (0, 0, 0), [], []),
  (163, .ireturn, 1, (1, 0, 0), [], [])]
def am_t78 : List am_E := am_t78_0 ++ (am_t78_1)
/-- 79: X3_push -/
def am_t79 : List am_E := [(0, .aload_n 0, 1, (0, 0, 0), [], []),
  (1, .getfield 171, 3, (3, 14, 0), [], [346]),
  (4, .aload_n 0, 1, (0, 0, 0), [], []),
  (5, .getfield 37, 3, (3, 13, 2), [], [345]),
  (8, .arraylength, 1, (0, 0, 0), [], []),
  (9, .if_icmp .ge 23, 3, (32, 0, 0), [], []),
  (12, .aload_n 0, 1, (0, 0, 0), [], []),
  (13, .getfield 37, 3, (3, 13, 2), [], [345]),
  (16, .aload_n 0, 1, (0, 0, 0), [], []),
  (17, .getfield 171, 3, (3, 14, 0), [], [346]),
  (20, .iload_n 1, 1, (0, 0, 0), [], []),
  (21, .iastore, 1, (0, 0, 0), [], []),
  (22, .aload_n 0, 1, (0, 0, 0), [], []),
  (23, .dup, 1, (0, 0, 0), [], []),
  (24, .getfield 171, 3, (3, 14, 0), [], [346]),
  (27, .iconst 1, 1, (0, 0, 0), [], []),
  (28, .iadd, 1, (0, 0, 0), [], []),
  (29, .putfield 171, 3, (3, 14, 0), [], [346]),
  (32, .return_, 1, (0, 0, 0), [], [])]
/-- 80: X3_pop -/
def am_t80 : List am_E := [(0, .aload_n 0, 1, (0, 0, 0), [], []),
  (1, .getfield 171, 3, (3, 14, 0), [], [346]),
  (4, .ifCond .ne 5, 3, (9, 0, 0), [], []),
  (7, .iconst 0, 1, (0, 0, 0), [], []),
  (8, .ireturn, 1, (0, 0, 0), [], []),
  (9, .aload_n 0, 1, (0, 0, 0), [], []),
  (10, .dup, 1, (0, 0, 0), [], []),
  (11, .getfield 171, 3, (3, 14, 0), [], [346]),
  (14, .iconst 1, 1, (0, 0, 0), [], []),
  (15, .isub, 1, (0, 0, 0), [], []),
  (16, .putfield 171, 3, (3, 14, 0), [], [346]),
  (19, .aload_n 0, 1, (0, 0, 0), [], []),
  (20, .getfield 37, 3, (3, 13, 2), [], [345]),
  (23, .aload_n 0, 1, (0, 0, 0), [], []),
  (24, .getfield 171, 3, (3, 14, 0), [], [346]),
  (27, .iaload, 1, (0, 0, 0), [], []),
  (28, .ireturn, 1, (0, 0, 0), [], [])]
/-- 81: X3_single -/
def am_t81_0 : List am_E := [(0, .iload_n 1, 1, (0, 0, 0), [], []),
  (1, .tableswitch 168 2 8 #[43, 48, 53, 75, 100, 122, 143], 43, (169, 0, 0), [(2, 44), (3, 49), (4, 54), (5, 76), (6, 101), (7, 123), (8, 144)], []),
  (44, .aload_n 0, 1, (0, 0, 0), [], []),
  (45, .getfield 58, 3, (3, 0, 0), [], [327]),
  (48, .ireturn, 1, (0, 0, 0), [], []),
  (49, .aload_n 0, 1, (0, 0, 0), [], []),
  (50, .getfield 50, 3, (3, 6, 0), [], [338]),
  (53, .ireturn, 1, (0, 0, 0), [], []),
  (54, .aload_n 0, 1, (0, 0, 0), [], []),
  (55, .getfield 40, 3, (3, 5, 2), [], [337]),
  (58, .iload_n 2, 1, (0, 0, 0), [], []),
  (59, .invokevirtual 201, 3, (0, 87, 4), [], [562, 69, 523, 524]),
  (62, .ifCond .eq 12, 3, (74, 0, 0), [], []),
  (65, .aload_n 0, 1, (0, 0, 0), [], []),
  (66, .getfield 25, 3, (3, 9, 2), [], [341]),
  (69, .iload_n 2, 1, (0, 0, 0), [], []),
  (70, .iaload, 1, (0, 0, 0), [], []),
  (71, .goto 4, 3, (75, 0, 0), [], []),
  (74, .iconst 0, 1, (0, 0, 0), [], []),
  (75, .ireturn, 1, (0, 0, 0), [], []),
  (76, .aload_n 0, 1, (0, 0, 0), [], []),
  (77, .getfield 40, 3, (3, 5, 2), [], [337]),
  (80, .iload_n 2, 1, (0, 0, 0), [], []),
  (81, .invokevirtual 201, 3, (0, 87, 4), [], [562, 69, 523, 524]),
  (84, .ifCond .eq 15, 3, (99, 0, 0), [], []),
  (87, .aload_n 0, 1, (0, 0, 0), [], []),
  (88, .getfield 28, 3, (3, 10, 2), [], [342]),
  (91, .iload_n 2, 1, (0, 0, 0), [], []),
  (92, .iaload, 1, (0, 0, 0), [], []),
  (93, .invokestatic 110, 3, (2, 12, 0), [], [536, 67, 537]),
  (96, .goto 4, 3, (100, 0, 0), [], []),
  (99, .iconst 0, 1, (0, 0, 0), [], []),
  (100, .ireturn, 1, (0, 0, 0), [], []),
  (101, .aload_n 0, 1, (0, 0, 0), [], []),
  (102, .getfield 40, 3, (3, 5, 2), [], [337]),
  (105, .iload_n 2, 1, (0, 0, 0), [], []),
  (106, .invokevirtual 204, 3, (0, 88, 4), [], [563, 69, 564, 565]),
  (109, .ifCond .eq 12, 3, (121, 0, 0), [], []),
  (112, .aload_n 0, 1, (0, 0, 0), [], []),
  (113, .getfield 15, 3, (3, 3, 2), [], [333]),
  (116, .iload_n 2, 1, (0, 0, 0), [], []),
  (117, .iaload, 1, (0, 0, 0), [], []),
  (118, .goto 4, 3, (122, 0, 0), [], []),
  (121, .iconst 0, 1, (0, 0, 0), [], []),
  (122, .ireturn, 1, (0, 0, 0), [], []),
  (123, .aload_n 0, 1, (0, 0, 0), [], []),
  (124, .getfield 40, 3, (3, 5, 2), [], [337]),
  (127, .iload_n 2, 1, (0, 0, 0), [], []),
  (128, .invokevirtual 204, 3, (0, 88, 4), [], [563, 69, 564, 565]),
  (131, .ifCond .eq 11, 3, (142, 0, 0), [], []),
  (134, .aload_n 0, 1, (0, 0, 0), [], []),
  (135, .iload_n 2, 1, (0, 0, 0), [], []),
  (136, .invokevirtual 103, 3, (0, 57, 3), [], [567, 73, 568, 569]),
  (139, .goto 4, 3, (143, 0, 0), [], []),
  (142, .iconst 0, 1, (0, 0, 0), [], []),
  (143, .ireturn, 1, (0, 0, 0), [], []),
  (144, .aload_n 0, 1, (0, 0, 0), [], []),
  (145, .getfield 40, 3, (3, 5, 2), [], [337]),
  (148, .iload_n 2, 1, (0, 0, 0), [], []),
  (149, .invokevirtual 201, 3, (0, 87, 4), [], [562, 69, 523, 524])]
def am_t81_1 : List am_E := [(152, .ifCond .eq 15, 3, (167, 0, 0), [], []),
  (155, .aload_n 0, 1, (0, 0, 0), [], []),
  (156, .iload_n 2, 1, (0, 0, 0), [], []),
  (157, .invokevirtual 77, 3, (0, 58, 3), [], [496, 73, 497, 498]),
  (160, .ifCond .ne 7, 3, (167, 0, 0), [], []),
  (163, .iconst 1, 1, (0, 0, 0), [], []),
  (164, .goto 4, 3, (168, 0, 0), [], []),
  (167, .iconst 0, 1, (0, 0, 0), [], []),
  (168, .ireturn, 1, (0, 0, 0), [], []),
  (169, .iload_n 2, 1, (0, 0, 0), [], []),
  (170, .ireturn, 1, (0, 0, 0), [], [])]
def am_t81 : List am_E := am_t81_0 ++ (am_t81_1)
/-- 82: X3_reckon -/
def am_t82 : List am_E := [(0, .iload_n 1, 1, (0, 0, 0), [], []),
  (1, .tableswitch 95 11 16 #[39, 65, 69, 73, 77, 89], 39, (96, 0, 0), [(11, 40), (12, 66), (13, 70), (14, 74), (15, 78), (16, 90)], []),
  (40, .aload_n 0, 1, (0, 0, 0), [], []),
  (41, .getfield 40, 3, (3, 5, 2), [], [337]),
  (44, .iload_n 3, 1, (0, 0, 0), [], []),
  (45, .invokevirtual 201, 3, (0, 87, 4), [], [562, 69, 523, 524]),
  (48, .ifCond .eq 16, 3, (64, 0, 0), [], []),
  (51, .aload_n 0, 1, (0, 0, 0), [], []),
  (52, .iload_n 2, 1, (0, 0, 0), [], []),
  (53, .iload_n 3, 1, (0, 0, 0), [], []),
  (54, .invokevirtual 106, 3, (0, 59, 3), [], [575, 73, 576, 577]),
  (57, .ifCond .eq 7, 3, (64, 0, 0), [], []),
  (60, .iconst 1, 1, (0, 0, 0), [], []),
  (61, .goto 4, 3, (65, 0, 0), [], []),
  (64, .iconst 0, 1, (0, 0, 0), [], []),
  (65, .ireturn, 1, (0, 0, 0), [], []),
  (66, .iload_n 2, 1, (0, 0, 0), [], []),
  (67, .iload_n 3, 1, (0, 0, 0), [], []),
  (68, .iadd, 1, (0, 0, 0), [], []),
  (69, .ireturn, 1, (0, 0, 0), [], []),
  (70, .iload_n 2, 1, (0, 0, 0), [], []),
  (71, .iload_n 3, 1, (0, 0, 0), [], []),
  (72, .isub, 1, (0, 0, 0), [], []),
  (73, .ireturn, 1, (0, 0, 0), [], []),
  (74, .iload_n 2, 1, (0, 0, 0), [], []),
  (75, .iload_n 3, 1, (0, 0, 0), [], []),
  (76, .imul, 1, (0, 0, 0), [], []),
  (77, .ireturn, 1, (0, 0, 0), [], []),
  (78, .iload_n 3, 1, (0, 0, 0), [], []),
  (79, .ifCond .ne 7, 3, (86, 0, 0), [], []),
  (82, .iconst 0, 1, (0, 0, 0), [], []),
  (83, .goto 6, 3, (89, 0, 0), [], []),
  (86, .iload_n 2, 1, (0, 0, 0), [], []),
  (87, .iload_n 3, 1, (0, 0, 0), [], []),
  (88, .idiv, 1, (0, 0, 0), [], []),
  (89, .ireturn, 1, (0, 0, 0), [], []),
  (90, .iload_n 2, 1, (0, 0, 0), [], []),
  (91, .iload_n 3, 1, (0, 0, 0), [], []),
  (92, .invokestatic 115, 3, (7, 0, 0), [], [579, 580, 61, 581]),
  (95, .ireturn, 1, (0, 0, 0), [], []),
  (96, .iload_n 2, 1, (0, 0, 0), [], []),
  (97, .iload_n 3, 1, (0, 0, 0), [], []),
  (98, .invokestatic 207, 3, (8, 0, 8), [], [582, 583, 61, 584]),
  (101, .ireturn, 1, (0, 0, 0), [], [])]
/-- 83: X3_compare -/
def am_t83_0 : List am_E := [(0, .iload_n 0, 1, (0, 0, 0), [], []),
  (1, .tableswitch 124 18 23 #[39, 53, 67, 81, 95, 109], 39, (125, 0, 0), [(18, 40), (19, 54), (20, 68), (21, 82), (22, 96), (23, 110)], []),
  (40, .iload_n 1, 1, (0, 0, 0), [], []),
  (41, .iload_n 2, 1, (0, 0, 0), [], []),
  (42, .if_icmp .ge 7, 3, (49, 0, 0), [], []),
  (45, .iconst 1, 1, (0, 0, 0), [], []),
  (46, .goto 4, 3, (50, 0, 0), [], []),
  (49, .iconst 0, 1, (0, 0, 0), [], []),
  (50, .istore_n 3, 1, (0, 0, 0), [], []),
  (51, .goto 86, 3, (137, 0, 0), [], []),
  (54, .iload_n 1, 1, (0, 0, 0), [], []),
  (55, .iload_n 2, 1, (0, 0, 0), [], []),
  (56, .if_icmp .le 7, 3, (63, 0, 0), [], []),
  (59, .iconst 1, 1, (0, 0, 0), [], []),
  (60, .goto 4, 3, (64, 0, 0), [], []),
  (63, .iconst 0, 1, (0, 0, 0), [], []),
  (64, .istore_n 3, 1, (0, 0, 0), [], []),
  (65, .goto 72, 3, (137, 0, 0), [], []),
  (68, .iload_n 1, 1, (0, 0, 0), [], []),
  (69, .iload_n 2, 1, (0, 0, 0), [], []),
  (70, .if_icmp .ne 7, 3, (77, 0, 0), [], []),
  (73, .iconst 1, 1, (0, 0, 0), [], []),
  (74, .goto 4, 3, (78, 0, 0), [], []),
  (77, .iconst 0, 1, (0, 0, 0), [], []),
  (78, .istore_n 3, 1, (0, 0, 0), [], []),
  (79, .goto 58, 3, (137, 0, 0), [], []),
  (82, .iload_n 1, 1, (0, 0, 0), [], []),
  (83, .iload_n 2, 1, (0, 0, 0), [], []),
  (84, .if_icmp .gt 7, 3, (91, 0, 0), [], []),
  (87, .iconst 1, 1, (0, 0, 0), [], []),
  (88, .goto 4, 3, (92, 0, 0), [], []),
  (91, .iconst 0, 1, (0, 0, 0), [], []),
  (92, .istore_n 3, 1, (0, 0, 0), [], []),
  (93, .goto 44, 3, (137, 0, 0), [], []),
  (96, .iload_n 1, 1, (0, 0, 0), [], []),
  (97, .iload_n 2, 1, (0, 0, 0), [], []),
  (98, .if_icmp .lt 7, 3, (105, 0, 0), [], []),
  (101, .iconst 1, 1, (0, 0, 0), [], []),
  (102, .goto 4, 3, (106, 0, 0), [], []),
  (105, .iconst 0, 1, (0, 0, 0), [], []),
  (106, .istore_n 3, 1, (0, 0, 0), [], []),
  (107, .goto 30, 3, (137, 0, 0), [], []),
  (110, .iload_n 1, 1, (0, 0, 0), [], []),
  (111, .iload_n 2, 1, (0, 0, 0), [], []),
  (112, .iand, 1, (0, 0, 0), [], []),
  (113, .ifCond .eq 7, 3, (120, 0, 0), [], []),
  (116, .iconst 1, 1, (0, 0, 0), [], []),
  (117, .goto 4, 3, (121, 0, 0), [], []),
  (120, .iconst 0, 1, (0, 0, 0), [], []),
  (121, .istore_n 3, 1, (0, 0, 0), [], []),
  (122, .goto 15, 3, (137, 0, 0), [], []),
  (125, .iload_n 1, 1, (0, 0, 0), [], []),
  (126, .iload_n 2, 1, (0, 0, 0), [], []),
  (127, .ior, 1, (0, 0, 0), [], []),
  (128, .ifCond .eq 7, 3, (135, 0, 0), [], []),
  (131, .iconst 1, 1, (0, 0, 0), [], []),
  (132, .goto 4, 3, (136, 0, 0), [], []),
  (135, .iconst 0, 1, (0, 0, 0), [], []),
  (136, .istore_n 3, 1, (0, 0, 0), [], []),
  (137, .iload_n 3, 1, (0, 0, 0), [], [])]
def am_t83_1 : List am_E := [(138, .ifCond .eq 7, 3, (145, 0, 0), [], []),
  (141, .iconst 1, 1, (0, 0, 0), [], []),
  (142, .goto 4, 3, (146, 0, 0), [], []),
  (145, .iconst 0, 1, (0, 0, 0), [], []),
  (146, .ireturn, 1, (0, 0, 0), [], [])]
def am_t83 : List am_E := am_t83_0 ++ (am_t83_1)
/-- 84: X4_init -/
def am_t84 : List am_E := [(0, .aload_n 0, 1, (0, 0, 0), [], []),
  (1, .invokespecial 3, 3, (6, 0, 0), [], [96, 89, 90]),
  (4, .aload_n 0, 1, (0, 0, 0), [], []),
  (5, .bipush 100, 2, (0, 0, 0), [], []),
  (7, .putfield 9, 3, (4, 4, 0), [], [112]),
  (10, .aload_n 0, 1, (0, 0, 0), [], []),
  (11, .iconst 4, 1, (0, 0, 0), [], []),
  (12, .newarray .int, 2, (20, 0, 0), [], [178]),
  (14, .putfield 15, 3, (4, 6, 2), [], [118]),
  (17, .aload_n 0, 1, (0, 0, 0), [], []),
  (18, .bipush 12, 2, (0, 0, 0), [], []),
  (20, .newarray .int, 2, (20, 0, 0), [], [178]),
  (22, .putfield 19, 3, (4, 7, 2), [], [121]),
  (25, .aload_n 0, 1, (0, 0, 0), [], []),
  (26, .bipush 12, 2, (0, 0, 0), [], []),
  (28, .newarray .int, 2, (20, 0, 0), [], [178]),
  (30, .putfield 22, 3, (4, 8, 2), [], [124]),
  (33, .aload_n 0, 1, (0, 0, 0), [], []),
  (34, .bipush 12, 2, (0, 0, 0), [], []),
  (36, .newarray .int, 2, (20, 0, 0), [], [178]),
  (38, .putfield 25, 3, (4, 9, 2), [], [127]),
  (41, .aload_n 0, 1, (0, 0, 0), [], []),
  (42, .bipush 12, 2, (0, 0, 0), [], []),
  (44, .newarray .int, 2, (20, 0, 0), [], [178]),
  (46, .putfield 28, 3, (4, 10, 2), [], [130]),
  (49, .aload_n 0, 1, (0, 0, 0), [], []),
  (50, .bipush 12, 2, (0, 0, 0), [], []),
  (52, .newarray .int, 2, (20, 0, 0), [], [178]),
  (54, .putfield 31, 3, (4, 11, 2), [], [133]),
  (57, .aload_n 0, 1, (0, 0, 0), [], []),
  (58, .bipush 12, 2, (0, 0, 0), [], []),
  (60, .newarray .int, 2, (20, 0, 0), [], [178]),
  (62, .putfield 34, 3, (4, 12, 2), [], [136]),
  (65, .aload_n 0, 1, (0, 0, 0), [], []),
  (66, .sipush 400, 3, (0, 0, 0), [], []),
  (69, .newarray .int, 2, (20, 0, 0), [], [178]),
  (71, .putfield 37, 3, (4, 13, 2), [], [139]),
  (74, .aload_n 0, 1, (0, 0, 0), [], []),
  (75, .sipush 400, 3, (0, 0, 0), [], []),
  (78, .newarray .int, 2, (20, 0, 0), [], [178]),
  (80, .putfield 40, 3, (4, 14, 2), [], [142]),
  (83, .return_, 1, (0, 0, 0), [], [])]
/-- 85: X4_clear -/
def am_t85 : List am_E := [(0, .aload_n 0, 1, (0, 0, 0), [], []),
  (1, .iconst 0, 1, (0, 0, 0), [], []),
  (2, .putfield 43, 3, (4, 0, 0), [], [97]),
  (5, .aload_n 0, 1, (0, 0, 0), [], []),
  (6, .iconst 0, 1, (0, 0, 0), [], []),
  (7, .putfield 46, 3, (4, 1, 0), [], [100]),
  (10, .aload_n 0, 1, (0, 0, 0), [], []),
  (11, .iconst 0, 1, (0, 0, 0), [], []),
  (12, .putfield 49, 3, (4, 2, 0), [], [104]),
  (15, .aload_n 0, 1, (0, 0, 0), [], []),
  (16, .iconst 0, 1, (0, 0, 0), [], []),
  (17, .putfield 52, 3, (4, 3, 0), [], [108]),
  (20, .aload_n 0, 1, (0, 0, 0), [], []),
  (21, .bipush 100, 2, (0, 0, 0), [], []),
  (23, .putfield 9, 3, (4, 4, 0), [], [112]),
  (26, .return_, 1, (0, 0, 0), [], [])]
/-- 86: X4_hasWard -/
def am_t86 : List am_E := [(0, .iload_n 1, 1, (0, 0, 0), [], []),
  (1, .ifCond .lt 15, 3, (16, 0, 0), [], []),
  (4, .iload_n 1, 1, (0, 0, 0), [], []),
  (5, .aload_n 0, 1, (0, 0, 0), [], []),
  (6, .getfield 43, 3, (4, 0, 0), [], [97]),
  (9, .if_icmp .ge 7, 3, (16, 0, 0), [], []),
  (12, .iconst 1, 1, (0, 0, 0), [], []),
  (13, .goto 4, 3, (17, 0, 0), [], []),
  (16, .iconst 0, 1, (0, 0, 0), [], []),
  (17, .ireturn, 1, (1, 0, 0), [], [])]
/-- 87: X4_hasProject -/
def am_t87 : List am_E := [(0, .iload_n 1, 1, (0, 0, 0), [], []),
  (1, .ifCond .lt 15, 3, (16, 0, 0), [], []),
  (4, .iload_n 1, 1, (0, 0, 0), [], []),
  (5, .aload_n 0, 1, (0, 0, 0), [], []),
  (6, .getfield 46, 3, (4, 1, 0), [], [100]),
  (9, .if_icmp .ge 7, 3, (16, 0, 0), [], []),
  (12, .iconst 1, 1, (0, 0, 0), [], []),
  (13, .goto 4, 3, (17, 0, 0), [], []),
  (16, .iconst 0, 1, (0, 0, 0), [], []),
  (17, .ireturn, 1, (1, 0, 0), [], [])]
/-- 88: X4_hasVoter -/
def am_t88 : List am_E := [(0, .iload_n 1, 1, (0, 0, 0), [], []),
  (1, .ifCond .lt 15, 3, (16, 0, 0), [], []),
  (4, .iload_n 1, 1, (0, 0, 0), [], []),
  (5, .aload_n 0, 1, (0, 0, 0), [], []),
  (6, .getfield 49, 3, (4, 2, 0), [], [104]),
  (9, .if_icmp .ge 7, 3, (16, 0, 0), [], []),
  (12, .iconst 1, 1, (0, 0, 0), [], []),
  (13, .goto 4, 3, (17, 0, 0), [], []),
  (16, .iconst 0, 1, (0, 0, 0), [], []),
  (17, .ireturn, 1, (1, 0, 0), [], [])]
/-- 89: X7_init -/
def am_t89 : List am_E := [(0, .aload_n 0, 1, (0, 0, 0), [], []),
  (1, .invokespecial 3, 3, (6, 0, 0), [], [184, 89, 90]),
  (4, .aload_n 0, 1, (0, 0, 0), [], []),
  (5, .sipush 401, 3, (0, 0, 0), [], []),
  (8, .newarray .int, 2, (20, 0, 0), [], [178]),
  (10, .putfield 9, 3, (5, 0, 2), [], [241]),
  (13, .aload_n 0, 1, (0, 0, 0), [], []),
  (14, .sipush 401, 3, (0, 0, 0), [], []),
  (17, .newarray .long, 2, (22, 0, 0), [], [265]),
  (19, .putfield 15, 3, (5, 1, 2), [], [243]),
  (22, .aload_n 0, 1, (0, 0, 0), [], []),
  (23, .sipush 401, 3, (0, 0, 0), [], []),
  (26, .newarray .int, 2, (20, 0, 0), [], [178]),
  (28, .putfield 19, 3, (5, 2, 2), [], [245]),
  (31, .aload_n 0, 1, (0, 0, 0), [], []),
  (32, .bipush 22, 2, (0, 0, 0), [], []),
  (34, .newarray .long, 2, (22, 0, 0), [], [265]),
  (36, .putfield 24, 3, (5, 3, 2), [], [246]),
  (39, .aload_n 0, 1, (0, 0, 0), [], []),
  (40, .aload_n 1, 1, (0, 0, 0), [], []),
  (41, .putfield 27, 3, (5, 4, 2), [], [247]),
  (44, .iconst 0, 1, (0, 0, 0), [], []),
  (45, .istore_n 2, 1, (0, 0, 0), [], []),
  (46, .iconst 0, 1, (0, 0, 0), [], []),
  (47, .istore_n 3, 1, (0, 0, 0), [], []),
  (48, .iload_n 3, 1, (0, 0, 0), [], []),
  (49, .ldc 31, 2, (0, 0, 0), [(0, 5)], [185]),
  (51, .invokevirtual 33, 3, (0, 6, 60), [], [186, 57, 187, 188]),
  (54, .if_icmp .ge 59, 3, (113, 0, 0), [], []),
  (57, .ldc 31, 2, (0, 0, 0), [(0, 5)], [185]),
  (59, .iload_n 3, 1, (0, 0, 0), [], []),
  (60, .invokevirtual 39, 3, (0, 0, 60), [], [196, 57, 197, 198]),
  (63, .istore 4, 2, (0, 0, 0), [], []),
  (65, .iload 4, 2, (0, 0, 0), [], []),
  (67, .bipush 32, 2, (0, 0, 0), [], []),
  (69, .if_icmp .ne 9, 3, (78, 0, 0), [], []),
  (72, .iinc 2 1, 3, (0, 0, 0), [], []),
  (75, .goto 32, 3, (107, 0, 0), [], []),
  (78, .iload_n 2, 1, (0, 0, 0), [], []),
  (79, .bipush 22, 2, (0, 0, 0), [], []),
  (81, .if_icmp .ge 26, 3, (107, 0, 0), [], []),
  (84, .aload_n 0, 1, (0, 0, 0), [], []),
  (85, .getfield 24, 3, (5, 3, 2), [], [246]),
  (88, .iload_n 2, 1, (0, 0, 0), [], []),
  (89, .aload_n 0, 1, (0, 0, 0), [], []),
  (90, .getfield 24, 3, (5, 3, 2), [], [246]),
  (93, .iload_n 2, 1, (0, 0, 0), [], []),
  (94, .laload, 1, (0, 0, 0), [], []),
  (95, .ldc2_w 43, 3, (0, 0, 0), [(37, 1)], [234]),
  (98, .lmul, 1, (0, 0, 0), [], []),
  (99, .iload 4, 2, (0, 0, 0), [], []),
  (101, .invokestatic 45, 3, (2, 100, 0), [], [235, 70, 236]),
  (104, .i2l, 1, (0, 0, 0), [], []),
  (105, .ladd, 1, (0, 0, 0), [], []),
  (106, .lastore, 1, (0, 0, 0), [], []),
  (107, .iinc 3 1, 3, (0, 0, 0), [], []),
  (110, .goto (-62), 3, (48, 0, 0), [], []),
  (113, .return_, 1, (0, 0, 0), [], [])]
/-- 90: X7_cut -/
def am_t90_0 : List am_E := [(0, .aload_n 0, 1, (0, 0, 0), [], []),
  (1, .iload_n 1, 1, (0, 0, 0), [], []),
  (2, .aload_n 0, 1, (0, 0, 0), [], []),
  (3, .getfield 27, 3, (5, 4, 2), [], [247]),
  (6, .arraylength, 1, (0, 0, 0), [], []),
  (7, .invokestatic 49, 3, (7, 0, 0), [], [964, 580, 61, 581]),
  (10, .putfield 55, 3, (5, 5, 0), [], [248]),
  (13, .aload_n 0, 1, (0, 0, 0), [], []),
  (14, .iconst 0, 1, (0, 0, 0), [], []),
  (15, .putfield 58, 3, (5, 6, 0), [], [249]),
  (18, .iconst 0, 1, (0, 0, 0), [], []),
  (19, .istore_n 2, 1, (0, 0, 0), [], []),
  (20, .iload_n 2, 1, (0, 0, 0), [], []),
  (21, .sipush 400, 3, (0, 0, 0), [], []),
  (24, .if_icmp .gt 102, 3, (126, 0, 0), [], []),
  (27, .aload_n 0, 1, (0, 0, 0), [], []),
  (28, .invokevirtual 61, 3, (0, 92, 5), [], [965, 70, 967, 24]),
  (31, .aload_n 0, 1, (0, 0, 0), [], []),
  (32, .getfield 19, 3, (5, 2, 2), [], [245]),
  (35, .iload_n 2, 1, (0, 0, 0), [], []),
  (36, .aload_n 0, 1, (0, 0, 0), [], []),
  (37, .getfield 58, 3, (5, 6, 0), [], [249]),
  (40, .iastore, 1, (0, 0, 0), [], []),
  (41, .aload_n 0, 1, (0, 0, 0), [], []),
  (42, .getfield 15, 3, (5, 1, 2), [], [243]),
  (45, .iload_n 2, 1, (0, 0, 0), [], []),
  (46, .lconst 0, 1, (0, 0, 0), [], []),
  (47, .lastore, 1, (0, 0, 0), [], []),
  (48, .aload_n 0, 1, (0, 0, 0), [], []),
  (49, .getfield 58, 3, (5, 6, 0), [], [249]),
  (52, .aload_n 0, 1, (0, 0, 0), [], []),
  (53, .getfield 55, 3, (5, 5, 0), [], [248]),
  (56, .if_icmp .lt 15, 3, (71, 0, 0), [], []),
  (59, .aload_n 0, 1, (0, 0, 0), [], []),
  (60, .getfield 9, 3, (5, 0, 2), [], [241]),
  (63, .iload_n 2, 1, (0, 0, 0), [], []),
  (64, .sipush 260, 3, (0, 0, 0), [], []),
  (67, .iastore, 1, (0, 0, 0), [], []),
  (68, .goto 27, 3, (95, 0, 0), [], []),
  (71, .aload_n 0, 1, (0, 0, 0), [], []),
  (72, .getfield 9, 3, (5, 0, 2), [], [241]),
  (75, .iload_n 2, 1, (0, 0, 0), [], []),
  (76, .iload_n 2, 1, (0, 0, 0), [], []),
  (77, .sipush 400, 3, (0, 0, 0), [], []),
  (80, .if_icmp .ne 9, 3, (89, 0, 0), [], []),
  (83, .sipush 261, 3, (0, 0, 0), [], []),
  (86, .goto 8, 3, (94, 0, 0), [], []),
  (89, .aload_n 0, 1, (0, 0, 0), [], []),
  (90, .iload_n 2, 1, (0, 0, 0), [], []),
  (91, .invokevirtual 64, 3, (0, 93, 5), [], [973, 70, 975, 26]),
  (94, .iastore, 1, (0, 0, 0), [], []),
  (95, .aload_n 0, 1, (0, 0, 0), [], []),
  (96, .getfield 9, 3, (5, 0, 2), [], [241]),
  (99, .iload_n 2, 1, (0, 0, 0), [], []),
  (100, .iaload, 1, (0, 0, 0), [], []),
  (101, .sipush 260, 3, (0, 0, 0), [], []),
  (104, .if_icmp .eq 15, 3, (119, 0, 0), [], []),
  (107, .aload_n 0, 1, (0, 0, 0), [], []),
  (108, .getfield 9, 3, (5, 0, 2), [], [241]),
  (111, .iload_n 2, 1, (0, 0, 0), [], [])]
def am_t90_1 : List am_E := [(112, .iaload, 1, (0, 0, 0), [], []),
  (113, .sipush 261, 3, (0, 0, 0), [], []),
  (116, .if_icmp .ne 4, 3, (120, 0, 0), [], []),
  (119, .return_, 1, (0, 0, 0), [], []),
  (120, .iinc 2 1, 3, (0, 0, 0), [], []),
  (123, .goto (-103), 3, (20, 0, 0), [], []),
  (126, .return_, 1, (0, 0, 0), [], [])]
def am_t90 : List am_E := am_t90_0 ++ (am_t90_1)
/-- 91: X7_startOf -/
def am_t91 : List am_E := [(0, .iload_n 1, 1, (0, 0, 0), [], []),
  (1, .ifCond .lt 21, 3, (22, 0, 0), [], []),
  (4, .iload_n 1, 1, (0, 0, 0), [], []),
  (5, .aload_n 0, 1, (0, 0, 0), [], []),
  (6, .getfield 19, 3, (5, 2, 2), [], [245]),
  (9, .arraylength, 1, (0, 0, 0), [], []),
  (10, .if_icmp .ge 12, 3, (22, 0, 0), [], []),
  (13, .aload_n 0, 1, (0, 0, 0), [], []),
  (14, .getfield 19, 3, (5, 2, 2), [], [245]),
  (17, .iload_n 1, 1, (0, 0, 0), [], []),
  (18, .iaload, 1, (0, 0, 0), [], []),
  (19, .goto 4, 3, (23, 0, 0), [], []),
  (22, .iconst (-1), 1, (0, 0, 0), [], []),
  (23, .ireturn, 1, (0, 0, 0), [], [])]
/-- 92: X7_skipBlanks -/
def am_t92 : List am_E := [(0, .aload_n 0, 1, (0, 0, 0), [], []),
  (1, .getfield 58, 3, (5, 6, 0), [], [249]),
  (4, .aload_n 0, 1, (0, 0, 0), [], []),
  (5, .getfield 55, 3, (5, 5, 0), [], [248]),
  (8, .if_icmp .ge 43, 3, (51, 0, 0), [], []),
  (11, .aload_n 0, 1, (0, 0, 0), [], []),
  (12, .aload_n 0, 1, (0, 0, 0), [], []),
  (13, .getfield 58, 3, (5, 6, 0), [], [249]),
  (16, .invokevirtual 68, 3, (0, 97, 5), [], [969, 70, 971, 25]),
  (19, .bipush 32, 2, (0, 0, 0), [], []),
  (21, .if_icmp .eq 17, 3, (38, 0, 0), [], []),
  (24, .aload_n 0, 1, (0, 0, 0), [], []),
  (25, .aload_n 0, 1, (0, 0, 0), [], []),
  (26, .getfield 58, 3, (5, 6, 0), [], [249]),
  (29, .invokevirtual 68, 3, (0, 97, 5), [], [969, 70, 971, 25]),
  (32, .bipush 10, 2, (0, 0, 0), [], []),
  (34, .if_icmp .eq 4, 3, (38, 0, 0), [], []),
  (37, .return_, 1, (0, 0, 0), [], []),
  (38, .aload_n 0, 1, (0, 0, 0), [], []),
  (39, .dup, 1, (0, 0, 0), [], []),
  (40, .getfield 58, 3, (5, 6, 0), [], [249]),
  (43, .iconst 1, 1, (0, 0, 0), [], []),
  (44, .iadd, 1, (0, 0, 0), [], []),
  (45, .putfield 58, 3, (5, 6, 0), [], [249]),
  (48, .goto (-48), 3, (0, 0, 0), [], []),
  (51, .return_, 1, (0, 0, 0), [], [])]
/-- 93: X7_cutOne -/
def am_t93 : List am_E := [(0, .aload_n 0, 1, (0, 0, 0), [], []),
  (1, .aload_n 0, 1, (0, 0, 0), [], []),
  (2, .getfield 58, 3, (5, 6, 0), [], [249]),
  (5, .invokevirtual 68, 3, (0, 97, 5), [], [969, 70, 971, 25]),
  (8, .invokestatic 71, 3, (2, 98, 0), [], [238, 70, 239]),
  (11, .ifCond .eq 9, 3, (20, 0, 0), [], []),
  (14, .aload_n 0, 1, (0, 0, 0), [], []),
  (15, .iload_n 1, 1, (0, 0, 0), [], []),
  (16, .invokevirtual 75, 3, (0, 94, 5), [], [977, 70, 979, 27]),
  (19, .ireturn, 1, (0, 0, 0), [], []),
  (20, .aload_n 0, 1, (0, 0, 0), [], []),
  (21, .aload_n 0, 1, (0, 0, 0), [], []),
  (22, .getfield 58, 3, (5, 6, 0), [], [249]),
  (25, .invokevirtual 68, 3, (0, 97, 5), [], [969, 70, 971, 25]),
  (28, .invokestatic 78, 3, (2, 99, 0), [], [981, 70, 982]),
  (31, .ifCond .eq 11, 3, (42, 0, 0), [], []),
  (34, .aload_n 0, 1, (0, 0, 0), [], []),
  (35, .iload_n 1, 1, (0, 0, 0), [], []),
  (36, .invokevirtual 81, 3, (0, 95, 5), [], [984, 70, 986, 28]),
  (39, .goto 7, 3, (46, 0, 0), [], []),
  (42, .aload_n 0, 1, (0, 0, 0), [], []),
  (43, .invokevirtual 84, 3, (0, 96, 5), [], [990, 70, 992, 29]),
  (46, .ireturn, 1, (0, 0, 0), [], [])]
/-- 94: X7_cutWord -/
def am_t94_0 : List am_E := [(0, .lconst 0, 1, (0, 0, 0), [], []),
  (1, .lstore_n 2, 1, (0, 0, 0), [], []),
  (2, .aload_n 0, 1, (0, 0, 0), [], []),
  (3, .getfield 58, 3, (5, 6, 0), [], [249]),
  (6, .istore 4, 2, (0, 0, 0), [], []),
  (8, .aload_n 0, 1, (0, 0, 0), [], []),
  (9, .getfield 58, 3, (5, 6, 0), [], [249]),
  (12, .aload_n 0, 1, (0, 0, 0), [], []),
  (13, .getfield 55, 3, (5, 5, 0), [], [248]),
  (16, .if_icmp .ge 64, 3, (80, 0, 0), [], []),
  (19, .aload_n 0, 1, (0, 0, 0), [], []),
  (20, .aload_n 0, 1, (0, 0, 0), [], []),
  (21, .getfield 58, 3, (5, 6, 0), [], [249]),
  (24, .invokevirtual 68, 3, (0, 97, 5), [], [969, 70, 971, 25]),
  (27, .invokestatic 71, 3, (2, 98, 0), [], [238, 70, 239]),
  (30, .ifCond .ne 17, 3, (47, 0, 0), [], []),
  (33, .aload_n 0, 1, (0, 0, 0), [], []),
  (34, .aload_n 0, 1, (0, 0, 0), [], []),
  (35, .getfield 58, 3, (5, 6, 0), [], [249]),
  (38, .invokevirtual 68, 3, (0, 97, 5), [], [969, 70, 971, 25]),
  (41, .invokestatic 78, 3, (2, 99, 0), [], [981, 70, 982]),
  (44, .ifCond .eq 36, 3, (80, 0, 0), [], []),
  (47, .lload_n 2, 1, (0, 0, 0), [], []),
  (48, .ldc2_w 43, 3, (0, 0, 0), [(37, 1)], [234]),
  (51, .lmul, 1, (0, 0, 0), [], []),
  (52, .aload_n 0, 1, (0, 0, 0), [], []),
  (53, .aload_n 0, 1, (0, 0, 0), [], []),
  (54, .getfield 58, 3, (5, 6, 0), [], [249]),
  (57, .invokevirtual 68, 3, (0, 97, 5), [], [969, 70, 971, 25]),
  (60, .i2c, 1, (0, 0, 0), [], []),
  (61, .invokestatic 45, 3, (2, 100, 0), [], [235, 70, 236]),
  (64, .i2l, 1, (0, 0, 0), [], []),
  (65, .ladd, 1, (0, 0, 0), [], []),
  (66, .lstore_n 2, 1, (0, 0, 0), [], []),
  (67, .aload_n 0, 1, (0, 0, 0), [], []),
  (68, .dup, 1, (0, 0, 0), [], []),
  (69, .getfield 58, 3, (5, 6, 0), [], [249]),
  (72, .iconst 1, 1, (0, 0, 0), [], []),
  (73, .iadd, 1, (0, 0, 0), [], []),
  (74, .putfield 58, 3, (5, 6, 0), [], [249]),
  (77, .goto (-69), 3, (8, 0, 0), [], []),
  (80, .aload_n 0, 1, (0, 0, 0), [], []),
  (81, .getfield 58, 3, (5, 6, 0), [], [249]),
  (84, .iload 4, 2, (0, 0, 0), [], []),
  (86, .isub, 1, (0, 0, 0), [], []),
  (87, .bipush 10, 2, (0, 0, 0), [], []),
  (89, .if_icmp .le 7, 3, (96, 0, 0), [], []),
  (92, .sipush 261, 3, (0, 0, 0), [], []),
  (95, .ireturn, 1, (0, 0, 0), [], []),
  (96, .aload_n 0, 1, (0, 0, 0), [], []),
  (97, .getfield 15, 3, (5, 1, 2), [], [243]),
  (100, .iload_n 1, 1, (0, 0, 0), [], []),
  (101, .lload_n 2, 1, (0, 0, 0), [], []),
  (102, .lastore, 1, (0, 0, 0), [], []),
  (103, .iconst 0, 1, (0, 0, 0), [], []),
  (104, .istore 5, 2, (0, 0, 0), [], []),
  (106, .iload 5, 2, (0, 0, 0), [], []),
  (108, .bipush 22, 2, (0, 0, 0), [], []),
  (110, .if_icmp .ge 28, 3, (138, 0, 0), [], []),
  (113, .aload_n 0, 1, (0, 0, 0), [], [])]
def am_t94_1 : List am_E := [(114, .getfield 24, 3, (5, 3, 2), [], [246]),
  (117, .iload 5, 2, (0, 0, 0), [], []),
  (119, .laload, 1, (0, 0, 0), [], []),
  (120, .lload_n 2, 1, (0, 0, 0), [], []),
  (121, .lcmp, 1, (0, 0, 0), [], []),
  (122, .ifCond .ne 10, 3, (132, 0, 0), [], []),
  (125, .sipush 300, 3, (0, 0, 0), [], []),
  (128, .iload 5, 2, (0, 0, 0), [], []),
  (130, .iadd, 1, (0, 0, 0), [], []),
  (131, .ireturn, 1, (0, 0, 0), [], []),
  (132, .iinc 5 1, 3, (0, 0, 0), [], []),
  (135, .goto (-29), 3, (106, 0, 0), [], []),
  (138, .sipush 256, 3, (0, 0, 0), [], []),
  (141, .ireturn, 1, (0, 0, 0), [], [])]
def am_t94 : List am_E := am_t94_0 ++ (am_t94_1)
/-- 95: X7_cutNumber -/
def am_t95 : List am_E := [(0, .lconst 0, 1, (0, 0, 0), [], []),
  (1, .lstore_n 2, 1, (0, 0, 0), [], []),
  (2, .aload_n 0, 1, (0, 0, 0), [], []),
  (3, .getfield 58, 3, (5, 6, 0), [], [249]),
  (6, .istore 4, 2, (0, 0, 0), [], []),
  (8, .aload_n 0, 1, (0, 0, 0), [], []),
  (9, .getfield 58, 3, (5, 6, 0), [], [249]),
  (12, .aload_n 0, 1, (0, 0, 0), [], []),
  (13, .getfield 55, 3, (5, 5, 0), [], [248]),
  (16, .if_icmp .ge 50, 3, (66, 0, 0), [], []),
  (19, .aload_n 0, 1, (0, 0, 0), [], []),
  (20, .aload_n 0, 1, (0, 0, 0), [], []),
  (21, .getfield 58, 3, (5, 6, 0), [], [249]),
  (24, .invokevirtual 68, 3, (0, 97, 5), [], [969, 70, 971, 25]),
  (27, .invokestatic 78, 3, (2, 99, 0), [], [981, 70, 982]),
  (30, .ifCond .eq 36, 3, (66, 0, 0), [], []),
  (33, .lload_n 2, 1, (0, 0, 0), [], []),
  (34, .ldc2_w 87, 3, (0, 0, 0), [(10, 1)], [988]),
  (37, .lmul, 1, (0, 0, 0), [], []),
  (38, .aload_n 0, 1, (0, 0, 0), [], []),
  (39, .aload_n 0, 1, (0, 0, 0), [], []),
  (40, .getfield 58, 3, (5, 6, 0), [], [249]),
  (43, .invokevirtual 68, 3, (0, 97, 5), [], [969, 70, 971, 25]),
  (46, .i2l, 1, (0, 0, 0), [], []),
  (47, .ladd, 1, (0, 0, 0), [], []),
  (48, .ldc2_w 89, 3, (0, 0, 0), [(48, 1)], [989]),
  (51, .lsub, 1, (0, 0, 0), [], []),
  (52, .lstore_n 2, 1, (0, 0, 0), [], []),
  (53, .aload_n 0, 1, (0, 0, 0), [], []),
  (54, .dup, 1, (0, 0, 0), [], []),
  (55, .getfield 58, 3, (5, 6, 0), [], [249]),
  (58, .iconst 1, 1, (0, 0, 0), [], []),
  (59, .iadd, 1, (0, 0, 0), [], []),
  (60, .putfield 58, 3, (5, 6, 0), [], [249]),
  (63, .goto (-55), 3, (8, 0, 0), [], []),
  (66, .aload_n 0, 1, (0, 0, 0), [], []),
  (67, .getfield 15, 3, (5, 1, 2), [], [243]),
  (70, .iload_n 1, 1, (0, 0, 0), [], []),
  (71, .lload_n 2, 1, (0, 0, 0), [], []),
  (72, .lastore, 1, (0, 0, 0), [], []),
  (73, .aload_n 0, 1, (0, 0, 0), [], []),
  (74, .getfield 58, 3, (5, 6, 0), [], [249]),
  (77, .iload 4, 2, (0, 0, 0), [], []),
  (79, .isub, 1, (0, 0, 0), [], []),
  (80, .bipush 6, 2, (0, 0, 0), [], []),
  (82, .if_icmp .le 9, 3, (91, 0, 0), [], []),
  (85, .sipush 261, 3, (0, 0, 0), [], []),
  (88, .goto 6, 3, (94, 0, 0), [], []),
  (91, .sipush 257, 3, (0, 0, 0), [], []),
  (94, .ireturn, 1, (0, 0, 0), [], [])]
/-- 96: X7_cutSymbol -/
def am_t96 : List am_E := [(0, .aload_n 0, 1, (0, 0, 0), [], []),
  (1, .aload_n 0, 1, (0, 0, 0), [], []),
  (2, .getfield 58, 3, (5, 6, 0), [], [249]),
  (5, .invokevirtual 68, 3, (0, 97, 5), [], [969, 70, 971, 25]),
  (8, .istore_n 1, 1, (0, 0, 0), [], []),
  (9, .ldc 91, 2, (0, 0, 0), [(1, 5)], [994]),
  (11, .iload_n 1, 1, (0, 0, 0), [], []),
  (12, .i2c, 1, (0, 0, 0), [], []),
  (13, .invokevirtual 93, 3, (0, 3, 60), [], [995, 57, 996, 997]),
  (16, .ifCond .ge 7, 3, (23, 0, 0), [], []),
  (19, .sipush 261, 3, (0, 0, 0), [], []),
  (22, .ireturn, 1, (0, 0, 0), [], []),
  (23, .aload_n 0, 1, (0, 0, 0), [], []),
  (24, .dup, 1, (0, 0, 0), [], []),
  (25, .getfield 58, 3, (5, 6, 0), [], [249]),
  (28, .iconst 1, 1, (0, 0, 0), [], []),
  (29, .iadd, 1, (0, 0, 0), [], []),
  (30, .putfield 58, 3, (5, 6, 0), [], [249]),
  (33, .iload_n 1, 1, (0, 0, 0), [], []),
  (34, .bipush 60, 2, (0, 0, 0), [], []),
  (36, .if_icmp .eq 9, 3, (45, 0, 0), [], []),
  (39, .iload_n 1, 1, (0, 0, 0), [], []),
  (40, .bipush 62, 2, (0, 0, 0), [], []),
  (42, .if_icmp .ne 42, 3, (84, 0, 0), [], []),
  (45, .aload_n 0, 1, (0, 0, 0), [], []),
  (46, .aload_n 0, 1, (0, 0, 0), [], []),
  (47, .getfield 58, 3, (5, 6, 0), [], [249]),
  (50, .invokevirtual 68, 3, (0, 97, 5), [], [969, 70, 971, 25]),
  (53, .bipush 61, 2, (0, 0, 0), [], []),
  (55, .if_icmp .ne 29, 3, (84, 0, 0), [], []),
  (58, .aload_n 0, 1, (0, 0, 0), [], []),
  (59, .dup, 1, (0, 0, 0), [], []),
  (60, .getfield 58, 3, (5, 6, 0), [], [249]),
  (63, .iconst 1, 1, (0, 0, 0), [], []),
  (64, .iadd, 1, (0, 0, 0), [], []),
  (65, .putfield 58, 3, (5, 6, 0), [], [249]),
  (68, .iload_n 1, 1, (0, 0, 0), [], []),
  (69, .bipush 60, 2, (0, 0, 0), [], []),
  (71, .if_icmp .ne 9, 3, (80, 0, 0), [], []),
  (74, .sipush 258, 3, (0, 0, 0), [], []),
  (77, .goto 6, 3, (83, 0, 0), [], []),
  (80, .sipush 259, 3, (0, 0, 0), [], []),
  (83, .ireturn, 1, (0, 0, 0), [], []),
  (84, .iload_n 1, 1, (0, 0, 0), [], []),
  (85, .ireturn, 1, (0, 0, 0), [], [])]
/-- 97: X7_signAt -/
def am_t97 : List am_E := [(0, .iload_n 1, 1, (0, 0, 0), [], []),
  (1, .ifCond .lt 24, 3, (25, 0, 0), [], []),
  (4, .iload_n 1, 1, (0, 0, 0), [], []),
  (5, .aload_n 0, 1, (0, 0, 0), [], []),
  (6, .getfield 55, 3, (5, 5, 0), [], [248]),
  (9, .if_icmp .ge 16, 3, (25, 0, 0), [], []),
  (12, .aload_n 0, 1, (0, 0, 0), [], []),
  (13, .getfield 27, 3, (5, 4, 2), [], [247]),
  (16, .iload_n 1, 1, (0, 0, 0), [], []),
  (17, .baload, 1, (0, 0, 0), [], []),
  (18, .sipush 255, 3, (0, 0, 0), [], []),
  (21, .iand, 1, (0, 0, 0), [], []),
  (22, .goto 4, 3, (26, 0, 0), [], []),
  (25, .iconst 0, 1, (0, 0, 0), [], []),
  (26, .ireturn, 1, (0, 0, 0), [], [])]
/-- 98: X7_isLetter -/
def am_t98 : List am_E := [(0, .iload_n 0, 1, (0, 0, 0), [], []),
  (1, .bipush 97, 2, (0, 0, 0), [], []),
  (3, .if_icmp .lt 13, 3, (16, 0, 0), [], []),
  (6, .iload_n 0, 1, (0, 0, 0), [], []),
  (7, .bipush 122, 2, (0, 0, 0), [], []),
  (9, .if_icmp .gt 7, 3, (16, 0, 0), [], []),
  (12, .iconst 1, 1, (0, 0, 0), [], []),
  (13, .goto 4, 3, (17, 0, 0), [], []),
  (16, .iconst 0, 1, (0, 0, 0), [], []),
  (17, .ireturn, 1, (1, 0, 0), [], [])]
/-- 99: X7_isDigit -/
def am_t99 : List am_E := [(0, .iload_n 0, 1, (0, 0, 0), [], []),
  (1, .bipush 48, 2, (0, 0, 0), [], []),
  (3, .if_icmp .lt 13, 3, (16, 0, 0), [], []),
  (6, .iload_n 0, 1, (0, 0, 0), [], []),
  (7, .bipush 57, 2, (0, 0, 0), [], []),
  (9, .if_icmp .gt 7, 3, (16, 0, 0), [], []),
  (12, .iconst 1, 1, (0, 0, 0), [], []),
  (13, .goto 4, 3, (17, 0, 0), [], []),
  (16, .iconst 0, 1, (0, 0, 0), [], []),
  (17, .ireturn, 1, (1, 0, 0), [], [])]
/-- 100: X7_digitOf -/
def am_t100 : List am_E := [(0, .iload_n 0, 1, (0, 0, 0), [], []),
  (1, .invokestatic 71, 3, (2, 98, 0), [], [238, 70, 239]),
  (4, .ifCond .eq 12, 3, (16, 0, 0), [], []),
  (7, .iload_n 0, 1, (0, 0, 0), [], []),
  (8, .bipush 97, 2, (0, 0, 0), [], []),
  (10, .isub, 1, (0, 0, 0), [], []),
  (11, .iconst 1, 1, (0, 0, 0), [], []),
  (12, .iadd, 1, (0, 0, 0), [], []),
  (13, .goto 10, 3, (23, 0, 0), [], []),
  (16, .iload_n 0, 1, (0, 0, 0), [], []),
  (17, .bipush 48, 2, (0, 0, 0), [], []),
  (19, .isub, 1, (0, 0, 0), [], []),
  (20, .bipush 27, 2, (0, 0, 0), [], []),
  (22, .iadd, 1, (0, 0, 0), [], []),
  (23, .ireturn, 1, (0, 0, 0), [], [])]
/-- 101: X8_init -/
def am_t101 : List am_E := [(0, .aload_n 0, 1, (0, 0, 0), [], []),
  (1, .invokespecial 1, 3, (6, 0, 0), [], [88, 89, 90]),
  (4, .aload_n 0, 1, (0, 0, 0), [], []),
  (5, .sipush 2000, 3, (0, 0, 0), [], []),
  (8, .newarray .byte, 2, (21, 0, 0), [], [177]),
  (10, .putfield 9, 3, (6, 0, 2), [], [378]),
  (13, .aload_n 0, 1, (0, 0, 0), [], []),
  (14, .iconst (-1), 1, (0, 0, 0), [], []),
  (15, .putfield 13, 3, (6, 2, 0), [], [380]),
  (18, .aload_n 0, 1, (0, 0, 0), [], []),
  (19, .new 17, 3, (4, 15, 0), [], [91, 92, 69]),
  (22, .dup, 1, (0, 0, 0), [], []),
  (23, .invokespecial 19, 3, (5, 84, 61), [], [93, 69, 94]),
  (26, .putfield 20, 3, (6, 3, 2), [], [381]),
  (29, .aload_n 0, 1, (0, 0, 0), [], []),
  (30, .new 17, 3, (4, 15, 0), [], [91, 92, 69]),
  (33, .dup, 1, (0, 0, 0), [], []),
  (34, .invokespecial 19, 3, (5, 84, 61), [], [93, 69, 94]),
  (37, .putfield 24, 3, (6, 4, 2), [], [382]),
  (40, .aload_n 0, 1, (0, 0, 0), [], []),
  (41, .new 27, 3, (5, 7, 0), [], [179, 180, 70]),
  (44, .dup, 1, (0, 0, 0), [], []),
  (45, .aload_n 0, 1, (0, 0, 0), [], []),
  (46, .getfield 9, 3, (6, 0, 2), [], [378]),
  (49, .invokespecial 29, 3, (4, 89, 61), [], [181, 70, 182]),
  (52, .putfield 32, 3, (6, 5, 2), [], [383]),
  (55, .aload_n 0, 1, (0, 0, 0), [], []),
  (56, .new 36, 3, (2, 5, 0), [], [266, 267, 71]),
  (59, .dup, 1, (0, 0, 0), [], []),
  (60, .aload_n 0, 1, (0, 0, 0), [], []),
  (61, .getfield 32, 3, (6, 5, 2), [], [383]),
  (64, .aload_n 0, 1, (0, 0, 0), [], []),
  (65, .getfield 24, 3, (6, 4, 2), [], [382]),
  (68, .invokespecial 38, 3, (4, 27, 61), [], [268, 71, 269]),
  (71, .putfield 41, 3, (6, 6, 2), [], [384]),
  (74, .aload_n 0, 1, (0, 0, 0), [], []),
  (75, .new 45, 3, (1, 7, 0), [], [292, 293, 72]),
  (78, .dup, 1, (0, 0, 0), [], []),
  (79, .aload_n 0, 1, (0, 0, 0), [], []),
  (80, .getfield 32, 3, (6, 5, 2), [], [383]),
  (83, .aload_n 0, 1, (0, 0, 0), [], []),
  (84, .getfield 41, 3, (6, 6, 2), [], [384]),
  (87, .invokespecial 47, 3, (4, 13, 61), [], [294, 72, 295]),
  (90, .putfield 50, 3, (6, 7, 2), [], [385]),
  (93, .aload_n 0, 1, (0, 0, 0), [], []),
  (94, .new 54, 3, (3, 15, 0), [], [321, 322, 73]),
  (97, .dup, 1, (0, 0, 0), [], []),
  (98, .aload_n 0, 1, (0, 0, 0), [], []),
  (99, .getfield 20, 3, (6, 3, 2), [], [381]),
  (102, .invokespecial 56, 3, (4, 46, 61), [], [323, 73, 324]),
  (105, .putfield 59, 3, (6, 8, 2), [], [386]),
  (108, .aload_n 0, 1, (0, 0, 0), [], []),
  (109, .new 54, 3, (3, 15, 0), [], [321, 322, 73]),
  (112, .dup, 1, (0, 0, 0), [], []),
  (113, .aload_n 0, 1, (0, 0, 0), [], []),
  (114, .getfield 20, 3, (6, 3, 2), [], [381]),
  (117, .invokespecial 56, 3, (4, 46, 61), [], [323, 73, 324]),
  (120, .putfield 63, 3, (6, 9, 2), [], [387]),
  (123, .return_, 1, (0, 0, 0), [], [])]
/-- 102: X8_feed -/
def am_t102 : List am_E := [(0, .aload_n 0, 1, (0, 0, 0), [], []),
  (1, .getfield 66, 3, (6, 1, 0), [], [379]),
  (4, .sipush 1980, 3, (0, 0, 0), [], []),
  (7, .if_icmp .le 13, 3, (20, 0, 0), [], []),
  (10, .new 69, 3, (71, 73, 1), [], [936, 78, 945]),
  (13, .dup, 1, (0, 0, 0), [], []),
  (14, .ldc 71, 2, (99, 0, 0), [], []),
  (16, .invokespecial 73, 3, (99, 0, 0), [], []),
  (19, .athrow, 1, (0, 0, 0), [], []),
  (20, .aload_n 0, 1, (0, 0, 0), [], []),
  (21, .iload_n 1, 1, (0, 0, 0), [], []),
  (22, .invokevirtual 76, 3, (0, 103, 6), [], [952, 68, 954, 23]),
  (25, .aload_n 0, 1, (0, 0, 0), [], []),
  (26, .iload_n 2, 1, (0, 0, 0), [], []),
  (27, .invokevirtual 76, 3, (0, 103, 6), [], [952, 68, 954, 23]),
  (30, .aload_n 0, 1, (0, 0, 0), [], []),
  (31, .iload_n 3, 1, (0, 0, 0), [], []),
  (32, .invokevirtual 76, 3, (0, 103, 6), [], [952, 68, 954, 23]),
  (35, .aload_n 0, 1, (0, 0, 0), [], []),
  (36, .iload 4, 2, (0, 0, 0), [], []),
  (38, .invokevirtual 76, 3, (0, 103, 6), [], [952, 68, 954, 23]),
  (41, .aload_n 0, 1, (0, 0, 0), [], []),
  (42, .iload 5, 2, (0, 0, 0), [], []),
  (44, .invokevirtual 76, 3, (0, 103, 6), [], [952, 68, 954, 23]),
  (47, .aload_n 0, 1, (0, 0, 0), [], []),
  (48, .getfield 66, 3, (6, 1, 0), [], [379]),
  (51, .ireturn, 1, (0, 0, 0), [], [])]
/-- 103: X8_append -/
def am_t103 : List am_E := [(0, .bipush 24, 2, (0, 0, 0), [], []),
  (2, .istore_n 2, 1, (0, 0, 0), [], []),
  (3, .iload_n 2, 1, (0, 0, 0), [], []),
  (4, .ifCond .lt 42, 3, (46, 0, 0), [], []),
  (7, .aload_n 0, 1, (0, 0, 0), [], []),
  (8, .getfield 66, 3, (6, 1, 0), [], [379]),
  (11, .sipush 2000, 3, (0, 0, 0), [], []),
  (14, .if_icmp .ge 26, 3, (40, 0, 0), [], []),
  (17, .aload_n 0, 1, (0, 0, 0), [], []),
  (18, .getfield 9, 3, (6, 0, 2), [], [378]),
  (21, .aload_n 0, 1, (0, 0, 0), [], []),
  (22, .getfield 66, 3, (6, 1, 0), [], [379]),
  (25, .iload_n 1, 1, (0, 0, 0), [], []),
  (26, .iload_n 2, 1, (0, 0, 0), [], []),
  (27, .ishr, 1, (0, 0, 0), [], []),
  (28, .i2b, 1, (0, 0, 0), [], []),
  (29, .bastore, 1, (0, 0, 0), [], []),
  (30, .aload_n 0, 1, (0, 0, 0), [], []),
  (31, .dup, 1, (0, 0, 0), [], []),
  (32, .getfield 66, 3, (6, 1, 0), [], [379]),
  (35, .iconst 1, 1, (0, 0, 0), [], []),
  (36, .iadd, 1, (0, 0, 0), [], []),
  (37, .putfield 66, 3, (6, 1, 0), [], [379]),
  (40, .iinc 2 (-8), 3, (0, 0, 0), [], []),
  (43, .goto (-40), 3, (3, 0, 0), [], []),
  (46, .return_, 1, (0, 0, 0), [], [])]
/-- 104: X8_trim -/
def am_t104 : List am_E := [(0, .iload_n 1, 1, (0, 0, 0), [], []),
  (1, .ifCond .lt 11, 3, (12, 0, 0), [], []),
  (4, .iload_n 1, 1, (0, 0, 0), [], []),
  (5, .aload_n 0, 1, (0, 0, 0), [], []),
  (6, .getfield 66, 3, (6, 1, 0), [], [379]),
  (9, .if_icmp .le 13, 3, (22, 0, 0), [], []),
  (12, .new 80, 3, (82, 84, 2), [], [654, 77, 929]),
  (15, .dup, 1, (0, 0, 0), [], []),
  (16, .ldc 82, 2, (99, 0, 0), [], []),
  (18, .invokespecial 84, 3, (99, 0, 0), [], []),
  (21, .athrow, 1, (0, 0, 0), [], []),
  (22, .aload_n 0, 1, (0, 0, 0), [], []),
  (23, .iload_n 1, 1, (0, 0, 0), [], []),
  (24, .putfield 66, 3, (6, 1, 0), [], [379]),
  (27, .iload_n 1, 1, (0, 0, 0), [], []),
  (28, .ireturn, 1, (0, 0, 0), [], [])]
/-- 105: X8_teach -/
def am_t105_0 : List am_E := [(0, .aload_n 0, 1, (0, 0, 0), [], []),
  (1, .getfield 32, 3, (6, 5, 2), [], [383]),
  (4, .aload_n 0, 1, (0, 0, 0), [], []),
  (5, .getfield 66, 3, (6, 1, 0), [], [379]),
  (8, .invokevirtual 85, 3, (0, 90, 5), [], [960, 70, 961, 962]),
  (11, .aload_n 0, 1, (0, 0, 0), [], []),
  (12, .iconst 0, 1, (0, 0, 0), [], []),
  (13, .putfield 66, 3, (6, 1, 0), [], [379]),
  (16, .aload_n 0, 1, (0, 0, 0), [], []),
  (17, .getfield 41, 3, (6, 6, 2), [], [384]),
  (20, .aload_n 0, 1, (0, 0, 0), [], []),
  (21, .getfield 24, 3, (6, 4, 2), [], [382]),
  (24, .invokevirtual 88, 3, (0, 28, 2), [], [1050, 71, 1051, 1052]),
  (27, .ifCond .eq 17, 3, (44, 0, 0), [], []),
  (30, .aload_n 0, 1, (0, 0, 0), [], []),
  (31, .getfield 50, 3, (6, 7, 2), [], [385]),
  (34, .aload_n 0, 1, (0, 0, 0), [], []),
  (35, .getfield 24, 3, (6, 4, 2), [], [382]),
  (38, .invokevirtual 92, 3, (0, 14, 1), [], [1122, 72, 1123, 1124]),
  (41, .goto 4, 3, (45, 0, 0), [], []),
  (44, .iconst 1, 1, (0, 0, 0), [], []),
  (45, .istore_n 1, 1, (0, 0, 0), [], []),
  (46, .iload_n 1, 1, (0, 0, 0), [], []),
  (47, .ifCond .eq 38, 3, (85, 0, 0), [], []),
  (50, .aload_n 0, 1, (0, 0, 0), [], []),
  (51, .aload_n 0, 1, (0, 0, 0), [], []),
  (52, .getfield 32, 3, (6, 5, 2), [], [383]),
  (55, .iload_n 1, 1, (0, 0, 0), [], []),
  (56, .iconst 1, 1, (0, 0, 0), [], []),
  (57, .if_icmp .ne 13, 3, (70, 0, 0), [], []),
  (60, .aload_n 0, 1, (0, 0, 0), [], []),
  (61, .getfield 41, 3, (6, 6, 2), [], [384]),
  (64, .getfield 96, 3, (2, 2, 0), [], [278]),
  (67, .goto 10, 3, (77, 0, 0), [], []),
  (70, .aload_n 0, 1, (0, 0, 0), [], []),
  (71, .getfield 50, 3, (6, 7, 2), [], [385]),
  (74, .getfield 99, 3, (1, 0, 0), [], [299]),
  (77, .invokevirtual 100, 3, (0, 91, 5), [], [1177, 70, 1178, 1179]),
  (80, .putfield 13, 3, (6, 2, 0), [], [380]),
  (83, .iload_n 1, 1, (0, 0, 0), [], []),
  (84, .ireturn, 1, (0, 0, 0), [], []),
  (85, .aload_n 0, 1, (0, 0, 0), [], []),
  (86, .iconst (-1), 1, (0, 0, 0), [], []),
  (87, .putfield 13, 3, (6, 2, 0), [], [380]),
  (90, .aload_n 0, 1, (0, 0, 0), [], []),
  (91, .getfield 20, 3, (6, 3, 2), [], [381]),
  (94, .astore_n 2, 1, (0, 0, 0), [], []),
  (95, .aload_n 0, 1, (0, 0, 0), [], []),
  (96, .aload_n 0, 1, (0, 0, 0), [], []),
  (97, .getfield 24, 3, (6, 4, 2), [], [382]),
  (100, .putfield 20, 3, (6, 3, 2), [], [381]),
  (103, .aload_n 0, 1, (0, 0, 0), [], []),
  (104, .aload_n 2, 1, (0, 0, 0), [], []),
  (105, .putfield 24, 3, (6, 4, 2), [], [382]),
  (108, .aload_n 0, 1, (0, 0, 0), [], []),
  (109, .getfield 59, 3, (6, 8, 2), [], [386]),
  (112, .aload_n 0, 1, (0, 0, 0), [], []),
  (113, .getfield 20, 3, (6, 3, 2), [], [381]),
  (116, .invokevirtual 104, 3, (0, 47, 3), [], [1181, 73, 1182, 1183]),
  (119, .iconst 0, 1, (0, 0, 0), [], [])]
def am_t105_1 : List am_E := [(120, .ireturn, 1, (0, 0, 0), [], [])]
def am_t105 : List am_E := am_t105_0 ++ (am_t105_1)
/-- 106: J0_getBytes_840e7 -/
def am_t106 : List am_E := [(0, .aload_n 0, 1, (0, 0, 0), [], []),
  (1, .invokevirtual 335, 3, (0, 2, 60), [], [190, 57, 191, 192]),
  (4, .iload_n 3, 1, (0, 0, 0), [], []),
  (5, .if_icmp .ne 23, 3, (28, 0, 0), [], []),
  (8, .aload_n 0, 1, (0, 0, 0), [], []),
  (9, .getfield 9, 3, (0, 0, 50), [], [1394]),
  (12, .iconst 0, 1, (0, 0, 0), [], []),
  (13, .aload_n 1, 1, (0, 0, 0), [], []),
  (14, .iload_n 2, 1, (0, 0, 0), [], []),
  (15, .iload_n 3, 1, (0, 0, 0), [], []),
  (16, .ishl, 1, (0, 0, 0), [], []),
  (17, .aload_n 0, 1, (0, 0, 0), [], []),
  (18, .getfield 9, 3, (0, 0, 50), [], [1394]),
  (21, .arraylength, 1, (1, 0, 0), [], []),
  (22, .invokestatic 212, 3, (11, 0, 0), [], [1280, 810, 63, 811]),
  (25, .goto 18, 3, (43, 0, 0), [], []),
  (28, .aload_n 0, 1, (0, 0, 0), [], []),
  (29, .getfield 9, 3, (0, 0, 50), [], [1394]),
  (32, .iconst 0, 1, (0, 0, 0), [], []),
  (33, .aload_n 1, 1, (0, 0, 0), [], []),
  (34, .iload_n 2, 1, (0, 0, 0), [], []),
  (35, .aload_n 0, 1, (0, 0, 0), [], []),
  (36, .getfield 9, 3, (0, 0, 50), [], [1394]),
  (39, .arraylength, 1, (1, 0, 0), [], []),
  (40, .invokestatic 106, 3, (99, 0, 0), [], []),
  (43, .return_, 1, (0, 0, 0), [], [])]
/-- 107: X8_count -/
def am_t107 : List am_E := [(0, .iload_n 1, 1, (0, 0, 0), [], []),
  (1, .ifCond .lt 9, 3, (10, 0, 0), [], []),
  (4, .iload_n 1, 1, (0, 0, 0), [], []),
  (5, .bipush 11, 2, (0, 0, 0), [], []),
  (7, .if_icmp .le 13, 3, (20, 0, 0), [], []),
  (10, .new 107, 3, (109, 111, 3), [], [413, 80, 454]),
  (13, .dup, 1, (0, 0, 0), [], []),
  (14, .ldc 109, 2, (99, 0, 0), [], []),
  (16, .invokespecial 111, 3, (99, 0, 0), [], []),
  (19, .athrow, 1, (0, 0, 0), [], []),
  (20, .aload_n 0, 1, (0, 0, 0), [], []),
  (21, .iload_n 1, 1, (0, 0, 0), [], []),
  (22, .invokevirtual 112, 3, (0, 108, 6), [], [480, 68, 482, 1]),
  (25, .ireturn, 1, (0, 0, 0), [], [])]
/-- 108: X8_countOf -/
def am_t108 : List am_E := [(0, .iload_n 1, 1, (0, 0, 0), [], []),
  (1, .tableswitch 116 0 11 #[63, 71, 79, 87, 95, 103, 116, 116, 116, 116, 116, 111], 63, (117, 0, 0), [(0, 64), (1, 72), (2, 80), (3, 88), (4, 96), (5, 104), (6, 117), (7, 117), (8, 117), (9, 117), (10, 117), (11, 112)], []),
  (64, .aload_n 0, 1, (0, 0, 0), [], []),
  (65, .getfield 59, 3, (6, 8, 2), [], [386]),
  (68, .getfield 115, 3, (3, 0, 0), [], [328]),
  (71, .ireturn, 1, (0, 0, 0), [], []),
  (72, .aload_n 0, 1, (0, 0, 0), [], []),
  (73, .getfield 20, 3, (6, 3, 2), [], [381]),
  (76, .getfield 118, 3, (4, 0, 0), [], [99]),
  (79, .ireturn, 1, (0, 0, 0), [], []),
  (80, .aload_n 0, 1, (0, 0, 0), [], []),
  (81, .getfield 20, 3, (6, 3, 2), [], [381]),
  (84, .getfield 121, 3, (4, 1, 0), [], [103]),
  (87, .ireturn, 1, (0, 0, 0), [], []),
  (88, .aload_n 0, 1, (0, 0, 0), [], []),
  (89, .getfield 20, 3, (6, 3, 2), [], [381]),
  (92, .getfield 124, 3, (4, 2, 0), [], [107]),
  (95, .ireturn, 1, (0, 0, 0), [], []),
  (96, .aload_n 0, 1, (0, 0, 0), [], []),
  (97, .getfield 20, 3, (6, 3, 2), [], [381]),
  (100, .getfield 127, 3, (4, 3, 0), [], [110]),
  (103, .ireturn, 1, (0, 0, 0), [], []),
  (104, .aload_n 0, 1, (0, 0, 0), [], []),
  (105, .getfield 59, 3, (6, 8, 2), [], [386]),
  (108, .getfield 130, 3, (3, 1, 0), [], [330]),
  (111, .ireturn, 1, (0, 0, 0), [], []),
  (112, .aload_n 0, 1, (0, 0, 0), [], []),
  (113, .getfield 66, 3, (6, 1, 0), [], [379]),
  (116, .ireturn, 1, (0, 0, 0), [], []),
  (117, .aload_n 0, 1, (0, 0, 0), [], []),
  (118, .getfield 59, 3, (6, 8, 2), [], [386]),
  (121, .iload_n 1, 1, (0, 0, 0), [], []),
  (122, .invokevirtual 133, 3, (0, 49, 3), [], [484, 73, 485, 486]),
  (125, .ireturn, 1, (0, 0, 0), [], [])]
/-- 109: X8_ward -/
def am_t109 : List am_E := [(0, .aload_n 0, 1, (0, 0, 0), [], []),
  (1, .getfield 20, 3, (6, 3, 2), [], [381]),
  (4, .iload_n 1, 1, (0, 0, 0), [], []),
  (5, .invokevirtual 136, 3, (0, 86, 4), [], [508, 69, 509, 510]),
  (8, .ifCond .ne 13, 3, (21, 0, 0), [], []),
  (11, .new 107, 3, (140, 111, 3), [], [413, 80, 512]),
  (14, .dup, 1, (0, 0, 0), [], []),
  (15, .ldc 140, 2, (99, 0, 0), [], []),
  (17, .invokespecial 111, 3, (99, 0, 0), [], []),
  (20, .athrow, 1, (0, 0, 0), [], []),
  (21, .iload_n 2, 1, (0, 0, 0), [], []),
  (22, .ifCond .lt 8, 3, (30, 0, 0), [], []),
  (25, .iload_n 2, 1, (0, 0, 0), [], []),
  (26, .iconst 3, 1, (0, 0, 0), [], []),
  (27, .if_icmp .le 13, 3, (40, 0, 0), [], []),
  (30, .new 107, 3, (142, 111, 3), [], [413, 80, 513]),
  (33, .dup, 1, (0, 0, 0), [], []),
  (34, .ldc 142, 2, (99, 0, 0), [], []),
  (36, .invokespecial 111, 3, (99, 0, 0), [], []),
  (39, .athrow, 1, (0, 0, 0), [], []),
  (40, .aload_n 0, 1, (0, 0, 0), [], []),
  (41, .getfield 59, 3, (6, 8, 2), [], [386]),
  (44, .iload_n 1, 1, (0, 0, 0), [], []),
  (45, .iload_n 2, 1, (0, 0, 0), [], []),
  (46, .invokevirtual 144, 3, (0, 53, 3), [], [514, 73, 515, 516]),
  (49, .ireturn, 1, (0, 0, 0), [], [])]
/-- 110: X8_project -/
def am_t110 : List am_E := [(0, .aload_n 0, 1, (0, 0, 0), [], []),
  (1, .getfield 20, 3, (6, 3, 2), [], [381]),
  (4, .iload_n 1, 1, (0, 0, 0), [], []),
  (5, .invokevirtual 148, 3, (0, 87, 4), [], [522, 69, 523, 524]),
  (8, .ifCond .ne 13, 3, (21, 0, 0), [], []),
  (11, .new 107, 3, (151, 111, 3), [], [413, 80, 526]),
  (14, .dup, 1, (0, 0, 0), [], []),
  (15, .ldc 151, 2, (99, 0, 0), [], []),
  (17, .invokespecial 111, 3, (99, 0, 0), [], []),
  (20, .athrow, 1, (0, 0, 0), [], []),
  (21, .iload_n 2, 1, (0, 0, 0), [], []),
  (22, .ifCond .lt 9, 3, (31, 0, 0), [], []),
  (25, .iload_n 2, 1, (0, 0, 0), [], []),
  (26, .bipush 7, 2, (0, 0, 0), [], []),
  (28, .if_icmp .le 13, 3, (41, 0, 0), [], []),
  (31, .new 107, 3, (153, 111, 3), [], [413, 80, 527]),
  (34, .dup, 1, (0, 0, 0), [], []),
  (35, .ldc 153, 2, (99, 0, 0), [], []),
  (37, .invokespecial 111, 3, (99, 0, 0), [], []),
  (40, .athrow, 1, (0, 0, 0), [], []),
  (41, .aload_n 0, 1, (0, 0, 0), [], []),
  (42, .getfield 59, 3, (6, 8, 2), [], [386]),
  (45, .iload_n 1, 1, (0, 0, 0), [], []),
  (46, .iload_n 2, 1, (0, 0, 0), [], []),
  (47, .invokevirtual 155, 3, (0, 54, 3), [], [528, 73, 529, 530]),
  (50, .ireturn, 1, (0, 0, 0), [], [])]
/-- 111: X8_share -/
def am_t111 : List am_E := [(0, .aload_n 0, 1, (0, 0, 0), [], []),
  (1, .getfield 20, 3, (6, 3, 2), [], [381]),
  (4, .iload_n 1, 1, (0, 0, 0), [], []),
  (5, .invokevirtual 148, 3, (0, 87, 4), [], [522, 69, 523, 524]),
  (8, .ifCond .ne 13, 3, (21, 0, 0), [], []),
  (11, .new 107, 3, (151, 111, 3), [], [413, 80, 526]),
  (14, .dup, 1, (0, 0, 0), [], []),
  (15, .ldc 151, 2, (99, 0, 0), [], []),
  (17, .invokespecial 111, 3, (99, 0, 0), [], []),
  (20, .athrow, 1, (0, 0, 0), [], []),
  (21, .aload_n 0, 1, (0, 0, 0), [], []),
  (22, .getfield 59, 3, (6, 8, 2), [], [386]),
  (25, .iload_n 1, 1, (0, 0, 0), [], []),
  (26, .invokevirtual 158, 3, (0, 62, 3), [], [596, 73, 597, 598]),
  (29, .ireturn, 1, (0, 0, 0), [], [])]
/-- 112: X8_voter -/
def am_t112 : List am_E := [(0, .aload_n 0, 1, (0, 0, 0), [], []),
  (1, .getfield 20, 3, (6, 3, 2), [], [381]),
  (4, .iload_n 1, 1, (0, 0, 0), [], []),
  (5, .invokevirtual 161, 3, (0, 88, 4), [], [604, 69, 564, 565]),
  (8, .ifCond .ne 13, 3, (21, 0, 0), [], []),
  (11, .new 107, 3, (164, 111, 3), [], [413, 80, 605]),
  (14, .dup, 1, (0, 0, 0), [], []),
  (15, .ldc 164, 2, (99, 0, 0), [], []),
  (17, .invokespecial 111, 3, (99, 0, 0), [], []),
  (20, .athrow, 1, (0, 0, 0), [], []),
  (21, .iload_n 2, 1, (0, 0, 0), [], []),
  (22, .ifCond .lt 8, 3, (30, 0, 0), [], []),
  (25, .iload_n 2, 1, (0, 0, 0), [], []),
  (26, .iconst 3, 1, (0, 0, 0), [], []),
  (27, .if_icmp .le 13, 3, (40, 0, 0), [], []),
  (30, .new 107, 3, (142, 111, 3), [], [413, 80, 513]),
  (33, .dup, 1, (0, 0, 0), [], []),
  (34, .ldc 142, 2, (99, 0, 0), [], []),
  (36, .invokespecial 111, 3, (99, 0, 0), [], []),
  (39, .athrow, 1, (0, 0, 0), [], []),
  (40, .aload_n 0, 1, (0, 0, 0), [], []),
  (41, .getfield 59, 3, (6, 8, 2), [], [386]),
  (44, .iload_n 1, 1, (0, 0, 0), [], []),
  (45, .iload_n 2, 1, (0, 0, 0), [], []),
  (46, .invokevirtual 166, 3, (0, 55, 3), [], [606, 73, 607, 608]),
  (49, .ireturn, 1, (0, 0, 0), [], [])]
/-- 113: X8_likes -/
def am_t113 : List am_E := [(0, .aload_n 0, 1, (0, 0, 0), [], []),
  (1, .getfield 20, 3, (6, 3, 2), [], [381]),
  (4, .iload_n 1, 1, (0, 0, 0), [], []),
  (5, .invokevirtual 161, 3, (0, 88, 4), [], [604, 69, 564, 565]),
  (8, .ifCond .eq 14, 3, (22, 0, 0), [], []),
  (11, .aload_n 0, 1, (0, 0, 0), [], []),
  (12, .getfield 20, 3, (6, 3, 2), [], [381]),
  (15, .iload_n 2, 1, (0, 0, 0), [], []),
  (16, .invokevirtual 148, 3, (0, 87, 4), [], [522, 69, 523, 524]),
  (19, .ifCond .ne 13, 3, (32, 0, 0), [], []),
  (22, .new 107, 3, (169, 111, 3), [], [413, 80, 618]),
  (25, .dup, 1, (0, 0, 0), [], []),
  (26, .ldc 169, 2, (99, 0, 0), [], []),
  (28, .invokespecial 111, 3, (99, 0, 0), [], []),
  (31, .athrow, 1, (0, 0, 0), [], []),
  (32, .aload_n 0, 1, (0, 0, 0), [], []),
  (33, .getfield 59, 3, (6, 8, 2), [], [386]),
  (36, .iload_n 1, 1, (0, 0, 0), [], []),
  (37, .iload_n 2, 1, (0, 0, 0), [], []),
  (38, .invokevirtual 171, 3, (0, 59, 3), [], [619, 73, 576, 577]),
  (41, .ireturn, 1, (1, 0, 0), [], [])]
/-- 114: X8_envy -/
def am_t114 : List am_E := [(0, .aload_n 0, 1, (0, 0, 0), [], []),
  (1, .getfield 20, 3, (6, 3, 2), [], [381]),
  (4, .iload_n 1, 1, (0, 0, 0), [], []),
  (5, .invokevirtual 161, 3, (0, 88, 4), [], [604, 69, 564, 565]),
  (8, .ifCond .eq 14, 3, (22, 0, 0), [], []),
  (11, .aload_n 0, 1, (0, 0, 0), [], []),
  (12, .getfield 20, 3, (6, 3, 2), [], [381]),
  (15, .iload_n 2, 1, (0, 0, 0), [], []),
  (16, .invokevirtual 161, 3, (0, 88, 4), [], [604, 69, 564, 565]),
  (19, .ifCond .ne 13, 3, (32, 0, 0), [], []),
  (22, .new 107, 3, (164, 111, 3), [], [413, 80, 605]),
  (25, .dup, 1, (0, 0, 0), [], []),
  (26, .ldc 164, 2, (99, 0, 0), [], []),
  (28, .invokespecial 111, 3, (99, 0, 0), [], []),
  (31, .athrow, 1, (0, 0, 0), [], []),
  (32, .aload_n 0, 1, (0, 0, 0), [], []),
  (33, .getfield 59, 3, (6, 8, 2), [], [386]),
  (36, .iload_n 2, 1, (0, 0, 0), [], []),
  (37, .invokevirtual 175, 3, (0, 57, 3), [], [624, 73, 568, 569]),
  (40, .aload_n 0, 1, (0, 0, 0), [], []),
  (41, .getfield 59, 3, (6, 8, 2), [], [386]),
  (44, .iload_n 1, 1, (0, 0, 0), [], []),
  (45, .invokevirtual 175, 3, (0, 57, 3), [], [624, 73, 568, 569]),
  (48, .isub, 1, (0, 0, 0), [], []),
  (49, .ireturn, 1, (0, 0, 0), [], [])]
/-- 115: X8_next -/
def am_t115 : List am_E := [(0, .aload_n 0, 1, (0, 0, 0), [], []),
  (1, .getfield 63, 3, (6, 9, 2), [], [387]),
  (4, .aload_n 0, 1, (0, 0, 0), [], []),
  (5, .getfield 59, 3, (6, 8, 2), [], [386]),
  (8, .invokevirtual 178, 3, (0, 48, 3), [], [629, 73, 630, 631]),
  (11, .aload_n 0, 1, (0, 0, 0), [], []),
  (12, .getfield 63, 3, (6, 9, 2), [], [387]),
  (15, .invokevirtual 182, 3, (0, 67, 3), [], [633, 73, 634, 635]),
  (18, .aload_n 0, 1, (0, 0, 0), [], []),
  (19, .getfield 63, 3, (6, 9, 2), [], [387]),
  (22, .invokevirtual 185, 3, (0, 69, 3), [], [641, 73, 642, 643]),
  (25, .ireturn, 1, (0, 0, 0), [], [])]
/-- 116: X8_approve -/
def am_t116 : List am_E := [(0, .aload_n 0, 1, (0, 0, 0), [], []),
  (1, .getfield 20, 3, (6, 3, 2), [], [381]),
  (4, .iload_n 1, 1, (0, 0, 0), [], []),
  (5, .invokevirtual 161, 3, (0, 88, 4), [], [604, 69, 564, 565]),
  (8, .ifCond .eq 14, 3, (22, 0, 0), [], []),
  (11, .aload_n 0, 1, (0, 0, 0), [], []),
  (12, .getfield 20, 3, (6, 3, 2), [], [381]),
  (15, .iload_n 2, 1, (0, 0, 0), [], []),
  (16, .invokevirtual 148, 3, (0, 87, 4), [], [522, 69, 523, 524]),
  (19, .ifCond .ne 13, 3, (32, 0, 0), [], []),
  (22, .new 107, 3, (169, 111, 3), [], [413, 80, 618]),
  (25, .dup, 1, (0, 0, 0), [], []),
  (26, .ldc 169, 2, (99, 0, 0), [], []),
  (28, .invokespecial 111, 3, (99, 0, 0), [], []),
  (31, .athrow, 1, (0, 0, 0), [], []),
  (32, .aload_n 0, 1, (0, 0, 0), [], []),
  (33, .getfield 59, 3, (6, 8, 2), [], [386]),
  (36, .iload_n 1, 1, (0, 0, 0), [], []),
  (37, .iload_n 2, 1, (0, 0, 0), [], []),
  (38, .invokevirtual 171, 3, (0, 59, 3), [], [619, 73, 576, 577]),
  (41, .istore 4, 2, (0, 0, 0), [], []),
  (43, .aload_n 0, 1, (0, 0, 0), [], []),
  (44, .getfield 59, 3, (6, 8, 2), [], [386]),
  (47, .iload_n 1, 1, (0, 0, 0), [], []),
  (48, .iload_n 2, 1, (0, 0, 0), [], []),
  (49, .iload_n 3, 1, (0, 0, 0), [], []),
  (50, .invokevirtual 189, 3, (0, 63, 3), [], [720, 73, 721, 722]),
  (53, .iload 4, 2, (0, 0, 0), [], []),
  (55, .ireturn, 1, (1, 0, 0), [], [])]
/-- 117: X8_give -/
def am_t117 : List am_E := [(0, .aload_n 0, 1, (0, 0, 0), [], []),
  (1, .getfield 20, 3, (6, 3, 2), [], [381]),
  (4, .iload_n 1, 1, (0, 0, 0), [], []),
  (5, .invokevirtual 161, 3, (0, 88, 4), [], [604, 69, 564, 565]),
  (8, .ifCond .ne 13, 3, (21, 0, 0), [], []),
  (11, .new 107, 3, (164, 111, 3), [], [413, 80, 605]),
  (14, .dup, 1, (0, 0, 0), [], []),
  (15, .ldc 164, 2, (99, 0, 0), [], []),
  (17, .invokespecial 111, 3, (99, 0, 0), [], []),
  (20, .athrow, 1, (0, 0, 0), [], []),
  (21, .iload_n 2, 1, (0, 0, 0), [], []),
  (22, .iconst 1, 1, (0, 0, 0), [], []),
  (23, .if_icmp .lt 10, 3, (33, 0, 0), [], []),
  (26, .iload_n 2, 1, (0, 0, 0), [], []),
  (27, .sipush 999, 3, (0, 0, 0), [], []),
  (30, .if_icmp .le 13, 3, (43, 0, 0), [], []),
  (33, .new 80, 3, (193, 84, 2), [], [654, 77, 1437]),
  (36, .dup, 1, (0, 0, 0), [], []),
  (37, .ldc 193, 2, (99, 0, 0), [], []),
  (39, .invokespecial 84, 3, (99, 0, 0), [], []),
  (42, .athrow, 1, (0, 0, 0), [], []),
  (43, .aload_n 0, 1, (0, 0, 0), [], []),
  (44, .getfield 59, 3, (6, 8, 2), [], [386]),
  (47, .iload_n 1, 1, (0, 0, 0), [], []),
  (48, .iload_n 2, 1, (0, 0, 0), [], []),
  (49, .invokevirtual 195, 3, (0, 64, 3), [], [1438, 73, 638, 639]),
  (52, .aload_n 0, 1, (0, 0, 0), [], []),
  (53, .getfield 59, 3, (6, 8, 2), [], [386]),
  (56, .getfield 199, 3, (3, 3, 2), [], [334]),
  (59, .iload_n 1, 1, (0, 0, 0), [], []),
  (60, .iaload, 1, (0, 0, 0), [], []),
  (61, .ireturn, 1, (0, 0, 0), [], [])]
/-- 118: X8_setBudget -/
def am_t118 : List am_E := [(0, .iload_n 1, 1, (0, 0, 0), [], []),
  (1, .ifCond .lt 10, 3, (11, 0, 0), [], []),
  (4, .iload_n 1, 1, (0, 0, 0), [], []),
  (5, .sipush 9999, 3, (0, 0, 0), [], []),
  (8, .if_icmp .le 13, 3, (21, 0, 0), [], []),
  (11, .new 80, 3, (203, 84, 2), [], [654, 77, 1443]),
  (14, .dup, 1, (0, 0, 0), [], []),
  (15, .ldc 203, 2, (99, 0, 0), [], []),
  (17, .invokespecial 84, 3, (99, 0, 0), [], []),
  (20, .athrow, 1, (0, 0, 0), [], []),
  (21, .aload_n 0, 1, (0, 0, 0), [], []),
  (22, .getfield 59, 3, (6, 8, 2), [], [386]),
  (25, .getfield 130, 3, (3, 1, 0), [], [330]),
  (28, .istore_n 2, 1, (0, 0, 0), [], []),
  (29, .aload_n 0, 1, (0, 0, 0), [], []),
  (30, .getfield 59, 3, (6, 8, 2), [], [386]),
  (33, .iload_n 1, 1, (0, 0, 0), [], []),
  (34, .putfield 130, 3, (3, 1, 0), [], [330]),
  (37, .iload_n 2, 1, (0, 0, 0), [], []),
  (38, .ireturn, 1, (0, 0, 0), [], [])]
/-- 119: X8_open -/
def am_t119 : List am_E := [(0, .aload_n 0, 1, (0, 0, 0), [], []),
  (1, .getfield 20, 3, (6, 3, 2), [], [381]),
  (4, .iload_n 1, 1, (0, 0, 0), [], []),
  (5, .invokevirtual 148, 3, (0, 87, 4), [], [522, 69, 523, 524]),
  (8, .ifCond .ne 13, 3, (21, 0, 0), [], []),
  (11, .new 107, 3, (151, 111, 3), [], [413, 80, 526]),
  (14, .dup, 1, (0, 0, 0), [], []),
  (15, .ldc 151, 2, (99, 0, 0), [], []),
  (17, .invokespecial 111, 3, (99, 0, 0), [], []),
  (20, .athrow, 1, (0, 0, 0), [], []),
  (21, .aload_n 0, 1, (0, 0, 0), [], []),
  (22, .getfield 59, 3, (6, 8, 2), [], [386]),
  (25, .iload_n 1, 1, (0, 0, 0), [], []),
  (26, .invokevirtual 205, 3, (0, 58, 3), [], [709, 73, 497, 498]),
  (29, .ifCond .eq 13, 3, (42, 0, 0), [], []),
  (32, .new 69, 3, (208, 73, 1), [], [936, 78, 1448]),
  (35, .dup, 1, (0, 0, 0), [], []),
  (36, .ldc 208, 2, (99, 0, 0), [], []),
  (38, .invokespecial 73, 3, (99, 0, 0), [], []),
  (41, .athrow, 1, (0, 0, 0), [], []),
  (42, .aload_n 0, 1, (0, 0, 0), [], []),
  (43, .getfield 59, 3, (6, 8, 2), [], [386]),
  (46, .getfield 210, 3, (3, 4, 2), [], [336]),
  (49, .iload_n 1, 1, (0, 0, 0), [], []),
  (50, .iaload, 1, (0, 0, 0), [], []),
  (51, .istore_n 2, 1, (0, 0, 0), [], []),
  (52, .aload_n 0, 1, (0, 0, 0), [], []),
  (53, .getfield 59, 3, (6, 8, 2), [], [386]),
  (56, .iload_n 1, 1, (0, 0, 0), [], []),
  (57, .invokevirtual 213, 3, (0, 65, 3), [], [1449, 73, 1450, 1451]),
  (60, .iload_n 2, 1, (0, 0, 0), [], []),
  (61, .ireturn, 1, (0, 0, 0), [], [])]
/-- 120: X8_pass -/
def am_t120 : List am_E := [(0, .iload_n 1, 1, (0, 0, 0), [], []),
  (1, .iconst 1, 1, (0, 0, 0), [], []),
  (2, .if_icmp .lt 9, 3, (11, 0, 0), [], []),
  (5, .iload_n 1, 1, (0, 0, 0), [], []),
  (6, .bipush 60, 2, (0, 0, 0), [], []),
  (8, .if_icmp .le 13, 3, (21, 0, 0), [], []),
  (11, .new 80, 3, (216, 84, 2), [], [654, 77, 663]),
  (14, .dup, 1, (0, 0, 0), [], []),
  (15, .ldc 216, 2, (99, 0, 0), [], []),
  (17, .invokespecial 84, 3, (99, 0, 0), [], []),
  (20, .athrow, 1, (0, 0, 0), [], []),
  (21, .aload_n 0, 1, (0, 0, 0), [], []),
  (22, .getfield 59, 3, (6, 8, 2), [], [386]),
  (25, .invokevirtual 218, 3, (0, 51, 3), [], [670, 73, 493, 494]),
  (28, .istore_n 2, 1, (0, 0, 0), [], []),
  (29, .aload_n 0, 1, (0, 0, 0), [], []),
  (30, .getfield 59, 3, (6, 8, 2), [], [386]),
  (33, .iload_n 1, 1, (0, 0, 0), [], []),
  (34, .invokevirtual 221, 3, (0, 66, 3), [], [671, 73, 672, 673]),
  (37, .aload_n 0, 1, (0, 0, 0), [], []),
  (38, .getfield 59, 3, (6, 8, 2), [], [386]),
  (41, .invokevirtual 218, 3, (0, 51, 3), [], [670, 73, 493, 494]),
  (44, .iload_n 2, 1, (0, 0, 0), [], []),
  (45, .isub, 1, (0, 0, 0), [], []),
  (46, .ireturn, 1, (0, 0, 0), [], [])]
/-- 121: X8_until -/
def am_t121 : List am_E := [(0, .aload_n 0, 1, (0, 0, 0), [], []),
  (1, .getfield 20, 3, (6, 3, 2), [], [381]),
  (4, .iload_n 1, 1, (0, 0, 0), [], []),
  (5, .invokevirtual 148, 3, (0, 87, 4), [], [522, 69, 523, 524]),
  (8, .ifCond .ne 13, 3, (21, 0, 0), [], []),
  (11, .new 107, 3, (151, 111, 3), [], [413, 80, 526]),
  (14, .dup, 1, (0, 0, 0), [], []),
  (15, .ldc 151, 2, (99, 0, 0), [], []),
  (17, .invokespecial 111, 3, (99, 0, 0), [], []),
  (20, .athrow, 1, (0, 0, 0), [], []),
  (21, .aload_n 0, 1, (0, 0, 0), [], []),
  (22, .getfield 63, 3, (6, 9, 2), [], [387]),
  (25, .aload_n 0, 1, (0, 0, 0), [], []),
  (26, .getfield 59, 3, (6, 8, 2), [], [386]),
  (29, .invokevirtual 178, 3, (0, 48, 3), [], [629, 73, 630, 631]),
  (32, .iconst 0, 1, (0, 0, 0), [], []),
  (33, .istore_n 2, 1, (0, 0, 0), [], []),
  (34, .iload_n 2, 1, (0, 0, 0), [], []),
  (35, .bipush 60, 2, (0, 0, 0), [], []),
  (37, .if_icmp .gt 34, 3, (71, 0, 0), [], []),
  (40, .iload_n 2, 1, (0, 0, 0), [], []),
  (41, .ifCond .le 11, 3, (52, 0, 0), [], []),
  (44, .aload_n 0, 1, (0, 0, 0), [], []),
  (45, .getfield 63, 3, (6, 9, 2), [], [387]),
  (48, .iconst 1, 1, (0, 0, 0), [], []),
  (49, .invokevirtual 221, 3, (0, 66, 3), [], [671, 73, 672, 673]),
  (52, .aload_n 0, 1, (0, 0, 0), [], []),
  (53, .getfield 63, 3, (6, 9, 2), [], [387]),
  (56, .iload_n 1, 1, (0, 0, 0), [], []),
  (57, .invokevirtual 205, 3, (0, 58, 3), [], [709, 73, 497, 498]),
  (60, .ifCond .ne 5, 3, (65, 0, 0), [], []),
  (63, .iload_n 2, 1, (0, 0, 0), [], []),
  (64, .ireturn, 1, (0, 0, 0), [], []),
  (65, .iinc 2 1, 3, (0, 0, 0), [], []),
  (68, .goto (-34), 3, (34, 0, 0), [], []),
  (71, .iconst (-1), 1, (0, 0, 0), [], []),
  (72, .ireturn, 1, (0, 0, 0), [], [])]
/-- 122: X8_foresee -/
def am_t122 : List am_E := [(0, .iload_n 1, 1, (0, 0, 0), [], []),
  (1, .iconst 1, 1, (0, 0, 0), [], []),
  (2, .if_icmp .lt 9, 3, (11, 0, 0), [], []),
  (5, .iload_n 1, 1, (0, 0, 0), [], []),
  (6, .bipush 60, 2, (0, 0, 0), [], []),
  (8, .if_icmp .le 13, 3, (21, 0, 0), [], []),
  (11, .new 80, 3, (216, 84, 2), [], [654, 77, 663]),
  (14, .dup, 1, (0, 0, 0), [], []),
  (15, .ldc 216, 2, (99, 0, 0), [], []),
  (17, .invokespecial 84, 3, (99, 0, 0), [], []),
  (20, .athrow, 1, (0, 0, 0), [], []),
  (21, .iload_n 2, 1, (0, 0, 0), [], []),
  (22, .bipush 6, 2, (0, 0, 0), [], []),
  (24, .if_icmp .lt 9, 3, (33, 0, 0), [], []),
  (27, .iload_n 2, 1, (0, 0, 0), [], []),
  (28, .bipush 10, 2, (0, 0, 0), [], []),
  (30, .if_icmp .le 13, 3, (43, 0, 0), [], []),
  (33, .new 107, 3, (224, 111, 3), [], [413, 80, 714]),
  (36, .dup, 1, (0, 0, 0), [], []),
  (37, .ldc 224, 2, (99, 0, 0), [], []),
  (39, .invokespecial 111, 3, (99, 0, 0), [], []),
  (42, .athrow, 1, (0, 0, 0), [], []),
  (43, .aload_n 0, 1, (0, 0, 0), [], []),
  (44, .getfield 63, 3, (6, 9, 2), [], [387]),
  (47, .aload_n 0, 1, (0, 0, 0), [], []),
  (48, .getfield 59, 3, (6, 8, 2), [], [386]),
  (51, .invokevirtual 178, 3, (0, 48, 3), [], [629, 73, 630, 631]),
  (54, .aload_n 0, 1, (0, 0, 0), [], []),
  (55, .getfield 63, 3, (6, 9, 2), [], [387]),
  (58, .iload_n 1, 1, (0, 0, 0), [], []),
  (59, .invokevirtual 221, 3, (0, 66, 3), [], [671, 73, 672, 673]),
  (62, .aload_n 0, 1, (0, 0, 0), [], []),
  (63, .getfield 63, 3, (6, 9, 2), [], [387]),
  (66, .iload_n 2, 1, (0, 0, 0), [], []),
  (67, .invokevirtual 133, 3, (0, 49, 3), [], [484, 73, 485, 486]),
  (70, .ireturn, 1, (0, 0, 0), [], [])]
/-- 123: X8_advise -/
def am_t123_0 : List am_E := [(0, .aload_n 0, 1, (0, 0, 0), [], []),
  (1, .getfield 20, 3, (6, 3, 2), [], [381]),
  (4, .iload_n 1, 1, (0, 0, 0), [], []),
  (5, .invokevirtual 161, 3, (0, 88, 4), [], [604, 69, 564, 565]),
  (8, .ifCond .ne 13, 3, (21, 0, 0), [], []),
  (11, .new 107, 3, (164, 111, 3), [], [413, 80, 605]),
  (14, .dup, 1, (0, 0, 0), [], []),
  (15, .ldc 164, 2, (99, 0, 0), [], []),
  (17, .invokespecial 111, 3, (99, 0, 0), [], []),
  (20, .athrow, 1, (0, 0, 0), [], []),
  (21, .iload_n 2, 1, (0, 0, 0), [], []),
  (22, .iconst 1, 1, (0, 0, 0), [], []),
  (23, .if_icmp .lt 9, 3, (32, 0, 0), [], []),
  (26, .iload_n 2, 1, (0, 0, 0), [], []),
  (27, .bipush 20, 2, (0, 0, 0), [], []),
  (29, .if_icmp .le 13, 3, (42, 0, 0), [], []),
  (32, .new 80, 3, (226, 84, 2), [], [654, 77, 719]),
  (35, .dup, 1, (0, 0, 0), [], []),
  (36, .ldc 226, 2, (99, 0, 0), [], []),
  (38, .invokespecial 84, 3, (99, 0, 0), [], []),
  (41, .athrow, 1, (0, 0, 0), [], []),
  (42, .aload_n 0, 1, (0, 0, 0), [], []),
  (43, .getfield 63, 3, (6, 9, 2), [], [387]),
  (46, .aload_n 0, 1, (0, 0, 0), [], []),
  (47, .getfield 59, 3, (6, 8, 2), [], [386]),
  (50, .invokevirtual 178, 3, (0, 48, 3), [], [629, 73, 630, 631]),
  (53, .aload_n 0, 1, (0, 0, 0), [], []),
  (54, .getfield 63, 3, (6, 9, 2), [], [387]),
  (57, .iload_n 2, 1, (0, 0, 0), [], []),
  (58, .invokevirtual 221, 3, (0, 66, 3), [], [671, 73, 672, 673]),
  (61, .iconst (-1), 1, (0, 0, 0), [], []),
  (62, .istore_n 3, 1, (0, 0, 0), [], []),
  (63, .aload_n 0, 1, (0, 0, 0), [], []),
  (64, .getfield 63, 3, (6, 9, 2), [], [387]),
  (67, .iload_n 1, 1, (0, 0, 0), [], []),
  (68, .invokevirtual 175, 3, (0, 57, 3), [], [624, 73, 568, 569]),
  (71, .istore 4, 2, (0, 0, 0), [], []),
  (73, .iconst 0, 1, (0, 0, 0), [], []),
  (74, .istore 5, 2, (0, 0, 0), [], []),
  (76, .iload 5, 2, (0, 0, 0), [], []),
  (78, .aload_n 0, 1, (0, 0, 0), [], []),
  (79, .getfield 20, 3, (6, 3, 2), [], [381]),
  (82, .getfield 121, 3, (4, 1, 0), [], [103]),
  (85, .if_icmp .ge 90, 3, (175, 0, 0), [], []),
  (88, .aload_n 0, 1, (0, 0, 0), [], []),
  (89, .getfield 59, 3, (6, 8, 2), [], [386]),
  (92, .iload 5, 2, (0, 0, 0), [], []),
  (94, .invokevirtual 205, 3, (0, 58, 3), [], [709, 73, 497, 498]),
  (97, .ifCond .eq 72, 3, (169, 0, 0), [], []),
  (100, .aload_n 0, 1, (0, 0, 0), [], []),
  (101, .getfield 59, 3, (6, 8, 2), [], [386]),
  (104, .iload_n 1, 1, (0, 0, 0), [], []),
  (105, .iload 5, 2, (0, 0, 0), [], []),
  (107, .invokevirtual 171, 3, (0, 59, 3), [], [619, 73, 576, 577]),
  (110, .ifCond .ne 59, 3, (169, 0, 0), [], []),
  (113, .aload_n 0, 1, (0, 0, 0), [], []),
  (114, .getfield 63, 3, (6, 9, 2), [], [387]),
  (117, .aload_n 0, 1, (0, 0, 0), [], []),
  (118, .getfield 59, 3, (6, 8, 2), [], [386]),
  (121, .invokevirtual 178, 3, (0, 48, 3), [], [629, 73, 630, 631])]
def am_t123_1 : List am_E := [(124, .aload_n 0, 1, (0, 0, 0), [], []),
  (125, .getfield 63, 3, (6, 9, 2), [], [387]),
  (128, .iload_n 1, 1, (0, 0, 0), [], []),
  (129, .iload 5, 2, (0, 0, 0), [], []),
  (131, .iconst 1, 1, (0, 0, 0), [], []),
  (132, .invokevirtual 189, 3, (0, 63, 3), [], [720, 73, 721, 722]),
  (135, .aload_n 0, 1, (0, 0, 0), [], []),
  (136, .getfield 63, 3, (6, 9, 2), [], [387]),
  (139, .iload_n 2, 1, (0, 0, 0), [], []),
  (140, .invokevirtual 221, 3, (0, 66, 3), [], [671, 73, 672, 673]),
  (143, .aload_n 0, 1, (0, 0, 0), [], []),
  (144, .getfield 63, 3, (6, 9, 2), [], [387]),
  (147, .iload_n 1, 1, (0, 0, 0), [], []),
  (148, .invokevirtual 175, 3, (0, 57, 3), [], [624, 73, 568, 569]),
  (151, .iload 4, 2, (0, 0, 0), [], []),
  (153, .if_icmp .le 16, 3, (169, 0, 0), [], []),
  (156, .aload_n 0, 1, (0, 0, 0), [], []),
  (157, .getfield 63, 3, (6, 9, 2), [], [387]),
  (160, .iload_n 1, 1, (0, 0, 0), [], []),
  (161, .invokevirtual 175, 3, (0, 57, 3), [], [624, 73, 568, 569]),
  (164, .istore 4, 2, (0, 0, 0), [], []),
  (166, .iload 5, 2, (0, 0, 0), [], []),
  (168, .istore_n 3, 1, (0, 0, 0), [], []),
  (169, .iinc 5 1, 3, (0, 0, 0), [], []),
  (172, .goto (-96), 3, (76, 0, 0), [], []),
  (175, .iload_n 3, 1, (0, 0, 0), [], []),
  (176, .ireturn, 1, (0, 0, 0), [], [])]
def am_t123 : List am_E := am_t123_0 ++ (am_t123_1)
/-- 124: X8_spare -/
def am_t124 : List am_E := [(0, .iload_n 1, 1, (0, 0, 0), [], []),
  (1, .iconst 1, 1, (0, 0, 0), [], []),
  (2, .if_icmp .lt 9, 3, (11, 0, 0), [], []),
  (5, .iload_n 1, 1, (0, 0, 0), [], []),
  (6, .bipush 20, 2, (0, 0, 0), [], []),
  (8, .if_icmp .le 13, 3, (21, 0, 0), [], []),
  (11, .new 80, 3, (226, 84, 2), [], [654, 77, 719]),
  (14, .dup, 1, (0, 0, 0), [], []),
  (15, .ldc 226, 2, (99, 0, 0), [], []),
  (17, .invokespecial 84, 3, (99, 0, 0), [], []),
  (20, .athrow, 1, (0, 0, 0), [], []),
  (21, .iconst (-1), 1, (0, 0, 0), [], []),
  (22, .istore_n 2, 1, (0, 0, 0), [], []),
  (23, .iconst (-1), 1, (0, 0, 0), [], []),
  (24, .istore_n 3, 1, (0, 0, 0), [], []),
  (25, .iconst 0, 1, (0, 0, 0), [], []),
  (26, .istore 4, 2, (0, 0, 0), [], []),
  (28, .iload 4, 2, (0, 0, 0), [], []),
  (30, .aload_n 0, 1, (0, 0, 0), [], []),
  (31, .getfield 20, 3, (6, 3, 2), [], [381]),
  (34, .getfield 121, 3, (4, 1, 0), [], [103]),
  (37, .if_icmp .ge 71, 3, (108, 0, 0), [], []),
  (40, .aload_n 0, 1, (0, 0, 0), [], []),
  (41, .getfield 59, 3, (6, 8, 2), [], [386]),
  (44, .iload 4, 2, (0, 0, 0), [], []),
  (46, .invokevirtual 205, 3, (0, 58, 3), [], [709, 73, 497, 498]),
  (49, .ifCond .eq 53, 3, (102, 0, 0), [], []),
  (52, .aload_n 0, 1, (0, 0, 0), [], []),
  (53, .getfield 63, 3, (6, 9, 2), [], [387]),
  (56, .aload_n 0, 1, (0, 0, 0), [], []),
  (57, .getfield 59, 3, (6, 8, 2), [], [386]),
  (60, .invokevirtual 178, 3, (0, 48, 3), [], [629, 73, 630, 631]),
  (63, .aload_n 0, 1, (0, 0, 0), [], []),
  (64, .getfield 63, 3, (6, 9, 2), [], [387]),
  (67, .iload 4, 2, (0, 0, 0), [], []),
  (69, .putfield 228, 3, (3, 2, 0), [], [332]),
  (72, .aload_n 0, 1, (0, 0, 0), [], []),
  (73, .getfield 63, 3, (6, 9, 2), [], [387]),
  (76, .iload_n 1, 1, (0, 0, 0), [], []),
  (77, .invokevirtual 221, 3, (0, 66, 3), [], [671, 73, 672, 673]),
  (80, .aload_n 0, 1, (0, 0, 0), [], []),
  (81, .getfield 63, 3, (6, 9, 2), [], [387]),
  (84, .invokevirtual 218, 3, (0, 51, 3), [], [670, 73, 493, 494]),
  (87, .iload_n 3, 1, (0, 0, 0), [], []),
  (88, .if_icmp .le 14, 3, (102, 0, 0), [], []),
  (91, .aload_n 0, 1, (0, 0, 0), [], []),
  (92, .getfield 63, 3, (6, 9, 2), [], [387]),
  (95, .invokevirtual 218, 3, (0, 51, 3), [], [670, 73, 493, 494]),
  (98, .istore_n 3, 1, (0, 0, 0), [], []),
  (99, .iload 4, 2, (0, 0, 0), [], []),
  (101, .istore_n 2, 1, (0, 0, 0), [], []),
  (102, .iinc 4 1, 3, (0, 0, 0), [], []),
  (105, .goto (-77), 3, (28, 0, 0), [], []),
  (108, .iload_n 2, 1, (0, 0, 0), [], []),
  (109, .ireturn, 1, (0, 0, 0), [], [])]
/-- 125: X8_mean -/
def am_t125 : List am_E := [(0, .aload_n 0, 1, (0, 0, 0), [], []),
  (1, .getfield 20, 3, (6, 3, 2), [], [381]),
  (4, .getfield 124, 3, (4, 2, 0), [], [107]),
  (7, .ifCond .ne 5, 3, (12, 0, 0), [], []),
  (10, .dconst 0, 1, (0, 0, 0), [], []),
  (11, .dreturn, 1, (0, 0, 0), [], []),
  (12, .iconst 0, 1, (0, 0, 0), [], []),
  (13, .istore_n 1, 1, (0, 0, 0), [], []),
  (14, .iconst 0, 1, (0, 0, 0), [], []),
  (15, .istore_n 2, 1, (0, 0, 0), [], []),
  (16, .iload_n 2, 1, (0, 0, 0), [], []),
  (17, .aload_n 0, 1, (0, 0, 0), [], []),
  (18, .getfield 20, 3, (6, 3, 2), [], [381]),
  (21, .getfield 124, 3, (4, 2, 0), [], [107]),
  (24, .if_icmp .ge 20, 3, (44, 0, 0), [], []),
  (27, .iload_n 1, 1, (0, 0, 0), [], []),
  (28, .aload_n 0, 1, (0, 0, 0), [], []),
  (29, .getfield 59, 3, (6, 8, 2), [], [386]),
  (32, .iload_n 2, 1, (0, 0, 0), [], []),
  (33, .invokevirtual 175, 3, (0, 57, 3), [], [624, 73, 568, 569]),
  (36, .iadd, 1, (0, 0, 0), [], []),
  (37, .istore_n 1, 1, (0, 0, 0), [], []),
  (38, .iinc 2 1, 3, (0, 0, 0), [], []),
  (41, .goto (-25), 3, (16, 0, 0), [], []),
  (44, .iload_n 1, 1, (0, 0, 0), [], []),
  (45, .i2d, 1, (0, 0, 0), [], []),
  (46, .aload_n 0, 1, (0, 0, 0), [], []),
  (47, .getfield 20, 3, (6, 3, 2), [], [381]),
  (50, .getfield 124, 3, (4, 2, 0), [], [107]),
  (53, .i2d, 1, (0, 0, 0), [], []),
  (54, .ddiv, 1, (0, 0, 0), [], []),
  (55, .dreturn, 1, (0, 0, 0), [], [])]
/-- 126: X8_digest -/
def am_t126_0 : List am_E := [(0, .ldc2_w 231, 3, (0, 0, 0), [(881, 1)], [736]),
  (3, .lstore_n 1, 1, (0, 0, 0), [], []),
  (4, .iconst 0, 1, (0, 0, 0), [], []),
  (5, .istore_n 3, 1, (0, 0, 0), [], []),
  (6, .iload_n 3, 1, (0, 0, 0), [], []),
  (7, .bipush 11, 2, (0, 0, 0), [], []),
  (9, .if_icmp .gt 22, 3, (31, 0, 0), [], []),
  (12, .lload_n 1, 1, (0, 0, 0), [], []),
  (13, .ldc2_w 233, 3, (0, 0, 0), [(31, 1)], [737]),
  (16, .lmul, 1, (0, 0, 0), [], []),
  (17, .aload_n 0, 1, (0, 0, 0), [], []),
  (18, .iload_n 3, 1, (0, 0, 0), [], []),
  (19, .invokevirtual 112, 3, (0, 108, 6), [], [480, 68, 482, 1]),
  (22, .i2l, 1, (0, 0, 0), [], []),
  (23, .ladd, 1, (0, 0, 0), [], []),
  (24, .lstore_n 1, 1, (0, 0, 0), [], []),
  (25, .iinc 3 1, 3, (0, 0, 0), [], []),
  (28, .goto (-22), 3, (6, 0, 0), [], []),
  (31, .iconst 0, 1, (0, 0, 0), [], []),
  (32, .istore_n 3, 1, (0, 0, 0), [], []),
  (33, .iload_n 3, 1, (0, 0, 0), [], []),
  (34, .aload_n 0, 1, (0, 0, 0), [], []),
  (35, .getfield 20, 3, (6, 3, 2), [], [381]),
  (38, .getfield 118, 3, (4, 0, 0), [], [99]),
  (41, .if_icmp .ge 42, 3, (83, 0, 0), [], []),
  (44, .iconst 0, 1, (0, 0, 0), [], []),
  (45, .istore 4, 2, (0, 0, 0), [], []),
  (47, .iload 4, 2, (0, 0, 0), [], []),
  (49, .iconst 3, 1, (0, 0, 0), [], []),
  (50, .if_icmp .gt 27, 3, (77, 0, 0), [], []),
  (53, .lload_n 1, 1, (0, 0, 0), [], []),
  (54, .ldc2_w 233, 3, (0, 0, 0), [(31, 1)], [737]),
  (57, .lmul, 1, (0, 0, 0), [], []),
  (58, .aload_n 0, 1, (0, 0, 0), [], []),
  (59, .getfield 59, 3, (6, 8, 2), [], [386]),
  (62, .iload_n 3, 1, (0, 0, 0), [], []),
  (63, .iload 4, 2, (0, 0, 0), [], []),
  (65, .invokevirtual 144, 3, (0, 53, 3), [], [514, 73, 515, 516]),
  (68, .i2l, 1, (0, 0, 0), [], []),
  (69, .ladd, 1, (0, 0, 0), [], []),
  (70, .lstore_n 1, 1, (0, 0, 0), [], []),
  (71, .iinc 4 1, 3, (0, 0, 0), [], []),
  (74, .goto (-27), 3, (47, 0, 0), [], []),
  (77, .iinc 3 1, 3, (0, 0, 0), [], []),
  (80, .goto (-47), 3, (33, 0, 0), [], []),
  (83, .iconst 0, 1, (0, 0, 0), [], []),
  (84, .istore_n 3, 1, (0, 0, 0), [], []),
  (85, .iload_n 3, 1, (0, 0, 0), [], []),
  (86, .aload_n 0, 1, (0, 0, 0), [], []),
  (87, .getfield 20, 3, (6, 3, 2), [], [381]),
  (90, .getfield 121, 3, (4, 1, 0), [], [103]),
  (93, .if_icmp .ge 59, 3, (152, 0, 0), [], []),
  (96, .iconst 0, 1, (0, 0, 0), [], []),
  (97, .istore 4, 2, (0, 0, 0), [], []),
  (99, .iload 4, 2, (0, 0, 0), [], []),
  (101, .bipush 7, 2, (0, 0, 0), [], []),
  (103, .if_icmp .gt 27, 3, (130, 0, 0), [], []),
  (106, .lload_n 1, 1, (0, 0, 0), [], []),
  (107, .ldc2_w 233, 3, (0, 0, 0), [(31, 1)], [737]),
  (110, .lmul, 1, (0, 0, 0), [], [])]
def am_t126_1 : List am_E := [(111, .aload_n 0, 1, (0, 0, 0), [], []),
  (112, .getfield 59, 3, (6, 8, 2), [], [386]),
  (115, .iload_n 3, 1, (0, 0, 0), [], []),
  (116, .iload 4, 2, (0, 0, 0), [], []),
  (118, .invokevirtual 155, 3, (0, 54, 3), [], [528, 73, 529, 530]),
  (121, .i2l, 1, (0, 0, 0), [], []),
  (122, .ladd, 1, (0, 0, 0), [], []),
  (123, .lstore_n 1, 1, (0, 0, 0), [], []),
  (124, .iinc 4 1, 3, (0, 0, 0), [], []),
  (127, .goto (-28), 3, (99, 0, 0), [], []),
  (130, .lload_n 1, 1, (0, 0, 0), [], []),
  (131, .ldc2_w 233, 3, (0, 0, 0), [(31, 1)], [737]),
  (134, .lmul, 1, (0, 0, 0), [], []),
  (135, .aload_n 0, 1, (0, 0, 0), [], []),
  (136, .getfield 59, 3, (6, 8, 2), [], [386]),
  (139, .iload_n 3, 1, (0, 0, 0), [], []),
  (140, .invokevirtual 158, 3, (0, 62, 3), [], [596, 73, 597, 598]),
  (143, .i2l, 1, (0, 0, 0), [], []),
  (144, .ladd, 1, (0, 0, 0), [], []),
  (145, .lstore_n 1, 1, (0, 0, 0), [], []),
  (146, .iinc 3 1, 3, (0, 0, 0), [], []),
  (149, .goto (-64), 3, (85, 0, 0), [], []),
  (152, .iconst 0, 1, (0, 0, 0), [], []),
  (153, .istore_n 3, 1, (0, 0, 0), [], []),
  (154, .iload_n 3, 1, (0, 0, 0), [], []),
  (155, .aload_n 0, 1, (0, 0, 0), [], []),
  (156, .getfield 20, 3, (6, 3, 2), [], [381]),
  (159, .getfield 124, 3, (4, 2, 0), [], [107]),
  (162, .if_icmp .ge 42, 3, (204, 0, 0), [], []),
  (165, .iconst 0, 1, (0, 0, 0), [], []),
  (166, .istore 4, 2, (0, 0, 0), [], []),
  (168, .iload 4, 2, (0, 0, 0), [], []),
  (170, .iconst 3, 1, (0, 0, 0), [], []),
  (171, .if_icmp .gt 27, 3, (198, 0, 0), [], []),
  (174, .lload_n 1, 1, (0, 0, 0), [], []),
  (175, .ldc2_w 233, 3, (0, 0, 0), [(31, 1)], [737]),
  (178, .lmul, 1, (0, 0, 0), [], []),
  (179, .aload_n 0, 1, (0, 0, 0), [], []),
  (180, .getfield 59, 3, (6, 8, 2), [], [386]),
  (183, .iload_n 3, 1, (0, 0, 0), [], []),
  (184, .iload 4, 2, (0, 0, 0), [], []),
  (186, .invokevirtual 166, 3, (0, 55, 3), [], [606, 73, 607, 608]),
  (189, .i2l, 1, (0, 0, 0), [], []),
  (190, .ladd, 1, (0, 0, 0), [], []),
  (191, .lstore_n 1, 1, (0, 0, 0), [], []),
  (192, .iinc 4 1, 3, (0, 0, 0), [], []),
  (195, .goto (-27), 3, (168, 0, 0), [], []),
  (198, .iinc 3 1, 3, (0, 0, 0), [], []),
  (201, .goto (-47), 3, (154, 0, 0), [], []),
  (204, .lload_n 1, 1, (0, 0, 0), [], []),
  (205, .ldc2_w 233, 3, (0, 0, 0), [(31, 1)], [737]),
  (208, .lmul, 1, (0, 0, 0), [], []),
  (209, .aload_n 0, 1, (0, 0, 0), [], []),
  (210, .invokevirtual 235, 3, (0, 115, 6), [], [738, 68, 626, 627]),
  (213, .i2l, 1, (0, 0, 0), [], []),
  (214, .ladd, 1, (0, 0, 0), [], []),
  (215, .lreturn, 1, (0, 0, 0), [], [])]
def am_t126 : List am_E := am_t126_0 ++ (am_t126_1)
/-- 127: J0_init_81219 -/
def am_t127 : List am_E := [(0, .aload_n 0, 1, (0, 0, 0), [], []),
  (1, .aload_n 1, 1, (0, 0, 0), [], []),
  (2, .aconst_null, 1, (0, 0, 0), [], []),
  (3, .invokespecial 489, 3, (4, 128, 62), [], [1357, 57, 1358]),
  (6, .return_, 1, (0, 0, 0), [], [])]
/-- 128: J0_init_db425 -/
def am_t128 : List am_E := [(0, .aload_n 0, 1, (0, 0, 0), [], []),
  (1, .invokespecial 1, 3, (17, 0, 0), [], [1360, 89, 90]),
  (4, .aload_n 1, 1, (0, 0, 0), [], []),
  (5, .invokevirtual 552, 3, (8, 137, 8), [], [1361, 55, 1362, 1363, 1364]),
  (8, .astore_n 3, 1, (1, 0, 0), [], []),
  (9, .aload_n 1, 1, (0, 0, 0), [], []),
  (10, .invokevirtual 549, 3, (10, 132, 8), [], [1366, 56, 1370, 1368, 1367, 1369]),
  (13, .istore 4, 2, (0, 0, 0), [], []),
  (15, .aload_n 1, 1, (0, 0, 0), [], []),
  (16, .invokevirtual 1047, 3, (8, 140, 8), [], [1374, 55, 1229, 1230, 1231]),
  (19, .ifCond .eq 22, 3, (41, 0, 0), [], []),
  (22, .aload_n 0, 1, (0, 0, 0), [], []),
  (23, .iconst 0, 1, (0, 0, 0), [], []),
  (24, .putfield 15, 3, (9, 1, 4), [], [1395]),
  (27, .aload_n 0, 1, (0, 0, 0), [], []),
  (28, .aload_n 3, 1, (0, 0, 0), [], []),
  (29, .iconst 0, 1, (0, 0, 0), [], []),
  (30, .iload 4, 2, (0, 0, 0), [], []),
  (32, .invokestatic 54, 3, (2, 148, 0), [], [1375, 62, 1376]),
  (35, .putfield 9, 3, (9, 0, 2), [], [1394]),
  (38, .goto 59, 3, (97, 0, 0), [], []),
  (97, .return_, 1, (0, 0, 0), [], [])]
/-- 129: J4_append_15ec4 -/
def am_t129 : List am_E := [(0, .aload_n 0, 1, (0, 0, 0), [], []),
  (1, .aload_n 1, 1, (0, 0, 0), [], []),
  (2, .invokespecial 29, 3, (9, 135, 8), [], [1195, 55, 1197, 1465, 1196]),
  (5, .pop, 1, (0, 0, 0), [], []),
  (6, .aload_n 0, 1, (0, 0, 0), [], []),
  (7, .areturn, 1, (0, 0, 0), [], [])]
/-- 130: J4_append_bf812 -/
def am_t130 : List am_E := [(0, .aload_n 0, 1, (0, 0, 0), [], []),
  (1, .iload_n 1, 1, (0, 0, 0), [], []),
  (2, .invokespecial 53, 3, (9, 134, 8), [], [1286, 55, 1287, 1472, 1196]),
  (5, .pop, 1, (0, 0, 0), [], []),
  (6, .aload_n 0, 1, (0, 0, 0), [], []),
  (7, .areturn, 1, (0, 0, 0), [], [])]
/-- 131: J4_init_da8c8 -/
def am_t131 : List am_E := [(0, .aload_n 0, 1, (0, 0, 0), [], []),
  (1, .bipush 16, 2, (0, 0, 0), [], []),
  (3, .invokespecial 1, 3, (4, 139, 62), [], [1331, 55, 1332]),
  (6, .return_, 1, (0, 0, 0), [], [])]
/-- 132: J4_length_8abf5 -/
def am_t132 : List am_E := [(0, .aload_n 0, 1, (0, 0, 0), [], []),
  (1, .invokespecial 343, 3, (9, 141, 8), [], [1372, 55, 1367, 1368, 1196]),
  (4, .ireturn, 1, (0, 0, 0), [], [])]
/-- 133: J4_toString_0e30d -/
def am_t133 : List am_E := [(0, .new 18, 3, (9, 4, 0), [], [1352, 1353, 57]),
  (3, .dup, 1, (0, 0, 0), [], []),
  (4, .aload_n 0, 1, (0, 0, 0), [], []),
  (5, .invokespecial 137, 3, (4, 127, 62), [], [1354, 57, 1355]),
  (8, .areturn, 1, (0, 0, 0), [], [])]
/-- 134: J5_append_c97b9 -/
def am_t134 : List am_E := [(0, .aload_n 0, 1, (0, 0, 0), [], []),
  (1, .getfield 79, 3, (8, 3, 0), [], [1338]),
  (4, .istore_n 2, 1, (0, 0, 0), [], []),
  (5, .iload_n 2, 1, (0, 0, 0), [], []),
  (6, .iload_n 1, 1, (0, 0, 0), [], []),
  (7, .invokestatic 245, 3, (2, 145, 0), [], [1289, 67, 1290]),
  (10, .iadd, 1, (0, 0, 0), [], []),
  (11, .istore_n 3, 1, (0, 0, 0), [], []),
  (12, .aload_n 0, 1, (0, 0, 0), [], []),
  (13, .iload_n 3, 1, (0, 0, 0), [], []),
  (14, .invokevirtual 100, 3, (8, 136, 8), [], [1203, 55, 1205, 1467, 1204]),
  (17, .aload_n 0, 1, (0, 0, 0), [], []),
  (18, .invokevirtual 83, 3, (8, 140, 8), [], [1228, 55, 1229, 1230, 1231]),
  (21, .ifCond .eq 16, 3, (37, 0, 0), [], []),
  (24, .iload_n 1, 1, (0, 0, 0), [], []),
  (25, .iload_n 3, 1, (0, 0, 0), [], []),
  (26, .aload_n 0, 1, (0, 0, 0), [], []),
  (27, .getfield 15, 3, (8, 0, 2), [], [1335]),
  (30, .invokestatic 248, 3, (2, 144, 0), [], [1292, 67, 1293]),
  (33, .pop, 1, (0, 0, 0), [], []),
  (34, .goto 14, 3, (48, 0, 0), [], []),
  (37, .iload_n 1, 1, (0, 0, 0), [], []),
  (38, .iload_n 2, 1, (0, 0, 0), [], []),
  (39, .iload_n 3, 1, (0, 0, 0), [], []),
  (40, .aload_n 0, 1, (0, 0, 0), [], []),
  (41, .getfield 15, 3, (8, 0, 2), [], [1335]),
  (44, .invokestatic 251, 3, (99, 0, 0), [], []),
  (47, .pop, 1, (0, 0, 0), [], []),
  (48, .aload_n 0, 1, (0, 0, 0), [], []),
  (49, .iload_n 3, 1, (0, 0, 0), [], []),
  (50, .putfield 79, 3, (8, 3, 0), [], [1338]),
  (53, .aload_n 0, 1, (0, 0, 0), [], []),
  (54, .areturn, 1, (0, 0, 0), [], [])]
/-- 135: J5_append_cf1ce -/
def am_t135 : List am_E := [(0, .aload_n 1, 1, (0, 0, 0), [], []),
  (1, .ifnonnull 8, 3, (9, 0, 0), [], []),
  (4, .aload_n 0, 1, (0, 0, 0), [], []),
  (5, .invokevirtual 204, 3, (99, 0, 0), [], []),
  (8, .areturn, 1, (0, 0, 0), [], []),
  (9, .aload_n 1, 1, (0, 0, 0), [], []),
  (10, .invokevirtual 32, 3, (0, 6, 60), [], [1240, 57, 187, 188]),
  (13, .istore_n 2, 1, (0, 0, 0), [], []),
  (14, .aload_n 0, 1, (0, 0, 0), [], []),
  (15, .aload_n 0, 1, (0, 0, 0), [], []),
  (16, .getfield 79, 3, (8, 3, 0), [], [1338]),
  (19, .iload_n 2, 1, (0, 0, 0), [], []),
  (20, .iadd, 1, (0, 0, 0), [], []),
  (21, .invokevirtual 100, 3, (8, 136, 8), [], [1203, 55, 1205, 1467, 1204]),
  (24, .aload_n 0, 1, (0, 0, 0), [], []),
  (25, .aload_n 0, 1, (0, 0, 0), [], []),
  (26, .getfield 79, 3, (8, 3, 0), [], [1338]),
  (29, .aload_n 1, 1, (0, 0, 0), [], []),
  (30, .invokevirtual 208, 3, (8, 143, 8), [], [1241, 55, 1243, 1469, 1242]),
  (33, .aload_n 0, 1, (0, 0, 0), [], []),
  (34, .dup, 1, (0, 0, 0), [], []),
  (35, .getfield 79, 3, (8, 3, 0), [], [1338]),
  (38, .iload_n 2, 1, (0, 0, 0), [], []),
  (39, .iadd, 1, (0, 0, 0), [], []),
  (40, .putfield 79, 3, (8, 3, 0), [], [1338]),
  (43, .aload_n 0, 1, (0, 0, 0), [], []),
  (44, .areturn, 1, (0, 0, 0), [], [])]
/-- 136: J5_ensureCapacityInternal_d00df -/
def am_t136 : List am_E := [(0, .aload_n 0, 1, (0, 0, 0), [], []),
  (1, .getfield 15, 3, (8, 0, 2), [], [1335]),
  (4, .arraylength, 1, (1, 0, 0), [], []),
  (5, .aload_n 0, 1, (0, 0, 0), [], []),
  (6, .getfield 22, 3, (8, 1, 0), [], [1336]),
  (9, .ishr, 1, (0, 0, 0), [], []),
  (10, .istore_n 2, 1, (0, 0, 0), [], []),
  (11, .iload_n 1, 1, (0, 0, 0), [], []),
  (12, .iload_n 2, 1, (0, 0, 0), [], []),
  (13, .isub, 1, (0, 0, 0), [], []),
  (14, .ifCond .le 24, 3, (38, 0, 0), [], []),
  (17, .aload_n 0, 1, (0, 0, 0), [], []),
  (18, .aload_n 0, 1, (0, 0, 0), [], []),
  (19, .getfield 15, 3, (8, 0, 2), [], [1335]),
  (22, .aload_n 0, 1, (0, 0, 0), [], []),
  (23, .iload_n 1, 1, (0, 0, 0), [], []),
  (24, .invokevirtual 104, 3, (8, 142, 8), [], [1207, 55, 1209, 1468, 1208]),
  (27, .aload_n 0, 1, (0, 0, 0), [], []),
  (28, .getfield 22, 3, (8, 1, 0), [], [1336]),
  (31, .ishl, 1, (0, 0, 0), [], []),
  (32, .invokestatic 108, 3, (2, 149, 0), [], [1220, 62, 1221]),
  (35, .putfield 15, 3, (8, 0, 2), [], [1335]),
  (38, .return_, 1, (0, 0, 0), [], [])]
/-- 137: J5_getValue_6d5f1 -/
def am_t137 : List am_E := [(0, .aload_n 0, 1, (0, 0, 0), [], []),
  (1, .getfield 15, 3, (8, 0, 2), [], [1335]),
  (4, .areturn, 1, (0, 0, 0), [], [])]
/-- 138: J5_inflateIfNeededFor_a7421 -/
def am_t138 : List am_E := [(0, .getstatic 18, 3, (0, 0, 60), [], [1233]),
  (3, .ifCond .eq 18, 3, (21, 0, 0), [], []),
  (6, .aload_n 0, 1, (0, 0, 0), [], []),
  (7, .getfield 22, 3, (8, 1, 0), [], [1336]),
  (10, .aload_n 1, 1, (0, 0, 0), [], []),
  (11, .invokevirtual 40, 3, (0, 2, 60), [], [1249, 57, 191, 192]),
  (14, .if_icmp .eq 7, 3, (21, 0, 0), [], []),
  (17, .aload_n 0, 1, (0, 0, 0), [], []),
  (18, .invokevirtual 195, 3, (99, 0, 0), [], []),
  (21, .return_, 1, (0, 0, 0), [], [])]
/-- 139: J5_init_d00df -/
def am_t139 : List am_E := [(0, .aload_n 0, 1, (0, 0, 0), [], []),
  (1, .invokespecial 3, 3, (17, 0, 0), [], [1334, 89, 90]),
  (4, .getstatic 18, 3, (0, 0, 60), [], [1233]),
  (7, .ifCond .eq 18, 3, (25, 0, 0), [], []),
  (10, .aload_n 0, 1, (0, 0, 0), [], []),
  (11, .iload_n 1, 1, (0, 0, 0), [], []),
  (12, .newarray .byte, 2, (21, 0, 0), [], [177]),
  (14, .putfield 15, 3, (8, 0, 2), [], [1335]),
  (17, .aload_n 0, 1, (0, 0, 0), [], []),
  (18, .iconst 0, 1, (0, 0, 0), [], []),
  (19, .putfield 22, 3, (8, 1, 4), [], [1336]),
  (22, .goto 16, 3, (38, 0, 0), [], []),
  (38, .return_, 1, (0, 0, 0), [], [])]
/-- 140: J5_isLatin1_aae02 -/
def am_t140 : List am_E := [(0, .getstatic 18, 3, (0, 0, 60), [], [1233]),
  (3, .ifCond .eq 14, 3, (17, 0, 0), [], []),
  (6, .aload_n 0, 1, (0, 0, 0), [], []),
  (7, .getfield 22, 3, (8, 1, 0), [], [1336]),
  (10, .ifCond .ne 7, 3, (17, 0, 0), [], []),
  (13, .iconst 1, 1, (0, 0, 0), [], []),
  (14, .goto 4, 3, (18, 0, 0), [], []),
  (17, .iconst 0, 1, (0, 0, 0), [], []),
  (18, .ireturn, 1, (1, 0, 0), [], [])]
/-- 141: J5_length_8abf5 -/
def am_t141 : List am_E := [(0, .aload_n 0, 1, (0, 0, 0), [], []),
  (1, .getfield 79, 3, (8, 3, 0), [], [1338]),
  (4, .ireturn, 1, (0, 0, 0), [], [])]
/-- 142: J5_newCapacity_0f7a4 -/
def am_t142 : List am_E := [(0, .aload_n 0, 1, (0, 0, 0), [], []),
  (1, .getfield 15, 3, (8, 0, 2), [], [1335]),
  (4, .arraylength, 1, (1, 0, 0), [], []),
  (5, .istore_n 2, 1, (0, 0, 0), [], []),
  (6, .iload_n 1, 1, (0, 0, 0), [], []),
  (7, .aload_n 0, 1, (0, 0, 0), [], []),
  (8, .getfield 22, 3, (8, 1, 0), [], [1336]),
  (11, .ishl, 1, (0, 0, 0), [], []),
  (12, .istore_n 3, 1, (0, 0, 0), [], []),
  (13, .iload_n 3, 1, (0, 0, 0), [], []),
  (14, .iload_n 2, 1, (0, 0, 0), [], []),
  (15, .isub, 1, (0, 0, 0), [], []),
  (16, .istore 4, 2, (0, 0, 0), [], []),
  (18, .iload_n 2, 1, (0, 0, 0), [], []),
  (19, .iload 4, 2, (0, 0, 0), [], []),
  (21, .iload_n 2, 1, (0, 0, 0), [], []),
  (22, .iconst 2, 1, (0, 0, 0), [], []),
  (23, .aload_n 0, 1, (0, 0, 0), [], []),
  (24, .getfield 22, 3, (8, 1, 0), [], [1336]),
  (27, .ishl, 1, (0, 0, 0), [], []),
  (28, .iadd, 1, (0, 0, 0), [], []),
  (29, .invokestatic 114, 3, (2, 151, 0), [], [1211, 60, 1212]),
  (32, .istore 5, 2, (0, 0, 0), [], []),
  (34, .iload 5, 2, (0, 0, 0), [], []),
  (36, .ldc 39, 2, (0, 0, 0), [(2147483647, 0)], [1219]),
  (38, .if_icmp .ne 13, 3, (51, 0, 0), [], []),
  (51, .iload 5, 2, (0, 0, 0), [], []),
  (53, .aload_n 0, 1, (0, 0, 0), [], []),
  (54, .getfield 22, 3, (8, 1, 0), [], [1336]),
  (57, .ishr, 1, (0, 0, 0), [], []),
  (58, .ireturn, 1, (0, 0, 0), [], [])]
/-- 143: J5_putStringAt_47b60 -/
def am_t143 : List am_E := [(0, .aload_n 0, 1, (0, 0, 0), [], []),
  (1, .aload_n 2, 1, (0, 0, 0), [], []),
  (2, .invokevirtual 397, 3, (8, 138, 8), [], [1245, 55, 1247, 1470, 1246]),
  (5, .aload_n 2, 1, (0, 0, 0), [], []),
  (6, .aload_n 0, 1, (0, 0, 0), [], []),
  (7, .getfield 15, 3, (8, 0, 2), [], [1335]),
  (10, .iload_n 1, 1, (0, 0, 0), [], []),
  (11, .aload_n 0, 1, (0, 0, 0), [], []),
  (12, .getfield 22, 3, (8, 1, 0), [], [1336]),
  (15, .invokevirtual 399, 3, (0, 106, 60), [], [1276, 57, 1277, 1278]),
  (18, .return_, 1, (0, 0, 0), [], [])]
/-- 144: J6_getChars_ba4f3 -/
def am_t144_0 : List am_E := [(0, .iload_n 1, 1, (0, 0, 0), [], []),
  (1, .istore 5, 2, (0, 0, 0), [], []),
  (3, .iload_n 0, 1, (0, 0, 0), [], []),
  (4, .ifCond .ge 7, 3, (11, 0, 0), [], []),
  (7, .iconst 1, 1, (0, 0, 0), [], []),
  (8, .goto 4, 3, (12, 0, 0), [], []),
  (11, .iconst 0, 1, (0, 0, 0), [], []),
  (12, .istore 6, 2, (0, 0, 0), [], []),
  (14, .iload 6, 2, (0, 0, 0), [], []),
  (16, .ifCond .ne 6, 3, (22, 0, 0), [], []),
  (19, .iload_n 0, 1, (0, 0, 0), [], []),
  (20, .ineg, 1, (0, 0, 0), [], []),
  (21, .istore_n 0, 1, (0, 0, 0), [], []),
  (22, .iload_n 0, 1, (0, 0, 0), [], []),
  (23, .bipush (-100), 2, (0, 0, 0), [], []),
  (25, .if_icmp .gt 47, 3, (72, 0, 0), [], []),
  (28, .iload_n 0, 1, (0, 0, 0), [], []),
  (29, .bipush 100, 2, (0, 0, 0), [], []),
  (31, .idiv, 1, (0, 0, 0), [], []),
  (32, .istore_n 3, 1, (0, 0, 0), [], []),
  (33, .iload_n 3, 1, (0, 0, 0), [], []),
  (34, .bipush 100, 2, (0, 0, 0), [], []),
  (36, .imul, 1, (0, 0, 0), [], []),
  (37, .iload_n 0, 1, (0, 0, 0), [], []),
  (38, .isub, 1, (0, 0, 0), [], []),
  (39, .istore 4, 2, (0, 0, 0), [], []),
  (41, .iload_n 3, 1, (0, 0, 0), [], []),
  (42, .istore_n 0, 1, (0, 0, 0), [], []),
  (43, .aload_n 2, 1, (0, 0, 0), [], []),
  (44, .iinc 5 (-1), 3, (0, 0, 0), [], []),
  (47, .iload 5, 2, (0, 0, 0), [], []),
  (49, .getstatic 83, 3, (0, 0, 63), [], [1295]),
  (52, .iload 4, 2, (0, 0, 0), [], []),
  (54, .baload, 1, (1, 0, 0), [], []),
  (55, .bastore, 1, (1, 0, 0), [], []),
  (56, .aload_n 2, 1, (0, 0, 0), [], []),
  (57, .iinc 5 (-1), 3, (0, 0, 0), [], []),
  (60, .iload 5, 2, (0, 0, 0), [], []),
  (62, .getstatic 87, 3, (0, 0, 64), [], [1297]),
  (65, .iload 4, 2, (0, 0, 0), [], []),
  (67, .baload, 1, (1, 0, 0), [], []),
  (68, .bastore, 1, (1, 0, 0), [], []),
  (69, .goto (-47), 3, (22, 0, 0), [], []),
  (72, .aload_n 2, 1, (0, 0, 0), [], []),
  (73, .iinc 5 (-1), 3, (0, 0, 0), [], []),
  (76, .iload 5, 2, (0, 0, 0), [], []),
  (78, .getstatic 83, 3, (0, 0, 63), [], [1295]),
  (81, .iload_n 0, 1, (0, 0, 0), [], []),
  (82, .ineg, 1, (0, 0, 0), [], []),
  (83, .baload, 1, (1, 0, 0), [], []),
  (84, .bastore, 1, (1, 0, 0), [], []),
  (85, .iload_n 0, 1, (0, 0, 0), [], []),
  (86, .bipush (-9), 2, (0, 0, 0), [], []),
  (88, .if_icmp .ge 16, 3, (104, 0, 0), [], []),
  (91, .aload_n 2, 1, (0, 0, 0), [], []),
  (92, .iinc 5 (-1), 3, (0, 0, 0), [], []),
  (95, .iload 5, 2, (0, 0, 0), [], []),
  (97, .getstatic 87, 3, (0, 0, 64), [], [1297]),
  (100, .iload_n 0, 1, (0, 0, 0), [], []),
  (101, .ineg, 1, (0, 0, 0), [], [])]
def am_t144_1 : List am_E := [(102, .baload, 1, (1, 0, 0), [], []),
  (103, .bastore, 1, (1, 0, 0), [], []),
  (104, .iload 6, 2, (0, 0, 0), [], []),
  (106, .ifCond .eq 12, 3, (118, 0, 0), [], []),
  (109, .aload_n 2, 1, (0, 0, 0), [], []),
  (110, .iinc 5 (-1), 3, (0, 0, 0), [], []),
  (113, .iload 5, 2, (0, 0, 0), [], []),
  (115, .bipush 45, 2, (0, 0, 0), [], []),
  (117, .bastore, 1, (1, 0, 0), [], []),
  (118, .iload 5, 2, (0, 0, 0), [], []),
  (120, .ireturn, 1, (0, 0, 0), [], [])]
def am_t144 : List am_E := am_t144_0 ++ (am_t144_1)
/-- 145: J6_stringSize_0f7a4 -/
def am_t145 : List am_E := [(0, .iconst 1, 1, (0, 0, 0), [], []),
  (1, .istore_n 1, 1, (0, 0, 0), [], []),
  (2, .iload_n 0, 1, (0, 0, 0), [], []),
  (3, .ifCond .lt 8, 3, (11, 0, 0), [], []),
  (6, .iconst 0, 1, (0, 0, 0), [], []),
  (7, .istore_n 1, 1, (0, 0, 0), [], []),
  (8, .iload_n 0, 1, (0, 0, 0), [], []),
  (9, .ineg, 1, (0, 0, 0), [], []),
  (10, .istore_n 0, 1, (0, 0, 0), [], []),
  (11, .bipush (-10), 2, (0, 0, 0), [], []),
  (13, .istore_n 2, 1, (0, 0, 0), [], []),
  (14, .iconst 1, 1, (0, 0, 0), [], []),
  (15, .istore_n 3, 1, (0, 0, 0), [], []),
  (16, .iload_n 3, 1, (0, 0, 0), [], []),
  (17, .bipush 10, 2, (0, 0, 0), [], []),
  (19, .if_icmp .ge 23, 3, (42, 0, 0), [], []),
  (22, .iload_n 0, 1, (0, 0, 0), [], []),
  (23, .iload_n 2, 1, (0, 0, 0), [], []),
  (24, .if_icmp .le 7, 3, (31, 0, 0), [], []),
  (27, .iload_n 3, 1, (0, 0, 0), [], []),
  (28, .iload_n 1, 1, (0, 0, 0), [], []),
  (29, .iadd, 1, (0, 0, 0), [], []),
  (30, .ireturn, 1, (0, 0, 0), [], []),
  (31, .bipush 10, 2, (0, 0, 0), [], []),
  (33, .iload_n 2, 1, (0, 0, 0), [], []),
  (34, .imul, 1, (0, 0, 0), [], []),
  (35, .istore_n 2, 1, (0, 0, 0), [], []),
  (36, .iinc 3 1, 3, (0, 0, 0), [], []),
  (39, .goto (-23), 3, (16, 0, 0), [], []),
  (42, .bipush 10, 2, (0, 0, 0), [], []),
  (44, .iload_n 1, 1, (0, 0, 0), [], []),
  (45, .iadd, 1, (0, 0, 0), [], []),
  (46, .ireturn, 1, (0, 0, 0), [], [])]
/-- 146: J7_checkLength_df160 -/
def am_t146 : List am_E := [(0, .iload_n 1, 1, (0, 0, 0), [], []),
  (1, .iload_n 0, 1, (0, 0, 0), [], []),
  (2, .if_icmp .ge 35, 3, (37, 0, 0), [], []),
  (37, .return_, 1, (0, 0, 0), [], [])]
/-- 147: J7_copyOfRangeByte_39247 -/
def am_t147 : List am_E := [(0, .iload_n 1, 1, (0, 0, 0), [], []),
  (1, .iload_n 2, 1, (0, 0, 0), [], []),
  (2, .invokestatic 343, 3, (2, 146, 0), [], [1381, 62, 1382]),
  (5, .iload_n 2, 1, (0, 0, 0), [], []),
  (6, .iload_n 1, 1, (0, 0, 0), [], []),
  (7, .isub, 1, (0, 0, 0), [], []),
  (8, .istore_n 3, 1, (0, 0, 0), [], []),
  (9, .iload_n 3, 1, (0, 0, 0), [], []),
  (10, .newarray .byte, 2, (21, 0, 0), [], [177]),
  (12, .astore 4, 2, (1, 0, 0), [], []),
  (14, .aload_n 0, 1, (0, 0, 0), [], []),
  (15, .iload_n 1, 1, (0, 0, 0), [], []),
  (16, .aload 4, 2, (0, 0, 0), [], []),
  (18, .iconst 0, 1, (0, 0, 0), [], []),
  (19, .aload_n 0, 1, (0, 0, 0), [], []),
  (20, .arraylength, 1, (1, 0, 0), [], []),
  (21, .iload_n 1, 1, (0, 0, 0), [], []),
  (22, .isub, 1, (0, 0, 0), [], []),
  (23, .iload_n 3, 1, (0, 0, 0), [], []),
  (24, .invokestatic 304, 3, (7, 0, 0), [], [808, 580, 61, 581]),
  (27, .invokestatic 150, 3, (11, 0, 0), [], [809, 810, 63, 811]),
  (30, .aload 4, 2, (0, 0, 0), [], []),
  (32, .areturn, 1, (0, 0, 0), [], [])]
/-- 148: J7_copyOfRange_39247 -/
def am_t148 : List am_E := [(0, .iload_n 1, 1, (0, 0, 0), [], []),
  (1, .ifCond .ne 9, 3, (10, 0, 0), [], []),
  (4, .iload_n 2, 1, (0, 0, 0), [], []),
  (5, .aload_n 0, 1, (0, 0, 0), [], []),
  (6, .arraylength, 1, (1, 0, 0), [], []),
  (7, .if_icmp .eq 10, 3, (17, 0, 0), [], []),
  (10, .aload_n 0, 1, (0, 0, 0), [], []),
  (11, .iload_n 1, 1, (0, 0, 0), [], []),
  (12, .iload_n 2, 1, (0, 0, 0), [], []),
  (13, .invokestatic 339, 3, (2, 147, 0), [], [1378, 62, 1379]),
  (16, .areturn, 1, (0, 0, 0), [], []),
  (17, .aload_n 0, 1, (0, 0, 0), [], []),
  (18, .invokevirtual 310, 3, (16, 0, 21), [], [1223, 1224, 803, 804, 1225, 1226]),
  (21, .checkcast 311, 3, (21, 0, 0), [], [1227]),
  (24, .areturn, 1, (0, 0, 0), [], [])]
/-- 149: J7_copyOf_9075b -/
def am_t149 : List am_E := [(0, .iload_n 1, 1, (0, 0, 0), [], []),
  (1, .aload_n 0, 1, (0, 0, 0), [], []),
  (2, .arraylength, 1, (1, 0, 0), [], []),
  (3, .if_icmp .ne 11, 3, (14, 0, 0), [], []),
  (6, .aload_n 0, 1, (0, 0, 0), [], []),
  (7, .invokevirtual 310, 3, (16, 0, 21), [], [1223, 1224, 803, 804, 1225, 1226]),
  (10, .checkcast 311, 3, (21, 0, 0), [], [1227]),
  (13, .areturn, 1, (0, 0, 0), [], []),
  (14, .iload_n 1, 1, (0, 0, 0), [], []),
  (15, .newarray .byte, 2, (21, 0, 0), [], [177]),
  (17, .astore_n 2, 1, (1, 0, 0), [], []),
  (18, .aload_n 0, 1, (0, 0, 0), [], []),
  (19, .iconst 0, 1, (0, 0, 0), [], []),
  (20, .aload_n 2, 1, (0, 0, 0), [], []),
  (21, .iconst 0, 1, (0, 0, 0), [], []),
  (22, .aload_n 0, 1, (0, 0, 0), [], []),
  (23, .arraylength, 1, (1, 0, 0), [], []),
  (24, .iload_n 1, 1, (0, 0, 0), [], []),
  (25, .invokestatic 304, 3, (7, 0, 0), [], [808, 580, 61, 581]),
  (28, .invokestatic 150, 3, (11, 0, 0), [], [809, 810, 63, 811]),
  (31, .aload_n 2, 1, (0, 0, 0), [], []),
  (32, .areturn, 1, (0, 0, 0), [], [])]
/-- 150: J7_sort_2022b -/
def am_t150 : List am_E := [(0, .aload_n 0, 1, (0, 0, 0), [], []),
  (1, .iconst 0, 1, (0, 0, 0), [], []),
  (2, .iconst 0, 1, (0, 0, 0), [], []),
  (3, .aload_n 0, 1, (0, 0, 0), [], []),
  (4, .arraylength, 1, (1, 0, 0), [], []),
  (5, .invokestatic 7, 3, (2, 154, 0), [], [783, 82, 784]),
  (8, .return_, 1, (0, 0, 0), [], [])]
/-- 151: J8_newLength_cabcc -/
def am_t151 : List am_E := [(0, .iload_n 0, 1, (0, 0, 0), [], []),
  (1, .iload_n 1, 1, (0, 0, 0), [], []),
  (2, .iload_n 2, 1, (0, 0, 0), [], []),
  (3, .invokestatic 194, 3, (8, 0, 8), [], [1214, 583, 61, 584]),
  (6, .iadd, 1, (0, 0, 0), [], []),
  (7, .istore_n 3, 1, (0, 0, 0), [], []),
  (8, .iconst 0, 1, (0, 0, 0), [], []),
  (9, .iload_n 3, 1, (0, 0, 0), [], []),
  (10, .if_icmp .ge 11, 3, (21, 0, 0), [], []),
  (13, .iload_n 3, 1, (0, 0, 0), [], []),
  (14, .ldc 200, 2, (0, 0, 0), [(2147483639, 0)], [1215]),
  (16, .if_icmp .gt 5, 3, (21, 0, 0), [], []),
  (19, .iload_n 3, 1, (0, 0, 0), [], []),
  (20, .ireturn, 1, (0, 0, 0), [], [])]
/-- 152: J9_abs_294c1 -/
def am_t152 : List am_E := [(0, .dload_n 0, 1, (0, 0, 0), [], []),
  (1, .invokestatic 79, 3, (18, 0, 0), [], [1456, 1457, 81, 1458]),
  (4, .ldc2_w 135, 3, (0, 0, 0), [(9223372036854775807, 1)], [1459]),
  (7, .land, 1, (0, 0, 0), [], []),
  (8, .invokestatic 166, 3, (19, 0, 0), [], [1460, 1461, 81, 1462]),
  (11, .dreturn, 1, (0, 0, 0), [], [])]
/-- 153: X13_insertionSort -/
def am_t153 : List am_E := [(0, .iload_n 1, 1, (0, 0, 0), [], []),
  (1, .istore 4, 2, (0, 0, 0), [], []),
  (3, .iinc 4 1, 3, (0, 0, 0), [], []),
  (6, .iload 4, 2, (0, 0, 0), [], []),
  (8, .iload_n 2, 1, (0, 0, 0), [], []),
  (9, .if_icmp .ge 58, 3, (67, 0, 0), [], []),
  (12, .aload_n 0, 1, (0, 0, 0), [], []),
  (13, .iload 4, 2, (0, 0, 0), [], []),
  (15, .dup, 1, (0, 0, 0), [], []),
  (16, .istore_n 3, 1, (0, 0, 0), [], []),
  (17, .iaload, 1, (0, 0, 0), [], []),
  (18, .istore 5, 2, (0, 0, 0), [], []),
  (20, .iload 5, 2, (0, 0, 0), [], []),
  (22, .aload_n 0, 1, (0, 0, 0), [], []),
  (23, .iload_n 3, 1, (0, 0, 0), [], []),
  (24, .iconst 1, 1, (0, 0, 0), [], []),
  (25, .isub, 1, (0, 0, 0), [], []),
  (26, .iaload, 1, (0, 0, 0), [], []),
  (27, .if_icmp .ge 37, 3, (64, 0, 0), [], []),
  (30, .iinc 3 (-1), 3, (0, 0, 0), [], []),
  (33, .iload_n 3, 1, (0, 0, 0), [], []),
  (34, .iload_n 1, 1, (0, 0, 0), [], []),
  (35, .if_icmp .lt 22, 3, (57, 0, 0), [], []),
  (38, .iload 5, 2, (0, 0, 0), [], []),
  (40, .aload_n 0, 1, (0, 0, 0), [], []),
  (41, .iload_n 3, 1, (0, 0, 0), [], []),
  (42, .iaload, 1, (0, 0, 0), [], []),
  (43, .if_icmp .ge 14, 3, (57, 0, 0), [], []),
  (46, .aload_n 0, 1, (0, 0, 0), [], []),
  (47, .iload_n 3, 1, (0, 0, 0), [], []),
  (48, .iconst 1, 1, (0, 0, 0), [], []),
  (49, .iadd, 1, (0, 0, 0), [], []),
  (50, .aload_n 0, 1, (0, 0, 0), [], []),
  (51, .iload_n 3, 1, (0, 0, 0), [], []),
  (52, .iaload, 1, (0, 0, 0), [], []),
  (53, .iastore, 1, (0, 0, 0), [], []),
  (54, .goto (-24), 3, (30, 0, 0), [], []),
  (57, .aload_n 0, 1, (0, 0, 0), [], []),
  (58, .iload_n 3, 1, (0, 0, 0), [], []),
  (59, .iconst 1, 1, (0, 0, 0), [], []),
  (60, .iadd, 1, (0, 0, 0), [], []),
  (61, .iload 5, 2, (0, 0, 0), [], []),
  (63, .iastore, 1, (0, 0, 0), [], []),
  (64, .goto (-61), 3, (3, 0, 0), [], []),
  (67, .return_, 1, (0, 0, 0), [], [])]
/-- 154: X13_sort -/
def am_t154 : List am_E := [(0, .iload_n 3, 1, (0, 0, 0), [], []),
  (1, .iload_n 2, 1, (0, 0, 0), [], []),
  (2, .isub, 1, (0, 0, 0), [], []),
  (3, .istore 4, 2, (0, 0, 0), [], []),
  (5, .iload_n 1, 1, (0, 0, 0), [], []),
  (6, .iconst 1, 1, (0, 0, 0), [], []),
  (7, .if_icmp .le 61, 3, (68, 0, 0), [], []),
  (10, .iload 4, 2, (0, 0, 0), [], []),
  (12, .sipush 4096, 3, (0, 0, 0), [], []),
  (15, .if_icmp .le 53, 3, (68, 0, 0), [], []),
  (68, .aconst_null, 1, (0, 0, 0), [], []),
  (69, .aload_n 0, 1, (0, 0, 0), [], []),
  (70, .iconst 0, 1, (0, 0, 0), [], []),
  (71, .iload_n 2, 1, (0, 0, 0), [], []),
  (72, .iload_n 3, 1, (0, 0, 0), [], []),
  (73, .invokestatic 26, 3, (2, 155, 0), [], [786, 82, 787]),
  (76, .return_, 1, (0, 0, 0), [], [])]
/-- 155: X13_sort_ -/
def am_t155 : List am_E := [(0, .iload 4, 2, (0, 0, 0), [], []),
  (2, .iconst 1, 1, (0, 0, 0), [], []),
  (3, .isub, 1, (0, 0, 0), [], []),
  (4, .istore 5, 2, (0, 0, 0), [], []),
  (6, .iload 4, 2, (0, 0, 0), [], []),
  (8, .iload_n 3, 1, (0, 0, 0), [], []),
  (9, .isub, 1, (0, 0, 0), [], []),
  (10, .istore 6, 2, (0, 0, 0), [], []),
  (12, .iload 6, 2, (0, 0, 0), [], []),
  (14, .bipush 65, 2, (0, 0, 0), [], []),
  (16, .iload_n 2, 1, (0, 0, 0), [], []),
  (17, .iadd, 1, (0, 0, 0), [], []),
  (18, .if_icmp .ge 28, 3, (46, 0, 0), [], []),
  (21, .iload_n 2, 1, (0, 0, 0), [], []),
  (22, .iconst 1, 1, (0, 0, 0), [], []),
  (23, .iand, 1, (0, 0, 0), [], []),
  (24, .ifCond .le 22, 3, (46, 0, 0), [], []),
  (27, .aload_n 1, 1, (0, 0, 0), [], []),
  (28, .iload_n 3, 1, (0, 0, 0), [], []),
  (29, .iload 4, 2, (0, 0, 0), [], []),
  (31, .iconst 3, 1, (0, 0, 0), [], []),
  (32, .iload 6, 2, (0, 0, 0), [], []),
  (34, .iconst 5, 1, (0, 0, 0), [], []),
  (35, .ishr, 1, (0, 0, 0), [], []),
  (36, .iconst 3, 1, (0, 0, 0), [], []),
  (37, .ishl, 1, (0, 0, 0), [], []),
  (38, .imul, 1, (0, 0, 0), [], []),
  (39, .isub, 1, (0, 0, 0), [], []),
  (40, .iload 4, 2, (0, 0, 0), [], []),
  (42, .invokestatic 30, 3, (99, 0, 0), [], []),
  (45, .return_, 1, (0, 0, 0), [], []),
  (46, .iload 6, 2, (0, 0, 0), [], []),
  (48, .bipush 44, 2, (0, 0, 0), [], []),
  (50, .if_icmp .ge 11, 3, (61, 0, 0), [], []),
  (53, .aload_n 1, 1, (0, 0, 0), [], []),
  (54, .iload_n 3, 1, (0, 0, 0), [], []),
  (55, .iload 4, 2, (0, 0, 0), [], []),
  (57, .invokestatic 34, 3, (2, 153, 0), [], [792, 82, 793]),
  (60, .return_, 1, (0, 0, 0), [], [])]
/-- 156: X9_init -/
def am_t156 : List am_E := [(0, .aload_n 0, 1, (0, 0, 0), [], []),
  (1, .invokespecial 1, 3, (17, 0, 0), [], [861, 89, 90]),
  (4, .aload_n 0, 1, (0, 0, 0), [], []),
  (5, .bipush 100, 2, (0, 0, 0), [], []),
  (7, .putfield 7, 3, (7, 3, 0), [], [869]),
  (10, .aload_n 0, 1, (0, 0, 0), [], []),
  (11, .iconst 0, 1, (0, 0, 0), [], []),
  (12, .newarray .int, 2, (20, 0, 0), [], [178]),
  (14, .putfield 13, 3, (7, 4, 2), [], [871]),
  (17, .aload_n 0, 1, (0, 0, 0), [], []),
  (18, .iconst 0, 1, (0, 0, 0), [], []),
  (19, .anewarray 17, 3, (24, 0, 0), [], [862, 863]),
  (22, .putfield 18, 3, (7, 5, 2), [], [873]),
  (25, .aload_n 0, 1, (0, 0, 0), [], []),
  (26, .iconst 0, 1, (0, 0, 0), [], []),
  (27, .anewarray 17, 3, (24, 0, 0), [], [862, 863]),
  (30, .putfield 22, 3, (7, 6, 2), [], [875]),
  (33, .aload_n 0, 1, (0, 0, 0), [], []),
  (34, .iconst 0, 1, (0, 0, 0), [], []),
  (35, .anewarray 25, 3, (25, 0, 0), [], [864, 865]),
  (38, .putfield 27, 3, (7, 7, 2), [], [877]),
  (41, .aload_n 0, 1, (0, 0, 0), [], []),
  (42, .iconst 0, 1, (0, 0, 0), [], []),
  (43, .anewarray 17, 3, (24, 0, 0), [], [862, 863]),
  (46, .putfield 31, 3, (7, 8, 2), [], [879]),
  (49, .aload_n 0, 1, (0, 0, 0), [], []),
  (50, .iconst (-1), 1, (0, 0, 0), [], []),
  (51, .putfield 34, 3, (7, 9, 0), [], [881]),
  (54, .return_, 1, (0, 0, 0), [], [])]
/-- 157: X9_fans -/
def am_t157 : List am_E := [(0, .iconst 0, 1, (0, 0, 0), [], []),
  (1, .istore_n 2, 1, (0, 0, 0), [], []),
  (2, .aload_n 0, 1, (0, 0, 0), [], []),
  (3, .getfield 27, 3, (7, 7, 2), [], [877]),
  (6, .astore_n 3, 1, (1, 0, 0), [], []),
  (7, .aload_n 3, 1, (0, 0, 0), [], []),
  (8, .arraylength, 1, (1, 0, 0), [], []),
  (9, .istore 4, 2, (0, 0, 0), [], []),
  (11, .iconst 0, 1, (0, 0, 0), [], []),
  (12, .istore 5, 2, (0, 0, 0), [], []),
  (14, .iload 5, 2, (0, 0, 0), [], []),
  (16, .iload 4, 2, (0, 0, 0), [], []),
  (18, .if_icmp .ge 30, 3, (48, 0, 0), [], []),
  (21, .aload_n 3, 1, (0, 0, 0), [], []),
  (22, .iload 5, 2, (0, 0, 0), [], []),
  (24, .aaload, 1, (24, 0, 0), [], []),
  (25, .astore 6, 2, (1, 0, 0), [], []),
  (27, .iload_n 2, 1, (0, 0, 0), [], []),
  (28, .aload 6, 2, (0, 0, 0), [], []),
  (30, .iload_n 1, 1, (0, 0, 0), [], []),
  (31, .baload, 1, (2, 0, 0), [], []),
  (32, .ifCond .eq 7, 3, (39, 0, 0), [], []),
  (35, .iconst 1, 1, (0, 0, 0), [], []),
  (36, .goto 4, 3, (40, 0, 0), [], []),
  (39, .iconst 0, 1, (0, 0, 0), [], []),
  (40, .iadd, 1, (0, 0, 0), [], []),
  (41, .istore_n 2, 1, (0, 0, 0), [], []),
  (42, .iinc 5 1, 3, (0, 0, 0), [], []),
  (45, .goto (-31), 3, (14, 0, 0), [], []),
  (48, .iload_n 2, 1, (0, 0, 0), [], []),
  (49, .ireturn, 1, (0, 0, 0), [], [])]
/-- 158: X9_rich -/
def am_t158 : List am_E := [(0, .iconst 0, 1, (0, 0, 0), [], []),
  (1, .istore_n 2, 1, (0, 0, 0), [], []),
  (2, .iconst 0, 1, (0, 0, 0), [], []),
  (3, .istore_n 3, 1, (0, 0, 0), [], []),
  (4, .iload_n 3, 1, (0, 0, 0), [], []),
  (5, .aload_n 0, 1, (0, 0, 0), [], []),
  (6, .getfield 22, 3, (7, 6, 2), [], [875]),
  (9, .arraylength, 1, (1, 0, 0), [], []),
  (10, .if_icmp .ge 35, 3, (45, 0, 0), [], []),
  (13, .iload_n 2, 1, (0, 0, 0), [], []),
  (14, .aload_n 0, 1, (0, 0, 0), [], []),
  (15, .getfield 27, 3, (7, 7, 2), [], [877]),
  (18, .iload_n 3, 1, (0, 0, 0), [], []),
  (19, .aaload, 1, (24, 0, 0), [], []),
  (20, .iload_n 1, 1, (0, 0, 0), [], []),
  (21, .baload, 1, (2, 0, 0), [], []),
  (22, .ifCond .eq 14, 3, (36, 0, 0), [], []),
  (25, .aload_n 0, 1, (0, 0, 0), [], []),
  (26, .getfield 22, 3, (7, 6, 2), [], [875]),
  (29, .iload_n 3, 1, (0, 0, 0), [], []),
  (30, .aaload, 1, (24, 0, 0), [], []),
  (31, .iconst 0, 1, (0, 0, 0), [], []),
  (32, .iaload, 1, (0, 0, 0), [], []),
  (33, .goto 4, 3, (37, 0, 0), [], []),
  (36, .iconst 0, 1, (0, 0, 0), [], []),
  (37, .iadd, 1, (0, 0, 0), [], []),
  (38, .istore_n 2, 1, (0, 0, 0), [], []),
  (39, .iinc 3 1, 3, (0, 0, 0), [], []),
  (42, .goto (-38), 3, (4, 0, 0), [], []),
  (45, .iload_n 2, 1, (0, 0, 0), [], []),
  (46, .ireturn, 1, (0, 0, 0), [], [])]
/-- 159: X9_pleased -/
def am_t159 : List am_E := [(0, .iconst 0, 1, (0, 0, 0), [], []),
  (1, .istore_n 2, 1, (0, 0, 0), [], []),
  (2, .iconst 0, 1, (0, 0, 0), [], []),
  (3, .istore_n 3, 1, (0, 0, 0), [], []),
  (4, .iload_n 3, 1, (0, 0, 0), [], []),
  (5, .aload_n 0, 1, (0, 0, 0), [], []),
  (6, .getfield 18, 3, (7, 5, 2), [], [873]),
  (9, .arraylength, 1, (1, 0, 0), [], []),
  (10, .if_icmp .ge 39, 3, (49, 0, 0), [], []),
  (13, .iload_n 2, 1, (0, 0, 0), [], []),
  (14, .aload_n 0, 1, (0, 0, 0), [], []),
  (15, .getfield 27, 3, (7, 7, 2), [], [877]),
  (18, .iload_n 1, 1, (0, 0, 0), [], []),
  (19, .aaload, 1, (24, 0, 0), [], []),
  (20, .iload_n 3, 1, (0, 0, 0), [], []),
  (21, .baload, 1, (2, 0, 0), [], []),
  (22, .ifCond .eq 18, 3, (40, 0, 0), [], []),
  (25, .aload_n 0, 1, (0, 0, 0), [], []),
  (26, .getfield 18, 3, (7, 5, 2), [], [873]),
  (29, .iload_n 3, 1, (0, 0, 0), [], []),
  (30, .aaload, 1, (24, 0, 0), [], []),
  (31, .iconst 3, 1, (0, 0, 0), [], []),
  (32, .iaload, 1, (0, 0, 0), [], []),
  (33, .ifCond .lt 7, 3, (40, 0, 0), [], []),
  (36, .iconst 1, 1, (0, 0, 0), [], []),
  (37, .goto 4, 3, (41, 0, 0), [], []),
  (40, .iconst 0, 1, (0, 0, 0), [], []),
  (41, .iadd, 1, (0, 0, 0), [], []),
  (42, .istore_n 2, 1, (0, 0, 0), [], []),
  (43, .iinc 3 1, 3, (0, 0, 0), [], []),
  (46, .goto (-42), 3, (4, 0, 0), [], []),
  (49, .iload_n 2, 1, (0, 0, 0), [], []),
  (50, .ireturn, 1, (0, 0, 0), [], [])]
/-- 160: X9_holds -/
def am_t160_0 : List am_E := [(0, .aload_n 1, 1, (0, 0, 0), [], []),
  (1, .iconst 2, 1, (0, 0, 0), [], []),
  (2, .iaload, 1, (0, 0, 0), [], []),
  (3, .istore_n 2, 1, (0, 0, 0), [], []),
  (4, .aload_n 1, 1, (0, 0, 0), [], []),
  (5, .iconst 3, 1, (0, 0, 0), [], []),
  (6, .iaload, 1, (0, 0, 0), [], []),
  (7, .istore_n 3, 1, (0, 0, 0), [], []),
  (8, .aload_n 1, 1, (0, 0, 0), [], []),
  (9, .iconst 4, 1, (0, 0, 0), [], []),
  (10, .iaload, 1, (0, 0, 0), [], []),
  (11, .aload_n 0, 1, (0, 0, 0), [], []),
  (12, .getfield 18, 3, (7, 5, 2), [], [873]),
  (15, .arraylength, 1, (1, 0, 0), [], []),
  (16, .irem, 1, (0, 0, 0), [], []),
  (17, .istore 4, 2, (0, 0, 0), [], []),
  (19, .aload_n 1, 1, (0, 0, 0), [], []),
  (20, .iconst 4, 1, (0, 0, 0), [], []),
  (21, .iaload, 1, (0, 0, 0), [], []),
  (22, .aload_n 0, 1, (0, 0, 0), [], []),
  (23, .getfield 22, 3, (7, 6, 2), [], [875]),
  (26, .arraylength, 1, (1, 0, 0), [], []),
  (27, .irem, 1, (0, 0, 0), [], []),
  (28, .istore 5, 2, (0, 0, 0), [], []),
  (30, .aload_n 1, 1, (0, 0, 0), [], []),
  (31, .iconst 1, 1, (0, 0, 0), [], []),
  (32, .iaload, 1, (0, 0, 0), [], []),
  (33, .tableswitch 176 0 6 #[43, 62, 76, 94, 105, 126, 145], 43, (209, 0, 0), [(0, 76), (1, 95), (2, 109), (3, 127), (4, 138), (5, 159), (6, 178)], []),
  (76, .aload_n 0, 1, (0, 0, 0), [], []),
  (77, .getfield 37, 3, (7, 0, 0), [], [866]),
  (80, .iload_n 2, 1, (0, 0, 0), [], []),
  (81, .iconst 5, 1, (0, 0, 0), [], []),
  (82, .irem, 1, (0, 0, 0), [], []),
  (83, .iconst 1, 1, (0, 0, 0), [], []),
  (84, .iadd, 1, (0, 0, 0), [], []),
  (85, .irem, 1, (0, 0, 0), [], []),
  (86, .ifCond .ne 7, 3, (93, 0, 0), [], []),
  (89, .iconst 1, 1, (0, 0, 0), [], []),
  (90, .goto 4, 3, (94, 0, 0), [], []),
  (93, .iconst 0, 1, (0, 0, 0), [], []),
  (94, .ireturn, 1, (1, 0, 0), [], []),
  (95, .aload_n 0, 1, (0, 0, 0), [], []),
  (96, .getfield 40, 3, (7, 1, 0), [], [867]),
  (99, .iload_n 3, 1, (0, 0, 0), [], []),
  (100, .if_icmp .ge 7, 3, (107, 0, 0), [], []),
  (103, .iconst 1, 1, (0, 0, 0), [], []),
  (104, .goto 4, 3, (108, 0, 0), [], []),
  (107, .iconst 0, 1, (0, 0, 0), [], []),
  (108, .ireturn, 1, (1, 0, 0), [], []),
  (109, .aload_n 0, 1, (0, 0, 0), [], []),
  (110, .getfield 18, 3, (7, 5, 2), [], [873]),
  (113, .iload 4, 2, (0, 0, 0), [], []),
  (115, .aaload, 1, (24, 0, 0), [], []),
  (116, .iconst 3, 1, (0, 0, 0), [], []),
  (117, .iaload, 1, (0, 0, 0), [], []),
  (118, .ifCond .lt 7, 3, (125, 0, 0), [], []),
  (121, .iconst 1, 1, (0, 0, 0), [], []),
  (122, .goto 4, 3, (126, 0, 0), [], []),
  (125, .iconst 0, 1, (0, 0, 0), [], []),
  (126, .ireturn, 1, (1, 0, 0), [], [])]
def am_t160_1 : List am_E := [(127, .aload_n 0, 1, (0, 0, 0), [], []),
  (128, .getfield 27, 3, (7, 7, 2), [], [877]),
  (131, .iload 5, 2, (0, 0, 0), [], []),
  (133, .aaload, 1, (24, 0, 0), [], []),
  (134, .iload 4, 2, (0, 0, 0), [], []),
  (136, .baload, 1, (2, 0, 0), [], []),
  (137, .ireturn, 1, (1, 0, 0), [], []),
  (138, .aload_n 0, 1, (0, 0, 0), [], []),
  (139, .getfield 18, 3, (7, 5, 2), [], [873]),
  (142, .iload 4, 2, (0, 0, 0), [], []),
  (144, .aaload, 1, (24, 0, 0), [], []),
  (145, .iconst 0, 1, (0, 0, 0), [], []),
  (146, .iaload, 1, (0, 0, 0), [], []),
  (147, .iconst 5, 1, (0, 0, 0), [], []),
  (148, .iload_n 3, 1, (0, 0, 0), [], []),
  (149, .imul, 1, (0, 0, 0), [], []),
  (150, .if_icmp .le 7, 3, (157, 0, 0), [], []),
  (153, .iconst 1, 1, (0, 0, 0), [], []),
  (154, .goto 4, 3, (158, 0, 0), [], []),
  (157, .iconst 0, 1, (0, 0, 0), [], []),
  (158, .ireturn, 1, (1, 0, 0), [], []),
  (159, .aload_n 0, 1, (0, 0, 0), [], []),
  (160, .iload 4, 2, (0, 0, 0), [], []),
  (162, .invokevirtual 43, 3, (0, 157, 7), [], [764, 59, 765, 766]),
  (165, .iload_n 2, 1, (0, 0, 0), [], []),
  (166, .bipush 7, 2, (0, 0, 0), [], []),
  (168, .irem, 1, (0, 0, 0), [], []),
  (169, .if_icmp .ge 7, 3, (176, 0, 0), [], []),
  (172, .iconst 1, 1, (0, 0, 0), [], []),
  (173, .goto 4, 3, (177, 0, 0), [], []),
  (176, .iconst 0, 1, (0, 0, 0), [], []),
  (177, .ireturn, 1, (1, 0, 0), [], []),
  (178, .aload_n 0, 1, (0, 0, 0), [], []),
  (179, .getfield 22, 3, (7, 6, 2), [], [875]),
  (182, .iload 5, 2, (0, 0, 0), [], []),
  (184, .aaload, 1, (24, 0, 0), [], []),
  (185, .iconst 0, 1, (0, 0, 0), [], []),
  (186, .iaload, 1, (0, 0, 0), [], []),
  (187, .iload_n 3, 1, (0, 0, 0), [], []),
  (188, .if_icmp .gt 15, 3, (203, 0, 0), [], []),
  (191, .aload_n 0, 1, (0, 0, 0), [], []),
  (192, .iload 5, 2, (0, 0, 0), [], []),
  (194, .invokevirtual 47, 3, (0, 159, 7), [], [768, 59, 769, 770]),
  (197, .iload_n 2, 1, (0, 0, 0), [], []),
  (198, .iconst 5, 1, (0, 0, 0), [], []),
  (199, .irem, 1, (0, 0, 0), [], []),
  (200, .if_icmp .lt 7, 3, (207, 0, 0), [], []),
  (203, .iconst 1, 1, (0, 0, 0), [], []),
  (204, .goto 4, 3, (208, 0, 0), [], []),
  (207, .iconst 0, 1, (0, 0, 0), [], []),
  (208, .ireturn, 1, (1, 0, 0), [], []),
  (209, .aload_n 0, 1, (0, 0, 0), [], []),
  (210, .getfield 40, 3, (7, 1, 0), [], [867]),
  (213, .iload_n 2, 1, (0, 0, 0), [], []),
  (214, .invokestatic 50, 3, (7, 0, 0), [], [747, 580, 61, 581]),
  (217, .aload_n 0, 1, (0, 0, 0), [], []),
  (218, .getfield 37, 3, (7, 0, 0), [], [866]),
  (221, .if_icmp .ge 27, 3, (248, 0, 0), [], []),
  (224, .aload_n 0, 1, (0, 0, 0), [], []),
  (225, .getfield 37, 3, (7, 0, 0), [], [866])]
def am_t160_2 : List am_E := [(228, .iload_n 2, 1, (0, 0, 0), [], []),
  (229, .if_icmp .gt 15, 3, (244, 0, 0), [], []),
  (232, .aload_n 0, 1, (0, 0, 0), [], []),
  (233, .getfield 18, 3, (7, 5, 2), [], [873]),
  (236, .iload 4, 2, (0, 0, 0), [], []),
  (238, .aaload, 1, (24, 0, 0), [], []),
  (239, .iconst 3, 1, (0, 0, 0), [], []),
  (240, .iaload, 1, (0, 0, 0), [], []),
  (241, .ifCond .ge 7, 3, (248, 0, 0), [], []),
  (244, .iconst 1, 1, (0, 0, 0), [], []),
  (245, .goto 4, 3, (249, 0, 0), [], []),
  (248, .iconst 0, 1, (0, 0, 0), [], []),
  (249, .ireturn, 1, (1, 0, 0), [], [])]
def am_t160 : List am_E := am_t160_0 ++ (am_t160_1 ++ (am_t160_2))
/-- 161: X9_isBanned -/
def am_t161 : List am_E := [(0, .iconst 0, 1, (0, 0, 0), [], []),
  (1, .istore_n 2, 1, (0, 0, 0), [], []),
  (2, .aload_n 0, 1, (0, 0, 0), [], []),
  (3, .getfield 31, 3, (7, 8, 2), [], [879]),
  (6, .astore_n 3, 1, (1, 0, 0), [], []),
  (7, .aload_n 3, 1, (0, 0, 0), [], []),
  (8, .arraylength, 1, (1, 0, 0), [], []),
  (9, .istore 4, 2, (0, 0, 0), [], []),
  (11, .iconst 0, 1, (0, 0, 0), [], []),
  (12, .istore 5, 2, (0, 0, 0), [], []),
  (14, .iload 5, 2, (0, 0, 0), [], []),
  (16, .iload 4, 2, (0, 0, 0), [], []),
  (18, .if_icmp .ge 40, 3, (58, 0, 0), [], []),
  (21, .aload_n 3, 1, (0, 0, 0), [], []),
  (22, .iload 5, 2, (0, 0, 0), [], []),
  (24, .aaload, 1, (24, 0, 0), [], []),
  (25, .astore 6, 2, (1, 0, 0), [], []),
  (27, .iload_n 2, 1, (0, 0, 0), [], []),
  (28, .aload 6, 2, (0, 0, 0), [], []),
  (30, .iconst 0, 1, (0, 0, 0), [], []),
  (31, .iaload, 1, (0, 0, 0), [], []),
  (32, .iload_n 1, 1, (0, 0, 0), [], []),
  (33, .if_icmp .ne 16, 3, (49, 0, 0), [], []),
  (36, .aload_n 0, 1, (0, 0, 0), [], []),
  (37, .aload 6, 2, (0, 0, 0), [], []),
  (39, .invokevirtual 56, 3, (0, 160, 7), [], [760, 59, 761, 762]),
  (42, .ifCond .eq 7, 3, (49, 0, 0), [], []),
  (45, .iconst 1, 1, (0, 0, 0), [], []),
  (46, .goto 4, 3, (50, 0, 0), [], []),
  (49, .iconst 0, 1, (0, 0, 0), [], []),
  (50, .ior, 1, (0, 0, 0), [], []),
  (51, .istore_n 2, 1, (0, 0, 0), [], []),
  (52, .iinc 5 1, 3, (0, 0, 0), [], []),
  (55, .goto (-41), 3, (14, 0, 0), [], []),
  (58, .iload_n 2, 1, (0, 0, 0), [], []),
  (59, .ireturn, 1, (1, 0, 0), [], [])]
/-- 162: X9_canBe -/
def am_t162_0 : List am_E := [(0, .iconst 0, 1, (0, 0, 0), [], []),
  (1, .istore_n 2, 1, (0, 0, 0), [], []),
  (2, .aload_n 0, 1, (0, 0, 0), [], []),
  (3, .getfield 18, 3, (7, 5, 2), [], [873]),
  (6, .astore_n 3, 1, (1, 0, 0), [], []),
  (7, .aload_n 3, 1, (0, 0, 0), [], []),
  (8, .arraylength, 1, (1, 0, 0), [], []),
  (9, .istore 4, 2, (0, 0, 0), [], []),
  (11, .iconst 0, 1, (0, 0, 0), [], []),
  (12, .istore 5, 2, (0, 0, 0), [], []),
  (14, .iload 5, 2, (0, 0, 0), [], []),
  (16, .iload 4, 2, (0, 0, 0), [], []),
  (18, .if_icmp .ge 49, 3, (67, 0, 0), [], []),
  (21, .aload_n 3, 1, (0, 0, 0), [], []),
  (22, .iload 5, 2, (0, 0, 0), [], []),
  (24, .aaload, 1, (24, 0, 0), [], []),
  (25, .astore 6, 2, (1, 0, 0), [], []),
  (27, .iload_n 2, 1, (0, 0, 0), [], []),
  (28, .aload 6, 2, (0, 0, 0), [], []),
  (30, .iconst 1, 1, (0, 0, 0), [], []),
  (31, .iaload, 1, (0, 0, 0), [], []),
  (32, .aload_n 0, 1, (0, 0, 0), [], []),
  (33, .getfield 18, 3, (7, 5, 2), [], [873]),
  (36, .iload_n 1, 1, (0, 0, 0), [], []),
  (37, .aaload, 1, (24, 0, 0), [], []),
  (38, .iconst 1, 1, (0, 0, 0), [], []),
  (39, .iaload, 1, (0, 0, 0), [], []),
  (40, .if_icmp .ne 18, 3, (58, 0, 0), [], []),
  (43, .aload 6, 2, (0, 0, 0), [], []),
  (45, .iconst 3, 1, (0, 0, 0), [], []),
  (46, .iaload, 1, (0, 0, 0), [], []),
  (47, .aload_n 0, 1, (0, 0, 0), [], []),
  (48, .getfield 37, 3, (7, 0, 0), [], [866]),
  (51, .if_icmp .ne 7, 3, (58, 0, 0), [], []),
  (54, .iconst 1, 1, (0, 0, 0), [], []),
  (55, .goto 4, 3, (59, 0, 0), [], []),
  (58, .iconst 0, 1, (0, 0, 0), [], []),
  (59, .iadd, 1, (0, 0, 0), [], []),
  (60, .istore_n 2, 1, (0, 0, 0), [], []),
  (61, .iinc 5 1, 3, (0, 0, 0), [], []),
  (64, .goto (-50), 3, (14, 0, 0), [], []),
  (67, .iload_n 1, 1, (0, 0, 0), [], []),
  (68, .aload_n 0, 1, (0, 0, 0), [], []),
  (69, .getfield 34, 3, (7, 9, 0), [], [881]),
  (72, .if_icmp .eq 43, 3, (115, 0, 0), [], []),
  (75, .aload_n 0, 1, (0, 0, 0), [], []),
  (76, .getfield 18, 3, (7, 5, 2), [], [873]),
  (79, .iload_n 1, 1, (0, 0, 0), [], []),
  (80, .aaload, 1, (24, 0, 0), [], []),
  (81, .iconst 3, 1, (0, 0, 0), [], []),
  (82, .iaload, 1, (0, 0, 0), [], []),
  (83, .ifCond .ge 32, 3, (115, 0, 0), [], []),
  (86, .aload_n 0, 1, (0, 0, 0), [], []),
  (87, .getfield 13, 3, (7, 4, 2), [], [871]),
  (90, .aload_n 0, 1, (0, 0, 0), [], []),
  (91, .getfield 18, 3, (7, 5, 2), [], [873]),
  (94, .iload_n 1, 1, (0, 0, 0), [], []),
  (95, .aaload, 1, (24, 0, 0), [], []),
  (96, .iconst 1, 1, (0, 0, 0), [], []),
  (97, .iaload, 1, (0, 0, 0), [], [])]
def am_t162_1 : List am_E := [(98, .iaload, 1, (0, 0, 0), [], []),
  (99, .iload_n 2, 1, (0, 0, 0), [], []),
  (100, .if_icmp .le 15, 3, (115, 0, 0), [], []),
  (103, .aload_n 0, 1, (0, 0, 0), [], []),
  (104, .iload_n 1, 1, (0, 0, 0), [], []),
  (105, .invokevirtual 60, 3, (0, 161, 7), [], [756, 59, 757, 758]),
  (108, .ifCond .ne 7, 3, (115, 0, 0), [], []),
  (111, .iconst 1, 1, (0, 0, 0), [], []),
  (112, .goto 4, 3, (116, 0, 0), [], []),
  (115, .iconst 0, 1, (0, 0, 0), [], []),
  (116, .ireturn, 1, (1, 0, 0), [], [])]
def am_t162 : List am_E := am_t162_0 ++ (am_t162_1)
/-- 163: X9_share -/
def am_t163_0 : List am_E := [(0, .aload_n 0, 1, (0, 0, 0), [], []),
  (1, .iload_n 1, 1, (0, 0, 0), [], []),
  (2, .invokevirtual 64, 3, (0, 158, 7), [], [776, 59, 777, 778]),
  (5, .aload_n 0, 1, (0, 0, 0), [], []),
  (6, .getfield 18, 3, (7, 5, 2), [], [873]),
  (9, .iload_n 1, 1, (0, 0, 0), [], []),
  (10, .aaload, 1, (24, 0, 0), [], []),
  (11, .iconst 0, 1, (0, 0, 0), [], []),
  (12, .iaload, 1, (0, 0, 0), [], []),
  (13, .if_icmp .ge 5, 3, (18, 0, 0), [], []),
  (16, .iconst (-1), 1, (0, 0, 0), [], []),
  (17, .ireturn, 1, (0, 0, 0), [], []),
  (18, .aload_n 0, 1, (0, 0, 0), [], []),
  (19, .iload_n 1, 1, (0, 0, 0), [], []),
  (20, .invokevirtual 43, 3, (0, 157, 7), [], [764, 59, 765, 766]),
  (23, .newarray .int, 2, (20, 0, 0), [], [178]),
  (25, .astore_n 2, 1, (1, 0, 0), [], []),
  (26, .iconst 0, 1, (0, 0, 0), [], []),
  (27, .istore_n 3, 1, (0, 0, 0), [], []),
  (28, .iconst 0, 1, (0, 0, 0), [], []),
  (29, .istore 4, 2, (0, 0, 0), [], []),
  (31, .iload 4, 2, (0, 0, 0), [], []),
  (33, .aload_n 0, 1, (0, 0, 0), [], []),
  (34, .getfield 22, 3, (7, 6, 2), [], [875]),
  (37, .arraylength, 1, (1, 0, 0), [], []),
  (38, .if_icmp .ge 36, 3, (74, 0, 0), [], []),
  (41, .aload_n 0, 1, (0, 0, 0), [], []),
  (42, .getfield 27, 3, (7, 7, 2), [], [877]),
  (45, .iload 4, 2, (0, 0, 0), [], []),
  (47, .aaload, 1, (24, 0, 0), [], []),
  (48, .iload_n 1, 1, (0, 0, 0), [], []),
  (49, .baload, 1, (2, 0, 0), [], []),
  (50, .ifCond .eq 18, 3, (68, 0, 0), [], []),
  (53, .aload_n 2, 1, (0, 0, 0), [], []),
  (54, .iload_n 3, 1, (0, 0, 0), [], []),
  (55, .iinc 3 1, 3, (0, 0, 0), [], []),
  (58, .aload_n 0, 1, (0, 0, 0), [], []),
  (59, .getfield 22, 3, (7, 6, 2), [], [875]),
  (62, .iload 4, 2, (0, 0, 0), [], []),
  (64, .aaload, 1, (24, 0, 0), [], []),
  (65, .iconst 0, 1, (0, 0, 0), [], []),
  (66, .iaload, 1, (0, 0, 0), [], []),
  (67, .iastore, 1, (0, 0, 0), [], []),
  (68, .iinc 4 1, 3, (0, 0, 0), [], []),
  (71, .goto (-40), 3, (31, 0, 0), [], []),
  (74, .aload_n 2, 1, (0, 0, 0), [], []),
  (75, .invokestatic 67, 3, (2, 150, 0), [], [780, 62, 781]),
  (78, .aload_n 0, 1, (0, 0, 0), [], []),
  (79, .getfield 18, 3, (7, 5, 2), [], [873]),
  (82, .iload_n 1, 1, (0, 0, 0), [], []),
  (83, .aaload, 1, (24, 0, 0), [], []),
  (84, .iconst 0, 1, (0, 0, 0), [], []),
  (85, .iaload, 1, (0, 0, 0), [], []),
  (86, .istore 4, 2, (0, 0, 0), [], []),
  (88, .iconst 0, 1, (0, 0, 0), [], []),
  (89, .istore 5, 2, (0, 0, 0), [], []),
  (91, .iload 5, 2, (0, 0, 0), [], []),
  (93, .aload_n 2, 1, (0, 0, 0), [], []),
  (94, .arraylength, 1, (1, 0, 0), [], []),
  (95, .if_icmp .ge 48, 3, (143, 0, 0), [], [])]
def am_t163_1 : List am_E := [(98, .aload_n 2, 1, (0, 0, 0), [], []),
  (99, .arraylength, 1, (1, 0, 0), [], []),
  (100, .iload 5, 2, (0, 0, 0), [], []),
  (102, .isub, 1, (0, 0, 0), [], []),
  (103, .istore 6, 2, (0, 0, 0), [], []),
  (105, .aload_n 2, 1, (0, 0, 0), [], []),
  (106, .iload 5, 2, (0, 0, 0), [], []),
  (108, .iaload, 1, (0, 0, 0), [], []),
  (109, .iload 6, 2, (0, 0, 0), [], []),
  (111, .imul, 1, (0, 0, 0), [], []),
  (112, .iload 4, 2, (0, 0, 0), [], []),
  (114, .if_icmp .lt 14, 3, (128, 0, 0), [], []),
  (117, .iload 4, 2, (0, 0, 0), [], []),
  (119, .iload 6, 2, (0, 0, 0), [], []),
  (121, .iadd, 1, (0, 0, 0), [], []),
  (122, .iconst 1, 1, (0, 0, 0), [], []),
  (123, .isub, 1, (0, 0, 0), [], []),
  (124, .iload 6, 2, (0, 0, 0), [], []),
  (126, .idiv, 1, (0, 0, 0), [], []),
  (127, .ireturn, 1, (0, 0, 0), [], []),
  (128, .iload 4, 2, (0, 0, 0), [], []),
  (130, .aload_n 2, 1, (0, 0, 0), [], []),
  (131, .iload 5, 2, (0, 0, 0), [], []),
  (133, .iaload, 1, (0, 0, 0), [], []),
  (134, .isub, 1, (0, 0, 0), [], []),
  (135, .istore 4, 2, (0, 0, 0), [], []),
  (137, .iinc 5 1, 3, (0, 0, 0), [], []),
  (140, .goto (-49), 3, (91, 0, 0), [], []),
  (143, .iconst (-1), 1, (0, 0, 0), [], []),
  (144, .ireturn, 1, (0, 0, 0), [], [])]
def am_t163 : List am_E := am_t163_0 ++ (am_t163_1)
/-- 164: X9_open -/
def am_t164 : List am_E := [(0, .aload_n 0, 1, (0, 0, 0), [], []),
  (1, .getfield 7, 3, (7, 3, 0), [], [869]),
  (4, .istore_n 1, 1, (0, 0, 0), [], []),
  (5, .aload_n 0, 1, (0, 0, 0), [], []),
  (6, .getfield 22, 3, (7, 6, 2), [], [875]),
  (9, .astore_n 2, 1, (1, 0, 0), [], []),
  (10, .aload_n 2, 1, (0, 0, 0), [], []),
  (11, .arraylength, 1, (1, 0, 0), [], []),
  (12, .istore_n 3, 1, (0, 0, 0), [], []),
  (13, .iconst 0, 1, (0, 0, 0), [], []),
  (14, .istore 4, 2, (0, 0, 0), [], []),
  (16, .iload 4, 2, (0, 0, 0), [], []),
  (18, .iload_n 3, 1, (0, 0, 0), [], []),
  (19, .if_icmp .ge 53, 3, (72, 0, 0), [], []),
  (22, .aload_n 2, 1, (0, 0, 0), [], []),
  (23, .iload 4, 2, (0, 0, 0), [], []),
  (25, .aaload, 1, (24, 0, 0), [], []),
  (26, .astore 5, 2, (1, 0, 0), [], []),
  (28, .aload 5, 2, (0, 0, 0), [], []),
  (30, .iconst 0, 1, (0, 0, 0), [], []),
  (31, .sipush 9999, 3, (0, 0, 0), [], []),
  (34, .aload 5, 2, (0, 0, 0), [], []),
  (36, .iconst 0, 1, (0, 0, 0), [], []),
  (37, .iaload, 1, (0, 0, 0), [], []),
  (38, .aload_n 0, 1, (0, 0, 0), [], []),
  (39, .getfield 7, 3, (7, 3, 0), [], [869]),
  (42, .aload_n 0, 1, (0, 0, 0), [], []),
  (43, .getfield 22, 3, (7, 6, 2), [], [875]),
  (46, .arraylength, 1, (1, 0, 0), [], []),
  (47, .idiv, 1, (0, 0, 0), [], []),
  (48, .iadd, 1, (0, 0, 0), [], []),
  (49, .invokestatic 50, 3, (7, 0, 0), [], [747, 580, 61, 581]),
  (52, .iastore, 1, (0, 0, 0), [], []),
  (53, .iload_n 1, 1, (0, 0, 0), [], []),
  (54, .aload_n 0, 1, (0, 0, 0), [], []),
  (55, .getfield 7, 3, (7, 3, 0), [], [869]),
  (58, .aload_n 0, 1, (0, 0, 0), [], []),
  (59, .getfield 22, 3, (7, 6, 2), [], [875]),
  (62, .arraylength, 1, (1, 0, 0), [], []),
  (63, .idiv, 1, (0, 0, 0), [], []),
  (64, .isub, 1, (0, 0, 0), [], []),
  (65, .istore_n 1, 1, (0, 0, 0), [], []),
  (66, .iinc 4 1, 3, (0, 0, 0), [], []),
  (69, .goto (-53), 3, (16, 0, 0), [], []),
  (72, .aload_n 0, 1, (0, 0, 0), [], []),
  (73, .sipush 9999, 3, (0, 0, 0), [], []),
  (76, .aload_n 0, 1, (0, 0, 0), [], []),
  (77, .getfield 40, 3, (7, 1, 0), [], [867]),
  (80, .iload_n 1, 1, (0, 0, 0), [], []),
  (81, .iadd, 1, (0, 0, 0), [], []),
  (82, .invokestatic 50, 3, (7, 0, 0), [], [747, 580, 61, 581]),
  (85, .putfield 40, 3, (7, 1, 0), [], [867]),
  (88, .return_, 1, (0, 0, 0), [], [])]
/-- 165: X9_next -/
def am_t165 : List am_E := [(0, .iconst (-1), 1, (0, 0, 0), [], []),
  (1, .istore_n 1, 1, (0, 0, 0), [], []),
  (2, .aload_n 0, 1, (0, 0, 0), [], []),
  (3, .getfield 18, 3, (7, 5, 2), [], [873]),
  (6, .arraylength, 1, (1, 0, 0), [], []),
  (7, .iconst 1, 1, (0, 0, 0), [], []),
  (8, .isub, 1, (0, 0, 0), [], []),
  (9, .istore_n 2, 1, (0, 0, 0), [], []),
  (10, .iload_n 2, 1, (0, 0, 0), [], []),
  (11, .ifCond .lt 73, 3, (84, 0, 0), [], []),
  (14, .aload_n 0, 1, (0, 0, 0), [], []),
  (15, .iload_n 2, 1, (0, 0, 0), [], []),
  (16, .invokevirtual 73, 3, (0, 162, 7), [], [752, 59, 753, 754]),
  (19, .ifCond .eq 59, 3, (78, 0, 0), [], []),
  (22, .aload_n 0, 1, (0, 0, 0), [], []),
  (23, .iload_n 2, 1, (0, 0, 0), [], []),
  (24, .invokevirtual 76, 3, (0, 163, 7), [], [772, 59, 773, 774]),
  (27, .ifCond .ge 6, 3, (33, 0, 0), [], []),
  (30, .goto 48, 3, (78, 0, 0), [], []),
  (33, .iload_n 1, 1, (0, 0, 0), [], []),
  (34, .ifCond .lt 42, 3, (76, 0, 0), [], []),
  (37, .aload_n 0, 1, (0, 0, 0), [], []),
  (38, .iload_n 2, 1, (0, 0, 0), [], []),
  (39, .invokevirtual 76, 3, (0, 163, 7), [], [772, 59, 773, 774]),
  (42, .aload_n 0, 1, (0, 0, 0), [], []),
  (43, .iload_n 1, 1, (0, 0, 0), [], []),
  (44, .invokevirtual 76, 3, (0, 163, 7), [], [772, 59, 773, 774]),
  (47, .if_icmp .lt 29, 3, (76, 0, 0), [], []),
  (50, .aload_n 0, 1, (0, 0, 0), [], []),
  (51, .iload_n 2, 1, (0, 0, 0), [], []),
  (52, .invokevirtual 76, 3, (0, 163, 7), [], [772, 59, 773, 774]),
  (55, .aload_n 0, 1, (0, 0, 0), [], []),
  (56, .iload_n 1, 1, (0, 0, 0), [], []),
  (57, .invokevirtual 76, 3, (0, 163, 7), [], [772, 59, 773, 774]),
  (60, .if_icmp .ne 18, 3, (78, 0, 0), [], []),
  (63, .aload_n 0, 1, (0, 0, 0), [], []),
  (64, .iload_n 2, 1, (0, 0, 0), [], []),
  (65, .invokevirtual 43, 3, (0, 157, 7), [], [764, 59, 765, 766]),
  (68, .aload_n 0, 1, (0, 0, 0), [], []),
  (69, .iload_n 1, 1, (0, 0, 0), [], []),
  (70, .invokevirtual 43, 3, (0, 157, 7), [], [764, 59, 765, 766]),
  (73, .if_icmp .lt 5, 3, (78, 0, 0), [], []),
  (76, .iload_n 2, 1, (0, 0, 0), [], []),
  (77, .istore_n 1, 1, (0, 0, 0), [], []),
  (78, .iinc 2 (-1), 3, (0, 0, 0), [], []),
  (81, .goto (-71), 3, (10, 0, 0), [], []),
  (84, .iload_n 1, 1, (0, 0, 0), [], []),
  (85, .ireturn, 1, (0, 0, 0), [], [])]
/-- 166: X9_buy -/
def am_t166_0 : List am_E := [(0, .aload_n 0, 1, (0, 0, 0), [], []),
  (1, .iload_n 1, 1, (0, 0, 0), [], []),
  (2, .invokevirtual 76, 3, (0, 163, 7), [], [772, 59, 773, 774]),
  (5, .istore_n 2, 1, (0, 0, 0), [], []),
  (6, .aload_n 0, 1, (0, 0, 0), [], []),
  (7, .getfield 18, 3, (7, 5, 2), [], [873]),
  (10, .iload_n 1, 1, (0, 0, 0), [], []),
  (11, .aaload, 1, (24, 0, 0), [], []),
  (12, .iconst 0, 1, (0, 0, 0), [], []),
  (13, .iaload, 1, (0, 0, 0), [], []),
  (14, .ineg, 1, (0, 0, 0), [], []),
  (15, .istore_n 3, 1, (0, 0, 0), [], []),
  (16, .iconst 0, 1, (0, 0, 0), [], []),
  (17, .istore 4, 2, (0, 0, 0), [], []),
  (19, .iload 4, 2, (0, 0, 0), [], []),
  (21, .aload_n 0, 1, (0, 0, 0), [], []),
  (22, .getfield 22, 3, (7, 6, 2), [], [875]),
  (25, .arraylength, 1, (1, 0, 0), [], []),
  (26, .if_icmp .ge 85, 3, (111, 0, 0), [], []),
  (29, .aload_n 0, 1, (0, 0, 0), [], []),
  (30, .getfield 27, 3, (7, 7, 2), [], [877]),
  (33, .iload 4, 2, (0, 0, 0), [], []),
  (35, .aaload, 1, (24, 0, 0), [], []),
  (36, .iload_n 1, 1, (0, 0, 0), [], []),
  (37, .baload, 1, (2, 0, 0), [], []),
  (38, .ifCond .ne 6, 3, (44, 0, 0), [], []),
  (41, .goto 64, 3, (105, 0, 0), [], []),
  (44, .aload_n 0, 1, (0, 0, 0), [], []),
  (45, .getfield 22, 3, (7, 6, 2), [], [875]),
  (48, .iload 4, 2, (0, 0, 0), [], []),
  (50, .aaload, 1, (24, 0, 0), [], []),
  (51, .iconst 0, 1, (0, 0, 0), [], []),
  (52, .iaload, 1, (0, 0, 0), [], []),
  (53, .iload_n 2, 1, (0, 0, 0), [], []),
  (54, .if_icmp .ge 15, 3, (69, 0, 0), [], []),
  (57, .aload_n 0, 1, (0, 0, 0), [], []),
  (58, .getfield 22, 3, (7, 6, 2), [], [875]),
  (61, .iload 4, 2, (0, 0, 0), [], []),
  (63, .aaload, 1, (24, 0, 0), [], []),
  (64, .iconst 0, 1, (0, 0, 0), [], []),
  (65, .iaload, 1, (0, 0, 0), [], []),
  (66, .goto 4, 3, (70, 0, 0), [], []),
  (69, .iload_n 2, 1, (0, 0, 0), [], []),
  (70, .istore 5, 2, (0, 0, 0), [], []),
  (72, .iload_n 3, 1, (0, 0, 0), [], []),
  (73, .iload 5, 2, (0, 0, 0), [], []),
  (75, .iadd, 1, (0, 0, 0), [], []),
  (76, .istore_n 3, 1, (0, 0, 0), [], []),
  (77, .aload_n 0, 1, (0, 0, 0), [], []),
  (78, .getfield 22, 3, (7, 6, 2), [], [875]),
  (81, .iload 4, 2, (0, 0, 0), [], []),
  (83, .aaload, 1, (24, 0, 0), [], []),
  (84, .iconst 0, 1, (0, 0, 0), [], []),
  (85, .dup2, 1, (0, 0, 0), [], []),
  (86, .iaload, 1, (0, 0, 0), [], []),
  (87, .iload 5, 2, (0, 0, 0), [], []),
  (89, .isub, 1, (0, 0, 0), [], []),
  (90, .iastore, 1, (0, 0, 0), [], []),
  (91, .aload_n 0, 1, (0, 0, 0), [], []),
  (92, .getfield 22, 3, (7, 6, 2), [], [875])]
def am_t166_1 : List am_E := [(95, .iload 4, 2, (0, 0, 0), [], []),
  (97, .aaload, 1, (24, 0, 0), [], []),
  (98, .iconst 1, 1, (0, 0, 0), [], []),
  (99, .dup2, 1, (0, 0, 0), [], []),
  (100, .iaload, 1, (0, 0, 0), [], []),
  (101, .iload 5, 2, (0, 0, 0), [], []),
  (103, .iadd, 1, (0, 0, 0), [], []),
  (104, .iastore, 1, (0, 0, 0), [], []),
  (105, .iinc 4 1, 3, (0, 0, 0), [], []),
  (108, .goto (-89), 3, (19, 0, 0), [], []),
  (111, .iconst 0, 1, (0, 0, 0), [], []),
  (112, .istore 4, 2, (0, 0, 0), [], []),
  (114, .iload 4, 2, (0, 0, 0), [], []),
  (116, .aload_n 0, 1, (0, 0, 0), [], []),
  (117, .getfield 22, 3, (7, 6, 2), [], [875]),
  (120, .arraylength, 1, (1, 0, 0), [], []),
  (121, .if_icmp .ge 70, 3, (191, 0, 0), [], []),
  (124, .iload_n 3, 1, (0, 0, 0), [], []),
  (125, .ifCond .le 66, 3, (191, 0, 0), [], []),
  (128, .aload_n 0, 1, (0, 0, 0), [], []),
  (129, .getfield 27, 3, (7, 7, 2), [], [877]),
  (132, .iload 4, 2, (0, 0, 0), [], []),
  (134, .aaload, 1, (24, 0, 0), [], []),
  (135, .iload_n 1, 1, (0, 0, 0), [], []),
  (136, .baload, 1, (2, 0, 0), [], []),
  (137, .ifCond .eq 48, 3, (185, 0, 0), [], []),
  (140, .aload_n 0, 1, (0, 0, 0), [], []),
  (141, .getfield 22, 3, (7, 6, 2), [], [875]),
  (144, .iload 4, 2, (0, 0, 0), [], []),
  (146, .aaload, 1, (24, 0, 0), [], []),
  (147, .iconst 2, 1, (0, 0, 0), [], []),
  (148, .iaload, 1, (0, 0, 0), [], []),
  (149, .iload_n 2, 1, (0, 0, 0), [], []),
  (150, .if_icmp .ge 6, 3, (156, 0, 0), [], []),
  (153, .goto 32, 3, (185, 0, 0), [], []),
  (156, .aload_n 0, 1, (0, 0, 0), [], []),
  (157, .getfield 22, 3, (7, 6, 2), [], [875]),
  (160, .iload 4, 2, (0, 0, 0), [], []),
  (162, .aaload, 1, (24, 0, 0), [], []),
  (163, .iconst 0, 1, (0, 0, 0), [], []),
  (164, .dup2, 1, (0, 0, 0), [], []),
  (165, .iaload, 1, (0, 0, 0), [], []),
  (166, .iconst 1, 1, (0, 0, 0), [], []),
  (167, .iadd, 1, (0, 0, 0), [], []),
  (168, .iastore, 1, (0, 0, 0), [], []),
  (169, .aload_n 0, 1, (0, 0, 0), [], []),
  (170, .getfield 22, 3, (7, 6, 2), [], [875]),
  (173, .iload 4, 2, (0, 0, 0), [], []),
  (175, .aaload, 1, (24, 0, 0), [], []),
  (176, .iconst 1, 1, (0, 0, 0), [], []),
  (177, .dup2, 1, (0, 0, 0), [], []),
  (178, .iaload, 1, (0, 0, 0), [], []),
  (179, .iconst 1, 1, (0, 0, 0), [], []),
  (180, .isub, 1, (0, 0, 0), [], []),
  (181, .iastore, 1, (0, 0, 0), [], []),
  (182, .iinc 3 (-1), 3, (0, 0, 0), [], []),
  (185, .iinc 4 1, 3, (0, 0, 0), [], []),
  (188, .goto (-74), 3, (114, 0, 0), [], []),
  (191, .aload_n 0, 1, (0, 0, 0), [], []),
  (192, .getfield 18, 3, (7, 5, 2), [], [873])]
def am_t166_2 : List am_E := [(195, .iload_n 1, 1, (0, 0, 0), [], []),
  (196, .aaload, 1, (24, 0, 0), [], []),
  (197, .iconst 4, 1, (0, 0, 0), [], []),
  (198, .iconst 1, 1, (0, 0, 0), [], []),
  (199, .iastore, 1, (0, 0, 0), [], []),
  (200, .return_, 1, (0, 0, 0), [], [])]
def am_t166 : List am_E := am_t166_0 ++ (am_t166_1 ++ (am_t166_2))
/-- 167: X9_build -/
def am_t167 : List am_E := [(0, .aload_n 0, 1, (0, 0, 0), [], []),
  (1, .getfield 18, 3, (7, 5, 2), [], [873]),
  (4, .iload_n 1, 1, (0, 0, 0), [], []),
  (5, .aaload, 1, (24, 0, 0), [], []),
  (6, .iconst 3, 1, (0, 0, 0), [], []),
  (7, .aload_n 0, 1, (0, 0, 0), [], []),
  (8, .getfield 37, 3, (7, 0, 0), [], [866]),
  (11, .iastore, 1, (0, 0, 0), [], []),
  (12, .aload_n 0, 1, (0, 0, 0), [], []),
  (13, .dup, 1, (0, 0, 0), [], []),
  (14, .getfield 79, 3, (7, 2, 0), [], [868]),
  (17, .aload_n 0, 1, (0, 0, 0), [], []),
  (18, .getfield 18, 3, (7, 5, 2), [], [873]),
  (21, .iload_n 1, 1, (0, 0, 0), [], []),
  (22, .aaload, 1, (24, 0, 0), [], []),
  (23, .iconst 0, 1, (0, 0, 0), [], []),
  (24, .iaload, 1, (0, 0, 0), [], []),
  (25, .iadd, 1, (0, 0, 0), [], []),
  (26, .putfield 79, 3, (7, 2, 0), [], [868]),
  (29, .return_, 1, (0, 0, 0), [], [])]
/-- 168: X9_pass -/
def am_t168_0 : List am_E := [(0, .iconst 0, 1, (0, 0, 0), [], []),
  (1, .istore_n 1, 1, (0, 0, 0), [], []),
  (2, .aload_n 0, 1, (0, 0, 0), [], []),
  (3, .invokevirtual 82, 3, (0, 164, 7), [], [743, 59, 744, 745]),
  (6, .aload_n 0, 1, (0, 0, 0), [], []),
  (7, .invokevirtual 85, 3, (0, 165, 7), [], [748, 59, 749, 750]),
  (10, .istore_n 2, 1, (0, 0, 0), [], []),
  (11, .iload_n 2, 1, (0, 0, 0), [], []),
  (12, .ifCond .lt 63, 3, (75, 0, 0), [], []),
  (15, .aload_n 0, 1, (0, 0, 0), [], []),
  (16, .getfield 22, 3, (7, 6, 2), [], [875]),
  (19, .astore_n 3, 1, (1, 0, 0), [], []),
  (20, .aload_n 3, 1, (0, 0, 0), [], []),
  (21, .arraylength, 1, (1, 0, 0), [], []),
  (22, .istore 4, 2, (0, 0, 0), [], []),
  (24, .iconst 0, 1, (0, 0, 0), [], []),
  (25, .istore 5, 2, (0, 0, 0), [], []),
  (27, .iload 5, 2, (0, 0, 0), [], []),
  (29, .iload 4, 2, (0, 0, 0), [], []),
  (31, .if_icmp .ge 23, 3, (54, 0, 0), [], []),
  (34, .aload_n 3, 1, (0, 0, 0), [], []),
  (35, .iload 5, 2, (0, 0, 0), [], []),
  (37, .aaload, 1, (24, 0, 0), [], []),
  (38, .astore 6, 2, (1, 0, 0), [], []),
  (40, .aload 6, 2, (0, 0, 0), [], []),
  (42, .iconst 2, 1, (0, 0, 0), [], []),
  (43, .aload 6, 2, (0, 0, 0), [], []),
  (45, .iconst 0, 1, (0, 0, 0), [], []),
  (46, .iaload, 1, (0, 0, 0), [], []),
  (47, .iastore, 1, (0, 0, 0), [], []),
  (48, .iinc 5 1, 3, (0, 0, 0), [], []),
  (51, .goto (-24), 3, (27, 0, 0), [], []),
  (54, .aload_n 0, 1, (0, 0, 0), [], []),
  (55, .iload_n 2, 1, (0, 0, 0), [], []),
  (56, .invokevirtual 89, 3, (0, 166, 7), [], [825, 59, 827, 21]),
  (59, .aload_n 0, 1, (0, 0, 0), [], []),
  (60, .iload_n 2, 1, (0, 0, 0), [], []),
  (61, .invokevirtual 93, 3, (0, 167, 7), [], [830, 59, 832, 22]),
  (64, .iinc 1 1, 3, (0, 0, 0), [], []),
  (67, .aload_n 0, 1, (0, 0, 0), [], []),
  (68, .invokevirtual 85, 3, (0, 165, 7), [], [748, 59, 749, 750]),
  (71, .istore_n 2, 1, (0, 0, 0), [], []),
  (72, .goto (-61), 3, (11, 0, 0), [], []),
  (75, .iconst (-1), 1, (0, 0, 0), [], []),
  (76, .istore_n 2, 1, (0, 0, 0), [], []),
  (77, .iconst 0, 1, (0, 0, 0), [], []),
  (78, .istore_n 3, 1, (0, 0, 0), [], []),
  (79, .iload_n 3, 1, (0, 0, 0), [], []),
  (80, .aload_n 0, 1, (0, 0, 0), [], []),
  (81, .getfield 18, 3, (7, 5, 2), [], [873]),
  (84, .arraylength, 1, (1, 0, 0), [], []),
  (85, .if_icmp .ge 86, 3, (171, 0, 0), [], []),
  (88, .aload_n 0, 1, (0, 0, 0), [], []),
  (89, .iload_n 3, 1, (0, 0, 0), [], []),
  (90, .invokevirtual 73, 3, (0, 162, 7), [], [752, 59, 753, 754]),
  (93, .ifCond .eq 72, 3, (165, 0, 0), [], []),
  (96, .aload_n 0, 1, (0, 0, 0), [], []),
  (97, .getfield 18, 3, (7, 5, 2), [], [873]),
  (100, .iload_n 3, 1, (0, 0, 0), [], []),
  (101, .aaload, 1, (24, 0, 0), [], [])]
def am_t168_1 : List am_E := [(102, .iconst 0, 1, (0, 0, 0), [], []),
  (103, .iaload, 1, (0, 0, 0), [], []),
  (104, .aload_n 0, 1, (0, 0, 0), [], []),
  (105, .getfield 40, 3, (7, 1, 0), [], [867]),
  (108, .if_icmp .le 6, 3, (114, 0, 0), [], []),
  (111, .goto 54, 3, (165, 0, 0), [], []),
  (114, .iload_n 2, 1, (0, 0, 0), [], []),
  (115, .ifCond .lt 48, 3, (163, 0, 0), [], []),
  (118, .aload_n 0, 1, (0, 0, 0), [], []),
  (119, .iload_n 3, 1, (0, 0, 0), [], []),
  (120, .invokevirtual 43, 3, (0, 157, 7), [], [764, 59, 765, 766]),
  (123, .aload_n 0, 1, (0, 0, 0), [], []),
  (124, .iload_n 2, 1, (0, 0, 0), [], []),
  (125, .invokevirtual 43, 3, (0, 157, 7), [], [764, 59, 765, 766]),
  (128, .if_icmp .gt 35, 3, (163, 0, 0), [], []),
  (131, .aload_n 0, 1, (0, 0, 0), [], []),
  (132, .iload_n 3, 1, (0, 0, 0), [], []),
  (133, .invokevirtual 43, 3, (0, 157, 7), [], [764, 59, 765, 766]),
  (136, .aload_n 0, 1, (0, 0, 0), [], []),
  (137, .iload_n 2, 1, (0, 0, 0), [], []),
  (138, .invokevirtual 43, 3, (0, 157, 7), [], [764, 59, 765, 766]),
  (141, .if_icmp .ne 24, 3, (165, 0, 0), [], []),
  (144, .aload_n 0, 1, (0, 0, 0), [], []),
  (145, .getfield 18, 3, (7, 5, 2), [], [873]),
  (148, .iload_n 3, 1, (0, 0, 0), [], []),
  (149, .aaload, 1, (24, 0, 0), [], []),
  (150, .iconst 0, 1, (0, 0, 0), [], []),
  (151, .iaload, 1, (0, 0, 0), [], []),
  (152, .aload_n 0, 1, (0, 0, 0), [], []),
  (153, .getfield 18, 3, (7, 5, 2), [], [873]),
  (156, .iload_n 2, 1, (0, 0, 0), [], []),
  (157, .aaload, 1, (24, 0, 0), [], []),
  (158, .iconst 0, 1, (0, 0, 0), [], []),
  (159, .iaload, 1, (0, 0, 0), [], []),
  (160, .if_icmp .ge 5, 3, (165, 0, 0), [], []),
  (163, .iload_n 3, 1, (0, 0, 0), [], []),
  (164, .istore_n 2, 1, (0, 0, 0), [], []),
  (165, .iinc 3 1, 3, (0, 0, 0), [], []),
  (168, .goto (-89), 3, (79, 0, 0), [], []),
  (171, .iload_n 2, 1, (0, 0, 0), [], []),
  (172, .ifCond .ge 6, 3, (178, 0, 0), [], []),
  (175, .goto 31, 3, (206, 0, 0), [], []),
  (178, .aload_n 0, 1, (0, 0, 0), [], []),
  (179, .dup, 1, (0, 0, 0), [], []),
  (180, .getfield 40, 3, (7, 1, 0), [], [867]),
  (183, .aload_n 0, 1, (0, 0, 0), [], []),
  (184, .getfield 18, 3, (7, 5, 2), [], [873]),
  (187, .iload_n 2, 1, (0, 0, 0), [], []),
  (188, .aaload, 1, (24, 0, 0), [], []),
  (189, .iconst 0, 1, (0, 0, 0), [], []),
  (190, .iaload, 1, (0, 0, 0), [], []),
  (191, .isub, 1, (0, 0, 0), [], []),
  (192, .putfield 40, 3, (7, 1, 0), [], [867]),
  (195, .aload_n 0, 1, (0, 0, 0), [], []),
  (196, .iload_n 2, 1, (0, 0, 0), [], []),
  (197, .invokevirtual 93, 3, (0, 167, 7), [], [830, 59, 832, 22]),
  (200, .iinc 1 1, 3, (0, 0, 0), [], []),
  (203, .goto (-128), 3, (75, 0, 0), [], []),
  (206, .aload_n 0, 1, (0, 0, 0), [], []),
  (207, .getfield 18, 3, (7, 5, 2), [], [873])]
def am_t168_2 : List am_E := [(210, .astore_n 2, 1, (1, 0, 0), [], []),
  (211, .aload_n 2, 1, (0, 0, 0), [], []),
  (212, .arraylength, 1, (1, 0, 0), [], []),
  (213, .istore_n 3, 1, (0, 0, 0), [], []),
  (214, .iconst 0, 1, (0, 0, 0), [], []),
  (215, .istore 4, 2, (0, 0, 0), [], []),
  (217, .iload 4, 2, (0, 0, 0), [], []),
  (219, .iload_n 3, 1, (0, 0, 0), [], []),
  (220, .if_icmp .ge 47, 3, (267, 0, 0), [], []),
  (223, .aload_n 2, 1, (0, 0, 0), [], []),
  (224, .iload 4, 2, (0, 0, 0), [], []),
  (226, .aaload, 1, (24, 0, 0), [], []),
  (227, .astore 5, 2, (1, 0, 0), [], []),
  (229, .aload 5, 2, (0, 0, 0), [], []),
  (231, .iconst 3, 1, (0, 0, 0), [], []),
  (232, .iaload, 1, (0, 0, 0), [], []),
  (233, .ifCond .ge 28, 3, (261, 0, 0), [], []),
  (236, .aload 5, 2, (0, 0, 0), [], []),
  (238, .iconst 0, 1, (0, 0, 0), [], []),
  (239, .sipush 9999, 3, (0, 0, 0), [], []),
  (242, .aload 5, 2, (0, 0, 0), [], []),
  (244, .iconst 0, 1, (0, 0, 0), [], []),
  (245, .iaload, 1, (0, 0, 0), [], []),
  (246, .bipush 100, 2, (0, 0, 0), [], []),
  (248, .aload 5, 2, (0, 0, 0), [], []),
  (250, .iconst 2, 1, (0, 0, 0), [], []),
  (251, .iaload, 1, (0, 0, 0), [], []),
  (252, .iadd, 1, (0, 0, 0), [], []),
  (253, .imul, 1, (0, 0, 0), [], []),
  (254, .bipush 100, 2, (0, 0, 0), [], []),
  (256, .idiv, 1, (0, 0, 0), [], []),
  (257, .invokestatic 50, 3, (7, 0, 0), [], [747, 580, 61, 581]),
  (260, .iastore, 1, (0, 0, 0), [], []),
  (261, .iinc 4 1, 3, (0, 0, 0), [], []),
  (264, .goto (-47), 3, (217, 0, 0), [], []),
  (267, .aload_n 0, 1, (0, 0, 0), [], []),
  (268, .dup, 1, (0, 0, 0), [], []),
  (269, .getfield 37, 3, (7, 0, 0), [], [866]),
  (272, .iconst 1, 1, (0, 0, 0), [], []),
  (273, .iadd, 1, (0, 0, 0), [], []),
  (274, .putfield 37, 3, (7, 0, 0), [], [866]),
  (277, .iload_n 1, 1, (0, 0, 0), [], []),
  (278, .ireturn, 1, (0, 0, 0), [], [])]
def am_t168 : List am_E := am_t168_0 ++ (am_t168_1 ++ (am_t168_2))
/-- 169: X9_same -/
def am_t169 : List am_E := [(0, .aload_n 0, 1, (0, 0, 0), [], []),
  (1, .arraylength, 1, (1, 0, 0), [], []),
  (2, .anewarray 17, 3, (24, 0, 0), [], [862, 863]),
  (5, .astore_n 1, 1, (1, 0, 0), [], []),
  (6, .iconst 0, 1, (0, 0, 0), [], []),
  (7, .istore_n 2, 1, (0, 0, 0), [], []),
  (8, .iload_n 2, 1, (0, 0, 0), [], []),
  (9, .aload_n 0, 1, (0, 0, 0), [], []),
  (10, .arraylength, 1, (1, 0, 0), [], []),
  (11, .if_icmp .ge 21, 3, (32, 0, 0), [], []),
  (14, .aload_n 1, 1, (0, 0, 0), [], []),
  (15, .iload_n 2, 1, (0, 0, 0), [], []),
  (16, .aload_n 0, 1, (0, 0, 0), [], []),
  (17, .iload_n 2, 1, (0, 0, 0), [], []),
  (18, .aaload, 1, (24, 0, 0), [], []),
  (19, .invokevirtual 99, 3, (16, 0, 20), [], [906, 802, 803, 804, 805, 806]),
  (22, .checkcast 17, 3, (20, 0, 0), [], [862]),
  (25, .aastore, 1, (24, 0, 0), [], []),
  (26, .iinc 2 1, 3, (0, 0, 0), [], []),
  (29, .goto (-21), 3, (8, 0, 0), [], []),
  (32, .aload_n 1, 1, (0, 0, 0), [], []),
  (33, .areturn, 1, (0, 0, 0), [], [])]
/-- 170: X9_copy -/
def am_t170_0 : List am_E := [(0, .new 8, 3, (7, 10, 0), [], [857, 828, 59]),
  (3, .dup, 1, (0, 0, 0), [], []),
  (4, .invokespecial 103, 3, (4, 156, 62), [], [858, 59, 859]),
  (7, .astore_n 1, 1, (1, 0, 0), [], []),
  (8, .aload_n 1, 1, (0, 0, 0), [], []),
  (9, .aload_n 0, 1, (0, 0, 0), [], []),
  (10, .getfield 37, 3, (7, 0, 0), [], [866]),
  (13, .putfield 37, 3, (7, 0, 0), [], [866]),
  (16, .aload_n 1, 1, (0, 0, 0), [], []),
  (17, .aload_n 0, 1, (0, 0, 0), [], []),
  (18, .getfield 40, 3, (7, 1, 0), [], [867]),
  (21, .putfield 40, 3, (7, 1, 0), [], [867]),
  (24, .aload_n 1, 1, (0, 0, 0), [], []),
  (25, .aload_n 0, 1, (0, 0, 0), [], []),
  (26, .getfield 79, 3, (7, 2, 0), [], [868]),
  (29, .putfield 79, 3, (7, 2, 0), [], [868]),
  (32, .aload_n 1, 1, (0, 0, 0), [], []),
  (33, .aload_n 0, 1, (0, 0, 0), [], []),
  (34, .getfield 7, 3, (7, 3, 0), [], [869]),
  (37, .putfield 7, 3, (7, 3, 0), [], [869]),
  (40, .aload_n 1, 1, (0, 0, 0), [], []),
  (41, .aload_n 0, 1, (0, 0, 0), [], []),
  (42, .getfield 13, 3, (7, 4, 2), [], [871]),
  (45, .putfield 13, 3, (7, 4, 2), [], [871]),
  (48, .aload_n 1, 1, (0, 0, 0), [], []),
  (49, .aload_n 0, 1, (0, 0, 0), [], []),
  (50, .getfield 18, 3, (7, 5, 2), [], [873]),
  (53, .invokestatic 104, 3, (2, 169, 0), [], [903, 59, 904]),
  (56, .putfield 18, 3, (7, 5, 2), [], [873]),
  (59, .aload_n 1, 1, (0, 0, 0), [], []),
  (60, .aload_n 0, 1, (0, 0, 0), [], []),
  (61, .getfield 22, 3, (7, 6, 2), [], [875]),
  (64, .invokestatic 104, 3, (2, 169, 0), [], [903, 59, 904]),
  (67, .putfield 22, 3, (7, 6, 2), [], [875]),
  (70, .aload_n 1, 1, (0, 0, 0), [], []),
  (71, .aload_n 0, 1, (0, 0, 0), [], []),
  (72, .getfield 27, 3, (7, 7, 2), [], [877]),
  (75, .arraylength, 1, (1, 0, 0), [], []),
  (76, .anewarray 25, 3, (25, 0, 0), [], [864, 865]),
  (79, .putfield 27, 3, (7, 7, 2), [], [877]),
  (82, .iconst 0, 1, (0, 0, 0), [], []),
  (83, .istore_n 2, 1, (0, 0, 0), [], []),
  (84, .iload_n 2, 1, (0, 0, 0), [], []),
  (85, .aload_n 0, 1, (0, 0, 0), [], []),
  (86, .getfield 27, 3, (7, 7, 2), [], [877]),
  (89, .arraylength, 1, (1, 0, 0), [], []),
  (90, .if_icmp .ge 27, 3, (117, 0, 0), [], []),
  (93, .aload_n 1, 1, (0, 0, 0), [], []),
  (94, .getfield 27, 3, (7, 7, 2), [], [877]),
  (97, .iload_n 2, 1, (0, 0, 0), [], []),
  (98, .aload_n 0, 1, (0, 0, 0), [], []),
  (99, .getfield 27, 3, (7, 7, 2), [], [877]),
  (102, .iload_n 2, 1, (0, 0, 0), [], []),
  (103, .aaload, 1, (24, 0, 0), [], []),
  (104, .invokevirtual 108, 3, (16, 0, 23), [], [907, 908, 803, 804, 909, 910]),
  (107, .checkcast 25, 3, (23, 0, 0), [], [864]),
  (110, .aastore, 1, (24, 0, 0), [], []),
  (111, .iinc 2 1, 3, (0, 0, 0), [], []),
  (114, .goto (-30), 3, (84, 0, 0), [], []),
  (117, .aload_n 1, 1, (0, 0, 0), [], [])]
def am_t170_1 : List am_E := [(118, .aload_n 0, 1, (0, 0, 0), [], []),
  (119, .getfield 31, 3, (7, 8, 2), [], [879]),
  (122, .putfield 31, 3, (7, 8, 2), [], [879]),
  (125, .aload_n 1, 1, (0, 0, 0), [], []),
  (126, .areturn, 1, (0, 0, 0), [], [])]
def am_t170 : List am_E := am_t170_0 ++ (am_t170_1)
/-- 171: X9_built -/
def am_t171 : List am_E := [(0, .iconst 0, 1, (0, 0, 0), [], []),
  (1, .istore_n 1, 1, (0, 0, 0), [], []),
  (2, .aload_n 0, 1, (0, 0, 0), [], []),
  (3, .getfield 18, 3, (7, 5, 2), [], [873]),
  (6, .astore_n 2, 1, (1, 0, 0), [], []),
  (7, .aload_n 2, 1, (0, 0, 0), [], []),
  (8, .arraylength, 1, (1, 0, 0), [], []),
  (9, .istore_n 3, 1, (0, 0, 0), [], []),
  (10, .iconst 0, 1, (0, 0, 0), [], []),
  (11, .istore 4, 2, (0, 0, 0), [], []),
  (13, .iload 4, 2, (0, 0, 0), [], []),
  (15, .iload_n 3, 1, (0, 0, 0), [], []),
  (16, .if_icmp .ge 30, 3, (46, 0, 0), [], []),
  (19, .aload_n 2, 1, (0, 0, 0), [], []),
  (20, .iload 4, 2, (0, 0, 0), [], []),
  (22, .aaload, 1, (24, 0, 0), [], []),
  (23, .astore 5, 2, (1, 0, 0), [], []),
  (25, .iload_n 1, 1, (0, 0, 0), [], []),
  (26, .aload 5, 2, (0, 0, 0), [], []),
  (28, .iconst 3, 1, (0, 0, 0), [], []),
  (29, .iaload, 1, (0, 0, 0), [], []),
  (30, .ifCond .ge 7, 3, (37, 0, 0), [], []),
  (33, .iconst 0, 1, (0, 0, 0), [], []),
  (34, .goto 4, 3, (38, 0, 0), [], []),
  (37, .iconst 1, 1, (0, 0, 0), [], []),
  (38, .iadd, 1, (0, 0, 0), [], []),
  (39, .istore_n 1, 1, (0, 0, 0), [], []),
  (40, .iinc 4 1, 3, (0, 0, 0), [], []),
  (43, .goto (-30), 3, (13, 0, 0), [], []),
  (46, .iload_n 1, 1, (0, 0, 0), [], []),
  (47, .ireturn, 1, (0, 0, 0), [], [])]
/-- 172: X9_counts -/
def am_t172_0 : List am_E := [(0, .bipush 12, 2, (0, 0, 0), [], []),
  (2, .newarray .int, 2, (20, 0, 0), [], [178]),
  (4, .dup, 1, (0, 0, 0), [], []),
  (5, .iconst 0, 1, (0, 0, 0), [], []),
  (6, .aload_n 0, 1, (0, 0, 0), [], []),
  (7, .getfield 37, 3, (7, 0, 0), [], [866]),
  (10, .iastore, 1, (0, 0, 0), [], []),
  (11, .dup, 1, (0, 0, 0), [], []),
  (12, .iconst 1, 1, (0, 0, 0), [], []),
  (13, .aload_n 0, 1, (0, 0, 0), [], []),
  (14, .getfield 13, 3, (7, 4, 2), [], [871]),
  (17, .arraylength, 1, (1, 0, 0), [], []),
  (18, .iastore, 1, (0, 0, 0), [], []),
  (19, .dup, 1, (0, 0, 0), [], []),
  (20, .iconst 2, 1, (0, 0, 0), [], []),
  (21, .aload_n 0, 1, (0, 0, 0), [], []),
  (22, .getfield 18, 3, (7, 5, 2), [], [873]),
  (25, .arraylength, 1, (1, 0, 0), [], []),
  (26, .iastore, 1, (0, 0, 0), [], []),
  (27, .dup, 1, (0, 0, 0), [], []),
  (28, .iconst 3, 1, (0, 0, 0), [], []),
  (29, .aload_n 0, 1, (0, 0, 0), [], []),
  (30, .getfield 22, 3, (7, 6, 2), [], [875]),
  (33, .arraylength, 1, (1, 0, 0), [], []),
  (34, .iastore, 1, (0, 0, 0), [], []),
  (35, .dup, 1, (0, 0, 0), [], []),
  (36, .iconst 4, 1, (0, 0, 0), [], []),
  (37, .aload_n 0, 1, (0, 0, 0), [], []),
  (38, .getfield 31, 3, (7, 8, 2), [], [879]),
  (41, .arraylength, 1, (1, 0, 0), [], []),
  (42, .iastore, 1, (0, 0, 0), [], []),
  (43, .dup, 1, (0, 0, 0), [], []),
  (44, .iconst 5, 1, (0, 0, 0), [], []),
  (45, .aload_n 0, 1, (0, 0, 0), [], []),
  (46, .getfield 7, 3, (7, 3, 0), [], [869]),
  (49, .iastore, 1, (0, 0, 0), [], []),
  (50, .dup, 1, (0, 0, 0), [], []),
  (51, .bipush 6, 2, (0, 0, 0), [], []),
  (53, .aload_n 0, 1, (0, 0, 0), [], []),
  (54, .getfield 40, 3, (7, 1, 0), [], [867]),
  (57, .iastore, 1, (0, 0, 0), [], []),
  (58, .dup, 1, (0, 0, 0), [], []),
  (59, .bipush 7, 2, (0, 0, 0), [], []),
  (61, .iconst 0, 1, (0, 0, 0), [], []),
  (62, .iastore, 1, (0, 0, 0), [], []),
  (63, .dup, 1, (0, 0, 0), [], []),
  (64, .bipush 8, 2, (0, 0, 0), [], []),
  (66, .aload_n 0, 1, (0, 0, 0), [], []),
  (67, .invokevirtual 109, 3, (0, 171, 7), [], [842, 59, 843, 844]),
  (70, .iastore, 1, (0, 0, 0), [], []),
  (71, .dup, 1, (0, 0, 0), [], []),
  (72, .bipush 9, 2, (0, 0, 0), [], []),
  (74, .iconst 0, 1, (0, 0, 0), [], []),
  (75, .iastore, 1, (0, 0, 0), [], []),
  (76, .dup, 1, (0, 0, 0), [], []),
  (77, .bipush 10, 2, (0, 0, 0), [], []),
  (79, .aload_n 0, 1, (0, 0, 0), [], []),
  (80, .getfield 79, 3, (7, 2, 0), [], [868]),
  (83, .iastore, 1, (0, 0, 0), [], []),
  (84, .dup, 1, (0, 0, 0), [], [])]
def am_t172_1 : List am_E := [(85, .bipush 11, 2, (0, 0, 0), [], []),
  (87, .iconst 0, 1, (0, 0, 0), [], []),
  (88, .iastore, 1, (0, 0, 0), [], []),
  (89, .astore_n 1, 1, (1, 0, 0), [], []),
  (90, .aload_n 0, 1, (0, 0, 0), [], []),
  (91, .getfield 22, 3, (7, 6, 2), [], [875]),
  (94, .astore_n 2, 1, (1, 0, 0), [], []),
  (95, .aload_n 2, 1, (0, 0, 0), [], []),
  (96, .arraylength, 1, (1, 0, 0), [], []),
  (97, .istore_n 3, 1, (0, 0, 0), [], []),
  (98, .iconst 0, 1, (0, 0, 0), [], []),
  (99, .istore 4, 2, (0, 0, 0), [], []),
  (101, .iload 4, 2, (0, 0, 0), [], []),
  (103, .iload_n 3, 1, (0, 0, 0), [], []),
  (104, .if_icmp .ge 26, 3, (130, 0, 0), [], []),
  (107, .aload_n 2, 1, (0, 0, 0), [], []),
  (108, .iload 4, 2, (0, 0, 0), [], []),
  (110, .aaload, 1, (24, 0, 0), [], []),
  (111, .astore 5, 2, (1, 0, 0), [], []),
  (113, .aload_n 1, 1, (0, 0, 0), [], []),
  (114, .bipush 7, 2, (0, 0, 0), [], []),
  (116, .dup2, 1, (0, 0, 0), [], []),
  (117, .iaload, 1, (0, 0, 0), [], []),
  (118, .aload 5, 2, (0, 0, 0), [], []),
  (120, .iconst 0, 1, (0, 0, 0), [], []),
  (121, .iaload, 1, (0, 0, 0), [], []),
  (122, .iadd, 1, (0, 0, 0), [], []),
  (123, .iastore, 1, (0, 0, 0), [], []),
  (124, .iinc 4 1, 3, (0, 0, 0), [], []),
  (127, .goto (-26), 3, (101, 0, 0), [], []),
  (130, .aload_n 0, 1, (0, 0, 0), [], []),
  (131, .getfield 18, 3, (7, 5, 2), [], [873]),
  (134, .astore_n 2, 1, (1, 0, 0), [], []),
  (135, .aload_n 2, 1, (0, 0, 0), [], []),
  (136, .arraylength, 1, (1, 0, 0), [], []),
  (137, .istore_n 3, 1, (0, 0, 0), [], []),
  (138, .iconst 0, 1, (0, 0, 0), [], []),
  (139, .istore 4, 2, (0, 0, 0), [], []),
  (141, .iload 4, 2, (0, 0, 0), [], []),
  (143, .iload_n 3, 1, (0, 0, 0), [], []),
  (144, .if_icmp .ge 42, 3, (186, 0, 0), [], []),
  (147, .aload_n 2, 1, (0, 0, 0), [], []),
  (148, .iload 4, 2, (0, 0, 0), [], []),
  (150, .aaload, 1, (24, 0, 0), [], []),
  (151, .astore 5, 2, (1, 0, 0), [], []),
  (153, .aload_n 1, 1, (0, 0, 0), [], []),
  (154, .bipush 9, 2, (0, 0, 0), [], []),
  (156, .dup2, 1, (0, 0, 0), [], []),
  (157, .iaload, 1, (0, 0, 0), [], []),
  (158, .aload 5, 2, (0, 0, 0), [], []),
  (160, .iconst 3, 1, (0, 0, 0), [], []),
  (161, .iaload, 1, (0, 0, 0), [], []),
  (162, .ifCond .lt 15, 3, (177, 0, 0), [], []),
  (165, .aload 5, 2, (0, 0, 0), [], []),
  (167, .iconst 4, 1, (0, 0, 0), [], []),
  (168, .iaload, 1, (0, 0, 0), [], []),
  (169, .iconst 1, 1, (0, 0, 0), [], []),
  (170, .if_icmp .ne 7, 3, (177, 0, 0), [], []),
  (173, .iconst 1, 1, (0, 0, 0), [], []),
  (174, .goto 4, 3, (178, 0, 0), [], [])]
def am_t172_2 : List am_E := [(177, .iconst 0, 1, (0, 0, 0), [], []),
  (178, .iadd, 1, (0, 0, 0), [], []),
  (179, .iastore, 1, (0, 0, 0), [], []),
  (180, .iinc 4 1, 3, (0, 0, 0), [], []),
  (183, .goto (-42), 3, (141, 0, 0), [], []),
  (186, .aload_n 1, 1, (0, 0, 0), [], []),
  (187, .areturn, 1, (0, 0, 0), [], [])]
def am_t172 : List am_E := am_t172_0 ++ (am_t172_1 ++ (am_t172_2))
/-- 173: X9_isSame -/
def am_t173_0 : List am_E := [(0, .aload_n 0, 1, (0, 0, 0), [], []),
  (1, .invokevirtual 112, 3, (0, 172, 7), [], [838, 59, 839, 840]),
  (4, .astore_n 2, 1, (1, 0, 0), [], []),
  (5, .iconst 0, 1, (0, 0, 0), [], []),
  (6, .istore_n 3, 1, (0, 0, 0), [], []),
  (7, .iload_n 3, 1, (0, 0, 0), [], []),
  (8, .bipush 12, 2, (0, 0, 0), [], []),
  (10, .if_icmp .ge 22, 3, (32, 0, 0), [], []),
  (13, .aload_n 1, 1, (0, 0, 0), [], []),
  (14, .iload_n 3, 1, (0, 0, 0), [], []),
  (15, .invokevirtual 116, 3, (0, 107, 6), [], [846, 68, 410, 411]),
  (18, .aload_n 2, 1, (0, 0, 0), [], []),
  (19, .iload_n 3, 1, (0, 0, 0), [], []),
  (20, .iaload, 1, (0, 0, 0), [], []),
  (21, .if_icmp .eq 5, 3, (26, 0, 0), [], []),
  (24, .iconst 0, 1, (0, 0, 0), [], []),
  (25, .ireturn, 1, (1, 0, 0), [], []),
  (26, .iinc 3 1, 3, (0, 0, 0), [], []),
  (29, .goto (-22), 3, (7, 0, 0), [], []),
  (32, .iconst 0, 1, (0, 0, 0), [], []),
  (33, .istore_n 3, 1, (0, 0, 0), [], []),
  (34, .iload_n 3, 1, (0, 0, 0), [], []),
  (35, .aload_n 0, 1, (0, 0, 0), [], []),
  (36, .getfield 13, 3, (7, 4, 2), [], [871]),
  (39, .arraylength, 1, (1, 0, 0), [], []),
  (40, .if_icmp .ge 153, 3, (193, 0, 0), [], []),
  (43, .iconst 0, 1, (0, 0, 0), [], []),
  (44, .istore 4, 2, (0, 0, 0), [], []),
  (46, .iconst 0, 1, (0, 0, 0), [], []),
  (47, .istore 5, 2, (0, 0, 0), [], []),
  (49, .iconst 0, 1, (0, 0, 0), [], []),
  (50, .istore 6, 2, (0, 0, 0), [], []),
  (52, .aload_n 0, 1, (0, 0, 0), [], []),
  (53, .getfield 18, 3, (7, 5, 2), [], [873]),
  (56, .astore 7, 2, (1, 0, 0), [], []),
  (58, .aload 7, 2, (0, 0, 0), [], []),
  (60, .arraylength, 1, (1, 0, 0), [], []),
  (61, .istore 8, 2, (0, 0, 0), [], []),
  (63, .iconst 0, 1, (0, 0, 0), [], []),
  (64, .istore 9, 2, (0, 0, 0), [], []),
  (66, .iload 9, 2, (0, 0, 0), [], []),
  (68, .iload 8, 2, (0, 0, 0), [], []),
  (70, .if_icmp .ge 67, 3, (137, 0, 0), [], []),
  (73, .aload 7, 2, (0, 0, 0), [], []),
  (75, .iload 9, 2, (0, 0, 0), [], []),
  (77, .aaload, 1, (24, 0, 0), [], []),
  (78, .astore 10, 2, (1, 0, 0), [], []),
  (80, .aload 10, 2, (0, 0, 0), [], []),
  (82, .iconst 1, 1, (0, 0, 0), [], []),
  (83, .iaload, 1, (0, 0, 0), [], []),
  (84, .iload_n 3, 1, (0, 0, 0), [], []),
  (85, .if_icmp .eq 6, 3, (91, 0, 0), [], []),
  (88, .goto 43, 3, (131, 0, 0), [], []),
  (91, .iinc 4 1, 3, (0, 0, 0), [], []),
  (94, .iload 5, 2, (0, 0, 0), [], []),
  (96, .aload 10, 2, (0, 0, 0), [], []),
  (98, .iconst 3, 1, (0, 0, 0), [], []),
  (99, .iaload, 1, (0, 0, 0), [], []),
  (100, .ifCond .ge 7, 3, (107, 0, 0), [], []),
  (103, .iconst 0, 1, (0, 0, 0), [], [])]
def am_t173_1 : List am_E := [(104, .goto 4, 3, (108, 0, 0), [], []),
  (107, .iconst 1, 1, (0, 0, 0), [], []),
  (108, .iadd, 1, (0, 0, 0), [], []),
  (109, .istore 5, 2, (0, 0, 0), [], []),
  (111, .iload 6, 2, (0, 0, 0), [], []),
  (113, .aload 10, 2, (0, 0, 0), [], []),
  (115, .iconst 3, 1, (0, 0, 0), [], []),
  (116, .iaload, 1, (0, 0, 0), [], []),
  (117, .ifCond .ge 7, 3, (124, 0, 0), [], []),
  (120, .iconst 0, 1, (0, 0, 0), [], []),
  (121, .goto 7, 3, (128, 0, 0), [], []),
  (124, .aload 10, 2, (0, 0, 0), [], []),
  (126, .iconst 0, 1, (0, 0, 0), [], []),
  (127, .iaload, 1, (0, 0, 0), [], []),
  (128, .iadd, 1, (0, 0, 0), [], []),
  (129, .istore 6, 2, (0, 0, 0), [], []),
  (131, .iinc 9 1, 3, (0, 0, 0), [], []),
  (134, .goto (-68), 3, (66, 0, 0), [], []),
  (137, .aload_n 1, 1, (0, 0, 0), [], []),
  (138, .iload_n 3, 1, (0, 0, 0), [], []),
  (139, .iconst 0, 1, (0, 0, 0), [], []),
  (140, .invokevirtual 121, 3, (0, 109, 6), [], [847, 68, 505, 506]),
  (143, .aload_n 0, 1, (0, 0, 0), [], []),
  (144, .getfield 13, 3, (7, 4, 2), [], [871]),
  (147, .iload_n 3, 1, (0, 0, 0), [], []),
  (148, .iaload, 1, (0, 0, 0), [], []),
  (149, .if_icmp .ne 36, 3, (185, 0, 0), [], []),
  (152, .aload_n 1, 1, (0, 0, 0), [], []),
  (153, .iload_n 3, 1, (0, 0, 0), [], []),
  (154, .iconst 1, 1, (0, 0, 0), [], []),
  (155, .invokevirtual 121, 3, (0, 109, 6), [], [847, 68, 505, 506]),
  (158, .iload 4, 2, (0, 0, 0), [], []),
  (160, .if_icmp .ne 25, 3, (185, 0, 0), [], []),
  (163, .aload_n 1, 1, (0, 0, 0), [], []),
  (164, .iload_n 3, 1, (0, 0, 0), [], []),
  (165, .iconst 2, 1, (0, 0, 0), [], []),
  (166, .invokevirtual 121, 3, (0, 109, 6), [], [847, 68, 505, 506]),
  (169, .iload 5, 2, (0, 0, 0), [], []),
  (171, .if_icmp .ne 14, 3, (185, 0, 0), [], []),
  (174, .aload_n 1, 1, (0, 0, 0), [], []),
  (175, .iload_n 3, 1, (0, 0, 0), [], []),
  (176, .iconst 3, 1, (0, 0, 0), [], []),
  (177, .invokevirtual 121, 3, (0, 109, 6), [], [847, 68, 505, 506]),
  (180, .iload 6, 2, (0, 0, 0), [], []),
  (182, .if_icmp .eq 5, 3, (187, 0, 0), [], []),
  (185, .iconst 0, 1, (0, 0, 0), [], []),
  (186, .ireturn, 1, (1, 0, 0), [], []),
  (187, .iinc 3 1, 3, (0, 0, 0), [], []),
  (190, .goto (-156), 3, (34, 0, 0), [], []),
  (193, .iconst 0, 1, (0, 0, 0), [], []),
  (194, .istore_n 3, 1, (0, 0, 0), [], []),
  (195, .iload_n 3, 1, (0, 0, 0), [], []),
  (196, .aload_n 0, 1, (0, 0, 0), [], []),
  (197, .getfield 18, 3, (7, 5, 2), [], [873]),
  (200, .arraylength, 1, (1, 0, 0), [], []),
  (201, .if_icmp .ge 140, 3, (341, 0, 0), [], []),
  (204, .aload_n 0, 1, (0, 0, 0), [], []),
  (205, .getfield 18, 3, (7, 5, 2), [], [873]),
  (208, .iload_n 3, 1, (0, 0, 0), [], []),
  (209, .aaload, 1, (24, 0, 0), [], [])]
def am_t173_2 : List am_E := [(210, .astore 4, 2, (1, 0, 0), [], []),
  (212, .bipush 8, 2, (0, 0, 0), [], []),
  (214, .newarray .int, 2, (20, 0, 0), [], [178]),
  (216, .dup, 1, (0, 0, 0), [], []),
  (217, .iconst 0, 1, (0, 0, 0), [], []),
  (218, .aload 4, 2, (0, 0, 0), [], []),
  (220, .iconst 0, 1, (0, 0, 0), [], []),
  (221, .iaload, 1, (0, 0, 0), [], []),
  (222, .iastore, 1, (0, 0, 0), [], []),
  (223, .dup, 1, (0, 0, 0), [], []),
  (224, .iconst 1, 1, (0, 0, 0), [], []),
  (225, .aload 4, 2, (0, 0, 0), [], []),
  (227, .iconst 1, 1, (0, 0, 0), [], []),
  (228, .iaload, 1, (0, 0, 0), [], []),
  (229, .iastore, 1, (0, 0, 0), [], []),
  (230, .dup, 1, (0, 0, 0), [], []),
  (231, .iconst 2, 1, (0, 0, 0), [], []),
  (232, .aload 4, 2, (0, 0, 0), [], []),
  (234, .iconst 2, 1, (0, 0, 0), [], []),
  (235, .iaload, 1, (0, 0, 0), [], []),
  (236, .iastore, 1, (0, 0, 0), [], []),
  (237, .dup, 1, (0, 0, 0), [], []),
  (238, .iconst 3, 1, (0, 0, 0), [], []),
  (239, .aload_n 0, 1, (0, 0, 0), [], []),
  (240, .iload_n 3, 1, (0, 0, 0), [], []),
  (241, .invokevirtual 43, 3, (0, 157, 7), [], [764, 59, 765, 766]),
  (244, .iastore, 1, (0, 0, 0), [], []),
  (245, .dup, 1, (0, 0, 0), [], []),
  (246, .iconst 4, 1, (0, 0, 0), [], []),
  (247, .aload 4, 2, (0, 0, 0), [], []),
  (249, .iconst 3, 1, (0, 0, 0), [], []),
  (250, .iaload, 1, (0, 0, 0), [], []),
  (251, .iastore, 1, (0, 0, 0), [], []),
  (252, .dup, 1, (0, 0, 0), [], []),
  (253, .iconst 5, 1, (0, 0, 0), [], []),
  (254, .aload 4, 2, (0, 0, 0), [], []),
  (256, .iconst 4, 1, (0, 0, 0), [], []),
  (257, .iaload, 1, (0, 0, 0), [], []),
  (258, .iastore, 1, (0, 0, 0), [], []),
  (259, .dup, 1, (0, 0, 0), [], []),
  (260, .bipush 6, 2, (0, 0, 0), [], []),
  (262, .aload_n 0, 1, (0, 0, 0), [], []),
  (263, .iload_n 3, 1, (0, 0, 0), [], []),
  (264, .invokevirtual 60, 3, (0, 161, 7), [], [756, 59, 757, 758]),
  (267, .ifCond .eq 7, 3, (274, 0, 0), [], []),
  (270, .iconst 1, 1, (0, 0, 0), [], []),
  (271, .goto 4, 3, (275, 0, 0), [], []),
  (274, .iconst 0, 1, (0, 0, 0), [], []),
  (275, .iastore, 1, (0, 0, 0), [], []),
  (276, .dup, 1, (0, 0, 0), [], []),
  (277, .bipush 7, 2, (0, 0, 0), [], []),
  (279, .aload_n 0, 1, (0, 0, 0), [], []),
  (280, .iload_n 3, 1, (0, 0, 0), [], []),
  (281, .invokevirtual 64, 3, (0, 158, 7), [], [776, 59, 777, 778]),
  (284, .iastore, 1, (0, 0, 0), [], []),
  (285, .astore 5, 2, (1, 0, 0), [], []),
  (287, .iconst 0, 1, (0, 0, 0), [], []),
  (288, .istore 6, 2, (0, 0, 0), [], []),
  (290, .iload 6, 2, (0, 0, 0), [], []),
  (292, .bipush 8, 2, (0, 0, 0), [], [])]
def am_t173_3 : List am_E := [(294, .if_icmp .ge 26, 3, (320, 0, 0), [], []),
  (297, .aload_n 1, 1, (0, 0, 0), [], []),
  (298, .iload_n 3, 1, (0, 0, 0), [], []),
  (299, .iload 6, 2, (0, 0, 0), [], []),
  (301, .invokevirtual 124, 3, (0, 110, 6), [], [848, 68, 519, 520]),
  (304, .aload 5, 2, (0, 0, 0), [], []),
  (306, .iload 6, 2, (0, 0, 0), [], []),
  (308, .iaload, 1, (0, 0, 0), [], []),
  (309, .if_icmp .eq 5, 3, (314, 0, 0), [], []),
  (312, .iconst 0, 1, (0, 0, 0), [], []),
  (313, .ireturn, 1, (1, 0, 0), [], []),
  (314, .iinc 6 1, 3, (0, 0, 0), [], []),
  (317, .goto (-27), 3, (290, 0, 0), [], []),
  (320, .aload_n 1, 1, (0, 0, 0), [], []),
  (321, .iload_n 3, 1, (0, 0, 0), [], []),
  (322, .invokevirtual 127, 3, (0, 111, 6), [], [849, 68, 593, 594]),
  (325, .aload_n 0, 1, (0, 0, 0), [], []),
  (326, .iload_n 3, 1, (0, 0, 0), [], []),
  (327, .invokevirtual 76, 3, (0, 163, 7), [], [772, 59, 773, 774]),
  (330, .if_icmp .eq 5, 3, (335, 0, 0), [], []),
  (333, .iconst 0, 1, (0, 0, 0), [], []),
  (334, .ireturn, 1, (1, 0, 0), [], []),
  (335, .iinc 3 1, 3, (0, 0, 0), [], []),
  (338, .goto (-143), 3, (195, 0, 0), [], []),
  (341, .iconst 0, 1, (0, 0, 0), [], []),
  (342, .istore_n 3, 1, (0, 0, 0), [], []),
  (343, .iconst 0, 1, (0, 0, 0), [], []),
  (344, .istore 4, 2, (0, 0, 0), [], []),
  (346, .iload 4, 2, (0, 0, 0), [], []),
  (348, .aload_n 0, 1, (0, 0, 0), [], []),
  (349, .getfield 22, 3, (7, 6, 2), [], [875]),
  (352, .arraylength, 1, (1, 0, 0), [], []),
  (353, .if_icmp .ge 199, 3, (552, 0, 0), [], []),
  (356, .iconst 0, 1, (0, 0, 0), [], []),
  (357, .istore 5, 2, (0, 0, 0), [], []),
  (359, .iconst 0, 1, (0, 0, 0), [], []),
  (360, .istore 6, 2, (0, 0, 0), [], []),
  (362, .iload 6, 2, (0, 0, 0), [], []),
  (364, .aload_n 0, 1, (0, 0, 0), [], []),
  (365, .getfield 18, 3, (7, 5, 2), [], [873]),
  (368, .arraylength, 1, (1, 0, 0), [], []),
  (369, .if_icmp .ge 55, 3, (424, 0, 0), [], []),
  (372, .iload 5, 2, (0, 0, 0), [], []),
  (374, .aload_n 0, 1, (0, 0, 0), [], []),
  (375, .getfield 27, 3, (7, 7, 2), [], [877]),
  (378, .iload 4, 2, (0, 0, 0), [], []),
  (380, .aaload, 1, (24, 0, 0), [], []),
  (381, .iload 6, 2, (0, 0, 0), [], []),
  (383, .baload, 1, (2, 0, 0), [], []),
  (384, .ifCond .eq 7, 3, (391, 0, 0), [], []),
  (387, .iconst 1, 1, (0, 0, 0), [], []),
  (388, .goto 4, 3, (392, 0, 0), [], []),
  (391, .iconst 0, 1, (0, 0, 0), [], []),
  (392, .iadd, 1, (0, 0, 0), [], []),
  (393, .istore 5, 2, (0, 0, 0), [], []),
  (395, .aload_n 1, 1, (0, 0, 0), [], []),
  (396, .iload 4, 2, (0, 0, 0), [], []),
  (398, .iload 6, 2, (0, 0, 0), [], []),
  (400, .invokevirtual 128, 3, (0, 113, 6), [], [850, 68, 615, 616]),
  (403, .aload_n 0, 1, (0, 0, 0), [], [])]
def am_t173_4 : List am_E := [(404, .getfield 27, 3, (7, 7, 2), [], [877]),
  (407, .iload 4, 2, (0, 0, 0), [], []),
  (409, .aaload, 1, (24, 0, 0), [], []),
  (410, .iload 6, 2, (0, 0, 0), [], []),
  (412, .baload, 1, (2, 0, 0), [], []),
  (413, .if_icmp .eq 5, 3, (418, 0, 0), [], []),
  (416, .iconst 0, 1, (0, 0, 0), [], []),
  (417, .ireturn, 1, (1, 0, 0), [], []),
  (418, .iinc 6 1, 3, (0, 0, 0), [], []),
  (421, .goto (-59), 3, (362, 0, 0), [], []),
  (424, .aload_n 1, 1, (0, 0, 0), [], []),
  (425, .iload 4, 2, (0, 0, 0), [], []),
  (427, .iconst 0, 1, (0, 0, 0), [], []),
  (428, .invokevirtual 131, 3, (0, 112, 6), [], [851, 68, 601, 602]),
  (431, .aload_n 0, 1, (0, 0, 0), [], []),
  (432, .getfield 22, 3, (7, 6, 2), [], [875]),
  (435, .iload 4, 2, (0, 0, 0), [], []),
  (437, .aaload, 1, (24, 0, 0), [], []),
  (438, .iconst 0, 1, (0, 0, 0), [], []),
  (439, .iaload, 1, (0, 0, 0), [], []),
  (440, .if_icmp .ne 50, 3, (490, 0, 0), [], []),
  (443, .aload_n 1, 1, (0, 0, 0), [], []),
  (444, .iload 4, 2, (0, 0, 0), [], []),
  (446, .iconst 1, 1, (0, 0, 0), [], []),
  (447, .invokevirtual 131, 3, (0, 112, 6), [], [851, 68, 601, 602]),
  (450, .iload 5, 2, (0, 0, 0), [], []),
  (452, .if_icmp .ne 38, 3, (490, 0, 0), [], []),
  (455, .aload_n 1, 1, (0, 0, 0), [], []),
  (456, .iload 4, 2, (0, 0, 0), [], []),
  (458, .iconst 2, 1, (0, 0, 0), [], []),
  (459, .invokevirtual 131, 3, (0, 112, 6), [], [851, 68, 601, 602]),
  (462, .aload_n 0, 1, (0, 0, 0), [], []),
  (463, .iload 4, 2, (0, 0, 0), [], []),
  (465, .invokevirtual 47, 3, (0, 159, 7), [], [768, 59, 769, 770]),
  (468, .if_icmp .ne 22, 3, (490, 0, 0), [], []),
  (471, .aload_n 1, 1, (0, 0, 0), [], []),
  (472, .iload 4, 2, (0, 0, 0), [], []),
  (474, .iconst 3, 1, (0, 0, 0), [], []),
  (475, .invokevirtual 131, 3, (0, 112, 6), [], [851, 68, 601, 602]),
  (478, .aload_n 0, 1, (0, 0, 0), [], []),
  (479, .getfield 22, 3, (7, 6, 2), [], [875]),
  (482, .iload 4, 2, (0, 0, 0), [], []),
  (484, .aaload, 1, (24, 0, 0), [], []),
  (485, .iconst 1, 1, (0, 0, 0), [], []),
  (486, .iaload, 1, (0, 0, 0), [], []),
  (487, .if_icmp .eq 5, 3, (492, 0, 0), [], []),
  (490, .iconst 0, 1, (0, 0, 0), [], []),
  (491, .ireturn, 1, (1, 0, 0), [], []),
  (492, .iconst 0, 1, (0, 0, 0), [], []),
  (493, .istore 6, 2, (0, 0, 0), [], []),
  (495, .iload 6, 2, (0, 0, 0), [], []),
  (497, .aload_n 0, 1, (0, 0, 0), [], []),
  (498, .getfield 22, 3, (7, 6, 2), [], [875]),
  (501, .arraylength, 1, (1, 0, 0), [], []),
  (502, .if_icmp .ge 35, 3, (537, 0, 0), [], []),
  (505, .aload_n 1, 1, (0, 0, 0), [], []),
  (506, .iload 4, 2, (0, 0, 0), [], []),
  (508, .iload 6, 2, (0, 0, 0), [], []),
  (510, .invokevirtual 134, 3, (0, 114, 6), [], [852, 68, 621, 622]),
  (513, .aload_n 0, 1, (0, 0, 0), [], [])]
def am_t173_5 : List am_E := [(514, .iload 6, 2, (0, 0, 0), [], []),
  (516, .invokevirtual 47, 3, (0, 159, 7), [], [768, 59, 769, 770]),
  (519, .aload_n 0, 1, (0, 0, 0), [], []),
  (520, .iload 4, 2, (0, 0, 0), [], []),
  (522, .invokevirtual 47, 3, (0, 159, 7), [], [768, 59, 769, 770]),
  (525, .isub, 1, (0, 0, 0), [], []),
  (526, .if_icmp .eq 5, 3, (531, 0, 0), [], []),
  (529, .iconst 0, 1, (0, 0, 0), [], []),
  (530, .ireturn, 1, (1, 0, 0), [], []),
  (531, .iinc 6 1, 3, (0, 0, 0), [], []),
  (534, .goto (-39), 3, (495, 0, 0), [], []),
  (537, .iload_n 3, 1, (0, 0, 0), [], []),
  (538, .aload_n 0, 1, (0, 0, 0), [], []),
  (539, .iload 4, 2, (0, 0, 0), [], []),
  (541, .invokevirtual 47, 3, (0, 159, 7), [], [768, 59, 769, 770]),
  (544, .iadd, 1, (0, 0, 0), [], []),
  (545, .istore_n 3, 1, (0, 0, 0), [], []),
  (546, .iinc 4 1, 3, (0, 0, 0), [], []),
  (549, .goto (-203), 3, (346, 0, 0), [], []),
  (552, .aload_n 0, 1, (0, 0, 0), [], []),
  (553, .invokevirtual 137, 3, (0, 170, 7), [], [853, 59, 854, 855]),
  (556, .astore 4, 2, (1, 0, 0), [], []),
  (558, .aload 4, 2, (0, 0, 0), [], []),
  (560, .invokevirtual 82, 3, (0, 164, 7), [], [743, 59, 744, 745]),
  (563, .aload_n 1, 1, (0, 0, 0), [], []),
  (564, .invokevirtual 141, 3, (0, 115, 6), [], [911, 68, 626, 627]),
  (567, .aload 4, 2, (0, 0, 0), [], []),
  (569, .invokevirtual 85, 3, (0, 165, 7), [], [748, 59, 749, 750]),
  (572, .if_icmp .ne 36, 3, (608, 0, 0), [], []),
  (575, .aload_n 1, 1, (0, 0, 0), [], []),
  (576, .invokevirtual 142, 3, (0, 125, 6), [], [912, 68, 729, 730]),
  (579, .aload_n 0, 1, (0, 0, 0), [], []),
  (580, .getfield 22, 3, (7, 6, 2), [], [875]),
  (583, .arraylength, 1, (1, 0, 0), [], []),
  (584, .ifCond .ne 7, 3, (591, 0, 0), [], []),
  (587, .dconst 0, 1, (0, 0, 0), [], []),
  (588, .goto 12, 3, (600, 0, 0), [], []),
  (591, .iload_n 3, 1, (0, 0, 0), [], []),
  (592, .i2d, 1, (0, 0, 0), [], []),
  (593, .aload_n 0, 1, (0, 0, 0), [], []),
  (594, .getfield 22, 3, (7, 6, 2), [], [875]),
  (597, .arraylength, 1, (1, 0, 0), [], []),
  (598, .i2d, 1, (0, 0, 0), [], []),
  (599, .ddiv, 1, (0, 0, 0), [], []),
  (600, .dcmp .l, 1, (0, 0, 0), [], []),
  (601, .ifCond .ne 7, 3, (608, 0, 0), [], []),
  (604, .iconst 1, 1, (0, 0, 0), [], []),
  (605, .goto 4, 3, (609, 0, 0), [], []),
  (608, .iconst 0, 1, (0, 0, 0), [], []),
  (609, .ireturn, 1, (1, 0, 0), [], [])]
def am_t173 : List am_E := am_t173_0 ++ (am_t173_1 ++ (am_t173_2 ++ (am_t173_3 ++ (am_t173_4 ++ (am_t173_5)))))
/-- 174: L_below -/
def am_t174 : List am_E := [(0, .iload_n 0, 1, (0, 0, 0), [], []),
  (1, .ldc 7, 2, (0, 0, 0), [(2147483647, 0)], [917]),
  (3, .iand, 1, (0, 0, 0), [], []),
  (4, .iload_n 1, 1, (0, 0, 0), [], []),
  (5, .irem, 1, (0, 0, 0), [], []),
  (6, .ireturn, 1, (0, 0, 0), [], [])]
/-- 175: L_cell -/
def am_t175 : List am_E := [(0, .iload_n 1, 1, (0, 0, 0), [], []),
  (1, .aload_n 0, 1, (0, 0, 0), [], []),
  (2, .arraylength, 1, (1, 0, 0), [], []),
  (3, .if_icmp .ge 9, 3, (12, 0, 0), [], []),
  (6, .aload_n 0, 1, (0, 0, 0), [], []),
  (7, .iload_n 1, 1, (0, 0, 0), [], []),
  (8, .iaload, 1, (0, 0, 0), [], []),
  (9, .goto 9, 3, (18, 0, 0), [], []),
  (12, .ldc 8, 2, (0, 0, 0), [(790386105, 0)], [921]),
  (14, .iload_n 1, 1, (0, 0, 0), [], []),
  (15, .iconst 3, 1, (0, 0, 0), [], []),
  (16, .iadd, 1, (0, 0, 0), [], []),
  (17, .imul, 1, (0, 0, 0), [], []),
  (18, .ireturn, 1, (0, 0, 0), [], [])]
/-- 176: L_taught -/
def am_t176_0 : List am_E := [(0, .iconst 5, 1, (0, 0, 0), [], []),
  (1, .newarray .int, 2, (20, 0, 0), [], [178]),
  (3, .astore_n 2, 1, (1, 0, 0), [], []),
  (4, .aload_n 0, 1, (0, 0, 0), [], []),
  (5, .iconst 0, 1, (0, 0, 0), [], []),
  (6, .invokevirtual 9, 3, (0, 104, 6), [], [925, 68, 926, 927]),
  (9, .pop, 1, (0, 0, 0), [], []),
  (10, .iconst 0, 1, (0, 0, 0), [], []),
  (11, .istore_n 3, 1, (0, 0, 0), [], []),
  (12, .iload_n 3, 1, (0, 0, 0), [], []),
  (13, .aload_n 1, 1, (0, 0, 0), [], []),
  (14, .invokevirtual 15, 3, (0, 6, 60), [], [930, 57, 187, 188]),
  (17, .if_icmp .ge 85, 3, (102, 0, 0), [], []),
  (20, .iconst 0, 1, (0, 0, 0), [], []),
  (21, .istore 4, 2, (0, 0, 0), [], []),
  (23, .iload 4, 2, (0, 0, 0), [], []),
  (25, .bipush 20, 2, (0, 0, 0), [], []),
  (27, .if_icmp .ge 49, 3, (76, 0, 0), [], []),
  (30, .aload_n 2, 1, (0, 0, 0), [], []),
  (31, .iload 4, 2, (0, 0, 0), [], []),
  (33, .iconst 4, 1, (0, 0, 0), [], []),
  (34, .idiv, 1, (0, 0, 0), [], []),
  (35, .aload_n 2, 1, (0, 0, 0), [], []),
  (36, .iload 4, 2, (0, 0, 0), [], []),
  (38, .iconst 4, 1, (0, 0, 0), [], []),
  (39, .idiv, 1, (0, 0, 0), [], []),
  (40, .iaload, 1, (0, 0, 0), [], []),
  (41, .bipush 8, 2, (0, 0, 0), [], []),
  (43, .ishl, 1, (0, 0, 0), [], []),
  (44, .iload_n 3, 1, (0, 0, 0), [], []),
  (45, .iload 4, 2, (0, 0, 0), [], []),
  (47, .iadd, 1, (0, 0, 0), [], []),
  (48, .aload_n 1, 1, (0, 0, 0), [], []),
  (49, .invokevirtual 15, 3, (0, 6, 60), [], [930, 57, 187, 188]),
  (52, .if_icmp .ge 14, 3, (66, 0, 0), [], []),
  (55, .aload_n 1, 1, (0, 0, 0), [], []),
  (56, .iload_n 3, 1, (0, 0, 0), [], []),
  (57, .iload 4, 2, (0, 0, 0), [], []),
  (59, .iadd, 1, (0, 0, 0), [], []),
  (60, .invokevirtual 21, 3, (0, 0, 60), [], [931, 57, 197, 198]),
  (63, .goto 5, 3, (68, 0, 0), [], []),
  (66, .bipush 32, 2, (0, 0, 0), [], []),
  (68, .ior, 1, (0, 0, 0), [], []),
  (69, .iastore, 1, (0, 0, 0), [], []),
  (70, .iinc 4 1, 3, (0, 0, 0), [], []),
  (73, .goto (-50), 3, (23, 0, 0), [], []),
  (76, .aload_n 0, 1, (0, 0, 0), [], []),
  (77, .aload_n 2, 1, (0, 0, 0), [], []),
  (78, .iconst 0, 1, (0, 0, 0), [], []),
  (79, .iaload, 1, (0, 0, 0), [], []),
  (80, .aload_n 2, 1, (0, 0, 0), [], []),
  (81, .iconst 1, 1, (0, 0, 0), [], []),
  (82, .iaload, 1, (0, 0, 0), [], []),
  (83, .aload_n 2, 1, (0, 0, 0), [], []),
  (84, .iconst 2, 1, (0, 0, 0), [], []),
  (85, .iaload, 1, (0, 0, 0), [], []),
  (86, .aload_n 2, 1, (0, 0, 0), [], []),
  (87, .iconst 3, 1, (0, 0, 0), [], []),
  (88, .iaload, 1, (0, 0, 0), [], []),
  (89, .aload_n 2, 1, (0, 0, 0), [], [])]
def am_t176_1 : List am_E := [(90, .iconst 4, 1, (0, 0, 0), [], []),
  (91, .iaload, 1, (0, 0, 0), [], []),
  (92, .invokevirtual 25, 3, (0, 102, 6), [], [932, 68, 933, 934]),
  (95, .pop, 1, (0, 0, 0), [], []),
  (96, .iinc 3 20, 3, (0, 0, 0), [], []),
  (99, .goto (-87), 3, (12, 0, 0), [], []),
  (102, .aload_n 0, 1, (0, 0, 0), [], []),
  (103, .aload_n 1, 1, (0, 0, 0), [], []),
  (104, .invokevirtual 15, 3, (0, 6, 60), [], [930, 57, 187, 188]),
  (107, .invokevirtual 9, 3, (0, 104, 6), [], [925, 68, 926, 927]),
  (110, .pop, 1, (0, 0, 0), [], []),
  (111, .aload_n 0, 1, (0, 0, 0), [], []),
  (112, .invokevirtual 29, 3, (0, 105, 6), [], [956, 68, 957, 958]),
  (115, .ireturn, 1, (0, 0, 0), [], [])]
def am_t176 : List am_E := am_t176_0 ++ (am_t176_1)
/-- 177: L_test -/
def am_t177_0 : List am_E := [(0, .aload_n 0, 1, (0, 0, 0), [], []),
  (1, .iconst 2, 1, (0, 0, 0), [], []),
  (2, .iaload, 1, (0, 0, 0), [], []),
  (3, .istore_n 2, 1, (0, 0, 0), [], []),
  (4, .aload_n 0, 1, (0, 0, 0), [], []),
  (5, .iconst 3, 1, (0, 0, 0), [], []),
  (6, .iaload, 1, (0, 0, 0), [], []),
  (7, .istore_n 3, 1, (0, 0, 0), [], []),
  (8, .new 32, 3, (8, 4, 0), [], [1326, 1327, 56]),
  (11, .dup, 1, (0, 0, 0), [], []),
  (12, .invokespecial 34, 3, (4, 131, 62), [], [1328, 56, 1329]),
  (15, .ldc 35, 2, (0, 0, 0), [((-300000004), 2)], [1347]),
  (17, .invokevirtual 37, 3, (0, 129, 8), [], [1191, 56, 1192, 1193]),
  (20, .aload_n 0, 1, (0, 0, 0), [], []),
  (21, .iconst 4, 1, (0, 0, 0), [], []),
  (22, .iaload, 1, (0, 0, 0), [], []),
  (23, .aload_n 1, 1, (0, 0, 0), [], []),
  (24, .getfield 41, 3, (7, 5, 2), [], [874]),
  (27, .arraylength, 1, (1, 0, 0), [], []),
  (28, .irem, 1, (0, 0, 0), [], []),
  (29, .invokevirtual 47, 3, (0, 130, 8), [], [1282, 56, 1283, 1284]),
  (32, .invokevirtual 50, 3, (0, 133, 8), [], [1348, 56, 1349, 1350]),
  (35, .astore 4, 2, (1, 0, 0), [], []),
  (37, .new 32, 3, (8, 4, 0), [], [1326, 1327, 56]),
  (40, .dup, 1, (0, 0, 0), [], []),
  (41, .invokespecial 34, 3, (4, 131, 62), [], [1328, 56, 1329]),
  (44, .ldc 54, 2, (0, 0, 0), [((-300000006), 2)], [1405]),
  (46, .invokevirtual 37, 3, (0, 129, 8), [], [1191, 56, 1192, 1193]),
  (49, .aload_n 0, 1, (0, 0, 0), [], []),
  (50, .iconst 4, 1, (0, 0, 0), [], []),
  (51, .iaload, 1, (0, 0, 0), [], []),
  (52, .aload_n 1, 1, (0, 0, 0), [], []),
  (53, .getfield 56, 3, (7, 6, 2), [], [876]),
  (56, .arraylength, 1, (1, 0, 0), [], []),
  (57, .irem, 1, (0, 0, 0), [], []),
  (58, .invokevirtual 47, 3, (0, 130, 8), [], [1282, 56, 1283, 1284]),
  (61, .invokevirtual 50, 3, (0, 133, 8), [], [1348, 56, 1349, 1350]),
  (64, .astore 5, 2, (1, 0, 0), [], []),
  (66, .aload_n 0, 1, (0, 0, 0), [], []),
  (67, .iconst 1, 1, (0, 0, 0), [], []),
  (68, .iaload, 1, (0, 0, 0), [], []),
  (69, .tableswitch 271 0 6 #[43, 85, 105, 126, 157, 187, 220], 43, (340, 0, 0), [(0, 112), (1, 154), (2, 174), (3, 195), (4, 226), (5, 256), (6, 289)], []),
  (112, .new 32, 3, (8, 4, 0), [], [1326, 1327, 56]),
  (115, .dup, 1, (0, 0, 0), [], []),
  (116, .invokespecial 34, 3, (4, 131, 62), [], [1328, 56, 1329]),
  (119, .ldc 59, 2, (0, 0, 0), [((-300000008), 2)], [1406]),
  (121, .invokevirtual 37, 3, (0, 129, 8), [], [1191, 56, 1192, 1193]),
  (124, .iload_n 2, 1, (0, 0, 0), [], []),
  (125, .iconst 5, 1, (0, 0, 0), [], []),
  (126, .irem, 1, (0, 0, 0), [], []),
  (127, .iconst 1, 1, (0, 0, 0), [], []),
  (128, .iadd, 1, (0, 0, 0), [], []),
  (129, .invokevirtual 47, 3, (0, 130, 8), [], [1282, 56, 1283, 1284]),
  (132, .ldc 61, 2, (0, 0, 0), [((-300000010), 2)], [1407]),
  (134, .invokevirtual 37, 3, (0, 129, 8), [], [1191, 56, 1192, 1193]),
  (137, .iload_n 2, 1, (0, 0, 0), [], []),
  (138, .iconst 5, 1, (0, 0, 0), [], []),
  (139, .irem, 1, (0, 0, 0), [], []),
  (140, .iconst 1, 1, (0, 0, 0), [], []),
  (141, .iadd, 1, (0, 0, 0), [], [])]
def am_t177_1 : List am_E := [(142, .invokevirtual 47, 3, (0, 130, 8), [], [1282, 56, 1283, 1284]),
  (145, .ldc 63, 2, (0, 0, 0), [((-300000012), 2)], [1408]),
  (147, .invokevirtual 37, 3, (0, 129, 8), [], [1191, 56, 1192, 1193]),
  (150, .invokevirtual 50, 3, (0, 133, 8), [], [1348, 56, 1349, 1350]),
  (153, .areturn, 1, (0, 0, 0), [], []),
  (154, .new 32, 3, (8, 4, 0), [], [1326, 1327, 56]),
  (157, .dup, 1, (0, 0, 0), [], []),
  (158, .invokespecial 34, 3, (4, 131, 62), [], [1328, 56, 1329]),
  (161, .ldc 65, 2, (0, 0, 0), [((-300000014), 2)], [1409]),
  (163, .invokevirtual 37, 3, (0, 129, 8), [], [1191, 56, 1192, 1193]),
  (166, .iload_n 3, 1, (0, 0, 0), [], []),
  (167, .invokevirtual 47, 3, (0, 130, 8), [], [1282, 56, 1283, 1284]),
  (170, .invokevirtual 50, 3, (0, 133, 8), [], [1348, 56, 1349, 1350]),
  (173, .areturn, 1, (0, 0, 0), [], []),
  (174, .new 32, 3, (8, 4, 0), [], [1326, 1327, 56]),
  (177, .dup, 1, (0, 0, 0), [], []),
  (178, .invokespecial 34, 3, (4, 131, 62), [], [1328, 56, 1329]),
  (181, .ldc 67, 2, (0, 0, 0), [((-300000016), 2)], [1410]),
  (183, .invokevirtual 37, 3, (0, 129, 8), [], [1191, 56, 1192, 1193]),
  (186, .aload 4, 2, (0, 0, 0), [], []),
  (188, .invokevirtual 37, 3, (0, 129, 8), [], [1191, 56, 1192, 1193]),
  (191, .invokevirtual 50, 3, (0, 133, 8), [], [1348, 56, 1349, 1350]),
  (194, .areturn, 1, (0, 0, 0), [], []),
  (195, .new 32, 3, (8, 4, 0), [], [1326, 1327, 56]),
  (198, .dup, 1, (0, 0, 0), [], []),
  (199, .invokespecial 34, 3, (4, 131, 62), [], [1328, 56, 1329]),
  (202, .ldc 69, 2, (0, 0, 0), [((-300000018), 2)], [1411]),
  (204, .invokevirtual 37, 3, (0, 129, 8), [], [1191, 56, 1192, 1193]),
  (207, .aload 5, 2, (0, 0, 0), [], []),
  (209, .invokevirtual 37, 3, (0, 129, 8), [], [1191, 56, 1192, 1193]),
  (212, .ldc 71, 2, (0, 0, 0), [((-300000020), 2)], [1412]),
  (214, .invokevirtual 37, 3, (0, 129, 8), [], [1191, 56, 1192, 1193]),
  (217, .aload 4, 2, (0, 0, 0), [], []),
  (219, .invokevirtual 37, 3, (0, 129, 8), [], [1191, 56, 1192, 1193]),
  (222, .invokevirtual 50, 3, (0, 133, 8), [], [1348, 56, 1349, 1350]),
  (225, .areturn, 1, (0, 0, 0), [], []),
  (226, .new 32, 3, (8, 4, 0), [], [1326, 1327, 56]),
  (229, .dup, 1, (0, 0, 0), [], []),
  (230, .invokespecial 34, 3, (4, 131, 62), [], [1328, 56, 1329]),
  (233, .ldc 73, 2, (0, 0, 0), [((-300000022), 2)], [1413]),
  (235, .invokevirtual 37, 3, (0, 129, 8), [], [1191, 56, 1192, 1193]),
  (238, .aload 4, 2, (0, 0, 0), [], []),
  (240, .invokevirtual 37, 3, (0, 129, 8), [], [1191, 56, 1192, 1193]),
  (243, .ldc 75, 2, (0, 0, 0), [((-300000024), 2)], [1414]),
  (245, .invokevirtual 37, 3, (0, 129, 8), [], [1191, 56, 1192, 1193]),
  (248, .iload_n 3, 1, (0, 0, 0), [], []),
  (249, .invokevirtual 47, 3, (0, 130, 8), [], [1282, 56, 1283, 1284]),
  (252, .invokevirtual 50, 3, (0, 133, 8), [], [1348, 56, 1349, 1350]),
  (255, .areturn, 1, (0, 0, 0), [], []),
  (256, .new 32, 3, (8, 4, 0), [], [1326, 1327, 56]),
  (259, .dup, 1, (0, 0, 0), [], []),
  (260, .invokespecial 34, 3, (4, 131, 62), [], [1328, 56, 1329]),
  (263, .ldc 77, 2, (0, 0, 0), [((-300000026), 2)], [1415]),
  (265, .invokevirtual 37, 3, (0, 129, 8), [], [1191, 56, 1192, 1193]),
  (268, .aload 4, 2, (0, 0, 0), [], []),
  (270, .invokevirtual 37, 3, (0, 129, 8), [], [1191, 56, 1192, 1193]),
  (273, .ldc 79, 2, (0, 0, 0), [((-300000028), 2)], [1416]),
  (275, .invokevirtual 37, 3, (0, 129, 8), [], [1191, 56, 1192, 1193]),
  (278, .iload_n 2, 1, (0, 0, 0), [], []),
  (279, .bipush 7, 2, (0, 0, 0), [], [])]
def am_t177_2 : List am_E := [(281, .irem, 1, (0, 0, 0), [], []),
  (282, .invokevirtual 47, 3, (0, 130, 8), [], [1282, 56, 1283, 1284]),
  (285, .invokevirtual 50, 3, (0, 133, 8), [], [1348, 56, 1349, 1350]),
  (288, .areturn, 1, (0, 0, 0), [], []),
  (289, .new 32, 3, (8, 4, 0), [], [1326, 1327, 56]),
  (292, .dup, 1, (0, 0, 0), [], []),
  (293, .invokespecial 34, 3, (4, 131, 62), [], [1328, 56, 1329]),
  (296, .ldc 81, 2, (0, 0, 0), [((-300000030), 2)], [1417]),
  (298, .invokevirtual 37, 3, (0, 129, 8), [], [1191, 56, 1192, 1193]),
  (301, .aload 5, 2, (0, 0, 0), [], []),
  (303, .invokevirtual 37, 3, (0, 129, 8), [], [1191, 56, 1192, 1193]),
  (306, .ldc 83, 2, (0, 0, 0), [((-300000032), 2)], [1418]),
  (308, .invokevirtual 37, 3, (0, 129, 8), [], [1191, 56, 1192, 1193]),
  (311, .iload_n 3, 1, (0, 0, 0), [], []),
  (312, .invokevirtual 47, 3, (0, 130, 8), [], [1282, 56, 1283, 1284]),
  (315, .ldc 85, 2, (0, 0, 0), [((-300000034), 2)], [1419]),
  (317, .invokevirtual 37, 3, (0, 129, 8), [], [1191, 56, 1192, 1193]),
  (320, .aload 5, 2, (0, 0, 0), [], []),
  (322, .invokevirtual 37, 3, (0, 129, 8), [], [1191, 56, 1192, 1193]),
  (325, .ldc 79, 2, (0, 0, 0), [((-300000028), 2)], [1416]),
  (327, .invokevirtual 37, 3, (0, 129, 8), [], [1191, 56, 1192, 1193]),
  (330, .iload_n 2, 1, (0, 0, 0), [], []),
  (331, .iconst 5, 1, (0, 0, 0), [], []),
  (332, .irem, 1, (0, 0, 0), [], []),
  (333, .invokevirtual 47, 3, (0, 130, 8), [], [1282, 56, 1283, 1284]),
  (336, .invokevirtual 50, 3, (0, 133, 8), [], [1348, 56, 1349, 1350]),
  (339, .areturn, 1, (0, 0, 0), [], []),
  (340, .new 32, 3, (8, 4, 0), [], [1326, 1327, 56]),
  (343, .dup, 1, (0, 0, 0), [], []),
  (344, .invokespecial 34, 3, (4, 131, 62), [], [1328, 56, 1329]),
  (347, .ldc 87, 2, (0, 0, 0), [((-300000036), 2)], [1420]),
  (349, .invokevirtual 37, 3, (0, 129, 8), [], [1191, 56, 1192, 1193]),
  (352, .iload_n 2, 1, (0, 0, 0), [], []),
  (353, .invokevirtual 47, 3, (0, 130, 8), [], [1282, 56, 1283, 1284]),
  (356, .ldc 89, 2, (0, 0, 0), [((-300000038), 2)], [1421]),
  (358, .invokevirtual 37, 3, (0, 129, 8), [], [1191, 56, 1192, 1193]),
  (361, .iload_n 2, 1, (0, 0, 0), [], []),
  (362, .invokevirtual 47, 3, (0, 130, 8), [], [1282, 56, 1283, 1284]),
  (365, .ldc 91, 2, (0, 0, 0), [((-300000040), 2)], [1422]),
  (367, .invokevirtual 37, 3, (0, 129, 8), [], [1191, 56, 1192, 1193]),
  (370, .aload 4, 2, (0, 0, 0), [], []),
  (372, .invokevirtual 37, 3, (0, 129, 8), [], [1191, 56, 1192, 1193]),
  (375, .ldc 93, 2, (0, 0, 0), [((-300000042), 2)], [1423]),
  (377, .invokevirtual 37, 3, (0, 129, 8), [], [1191, 56, 1192, 1193]),
  (380, .invokevirtual 50, 3, (0, 133, 8), [], [1348, 56, 1349, 1350]),
  (383, .areturn, 1, (0, 0, 0), [], [])]
def am_t177 : List am_E := am_t177_0 ++ (am_t177_1 ++ (am_t177_2))
/-- 178: L_list -/
def am_t178_0 : List am_E := [(0, .new 42, 3, (7, 10, 0), [], [1188, 828, 59]),
  (3, .dup, 1, (0, 0, 0), [], []),
  (4, .invokespecial 95, 3, (5, 156, 62), [], [1189, 59, 859]),
  (7, .astore_n 2, 1, (1, 0, 0), [], []),
  (8, .aload_n 2, 1, (0, 0, 0), [], []),
  (9, .iconst 1, 1, (0, 0, 0), [], []),
  (10, .aload_n 0, 1, (0, 0, 0), [], []),
  (11, .iconst 0, 1, (0, 0, 0), [], []),
  (12, .invokestatic 96, 3, (2, 175, 0), [], [918, 54, 919]),
  (15, .iconst 3, 1, (0, 0, 0), [], []),
  (16, .invokestatic 102, 3, (2, 174, 0), [], [914, 54, 915]),
  (19, .iadd, 1, (0, 0, 0), [], []),
  (20, .newarray .int, 2, (20, 0, 0), [], [178]),
  (22, .putfield 106, 3, (7, 4, 2), [], [872]),
  (25, .iconst 0, 1, (0, 0, 0), [], []),
  (26, .istore_n 3, 1, (0, 0, 0), [], []),
  (27, .iload_n 3, 1, (0, 0, 0), [], []),
  (28, .aload_n 2, 1, (0, 0, 0), [], []),
  (29, .getfield 106, 3, (7, 4, 2), [], [872]),
  (32, .arraylength, 1, (1, 0, 0), [], []),
  (33, .if_icmp .ge 56, 3, (89, 0, 0), [], []),
  (36, .aload_n 2, 1, (0, 0, 0), [], []),
  (37, .getfield 106, 3, (7, 4, 2), [], [872]),
  (40, .iload_n 3, 1, (0, 0, 0), [], []),
  (41, .aload_n 0, 1, (0, 0, 0), [], []),
  (42, .iconst 1, 1, (0, 0, 0), [], []),
  (43, .iload_n 3, 1, (0, 0, 0), [], []),
  (44, .iadd, 1, (0, 0, 0), [], []),
  (45, .invokestatic 96, 3, (2, 175, 0), [], [918, 54, 919]),
  (48, .iconst 5, 1, (0, 0, 0), [], []),
  (49, .invokestatic 102, 3, (2, 174, 0), [], [914, 54, 915]),
  (52, .iastore, 1, (0, 0, 0), [], []),
  (53, .aload_n 1, 1, (0, 0, 0), [], []),
  (54, .ldc 110, 2, (0, 0, 0), [((-300000044), 2)], [1190]),
  (56, .invokevirtual 37, 3, (0, 129, 8), [], [1191, 56, 1192, 1193]),
  (59, .iload_n 3, 1, (0, 0, 0), [], []),
  (60, .invokevirtual 47, 3, (0, 130, 8), [], [1282, 56, 1283, 1284]),
  (63, .ldc 112, 2, (0, 0, 0), [((-300000046), 2)], [1307]),
  (65, .invokevirtual 37, 3, (0, 129, 8), [], [1191, 56, 1192, 1193]),
  (68, .aload_n 2, 1, (0, 0, 0), [], []),
  (69, .getfield 106, 3, (7, 4, 2), [], [872]),
  (72, .iload_n 3, 1, (0, 0, 0), [], []),
  (73, .iaload, 1, (0, 0, 0), [], []),
  (74, .invokevirtual 47, 3, (0, 130, 8), [], [1282, 56, 1283, 1284]),
  (77, .ldc 114, 2, (0, 0, 0), [((-300000048), 2)], [1308]),
  (79, .invokevirtual 37, 3, (0, 129, 8), [], [1191, 56, 1192, 1193]),
  (82, .pop, 1, (0, 0, 0), [], []),
  (83, .iinc 3 1, 3, (0, 0, 0), [], []),
  (86, .goto (-59), 3, (27, 0, 0), [], []),
  (89, .aload_n 0, 1, (0, 0, 0), [], []),
  (90, .iconst 0, 1, (0, 0, 0), [], []),
  (91, .invokestatic 96, 3, (2, 175, 0), [], [918, 54, 919]),
  (94, .iconst 4, 1, (0, 0, 0), [], []),
  (95, .ishr, 1, (0, 0, 0), [], []),
  (96, .iconst 4, 1, (0, 0, 0), [], []),
  (97, .invokestatic 102, 3, (2, 174, 0), [], [914, 54, 915]),
  (100, .ifCond .le 58, 3, (158, 0, 0), [], []),
  (103, .aload_n 2, 1, (0, 0, 0), [], []),
  (104, .aload_n 0, 1, (0, 0, 0), [], []),
  (105, .iconst 4, 1, (0, 0, 0), [], [])]
def am_t178_1 : List am_E := [(106, .invokestatic 96, 3, (2, 175, 0), [], [918, 54, 919]),
  (109, .aload_n 0, 1, (0, 0, 0), [], []),
  (110, .iconst 4, 1, (0, 0, 0), [], []),
  (111, .invokestatic 96, 3, (2, 175, 0), [], [918, 54, 919]),
  (114, .bipush 7, 2, (0, 0, 0), [], []),
  (116, .ishr, 1, (0, 0, 0), [], []),
  (117, .iconst 3, 1, (0, 0, 0), [], []),
  (118, .invokestatic 102, 3, (2, 174, 0), [], [914, 54, 915]),
  (121, .ifCond .ne 9, 3, (130, 0, 0), [], []),
  (124, .sipush 10000, 3, (0, 0, 0), [], []),
  (127, .goto 6, 3, (133, 0, 0), [], []),
  (130, .sipush 300, 3, (0, 0, 0), [], []),
  (133, .invokestatic 102, 3, (2, 174, 0), [], [914, 54, 915]),
  (136, .putfield 116, 3, (7, 3, 0), [], [870]),
  (139, .aload_n 1, 1, (0, 0, 0), [], []),
  (140, .ldc 120, 2, (0, 0, 0), [((-300000050), 2)], [1309]),
  (142, .invokevirtual 37, 3, (0, 129, 8), [], [1191, 56, 1192, 1193]),
  (145, .aload_n 2, 1, (0, 0, 0), [], []),
  (146, .getfield 116, 3, (7, 3, 0), [], [870]),
  (149, .invokevirtual 47, 3, (0, 130, 8), [], [1282, 56, 1283, 1284]),
  (152, .ldc 122, 2, (0, 0, 0), [((-300000052), 2)], [1310]),
  (154, .invokevirtual 37, 3, (0, 129, 8), [], [1191, 56, 1192, 1193]),
  (157, .pop, 1, (0, 0, 0), [], []),
  (158, .aload_n 2, 1, (0, 0, 0), [], []),
  (159, .iconst 1, 1, (0, 0, 0), [], []),
  (160, .aload_n 0, 1, (0, 0, 0), [], []),
  (161, .iconst 5, 1, (0, 0, 0), [], []),
  (162, .invokestatic 96, 3, (2, 175, 0), [], [918, 54, 919]),
  (165, .bipush 7, 2, (0, 0, 0), [], []),
  (167, .invokestatic 102, 3, (2, 174, 0), [], [914, 54, 915]),
  (170, .iadd, 1, (0, 0, 0), [], []),
  (171, .anewarray 124, 3, (24, 0, 0), [], [1311, 863]),
  (174, .putfield 41, 3, (7, 5, 2), [], [874]),
  (177, .iconst 0, 1, (0, 0, 0), [], []),
  (178, .istore_n 3, 1, (0, 0, 0), [], []),
  (179, .iload_n 3, 1, (0, 0, 0), [], []),
  (180, .aload_n 2, 1, (0, 0, 0), [], []),
  (181, .getfield 41, 3, (7, 5, 2), [], [874]),
  (184, .arraylength, 1, (1, 0, 0), [], []),
  (185, .if_icmp .ge 162, 3, (347, 0, 0), [], []),
  (188, .aload_n 0, 1, (0, 0, 0), [], []),
  (189, .iconst 5, 1, (0, 0, 0), [], []),
  (190, .iload_n 3, 1, (0, 0, 0), [], []),
  (191, .iconst 3, 1, (0, 0, 0), [], []),
  (192, .irem, 1, (0, 0, 0), [], []),
  (193, .iadd, 1, (0, 0, 0), [], []),
  (194, .invokestatic 96, 3, (2, 175, 0), [], [918, 54, 919]),
  (197, .iconst 3, 1, (0, 0, 0), [], []),
  (198, .iload_n 3, 1, (0, 0, 0), [], []),
  (199, .imul, 1, (0, 0, 0), [], []),
  (200, .ishr, 1, (0, 0, 0), [], []),
  (201, .istore 4, 2, (0, 0, 0), [], []),
  (203, .aload_n 2, 1, (0, 0, 0), [], []),
  (204, .getfield 41, 3, (7, 5, 2), [], [874]),
  (207, .iload_n 3, 1, (0, 0, 0), [], []),
  (208, .iconst 5, 1, (0, 0, 0), [], []),
  (209, .newarray .int, 2, (20, 0, 0), [], [178]),
  (211, .dup, 1, (0, 0, 0), [], []),
  (212, .iconst 0, 1, (0, 0, 0), [], []),
  (213, .iconst 1, 1, (0, 0, 0), [], [])]
def am_t178_2 : List am_E := [(214, .iload 4, 2, (0, 0, 0), [], []),
  (216, .iload 4, 2, (0, 0, 0), [], []),
  (218, .bipush 6, 2, (0, 0, 0), [], []),
  (220, .ishr, 1, (0, 0, 0), [], []),
  (221, .iconst 4, 1, (0, 0, 0), [], []),
  (222, .invokestatic 102, 3, (2, 174, 0), [], [914, 54, 915]),
  (225, .ifCond .ne 9, 3, (234, 0, 0), [], []),
  (228, .sipush 999, 3, (0, 0, 0), [], []),
  (231, .goto 5, 3, (236, 0, 0), [], []),
  (234, .bipush 120, 2, (0, 0, 0), [], []),
  (236, .invokestatic 102, 3, (2, 174, 0), [], [914, 54, 915]),
  (239, .iadd, 1, (0, 0, 0), [], []),
  (240, .iastore, 1, (0, 0, 0), [], []),
  (241, .dup, 1, (0, 0, 0), [], []),
  (242, .iconst 1, 1, (0, 0, 0), [], []),
  (243, .iload 4, 2, (0, 0, 0), [], []),
  (245, .iconst 3, 1, (0, 0, 0), [], []),
  (246, .ishr, 1, (0, 0, 0), [], []),
  (247, .aload_n 2, 1, (0, 0, 0), [], []),
  (248, .getfield 106, 3, (7, 4, 2), [], [872]),
  (251, .arraylength, 1, (1, 0, 0), [], []),
  (252, .invokestatic 102, 3, (2, 174, 0), [], [914, 54, 915]),
  (255, .iastore, 1, (0, 0, 0), [], []),
  (256, .dup, 1, (0, 0, 0), [], []),
  (257, .iconst 2, 1, (0, 0, 0), [], []),
  (258, .iload 4, 2, (0, 0, 0), [], []),
  (260, .iconst 5, 1, (0, 0, 0), [], []),
  (261, .ishr, 1, (0, 0, 0), [], []),
  (262, .bipush 51, 2, (0, 0, 0), [], []),
  (264, .invokestatic 102, 3, (2, 174, 0), [], [914, 54, 915]),
  (267, .iastore, 1, (0, 0, 0), [], []),
  (268, .dup, 1, (0, 0, 0), [], []),
  (269, .iconst 3, 1, (0, 0, 0), [], []),
  (270, .iconst (-1), 1, (0, 0, 0), [], []),
  (271, .iastore, 1, (0, 0, 0), [], []),
  (272, .dup, 1, (0, 0, 0), [], []),
  (273, .iconst 4, 1, (0, 0, 0), [], []),
  (274, .iconst 0, 1, (0, 0, 0), [], []),
  (275, .iastore, 1, (0, 0, 0), [], []),
  (276, .aastore, 1, (24, 0, 0), [], []),
  (277, .aload_n 1, 1, (0, 0, 0), [], []),
  (278, .ldc 125, 2, (0, 0, 0), [((-300000054), 2)], [1312]),
  (280, .invokevirtual 37, 3, (0, 129, 8), [], [1191, 56, 1192, 1193]),
  (283, .iload_n 3, 1, (0, 0, 0), [], []),
  (284, .invokevirtual 47, 3, (0, 130, 8), [], [1282, 56, 1283, 1284]),
  (287, .ldc 127, 2, (0, 0, 0), [((-300000056), 2)], [1313]),
  (289, .invokevirtual 37, 3, (0, 129, 8), [], [1191, 56, 1192, 1193]),
  (292, .aload_n 2, 1, (0, 0, 0), [], []),
  (293, .getfield 41, 3, (7, 5, 2), [], [874]),
  (296, .iload_n 3, 1, (0, 0, 0), [], []),
  (297, .aaload, 1, (24, 0, 0), [], []),
  (298, .iconst 0, 1, (0, 0, 0), [], []),
  (299, .iaload, 1, (0, 0, 0), [], []),
  (300, .invokevirtual 47, 3, (0, 130, 8), [], [1282, 56, 1283, 1284]),
  (303, .ldc 129, 2, (0, 0, 0), [((-300000058), 2)], [1314]),
  (305, .invokevirtual 37, 3, (0, 129, 8), [], [1191, 56, 1192, 1193]),
  (308, .aload_n 2, 1, (0, 0, 0), [], []),
  (309, .getfield 41, 3, (7, 5, 2), [], [874]),
  (312, .iload_n 3, 1, (0, 0, 0), [], []),
  (313, .aaload, 1, (24, 0, 0), [], [])]
def am_t178_3 : List am_E := [(314, .iconst 1, 1, (0, 0, 0), [], []),
  (315, .iaload, 1, (0, 0, 0), [], []),
  (316, .invokevirtual 47, 3, (0, 130, 8), [], [1282, 56, 1283, 1284]),
  (319, .ldc 131, 2, (0, 0, 0), [((-300000060), 2)], [1315]),
  (321, .invokevirtual 37, 3, (0, 129, 8), [], [1191, 56, 1192, 1193]),
  (324, .aload_n 2, 1, (0, 0, 0), [], []),
  (325, .getfield 41, 3, (7, 5, 2), [], [874]),
  (328, .iload_n 3, 1, (0, 0, 0), [], []),
  (329, .aaload, 1, (24, 0, 0), [], []),
  (330, .iconst 2, 1, (0, 0, 0), [], []),
  (331, .iaload, 1, (0, 0, 0), [], []),
  (332, .invokevirtual 47, 3, (0, 130, 8), [], [1282, 56, 1283, 1284]),
  (335, .ldc 114, 2, (0, 0, 0), [((-300000048), 2)], [1308]),
  (337, .invokevirtual 37, 3, (0, 129, 8), [], [1191, 56, 1192, 1193]),
  (340, .pop, 1, (0, 0, 0), [], []),
  (341, .iinc 3 1, 3, (0, 0, 0), [], []),
  (344, .goto (-165), 3, (179, 0, 0), [], []),
  (347, .aload_n 2, 1, (0, 0, 0), [], []),
  (348, .iconst 1, 1, (0, 0, 0), [], []),
  (349, .aload_n 0, 1, (0, 0, 0), [], []),
  (350, .bipush 8, 2, (0, 0, 0), [], []),
  (352, .invokestatic 96, 3, (2, 175, 0), [], [918, 54, 919]),
  (355, .bipush 7, 2, (0, 0, 0), [], []),
  (357, .invokestatic 102, 3, (2, 174, 0), [], [914, 54, 915]),
  (360, .iadd, 1, (0, 0, 0), [], []),
  (361, .iconst 3, 1, (0, 0, 0), [], []),
  (362, .multianewarray 133 2, 4, (24, 20, 0), [], [1316, 863, 178]),
  (366, .putfield 56, 3, (7, 6, 2), [], [876]),
  (369, .aload_n 2, 1, (0, 0, 0), [], []),
  (370, .aload_n 2, 1, (0, 0, 0), [], []),
  (371, .getfield 56, 3, (7, 6, 2), [], [876]),
  (374, .arraylength, 1, (1, 0, 0), [], []),
  (375, .aload_n 2, 1, (0, 0, 0), [], []),
  (376, .getfield 41, 3, (7, 5, 2), [], [874]),
  (379, .arraylength, 1, (1, 0, 0), [], []),
  (380, .multianewarray 134 2, 4, (25, 23, 0), [], [1317, 865, 913]),
  (384, .putfield 136, 3, (7, 7, 2), [], [878]),
  (387, .iconst 0, 1, (0, 0, 0), [], []),
  (388, .istore_n 3, 1, (0, 0, 0), [], []),
  (389, .iload_n 3, 1, (0, 0, 0), [], []),
  (390, .aload_n 2, 1, (0, 0, 0), [], []),
  (391, .getfield 56, 3, (7, 6, 2), [], [876]),
  (394, .arraylength, 1, (1, 0, 0), [], []),
  (395, .if_icmp .ge 136, 3, (531, 0, 0), [], []),
  (398, .aload_n 0, 1, (0, 0, 0), [], []),
  (399, .bipush 8, 2, (0, 0, 0), [], []),
  (401, .iload_n 3, 1, (0, 0, 0), [], []),
  (402, .iconst 4, 1, (0, 0, 0), [], []),
  (403, .irem, 1, (0, 0, 0), [], []),
  (404, .iadd, 1, (0, 0, 0), [], []),
  (405, .invokestatic 96, 3, (2, 175, 0), [], [918, 54, 919]),
  (408, .iconst 2, 1, (0, 0, 0), [], []),
  (409, .iload_n 3, 1, (0, 0, 0), [], []),
  (410, .imul, 1, (0, 0, 0), [], []),
  (411, .iconst 1, 1, (0, 0, 0), [], []),
  (412, .iadd, 1, (0, 0, 0), [], []),
  (413, .ishr, 1, (0, 0, 0), [], []),
  (414, .istore 4, 2, (0, 0, 0), [], []),
  (416, .aload_n 1, 1, (0, 0, 0), [], []),
  (417, .ldc 139, 2, (0, 0, 0), [((-300000062), 2)], [1318])]
def am_t178_4 : List am_E := [(419, .invokevirtual 37, 3, (0, 129, 8), [], [1191, 56, 1192, 1193]),
  (422, .iload_n 3, 1, (0, 0, 0), [], []),
  (423, .invokevirtual 47, 3, (0, 130, 8), [], [1282, 56, 1283, 1284]),
  (426, .pop, 1, (0, 0, 0), [], []),
  (427, .iconst 1, 1, (0, 0, 0), [], []),
  (428, .istore 5, 2, (0, 0, 0), [], []),
  (430, .iconst 0, 1, (0, 0, 0), [], []),
  (431, .istore 6, 2, (0, 0, 0), [], []),
  (433, .iload 6, 2, (0, 0, 0), [], []),
  (435, .aload_n 2, 1, (0, 0, 0), [], []),
  (436, .getfield 41, 3, (7, 5, 2), [], [874]),
  (439, .arraylength, 1, (1, 0, 0), [], []),
  (440, .if_icmp .ge 78, 3, (518, 0, 0), [], []),
  (443, .iload 6, 2, (0, 0, 0), [], []),
  (445, .iconst 5, 1, (0, 0, 0), [], []),
  (446, .imul, 1, (0, 0, 0), [], []),
  (447, .iload_n 3, 1, (0, 0, 0), [], []),
  (448, .iadd, 1, (0, 0, 0), [], []),
  (449, .bipush 7, 2, (0, 0, 0), [], []),
  (451, .irem, 1, (0, 0, 0), [], []),
  (452, .istore 7, 2, (0, 0, 0), [], []),
  (454, .iload 7, 2, (0, 0, 0), [], []),
  (456, .aload_n 2, 1, (0, 0, 0), [], []),
  (457, .getfield 41, 3, (7, 5, 2), [], [874]),
  (460, .arraylength, 1, (1, 0, 0), [], []),
  (461, .if_icmp .ge 51, 3, (512, 0, 0), [], []),
  (464, .iload 4, 2, (0, 0, 0), [], []),
  (466, .iload 7, 2, (0, 0, 0), [], []),
  (468, .ishr, 1, (0, 0, 0), [], []),
  (469, .iconst 1, 1, (0, 0, 0), [], []),
  (470, .iand, 1, (0, 0, 0), [], []),
  (471, .ifCond .ne 6, 3, (477, 0, 0), [], []),
  (474, .goto 38, 3, (512, 0, 0), [], []),
  (477, .aload_n 2, 1, (0, 0, 0), [], []),
  (478, .getfield 136, 3, (7, 7, 2), [], [878]),
  (481, .iload_n 3, 1, (0, 0, 0), [], []),
  (482, .aaload, 1, (24, 0, 0), [], []),
  (483, .iload 7, 2, (0, 0, 0), [], []),
  (485, .iconst 1, 1, (0, 0, 0), [], []),
  (486, .bastore, 1, (2, 0, 0), [], []),
  (487, .aload_n 1, 1, (0, 0, 0), [], []),
  (488, .iload 5, 2, (0, 0, 0), [], []),
  (490, .ifCond .eq 8, 3, (498, 0, 0), [], []),
  (493, .ldc 141, 2, (0, 0, 0), [((-300000064), 2)], [1319]),
  (495, .goto 5, 3, (500, 0, 0), [], []),
  (498, .ldc 143, 2, (0, 0, 0), [((-300000066), 2)], [1320]),
  (500, .invokevirtual 37, 3, (0, 129, 8), [], [1191, 56, 1192, 1193]),
  (503, .iload 7, 2, (0, 0, 0), [], []),
  (505, .invokevirtual 47, 3, (0, 130, 8), [], [1282, 56, 1283, 1284]),
  (508, .pop, 1, (0, 0, 0), [], []),
  (509, .iconst 0, 1, (0, 0, 0), [], []),
  (510, .istore 5, 2, (0, 0, 0), [], []),
  (512, .iinc 6 1, 3, (0, 0, 0), [], []),
  (515, .goto (-82), 3, (433, 0, 0), [], []),
  (518, .aload_n 1, 1, (0, 0, 0), [], []),
  (519, .ldc 114, 2, (0, 0, 0), [((-300000048), 2)], [1308]),
  (521, .invokevirtual 37, 3, (0, 129, 8), [], [1191, 56, 1192, 1193]),
  (524, .pop, 1, (0, 0, 0), [], []),
  (525, .iinc 3 1, 3, (0, 0, 0), [], []),
  (528, .goto (-139), 3, (389, 0, 0), [], [])]
def am_t178_5 : List am_E := [(531, .aload_n 2, 1, (0, 0, 0), [], []),
  (532, .aload_n 0, 1, (0, 0, 0), [], []),
  (533, .bipush 13, 2, (0, 0, 0), [], []),
  (535, .invokestatic 96, 3, (2, 175, 0), [], [918, 54, 919]),
  (538, .bipush 6, 2, (0, 0, 0), [], []),
  (540, .invokestatic 102, 3, (2, 174, 0), [], [914, 54, 915]),
  (543, .anewarray 124, 3, (24, 0, 0), [], [1311, 863]),
  (546, .putfield 145, 3, (7, 8, 2), [], [880]),
  (549, .iconst 0, 1, (0, 0, 0), [], []),
  (550, .istore_n 3, 1, (0, 0, 0), [], []),
  (551, .iload_n 3, 1, (0, 0, 0), [], []),
  (552, .aload_n 2, 1, (0, 0, 0), [], []),
  (553, .getfield 145, 3, (7, 8, 2), [], [880]),
  (556, .arraylength, 1, (1, 0, 0), [], []),
  (557, .if_icmp .ge 133, 3, (690, 0, 0), [], []),
  (560, .aload_n 0, 1, (0, 0, 0), [], []),
  (561, .bipush 13, 2, (0, 0, 0), [], []),
  (563, .iload_n 3, 1, (0, 0, 0), [], []),
  (564, .iconst 3, 1, (0, 0, 0), [], []),
  (565, .irem, 1, (0, 0, 0), [], []),
  (566, .iadd, 1, (0, 0, 0), [], []),
  (567, .invokestatic 96, 3, (2, 175, 0), [], [918, 54, 919]),
  (570, .iconst 3, 1, (0, 0, 0), [], []),
  (571, .iload_n 3, 1, (0, 0, 0), [], []),
  (572, .imul, 1, (0, 0, 0), [], []),
  (573, .ishr, 1, (0, 0, 0), [], []),
  (574, .istore 4, 2, (0, 0, 0), [], []),
  (576, .iconst 5, 1, (0, 0, 0), [], []),
  (577, .newarray .int, 2, (20, 0, 0), [], [178]),
  (579, .dup, 1, (0, 0, 0), [], []),
  (580, .iconst 0, 1, (0, 0, 0), [], []),
  (581, .iload 4, 2, (0, 0, 0), [], []),
  (583, .iconst 2, 1, (0, 0, 0), [], []),
  (584, .ishr, 1, (0, 0, 0), [], []),
  (585, .aload_n 2, 1, (0, 0, 0), [], []),
  (586, .getfield 41, 3, (7, 5, 2), [], [874]),
  (589, .arraylength, 1, (1, 0, 0), [], []),
  (590, .invokestatic 102, 3, (2, 174, 0), [], [914, 54, 915]),
  (593, .iastore, 1, (0, 0, 0), [], []),
  (594, .dup, 1, (0, 0, 0), [], []),
  (595, .iconst 1, 1, (0, 0, 0), [], []),
  (596, .iload 4, 2, (0, 0, 0), [], []),
  (598, .bipush 8, 2, (0, 0, 0), [], []),
  (600, .invokestatic 102, 3, (2, 174, 0), [], [914, 54, 915]),
  (603, .iastore, 1, (0, 0, 0), [], []),
  (604, .dup, 1, (0, 0, 0), [], []),
  (605, .iconst 2, 1, (0, 0, 0), [], []),
  (606, .iload 4, 2, (0, 0, 0), [], []),
  (608, .iconst 4, 1, (0, 0, 0), [], []),
  (609, .ishr, 1, (0, 0, 0), [], []),
  (610, .bipush 20, 2, (0, 0, 0), [], []),
  (612, .invokestatic 102, 3, (2, 174, 0), [], [914, 54, 915]),
  (615, .iastore, 1, (0, 0, 0), [], []),
  (616, .dup, 1, (0, 0, 0), [], []),
  (617, .iconst 3, 1, (0, 0, 0), [], []),
  (618, .iload 4, 2, (0, 0, 0), [], []),
  (620, .bipush 6, 2, (0, 0, 0), [], []),
  (622, .ishr, 1, (0, 0, 0), [], []),
  (623, .bipush 90, 2, (0, 0, 0), [], []),
  (625, .invokestatic 102, 3, (2, 174, 0), [], [914, 54, 915])]
def am_t178_6 : List am_E := [(628, .iastore, 1, (0, 0, 0), [], []),
  (629, .dup, 1, (0, 0, 0), [], []),
  (630, .iconst 4, 1, (0, 0, 0), [], []),
  (631, .iload 4, 2, (0, 0, 0), [], []),
  (633, .iconst 5, 1, (0, 0, 0), [], []),
  (634, .ishr, 1, (0, 0, 0), [], []),
  (635, .bipush 42, 2, (0, 0, 0), [], []),
  (637, .invokestatic 102, 3, (2, 174, 0), [], [914, 54, 915]),
  (640, .iastore, 1, (0, 0, 0), [], []),
  (641, .astore 5, 2, (1, 0, 0), [], []),
  (643, .aload_n 2, 1, (0, 0, 0), [], []),
  (644, .getfield 145, 3, (7, 8, 2), [], [880]),
  (647, .iload_n 3, 1, (0, 0, 0), [], []),
  (648, .aload 5, 2, (0, 0, 0), [], []),
  (650, .aastore, 1, (24, 0, 0), [], []),
  (651, .aload_n 1, 1, (0, 0, 0), [], []),
  (652, .ldc 148, 2, (0, 0, 0), [((-300000068), 2)], [1321]),
  (654, .invokevirtual 37, 3, (0, 129, 8), [], [1191, 56, 1192, 1193]),
  (657, .aload 5, 2, (0, 0, 0), [], []),
  (659, .iconst 0, 1, (0, 0, 0), [], []),
  (660, .iaload, 1, (0, 0, 0), [], []),
  (661, .invokevirtual 47, 3, (0, 130, 8), [], [1282, 56, 1283, 1284]),
  (664, .ldc 150, 2, (0, 0, 0), [((-300000070), 2)], [1322]),
  (666, .invokevirtual 37, 3, (0, 129, 8), [], [1191, 56, 1192, 1193]),
  (669, .aload 5, 2, (0, 0, 0), [], []),
  (671, .aload_n 2, 1, (0, 0, 0), [], []),
  (672, .invokestatic 152, 3, (2, 177, 0), [], [1323, 54, 1324]),
  (675, .invokevirtual 37, 3, (0, 129, 8), [], [1191, 56, 1192, 1193]),
  (678, .ldc 114, 2, (0, 0, 0), [((-300000048), 2)], [1308]),
  (680, .invokevirtual 37, 3, (0, 129, 8), [], [1191, 56, 1192, 1193]),
  (683, .pop, 1, (0, 0, 0), [], []),
  (684, .iinc 3 1, 3, (0, 0, 0), [], []),
  (687, .goto (-136), 3, (551, 0, 0), [], []),
  (690, .aload_n 2, 1, (0, 0, 0), [], []),
  (691, .areturn, 1, (0, 0, 0), [], [])]
def am_t178 : List am_E := am_t178_0 ++ (am_t178_1 ++ (am_t178_2 ++ (am_t178_3 ++ (am_t178_4 ++ (am_t178_5 ++ (am_t178_6))))))
/-- 179: L_act -/
def am_t179_0 : List am_E := [(0, .iload_n 2, 1, (0, 0, 0), [], []),
  (1, .iconst 4, 1, (0, 0, 0), [], []),
  (2, .ishr, 1, (0, 0, 0), [], []),
  (3, .aload_n 1, 1, (0, 0, 0), [], []),
  (4, .getfield 56, 3, (7, 6, 2), [], [876]),
  (7, .arraylength, 1, (1, 0, 0), [], []),
  (8, .invokestatic 102, 3, (2, 174, 0), [], [914, 54, 915]),
  (11, .istore_n 3, 1, (0, 0, 0), [], []),
  (12, .iload_n 2, 1, (0, 0, 0), [], []),
  (13, .bipush 6, 2, (0, 0, 0), [], []),
  (15, .ishr, 1, (0, 0, 0), [], []),
  (16, .aload_n 1, 1, (0, 0, 0), [], []),
  (17, .getfield 41, 3, (7, 5, 2), [], [874]),
  (20, .arraylength, 1, (1, 0, 0), [], []),
  (21, .invokestatic 102, 3, (2, 174, 0), [], [914, 54, 915]),
  (24, .istore 4, 2, (0, 0, 0), [], []),
  (26, .iload_n 2, 1, (0, 0, 0), [], []),
  (27, .bipush 6, 2, (0, 0, 0), [], []),
  (29, .invokestatic 102, 3, (2, 174, 0), [], [914, 54, 915]),
  (32, .tableswitch 227 0 3 #[32, 32, 94, 172], 32, (259, 0, 0), [(0, 64), (1, 64), (2, 126), (3, 204)], []),
  (64, .aload_n 1, 1, (0, 0, 0), [], []),
  (65, .getfield 136, 3, (7, 7, 2), [], [878]),
  (68, .iload_n 3, 1, (0, 0, 0), [], []),
  (69, .aaload, 1, (24, 0, 0), [], []),
  (70, .iload 4, 2, (0, 0, 0), [], []),
  (72, .baload, 1, (2, 0, 0), [], []),
  (73, .istore 5, 2, (0, 0, 0), [], []),
  (75, .aload_n 1, 1, (0, 0, 0), [], []),
  (76, .getfield 136, 3, (7, 7, 2), [], [878]),
  (79, .iload_n 3, 1, (0, 0, 0), [], []),
  (80, .aaload, 1, (24, 0, 0), [], []),
  (81, .iload 4, 2, (0, 0, 0), [], []),
  (83, .iload_n 2, 1, (0, 0, 0), [], []),
  (84, .iconst 3, 1, (0, 0, 0), [], []),
  (85, .ishr, 1, (0, 0, 0), [], []),
  (86, .iconst 2, 1, (0, 0, 0), [], []),
  (87, .invokestatic 102, 3, (2, 174, 0), [], [914, 54, 915]),
  (90, .ifCond .ne 7, 3, (97, 0, 0), [], []),
  (93, .iconst 1, 1, (0, 0, 0), [], []),
  (94, .goto 4, 3, (98, 0, 0), [], []),
  (97, .iconst 0, 1, (0, 0, 0), [], []),
  (98, .bastore, 1, (2, 0, 0), [], []),
  (99, .aload_n 0, 1, (0, 0, 0), [], []),
  (100, .iload_n 3, 1, (0, 0, 0), [], []),
  (101, .iload 4, 2, (0, 0, 0), [], []),
  (103, .aload_n 1, 1, (0, 0, 0), [], []),
  (104, .getfield 136, 3, (7, 7, 2), [], [878]),
  (107, .iload_n 3, 1, (0, 0, 0), [], []),
  (108, .aaload, 1, (24, 0, 0), [], []),
  (109, .iload 4, 2, (0, 0, 0), [], []),
  (111, .baload, 1, (2, 0, 0), [], []),
  (112, .invokevirtual 156, 3, (14, 116, 6), [], [1428, 68, 1429, 1430]),
  (115, .iload 5, 2, (0, 0, 0), [], []),
  (117, .if_icmp .ne 7, 3, (124, 0, 0), [], []),
  (120, .iconst 1, 1, (0, 0, 0), [], []),
  (121, .goto 4, 3, (125, 0, 0), [], []),
  (124, .iconst 0, 1, (0, 0, 0), [], []),
  (125, .ireturn, 1, (1, 0, 0), [], []),
  (126, .iconst 1, 1, (0, 0, 0), [], []),
  (127, .iload_n 2, 1, (0, 0, 0), [], [])]
def am_t179_1 : List am_E := [(128, .iconst 5, 1, (0, 0, 0), [], []),
  (129, .ishr, 1, (0, 0, 0), [], []),
  (130, .iload_n 2, 1, (0, 0, 0), [], []),
  (131, .bipush 8, 2, (0, 0, 0), [], []),
  (133, .ishr, 1, (0, 0, 0), [], []),
  (134, .iconst 3, 1, (0, 0, 0), [], []),
  (135, .invokestatic 102, 3, (2, 174, 0), [], [914, 54, 915]),
  (138, .ifCond .ne 9, 3, (147, 0, 0), [], []),
  (141, .sipush 999, 3, (0, 0, 0), [], []),
  (144, .goto 5, 3, (149, 0, 0), [], []),
  (147, .bipush 50, 2, (0, 0, 0), [], []),
  (149, .invokestatic 102, 3, (2, 174, 0), [], [914, 54, 915]),
  (152, .iadd, 1, (0, 0, 0), [], []),
  (153, .istore 5, 2, (0, 0, 0), [], []),
  (155, .aload_n 1, 1, (0, 0, 0), [], []),
  (156, .getfield 56, 3, (7, 6, 2), [], [876]),
  (159, .iload_n 3, 1, (0, 0, 0), [], []),
  (160, .aaload, 1, (24, 0, 0), [], []),
  (161, .iconst 0, 1, (0, 0, 0), [], []),
  (162, .sipush 9999, 3, (0, 0, 0), [], []),
  (165, .aload_n 1, 1, (0, 0, 0), [], []),
  (166, .getfield 56, 3, (7, 6, 2), [], [876]),
  (169, .iload_n 3, 1, (0, 0, 0), [], []),
  (170, .aaload, 1, (24, 0, 0), [], []),
  (171, .iconst 0, 1, (0, 0, 0), [], []),
  (172, .iaload, 1, (0, 0, 0), [], []),
  (173, .iload 5, 2, (0, 0, 0), [], []),
  (175, .iadd, 1, (0, 0, 0), [], []),
  (176, .invokestatic 160, 3, (7, 0, 0), [], [1432, 580, 61, 581]),
  (179, .iastore, 1, (0, 0, 0), [], []),
  (180, .aload_n 0, 1, (0, 0, 0), [], []),
  (181, .iload_n 3, 1, (0, 0, 0), [], []),
  (182, .iload 5, 2, (0, 0, 0), [], []),
  (184, .invokevirtual 165, 3, (14, 117, 6), [], [1433, 68, 1434, 1435]),
  (187, .aload_n 1, 1, (0, 0, 0), [], []),
  (188, .getfield 56, 3, (7, 6, 2), [], [876]),
  (191, .iload_n 3, 1, (0, 0, 0), [], []),
  (192, .aaload, 1, (24, 0, 0), [], []),
  (193, .iconst 0, 1, (0, 0, 0), [], []),
  (194, .iaload, 1, (0, 0, 0), [], []),
  (195, .if_icmp .ne 7, 3, (202, 0, 0), [], []),
  (198, .iconst 1, 1, (0, 0, 0), [], []),
  (199, .goto 4, 3, (203, 0, 0), [], []),
  (202, .iconst 0, 1, (0, 0, 0), [], []),
  (203, .ireturn, 1, (1, 0, 0), [], []),
  (204, .aload_n 1, 1, (0, 0, 0), [], []),
  (205, .getfield 116, 3, (7, 3, 0), [], [870]),
  (208, .istore 5, 2, (0, 0, 0), [], []),
  (210, .aload_n 1, 1, (0, 0, 0), [], []),
  (211, .iload_n 2, 1, (0, 0, 0), [], []),
  (212, .iconst 5, 1, (0, 0, 0), [], []),
  (213, .ishr, 1, (0, 0, 0), [], []),
  (214, .iload_n 2, 1, (0, 0, 0), [], []),
  (215, .bipush 8, 2, (0, 0, 0), [], []),
  (217, .ishr, 1, (0, 0, 0), [], []),
  (218, .iconst 4, 1, (0, 0, 0), [], []),
  (219, .invokestatic 102, 3, (2, 174, 0), [], [914, 54, 915]),
  (222, .ifCond .ne 9, 3, (231, 0, 0), [], []),
  (225, .sipush 10000, 3, (0, 0, 0), [], []),
  (228, .goto 6, 3, (234, 0, 0), [], [])]
def am_t179_2 : List am_E := [(231, .sipush 300, 3, (0, 0, 0), [], []),
  (234, .invokestatic 102, 3, (2, 174, 0), [], [914, 54, 915]),
  (237, .putfield 116, 3, (7, 3, 0), [], [870]),
  (240, .aload_n 0, 1, (0, 0, 0), [], []),
  (241, .aload_n 1, 1, (0, 0, 0), [], []),
  (242, .getfield 116, 3, (7, 3, 0), [], [870]),
  (245, .invokevirtual 168, 3, (14, 118, 6), [], [1439, 68, 1440, 1441]),
  (248, .iload 5, 2, (0, 0, 0), [], []),
  (250, .if_icmp .ne 7, 3, (257, 0, 0), [], []),
  (253, .iconst 1, 1, (0, 0, 0), [], []),
  (254, .goto 4, 3, (258, 0, 0), [], []),
  (257, .iconst 0, 1, (0, 0, 0), [], []),
  (258, .ireturn, 1, (1, 0, 0), [], []),
  (259, .aload_n 1, 1, (0, 0, 0), [], []),
  (260, .getfield 41, 3, (7, 5, 2), [], [874]),
  (263, .iload 4, 2, (0, 0, 0), [], []),
  (265, .aaload, 1, (24, 0, 0), [], []),
  (266, .iconst 3, 1, (0, 0, 0), [], []),
  (267, .iaload, 1, (0, 0, 0), [], []),
  (268, .istore 5, 2, (0, 0, 0), [], []),
  (270, .aload_n 0, 1, (0, 0, 0), [], []),
  (271, .iload 4, 2, (0, 0, 0), [], []),
  (273, .invokevirtual 171, 3, (14, 119, 6), [], [1444, 68, 1445, 1446]),
  (276, .istore 6, 2, (0, 0, 0), [], []),
  (278, .goto 8, 3, (286, 0, 0), [], []),
  (281, .astore 7, 2, (1, 0, 0), [], []),
  (283, .iconst (-1), 1, (0, 0, 0), [], []),
  (284, .istore 6, 2, (0, 0, 0), [], []),
  (286, .aload_n 1, 1, (0, 0, 0), [], []),
  (287, .getfield 41, 3, (7, 5, 2), [], [874]),
  (290, .iload 4, 2, (0, 0, 0), [], []),
  (292, .aaload, 1, (24, 0, 0), [], []),
  (293, .iconst 3, 1, (0, 0, 0), [], []),
  (294, .iconst (-1), 1, (0, 0, 0), [], []),
  (295, .iastore, 1, (0, 0, 0), [], []),
  (296, .iload 5, 2, (0, 0, 0), [], []),
  (298, .ifCond .lt 13, 3, (311, 0, 0), [], []),
  (301, .aload_n 1, 1, (0, 0, 0), [], []),
  (302, .getfield 41, 3, (7, 5, 2), [], [874]),
  (305, .iload 4, 2, (0, 0, 0), [], []),
  (307, .aaload, 1, (24, 0, 0), [], []),
  (308, .iconst 4, 1, (0, 0, 0), [], []),
  (309, .iconst 0, 1, (0, 0, 0), [], []),
  (310, .iastore, 1, (0, 0, 0), [], []),
  (311, .iload 6, 2, (0, 0, 0), [], []),
  (313, .iload 5, 2, (0, 0, 0), [], []),
  (315, .if_icmp .ne 7, 3, (322, 0, 0), [], []),
  (318, .iconst 1, 1, (0, 0, 0), [], []),
  (319, .goto 4, 3, (323, 0, 0), [], []),
  (322, .iconst 0, 1, (0, 0, 0), [], []),
  (323, .ireturn, 1, (1, 0, 0), [], [])]
def am_t179 : List am_E := am_t179_0 ++ (am_t179_1 ++ (am_t179_2))
/-- 180: L_law -/
def am_t180_0 : List am_E := [(0, .new 32, 3, (8, 4, 0), [], [1326, 1327, 56]),
  (3, .dup, 1, (0, 0, 0), [], []),
  (4, .invokespecial 34, 3, (4, 131, 62), [], [1328, 56, 1329]),
  (7, .astore_n 1, 1, (1, 0, 0), [], []),
  (8, .aload_n 0, 1, (0, 0, 0), [], []),
  (9, .aload_n 1, 1, (0, 0, 0), [], []),
  (10, .invokestatic 176, 3, (2, 178, 0), [], [1185, 54, 1186]),
  (13, .astore_n 2, 1, (1, 0, 0), [], []),
  (14, .new 10, 3, (6, 10, 0), [], [83, 84, 68]),
  (17, .dup, 1, (0, 0, 0), [], []),
  (18, .invokespecial 180, 3, (4, 101, 62), [], [85, 68, 86]),
  (21, .astore_n 3, 1, (1, 0, 0), [], []),
  (22, .aload_n 3, 1, (0, 0, 0), [], []),
  (23, .aload_n 1, 1, (0, 0, 0), [], []),
  (24, .invokevirtual 50, 3, (0, 133, 8), [], [1348, 56, 1349, 1350]),
  (27, .invokestatic 181, 3, (2, 176, 0), [], [922, 54, 923]),
  (30, .ifCond .eq 5, 3, (35, 0, 0), [], []),
  (33, .iconst 0, 1, (0, 0, 0), [], []),
  (34, .ireturn, 1, (1, 0, 0), [], []),
  (35, .aload_n 3, 1, (0, 0, 0), [], []),
  (36, .iconst 1, 1, (0, 0, 0), [], []),
  (37, .invokevirtual 185, 3, (0, 107, 6), [], [409, 68, 410, 411]),
  (40, .istore 4, 2, (0, 0, 0), [], []),
  (42, .aload_n 3, 1, (0, 0, 0), [], []),
  (43, .iconst 2, 1, (0, 0, 0), [], []),
  (44, .invokevirtual 185, 3, (0, 107, 6), [], [409, 68, 410, 411]),
  (47, .istore 5, 2, (0, 0, 0), [], []),
  (49, .aload_n 3, 1, (0, 0, 0), [], []),
  (50, .iconst 3, 1, (0, 0, 0), [], []),
  (51, .invokevirtual 185, 3, (0, 107, 6), [], [409, 68, 410, 411]),
  (54, .istore 6, 2, (0, 0, 0), [], []),
  (56, .iconst 0, 1, (0, 0, 0), [], []),
  (57, .istore 7, 2, (0, 0, 0), [], []),
  (59, .iload 7, 2, (0, 0, 0), [], []),
  (61, .bipush 50, 2, (0, 0, 0), [], []),
  (63, .if_icmp .ge 1640, 3, (1703, 0, 0), [], []),
  (66, .aload_n 0, 1, (0, 0, 0), [], []),
  (67, .iload 7, 2, (0, 0, 0), [], []),
  (69, .bipush 16, 2, (0, 0, 0), [], []),
  (71, .irem, 1, (0, 0, 0), [], []),
  (72, .invokestatic 96, 3, (2, 175, 0), [], [918, 54, 919]),
  (75, .iload 7, 2, (0, 0, 0), [], []),
  (77, .bipush 16, 2, (0, 0, 0), [], []),
  (79, .idiv, 1, (0, 0, 0), [], []),
  (80, .iconst 4, 1, (0, 0, 0), [], []),
  (81, .imul, 1, (0, 0, 0), [], []),
  (82, .ishr, 1, (0, 0, 0), [], []),
  (83, .bipush 47, 2, (0, 0, 0), [], []),
  (85, .iload 7, 2, (0, 0, 0), [], []),
  (87, .imul, 1, (0, 0, 0), [], []),
  (88, .iadd, 1, (0, 0, 0), [], []),
  (89, .istore 8, 2, (0, 0, 0), [], []),
  (91, .iload 8, 2, (0, 0, 0), [], []),
  (93, .iconst 3, 1, (0, 0, 0), [], []),
  (94, .invokestatic 102, 3, (2, 174, 0), [], [914, 54, 915]),
  (97, .ifCond .le 17, 3, (114, 0, 0), [], []),
  (100, .aload_n 3, 1, (0, 0, 0), [], []),
  (101, .aload_n 2, 1, (0, 0, 0), [], []),
  (102, .iload 8, 2, (0, 0, 0), [], []),
  (104, .iconst 3, 1, (0, 0, 0), [], [])]
def am_t180_1 : List am_E := [(105, .idiv, 1, (0, 0, 0), [], []),
  (106, .invokestatic 188, 3, (15, 179, 0), [], [1424, 54, 1425]),
  (109, .ifCond .ne 5, 3, (114, 0, 0), [], []),
  (112, .iconst 0, 1, (0, 0, 0), [], []),
  (113, .ireturn, 1, (1, 0, 0), [], []),
  (114, .aload_n 3, 1, (0, 0, 0), [], []),
  (115, .iconst 0, 1, (0, 0, 0), [], []),
  (116, .invokevirtual 185, 3, (0, 107, 6), [], [409, 68, 410, 411]),
  (119, .istore 9, 2, (0, 0, 0), [], []),
  (121, .aload_n 3, 1, (0, 0, 0), [], []),
  (122, .iconst 5, 1, (0, 0, 0), [], []),
  (123, .invokevirtual 185, 3, (0, 107, 6), [], [409, 68, 410, 411]),
  (126, .istore 10, 2, (0, 0, 0), [], []),
  (128, .aload_n 3, 1, (0, 0, 0), [], []),
  (129, .bipush 6, 2, (0, 0, 0), [], []),
  (131, .invokevirtual 185, 3, (0, 107, 6), [], [409, 68, 410, 411]),
  (134, .istore 11, 2, (0, 0, 0), [], []),
  (136, .iload 5, 2, (0, 0, 0), [], []),
  (138, .bipush 8, 2, (0, 0, 0), [], []),
  (140, .multianewarray 133 2, 4, (24, 20, 0), [], [1316, 863, 178]),
  (144, .astore 12, 2, (1, 0, 0), [], []),
  (146, .iconst 0, 1, (0, 0, 0), [], []),
  (147, .istore 13, 2, (0, 0, 0), [], []),
  (149, .iconst 0, 1, (0, 0, 0), [], []),
  (150, .istore 14, 2, (0, 0, 0), [], []),
  (152, .iconst 0, 1, (0, 0, 0), [], []),
  (153, .istore 15, 2, (0, 0, 0), [], []),
  (155, .iload 15, 2, (0, 0, 0), [], []),
  (157, .iload 5, 2, (0, 0, 0), [], []),
  (159, .if_icmp .ge 330, 3, (489, 0, 0), [], []),
  (162, .iconst 0, 1, (0, 0, 0), [], []),
  (163, .istore 16, 2, (0, 0, 0), [], []),
  (165, .iload 16, 2, (0, 0, 0), [], []),
  (167, .bipush 8, 2, (0, 0, 0), [], []),
  (169, .if_icmp .ge 25, 3, (194, 0, 0), [], []),
  (172, .aload 12, 2, (0, 0, 0), [], []),
  (174, .iload 15, 2, (0, 0, 0), [], []),
  (176, .aaload, 1, (24, 0, 0), [], []),
  (177, .iload 16, 2, (0, 0, 0), [], []),
  (179, .aload_n 3, 1, (0, 0, 0), [], []),
  (180, .iload 15, 2, (0, 0, 0), [], []),
  (182, .iload 16, 2, (0, 0, 0), [], []),
  (184, .invokevirtual 192, 3, (0, 110, 6), [], [518, 68, 519, 520]),
  (187, .iastore, 1, (0, 0, 0), [], []),
  (188, .iinc 16 1, 3, (0, 0, 0), [], []),
  (191, .goto (-26), 3, (165, 0, 0), [], []),
  (194, .aload 12, 2, (0, 0, 0), [], []),
  (196, .iload 15, 2, (0, 0, 0), [], []),
  (198, .aaload, 1, (24, 0, 0), [], []),
  (199, .astore 16, 2, (1, 0, 0), [], []),
  (201, .iconst 0, 1, (0, 0, 0), [], []),
  (202, .istore 17, 2, (0, 0, 0), [], []),
  (204, .iconst 0, 1, (0, 0, 0), [], []),
  (205, .istore 18, 2, (0, 0, 0), [], []),
  (207, .iconst 0, 1, (0, 0, 0), [], []),
  (208, .istore 19, 2, (0, 0, 0), [], []),
  (210, .iload 19, 2, (0, 0, 0), [], []),
  (212, .iload 6, 2, (0, 0, 0), [], []),
  (214, .if_icmp .ge 38, 3, (252, 0, 0), [], []),
  (217, .aload_n 3, 1, (0, 0, 0), [], [])]
def am_t180_2 : List am_E := [(218, .iload 19, 2, (0, 0, 0), [], []),
  (220, .iload 15, 2, (0, 0, 0), [], []),
  (222, .invokevirtual 195, 3, (0, 113, 6), [], [614, 68, 615, 616]),
  (225, .ifCond .ne 6, 3, (231, 0, 0), [], []),
  (228, .goto 18, 3, (246, 0, 0), [], []),
  (231, .iinc 17 1, 3, (0, 0, 0), [], []),
  (234, .iload 18, 2, (0, 0, 0), [], []),
  (236, .aload_n 3, 1, (0, 0, 0), [], []),
  (237, .iload 19, 2, (0, 0, 0), [], []),
  (239, .iconst 0, 1, (0, 0, 0), [], []),
  (240, .invokevirtual 198, 3, (0, 112, 6), [], [600, 68, 601, 602]),
  (243, .iadd, 1, (0, 0, 0), [], []),
  (244, .istore 18, 2, (0, 0, 0), [], []),
  (246, .iinc 19 1, 3, (0, 0, 0), [], []),
  (249, .goto (-39), 3, (210, 0, 0), [], []),
  (252, .iload 13, 2, (0, 0, 0), [], []),
  (254, .aload 16, 2, (0, 0, 0), [], []),
  (256, .iconst 4, 1, (0, 0, 0), [], []),
  (257, .iaload, 1, (0, 0, 0), [], []),
  (258, .ifCond .ge 7, 3, (265, 0, 0), [], []),
  (261, .iconst 0, 1, (0, 0, 0), [], []),
  (262, .goto 4, 3, (266, 0, 0), [], []),
  (265, .iconst 1, 1, (0, 0, 0), [], []),
  (266, .iadd, 1, (0, 0, 0), [], []),
  (267, .istore 13, 2, (0, 0, 0), [], []),
  (269, .iload 14, 2, (0, 0, 0), [], []),
  (271, .aload 16, 2, (0, 0, 0), [], []),
  (273, .iconst 5, 1, (0, 0, 0), [], []),
  (274, .iaload, 1, (0, 0, 0), [], []),
  (275, .iadd, 1, (0, 0, 0), [], []),
  (276, .istore 14, 2, (0, 0, 0), [], []),
  (278, .aload 16, 2, (0, 0, 0), [], []),
  (280, .iconst 0, 1, (0, 0, 0), [], []),
  (281, .iaload, 1, (0, 0, 0), [], []),
  (282, .iconst 1, 1, (0, 0, 0), [], []),
  (283, .if_icmp .lt 55, 3, (338, 0, 0), [], []),
  (286, .aload 16, 2, (0, 0, 0), [], []),
  (288, .iconst 0, 1, (0, 0, 0), [], []),
  (289, .iaload, 1, (0, 0, 0), [], []),
  (290, .sipush 9999, 3, (0, 0, 0), [], []),
  (293, .if_icmp .gt 45, 3, (338, 0, 0), [], []),
  (296, .aload 16, 2, (0, 0, 0), [], []),
  (298, .iconst 3, 1, (0, 0, 0), [], []),
  (299, .iaload, 1, (0, 0, 0), [], []),
  (300, .iload 17, 2, (0, 0, 0), [], []),
  (302, .if_icmp .ne 36, 3, (338, 0, 0), [], []),
  (305, .aload 16, 2, (0, 0, 0), [], []),
  (307, .bipush 7, 2, (0, 0, 0), [], []),
  (309, .iaload, 1, (0, 0, 0), [], []),
  (310, .iload 18, 2, (0, 0, 0), [], []),
  (312, .if_icmp .ne 26, 3, (338, 0, 0), [], []),
  (315, .aload 16, 2, (0, 0, 0), [], []),
  (317, .iconst 4, 1, (0, 0, 0), [], []),
  (318, .iaload, 1, (0, 0, 0), [], []),
  (319, .iload 9, 2, (0, 0, 0), [], []),
  (321, .if_icmp .ge 17, 3, (338, 0, 0), [], []),
  (324, .aload 16, 2, (0, 0, 0), [], []),
  (326, .iconst 4, 1, (0, 0, 0), [], []),
  (327, .iaload, 1, (0, 0, 0), [], []),
  (328, .ifCond .ge 12, 3, (340, 0, 0), [], [])]
def am_t180_3 : List am_E := [(331, .aload 16, 2, (0, 0, 0), [], []),
  (333, .iconst 5, 1, (0, 0, 0), [], []),
  (334, .iaload, 1, (0, 0, 0), [], []),
  (335, .ifCond .eq 5, 3, (340, 0, 0), [], []),
  (338, .iconst 0, 1, (0, 0, 0), [], []),
  (339, .ireturn, 1, (1, 0, 0), [], []),
  (340, .aload_n 3, 1, (0, 0, 0), [], []),
  (341, .iload 15, 2, (0, 0, 0), [], []),
  (343, .invokevirtual 201, 3, (0, 111, 6), [], [592, 68, 593, 594]),
  (346, .istore 19, 2, (0, 0, 0), [], []),
  (348, .iload 19, 2, (0, 0, 0), [], []),
  (350, .ifCond .ge 7, 3, (357, 0, 0), [], []),
  (353, .iconst 1, 1, (0, 0, 0), [], []),
  (354, .goto 4, 3, (358, 0, 0), [], []),
  (357, .iconst 0, 1, (0, 0, 0), [], []),
  (358, .iload 18, 2, (0, 0, 0), [], []),
  (360, .aload 16, 2, (0, 0, 0), [], []),
  (362, .iconst 0, 1, (0, 0, 0), [], []),
  (363, .iaload, 1, (0, 0, 0), [], []),
  (364, .if_icmp .ge 7, 3, (371, 0, 0), [], []),
  (367, .iconst 1, 1, (0, 0, 0), [], []),
  (368, .goto 4, 3, (372, 0, 0), [], []),
  (371, .iconst 0, 1, (0, 0, 0), [], []),
  (372, .if_icmp .eq 5, 3, (377, 0, 0), [], []),
  (375, .iconst 0, 1, (0, 0, 0), [], []),
  (376, .ireturn, 1, (1, 0, 0), [], []),
  (377, .iload 19, 2, (0, 0, 0), [], []),
  (379, .ifCond .ge 6, 3, (385, 0, 0), [], []),
  (382, .goto 101, 3, (483, 0, 0), [], []),
  (385, .iconst 0, 1, (0, 0, 0), [], []),
  (386, .istore 20, 2, (0, 0, 0), [], []),
  (388, .iconst 0, 1, (0, 0, 0), [], []),
  (389, .istore 21, 2, (0, 0, 0), [], []),
  (391, .iconst 0, 1, (0, 0, 0), [], []),
  (392, .istore 22, 2, (0, 0, 0), [], []),
  (394, .iload 22, 2, (0, 0, 0), [], []),
  (396, .iload 6, 2, (0, 0, 0), [], []),
  (398, .if_icmp .ge 59, 3, (457, 0, 0), [], []),
  (401, .aload_n 3, 1, (0, 0, 0), [], []),
  (402, .iload 22, 2, (0, 0, 0), [], []),
  (404, .iload 15, 2, (0, 0, 0), [], []),
  (406, .invokevirtual 195, 3, (0, 113, 6), [], [614, 68, 615, 616]),
  (409, .ifCond .ne 6, 3, (415, 0, 0), [], []),
  (412, .goto 39, 3, (451, 0, 0), [], []),
  (415, .iload 20, 2, (0, 0, 0), [], []),
  (417, .iload 19, 2, (0, 0, 0), [], []),
  (419, .aload_n 3, 1, (0, 0, 0), [], []),
  (420, .iload 22, 2, (0, 0, 0), [], []),
  (422, .iconst 0, 1, (0, 0, 0), [], []),
  (423, .invokevirtual 198, 3, (0, 112, 6), [], [600, 68, 601, 602]),
  (426, .invokestatic 160, 3, (7, 0, 0), [], [1432, 580, 61, 581]),
  (429, .iadd, 1, (0, 0, 0), [], []),
  (430, .istore 20, 2, (0, 0, 0), [], []),
  (432, .iload 21, 2, (0, 0, 0), [], []),
  (434, .iload 19, 2, (0, 0, 0), [], []),
  (436, .iconst 1, 1, (0, 0, 0), [], []),
  (437, .isub, 1, (0, 0, 0), [], []),
  (438, .aload_n 3, 1, (0, 0, 0), [], []),
  (439, .iload 22, 2, (0, 0, 0), [], []),
  (441, .iconst 0, 1, (0, 0, 0), [], [])]
def am_t180_4 : List am_E := [(442, .invokevirtual 198, 3, (0, 112, 6), [], [600, 68, 601, 602]),
  (445, .invokestatic 160, 3, (7, 0, 0), [], [1432, 580, 61, 581]),
  (448, .iadd, 1, (0, 0, 0), [], []),
  (449, .istore 21, 2, (0, 0, 0), [], []),
  (451, .iinc 22 1, 3, (0, 0, 0), [], []),
  (454, .goto (-60), 3, (394, 0, 0), [], []),
  (457, .iload 20, 2, (0, 0, 0), [], []),
  (459, .aload 16, 2, (0, 0, 0), [], []),
  (461, .iconst 0, 1, (0, 0, 0), [], []),
  (462, .iaload, 1, (0, 0, 0), [], []),
  (463, .if_icmp .lt 18, 3, (481, 0, 0), [], []),
  (466, .iload 21, 2, (0, 0, 0), [], []),
  (468, .aload 16, 2, (0, 0, 0), [], []),
  (470, .iconst 0, 1, (0, 0, 0), [], []),
  (471, .iaload, 1, (0, 0, 0), [], []),
  (472, .if_icmp .ge 9, 3, (481, 0, 0), [], []),
  (475, .iload 19, 2, (0, 0, 0), [], []),
  (477, .iconst 1, 1, (0, 0, 0), [], []),
  (478, .if_icmp .ge 5, 3, (483, 0, 0), [], []),
  (481, .iconst 0, 1, (0, 0, 0), [], []),
  (482, .ireturn, 1, (1, 0, 0), [], []),
  (483, .iinc 15 1, 3, (0, 0, 0), [], []),
  (486, .goto (-331), 3, (155, 0, 0), [], []),
  (489, .iconst 0, 1, (0, 0, 0), [], []),
  (490, .istore 15, 2, (0, 0, 0), [], []),
  (492, .iconst 0, 1, (0, 0, 0), [], []),
  (493, .istore 16, 2, (0, 0, 0), [], []),
  (495, .iload 6, 2, (0, 0, 0), [], []),
  (497, .iconst 4, 1, (0, 0, 0), [], []),
  (498, .multianewarray 133 2, 4, (24, 20, 0), [], [1316, 863, 178]),
  (502, .astore 17, 2, (1, 0, 0), [], []),
  (504, .iconst 0, 1, (0, 0, 0), [], []),
  (505, .istore 18, 2, (0, 0, 0), [], []),
  (507, .iload 18, 2, (0, 0, 0), [], []),
  (509, .iload 6, 2, (0, 0, 0), [], []),
  (511, .if_icmp .ge 210, 3, (721, 0, 0), [], []),
  (514, .iconst 0, 1, (0, 0, 0), [], []),
  (515, .istore 19, 2, (0, 0, 0), [], []),
  (517, .iconst 0, 1, (0, 0, 0), [], []),
  (518, .istore 20, 2, (0, 0, 0), [], []),
  (520, .iconst 0, 1, (0, 0, 0), [], []),
  (521, .istore 21, 2, (0, 0, 0), [], []),
  (523, .iload 21, 2, (0, 0, 0), [], []),
  (525, .iconst 4, 1, (0, 0, 0), [], []),
  (526, .if_icmp .ge 25, 3, (551, 0, 0), [], []),
  (529, .aload 17, 2, (0, 0, 0), [], []),
  (531, .iload 18, 2, (0, 0, 0), [], []),
  (533, .aaload, 1, (24, 0, 0), [], []),
  (534, .iload 21, 2, (0, 0, 0), [], []),
  (536, .aload_n 3, 1, (0, 0, 0), [], []),
  (537, .iload 18, 2, (0, 0, 0), [], []),
  (539, .iload 21, 2, (0, 0, 0), [], []),
  (541, .invokevirtual 198, 3, (0, 112, 6), [], [600, 68, 601, 602]),
  (544, .iastore, 1, (0, 0, 0), [], []),
  (545, .iinc 21 1, 3, (0, 0, 0), [], []),
  (548, .goto (-25), 3, (523, 0, 0), [], []),
  (551, .iconst 0, 1, (0, 0, 0), [], []),
  (552, .istore 21, 2, (0, 0, 0), [], []),
  (554, .iload 21, 2, (0, 0, 0), [], []),
  (556, .iload 5, 2, (0, 0, 0), [], [])]
def am_t180_5 : List am_E := [(558, .if_icmp .ge 61, 3, (619, 0, 0), [], []),
  (561, .iload 20, 2, (0, 0, 0), [], []),
  (563, .aload_n 3, 1, (0, 0, 0), [], []),
  (564, .iload 18, 2, (0, 0, 0), [], []),
  (566, .iload 21, 2, (0, 0, 0), [], []),
  (568, .invokevirtual 195, 3, (0, 113, 6), [], [614, 68, 615, 616]),
  (571, .ifCond .eq 7, 3, (578, 0, 0), [], []),
  (574, .iconst 1, 1, (0, 0, 0), [], []),
  (575, .goto 4, 3, (579, 0, 0), [], []),
  (578, .iconst 0, 1, (0, 0, 0), [], []),
  (579, .iadd, 1, (0, 0, 0), [], []),
  (580, .istore 20, 2, (0, 0, 0), [], []),
  (582, .iload 19, 2, (0, 0, 0), [], []),
  (584, .aload_n 3, 1, (0, 0, 0), [], []),
  (585, .iload 18, 2, (0, 0, 0), [], []),
  (587, .iload 21, 2, (0, 0, 0), [], []),
  (589, .invokevirtual 195, 3, (0, 113, 6), [], [614, 68, 615, 616]),
  (592, .ifCond .eq 17, 3, (609, 0, 0), [], []),
  (595, .aload 12, 2, (0, 0, 0), [], []),
  (597, .iload 21, 2, (0, 0, 0), [], []),
  (599, .aaload, 1, (24, 0, 0), [], []),
  (600, .iconst 4, 1, (0, 0, 0), [], []),
  (601, .iaload, 1, (0, 0, 0), [], []),
  (602, .ifCond .lt 7, 3, (609, 0, 0), [], []),
  (605, .iconst 1, 1, (0, 0, 0), [], []),
  (606, .goto 4, 3, (610, 0, 0), [], []),
  (609, .iconst 0, 1, (0, 0, 0), [], []),
  (610, .iadd, 1, (0, 0, 0), [], []),
  (611, .istore 19, 2, (0, 0, 0), [], []),
  (613, .iinc 21 1, 3, (0, 0, 0), [], []),
  (616, .goto (-62), 3, (554, 0, 0), [], []),
  (619, .iload 15, 2, (0, 0, 0), [], []),
  (621, .aload 17, 2, (0, 0, 0), [], []),
  (623, .iload 18, 2, (0, 0, 0), [], []),
  (625, .aaload, 1, (24, 0, 0), [], []),
  (626, .iconst 0, 1, (0, 0, 0), [], []),
  (627, .iaload, 1, (0, 0, 0), [], []),
  (628, .iadd, 1, (0, 0, 0), [], []),
  (629, .istore 15, 2, (0, 0, 0), [], []),
  (631, .iload 16, 2, (0, 0, 0), [], []),
  (633, .iload 19, 2, (0, 0, 0), [], []),
  (635, .iadd, 1, (0, 0, 0), [], []),
  (636, .istore 16, 2, (0, 0, 0), [], []),
  (638, .aload 17, 2, (0, 0, 0), [], []),
  (640, .iload 18, 2, (0, 0, 0), [], []),
  (642, .aaload, 1, (24, 0, 0), [], []),
  (643, .iconst 0, 1, (0, 0, 0), [], []),
  (644, .iaload, 1, (0, 0, 0), [], []),
  (645, .ifCond .lt 68, 3, (713, 0, 0), [], []),
  (648, .aload 17, 2, (0, 0, 0), [], []),
  (650, .iload 18, 2, (0, 0, 0), [], []),
  (652, .aaload, 1, (24, 0, 0), [], []),
  (653, .iconst 0, 1, (0, 0, 0), [], []),
  (654, .iaload, 1, (0, 0, 0), [], []),
  (655, .sipush 9999, 3, (0, 0, 0), [], []),
  (658, .if_icmp .gt 55, 3, (713, 0, 0), [], []),
  (661, .aload 17, 2, (0, 0, 0), [], []),
  (663, .iload 18, 2, (0, 0, 0), [], []),
  (665, .aaload, 1, (24, 0, 0), [], []),
  (666, .iconst 1, 1, (0, 0, 0), [], [])]
def am_t180_6 : List am_E := [(667, .iaload, 1, (0, 0, 0), [], []),
  (668, .iload 20, 2, (0, 0, 0), [], []),
  (670, .if_icmp .ne 43, 3, (713, 0, 0), [], []),
  (673, .aload 17, 2, (0, 0, 0), [], []),
  (675, .iload 18, 2, (0, 0, 0), [], []),
  (677, .aaload, 1, (24, 0, 0), [], []),
  (678, .iconst 2, 1, (0, 0, 0), [], []),
  (679, .iaload, 1, (0, 0, 0), [], []),
  (680, .iload 19, 2, (0, 0, 0), [], []),
  (682, .if_icmp .ne 31, 3, (713, 0, 0), [], []),
  (685, .aload 17, 2, (0, 0, 0), [], []),
  (687, .iload 18, 2, (0, 0, 0), [], []),
  (689, .aaload, 1, (24, 0, 0), [], []),
  (690, .iconst 3, 1, (0, 0, 0), [], []),
  (691, .iaload, 1, (0, 0, 0), [], []),
  (692, .ifCond .lt 21, 3, (713, 0, 0), [], []),
  (695, .aload_n 3, 1, (0, 0, 0), [], []),
  (696, .iload 18, 2, (0, 0, 0), [], []),
  (698, .iconst 0, 1, (0, 0, 0), [], []),
  (699, .invokevirtual 204, 3, (0, 114, 6), [], [620, 68, 621, 622]),
  (702, .aload_n 3, 1, (0, 0, 0), [], []),
  (703, .iconst 0, 1, (0, 0, 0), [], []),
  (704, .iload 18, 2, (0, 0, 0), [], []),
  (706, .invokevirtual 204, 3, (0, 114, 6), [], [620, 68, 621, 622]),
  (709, .ineg, 1, (0, 0, 0), [], []),
  (710, .if_icmp .eq 5, 3, (715, 0, 0), [], []),
  (713, .iconst 0, 1, (0, 0, 0), [], []),
  (714, .ireturn, 1, (1, 0, 0), [], []),
  (715, .iinc 18 1, 3, (0, 0, 0), [], []),
  (718, .goto (-211), 3, (507, 0, 0), [], []),
  (721, .aload_n 3, 1, (0, 0, 0), [], []),
  (722, .bipush 7, 2, (0, 0, 0), [], []),
  (724, .invokevirtual 185, 3, (0, 107, 6), [], [409, 68, 410, 411]),
  (727, .iload 15, 2, (0, 0, 0), [], []),
  (729, .if_icmp .ne 60, 3, (789, 0, 0), [], []),
  (732, .aload_n 3, 1, (0, 0, 0), [], []),
  (733, .bipush 8, 2, (0, 0, 0), [], []),
  (735, .invokevirtual 185, 3, (0, 107, 6), [], [409, 68, 410, 411]),
  (738, .iload 13, 2, (0, 0, 0), [], []),
  (740, .if_icmp .ne 49, 3, (789, 0, 0), [], []),
  (743, .aload_n 3, 1, (0, 0, 0), [], []),
  (744, .bipush 9, 2, (0, 0, 0), [], []),
  (746, .invokevirtual 185, 3, (0, 107, 6), [], [409, 68, 410, 411]),
  (749, .iload 14, 2, (0, 0, 0), [], []),
  (751, .if_icmp .ne 38, 3, (789, 0, 0), [], []),
  (754, .iload 11, 2, (0, 0, 0), [], []),
  (756, .ifCond .lt 33, 3, (789, 0, 0), [], []),
  (759, .iload 11, 2, (0, 0, 0), [], []),
  (761, .sipush 9999, 3, (0, 0, 0), [], []),
  (764, .if_icmp .gt 25, 3, (789, 0, 0), [], []),
  (767, .aload_n 3, 1, (0, 0, 0), [], []),
  (768, .invokevirtual 207, 3, (0, 125, 6), [], [728, 68, 729, 730]),
  (771, .iload 6, 2, (0, 0, 0), [], []),
  (773, .i2d, 1, (0, 0, 0), [], []),
  (774, .dmul, 1, (0, 0, 0), [], []),
  (775, .iload 16, 2, (0, 0, 0), [], []),
  (777, .i2d, 1, (0, 0, 0), [], []),
  (778, .dsub, 1, (0, 0, 0), [], []),
  (779, .invokestatic 211, 3, (2, 152, 0), [], [1453, 61, 1454]),
  (782, .ldc2_w 215, 3, (0, 0, 0), [(4562254508917369340, 3)], [1463])]
def am_t180_7 : List am_E := [(785, .dcmp .l, 1, (0, 0, 0), [], []),
  (786, .ifCond .le 5, 3, (791, 0, 0), [], []),
  (789, .iconst 0, 1, (0, 0, 0), [], []),
  (790, .ireturn, 1, (1, 0, 0), [], []),
  (791, .aload_n 3, 1, (0, 0, 0), [], []),
  (792, .bipush 10, 2, (0, 0, 0), [], []),
  (794, .invokevirtual 185, 3, (0, 107, 6), [], [409, 68, 410, 411]),
  (797, .istore 18, 2, (0, 0, 0), [], []),
  (799, .aload_n 3, 1, (0, 0, 0), [], []),
  (800, .invokevirtual 217, 3, (0, 115, 6), [], [625, 68, 626, 627]),
  (803, .istore 19, 2, (0, 0, 0), [], []),
  (805, .aload_n 3, 1, (0, 0, 0), [], []),
  (806, .invokevirtual 220, 3, (0, 126, 6), [], [732, 68, 733, 734]),
  (809, .lstore 20, 2, (0, 0, 0), [], []),
  (811, .bipush 11, 2, (0, 0, 0), [], []),
  (813, .newarray .int, 2, (20, 0, 0), [], [178]),
  (815, .astore 22, 2, (1, 0, 0), [], []),
  (817, .bipush 6, 2, (0, 0, 0), [], []),
  (819, .istore 23, 2, (0, 0, 0), [], []),
  (821, .iload 23, 2, (0, 0, 0), [], []),
  (823, .bipush 11, 2, (0, 0, 0), [], []),
  (825, .if_icmp .ge 21, 3, (846, 0, 0), [], []),
  (828, .aload 22, 2, (0, 0, 0), [], []),
  (830, .iload 23, 2, (0, 0, 0), [], []),
  (832, .aload_n 3, 1, (0, 0, 0), [], []),
  (833, .iconst 1, 1, (0, 0, 0), [], []),
  (834, .iload 23, 2, (0, 0, 0), [], []),
  (836, .invokevirtual 224, 3, (0, 122, 6), [], [710, 68, 711, 712]),
  (839, .iastore, 1, (0, 0, 0), [], []),
  (840, .iinc 23 1, 3, (0, 0, 0), [], []),
  (843, .goto (-22), 3, (821, 0, 0), [], []),
  (846, .iload 8, 2, (0, 0, 0), [], []),
  (848, .iconst 3, 1, (0, 0, 0), [], []),
  (849, .ishr, 1, (0, 0, 0), [], []),
  (850, .iload 5, 2, (0, 0, 0), [], []),
  (852, .invokestatic 102, 3, (2, 174, 0), [], [914, 54, 915]),
  (855, .istore 23, 2, (0, 0, 0), [], []),
  (857, .aload_n 3, 1, (0, 0, 0), [], []),
  (858, .iload 23, 2, (0, 0, 0), [], []),
  (860, .invokevirtual 227, 3, (0, 121, 6), [], [705, 68, 706, 707]),
  (863, .istore 24, 2, (0, 0, 0), [], []),
  (865, .iload 7, 2, (0, 0, 0), [], []),
  (867, .bipush 10, 2, (0, 0, 0), [], []),
  (869, .irem, 1, (0, 0, 0), [], []),
  (870, .ifCond .ne 21, 3, (891, 0, 0), [], []),
  (873, .aload_n 3, 1, (0, 0, 0), [], []),
  (874, .iconst 1, 1, (0, 0, 0), [], []),
  (875, .iload 8, 2, (0, 0, 0), [], []),
  (877, .iconst 4, 1, (0, 0, 0), [], []),
  (878, .ishr, 1, (0, 0, 0), [], []),
  (879, .bipush 9, 2, (0, 0, 0), [], []),
  (881, .invokestatic 102, 3, (2, 174, 0), [], [914, 54, 915]),
  (884, .iadd, 1, (0, 0, 0), [], []),
  (885, .invokevirtual 230, 3, (0, 124, 6), [], [724, 68, 725, 726]),
  (888, .goto 4, 3, (892, 0, 0), [], []),
  (891, .iconst (-1), 1, (0, 0, 0), [], []),
  (892, .istore 25, 2, (0, 0, 0), [], []),
  (894, .iload 7, 2, (0, 0, 0), [], []),
  (896, .bipush 10, 2, (0, 0, 0), [], []),
  (898, .irem, 1, (0, 0, 0), [], [])]
def am_t180_8 : List am_E := [(899, .iconst 5, 1, (0, 0, 0), [], []),
  (900, .if_icmp .ne 31, 3, (931, 0, 0), [], []),
  (903, .aload_n 3, 1, (0, 0, 0), [], []),
  (904, .iload 8, 2, (0, 0, 0), [], []),
  (906, .iconst 4, 1, (0, 0, 0), [], []),
  (907, .ishr, 1, (0, 0, 0), [], []),
  (908, .iload 6, 2, (0, 0, 0), [], []),
  (910, .invokestatic 102, 3, (2, 174, 0), [], [914, 54, 915]),
  (913, .iconst 1, 1, (0, 0, 0), [], []),
  (914, .iload 8, 2, (0, 0, 0), [], []),
  (916, .bipush 6, 2, (0, 0, 0), [], []),
  (918, .ishr, 1, (0, 0, 0), [], []),
  (919, .bipush 9, 2, (0, 0, 0), [], []),
  (921, .invokestatic 102, 3, (2, 174, 0), [], [914, 54, 915]),
  (924, .iadd, 1, (0, 0, 0), [], []),
  (925, .invokevirtual 233, 3, (0, 123, 6), [], [715, 68, 716, 717]),
  (928, .goto 4, 3, (932, 0, 0), [], []),
  (931, .iconst (-1), 1, (0, 0, 0), [], []),
  (932, .istore 26, 2, (0, 0, 0), [], []),
  (934, .aload_n 3, 1, (0, 0, 0), [], []),
  (935, .invokevirtual 220, 3, (0, 126, 6), [], [732, 68, 733, 734]),
  (938, .lload 20, 2, (0, 0, 0), [], []),
  (940, .lcmp, 1, (0, 0, 0), [], []),
  (941, .ifCond .ne 61, 3, (1002, 0, 0), [], []),
  (944, .iload 25, 2, (0, 0, 0), [], []),
  (946, .ifCond .lt 13, 3, (959, 0, 0), [], []),
  (949, .aload 12, 2, (0, 0, 0), [], []),
  (951, .iload 25, 2, (0, 0, 0), [], []),
  (953, .aaload, 1, (24, 0, 0), [], []),
  (954, .iconst 4, 1, (0, 0, 0), [], []),
  (955, .iaload, 1, (0, 0, 0), [], []),
  (956, .ifCond .ge 46, 3, (1002, 0, 0), [], []),
  (959, .iload 26, 2, (0, 0, 0), [], []),
  (961, .ifCond .lt 13, 3, (974, 0, 0), [], []),
  (964, .aload 12, 2, (0, 0, 0), [], []),
  (966, .iload 26, 2, (0, 0, 0), [], []),
  (968, .aaload, 1, (24, 0, 0), [], []),
  (969, .iconst 4, 1, (0, 0, 0), [], []),
  (970, .iaload, 1, (0, 0, 0), [], []),
  (971, .ifCond .ge 31, 3, (1002, 0, 0), [], []),
  (974, .iload 24, 2, (0, 0, 0), [], []),
  (976, .ifCond .ne 7, 3, (983, 0, 0), [], []),
  (979, .iconst 1, 1, (0, 0, 0), [], []),
  (980, .goto 4, 3, (984, 0, 0), [], []),
  (983, .iconst 0, 1, (0, 0, 0), [], []),
  (984, .aload 12, 2, (0, 0, 0), [], []),
  (986, .iload 23, 2, (0, 0, 0), [], []),
  (988, .aaload, 1, (24, 0, 0), [], []),
  (989, .iconst 4, 1, (0, 0, 0), [], []),
  (990, .iaload, 1, (0, 0, 0), [], []),
  (991, .ifCond .lt 7, 3, (998, 0, 0), [], []),
  (994, .iconst 1, 1, (0, 0, 0), [], []),
  (995, .goto 4, 3, (999, 0, 0), [], []),
  (998, .iconst 0, 1, (0, 0, 0), [], []),
  (999, .if_icmp .eq 5, 3, (1004, 0, 0), [], []),
  (1002, .iconst 0, 1, (0, 0, 0), [], []),
  (1003, .ireturn, 1, (1, 0, 0), [], []),
  (1004, .aload_n 3, 1, (0, 0, 0), [], []),
  (1005, .iconst 1, 1, (0, 0, 0), [], []),
  (1006, .invokevirtual 236, 3, (0, 120, 6), [], [650, 68, 651, 652])]
def am_t180_9 : List am_E := [(1009, .istore 27, 2, (0, 0, 0), [], []),
  (1011, .aload_n 2, 1, (0, 0, 0), [], []),
  (1012, .invokevirtual 239, 3, (0, 168, 7), [], [739, 59, 740, 741]),
  (1015, .iload 27, 2, (0, 0, 0), [], []),
  (1017, .if_icmp .ne 25, 3, (1042, 0, 0), [], []),
  (1020, .aload_n 3, 1, (0, 0, 0), [], []),
  (1021, .iconst 0, 1, (0, 0, 0), [], []),
  (1022, .invokevirtual 185, 3, (0, 107, 6), [], [409, 68, 410, 411]),
  (1025, .iload 9, 2, (0, 0, 0), [], []),
  (1027, .iconst 1, 1, (0, 0, 0), [], []),
  (1028, .iadd, 1, (0, 0, 0), [], []),
  (1029, .if_icmp .ne 13, 3, (1042, 0, 0), [], []),
  (1032, .aload_n 3, 1, (0, 0, 0), [], []),
  (1033, .iconst 5, 1, (0, 0, 0), [], []),
  (1034, .invokevirtual 185, 3, (0, 107, 6), [], [409, 68, 410, 411]),
  (1037, .iload 10, 2, (0, 0, 0), [], []),
  (1039, .if_icmp .eq 5, 3, (1044, 0, 0), [], []),
  (1042, .iconst 0, 1, (0, 0, 0), [], []),
  (1043, .ireturn, 1, (1, 0, 0), [], []),
  (1044, .bipush 6, 2, (0, 0, 0), [], []),
  (1046, .istore 28, 2, (0, 0, 0), [], []),
  (1048, .iload 28, 2, (0, 0, 0), [], []),
  (1050, .bipush 11, 2, (0, 0, 0), [], []),
  (1052, .if_icmp .ge 25, 3, (1077, 0, 0), [], []),
  (1055, .aload_n 3, 1, (0, 0, 0), [], []),
  (1056, .iload 28, 2, (0, 0, 0), [], []),
  (1058, .invokevirtual 185, 3, (0, 107, 6), [], [409, 68, 410, 411]),
  (1061, .aload 22, 2, (0, 0, 0), [], []),
  (1063, .iload 28, 2, (0, 0, 0), [], []),
  (1065, .iaload, 1, (0, 0, 0), [], []),
  (1066, .if_icmp .eq 5, 3, (1071, 0, 0), [], []),
  (1069, .iconst 0, 1, (0, 0, 0), [], []),
  (1070, .ireturn, 1, (1, 0, 0), [], []),
  (1071, .iinc 28 1, 3, (0, 0, 0), [], []),
  (1074, .goto (-26), 3, (1048, 0, 0), [], []),
  (1077, .iload 24, 2, (0, 0, 0), [], []),
  (1079, .ifCond .le 18, 3, (1097, 0, 0), [], []),
  (1082, .aload_n 3, 1, (0, 0, 0), [], []),
  (1083, .iload 23, 2, (0, 0, 0), [], []),
  (1085, .invokevirtual 227, 3, (0, 121, 6), [], [705, 68, 706, 707]),
  (1088, .iload 24, 2, (0, 0, 0), [], []),
  (1090, .iconst 1, 1, (0, 0, 0), [], []),
  (1091, .isub, 1, (0, 0, 0), [], []),
  (1092, .if_icmp .eq 5, 3, (1097, 0, 0), [], []),
  (1095, .iconst 0, 1, (0, 0, 0), [], []),
  (1096, .ireturn, 1, (1, 0, 0), [], []),
  (1097, .iload 4, 2, (0, 0, 0), [], []),
  (1099, .newarray .int, 2, (20, 0, 0), [], [178]),
  (1101, .astore 28, 2, (1, 0, 0), [], []),
  (1103, .iconst 0, 1, (0, 0, 0), [], []),
  (1104, .istore 29, 2, (0, 0, 0), [], []),
  (1106, .iconst 0, 1, (0, 0, 0), [], []),
  (1107, .istore 30, 2, (0, 0, 0), [], []),
  (1109, .iconst 0, 1, (0, 0, 0), [], []),
  (1110, .istore 31, 2, (0, 0, 0), [], []),
  (1112, .iconst 0, 1, (0, 0, 0), [], []),
  (1113, .istore 32, 2, (0, 0, 0), [], []),
  (1115, .iload 32, 2, (0, 0, 0), [], []),
  (1117, .iload 5, 2, (0, 0, 0), [], []),
  (1119, .if_icmp .ge 184, 3, (1303, 0, 0), [], [])]
def am_t180_10 : List am_E := [(1122, .aload 12, 2, (0, 0, 0), [], []),
  (1124, .iload 32, 2, (0, 0, 0), [], []),
  (1126, .aaload, 1, (24, 0, 0), [], []),
  (1127, .astore 33, 2, (1, 0, 0), [], []),
  (1129, .aload_n 3, 1, (0, 0, 0), [], []),
  (1130, .iload 32, 2, (0, 0, 0), [], []),
  (1132, .iconst 4, 1, (0, 0, 0), [], []),
  (1133, .invokevirtual 192, 3, (0, 110, 6), [], [518, 68, 519, 520]),
  (1136, .istore 34, 2, (0, 0, 0), [], []),
  (1138, .aload 33, 2, (0, 0, 0), [], []),
  (1140, .iconst 4, 1, (0, 0, 0), [], []),
  (1141, .iaload, 1, (0, 0, 0), [], []),
  (1142, .ifCond .lt 28, 3, (1170, 0, 0), [], []),
  (1145, .iload 34, 2, (0, 0, 0), [], []),
  (1147, .aload 33, 2, (0, 0, 0), [], []),
  (1149, .iconst 4, 1, (0, 0, 0), [], []),
  (1150, .iaload, 1, (0, 0, 0), [], []),
  (1151, .if_icmp .ne 17, 3, (1168, 0, 0), [], []),
  (1154, .aload_n 3, 1, (0, 0, 0), [], []),
  (1155, .iload 32, 2, (0, 0, 0), [], []),
  (1157, .iconst 0, 1, (0, 0, 0), [], []),
  (1158, .invokevirtual 192, 3, (0, 110, 6), [], [518, 68, 519, 520]),
  (1161, .aload 33, 2, (0, 0, 0), [], []),
  (1163, .iconst 0, 1, (0, 0, 0), [], []),
  (1164, .iaload, 1, (0, 0, 0), [], []),
  (1165, .if_icmp .eq 132, 3, (1297, 0, 0), [], []),
  (1168, .iconst 0, 1, (0, 0, 0), [], []),
  (1169, .ireturn, 1, (1, 0, 0), [], []),
  (1170, .iload 34, 2, (0, 0, 0), [], []),
  (1172, .ifCond .ge 38, 3, (1210, 0, 0), [], []),
  (1175, .aload_n 3, 1, (0, 0, 0), [], []),
  (1176, .iload 32, 2, (0, 0, 0), [], []),
  (1178, .iconst 0, 1, (0, 0, 0), [], []),
  (1179, .invokevirtual 192, 3, (0, 110, 6), [], [518, 68, 519, 520]),
  (1182, .sipush 9999, 3, (0, 0, 0), [], []),
  (1185, .aload 33, 2, (0, 0, 0), [], []),
  (1187, .iconst 0, 1, (0, 0, 0), [], []),
  (1188, .iaload, 1, (0, 0, 0), [], []),
  (1189, .aload 33, 2, (0, 0, 0), [], []),
  (1191, .iconst 0, 1, (0, 0, 0), [], []),
  (1192, .iaload, 1, (0, 0, 0), [], []),
  (1193, .aload 33, 2, (0, 0, 0), [], []),
  (1195, .iconst 2, 1, (0, 0, 0), [], []),
  (1196, .iaload, 1, (0, 0, 0), [], []),
  (1197, .imul, 1, (0, 0, 0), [], []),
  (1198, .bipush 100, 2, (0, 0, 0), [], []),
  (1200, .idiv, 1, (0, 0, 0), [], []),
  (1201, .iadd, 1, (0, 0, 0), [], []),
  (1202, .invokestatic 160, 3, (7, 0, 0), [], [1432, 580, 61, 581]),
  (1205, .if_icmp .eq 92, 3, (1297, 0, 0), [], []),
  (1208, .iconst 0, 1, (0, 0, 0), [], []),
  (1209, .ireturn, 1, (1, 0, 0), [], []),
  (1210, .iload 34, 2, (0, 0, 0), [], []),
  (1212, .iload 9, 2, (0, 0, 0), [], []),
  (1214, .if_icmp .ne 35, 3, (1249, 0, 0), [], []),
  (1217, .aload_n 3, 1, (0, 0, 0), [], []),
  (1218, .iload 32, 2, (0, 0, 0), [], []),
  (1220, .iconst 0, 1, (0, 0, 0), [], []),
  (1221, .invokevirtual 192, 3, (0, 110, 6), [], [518, 68, 519, 520]),
  (1224, .aload 33, 2, (0, 0, 0), [], [])]
def am_t180_11 : List am_E := [(1226, .iconst 0, 1, (0, 0, 0), [], []),
  (1227, .iaload, 1, (0, 0, 0), [], []),
  (1228, .if_icmp .ne 21, 3, (1249, 0, 0), [], []),
  (1231, .aload_n 3, 1, (0, 0, 0), [], []),
  (1232, .iload 32, 2, (0, 0, 0), [], []),
  (1234, .iconst 5, 1, (0, 0, 0), [], []),
  (1235, .invokevirtual 192, 3, (0, 110, 6), [], [518, 68, 519, 520]),
  (1238, .iconst 1, 1, (0, 0, 0), [], []),
  (1239, .if_icmp .ne 12, 3, (1251, 0, 0), [], []),
  (1242, .aload 33, 2, (0, 0, 0), [], []),
  (1244, .iconst 3, 1, (0, 0, 0), [], []),
  (1245, .iaload, 1, (0, 0, 0), [], []),
  (1246, .ifCond .ne 5, 3, (1251, 0, 0), [], []),
  (1249, .iconst 0, 1, (0, 0, 0), [], []),
  (1250, .ireturn, 1, (1, 0, 0), [], []),
  (1251, .aload 28, 2, (0, 0, 0), [], []),
  (1253, .aload 33, 2, (0, 0, 0), [], []),
  (1255, .iconst 1, 1, (0, 0, 0), [], []),
  (1256, .iaload, 1, (0, 0, 0), [], []),
  (1257, .dup2, 1, (0, 0, 0), [], []),
  (1258, .iaload, 1, (0, 0, 0), [], []),
  (1259, .iconst 1, 1, (0, 0, 0), [], []),
  (1260, .iadd, 1, (0, 0, 0), [], []),
  (1261, .iastore, 1, (0, 0, 0), [], []),
  (1262, .iload 29, 2, (0, 0, 0), [], []),
  (1264, .aload 33, 2, (0, 0, 0), [], []),
  (1266, .iconst 0, 1, (0, 0, 0), [], []),
  (1267, .iaload, 1, (0, 0, 0), [], []),
  (1268, .iadd, 1, (0, 0, 0), [], []),
  (1269, .istore 29, 2, (0, 0, 0), [], []),
  (1271, .iload 30, 2, (0, 0, 0), [], []),
  (1273, .aload_n 3, 1, (0, 0, 0), [], []),
  (1274, .iload 32, 2, (0, 0, 0), [], []),
  (1276, .iconst 5, 1, (0, 0, 0), [], []),
  (1277, .invokevirtual 192, 3, (0, 110, 6), [], [518, 68, 519, 520]),
  (1280, .ifCond .ne 10, 3, (1290, 0, 0), [], []),
  (1283, .aload 33, 2, (0, 0, 0), [], []),
  (1285, .iconst 0, 1, (0, 0, 0), [], []),
  (1286, .iaload, 1, (0, 0, 0), [], []),
  (1287, .goto 4, 3, (1291, 0, 0), [], []),
  (1290, .iconst 0, 1, (0, 0, 0), [], []),
  (1291, .iadd, 1, (0, 0, 0), [], []),
  (1292, .istore 30, 2, (0, 0, 0), [], []),
  (1294, .iinc 31 1, 3, (0, 0, 0), [], []),
  (1297, .iinc 32 1, 3, (0, 0, 0), [], []),
  (1300, .goto (-185), 3, (1115, 0, 0), [], []),
  (1303, .iload 31, 2, (0, 0, 0), [], []),
  (1305, .iload 27, 2, (0, 0, 0), [], []),
  (1307, .if_icmp .ne 50, 3, (1357, 0, 0), [], []),
  (1310, .aload_n 3, 1, (0, 0, 0), [], []),
  (1311, .bipush 10, 2, (0, 0, 0), [], []),
  (1313, .invokevirtual 185, 3, (0, 107, 6), [], [409, 68, 410, 411]),
  (1316, .iload 18, 2, (0, 0, 0), [], []),
  (1318, .iload 29, 2, (0, 0, 0), [], []),
  (1320, .iadd, 1, (0, 0, 0), [], []),
  (1321, .if_icmp .ne 36, 3, (1357, 0, 0), [], []),
  (1324, .iload 19, 2, (0, 0, 0), [], []),
  (1326, .ifCond .lt 15, 3, (1341, 0, 0), [], []),
  (1329, .aload_n 3, 1, (0, 0, 0), [], []),
  (1330, .iload 19, 2, (0, 0, 0), [], [])]
def am_t180_12 : List am_E := [(1332, .iconst 4, 1, (0, 0, 0), [], []),
  (1333, .invokevirtual 192, 3, (0, 110, 6), [], [518, 68, 519, 520]),
  (1336, .iload 9, 2, (0, 0, 0), [], []),
  (1338, .if_icmp .ne 19, 3, (1357, 0, 0), [], []),
  (1341, .iload 19, 2, (0, 0, 0), [], []),
  (1343, .ifCond .ge 16, 3, (1359, 0, 0), [], []),
  (1346, .aload_n 3, 1, (0, 0, 0), [], []),
  (1347, .bipush 9, 2, (0, 0, 0), [], []),
  (1349, .invokevirtual 185, 3, (0, 107, 6), [], [409, 68, 410, 411]),
  (1352, .iload 14, 2, (0, 0, 0), [], []),
  (1354, .if_icmp .eq 5, 3, (1359, 0, 0), [], []),
  (1357, .iconst 0, 1, (0, 0, 0), [], []),
  (1358, .ireturn, 1, (1, 0, 0), [], []),
  (1359, .iconst 0, 1, (0, 0, 0), [], []),
  (1360, .istore 32, 2, (0, 0, 0), [], []),
  (1362, .iload 32, 2, (0, 0, 0), [], []),
  (1364, .iload 4, 2, (0, 0, 0), [], []),
  (1366, .if_icmp .ge 26, 3, (1392, 0, 0), [], []),
  (1369, .aload 28, 2, (0, 0, 0), [], []),
  (1371, .iload 32, 2, (0, 0, 0), [], []),
  (1373, .iaload, 1, (0, 0, 0), [], []),
  (1374, .aload_n 3, 1, (0, 0, 0), [], []),
  (1375, .iload 32, 2, (0, 0, 0), [], []),
  (1377, .iconst 0, 1, (0, 0, 0), [], []),
  (1378, .invokevirtual 241, 3, (0, 109, 6), [], [504, 68, 505, 506]),
  (1381, .if_icmp .le 5, 3, (1386, 0, 0), [], []),
  (1384, .iconst 0, 1, (0, 0, 0), [], []),
  (1385, .ireturn, 1, (1, 0, 0), [], []),
  (1386, .iinc 32 1, 3, (0, 0, 0), [], []),
  (1389, .goto (-27), 3, (1362, 0, 0), [], []),
  (1392, .iload 10, 2, (0, 0, 0), [], []),
  (1394, .iload 6, 2, (0, 0, 0), [], []),
  (1396, .idiv, 1, (0, 0, 0), [], []),
  (1397, .istore 32, 2, (0, 0, 0), [], []),
  (1399, .aload_n 3, 1, (0, 0, 0), [], []),
  (1400, .bipush 6, 2, (0, 0, 0), [], []),
  (1402, .invokevirtual 185, 3, (0, 107, 6), [], [409, 68, 410, 411]),
  (1405, .sipush 9999, 3, (0, 0, 0), [], []),
  (1408, .iload 11, 2, (0, 0, 0), [], []),
  (1410, .iload 10, 2, (0, 0, 0), [], []),
  (1412, .iadd, 1, (0, 0, 0), [], []),
  (1413, .iload 32, 2, (0, 0, 0), [], []),
  (1415, .iload 6, 2, (0, 0, 0), [], []),
  (1417, .imul, 1, (0, 0, 0), [], []),
  (1418, .isub, 1, (0, 0, 0), [], []),
  (1419, .invokestatic 160, 3, (7, 0, 0), [], [1432, 580, 61, 581]),
  (1422, .iload 30, 2, (0, 0, 0), [], []),
  (1424, .isub, 1, (0, 0, 0), [], []),
  (1425, .if_icmp .eq 5, 3, (1430, 0, 0), [], []),
  (1428, .iconst 0, 1, (0, 0, 0), [], []),
  (1429, .ireturn, 1, (1, 0, 0), [], []),
  (1430, .iconst 0, 1, (0, 0, 0), [], []),
  (1431, .istore 33, 2, (0, 0, 0), [], []),
  (1433, .iconst 0, 1, (0, 0, 0), [], []),
  (1434, .istore 34, 2, (0, 0, 0), [], []),
  (1436, .iload 34, 2, (0, 0, 0), [], []),
  (1438, .iload 6, 2, (0, 0, 0), [], []),
  (1440, .if_icmp .ge 144, 3, (1584, 0, 0), [], []),
  (1443, .aload_n 3, 1, (0, 0, 0), [], []),
  (1444, .iload 34, 2, (0, 0, 0), [], [])]
def am_t180_13 : List am_E := [(1446, .iconst 3, 1, (0, 0, 0), [], []),
  (1447, .invokevirtual 198, 3, (0, 112, 6), [], [600, 68, 601, 602]),
  (1450, .aload 17, 2, (0, 0, 0), [], []),
  (1452, .iload 34, 2, (0, 0, 0), [], []),
  (1454, .aaload, 1, (24, 0, 0), [], []),
  (1455, .iconst 3, 1, (0, 0, 0), [], []),
  (1456, .iaload, 1, (0, 0, 0), [], []),
  (1457, .isub, 1, (0, 0, 0), [], []),
  (1458, .istore 35, 2, (0, 0, 0), [], []),
  (1460, .iload 33, 2, (0, 0, 0), [], []),
  (1462, .iload 35, 2, (0, 0, 0), [], []),
  (1464, .iadd, 1, (0, 0, 0), [], []),
  (1465, .istore 33, 2, (0, 0, 0), [], []),
  (1467, .iload 35, 2, (0, 0, 0), [], []),
  (1469, .ifCond .lt 32, 3, (1501, 0, 0), [], []),
  (1472, .aload_n 3, 1, (0, 0, 0), [], []),
  (1473, .iload 34, 2, (0, 0, 0), [], []),
  (1475, .iconst 0, 1, (0, 0, 0), [], []),
  (1476, .invokevirtual 198, 3, (0, 112, 6), [], [600, 68, 601, 602]),
  (1479, .sipush 9999, 3, (0, 0, 0), [], []),
  (1482, .aload 17, 2, (0, 0, 0), [], []),
  (1484, .iload 34, 2, (0, 0, 0), [], []),
  (1486, .aaload, 1, (24, 0, 0), [], []),
  (1487, .iconst 0, 1, (0, 0, 0), [], []),
  (1488, .iaload, 1, (0, 0, 0), [], []),
  (1489, .iload 32, 2, (0, 0, 0), [], []),
  (1491, .iadd, 1, (0, 0, 0), [], []),
  (1492, .invokestatic 160, 3, (7, 0, 0), [], [1432, 580, 61, 581]),
  (1495, .iload 35, 2, (0, 0, 0), [], []),
  (1497, .isub, 1, (0, 0, 0), [], []),
  (1498, .if_icmp .eq 5, 3, (1503, 0, 0), [], []),
  (1501, .iconst 0, 1, (0, 0, 0), [], []),
  (1502, .ireturn, 1, (1, 0, 0), [], []),
  (1503, .iconst 0, 1, (0, 0, 0), [], []),
  (1504, .istore 36, 2, (0, 0, 0), [], []),
  (1506, .iconst 0, 1, (0, 0, 0), [], []),
  (1507, .istore 37, 2, (0, 0, 0), [], []),
  (1509, .iload 37, 2, (0, 0, 0), [], []),
  (1511, .iload 5, 2, (0, 0, 0), [], []),
  (1513, .if_icmp .ge 53, 3, (1566, 0, 0), [], []),
  (1516, .iload 36, 2, (0, 0, 0), [], []),
  (1518, .aload_n 3, 1, (0, 0, 0), [], []),
  (1519, .iload 34, 2, (0, 0, 0), [], []),
  (1521, .iload 37, 2, (0, 0, 0), [], []),
  (1523, .invokevirtual 195, 3, (0, 113, 6), [], [614, 68, 615, 616]),
  (1526, .ifCond .eq 30, 3, (1556, 0, 0), [], []),
  (1529, .aload_n 3, 1, (0, 0, 0), [], []),
  (1530, .iload 37, 2, (0, 0, 0), [], []),
  (1532, .iconst 4, 1, (0, 0, 0), [], []),
  (1533, .invokevirtual 192, 3, (0, 110, 6), [], [518, 68, 519, 520]),
  (1536, .iload 9, 2, (0, 0, 0), [], []),
  (1538, .if_icmp .ne 18, 3, (1556, 0, 0), [], []),
  (1541, .aload_n 3, 1, (0, 0, 0), [], []),
  (1542, .iload 37, 2, (0, 0, 0), [], []),
  (1544, .iconst 5, 1, (0, 0, 0), [], []),
  (1545, .invokevirtual 192, 3, (0, 110, 6), [], [518, 68, 519, 520]),
  (1548, .iconst 1, 1, (0, 0, 0), [], []),
  (1549, .if_icmp .ne 7, 3, (1556, 0, 0), [], []),
  (1552, .iconst 1, 1, (0, 0, 0), [], []),
  (1553, .goto 4, 3, (1557, 0, 0), [], [])]
def am_t180_14 : List am_E := [(1556, .iconst 0, 1, (0, 0, 0), [], []),
  (1557, .ior, 1, (0, 0, 0), [], []),
  (1558, .istore 36, 2, (0, 0, 0), [], []),
  (1560, .iinc 37 1, 3, (0, 0, 0), [], []),
  (1563, .goto (-54), 3, (1509, 0, 0), [], []),
  (1566, .iload 36, 2, (0, 0, 0), [], []),
  (1568, .ifCond .ne 10, 3, (1578, 0, 0), [], []),
  (1571, .iload 35, 2, (0, 0, 0), [], []),
  (1573, .ifCond .le 5, 3, (1578, 0, 0), [], []),
  (1576, .iconst 0, 1, (0, 0, 0), [], []),
  (1577, .ireturn, 1, (1, 0, 0), [], []),
  (1578, .iinc 34 1, 3, (0, 0, 0), [], []),
  (1581, .goto (-145), 3, (1436, 0, 0), [], []),
  (1584, .iload 33, 2, (0, 0, 0), [], []),
  (1586, .iload 29, 2, (0, 0, 0), [], []),
  (1588, .iload 30, 2, (0, 0, 0), [], []),
  (1590, .isub, 1, (0, 0, 0), [], []),
  (1591, .if_icmp .eq 5, 3, (1596, 0, 0), [], []),
  (1594, .iconst 0, 1, (0, 0, 0), [], []),
  (1595, .ireturn, 1, (1, 0, 0), [], []),
  (1596, .aload_n 3, 1, (0, 0, 0), [], []),
  (1597, .iconst 4, 1, (0, 0, 0), [], []),
  (1598, .invokevirtual 185, 3, (0, 107, 6), [], [409, 68, 410, 411]),
  (1601, .ifCond .le 6, 3, (1607, 0, 0), [], []),
  (1604, .goto 93, 3, (1697, 0, 0), [], []),
  (1607, .iconst 0, 1, (0, 0, 0), [], []),
  (1608, .istore 34, 2, (0, 0, 0), [], []),
  (1610, .iload 34, 2, (0, 0, 0), [], []),
  (1612, .iload 5, 2, (0, 0, 0), [], []),
  (1614, .if_icmp .ge 83, 3, (1697, 0, 0), [], []),
  (1617, .aload_n 3, 1, (0, 0, 0), [], []),
  (1618, .iload 34, 2, (0, 0, 0), [], []),
  (1620, .iconst 4, 1, (0, 0, 0), [], []),
  (1621, .invokevirtual 192, 3, (0, 110, 6), [], [518, 68, 519, 520]),
  (1624, .ifCond .ge 67, 3, (1691, 0, 0), [], []),
  (1627, .aload 28, 2, (0, 0, 0), [], []),
  (1629, .aload 12, 2, (0, 0, 0), [], []),
  (1631, .iload 34, 2, (0, 0, 0), [], []),
  (1633, .aaload, 1, (24, 0, 0), [], []),
  (1634, .iconst 1, 1, (0, 0, 0), [], []),
  (1635, .iaload, 1, (0, 0, 0), [], []),
  (1636, .iaload, 1, (0, 0, 0), [], []),
  (1637, .aload_n 3, 1, (0, 0, 0), [], []),
  (1638, .aload 12, 2, (0, 0, 0), [], []),
  (1640, .iload 34, 2, (0, 0, 0), [], []),
  (1642, .aaload, 1, (24, 0, 0), [], []),
  (1643, .iconst 1, 1, (0, 0, 0), [], []),
  (1644, .iaload, 1, (0, 0, 0), [], []),
  (1645, .iconst 0, 1, (0, 0, 0), [], []),
  (1646, .invokevirtual 241, 3, (0, 109, 6), [], [504, 68, 505, 506]),
  (1649, .if_icmp .lt 6, 3, (1655, 0, 0), [], []),
  (1652, .goto 39, 3, (1691, 0, 0), [], []),
  (1655, .aload_n 3, 1, (0, 0, 0), [], []),
  (1656, .iload 34, 2, (0, 0, 0), [], []),
  (1658, .bipush 7, 2, (0, 0, 0), [], []),
  (1660, .invokevirtual 192, 3, (0, 110, 6), [], [518, 68, 519, 520]),
  (1663, .aload 12, 2, (0, 0, 0), [], []),
  (1665, .iload 34, 2, (0, 0, 0), [], []),
  (1667, .aaload, 1, (24, 0, 0), [], []),
  (1668, .iconst 0, 1, (0, 0, 0), [], [])]
def am_t180_15 : List am_E := [(1669, .iaload, 1, (0, 0, 0), [], []),
  (1670, .if_icmp .ge 19, 3, (1689, 0, 0), [], []),
  (1673, .aload 12, 2, (0, 0, 0), [], []),
  (1675, .iload 34, 2, (0, 0, 0), [], []),
  (1677, .aaload, 1, (24, 0, 0), [], []),
  (1678, .iconst 0, 1, (0, 0, 0), [], []),
  (1679, .iaload, 1, (0, 0, 0), [], []),
  (1680, .aload_n 3, 1, (0, 0, 0), [], []),
  (1681, .bipush 6, 2, (0, 0, 0), [], []),
  (1683, .invokevirtual 185, 3, (0, 107, 6), [], [409, 68, 410, 411]),
  (1686, .if_icmp .gt 5, 3, (1691, 0, 0), [], []),
  (1689, .iconst 0, 1, (0, 0, 0), [], []),
  (1690, .ireturn, 1, (1, 0, 0), [], []),
  (1691, .iinc 34 1, 3, (0, 0, 0), [], []),
  (1694, .goto (-84), 3, (1610, 0, 0), [], []),
  (1697, .iinc 7 1, 3, (0, 0, 0), [], []),
  (1700, .goto (-1641), 3, (59, 0, 0), [], []),
  (1703, .aload_n 2, 1, (0, 0, 0), [], []),
  (1704, .aload_n 3, 1, (0, 0, 0), [], []),
  (1705, .invokevirtual 244, 3, (0, 173, 7), [], [834, 59, 835, 836]),
  (1708, .ireturn, 1, (1, 0, 0), [], [])]
def am_t180 : List am_E := am_t180_0 ++ (am_t180_1 ++ (am_t180_2 ++ (am_t180_3 ++ (am_t180_4 ++ (am_t180_5 ++ (am_t180_6 ++ (am_t180_7 ++ (am_t180_8 ++ (am_t180_9 ++ (am_t180_10 ++ (am_t180_11 ++ (am_t180_12 ++ (am_t180_13 ++ (am_t180_14 ++ (am_t180_15)))))))))))))))
def am_tg0 : List (List am_E) := [am_t0, am_t1, am_t2, am_t3, am_t4, am_t5, am_t6, am_t7, am_t8, am_t9, am_t10, am_t11, am_t12, am_t13, am_t14, am_t15]
def am_tg1 : List (List am_E) := [am_t16, am_t17, am_t18, am_t19, am_t20, am_t21, am_t22, am_t23, am_t24, am_t25, am_t26, am_t27, am_t28, am_t29, am_t30, am_t31]
def am_tg2 : List (List am_E) := [am_t32, am_t33, am_t34, am_t35, am_t36, am_t37, am_t38, am_t39, am_t40, am_t41, am_t42, am_t43, am_t44, am_t45, am_t46, am_t47]
def am_tg3 : List (List am_E) := [am_t48, am_t49, am_t50, am_t51, am_t52, am_t53, am_t54, am_t55, am_t56, am_t57, am_t58, am_t59, am_t60, am_t61, am_t62, am_t63]
def am_tg4 : List (List am_E) := [am_t64, am_t65, am_t66, am_t67, am_t68, am_t69, am_t70, am_t71, am_t72, am_t73, am_t74, am_t75, am_t76, am_t77, am_t78, am_t79]
def am_tg5 : List (List am_E) := [am_t80, am_t81, am_t82, am_t83, am_t84, am_t85, am_t86, am_t87, am_t88, am_t89, am_t90, am_t91, am_t92, am_t93, am_t94, am_t95]
def am_tg6 : List (List am_E) := [am_t96, am_t97, am_t98, am_t99, am_t100, am_t101, am_t102, am_t103, am_t104, am_t105, am_t106, am_t107, am_t108, am_t109, am_t110, am_t111]
def am_tg7 : List (List am_E) := [am_t112, am_t113, am_t114, am_t115, am_t116, am_t117, am_t118, am_t119, am_t120, am_t121, am_t122, am_t123, am_t124, am_t125, am_t126, am_t127]
def am_tg8 : List (List am_E) := [am_t128, am_t129, am_t130, am_t131, am_t132, am_t133, am_t134, am_t135, am_t136, am_t137, am_t138, am_t139, am_t140, am_t141, am_t142, am_t143]
def am_tg9 : List (List am_E) := [am_t144, am_t145, am_t146, am_t147, am_t148, am_t149, am_t150, am_t151, am_t152, am_t153, am_t154, am_t155, am_t156, am_t157, am_t158, am_t159]
def am_tg10 : List (List am_E) := [am_t160, am_t161, am_t162, am_t163, am_t164, am_t165, am_t166, am_t167, am_t168, am_t169, am_t170, am_t171, am_t172, am_t173, am_t174, am_t175]
def am_tg11 : List (List am_E) := [am_t176, am_t177, am_t178, am_t179, am_t180]
def am_tabs : List (List (List am_E)) := [am_tg0, am_tg1, am_tg2, am_tg3, am_tg4, am_tg5, am_tg6, am_tg7, am_tg8, am_tg9, am_tg10, am_tg11]
def am_tab (m : Nat) : List am_E := am_nth (am_nth am_tabs (m / 16) []) (m % 16) []
abbrev am_I : Type := MethodName × ByteArray × Nat × Option FieldType × List (Nat × Nat × Nat × Nat) × Nat × (Nat × Nat) × Nat × Nat × List (Nat × Nat × Nat × Nat)
def am_ig0 : List am_I := [(yJ0_charAt_5068e, cJ0_charAt_5068e, 2, (some .char), [], 199, (0, 0), 2, 0, []),
  (yJ0_checkIndex_df160, cJ0_checkIndex_df160, 2, none, [], 209, (0, 0), 2, 9, []),
  (yJ0_coder_7d493, cJ0_coder_7d493, 1, (some .byte), [], 193, (0, 0), 1, 0, []),
  (yJ0_indexOf_0f7a4, cJ0_indexOf_0f7a4, 2, (some .int), [], 998, (0, 0), 2, 0, []),
  (yJ0_indexOf_7cf53, cJ0_indexOf_7cf53, 3, (some .int), [], 1002, (0, 0), 3, 0, []),
  (yJ0_isLatin1_aae02, cJ0_isLatin1_aae02, 1, (some .boolean), [], 203, (0, 0), 1, 0, []),
  (yJ0_length_8abf5, cJ0_length_8abf5, 1, (some .int), [], 189, (0, 0), 1, 0, []),
  (yJ1_canEncode_9a6ad, cJ1_canEncode_9a6ad, 1, (some .boolean), [], 1009, (0, 0), 1, 0, []),
  (yJ1_charAt_3b067, cJ1_charAt_3b067, 2, (some .char), [], 206, (0, 0), 2, 0, []),
  (yJ1_indexOfChar_4cfef, cJ1_indexOfChar_4cfef, 6, (some .int), [], 1014, (0, 0), 4, 0, []),
  (yJ1_indexOf_4cfef, cJ1_indexOf_4cfef, 4, (some .int), [], 1006, (0, 0), 4, 0, []),
  (yJ3_checkIndex_8e157, cJ3_checkIndex_8e157, 3, (some .int), [], 214, (0, 0), 3, 0, []),
  (yJ6_bitCount_0f7a4, cJ6_bitCount_0f7a4, 1, (some .int), [], 538, (0, 0), 1, 0, []),
  (yX0_init, cX0_init, 3, none, [], 296, (4, 429), 3, 9, []),
  (yX0_fill, cX0_fill, 3, (some .int), [], 1125, (0, 0), 2, 0, []),
  (yX0_setArguments, cX0_setArguments, 4, none, [], 1176, (0, 0), 2, 9, [])]
def am_ig1 : List am_I := [(yX0_errorHere, cX0_errorHere, 4, (some .int), [], 1133, (0, 0), 2, 0, []),
  (yX0_tellWard, cX0_tellWard, 5, (some .int), [], 1137, (0, 0), 3, 0, []),
  (yX0_tellProject, cX0_tellProject, 5, (some .int), [], 1147, (0, 0), 3, 0, []),
  (yX0_tellVoter, cX0_tellVoter, 5, (some .int), [], 1151, (0, 0), 3, 0, []),
  (yX0_errorOfNew, cX0_errorOfNew, 4, (some .int), [], 1140, (0, 0), 3, 0, []),
  (yX0_tellBan, cX0_tellBan, 2, (some .int), [], 1155, (0, 0), 2, 0, []),
  (yX0_tellBudget, cX0_tellBudget, 3, (some .int), [], 1162, (0, 0), 2, 0, []),
  (yX0_tellLiked, cX0_tellLiked, 3, (some .int), [], 1169, (0, 0), 2, 0, []),
  (yX0_putNumber, cX0_putNumber, 7, (some .int), [], 1159, (0, 0), 5, 0, []),
  (yX0_putNamed, cX0_putNamed, 3, (some .int), [], 1166, (0, 0), 3, 0, []),
  (yX0_find, cX0_find, 5, (some .int), [], 1143, (0, 0), 3, 0, []),
  (yX1_init, cX1_init, 3, none, [], 270, (2, 802), 3, 9, []),
  (yX1_isList, cX1_isList, 3, (some .boolean), [], 1053, (0, 0), 2, 0, []),
  (yX1_here, cX1_here, 1, (some .int), [], 1057, (0, 0), 1, 0, []),
  (yX1_take, cX1_take, 2, (some .boolean), [], 1065, (0, 0), 2, 0, []),
  (yX1_take_, cX1_take_, 3, (some .boolean), [], 1069, (0, 0), 3, 0, [])]
def am_ig2 : List am_I := [(yX1_write, cX1_write, 2, (some .boolean), [], 1093, (0, 0), 2, 0, []),
  (yX1_write_, cX1_write_, 3, (some .boolean), [], 1097, (0, 0), 3, 0, []),
  (yX1_isLine, cX1_isLine, 1, (some .boolean), [], 1061, (0, 0), 1, 0, []),
  (yX1_isRowOfLiked, cX1_isRowOfLiked, 2, (some .boolean), [], 1073, (0, 0), 1, 0, []),
  (yX1_isBan, cX1_isBan, 1, (some .boolean), [], 1077, (0, 0), 1, 0, []),
  (yX1_isTest, cX1_isTest, 3, (some .boolean), [], 1081, (0, 0), 2, 0, []),
  (yX1_isBoth, cX1_isBoth, 3, (some .boolean), [], 1085, (0, 0), 2, 0, []),
  (yX1_isSingle, cX1_isSingle, 3, (some .boolean), [], 1089, (0, 0), 2, 0, []),
  (yX1_isNamed, cX1_isNamed, 4, (some .boolean), [], 1101, (0, 0), 3, 0, []),
  (yX1_comparisonHere, cX1_comparisonHere, 1, (some .int), [], 1121, (0, 0), 1, 0, []),
  (yX1_isSum, cX1_isSum, 4, (some .boolean), [], 1105, (0, 0), 2, 0, []),
  (yX1_isProduct, cX1_isProduct, 4, (some .boolean), [], 1109, (0, 0), 2, 0, []),
  (yX1_isValue, cX1_isValue, 3, (some .boolean), [], 1113, (0, 0), 2, 0, []),
  (yX1_isPair, cX1_isPair, 2, (some .boolean), [], 1117, (0, 0), 2, 0, []),
  (yX3_init, cX3_init, 2, none, [], 325, (8, 476), 2, 9, []),
  (yX3_begin, cX3_begin, 3, none, [], 1184, (0, 0), 2, 9, [])]
def am_ig3 : List am_I := [(yX3_copy, cX3_copy, 3, none, [], 632, (0, 0), 2, 9, []),
  (yX3_total, cX3_total, 2, (some .int), [], 487, (0, 0), 2, 0, []),
  (yX3_purses, cX3_purses, 3, (some .int), [], 491, (0, 0), 1, 0, []),
  (yX3_builtCount, cX3_builtCount, 3, (some .int), [], 495, (0, 0), 1, 0, []),
  (yX3_boughtCount, cX3_boughtCount, 3, (some .int), [], 503, (0, 0), 1, 0, []),
  (yX3_ofWard, cX3_ofWard, 5, (some .int), [], 517, (0, 0), 3, 0, []),
  (yX3_ofProject, cX3_ofProject, 3, (some .int), [], 531, (0, 0), 3, 0, []),
  (yX3_ofVoter, cX3_ofVoter, 3, (some .int), [], 609, (0, 0), 3, 0, []),
  (yX3_likedCount, cX3_likedCount, 4, (some .int), [], 613, (0, 0), 2, 0, []),
  (yX3_pleasedOf, cX3_pleasedOf, 4, (some .int), [], 570, (0, 0), 2, 0, []),
  (yX3_isOpen, cX3_isOpen, 2, (some .boolean), [], 499, (0, 0), 2, 0, []),
  (yX3_isFan, cX3_isFan, 3, (some .boolean), [], 578, (0, 0), 3, 0, []),
  (yX3_fanCount, cX3_fanCount, 2, (some .int), [], 535, (0, 0), 2, 0, []),
  (yX3_coinsOfFans, cX3_coinsOfFans, 4, (some .int), [], 591, (0, 0), 2, 0, []),
  (yX3_shareOf, cX3_shareOf, 7, (some .int), [], 599, (0, 0), 2, 0, []),
  (yX3_setFan, cX3_setFan, 4, none, [], 723, (0, 0), 4, 9, [])]
def am_ig4 : List am_I := [(yX3_putIntoPurse, cX3_putIntoPurse, 3, none, [], 640, (0, 0), 3, 9, []),
  (yX3_reopen, cX3_reopen, 2, none, [], 1452, (0, 0), 2, 9, []),
  (yX3_runYears, cX3_runYears, 3, none, [], 674, (0, 0), 2, 9, []),
  (yX3_collect, cX3_collect, 4, none, [], 636, (0, 0), 1, 9, []),
  (yX3_buyFromPurses, cX3_buyFromPurses, 3, none, [], 679, (0, 0), 1, 9, []),
  (yX3_bestToBuy, cX3_bestToBuy, 6, (some .int), [], 644, (0, 0), 1, 0, []),
  (yX3_hasRoom, cX3_hasRoom, 3, (some .boolean), [], 648, (0, 0), 2, 0, []),
  (yX3_buy, cX3_buy, 6, none, [], 684, (0, 0), 3, 9, []),
  (yX3_build, cX3_build, 2, none, [], 688, (0, 0), 2, 9, []),
  (yX3_buildFromPot, cX3_buildFromPot, 3, none, [], 692, (0, 0), 1, 9, []),
  (yX3_bestForPot, cX3_bestForPot, 3, (some .int), [], 696, (0, 0), 1, 0, []),
  (yX3_isBetterForPot, cX3_isBetterForPot, 3, (some .boolean), [], 700, (0, 0), 3, 0, []),
  (yX3_grow, cX3_grow, 3, none, [], 704, (0, 0), 1, 9, []),
  (yX3_isBanned, cX3_isBanned, 3, (some .boolean), [], 545, (0, 0), 2, 0, []),
  (yX3_holds, cX3_holds, 6, (some .boolean), [], 549, (0, 0), 2, 0, []),
  (yX3_push, cX3_push, 2, none, [], 557, (0, 0), 2, 9, [])]
def am_ig5 : List am_I := [(yX3_pop, cX3_pop, 1, (some .int), [], 553, (0, 0), 1, 0, []),
  (yX3_single, cX3_single, 3, (some .int), [], 561, (0, 0), 3, 0, []),
  (yX3_reckon, cX3_reckon, 4, (some .int), [], 574, (0, 0), 4, 0, []),
  (yX3_compare, cX3_compare, 4, (some .int), [], 587, (0, 0), 3, 0, []),
  (yX4_init, cX4_init, 1, none, [], 95, (9, 876), 1, 9, []),
  (yX4_clear, cX4_clear, 1, none, [], 1129, (0, 0), 1, 9, []),
  (yX4_hasWard, cX4_hasWard, 2, (some .boolean), [], 511, (0, 0), 2, 0, []),
  (yX4_hasProject, cX4_hasProject, 2, (some .boolean), [], 525, (0, 0), 2, 0, []),
  (yX4_hasVoter, cX4_hasVoter, 2, (some .boolean), [], 566, (0, 0), 2, 0, []),
  (yX7_init, cX7_init, 5, none, [], 183, (4, 1225), 2, 9, []),
  (yX7_cut, cX7_cut, 3, none, [], 963, (0, 0), 2, 9, []),
  (yX7_startOf, cX7_startOf, 2, (some .int), [], 1180, (0, 0), 2, 0, []),
  (yX7_skipBlanks, cX7_skipBlanks, 1, none, [], 968, (0, 0), 1, 9, []),
  (yX7_cutOne, cX7_cutOne, 2, (some .int), [], 976, (0, 0), 2, 0, []),
  (yX7_cutWord, cX7_cutWord, 6, (some .int), [], 980, (0, 0), 2, 0, []),
  (yX7_cutNumber, cX7_cutNumber, 5, (some .int), [], 987, (0, 0), 2, 0, [])]
def am_ig6 : List am_I := [(yX7_cutSymbol, cX7_cutSymbol, 2, (some .int), [], 993, (0, 0), 1, 0, []),
  (yX7_signAt, cX7_signAt, 2, (some .int), [], 972, (0, 0), 2, 0, []),
  (yX7_isLetter, cX7_isLetter, 1, (some .boolean), [], 240, (0, 0), 1, 0, []),
  (yX7_isDigit, cX7_isDigit, 1, (some .boolean), [], 983, (0, 0), 1, 0, []),
  (yX7_digitOf, cX7_digitOf, 1, (some .int), [], 237, (0, 0), 1, 0, []),
  (yX8_init, cX8_init, 1, none, [], 87, (52, 7239), 1, 9, []),
  (yX8_feed, cX8_feed, 6, (some .int), [], 935, (1, 6), 6, 0, []),
  (yX8_append, cX8_append, 3, none, [], 955, (0, 0), 2, 9, []),
  (yX8_trim, cX8_trim, 2, (some .int), [], 928, (1, 6), 2, 0, []),
  (yX8_teach, cX8_teach, 3, (some .int), [], 959, (0, 0), 1, 0, []),
  (yJ0_getBytes_840e7, cJ0_getBytes_840e7, 4, none, [], 1279, (0, 0), 4, 9, []),
  (yX8_count, cX8_count, 2, (some .int), [], 412, (1, 6), 2, 0, []),
  (yX8_countOf, cX8_countOf, 2, (some .int), [], 483, (0, 0), 2, 0, []),
  (yX8_ward, cX8_ward, 3, (some .int), [], 507, (1, 6), 3, 0, []),
  (yX8_project, cX8_project, 3, (some .int), [], 521, (1, 6), 3, 0, []),
  (yX8_share, cX8_share, 2, (some .int), [], 595, (1, 6), 2, 0, [])]
def am_ig7 : List am_I := [(yX8_voter, cX8_voter, 3, (some .int), [], 603, (1, 6), 3, 0, []),
  (yX8_likes, cX8_likes, 3, (some .boolean), [], 617, (1, 6), 3, 0, []),
  (yX8_envy, cX8_envy, 3, (some .int), [], 623, (1, 6), 3, 0, []),
  (yX8_next, cX8_next, 1, (some .int), [], 628, (0, 0), 1, 0, []),
  (yX8_approve, cX8_approve, 5, (some .boolean), [], 1431, (1, 6), 4, 0, []),
  (yX8_give, cX8_give, 3, (some .int), [], 1436, (1, 6), 3, 0, []),
  (yX8_setBudget, cX8_setBudget, 3, (some .int), [], 1442, (1, 6), 2, 0, []),
  (yX8_open, cX8_open, 3, (some .int), [], 1447, (1, 6), 2, 0, []),
  (yX8_pass, cX8_pass, 3, (some .int), [], 653, (1, 6), 2, 0, []),
  (yX8_until, cX8_until, 3, (some .int), [], 708, (1, 6), 2, 0, []),
  (yX8_foresee, cX8_foresee, 3, (some .int), [], 713, (1, 6), 3, 0, []),
  (yX8_advise, cX8_advise, 6, (some .int), [], 718, (1, 6), 3, 0, []),
  (yX8_spare, cX8_spare, 5, (some .int), [], 727, (1, 6), 2, 0, []),
  (yX8_mean, cX8_mean, 3, (some .double), [], 731, (0, 0), 1, 3, []),
  (yX8_digest, cX8_digest, 5, (some .long), [], 735, (0, 0), 1, 1, []),
  (yJ0_init_81219, cJ0_init_81219, 2, none, [], 1356, (1, 4100), 2, 9, [])]
def am_ig8 : List am_I := [(yJ0_init_db425, cJ0_init_db425, 5, none, [], 1359, (1, 4100), 3, 9, []),
  (yJ4_append_15ec4, cJ4_append_15ec4, 2, (some (.object "java/lang/StringBuilder")), [], 1194, (1, 4150), 2, 2, []),
  (yJ4_append_bf812, cJ4_append_bf812, 2, (some (.object "java/lang/StringBuilder")), [], 1285, (1, 4150), 2, 2, []),
  (yJ4_init_da8c8, cJ4_init_da8c8, 1, none, [], 1330, (1, 16), 1, 9, []),
  (yJ4_length_8abf5, cJ4_length_8abf5, 1, (some .int), [], 1371, (0, 0), 1, 0, []),
  (yJ4_toString_0e30d, cJ4_toString_0e30d, 1, (some (.object "java/lang/String")), [], 1351, (2, 4104), 1, 2, []),
  (yJ5_append_c97b9, cJ5_append_c97b9, 4, (some (.object "java/lang/AbstractStringBuilder")), [], 1288, (1, 4150), 2, 2, []),
  (yJ5_append_cf1ce, cJ5_append_cf1ce, 3, (some (.object "java/lang/AbstractStringBuilder")), [], 1198, (1, 4150), 2, 2, []),
  (yJ5_ensureCapacityInternal_d00df, cJ5_ensureCapacityInternal_d00df, 3, none, [], 1206, (1, 4150), 2, 9, []),
  (yJ5_getValue_6d5f1, cJ5_getValue_6d5f1, 1, (some (.array .byte)), [], 1365, (0, 0), 1, 2, []),
  (yJ5_inflateIfNeededFor_a7421, cJ5_inflateIfNeededFor_a7421, 2, none, [], 1248, (0, 0), 2, 9, []),
  (yJ5_init_d00df, cJ5_init_d00df, 2, none, [], 1333, (1, 16), 2, 9, []),
  (yJ5_isLatin1_aae02, cJ5_isLatin1_aae02, 1, (some .boolean), [], 1232, (0, 0), 1, 0, []),
  (yJ5_length_8abf5, cJ5_length_8abf5, 1, (some .int), [], 1373, (0, 0), 1, 0, []),
  (yJ5_newCapacity_0f7a4, cJ5_newCapacity_0f7a4, 6, (some .int), [], 1210, (0, 0), 2, 0, []),
  (yJ5_putStringAt_47b60, cJ5_putStringAt_47b60, 3, none, [], 1244, (0, 0), 3, 9, [])]
def am_ig9 : List am_I := [(yJ6_getChars_ba4f3, cJ6_getChars_ba4f3, 7, (some .int), [], 1294, (0, 0), 3, 0, []),
  (yJ6_stringSize_0f7a4, cJ6_stringSize_0f7a4, 4, (some .int), [], 1291, (0, 0), 1, 0, []),
  (yJ7_checkLength_df160, cJ7_checkLength_df160, 2, none, [], 1383, (0, 0), 2, 9, []),
  (yJ7_copyOfRangeByte_39247, cJ7_copyOfRangeByte_39247, 5, (some (.array .byte)), [], 1380, (1, 4100), 3, 2, []),
  (yJ7_copyOfRange_39247, cJ7_copyOfRange_39247, 3, (some (.array .byte)), [], 1377, (1, 4100), 3, 2, []),
  (yJ7_copyOf_9075b, cJ7_copyOf_9075b, 3, (some (.array .byte)), [], 1222, (1, 4150), 2, 2, []),
  (yJ7_sort_2022b, cJ7_sort_2022b, 1, none, [], 782, (0, 0), 1, 9, []),
  (yJ8_newLength_cabcc, cJ8_newLength_cabcc, 4, (some .int), [], 1213, (0, 0), 3, 0, []),
  (yJ9_abs_294c1, cJ9_abs_294c1, 2, (some .double), [], 1455, (0, 0), 1, 3, []),
  (yX13_insertionSort, cX13_insertionSort, 6, none, [], 794, (0, 0), 3, 9, []),
  (yX13_sort, cX13_sort, 7, none, [], 785, (0, 0), 4, 9, []),
  (yX13_sort_, cX13_sort_, 21, none, [], 788, (0, 0), 5, 9, []),
  (yX9_init, cX9_init, 1, none, [], 860, (5, 0), 1, 9, []),
  (yX9_fans, cX9_fans, 7, (some .int), [], 767, (0, 0), 2, 0, []),
  (yX9_rich, cX9_rich, 4, (some .int), [], 779, (0, 0), 2, 0, []),
  (yX9_pleased, cX9_pleased, 4, (some .int), [], 771, (0, 0), 2, 0, [])]
def am_ig10 : List am_I := [(yX9_holds, cX9_holds, 6, (some .boolean), [], 763, (0, 0), 2, 0, []),
  (yX9_isBanned, cX9_isBanned, 7, (some .boolean), [], 759, (0, 0), 2, 0, []),
  (yX9_canBe, cX9_canBe, 7, (some .boolean), [], 755, (0, 0), 2, 0, []),
  (yX9_share, cX9_share, 7, (some .int), [], 775, (1, 64), 2, 0, []),
  (yX9_open, cX9_open, 6, none, [], 746, (0, 0), 1, 9, []),
  (yX9_next, cX9_next, 3, (some .int), [], 751, (70, 4500), 1, 0, []),
  (yX9_buy, cX9_buy, 6, none, [], 829, (1, 64), 2, 9, []),
  (yX9_build, cX9_build, 2, none, [], 833, (0, 0), 2, 9, []),
  (yX9_pass, cX9_pass, 7, (some .int), [], 742, (720, 46000), 1, 0, []),
  (yX9_same, cX9_same, 3, (some (.array (.array .int))), [], 905, (16, 160), 1, 2, []),
  (yX9_copy, cX9_copy, 3, (some (.object "BudgetJuryLaw$Sim")), [], 856, (80, 800), 1, 2, []),
  (yX9_built, cX9_built, 6, (some .int), [], 845, (0, 0), 1, 0, []),
  (yX9_counts, cX9_counts, 6, (some (.array .int)), [], 841, (1, 12), 1, 2, []),
  (yX9_isSame, cX9_isSame, 11, (some .boolean), [], 837, (600, 20000), 2, 0, []),
  (yL_below, cL_below, 2, (some .int), [], 916, (0, 0), 2, 0, []),
  (yL_cell, cL_cell, 2, (some .int), [], 920, (0, 0), 2, 0, [])]
def am_ig11 : List am_I := [(yL_taught, cL_taught, 5, (some .int), [], 924, (700, 4000), 2, 0, []),
  (yL_test, cL_test, 6, (some (.object "java/lang/String")), [], 1325, (60, 70000), 2, 2, []),
  (yL_list, cL_list, 8, (some (.object "BudgetJuryLaw$Sim")), [], 1187, (1600, 3000000), 2, 2, []),
  (yL_act, cL_act, 8, (some .boolean), [(270, 278, 281, 174)], 1426, (8, 48), 3, 0, [(270, 278, 281, 1)]),
  (yL_law, cL_law, 38, (some .boolean), [], 0, (600086, 7301442), 1, 0, [])]
def am_infs : List (List am_I) := [am_ig0, am_ig1, am_ig2, am_ig3, am_ig4, am_ig5, am_ig6, am_ig7, am_ig8, am_ig9, am_ig10, am_ig11]
def am_i0 : am_I := (⟨"", "", ""⟩, ⟨#[]⟩, 0, none, [], 0, (0, 0), 0, 0, [])
def am_inf (m : Nat) : am_I := am_nth (am_nth am_infs (m / 16) []) (m % 16) am_i0
end
section
/-! ===== one step as a shape, and WP: what is so of every end, from a place on ===== -/
def am_row : List am_E → Nat → Option am_E
  | [], _ => none
  | e :: r, pc => match Nat.beq e.1 pc with
    | true => some e
    | false => am_row r pc
def am_ml (m : Nat) : Nat := (am_inf m).2.2.1
def am_cap (m : Nat) : Nat × Nat := (am_inf m).2.2.2.2.2.2.1
def am_na (m : Nat) : Nat := (am_inf m).2.2.2.2.2.2.2.1
def am_rtt (m : Nat) : Nat := (am_inf m).2.2.2.2.2.2.2.2.1
def am_hd (m : Nat) : List (Nat × Nat × Nat × Nat) := (am_inf m).2.2.2.2.2.2.2.2.2
def am_shr0 (cap : Nat × Nat) (c : AC) : Option am_E → ASh
  | none => am_bad
  | some e => am_ex e.2.2.2.1.1 e.2.2.2.1.2.1 e.2.2.2.1.2.2 e.2.2.2.2.1 cap (am_cap e.2.2.2.1.2.1) (am_ml e.2.2.2.1.2.1) (am_na e.2.2.2.1.2.1) (am_rtt e.2.2.2.1.2.1) c.1 e.2.2.1 c.2.1 c.2.2.1 c.2.2.2.1 c.2.2.2.2.1 c.2.2.2.2.2 e.2.1
def am_shp (m : Nat) (c : AC) : ASh := am_shr0 (am_cap m) c (am_row (am_tab m) c.1)
def am_okx (x : Nat) (P : Prop) : Prop := match x with
  | 0 => P
  | _ + 1 => False
def am_fnd : List (Nat × Nat × Nat × Nat) → Nat → Nat → (Nat → Prop) → Prop
  | [], _, _, _ => False
  | (a, b, q, k) :: r, x, pc, G => match Nat.ble a pc && (Nat.blt pc b && Nat.beq k x) with
    | true => G q
    | false => am_fnd r x pc G
def am_ctc (hs : List (Nat × Nat × Nat × Nat)) (x pc : Nat) (P : Prop) (G : Nat → Prop) : Prop := match x with
  | 0 => P
  | k + 1 => am_fnd hs (k + 1) pc G
def am_ret (hs : List (Nat × Nat × Nat × Nat)) (G : AC → Prop) (pc rt : Nat) (cf : AC) : AK := fun x v h' => match hs with
  | [] => am_okx x (G (cf.1, cf.2.1, am_push rt v cf.2.2.1, h', cf.2.2.2.2))
  | _ :: _ => am_ctc hs x pc (G (cf.1, cf.2.1, am_push rt v cf.2.2.1, h', cf.2.2.2.2)) (fun q => G (q, cf.2.1, [(10, 0)], h', cf.2.2.2.2))
def am_swP (G : AC → Prop) (x : Int) (d : AC) : List (Int × AC) → Prop
  | [] => G d
  | (v, c) :: r => (x = v → G c) ∧ (¬ x = v → am_swP G x d r)
abbrev AX : Type := Nat → Nat → AC → AK → Prop
def am_dn (X : AX) (d m : Nat) (c : AC) (K : AK) : Prop := match d with
  | 0 => False
  | d + 1 => X d m c K
def am_stp (X : AX) (G : AC → Prop) (d : Nat) (hs : List (Nat × Nat × Nat × Nat)) (K : AK) : ASh → Prop
  | .inl c => G c
  | .inr (.inl (p, c)) => p ∧ G c
  | .inr (.inr (.inl (p, a, b))) => (p → G a) ∧ (¬ p → G b)
  | .inr (.inr (.inr (.inl (x, l, e)))) => am_swP G x e l
  | .inr (.inr (.inr (.inr (.inl (m, as, pc, rt, c))))) => am_dn X d m (0, am_ent (am_ml m) as, [], c.2.2.2.1, 0, 0) (am_ret hs G pc rt c)
  | .inr (.inr (.inr (.inr (.inr (.inl (p, m, as, pc, rt, c)))))) => p ∧ am_dn X d m (0, am_ent (am_ml m) as, [], c.2.2.2.1, 0, 0) (am_ret hs G pc rt c)
  | .inr (.inr (.inr (.inr (.inr (.inr (.inl (v, h))))))) => K 0 v h
  | .inr (.inr (.inr (.inr (.inr (.inr (.inr (.inl (p, v, h)))))))) => p ∧ K 0 v h
  | .inr (.inr (.inr (.inr (.inr (.inr (.inr (.inr (.inl (p, k, h))))))))) => p ∧ ∀ n : Int, am_n h ≤ n → K k 0 (am_sn h n)
  | .inr (.inr (.inr (.inr (.inr (.inr (.inr (.inr (.inr _)))))))) => False
def am_le (K K' : AK) : Prop := ∀ x v h, K x v h → K' x v h
def am_Clo (P : AX) : Prop := (∀ d m c K, am_stp P (fun c' => P d m c' K) d (am_hd m) K (am_shp m c) → P d m c K) ∧ ∀ d m c K K', am_le K K' → P d m c K → P d m c K'
def WP : AX := fun d m c K => ∀ P, am_Clo P → P d m c K
theorem am_fnd_mono {hs : List (Nat × Nat × Nat × Nat)} {x pc : Nat} {G G' : Nat → Prop} (h : ∀ q, G q → G' q) (w : am_fnd hs x pc G) : am_fnd hs x pc G' := by
  induction hs with
  | nil => exact w
  | cons e r ih =>
    obtain ⟨a, b, q, k⟩ := e
    unfold am_fnd at w ⊢
    split
    · rename_i hh
      rw [hh] at w
      exact h _ w
    · rename_i hh
      rw [hh] at w
      exact ih w
theorem am_ret_mono {hs : List (Nat × Nat × Nat × Nat)} {G G' : AC → Prop} (h : ∀ c, G c → G' c) (pc rt : Nat) (cf : AC) : am_le (am_ret hs G pc rt cf) (am_ret hs G' pc rt cf) := by
  intro x v h' w
  cases hs with
  | nil =>
    cases x with
    | zero => exact h _ w
    | succ x => exact w
  | cons e r =>
    cases x with
    | zero => exact h _ w
    | succ x => exact am_fnd_mono (fun q => h _) w
theorem am_swP_mono {G G' : AC → Prop} (h : ∀ c, G c → G' c) {x : Int} {d : AC} : ∀ {l : List (Int × AC)}, am_swP G x d l → am_swP G' x d l
  | [], w => h _ w
  | (v, c) :: r, w => ⟨fun e => h _ (w.1 e), fun e => am_swP_mono h (w.2 e)⟩
theorem am_dn_mono {X Y : AX} (hX : ∀ d m c K K', am_le K K' → X d m c K → Y d m c K') {d m : Nat} {c : AC} {K K' : AK} (hK : am_le K K') (w : am_dn X d m c K) : am_dn Y d m c K' := by
  cases d with
  | zero => exact w
  | succ d => exact hX _ _ _ _ _ hK w
theorem am_stp_mono {X Y : AX} {G G' : AC → Prop} (hX : ∀ d m c K K', am_le K K' → X d m c K → Y d m c K') (hG : ∀ c, G c → G' c) {d : Nat} {hs : List (Nat × Nat × Nat × Nat)} {K K' : AK} (hK : am_le K K') : ∀ {sh : ASh}, am_stp X G d hs K sh → am_stp Y G' d hs K' sh
  | .inl c, w => hG c w
  | .inr (.inl (p, c)), w => ⟨w.1, hG c w.2⟩
  | .inr (.inr (.inl (p, a, b))), w => ⟨fun e => hG a (w.1 e), fun e => hG b (w.2 e)⟩
  | .inr (.inr (.inr (.inl (x, l, e)))), w => am_swP_mono hG w
  | .inr (.inr (.inr (.inr (.inl (m, as, pc, rt, c))))), w => am_dn_mono hX (am_ret_mono hG pc rt c) w
  | .inr (.inr (.inr (.inr (.inr (.inl (p, m, as, pc, rt, c)))))), w => ⟨w.1, am_dn_mono hX (am_ret_mono hG pc rt c) w.2⟩
  | .inr (.inr (.inr (.inr (.inr (.inr (.inl (v, h))))))), w => hK _ _ _ w
  | .inr (.inr (.inr (.inr (.inr (.inr (.inr (.inl (p, v, h)))))))), w => ⟨w.1, hK _ _ _ w.2⟩
  | .inr (.inr (.inr (.inr (.inr (.inr (.inr (.inr (.inl (p, k, h))))))))), w => ⟨w.1, fun n hn => hK _ _ _ (w.2 n hn)⟩
  | .inr (.inr (.inr (.inr (.inr (.inr (.inr (.inr (.inr _)))))))), w => w
theorem WP_mono {d m : Nat} {c : AC} {K K' : AK} (h : am_le K K') (w : WP d m c K) : WP d m c K' := fun P hP => hP.2 d m c K K' h (w P hP)
theorem WP_step {d m : Nat} {c : AC} {K : AK} (w : am_stp WP (fun c' => WP d m c' K) d (am_hd m) K (am_shp m c)) : WP d m c K := by
  intro P hP
  refine hP.1 d m c K (am_stp_mono (X := WP) (fun d m c K K' hK z => hP.2 _ _ _ _ _ hK (z P hP)) (fun c z => z P hP) (fun _ _ _ z => z) w)
def am_in : List Nat → Nat → Bool
  | [], _ => false
  | a :: r, x => match Nat.beq a x with
    | true => true
    | false => am_in r x
/-- the same, so many steps on, but not past the places of 'cut' -/
def am_un (cut : List Nat) (d m : Nat) (K : AK) : Nat → AC → Prop
  | 0, c => WP d m c K
  | n + 1, c => match am_in cut c.1 with
    | true => WP d m c K
    | false => am_stp WP (am_un cut d m K n) d (am_hd m) K (am_shp m c)
theorem am_un_ok {cut : List Nat} {d m : Nat} {K : AK} : ∀ (n : Nat) {c : AC}, am_un cut d m K n c → WP d m c K
  | 0, _, w => w
  | n + 1, c, w => by
    unfold am_un at w
    split at w
    · exact w
    · exact WP_step (am_stp_mono (X := WP) (fun _ _ _ _ _ hK z => WP_mono hK z) (fun c z => am_un_ok n z) (fun _ _ _ z => z) w)
theorem am_run {cut : List Nat} {d m : Nat} {K : AK} (n : Nat) {c : AC} (w : am_stp WP (am_un cut d m K n) d (am_hd m) K (am_shp m c)) : WP d m c K :=
  WP_step (am_stp_mono (X := WP) (fun _ _ _ _ _ hK z => WP_mono hK z) (fun _ z => am_un_ok n z) (fun _ _ _ z => z) w)
/-- a call of method m -/
def am_call (d m : Nat) (as : List AV) (h : AH) (K : AK) : Prop := WP d m (0, am_ent (am_ml m) as, [], h, 0, 0) K
theorem am_call_mono {d m : Nat} {as : List AV} {h : AH} {K K' : AK} (hk : am_le K K') (w : am_call d m as h K) : am_call d m as h K' := WP_mono hk w
end
section
/-! ===== the abstract machine beside the real one: values, locals, heaps ===== -/
/-- where the jury's cells begin (0 as long as there is none), the script's cell, where the law's cells begin; texts' cells and their bytes' cells; classes; array classes; the script -/
abbrev am_En : Type := (Nat × Nat × Nat) × ((Nat → Nat) × (Nat → Nat)) × va_G × ((ClassId × ClassId × ClassId) × (ClassId × ClassId × ClassId)) × (Nat × (Nat → Int32))
def eB (G : am_En) : Nat := G.1.1
def eb (G : am_En) : Nat := G.1.2.1
def eS (G : am_En) : Nat := G.1.2.2
def ek (G : am_En) (j : Nat) : Nat := G.2.1.1 j
def ev (G : am_En) (j : Nat) : Nat := G.2.1.2 j
def eD (G : am_En) : va_G := G.2.2.1
def eI (G : am_En) : ClassId := G.2.2.2.1.1.1
def eY (G : am_En) : ClassId := G.2.2.2.1.1.2.1
def eJ (G : am_En) : ClassId := G.2.2.2.1.1.2.2
def eZ (G : am_En) : ClassId := G.2.2.2.1.2.1
def eQ (G : am_En) : ClassId := G.2.2.2.1.2.2.1
def eR (G : am_En) : ClassId := G.2.2.2.1.2.2.2
def eL (G : am_En) : Nat := G.2.2.2.2.1
def ex (G : am_En) (j : Nat) : Int32 := G.2.2.2.2.2 j
/-- the real place of an address: constants far below, what is made ahead of the jury below 0, the jury and what comes behind it from 0 on -/
def ea (G : am_En) (a : Int) : Nat := if a ≤ -300000000 then (if (-a - 300000000) % 2 = 0 then ek G ((-a - 300000000).toNat / 2) else ev G ((-a - 300000000).toNat / 2)) else if 0 ≤ a ∧ eB G ≠ 0 then eB G + a.toNat else eS G + (a + 100000000).toNat
/-- what a row of constant bytes holds -/
def am_cb (j : Nat) (i : Int) : Int := if j < 36 then am_tb (j : Int) i else if j = 36 then 48 + i % 10 else 48 + i / 10
def am_cn (j : Nat) : Int := if j < 36 then am_tn (j : Int) else 100
def am_RV (G : am_En) (v : AV) (V : Value) : Prop := match v.1 with
  | 0 => ∃ x : Int32, V = .int x ∧ v.2 = x.toInt
  | 1 => ∃ x : Int64, V = .long x ∧ v.2 = x.toInt
  | 2 => (v.2 = -1 ∧ V = .null) ∨ (¬ v.2 = -1 ∧ V = .ref (ea G v.2))
  | 3 => ∃ x : UInt64, V = .double x ∧ v.2 = (x.toNat : Int)
  | 4 => V = .ref (eb G)
  | 5 => 0 ≤ v.2 ∧ v.2 < 36 ∧ V = .ref (ek G v.2.toNat)
  | 7 => 0 ≤ v.2 ∧ v.2 < 36 ∧ V = .ref (ev G v.2.toNat)
  | 10 => ∃ q, V = .ref q
  | 11 => V = .null ∨ ∃ q, V = .ref q
  | _ => False
/-- what is listed stands in the locals; a long or double only while its second half does -/
def am_hold (ls : List AV) (i : Nat) : Prop := (am_get ls i).1 < 8 ∨ (am_get ls i).1 = 11
def am_RL (G : am_En) (n : Nat) (ls : List AV) (arr : Array Slot) : Prop :=
  arr.size = n ∧ ls.length = n ∧ lv_wf arr ∧ ∀ i, am_hold ls i → (((am_get ls i).1 = 1 ∨ (am_get ls i).1 = 3) → (am_get ls (i + 1)).1 = 8) → ∃ V, arr[i]? = some (.val V) ∧ am_RV G (am_get ls i) V
def am_CI (G : am_En) (cA : ClassId) (lo hi : Int) (h : AH) (a : Int) (H : Heap) : Prop := ∃ (n : Nat) (f : Nat → Int32), H[ea G a]? = some (arrV cA n (fun j => .int (f j))) ∧ am_l h a = (n : Int) ∧ n ≤ 4096 ∧ ∀ j : Nat, j < n → am_m h a (j : Int) = (f j).toInt ∧ lo ≤ (f j).toInt ∧ (f j).toInt ≤ hi
def am_CQ (G : am_En) (cA : ClassId) (h : AH) (a : Int) (H : Heap) : Prop := ∃ (n : Nat) (f : Nat → Option Nat), H[ea G a]? = some (arrV cA n (fun j => va_rf (f j))) ∧ am_l h a = (n : Int) ∧ n ≤ 4096 ∧ ∀ j : Nat, j < n → am_RV G (2, am_m h a (j : Int)) (va_rf (f j))
def am_CO (G : am_En) (h : AH) (a : Int) (H : Heap) : Prop := match am_t h a with
  | 20 => am_CI G (eI G) (-2147483648) 2147483647 h a H
  | 21 => am_CI G (eY G) (-128) 127 h a H
  | 22 => ∃ (n : Nat) (f : Nat → Int64), H[ea G a]? = some (arrV (eJ G) n (fun j => .long (f j))) ∧ am_l h a = (n : Int) ∧ n ≤ 4096 ∧ ∀ j : Nat, j < n → am_m h a (j : Int) = (f j).toInt
  | 23 => am_CI G (eZ G) 0 1 h a H
  | 24 => am_CQ G (eQ G) h a H
  | 25 => am_CQ G (eR G) h a H
  | 18 => ∃ j : Nat, j < 36 ∧ a = -(300000000 + 2 * (j : Int)) ∧ am_m h a 0 = -(300000000 + 2 * (j : Int) + 1) ∧ am_m h a 1 = 0
  | 26 => ∃ j : Nat, j < 38 ∧ a = -(300000000 + 2 * (j : Int) + 1) ∧ am_l h a = am_cn j ∧ ∀ i : Int, 0 ≤ i → i < am_cn j → am_m h a i = am_cb j i
  | t => ∃ (q : vw_C) (V : Nat → Value), vwCl[t - 1]? = some q ∧ t_OB (ea G a) ((eD G).1 (t - 1)) q.2.2 ((eD G).2 (t - 1)) H V ∧ ∀ k : Nat, k < q.2.2 → am_RV G ((am_ft t).getD k 0, am_m h a (k : Int)) (V k)
/-- which part of the heap is being made -/
def am_ph (G : am_En) (h : AH) (H : Heap) : Prop := (eB G = 0 ∧ -100000000 ≤ am_n h ∧ H.size = eS G + (am_n h + 100000000).toNat) ∨ (eB G ≠ 0 ∧ eS G ≤ eB G ∧ 0 ≤ am_n h ∧ H.size = eB G + (am_n h).toNat)
def am_ok (G : am_En) (h : AH) (H : Heap) (a : Int) : Prop := ¬ a = -1 ∧ ((-100000000 ≤ a ∧ a < am_n h ∧ eS G ≤ ea G a ∧ ea G a < H.size ∧ (a < 0 → eB G ≠ 0 → ea G a < eB G) ∧ ¬ am_t h a = 18 ∧ ¬ am_t h a = 26) ∨ (a ≤ -300000000 ∧ (am_t h a = 18 ∨ am_t h a = 26) ∧ ea G a < eS G))
def am_HM (G : am_En) (h : AH) (H : Heap) : Prop :=
  am_ph G h H ∧ (am_sl h = (eL G : Int) ∧ ∀ j : Nat, j < eL G → am_sx h (j : Int) = (ex G j).toInt) ∧ ∀ a : Int, am_t h a ≠ 0 → am_ok G h H a ∧ am_CO G h a H
theorem am_RVr {G : am_En} {a : Int} {V : Value} (h : am_RV G (2, a) V) (ha : ¬ a = -1) : V = .ref (ea G a) := by
  rcases h with ⟨h, -⟩ | ⟨-, h⟩
  · exact absurd h ha
  · exact h
/-- what may be written -/
def am_wt (t : Nat) : Prop := t ≠ 0 ∧ t ≠ 18 ∧ t ≠ 26
theorem am_HM.o {G : am_En} {h : AH} {H : Heap} {a : Int} (hH : am_HM G h H) (ha : am_t h a ≠ 0) : ¬ a = -1 ∧ ea G a < H.size := by
  obtain ⟨h1, h2⟩ := (hH.2.2 a ha).1
  refine ⟨h1, ?_⟩
  rcases h2 with ⟨-, -, -, h3, -⟩ | ⟨-, -, h3⟩
  · exact h3
  · have := hH.1
    unfold am_ph at this
    omega
theorem am_HM.w {G : am_En} {h : AH} {H : Heap} {a : Int} (hH : am_HM G h H) (ha : am_wt (am_t h a)) : ¬ a = -1 ∧ eS G ≤ ea G a ∧ ea G a < H.size ∧ -100000000 ≤ a ∧ a < am_n h ∧ (a < 0 → eB G ≠ 0 → ea G a < eB G) := by
  obtain ⟨h1, h2⟩ := (hH.2.2 a ha.1).1
  refine ⟨h1, ?_⟩
  rcases h2 with ⟨h3, h4, h5, h6, h7, -⟩ | ⟨-, h3, -⟩
  · exact ⟨h5, h6, h3, h4, h7⟩
  · obtain ⟨-, q1, q2⟩ := ha
    rcases h3 with h3 | h3
    · exact absurd h3 q1
    · exact absurd h3 q2
theorem am_ea_hi {G : am_En} {a : Int} (h : -100000000 ≤ a) : ea G a = if 0 ≤ a ∧ eB G ≠ 0 then eB G + a.toNat else eS G + (a + 100000000).toNat := if_neg (by omega)
/-- different cells have different places -/
theorem am_HM.ne {G : am_En} {h : AH} {H : Heap} {a b : Int} (hH : am_HM G h H) (ha : am_wt (am_t h a)) (hb : am_t h b ≠ 0) (hab : ¬ b = a) : ea G b ≠ ea G a := by
  obtain ⟨a1, a2, a3, a4, a5, a6⟩ := hH.w ha
  by_cases hw : am_wt (am_t h b)
  · obtain ⟨b1, b2, b3, b4, b5, b6⟩ := hH.w hw
    have e1 := am_ea_hi (G := G) a4
    have e2 := am_ea_hi (G := G) b4
    by_cases c0 : eB G ≠ 0
    · by_cases c1 : 0 ≤ a <;> by_cases c2 : 0 ≤ b
      · rw [if_pos ⟨c1, c0⟩] at e1
        rw [if_pos ⟨c2, c0⟩] at e2
        omega
      · have := b6 (by omega) c0
        rw [if_pos ⟨c1, c0⟩] at e1
        omega
      · have := a6 (by omega) c0
        rw [if_pos ⟨c2, c0⟩] at e2
        omega
      · rw [if_neg (fun z => c1 z.1)] at e1
        rw [if_neg (fun z => c2 z.1)] at e2
        omega
    · rw [if_neg (fun z => c0 z.2)] at e1
      rw [if_neg (fun z => c0 z.2)] at e2
      omega
  · obtain ⟨b1, b2⟩ := (hH.2.2 b hb).1
    rcases b2 with ⟨-, -, -, -, -, q1, q2⟩ | ⟨-, -, q⟩
    · exact absurd ⟨hb, q1, q2⟩ hw
    · omega
/-- the next cell's place -/
theorem am_ph.new {G : am_En} {h : AH} {H : Heap} (hp : am_ph G h H) (hf : am_fr h) : ea G (am_n h) = H.size ∧ ¬ am_n h = -1 ∧ eS G ≤ H.size ∧ -100000000 ≤ am_n h := by
  unfold am_ph at hp
  unfold am_fr at hf
  have h0 : -100000000 ≤ am_n h := by omega
  have e := am_ea_hi (G := G) h0
  refine ⟨?_, by omega, by omega, h0⟩
  rcases hp with ⟨p1, p2, p3⟩ | ⟨p1, p2, p3, p4⟩
  · rw [if_neg (fun z => z.2 p1)] at e
    omega
  · rw [if_pos ⟨p3, p1⟩] at e
    omega
def am_W : List Cond := lw_tbl.filter goodWord
def am_isN : Cond → Bool
  | .fieldLinkNest .. => true
  | .methodLinkNest .. => true
  | .castable .. => true
  | .declares .. => true
  | _ => false
def am_own (j : Nat) : String × Nat × String := am_nth [("BudgetJury$Tokens", 31, "ward cap project cost in grows voter likes budget ban when year pot purse fans built pleased not and or min max "), ("BudgetJury$Tokens", 91, "()[];,+-*/<>="), ("BudgetJuryLaw", 35, "p"), ("BudgetJuryLaw", 54, "v"), ("BudgetJuryLaw", 59, "year/"), ("BudgetJuryLaw", 61, "*"), ("BudgetJuryLaw", 63, "=year"), ("BudgetJuryLaw", 65, "pot<"), ("BudgetJuryLaw", 67, "built "), ("BudgetJuryLaw", 69, "likes "), ("BudgetJuryLaw", 71, " "), ("BudgetJuryLaw", 73, "cost "), ("BudgetJuryLaw", 75, ">5*"), ("BudgetJuryLaw", 77, "not fans "), ("BudgetJuryLaw", 79, ">="), ("BudgetJuryLaw", 81, "purse "), ("BudgetJuryLaw", 83, ">"), ("BudgetJuryLaw", 85, " or pleased "), ("BudgetJuryLaw", 87, "min(pot,"), ("BudgetJuryLaw", 89, ")-year<0 and [year>"), ("BudgetJuryLaw", 91, " or not built "), ("BudgetJuryLaw", 93, "]"), ("BudgetJuryLaw", 110, "ward w"), ("BudgetJuryLaw", 112, " cap "), ("BudgetJuryLaw", 114, ";"), ("BudgetJuryLaw", 120, "budget "), ("BudgetJuryLaw", 122, ";\n"), ("BudgetJuryLaw", 125, "project p"), ("BudgetJuryLaw", 127, " cost "), ("BudgetJuryLaw", 129, " in w"), ("BudgetJuryLaw", 131, " grows "), ("BudgetJuryLaw", 139, "voter v"), ("BudgetJuryLaw", 141, " likes p"), ("BudgetJuryLaw", 143, " p"), ("BudgetJuryLaw", 148, "ban p"), ("BudgetJuryLaw", 150, " when ")] j ("", 0, "")
/-- the texts that the throws carry: class, entry, text -/
def am_msg : List (String × Nat × String) := [("BudgetJury", 71, "the tape is full"), ("BudgetJury", 82, "not 0 to the number of bytes of the tape"), ("BudgetJury", 109, "what is not 0 to 11"), ("BudgetJury", 140, "no such ward"), ("BudgetJury", 142, "what is not 0 to 3"), ("BudgetJury", 151, "no such project"), ("BudgetJury", 153, "what is not 0 to 7"), ("BudgetJury", 164, "no such voter"), ("BudgetJury", 169, "no such voter or no such project"), ("BudgetJury", 193, "coins are not 1 to 999"), ("BudgetJury", 203, "the budget is not 0 to 9999"), ("BudgetJury", 208, "the project is open"), ("BudgetJury", 216, "years are not 1 to 60"), ("BudgetJury", 224, "what is not 6 to 10"), ("BudgetJury", 226, "years are not 1 to 20")]
/-- what the world holds beside the law's own cells -/
def am_SF (G : am_En) (U : State) (H : Heap) : Prop := ∀ j : Nat, j < 36 → va_O "java/lang/String" (ek G j) (fun q => eS G ≤ q) U H ∧ va_OF "java/lang/String" "coder" "B" (.int 0) (ek G j) (fun q => eS G ≤ q) U H ∧ va_OF "java/lang/String" "value" "[B" (.ref (ev G j)) (ek G j) (fun q => eS G ≤ q) U H ∧ va_T .byte (ev G j) (am_nth am_tx j []).length (fun i => .int (Int32.ofInt (am_tb (j : Int) (i : Int)))) (fun q => eS G ≤ q) U H
def am_ZF (G : am_En) (U : State) (H : Heap) : Prop :=
  (va_Z "java/lang/Integer" "DigitOnes" "[B" (.ref (ev G 36)) (fun q => eS G ≤ q) U H ∧ va_T .byte (ev G 36) 100 (fun i => .int (Int32.ofInt (48 + (i : Int) % 10))) (fun q => eS G ≤ q) U H) ∧ (va_Z "java/lang/Integer" "DigitTens" "[B" (.ref (ev G 37)) (fun q => eS G ≤ q) U H ∧ va_T .byte (ev G 37) 100 (fun i => .int (Int32.ofInt (48 + (i : Int) / 10))) (fun q => eS G ≤ q) U H) ∧
  va_Z "java/lang/String" "COMPACT_STRINGS" "Z" (.int 1) (fun q => eS G ≤ q) U H ∧ va_Zq "jdk/internal/util/Preconditions" "SIOOBE_FORMATTER" "Ljava/util/function/BiFunction;" (fun q => eS G ≤ q) U H ∧
  vx_Zq Bundle.tN "UNASSIGNED_STACK" Bundle.steD (fun q => eS G ≤ q) U H ∧ vx_Zq Bundle.tN "SUPPRESSED_SENTINEL" Bundle.listD (fun q => eS G ≤ q) U H
/-- the classes of what is thrown -/
def am_en : Nat → String
  | 1 => "java/lang/IllegalStateException"
  | 2 => "java/lang/IllegalArgumentException"
  | _ => "java/lang/IndexOutOfBoundsException"
/-- a class of rows of rows -/
def am_GK (cA comp : ClassId) (ty : FieldType) (U : State) : Prop := ∃ kA kC : Class, U.vm.classes[cA]? = some kA ∧ kA.kind = .array comp (.array ty) ∧ U.vm.classes[comp]? = some kC
theorem am_GK.moved {cA comp : ClassId} {ty : FieldType} {u U : State} (hvm : u.vm.Alike U.vm) (h : am_GK cA comp ty u) : am_GK cA comp ty U := by
  obtain ⟨kA, kC, h1, h2, h3⟩ := h
  obtain ⟨k1, e1, f1⟩ := hvm.2.2 _ _ h1
  obtain ⟨k3, e3, -⟩ := hvm.2.2 _ _ h3
  exact ⟨k1, k3, e1, by rw [f1]; exact h2, e3⟩
/-- rows of rows can be made -/
def am_AO (ty : FieldType) (U : State) : Prop := (Cond.arrayOver (.array ty)).before #[] U = true
/-- what is so of the classes -/
def am_TF (G : am_En) (U : State) : Prop :=
  va_K (eD G) vwCl [(eI G, .int), (eY G, .byte), (eJ G, .long), (eZ G, .boolean), (eQ G, .array .int), (eR G, .array .boolean)] U ∧ (∀ w ∈ lw_tbl, am_isN w = true → va_Nw w U) ∧ (∀ j : Nat, j < 36 → vk_R (am_own j).1 (am_own j).2.1 (am_own j).2.2 (ek G j) U) ∧
  (∀ q ∈ am_msg, ∃ a, vk_R q.1 q.2.1 q.2.2 a U) ∧ (∀ x k : Nat, 1 ≤ x → x ≤ 3 → 1 ≤ k → k ≤ 3 → x ≠ k → va_Nc (am_en x) (am_en k) U) ∧ am_GK (eQ G) (eI G) .int U ∧ am_GK (eR G) (eZ G) .boolean U ∧ am_AO .int U ∧ am_AO .boolean U
def am_WK (G : am_En) (U : State) (H : Heap) : Prop := am_TF G U ∧ am_SF G U H ∧ am_ZF G U H ∧ va_X (eb G) (eL G) (ex G) U H ∧ eb G < eS G ∧ eS G ≤ H.size ∧ eL G ≤ 260
theorem am_WK.kept {G : am_En} {U : State} {H H1 : Heap} (h : am_WK G U H) (hz : H.size ≤ H1.size) (hq : ∀ q : Nat, q < H.size → ¬ eS G ≤ q → H1[q]? = H[q]?) : am_WK G U H1 := by
  obtain ⟨h1, h2, h3, h4, h5, h6, h7⟩ := h
  refine ⟨h1, fun j hj => ?_, ?_, h4.kept (hq _ (by omega) (by omega)), h5, Nat.le_trans h6 hz, h7⟩
  · obtain ⟨a1, a2, a3, a4⟩ := h2 j hj
    exact ⟨a1.kept hq, a2.kept hq, a3.kept hq, a4.kept hq⟩
  · obtain ⟨⟨a1, a1'⟩, ⟨a2, a2'⟩, a3, a4, a5, a6⟩ := h3
    exact ⟨⟨a1.kept hq, a1'.kept hq⟩, ⟨a2.kept hq, a2'.kept hq⟩, a3.kept hq, a4.kept hq, a5.kept hq, a6.kept hq⟩
theorem am_isN_warm {w : Cond} {s U : State} (hW : s.WarmedH U.vm) (hw : am_isN w = true) (h : va_Nw w s) : va_Nw w U := by
  cases w <;> first | exact va_Nw.warmF hW h | exact va_Nw.warmM hW h | exact va_Nw.warmC hW h | exact va_Nw.warmD hW h | cases hw
theorem am_TF.warm {G : am_En} {s U : State} (hW : s.WarmedH U.vm) (h : am_TF G s) : am_TF G U := by
  obtain ⟨h1, h2, h3, h4, h5, h6, h7, h8, h9⟩ := h
  refine ⟨va_K.moved hW.alike h1, fun w hw hn => am_isN_warm hW hn (h2 w hw hn), fun j hj => vk_R.warm hW (h3 j hj), fun q hq => ?_, fun x k a1 a2 a3 a4 a5 => va_Nc.moved hW.alike (h5 x k a1 a2 a3 a4 a5), h6.moved hW.alike, h7.moved hW.alike, over_moved hW.alike h8, over_moved hW.alike h9⟩
  obtain ⟨a, ha⟩ := h4 q hq
  exact ⟨a, vk_R.warm hW ha⟩
theorem am_WK.warm {G : am_En} {s U : State} {H : Heap} (hW : s.WarmedH U.vm) (h : am_WK G s H) : am_WK G U H := by
  obtain ⟨h1, h2, h3, h4, h5⟩ := h
  refine ⟨h1.warm hW, fun j hj => ?_, ?_, va_X.moved hW.alike h4, h5⟩
  · obtain ⟨a1, a2, a3, a4⟩ := h2 j hj
    exact ⟨va_O.moved hW.alike a1, va_OF.moved hW.alike a2, va_OF.moved hW.alike a3, va_T.moved hW.alike a4⟩
  · obtain ⟨⟨a1, a1'⟩, ⟨a2, a2'⟩, a3, a4, a5, a6⟩ := h3
    exact ⟨⟨va_Z.moved hW.alike a1, va_T.moved hW.alike a1'⟩, ⟨va_Z.moved hW.alike a2, va_T.moved hW.alike a2'⟩, va_Z.moved hW.alike a3, va_Zq.moved hW.alike a4, vx_Zq.moved hW.alike a5, vx_Zq.moved hW.alike a6⟩
end
section
/-! ===== one instruction of the abstract machine is one of the real machine ===== -/
def am_mn (m : Nat) : MethodName := (am_inf m).1
def am_cd (m : Nat) : ByteArray := (am_inf m).2.1
def am_re (m : Nat) : Option FieldType := (am_inf m).2.2.2.1
def am_hh (m : Nat) : List (Nat × Nat × Nat × Nat) := (am_inf m).2.2.2.2.1
def am_wi (m : Nat) : Nat := (am_inf m).2.2.2.2.2.1
def am_RS (G : am_En) : List AV → List Value → Prop
  | [], [] => True
  | v :: r, V :: R => am_RV G v V ∧ am_RS G r R
  | _, _ => False
theorem am_RS_inv {G : am_En} {v : AV} {r : List AV} {st : List Value} (h : am_RS G (v :: r) st) : ∃ (V : Value) (R : List Value), st = V :: R ∧ am_RV G v V ∧ am_RS G r R := by
  cases st with
  | nil => exact h.elim
  | cons V R => exact ⟨V, R, rfl, h.1, h.2⟩
/-- the frame that runs method m: the machine, the code, the words, the world, the room -/
def am_Cx (G : am_En) (l : Launch) (d m : Nat) (p : Program) (R : Room) (s : State) (mth : MethodId) (args : Array Value) (meth : Method) (cd : Code) : Prop :=
  p.tables.exec = Jvm.exec ∧ cd.code = am_cd m ∧ cd.maxLocals = am_ml m ∧ s.vm.findClass (am_mn m).cls = some mth.cls ∧ (∀ w ∈ am_W, w.before args s = true) ∧ am_WK G s s.heap ∧
  (d + 8 ≤ R.frames ∧ 40 * d + 200 ≤ R.locals ∧ (am_cap m).1 = R.cells ∧ (am_cap m).2 = R.slots) ∧ meth.locks = false ∧ l.stackTraces = false ∧ ((am_mn m).name = "<init>" → meth.name = "<init>")
def am_Gl (G : am_En) (m : Nat) (p : Program) (l : Launch) (e : Env) (R : Room) (s : State) (mth : MethodId) (args : Array Value) (below : List Frame) (meth : Method) (cd : Code) (Q : State → Prop) (c : AC) : Prop :=
  ∀ (H : Heap) (locs : List Loc) (arr : Array Slot) (st : List Value), am_HM G c.2.2.2.1 H → va_S (fun q => eS G ≤ q) s.heap H locs → am_RL G (am_ml m) c.2.1 arr → am_RS G c.2.2.1 st → c.2.2.2.2.1 ≤ R.cells → c.2.2.2.2.2 ≤ R.slots →
    W p l e R s mth args below meth cd H locs c.2.2.2.2.1 c.2.2.2.2.2 Q (F0 mth c.1 arr st)
section SIM
variable {G : am_En} {l : Launch} {d m : Nat} {p : Program} {e : Env} {R : Room} {s : State} {mth : MethodId} {args : Array Value} {below : List Frame} {meth : Method} {cd : Code} {Q : State → Prop} {K : AK} {X : AX} {Z : AC → Prop} {hs : List (Nat × Nat × Nat × Nat)}
variable {pc : Nat} {ls st : List AV} {h : AH} {c s0 : Nat}
theorem am_pI_inv {f : Int → List AV → ASh} (w : am_stp X Z d hs K (am_pI st f)) : ∃ a r, st = (0, a) :: r ∧ am_stp X Z d hs K (f a r) := by
  cases st with
  | nil => exact w.elim
  | cons v r =>
    obtain ⟨t, a⟩ := v
    match t, w with
    | 0, w => exact ⟨a, r, rfl, w⟩
    | n + 1, w => exact w.elim
theorem am_pL_inv {f : Int → List AV → ASh} (w : am_stp X Z d hs K (am_pL st f)) : ∃ a r, st = (1, a) :: r ∧ am_stp X Z d hs K (f a r) := by
  cases st with
  | nil => exact w.elim
  | cons v r =>
    obtain ⟨t, a⟩ := v
    match t, w with
    | 0, w => exact w.elim
    | 1, w => exact ⟨a, r, rfl, w⟩
    | n + 2, w => exact w.elim
theorem am_pR_inv {f : Int → List AV → ASh} (w : am_stp X Z d hs K (am_pR st f)) : ∃ a r, st = (2, a) :: r ∧ am_stp X Z d hs K (f a r) := by
  cases st with
  | nil => exact w.elim
  | cons v r =>
    obtain ⟨t, a⟩ := v
    match t, w with
    | 0, w => exact w.elim
    | 1, w => exact w.elim
    | 2, w => exact ⟨a, r, rfl, w⟩
    | n + 3, w => exact w.elim
theorem am_pD_inv {f : Int → List AV → ASh} (w : am_stp X Z d hs K (am_pD st f)) : ∃ a r, st = (3, a) :: r ∧ am_stp X Z d hs K (f a r) := by
  cases st with
  | nil => exact w.elim
  | cons v r =>
    obtain ⟨t, a⟩ := v
    match t, w with
    | 0, w => exact w.elim
    | 1, w => exact w.elim
    | 2, w => exact w.elim
    | 3, w => exact ⟨a, r, rfl, w⟩
    | n + 4, w => exact w.elim
theorem am_p1_inv {f : AV → List AV → ASh} (w : am_stp X Z d hs K (am_p1 st f)) : ∃ v r, st = v :: r ∧ (v.1 = 0 ∨ v.1 = 2) ∧ am_stp X Z d hs K (f v r) := by
  cases st with
  | nil => exact w.elim
  | cons v r =>
    obtain ⟨t, a⟩ := v
    match t, w with
    | 0, w => exact ⟨(0, a), r, rfl, Or.inl rfl, w⟩
    | 1, w => exact w.elim
    | 2, w => exact ⟨(2, a), r, rfl, Or.inr rfl, w⟩
    | n + 3, w => exact w.elim
theorem am_RV_cat1 {v : AV} {V : Value} (h : am_RV G v V) (hv : v.1 = 0 ∨ v.1 = 2) : V.category = 1 := by
  obtain ⟨t, a⟩ := v
  rcases hv with rfl | rfl
  · obtain ⟨x, rfl, -⟩ := h
    rfl
  · rcases h with ⟨-, rfl⟩ | ⟨-, rfl⟩ <;> rfl
theorem am_get_lt : ∀ {ls : List AV} {i : Nat}, am_hold ls i → i < ls.length
  | [], i, h => by rcases h with h | h <;> simp [am_get] at h
  | _ :: _, 0, _ => by simp
  | _ :: r, i + 1, h => by
    have := am_get_lt (ls := r) (i := i) h
    simp
    omega
theorem am_ld_inv {v : AV} {want : Nat} {f : AV → ASh} (w : am_stp X Z d hs K (am_ld v want f)) : am_stp X Z d hs K (f v) ∧ ((v.1 = 0 ∧ want = 0) ∨ (v.1 = 1 ∧ want = 1) ∨ (v.1 = 3 ∧ want = 3) ∨ ((v.1 = 2 ∨ v.1 = 4 ∨ v.1 = 5 ∨ v.1 = 7 ∨ v.1 = 11) ∧ want = 2)) := by
  obtain ⟨t, a⟩ := v
  match t, w with
  | 0, w =>
    match want, w with
    | 0, w => exact ⟨w, Or.inl ⟨rfl, rfl⟩⟩
    | n + 1, w => exact w.elim
  | 1, w =>
    match want, w with
    | 0, w => exact w.elim
    | 1, w => exact ⟨w, Or.inr (Or.inl ⟨rfl, rfl⟩)⟩
    | n + 2, w => exact w.elim
  | 2, w =>
    match want, w with
    | 0, w => exact w.elim
    | 1, w => exact w.elim
    | 2, w => exact ⟨w, Or.inr (Or.inr (Or.inr ⟨Or.inl rfl, rfl⟩))⟩
    | n + 3, w => exact w.elim
  | 3, w =>
    match want, w with
    | 0, w => exact w.elim
    | 1, w => exact w.elim
    | 2, w => exact w.elim
    | 3, w => exact ⟨w, Or.inr (Or.inr (Or.inl ⟨rfl, rfl⟩))⟩
    | n + 4, w => exact w.elim
  | 4, w =>
    match want, w with
    | 0, w => exact w.elim
    | 1, w => exact w.elim
    | 2, w => exact ⟨w, Or.inr (Or.inr (Or.inr ⟨Or.inr (Or.inl rfl), rfl⟩))⟩
    | n + 3, w => exact w.elim
  | 5, w =>
    match want, w with
    | 0, w => exact w.elim
    | 1, w => exact w.elim
    | 2, w => exact ⟨w, Or.inr (Or.inr (Or.inr ⟨Or.inr (Or.inr (Or.inl rfl)), rfl⟩))⟩
    | n + 3, w => exact w.elim
  | 6, w => exact w.elim
  | 7, w =>
    match want, w with
    | 0, w => exact w.elim
    | 1, w => exact w.elim
    | 2, w => exact ⟨w, Or.inr (Or.inr (Or.inr ⟨Or.inr (Or.inr (Or.inr (Or.inl rfl))), rfl⟩))⟩
    | n + 3, w => exact w.elim
  | 8, w => exact w.elim
  | 9, w => exact w.elim
  | 10, w => exact w.elim
  | 11, w =>
    match want, w with
    | 0, w => exact w.elim
    | 1, w => exact w.elim
    | 2, w => exact ⟨w, Or.inr (Or.inr (Or.inr ⟨Or.inr (Or.inr (Or.inr (Or.inr rfl))), rfl⟩))⟩
    | n + 3, w => exact w.elim
  | n + 12, w => exact w.elim
theorem am_ld2_inv {v v2 : AV} {want : Nat} {f : AV → ASh} (w : am_stp X Z d hs K (am_ld2 v v2 want f)) : v2.1 = 8 ∧ am_stp X Z d hs K (am_ld v want f) := by
  obtain ⟨t, a⟩ := v2
  by_cases ht : t = 8
  · subst ht
    exact ⟨rfl, w⟩
  · exfalso
    unfold am_ld2 at w
    split at w
    · rename_i hh
      exact ht (by cases hh; rfl)
    · exact w.elim
/-- reading a local -/
theorem am_rd {arr : Array Slot} {n i : Nat} (hL : am_RL G n ls arr) (hv : (am_get ls i).1 < 8 ∨ (am_get ls i).1 = 11) (h2 : ((am_get ls i).1 = 1 ∨ (am_get ls i).1 = 3) → (am_get ls (i + 1)).1 = 8) : ∃ V, arr[i]? = some (.val V) ∧ am_RV G (am_get ls i) V := hL.2.2.2 i hv h2
theorem am_get_set : ∀ {ls : List AV} {i j : Nat} {v : AV}, i < ls.length → am_get (am_set ls i v) j = if j = i then v else am_get ls j
  | [], i, j, v, h => by simp at h
  | a :: r, 0, 0, v, h => by simp [am_set, am_get]
  | a :: r, 0, j + 1, v, h => by simp [am_set, am_get]
  | a :: r, i + 1, 0, v, h => by simp [am_set, am_get]
  | a :: r, i + 1, j + 1, v, h => by
    simp only [am_set, am_get]
    rw [am_get_set (by simpa using h)]
    simp
theorem am_len_set : ∀ {ls : List AV} {i : Nat} {v : AV}, (am_set ls i v).length = ls.length
  | [], _, _ => rfl
  | _ :: _, 0, _ => rfl
  | _ :: r, i + 1, v => by simp [am_set, am_len_set (ls := r)]
theorem am_get_out : ∀ {ls : List AV} {i : Nat}, ls.length ≤ i → am_get ls i = (9, 0)
  | [], _, _ => rfl
  | _ :: _, 0, h => by simp at h
  | _ :: r, i + 1, h => by
    simp only [am_get]
    exact am_get_out (by simpa using h)
/-- all that the real locals hold, as the kit lists it -/
def am_all (arr : Array Slot) : List (Nat × Value) := (List.range arr.size).filterMap fun i => match (arr[i]? : Option Slot) with
  | some (Slot.val V) => some (i, V)
  | _ => none
theorem am_all_mem {arr : Array Slot} {q : Nat × Value} : q ∈ am_all arr ↔ arr[q.1]? = some (.val q.2) := by
  unfold am_all
  constructor
  · intro hq
    obtain ⟨i, hi, he⟩ := List.mem_filterMap.mp hq
    split at he
    · rename_i V hV
      cases he
      exact hV
    · cases he
  · intro hq
    refine List.mem_filterMap.mpr ⟨q.1, List.mem_range.mpr (Array.getElem?_eq_some_iff.mp hq).1, ?_⟩
    rw [hq]
theorem am_all_has {arr : Array Slot} {n : Nat} (hz : arr.size = n) (hw : lv_wf arr) : lv_has arr n (am_all arr) := ⟨hz, hw, fun _ hq => am_all_mem.mp hq⟩
theorem am_cat2 {v : AV} {V : Value} (h : am_RV G v V) (hc : V.category = 2) : v.1 = 1 ∨ v.1 = 3 := by
  obtain ⟨t, a⟩ := v
  match t, h with
  | 0, h => obtain ⟨x, rfl, -⟩ := h; cases hc
  | 1, _ => exact Or.inl rfl
  | 2, h => rcases h with ⟨-, rfl⟩ | ⟨-, rfl⟩ <;> cases hc
  | 3, _ => exact Or.inr rfl
  | 4, h => have h : V = .ref (eb G) := h; subst h; cases hc
  | 5, h => obtain ⟨-, -, rfl⟩ := h; cases hc
  | 6, h => exact h.elim
  | 7, h => obtain ⟨-, -, rfl⟩ := h; cases hc
  | 8, h => exact h.elim
  | 9, h => exact h.elim
  | 10, h => obtain ⟨q, rfl⟩ := h; cases hc
  | 11, h => rcases h with rfl | ⟨q, rfl⟩ <;> cases hc
  | n + 12, h => exact h.elim
/-- writing a local of one slot -/
theorem am_wrg {arr arr' : Array Slot} {n i : Nat} {v : AV} {V : Value} (hL : am_RL G n ls arr) (hi : i < n) (hV : (v.1 < 8 ∨ v.1 = 11) → am_RV G v V) (h8 : ¬ v.1 = 8)
    (ha : lv_has arr' n ((i, V) :: (am_all arr).filter (fun q => !(q.1 == i) && !(q.1 + 1 == i && q.2.category == 2)))) : am_RL G n (am_st1 ls i v) arr' := by
  obtain ⟨h1, h2, h3, h4⟩ := hL
  refine ⟨ha.1, by unfold am_st1; rw [am_len_set]; exact h2, ha.2.1, fun j hj hj2 => ?_⟩
  unfold am_hold am_st1 at hj
  unfold am_st1 at hj2 ⊢
  rw [am_get_set (by omega)] at hj hj2 ⊢
  by_cases hji : j = i
  · rw [if_pos hji]
    subst hji
    rw [if_pos rfl] at hj
    exact ⟨V, ha.2.2 (j, V) List.mem_cons_self, hV hj⟩
  · rw [if_neg hji] at hj hj2 ⊢
    rw [am_get_set (by omega)] at hj2
    obtain ⟨V', e1, e2⟩ := h4 j hj (fun hc => by
      by_cases hj1 : j + 1 = i
      · exfalso
        have := hj2 hc
        rw [if_pos hj1] at this
        exact h8 this
      · have := hj2 hc
        rw [if_neg hj1] at this
        exact this)
    refine ⟨V', ha.2.2 (j, V') (List.mem_cons_of_mem _ (List.mem_filter.mpr ⟨am_all_mem.mpr e1, ?_⟩)), e2⟩
    simp only [Bool.and_eq_true, Bool.not_eq_true', beq_eq_false_iff_ne, ne_eq, Bool.and_eq_false_iff]
    refine ⟨hji, ?_⟩
    by_cases hj1 : j + 1 = i
    · right
      intro hc
      have hcat : (am_get ls j).1 = 1 ∨ (am_get ls j).1 = 3 := am_cat2 e2 hc
      have := hj2 hcat
      rw [if_pos hj1] at this
      exact absurd this h8
    · left
      exact hj1
theorem am_wr1 {arr arr' : Array Slot} {n i : Nat} {v : AV} {V : Value} (hL : am_RL G n ls arr) (hi : i < n) (hV : am_RV G v V) (hv1 : ¬ v.1 = 1) (hv3 : ¬ v.1 = 3)
    (ha : lv_has arr' n ((i, V) :: (am_all arr).filter (fun q => !(q.1 == i) && !(q.1 + 1 == i && q.2.category == 2)))) : am_RL G n (am_st1 ls i v) arr' :=
  am_wrg hL hi (fun _ => hV) (fun h => by unfold am_RV at hV; rw [h] at hV; exact hV) ha
theorem am_wr0 {arr arr' : Array Slot} {n i : Nat} {V : Value} (hL : am_RL G n ls arr) (hi : i < n) 
    (ha : lv_has arr' n ((i, V) :: (am_all arr).filter (fun q => !(q.1 == i) && !(q.1 + 1 == i && q.2.category == 2)))) : am_RL G n (am_st1 ls i (9, 0)) arr' :=
  am_wrg hL hi (fun h => by simp at h) (by simp) ha
theorem am_pA_inv {f : Int → List AV → ASh} {g : List AV → ASh} (w : am_stp X Z d hs K (am_pA st f g)) : (∃ a r, st = (2, a) :: r ∧ am_stp X Z d hs K (f a r)) ∨ ∃ z r, st = (10, z) :: r ∧ am_stp X Z d hs K (g r) := by
  cases st with
  | nil => exact w.elim
  | cons v r =>
    obtain ⟨t, a⟩ := v
    by_cases h2 : t = 2
    · subst h2
      exact Or.inl ⟨a, r, rfl, w⟩
    · by_cases h10 : t = 10
      · subst h10
        exact Or.inr ⟨a, r, rfl, w⟩
      · exfalso
        unfold am_pA at w
        split at w
        · rename_i hh
          cases hh
          exact h2 rfl
        · rename_i hh
          cases hh
          exact h10 rfl
        · exact w.elim
/-- writing a local of two slots -/
theorem am_wr2 {arr arr' : Array Slot} {n i : Nat} {v : AV} {V : Value} (hL : am_RL G n ls arr) (hi : i + 1 < n) (hV : am_RV G v V)
    (ha : lv_has arr' n ((i, V) :: (am_all arr).filter (fun q => !(q.1 == i) && (!(q.1 == i + 1) && !(q.1 + 1 == i && q.2.category == 2))))) : am_RL G n (am_st2 ls i v) arr' := by
  obtain ⟨h1, h2, h3, h4⟩ := hL
  refine ⟨ha.1, by unfold am_st2; rw [am_len_set, am_len_set]; exact h2, ha.2.1, fun j hj hj2 => ?_⟩
  unfold am_hold at hj
  have hg : ∀ j, am_get (am_st2 ls i v) j = if j = i + 1 then (8, 0) else if j = i then v else am_get ls j := by
    intro j
    unfold am_st2
    rw [am_get_set (by rw [am_len_set]; omega), am_get_set (by omega)]
  rw [hg] at hj hj2 ⊢
  by_cases hj1 : j = i + 1
  · rw [if_pos hj1] at hj
    exact absurd hj (by decide)
  · rw [if_neg hj1] at hj hj2 ⊢
    by_cases hji : j = i
    · rw [if_pos hji]
      subst hji
      exact ⟨V, ha.2.2 (j, V) List.mem_cons_self, hV⟩
    · rw [if_neg hji] at hj hj2 ⊢
      rw [hg, if_neg (show ¬ j + 1 = i + 1 by omega)] at hj2
      obtain ⟨V', e1, e2⟩ := h4 j hj (fun hc => by
        by_cases hj3 : j + 1 = i
        · exfalso
          have := hj2 hc
          rw [if_pos hj3] at this
          have hV' := hV
          unfold am_RV at hV'
          rw [this] at hV'
          exact hV'
        · have := hj2 hc
          rw [if_neg hj3] at this
          exact this)
      refine ⟨V', ha.2.2 (j, V') (List.mem_cons_of_mem _ (List.mem_filter.mpr ⟨am_all_mem.mpr e1, ?_⟩)), e2⟩
      simp only [Bool.and_eq_true, Bool.not_eq_true', beq_eq_false_iff_ne, ne_eq, Bool.and_eq_false_iff]
      refine ⟨hji, hj1, ?_⟩
      by_cases hj3 : j + 1 = i
      · right
        intro hc
        have hcat : (am_get ls j).1 = 1 ∨ (am_get ls j).1 = 3 := am_cat2 e2 hc
        have := hj2 hcat
        rw [if_pos hj3] at this
        have hV' := hV
        unfold am_RV at hV'
        rw [this] at hV'
        exact hV'
      · left
        exact hj3
end SIM
end
section
section SIM
variable {G : am_En} {l : Launch} {d m : Nat} {p : Program} {e : Env} {R : Room} {s : State} {mth : MethodId} {args : Array Value} {below : List Frame} {meth : Method} {cd : Code} {Q : State → Prop} {K : AK} {X : AX} {Z : AC → Prop} {hs : List (Nat × Nat × Nat × Nat)}
variable {pc : Nat} {ls st : List AV} {h : AH} {c s0 : Nat}
theorem am_bits (x : UInt64) : UInt64.ofNat ((x.toNat : Int)).toNat = x := by simp
theorem am_i2c_eq (x : Int32) : am_i2c x.toInt = ((x.toUInt32 % 65536).toInt32).toInt := by
  unfold am_i2c
  have h1 : x.toInt = x.toBitVec.toInt := rfl
  have h2 := BitVec.toInt_eq_toNat_cond x.toBitVec
  have h3 : ((x.toUInt32 % 65536).toInt32).toInt = (x.toUInt32 % 65536).toBitVec.toInt := rfl
  have h4 := BitVec.toInt_eq_toNat_cond (x.toUInt32 % 65536).toBitVec
  have h5 : (x.toUInt32 % 65536).toBitVec.toNat = x.toBitVec.toNat % 65536 := by
    show (x.toUInt32 % 65536).toNat = _
    rw [UInt32.toNat_mod]
    rfl
  have h6 : x.toBitVec.toNat < 4294967296 := x.toBitVec.isLt
  rw [h1, h2, h3, h4, h5]
  have h7 : (2 : Nat) ^ 32 = 4294967296 := by decide
  rw [h7]
  split <;> split <;> omega
theorem am_z_eq_t {x : Int32} (z : x = 0) : x.toInt = 0 := by rw [z]; rfl
theorem am_z_eq_f {x : Int32} (z : ¬ x = 0) : ¬ x.toInt = 0 := fun q => z (Int32.toInt_inj.mp q)
theorem am_z_ne_t {x : Int32} (z : ¬ x = 0) : ¬ x.toInt = 0 := fun q => z (Int32.toInt_inj.mp q)
theorem am_z_ne_f {x : Int32} (z : x = 0) : x.toInt = 0 := by rw [z]; rfl
theorem am_z_lt_t {x : Int32} (z : x < 0) : x.toInt < 0 := Int32.lt_iff_toInt_lt.mp z
theorem am_z_lt_f {x : Int32} (z : ¬ x < 0) : ¬ x.toInt < 0 := fun q => z (Int32.lt_iff_toInt_lt.mpr q)
theorem am_z_ge_t {x : Int32} (z : 0 ≤ x) : ¬ x.toInt < 0 := Int.not_lt.mpr (Int32.le_iff_toInt_le.mp z)
theorem am_z_ge_f {x : Int32} (z : ¬ 0 ≤ x) : x.toInt < 0 := Int.not_le.mp fun q => z (Int32.le_iff_toInt_le.mpr q)
theorem am_z_gt_t {x : Int32} (z : 0 < x) : 0 < x.toInt := Int32.lt_iff_toInt_lt.mp z
theorem am_z_gt_f {x : Int32} (z : ¬ 0 < x) : ¬ 0 < x.toInt := fun q => z (Int32.lt_iff_toInt_lt.mpr q)
theorem am_z_le_t {x : Int32} (z : x ≤ 0) : ¬ 0 < x.toInt := Int.not_lt.mpr (Int32.le_iff_toInt_le.mp z)
theorem am_z_le_f {x : Int32} (z : ¬ x ≤ 0) : 0 < x.toInt := Int.not_le.mp fun q => z (Int32.le_iff_toInt_le.mpr q)
theorem am_c_eq_t {x y : Int32} (z : x = y) : x.toInt = y.toInt := by rw [z]
theorem am_c_eq_f {x y : Int32} (z : ¬ x = y) : ¬ x.toInt = y.toInt := fun q => z (Int32.toInt_inj.mp q)
theorem am_c_ne_t {x y : Int32} (z : ¬ x = y) : ¬ x.toInt = y.toInt := fun q => z (Int32.toInt_inj.mp q)
theorem am_c_ne_f {x y : Int32} (z : x = y) : x.toInt = y.toInt := by rw [z]
theorem am_c_lt_t {x y : Int32} (z : x < y) : x.toInt < y.toInt := Int32.lt_iff_toInt_lt.mp z
theorem am_c_lt_f {x y : Int32} (z : ¬ x < y) : ¬ x.toInt < y.toInt := fun q => z (Int32.lt_iff_toInt_lt.mpr q)
theorem am_c_ge_t {x y : Int32} (z : y ≤ x) : ¬ x.toInt < y.toInt := Int.not_lt.mpr (Int32.le_iff_toInt_le.mp z)
theorem am_c_ge_f {x y : Int32} (z : ¬ y ≤ x) : x.toInt < y.toInt := Int.not_le.mp fun q => z (Int32.le_iff_toInt_le.mpr q)
theorem am_c_gt_t {x y : Int32} (z : y < x) : y.toInt < x.toInt := Int32.lt_iff_toInt_lt.mp z
theorem am_c_gt_f {x y : Int32} (z : ¬ y < x) : ¬ y.toInt < x.toInt := fun q => z (Int32.lt_iff_toInt_lt.mpr q)
theorem am_c_le_t {x y : Int32} (z : x ≤ y) : ¬ y.toInt < x.toInt := Int.not_lt.mpr (Int32.le_iff_toInt_le.mp z)
theorem am_c_le_f {x y : Int32} (z : ¬ x ≤ y) : y.toInt < x.toInt := Int.not_le.mp fun q => z (Int32.le_iff_toInt_le.mpr q)
theorem am_ofInt {n : Int} (hn : -2147483648 ≤ n ∧ n < 2147483648) : (Int32.ofInt n).toInt = n := by
  rw [Int32.toInt_ofInt]
  show n.bmod 4294967296 = n
  rw [Int.bmod_eq_of_le] <;> omega
theorem am_bi {n : Int} (hn : -128 ≤ n ∧ n < 128) : (Int8.ofInt n).toInt32 = Int32.ofInt n := by
  apply Int32.toInt_inj.mp
  rw [am_ofInt (by omega), Int8.toInt_toInt32, Int8.toInt_ofInt]
  show n.bmod 256 = n
  rw [Int.bmod_eq_of_le] <;> omega
theorem am_si {n : Int} (hn : -32768 ≤ n ∧ n < 32768) : (Int16.ofInt n).toInt32 = Int32.ofInt n := by
  apply Int32.toInt_inj.mp
  rw [am_ofInt (by omega), Int16.toInt_toInt32, Int16.toInt_ofInt]
  show n.bmod 65536 = n
  rw [Int.bmod_eq_of_le] <;> omega
theorem am_RV_ref {v : AV} {V : Value} (h : am_RV G v V) (hv : v.1 = 2 ∨ v.1 = 4 ∨ v.1 = 5 ∨ v.1 = 7 ∨ v.1 = 11) : V = .null ∨ ∃ q, V = .ref q := by
  obtain ⟨t, a⟩ := v
  dsimp only at hv
  rcases hv with rfl | rfl | rfl | rfl | rfl
  · rcases h with ⟨-, rfl⟩ | ⟨-, rfl⟩
    · exact Or.inl rfl
    · exact Or.inr ⟨_, rfl⟩
  · exact Or.inr ⟨_, h⟩
  · exact Or.inr ⟨_, h.2.2⟩
  · exact Or.inr ⟨_, h.2.2⟩
  · exact h
theorem am_aloadnull {cc : ByteArray} {H : Heap} {locs : List Loc} {arr : Array Slot} {rest : List Value} (hexec : p.tables.exec = Jvm.exec) (hb : cd.code = cc) {i : Nat} (hdg : decode cc pc = .ok (.aload i, 2)) (hl : arr[i]? = some (.val .null))
    (k : W p l e R s mth args below meth cd H locs c s0 Q (F0 mth (pc + 2) arr (.null :: rest))) : W p l e R s mth args below meth cd H locs c s0 Q (F0 mth pc arr rest) := by
  intro T hT X
  obtain ⟨t, a, b⟩ := k T hT X
  refine ⟨t, ?_, b⟩
  jvm_step X.here [X.here.top, hexec, hb, hdg, hl, Value.isRef]
  exact a
theorem am_aloadnull_n {cc : ByteArray} {H : Heap} {locs : List Loc} {arr : Array Slot} {rest : List Value} (hexec : p.tables.exec = Jvm.exec) (hb : cd.code = cc) {k : Fin 4} {i : Nat} (hdg : decode cc pc = .ok (.aload_n k, 1)) (hi : (k : Nat) = i) (hl : arr[i]? = some (.val .null))
    (k : W p l e R s mth args below meth cd H locs c s0 Q (F0 mth (pc + 1) arr (.null :: rest))) : W p l e R s mth args below meth cd H locs c s0 Q (F0 mth pc arr rest) := by
  subst hi
  intro T hT X
  obtain ⟨t, a, b⟩ := k T hT X
  refine ⟨t, ?_, b⟩
  jvm_step X.here [X.here.top, hexec, hb, hdg, hl, Value.isRef]
  exact a
theorem am_i_iconst (C : am_Cx G l d m p R s mth args meth cd) {n : Int} (hn : -128 ≤ n ∧ n < 128) (hd : decode (am_cd m) pc = .ok (.iconst n, 1)) (w : am_stp X (am_Gl G m p l e R s mth args below meth cd Q) d hs K (am_go (pc + 1, ls, (0, n) :: st, h, c, s0))) : am_Gl G m p l e R s mth args below meth cd Q (pc, ls, st, h, c, s0) := by
  obtain ⟨hx, hb, hml, hown, hts, hW, hR, hlk, htr, hin⟩ := C
  intro H locs arr sv hH hS hL hst hc hs0
  dsimp only at hH hL hst hc hs0 ⊢
  refine lv_iconst (v := Int32.ofInt n) hx hb hd rfl ?_
  exact w H locs arr _ hH hS hL ⟨⟨_, rfl, (am_ofInt (by omega)).symm⟩, hst⟩ hc hs0
theorem am_i_bipush (C : am_Cx G l d m p R s mth args meth cd) {n : Int} (hn : -128 ≤ n ∧ n < 128) (hd : decode (am_cd m) pc = .ok (.bipush n, 2)) (w : am_stp X (am_Gl G m p l e R s mth args below meth cd Q) d hs K (am_go (pc + 2, ls, (0, n) :: st, h, c, s0))) : am_Gl G m p l e R s mth args below meth cd Q (pc, ls, st, h, c, s0) := by
  obtain ⟨hx, hb, hml, hown, hts, hW, hR, hlk, htr, hin⟩ := C
  intro H locs arr sv hH hS hL hst hc hs0
  dsimp only at hH hL hst hc hs0 ⊢
  refine lv_bipush (v := Int32.ofInt n) hx hb hd (am_bi hn) ?_
  exact w H locs arr _ hH hS hL ⟨⟨_, rfl, (am_ofInt (by omega)).symm⟩, hst⟩ hc hs0
theorem am_i_sipush (C : am_Cx G l d m p R s mth args meth cd) {n : Int} (hn : -32768 ≤ n ∧ n < 32768) (hd : decode (am_cd m) pc = .ok (.sipush n, 3)) (w : am_stp X (am_Gl G m p l e R s mth args below meth cd Q) d hs K (am_go (pc + 3, ls, (0, n) :: st, h, c, s0))) : am_Gl G m p l e R s mth args below meth cd Q (pc, ls, st, h, c, s0) := by
  obtain ⟨hx, hb, hml, hown, hts, hW, hR, hlk, htr, hin⟩ := C
  intro H locs arr sv hH hS hL hst hc hs0
  dsimp only at hH hL hst hc hs0 ⊢
  refine lv_sipush (v := Int32.ofInt n) hx hb hd (am_si hn) ?_
  exact w H locs arr _ hH hS hL ⟨⟨_, rfl, (am_ofInt (by omega)).symm⟩, hst⟩ hc hs0
theorem am_i_lconst (C : am_Cx G l d m p R s mth args meth cd) {n : Fin 2} (hd : decode (am_cd m) pc = .ok (.lconst n, 1)) (w : am_stp X (am_Gl G m p l e R s mth args below meth cd Q) d hs K (am_go (pc + 1, ls, (1, (n.val : Int)) :: st, h, c, s0))) : am_Gl G m p l e R s mth args below meth cd Q (pc, ls, st, h, c, s0) := by
  obtain ⟨hx, hb, hml, hown, hts, hW, hR, hlk, htr, hin⟩ := C
  intro H locs arr sv hH hS hL hst hc hs0
  dsimp only at hH hL hst hc hs0 ⊢
  refine lv_lconst hx hb hd rfl ?_
  refine w H locs arr _ hH hS hL ⟨⟨_, rfl, ?_⟩, hst⟩ hc hs0
  match n with
  | 0 => rfl
  | 1 => rfl
theorem am_i_dconst (C : am_Cx G l d m p R s mth args meth cd) (hd : decode (am_cd m) pc = .ok (.dconst 0, 1)) (w : am_stp X (am_Gl G m p l e R s mth args below meth cd Q) d hs K (am_go (pc + 1, ls, (3, 0) :: st, h, c, s0))) : am_Gl G m p l e R s mth args below meth cd Q (pc, ls, st, h, c, s0) := by
  obtain ⟨hx, hb, hml, hown, hts, hW, hR, hlk, htr, hin⟩ := C
  intro H locs arr sv hH hS hL hst hc hs0
  dsimp only at hH hL hst hc hs0 ⊢
  refine lv_dconst0 hx hb hd ?_
  exact w H locs arr _ hH hS hL ⟨⟨_, rfl, by decide +kernel⟩, hst⟩ hc hs0
theorem am_i_iload (C : am_Cx G l d m p R s mth args meth cd) {i : Nat} (hd : decode (am_cd m) pc = .ok (.iload i, 2)) (w : am_stp X (am_Gl G m p l e R s mth args below meth cd Q) d hs K (am_ld (am_get ls (i)) 0 fun v => am_go (pc + 2, ls, v :: st, h, c, s0))) : am_Gl G m p l e R s mth args below meth cd Q (pc, ls, st, h, c, s0) := by
  obtain ⟨hx, hb, hml, hown, hts, hW, hR, hlk, htr, hin⟩ := C
  obtain ⟨w, ht⟩ := am_ld_inv w
  have ht0 : (am_get ls (i)).1 = 0 := by rcases ht with z | z | z | z <;> first | exact z.1 | (have := z.2; omega)
  intro H locs arr sv hH hS hL hst hc hs0
  dsimp only at hH hL hst hc hs0 ⊢
  obtain ⟨V, e1, e2⟩ := am_rd hL (i := i) (by omega) (by omega)
  have e3 := e2
  unfold am_RV at e3
  rw [ht0] at e3
  obtain ⟨x, rfl, e4⟩ := e3
  refine lv_iload hx hb hd e1 ?_
  exact w H locs arr _ hH hS hL ⟨e2, hst⟩ hc hs0
theorem am_i_iload_n (C : am_Cx G l d m p R s mth args meth cd) {i : Fin 4} (hd : decode (am_cd m) pc = .ok (.iload_n i, 1)) (w : am_stp X (am_Gl G m p l e R s mth args below meth cd Q) d hs K (am_ld (am_get ls (i.val)) 0 fun v => am_go (pc + 1, ls, v :: st, h, c, s0))) : am_Gl G m p l e R s mth args below meth cd Q (pc, ls, st, h, c, s0) := by
  obtain ⟨hx, hb, hml, hown, hts, hW, hR, hlk, htr, hin⟩ := C
  obtain ⟨w, ht⟩ := am_ld_inv w
  have ht0 : (am_get ls (i.val)).1 = 0 := by rcases ht with z | z | z | z <;> first | exact z.1 | (have := z.2; omega)
  intro H locs arr sv hH hS hL hst hc hs0
  dsimp only at hH hL hst hc hs0 ⊢
  obtain ⟨V, e1, e2⟩ := am_rd hL (i := i.val) (by omega) (by omega)
  have e3 := e2
  unfold am_RV at e3
  rw [ht0] at e3
  obtain ⟨x, rfl, e4⟩ := e3
  refine lv_iload_n hx hb hd rfl e1 ?_
  exact w H locs arr _ hH hS hL ⟨e2, hst⟩ hc hs0
theorem am_i_lload (C : am_Cx G l d m p R s mth args meth cd) {i : Nat} (hd : decode (am_cd m) pc = .ok (.lload i, 2)) (w : am_stp X (am_Gl G m p l e R s mth args below meth cd Q) d hs K (am_ld2 (am_get ls (i)) (am_get ls (i + 1)) 1 fun v => am_go (pc + 2, ls, v :: st, h, c, s0))) : am_Gl G m p l e R s mth args below meth cd Q (pc, ls, st, h, c, s0) := by
  obtain ⟨hx, hb, hml, hown, hts, hW, hR, hlk, htr, hin⟩ := C
  obtain ⟨h8, w⟩ := am_ld2_inv w
  obtain ⟨w, ht⟩ := am_ld_inv w
  have ht0 : (am_get ls (i)).1 = 1 := by rcases ht with z | z | z | z <;> first | (have := z.2; omega) | (have := z.1; omega)
  intro H locs arr sv hH hS hL hst hc hs0
  dsimp only at hH hL hst hc hs0 ⊢
  obtain ⟨V, e1, e2⟩ := am_rd hL (i := i) (by omega) (fun _ => h8)
  have e3 := e2
  unfold am_RV at e3
  rw [ht0] at e3
  obtain ⟨x, rfl, e4⟩ := e3
  refine lv_lload hx hb hd e1 ?_
  exact w H locs arr _ hH hS hL ⟨e2, hst⟩ hc hs0
theorem am_i_lload_n (C : am_Cx G l d m p R s mth args meth cd) {i : Fin 4} (hd : decode (am_cd m) pc = .ok (.lload_n i, 1)) (w : am_stp X (am_Gl G m p l e R s mth args below meth cd Q) d hs K (am_ld2 (am_get ls (i.val)) (am_get ls (i.val + 1)) 1 fun v => am_go (pc + 1, ls, v :: st, h, c, s0))) : am_Gl G m p l e R s mth args below meth cd Q (pc, ls, st, h, c, s0) := by
  obtain ⟨hx, hb, hml, hown, hts, hW, hR, hlk, htr, hin⟩ := C
  obtain ⟨h8, w⟩ := am_ld2_inv w
  obtain ⟨w, ht⟩ := am_ld_inv w
  have ht0 : (am_get ls (i.val)).1 = 1 := by rcases ht with z | z | z | z <;> first | (have := z.2; omega) | (have := z.1; omega)
  intro H locs arr sv hH hS hL hst hc hs0
  dsimp only at hH hL hst hc hs0 ⊢
  obtain ⟨V, e1, e2⟩ := am_rd hL (i := i.val) (by omega) (fun _ => h8)
  have e3 := e2
  unfold am_RV at e3
  rw [ht0] at e3
  obtain ⟨x, rfl, e4⟩ := e3
  refine lv_lload_n hx hb hd rfl e1 ?_
  exact w H locs arr _ hH hS hL ⟨e2, hst⟩ hc hs0
theorem am_i_dload (C : am_Cx G l d m p R s mth args meth cd) {i : Nat} (hd : decode (am_cd m) pc = .ok (.dload i, 2)) (w : am_stp X (am_Gl G m p l e R s mth args below meth cd Q) d hs K (am_ld2 (am_get ls (i)) (am_get ls (i + 1)) 3 fun v => am_go (pc + 2, ls, v :: st, h, c, s0))) : am_Gl G m p l e R s mth args below meth cd Q (pc, ls, st, h, c, s0) := by
  obtain ⟨hx, hb, hml, hown, hts, hW, hR, hlk, htr, hin⟩ := C
  obtain ⟨h8, w⟩ := am_ld2_inv w
  obtain ⟨w, ht⟩ := am_ld_inv w
  have ht0 : (am_get ls (i)).1 = 3 := by rcases ht with z | z | z | z <;> first | (have := z.2; omega) | (have := z.1; omega)
  intro H locs arr sv hH hS hL hst hc hs0
  dsimp only at hH hL hst hc hs0 ⊢
  obtain ⟨V, e1, e2⟩ := am_rd hL (i := i) (by omega) (fun _ => h8)
  have e3 := e2
  unfold am_RV at e3
  rw [ht0] at e3
  obtain ⟨x, rfl, e4⟩ := e3
  refine lv_dload hx hb hd e1 ?_
  exact w H locs arr _ hH hS hL ⟨e2, hst⟩ hc hs0
theorem am_i_aload (C : am_Cx G l d m p R s mth args meth cd) {i : Nat} (hd : decode (am_cd m) pc = .ok (.aload i, 2)) (w : am_stp X (am_Gl G m p l e R s mth args below meth cd Q) d hs K (am_ld (am_get ls (i)) 2 fun v => am_go (pc + 2, ls, v :: st, h, c, s0))) : am_Gl G m p l e R s mth args below meth cd Q (pc, ls, st, h, c, s0) := by
  obtain ⟨hx, hb, hml, hown, hts, hW, hR, hlk, htr, hin⟩ := C
  obtain ⟨w, ht⟩ := am_ld_inv w
  have ht0 : (am_get ls (i)).1 = 2 ∨ (am_get ls (i)).1 = 4 ∨ (am_get ls (i)).1 = 5 ∨ (am_get ls (i)).1 = 7 ∨ (am_get ls (i)).1 = 11 := by rcases ht with z | z | z | z <;> first | exact z.1 | (have := z.2; omega)
  intro H locs arr sv hH hS hL hst hc hs0
  dsimp only at hH hL hst hc hs0 ⊢
  obtain ⟨V, e1, e2⟩ := am_rd hL (i := i) (by omega) (by omega)
  have key : V = .null ∨ ∃ q, V = .ref q := am_RV_ref e2 ht0
  have k2 := w H locs arr (V :: sv) hH hS hL ⟨e2, hst⟩ hc hs0
  rcases key with rfl | ⟨q, rfl⟩
  · exact am_aloadnull hx hb hd e1 k2
  · exact lv_aload hx hb hd e1 k2
theorem am_i_aload_n (C : am_Cx G l d m p R s mth args meth cd) {i : Fin 4} (hd : decode (am_cd m) pc = .ok (.aload_n i, 1)) (w : am_stp X (am_Gl G m p l e R s mth args below meth cd Q) d hs K (am_ld (am_get ls (i.val)) 2 fun v => am_go (pc + 1, ls, v :: st, h, c, s0))) : am_Gl G m p l e R s mth args below meth cd Q (pc, ls, st, h, c, s0) := by
  obtain ⟨hx, hb, hml, hown, hts, hW, hR, hlk, htr, hin⟩ := C
  obtain ⟨w, ht⟩ := am_ld_inv w
  have ht0 : (am_get ls (i.val)).1 = 2 ∨ (am_get ls (i.val)).1 = 4 ∨ (am_get ls (i.val)).1 = 5 ∨ (am_get ls (i.val)).1 = 7 ∨ (am_get ls (i.val)).1 = 11 := by rcases ht with z | z | z | z <;> first | exact z.1 | (have := z.2; omega)
  intro H locs arr sv hH hS hL hst hc hs0
  dsimp only at hH hL hst hc hs0 ⊢
  obtain ⟨V, e1, e2⟩ := am_rd hL (i := i.val) (by omega) (by omega)
  have key : V = .null ∨ ∃ q, V = .ref q := am_RV_ref e2 ht0
  have k2 := w H locs arr (V :: sv) hH hS hL ⟨e2, hst⟩ hc hs0
  rcases key with rfl | ⟨q, rfl⟩
  · exact am_aloadnull_n hx hb hd rfl e1 k2
  · exact lv_aload_n hx hb hd rfl e1 k2
theorem am_i_istore (C : am_Cx G l d m p R s mth args meth cd) {i : Nat} (hi : i < am_ml m) (hd : decode (am_cd m) pc = .ok (.istore i, 2)) (w : am_stp X (am_Gl G m p l e R s mth args below meth cd Q) d hs K (am_pI st fun a r => am_go (pc + 2, am_st1 ls (i) (0, a), r, h, c, s0))) : am_Gl G m p l e R s mth args below meth cd Q (pc, ls, st, h, c, s0) := by
  obtain ⟨hx, hb, hml, hown, hts, hW, hR, hlk, htr, hin⟩ := C
  have w1 := am_pI_inv w
  clear w
  obtain ⟨a, r, rfl, w⟩ := w1
  intro H locs arr sv hH hS hL hst hc hs0
  dsimp only at hH hL hst hc hs0 ⊢
  have hq := am_RS_inv hst
  clear hst
  obtain ⟨V, sv, rfl, hV0, hst⟩ := hq
  obtain ⟨x, rfl, rfl⟩ := hV0
  refine lv_istore hx hb hd (am_all_has hL.1 hL.2.2.1) hi rfl (fun arr' ha => ?_)
  exact w H locs arr' sv hH hS (am_wr1 hL hi ⟨x, rfl, rfl⟩ (by simp) (by simp) ha) hst hc hs0
theorem am_i_istore_n (C : am_Cx G l d m p R s mth args meth cd) {i : Fin 4} (hi : i.val < am_ml m) (hd : decode (am_cd m) pc = .ok (.istore_n i, 1)) (w : am_stp X (am_Gl G m p l e R s mth args below meth cd Q) d hs K (am_pI st fun a r => am_go (pc + 1, am_st1 ls (i.val) (0, a), r, h, c, s0))) : am_Gl G m p l e R s mth args below meth cd Q (pc, ls, st, h, c, s0) := by
  obtain ⟨hx, hb, hml, hown, hts, hW, hR, hlk, htr, hin⟩ := C
  have w1 := am_pI_inv w
  clear w
  obtain ⟨a, r, rfl, w⟩ := w1
  intro H locs arr sv hH hS hL hst hc hs0
  dsimp only at hH hL hst hc hs0 ⊢
  have hq := am_RS_inv hst
  clear hst
  obtain ⟨V, sv, rfl, hV0, hst⟩ := hq
  obtain ⟨x, rfl, rfl⟩ := hV0
  refine lv_istore_n hx hb hd rfl (am_all_has hL.1 hL.2.2.1) hi rfl (fun arr' ha => ?_)
  exact w H locs arr' sv hH hS (am_wr1 hL hi ⟨x, rfl, rfl⟩ (by simp) (by simp) ha) hst hc hs0
theorem am_i_astore (C : am_Cx G l d m p R s mth args meth cd) {i : Nat} (hi : i < am_ml m) {pr : Int → Prop} (hpr : ∀ a, pr a → ¬ a = -1) (hd : decode (am_cd m) pc = .ok (.astore i, 2)) (w : am_stp X (am_Gl G m p l e R s mth args below meth cd Q) d hs K (am_pA st (fun a r => am_ck (pr a) (pc + 2, am_st1 ls (i) (2, a), r, h, c, s0)) (fun r => am_go (pc + 2, am_st1 ls (i) (9, 0), r, h, c, s0)))) : am_Gl G m p l e R s mth args below meth cd Q (pc, ls, st, h, c, s0) := by
  obtain ⟨hx, hb, hml, hown, hts, hW, hR, hlk, htr, hin⟩ := C
  rcases am_pA_inv w with ⟨a, r, rfl, w⟩ | ⟨z, r, rfl, w⟩
  rotate_left
  intro H locs arr sv hH hS hL hst hc hs0
  dsimp only at hH hL hst hc hs0 ⊢
  have hq := am_RS_inv hst
  clear hst
  obtain ⟨V, sv, rfl, ⟨x, rfl⟩, hst⟩ := hq
  refine lv_astore hx hb hd (am_all_has hL.1 hL.2.2.1) hi rfl (fun arr' ha => ?_)
  exact w H locs arr' sv hH hS (am_wr0 hL hi ha) hst hc hs0
  obtain ⟨ha0, w⟩ := w
  intro H locs arr sv hH hS hL hst hc hs0
  dsimp only at hH hL hst hc hs0 ⊢
  have hq := am_RS_inv hst
  clear hst
  obtain ⟨V, sv, rfl, hV, hst⟩ := hq
  have hV2 := hV
  rcases hV with ⟨hV, -⟩ | ⟨-, rfl⟩
  · exact absurd hV (hpr _ ha0)
  refine lv_astore hx hb hd (am_all_has hL.1 hL.2.2.1) hi rfl (fun arr' ha => ?_)
  exact w H locs arr' sv hH hS (am_wr1 hL hi hV2 (by simp) (by simp) ha) hst hc hs0
theorem am_i_astore_n (C : am_Cx G l d m p R s mth args meth cd) {i : Fin 4} (hi : i.val < am_ml m) {pr : Int → Prop} (hpr : ∀ a, pr a → ¬ a = -1) (hd : decode (am_cd m) pc = .ok (.astore_n i, 1)) (w : am_stp X (am_Gl G m p l e R s mth args below meth cd Q) d hs K (am_pA st (fun a r => am_ck (pr a) (pc + 1, am_st1 ls (i.val) (2, a), r, h, c, s0)) (fun r => am_go (pc + 1, am_st1 ls (i.val) (9, 0), r, h, c, s0)))) : am_Gl G m p l e R s mth args below meth cd Q (pc, ls, st, h, c, s0) := by
  obtain ⟨hx, hb, hml, hown, hts, hW, hR, hlk, htr, hin⟩ := C
  rcases am_pA_inv w with ⟨a, r, rfl, w⟩ | ⟨z, r, rfl, w⟩
  rotate_left
  intro H locs arr sv hH hS hL hst hc hs0
  dsimp only at hH hL hst hc hs0 ⊢
  have hq := am_RS_inv hst
  clear hst
  obtain ⟨V, sv, rfl, ⟨x, rfl⟩, hst⟩ := hq
  refine lv_astore_n hx hb hd rfl (am_all_has hL.1 hL.2.2.1) hi rfl (fun arr' ha => ?_)
  exact w H locs arr' sv hH hS (am_wr0 hL hi ha) hst hc hs0
  obtain ⟨ha0, w⟩ := w
  intro H locs arr sv hH hS hL hst hc hs0
  dsimp only at hH hL hst hc hs0 ⊢
  have hq := am_RS_inv hst
  clear hst
  obtain ⟨V, sv, rfl, hV, hst⟩ := hq
  have hV2 := hV
  rcases hV with ⟨hV, -⟩ | ⟨-, rfl⟩
  · exact absurd hV (hpr _ ha0)
  refine lv_astore_n hx hb hd rfl (am_all_has hL.1 hL.2.2.1) hi rfl (fun arr' ha => ?_)
  exact w H locs arr' sv hH hS (am_wr1 hL hi hV2 (by simp) (by simp) ha) hst hc hs0
theorem am_i_lstore (C : am_Cx G l d m p R s mth args meth cd) {i : Nat} (hi : i + 1 < am_ml m) (hd : decode (am_cd m) pc = .ok (.lstore i, 2)) (w : am_stp X (am_Gl G m p l e R s mth args below meth cd Q) d hs K (am_pL st fun a r => am_go (pc + 2, am_st2 ls (i) (1, a), r, h, c, s0))) : am_Gl G m p l e R s mth args below meth cd Q (pc, ls, st, h, c, s0) := by
  obtain ⟨hx, hb, hml, hown, hts, hW, hR, hlk, htr, hin⟩ := C
  have w1 := am_pL_inv w
  clear w
  obtain ⟨a, r, rfl, w⟩ := w1
  intro H locs arr sv hH hS hL hst hc hs0
  dsimp only at hH hL hst hc hs0 ⊢
  have hq := am_RS_inv hst
  clear hst
  obtain ⟨V, sv, rfl, hV0, hst⟩ := hq
  obtain ⟨x, rfl, rfl⟩ := hV0
  refine lv_lstore hx hb hd (am_all_has hL.1 hL.2.2.1) hi rfl (fun arr' ha => ?_)
  exact w H locs arr' sv hH hS (am_wr2 hL hi ⟨x, rfl, rfl⟩ ha) hst hc hs0
theorem am_i_lstore_n (C : am_Cx G l d m p R s mth args meth cd) {i : Fin 4} (hi : i.val + 1 < am_ml m) (hd : decode (am_cd m) pc = .ok (.lstore_n i, 1)) (w : am_stp X (am_Gl G m p l e R s mth args below meth cd Q) d hs K (am_pL st fun a r => am_go (pc + 1, am_st2 ls (i.val) (1, a), r, h, c, s0))) : am_Gl G m p l e R s mth args below meth cd Q (pc, ls, st, h, c, s0) := by
  obtain ⟨hx, hb, hml, hown, hts, hW, hR, hlk, htr, hin⟩ := C
  have w1 := am_pL_inv w
  clear w
  obtain ⟨a, r, rfl, w⟩ := w1
  intro H locs arr sv hH hS hL hst hc hs0
  dsimp only at hH hL hst hc hs0 ⊢
  have hq := am_RS_inv hst
  clear hst
  obtain ⟨V, sv, rfl, hV0, hst⟩ := hq
  obtain ⟨x, rfl, rfl⟩ := hV0
  refine lv_lstore_n hx hb hd rfl (am_all_has hL.1 hL.2.2.1) hi rfl (fun arr' ha => ?_)
  exact w H locs arr' sv hH hS (am_wr2 hL hi ⟨x, rfl, rfl⟩ ha) hst hc hs0
theorem am_i_dstore (C : am_Cx G l d m p R s mth args meth cd) {i : Nat} (hi : i + 1 < am_ml m) (hd : decode (am_cd m) pc = .ok (.dstore i, 2)) (w : am_stp X (am_Gl G m p l e R s mth args below meth cd Q) d hs K (am_pD st fun a r => am_go (pc + 2, am_st2 ls (i) (3, a), r, h, c, s0))) : am_Gl G m p l e R s mth args below meth cd Q (pc, ls, st, h, c, s0) := by
  obtain ⟨hx, hb, hml, hown, hts, hW, hR, hlk, htr, hin⟩ := C
  have w1 := am_pD_inv w
  clear w
  obtain ⟨a, r, rfl, w⟩ := w1
  intro H locs arr sv hH hS hL hst hc hs0
  dsimp only at hH hL hst hc hs0 ⊢
  have hq := am_RS_inv hst
  clear hst
  obtain ⟨V, sv, rfl, hV0, hst⟩ := hq
  obtain ⟨x, rfl, rfl⟩ := hV0
  refine lv_dstore hx hb hd (am_all_has hL.1 hL.2.2.1) hi rfl (fun arr' ha => ?_)
  exact w H locs arr' sv hH hS (am_wr2 hL hi ⟨x, rfl, rfl⟩ ha) hst hc hs0
theorem am_i_iinc (C : am_Cx G l d m p R s mth args meth cd) {i : Nat} {n : Int} (hi : i < am_ml m) (hn : -32768 ≤ n ∧ n < 32768) (hd : decode (am_cd m) pc = .ok (.iinc i n, 3)) (w : am_stp X (am_Gl G m p l e R s mth args below meth cd Q) d hs K (am_ld (am_get ls i) 0 fun v => am_go (pc + 3, am_st1 ls i (0, w32 (v.2 + n)), st, h, c, s0))) : am_Gl G m p l e R s mth args below meth cd Q (pc, ls, st, h, c, s0) := by
  obtain ⟨hx, hb, hml, hown, hts, hW, hR, hlk, htr, hin⟩ := C
  obtain ⟨w, ht⟩ := am_ld_inv w
  have ht0 : (am_get ls i).1 = 0 := by rcases ht with z | z | z | z <;> first | exact z.1 | (have := z.2; omega)
  intro H locs arr sv hH hS hL hst hc hs0
  dsimp only at hH hL hst hc hs0 ⊢
  obtain ⟨V, e1, e2⟩ := am_rd hL (i := i) (by omega) (by omega)
  have e3 := e2
  unfold am_RV at e3
  rw [ht0] at e3
  obtain ⟨x, rfl, e4⟩ := e3
  obtain ⟨k, hk⟩ := List.getElem?_of_mem (am_all_mem (q := (i, .int x)).mpr e1)
  refine lv_iinc hx hb hd (am_all_has hL.1 hL.2.2.1) hk rfl hi rfl (fun arr' ha => ?_)
  refine w H locs arr' sv hH hS (am_wr1 hL hi ⟨_, rfl, ?_⟩ (by simp) (by simp) ha) hst hc hs0
  show w32 ((am_get ls i).2 + n) = _
  rw [e4, Int32.toInt_add, am_ofInt (by omega)]
  rfl
theorem am_i_iadd (C : am_Cx G l d m p R s mth args meth cd) (hd : decode (am_cd m) pc = .ok (.iadd, 1)) (w : am_stp X (am_Gl G m p l e R s mth args below meth cd Q) d hs K (am_pI st fun b r => am_pI r fun a r => am_go (pc + 1, ls, (0, w32 (a + b)) :: r, h, c, s0))) : am_Gl G m p l e R s mth args below meth cd Q (pc, ls, st, h, c, s0) := by
  obtain ⟨hx, hb, hml, hown, hts, hW, hR, hlk, htr, hin⟩ := C
  have w1 := am_pI_inv w
  clear w
  obtain ⟨b, r, rfl, w⟩ := w1
  have w1 := am_pI_inv w
  clear w
  obtain ⟨a, r, rfl, w⟩ := w1
  intro H locs arr sv hH hS hL hst hc hs0
  dsimp only at hH hL hst hc hs0 ⊢
  have hq := am_RS_inv hst
  clear hst
  obtain ⟨V2, sv, rfl, hV0, hst⟩ := hq
  obtain ⟨y, rfl, rfl⟩ := hV0
  have hq := am_RS_inv hst
  clear hst
  obtain ⟨V1, sv, rfl, hV0, hst⟩ := hq
  obtain ⟨x, rfl, rfl⟩ := hV0
  refine lv_iadd hx hb hd ?_
  refine w H locs arr _ hH hS hL ⟨⟨_, rfl, ?_⟩, hst⟩ hc hs0
  exact (Int32.toInt_add x y).symm
theorem am_i_isub (C : am_Cx G l d m p R s mth args meth cd) (hd : decode (am_cd m) pc = .ok (.isub, 1)) (w : am_stp X (am_Gl G m p l e R s mth args below meth cd Q) d hs K (am_pI st fun b r => am_pI r fun a r => am_go (pc + 1, ls, (0, w32 (a - b)) :: r, h, c, s0))) : am_Gl G m p l e R s mth args below meth cd Q (pc, ls, st, h, c, s0) := by
  obtain ⟨hx, hb, hml, hown, hts, hW, hR, hlk, htr, hin⟩ := C
  have w1 := am_pI_inv w
  clear w
  obtain ⟨b, r, rfl, w⟩ := w1
  have w1 := am_pI_inv w
  clear w
  obtain ⟨a, r, rfl, w⟩ := w1
  intro H locs arr sv hH hS hL hst hc hs0
  dsimp only at hH hL hst hc hs0 ⊢
  have hq := am_RS_inv hst
  clear hst
  obtain ⟨V2, sv, rfl, hV0, hst⟩ := hq
  obtain ⟨y, rfl, rfl⟩ := hV0
  have hq := am_RS_inv hst
  clear hst
  obtain ⟨V1, sv, rfl, hV0, hst⟩ := hq
  obtain ⟨x, rfl, rfl⟩ := hV0
  refine lv_isub hx hb hd ?_
  refine w H locs arr _ hH hS hL ⟨⟨_, rfl, ?_⟩, hst⟩ hc hs0
  exact (Int32.toInt_sub x y).symm
theorem am_i_imul (C : am_Cx G l d m p R s mth args meth cd) (hd : decode (am_cd m) pc = .ok (.imul, 1)) (w : am_stp X (am_Gl G m p l e R s mth args below meth cd Q) d hs K (am_pI st fun b r => am_pI r fun a r => am_go (pc + 1, ls, (0, w32 (a * b)) :: r, h, c, s0))) : am_Gl G m p l e R s mth args below meth cd Q (pc, ls, st, h, c, s0) := by
  obtain ⟨hx, hb, hml, hown, hts, hW, hR, hlk, htr, hin⟩ := C
  have w1 := am_pI_inv w
  clear w
  obtain ⟨b, r, rfl, w⟩ := w1
  have w1 := am_pI_inv w
  clear w
  obtain ⟨a, r, rfl, w⟩ := w1
  intro H locs arr sv hH hS hL hst hc hs0
  dsimp only at hH hL hst hc hs0 ⊢
  have hq := am_RS_inv hst
  clear hst
  obtain ⟨V2, sv, rfl, hV0, hst⟩ := hq
  obtain ⟨y, rfl, rfl⟩ := hV0
  have hq := am_RS_inv hst
  clear hst
  obtain ⟨V1, sv, rfl, hV0, hst⟩ := hq
  obtain ⟨x, rfl, rfl⟩ := hV0
  refine lv_imul hx hb hd ?_
  refine w H locs arr _ hH hS hL ⟨⟨_, rfl, ?_⟩, hst⟩ hc hs0
  exact (Int32.toInt_mul x y).symm
theorem am_i_iand (C : am_Cx G l d m p R s mth args meth cd) (hd : decode (am_cd m) pc = .ok (.iand, 1)) (w : am_stp X (am_Gl G m p l e R s mth args below meth cd Q) d hs K (am_pI st fun b r => am_pI r fun a r => am_go (pc + 1, ls, (0, am_and a b) :: r, h, c, s0))) : am_Gl G m p l e R s mth args below meth cd Q (pc, ls, st, h, c, s0) := by
  obtain ⟨hx, hb, hml, hown, hts, hW, hR, hlk, htr, hin⟩ := C
  have w1 := am_pI_inv w
  clear w
  obtain ⟨b, r, rfl, w⟩ := w1
  have w1 := am_pI_inv w
  clear w
  obtain ⟨a, r, rfl, w⟩ := w1
  intro H locs arr sv hH hS hL hst hc hs0
  dsimp only at hH hL hst hc hs0 ⊢
  have hq := am_RS_inv hst
  clear hst
  obtain ⟨V2, sv, rfl, hV0, hst⟩ := hq
  obtain ⟨y, rfl, rfl⟩ := hV0
  have hq := am_RS_inv hst
  clear hst
  obtain ⟨V1, sv, rfl, hV0, hst⟩ := hq
  obtain ⟨x, rfl, rfl⟩ := hV0
  refine lv_iand hx hb hd ?_
  refine w H locs arr _ hH hS hL ⟨⟨_, rfl, ?_⟩, hst⟩ hc hs0
  unfold am_and; rw [Int32.ofInt_toInt, Int32.ofInt_toInt]
theorem am_i_ior (C : am_Cx G l d m p R s mth args meth cd) (hd : decode (am_cd m) pc = .ok (.ior, 1)) (w : am_stp X (am_Gl G m p l e R s mth args below meth cd Q) d hs K (am_pI st fun b r => am_pI r fun a r => am_go (pc + 1, ls, (0, am_or a b) :: r, h, c, s0))) : am_Gl G m p l e R s mth args below meth cd Q (pc, ls, st, h, c, s0) := by
  obtain ⟨hx, hb, hml, hown, hts, hW, hR, hlk, htr, hin⟩ := C
  have w1 := am_pI_inv w
  clear w
  obtain ⟨b, r, rfl, w⟩ := w1
  have w1 := am_pI_inv w
  clear w
  obtain ⟨a, r, rfl, w⟩ := w1
  intro H locs arr sv hH hS hL hst hc hs0
  dsimp only at hH hL hst hc hs0 ⊢
  have hq := am_RS_inv hst
  clear hst
  obtain ⟨V2, sv, rfl, hV0, hst⟩ := hq
  obtain ⟨y, rfl, rfl⟩ := hV0
  have hq := am_RS_inv hst
  clear hst
  obtain ⟨V1, sv, rfl, hV0, hst⟩ := hq
  obtain ⟨x, rfl, rfl⟩ := hV0
  refine lv_ior hx hb hd ?_
  refine w H locs arr _ hH hS hL ⟨⟨_, rfl, ?_⟩, hst⟩ hc hs0
  unfold am_or; rw [Int32.ofInt_toInt, Int32.ofInt_toInt]
theorem am_i_ixor (C : am_Cx G l d m p R s mth args meth cd) (hd : decode (am_cd m) pc = .ok (.ixor, 1)) (w : am_stp X (am_Gl G m p l e R s mth args below meth cd Q) d hs K (am_pI st fun b r => am_pI r fun a r => am_go (pc + 1, ls, (0, am_xor a b) :: r, h, c, s0))) : am_Gl G m p l e R s mth args below meth cd Q (pc, ls, st, h, c, s0) := by
  obtain ⟨hx, hb, hml, hown, hts, hW, hR, hlk, htr, hin⟩ := C
  have w1 := am_pI_inv w
  clear w
  obtain ⟨b, r, rfl, w⟩ := w1
  have w1 := am_pI_inv w
  clear w
  obtain ⟨a, r, rfl, w⟩ := w1
  intro H locs arr sv hH hS hL hst hc hs0
  dsimp only at hH hL hst hc hs0 ⊢
  have hq := am_RS_inv hst
  clear hst
  obtain ⟨V2, sv, rfl, hV0, hst⟩ := hq
  obtain ⟨y, rfl, rfl⟩ := hV0
  have hq := am_RS_inv hst
  clear hst
  obtain ⟨V1, sv, rfl, hV0, hst⟩ := hq
  obtain ⟨x, rfl, rfl⟩ := hV0
  refine lv_ixor hx hb hd ?_
  refine w H locs arr _ hH hS hL ⟨⟨_, rfl, ?_⟩, hst⟩ hc hs0
  unfold am_xor; rw [Int32.ofInt_toInt, Int32.ofInt_toInt]
theorem am_i_ishl (C : am_Cx G l d m p R s mth args meth cd) (hd : decode (am_cd m) pc = .ok (.ishl, 1)) (w : am_stp X (am_Gl G m p l e R s mth args below meth cd Q) d hs K (am_pI st fun b r => am_pI r fun a r => am_go (pc + 1, ls, (0, am_shl a b) :: r, h, c, s0))) : am_Gl G m p l e R s mth args below meth cd Q (pc, ls, st, h, c, s0) := by
  obtain ⟨hx, hb, hml, hown, hts, hW, hR, hlk, htr, hin⟩ := C
  have w1 := am_pI_inv w
  clear w
  obtain ⟨b, r, rfl, w⟩ := w1
  have w1 := am_pI_inv w
  clear w
  obtain ⟨a, r, rfl, w⟩ := w1
  intro H locs arr sv hH hS hL hst hc hs0
  dsimp only at hH hL hst hc hs0 ⊢
  have hq := am_RS_inv hst
  clear hst
  obtain ⟨V2, sv, rfl, hV0, hst⟩ := hq
  obtain ⟨y, rfl, rfl⟩ := hV0
  have hq := am_RS_inv hst
  clear hst
  obtain ⟨V1, sv, rfl, hV0, hst⟩ := hq
  obtain ⟨x, rfl, rfl⟩ := hV0
  refine lv_ishl hx hb hd ?_
  refine w H locs arr _ hH hS hL ⟨⟨_, rfl, ?_⟩, hst⟩ hc hs0
  unfold am_shl; rw [Int32.ofInt_toInt, Int32.ofInt_toInt]
theorem am_i_ishr (C : am_Cx G l d m p R s mth args meth cd) (hd : decode (am_cd m) pc = .ok (.ishr, 1)) (w : am_stp X (am_Gl G m p l e R s mth args below meth cd Q) d hs K (am_pI st fun b r => am_pI r fun a r => am_go (pc + 1, ls, (0, am_shr a b) :: r, h, c, s0))) : am_Gl G m p l e R s mth args below meth cd Q (pc, ls, st, h, c, s0) := by
  obtain ⟨hx, hb, hml, hown, hts, hW, hR, hlk, htr, hin⟩ := C
  have w1 := am_pI_inv w
  clear w
  obtain ⟨b, r, rfl, w⟩ := w1
  have w1 := am_pI_inv w
  clear w
  obtain ⟨a, r, rfl, w⟩ := w1
  intro H locs arr sv hH hS hL hst hc hs0
  dsimp only at hH hL hst hc hs0 ⊢
  have hq := am_RS_inv hst
  clear hst
  obtain ⟨V2, sv, rfl, hV0, hst⟩ := hq
  obtain ⟨y, rfl, rfl⟩ := hV0
  have hq := am_RS_inv hst
  clear hst
  obtain ⟨V1, sv, rfl, hV0, hst⟩ := hq
  obtain ⟨x, rfl, rfl⟩ := hV0
  refine lv_ishr hx hb hd ?_
  refine w H locs arr _ hH hS hL ⟨⟨_, rfl, ?_⟩, hst⟩ hc hs0
  unfold am_shr; rw [Int32.ofInt_toInt, Int32.ofInt_toInt]
theorem am_i_iushr (C : am_Cx G l d m p R s mth args meth cd) (hd : decode (am_cd m) pc = .ok (.iushr, 1)) (w : am_stp X (am_Gl G m p l e R s mth args below meth cd Q) d hs K (am_pI st fun b r => am_pI r fun a r => am_go (pc + 1, ls, (0, am_ushr a b) :: r, h, c, s0))) : am_Gl G m p l e R s mth args below meth cd Q (pc, ls, st, h, c, s0) := by
  obtain ⟨hx, hb, hml, hown, hts, hW, hR, hlk, htr, hin⟩ := C
  have w1 := am_pI_inv w
  clear w
  obtain ⟨b, r, rfl, w⟩ := w1
  have w1 := am_pI_inv w
  clear w
  obtain ⟨a, r, rfl, w⟩ := w1
  intro H locs arr sv hH hS hL hst hc hs0
  dsimp only at hH hL hst hc hs0 ⊢
  have hq := am_RS_inv hst
  clear hst
  obtain ⟨V2, sv, rfl, hV0, hst⟩ := hq
  obtain ⟨y, rfl, rfl⟩ := hV0
  have hq := am_RS_inv hst
  clear hst
  obtain ⟨V1, sv, rfl, hV0, hst⟩ := hq
  obtain ⟨x, rfl, rfl⟩ := hV0
  refine lv_iushr hx hb hd rfl ?_
  refine w H locs arr _ hH hS hL ⟨⟨_, rfl, ?_⟩, hst⟩ hc hs0
  unfold am_ushr; rw [Int32.ofInt_toInt, Int32.ofInt_toInt]
theorem am_i_idiv (C : am_Cx G l d m p R s mth args meth cd) (hd : decode (am_cd m) pc = .ok (.idiv, 1)) (w : am_stp X (am_Gl G m p l e R s mth args below meth cd Q) d hs K (am_pI st fun b r => am_pI r fun a r => am_ck (¬ b = 0) (pc + 1, ls, (0, w32 (a.tdiv b)) :: r, h, c, s0))) : am_Gl G m p l e R s mth args below meth cd Q (pc, ls, st, h, c, s0) := by
  obtain ⟨hx, hb, hml, hown, hts, hW, hR, hlk, htr, hin⟩ := C
  have w1 := am_pI_inv w
  clear w
  obtain ⟨b, r, rfl, w⟩ := w1
  have w1 := am_pI_inv w
  clear w
  obtain ⟨a, r, rfl, w⟩ := w1
  obtain ⟨hne, w⟩ := w
  intro H locs arr sv hH hS hL hst hc hs0
  dsimp only at hH hL hst hc hs0 ⊢
  have hq := am_RS_inv hst
  clear hst
  obtain ⟨V2, sv, rfl, hV0, hst⟩ := hq
  obtain ⟨y, rfl, rfl⟩ := hV0
  have hq := am_RS_inv hst
  clear hst
  obtain ⟨V1, sv, rfl, hV0, hst⟩ := hq
  obtain ⟨x, rfl, rfl⟩ := hV0
  refine lv_idiv hx hb hd (fun z => hne (by rw [z]; rfl)) ?_
  refine w H locs arr _ hH hS hL ⟨⟨_, rfl, ?_⟩, hst⟩ hc hs0
  exact (Int32.toInt_div x y).symm
theorem am_i_irem (C : am_Cx G l d m p R s mth args meth cd) (hd : decode (am_cd m) pc = .ok (.irem, 1)) (w : am_stp X (am_Gl G m p l e R s mth args below meth cd Q) d hs K (am_pI st fun b r => am_pI r fun a r => am_ck (¬ b = 0) (pc + 1, ls, (0, a.tmod b) :: r, h, c, s0))) : am_Gl G m p l e R s mth args below meth cd Q (pc, ls, st, h, c, s0) := by
  obtain ⟨hx, hb, hml, hown, hts, hW, hR, hlk, htr, hin⟩ := C
  have w1 := am_pI_inv w
  clear w
  obtain ⟨b, r, rfl, w⟩ := w1
  have w1 := am_pI_inv w
  clear w
  obtain ⟨a, r, rfl, w⟩ := w1
  obtain ⟨hne, w⟩ := w
  intro H locs arr sv hH hS hL hst hc hs0
  dsimp only at hH hL hst hc hs0 ⊢
  have hq := am_RS_inv hst
  clear hst
  obtain ⟨V2, sv, rfl, hV0, hst⟩ := hq
  obtain ⟨y, rfl, rfl⟩ := hV0
  have hq := am_RS_inv hst
  clear hst
  obtain ⟨V1, sv, rfl, hV0, hst⟩ := hq
  obtain ⟨x, rfl, rfl⟩ := hV0
  refine lv_irem hx hb hd (fun z => hne (by rw [z]; rfl)) ?_
  refine w H locs arr _ hH hS hL ⟨⟨_, rfl, ?_⟩, hst⟩ hc hs0
  exact (rem_toInt x y).symm
theorem am_i_ineg (C : am_Cx G l d m p R s mth args meth cd) (hd : decode (am_cd m) pc = .ok (.ineg, 1)) (w : am_stp X (am_Gl G m p l e R s mth args below meth cd Q) d hs K (am_pI st fun a r => am_go (pc + 1, ls, (0, w32 (-a)) :: r, h, c, s0))) : am_Gl G m p l e R s mth args below meth cd Q (pc, ls, st, h, c, s0) := by
  obtain ⟨hx, hb, hml, hown, hts, hW, hR, hlk, htr, hin⟩ := C
  have w1 := am_pI_inv w
  clear w
  obtain ⟨a, r, rfl, w⟩ := w1
  intro H locs arr sv hH hS hL hst hc hs0
  dsimp only at hH hL hst hc hs0 ⊢
  have hq := am_RS_inv hst
  clear hst
  obtain ⟨V1, sv, rfl, hV0, hst⟩ := hq
  obtain ⟨x, rfl, rfl⟩ := hV0
  refine lv_ineg hx hb hd ?_
  refine w H locs arr _ hH hS hL ⟨⟨_, rfl, ?_⟩, hst⟩ hc hs0
  exact (Int32.toInt_neg x).symm
theorem am_i_i2l (C : am_Cx G l d m p R s mth args meth cd) (hd : decode (am_cd m) pc = .ok (.i2l, 1)) (w : am_stp X (am_Gl G m p l e R s mth args below meth cd Q) d hs K (am_pI st fun a r => am_go (pc + 1, ls, (1, a) :: r, h, c, s0))) : am_Gl G m p l e R s mth args below meth cd Q (pc, ls, st, h, c, s0) := by
  obtain ⟨hx, hb, hml, hown, hts, hW, hR, hlk, htr, hin⟩ := C
  have w1 := am_pI_inv w
  clear w
  obtain ⟨a, r, rfl, w⟩ := w1
  intro H locs arr sv hH hS hL hst hc hs0
  dsimp only at hH hL hst hc hs0 ⊢
  have hq := am_RS_inv hst
  clear hst
  obtain ⟨V1, sv, rfl, hV0, hst⟩ := hq
  obtain ⟨x, rfl, rfl⟩ := hV0
  refine lv_i2l hx hb hd rfl ?_
  refine w H locs arr _ hH hS hL ⟨⟨_, rfl, ?_⟩, hst⟩ hc hs0
  exact (Int32.toInt_toInt64 x).symm
theorem am_i_i2b (C : am_Cx G l d m p R s mth args meth cd) (hd : decode (am_cd m) pc = .ok (.i2b, 1)) (w : am_stp X (am_Gl G m p l e R s mth args below meth cd Q) d hs K (am_pI st fun a r => am_go (pc + 1, ls, (0, am_i2b a) :: r, h, c, s0))) : am_Gl G m p l e R s mth args below meth cd Q (pc, ls, st, h, c, s0) := by
  obtain ⟨hx, hb, hml, hown, hts, hW, hR, hlk, htr, hin⟩ := C
  have w1 := am_pI_inv w
  clear w
  obtain ⟨a, r, rfl, w⟩ := w1
  intro H locs arr sv hH hS hL hst hc hs0
  dsimp only at hH hL hst hc hs0 ⊢
  have hq := am_RS_inv hst
  clear hst
  obtain ⟨V1, sv, rfl, hV0, hst⟩ := hq
  obtain ⟨x, rfl, rfl⟩ := hV0
  refine lv_i2b hx hb hd rfl ?_
  refine w H locs arr _ hH hS hL ⟨⟨_, rfl, ?_⟩, hst⟩ hc hs0
  rw [Int8.toInt_toInt32, Int32.toInt_toInt8]; rfl
theorem am_i_i2c (C : am_Cx G l d m p R s mth args meth cd) (hd : decode (am_cd m) pc = .ok (.i2c, 1)) (w : am_stp X (am_Gl G m p l e R s mth args below meth cd Q) d hs K (am_pI st fun a r => am_go (pc + 1, ls, (0, am_i2c a) :: r, h, c, s0))) : am_Gl G m p l e R s mth args below meth cd Q (pc, ls, st, h, c, s0) := by
  obtain ⟨hx, hb, hml, hown, hts, hW, hR, hlk, htr, hin⟩ := C
  have w1 := am_pI_inv w
  clear w
  obtain ⟨a, r, rfl, w⟩ := w1
  intro H locs arr sv hH hS hL hst hc hs0
  dsimp only at hH hL hst hc hs0 ⊢
  have hq := am_RS_inv hst
  clear hst
  obtain ⟨V1, sv, rfl, hV0, hst⟩ := hq
  obtain ⟨x, rfl, rfl⟩ := hV0
  refine lv_i2c hx hb hd rfl ?_
  refine w H locs arr _ hH hS hL ⟨⟨_, rfl, ?_⟩, hst⟩ hc hs0
  exact am_i2c_eq x
theorem am_i_i2d (C : am_Cx G l d m p R s mth args meth cd) (hd : decode (am_cd m) pc = .ok (.i2d, 1)) (w : am_stp X (am_Gl G m p l e R s mth args below meth cd Q) d hs K (am_pI st fun a r => am_go (pc + 1, ls, (3, am_i2d a) :: r, h, c, s0))) : am_Gl G m p l e R s mth args below meth cd Q (pc, ls, st, h, c, s0) := by
  obtain ⟨hx, hb, hml, hown, hts, hW, hR, hlk, htr, hin⟩ := C
  have w1 := am_pI_inv w
  clear w
  obtain ⟨a, r, rfl, w⟩ := w1
  intro H locs arr sv hH hS hL hst hc hs0
  dsimp only at hH hL hst hc hs0 ⊢
  have hq := am_RS_inv hst
  clear hst
  obtain ⟨V1, sv, rfl, hV0, hst⟩ := hq
  obtain ⟨x, rfl, rfl⟩ := hV0
  refine lv_i2d hx hb hd ?_
  refine w H locs arr _ hH hS hL ⟨⟨_, rfl, ?_⟩, hst⟩ hc hs0
  unfold am_i2d; rw [Int32.ofInt_toInt]
theorem am_i_l2i (C : am_Cx G l d m p R s mth args meth cd) (hd : decode (am_cd m) pc = .ok (.l2i, 1)) (w : am_stp X (am_Gl G m p l e R s mth args below meth cd Q) d hs K (am_pL st fun a r => am_go (pc + 1, ls, (0, w32 a) :: r, h, c, s0))) : am_Gl G m p l e R s mth args below meth cd Q (pc, ls, st, h, c, s0) := by
  obtain ⟨hx, hb, hml, hown, hts, hW, hR, hlk, htr, hin⟩ := C
  have w1 := am_pL_inv w
  clear w
  obtain ⟨a, r, rfl, w⟩ := w1
  intro H locs arr sv hH hS hL hst hc hs0
  dsimp only at hH hL hst hc hs0 ⊢
  have hq := am_RS_inv hst
  clear hst
  obtain ⟨V1, sv, rfl, hV0, hst⟩ := hq
  obtain ⟨x, rfl, rfl⟩ := hV0
  refine lv_l2i hx hb hd rfl ?_
  refine w H locs arr _ hH hS hL ⟨⟨_, rfl, ?_⟩, hst⟩ hc hs0
  exact (Int64.toInt_toInt32 x).symm
theorem am_i_ladd (C : am_Cx G l d m p R s mth args meth cd) (hd : decode (am_cd m) pc = .ok (.ladd, 1)) (w : am_stp X (am_Gl G m p l e R s mth args below meth cd Q) d hs K (am_pL st fun b r => am_pL r fun a r => am_go (pc + 1, ls, (1, w64 (a + b)) :: r, h, c, s0))) : am_Gl G m p l e R s mth args below meth cd Q (pc, ls, st, h, c, s0) := by
  obtain ⟨hx, hb, hml, hown, hts, hW, hR, hlk, htr, hin⟩ := C
  have w1 := am_pL_inv w
  clear w
  obtain ⟨b, r, rfl, w⟩ := w1
  have w1 := am_pL_inv w
  clear w
  obtain ⟨a, r, rfl, w⟩ := w1
  intro H locs arr sv hH hS hL hst hc hs0
  dsimp only at hH hL hst hc hs0 ⊢
  have hq := am_RS_inv hst
  clear hst
  obtain ⟨V2, sv, rfl, hV0, hst⟩ := hq
  obtain ⟨y, rfl, rfl⟩ := hV0
  have hq := am_RS_inv hst
  clear hst
  obtain ⟨V1, sv, rfl, hV0, hst⟩ := hq
  obtain ⟨x, rfl, rfl⟩ := hV0
  refine lv_ladd hx hb hd ?_
  refine w H locs arr _ hH hS hL ⟨⟨_, rfl, ?_⟩, hst⟩ hc hs0
  exact (Int64.toInt_add x y).symm
theorem am_i_lsub (C : am_Cx G l d m p R s mth args meth cd) (hd : decode (am_cd m) pc = .ok (.lsub, 1)) (w : am_stp X (am_Gl G m p l e R s mth args below meth cd Q) d hs K (am_pL st fun b r => am_pL r fun a r => am_go (pc + 1, ls, (1, w64 (a - b)) :: r, h, c, s0))) : am_Gl G m p l e R s mth args below meth cd Q (pc, ls, st, h, c, s0) := by
  obtain ⟨hx, hb, hml, hown, hts, hW, hR, hlk, htr, hin⟩ := C
  have w1 := am_pL_inv w
  clear w
  obtain ⟨b, r, rfl, w⟩ := w1
  have w1 := am_pL_inv w
  clear w
  obtain ⟨a, r, rfl, w⟩ := w1
  intro H locs arr sv hH hS hL hst hc hs0
  dsimp only at hH hL hst hc hs0 ⊢
  have hq := am_RS_inv hst
  clear hst
  obtain ⟨V2, sv, rfl, hV0, hst⟩ := hq
  obtain ⟨y, rfl, rfl⟩ := hV0
  have hq := am_RS_inv hst
  clear hst
  obtain ⟨V1, sv, rfl, hV0, hst⟩ := hq
  obtain ⟨x, rfl, rfl⟩ := hV0
  refine lv_lsub hx hb hd ?_
  refine w H locs arr _ hH hS hL ⟨⟨_, rfl, ?_⟩, hst⟩ hc hs0
  exact (Int64.toInt_sub x y).symm
theorem am_i_lmul (C : am_Cx G l d m p R s mth args meth cd) (hd : decode (am_cd m) pc = .ok (.lmul, 1)) (w : am_stp X (am_Gl G m p l e R s mth args below meth cd Q) d hs K (am_pL st fun b r => am_pL r fun a r => am_go (pc + 1, ls, (1, w64 (a * b)) :: r, h, c, s0))) : am_Gl G m p l e R s mth args below meth cd Q (pc, ls, st, h, c, s0) := by
  obtain ⟨hx, hb, hml, hown, hts, hW, hR, hlk, htr, hin⟩ := C
  have w1 := am_pL_inv w
  clear w
  obtain ⟨b, r, rfl, w⟩ := w1
  have w1 := am_pL_inv w
  clear w
  obtain ⟨a, r, rfl, w⟩ := w1
  intro H locs arr sv hH hS hL hst hc hs0
  dsimp only at hH hL hst hc hs0 ⊢
  have hq := am_RS_inv hst
  clear hst
  obtain ⟨V2, sv, rfl, hV0, hst⟩ := hq
  obtain ⟨y, rfl, rfl⟩ := hV0
  have hq := am_RS_inv hst
  clear hst
  obtain ⟨V1, sv, rfl, hV0, hst⟩ := hq
  obtain ⟨x, rfl, rfl⟩ := hV0
  refine lv_lmul hx hb hd ?_
  refine w H locs arr _ hH hS hL ⟨⟨_, rfl, ?_⟩, hst⟩ hc hs0
  exact (Int64.toInt_mul x y).symm
theorem am_i_lcmp (C : am_Cx G l d m p R s mth args meth cd) (hd : decode (am_cd m) pc = .ok (.lcmp, 1)) (w : am_stp X (am_Gl G m p l e R s mth args below meth cd Q) d hs K (am_pL st fun b r => am_pL r fun a r => am_go (pc + 1, ls, (0, am_lcmp a b) :: r, h, c, s0))) : am_Gl G m p l e R s mth args below meth cd Q (pc, ls, st, h, c, s0) := by
  obtain ⟨hx, hb, hml, hown, hts, hW, hR, hlk, htr, hin⟩ := C
  have w1 := am_pL_inv w
  clear w
  obtain ⟨b, r, rfl, w⟩ := w1
  have w1 := am_pL_inv w
  clear w
  obtain ⟨a, r, rfl, w⟩ := w1
  intro H locs arr sv hH hS hL hst hc hs0
  dsimp only at hH hL hst hc hs0 ⊢
  have hq := am_RS_inv hst
  clear hst
  obtain ⟨V2, sv, rfl, hV0, hst⟩ := hq
  obtain ⟨y, rfl, rfl⟩ := hV0
  have hq := am_RS_inv hst
  clear hst
  obtain ⟨V1, sv, rfl, hV0, hst⟩ := hq
  obtain ⟨x, rfl, rfl⟩ := hV0
  refine W.lcmp hx hb hd ?_
  refine w H locs arr _ hH hS hL ⟨⟨_, rfl, ?_⟩, hst⟩ hc hs0
  show am_lcmp x.toInt y.toInt = (lg_cmp x y).toInt
  unfold am_lcmp lg_cmp
  by_cases h1 : y.toInt < x.toInt
  · rw [if_pos h1, if_pos (show x > y from Int64.lt_iff_toInt_lt.mpr h1)]
    rfl
  · rw [if_neg h1, if_neg (show ¬ x > y from fun z => h1 (Int64.lt_iff_toInt_lt.mp z))]
    by_cases h2 : x = y
    · rw [if_pos h2, if_pos (by rw [h2])]
      rfl
    · rw [if_neg h2, if_neg (fun z => h2 (Int64.toInt_inj.mp z))]
      rfl
theorem am_i_ddiv (C : am_Cx G l d m p R s mth args meth cd) (hd : decode (am_cd m) pc = .ok (.ddiv, 1)) (w : am_stp X (am_Gl G m p l e R s mth args below meth cd Q) d hs K (am_pD st fun b r => am_pD r fun a r => am_ck (vf_n64 (am_dd a b)) (pc + 1, ls, (3, ((am_dd a b).toNat : Int)) :: r, h, c, s0))) : am_Gl G m p l e R s mth args below meth cd Q (pc, ls, st, h, c, s0) := by
  obtain ⟨hx, hb, hml, hown, hts, hW, hR, hlk, htr, hin⟩ := C
  have w1 := am_pD_inv w
  clear w
  obtain ⟨b, r, rfl, w⟩ := w1
  have w1 := am_pD_inv w
  clear w
  obtain ⟨a, r, rfl, w⟩ := w1
  obtain ⟨hne, w⟩ := w
  intro H locs arr sv hH hS hL hst hc hs0
  dsimp only at hH hL hst hc hs0 ⊢
  have hq := am_RS_inv hst
  clear hst
  obtain ⟨V2, sv, rfl, hV0, hst⟩ := hq
  obtain ⟨y, rfl, rfl⟩ := hV0
  have hq := am_RS_inv hst
  clear hst
  obtain ⟨V1, sv, rfl, hV0, hst⟩ := hq
  obtain ⟨x, rfl, rfl⟩ := hV0
  have e1 : am_dd (x.toNat : Int) (y.toNat : Int) = FP.ddiv x y := by unfold am_dd; rw [am_bits, am_bits]
  rw [e1] at hne w
  refine lv_ddiv hx hb hd hne ?_
  exact w H locs arr _ hH hS hL ⟨⟨_, rfl, rfl⟩, hst⟩ hc hs0
theorem am_i_dcmpl (C : am_Cx G l d m p R s mth args meth cd) (hd : decode (am_cd m) pc = .ok (.dcmp .l, 1)) (w : am_stp X (am_Gl G m p l e R s mth args below meth cd Q) d hs K (am_pD st fun b r => am_pD r fun a r => am_go (pc + 1, ls, (0, am_dcl a b) :: r, h, c, s0))) : am_Gl G m p l e R s mth args below meth cd Q (pc, ls, st, h, c, s0) := by
  obtain ⟨hx, hb, hml, hown, hts, hW, hR, hlk, htr, hin⟩ := C
  have w1 := am_pD_inv w
  clear w
  obtain ⟨b, r, rfl, w⟩ := w1
  have w1 := am_pD_inv w
  clear w
  obtain ⟨a, r, rfl, w⟩ := w1
  intro H locs arr sv hH hS hL hst hc hs0
  dsimp only at hH hL hst hc hs0 ⊢
  have hq := am_RS_inv hst
  clear hst
  obtain ⟨V2, sv, rfl, hV0, hst⟩ := hq
  obtain ⟨y, rfl, rfl⟩ := hV0
  have hq := am_RS_inv hst
  clear hst
  obtain ⟨V1, sv, rfl, hV0, hst⟩ := hq
  obtain ⟨x, rfl, rfl⟩ := hV0
  refine lv_dcmp hx hb hd ?_
  refine w H locs arr _ hH hS hL ⟨⟨_, rfl, ?_⟩, hst⟩ hc hs0
  unfold am_dcl
  rw [am_bits, am_bits]
theorem am_i_dcmpg (C : am_Cx G l d m p R s mth args meth cd) (hd : decode (am_cd m) pc = .ok (.dcmp .g, 1)) (w : am_stp X (am_Gl G m p l e R s mth args below meth cd Q) d hs K (am_pD st fun b r => am_pD r fun a r => am_go (pc + 1, ls, (0, am_dcg a b) :: r, h, c, s0))) : am_Gl G m p l e R s mth args below meth cd Q (pc, ls, st, h, c, s0) := by
  obtain ⟨hx, hb, hml, hown, hts, hW, hR, hlk, htr, hin⟩ := C
  have w1 := am_pD_inv w
  clear w
  obtain ⟨b, r, rfl, w⟩ := w1
  have w1 := am_pD_inv w
  clear w
  obtain ⟨a, r, rfl, w⟩ := w1
  intro H locs arr sv hH hS hL hst hc hs0
  dsimp only at hH hL hst hc hs0 ⊢
  have hq := am_RS_inv hst
  clear hst
  obtain ⟨V2, sv, rfl, hV0, hst⟩ := hq
  obtain ⟨y, rfl, rfl⟩ := hV0
  have hq := am_RS_inv hst
  clear hst
  obtain ⟨V1, sv, rfl, hV0, hst⟩ := hq
  obtain ⟨x, rfl, rfl⟩ := hV0
  refine lv_dcmp hx hb hd ?_
  refine w H locs arr _ hH hS hL ⟨⟨_, rfl, ?_⟩, hst⟩ hc hs0
  unfold am_dcg
  rw [am_bits, am_bits]
theorem am_i_dup (C : am_Cx G l d m p R s mth args meth cd) (hd : decode (am_cd m) pc = .ok (.dup, 1)) (w : am_stp X (am_Gl G m p l e R s mth args below meth cd Q) d hs K (am_p1 st fun v r => am_go (pc + 1, ls, v :: v :: r, h, c, s0))) : am_Gl G m p l e R s mth args below meth cd Q (pc, ls, st, h, c, s0) := by
  obtain ⟨hx, hb, hml, hown, hts, hW, hR, hlk, htr, hin⟩ := C
  have w1 := am_p1_inv w
  clear w
  obtain ⟨v, r, rfl, hv, w⟩ := w1
  intro H locs arr sv hH hS hL hst hc hs0
  dsimp only at hH hL hst hc hs0 ⊢
  have hq := am_RS_inv hst
  clear hst
  obtain ⟨V, sv, rfl, hV, hst⟩ := hq
  refine lv_dup hx hb hd (am_RV_cat1 hV hv) ?_
  exact w H locs arr _ hH hS hL ⟨hV, hV, hst⟩ hc hs0
theorem am_i_pop (C : am_Cx G l d m p R s mth args meth cd) (hd : decode (am_cd m) pc = .ok (.pop, 1)) (w : am_stp X (am_Gl G m p l e R s mth args below meth cd Q) d hs K (am_p1 st fun _ r => am_go (pc + 1, ls, r, h, c, s0))) : am_Gl G m p l e R s mth args below meth cd Q (pc, ls, st, h, c, s0) := by
  obtain ⟨hx, hb, hml, hown, hts, hW, hR, hlk, htr, hin⟩ := C
  have w1 := am_p1_inv w
  clear w
  obtain ⟨v, r, rfl, hv, w⟩ := w1
  intro H locs arr sv hH hS hL hst hc hs0
  dsimp only at hH hL hst hc hs0 ⊢
  have hq := am_RS_inv hst
  clear hst
  obtain ⟨V, sv, rfl, hV, hst⟩ := hq
  refine lv_pop hx hb hd (am_RV_cat1 hV hv) ?_
  exact w H locs arr _ hH hS hL hst hc hs0
theorem am_i_dup2 (C : am_Cx G l d m p R s mth args meth cd) (hd : decode (am_cd m) pc = .ok (.dup2, 1)) (w : am_stp X (am_Gl G m p l e R s mth args below meth cd Q) d hs K (am_p1 st fun v r => am_p1 r fun w r => am_go (pc + 1, ls, v :: w :: v :: w :: r, h, c, s0))) : am_Gl G m p l e R s mth args below meth cd Q (pc, ls, st, h, c, s0) := by
  obtain ⟨hx, hb, hml, hown, hts, hW, hR, hlk, htr, hin⟩ := C
  have w1 := am_p1_inv w
  clear w
  obtain ⟨v, r, rfl, hv, w⟩ := w1
  have w1 := am_p1_inv w
  clear w
  obtain ⟨v2, r, rfl, hv2, w⟩ := w1
  intro H locs arr sv hH hS hL hst hc hs0
  dsimp only at hH hL hst hc hs0 ⊢
  have hq := am_RS_inv hst
  clear hst
  obtain ⟨V, sv, rfl, hV, hst⟩ := hq
  have hq := am_RS_inv hst
  clear hst
  obtain ⟨V2, sv, rfl, hV2, hst⟩ := hq
  refine lv_dup2_11 hx hb hd (am_RV_cat1 hV hv) (am_RV_cat1 hV2 hv2) ?_
  exact w H locs arr _ hH hS hL ⟨hV, hV2, hV, hV2, hst⟩ hc hs0
theorem am_i_if_eq (C : am_Cx G l d m p R s mth args meth cd) {off : Int} {r1 : Nat} (ht : (pc : Int) + off = (r1 : Int)) (hd : decode (am_cd m) pc = .ok (.ifCond .eq off, 3)) (w : am_stp X (am_Gl G m p l e R s mth args below meth cd Q) d hs K (am_pI st fun a r => am_br (a = 0) (r1, ls, r, h, c, s0) (pc + 3, ls, r, h, c, s0))) : am_Gl G m p l e R s mth args below meth cd Q (pc, ls, st, h, c, s0) := by
  obtain ⟨hx, hb, hml, hown, hts, hW, hR, hlk, htr, hin⟩ := C
  have w1 := am_pI_inv w
  clear w
  obtain ⟨a, r, rfl, w⟩ := w1
  intro H locs arr sv hH hS hL hst hc hs0
  dsimp only at hH hL hst hc hs0 ⊢
  have hq := am_RS_inv hst
  clear hst
  obtain ⟨V1, sv, rfl, hV0, hst⟩ := hq
  obtain ⟨x, rfl, rfl⟩ := hV0
  refine lv_if_eq (tgt := r1) hx hb hd ht (fun z => ?_) (fun z => ?_)
  · exact w.1 (am_z_eq_t z) H locs arr _ hH hS hL hst hc hs0
  · exact w.2 (am_z_eq_f z) H locs arr _ hH hS hL hst hc hs0
theorem am_i_icmp_eq (C : am_Cx G l d m p R s mth args meth cd) {off : Int} {r1 : Nat} (ht : (pc : Int) + off = (r1 : Int)) (hd : decode (am_cd m) pc = .ok (.if_icmp .eq off, 3)) (w : am_stp X (am_Gl G m p l e R s mth args below meth cd Q) d hs K (am_pI st fun b r => am_pI r fun a r => am_br (a = b) (r1, ls, r, h, c, s0) (pc + 3, ls, r, h, c, s0))) : am_Gl G m p l e R s mth args below meth cd Q (pc, ls, st, h, c, s0) := by
  obtain ⟨hx, hb, hml, hown, hts, hW, hR, hlk, htr, hin⟩ := C
  have w1 := am_pI_inv w
  clear w
  obtain ⟨b, r, rfl, w⟩ := w1
  have w1 := am_pI_inv w
  clear w
  obtain ⟨a, r, rfl, w⟩ := w1
  intro H locs arr sv hH hS hL hst hc hs0
  dsimp only at hH hL hst hc hs0 ⊢
  have hq := am_RS_inv hst
  clear hst
  obtain ⟨V2, sv, rfl, hV0, hst⟩ := hq
  obtain ⟨y, rfl, rfl⟩ := hV0
  have hq := am_RS_inv hst
  clear hst
  obtain ⟨V1, sv, rfl, hV0, hst⟩ := hq
  obtain ⟨x, rfl, rfl⟩ := hV0
  refine lv_icmp_eq (tgt := r1) hx hb hd ht (fun z => ?_) (fun z => ?_)
  · exact w.1 (am_c_eq_t z) H locs arr _ hH hS hL hst hc hs0
  · exact w.2 (am_c_eq_f z) H locs arr _ hH hS hL hst hc hs0
theorem am_i_if_ne (C : am_Cx G l d m p R s mth args meth cd) {off : Int} {r1 : Nat} (ht : (pc : Int) + off = (r1 : Int)) (hd : decode (am_cd m) pc = .ok (.ifCond .ne off, 3)) (w : am_stp X (am_Gl G m p l e R s mth args below meth cd Q) d hs K (am_pI st fun a r => am_br (a = 0) (pc + 3, ls, r, h, c, s0) (r1, ls, r, h, c, s0))) : am_Gl G m p l e R s mth args below meth cd Q (pc, ls, st, h, c, s0) := by
  obtain ⟨hx, hb, hml, hown, hts, hW, hR, hlk, htr, hin⟩ := C
  have w1 := am_pI_inv w
  clear w
  obtain ⟨a, r, rfl, w⟩ := w1
  intro H locs arr sv hH hS hL hst hc hs0
  dsimp only at hH hL hst hc hs0 ⊢
  have hq := am_RS_inv hst
  clear hst
  obtain ⟨V1, sv, rfl, hV0, hst⟩ := hq
  obtain ⟨x, rfl, rfl⟩ := hV0
  refine lv_if_ne (tgt := r1) hx hb hd ht (fun z => ?_) (fun z => ?_)
  · exact w.2 (am_z_ne_t z) H locs arr _ hH hS hL hst hc hs0
  · exact w.1 (am_z_ne_f z) H locs arr _ hH hS hL hst hc hs0
theorem am_i_icmp_ne (C : am_Cx G l d m p R s mth args meth cd) {off : Int} {r1 : Nat} (ht : (pc : Int) + off = (r1 : Int)) (hd : decode (am_cd m) pc = .ok (.if_icmp .ne off, 3)) (w : am_stp X (am_Gl G m p l e R s mth args below meth cd Q) d hs K (am_pI st fun b r => am_pI r fun a r => am_br (a = b) (pc + 3, ls, r, h, c, s0) (r1, ls, r, h, c, s0))) : am_Gl G m p l e R s mth args below meth cd Q (pc, ls, st, h, c, s0) := by
  obtain ⟨hx, hb, hml, hown, hts, hW, hR, hlk, htr, hin⟩ := C
  have w1 := am_pI_inv w
  clear w
  obtain ⟨b, r, rfl, w⟩ := w1
  have w1 := am_pI_inv w
  clear w
  obtain ⟨a, r, rfl, w⟩ := w1
  intro H locs arr sv hH hS hL hst hc hs0
  dsimp only at hH hL hst hc hs0 ⊢
  have hq := am_RS_inv hst
  clear hst
  obtain ⟨V2, sv, rfl, hV0, hst⟩ := hq
  obtain ⟨y, rfl, rfl⟩ := hV0
  have hq := am_RS_inv hst
  clear hst
  obtain ⟨V1, sv, rfl, hV0, hst⟩ := hq
  obtain ⟨x, rfl, rfl⟩ := hV0
  refine lv_icmp_ne (tgt := r1) hx hb hd ht (fun z => ?_) (fun z => ?_)
  · exact w.2 (am_c_ne_t z) H locs arr _ hH hS hL hst hc hs0
  · exact w.1 (am_c_ne_f z) H locs arr _ hH hS hL hst hc hs0
theorem am_i_if_lt (C : am_Cx G l d m p R s mth args meth cd) {off : Int} {r1 : Nat} (ht : (pc : Int) + off = (r1 : Int)) (hd : decode (am_cd m) pc = .ok (.ifCond .lt off, 3)) (w : am_stp X (am_Gl G m p l e R s mth args below meth cd Q) d hs K (am_pI st fun a r => am_br (a < 0) (r1, ls, r, h, c, s0) (pc + 3, ls, r, h, c, s0))) : am_Gl G m p l e R s mth args below meth cd Q (pc, ls, st, h, c, s0) := by
  obtain ⟨hx, hb, hml, hown, hts, hW, hR, hlk, htr, hin⟩ := C
  have w1 := am_pI_inv w
  clear w
  obtain ⟨a, r, rfl, w⟩ := w1
  intro H locs arr sv hH hS hL hst hc hs0
  dsimp only at hH hL hst hc hs0 ⊢
  have hq := am_RS_inv hst
  clear hst
  obtain ⟨V1, sv, rfl, hV0, hst⟩ := hq
  obtain ⟨x, rfl, rfl⟩ := hV0
  refine lv_if_lt (tgt := r1) hx hb hd ht (fun z => ?_) (fun z => ?_)
  · exact w.1 (am_z_lt_t z) H locs arr _ hH hS hL hst hc hs0
  · exact w.2 (am_z_lt_f z) H locs arr _ hH hS hL hst hc hs0
theorem am_i_icmp_lt (C : am_Cx G l d m p R s mth args meth cd) {off : Int} {r1 : Nat} (ht : (pc : Int) + off = (r1 : Int)) (hd : decode (am_cd m) pc = .ok (.if_icmp .lt off, 3)) (w : am_stp X (am_Gl G m p l e R s mth args below meth cd Q) d hs K (am_pI st fun b r => am_pI r fun a r => am_br (a < b) (r1, ls, r, h, c, s0) (pc + 3, ls, r, h, c, s0))) : am_Gl G m p l e R s mth args below meth cd Q (pc, ls, st, h, c, s0) := by
  obtain ⟨hx, hb, hml, hown, hts, hW, hR, hlk, htr, hin⟩ := C
  have w1 := am_pI_inv w
  clear w
  obtain ⟨b, r, rfl, w⟩ := w1
  have w1 := am_pI_inv w
  clear w
  obtain ⟨a, r, rfl, w⟩ := w1
  intro H locs arr sv hH hS hL hst hc hs0
  dsimp only at hH hL hst hc hs0 ⊢
  have hq := am_RS_inv hst
  clear hst
  obtain ⟨V2, sv, rfl, hV0, hst⟩ := hq
  obtain ⟨y, rfl, rfl⟩ := hV0
  have hq := am_RS_inv hst
  clear hst
  obtain ⟨V1, sv, rfl, hV0, hst⟩ := hq
  obtain ⟨x, rfl, rfl⟩ := hV0
  refine lv_icmp_lt (tgt := r1) hx hb hd ht (fun z => ?_) (fun z => ?_)
  · exact w.1 (am_c_lt_t z) H locs arr _ hH hS hL hst hc hs0
  · exact w.2 (am_c_lt_f z) H locs arr _ hH hS hL hst hc hs0
theorem am_i_if_ge (C : am_Cx G l d m p R s mth args meth cd) {off : Int} {r1 : Nat} (ht : (pc : Int) + off = (r1 : Int)) (hd : decode (am_cd m) pc = .ok (.ifCond .ge off, 3)) (w : am_stp X (am_Gl G m p l e R s mth args below meth cd Q) d hs K (am_pI st fun a r => am_br (a < 0) (pc + 3, ls, r, h, c, s0) (r1, ls, r, h, c, s0))) : am_Gl G m p l e R s mth args below meth cd Q (pc, ls, st, h, c, s0) := by
  obtain ⟨hx, hb, hml, hown, hts, hW, hR, hlk, htr, hin⟩ := C
  have w1 := am_pI_inv w
  clear w
  obtain ⟨a, r, rfl, w⟩ := w1
  intro H locs arr sv hH hS hL hst hc hs0
  dsimp only at hH hL hst hc hs0 ⊢
  have hq := am_RS_inv hst
  clear hst
  obtain ⟨V1, sv, rfl, hV0, hst⟩ := hq
  obtain ⟨x, rfl, rfl⟩ := hV0
  refine lv_if_ge (tgt := r1) hx hb hd ht (fun z => ?_) (fun z => ?_)
  · exact w.2 (am_z_ge_t z) H locs arr _ hH hS hL hst hc hs0
  · exact w.1 (am_z_ge_f z) H locs arr _ hH hS hL hst hc hs0
theorem am_i_icmp_ge (C : am_Cx G l d m p R s mth args meth cd) {off : Int} {r1 : Nat} (ht : (pc : Int) + off = (r1 : Int)) (hd : decode (am_cd m) pc = .ok (.if_icmp .ge off, 3)) (w : am_stp X (am_Gl G m p l e R s mth args below meth cd Q) d hs K (am_pI st fun b r => am_pI r fun a r => am_br (a < b) (pc + 3, ls, r, h, c, s0) (r1, ls, r, h, c, s0))) : am_Gl G m p l e R s mth args below meth cd Q (pc, ls, st, h, c, s0) := by
  obtain ⟨hx, hb, hml, hown, hts, hW, hR, hlk, htr, hin⟩ := C
  have w1 := am_pI_inv w
  clear w
  obtain ⟨b, r, rfl, w⟩ := w1
  have w1 := am_pI_inv w
  clear w
  obtain ⟨a, r, rfl, w⟩ := w1
  intro H locs arr sv hH hS hL hst hc hs0
  dsimp only at hH hL hst hc hs0 ⊢
  have hq := am_RS_inv hst
  clear hst
  obtain ⟨V2, sv, rfl, hV0, hst⟩ := hq
  obtain ⟨y, rfl, rfl⟩ := hV0
  have hq := am_RS_inv hst
  clear hst
  obtain ⟨V1, sv, rfl, hV0, hst⟩ := hq
  obtain ⟨x, rfl, rfl⟩ := hV0
  refine lv_icmp_ge (tgt := r1) hx hb hd ht (fun z => ?_) (fun z => ?_)
  · exact w.2 (am_c_ge_t z) H locs arr _ hH hS hL hst hc hs0
  · exact w.1 (am_c_ge_f z) H locs arr _ hH hS hL hst hc hs0
theorem am_i_if_gt (C : am_Cx G l d m p R s mth args meth cd) {off : Int} {r1 : Nat} (ht : (pc : Int) + off = (r1 : Int)) (hd : decode (am_cd m) pc = .ok (.ifCond .gt off, 3)) (w : am_stp X (am_Gl G m p l e R s mth args below meth cd Q) d hs K (am_pI st fun a r => am_br (0 < a) (r1, ls, r, h, c, s0) (pc + 3, ls, r, h, c, s0))) : am_Gl G m p l e R s mth args below meth cd Q (pc, ls, st, h, c, s0) := by
  obtain ⟨hx, hb, hml, hown, hts, hW, hR, hlk, htr, hin⟩ := C
  have w1 := am_pI_inv w
  clear w
  obtain ⟨a, r, rfl, w⟩ := w1
  intro H locs arr sv hH hS hL hst hc hs0
  dsimp only at hH hL hst hc hs0 ⊢
  have hq := am_RS_inv hst
  clear hst
  obtain ⟨V1, sv, rfl, hV0, hst⟩ := hq
  obtain ⟨x, rfl, rfl⟩ := hV0
  refine lv_if_gt (tgt := r1) hx hb hd ht (fun z => ?_) (fun z => ?_)
  · exact w.1 (am_z_gt_t z) H locs arr _ hH hS hL hst hc hs0
  · exact w.2 (am_z_gt_f z) H locs arr _ hH hS hL hst hc hs0
theorem am_i_icmp_gt (C : am_Cx G l d m p R s mth args meth cd) {off : Int} {r1 : Nat} (ht : (pc : Int) + off = (r1 : Int)) (hd : decode (am_cd m) pc = .ok (.if_icmp .gt off, 3)) (w : am_stp X (am_Gl G m p l e R s mth args below meth cd Q) d hs K (am_pI st fun b r => am_pI r fun a r => am_br (b < a) (r1, ls, r, h, c, s0) (pc + 3, ls, r, h, c, s0))) : am_Gl G m p l e R s mth args below meth cd Q (pc, ls, st, h, c, s0) := by
  obtain ⟨hx, hb, hml, hown, hts, hW, hR, hlk, htr, hin⟩ := C
  have w1 := am_pI_inv w
  clear w
  obtain ⟨b, r, rfl, w⟩ := w1
  have w1 := am_pI_inv w
  clear w
  obtain ⟨a, r, rfl, w⟩ := w1
  intro H locs arr sv hH hS hL hst hc hs0
  dsimp only at hH hL hst hc hs0 ⊢
  have hq := am_RS_inv hst
  clear hst
  obtain ⟨V2, sv, rfl, hV0, hst⟩ := hq
  obtain ⟨y, rfl, rfl⟩ := hV0
  have hq := am_RS_inv hst
  clear hst
  obtain ⟨V1, sv, rfl, hV0, hst⟩ := hq
  obtain ⟨x, rfl, rfl⟩ := hV0
  refine lv_icmp_gt (tgt := r1) hx hb hd ht (fun z => ?_) (fun z => ?_)
  · exact w.1 (am_c_gt_t z) H locs arr _ hH hS hL hst hc hs0
  · exact w.2 (am_c_gt_f z) H locs arr _ hH hS hL hst hc hs0
theorem am_i_if_le (C : am_Cx G l d m p R s mth args meth cd) {off : Int} {r1 : Nat} (ht : (pc : Int) + off = (r1 : Int)) (hd : decode (am_cd m) pc = .ok (.ifCond .le off, 3)) (w : am_stp X (am_Gl G m p l e R s mth args below meth cd Q) d hs K (am_pI st fun a r => am_br (0 < a) (pc + 3, ls, r, h, c, s0) (r1, ls, r, h, c, s0))) : am_Gl G m p l e R s mth args below meth cd Q (pc, ls, st, h, c, s0) := by
  obtain ⟨hx, hb, hml, hown, hts, hW, hR, hlk, htr, hin⟩ := C
  have w1 := am_pI_inv w
  clear w
  obtain ⟨a, r, rfl, w⟩ := w1
  intro H locs arr sv hH hS hL hst hc hs0
  dsimp only at hH hL hst hc hs0 ⊢
  have hq := am_RS_inv hst
  clear hst
  obtain ⟨V1, sv, rfl, hV0, hst⟩ := hq
  obtain ⟨x, rfl, rfl⟩ := hV0
  refine lv_if_le (tgt := r1) hx hb hd ht (fun z => ?_) (fun z => ?_)
  · exact w.2 (am_z_le_t z) H locs arr _ hH hS hL hst hc hs0
  · exact w.1 (am_z_le_f z) H locs arr _ hH hS hL hst hc hs0
theorem am_i_icmp_le (C : am_Cx G l d m p R s mth args meth cd) {off : Int} {r1 : Nat} (ht : (pc : Int) + off = (r1 : Int)) (hd : decode (am_cd m) pc = .ok (.if_icmp .le off, 3)) (w : am_stp X (am_Gl G m p l e R s mth args below meth cd Q) d hs K (am_pI st fun b r => am_pI r fun a r => am_br (b < a) (pc + 3, ls, r, h, c, s0) (r1, ls, r, h, c, s0))) : am_Gl G m p l e R s mth args below meth cd Q (pc, ls, st, h, c, s0) := by
  obtain ⟨hx, hb, hml, hown, hts, hW, hR, hlk, htr, hin⟩ := C
  have w1 := am_pI_inv w
  clear w
  obtain ⟨b, r, rfl, w⟩ := w1
  have w1 := am_pI_inv w
  clear w
  obtain ⟨a, r, rfl, w⟩ := w1
  intro H locs arr sv hH hS hL hst hc hs0
  dsimp only at hH hL hst hc hs0 ⊢
  have hq := am_RS_inv hst
  clear hst
  obtain ⟨V2, sv, rfl, hV0, hst⟩ := hq
  obtain ⟨y, rfl, rfl⟩ := hV0
  have hq := am_RS_inv hst
  clear hst
  obtain ⟨V1, sv, rfl, hV0, hst⟩ := hq
  obtain ⟨x, rfl, rfl⟩ := hV0
  refine lv_icmp_le (tgt := r1) hx hb hd ht (fun z => ?_) (fun z => ?_)
  · exact w.2 (am_c_le_t z) H locs arr _ hH hS hL hst hc hs0
  · exact w.1 (am_c_le_f z) H locs arr _ hH hS hL hst hc hs0
theorem am_i_goto (C : am_Cx G l d m p R s mth args meth cd) {off : Int} {r1 : Nat} (ht : (pc : Int) + off = (r1 : Int)) (hd : decode (am_cd m) pc = .ok (.goto off, 3)) (w : am_stp X (am_Gl G m p l e R s mth args below meth cd Q) d hs K (am_go (r1, ls, st, h, c, s0))) : am_Gl G m p l e R s mth args below meth cd Q (pc, ls, st, h, c, s0) := by
  obtain ⟨hx, hb, hml, hown, hts, hW, hR, hlk, htr, hin⟩ := C
  intro H locs arr sv hH hS hL hst hc hs0
  dsimp only at hH hL hst hc hs0 ⊢
  refine lv_goto (tgt := r1) hx hb hd ht ?_
  exact w H locs arr _ hH hS hL hst hc hs0
theorem am_i_dmul (C : am_Cx G l d m p R s mth args meth cd) (hd : decode (am_cd m) pc = .ok (.dmul, 1)) (w : am_stp X (am_Gl G m p l e R s mth args below meth cd Q) d hs K (am_pD st fun b r => am_pD r fun a r => am_ck (vf_n64 (am_dm a b)) (pc + 1, ls, (3, ((am_dm a b).toNat : Int)) :: r, h, c, s0))) : am_Gl G m p l e R s mth args below meth cd Q (pc, ls, st, h, c, s0) := by
  obtain ⟨hx, hb, hml, hown, hts, hW, hR, hlk, htr, hin⟩ := C
  have w1 := am_pD_inv w
  clear w
  obtain ⟨b, r, rfl, w⟩ := w1
  have w1 := am_pD_inv w
  clear w
  obtain ⟨a, r, rfl, w⟩ := w1
  obtain ⟨hne, w⟩ := w
  intro H locs arr sv hH hS hL hst hc hs0
  dsimp only at hH hL hst hc hs0 ⊢
  have hq := am_RS_inv hst
  clear hst
  obtain ⟨V2, sv, rfl, hV0, hst⟩ := hq
  obtain ⟨y, rfl, rfl⟩ := hV0
  have hq := am_RS_inv hst
  clear hst
  obtain ⟨V1, sv, rfl, hV0, hst⟩ := hq
  obtain ⟨x, rfl, rfl⟩ := hV0
  have e1 : am_dm (x.toNat : Int) (y.toNat : Int) = FP.dmul x y := by unfold am_dm; rw [am_bits, am_bits]
  rw [e1] at hne w
  refine lv_dmul hx hb hd hne ?_
  exact w H locs arr _ hH hS hL ⟨⟨_, rfl, rfl⟩, hst⟩ hc hs0
theorem am_i_dsub (C : am_Cx G l d m p R s mth args meth cd) (hd : decode (am_cd m) pc = .ok (.dsub, 1)) (w : am_stp X (am_Gl G m p l e R s mth args below meth cd Q) d hs K (am_pD st fun b r => am_pD r fun a r => am_ck (vf_n64 (am_ds a b)) (pc + 1, ls, (3, ((am_ds a b).toNat : Int)) :: r, h, c, s0))) : am_Gl G m p l e R s mth args below meth cd Q (pc, ls, st, h, c, s0) := by
  obtain ⟨hx, hb, hml, hown, hts, hW, hR, hlk, htr, hin⟩ := C
  have w1 := am_pD_inv w
  clear w
  obtain ⟨b, r, rfl, w⟩ := w1
  have w1 := am_pD_inv w
  clear w
  obtain ⟨a, r, rfl, w⟩ := w1
  obtain ⟨hne, w⟩ := w
  intro H locs arr sv hH hS hL hst hc hs0
  dsimp only at hH hL hst hc hs0 ⊢
  have hq := am_RS_inv hst
  clear hst
  obtain ⟨V2, sv, rfl, hV0, hst⟩ := hq
  obtain ⟨y, rfl, rfl⟩ := hV0
  have hq := am_RS_inv hst
  clear hst
  obtain ⟨V1, sv, rfl, hV0, hst⟩ := hq
  obtain ⟨x, rfl, rfl⟩ := hV0
  have e1 : am_ds (x.toNat : Int) (y.toNat : Int) = FP.dsub x y := by unfold am_ds; rw [am_bits, am_bits]
  rw [e1] at hne w
  refine lv_dsub hx hb hd hne ?_
  exact w H locs arr _ hH hS hL ⟨⟨_, rfl, rfl⟩, hst⟩ hc hs0
theorem am_i_land (C : am_Cx G l d m p R s mth args meth cd) (hd : decode (am_cd m) pc = .ok (.land, 1)) (w : am_stp X (am_Gl G m p l e R s mth args below meth cd Q) d hs K (am_pL st fun b r => am_pL r fun a r => am_go (pc + 1, ls, (1, am_land a b) :: r, h, c, s0))) : am_Gl G m p l e R s mth args below meth cd Q (pc, ls, st, h, c, s0) := by
  obtain ⟨hx, hb, hml, hown, hts, hW, hR, hlk, htr, hin⟩ := C
  have w1 := am_pL_inv w
  clear w
  obtain ⟨b, r, rfl, w⟩ := w1
  have w1 := am_pL_inv w
  clear w
  obtain ⟨a, r, rfl, w⟩ := w1
  intro H locs arr sv hH hS hL hst hc hs0
  dsimp only at hH hL hst hc hs0 ⊢
  have hq := am_RS_inv hst
  clear hst
  obtain ⟨V2, sv, rfl, hV0, hst⟩ := hq
  obtain ⟨y, rfl, rfl⟩ := hV0
  have hq := am_RS_inv hst
  clear hst
  obtain ⟨V1, sv, rfl, hV0, hst⟩ := hq
  obtain ⟨x, rfl, rfl⟩ := hV0
  refine lv_land hx hb hd ?_
  refine w H locs arr _ hH hS hL ⟨⟨_, rfl, ?_⟩, hst⟩ hc hs0
  show am_land x.toInt y.toInt = (x &&& y).toInt
  unfold am_land
  rw [Int64.ofInt_toInt, Int64.ofInt_toInt]
theorem am_i_dload_n (C : am_Cx G l d m p R s mth args meth cd) {i : Fin 4} (hd : decode (am_cd m) pc = .ok (.dload_n i, 1)) (w : am_stp X (am_Gl G m p l e R s mth args below meth cd Q) d hs K (am_ld2 (am_get ls i.val) (am_get ls (i.val + 1)) 3 fun v => am_go (pc + 1, ls, v :: st, h, c, s0))) : am_Gl G m p l e R s mth args below meth cd Q (pc, ls, st, h, c, s0) := by
  obtain ⟨hx, hb, hml, hown, hts, hW, hR, hlk, htr, hin⟩ := C
  obtain ⟨h8, w⟩ := am_ld2_inv w
  obtain ⟨w, ht⟩ := am_ld_inv w
  have ht0 : (am_get ls i.val).1 = 3 := by rcases ht with z | z | z | z <;> first | (have := z.2; omega) | (have := z.1; omega)
  intro H locs arr sv hH hS hL hst hc hs0
  dsimp only at hH hL hst hc hs0 ⊢
  obtain ⟨V, e1, e2⟩ := am_rd hL (i := i.val) (by omega) (fun _ => h8)
  have e3 := e2
  unfold am_RV at e3
  rw [ht0] at e3
  obtain ⟨x, rfl, e4⟩ := e3
  refine lv_dload_n hx hb hd rfl e1 ?_
  exact w H locs arr _ hH hS hL ⟨e2, hst⟩ hc hs0
theorem am_i_null (C : am_Cx G l d m p R s mth args meth cd) (hd : decode (am_cd m) pc = .ok (.aconst_null, 1)) (w : am_stp X (am_Gl G m p l e R s mth args below meth cd Q) d hs K (am_go (pc + 1, ls, (2, -1) :: st, h, c, s0))) : am_Gl G m p l e R s mth args below meth cd Q (pc, ls, st, h, c, s0) := by
  obtain ⟨hx, hb, hml, hown, hts, hW, hR, hlk, htr, hin⟩ := C
  intro H locs arr sv hH hS hL hst hc hs0
  dsimp only at hH hL hst hc hs0 ⊢
  refine lv_null hx hb hd ?_
  exact w H locs arr _ hH hS hL ⟨Or.inl ⟨rfl, rfl⟩, hst⟩ hc hs0
theorem am_i_ifnull (C : am_Cx G l d m p R s mth args meth cd) {off : Int} {r1 : Nat} (ht : (pc : Int) + off = (r1 : Int)) (hd : decode (am_cd m) pc = .ok (.ifnull off, 3)) (w : am_stp X (am_Gl G m p l e R s mth args below meth cd Q) d hs K (am_pR st fun a r => am_br (a = -1) (r1, ls, r, h, c, s0) (pc + 3, ls, r, h, c, s0))) : am_Gl G m p l e R s mth args below meth cd Q (pc, ls, st, h, c, s0) := by
  obtain ⟨hx, hb, hml, hown, hts, hW, hR, hlk, htr, hin⟩ := C
  have w1 := am_pR_inv w
  clear w
  obtain ⟨a, r, rfl, w⟩ := w1
  intro H locs arr sv hH hS hL hst hc hs0
  dsimp only at hH hL hst hc hs0 ⊢
  have hq := am_RS_inv hst
  clear hst
  obtain ⟨V1, sv, rfl, hV0, hst⟩ := hq
  rcases hV0 with ⟨hV, rfl⟩ | ⟨hV, rfl⟩
  · exact lv_ifnullN hx hb hd ht (w.1 hV H locs arr _ hH hS hL hst hc hs0)
  · exact lv_ifnull hx hb hd (w.2 hV H locs arr _ hH hS hL hst hc hs0)
theorem am_i_ifnonnull (C : am_Cx G l d m p R s mth args meth cd) {off : Int} {r1 : Nat} (ht : (pc : Int) + off = (r1 : Int)) (hd : decode (am_cd m) pc = .ok (.ifnonnull off, 3)) (w : am_stp X (am_Gl G m p l e R s mth args below meth cd Q) d hs K (am_pR st fun a r => am_br (a = -1) (pc + 3, ls, r, h, c, s0) (r1, ls, r, h, c, s0))) : am_Gl G m p l e R s mth args below meth cd Q (pc, ls, st, h, c, s0) := by
  obtain ⟨hx, hb, hml, hown, hts, hW, hR, hlk, htr, hin⟩ := C
  have w1 := am_pR_inv w
  clear w
  obtain ⟨a, r, rfl, w⟩ := w1
  intro H locs arr sv hH hS hL hst hc hs0
  dsimp only at hH hL hst hc hs0 ⊢
  have hq := am_RS_inv hst
  clear hst
  obtain ⟨V1, sv, rfl, hV0, hst⟩ := hq
  rcases hV0 with ⟨hV, rfl⟩ | ⟨hV, rfl⟩
  · exact lv_ifnonnullN hx hb hd (w.1 hV H locs arr _ hH hS hL hst hc hs0)
  · exact lv_ifnonnull hx hb hd ht (w.2 hV H locs arr _ hH hS hL hst hc hs0)
end SIM
end
section
/-! ===== instructions that look at the heap ===== -/
theorem am_CO_obj {G : am_En} {h : AH} {a : Int} {H : Heap} {t : Nat} (ht : am_t h a = t) (h1 : 1 ≤ t) (h9 : t ≤ 9) : am_CO G h a H ↔ ∃ (q : vw_C) (V : Nat → Value), vwCl[t - 1]? = some q ∧ t_OB (ea G a) ((eD G).1 (t - 1)) q.2.2 ((eD G).2 (t - 1)) H V ∧ ∀ k : Nat, k < q.2.2 → am_RV G ((am_ft t).getD k 0, am_m h a (k : Int)) (V k) := by
  unfold am_CO
  rw [ht]
  split
  all_goals first | omega | exact Iff.rfl
theorem am_CO_i {G : am_En} {h : AH} {a : Int} {H : Heap} (ht : am_t h a = 20) : am_CO G h a H ↔ am_CI G (eI G) (-2147483648) 2147483647 h a H := by unfold am_CO; rw [ht]; exact Iff.rfl
theorem am_CO_y {G : am_En} {h : AH} {a : Int} {H : Heap} (ht : am_t h a = 21) : am_CO G h a H ↔ am_CI G (eY G) (-128) 127 h a H := by unfold am_CO; rw [ht]; exact Iff.rfl
theorem am_CO_z {G : am_En} {h : AH} {a : Int} {H : Heap} (ht : am_t h a = 23) : am_CO G h a H ↔ am_CI G (eZ G) 0 1 h a H := by unfold am_CO; rw [ht]; exact Iff.rfl
theorem am_CO_q {G : am_En} {h : AH} {a : Int} {H : Heap} (ht : am_t h a = 24) : am_CO G h a H ↔ am_CQ G (eQ G) h a H := by unfold am_CO; rw [ht]; exact Iff.rfl
theorem am_CO_r {G : am_En} {h : AH} {a : Int} {H : Heap} (ht : am_t h a = 25) : am_CO G h a H ↔ am_CQ G (eR G) h a H := by unfold am_CO; rw [ht]; exact Iff.rfl
theorem am_CO_j {G : am_En} {h : AH} {a : Int} {H : Heap} (ht : am_t h a = 22) : am_CO G h a H ↔ ∃ (n : Nat) (f : Nat → Int64), H[ea G a]? = some (arrV (eJ G) n (fun j => .long (f j))) ∧ am_l h a = (n : Int) ∧ n ≤ 4096 ∧ ∀ j : Nat, j < n → am_m h a (j : Int) = (f j).toInt := by unfold am_CO; rw [ht]; exact Iff.rfl
theorem am_CO_s {G : am_En} {h : AH} {a : Int} {H : Heap} (ht : am_t h a = 18) : am_CO G h a H ↔ ∃ j : Nat, j < 36 ∧ a = -(300000000 + 2 * (j : Int)) ∧ am_m h a 0 = -(300000000 + 2 * (j : Int) + 1) ∧ am_m h a 1 = 0 := by unfold am_CO; rw [ht]; exact Iff.rfl
theorem am_CO_b {G : am_En} {h : AH} {a : Int} {H : Heap} (ht : am_t h a = 26) : am_CO G h a H ↔ ∃ j : Nat, j < 38 ∧ a = -(300000000 + 2 * (j : Int) + 1) ∧ am_l h a = am_cn j ∧ ∀ i : Int, 0 ≤ i → i < am_cn j → am_m h a i = am_cb j i := by unfold am_CO; rw [ht]; exact Iff.rfl
theorem am_CI_kept {G : am_En} {cA : ClassId} {lo hi : Int} {h h1 : AH} {a : Int} {H H1 : Heap} (w : am_CI G cA lo hi h a H) (hq : H1[ea G a]? = H[ea G a]?) (hl : am_l h1 a = am_l h a) (hm : ∀ j, am_m h1 a j = am_m h a j) : am_CI G cA lo hi h1 a H1 := by
  obtain ⟨n, f, a1, a2, a3, a4⟩ := w
  exact ⟨n, f, hq.trans a1, hl.trans a2, a3, fun j hj => ⟨(hm _).trans (a4 j hj).1, (a4 j hj).2⟩⟩
theorem am_CQ_kept {G : am_En} {cA : ClassId} {h h1 : AH} {a : Int} {H H1 : Heap} (w : am_CQ G cA h a H) (hq : H1[ea G a]? = H[ea G a]?) (hl : am_l h1 a = am_l h a) (hm : ∀ j, am_m h1 a j = am_m h a j) : am_CQ G cA h1 a H1 := by
  obtain ⟨n, f, a1, a2, a3, a4⟩ := w
  exact ⟨n, f, hq.trans a1, hl.trans a2, a3, fun j hj => by rw [hm]; exact a4 j hj⟩
theorem am_CO_kept {G : am_En} {h h1 : AH} {a : Int} {H H1 : Heap} (w : am_CO G h a H) (hq : H1[ea G a]? = H[ea G a]?) (ht : am_t h1 a = am_t h a) (hl : am_l h1 a = am_l h a) (hm : ∀ j, am_m h1 a j = am_m h a j) : am_CO G h1 a H1 := by
  unfold am_CO at w ⊢
  rw [ht]
  generalize am_t h a = tt at w ⊢
  match tt, w with
  | 20, w => exact am_CI_kept w hq hl hm
  | 21, w => exact am_CI_kept w hq hl hm
  | 22, w =>
    obtain ⟨n, f, a1, a2, a3, a4⟩ := w
    exact ⟨n, f, hq.trans a1, hl.trans a2, a3, fun j hj => (hm _).trans (a4 j hj)⟩
  | 23, w => exact am_CI_kept w hq hl hm
  | 24, w => exact am_CQ_kept w hq hl hm
  | 25, w => exact am_CQ_kept w hq hl hm
  | 18, w =>
    obtain ⟨j, a1, a2, a3, a4⟩ := w
    exact ⟨j, a1, a2, (hm _).trans a3, (hm _).trans a4⟩
  | 26, w =>
    obtain ⟨j, a1, a2, a3, a4⟩ := w
    exact ⟨j, a1, a2, hl.trans a3, fun i h0 h1 => (hm _).trans (a4 i h0 h1)⟩
  | 0, w =>
    obtain ⟨q, V, a1, a2, a3⟩ := w
    exact ⟨q, V, a1, a2.kept hq, fun k hk => by rw [hm]; exact a3 k hk⟩
  | 1, w =>
    obtain ⟨q, V, a1, a2, a3⟩ := w
    exact ⟨q, V, a1, a2.kept hq, fun k hk => by rw [hm]; exact a3 k hk⟩
  | 2, w =>
    obtain ⟨q, V, a1, a2, a3⟩ := w
    exact ⟨q, V, a1, a2.kept hq, fun k hk => by rw [hm]; exact a3 k hk⟩
  | 3, w =>
    obtain ⟨q, V, a1, a2, a3⟩ := w
    exact ⟨q, V, a1, a2.kept hq, fun k hk => by rw [hm]; exact a3 k hk⟩
  | 4, w =>
    obtain ⟨q, V, a1, a2, a3⟩ := w
    exact ⟨q, V, a1, a2.kept hq, fun k hk => by rw [hm]; exact a3 k hk⟩
  | 5, w =>
    obtain ⟨q, V, a1, a2, a3⟩ := w
    exact ⟨q, V, a1, a2.kept hq, fun k hk => by rw [hm]; exact a3 k hk⟩
  | 6, w =>
    obtain ⟨q, V, a1, a2, a3⟩ := w
    exact ⟨q, V, a1, a2.kept hq, fun k hk => by rw [hm]; exact a3 k hk⟩
  | 7, w =>
    obtain ⟨q, V, a1, a2, a3⟩ := w
    exact ⟨q, V, a1, a2.kept hq, fun k hk => by rw [hm]; exact a3 k hk⟩
  | 8, w =>
    obtain ⟨q, V, a1, a2, a3⟩ := w
    exact ⟨q, V, a1, a2.kept hq, fun k hk => by rw [hm]; exact a3 k hk⟩
  | 9, w =>
    obtain ⟨q, V, a1, a2, a3⟩ := w
    exact ⟨q, V, a1, a2.kept hq, fun k hk => by rw [hm]; exact a3 k hk⟩
  | 10, w =>
    obtain ⟨q, V, a1, a2, a3⟩ := w
    exact ⟨q, V, a1, a2.kept hq, fun k hk => by rw [hm]; exact a3 k hk⟩
  | 11, w =>
    obtain ⟨q, V, a1, a2, a3⟩ := w
    exact ⟨q, V, a1, a2.kept hq, fun k hk => by rw [hm]; exact a3 k hk⟩
  | 12, w =>
    obtain ⟨q, V, a1, a2, a3⟩ := w
    exact ⟨q, V, a1, a2.kept hq, fun k hk => by rw [hm]; exact a3 k hk⟩
  | 13, w =>
    obtain ⟨q, V, a1, a2, a3⟩ := w
    exact ⟨q, V, a1, a2.kept hq, fun k hk => by rw [hm]; exact a3 k hk⟩
  | 14, w =>
    obtain ⟨q, V, a1, a2, a3⟩ := w
    exact ⟨q, V, a1, a2.kept hq, fun k hk => by rw [hm]; exact a3 k hk⟩
  | 15, w =>
    obtain ⟨q, V, a1, a2, a3⟩ := w
    exact ⟨q, V, a1, a2.kept hq, fun k hk => by rw [hm]; exact a3 k hk⟩
  | 16, w =>
    obtain ⟨q, V, a1, a2, a3⟩ := w
    exact ⟨q, V, a1, a2.kept hq, fun k hk => by rw [hm]; exact a3 k hk⟩
  | 17, w =>
    obtain ⟨q, V, a1, a2, a3⟩ := w
    exact ⟨q, V, a1, a2.kept hq, fun k hk => by rw [hm]; exact a3 k hk⟩
  | 19, w =>
    obtain ⟨q, V, a1, a2, a3⟩ := w
    exact ⟨q, V, a1, a2.kept hq, fun k hk => by rw [hm]; exact a3 k hk⟩
  | n + 27, w =>
    obtain ⟨q, V, a1, a2, a3⟩ := w
    exact ⟨q, V, a1, a2.kept hq, fun k hk => by rw [hm]; exact a3 k hk⟩
theorem am_m_w {h : AH} {a i v b j : Int} : am_m (am_w h a i v) b j = if b = a ∧ j = i then v else am_m h b j := rfl
theorem am_t_w {h : AH} {a i v b : Int} : am_t (am_w h a i v) b = am_t h b := rfl
theorem am_l_w {h : AH} {a i v b : Int} : am_l (am_w h a i v) b = am_l h b := rfl
theorem am_n_w {h : AH} {a i v : Int} : am_n (am_w h a i v) = am_n h := rfl
theorem am_HM_set {G : am_En} {h h1 : AH} {a : Int} {H H1 : Heap} (hH : am_HM G h H) (ha : am_wt (am_t h a)) (hz : H1.size = H.size) (oq : ∀ q : Nat, q ≠ ea G a → H1[q]? = H[q]?)
    (hn : am_n h1 = am_n h) (hsl : am_sl h1 = am_sl h) (hsx : ∀ j, am_sx h1 j = am_sx h j) (ht : ∀ b, am_t h1 b = am_t h b) (hl : ∀ b, am_l h1 b = am_l h b) (hm : ∀ b j, b ≠ a → am_m h1 b j = am_m h b j) (hC : am_CO G h1 a H1) : am_HM G h1 H1 := by
  have hne := @am_HM.ne G h H a
  obtain ⟨g1, ⟨g3, g4⟩, g5⟩ := id hH
  refine ⟨by unfold am_ph at g1 ⊢; rw [hn, hz]; exact g1, ⟨by rw [hsl]; exact g3, fun j hj => by rw [hsx]; exact g4 j hj⟩, fun b hb => ?_⟩
  rw [ht] at hb
  obtain ⟨b1, b2⟩ := g5 b hb
  refine ⟨by unfold am_ok at b1 ⊢; rw [hn, hz, ht]; exact b1, ?_⟩
  by_cases hba : b = a
  · rw [hba]; exact hC
  · exact am_CO_kept b2 (oq _ (hne hH ha hb hba)) (ht b) (hl b) (fun j => hm b j hba)
/-- a field that the tables name -/
def am_fok (m idx r1 r2 ty : Nat) (q : vw_C) : Prop := vwCl[r1 - 1]? = some q ∧ r2 < q.2.2 ∧ (am_ft r1).getD r2 0 = ty ∧ 1 ≤ r1 ∧ r1 ≤ 9 ∧ (∀ w ∈ u_ws q.1 q.2.1 q.2.2, w ∈ am_W) ∧
  (Cond.fieldLink (am_mn m).cls idx (q.2.1 r2).1 (q.2.1 r2).2.1 (q.2.1 r2).2.2.1 ∈ am_W ∨ ∃ host, Cond.fieldLinkNest (am_mn m).cls idx (q.2.1 r2).1 (q.2.1 r2).2.1 (q.2.1 r2).2.2.1 host ∈ lw_tbl)
section SIM
variable {G : am_En} {l : Launch} {d m : Nat} {p : Program} {e : Env} {R : Room} {s : State} {mth : MethodId} {args : Array Value} {below : List Frame} {meth : Method} {cd : Code} {Q : State → Prop} {K : AK} {X : AX} {Z : AC → Prop} {hs : List (Nat × Nat × Nat × Nat)}
variable {pc : Nat} {ls st : List AV} {h : AH} {c s0 : Nat}
theorem am_i_getfield (C : am_Cx G l d m p R s mth args meth cd) {idx r1 r2 ty : Nat} {q : vw_C} (hf : am_fok m idx r1 r2 ty q) (hd : decode (am_cd m) pc = .ok (.getfield idx, 3)) (w : am_stp X (am_Gl G m p l e R s mth args below meth cd Q) d hs K (am_pR st fun a r => am_ck (am_t h a = r1) (pc + 3, ls, (ty, am_m h a (r2 : Int)) :: r, h, c, s0))) : am_Gl G m p l e R s mth args below meth cd Q (pc, ls, st, h, c, s0) := by
  obtain ⟨hx, hb, hml, hown, hts, hW, hR, hlk, htr, hin⟩ := C
  have w1 := am_pR_inv w
  clear w
  obtain ⟨a, r, rfl, ht, w⟩ := w1
  obtain ⟨f1, f2, f4, f5, f6, f7, f8⟩ := hf
  intro H locs arr sv hH hS hL hst hc hs0
  dsimp only at hH hL hst hc hs0 ⊢
  have hq := am_RS_inv hst
  clear hst
  obtain ⟨V, sv, rfl, hV, hst⟩ := hq
  obtain ⟨g1, g2⟩ := hH.2.2 a (by omega)
  obtain ⟨q', F, b1, b2, b3⟩ := (am_CO_obj ht f5 f6).mp g2
  cases b1.symm.trans f1
  have hVa : V = .ref (ea G a) := by
    exact am_RVr hV (hH.o (a := a) (by omega)).1
  subst hVa
  have hK : va_K (eD G) vwCl [(eI G, .int), (eY G, .byte), (eJ G, .long), (eZ G, .boolean), (eQ G, .array .int), (eR G, .array .boolean)] s := hW.1.1
  have hP : va_P (eD G) vwCl [(ea G a, .inr (r1 - 1, (List.range q.2.2).map F))] H := by
    intro k x hk
    match k, hk with
    | 0, hk =>
      cases hk
      refine ⟨q, f1, b2.to fun k hk => ?_⟩
      simp [vp_V, hk]
    | k + 1, hk => simp at hk
  have hv : ((List.range q.2.2).map F)[r2]? = some (F r2) := by simp [f2]
  have kk : W p l e R s mth args below meth cd H locs c s0 Q (F0 mth (pc + 3) arr (F r2 :: sv)) := w H locs arr _ hH hS hL ⟨by rw [← f4]; exact b3 r2 f2, hst⟩ hc hs0
  rcases f8 with f8 | ⟨host, f8⟩
  · exact va_get (C := q.1) (T := q.2.1) (N := q.2.2) hx hb hts f7 hown hK hP 0 rfl f1 r2 f2 (hts _ f8) (fun x hx => hx) hv hd kk
  · exact va_getN (C := q.1) (T := q.2.1) (N := q.2.2) hx hb hts f7 hown hK hP 0 rfl f1 r2 f2 (va_Nw.use rfl (hW.1.2.1 _ f8 rfl)) (fun x hx => hx) hv hd kk
end SIM
end
section
section SIM
variable {G : am_En} {l : Launch} {d m : Nat} {p : Program} {e : Env} {R : Room} {s : State} {mth : MethodId} {args : Array Value} {below : List Frame} {meth : Method} {cd : Code} {Q : State → Prop} {K : AK} {X : AX} {Z : AC → Prop} {hs : List (Nat × Nat × Nat × Nat)}
variable {pc : Nat} {ls st : List AV} {h : AH} {c s0 : Nat}
/-- an index, as the abstract machine has it -/
theorem am_ix {i : Int32} {n : Nat} (h0 : 0 ≤ i.toInt) (h1 : i.toInt < (n : Int)) : vp_in i n ∧ i.toNatClampNeg < n ∧ ((i.toNatClampNeg : Nat) : Int) = i.toInt := by
  have e : i.toNatClampNeg = i.toInt.toNat := rfl
  refine ⟨?_, by omega, by omega⟩
  rintro (z | z)
  · have := Int32.lt_iff_toInt_lt.mp z
    have e0 : (0 : Int32).toInt = 0 := rfl
    omega
  · omega
/-- a store into a field -/
theorem am_obj_put {h : AH} {a v : Int} {r1 r2 : Nat} {q : vw_C} {H H1 : Heap} {F : Nat → Value} {V : Value} {cell : Cell} (hH : am_HM G h H) (ht : am_t h a = r1) (f1 : vwCl[r1 - 1]? = some q) (f5 : 1 ≤ r1) (f6 : r1 ≤ 9) (f2 : r2 < q.2.2)
    (hap : ∀ x y, x < q.2.2 → y < q.2.2 → x ≠ y → ((eD G).2 (r1 - 1)) x ≠ ((eD G).2 (r1 - 1)) y) (q2 : cell.cls = (eD G).1 (r1 - 1)) (q3 : cell.vm = .none) (q4 : ∀ k, k < q.2.2 → cell.slots[(eD G).2 (r1 - 1) k]? = some (F k))
    (b3 : ∀ k : Nat, k < q.2.2 → am_RV G ((am_ft r1).getD k 0, am_m h a (k : Int)) (F k)) (hV : am_RV G ((am_ft r1).getD r2 0, v) V)
    (e1 : H1[ea G a]? = some (cell.setSlot ((eD G).2 (r1 - 1) r2) V)) (z : H1.size = H.size) (oq : ∀ x : Nat, x ≠ ea G a → H1[x]? = H[x]?) : am_HM G (am_w h a (r2 : Int) v) H1 := by
  refine am_HM_set hH (a := a) ⟨by omega, by omega, by omega⟩ z oq rfl rfl (fun _ => rfl) (fun _ => rfl) (fun _ => rfl) (fun b j hb => by rw [am_m_w, if_neg (fun z => hb z.1)]) ?_
  refine (am_CO_obj (show am_t (am_w h a (r2 : Int) v) a = r1 from ht) f5 f6).mpr ⟨q, updV F r2 V, f1, ⟨_, e1, q2, q3, t_set q4 hap f2 V⟩, fun k hk => ?_⟩
  rw [am_m_w]
  by_cases hkr : k = r2
  · subst hkr
    rw [if_pos ⟨rfl, rfl⟩]
    simp [updV]
    exact hV
  · rw [if_neg (fun z => hkr (by omega))]
    simp [updV, hkr]
    exact b3 k hk
theorem am_i_putfield_i (C : am_Cx G l d m p R s mth args meth cd) {idx r1 r2 : Nat} {q : vw_C} (hf : am_fok m idx r1 r2 0 q) (ty0 : Nat → FieldType) (hty : ∀ k, k < q.2.2 → parseFieldDescriptor (q.2.1 k).2.2.1 = some (ty0 k)) (hnm : ∀ a, a < q.2.2 → ∀ b, b < q.2.2 → a ≠ b → (q.2.1 a).2.1 ≠ (q.2.1 b).2.1) (hfin : (q.2.1 r2).2.2.2 = false) (hty2 : ty0 r2 = .int) (hd : decode (am_cd m) pc = .ok (.putfield idx, 3)) (w : am_stp X (am_Gl G m p l e R s mth args below meth cd Q) d hs K (am_pI st fun v r => am_pR r fun a r => am_ck (am_t h a = r1) (pc + 3, ls, r, am_w h a (r2 : Int) v, c, s0))) : am_Gl G m p l e R s mth args below meth cd Q (pc, ls, st, h, c, s0) := by
  obtain ⟨hx, hb, hml, hown, hts, hW, hR, hlk, htr, hin⟩ := C
  have w1 := am_pI_inv w
  clear w
  obtain ⟨v, r, rfl, w⟩ := w1
  have w1 := am_pR_inv w
  clear w
  obtain ⟨a, r, rfl, ht, w⟩ := w1
  obtain ⟨f1, f2, f4, f5, f6, f7, f8⟩ := hf
  intro H locs arr sv hH hS hL hst hc hs0
  dsimp only at hH hL hst hc hs0 ⊢
  have hq := am_RS_inv hst
  clear hst
  obtain ⟨VV, sv, rfl, hVV, hst⟩ := hq
  have hq := am_RS_inv hst
  clear hst
  obtain ⟨VA, sv, rfl, hVA, hst⟩ := hq
  obtain ⟨g1, g2⟩ := hH.2.2 a (by omega)
  obtain ⟨q', F, b1, b2, b3⟩ := (am_CO_obj ht f5 f6).mp g2
  cases b1.symm.trans f1
  have hVa : VA = .ref (ea G a) := by
    exact am_RVr hVA (hH.o (a := a) (by omega)).1
  subst hVa
  have hK : va_K (eD G) vwCl [(eI G, .int), (eY G, .byte), (eJ G, .long), (eZ G, .boolean), (eQ G, .array .int), (eR G, .array .boolean)] s := hW.1.1
  have hap := va_apart (own := (am_mn m).cls) hts f7 ty0 hty hnm hK f1
  obtain ⟨cell, q1, q2, q3, q4⟩ := b2
  obtain ⟨hSl, hfc, kC, hkC, hkind⟩ := hK.1 (r1 - 1) _ f1
  obtain ⟨cf, kf, fi, f, hi, hsl⟩ := hSl r2 f2
  have hlay := hts _ (f7 _ (u_in_lay f2))
  unfold u_lay at hlay
  have hst2 := (u_facts hfc hkC (u_lays hts f7 f2) hi).1
  have hi' : s.fieldFound? (q.2.1 r2).1 (q.2.1 r2).2.1 (q.2.1 r2).2.2.1 = some (cf, kf, fi, f) := hi
  have hRV : am_RV G ((am_ft r1).getD r2 0, v) VV := by rw [f4]; exact hVV
  have hnar : narrow (ty0 r2) VV = VV ∧ fits (ty0 r2) VV = true := by
    rw [hty2]
    obtain ⟨x, rfl, -⟩ := hVV
    exact ⟨rfl, rfl⟩
  rw [if_neg (by rw [hfin]; decide)] at hlay
  have h6 := u_store hfc hkC hkind hlay hi (hty r2 f2) hnar.1 hnar.2
  have fin : ∀ (H1 : Heap), H1[ea G a]? = some (cell.setSlot f.slot VV) → H1.size = H.size → (∀ x, x ≠ ea G a → H1[x]? = H[x]?) → W p l e R s mth args below meth cd H1 (locs ++ [⟨ea G a, f.slot⟩]) c s0 Q (F0 mth (pc + 3) arr sv) := by
    intro H1 e1 e2 e3
    rw [hsl] at e1 ⊢
    exact w H1 _ arr sv (am_obj_put hH ht f1 f5 f6 f2 hap q2 q3 q4 b3 hRV e1 e2 e3) (hS.put e2 e3 (hH.w (a := a) ⟨by omega, by omega, by omega⟩).2.1) hL hst hc hs0
  rcases f8 with f8 | ⟨host, f8⟩
  · exact W.putK hx hb (f := f) ⟨hown, hts _ f8, ⟨_, _, _, hi'⟩, hst2⟩ (by rw [q2]; exact h6) q1 q3 (by rw [hsl]; exact k2_hasslot (q4 r2 f2)) rfl rfl hd fin
  · exact va_WputK hx hb (f := f) hown (va_Nw.use rfl (hW.1.2.1 _ f8 rfl)) hi' hst2 (by rw [q2]; exact h6) q1 q3 (by rw [hsl]; exact k2_hasslot (q4 r2 f2)) rfl rfl hd fin
theorem am_i_putfield_ib (C : am_Cx G l d m p R s mth args meth cd) {idx r1 r2 : Nat} {q : vw_C} (hf : am_fok m idx r1 r2 0 q) (ty0 : Nat → FieldType) (hty : ∀ k, k < q.2.2 → parseFieldDescriptor (q.2.1 k).2.2.1 = some (ty0 k)) (hnm : ∀ a, a < q.2.2 → ∀ b, b < q.2.2 → a ≠ b → (q.2.1 a).2.1 ≠ (q.2.1 b).2.1) (hfin : (q.2.1 r2).2.2.2 = false) (hty2 : ty0 r2 = .byte ∨ ty0 r2 = .boolean) (hd : decode (am_cd m) pc = .ok (.putfield idx, 3)) (w : am_stp X (am_Gl G m p l e R s mth args below meth cd Q) d hs K (am_pI st fun v r => am_pR r fun a r => am_ck (am_t h a = r1 ∧ v = 0) (pc + 3, ls, r, am_w h a (r2 : Int) v, c, s0))) : am_Gl G m p l e R s mth args below meth cd Q (pc, ls, st, h, c, s0) := by
  obtain ⟨hx, hb, hml, hown, hts, hW, hR, hlk, htr, hin⟩ := C
  have w1 := am_pI_inv w
  clear w
  obtain ⟨v, r, rfl, w⟩ := w1
  have w1 := am_pR_inv w
  clear w
  obtain ⟨a, r, rfl, ⟨ht, hv0⟩, w⟩ := w1
  obtain ⟨f1, f2, f4, f5, f6, f7, f8⟩ := hf
  intro H locs arr sv hH hS hL hst hc hs0
  dsimp only at hH hL hst hc hs0 ⊢
  have hq := am_RS_inv hst
  clear hst
  obtain ⟨VV, sv, rfl, hVV, hst⟩ := hq
  have hq := am_RS_inv hst
  clear hst
  obtain ⟨VA, sv, rfl, hVA, hst⟩ := hq
  obtain ⟨g1, g2⟩ := hH.2.2 a (by omega)
  obtain ⟨q', F, b1, b2, b3⟩ := (am_CO_obj ht f5 f6).mp g2
  cases b1.symm.trans f1
  have hVa : VA = .ref (ea G a) := by
    exact am_RVr hVA (hH.o (a := a) (by omega)).1
  subst hVa
  have hK : va_K (eD G) vwCl [(eI G, .int), (eY G, .byte), (eJ G, .long), (eZ G, .boolean), (eQ G, .array .int), (eR G, .array .boolean)] s := hW.1.1
  have hap := va_apart (own := (am_mn m).cls) hts f7 ty0 hty hnm hK f1
  obtain ⟨cell, q1, q2, q3, q4⟩ := b2
  obtain ⟨hSl, hfc, kC, hkC, hkind⟩ := hK.1 (r1 - 1) _ f1
  obtain ⟨cf, kf, fi, f, hi, hsl⟩ := hSl r2 f2
  have hlay := hts _ (f7 _ (u_in_lay f2))
  unfold u_lay at hlay
  have hst2 := (u_facts hfc hkC (u_lays hts f7 f2) hi).1
  have hi' : s.fieldFound? (q.2.1 r2).1 (q.2.1 r2).2.1 (q.2.1 r2).2.2.1 = some (cf, kf, fi, f) := hi
  have hRV : am_RV G ((am_ft r1).getD r2 0, v) VV := by rw [f4]; exact hVV
  have hnar : narrow (ty0 r2) VV = VV ∧ fits (ty0 r2) VV = true := by
    obtain ⟨x, rfl, hx0⟩ := hVV
    have ex : x = 0 := Int32.toInt_inj.mp (hx0.symm.trans hv0)
    subst ex
    rcases hty2 with hty2 | hty2 <;> rw [hty2] <;> exact ⟨rfl, rfl⟩
  rw [if_neg (by rw [hfin]; decide)] at hlay
  have h6 := u_store hfc hkC hkind hlay hi (hty r2 f2) hnar.1 hnar.2
  have fin : ∀ (H1 : Heap), H1[ea G a]? = some (cell.setSlot f.slot VV) → H1.size = H.size → (∀ x, x ≠ ea G a → H1[x]? = H[x]?) → W p l e R s mth args below meth cd H1 (locs ++ [⟨ea G a, f.slot⟩]) c s0 Q (F0 mth (pc + 3) arr sv) := by
    intro H1 e1 e2 e3
    rw [hsl] at e1 ⊢
    exact w H1 _ arr sv (am_obj_put hH ht f1 f5 f6 f2 hap q2 q3 q4 b3 hRV e1 e2 e3) (hS.put e2 e3 (hH.w (a := a) ⟨by omega, by omega, by omega⟩).2.1) hL hst hc hs0
  rcases f8 with f8 | ⟨host, f8⟩
  · exact W.putK hx hb (f := f) ⟨hown, hts _ f8, ⟨_, _, _, hi'⟩, hst2⟩ (by rw [q2]; exact h6) q1 q3 (by rw [hsl]; exact k2_hasslot (q4 r2 f2)) rfl rfl hd fin
  · exact va_WputK hx hb (f := f) hown (va_Nw.use rfl (hW.1.2.1 _ f8 rfl)) hi' hst2 (by rw [q2]; exact h6) q1 q3 (by rw [hsl]; exact k2_hasslot (q4 r2 f2)) rfl rfl hd fin
theorem am_i_putfield_iF (C : am_Cx G l d m p R s mth args meth cd) {idx r1 r2 : Nat} {q : vw_C} (hf : am_fok m idx r1 r2 0 q) (ty0 : Nat → FieldType) (hty : ∀ k, k < q.2.2 → parseFieldDescriptor (q.2.1 k).2.2.1 = some (ty0 k)) (hnm : ∀ a, a < q.2.2 → ∀ b, b < q.2.2 → a ≠ b → (q.2.1 a).2.1 ≠ (q.2.1 b).2.1) (hfin : (q.2.1 r2).2.2.2 = true) (hini : (am_mn m).name = "<init>") (hdcl : (q.2.1 r2).1 = (am_mn m).cls) (hlk2 : Cond.fieldLink (am_mn m).cls idx (q.2.1 r2).1 (q.2.1 r2).2.1 (q.2.1 r2).2.2.1 ∈ am_W) (hty2 : ty0 r2 = .int) (hd : decode (am_cd m) pc = .ok (.putfield idx, 3)) (w : am_stp X (am_Gl G m p l e R s mth args below meth cd Q) d hs K (am_pI st fun v r => am_pR r fun a r => am_ck (am_t h a = r1) (pc + 3, ls, r, am_w h a (r2 : Int) v, c, s0))) : am_Gl G m p l e R s mth args below meth cd Q (pc, ls, st, h, c, s0) := by
  obtain ⟨hx, hb, hml, hown, hts, hW, hR, hlk, htr, hin⟩ := C
  have w1 := am_pI_inv w
  clear w
  obtain ⟨v, r, rfl, w⟩ := w1
  have w1 := am_pR_inv w
  clear w
  obtain ⟨a, r, rfl, ht, w⟩ := w1
  obtain ⟨f1, f2, f4, f5, f6, f7, f8⟩ := hf
  intro H locs arr sv hH hS hL hst hc hs0
  dsimp only at hH hL hst hc hs0 ⊢
  have hq := am_RS_inv hst
  clear hst
  obtain ⟨VV, sv, rfl, hVV, hst⟩ := hq
  have hq := am_RS_inv hst
  clear hst
  obtain ⟨VA, sv, rfl, hVA, hst⟩ := hq
  obtain ⟨g1, g2⟩ := hH.2.2 a (by omega)
  obtain ⟨q', F, b1, b2, b3⟩ := (am_CO_obj ht f5 f6).mp g2
  cases b1.symm.trans f1
  have hVa : VA = .ref (ea G a) := by
    exact am_RVr hVA (hH.o (a := a) (by omega)).1
  subst hVa
  have hK : va_K (eD G) vwCl [(eI G, .int), (eY G, .byte), (eJ G, .long), (eZ G, .boolean), (eQ G, .array .int), (eR G, .array .boolean)] s := hW.1.1
  have hap := va_apart (own := (am_mn m).cls) hts f7 ty0 hty hnm hK f1
  obtain ⟨cell, q1, q2, q3, q4⟩ := b2
  obtain ⟨hSl, hfc, kC, hkC, hkind⟩ := hK.1 (r1 - 1) _ f1
  obtain ⟨cf, kf, fi, f, hi, hsl⟩ := hSl r2 f2
  have hlay := hts _ (f7 _ (u_in_lay f2))
  unfold u_lay at hlay
  have hst2 := (u_facts hfc hkC (u_lays hts f7 f2) hi).1
  have hi' : s.fieldFound? (q.2.1 r2).1 (q.2.1 r2).2.1 (q.2.1 r2).2.2.1 = some (cf, kf, fi, f) := hi
  have hRV : am_RV G ((am_ft r1).getD r2 0, v) VV := by rw [f4]; exact hVV
  have hnar : narrow (ty0 r2) VV = VV ∧ fits (ty0 r2) VV = true := by
    rw [hty2]
    obtain ⟨x, rfl, -⟩ := hVV
    exact ⟨rfl, rfl⟩
  rw [if_pos hfin] at hlay
  have hcf : mth.cls = cf := by
    obtain ⟨_, _, c', _, _, _, -, -, hf', -, -, -, hown2, -⟩ := Cond.laysFinal_spec hlay
    have e1 : c' = cf := by have := hi.symm.trans hf'; simp at this; exact this.1.symm
    rw [hdcl] at hown2
    rw [← e1]; exact Option.some.inj (hown.symm.trans hown2)
  have h6 := u_fits hfc hkC hkind (Or.inr hlay) hi (hty r2 f2) hnar.1 hnar.2
  refine W.putFinK hx hb hown (hts _ hlk2) hi' hst2 hcf (hin hini) (by rw [q2]; exact h6) q1 q3 (by rw [hsl]; exact k2_hasslot (q4 r2 f2)) rfl rfl hd fun H1 e1 e2 e3 => ?_
  rw [hsl] at e1 ⊢
  exact w H1 _ arr sv (am_obj_put hH ht f1 f5 f6 f2 hap q2 q3 q4 b3 hRV e1 e2 e3) (hS.put e2 e3 (hH.w (a := a) ⟨by omega, by omega, by omega⟩).2.1) hL hst hc hs0
theorem am_i_putfield_iFb (C : am_Cx G l d m p R s mth args meth cd) {idx r1 r2 : Nat} {q : vw_C} (hf : am_fok m idx r1 r2 0 q) (ty0 : Nat → FieldType) (hty : ∀ k, k < q.2.2 → parseFieldDescriptor (q.2.1 k).2.2.1 = some (ty0 k)) (hnm : ∀ a, a < q.2.2 → ∀ b, b < q.2.2 → a ≠ b → (q.2.1 a).2.1 ≠ (q.2.1 b).2.1) (hfin : (q.2.1 r2).2.2.2 = true) (hini : (am_mn m).name = "<init>") (hdcl : (q.2.1 r2).1 = (am_mn m).cls) (hlk2 : Cond.fieldLink (am_mn m).cls idx (q.2.1 r2).1 (q.2.1 r2).2.1 (q.2.1 r2).2.2.1 ∈ am_W) (hty2 : ty0 r2 = .byte ∨ ty0 r2 = .boolean) (hd : decode (am_cd m) pc = .ok (.putfield idx, 3)) (w : am_stp X (am_Gl G m p l e R s mth args below meth cd Q) d hs K (am_pI st fun v r => am_pR r fun a r => am_ck (am_t h a = r1 ∧ v = 0) (pc + 3, ls, r, am_w h a (r2 : Int) v, c, s0))) : am_Gl G m p l e R s mth args below meth cd Q (pc, ls, st, h, c, s0) := by
  obtain ⟨hx, hb, hml, hown, hts, hW, hR, hlk, htr, hin⟩ := C
  have w1 := am_pI_inv w
  clear w
  obtain ⟨v, r, rfl, w⟩ := w1
  have w1 := am_pR_inv w
  clear w
  obtain ⟨a, r, rfl, ⟨ht, hv0⟩, w⟩ := w1
  obtain ⟨f1, f2, f4, f5, f6, f7, f8⟩ := hf
  intro H locs arr sv hH hS hL hst hc hs0
  dsimp only at hH hL hst hc hs0 ⊢
  have hq := am_RS_inv hst
  clear hst
  obtain ⟨VV, sv, rfl, hVV, hst⟩ := hq
  have hq := am_RS_inv hst
  clear hst
  obtain ⟨VA, sv, rfl, hVA, hst⟩ := hq
  obtain ⟨g1, g2⟩ := hH.2.2 a (by omega)
  obtain ⟨q', F, b1, b2, b3⟩ := (am_CO_obj ht f5 f6).mp g2
  cases b1.symm.trans f1
  have hVa : VA = .ref (ea G a) := by
    exact am_RVr hVA (hH.o (a := a) (by omega)).1
  subst hVa
  have hK : va_K (eD G) vwCl [(eI G, .int), (eY G, .byte), (eJ G, .long), (eZ G, .boolean), (eQ G, .array .int), (eR G, .array .boolean)] s := hW.1.1
  have hap := va_apart (own := (am_mn m).cls) hts f7 ty0 hty hnm hK f1
  obtain ⟨cell, q1, q2, q3, q4⟩ := b2
  obtain ⟨hSl, hfc, kC, hkC, hkind⟩ := hK.1 (r1 - 1) _ f1
  obtain ⟨cf, kf, fi, f, hi, hsl⟩ := hSl r2 f2
  have hlay := hts _ (f7 _ (u_in_lay f2))
  unfold u_lay at hlay
  have hst2 := (u_facts hfc hkC (u_lays hts f7 f2) hi).1
  have hi' : s.fieldFound? (q.2.1 r2).1 (q.2.1 r2).2.1 (q.2.1 r2).2.2.1 = some (cf, kf, fi, f) := hi
  have hRV : am_RV G ((am_ft r1).getD r2 0, v) VV := by rw [f4]; exact hVV
  have hnar : narrow (ty0 r2) VV = VV ∧ fits (ty0 r2) VV = true := by
    obtain ⟨x, rfl, hx0⟩ := hVV
    have ex : x = 0 := Int32.toInt_inj.mp (hx0.symm.trans hv0)
    subst ex
    rcases hty2 with hty2 | hty2 <;> rw [hty2] <;> exact ⟨rfl, rfl⟩
  rw [if_pos hfin] at hlay
  have hcf : mth.cls = cf := by
    obtain ⟨_, _, c', _, _, _, -, -, hf', -, -, -, hown2, -⟩ := Cond.laysFinal_spec hlay
    have e1 : c' = cf := by have := hi.symm.trans hf'; simp at this; exact this.1.symm
    rw [hdcl] at hown2
    rw [← e1]; exact Option.some.inj (hown.symm.trans hown2)
  have h6 := u_fits hfc hkC hkind (Or.inr hlay) hi (hty r2 f2) hnar.1 hnar.2
  refine W.putFinK hx hb hown (hts _ hlk2) hi' hst2 hcf (hin hini) (by rw [q2]; exact h6) q1 q3 (by rw [hsl]; exact k2_hasslot (q4 r2 f2)) rfl rfl hd fun H1 e1 e2 e3 => ?_
  rw [hsl] at e1 ⊢
  exact w H1 _ arr sv (am_obj_put hH ht f1 f5 f6 f2 hap q2 q3 q4 b3 hRV e1 e2 e3) (hS.put e2 e3 (hH.w (a := a) ⟨by omega, by omega, by omega⟩).2.1) hL hst hc hs0
theorem am_i_putfield_r (C : am_Cx G l d m p R s mth args meth cd) {idx r1 r2 : Nat} {q : vw_C} (hf : am_fok m idx r1 r2 2 q) (ty0 : Nat → FieldType) (hty : ∀ k, k < q.2.2 → parseFieldDescriptor (q.2.1 k).2.2.1 = some (ty0 k)) (hnm : ∀ a, a < q.2.2 → ∀ b, b < q.2.2 → a ≠ b → (q.2.1 a).2.1 ≠ (q.2.1 b).2.1) (hfin : (q.2.1 r2).2.2.2 = false) (hty2 : (∃ n, ty0 r2 = .object n) ∨ ∃ t, ty0 r2 = .array t) (hd : decode (am_cd m) pc = .ok (.putfield idx, 3)) (w : am_stp X (am_Gl G m p l e R s mth args below meth cd Q) d hs K (am_pR st fun v r => am_pR r fun a r => am_ck (am_t h a = r1) (pc + 3, ls, r, am_w h a (r2 : Int) v, c, s0))) : am_Gl G m p l e R s mth args below meth cd Q (pc, ls, st, h, c, s0) := by
  obtain ⟨hx, hb, hml, hown, hts, hW, hR, hlk, htr, hin⟩ := C
  have w1 := am_pR_inv w
  clear w
  obtain ⟨v, r, rfl, w⟩ := w1
  have w1 := am_pR_inv w
  clear w
  obtain ⟨a, r, rfl, ht, w⟩ := w1
  obtain ⟨f1, f2, f4, f5, f6, f7, f8⟩ := hf
  intro H locs arr sv hH hS hL hst hc hs0
  dsimp only at hH hL hst hc hs0 ⊢
  have hq := am_RS_inv hst
  clear hst
  obtain ⟨VV, sv, rfl, hVV, hst⟩ := hq
  have hq := am_RS_inv hst
  clear hst
  obtain ⟨VA, sv, rfl, hVA, hst⟩ := hq
  obtain ⟨g1, g2⟩ := hH.2.2 a (by omega)
  obtain ⟨q', F, b1, b2, b3⟩ := (am_CO_obj ht f5 f6).mp g2
  cases b1.symm.trans f1
  have hVa : VA = .ref (ea G a) := by
    exact am_RVr hVA (hH.o (a := a) (by omega)).1
  subst hVa
  have hK : va_K (eD G) vwCl [(eI G, .int), (eY G, .byte), (eJ G, .long), (eZ G, .boolean), (eQ G, .array .int), (eR G, .array .boolean)] s := hW.1.1
  have hap := va_apart (own := (am_mn m).cls) hts f7 ty0 hty hnm hK f1
  obtain ⟨cell, q1, q2, q3, q4⟩ := b2
  obtain ⟨hSl, hfc, kC, hkC, hkind⟩ := hK.1 (r1 - 1) _ f1
  obtain ⟨cf, kf, fi, f, hi, hsl⟩ := hSl r2 f2
  have hlay := hts _ (f7 _ (u_in_lay f2))
  unfold u_lay at hlay
  have hst2 := (u_facts hfc hkC (u_lays hts f7 f2) hi).1
  have hi' : s.fieldFound? (q.2.1 r2).1 (q.2.1 r2).2.1 (q.2.1 r2).2.2.1 = some (cf, kf, fi, f) := hi
  have hRV : am_RV G ((am_ft r1).getD r2 0, v) VV := by rw [f4]; exact hVV
  have hnar : narrow (ty0 r2) VV = VV ∧ fits (ty0 r2) VV = true := by
    rcases hVV with ⟨-, rfl⟩ | ⟨-, rfl⟩ <;> rcases hty2 with ⟨n, hn⟩ | ⟨t, hn⟩ <;> rw [hn] <;> exact ⟨rfl, rfl⟩
  rw [if_neg (by rw [hfin]; decide)] at hlay
  have h6 := u_store hfc hkC hkind hlay hi (hty r2 f2) hnar.1 hnar.2
  have fin : ∀ (H1 : Heap), H1[ea G a]? = some (cell.setSlot f.slot VV) → H1.size = H.size → (∀ x, x ≠ ea G a → H1[x]? = H[x]?) → W p l e R s mth args below meth cd H1 (locs ++ [⟨ea G a, f.slot⟩]) c s0 Q (F0 mth (pc + 3) arr sv) := by
    intro H1 e1 e2 e3
    rw [hsl] at e1 ⊢
    exact w H1 _ arr sv (am_obj_put hH ht f1 f5 f6 f2 hap q2 q3 q4 b3 hRV e1 e2 e3) (hS.put e2 e3 (hH.w (a := a) ⟨by omega, by omega, by omega⟩).2.1) hL hst hc hs0
  rcases f8 with f8 | ⟨host, f8⟩
  · exact W.putK hx hb (f := f) ⟨hown, hts _ f8, ⟨_, _, _, hi'⟩, hst2⟩ (by rw [q2]; exact h6) q1 q3 (by rw [hsl]; exact k2_hasslot (q4 r2 f2)) rfl rfl hd fin
  · exact va_WputK hx hb (f := f) hown (va_Nw.use rfl (hW.1.2.1 _ f8 rfl)) hi' hst2 (by rw [q2]; exact h6) q1 q3 (by rw [hsl]; exact k2_hasslot (q4 r2 f2)) rfl rfl hd fin
theorem am_i_putfield_rF (C : am_Cx G l d m p R s mth args meth cd) {idx r1 r2 : Nat} {q : vw_C} (hf : am_fok m idx r1 r2 2 q) (ty0 : Nat → FieldType) (hty : ∀ k, k < q.2.2 → parseFieldDescriptor (q.2.1 k).2.2.1 = some (ty0 k)) (hnm : ∀ a, a < q.2.2 → ∀ b, b < q.2.2 → a ≠ b → (q.2.1 a).2.1 ≠ (q.2.1 b).2.1) (hfin : (q.2.1 r2).2.2.2 = true) (hini : (am_mn m).name = "<init>") (hdcl : (q.2.1 r2).1 = (am_mn m).cls) (hlk2 : Cond.fieldLink (am_mn m).cls idx (q.2.1 r2).1 (q.2.1 r2).2.1 (q.2.1 r2).2.2.1 ∈ am_W) (hty2 : (∃ n, ty0 r2 = .object n) ∨ ∃ t, ty0 r2 = .array t) (hd : decode (am_cd m) pc = .ok (.putfield idx, 3)) (w : am_stp X (am_Gl G m p l e R s mth args below meth cd Q) d hs K (am_pR st fun v r => am_pR r fun a r => am_ck (am_t h a = r1) (pc + 3, ls, r, am_w h a (r2 : Int) v, c, s0))) : am_Gl G m p l e R s mth args below meth cd Q (pc, ls, st, h, c, s0) := by
  obtain ⟨hx, hb, hml, hown, hts, hW, hR, hlk, htr, hin⟩ := C
  have w1 := am_pR_inv w
  clear w
  obtain ⟨v, r, rfl, w⟩ := w1
  have w1 := am_pR_inv w
  clear w
  obtain ⟨a, r, rfl, ht, w⟩ := w1
  obtain ⟨f1, f2, f4, f5, f6, f7, f8⟩ := hf
  intro H locs arr sv hH hS hL hst hc hs0
  dsimp only at hH hL hst hc hs0 ⊢
  have hq := am_RS_inv hst
  clear hst
  obtain ⟨VV, sv, rfl, hVV, hst⟩ := hq
  have hq := am_RS_inv hst
  clear hst
  obtain ⟨VA, sv, rfl, hVA, hst⟩ := hq
  obtain ⟨g1, g2⟩ := hH.2.2 a (by omega)
  obtain ⟨q', F, b1, b2, b3⟩ := (am_CO_obj ht f5 f6).mp g2
  cases b1.symm.trans f1
  have hVa : VA = .ref (ea G a) := by
    exact am_RVr hVA (hH.o (a := a) (by omega)).1
  subst hVa
  have hK : va_K (eD G) vwCl [(eI G, .int), (eY G, .byte), (eJ G, .long), (eZ G, .boolean), (eQ G, .array .int), (eR G, .array .boolean)] s := hW.1.1
  have hap := va_apart (own := (am_mn m).cls) hts f7 ty0 hty hnm hK f1
  obtain ⟨cell, q1, q2, q3, q4⟩ := b2
  obtain ⟨hSl, hfc, kC, hkC, hkind⟩ := hK.1 (r1 - 1) _ f1
  obtain ⟨cf, kf, fi, f, hi, hsl⟩ := hSl r2 f2
  have hlay := hts _ (f7 _ (u_in_lay f2))
  unfold u_lay at hlay
  have hst2 := (u_facts hfc hkC (u_lays hts f7 f2) hi).1
  have hi' : s.fieldFound? (q.2.1 r2).1 (q.2.1 r2).2.1 (q.2.1 r2).2.2.1 = some (cf, kf, fi, f) := hi
  have hRV : am_RV G ((am_ft r1).getD r2 0, v) VV := by rw [f4]; exact hVV
  have hnar : narrow (ty0 r2) VV = VV ∧ fits (ty0 r2) VV = true := by
    rcases hVV with ⟨-, rfl⟩ | ⟨-, rfl⟩ <;> rcases hty2 with ⟨n, hn⟩ | ⟨t, hn⟩ <;> rw [hn] <;> exact ⟨rfl, rfl⟩
  rw [if_pos hfin] at hlay
  have hcf : mth.cls = cf := by
    obtain ⟨_, _, c', _, _, _, -, -, hf', -, -, -, hown2, -⟩ := Cond.laysFinal_spec hlay
    have e1 : c' = cf := by have := hi.symm.trans hf'; simp at this; exact this.1.symm
    rw [hdcl] at hown2
    rw [← e1]; exact Option.some.inj (hown.symm.trans hown2)
  have h6 := u_fits hfc hkC hkind (Or.inr hlay) hi (hty r2 f2) hnar.1 hnar.2
  refine W.putFinK hx hb hown (hts _ hlk2) hi' hst2 hcf (hin hini) (by rw [q2]; exact h6) q1 q3 (by rw [hsl]; exact k2_hasslot (q4 r2 f2)) rfl rfl hd fun H1 e1 e2 e3 => ?_
  rw [hsl] at e1 ⊢
  exact w H1 _ arr sv (am_obj_put hH ht f1 f5 f6 f2 hap q2 q3 q4 b3 hRV e1 e2 e3) (hS.put e2 e3 (hH.w (a := a) ⟨by omega, by omega, by omega⟩).2.1) hL hst hc hs0
theorem am_i_iaload (C : am_Cx G l d m p R s mth args meth cd) (hd : decode (am_cd m) pc = .ok (.iaload, 1)) (w : am_stp X (am_Gl G m p l e R s mth args below meth cd Q) d hs K (am_pI st fun i r => am_pR r fun a r => am_ck (am_t h a = 20 ∧ 0 ≤ i ∧ i < am_l h a) (pc + 1, ls, (0, am_m h a i) :: r, h, c, s0))) : am_Gl G m p l e R s mth args below meth cd Q (pc, ls, st, h, c, s0) := by
  obtain ⟨hx, hb, hml, hown, hts, hW, hR, hlk, htr, hin⟩ := C
  have w1 := am_pI_inv w
  clear w
  obtain ⟨i, r, rfl, w⟩ := w1
  have w1 := am_pR_inv w
  clear w
  obtain ⟨a, r, rfl, ⟨ht, hi0, hi1⟩, w⟩ := w1
  intro H locs arr sv hH hS hL hst hc hs0
  dsimp only at hH hL hst hc hs0 ⊢
  have hq := am_RS_inv hst
  clear hst
  obtain ⟨VI, sv, rfl, hVI, hst⟩ := hq
  have hq := am_RS_inv hst
  clear hst
  obtain ⟨VA, sv, rfl, hVA, hst⟩ := hq
  obtain ⟨x, rfl, rfl⟩ := hVI
  obtain ⟨g1, g2⟩ := hH.2.2 a (by omega)
  obtain ⟨n, f, b1, b2, b3, b4⟩ := (am_CO_i ht).mp g2
  have hVa : VA = .ref (ea G a) := by
    exact am_RVr hVA (hH.o (a := a) (by omega)).1
  subst hVa
  have hK : va_K (eD G) vwCl [(eI G, .int), (eY G, .byte), (eJ G, .long), (eZ G, .boolean), (eQ G, .array .int), (eR G, .array .boolean)] s := hW.1.1
  rw [b2] at hi1
  obtain ⟨k1, k2, k3⟩ := am_ix hi0 hi1
  have hP : va_P (eD G) vwCl [(ea G a, .inl (eI G, n, .inl f))] H := by
    intro k y hk
    match k, hk with
    | 0, hk =>
      cases hk
      exact b1
    | k + 1, hk => simp at hk
  refine va_iald hx hb hK hP 0 0 rfl rfl k1 hd ?_
  exact w H locs arr _ hH hS hL ⟨⟨_, rfl, by rw [← k3]; exact (b4 _ k2).1⟩, hst⟩ hc hs0
theorem am_i_baload (C : am_Cx G l d m p R s mth args meth cd) (hd : decode (am_cd m) pc = .ok (.baload, 1)) (w : am_stp X (am_Gl G m p l e R s mth args below meth cd Q) d hs K (am_pI st fun i r => am_pR r fun a r => am_ck (am_t h a = 21 ∧ 0 ≤ i ∧ i < am_l h a) (pc + 1, ls, (0, am_m h a i) :: r, h, c, s0))) : am_Gl G m p l e R s mth args below meth cd Q (pc, ls, st, h, c, s0) := by
  obtain ⟨hx, hb, hml, hown, hts, hW, hR, hlk, htr, hin⟩ := C
  have w1 := am_pI_inv w
  clear w
  obtain ⟨i, r, rfl, w⟩ := w1
  have w1 := am_pR_inv w
  clear w
  obtain ⟨a, r, rfl, ⟨ht, hi0, hi1⟩, w⟩ := w1
  intro H locs arr sv hH hS hL hst hc hs0
  dsimp only at hH hL hst hc hs0 ⊢
  have hq := am_RS_inv hst
  clear hst
  obtain ⟨VI, sv, rfl, hVI, hst⟩ := hq
  have hq := am_RS_inv hst
  clear hst
  obtain ⟨VA, sv, rfl, hVA, hst⟩ := hq
  obtain ⟨x, rfl, rfl⟩ := hVI
  obtain ⟨g1, g2⟩ := hH.2.2 a (by omega)
  obtain ⟨n, f, b1, b2, b3, b4⟩ := (am_CO_y ht).mp g2
  have hVa : VA = .ref (ea G a) := by
    exact am_RVr hVA (hH.o (a := a) (by omega)).1
  subst hVa
  have hK : va_K (eD G) vwCl [(eI G, .int), (eY G, .byte), (eJ G, .long), (eZ G, .boolean), (eQ G, .array .int), (eR G, .array .boolean)] s := hW.1.1
  rw [b2] at hi1
  obtain ⟨k1, k2, k3⟩ := am_ix hi0 hi1
  have hP : va_P (eD G) vwCl [(ea G a, .inl (eY G, n, .inl f))] H := by
    intro k y hk
    match k, hk with
    | 0, hk =>
      cases hk
      exact b1
    | k + 1, hk => simp at hk
  refine va_bald hx hb hK hP 0 1 rfl rfl k1 hd ?_
  exact w H locs arr _ hH hS hL ⟨⟨_, rfl, by rw [← k3]; exact (b4 _ k2).1⟩, hst⟩ hc hs0
theorem am_i_laload (C : am_Cx G l d m p R s mth args meth cd) (hd : decode (am_cd m) pc = .ok (.laload, 1)) (w : am_stp X (am_Gl G m p l e R s mth args below meth cd Q) d hs K (am_pI st fun i r => am_pR r fun a r => am_ck (am_t h a = 22 ∧ 0 ≤ i ∧ i < am_l h a) (pc + 1, ls, (1, am_m h a i) :: r, h, c, s0))) : am_Gl G m p l e R s mth args below meth cd Q (pc, ls, st, h, c, s0) := by
  obtain ⟨hx, hb, hml, hown, hts, hW, hR, hlk, htr, hin⟩ := C
  have w1 := am_pI_inv w
  clear w
  obtain ⟨i, r, rfl, w⟩ := w1
  have w1 := am_pR_inv w
  clear w
  obtain ⟨a, r, rfl, ⟨ht, hi0, hi1⟩, w⟩ := w1
  intro H locs arr sv hH hS hL hst hc hs0
  dsimp only at hH hL hst hc hs0 ⊢
  have hq := am_RS_inv hst
  clear hst
  obtain ⟨VI, sv, rfl, hVI, hst⟩ := hq
  have hq := am_RS_inv hst
  clear hst
  obtain ⟨VA, sv, rfl, hVA, hst⟩ := hq
  obtain ⟨x, rfl, rfl⟩ := hVI
  obtain ⟨g1, g2⟩ := hH.2.2 a (by omega)
  obtain ⟨n, f, b1, b2, b3, b4⟩ := (am_CO_j ht).mp g2
  have hVa : VA = .ref (ea G a) := by
    exact am_RVr hVA (hH.o (a := a) (by omega)).1
  subst hVa
  have hK : va_K (eD G) vwCl [(eI G, .int), (eY G, .byte), (eJ G, .long), (eZ G, .boolean), (eQ G, .array .int), (eR G, .array .boolean)] s := hW.1.1
  rw [b2] at hi1
  obtain ⟨k1, k2, k3⟩ := am_ix hi0 hi1
  have hP : va_P (eD G) vwCl [(ea G a, .inl (eJ G, n, .inr (.inl f)))] H := by
    intro k y hk
    match k, hk with
    | 0, hk =>
      cases hk
      exact b1
    | k + 1, hk => simp at hk
  refine va_lald hx hb hK hP 0 2 rfl rfl k1 hd ?_
  exact w H locs arr _ hH hS hL ⟨⟨_, rfl, by rw [← k3]; exact b4 _ k2⟩, hst⟩ hc hs0
theorem am_i_iastore (C : am_Cx G l d m p R s mth args meth cd) (hd : decode (am_cd m) pc = .ok (.iastore, 1)) (w : am_stp X (am_Gl G m p l e R s mth args below meth cd Q) d hs K (am_pI st fun v r => am_pI r fun i r => am_pR r fun a r => am_ck (am_t h a = 20 ∧ 0 ≤ i ∧ i < am_l h a) (pc + 1, ls, r, am_w h a i (v), c, s0))) : am_Gl G m p l e R s mth args below meth cd Q (pc, ls, st, h, c, s0) := by
  obtain ⟨hx, hb, hml, hown, hts, hW, hR, hlk, htr, hin⟩ := C
  have w1 := am_pI_inv w
  clear w
  obtain ⟨v, r, rfl, w⟩ := w1
  have w1 := am_pI_inv w
  clear w
  obtain ⟨i, r, rfl, w⟩ := w1
  have w1 := am_pR_inv w
  clear w
  obtain ⟨a, r, rfl, ⟨ht, hi0, hi1⟩, w⟩ := w1
  intro H locs arr sv hH hS hL hst hc hs0
  dsimp only at hH hL hst hc hs0 ⊢
  have hq := am_RS_inv hst
  clear hst
  obtain ⟨VV, sv, rfl, hVV, hst⟩ := hq
  have hq := am_RS_inv hst
  clear hst
  obtain ⟨VI, sv, rfl, hVI, hst⟩ := hq
  have hq := am_RS_inv hst
  clear hst
  obtain ⟨VA, sv, rfl, hVA, hst⟩ := hq
  obtain ⟨x, rfl, rfl⟩ := hVV
  obtain ⟨i, rfl, rfl⟩ := hVI
  obtain ⟨g1, g2⟩ := hH.2.2 a (by omega)
  obtain ⟨n, f, b1, b2, b3, b4⟩ := (am_CO_i ht).mp g2
  have hVa : VA = .ref (ea G a) := by
    exact am_RVr hVA (hH.o (a := a) (by omega)).1
  subst hVa
  have hK : va_K (eD G) vwCl [(eI G, .int), (eY G, .byte), (eJ G, .long), (eZ G, .boolean), (eQ G, .array .int), (eR G, .array .boolean)] s := hW.1.1
  rw [b2] at hi1
  obtain ⟨k1, k2, k3⟩ := am_ix hi0 hi1
  refine W.iast hx hb b1 ((hK.2 0 _ rfl).1 n (fun j => .int (f j))) (fun q => by cases q) (by show ¬ (i < 0 ∨ (arrV _ _ _).slots.size ≤ _); rw [arrV_size]; exact k1) rfl rfl hd fun H1 e1 z oq => ?_
  refine w H1 _ arr sv ?_ (hS.put z oq (hH.w (a := a) ⟨by omega, by omega, by omega⟩).2.1) hL hst hc hs0
  refine am_HM_set hH (a := a) ⟨by omega, by omega, by omega⟩ z oq rfl rfl (fun _ => rfl) (fun _ => rfl) (fun _ => rfl) (fun b j hb => by rw [am_m_w, if_neg (fun z => hb z.1)]) ?_
  refine (am_CO_i (h := am_w h a i.toInt _) (show am_t (am_w h a i.toInt _) a = 20 from ht)).mpr ⟨n, fun j => if j = i.toNatClampNeg then x else f j, ?_, b2, b3, fun j hj => ?_⟩
  · rw [e1, arrV_store]
    congr 2
    funext q
    by_cases hq : q = i.toNatClampNeg
    · simp [updV, hq]
    · simp [updV, hq]
  · rw [am_m_w]
    dsimp only
    by_cases hji : j = i.toNatClampNeg
    · rw [if_pos ⟨rfl, by omega⟩, if_pos hji]
      exact ⟨rfl, Int32.le_toInt x, Int32.toInt_le x⟩
    · rw [if_neg (fun z => hji (by omega)), if_neg hji]
      exact b4 j hj
theorem am_i_bastore (C : am_Cx G l d m p R s mth args meth cd) (hd : decode (am_cd m) pc = .ok (.bastore, 1)) (w : am_stp X (am_Gl G m p l e R s mth args below meth cd Q) d hs K (am_pI st fun v r => am_pI r fun i r => am_pR r fun a r => am_ck (am_t h a = 21 ∧ 0 ≤ i ∧ i < am_l h a) (pc + 1, ls, r, am_w h a i (am_i2b v), c, s0))) : am_Gl G m p l e R s mth args below meth cd Q (pc, ls, st, h, c, s0) := by
  obtain ⟨hx, hb, hml, hown, hts, hW, hR, hlk, htr, hin⟩ := C
  have w1 := am_pI_inv w
  clear w
  obtain ⟨v, r, rfl, w⟩ := w1
  have w1 := am_pI_inv w
  clear w
  obtain ⟨i, r, rfl, w⟩ := w1
  have w1 := am_pR_inv w
  clear w
  obtain ⟨a, r, rfl, ⟨ht, hi0, hi1⟩, w⟩ := w1
  intro H locs arr sv hH hS hL hst hc hs0
  dsimp only at hH hL hst hc hs0 ⊢
  have hq := am_RS_inv hst
  clear hst
  obtain ⟨VV, sv, rfl, hVV, hst⟩ := hq
  have hq := am_RS_inv hst
  clear hst
  obtain ⟨VI, sv, rfl, hVI, hst⟩ := hq
  have hq := am_RS_inv hst
  clear hst
  obtain ⟨VA, sv, rfl, hVA, hst⟩ := hq
  obtain ⟨x, rfl, rfl⟩ := hVV
  obtain ⟨i, rfl, rfl⟩ := hVI
  obtain ⟨g1, g2⟩ := hH.2.2 a (by omega)
  obtain ⟨n, f, b1, b2, b3, b4⟩ := (am_CO_y ht).mp g2
  have hVa : VA = .ref (ea G a) := by
    exact am_RVr hVA (hH.o (a := a) (by omega)).1
  subst hVa
  have hK : va_K (eD G) vwCl [(eI G, .int), (eY G, .byte), (eJ G, .long), (eZ G, .boolean), (eQ G, .array .int), (eR G, .array .boolean)] s := hW.1.1
  rw [b2] at hi1
  obtain ⟨k1, k2, k3⟩ := am_ix hi0 hi1
  refine W.bast hx hb b1 ((hK.2 1 _ rfl).1 n (fun j => .int (f j))) (fun q => by cases q) (by show ¬ (i < 0 ∨ (arrV _ _ _).slots.size ≤ _); rw [arrV_size]; exact k1) rfl rfl hd fun H1 e1 z oq => ?_
  refine w H1 _ arr sv ?_ (hS.put z oq (hH.w (a := a) ⟨by omega, by omega, by omega⟩).2.1) hL hst hc hs0
  refine am_HM_set hH (a := a) ⟨by omega, by omega, by omega⟩ z oq rfl rfl (fun _ => rfl) (fun _ => rfl) (fun _ => rfl) (fun b j hb => by rw [am_m_w, if_neg (fun z => hb z.1)]) ?_
  refine (am_CO_y (h := am_w h a i.toInt _) (show am_t (am_w h a i.toInt _) a = 21 from ht)).mpr ⟨n, fun j => if j = i.toNatClampNeg then x.toInt8.toInt32 else f j, ?_, b2, b3, fun j hj => ?_⟩
  · rw [e1, arrV_store]
    congr 2
    funext q
    by_cases hq : q = i.toNatClampNeg
    · simp [updV, hq, narrow]
    · simp [updV, hq]
  · rw [am_m_w]
    dsimp only
    by_cases hji : j = i.toNatClampNeg
    · rw [if_pos ⟨rfl, by omega⟩, if_pos hji]
      refine ⟨by rw [Int8.toInt_toInt32, Int32.toInt_toInt8]; rfl, ?_, ?_⟩
      · rw [Int8.toInt_toInt32]; exact Int8.le_toInt _
      · rw [Int8.toInt_toInt32]; have := Int8.toInt_lt x.toInt8; omega
    · rw [if_neg (fun z => hji (by omega)), if_neg hji]
      exact b4 j hj
theorem am_i_lastore (C : am_Cx G l d m p R s mth args meth cd) (hd : decode (am_cd m) pc = .ok (.lastore, 1)) (w : am_stp X (am_Gl G m p l e R s mth args below meth cd Q) d hs K (am_pL st fun v r => am_pI r fun i r => am_pR r fun a r => am_ck (am_t h a = 22 ∧ 0 ≤ i ∧ i < am_l h a) (pc + 1, ls, r, am_w h a i (v), c, s0))) : am_Gl G m p l e R s mth args below meth cd Q (pc, ls, st, h, c, s0) := by
  obtain ⟨hx, hb, hml, hown, hts, hW, hR, hlk, htr, hin⟩ := C
  have w1 := am_pL_inv w
  clear w
  obtain ⟨v, r, rfl, w⟩ := w1
  have w1 := am_pI_inv w
  clear w
  obtain ⟨i, r, rfl, w⟩ := w1
  have w1 := am_pR_inv w
  clear w
  obtain ⟨a, r, rfl, ⟨ht, hi0, hi1⟩, w⟩ := w1
  intro H locs arr sv hH hS hL hst hc hs0
  dsimp only at hH hL hst hc hs0 ⊢
  have hq := am_RS_inv hst
  clear hst
  obtain ⟨VV, sv, rfl, hVV, hst⟩ := hq
  have hq := am_RS_inv hst
  clear hst
  obtain ⟨VI, sv, rfl, hVI, hst⟩ := hq
  have hq := am_RS_inv hst
  clear hst
  obtain ⟨VA, sv, rfl, hVA, hst⟩ := hq
  obtain ⟨x, rfl, rfl⟩ := hVV
  obtain ⟨i, rfl, rfl⟩ := hVI
  obtain ⟨g1, g2⟩ := hH.2.2 a (by omega)
  obtain ⟨n, f, b1, b2, b3, b4⟩ := (am_CO_j ht).mp g2
  have hVa : VA = .ref (ea G a) := by
    exact am_RVr hVA (hH.o (a := a) (by omega)).1
  subst hVa
  have hK : va_K (eD G) vwCl [(eI G, .int), (eY G, .byte), (eJ G, .long), (eZ G, .boolean), (eQ G, .array .int), (eR G, .array .boolean)] s := hW.1.1
  rw [b2] at hi1
  obtain ⟨k1, k2, k3⟩ := am_ix hi0 hi1
  refine W.last hx hb b1 ((hK.2 2 _ rfl).1 n (fun j => .long (f j))) (fun q => by cases q) (by show ¬ (i < 0 ∨ (arrV _ _ _).slots.size ≤ _); rw [arrV_size]; exact k1) rfl rfl hd fun H1 e1 z oq => ?_
  refine w H1 _ arr sv ?_ (hS.put z oq (hH.w (a := a) ⟨by omega, by omega, by omega⟩).2.1) hL hst hc hs0
  refine am_HM_set hH (a := a) ⟨by omega, by omega, by omega⟩ z oq rfl rfl (fun _ => rfl) (fun _ => rfl) (fun _ => rfl) (fun b j hb => by rw [am_m_w, if_neg (fun z => hb z.1)]) ?_
  refine (am_CO_j (h := am_w h a i.toInt _) (show am_t (am_w h a i.toInt _) a = 22 from ht)).mpr ⟨n, fun j => if j = i.toNatClampNeg then x else f j, ?_, b2, b3, fun j hj => ?_⟩
  · rw [e1, arrV_store]
    congr 2
    funext q
    by_cases hq : q = i.toNatClampNeg
    · simp [updV, hq]
    · simp [updV, hq]
  · rw [am_m_w]
    dsimp only
    by_cases hji : j = i.toNatClampNeg
    · rw [if_pos ⟨rfl, by omega⟩, if_pos hji]
      try rfl
    · rw [if_neg (fun z => hji (by omega)), if_neg hji]
      exact b4 j hj
theorem am_i_zaload (C : am_Cx G l d m p R s mth args meth cd) (hd : decode (am_cd m) pc = .ok (.baload, 1)) (w : am_stp X (am_Gl G m p l e R s mth args below meth cd Q) d hs K (am_pI st fun i r => am_pR r fun a r => am_ck (am_t h a = 23 ∧ 0 ≤ i ∧ i < am_l h a) (pc + 1, ls, (0, am_m h a i) :: r, h, c, s0))) : am_Gl G m p l e R s mth args below meth cd Q (pc, ls, st, h, c, s0) := by
  obtain ⟨hx, hb, hml, hown, hts, hW, hR, hlk, htr, hin⟩ := C
  have w1 := am_pI_inv w
  clear w
  obtain ⟨i, r, rfl, w⟩ := w1
  have w1 := am_pR_inv w
  clear w
  obtain ⟨a, r, rfl, ⟨ht, hi0, hi1⟩, w⟩ := w1
  intro H locs arr sv hH hS hL hst hc hs0
  dsimp only at hH hL hst hc hs0 ⊢
  have hq := am_RS_inv hst
  clear hst
  obtain ⟨VI, sv, rfl, hVI, hst⟩ := hq
  have hq := am_RS_inv hst
  clear hst
  obtain ⟨VA, sv, rfl, hVA, hst⟩ := hq
  obtain ⟨x, rfl, rfl⟩ := hVI
  obtain ⟨g1, g2⟩ := hH.2.2 a (by omega)
  obtain ⟨n, f, b1, b2, b3, b4⟩ := (am_CO_z ht).mp g2
  have hVa : VA = .ref (ea G a) := by
    exact am_RVr hVA (hH.o (a := a) (by omega)).1
  subst hVa
  have hK : va_K (eD G) vwCl [(eI G, .int), (eY G, .byte), (eJ G, .long), (eZ G, .boolean), (eQ G, .array .int), (eR G, .array .boolean)] s := hW.1.1
  rw [b2] at hi1
  obtain ⟨k1, k2, k3⟩ := am_ix hi0 hi1
  have hP : va_P (eD G) vwCl [(ea G a, .inl (eZ G, n, .inl f))] H := by
    intro k y hk
    match k, hk with
    | 0, hk =>
      cases hk
      exact b1
    | k + 1, hk => simp at hk
  refine va_zald hx hb hK hP 0 3 rfl rfl k1 hd ?_
  exact w H locs arr _ hH hS hL ⟨⟨_, rfl, by rw [← k3]; exact (b4 _ k2).1⟩, hst⟩ hc hs0
theorem am_i_zastore (C : am_Cx G l d m p R s mth args meth cd) (hd : decode (am_cd m) pc = .ok (.bastore, 1)) (w : am_stp X (am_Gl G m p l e R s mth args below meth cd Q) d hs K (am_pI st fun v r => am_pI r fun i r => am_pR r fun a r => am_ck (am_t h a = 23 ∧ (v = 0 ∨ v = 1) ∧ 0 ≤ i ∧ i < am_l h a) (pc + 1, ls, r, am_w h a i v, c, s0))) : am_Gl G m p l e R s mth args below meth cd Q (pc, ls, st, h, c, s0) := by
  obtain ⟨hx, hb, hml, hown, hts, hW, hR, hlk, htr, hin⟩ := C
  have w1 := am_pI_inv w
  clear w
  obtain ⟨v, r, rfl, w⟩ := w1
  have w1 := am_pI_inv w
  clear w
  obtain ⟨i, r, rfl, w⟩ := w1
  have w1 := am_pR_inv w
  clear w
  obtain ⟨a, r, rfl, ⟨ht, hv01, hi0, hi1⟩, w⟩ := w1
  intro H locs arr sv hH hS hL hst hc hs0
  dsimp only at hH hL hst hc hs0 ⊢
  have hq := am_RS_inv hst
  clear hst
  obtain ⟨VV, sv, rfl, hVV, hst⟩ := hq
  have hq := am_RS_inv hst
  clear hst
  obtain ⟨VI, sv, rfl, hVI, hst⟩ := hq
  have hq := am_RS_inv hst
  clear hst
  obtain ⟨VA, sv, rfl, hVA, hst⟩ := hq
  obtain ⟨x, rfl, rfl⟩ := hVV
  obtain ⟨i, rfl, rfl⟩ := hVI
  obtain ⟨g1, g2⟩ := hH.2.2 a (by omega)
  obtain ⟨n, f, b1, b2, b3, b4⟩ := (am_CO_z ht).mp g2
  have hVa : VA = .ref (ea G a) := by
    exact am_RVr hVA (hH.o (a := a) (by omega)).1
  subst hVa
  have hK : va_K (eD G) vwCl [(eI G, .int), (eY G, .byte), (eJ G, .long), (eZ G, .boolean), (eQ G, .array .int), (eR G, .array .boolean)] s := hW.1.1
  rw [b2] at hi1
  obtain ⟨k1, k2, k3⟩ := am_ix hi0 hi1
  refine W.zast hx hb b1 ((hK.2 3 _ rfl).1 n (fun j => .int (f j))) (fun q => by cases q) (by show ¬ (i < 0 ∨ (arrV _ _ _).slots.size ≤ _); rw [arrV_size]; exact k1) rfl rfl hd fun H1 e1 z oq => ?_
  refine w H1 _ arr sv ?_ (hS.put z oq (hH.w (a := a) ⟨by omega, by omega, by omega⟩).2.1) hL hst hc hs0
  refine am_HM_set hH (a := a) ⟨by omega, by omega, by omega⟩ z oq rfl rfl (fun _ => rfl) (fun _ => rfl) (fun _ => rfl) (fun b j hb => by rw [am_m_w, if_neg (fun z => hb z.1)]) ?_
  refine (am_CO_z (h := am_w h a i.toInt _) (show am_t (am_w h a i.toInt _) a = 23 from ht)).mpr ⟨n, fun j => if j = i.toNatClampNeg then x else f j, ?_, b2, b3, fun j hj => ?_⟩
  · rw [e1, arrV_store]
    congr 2
    funext q
    by_cases hq : q = i.toNatClampNeg
    · rcases hv01 with hv | hv
      · have ex : x = 0 := Int32.toInt_inj.mp hv
        subst ex
        simp [updV, hq, narrow]
      · have ex : x = 1 := Int32.toInt_inj.mp hv
        subst ex
        simp [updV, hq, narrow]
    · simp [updV, hq]
  · rw [am_m_w]
    dsimp only
    by_cases hji : j = i.toNatClampNeg
    · rw [if_pos ⟨rfl, by omega⟩, if_pos hji]
      exact ⟨rfl, by omega, by omega⟩
    · rw [if_neg (fun z => hji (by omega)), if_neg hji]
      exact b4 j hj
end SIM
end
section
/-! ===== new cells, constants, texts, the JDK's small members, switches ===== -/
theorem am_ok_keep {G : am_En} {h h1 : AH} {H H1 : Heap} {b : Int} (w : am_ok G h H b) (hn : am_n h ≤ am_n h1) (hz : H.size ≤ H1.size) (ht : am_t h1 b = am_t h b) : am_ok G h1 H1 b := by
  obtain ⟨w1, w2⟩ := w
  refine ⟨w1, ?_⟩
  rw [ht]
  rcases w2 with ⟨w2, w3, w4, w5, w6, w7⟩ | w2
  · exact Or.inl ⟨w2, by omega, w4, by omega, w6, w7⟩
  · exact Or.inr w2
theorem am_lt_new {G : am_En} {h : AH} {H : Heap} (hH : am_HM G h H) {b : Int} (hb : am_t h b ≠ 0) (hf : am_fr h) : b < am_n h := by
  obtain ⟨h1, h2⟩ := (hH.2.2 b hb).1
  obtain ⟨-, -, -, p4⟩ := hH.1.new hf
  rcases h2 with ⟨-, h3, -⟩ | ⟨h3, -⟩
  · exact h3
  · omega
theorem am_HM_new {G : am_En} {h : AH} {H H1 : Heap} {t : Nat} {n : Int} {f : Int → Int} (hH : am_HM G h H) (hf : am_fr h) (ht0 : am_wt t) (hz : H1.size = H.size + 1) (o1 : ∀ q : Nat, q < H.size → H1[q]? = H[q]?) (hC : am_CO G (am_a h t n f) (am_n h) H1) : am_HM G (am_a h t n f) H1 := by
  have hH0 := hH
  obtain ⟨g1, g3, g5⟩ := hH
  obtain ⟨p1, p2, p3, p4⟩ := g1.new hf
  have en : am_n (am_a h t n f) = am_n h + 1 := rfl
  refine ⟨?_, g3, fun b hb => ?_⟩
  · unfold am_ph at g1 ⊢
    rw [en, hz]
    omega
  · by_cases hbn : b = am_n h
    · have et : am_t (am_a h t n f) b = t := if_pos hbn
      rw [hbn]
      refine ⟨⟨p2, Or.inl ⟨p4, by rw [en]; omega, by omega, by omega, ?_, ?_⟩⟩, hC⟩
      · intro z z2
        unfold am_ph at g1
        omega
      · rw [← hbn, et]
        exact ht0.2
    · have et : am_t (am_a h t n f) b = am_t h b := if_neg hbn
      rw [et] at hb
      obtain ⟨b1, b2⟩ := g5 b hb
      exact ⟨am_ok_keep b1 (by rw [en]; omega) (by omega) et, am_CO_kept b2 (o1 _ (hH0.o hb).2) et (if_neg hbn) (fun j => if_neg hbn)⟩
section SIM
variable {G : am_En} {l : Launch} {d m : Nat} {p : Program} {e : Env} {R : Room} {s : State} {mth : MethodId} {args : Array Value} {below : List Frame} {meth : Method} {cd : Code} {Q : State → Prop} {K : AK} {X : AX} {Z : AC → Prop} {hs : List (Nat × Nat × Nat × Nat)}
variable {pc : Nat} {ls st : List AV} {h : AH} {c s0 : Nat}
theorem am_few_inv {r : List AV} {f : ASh} (w : am_stp X Z d hs K (am_few r f)) : am_cat r ≤ 8 ∧ am_stp X Z d hs K f := by
  unfold am_few at w
  split at w
  · rename_i hh
    exact ⟨Nat.le_of_ble_eq_true hh, w⟩
  · exact w.elim
theorem am_RV_cat {v : AV} {V : Value} (h : am_RV G v V) : V.category = am_cat [v] := by
  obtain ⟨t, a⟩ := v
  match t, h with
  | 0, h => obtain ⟨x, rfl, -⟩ := h; rfl
  | 1, h => obtain ⟨x, rfl, -⟩ := h; rfl
  | 2, h => rcases h with ⟨-, rfl⟩ | ⟨-, rfl⟩ <;> rfl
  | 3, h => obtain ⟨x, rfl, -⟩ := h; rfl
  | 4, h => have h : V = .ref (eb G) := h; subst h; rfl
  | 5, h => obtain ⟨-, -, rfl⟩ := h; rfl
  | 6, h => exact h.elim
  | 7, h => obtain ⟨-, -, rfl⟩ := h; rfl
  | 8, h => exact h.elim
  | 9, h => exact h.elim
  | 10, h => obtain ⟨q, rfl⟩ := h; rfl
  | 11, h => rcases h with rfl | ⟨q, rfl⟩ <;> rfl
  | n + 12, h => exact h.elim
theorem am_RS_cat : ∀ {r : List AV} {sv : List Value}, am_RS G r sv → (sv.map fun v => v.category).sum = am_cat r
  | [], [], _ => rfl
  | [], _ :: _, h => h.elim
  | _ :: _, [], h => h.elim
  | v :: r, V :: sv, h => by
    have e1 := am_RV_cat h.1
    have e2 := am_RS_cat h.2
    rw [List.map_cons, List.sum_cons, e1, e2]
    obtain ⟨t, a⟩ := v
    simp only [am_cat]
    omega
theorem am_i_newarray_i (C : am_Cx G l d m p R s mth args meth cd) (hw : Cond.arrayClass .int ∈ am_W) (hd : decode (am_cd m) pc = .ok (.newarray .int, 2)) (w : am_stp X (am_Gl G m p l e R s mth args below meth cd Q) d hs K (am_pI st fun n r => am_ck (((0 ≤ n ∧ n ≤ 4096) ∧ am_fr h) ∧ c + 1 ≤ (am_cap m).1 ∧ s0 + n.toNat ≤ (am_cap m).2) (pc + 2, ls, (2, am_n h) :: r, am_a h 20 n (fun _ => 0), c + 1, s0 + n.toNat))) : am_Gl G m p l e R s mth args below meth cd Q (pc, ls, st, h, c, s0) := by
  obtain ⟨hx, hb, hml, hown, hts, hW, hR, hlk, htr, hin⟩ := C
  have w1 := am_pI_inv w
  clear w
  obtain ⟨n, r, rfl, ⟨⟨⟨hn0, hn1⟩, hfr⟩, hc1, hs1⟩, w⟩ := w1
  intro H locs arr sv hH hS hL hst hc hs0
  dsimp only at hH hL hst hc hs0 ⊢
  have hq := am_RS_inv hst
  clear hst
  obtain ⟨VN, sv, rfl, hVN, hst⟩ := hq
  obtain ⟨x, rfl, rfl⟩ := hVN
  have hK : va_K (eD G) vwCl [(eI G, .int), (eY G, .byte), (eJ G, .long), (eZ G, .boolean), (eQ G, .array .int), (eR G, .array .boolean)] s := hW.1.1
  obtain ⟨hsz, hn9, -, -⟩ := hH.1.new hfr
  have hsz := hsz.symm
  have ex0 : x.toNatClampNeg = x.toInt.toNat := rfl
  have hx0 : ¬ x < 0 := fun z => by
    have := Int32.lt_iff_toInt_lt.mp z
    have e0 : (0 : Int32).toInt = 0 := rfl
    omega
  refine va_newaK hx hb (atype := .int) (hts _ hw) rfl hd rfl hx0 rfl (Nat.le_trans (Nat.mul_le_mul_right _ (show x.toNatClampNeg ≤ 4096 by omega)) (by decide)) (by omega) (by omega) hsz fun H1 cA e1 z1 o1 hAr hNm => ?_
  have ecA : cA = eI G := by
    have h2 : s.vm.findClass ("[" ++ (FieldType.int).toString) = some (eI G) := (hK.2 0 _ rfl).2
    exact Option.some.inj (hNm.symm.trans h2)
  subst ecA
  refine w H1 _ arr _ (am_HM_new hH hfr ⟨by omega, by omega, by omega⟩ (by omega) (fun q hq => o1 q (by omega)) ?_) ⟨Nat.le_trans hS.1 (by omega), fun q h1 h2 => (o1 q (by have := hS.1; omega)).trans (hS.2.1 q h1 h2), hS.2.2⟩ hL ⟨Or.inr ⟨hn9, rfl⟩, hst⟩ (by simp only; omega) (by simp only; omega)
  have ht : am_t (am_a h 20 x.toInt (fun _ => 0)) (am_n h) = 20 := if_pos rfl
  refine (am_CO_i ht).mpr ⟨x.toNatClampNeg, fun _ => 0, e1, ?_, by omega, fun j hj => ⟨if_pos rfl, by show _ ≤ (0 : Int32).toInt; decide, by show (0 : Int32).toInt ≤ _; decide⟩⟩
  have el : am_l (am_a h 20 x.toInt (fun _ => 0)) (am_n h) = x.toInt := if_pos rfl
  rw [el]
  omega
theorem am_i_newarray_y (C : am_Cx G l d m p R s mth args meth cd) (hw : Cond.arrayClass .byte ∈ am_W) (hd : decode (am_cd m) pc = .ok (.newarray .byte, 2)) (w : am_stp X (am_Gl G m p l e R s mth args below meth cd Q) d hs K (am_pI st fun n r => am_ck (((0 ≤ n ∧ n ≤ 4096) ∧ am_fr h) ∧ c + 1 ≤ (am_cap m).1 ∧ s0 + n.toNat ≤ (am_cap m).2) (pc + 2, ls, (2, am_n h) :: r, am_a h 21 n (fun _ => 0), c + 1, s0 + n.toNat))) : am_Gl G m p l e R s mth args below meth cd Q (pc, ls, st, h, c, s0) := by
  obtain ⟨hx, hb, hml, hown, hts, hW, hR, hlk, htr, hin⟩ := C
  have w1 := am_pI_inv w
  clear w
  obtain ⟨n, r, rfl, ⟨⟨⟨hn0, hn1⟩, hfr⟩, hc1, hs1⟩, w⟩ := w1
  intro H locs arr sv hH hS hL hst hc hs0
  dsimp only at hH hL hst hc hs0 ⊢
  have hq := am_RS_inv hst
  clear hst
  obtain ⟨VN, sv, rfl, hVN, hst⟩ := hq
  obtain ⟨x, rfl, rfl⟩ := hVN
  have hK : va_K (eD G) vwCl [(eI G, .int), (eY G, .byte), (eJ G, .long), (eZ G, .boolean), (eQ G, .array .int), (eR G, .array .boolean)] s := hW.1.1
  obtain ⟨hsz, hn9, -, -⟩ := hH.1.new hfr
  have hsz := hsz.symm
  have ex0 : x.toNatClampNeg = x.toInt.toNat := rfl
  have hx0 : ¬ x < 0 := fun z => by
    have := Int32.lt_iff_toInt_lt.mp z
    have e0 : (0 : Int32).toInt = 0 := rfl
    omega
  refine va_newaK hx hb (atype := .byte) (hts _ hw) rfl hd rfl hx0 rfl (Nat.le_trans (Nat.mul_le_mul_right _ (show x.toNatClampNeg ≤ 4096 by omega)) (by decide)) (by omega) (by omega) hsz fun H1 cA e1 z1 o1 hAr hNm => ?_
  have ecA : cA = eY G := by
    have h2 : s.vm.findClass ("[" ++ (FieldType.byte).toString) = some (eY G) := (hK.2 1 _ rfl).2
    exact Option.some.inj (hNm.symm.trans h2)
  subst ecA
  refine w H1 _ arr _ (am_HM_new hH hfr ⟨by omega, by omega, by omega⟩ (by omega) (fun q hq => o1 q (by omega)) ?_) ⟨Nat.le_trans hS.1 (by omega), fun q h1 h2 => (o1 q (by have := hS.1; omega)).trans (hS.2.1 q h1 h2), hS.2.2⟩ hL ⟨Or.inr ⟨hn9, rfl⟩, hst⟩ (by simp only; omega) (by simp only; omega)
  have ht : am_t (am_a h 21 x.toInt (fun _ => 0)) (am_n h) = 21 := if_pos rfl
  refine (am_CO_y ht).mpr ⟨x.toNatClampNeg, fun _ => 0, e1, ?_, by omega, fun j hj => ⟨if_pos rfl, by show _ ≤ (0 : Int32).toInt; decide, by show (0 : Int32).toInt ≤ _; decide⟩⟩
  have el : am_l (am_a h 21 x.toInt (fun _ => 0)) (am_n h) = x.toInt := if_pos rfl
  rw [el]
  omega
theorem am_i_newarray_z (C : am_Cx G l d m p R s mth args meth cd) (hw : Cond.arrayClass .boolean ∈ am_W) (hd : decode (am_cd m) pc = .ok (.newarray .boolean, 2)) (w : am_stp X (am_Gl G m p l e R s mth args below meth cd Q) d hs K (am_pI st fun n r => am_ck (((0 ≤ n ∧ n ≤ 4096) ∧ am_fr h) ∧ c + 1 ≤ (am_cap m).1 ∧ s0 + n.toNat ≤ (am_cap m).2) (pc + 2, ls, (2, am_n h) :: r, am_a h 23 n (fun _ => 0), c + 1, s0 + n.toNat))) : am_Gl G m p l e R s mth args below meth cd Q (pc, ls, st, h, c, s0) := by
  obtain ⟨hx, hb, hml, hown, hts, hW, hR, hlk, htr, hin⟩ := C
  have w1 := am_pI_inv w
  clear w
  obtain ⟨n, r, rfl, ⟨⟨⟨hn0, hn1⟩, hfr⟩, hc1, hs1⟩, w⟩ := w1
  intro H locs arr sv hH hS hL hst hc hs0
  dsimp only at hH hL hst hc hs0 ⊢
  have hq := am_RS_inv hst
  clear hst
  obtain ⟨VN, sv, rfl, hVN, hst⟩ := hq
  obtain ⟨x, rfl, rfl⟩ := hVN
  have hK : va_K (eD G) vwCl [(eI G, .int), (eY G, .byte), (eJ G, .long), (eZ G, .boolean), (eQ G, .array .int), (eR G, .array .boolean)] s := hW.1.1
  obtain ⟨hsz, hn9, -, -⟩ := hH.1.new hfr
  have hsz := hsz.symm
  have ex0 : x.toNatClampNeg = x.toInt.toNat := rfl
  have hx0 : ¬ x < 0 := fun z => by
    have := Int32.lt_iff_toInt_lt.mp z
    have e0 : (0 : Int32).toInt = 0 := rfl
    omega
  refine va_newaK hx hb (atype := .boolean) (hts _ hw) rfl hd rfl hx0 rfl (Nat.le_trans (Nat.mul_le_mul_right _ (show x.toNatClampNeg ≤ 4096 by omega)) (by decide)) (by omega) (by omega) hsz fun H1 cA e1 z1 o1 hAr hNm => ?_
  have ecA : cA = eZ G := by
    have h2 : s.vm.findClass ("[" ++ (FieldType.boolean).toString) = some (eZ G) := (hK.2 3 _ rfl).2
    exact Option.some.inj (hNm.symm.trans h2)
  subst ecA
  refine w H1 _ arr _ (am_HM_new hH hfr ⟨by omega, by omega, by omega⟩ (by omega) (fun q hq => o1 q (by omega)) ?_) ⟨Nat.le_trans hS.1 (by omega), fun q h1 h2 => (o1 q (by have := hS.1; omega)).trans (hS.2.1 q h1 h2), hS.2.2⟩ hL ⟨Or.inr ⟨hn9, rfl⟩, hst⟩ (by simp only; omega) (by simp only; omega)
  have ht : am_t (am_a h 23 x.toInt (fun _ => 0)) (am_n h) = 23 := if_pos rfl
  refine (am_CO_z ht).mpr ⟨x.toNatClampNeg, fun _ => 0, e1, ?_, by omega, fun j hj => ⟨if_pos rfl, by show _ ≤ (0 : Int32).toInt; decide, by show (0 : Int32).toInt ≤ _; decide⟩⟩
  have el : am_l (am_a h 23 x.toInt (fun _ => 0)) (am_n h) = x.toInt := if_pos rfl
  rw [el]
  omega
theorem am_i_newarray_j (C : am_Cx G l d m p R s mth args meth cd) (hw : Cond.arrayClass .long ∈ am_W) (hd : decode (am_cd m) pc = .ok (.newarray .long, 2)) (w : am_stp X (am_Gl G m p l e R s mth args below meth cd Q) d hs K (am_pI st fun n r => am_ck (((0 ≤ n ∧ n ≤ 4096) ∧ am_fr h) ∧ c + 1 ≤ (am_cap m).1 ∧ s0 + n.toNat ≤ (am_cap m).2) (pc + 2, ls, (2, am_n h) :: r, am_a h 22 n (fun _ => 0), c + 1, s0 + n.toNat))) : am_Gl G m p l e R s mth args below meth cd Q (pc, ls, st, h, c, s0) := by
  obtain ⟨hx, hb, hml, hown, hts, hW, hR, hlk, htr, hin⟩ := C
  have w1 := am_pI_inv w
  clear w
  obtain ⟨n, r, rfl, ⟨⟨⟨hn0, hn1⟩, hfr⟩, hc1, hs1⟩, w⟩ := w1
  intro H locs arr sv hH hS hL hst hc hs0
  dsimp only at hH hL hst hc hs0 ⊢
  have hq := am_RS_inv hst
  clear hst
  obtain ⟨VN, sv, rfl, hVN, hst⟩ := hq
  obtain ⟨x, rfl, rfl⟩ := hVN
  have hK : va_K (eD G) vwCl [(eI G, .int), (eY G, .byte), (eJ G, .long), (eZ G, .boolean), (eQ G, .array .int), (eR G, .array .boolean)] s := hW.1.1
  obtain ⟨hsz, hn9, -, -⟩ := hH.1.new hfr
  have hsz := hsz.symm
  have ex0 : x.toNatClampNeg = x.toInt.toNat := rfl
  have hx0 : ¬ x < 0 := fun z => by
    have := Int32.lt_iff_toInt_lt.mp z
    have e0 : (0 : Int32).toInt = 0 := rfl
    omega
  refine va_newaK hx hb (atype := .long) (hts _ hw) rfl hd rfl hx0 rfl (Nat.le_trans (Nat.mul_le_mul_right _ (show x.toNatClampNeg ≤ 4096 by omega)) (by decide)) (by omega) (by omega) hsz fun H1 cA e1 z1 o1 hAr hNm => ?_
  have ecA : cA = eJ G := by
    have h2 : s.vm.findClass ("[" ++ (FieldType.long).toString) = some (eJ G) := (hK.2 2 _ rfl).2
    exact Option.some.inj (hNm.symm.trans h2)
  subst ecA
  refine w H1 _ arr _ (am_HM_new hH hfr ⟨by omega, by omega, by omega⟩ (by omega) (fun q hq => o1 q (by omega)) ?_) ⟨Nat.le_trans hS.1 (by omega), fun q h1 h2 => (o1 q (by have := hS.1; omega)).trans (hS.2.1 q h1 h2), hS.2.2⟩ hL ⟨Or.inr ⟨hn9, rfl⟩, hst⟩ (by simp only; omega) (by simp only; omega)
  have ht : am_t (am_a h 22 x.toInt (fun _ => 0)) (am_n h) = 22 := if_pos rfl
  refine (am_CO_j ht).mpr ⟨x.toNatClampNeg, fun _ => 0, e1, ?_, by omega, fun j hj => if_pos rfl⟩
  have el : am_l (am_a h 22 x.toInt (fun _ => 0)) (am_n h) = x.toInt := if_pos rfl
  rw [el]
  omega
theorem am_i_new (C : am_Cx G l d m p R s mth args meth cd) {idx r1 r2 : Nat} {q : vw_C} (f1 : vwCl[r1 - 1]? = some q) (f2 : q.2.2 = r2) (f5 : 1 ≤ r1) (f6 : r1 ≤ 9) (f7 : ∀ w ∈ u_ws q.1 q.2.1 q.2.2, w ∈ am_W) (ty0 : Nat → FieldType) (hty : ∀ k, k < q.2.2 → parseFieldDescriptor (q.2.1 k).2.2.1 = some (ty0 k)) (hdf : ∀ k : Nat, k < q.2.2 → am_RV G ((am_ft r1).getD k 0, am_df r1 (k : Int)) (defaultValue (ty0 k))) (hw1 : Cond.classLink (am_mn m).cls idx q.1 ∈ am_W) (hw2 : Cond.instantiable q.1 q.2.2 ∈ am_W) (hw3 : Cond.initialized q.1 ∈ am_W) (hd : decode (am_cd m) pc = .ok (.new idx, 3)) (w : am_stp X (am_Gl G m p l e R s mth args below meth cd Q) d hs K (am_ck (am_fr h ∧ c + 1 ≤ (am_cap m).1 ∧ s0 + r2 ≤ (am_cap m).2) (pc + 3, ls, (2, am_n h) :: st, am_a h r1 (r2 : Int) (am_df r1), c + 1, s0 + r2))) : am_Gl G m p l e R s mth args below meth cd Q (pc, ls, st, h, c, s0) := by
  obtain ⟨hx, hb, hml, hown, hts, hW, hR, hlk, htr, hin⟩ := C
  obtain ⟨⟨hfr, hc1, hs1⟩, w⟩ := w
  intro H locs arr sv hH hS hL hst hc hs0
  dsimp only at hH hL hst hc hs0 ⊢
  have hK : va_K (eD G) vwCl [(eI G, .int), (eY G, .byte), (eJ G, .long), (eZ G, .boolean), (eQ G, .array .int), (eR G, .array .boolean)] s := hW.1.1
  obtain ⟨hsz, hn9, -, -⟩ := hH.1.new hfr
  have hsz := hsz.symm
  subst f2
  have hKn := hK.1 (r1 - 1) _ f1
  refine W.newcK hx hb hown (hts _ hw1) (hts _ hw2) (hts _ hw3) rfl hd (by omega) (by omega) hKn.2.1 hsz fun H1 kC hkC e1 z1 o1 => ?_
  refine w H1 _ arr _ (am_HM_new hH hfr ⟨by omega, by omega, by omega⟩ (by omega) (fun q hq => o1 q (by omega)) ?_) ⟨Nat.le_trans hS.1 (by omega), fun q h1 h2 => (o1 q (by have := hS.1; omega)).trans (hS.2.1 q h1 h2), hS.2.2⟩ hL ⟨Or.inr ⟨hn9, rfl⟩, hst⟩ (by simp only; omega) (by simp only; omega)
  have ht : am_t (am_a h r1 (q.2.2 : Int) (am_df r1)) (am_n h) = r1 := if_pos rfl
  refine (am_CO_obj ht f5 f6).mpr ⟨q, _, f1, u_born ty0 hts f7 hKn hkC e1 hty, fun k hk => ?_⟩
  have em : am_m (am_a h r1 (q.2.2 : Int) (am_df r1)) (am_n h) (k : Int) = am_df r1 (k : Int) := if_pos rfl
  rw [em]
  exact hdf k hk
theorem am_ea_v (G : am_En) (j : Nat) : ea G (-(300000000 + 2 * (j : Int) + 1)) = ev G j := by
  unfold ea
  rw [if_pos (by omega), if_neg (by omega)]
  congr 1
  omega
theorem am_ea_k (G : am_En) (j : Nat) : ea G (-(300000000 + 2 * (j : Int))) = ek G j := by
  unfold ea
  rw [if_pos (by omega), if_pos (by omega)]
  congr 1
  omega
theorem am_tn_eq (j : Nat) : am_tn (j : Int) = ((am_nth am_tx j []).length : Int) := by
  have e : ∀ (l : List (List Int)) (j : Nat), l.getD j [] = am_nth l j [] := by
    intro l
    induction l with
    | nil => intro j; simp [am_nth]
    | cons a r ih =>
      intro j
      cases j with
      | zero => simp [am_nth]
      | succ j => simpa [am_nth] using ih j
  unfold am_tn
  rw [e]
  simp
theorem am_tb_small : ∀ j : Nat, j < 36 → (am_nth am_tx j []).length ≤ 200 ∧ ∀ i : Nat, i < (am_nth am_tx j []).length → 0 ≤ am_tb (j : Int) (i : Int) ∧ am_tb (j : Int) (i : Int) < 128 := by decide +kernel
/-- the bytes of a constant -/
theorem am_cTf {j : Nat} (hW : am_WK G s s.heap) (hj : j < 38) : ∃ N : Nat, va_T .byte (ev G j) N (fun i => .int (Int32.ofInt (am_cb j (i : Int)))) (fun q => eS G ≤ q) s s.heap ∧ am_cn j = (N : Int) ∧ N ≤ 200 ∧ ∀ i : Nat, i < N → 0 ≤ am_cb j (i : Int) ∧ am_cb j (i : Int) < 128 := by
  by_cases h1 : j < 36
  · obtain ⟨-, -, -, s4⟩ := hW.2.1 j h1
    have e : ∀ i : Int, am_cb j i = am_tb (j : Int) i := fun i => if_pos h1
    refine ⟨_, ?_, ?_, (am_tb_small j h1).1, fun i hi => ?_⟩
    · simp only [e]
      exact s4
    · unfold am_cn
      rw [if_pos h1]
      exact am_tn_eq j
    · rw [e]
      exact (am_tb_small j h1).2 i hi
  · by_cases h2 : j = 36
    · subst h2
      refine ⟨100, hW.2.2.1.1.2, rfl, by decide, fun i hi => ?_⟩
      show 0 ≤ 48 + (i : Int) % 10 ∧ _
      have : am_cb 36 (i : Int) = 48 + (i : Int) % 10 := rfl
      omega
    · have h3 : j = 37 := by omega
      subst h3
      refine ⟨100, hW.2.2.1.2.1.2, rfl, by decide, fun i hi => ?_⟩
      have : am_cb 37 (i : Int) = 48 + (i : Int) / 10 := rfl
      omega
theorem am_cT {j : Nat} (hW : am_WK G s s.heap) (hj : j < 38) : ∃ (N : Nat) (f : Nat → Value), va_T .byte (ev G j) N f (fun q => eS G ≤ q) s s.heap ∧ am_cn j = (N : Int) ∧ N ≤ 200 := by
  obtain ⟨N, h1, h2, h3, -⟩ := am_cTf hW hj
  exact ⟨N, _, h1, h2, h3⟩

theorem am_i_alen_at (C : am_Cx G l d m p R s mth args meth cd) {H : Heap} {locs : List Loc} {arr : Array Slot} {sv : List Value} {r : List AV} {a : Int} (hH : am_HM G h H) (hS : va_S (fun q => eS G ≤ q) s.heap H locs) (hd : decode (am_cd m) pc = .ok (.arraylength, 1)) (ht : 20 ≤ am_t h a ∧ am_t h a ≤ 26)
    (k : ∀ V : Value, am_RV G (0, am_l h a) V → W p l e R s mth args below meth cd H locs c s0 Q (F0 mth (pc + 1) arr (V :: sv))) : W p l e R s mth args below meth cd H locs c s0 Q (F0 mth pc arr (.ref (ea G a) :: sv)) := by
  obtain ⟨hx, hb, hml, hown, hts, hW, hR, hlk, htr, hin⟩ := C
  obtain ⟨g1, g2⟩ := hH.2.2 a (by omega)
  have hK : va_K (eD G) vwCl [(eI G, .int), (eY G, .byte), (eJ G, .long), (eZ G, .boolean), (eQ G, .array .int), (eR G, .array .boolean)] s := hW.1.1
  have hn32 : ∀ n : Nat, n ≤ 4096 → (n : Int) = (Int32.ofNat n).toInt := fun n hn => by
    rw [Int32.toInt_ofNat_of_lt (by omega)]
  have key : ∀ (cA : ClassId) (lo hi : Int) (ty : FieldType), ArrOfT s cA ty → am_CI G cA lo hi h a H → W p l e R s mth args below meth cd H locs c s0 Q (F0 mth pc arr (.ref (ea G a) :: sv)) := by
    intro cA lo hi ty hA hc
    obtain ⟨n, f, b1, b2, b3, b4⟩ := hc
    refine W.alen (n := Int32.ofNat n) hx hb b1 (hA n _) (by rw [arrV_size]) rfl rfl hd ?_
    exact k _ ⟨_, rfl, by rw [b2]; exact hn32 n b3⟩
  have keyq : ∀ (cA : ClassId) (ty : FieldType), ArrOfT s cA ty → am_CQ G cA h a H → W p l e R s mth args below meth cd H locs c s0 Q (F0 mth pc arr (.ref (ea G a) :: sv)) := by
    intro cA ty hA hc
    obtain ⟨n, f, b1, b2, b3, b4⟩ := hc
    refine W.alen (n := Int32.ofNat n) hx hb b1 (hA n _) (by rw [arrV_size]) rfl rfl hd ?_
    exact k _ ⟨_, rfl, by rw [b2]; exact hn32 n b3⟩
  rcases (show am_t h a = 20 ∨ am_t h a = 21 ∨ am_t h a = 22 ∨ am_t h a = 23 ∨ am_t h a = 24 ∨ am_t h a = 25 ∨ am_t h a = 26 by omega) with ht | ht | ht | ht | ht | ht | ht
  · exact key _ _ _ _ (hK.2 0 _ rfl).1 ((am_CO_i ht).mp g2)
  · exact key _ _ _ _ (hK.2 1 _ rfl).1 ((am_CO_y ht).mp g2)
  · obtain ⟨n, f, b1, b2, b3, b4⟩ := (am_CO_j ht).mp g2
    refine W.alen (n := Int32.ofNat n) hx hb b1 ((hK.2 2 _ rfl).1 n (fun j => .long (f j))) (by rw [arrV_size]) rfl rfl hd ?_
    exact k _ ⟨_, rfl, by rw [b2]; exact hn32 n b3⟩
  · exact key _ _ _ _ (hK.2 3 _ rfl).1 ((am_CO_z ht).mp g2)
  · exact keyq _ _ (hK.2 4 _ rfl).1 ((am_CO_q ht).mp g2)
  · exact keyq _ _ (hK.2 5 _ rfl).1 ((am_CO_r ht).mp g2)
  · obtain ⟨j, a1, a2, a3, a4⟩ := (am_CO_b ht).mp g2
    obtain ⟨N, f, hT, hN⟩ : ∃ (N : Nat) (f : Nat → Value), va_T .byte (ev G j) N f (fun q => eS G ≤ q) s s.heap ∧ am_cn j = (N : Int) ∧ N ≤ 200 := am_cT hW a1
    obtain ⟨cell, q1, q2, q3, q4, q5, q6, q7⟩ := hT
    have ea0 : ea G a = ev G j := by rw [a2]; exact am_ea_v G j
    rw [ea0]
    refine W.alen hx hb (by rw [hS.2.1 _ (Array.getElem?_eq_some_iff.mp q1).1 q7]; exact q1) q2 q5 rfl rfl hd ?_
    refine k _ ⟨_, rfl, ?_⟩
    rw [Int32.toInt_ofNat_of_lt (by omega)]
    show am_l h a = _
    rw [a3]
    exact hN.1
theorem am_i_alen (C : am_Cx G l d m p R s mth args meth cd) {pr : Int → Prop} (hpr : ∀ a, pr a → 20 ≤ am_t h a ∧ am_t h a ≤ 26) (hd : decode (am_cd m) pc = .ok (.arraylength, 1)) (w : am_stp X (am_Gl G m p l e R s mth args below meth cd Q) d hs K (am_pR st fun a r => am_ck (pr a) (pc + 1, ls, (0, am_l h a) :: r, h, c, s0))) : am_Gl G m p l e R s mth args below meth cd Q (pc, ls, st, h, c, s0) := by
  have w1 := am_pR_inv w
  clear w
  obtain ⟨a, r, rfl, hp, w⟩ := w1
  intro H locs arr sv hH hS hL hst hc hs0
  dsimp only at hH hL hst hc hs0 ⊢
  have hq := am_RS_inv hst
  clear hst
  obtain ⟨VA, sv, rfl, hVA, hst⟩ := hq
  have ht := hpr a hp
  cases am_RVr hVA (hH.o (a := a) (by omega)).1
  exact am_i_alen_at (h := h) (r := r) C hH hS hd ht (fun V hV => w H locs arr _ hH hS hL ⟨hV, hst⟩ hc hs0)
theorem am_i_slen (C : am_Cx G l d m p R s mth args meth cd) {z : Int} {r : List AV} (hst0 : st = (4, z) :: r) (hd : decode (am_cd m) pc = .ok (.arraylength, 1)) (w : am_stp X (am_Gl G m p l e R s mth args below meth cd Q) d hs K (am_go (pc + 1, ls, (0, am_sl h) :: r, h, c, s0))) : am_Gl G m p l e R s mth args below meth cd Q (pc, ls, st, h, c, s0) := by
  obtain ⟨hx, hb, hml, hown, hts, hW, hR, hlk, htr, hin⟩ := C
  subst hst0
  intro H locs arr sv hH hS hL hst hc hs0
  dsimp only at hH hL hst hc hs0 ⊢
  have hq := am_RS_inv hst
  clear hst
  obtain ⟨VA, sv, rfl, hVA, hst⟩ := hq
  have hVA : VA = .ref (eb G) := hVA
  subst hVA
  have hbs : eb G < s.heap.size := Nat.lt_of_lt_of_le hW.2.2.2.2.1 hW.2.2.2.2.2.1
  refine va_slen hx hb hW.2.2.2.1 hbs (by have := hW.2.2.2.2.1; omega) hS hd ?_
  refine w H locs arr _ hH hS hL ⟨⟨_, rfl, ?_⟩, hst⟩ hc hs0
  have := hW.2.2.2.2.2.2
  rw [Int32.toInt_ofNat_of_lt (by omega)]
  exact hH.2.1.1
theorem am_i_sald (C : am_Cx G l d m p R s mth args meth cd) {z i : Int} {r : List AV} (hst0 : st = (0, i) :: (4, z) :: r) (hd : decode (am_cd m) pc = .ok (.iaload, 1)) (w : am_stp X (am_Gl G m p l e R s mth args below meth cd Q) d hs K (am_ck (0 ≤ i ∧ i < am_sl h) (pc + 1, ls, (0, am_sx h i) :: r, h, c, s0))) : am_Gl G m p l e R s mth args below meth cd Q (pc, ls, st, h, c, s0) := by
  obtain ⟨hx, hb, hml, hown, hts, hW, hR, hlk, htr, hin⟩ := C
  subst hst0
  obtain ⟨⟨hi0, hi1⟩, w⟩ := w
  intro H locs arr sv hH hS hL hst hc hs0
  dsimp only at hH hL hst hc hs0 ⊢
  have hq := am_RS_inv hst
  clear hst
  obtain ⟨VI, sv, rfl, hVI, hst⟩ := hq
  have hq := am_RS_inv hst
  clear hst
  obtain ⟨VA, sv, rfl, hVA, hst⟩ := hq
  obtain ⟨x, rfl, rfl⟩ := hVI
  have hVA : VA = .ref (eb G) := hVA
  subst hVA
  have hbs : eb G < s.heap.size := Nat.lt_of_lt_of_le hW.2.2.2.2.1 hW.2.2.2.2.2.1
  rw [hH.2.1.1] at hi1
  obtain ⟨k1, k2, k3⟩ := am_ix hi0 hi1
  refine va_sld hx hb hW.2.2.2.1 hbs (by have := hW.2.2.2.2.1; omega) hS k1 hd ?_
  exact w H locs arr _ hH hS hL ⟨⟨_, rfl, by rw [← k3]; exact hH.2.1.2 _ k2⟩, hst⟩ hc hs0
theorem am_i_tval (C : am_Cx G l d m p R s mth args meth cd) {z : Int} {r : List AV} {idx : Nat} (hst0 : st = (5, z) :: r) (hw : Cond.fieldLink (am_mn m).cls idx "java/lang/String" "value" "[B" ∈ am_W) (hd : decode (am_cd m) pc = .ok (.getfield idx, 3)) (w : am_stp X (am_Gl G m p l e R s mth args below meth cd Q) d hs K (am_go (pc + 3, ls, (7, z) :: r, h, c, s0))) : am_Gl G m p l e R s mth args below meth cd Q (pc, ls, st, h, c, s0) := by
  obtain ⟨hx, hb, hml, hown, hts, hW, hR, hlk, htr, hin⟩ := C
  subst hst0
  intro H locs arr sv hH hS hL hst hc hs0
  dsimp only at hH hL hst hc hs0 ⊢
  have hq := am_RS_inv hst
  clear hst
  obtain ⟨VA, sv, rfl, hVA, hst⟩ := hq
  obtain ⟨z0, z1, rfl⟩ := hVA
  obtain ⟨-, -, s3, -⟩ := hW.2.1 z.toNat (by simp only at z1; omega)
  refine vk_getf hx hb s3 hS hown (hts _ hw) (fun x hx => hx) hd ?_
  exact w H locs arr _ hH hS hL ⟨⟨z0, z1, rfl⟩, hst⟩ hc hs0
theorem am_i_tcoder (C : am_Cx G l d m p R s mth args meth cd) {z : Int} {r : List AV} {idx : Nat} (hst0 : st = (5, z) :: r) (hw : Cond.fieldLink (am_mn m).cls idx "java/lang/String" "coder" "B" ∈ am_W) (hd : decode (am_cd m) pc = .ok (.getfield idx, 3)) (w : am_stp X (am_Gl G m p l e R s mth args below meth cd Q) d hs K (am_go (pc + 3, ls, (0, 0) :: r, h, c, s0))) : am_Gl G m p l e R s mth args below meth cd Q (pc, ls, st, h, c, s0) := by
  obtain ⟨hx, hb, hml, hown, hts, hW, hR, hlk, htr, hin⟩ := C
  subst hst0
  intro H locs arr sv hH hS hL hst hc hs0
  dsimp only at hH hL hst hc hs0 ⊢
  have hq := am_RS_inv hst
  clear hst
  obtain ⟨VA, sv, rfl, hVA, hst⟩ := hq
  obtain ⟨z0, z1, rfl⟩ := hVA
  obtain ⟨-, s2, -, -⟩ := hW.2.1 z.toNat (by simp only at z1; omega)
  refine vk_getf hx hb s2 hS hown (hts _ hw) (fun x hx => hx) hd ?_
  exact w H locs arr _ hH hS hL ⟨⟨0, rfl, rfl⟩, hst⟩ hc hs0
theorem am_i_tbald (C : am_Cx G l d m p R s mth args meth cd) {z i : Int} {r : List AV} (hst0 : st = (0, i) :: (7, z) :: r) (hd : decode (am_cd m) pc = .ok (.baload, 1)) (w : am_stp X (am_Gl G m p l e R s mth args below meth cd Q) d hs K (am_ck (0 ≤ i ∧ i < am_tn z) (pc + 1, ls, (0, am_tb z i) :: r, h, c, s0))) : am_Gl G m p l e R s mth args below meth cd Q (pc, ls, st, h, c, s0) := by
  obtain ⟨hx, hb, hml, hown, hts, hW, hR, hlk, htr, hin⟩ := C
  subst hst0
  obtain ⟨⟨hi0, hi1⟩, w⟩ := w
  intro H locs arr sv hH hS hL hst hc hs0
  dsimp only at hH hL hst hc hs0 ⊢
  have hq := am_RS_inv hst
  clear hst
  obtain ⟨VI, sv, rfl, hVI, hst⟩ := hq
  have hq := am_RS_inv hst
  clear hst
  obtain ⟨VA, sv, rfl, hVA, hst⟩ := hq
  obtain ⟨x, rfl, rfl⟩ := hVI
  obtain ⟨z0, z1, rfl⟩ := hVA
  simp only at z0 z1
  have ez : z = (z.toNat : Int) := by omega
  obtain ⟨-, -, -, s4⟩ := hW.2.1 z.toNat (by omega)
  rw [ez, am_tn_eq] at hi1
  obtain ⟨k1, k2, k3⟩ := am_ix hi0 hi1
  refine va_tb hx hb s4 hS k1 rfl hd ?_
  refine w H locs arr _ hH hS hL ⟨⟨_, rfl, ?_⟩, hst⟩ hc hs0
  have := (am_tb_small z.toNat (by omega)).2 _ k2
  rw [am_ofInt (by omega), ← ez, k3]
theorem am_i_tlen (C : am_Cx G l d m p R s mth args meth cd) {z : Int} {r : List AV} (hst0 : st = (7, z) :: r) (hd : decode (am_cd m) pc = .ok (.arraylength, 1)) (w : am_stp X (am_Gl G m p l e R s mth args below meth cd Q) d hs K (am_go (pc + 1, ls, (0, am_tn z) :: r, h, c, s0))) : am_Gl G m p l e R s mth args below meth cd Q (pc, ls, st, h, c, s0) := by
  obtain ⟨hx, hb, hml, hown, hts, hW, hR, hlk, htr, hin⟩ := C
  subst hst0
  intro H locs arr sv hH hS hL hst hc hs0
  dsimp only at hH hL hst hc hs0 ⊢
  have hq := am_RS_inv hst
  clear hst
  obtain ⟨VA, sv, rfl, hVA, hst⟩ := hq
  obtain ⟨z0, z1, rfl⟩ := hVA
  simp only at z0 z1
  have ez : z = (z.toNat : Int) := by omega
  obtain ⟨-, -, -, cell, q1, q2, q3, q4, q5, q6, q7⟩ := hW.2.1 z.toNat (by omega)
  refine W.alen hx hb (by rw [hS.2.1 _ (Array.getElem?_eq_some_iff.mp q1).1 q7]; exact q1) q2 q5 rfl rfl hd ?_
  refine w H locs arr _ hH hS hL ⟨⟨_, rfl, ?_⟩, hst⟩ hc hs0
  have := (am_tb_small z.toNat (by omega)).1
  show am_tn z = (Int32.ofNat (am_nth am_tx z.toNat []).length).toInt
  rw [Int32.toInt_ofNat_of_lt (by omega), ← am_tn_eq, ← ez]
theorem am_i_gs60 (C : am_Cx G l d m p R s mth args meth cd) {idx : Nat} (hw : Cond.fieldLink (am_mn m).cls idx "java/lang/String" "COMPACT_STRINGS" "Z" ∈ am_W) (hd : decode (am_cd m) pc = .ok (.getstatic idx, 3)) (w : am_stp X (am_Gl G m p l e R s mth args below meth cd Q) d hs K (am_go (pc + 3, ls, (0, 1) :: st, h, c, s0))) : am_Gl G m p l e R s mth args below meth cd Q (pc, ls, st, h, c, s0) := by
  obtain ⟨hx, hb, hml, hown, hts, hW, hR, hlk, htr, hin⟩ := C
  intro H locs arr sv hH hS hL hst hc hs0
  dsimp only at hH hL hst hc hs0 ⊢
  refine va_gets hx hb hW.2.2.1.2.2.1 hS hown (hts _ hw) (fun x hx => hx) hd ?_
  exact w H locs arr _ hH hS hL ⟨⟨1, rfl, rfl⟩, hst⟩ hc hs0
theorem am_i_gs62 (C : am_Cx G l d m p R s mth args meth cd) {idx : Nat} (hw : Cond.fieldLink (am_mn m).cls idx "jdk/internal/util/Preconditions" "SIOOBE_FORMATTER" "Ljava/util/function/BiFunction;" ∈ am_W) (hd : decode (am_cd m) pc = .ok (.getstatic idx, 3)) (w : am_stp X (am_Gl G m p l e R s mth args below meth cd Q) d hs K (am_go (pc + 3, ls, (11, 0) :: st, h, c, s0))) : am_Gl G m p l e R s mth args below meth cd Q (pc, ls, st, h, c, s0) := by
  obtain ⟨hx, hb, hml, hown, hts, hW, hR, hlk, htr, hin⟩ := C
  intro H locs arr sv hH hS hL hst hc hs0
  dsimp only at hH hL hst hc hs0 ⊢
  rcases hW.2.2.1.2.2.2.1 with hz | ⟨t, hz⟩
  · refine va_gets hx hb hz hS hown (hts _ hw) (fun x hx => hx) hd ?_
    exact w H locs arr _ hH hS hL ⟨Or.inl rfl, hst⟩ hc hs0
  · refine va_gets hx hb hz hS hown (hts _ hw) (fun x hx => hx) hd ?_
    exact w H locs arr _ hH hS hL ⟨Or.inr ⟨t, rfl⟩, hst⟩ hc hs0
theorem am_i_ldci (C : am_Cx G l d m p R s mth args meth cd) {idx : Nat} {v : Int} (hv : -2147483648 ≤ v ∧ v < 2147483648) (hw : Cond.constant (am_mn m).cls idx (Int32.ofInt v) ∈ am_W) (hd : decode (am_cd m) pc = .ok (.ldc idx, 2)) (w : am_stp X (am_Gl G m p l e R s mth args below meth cd Q) d hs K (am_go (pc + 2, ls, (0, v) :: st, h, c, s0))) : am_Gl G m p l e R s mth args below meth cd Q (pc, ls, st, h, c, s0) := by
  obtain ⟨hx, hb, hml, hown, hts, hW, hR, hlk, htr, hin⟩ := C
  intro H locs arr sv hH hS hL hst hc hs0
  dsimp only at hH hL hst hc hs0 ⊢
  refine lv_ldc hx hb hown (hts _ hw) hd ?_
  exact w H locs arr _ hH hS hL ⟨⟨_, rfl, (am_ofInt hv).symm⟩, hst⟩ hc hs0
theorem am_i_ldcwi (C : am_Cx G l d m p R s mth args meth cd) {idx : Nat} {v : Int} (hv : -2147483648 ≤ v ∧ v < 2147483648) (hw : Cond.constant (am_mn m).cls idx (Int32.ofInt v) ∈ am_W) (hd : decode (am_cd m) pc = .ok (.ldc_w idx, 3)) (w : am_stp X (am_Gl G m p l e R s mth args below meth cd Q) d hs K (am_go (pc + 3, ls, (0, v) :: st, h, c, s0))) : am_Gl G m p l e R s mth args below meth cd Q (pc, ls, st, h, c, s0) := by
  obtain ⟨hx, hb, hml, hown, hts, hW, hR, hlk, htr, hin⟩ := C
  intro H locs arr sv hH hS hL hst hc hs0
  dsimp only at hH hL hst hc hs0 ⊢
  refine lv_ldcw hx hb hown (hts _ hw) hd ?_
  exact w H locs arr _ hH hS hL ⟨⟨_, rfl, (am_ofInt hv).symm⟩, hst⟩ hc hs0
theorem am_i_ldcl (C : am_Cx G l d m p R s mth args meth cd) {idx : Nat} {v : Int} (hv : 0 ≤ v ∧ v < 9223372036854775808) (hw : Cond.constantLong (am_mn m).cls idx (Int64.ofInt v) ∈ am_W) (hd : decode (am_cd m) pc = .ok (.ldc2_w idx, 3)) (w : am_stp X (am_Gl G m p l e R s mth args below meth cd Q) d hs K (am_go (pc + 3, ls, (1, v) :: st, h, c, s0))) : am_Gl G m p l e R s mth args below meth cd Q (pc, ls, st, h, c, s0) := by
  obtain ⟨hx, hb, hml, hown, hts, hW, hR, hlk, htr, hin⟩ := C
  intro H locs arr sv hH hS hL hst hc hs0
  dsimp only at hH hL hst hc hs0 ⊢
  refine lv_ldc2 hx hb hown (hts _ hw) hd ?_
  refine w H locs arr _ hH hS hL ⟨⟨_, rfl, ?_⟩, hst⟩ hc hs0
  rw [Int64.toInt_ofInt]
  show v = v.bmod 18446744073709551616
  rw [Int.bmod_eq_of_le] <;> omega
theorem am_i_ldct (C : am_Cx G l d m p R s mth args meth cd) {idx j : Nat} (hj : j < 36) (ho : (am_own j).1 = (am_mn m).cls ∧ (am_own j).2.1 = idx) (hd : decode (am_cd m) pc = .ok (.ldc idx, 2)) (w : am_stp X (am_Gl G m p l e R s mth args below meth cd Q) d hs K (am_go (pc + 2, ls, (5, (j : Int)) :: st, h, c, s0))) : am_Gl G m p l e R s mth args below meth cd Q (pc, ls, st, h, c, s0) := by
  obtain ⟨hx, hb, hml, hown, hts, hW, hR, hlk, htr, hin⟩ := C
  intro H locs arr sv hH hS hL hst hc hs0
  dsimp only at hH hL hst hc hs0 ⊢
  have hZ := hW.1.2.2.1 j hj
  rw [ho.1, ho.2] at hZ
  refine va_ldcS hx hb hown hZ hd ?_
  exact w H locs arr _ hH hS hL ⟨⟨by simp only; omega, by simp only; omega, by simp⟩, hst⟩ hc hs0
theorem am_i_ldck (C : am_Cx G l d m p R s mth args meth cd) {idx j : Nat} (hj : j < 36) (ho : (am_own j).1 = (am_mn m).cls ∧ (am_own j).2.1 = idx) (hd : decode (am_cd m) pc = .ok (.ldc idx, 2)) (w : am_stp X (am_Gl G m p l e R s mth args below meth cd Q) d hs K (am_go (pc + 2, ls, (2, -(300000000 + 2 * (j : Int))) :: st, h, c, s0))) : am_Gl G m p l e R s mth args below meth cd Q (pc, ls, st, h, c, s0) := by
  obtain ⟨hx, hb, hml, hown, hts, hW, hR, hlk, htr, hin⟩ := C
  intro H locs arr sv hH hS hL hst hc hs0
  dsimp only at hH hL hst hc hs0 ⊢
  have hZ := hW.1.2.2.1 j hj
  rw [ho.1, ho.2] at hZ
  refine va_ldcS hx hb hown hZ hd ?_
  exact w H locs arr _ hH hS hL ⟨Or.inr ⟨by simp only; omega, by rw [am_ea_k]⟩, hst⟩ hc hs0
theorem am_i_mmin (C : am_Cx G l d m p R s mth args meth cd) {idx : Nat} (hw1 : Cond.methodLink (am_mn m).cls idx Lib.Math.min.name ∈ am_W) (hw2 : Cond.static Lib.Math.min.name ∈ am_W) (hw3 : Cond.initialized "java/lang/Math" ∈ am_W) (hw4 : Cond.code Lib.Math.min.name Lib.Math.min.code 2 (some .int) ∈ am_W) (hd : decode (am_cd m) pc = .ok (.invokestatic idx, 3)) (w : am_stp X (am_Gl G m p l e R s mth args below meth cd Q) d hs K (am_pI st fun b r => am_pI r fun a r => am_few r (am_go (pc + 3, ls, (0, min a b) :: r, h, c, s0)))) : am_Gl G m p l e R s mth args below meth cd Q (pc, ls, st, h, c, s0) := by
  obtain ⟨hx, hb, hml, hown, hts, hW, hR, hlk, htr, hin⟩ := C
  have w1 := am_pI_inv w
  clear w
  obtain ⟨b, r, rfl, w⟩ := w1
  have w1 := am_pI_inv w
  clear w
  obtain ⟨a, r, rfl, w⟩ := w1
  obtain ⟨hfew, w⟩ := am_few_inv w
  intro H locs arr sv hH hS hL hst hc hs0
  dsimp only at hH hL hst hc hs0 ⊢
  have hq := am_RS_inv hst
  clear hst
  obtain ⟨VB, sv, rfl, hVB, hst⟩ := hq
  have hq := am_RS_inv hst
  clear hst
  obtain ⟨VA, sv, rfl, hVA, hst⟩ := hq
  obtain ⟨y, rfl, rfl⟩ := hVB
  obtain ⟨x, rfl, rfl⟩ := hVA
  have hcat := am_RS_cat hst
  refine va_mmin hx hb (hml.trans hL.1.symm) hown (hts _ hw1) (hts _ hw2) (hts _ hw3) (hts _ hw4) (by omega) (by rw [hcat]; omega) hc hs0 hd ?_
  refine w H locs arr _ hH hS hL ⟨⟨_, rfl, ?_⟩, hst⟩ hc hs0
  simp only
  split
  · rename_i hh
    have := Int32.lt_iff_toInt_lt.mp hh
    omega
  · rename_i hh
    have : ¬ _ := fun q => hh (Int32.lt_iff_toInt_lt.mpr q)
    omega
theorem am_i_mmax (C : am_Cx G l d m p R s mth args meth cd) {idx : Nat} (hw1 : Cond.methodLink (am_mn m).cls idx Lib.Math.max.name ∈ am_W) (hw2 : Cond.static Lib.Math.max.name ∈ am_W) (hw3 : Cond.initialized "java/lang/Math" ∈ am_W) (hw4 : Cond.code Lib.Math.max.name Lib.Math.max.code 2 (some .int) ∈ am_W) (hd : decode (am_cd m) pc = .ok (.invokestatic idx, 3)) (w : am_stp X (am_Gl G m p l e R s mth args below meth cd Q) d hs K (am_pI st fun b r => am_pI r fun a r => am_few r (am_go (pc + 3, ls, (0, max a b) :: r, h, c, s0)))) : am_Gl G m p l e R s mth args below meth cd Q (pc, ls, st, h, c, s0) := by
  obtain ⟨hx, hb, hml, hown, hts, hW, hR, hlk, htr, hin⟩ := C
  have w1 := am_pI_inv w
  clear w
  obtain ⟨b, r, rfl, w⟩ := w1
  have w1 := am_pI_inv w
  clear w
  obtain ⟨a, r, rfl, w⟩ := w1
  obtain ⟨hfew, w⟩ := am_few_inv w
  intro H locs arr sv hH hS hL hst hc hs0
  dsimp only at hH hL hst hc hs0 ⊢
  have hq := am_RS_inv hst
  clear hst
  obtain ⟨VB, sv, rfl, hVB, hst⟩ := hq
  have hq := am_RS_inv hst
  clear hst
  obtain ⟨VA, sv, rfl, hVA, hst⟩ := hq
  obtain ⟨y, rfl, rfl⟩ := hVB
  obtain ⟨x, rfl, rfl⟩ := hVA
  have hcat := am_RS_cat hst
  refine va_mmax hx hb (hml.trans hL.1.symm) hown (hts _ hw1) (hts _ hw2) (hts _ hw3) (hts _ hw4) (by omega) (by rw [hcat]; omega) hc hs0 hd ?_
  refine w H locs arr _ hH hS hL ⟨⟨_, rfl, ?_⟩, hst⟩ hc hs0
  simp only
  split
  · rename_i hh
    have := Int32.lt_iff_toInt_lt.mp hh
    omega
  · rename_i hh
    have : ¬ _ := fun q => hh (Int32.lt_iff_toInt_lt.mpr q)
    omega
theorem am_i_objinit (C : am_Cx G l d m p R s mth args meth cd) {idx : Nat} (hw1 : Cond.methodLink (am_mn m).cls idx Lib.objectInit ∈ am_W) (hw2 : Cond.instanceMethod Lib.objectInit ∈ am_W) (hw3 : Cond.code Lib.objectInit ⟨#[0xb1]⟩ 1 none ∈ am_W) {pr : Int → Prop} (hpr : ∀ a, pr a → ¬ a = -1) (hd : decode (am_cd m) pc = .ok (.invokespecial idx, 3)) (w : am_stp X (am_Gl G m p l e R s mth args below meth cd Q) d hs K (am_pR st fun a r => am_few r (am_ck (pr a) (pc + 3, ls, r, h, c, s0)))) : am_Gl G m p l e R s mth args below meth cd Q (pc, ls, st, h, c, s0) := by
  obtain ⟨hx, hb, hml, hown, hts, hW, hR, hlk, htr, hin⟩ := C
  have w1 := am_pR_inv w
  clear w
  obtain ⟨a, r, rfl, w⟩ := w1
  obtain ⟨hfew, ha0, w⟩ := am_few_inv w
  intro H locs arr sv hH hS hL hst hc hs0
  dsimp only at hH hL hst hc hs0 ⊢
  have hq := am_RS_inv hst
  clear hst
  obtain ⟨VA, sv, rfl, hVA, hst⟩ := hq
  have hVaa : VA = .ref (ea G a) := by
    exact am_RVr hVA (hpr _ ha0)
  subst hVaa
  have hcat := am_RS_cat hst
  have := hR.1
  refine W.objInit hx hb hown (hts _ hw1) (hts _ hw2) (hts _ hw3) rfl (hL.1.trans hml.symm) rfl hd (by omega) (by rw [hcat]; show 2 * 0 + _ + 12 ≤ _; omega) ?_
  exact w H locs arr sv hH hS hL hst hc hs0
/-- a switch: the goals as the abstract machine lists them -/
theorem am_swP_at {x : Int} {e0 : AC} : ∀ {l : List (Int × AC)} {k : Nat} {v : Int} {c1 : AC}, am_swP Z x e0 l → l[k]? = some (v, c1) → x = v → (∀ j v' c', j < k → l[j]? = some (v', c') → v' ≠ v) → Z c1
  | [], k, v, c1, w, hk, hx, hb => by simp at hk
  | (v0, c0) :: r, 0, v, c1, w, hk, hx, hb => by
    cases hk
    exact w.1 hx
  | (v0, c0) :: r, k + 1, v, c1, w, hk, hx, hb => by
    have h0 := hb 0 v0 c0 (by omega) rfl
    exact am_swP_at (w.2 (fun z => h0 (z.symm.trans hx))) hk hx (fun j v' c' hj hl => hb (j + 1) v' c' (by omega) hl)
theorem am_swP_no {x : Int} {e0 : AC} : ∀ {l : List (Int × AC)}, am_swP Z x e0 l → (∀ q ∈ l, x ≠ q.1) → Z e0
  | [], w, _ => w
  | (v0, c0) :: r, w, hn => am_swP_no (w.2 (hn (v0, c0) List.mem_cons_self)) (fun q hq => hn q (List.mem_cons_of_mem _ hq))
theorem am_i_tsw (C : am_Cx G l d m p R s mth args meth cd) {dflt lo hi : Int} {offs : Array Int} {len r1 : Nat} {zs : List (Int × Nat)} (hz1 : zs.length = offs.size) (hz2 : lo + (offs.size : Int) = hi + 1) (hz3 : ∀ k : Nat, k < offs.size → ∃ off t, offs[k]? = some off ∧ zs[k]? = some (lo + (k : Int), t) ∧ (pc : Int) + off = (t : Int)) (hz4 : (pc : Int) + dflt = (r1 : Int)) (hd : decode (am_cd m) pc = .ok (.tableswitch dflt lo hi offs, len)) (w : am_stp X (am_Gl G m p l e R s mth args below meth cd Q) d hs K (am_pI st fun a r => am_sw a (zs.map fun z => (z.1, (z.2, ls, r, h, c, s0))) (r1, ls, r, h, c, s0))) : am_Gl G m p l e R s mth args below meth cd Q (pc, ls, st, h, c, s0) := by
  obtain ⟨hx, hb, hml, hown, hts, hW, hR, hlk, htr, hin⟩ := C
  have w1 := am_pI_inv w
  clear w
  obtain ⟨a, r, rfl, w⟩ := w1
  intro H locs arr sv hH hS hL hst hc hs0
  dsimp only at hH hL hst hc hs0 ⊢
  have hq := am_RS_inv hst
  clear hst
  obtain ⟨VA, sv, rfl, hVA, hst⟩ := hq
  obtain ⟨x, rfl, rfl⟩ := hVA
  have w : am_swP (am_Gl G m p l e R s mth args below meth cd Q) x.toInt (r1, ls, r, h, c, s0) (zs.map fun z => (z.1, (z.2, ls, r, h, c, s0))) := w
  have hval : ∀ (j : Nat) (v : Int) (c' : AC), (zs.map fun z => (z.1, (z.2, ls, r, h, c, s0)))[j]? = some (v, c') → j < offs.size ∧ v = lo + (j : Int) := by
    intro j v c' hj
    rw [List.getElem?_map] at hj
    cases hzj : zs[j]? with
    | none => rw [hzj] at hj; cases hj
    | some z =>
      have hjl : j < zs.length := (List.getElem?_eq_some_iff.mp hzj).1
      obtain ⟨off, t, -, e2, -⟩ := hz3 j (by omega)
      rw [hzj] at hj e2
      cases e2
      cases hj
      exact ⟨by omega, rfl⟩
  by_cases h1 : x.toInt < lo ∨ hi < x.toInt
  · refine lv_tableOut hx hb hd h1 hz4 ?_
    refine am_swP_no w (fun q hq => ?_) H locs arr sv hH hS hL hst hc hs0
    obtain ⟨j, hj⟩ := List.getElem?_of_mem hq
    obtain ⟨v, c'⟩ := q
    obtain ⟨g1, g2⟩ := hval j v c' hj
    simp only
    omega
  · obtain ⟨off, t, e1, e2, e3⟩ := hz3 (x.toInt - lo).toNat (by omega)
    refine lv_tableIn hx hb hd (fun z => h1 (Or.inl z)) (fun z => h1 (Or.inr z)) e1 e3 ?_
    have e2' : (zs.map fun z => (z.1, (z.2, ls, r, h, c, s0)))[(x.toInt - lo).toNat]? = some (lo + ((x.toInt - lo).toNat : Int), (t, ls, r, h, c, s0)) := by rw [List.getElem?_map, e2]; rfl
    refine am_swP_at w e2' (by omega) (fun j v' c' hj hl => ?_) H locs arr sv hH hS hL hst hc hs0
    obtain ⟨g1, g2⟩ := hval j v' c' hl
    omega
theorem am_i_lsw (C : am_Cx G l d m p R s mth args meth cd) {dflt : Int} {ps : Array (Int × Int)} {len r1 : Nat} {zs : List (Int × Nat)} (hz1 : (ps.toList.zip (ps.toList.drop 1)).all (fun (a, next) => a.1 < next.1) = true) (hz2 : zs.length = ps.toList.length) (hz3 : ∀ k : Nat, k < ps.toList.length → ∃ v off t, ps.toList[k]? = some (v, off) ∧ zs[k]? = some (v, t) ∧ (pc : Int) + off = (t : Int)) (hz4 : (pc : Int) + dflt = (r1 : Int)) (hd : decode (am_cd m) pc = .ok (.lookupswitch dflt ps, len)) (w : am_stp X (am_Gl G m p l e R s mth args below meth cd Q) d hs K (am_pI st fun a r => am_sw a (zs.map fun z => (z.1, (z.2, ls, r, h, c, s0))) (r1, ls, r, h, c, s0))) : am_Gl G m p l e R s mth args below meth cd Q (pc, ls, st, h, c, s0) := by
  obtain ⟨hx, hb, hml, hown, hts, hW, hR, hlk, htr, hin⟩ := C
  have w1 := am_pI_inv w
  clear w
  obtain ⟨a, r, rfl, w⟩ := w1
  intro H locs arr sv hH hS hL hst hc hs0
  dsimp only at hH hL hst hc hs0 ⊢
  have hq := am_RS_inv hst
  clear hst
  obtain ⟨VA, sv, rfl, hVA, hst⟩ := hq
  obtain ⟨x, rfl, rfl⟩ := hVA
  have w : am_swP (am_Gl G m p l e R s mth args below meth cd Q) x.toInt (r1, ls, r, h, c, s0) (zs.map fun z => (z.1, (z.2, ls, r, h, c, s0))) := w
  have key : ∀ (ps' : List (Int × Int)) (zs' : List (Int × Nat)), zs'.length = ps'.length → (∀ k : Nat, k < ps'.length → ∃ v off t, ps'[k]? = some (v, off) ∧ zs'[k]? = some (v, t) ∧ (pc : Int) + off = (t : Int)) → am_swP (am_Gl G m p l e R s mth args below meth cd Q) x.toInt (r1, ls, r, h, c, s0) (zs'.map fun z => (z.1, (z.2, ls, r, h, c, s0))) →
      ∃ (off : Int) (t : Nat), Op.lookupswitch.offset ps' dflt x.toInt = off ∧ (pc : Int) + off = (t : Int) ∧ am_Gl G m p l e R s mth args below meth cd Q (t, ls, r, h, c, s0) := by
    intro ps'
    induction ps' with
    | nil =>
      intro zs' hl hk hw
      cases zs' with
      | nil => exact ⟨dflt, r1, rfl, hz4, hw⟩
      | cons a b => simp at hl
    | cons q0 ps' ih =>
      intro zs' hl hk hw
      cases zs' with
      | nil => simp at hl
      | cons z0 zs' =>
        obtain ⟨v, off, t, e1, e2, e3⟩ := hk 0 (by simp)
        simp at e1 e2
        subst e1
        subst e2
        by_cases hxv : x.toInt = v
        · refine ⟨off, t, ?_, e3, hw.1 hxv⟩
          rw [Op.lookupswitch.offset_cons, if_pos hxv.symm]
        · obtain ⟨o2, t2, f1, f2, f3⟩ := ih zs' (by simpa using hl) (fun k hk2 => by
            obtain ⟨v, off, t, e1, e2, e3⟩ := hk (k + 1) (by simpa using hk2)
            exact ⟨v, off, t, by simpa using e1, by simpa using e2, e3⟩) (hw.2 hxv)
          refine ⟨o2, t2, ?_, f2, f3⟩
          rw [Op.lookupswitch.offset_cons, if_neg (fun z => hxv z.symm)]
          exact f1
  obtain ⟨off, t, f1, f2, f3⟩ := key ps.toList zs hz2 hz3 w
  refine lv_lookup hx hb hd hz1 f1 f2 ?_
  exact f3 H locs arr sv hH hS hL hst hc hs0
end SIM
end
section
/-! ===== rows of rows, copies, texts that are made, doubles as bits ===== -/
theorem am_outer (c : ClassId) (N h0 : Nat) : ∀ i : Nat, Jvm.Free.Multi.outerC c N h0 i = arrV c N (fun j => va_rf (if j < i then some (h0 + 1 + j) else none))
  | 0 => by
    refine (arrV_new c N .null).trans (congrArg (arrV c N) (funext fun j => ?_))
    rw [if_neg (by omega)]
    rfl
  | i + 1 => by
    refine (congrArg (fun y : Cell => y.setSlot i (.ref (h0 + 1 + i))) (am_outer c N h0 i)).trans ?_
    show (arrV c N _).setSlot i _ = _
    rw [arrV_store]
    refine congrArg (arrV c N) (funext fun j => ?_)
    unfold updV
    by_cases e1 : j = i
    · rw [if_pos e1, if_pos (by omega), e1]
      rfl
    · rw [if_neg e1]
      by_cases e2 : j < i
      · show va_rf (if j < i then _ else _) = _
        rw [if_pos e2, if_pos (by omega)]
      · show va_rf (if j < i then _ else _) = _
        rw [if_neg e2, if_neg (by omega)]
theorem fb_byte0 {x : Int32} (h1 : -128 ≤ x.toInt) (h2 : x.toInt < 128) : x.toInt8.toInt32 = x := by
  apply Int32.toInt_inj.mp
  rw [Int8.toInt_toInt32, Int32.toInt_toInt8]
  show x.toInt.bmod 256 = _
  rw [Int.bmod_eq_of_le] <;> omega
theorem am_HM_mk2 {G : am_En} {h : AH} {H H1 : Heap} {t u : Nat} {n k : Int} (hH : am_HM G h H) (hf : am_fr h) (hn : 0 ≤ n ∧ n ≤ 64) (ht0 : am_wt t) (hu0 : am_wt u) (hz : H1.size = H.size + 1 + n.toNat) (o1 : ∀ q : Nat, q < H.size → H1[q]? = H[q]?) (hC : am_CO G (am_mk2 h t u n k) (am_n h) H1) (hD : ∀ j : Nat, j < n.toNat → am_CO G (am_mk2 h t u n k) (am_n h + 1 + j) H1) : am_HM G (am_mk2 h t u n k) H1 := by
  have hH0 := hH
  obtain ⟨g1, g3, g5⟩ := hH
  obtain ⟨p1, p2, p3, p4⟩ := g1.new hf
  have en : am_n (am_mk2 h t u n k) = am_n h + 1 + n := rfl
  have hf2 := hf
  unfold am_fr at hf2
  have g1' := g1
  unfold am_ph at g1'
  have hea : ∀ j : Int, 0 ≤ j → j ≤ n → ea G (am_n h + j) = H.size + j.toNat := by
    intro j h0 h1
    have e := am_ea_hi (G := G) (a := am_n h + j) (by omega)
    rcases g1' with ⟨q1, q2, q3⟩ | ⟨q1, q2, q3, q4⟩
    · rw [if_neg (fun z => z.2 q1)] at e
      omega
    · rw [if_pos ⟨by omega, q1⟩] at e
      omega
  refine ⟨?_, g3, fun b hb => ?_⟩
  · unfold am_ph
    rw [en, hz]
    omega
  · by_cases hbn : b = am_n h
    · have et : am_t (am_mk2 h t u n k) b = t := if_pos hbn
      rw [hbn]
      refine ⟨⟨p2, Or.inl ⟨p4, by rw [en]; omega, by omega, by omega, fun z z2 => by omega, ?_⟩⟩, hC⟩
      rw [← hbn, et]
      exact ht0.2
    · by_cases hbi : am_n h < b ∧ b ≤ am_n h + n
      · have et : am_t (am_mk2 h t u n k) b = u := (if_neg hbn).trans (if_pos hbi)
        have e2 : b = am_n h + (b - am_n h) := by omega
        have e3 := hea (b - am_n h) (by omega) (by omega)
        rw [← e2] at e3
        refine ⟨⟨by omega, Or.inl ⟨by omega, by rw [en]; omega, by omega, by omega, fun z z2 => by omega, ?_⟩⟩, ?_⟩
        · rw [et]
          exact hu0.2
        · have e4 : b = am_n h + 1 + ((b - am_n h - 1).toNat : Nat) := by omega
          rw [e4]
          exact hD _ (by omega)
      · have et : am_t (am_mk2 h t u n k) b = am_t h b := (if_neg hbn).trans (if_neg hbi)
        rw [et] at hb
        obtain ⟨b1, b2⟩ := g5 b hb
        exact ⟨am_ok_keep b1 (by rw [en]; omega) (by omega) et, am_CO_kept b2 (o1 _ (hH0.o hb).2) et ((if_neg hbn).trans (if_neg hbi)) (fun j => (if_neg hbn).trans (if_neg hbi))⟩
section SIM
variable {G : am_En} {l : Launch} {d m : Nat} {p : Program} {e : Env} {R : Room} {s : State} {mth : MethodId} {args : Array Value} {below : List Frame} {meth : Method} {cd : Code} {Q : State → Prop} {K : AK} {X : AX} {Z : AC → Prop} {hs : List (Nat × Nat × Nat × Nat)}
variable {pc : Nat} {ls st : List AV} {h : AH} {c s0 : Nat}
theorem am_i_aald (C : am_Cx G l d m p R s mth args meth cd) (hd : decode (am_cd m) pc = .ok (.aaload, 1)) (w : am_stp X (am_Gl G m p l e R s mth args below meth cd Q) d hs K (am_pI st fun i r => am_pR r fun a r => am_ck ((am_t h a = 24 ∨ am_t h a = 25) ∧ 0 ≤ i ∧ i < am_l h a) (pc + 1, ls, (2, am_m h a i) :: r, h, c, s0))) : am_Gl G m p l e R s mth args below meth cd Q (pc, ls, st, h, c, s0) := by
  obtain ⟨hx, hb, hml, hown, hts, hW, hR, hlk, htr, hin⟩ := C
  have w1 := am_pI_inv w
  clear w
  obtain ⟨i, r, rfl, w⟩ := w1
  have w1 := am_pR_inv w
  clear w
  obtain ⟨a, r, rfl, w⟩ := w1
  obtain ⟨⟨ht, hi0, hi1⟩, w⟩ := w
  intro H locs arr sv hH hS hL hst hc hs0
  dsimp only at hH hL hst hc hs0 ⊢
  have hq := am_RS_inv hst
  clear hst
  obtain ⟨VI, sv, rfl, hVI, hst⟩ := hq
  have hq := am_RS_inv hst
  clear hst
  obtain ⟨VA, sv, rfl, hVA, hst⟩ := hq
  obtain ⟨x, rfl, rfl⟩ := hVI
  obtain ⟨g1, g2⟩ := hH.2.2 a (by omega)
  cases am_RVr hVA g1.1
  have hK : va_K (eD G) vwCl [(eI G, .int), (eY G, .byte), (eJ G, .long), (eZ G, .boolean), (eQ G, .array .int), (eR G, .array .boolean)] s := hW.1.1
  have key : ∀ (cA : ClassId) (ty : FieldType), ty.isReference = true → ArrOfT s cA ty → am_CQ G cA h a H → W p l e R s mth args below meth cd H locs c s0 Q (F0 mth pc arr (.int x :: .ref (ea G a) :: sv)) := by
    intro cA ty hty hA hc2
    obtain ⟨n, f, b1, b2, b3, b4⟩ := hc2
    rw [b2] at hi1
    obtain ⟨k1, k2, k3⟩ := am_ix hi0 hi1
    refine W.aald (v := va_rf (f x.toNatClampNeg)) (ty := ty) hx hb b1 (hA n _) hty (fun q => by cases q) (by rw [arrV_size]; exact k1) (by rw [arrV_read _ _ k2]) rfl rfl hd ?_
    exact w H locs arr _ hH hS hL ⟨by rw [← k3]; exact b4 _ k2, hst⟩ hc hs0
  rcases ht with ht | ht
  · exact key _ _ rfl (hK.2 4 _ rfl).1 ((am_CO_q ht).mp g2)
  · exact key _ _ rfl (hK.2 5 _ rfl).1 ((am_CO_r ht).mp g2)
theorem am_i_aast (C : am_Cx G l d m p R s mth args meth cd) (hd : decode (am_cd m) pc = .ok (.aastore, 1)) (w : am_stp X (am_Gl G m p l e R s mth args below meth cd Q) d hs K (am_pR st fun v r => am_pI r fun i r => am_pR r fun a r => am_ck ((am_t h a = 24 ∧ am_t h v = 20 ∨ am_t h a = 25 ∧ am_t h v = 23) ∧ 0 ≤ i ∧ i < am_l h a) (pc + 1, ls, r, am_w h a i v, c, s0))) : am_Gl G m p l e R s mth args below meth cd Q (pc, ls, st, h, c, s0) := by
  obtain ⟨hx, hb, hml, hown, hts, hW, hR, hlk, htr, hin⟩ := C
  have w1 := am_pR_inv w
  clear w
  obtain ⟨v, r, rfl, w⟩ := w1
  have w1 := am_pI_inv w
  clear w
  obtain ⟨i, r, rfl, w⟩ := w1
  have w1 := am_pR_inv w
  clear w
  obtain ⟨a, r, rfl, w⟩ := w1
  obtain ⟨⟨ht, hi0, hi1⟩, w⟩ := w
  intro H locs arr sv hH hS hL hst hc hs0
  dsimp only at hH hL hst hc hs0 ⊢
  have hq := am_RS_inv hst
  clear hst
  obtain ⟨VV, sv, rfl, hVV, hst⟩ := hq
  have hq := am_RS_inv hst
  clear hst
  obtain ⟨VI, sv, rfl, hVI, hst⟩ := hq
  have hq := am_RS_inv hst
  clear hst
  obtain ⟨VA, sv, rfl, hVA, hst⟩ := hq
  obtain ⟨x, rfl, rfl⟩ := hVI
  obtain ⟨g1, g2⟩ := hH.2.2 a (by omega)
  obtain ⟨v1, v2⟩ := hH.2.2 v (by omega)
  have hVV0 := hVV
  cases am_RVr hVA g1.1
  cases am_RVr hVV v1.1
  have key : ∀ (cA cE : ClassId) (ty : FieldType) (lo hi : Int) (hwt : am_wt (am_t h a)) (hco : ∀ h1 H1, am_t h1 a = am_t h a → am_CQ G cA h1 a H1 → am_CO G h1 a H1), am_GK cA cE ty s → am_CQ G cA h a H → am_CI G cE lo hi h v H → W p l e R s mth args below meth cd H locs c s0 Q (F0 mth pc arr (.ref (ea G v) :: .int x :: .ref (ea G a) :: sv)) := by
    intro cA cE ty lo hi hwt hco hgk hc2 hv2
    obtain ⟨n, f, b1, b2, b3, b4⟩ := hc2
    obtain ⟨nv, fv, c1, -⟩ := hv2
    obtain ⟨kA, kC, q1, q2, q3⟩ := hgk
    rw [b2] at hi1
    obtain ⟨k1, k2, k3⟩ := am_ix hi0 hi1
    refine W.aast hx hb b1 (fun q z => by cases z) (fun z => by cases z) (show s.vm.classes[cA]? = some kA from q1) q2 rfl q3 ⟨fun z => k1 (Or.inl z), by rw [arrV_size]; exact k2⟩ c1 (fun q z => by cases z) (show s.vm.classes[cE]? = some kC from q3) (va_asg _ _) rfl rfl hd fun H1 e1 z oq => ?_
    refine w H1 _ arr sv ?_ (hS.put z oq (hH.w hwt).2.1) hL hst hc hs0
    refine am_HM_set hH hwt z oq rfl rfl (fun _ => rfl) (fun _ => rfl) (fun _ => rfl) (fun b j hb => by rw [am_m_w, if_neg (fun z => hb z.1)]) ?_
    refine hco _ _ rfl ⟨n, fun j => if j = x.toNatClampNeg then some (ea G v) else f j, ?_, b2, b3, fun j hj => ?_⟩
    · rw [e1, arrV_store]
      congr 2
      funext q
      by_cases hq : q = x.toNatClampNeg
      · simp [updV, hq, va_rf]
      · simp [updV, hq]
    · rw [am_m_w]
      dsimp only
      by_cases hji : j = x.toNatClampNeg
      · rw [if_pos ⟨rfl, by omega⟩, if_pos hji]
        exact hVV0
      · rw [if_neg (fun z => hji (by omega)), if_neg hji]
        exact b4 j hj
  rcases ht with ⟨ht, hv⟩ | ⟨ht, hv⟩
  · exact key _ _ _ _ _ ⟨by omega, by omega, by omega⟩ (fun h1 H1 e1 hc3 => (am_CO_q (e1.trans ht)).mpr hc3) hW.1.2.2.2.2.2.1 ((am_CO_q ht).mp g2) ((am_CO_i hv).mp v2)
  · exact key _ _ _ _ _ ⟨by omega, by omega, by omega⟩ (fun h1 H1 e1 hc3 => (am_CO_r (e1.trans ht)).mpr hc3) hW.1.2.2.2.2.2.2.1 ((am_CO_r ht).mp g2) ((am_CO_z hv).mp v2)
theorem am_i_anew_i (C : am_Cx G l d m p R s mth args meth cd) {idx : Nat} (hw : Cond.classLink (am_mn m).cls idx (FieldType.array .int).toString ∈ am_W) (hd : decode (am_cd m) pc = .ok (.anewarray idx, 3)) (w : am_stp X (am_Gl G m p l e R s mth args below meth cd Q) d hs K (am_pI st fun n r => am_ck (((0 ≤ n ∧ n ≤ 4096) ∧ am_fr h) ∧ c + 1 ≤ (am_cap m).1 ∧ s0 + n.toNat ≤ (am_cap m).2) (pc + 3, ls, (2, am_n h) :: r, am_a h 24 n (fun _ => -1), c + 1, s0 + n.toNat))) : am_Gl G m p l e R s mth args below meth cd Q (pc, ls, st, h, c, s0) := by
  obtain ⟨hx, hb, hml, hown, hts, hW, hR, hlk, htr, hin⟩ := C
  have w1 := am_pI_inv w
  clear w
  obtain ⟨n, r, rfl, w⟩ := w1
  obtain ⟨⟨⟨⟨hn0, hn1⟩, hfr⟩, hc1, hs1⟩, w⟩ := w
  intro H locs arr sv hH hS hL hst hc hs0
  dsimp only at hH hL hst hc hs0 ⊢
  have hq := am_RS_inv hst
  clear hst
  obtain ⟨VN, sv, rfl, hVN, hst⟩ := hq
  obtain ⟨x, rfl, rfl⟩ := hVN
  have hK : va_K (eD G) vwCl [(eI G, .int), (eY G, .byte), (eJ G, .long), (eZ G, .boolean), (eQ G, .array .int), (eR G, .array .boolean)] s := hW.1.1
  obtain ⟨hsz, hn9, -, -⟩ := hH.1.new hfr
  have ex0 : x.toNatClampNeg = x.toInt.toNat := rfl
  have hx0 : ¬ x < 0 := fun z => by
    have := Int32.lt_iff_toInt_lt.mp z
    have e0 : (0 : Int32).toInt = 0 := rfl
    omega
  refine W.anewA (t := .int) hx hb hown (hts _ hw) (show (Cond.arrayOver (.array .int)).before args s = true from over_moved (Vm.Alike.refl _) hW.1.2.2.2.2.2.2.2.1) rfl hd rfl hx0 (by omega) (by omega) (by omega) fun cA kA comp hA hkA hkind hcomp => ?_
  have ecA : cA = eQ G := Option.some.inj (hA.symm.trans (hK.2 4 _ rfl).2)
  subst ecA
  have e9 : ({ cls := eQ G, slots := Array.replicate x.toNatClampNeg .null, vm := .none } : Cell) = arrV (eQ G) x.toNatClampNeg (fun j => va_rf ((fun _ => none : Nat → Option Nat) j)) := arrV_new _ _ _
  rw [e9]
  have hz9 : ∀ y : Cell, (H.push y).size = H.size + 1 := fun y => Array.size_push ..
  have o9 : ∀ (y : Cell) (q : Nat), q < H.size → (H.push y)[q]? = H[q]? := fun y q hq => by rw [Array.getElem?_push, if_neg (Nat.ne_of_lt hq)]
  have n9 : ∀ y : Cell, (H.push y)[H.size]? = some y := fun y => Array.getElem?_push_size
  refine w _ _ arr _ (am_HM_new hH hfr ⟨by omega, by omega, by omega⟩ (hz9 _) (o9 _) ?_) ⟨Nat.le_trans hS.1 (by rw [hz9]; omega), fun q h1 h2 => (o9 _ q (by have := hS.1; omega)).trans (hS.2.1 q h1 h2), hS.2.2⟩ hL ⟨Or.inr ⟨hn9, by rw [hsz]⟩, hst⟩ (by simp only; omega) (by simp only; omega)
  have ht : am_t (am_a h 24 x.toInt (fun _ => -1)) (am_n h) = 24 := if_pos rfl
  refine (am_CO_q ht).mpr ⟨x.toNatClampNeg, fun _ => none, by rw [hsz]; exact n9 _, ?_, by omega, fun j hj => ?_⟩
  · have el : am_l (am_a h 24 x.toInt (fun _ => -1)) (am_n h) = x.toInt := if_pos rfl
    rw [el]
    omega
  · have em : am_m (am_a h 24 x.toInt (fun _ => -1)) (am_n h) (j : Int) = -1 := if_pos rfl
    rw [em]
    exact Or.inl ⟨rfl, rfl⟩
theorem am_i_anew_z (C : am_Cx G l d m p R s mth args meth cd) {idx : Nat} (hw : Cond.classLink (am_mn m).cls idx (FieldType.array .boolean).toString ∈ am_W) (hd : decode (am_cd m) pc = .ok (.anewarray idx, 3)) (w : am_stp X (am_Gl G m p l e R s mth args below meth cd Q) d hs K (am_pI st fun n r => am_ck (((0 ≤ n ∧ n ≤ 4096) ∧ am_fr h) ∧ c + 1 ≤ (am_cap m).1 ∧ s0 + n.toNat ≤ (am_cap m).2) (pc + 3, ls, (2, am_n h) :: r, am_a h 25 n (fun _ => -1), c + 1, s0 + n.toNat))) : am_Gl G m p l e R s mth args below meth cd Q (pc, ls, st, h, c, s0) := by
  obtain ⟨hx, hb, hml, hown, hts, hW, hR, hlk, htr, hin⟩ := C
  have w1 := am_pI_inv w
  clear w
  obtain ⟨n, r, rfl, w⟩ := w1
  obtain ⟨⟨⟨⟨hn0, hn1⟩, hfr⟩, hc1, hs1⟩, w⟩ := w
  intro H locs arr sv hH hS hL hst hc hs0
  dsimp only at hH hL hst hc hs0 ⊢
  have hq := am_RS_inv hst
  clear hst
  obtain ⟨VN, sv, rfl, hVN, hst⟩ := hq
  obtain ⟨x, rfl, rfl⟩ := hVN
  have hK : va_K (eD G) vwCl [(eI G, .int), (eY G, .byte), (eJ G, .long), (eZ G, .boolean), (eQ G, .array .int), (eR G, .array .boolean)] s := hW.1.1
  obtain ⟨hsz, hn9, -, -⟩ := hH.1.new hfr
  have ex0 : x.toNatClampNeg = x.toInt.toNat := rfl
  have hx0 : ¬ x < 0 := fun z => by
    have := Int32.lt_iff_toInt_lt.mp z
    have e0 : (0 : Int32).toInt = 0 := rfl
    omega
  refine W.anewA (t := .boolean) hx hb hown (hts _ hw) (show (Cond.arrayOver (.array .boolean)).before args s = true from over_moved (Vm.Alike.refl _) hW.1.2.2.2.2.2.2.2.2) rfl hd rfl hx0 (by omega) (by omega) (by omega) fun cA kA comp hA hkA hkind hcomp => ?_
  have ecA : cA = eR G := Option.some.inj (hA.symm.trans (hK.2 5 _ rfl).2)
  subst ecA
  have e9 : ({ cls := eR G, slots := Array.replicate x.toNatClampNeg .null, vm := .none } : Cell) = arrV (eR G) x.toNatClampNeg (fun j => va_rf ((fun _ => none : Nat → Option Nat) j)) := arrV_new _ _ _
  rw [e9]
  have hz9 : ∀ y : Cell, (H.push y).size = H.size + 1 := fun y => Array.size_push ..
  have o9 : ∀ (y : Cell) (q : Nat), q < H.size → (H.push y)[q]? = H[q]? := fun y q hq => by rw [Array.getElem?_push, if_neg (Nat.ne_of_lt hq)]
  have n9 : ∀ y : Cell, (H.push y)[H.size]? = some y := fun y => Array.getElem?_push_size
  refine w _ _ arr _ (am_HM_new hH hfr ⟨by omega, by omega, by omega⟩ (hz9 _) (o9 _) ?_) ⟨Nat.le_trans hS.1 (by rw [hz9]; omega), fun q h1 h2 => (o9 _ q (by have := hS.1; omega)).trans (hS.2.1 q h1 h2), hS.2.2⟩ hL ⟨Or.inr ⟨hn9, by rw [hsz]⟩, hst⟩ (by simp only; omega) (by simp only; omega)
  have ht : am_t (am_a h 25 x.toInt (fun _ => -1)) (am_n h) = 25 := if_pos rfl
  refine (am_CO_r ht).mpr ⟨x.toNatClampNeg, fun _ => none, by rw [hsz]; exact n9 _, ?_, by omega, fun j hj => ?_⟩
  · have el : am_l (am_a h 25 x.toInt (fun _ => -1)) (am_n h) = x.toInt := if_pos rfl
    rw [el]
    omega
  · have em : am_m (am_a h 25 x.toInt (fun _ => -1)) (am_n h) (j : Int) = -1 := if_pos rfl
    rw [em]
    exact Or.inl ⟨rfl, rfl⟩
theorem am_i_mna_i (C : am_Cx G l d m p R s mth args meth cd) {idx : Nat} (hw : Cond.classLink (am_mn m).cls idx ("[" ++ (FieldType.array .int).toString) ∈ am_W) (hw2 : Cond.arrayClass .int ∈ am_W) (hd : decode (am_cd m) pc = .ok (.multianewarray idx 2, 4)) (w : am_stp X (am_Gl G m p l e R s mth args below meth cd Q) d hs K (am_pI st fun k r => am_pI r fun n r => am_ck (((0 ≤ n ∧ n ≤ 64 ∧ 0 ≤ k ∧ k ≤ 64) ∧ am_fr h) ∧ c + (1 + n.toNat) ≤ (am_cap m).1 ∧ s0 + (n.toNat + n.toNat * k.toNat) ≤ (am_cap m).2) (pc + 4, ls, (2, am_n h) :: r, am_mk2 h 24 20 n k, c + (1 + n.toNat), s0 + (n.toNat + n.toNat * k.toNat)))) : am_Gl G m p l e R s mth args below meth cd Q (pc, ls, st, h, c, s0) := by
  obtain ⟨hx, hb, hml, hown, hts, hW, hR, hlk, htr, hin⟩ := C
  have w1 := am_pI_inv w
  clear w
  obtain ⟨k, r, rfl, w⟩ := w1
  have w1 := am_pI_inv w
  clear w
  obtain ⟨n, r, rfl, w⟩ := w1
  obtain ⟨⟨⟨⟨hn0, hn1, hk0, hk1⟩, hfr⟩, hc1, hs1⟩, w⟩ := w
  intro H locs arr sv hH hS hL hst hc hs0
  dsimp only at hH hL hst hc hs0 ⊢
  have hq := am_RS_inv hst
  clear hst
  obtain ⟨VK, sv, rfl, hVK, hst⟩ := hq
  have hq := am_RS_inv hst
  clear hst
  obtain ⟨VN, sv, rfl, hVN, hst⟩ := hq
  obtain ⟨y, rfl, rfl⟩ := hVK
  obtain ⟨x, rfl, rfl⟩ := hVN
  have hK : va_K (eD G) vwCl [(eI G, .int), (eY G, .byte), (eJ G, .long), (eZ G, .boolean), (eQ G, .array .int), (eR G, .array .boolean)] s := hW.1.1
  obtain ⟨hsz, hn9, hes, -⟩ := hH.1.new hfr
  have ex0 : x.toNatClampNeg = x.toInt.toNat := rfl
  have ey0 : y.toNatClampNeg = y.toInt.toNat := rfl
  have e0 : (0 : Int32).toInt = 0 := rfl
  have hx0 : ¬ x < 0 := fun z => by have := Int32.lt_iff_toInt_lt.mp z; omega
  have hy0 : ¬ y < 0 := fun z => by have := Int32.lt_iff_toInt_lt.mp z; omega
  intro T hT Xs
  have hnew := hH.1.new hfr
  obtain ⟨vm₁, cA, comp, -, fA, fC, -, -, X', step⟩ := Xs.multianewarray2F (ty := .int) hx hown (hts _ hw) (show (Cond.arrayOver (.array .int)).before args s = true from over_moved (Vm.Alike.refl _) hW.1.2.2.2.2.2.2.2.1) (hts _ hw2) (g := F0 mth pc arr (.int y :: .int x :: sv)) rfl (by rw [hb]; exact hd) rfl hx0 hy0 (by omega) (by show _ * 4 ≤ _; omega) (by omega) rfl rfl (by omega) (by rw [ex0, ey0]; have := hR.2.2.2; omega)
  have ecA : cA = eQ G := Option.some.inj (fA.symm.trans (hK.2 4 _ rfl).2)
  have ecC : comp = eI G := Option.some.inj (fC.symm.trans (hK.2 0 _ rfl).2)
  subst ecA
  subst ecC
  have hTh : (T.setVm vm₁).heap = H := hT
  obtain ⟨f1, f2, -, -⟩ := Jvm.Free.Multi.fill_facts (T.setVm vm₁) (eQ G) (eI G) x.toNatClampNeg y.toNatClampNeg (defaultValue .int) x.toNatClampNeg
  have f3 := fun a (ha : a < (T.setVm vm₁).heap.size) => Jvm.Free.Multi.fill_old (T.setVm vm₁) (eQ G) (eI G) x.toNatClampNeg y.toNatClampNeg (defaultValue .int) ha x.toNatClampNeg
  have f4 := fun j (hj : j < x.toNatClampNeg) => Jvm.Free.Multi.fill_inner (T.setVm vm₁) (eQ G) (eI G) x.toNatClampNeg y.toNatClampNeg (defaultValue .int) x.toNatClampNeg j hj
  generalize Jvm.Free.Multi.fill (T.setVm vm₁) (eQ G) (eI G) x.toNatClampNeg y.toNatClampNeg (defaultValue .int) x.toNatClampNeg = F at X' step f1 f2 f3 f4
  rw [hTh] at f1 f2 f3 f4
  have hf2 := hfr
  unfold am_fr at hf2
  have g1' := hH.1
  unfold am_ph at g1'
  have hea : ∀ j : Int, 0 ≤ j → j ≤ x.toInt → ea G (am_n h + j) = H.size + j.toNat := by
    intro j h0 h1
    have e := am_ea_hi (G := G) (a := am_n h + j) (by omega)
    rcases g1' with ⟨q1, q2, q3⟩ | ⟨q1, q2, q3, q4⟩
    · rw [if_neg (fun z => z.2 q1)] at e
      omega
    · rw [if_pos ⟨by omega, q1⟩] at e
      omega
  have ht : am_t (am_mk2 h 24 20 x.toInt y.toInt) (am_n h) = 24 := if_pos rfl
  have hHM : am_HM G (am_mk2 h 24 20 x.toInt y.toInt) F.heap := by
    refine am_HM_mk2 hH hfr ⟨hn0, hn1⟩ ⟨by omega, by omega, by omega⟩ ⟨by omega, by omega, by omega⟩ (by omega) f3 ?_ (fun j hj => ?_)
    · refine (am_CO_q ht).mpr ⟨x.toNatClampNeg, fun i => if i < x.toNatClampNeg then some (H.size + 1 + i) else none, ?_, ?_, by omega, fun j hj => ?_⟩
      · rw [hsz, f2]
        exact congrArg some (am_outer _ _ _ _)
      · have el : am_l (am_mk2 h 24 20 x.toInt y.toInt) (am_n h) = x.toInt := if_pos rfl
        rw [el]
        omega
      · have em : am_m (am_mk2 h 24 20 x.toInt y.toInt) (am_n h) (j : Int) = am_n h + 1 + (j : Int) := if_pos rfl
        rw [em]
        show am_RV G _ (va_rf (if j < x.toNatClampNeg then _ else _))
        rw [if_pos hj]
        refine Or.inr ⟨by simp only; omega, ?_⟩
        have e5 := hea (1 + (j : Int)) (by omega) (by omega)
        rw [show am_n h + (1 + (j : Int)) = am_n h + 1 + (j : Int) by omega] at e5
        refine congrArg Value.ref ?_
        show H.size + 1 + j = ea G (am_n h + 1 + (j : Int))
        omega
    · have hne : ¬ am_n h + 1 + (j : Int) = am_n h := by omega
      have hin2 : am_n h < am_n h + 1 + (j : Int) ∧ am_n h + 1 + (j : Int) ≤ am_n h + x.toInt := by omega
      have et : am_t (am_mk2 h 24 20 x.toInt y.toInt) (am_n h + 1 + (j : Int)) = 20 := (if_neg hne).trans (if_pos hin2)
      refine (am_CO_i et).mpr ⟨y.toNatClampNeg, fun _ => 0, ?_, ?_, by omega, fun i hi => ⟨?_, by show _ ≤ (0 : Int32).toInt; decide, by show (0 : Int32).toInt ≤ _; decide⟩⟩
      · have e5 := hea (1 + (j : Int)) (by omega) (by omega)
        rw [show am_n h + (1 + (j : Int)) = am_n h + 1 + (j : Int) by omega] at e5
        rw [e5, show H.size + (1 + (j : Int)).toNat = H.size + 1 + j by omega, f4 j (by omega)]
        exact congrArg some (arrV_new _ _ _)
      · have el : am_l (am_mk2 h 24 20 x.toInt y.toInt) (am_n h + 1 + (j : Int)) = y.toInt := (if_neg hne).trans (if_pos hin2)
        rw [el]
        omega
      · exact (if_neg hne).trans (if_pos hin2)
  obtain ⟨t, a1, b1⟩ := w F.heap locs arr (.ref H.size :: sv) hHM ⟨by have := hS.1; omega, fun q h1 h2 => (f3 q (by have := hS.1; omega)).trans (hS.2.1 q h1 h2), hS.2.2⟩ hL ⟨Or.inr ⟨hn9, by rw [hsz]⟩, hst⟩ (by simp only; omega) (by simp only; omega) F rfl (by rw [show c + (1 + x.toInt.toNat) = c + 1 + x.toNatClampNeg by omega, show s0 + (x.toInt.toNat + x.toInt.toNat * y.toInt.toNat) = s0 + x.toNatClampNeg + x.toNatClampNeg * y.toNatClampNeg by rw [ex0, ey0]; omega]; exact X')
  refine ⟨t, step t ?_, b1⟩
  have e : T.heap.size = H.size := by rw [hT]
  rw [e]
  exact a1
theorem am_i_mna_z (C : am_Cx G l d m p R s mth args meth cd) {idx : Nat} (hw : Cond.classLink (am_mn m).cls idx ("[" ++ (FieldType.array .boolean).toString) ∈ am_W) (hw2 : Cond.arrayClass .boolean ∈ am_W) (hd : decode (am_cd m) pc = .ok (.multianewarray idx 2, 4)) (w : am_stp X (am_Gl G m p l e R s mth args below meth cd Q) d hs K (am_pI st fun k r => am_pI r fun n r => am_ck (((0 ≤ n ∧ n ≤ 64 ∧ 0 ≤ k ∧ k ≤ 64) ∧ am_fr h) ∧ c + (1 + n.toNat) ≤ (am_cap m).1 ∧ s0 + (n.toNat + n.toNat * k.toNat) ≤ (am_cap m).2) (pc + 4, ls, (2, am_n h) :: r, am_mk2 h 25 23 n k, c + (1 + n.toNat), s0 + (n.toNat + n.toNat * k.toNat)))) : am_Gl G m p l e R s mth args below meth cd Q (pc, ls, st, h, c, s0) := by
  obtain ⟨hx, hb, hml, hown, hts, hW, hR, hlk, htr, hin⟩ := C
  have w1 := am_pI_inv w
  clear w
  obtain ⟨k, r, rfl, w⟩ := w1
  have w1 := am_pI_inv w
  clear w
  obtain ⟨n, r, rfl, w⟩ := w1
  obtain ⟨⟨⟨⟨hn0, hn1, hk0, hk1⟩, hfr⟩, hc1, hs1⟩, w⟩ := w
  intro H locs arr sv hH hS hL hst hc hs0
  dsimp only at hH hL hst hc hs0 ⊢
  have hq := am_RS_inv hst
  clear hst
  obtain ⟨VK, sv, rfl, hVK, hst⟩ := hq
  have hq := am_RS_inv hst
  clear hst
  obtain ⟨VN, sv, rfl, hVN, hst⟩ := hq
  obtain ⟨y, rfl, rfl⟩ := hVK
  obtain ⟨x, rfl, rfl⟩ := hVN
  have hK : va_K (eD G) vwCl [(eI G, .int), (eY G, .byte), (eJ G, .long), (eZ G, .boolean), (eQ G, .array .int), (eR G, .array .boolean)] s := hW.1.1
  obtain ⟨hsz, hn9, hes, -⟩ := hH.1.new hfr
  have ex0 : x.toNatClampNeg = x.toInt.toNat := rfl
  have ey0 : y.toNatClampNeg = y.toInt.toNat := rfl
  have e0 : (0 : Int32).toInt = 0 := rfl
  have hx0 : ¬ x < 0 := fun z => by have := Int32.lt_iff_toInt_lt.mp z; omega
  have hy0 : ¬ y < 0 := fun z => by have := Int32.lt_iff_toInt_lt.mp z; omega
  intro T hT Xs
  have hnew := hH.1.new hfr
  obtain ⟨vm₁, cA, comp, -, fA, fC, -, -, X', step⟩ := Xs.multianewarray2F (ty := .boolean) hx hown (hts _ hw) (show (Cond.arrayOver (.array .boolean)).before args s = true from over_moved (Vm.Alike.refl _) hW.1.2.2.2.2.2.2.2.2) (hts _ hw2) (g := F0 mth pc arr (.int y :: .int x :: sv)) rfl (by rw [hb]; exact hd) rfl hx0 hy0 (by omega) (by show _ * 1 ≤ _; omega) (by omega) rfl rfl (by omega) (by rw [ex0, ey0]; have := hR.2.2.2; omega)
  have ecA : cA = eR G := Option.some.inj (fA.symm.trans (hK.2 5 _ rfl).2)
  have ecC : comp = eZ G := Option.some.inj (fC.symm.trans (hK.2 3 _ rfl).2)
  subst ecA
  subst ecC
  have hTh : (T.setVm vm₁).heap = H := hT
  obtain ⟨f1, f2, -, -⟩ := Jvm.Free.Multi.fill_facts (T.setVm vm₁) (eR G) (eZ G) x.toNatClampNeg y.toNatClampNeg (defaultValue .boolean) x.toNatClampNeg
  have f3 := fun a (ha : a < (T.setVm vm₁).heap.size) => Jvm.Free.Multi.fill_old (T.setVm vm₁) (eR G) (eZ G) x.toNatClampNeg y.toNatClampNeg (defaultValue .boolean) ha x.toNatClampNeg
  have f4 := fun j (hj : j < x.toNatClampNeg) => Jvm.Free.Multi.fill_inner (T.setVm vm₁) (eR G) (eZ G) x.toNatClampNeg y.toNatClampNeg (defaultValue .boolean) x.toNatClampNeg j hj
  generalize Jvm.Free.Multi.fill (T.setVm vm₁) (eR G) (eZ G) x.toNatClampNeg y.toNatClampNeg (defaultValue .boolean) x.toNatClampNeg = F at X' step f1 f2 f3 f4
  rw [hTh] at f1 f2 f3 f4
  have hf2 := hfr
  unfold am_fr at hf2
  have g1' := hH.1
  unfold am_ph at g1'
  have hea : ∀ j : Int, 0 ≤ j → j ≤ x.toInt → ea G (am_n h + j) = H.size + j.toNat := by
    intro j h0 h1
    have e := am_ea_hi (G := G) (a := am_n h + j) (by omega)
    rcases g1' with ⟨q1, q2, q3⟩ | ⟨q1, q2, q3, q4⟩
    · rw [if_neg (fun z => z.2 q1)] at e
      omega
    · rw [if_pos ⟨by omega, q1⟩] at e
      omega
  have ht : am_t (am_mk2 h 25 23 x.toInt y.toInt) (am_n h) = 25 := if_pos rfl
  have hHM : am_HM G (am_mk2 h 25 23 x.toInt y.toInt) F.heap := by
    refine am_HM_mk2 hH hfr ⟨hn0, hn1⟩ ⟨by omega, by omega, by omega⟩ ⟨by omega, by omega, by omega⟩ (by omega) f3 ?_ (fun j hj => ?_)
    · refine (am_CO_r ht).mpr ⟨x.toNatClampNeg, fun i => if i < x.toNatClampNeg then some (H.size + 1 + i) else none, ?_, ?_, by omega, fun j hj => ?_⟩
      · rw [hsz, f2]
        exact congrArg some (am_outer _ _ _ _)
      · have el : am_l (am_mk2 h 25 23 x.toInt y.toInt) (am_n h) = x.toInt := if_pos rfl
        rw [el]
        omega
      · have em : am_m (am_mk2 h 25 23 x.toInt y.toInt) (am_n h) (j : Int) = am_n h + 1 + (j : Int) := if_pos rfl
        rw [em]
        show am_RV G _ (va_rf (if j < x.toNatClampNeg then _ else _))
        rw [if_pos hj]
        refine Or.inr ⟨by simp only; omega, ?_⟩
        have e5 := hea (1 + (j : Int)) (by omega) (by omega)
        rw [show am_n h + (1 + (j : Int)) = am_n h + 1 + (j : Int) by omega] at e5
        refine congrArg Value.ref ?_
        show H.size + 1 + j = ea G (am_n h + 1 + (j : Int))
        omega
    · have hne : ¬ am_n h + 1 + (j : Int) = am_n h := by omega
      have hin2 : am_n h < am_n h + 1 + (j : Int) ∧ am_n h + 1 + (j : Int) ≤ am_n h + x.toInt := by omega
      have et : am_t (am_mk2 h 25 23 x.toInt y.toInt) (am_n h + 1 + (j : Int)) = 23 := (if_neg hne).trans (if_pos hin2)
      refine (am_CO_z et).mpr ⟨y.toNatClampNeg, fun _ => 0, ?_, ?_, by omega, fun i hi => ⟨?_, by show _ ≤ (0 : Int32).toInt; decide, by show (0 : Int32).toInt ≤ _; decide⟩⟩
      · have e5 := hea (1 + (j : Int)) (by omega) (by omega)
        rw [show am_n h + (1 + (j : Int)) = am_n h + 1 + (j : Int) by omega] at e5
        rw [e5, show H.size + (1 + (j : Int)).toNat = H.size + 1 + j by omega, f4 j (by omega)]
        exact congrArg some (arrV_new _ _ _)
      · have el : am_l (am_mk2 h 25 23 x.toInt y.toInt) (am_n h + 1 + (j : Int)) = y.toInt := (if_neg hne).trans (if_pos hin2)
        rw [el]
        omega
      · exact (if_neg hne).trans (if_pos hin2)
  obtain ⟨t, a1, b1⟩ := w F.heap locs arr (.ref H.size :: sv) hHM ⟨by have := hS.1; omega, fun q h1 h2 => (f3 q (by have := hS.1; omega)).trans (hS.2.1 q h1 h2), hS.2.2⟩ hL ⟨Or.inr ⟨hn9, by rw [hsz]⟩, hst⟩ (by simp only; omega) (by simp only; omega) F rfl (by rw [show c + (1 + x.toInt.toNat) = c + 1 + x.toNatClampNeg by omega, show s0 + (x.toInt.toNat + x.toInt.toNat * y.toInt.toNat) = s0 + x.toNatClampNeg + x.toNatClampNeg * y.toNatClampNeg by rw [ex0, ey0]; omega]; exact X')
  refine ⟨t, step t ?_, b1⟩
  have e : T.heap.size = H.size := by rw [hT]
  rw [e]
  exact a1
def am_ad : Nat → String
  | 20 => "[I"
  | 21 => "[B"
  | _ => "[Z"
theorem am_i_clone (C : am_Cx G l d m p R s mth args meth cd) {idx t : Nat} (ht0 : t = 20 ∨ t = 21 ∨ t = 23) (w1 : Cond.methodLink (am_mn m).cls idx ⟨am_ad t, "clone", "()Ljava/lang/Object;"⟩ ∈ am_W) (w2 : Cond.sameMethod (am_ad t) "java/lang/Object" "clone" "()Ljava/lang/Object;" ∈ am_W) (w3 : Cond.native ⟨"java/lang/Object", "clone", "()Ljava/lang/Object;"⟩ ∈ am_W) (w4 : Cond.instanceMethod ⟨"java/lang/Object", "clone", "()Ljava/lang/Object;"⟩ ∈ am_W) (w5 : Cond.selects (am_ad t) ⟨am_ad t, "clone", "()Ljava/lang/Object;"⟩ ⟨"java/lang/Object", "clone", "()Ljava/lang/Object;"⟩ ∈ am_W) (w6 : Cond.castable (am_ad t) "java/lang/Cloneable" ∈ lw_tbl) (hd : decode (am_cd m) pc = .ok (.invokevirtual idx, 3)) (w : am_stp X (am_Gl G m p l e R s mth args below meth cd Q) d hs K (am_pR st fun a r => am_few r (am_ck ((am_t h a = t ∧ am_fr h) ∧ c + 1 ≤ (am_cap m).1 ∧ s0 + (am_l h a).toNat ≤ (am_cap m).2) (pc + 3, ls, (2, am_n h) :: r, am_a h t (am_l h a) (am_m h a), c + 1, s0 + (am_l h a).toNat)))) : am_Gl G m p l e R s mth args below meth cd Q (pc, ls, st, h, c, s0) := by
  obtain ⟨hx, hb, hml, hown, hts, hW, hR, hlk, htr, hin⟩ := C
  have w1 := am_pR_inv w
  clear w
  obtain ⟨a, r, rfl, w⟩ := w1
  obtain ⟨hfew, ⟨⟨ht, hfr⟩, hc1, hs1⟩, w⟩ := am_few_inv w
  intro H locs arr sv hH hS hL hst hc hs0
  dsimp only at hH hL hst hc hs0 ⊢
  have hq := am_RS_inv hst
  clear hst
  obtain ⟨VA, sv, rfl, hVA, hst⟩ := hq
  obtain ⟨g1, g2⟩ := hH.2.2 a (by omega)
  cases am_RVr hVA g1.1
  have hK : va_K (eD G) vwCl [(eI G, .int), (eY G, .byte), (eJ G, .long), (eZ G, .boolean), (eQ G, .array .int), (eR G, .array .boolean)] s := hW.1.1
  obtain ⟨hsz, hn9, hes, -⟩ := hH.1.new hfr
  have hcat := am_RS_cat hst
  have hfr1 := hR.1
  have hlo1 := hR.2.1
  have key : ∀ (cA : ClassId) (lo hi : Int) (ty : FieldType), ArrOfT s cA ty → s.vm.findClass (am_ad t) = some cA → (∀ x : Int32, lo ≤ x.toInt → x.toInt ≤ hi → fits ty (.int x) = true) → (∀ h1 H1, am_t h1 (am_n h) = t → am_CI G cA lo hi h1 (am_n h) H1 → am_CO G h1 (am_n h) H1) → am_CI G cA lo hi h a H → W p l e R s mth args below meth cd H locs c s0 Q (F0 mth pc arr (.ref (ea G a) :: sv)) := by
    intro cA lo hi ty hA hnm hfit hco hc2
    obtain ⟨n, f, b1, b2, b3, b4⟩ := hc2
    have hsl : (am_l h a).toNat = n := by omega
    obtain ⟨c0, t0', f1, f2, f3⟩ := Cond.castable_spec (va_Nw.use (A := args) rfl (hW.1.2.1 _ w6 rfl))
    cases hnm.symm.trans f1
    intro T hT X0
    have hcellT : T.heap[ea G a]? = some (arrV cA n (fun j => .int (f j))) := by rw [hT]; exact b1
    obtain ⟨-, kA, hkA, comp, hkind⟩ := State.isArrayOf_alike X0.warmed.alike (hA 0 (fun _ => .null))
    obtain ⟨-, kS, hkS, compS, hkindS⟩ := hA 0 (fun _ => .null)
    have hsz9 : (arrV cA n (fun j => Value.int (f j))).slots.size = n := arrV_size _ _ _
    obtain ⟨vm', X', stp⟩ := X0.cloneArray hx hown (hts _ w1) (hts _ w2) (hts _ w3) (hts _ w4) (hts _ w5) (a := ea G a) (cell := arrV cA n (fun j => .int (f j))) hcellT (fun k h => by cases h) (fun h => by cases h) hnm f2 f3
      (fun i v hv => by
        have hk' : T.vm.classes[(arrV cA n (fun j => Value.int (f j))).cls]? = some kA := hkA
        have hfv : fits ty v = true := va_fit (cA := cA) (n := n) (F := fun j => .int (f j)) (fun i hi => hfit _ (b4 i hi).2.1 (b4 i hi).2.2) i v hv
        simpa [State.fitsSlot, State.slotType?, hk', hkind] using hfv)
      (g := F0 mth pc arr (.ref (ea G a) :: sv)) rfl (hL.1.trans hml.symm) rfl (by rw [hb]; exact hd) (by omega) (by show 2 * 0 + _ + 14 ≤ _; rw [hcat]; omega) (by omega) (by rw [hsz9]; omega) (hloader := Vm.clonesLoader_of_array hkS hkindS)
    have hcE : ({ cls := (arrV cA n (fun j => Value.int (f j))).cls, slots := (arrV cA n (fun j => Value.int (f j))).slots } : Cell) = arrV cA n (fun j => .int (f j)) := rfl
    rw [hcE, hsz9] at X'
    have hz9 : (H.push (arrV cA n (fun j => Value.int (f j)))).size = H.size + 1 := Array.size_push ..
    have o9 : ∀ q : Nat, q < H.size → (H.push (arrV cA n (fun j => Value.int (f j))))[q]? = H[q]? := fun q hq => by rw [Array.getElem?_push, if_neg (Nat.ne_of_lt hq)]
    have n9 : (H.push (arrV cA n (fun j => Value.int (f j))))[H.size]? = some (arrV cA n (fun j => Value.int (f j))) := Array.getElem?_push_size
    have hHM : am_HM G (am_a h t (am_l h a) (am_m h a)) (H.push (arrV cA n (fun j => Value.int (f j)))) := by
      refine am_HM_new hH hfr ⟨by omega, by omega, by omega⟩ hz9 o9 (hco _ _ (if_pos rfl) ⟨n, f, by rw [hsz]; exact n9, ?_, b3, fun j hj => ?_⟩)
      · have el : am_l (am_a h t (am_l h a) (am_m h a)) (am_n h) = am_l h a := if_pos rfl
        rw [el]
        exact b2
      · have em : am_m (am_a h t (am_l h a) (am_m h a)) (am_n h) (j : Int) = am_m h a (j : Int) := if_pos rfl
        rw [em]
        exact b4 j hj
    obtain ⟨t9, a9, c9⟩ := w _ locs arr (.ref H.size :: sv) hHM ⟨by rw [hz9]; have := hS.1; omega, fun q h1 h2 => (o9 q (by have := hS.1; omega)).trans (hS.2.1 q h1 h2), hS.2.2⟩ hL ⟨Or.inr ⟨hn9, by rw [hsz]⟩, hst⟩ (by simp only; omega) (by simp only; omega) ((T.setVm vm').pushCell (arrV cA n (fun j => .int (f j)))) (by rw [← hT]; rfl) (by rw [show s0 + (am_l h a).toNat = s0 + n by omega]; exact X')
    refine ⟨t9, stp t9 ?_, c9⟩
    rw [hcE, hT]
    exact a9
  rcases ht0 with e | e | e <;> subst e
  · exact key _ _ _ .int (hK.2 0 _ rfl).1 (hK.2 0 _ rfl).2 (fun x _ _ => rfl) (fun h1 H1 e1 hc3 => (am_CO_i e1).mpr hc3) ((am_CO_i ht).mp g2)
  · refine key _ _ _ .byte (hK.2 1 _ rfl).1 (va_nm_byte (hK.2 1 _ rfl).2) (fun x h1 h2 => ?_) (fun h1 H1 e1 hc3 => (am_CO_y e1).mpr hc3) ((am_CO_y ht).mp g2)
    have := fb_byte0 (x := x) h1 (by omega)
    rw [← this]
    exact pk_fb x
  · refine key _ _ _ .boolean (hK.2 3 _ rfl).1 (va_nm_boolean (hK.2 3 _ rfl).2) (fun x h1 h2 => ?_) (fun h1 H1 e1 hc3 => (am_CO_z e1).mpr hc3) ((am_CO_z ht).mp g2)
    rcases (show x.toInt = 0 ∨ x.toInt = 1 by omega) with z | z
    · have ex : x = 0 := Int32.toInt_inj.mp z
      subst ex
      rfl
    · have ex : x = 1 := Int32.toInt_inj.mp z
      subst ex
      rfl
theorem am_i_cast (C : am_Cx G l d m p R s mth args meth cd) {idx t : Nat} (ht0 : t = 20 ∨ t = 21 ∨ t = 23) (hw : Cond.classLink (am_mn m).cls idx (am_ad t) ∈ am_W) (hd : decode (am_cd m) pc = .ok (.checkcast idx, 3)) (w : am_stp X (am_Gl G m p l e R s mth args below meth cd Q) d hs K (am_pR st fun a r => am_ck (am_t h a = t) (pc + 3, ls, (2, a) :: r, h, c, s0))) : am_Gl G m p l e R s mth args below meth cd Q (pc, ls, st, h, c, s0) := by
  obtain ⟨hx, hb, hml, hown, hts, hW, hR, hlk, htr, hin⟩ := C
  have w1 := am_pR_inv w
  clear w
  obtain ⟨a, r, rfl, w⟩ := w1
  obtain ⟨ht, w⟩ := w
  intro H locs arr sv hH hS hL hst hc hs0
  dsimp only at hH hL hst hc hs0 ⊢
  have hq := am_RS_inv hst
  clear hst
  obtain ⟨VA, sv, rfl, hVA, hst⟩ := hq
  obtain ⟨g1, g2⟩ := hH.2.2 a (by omega)
  have hVA0 := hVA
  cases am_RVr hVA g1.1
  have hK : va_K (eD G) vwCl [(eI G, .int), (eY G, .byte), (eJ G, .long), (eZ G, .boolean), (eQ G, .array .int), (eR G, .array .boolean)] s := hW.1.1
  have key : ∀ (cA : ClassId) (lo hi : Int), s.vm.findClass (am_ad t) = some cA → am_CI G cA lo hi h a H → W p l e R s mth args below meth cd H locs c s0 Q (F0 mth pc arr (.ref (ea G a) :: sv)) := by
    intro cA lo hi hnm hc2
    obtain ⟨n, f, b1, b2, b3, b4⟩ := hc2
    intro T hT X0
    obtain ⟨vm', X', stp⟩ := X0.checkcastYes hx hown (hts _ hw) (by rw [hT]; exact b1) rfl hnm (va_asg _ _) (g := F0 mth pc arr (.ref (ea G a) :: sv)) rfl rfl (by rw [hb]; exact hd)
    obtain ⟨t9, a9, c9⟩ := w H locs arr (.ref (ea G a) :: sv) hH hS hL ⟨hVA0, hst⟩ hc hs0 (T.setVm vm') hT X'
    exact ⟨t9, stp t9 a9, c9⟩
  rcases ht0 with e | e | e <;> subst e
  · exact key _ _ _ (hK.2 0 _ rfl).2 ((am_CO_i ht).mp g2)
  · exact key _ _ _ (va_nm_byte (hK.2 1 _ rfl).2) ((am_CO_y ht).mp g2)
  · exact key _ _ _ (va_nm_boolean (hK.2 3 _ rfl).2) ((am_CO_z ht).mp g2)
theorem am_i_d2l (C : am_Cx G l d m p R s mth args meth cd) {idx : Nat} (w1 : Cond.methodLink (am_mn m).cls idx ⟨"java/lang/Double", "doubleToRawLongBits", "(D)J"⟩ ∈ am_W) (w2 : Cond.static ⟨"java/lang/Double", "doubleToRawLongBits", "(D)J"⟩ ∈ am_W) (w3 : Cond.initialized "java/lang/Double" ∈ am_W) (w4 : Cond.native ⟨"java/lang/Double", "doubleToRawLongBits", "(D)J"⟩ ∈ am_W) (hd : decode (am_cd m) pc = .ok (.invokestatic idx, 3)) (w : am_stp X (am_Gl G m p l e R s mth args below meth cd Q) d hs K (am_pD st fun a r => am_few r (am_go (pc + 3, ls, (1, am_d2l a) :: r, h, c, s0)))) : am_Gl G m p l e R s mth args below meth cd Q (pc, ls, st, h, c, s0) := by
  obtain ⟨hx, hb, hml, hown, hts, hW, hR, hlk, htr, hin⟩ := C
  have w1 := am_pD_inv w
  clear w
  obtain ⟨a, r, rfl, w⟩ := w1
  obtain ⟨hfew, w⟩ := am_few_inv w
  intro H locs arr sv hH hS hL hst hc hs0
  dsimp only at hH hL hst hc hs0 ⊢
  have hq := am_RS_inv hst
  clear hst
  obtain ⟨VA, sv, rfl, hVA, hst⟩ := hq
  obtain ⟨x, rfl, rfl⟩ := hVA
  have hcat := am_RS_cat hst
  have hfr1 := hR.1
  have hlo1 := hR.2.1
  refine vn_d2l hx hb (hml.trans hL.1.symm) hown (hts _ w1) (hts _ w4) (hts _ w2) (hts _ w3) (by omega) (by rw [hcat]; omega) hd ?_
  refine w H locs arr _ hH hS hL ⟨⟨_, rfl, ?_⟩, hst⟩ hc hs0
  show am_d2l (x.toNat : Int) = _
  unfold am_d2l
  rw [am_bits]
theorem am_i_l2d (C : am_Cx G l d m p R s mth args meth cd) {idx : Nat} (w1 : Cond.methodLink (am_mn m).cls idx ⟨"java/lang/Double", "longBitsToDouble", "(J)D"⟩ ∈ am_W) (w2 : Cond.static ⟨"java/lang/Double", "longBitsToDouble", "(J)D"⟩ ∈ am_W) (w3 : Cond.initialized "java/lang/Double" ∈ am_W) (w4 : Cond.native ⟨"java/lang/Double", "longBitsToDouble", "(J)D"⟩ ∈ am_W) (hd : decode (am_cd m) pc = .ok (.invokestatic idx, 3)) (w : am_stp X (am_Gl G m p l e R s mth args below meth cd Q) d hs K (am_pL st fun a r => am_few r (am_ck (vn_snl2d (Int64.ofInt a) = false) (pc + 3, ls, (3, am_l2d a) :: r, h, c, s0)))) : am_Gl G m p l e R s mth args below meth cd Q (pc, ls, st, h, c, s0) := by
  obtain ⟨hx, hb, hml, hown, hts, hW, hR, hlk, htr, hin⟩ := C
  have w1 := am_pL_inv w
  clear w
  obtain ⟨a, r, rfl, w⟩ := w1
  obtain ⟨hfew, hv, w⟩ := am_few_inv w
  intro H locs arr sv hH hS hL hst hc hs0
  dsimp only at hH hL hst hc hs0 ⊢
  have hq := am_RS_inv hst
  clear hst
  obtain ⟨VA, sv, rfl, hVA, hst⟩ := hq
  obtain ⟨x, rfl, rfl⟩ := hVA
  have hcat := am_RS_cat hst
  have hfr1 := hR.1
  have hlo1 := hR.2.1
  have e1 : Int64.ofInt x.toInt = x := Int64.ofInt_toInt x
  rw [e1] at hv
  refine vn_l2d hx hb (hml.trans hL.1.symm) hown (hts _ w1) (hts _ w4) (hts _ w2) (hts _ w3) hv (by omega) (by rw [hcat]; omega) hd ?_
  refine w H locs arr _ hH hS hL ⟨⟨_, rfl, ?_⟩, hst⟩ hc hs0
  show am_l2d x.toInt = _
  unfold am_l2d
  rw [e1]
theorem am_i_ldcd (C : am_Cx G l d m p R s mth args meth cd) {idx : Nat} {v : Int} (hv : 0 ≤ v ∧ v < 18446744073709551616) (hw : Cond.constantDouble (am_mn m).cls idx (UInt64.ofNat v.toNat) ∈ am_W) (hd : decode (am_cd m) pc = .ok (.ldc2_w idx, 3)) (w : am_stp X (am_Gl G m p l e R s mth args below meth cd Q) d hs K (am_go (pc + 3, ls, (3, v) :: st, h, c, s0))) : am_Gl G m p l e R s mth args below meth cd Q (pc, ls, st, h, c, s0) := by
  obtain ⟨hx, hb, hml, hown, hts, hW, hR, hlk, htr, hin⟩ := C
  intro H locs arr sv hH hS hL hst hc hs0
  dsimp only at hH hL hst hc hs0 ⊢
  refine lv_ldc2d hx hb hown (hts _ hw) hd ?_
  refine w H locs arr _ hH hS hL ⟨⟨_, rfl, ?_⟩, hst⟩ hc hs0
  simp only
  have : (UInt64.ofNat v.toNat).toNat = v.toNat := UInt64.toNat_ofNat_of_lt' (by show _ < 18446744073709551616; omega)
  omega
theorem am_i_sval (C : am_Cx G l d m p R s mth args meth cd) {idx : Nat} (hw : Cond.fieldLink (am_mn m).cls idx "java/lang/String" "value" "[B" ∈ am_W) (hf : am_fok m idx 9 0 2 ("java/lang/String", TJ0, 4)) (hd : decode (am_cd m) pc = .ok (.getfield idx, 3)) {a : Int} {r : List AV} (hst0 : st = (2, a) :: r) (w : am_stp X (am_Gl G m p l e R s mth args below meth cd Q) d hs K (am_ck (am_t h a = 9 ∨ am_t h a = 18) (pc + 3, ls, (2, am_m h a 0) :: r, h, c, s0))) : am_Gl G m p l e R s mth args below meth cd Q (pc, ls, st, h, c, s0) := by
  obtain ⟨ht, w⟩ := w
  subst hst0
  by_cases h9 : am_t h a = 9
  · exact am_i_getfield (X := X) (d := d) (hs := hs) (K := K) C hf hd ⟨h9, w⟩
  · have h18 : am_t h a = 18 := by omega
    obtain ⟨hx, hb, hml, hown, hts, hW, hR, hlk, htr, hin⟩ := C
    intro H locs arr sv hH hS hL hst hc hs0
    dsimp only at hH hL hst hc hs0 ⊢
    have hq := am_RS_inv hst
    clear hst
    obtain ⟨VA, sv, rfl, hVA, hst⟩ := hq
    obtain ⟨g1, g2⟩ := hH.2.2 a (by omega)
    cases am_RVr hVA g1.1
    obtain ⟨j, j1, j2, j3, j4⟩ := (am_CO_s h18).mp g2
    obtain ⟨-, s2, s3, -⟩ := hW.2.1 j j1
    have e1 : ea G a = ek G j := by rw [j2]; exact am_ea_k G j
    rw [e1]
    refine vk_getf hx hb s3 hS hown (hts _ hw) (fun x hx => hx) hd ?_
    exact w H locs arr _ hH hS hL ⟨Or.inr ⟨by simp only; omega, by rw [j3, am_ea_v]⟩, hst⟩ hc hs0
theorem am_i_scod (C : am_Cx G l d m p R s mth args meth cd) {idx : Nat} (hw : Cond.fieldLink (am_mn m).cls idx "java/lang/String" "coder" "B" ∈ am_W) (hf : am_fok m idx 9 1 0 ("java/lang/String", TJ0, 4)) (hd : decode (am_cd m) pc = .ok (.getfield idx, 3)) {a : Int} {r : List AV} (hst0 : st = (2, a) :: r) (w : am_stp X (am_Gl G m p l e R s mth args below meth cd Q) d hs K (am_ck (am_t h a = 9 ∨ am_t h a = 18) (pc + 3, ls, (0, am_m h a 1) :: r, h, c, s0))) : am_Gl G m p l e R s mth args below meth cd Q (pc, ls, st, h, c, s0) := by
  obtain ⟨ht, w⟩ := w
  subst hst0
  by_cases h9 : am_t h a = 9
  · exact am_i_getfield (X := X) (d := d) (hs := hs) (K := K) C hf hd ⟨h9, w⟩
  · have h18 : am_t h a = 18 := by omega
    obtain ⟨hx, hb, hml, hown, hts, hW, hR, hlk, htr, hin⟩ := C
    intro H locs arr sv hH hS hL hst hc hs0
    dsimp only at hH hL hst hc hs0 ⊢
    have hq := am_RS_inv hst
    clear hst
    obtain ⟨VA, sv, rfl, hVA, hst⟩ := hq
    obtain ⟨g1, g2⟩ := hH.2.2 a (by omega)
    cases am_RVr hVA g1.1
    obtain ⟨j, j1, j2, j3, j4⟩ := (am_CO_s h18).mp g2
    obtain ⟨-, s2, s3, -⟩ := hW.2.1 j j1
    have e1 : ea G a = ek G j := by rw [j2]; exact am_ea_k G j
    rw [e1]
    refine vk_getf hx hb s2 hS hown (hts _ hw) (fun x hx => hx) hd ?_
    exact w H locs arr _ hH hS hL ⟨⟨0, rfl, by simp only; rw [j4]; rfl⟩, hst⟩ hc hs0
theorem am_i_baload2 (C : am_Cx G l d m p R s mth args meth cd) (hd : decode (am_cd m) pc = .ok (.baload, 1)) (w : am_stp X (am_Gl G m p l e R s mth args below meth cd Q) d hs K (am_pI st fun i r => am_pR r fun a r => am_ck ((am_t h a = 21 ∨ am_t h a = 26) ∧ 0 ≤ i ∧ i < am_l h a) (pc + 1, ls, (0, am_m h a i) :: r, h, c, s0))) : am_Gl G m p l e R s mth args below meth cd Q (pc, ls, st, h, c, s0) := by
  have w1 := am_pI_inv w
  clear w
  obtain ⟨i, r, rfl, w⟩ := w1
  have w1 := am_pR_inv w
  clear w
  obtain ⟨a, r, rfl, w⟩ := w1
  obtain ⟨⟨ht, hi0, hi1⟩, w⟩ := w
  by_cases h21 : am_t h a = 21
  · exact am_i_baload (X := X) (d := d) (hs := hs) (K := K) C hd ⟨⟨h21, hi0, hi1⟩, w⟩
  · have h26 : am_t h a = 26 := by omega
    obtain ⟨hx, hb, hml, hown, hts, hW, hR, hlk, htr, hin⟩ := C
    intro H locs arr sv hH hS hL hst hc hs0
    dsimp only at hH hL hst hc hs0 ⊢
    have hq := am_RS_inv hst
    clear hst
    obtain ⟨VI, sv, rfl, hVI, hst⟩ := hq
    have hq := am_RS_inv hst
    clear hst
    obtain ⟨VA, sv, rfl, hVA, hst⟩ := hq
    obtain ⟨x, rfl, rfl⟩ := hVI
    obtain ⟨g1, g2⟩ := hH.2.2 a (by omega)
    cases am_RVr hVA g1.1
    obtain ⟨j, j1, j2, j3, j4⟩ := (am_CO_b h26).mp g2
    obtain ⟨N, s4, s5, s6, s7⟩ := am_cTf hW j1
    have e1 : ea G a = ev G j := by rw [j2]; exact am_ea_v G j
    rw [e1]
    rw [j3, s5] at hi1
    obtain ⟨k1, k2, k3⟩ := am_ix hi0 hi1
    refine va_tb hx hb s4 hS k1 rfl hd ?_
    refine w H locs arr _ hH hS hL ⟨⟨_, rfl, ?_⟩, hst⟩ hc hs0
    have := s7 _ k2
    simp only
    rw [am_ofInt (by omega), k3, j4 _ hi0 (by rw [s5]; exact hi1)]
theorem am_i_gs63 (C : am_Cx G l d m p R s mth args meth cd) {idx : Nat} (hw : Cond.fieldLink (am_mn m).cls idx "java/lang/Integer" "DigitOnes" "[B" ∈ am_W) (hd : decode (am_cd m) pc = .ok (.getstatic idx, 3)) (w : am_stp X (am_Gl G m p l e R s mth args below meth cd Q) d hs K (am_go (pc + 3, ls, (2, -300000073) :: st, h, c, s0))) : am_Gl G m p l e R s mth args below meth cd Q (pc, ls, st, h, c, s0) := by
  obtain ⟨hx, hb, hml, hown, hts, hW, hR, hlk, htr, hin⟩ := C
  intro H locs arr sv hH hS hL hst hc hs0
  dsimp only at hH hL hst hc hs0 ⊢
  refine va_gets hx hb hW.2.2.1.1.1 hS hown (hts _ hw) (fun x hx => hx) hd ?_
  exact w H locs arr _ hH hS hL ⟨Or.inr ⟨by simp only; omega, congrArg Value.ref (am_ea_v G 36).symm⟩, hst⟩ hc hs0
theorem am_i_gs64 (C : am_Cx G l d m p R s mth args meth cd) {idx : Nat} (hw : Cond.fieldLink (am_mn m).cls idx "java/lang/Integer" "DigitTens" "[B" ∈ am_W) (hd : decode (am_cd m) pc = .ok (.getstatic idx, 3)) (w : am_stp X (am_Gl G m p l e R s mth args below meth cd Q) d hs K (am_go (pc + 3, ls, (2, -300000075) :: st, h, c, s0))) : am_Gl G m p l e R s mth args below meth cd Q (pc, ls, st, h, c, s0) := by
  obtain ⟨hx, hb, hml, hown, hts, hW, hR, hlk, htr, hin⟩ := C
  intro H locs arr sv hH hS hL hst hc hs0
  dsimp only at hH hL hst hc hs0 ⊢
  refine va_gets hx hb hW.2.2.1.2.1.1 hS hown (hts _ hw) (fun x hx => hx) hd ?_
  exact w H locs arr _ hH hS hL ⟨Or.inr ⟨by simp only; omega, congrArg Value.ref (am_ea_v G 37).symm⟩, hst⟩ hc hs0
end SIM
end
section
/-! ===== calls, ends and throws ===== -/
/-- the instruction at a method's end and what stands on the stack there -/
def am_rok (G : am_En) (m pc : Nat) (r : Int) (st : List Value) : Prop :=
  (decode (am_cd m) pc = .ok (.ireturn, 1) ∧ ∃ (x : Int32) (ty : FieldType), st = [.int x] ∧ r = x.toInt ∧ am_re m = some ty ∧ narrow ty (.int x) = .int x ∧ am_rtt m = 0) ∨
  (decode (am_cd m) pc = .ok (.lreturn, 1) ∧ ∃ x : Int64, st = [.long x] ∧ r = x.toInt ∧ am_re m = some .long ∧ am_rtt m = 1) ∨
  (decode (am_cd m) pc = .ok (.dreturn, 1) ∧ ∃ x : UInt64, st = [.double x] ∧ r = (x.toNat : Int) ∧ am_re m = some .double ∧ am_rtt m = 3) ∨
  (decode (am_cd m) pc = .ok (.areturn, 1) ∧ ∃ (V : Value) (rt : FieldType), st = [V] ∧ am_RV G (2, r) V ∧ am_re m = some rt ∧ ((∃ n, rt = .object n) ∨ ∃ t, rt = .array t) ∧ am_rtt m = 2) ∨
  (decode (am_cd m) pc = .ok (.return_, 1) ∧ st = [] ∧ am_re m = none ∧ am_rtt m = 9)
/-- the five instructions of a throw -/
def am_tok (m pc k : Nat) : Prop := ∃ (ik is ic : Nat) (tx : String), 1 ≤ k ∧ k ≤ 3 ∧ decode (am_cd m) pc = .ok (.new ik, 3) ∧ decode (am_cd m) (pc + 3) = .ok (.dup, 1) ∧ decode (am_cd m) (pc + 4) = .ok (.ldc is, 2) ∧ decode (am_cd m) (pc + 6) = .ok (.invokespecial ic, 3) ∧ decode (am_cd m) (pc + 9) = .ok (.athrow, 1) ∧
  Cond.classLink (am_mn m).cls ik (am_en k) ∈ am_W ∧ Cond.initialized (am_en k) ∈ am_W ∧ ((am_mn m).cls, is, tx) ∈ am_msg ∧ (∀ w ∈ vx_atS (am_mn m).cls ic (am_en k) ["java/lang/RuntimeException", "java/lang/Exception"], (w ∈ am_W ∨ (w ∈ lw_tbl ∧ am_isN w = true)) ∧ vx_ot w = true) ∧ am_hh m = []
def am_End (G : am_En) (m : Nat) (K : AK) (p : Program) (l : Launch) (e : Env) (R : Room) (s : State) (mth : MethodId) (args : Array Value) (below : List Frame) (meth : Method) (cd : Code) (Q : State → Prop) : Prop :=
  (∀ (H : Heap) (locs : List Loc) (arr : Array Slot) (st : List Value) (h : AH) (r : Int) (pc c s0 : Nat), K 0 r h → am_rok G m pc r st → am_HM G h H → va_S (fun q => eS G ≤ q) s.heap H locs → c ≤ R.cells → s0 ≤ R.slots → W p l e R s mth args below meth cd H locs c s0 Q (F0 mth pc arr st)) ∧
  (∀ (H : Heap) (locs : List Loc) (arr : Array Slot) (st : List Value) (ast : List AV) (h : AH) (pc k c s0 : Nat), (∀ n : Int, am_n h ≤ n → K k 0 (am_sn h n)) → am_tok m pc k → arr.size = am_ml m → am_RS G ast st → am_cat ast ≤ 8 → am_HM G h H → va_S (fun q => eS G ≤ q) s.heap H locs → c + 1 ≤ R.cells → s0 + 6 ≤ R.slots → W p l e R s mth args below meth cd H locs c s0 Q (F0 mth pc arr st))
def am_Sim (G : am_En) (l : Launch) : AX := fun d m c K => ∀ (p : Program) (e : Env) (R : Room) (s : State) (mth : MethodId) (args : Array Value) (below : List Frame) (meth : Method) (cd : Code) (Q : State → Prop), am_Cx G l d m p R s mth args meth cd → cd.exceptionTable.toList = tableOf (am_hh m) → am_End G m K p l e R s mth args below meth cd Q → am_Gl G m p l e R s mth args below meth cd Q c
def am_Pc (G : am_En) (as : List AV) (h : AH) : Array Value → State → Prop := fun v U => ∃ vs : List Value, v = vs.toArray ∧ am_RS G as vs ∧ am_HM G h U.heap ∧ am_WK G U U.heap
def am_rvO (G : am_En) (rt : Nat) (r : Int) (v : Option Value) : Prop := (rt = 9 ∧ v = none) ∨ (rt ≠ 9 ∧ ∃ V, v = some V ∧ am_RV G (rt, r) V)
def am_Qc (G : am_En) (rt : Nat) (K : AK) : Array Value → State → Outcome → State → Prop := fun _ st o t => ∃ (v : Option Value) (r : Int) (h' : AH), o = .returned v ∧ am_rvO G rt r v ∧ K 0 r h' ∧ am_HM G h' t.heap ∧ va_F (fun q => eS G ≤ q) st t
def am_XC (G : am_En) (K : AK) : String → State → State → Prop := fun E st t => ∃ (k : Nat) (h' : AH), 1 ≤ k ∧ k ≤ 3 ∧ E = am_en k ∧ K k 0 h' ∧ am_HM G h' t.heap ∧ va_F (fun q => eS G ≤ q) st t
def am_rm (d m : Nat) : Room := { frames := d + 8, cells := (am_cap m).1, slots := (am_cap m).2, locals := 40 * d + 200 }
theorem am_Pc_blind {G : am_En} {as : List AV} {h : AH} : FrameBlind (am_Pc G as h) := by
  intro a U g mk ⟨vs, e1, e2, e3, e4⟩
  exact ⟨vs, e1, e2, e3, am_WK.warm (State.WarmedH.refl U) e4⟩
theorem am_exp_ok {G : am_En} : ∀ {as : List AV} {vs : List Value}, am_RS G as vs → (am_exp as).length = (lg_sl vs).length ∧ (am_exp as).length = am_cat as ∧ ∀ i, am_hold (am_exp as) i → (((am_get (am_exp as) i).1 = 1 ∨ (am_get (am_exp as) i).1 = 3) → (am_get (am_exp as) (i + 1)).1 = 8) → ∃ V, (lg_sl vs)[i]? = some (.val V) ∧ am_RV G (am_get (am_exp as) i) V
  | [], [], _ => ⟨rfl, rfl, fun i hi => by simp [am_hold, am_exp, am_get] at hi⟩
  | [], _ :: _, h => h.elim
  | _ :: _, [], h => h.elim
  | (t, x) :: r, V :: vs, h => by
    obtain ⟨h1, h2⟩ := h
    obtain ⟨e1, e2, e3⟩ := am_exp_ok h2
    have hcat := am_RV_cat h1
    by_cases ht : t = 1 ∨ t = 3
    · have hc2 : V.category = 2 := by rw [hcat]; rcases ht with rfl | rfl <;> rfl
      have el : lg_sl (V :: vs) = .val V :: .second :: lg_sl vs := by simp [lg_sl, hc2]
      have ea : am_exp ((t, x) :: r) = (t, x) :: (8, 0) :: am_exp r := by rcases ht with rfl | rfl <;> rfl
      have ec : am_cat ((t, x) :: r) = 2 + am_cat r := by rcases ht with rfl | rfl <;> rfl
      rw [el, ea, ec]
      refine ⟨by simp [e1], by simp only [List.length_cons, e2]; omega, fun i hi hi2 => ?_⟩
      match i, hi, hi2 with
      | 0, hi, hi2 => exact ⟨V, rfl, h1⟩
      | 1, hi, hi2 => simp [am_hold, am_get] at hi
      | i + 2, hi, hi2 => exact e3 i hi hi2
    · have hc1 : ¬ V.category = 2 := by
        rw [hcat]
        intro z
        apply ht
        match t, z with
        | 1, _ => exact Or.inl rfl
        | 3, _ => exact Or.inr rfl
        | 0, z => simp [am_cat] at z
        | 2, z => simp [am_cat] at z
        | n + 4, z => simp [am_cat] at z
      have el : lg_sl (V :: vs) = .val V :: lg_sl vs := by simp [lg_sl, hc1]
      have ea : am_exp ((t, x) :: r) = (t, x) :: am_exp r := by
        match t, ht with
        | 0, _ => rfl
        | 2, _ => rfl
        | 1, ht => simp at ht
        | 3, ht => simp at ht
        | n + 4, _ => rfl
      have ec : am_cat ((t, x) :: r) = 1 + am_cat r := by
        match t, ht with
        | 0, _ => rfl
        | 2, _ => rfl
        | 1, ht => simp at ht
        | 3, ht => simp at ht
        | n + 4, _ => rfl
      rw [el, ea, ec]
      refine ⟨by simp [e1], by simp only [List.length_cons, e2]; omega, fun i hi hi2 => ?_⟩
      match i, hi, hi2 with
      | 0, hi, hi2 => exact ⟨V, rfl, h1⟩
      | i + 1, hi, hi2 => exact e3 i hi hi2
theorem am_get_pad : ∀ {n : Nat} {l : List AV} {i : Nat}, am_get (am_pad n l) i = if i < l.length then am_get l i else (9, 0)
  | 0, l, i => by
    unfold am_pad
    by_cases h : i < l.length
    · rw [if_pos h]
    · rw [if_neg h, am_get_out (by omega)]
  | n + 1, [], 0 => by simp [am_pad, am_get]
  | n + 1, [], i + 1 => by
    simp only [am_pad, am_get]
    rw [am_get_pad]
    simp
  | n + 1, a :: l, 0 => by simp [am_pad, am_get]
  | n + 1, a :: l, i + 1 => by
    simp only [am_pad, am_get]
    rw [am_get_pad]
    simp
theorem am_len_pad : ∀ {n : Nat} {l : List AV}, l.length ≤ n → (am_pad n l).length = n
  | 0, l, h => by simpa [am_pad] using h
  | n + 1, [], h => by simp [am_pad, am_len_pad (n := n) (l := [])]
  | n + 1, a :: l, h => by simp [am_pad, am_len_pad (n := n) (l := l) (by simpa using h)]
theorem am_entry {G : am_En} {n : Nat} {as : List AV} {vs : List Value} (h : am_RS G as vs) (hn : am_cat as ≤ n) : am_RL G n (am_ent n as) ((lg_sl vs ++ List.replicate (n - (lg_sl vs).length) Slot.unset).toArray) := by
  obtain ⟨e1, e2, e3⟩ := am_exp_ok h
  have hl := lv_entry vs (n := n) (by omega)
  refine ⟨hl.1, am_len_pad (by omega), hl.2.1, fun i hi hi2 => ?_⟩
  unfold am_ent am_hold at hi
  unfold am_ent at hi2 ⊢
  rw [am_get_pad] at hi hi2 ⊢
  by_cases hlt : i < (am_exp as).length
  · rw [if_pos hlt] at hi hi2 ⊢
    obtain ⟨V, f1, f2⟩ := e3 i hi (fun hc => by
      have := hi2 hc
      rw [am_get_pad] at this
      by_cases h3 : i + 1 < (am_exp as).length
      · rw [if_pos h3] at this; exact this
      · rw [if_neg h3] at this; simp at this)
    refine ⟨V, ?_, f2⟩
    rw [List.getElem?_toArray, List.getElem?_append_left (by omega)]
    exact f1
  · rw [if_neg hlt] at hi
    simp at hi
theorem am_W_good {w : Cond} (h : w ∈ am_W) : (w.onTables && w.keeps) = true ∨ ∃ ty, w = .arrayClass ty := good_of_word (List.mem_filter.mp h).2
theorem am_isN_ot {w : Cond} (h : am_isN w = true) : w.onTables = true := by
  cases w <;> first | rfl | cases h
section MET
variable {G : am_En} {l : Launch} {d m : Nat} {as : List AV} {h : AH} {K : AK}
/-- what is so of a method, whoever calls it -/
def am_mok (m : Nat) : Prop := plainName (am_mn m).cls = true ∧ am_ml m ≤ 20 ∧ ((am_mn m).cls ≠ "java/lang/invoke/MethodHandle" ∧ (am_mn m).cls ≠ "java/lang/invoke/VarHandle") ∧ (if am_hh m = [] then Cond.code (am_mn m) (am_cd m) (am_ml m) (am_re m) ∈ am_W else Cond.codeWith (am_mn m) (am_cd m) (am_ml m) (am_re m) (am_hh m) ∈ am_W)
theorem am_Cx_of {Y : MethodName} {ws : List Cond} {p : Program} {e : Env} {s s₁ : State} {mth : MethodId} {args : Array Value} {below : List Frame} {meth : Method} {cd : Code} (B : BodyLoose p l Y (headSpec ws (am_rm d m)) (am_cd m) (am_ml m) (am_re m) e s mth args below meth cd s₁) (hY : Y = am_mn m) (hml : cd.maxLocals = am_ml m) (hws : ∀ w ∈ am_W, w ∈ ws) (htr : l.stackTraces = false) (hWK : am_WK G s s.heap) :
    am_Cx G l d m p (headSpec ws (am_rm d m)).room s mth args meth cd := by
  subst hY
  have hts := atoms_spec (ws := ws) B.pre
  exact ⟨B.exec, B.bytes, hml, findClass_of_methodNamed B.named, fun w hw => hts w (hws w hw), hWK, ⟨Nat.le_refl _, Nat.le_refl _, rfl, rfl⟩, B.notSynchronized, htr, fun hn => (name_of_methodNamed B.named B.method).1.trans hn⟩
/-- the ends of a method that returns -/
theorem am_End_ret {Y : MethodName} {ws : List Cond} {p : Program} {e : Env} {s s₁ : State} {mth : MethodId} {below : List Frame} {meth : Method} {cd : Code} {R : Room} {a : Array Value} {H : Heap} {locs : List Loc} {arr : Array Slot} {st : List Value} {h2 : AH} {r : Int} {pc c s0 mc ms : Nat}
    (hx : p.tables.exec = Jvm.exec) (hb : cd.code = am_cd m) (hr : meth.sig.returnType = am_re m) (hlk : meth.locks = false) (hK : K 0 r h2) (hr2 : am_rok G m pc r st) (hH : am_HM G h2 H) (hS : va_S (fun q => eS G ≤ q) s.heap H locs) (hc : c ≤ mc) (hs : s0 ≤ ms) :
    W p l e R s mth a below meth cd H locs c s0 (MQ below (am_Qc G (am_rtt m) K) a s mc ms (fun q => eS G ≤ q)) (F0 mth pc arr st) := by
  refine W.widen hc hs ?_
  rcases hr2 with ⟨hd, x, ty, rfl, rfl, e1, e2, e3⟩ | ⟨hd, x, rfl, rfl, e1, e3⟩ | ⟨hd, x, rfl, rfl, e1, e3⟩ | ⟨hd, V, ty, rfl, e0, e1, e2, e3⟩ | ⟨hd, rfl, e1, e3⟩
  · exact W.zret hx hb (hr.trans e1) e2 (fun t ht hW => ⟨_, _, h2, rfl, Or.inr ⟨by rw [e3]; decide, _, rfl, by rw [e3]; exact ⟨x, rfl, rfl⟩⟩, hK, by rw [ht]; exact hH, hS.F ht⟩) hS.2.2 hd hlk
  · exact W.lret hx hb (hr.trans e1) (fun t ht hW => ⟨_, _, h2, rfl, Or.inr ⟨by rw [e3]; decide, _, rfl, by rw [e3]; exact ⟨x, rfl, rfl⟩⟩, hK, by rw [ht]; exact hH, hS.F ht⟩) hS.2.2 hd hlk
  · exact W.dret hx hb (hr.trans e1) (fun t ht hW => ⟨_, _, h2, rfl, Or.inr ⟨by rw [e3]; decide, _, rfl, by rw [e3]; exact ⟨x, rfl, rfl⟩⟩, hK, by rw [ht]; exact hH, hS.F ht⟩) hS.2.2 hd hlk
  · have hv : V = .null ∨ ∃ a, V = .ref a := am_RV_ref e0 (Or.inl rfl)
    exact W.aret hx hb (hr.trans e1) e2 hv (fun t ht hW => ⟨_, _, h2, rfl, Or.inr ⟨by rw [e3]; decide, _, rfl, by rw [e3]; exact e0⟩, hK, by rw [ht]; exact hH, hS.F ht⟩) hS.2.2 hd hlk
  · exact W.vret hx hb (hr.trans e1) (fun t ht hW => ⟨_, r, h2, rfl, Or.inl ⟨e3, rfl⟩, hK, by rw [ht]; exact hH, hS.F ht⟩) hS.2.2 hd hlk
/-- a method that only returns -/
theorem am_met (hsim : am_Sim G l d m (0, am_ent (am_ml m) as, [], h, 0, 0) K) (hK : ∀ k v h', ¬ K (k + 1) v h') (hm : am_mok m) (hcat : am_cat as ≤ am_ml m) (htr : l.stackTraces = false) (hh : am_hh m = []) :
    Met l (am_mn m) (Cond.code (am_mn m) (am_cd m) (am_ml m) (am_re m) :: am_W) (am_rm d m) (am_Pc G as h) (am_Qc G (am_rtt m) K) (am_cap m).1 (am_cap m).2 (fun q => eS G ≤ q) := by
  refine Met.ofW (cc := am_cd m) (maxL := am_ml m) (ret := am_re m) hm.1 rfl ?_
  intro p e s mth args below meth cd s₁ B hml hv
  obtain ⟨vs, rfl, hRS, hHM, hWK⟩ := hv
  have hts := atoms_spec (ws := Cond.code (am_mn m) (am_cd m) (am_ml m) (am_re m) :: am_W) B.pre
  have htab : cd.exceptionTable.toList = tableOf (am_hh m) := by
    obtain ⟨meth', c', h1, h2, -, -, -, -, h6, -⟩ := Cond.code_spec B.named (hts _ List.mem_cons_self)
    cases Option.some.inj (h1.symm.trans B.method)
    cases Option.some.inj (h2.symm.trans (Stand.of_body B).code)
    rw [hh, show cd.exceptionTable = #[] by simpa using h6]
    rfl
  rw [lg_entry_eq]
  refine hsim p e _ s mth vs.toArray below meth cd _ (am_Cx_of B rfl hml (fun w hw => List.mem_cons_of_mem _ hw) htr hWK) htab ⟨?_, ?_⟩ s.heap [] _ [] hHM va_S.rf (am_entry hRS hcat) trivial (Nat.zero_le _) (Nat.zero_le _)
  · intro H locs arr st h2 r pc c s0 hK0 hr2 hH hS hc hs
    exact am_End_ret (Y := am_mn m) (ws := []) (s₁ := s) B.exec B.bytes B.returns B.notSynchronized hK0 hr2 hH hS hc hs
  · intro H locs arr st ast h2 pc k c s0 hK0 ht
    obtain ⟨ik, is, ic, tx, hk1, -⟩ := ht
    exact absurd (hK0 _ (Int.le_refl _)) (by obtain ⟨k, rfl⟩ : ∃ k', k = k' + 1 := ⟨k - 1, by omega⟩; exact hK _ _ _)
/-- a method that throws or returns -/
theorem am_vmet (hsim : am_Sim G l d m (0, am_ent (am_ml m) as, [], h, 0, 0) K) (hm : am_mok m) (hcat : am_cat as ≤ am_ml m) (htr : l.stackTraces = false) (hh : am_hh m = []) :
    vx_Met l (am_mn m) (Cond.code (am_mn m) (am_cd m) (am_ml m) (am_re m) :: (am_W ++ lw_tbl.filter goodWord)) (am_rm d m) (am_Pc G as h) (am_Qc G (am_rtt m) K) (am_XC G K) (am_cap m).1 (am_cap m).2 (fun q => eS G ≤ q) := by
  refine vx_ofW (cc := am_cd m) (maxL := am_ml m) (ret := am_re m) hm.1 rfl ?_
  intro p e s mth args below meth cd s₁ B hml hnx hv
  obtain ⟨vs, rfl, hRS, hHM, hWK⟩ := hv
  have htab : cd.exceptionTable.toList = tableOf (am_hh m) := by
    rw [hh]
    cases hc : cd.exceptionTable.toList with
    | nil => rfl
    | cons a b => exact (hnx a (by rw [hc]; exact List.mem_cons_self)).elim
  rw [lg_entry_eq]
  have hCx := am_Cx_of (m := m) B rfl hml (fun w hw => List.mem_cons_of_mem _ (List.mem_append_left _ hw)) htr hWK
  refine hsim p e _ s mth vs.toArray below meth cd _ hCx htab ⟨?_, ?_⟩ s.heap [] _ [] hHM va_S.rf (am_entry hRS hcat) trivial (Nat.zero_le _) (Nat.zero_le _)
  · intro H locs arr st h2 r pc c s0 hK0 hr2 hH hS hc hs
    exact vx_ret (am_End_ret (Y := am_mn m) (ws := []) (s₁ := s) B.exec B.bytes B.returns B.notSynchronized hK0 hr2 hH hS hc hs)
  · intro H locs arr st ast h2 pc k c s0 hK0 ht harr hst hc8 hH hS hc hs
    obtain ⟨ik, is, ic, tx, hk1, hk3, d0, d3, d4, d6, d9, w1, w2, w3, w4, -⟩ := ht
    obtain ⟨hx, hb, hml2, hown, hts, hW, hR, hlk, htr2, hin⟩ := hCx
    obtain ⟨sa, hsa⟩ := hW.1.2.2.2.1 _ w3
    have hcat2 := am_RS_cat hst
    refine vx_throwS (own := (am_mn m).cls) (cls := am_en k) (text := tx) (names := ["java/lang/RuntimeException", "java/lang/Exception"]) (ik := ik) (is := is) (ic := ic) (sa := sa) (A := fun q => eS G ≤ q) hx hb htr hown ?_ ?_ (hts _ w1) (hts _ w2) hsa ?_ ?_ hW.2.2.1.2.2.2.2.1 hW.2.2.1.2.2.2.2.2 hS (harr.trans hml.symm) d0 d3 d4 d6 d9 (fun x hx => (hnx x hx).elim) ?_ ?_ hc hs hlk ?_ hS.2.2 hc hs
    · match k, hk1, hk3 with
      | 1, _, _ => decide
      | 2, _, _ => decide
      | 3, _, _ => decide
    · decide
    · intro w hw
      rcases (w4 w hw).1 with h1 | ⟨h1, h2⟩
      · exact hts _ h1
      · exact va_Nw.use (am_isN_ot h2) (hW.1.2.1 _ h1 h2)
    · intro w hw
      rcases List.mem_cons.mp hw with rfl | hw
      · rfl
      · rcases List.mem_cons.mp hw with rfl | hw
        · rfl
        · exact (w4 w hw).2
    · have := hR.1
      show 2 + 3 < _
      omega
    · have := hR.2.1
      show _ + (13 * (2 + 1) + 43) ≤ _
      omega
    · intro t hA hz hq
      refine ⟨k, am_sn h2 (am_n h2 + ((t.heap.size : Int) - (H.size : Int))), hk1, hk3, rfl, hK0 _ (by omega), ?_, ⟨?_, fun q hq1 hq2 => ?_⟩⟩
      · have h1 := hH.1
        refine ⟨?_, hH.2.1, fun a ha => ?_⟩
        · unfold am_ph at h1 ⊢
          have e9 : am_n (am_sn h2 (am_n h2 + ((t.heap.size : Int) - (H.size : Int)))) = am_n h2 + ((t.heap.size : Int) - (H.size : Int)) := rfl
          rw [e9]
          omega
        · obtain ⟨g1, g2⟩ := hH.2.2 a ha
          exact ⟨am_ok_keep g1 (by show am_n h2 ≤ am_n h2 + ((t.heap.size : Int) - (H.size : Int)); omega) hz rfl, am_CO_kept g2 (hq _ (hH.o ha).2) rfl rfl (fun _ => rfl)⟩
      · exact Nat.le_trans hS.1 hz
      · rw [hq q (Nat.lt_of_lt_of_le hq1 hS.1)]
        exact hS.2.1 q hq1 hq2
end MET
end
section
/-! ===== the calls ===== -/
theorem am_pop_spec : ∀ {n : Nat} {acc st as r : List AV}, am_pop n acc st = some (as, r) → ∃ l : List AV, as = l.reverse ++ acc ∧ st = l ++ r ∧ l.length = n
  | 0, acc, st, as, r, h => by
    cases h
    exact ⟨[], rfl, rfl, rfl⟩
  | n + 1, acc, [], as, r, h => by cases h
  | n + 1, acc, v :: st, as, r, h => by
    obtain ⟨l, e1, e2, e3⟩ := am_pop_spec (n := n) (acc := v :: acc) h
    exact ⟨v :: l, by rw [e1]; simp, by rw [e2]; rfl, by simp [e3]⟩
theorem am_RS_app {G : am_En} : ∀ {l r : List AV} {sv : List Value}, am_RS G (l ++ r) sv → ∃ lv rv, sv = lv ++ rv ∧ am_RS G l lv ∧ am_RS G r rv
  | [], r, sv, h => ⟨[], sv, rfl, trivial, h⟩
  | v :: l, r, [], h => h.elim
  | v :: l, r, V :: sv, h => by
    obtain ⟨lv, rv, e1, e2, e3⟩ := am_RS_app (l := l) h.2
    exact ⟨V :: lv, rv, by rw [e1]; rfl, ⟨h.1, e2⟩, e3⟩
theorem am_RS_cat2 {G : am_En} : ∀ {l r : List AV} {lv rv : List Value}, am_RS G l lv → am_RS G r rv → am_RS G (l ++ r) (lv ++ rv)
  | [], r, [], rv, _, h => h
  | [], r, _ :: _, rv, h, _ => h.elim
  | _ :: _, r, [], rv, h, _ => h.elim
  | v :: l, r, V :: lv, rv, h, h2 => ⟨h.1, am_RS_cat2 h.2 h2⟩
theorem am_RS_rev {G : am_En} : ∀ {l : List AV} {lv : List Value}, am_RS G l lv → am_RS G l.reverse lv.reverse
  | [], [], _ => trivial
  | [], _ :: _, h => h.elim
  | _ :: _, [], h => h.elim
  | v :: l, V :: lv, h => by
    rw [List.reverse_cons, List.reverse_cons]
    exact am_RS_cat2 (am_RS_rev h.2) ⟨h.1, trivial⟩
theorem am_RS_len {G : am_En} : ∀ {l : List AV} {lv : List Value}, am_RS G l lv → l.length = lv.length
  | [], [], _ => rfl
  | [], _ :: _, h => h.elim
  | _ :: _, [], h => h.elim
  | v :: l, V :: lv, h => by simp [am_RS_len h.2]
def am_rcv (r3 : Nat) (h : AH) (as : List AV) : Prop := r3 = 0 ∨ (r3 = 60 ∧ ((∃ j t, as = (5, j) :: t) ∨ ∃ a t, as = (2, a) :: t ∧ (am_t h a = 9 ∨ am_t h a = 18))) ∨ (r3 = 62 ∧ ∃ a t, as = (2, a) :: t ∧ ¬ a = -1) ∨ (r3 = 61 ∧ ∃ a t, as = (2, a) :: t ∧ 0 ≤ a) ∨ (r3 ≠ 0 ∧ r3 ≠ 60 ∧ r3 ≠ 61 ∧ r3 ≠ 62 ∧ ∃ a t, as = (2, a) :: t ∧ am_t h a = r3)
section SIM
variable {G : am_En} {l : Launch} {d m : Nat} {p : Program} {e : Env} {R : Room} {s : State} {mth : MethodId} {args : Array Value} {below : List Frame} {meth : Method} {cd : Code} {Q : State → Prop} {K : AK} {X : AX} {Z : AC → Prop} {hs : List (Nat × Nat × Nat × Nat)}
variable {pc : Nat} {ls st : List AV} {h : AH} {c s0 : Nat}
theorem am_mk_inv {o : Option Prop} {m2 rt : Nat} {as r : List AV} {ccap cap : Nat × Nat} (w : am_stp X Z d hs K (am_mk o m2 as pc rt ccap cap ls r h c s0)) :
    (∀ q, o = some q → q) ∧ (ccap = (0, 0) ∨ (c + ccap.1 ≤ cap.1 ∧ s0 + ccap.2 ≤ cap.2)) ∧ am_dn X d m2 (0, am_ent (am_ml m2) as, [], h, 0, 0) (am_ret hs Z pc rt (pc + 3, ls, r, h, c + ccap.1, s0 + ccap.2)) := by
  obtain ⟨c1, c2⟩ := ccap
  unfold am_mk at w
  split at w
  · rename_i hz
    dsimp only at hz
    have h1 : c1 = 0 := by omega
    have h2 : c2 = 0 := by omega
    subst h1
    subst h2
    cases o with
    | none => exact ⟨fun q hq => (by cases hq), Or.inl rfl, w⟩
    | some q => exact ⟨fun q hq => (by cases hq; exact w.1), Or.inl rfl, w.2⟩
  · cases o with
    | none => exact ⟨fun q hq => (by cases hq), Or.inr w.1, w.2⟩
    | some q => exact ⟨fun q hq => (by cases hq; exact w.1.1), Or.inr w.1.2, w.2⟩
theorem am_inv_inv {r1 m2 r3 cml na rt : Nat} {ccap cap : Nat × Nat} (w : am_stp X Z d hs K (am_inv r1 m2 r3 ccap cap cml na rt pc ls st h c s0)) :
    ∃ as r, am_pop na [] st = some (as, r) ∧ am_cat r ≤ 8 ∧ am_cat as ≤ cml ∧ am_rcv r3 h as ∧ (ccap = (0, 0) ∨ (c + ccap.1 ≤ cap.1 ∧ s0 + ccap.2 ≤ cap.2)) ∧ am_dn X d m2 (0, am_ent (am_ml m2) as, [], h, 0, 0) (am_ret hs Z pc rt (pc + 3, ls, r, h, c + ccap.1, s0 + ccap.2)) := by
  unfold am_inv at w
  split at w
  · exact w.elim
  · split at w
    · exact w.elim
    · rename_i as r hp
      split at w
      · exact w.elim
      · rename_i hb
        rw [Bool.and_eq_true] at hb
        refine ⟨as, r, hp, Nat.le_of_ble_eq_true hb.1, Nat.le_of_ble_eq_true hb.2, ?_⟩
        split at w
        · obtain ⟨-, w2, w3⟩ := am_mk_inv w
          exact ⟨Or.inl rfl, w2, w3⟩
        · split at w
          · obtain ⟨-, w2, w3⟩ := am_mk_inv w
            exact ⟨Or.inr (Or.inl ⟨rfl, Or.inl ⟨_, _, rfl⟩⟩), w2, w3⟩
          · obtain ⟨w1, w2, w3⟩ := am_mk_inv w
            exact ⟨Or.inr (Or.inl ⟨rfl, Or.inr ⟨_, _, rfl, w1 _ rfl⟩⟩), w2, w3⟩
          · exact w.elim
        · split at w
          · obtain ⟨w1, w2, w3⟩ := am_mk_inv w
            exact ⟨Or.inr (Or.inr (Or.inl ⟨rfl, _, _, rfl, w1 _ rfl⟩)), w2, w3⟩
          · exact w.elim
        · split at w
          · obtain ⟨w1, w2, w3⟩ := am_mk_inv w
            exact ⟨Or.inr (Or.inr (Or.inr (Or.inl ⟨rfl, _, _, rfl, w1 _ rfl⟩))), w2, w3⟩
          · exact w.elim
        · rename_i n0 n1 n2 n3
          split at w
          · obtain ⟨w1, w2, w3⟩ := am_mk_inv w
            exact ⟨Or.inr (Or.inr (Or.inr (Or.inr ⟨n0, by first | exact n1 | exact n2 | exact n3, by first | exact n1 | exact n2 | exact n3, by first | exact n1 | exact n2 | exact n3, _, _, rfl, w1 _ rfl⟩))), w2, w3⟩
          · exact w.elim
theorem am_dn_inv {m2 : Nat} {cf : AC} (w : am_dn X d m2 cf K) : ∃ d', d = d' + 1 ∧ X d' m2 cf K := by
  cases d with
  | zero => exact w.elim
  | succ d => exact ⟨d, rfl, w⟩
theorem am_ret_zero {rt : Nat} {cf : AC} {v : Int} {h' : AH} (w : am_ret hs Z pc rt cf 0 v h') : Z (cf.1, cf.2.1, am_push rt v cf.2.2.1, h', cf.2.2.2.2) := by
  cases hs with
  | nil => exact w
  | cons a b => exact w
theorem am_push_RS {rt : Nat} {r : List AV} {v : Int} {ov : Option Value} {sv : List Value} (h1 : am_rvO G rt v ov) (h2 : am_RS G r sv) : am_RS G (am_push rt v r) (ov.toList ++ sv) := by
  rcases h1 with ⟨rfl, rfl⟩ | ⟨hne, V, rfl, hV⟩
  · exact h2
  · have : am_push rt v r = (rt, v) :: r := by
      unfold am_push
      split
      · exact absurd rfl hne
      · rfl
    rw [this]
    exact ⟨hV, h2⟩
/-- behind a call that returned -/
theorem am_back {H : Heap} {locs L : List Loc} {arr : Array Slot} {sv : List Value} {r : List AV} {rt mc ms : Nat} {T' st₀ t : State} {v : Int} {ov : Option Value} {h' : AH}
    (w : am_Gl G m p l e R s mth args below meth cd Q (pc + 3, ls, am_push rt v r, h', c + mc, s0 + ms)) (hL : am_RL G (am_ml m) ls arr) (hr : am_RS G r sv) (hrv : am_rvO G rt v ov) (hH : am_HM G h' t.heap) (hF : va_F (fun q => eS G ≤ q) st₀ t) (hS : va_S (fun q => eS G ≤ q) s.heap H locs)
    (h0 : st₀.heap = H) (hLb : ∀ q ∈ L, eS G ≤ q.base) (e1 : T'.heap = t.heap) (hc : c + mc ≤ R.cells) (hs : s0 + ms ≤ R.slots) : W p l e R s mth args below meth cd T'.heap (locs ++ L) (c + mc) (s0 + ms) Q (F0 mth (pc + 3) arr (ov.toList ++ sv)) := by
  obtain ⟨hz, hk⟩ := hF
  rw [h0] at hz hk
  refine w T'.heap (locs ++ L) arr _ (by rw [e1]; exact hH) ⟨Nat.le_trans hS.1 (by rw [e1]; exact hz), fun q h1 h2 => ?_, fun q hq => ?_⟩ hL (am_push_RS hrv hr) hc hs
  · rw [e1, hk q (Nat.lt_of_lt_of_le h1 hS.1) h2]
    exact hS.2.1 q h1 h2
  · rcases List.mem_append.mp hq with h | h
    · exact hS.2.2 q h
    · exact hLb q h
theorem am_after {H : Heap} {locs : List Loc} {arr : Array Slot} {st0 sv : List Value} {r : List AV} {rt mc ms : Nat} {K2 : AK} {a : Array Value} (hrun : va_Run p l e R s mth args below meth cd H locs c s0 mc ms (F0 mth pc arr st0) sv (am_Qc G rt K2 a) (fun q => eS G ≤ q))
    (hK2 : ∀ v h', K2 0 v h' → am_Gl G m p l e R s mth args below meth cd Q (pc + 3, ls, am_push rt v r, h', c + mc, s0 + ms)) (hL : am_RL G (am_ml m) ls arr) (hr : am_RS G r sv) (hS : va_S (fun q => eS G ≤ q) s.heap H locs) (hc : c + mc ≤ R.cells) (hs : s0 + ms ≤ R.slots) : W p l e R s mth args below meth cd H locs c s0 Q (F0 mth pc arr st0) := by
  intro T hT X
  obtain ⟨ov, st₀, t, T', L, h0, X', hLb, e1, e2, ⟨v', r', h', hv, hrv, hK, hHM, hF⟩, stp⟩ := hrun T hT X
  cases hv
  obtain ⟨t2, a1, b1⟩ := am_back (hK2 _ _ hK) hL hr hrv hHM hF hS h0 hLb e1 hc hs T' rfl X'
  exact ⟨t2, stp t2 a1, b1⟩
/-- what is so of a place that calls m2: the words -/
def am_GI (m2 : Nat) : List Cond := Cond.code (am_mn m2) (am_cd m2) (am_ml m2) (am_re m2) :: am_W
theorem am_good {w : Cond} (h : w ∈ am_W) : w ∈ am_W ∧ ((w.onTables && w.keeps) = true ∨ ∃ ty, w = .arrayClass ty) := ⟨h, am_W_good h⟩
theorem am_GI_in {m2 : Nat} (hw : Cond.code (am_mn m2) (am_cd m2) (am_ml m2) (am_re m2) ∈ am_W) : GoodIn am_W (am_GI m2) := by
  intro w h
  rcases List.mem_cons.mp h with rfl | h
  · exact am_good hw
  · exact am_good h
/-- no handler stands at this place -/
def am_unc (hs : List (Nat × Nat × Nat × Nat)) (pc : Nat) : Bool := hs.all fun e => !(Nat.ble e.1 pc && Nat.blt pc e.2.1)
theorem am_unc_fnd {x pc : Nat} {P : Nat → Prop} : ∀ {hs : List (Nat × Nat × Nat × Nat)}, am_unc hs pc = true → ¬ am_fnd hs x pc P
  | [], _, w => w
  | (a, b, q, k) :: r, h, w => by
    unfold am_unc at h
    rw [List.all_cons, Bool.and_eq_true] at h
    unfold am_fnd at w
    split at w
    · rename_i hh
      rw [Bool.and_eq_true, Bool.and_eq_true] at hh
      have h1 := h.1
      simp only [hh.1, hh.2.1] at h1
      cases h1
    · exact am_unc_fnd (hs := r) h.2 w
theorem am_unc_no {k rt : Nat} {cf : AC} {v : Int} {h' : AH} (h : am_unc hs pc = true) : ¬ am_ret hs Z pc rt cf (k + 1) v h' := by
  intro z
  cases hs with
  | nil => exact z
  | cons a b =>
    have z2 : am_fnd (a :: b) (k + 1) pc (fun q => Z (q, cf.2.1, [(10, 0)], h', cf.2.2.2.2)) := z
    exact am_unc_fnd h z2
/-- the receiver's cell -/
theorem am_recv {H : Heap} {locs : List Loc} {r3 : Nat} {as : List AV} {vs : List Value} {C : String} (hW : am_WK G s s.heap) (hS : va_S (fun q => eS G ≤ q) s.heap H locs) (hH : am_HM G h H) (hrc : am_rcv r3 h as) (hvs : am_RS G as vs) (h0 : r3 ≠ 0) (hC : (r3 = 60 ∧ C = "java/lang/String") ∨ r3 = 61 ∨ r3 = 62 ∨ (r3 ≠ 60 ∧ r3 ≠ 61 ∧ r3 ≠ 62 ∧ 1 ≤ r3 ∧ r3 ≤ 9 ∧ ∃ q : vw_C, vwCl[r3 - 1]? = some q ∧ q.1 = C)) :
    ∃ (b : Nat) (As : List Value), vs = .ref b :: As ∧ (r3 ≠ 61 → r3 ≠ 62 → ∃ cell : Cell, H[b]? = some cell ∧ cell.vm.isStatics = false ∧ s.vm.findClass C = some cell.cls) := by
  have own : ∀ (a : Int) (r : Nat) (q : vw_C), am_t h a = r → 1 ≤ r → r ≤ 9 → vwCl[r - 1]? = some q → ∃ cell : Cell, H[ea G a]? = some cell ∧ cell.vm.isStatics = false ∧ s.vm.findClass q.1 = some cell.cls := by
    intro a r q ha k1 k2 k3
    obtain ⟨-, g2⟩ := hH.2.2 a (by omega)
    obtain ⟨q', F, b1, ⟨cell, b2, b3, b4, -⟩, -⟩ := (am_CO_obj ha k1 k2).mp g2
    cases b1.symm.trans k3
    exact ⟨cell, b2, by rw [b4]; rfl, by rw [b3]; exact (hW.1.1.1 (r - 1) _ k3).2.1⟩
  rcases hrc with hrc | ⟨e1, hrc⟩ | ⟨e1, a, t, rfl, ha⟩ | ⟨e1, a, t, rfl, ha⟩ | ⟨n0, n1, n2, n3, a, t, rfl, ha⟩
  · exact absurd hrc h0
  · have hCS : C = "java/lang/String" := by
      rcases hC with ⟨-, hC⟩ | hC | hC | hC
      · exact hC
      · omega
      · omega
      · omega
    subst hCS
    rcases hrc with ⟨j, t, rfl⟩ | ⟨a, t, rfl, ha⟩
    · obtain ⟨V, As, rfl, ⟨g1, g2, rfl⟩, -⟩ := am_RS_inv hvs
      refine ⟨_, As, rfl, fun _ _ => ?_⟩
      obtain ⟨s1, -⟩ := hW.2.1 j.toNat (by simp only at g2; omega)
      obtain ⟨cell, q1, q2, q3, -⟩ := s1.kept hS.2.1
      exact ⟨cell, q1, q2, q3⟩
    · obtain ⟨V, As, rfl, hV, -⟩ := am_RS_inv hvs
      cases am_RVr hV (hH.o (a := a) (by omega)).1
      refine ⟨_, As, rfl, fun _ _ => ?_⟩
      rcases ha with ha | ha
      · exact own a 9 _ ha (by omega) (by omega) rfl
      · obtain ⟨-, g2⟩ := hH.2.2 a (by omega)
        obtain ⟨j, j1, j2, -⟩ := (am_CO_s ha).mp g2
        have e9 : ea G a = ek G j := by rw [j2]; exact am_ea_k G j
        rw [e9]
        obtain ⟨s1, -⟩ := hW.2.1 j j1
        obtain ⟨cell, q1, q2, q3, -⟩ := s1.kept hS.2.1
        exact ⟨cell, q1, q2, q3⟩
  · obtain ⟨V, As, rfl, hV, -⟩ := am_RS_inv hvs
    cases am_RVr hV ha
    exact ⟨_, As, rfl, fun z z2 => by omega⟩
  · obtain ⟨V, As, rfl, hV, -⟩ := am_RS_inv hvs
    cases am_RVr hV (by omega)
    exact ⟨_, As, rfl, fun z => by omega⟩
  · obtain ⟨V, As, rfl, hV, -⟩ := am_RS_inv hvs
    cases am_RVr hV (hH.o (a := a) (by omega)).1
    refine ⟨_, As, rfl, fun _ _ => ?_⟩
    rcases hC with ⟨hC, -⟩ | hC | hC | ⟨-, -, -, k1, k2, q, k3, rfl⟩
    · omega
    · omega
    · omega
    · exact own a r3 q ha k1 k2 k3
end SIM
end
section
/-! ===== calls, a kind each ===== -/
section SIM
variable {G : am_En} {l : Launch} {d m : Nat} {p : Program} {e : Env} {R : Room} {s : State} {mth : MethodId} {args : Array Value} {below : List Frame} {meth : Method} {cd : Code} {Q : State → Prop} {K : AK} {hs : List (Nat × Nat × Nat × Nat)}
variable {pc : Nat} {ls st : List AV} {h : AH} {c s0 : Nat}
/-- what a place that calls m2 needs of the tables: kind 0 a method of an object, 1 of a nest mate's, 2 static, 3 a nest mate's static, 4 a constructor, 5 a nest mate's, 14 a method that may throw, 15 a static one with a table -/
def am_cok (m pc kind idx m2 r3 : Nat) : Prop := am_mok m2 ∧ Cond.initialized (am_mn m2).cls ∈ am_W ∧
  ((kind = 0 ∨ kind = 2 ∨ kind = 4 ∨ kind = 14 ∨ kind = 15) → Cond.methodLink (am_mn m).cls idx (am_mn m2) ∈ am_W) ∧ ((kind = 1 ∨ kind = 3 ∨ kind = 5) → ∃ host, Cond.methodLinkNest (am_mn m).cls idx (am_mn m2) host ∈ lw_tbl) ∧
  ((kind = 2 ∨ kind = 3 ∨ kind = 15) → Cond.static (am_mn m2) ∈ am_W ∧ r3 = 0 ∧ (parseMethodDescriptor (am_mn m2).desc).map (fun d => d.parameters.length) = some (am_na m2)) ∧
  ((kind = 0 ∨ kind = 1 ∨ kind = 4 ∨ kind = 5 ∨ kind = 14) → Cond.instanceMethod (am_mn m2) ∈ am_W ∧ r3 ≠ 0 ∧ 1 ≤ am_na m2 ∧ (parseMethodDescriptor (am_mn m2).desc).map (fun d => d.parameters.length) = some (am_na m2 - 1)) ∧
  ((kind = 0 ∨ kind = 1 ∨ kind = 14) → Cond.selects (am_mn m2).cls (am_mn m2) (am_mn m2) ∈ am_W ∧ (r3 ≠ 61 ∧ r3 ≠ 62) ∧ ((r3 = 60 ∧ (am_mn m2).cls = "java/lang/String") ∨ r3 = 61 ∨ r3 = 62 ∨ (r3 ≠ 60 ∧ r3 ≠ 61 ∧ r3 ≠ 62 ∧ 1 ≤ r3 ∧ r3 ≤ 9 ∧ ∃ q : vw_C, vwCl[r3 - 1]? = some q ∧ q.1 = (am_mn m2).cls))) ∧
  ((kind = 4 ∨ kind = 5) → (am_mn m2).name = "<init>" ∧ (r3 = 61 ∨ r3 = 62) ∧ am_re m2 = none) ∧
  (kind ≠ 15 → am_hh m2 = []) ∧ (kind = 15 → am_hh m2 ≠ []) ∧ (kind ≠ 14 → am_unc (am_hd m) pc = true)
/-- what a place that calls a method that StringBuilder inherits needs of the tables: 8 the same, 10 one that StringBuilder has anew, 9 super's -/
def am_aN : String := "java/lang/AbstractStringBuilder"
def am_bN : String := "java/lang/StringBuilder"
def am_uok (m pc kind idx m2 : Nat) : Prop := am_mok m2 ∧ Cond.initialized (am_mn m2).cls ∈ am_W ∧ Cond.instanceMethod (am_mn m2) ∈ am_W ∧ 1 ≤ am_na m2 ∧ (parseMethodDescriptor (am_mn m2).desc).map (fun d => d.parameters.length) = some (am_na m2 - 1) ∧ am_hh m2 = [] ∧ am_unc (am_hd m) pc = true ∧
  (kind = 8 → (am_mn m2).cls = am_aN ∧ Cond.methodLink (am_mn m).cls idx (am_mn m2) ∈ am_W ∧ Cond.sameMethod am_aN am_aN (am_mn m2).name (am_mn m2).desc ∈ am_W ∧ (Cond.selects am_bN (am_mn m2) (am_mn m2) ∈ am_W ∨ Cond.privateMethod (am_mn m2) ∈ lw_tbl)) ∧
  (kind = 10 → am_mn m2 = ⟨am_bN, "length", "()I"⟩ ∧ Cond.methodLink (am_mn m).cls idx ⟨am_aN, "length", "()I"⟩ ∈ am_W ∧ Cond.sameMethod am_aN am_aN "length" "()I" ∈ am_W ∧ Cond.instanceMethod ⟨am_aN, "length", "()I"⟩ ∈ am_W ∧ Cond.selects am_bN ⟨am_aN, "length", "()I"⟩ ⟨am_bN, "length", "()I"⟩ ∈ am_W ∧ ∃ b0 m0 r0, Cond.code ⟨am_aN, "length", "()I"⟩ b0 m0 r0 ∈ am_W) ∧
  (kind = 9 → (am_mn m2).cls = am_aN ∧ (am_mn m2).name ≠ "<init>" ∧ Cond.methodLink (am_mn m).cls idx (am_mn m2) ∈ am_W ∧ Cond.sameMethod am_aN am_aN (am_mn m2).name (am_mn m2).desc ∈ am_W ∧ Cond.superclass (am_mn m).cls am_aN ∈ am_W)
/-- a private method is selected for a builder too -/
theorem am_sel_priv {y : MethodName} {s : State} {args : Array Value} {n : Nat} (hy : y.cls ≠ "java/lang/invoke/MethodHandle" ∧ y.cls ≠ "java/lang/invoke/VarHandle") (hins : (Cond.instantiable am_bN n).before args s = true) (hpriv : (Cond.privateMethod y).before args s = true) (hinst : (Cond.instanceMethod y).before args s = true) (hsame : (Cond.sameMethod y.cls y.cls y.name y.desc).before args s = true) : (Cond.selects am_bN y y).before args s = true := by
  obtain ⟨c, k, hc, hk, -, hniab, -, -⟩ := Cond.instantiable_spec hins
  have hni : k.isInterface = false := (Bool.or_eq_false_iff.mp hniab).1
  obtain ⟨mk, methM, hnamed, hmethM, -, -⟩ := Cond.instanceMethod_spec hinst
  have hfound : s.methodFound? y.cls y.name y.desc = some mk := State.methodFound?_of_named hnamed hy
  have hsel : selectMethod {} s.vm c mk = .method mk := selectMethod_private hmethM (Cond.privateMethod_at hpriv mk methM hnamed hmethM)
  have hyc : s.vm.findClass y.cls = some mk.cls := findClass_of_methodNamed hnamed
  have hni2 : Option.any (fun x => !x.isInterface) s.vm.classes[mk.cls]? = true := by
    simp only [Cond.before, Cond.holds, Cond.value, hyc, hfound, hnamed] at hsame
    simpa using hsame
  simp only [Cond.before, Cond.holds, Cond.value, hc, hfound, hnamed, hsel, hk]
  simp
  exact hni2
theorem am_i_stat (C : am_Cx G l d m p R s mth args meth cd) {idx kind m2 r3 : Nat} (hk : kind = 2 ∨ kind = 3) (hok : am_cok m pc kind idx m2 r3) (hd : decode (am_cd m) pc = .ok (.invokestatic idx, 3)) (w : am_stp (am_Sim G l) (am_Gl G m p l e R s mth args below meth cd Q) d (am_hd m) K (am_inv kind m2 r3 (am_cap m2) (am_cap m) (am_ml m2) (am_na m2) (am_rtt m2) pc ls st h c s0)) : am_Gl G m p l e R s mth args below meth cd Q (pc, ls, st, h, c, s0) := by
  have w1 := am_inv_inv w
  clear w
  obtain ⟨as, r, hp, hc8, hcat, hrc, hcap, w⟩ := w1
  have w1 := am_dn_inv w
  clear w
  obtain ⟨d', rfl, w⟩ := w1
  obtain ⟨l0, e1, e2, e3⟩ := am_pop_spec hp
  rw [List.append_nil] at e1
  subst e2
  obtain ⟨hm2, ok1, ok2, ok3, ok4, ok5, ok6, ok7, ok8, ok9, ok10⟩ := hok
  have hCx := C
  obtain ⟨hx, hb, hml, hown, hts, hW, hR, hlk, htr, hin⟩ := C
  intro H locs arr sv hH hS hL hst hc hs0
  dsimp only at hH hL hst hc hs0 ⊢
  obtain ⟨lv, rv, rfl, hlv, hrv⟩ := am_RS_app hst
  have hvs : am_RS G as lv.reverse := by rw [e1]; exact am_RS_rev hlv
  have hlen := am_RS_len hlv
  have hcatr := am_RS_cat hrv
  have hbud : c + (am_cap m2).1 ≤ R.cells ∧ s0 + (am_cap m2).2 ≤ R.slots := by
    have := hR.2.2
    rcases hcap with hcap | hcap
    · rw [hcap]; exact ⟨hc, hs0⟩
    · omega
  have hRm : (am_rm d' m2).frames + 1 ≤ R.frames ∧ 8 + (am_ml m2 + 11) + (am_rm d' m2).locals ≤ R.locals := by
    have h1 := hR.1
    have h2 := hR.2.1
    have h3 := hm2.2.1
    refine ⟨?_, ?_⟩
    · show d' + 8 + 1 ≤ _
      omega
    · show 8 + (am_ml m2 + 11) + (40 * d' + 200) ≤ _
      omega
  have hW8 : 2 * (F0 mth pc arr (lv ++ rv)).monitorRoom + (rv.map fun v => v.category).sum ≤ 8 := by
    rw [hcatr]
    show 2 * 0 + am_cat r ≤ 8
    omega
  have hun := ok10 (by omega)
  have hh2 : am_hh m2 = [] := ok8 (by omega)
  have hcode : Cond.code (am_mn m2) (am_cd m2) (am_ml m2) (am_re m2) ∈ am_W := by
    have := hm2.2.2.2
    rw [if_pos hh2] at this
    exact this
  have hM := am_met (d := d') (m := m2) (as := as) (h := h) w (fun k v h' => am_unc_no hun) hm2 hcat htr hh2
  have hfix : CallFix p mth cd (am_cd m) (am_ml m) s args am_W (am_mn m).cls := ⟨hx, hb, hml, hown, hts⟩
  obtain ⟨k1, k2, k3⟩ := ok4 (by omega)
  have hp0 : PreS s H (am_Pc G as h) lv.reverse := ⟨am_Pc_blind, fun U hU hWU => ⟨_, rfl, hvs, by rw [hU]; exact hH, by rw [hU]; exact (hW.kept hS.1 hS.2.1).warm hWU⟩⟩
  rcases hk with hk | hk
  · have cw := va_cwS (R := R) (own := (am_mn m).cls) (index := idx) (am_na m2) hts (show GoodIn am_W (va_wsS (am_mn m).cls idx (am_mn m2) (am_GI m2)) from fun w h => by
        rcases List.mem_append.mp h with h | h
        · simp only [List.mem_cons, List.not_mem_nil, or_false] at h
          rcases h with rfl | rfl | rfl
          · exact am_good (ok2 (by omega))
          · exact am_good k1
          · exact am_good ok1
        · exact am_GI_in hcode w h) rfl rfl rfl ⟨hm2.2.2.1.1, hm2.2.2.1.2, k3⟩ hRm
    exact am_after (rt := am_rtt m2) (va_runS hfix hM cw hp0 rfl (by simp; omega) hL.1 (by simp) hW8 hd hbud) (fun v h' z => am_ret_zero z) hL hrv hS hbud.1 hbud.2
  · obtain ⟨host, k4⟩ := ok3 (by omega)
    have cw := va_cnB (R := R) (rm := am_rm d' m2) (mc := (am_cap m2).1) (ms := (am_cap m2).2) (am_na m2) hts (am_GI_in hcode) rfl rfl rfl (hW.1.2.1 _ k4 rfl) (hts _ ok1) ⟨hm2.2.2.1.1, hm2.2.2.1.2, k3⟩ hRm
    exact am_after (rt := am_rtt m2) (va_runSN hfix hM ⟨cw, hts _ k1, trivial⟩ hp0 rfl (by simp; omega) hL.1 (by simp) hW8 hd hbud) (fun v h' z => am_ret_zero z) hL hrv hS hbud.1 hbud.2
theorem am_i_virt (C : am_Cx G l d m p R s mth args meth cd) {idx kind m2 r3 : Nat} (hk : kind = 0 ∨ kind = 1) (hok : am_cok m pc kind idx m2 r3) (hd : decode (am_cd m) pc = .ok (.invokevirtual idx, 3)) (w : am_stp (am_Sim G l) (am_Gl G m p l e R s mth args below meth cd Q) d (am_hd m) K (am_inv kind m2 r3 (am_cap m2) (am_cap m) (am_ml m2) (am_na m2) (am_rtt m2) pc ls st h c s0)) : am_Gl G m p l e R s mth args below meth cd Q (pc, ls, st, h, c, s0) := by
  have w1 := am_inv_inv w
  clear w
  obtain ⟨as, r, hp, hc8, hcat, hrc, hcap, w⟩ := w1
  have w1 := am_dn_inv w
  clear w
  obtain ⟨d', rfl, w⟩ := w1
  obtain ⟨l0, e1, e2, e3⟩ := am_pop_spec hp
  rw [List.append_nil] at e1
  subst e2
  obtain ⟨hm2, ok1, ok2, ok3, ok4, ok5, ok6, ok7, ok8, ok9, ok10⟩ := hok
  have hCx := C
  obtain ⟨hx, hb, hml, hown, hts, hW, hR, hlk, htr, hin⟩ := C
  intro H locs arr sv hH hS hL hst hc hs0
  dsimp only at hH hL hst hc hs0 ⊢
  obtain ⟨lv, rv, rfl, hlv, hrv⟩ := am_RS_app hst
  have hvs : am_RS G as lv.reverse := by rw [e1]; exact am_RS_rev hlv
  have hlen := am_RS_len hlv
  have hcatr := am_RS_cat hrv
  have hbud : c + (am_cap m2).1 ≤ R.cells ∧ s0 + (am_cap m2).2 ≤ R.slots := by
    have := hR.2.2
    rcases hcap with hcap | hcap
    · rw [hcap]; exact ⟨hc, hs0⟩
    · omega
  have hRm : (am_rm d' m2).frames + 1 ≤ R.frames ∧ 8 + (am_ml m2 + 11) + (am_rm d' m2).locals ≤ R.locals := by
    have h1 := hR.1
    have h2 := hR.2.1
    have h3 := hm2.2.1
    refine ⟨?_, ?_⟩
    · show d' + 8 + 1 ≤ _
      omega
    · show 8 + (am_ml m2 + 11) + (40 * d' + 200) ≤ _
      omega
  have hW8 : 2 * (F0 mth pc arr (lv ++ rv)).monitorRoom + (rv.map fun v => v.category).sum ≤ 8 := by
    rw [hcatr]
    show 2 * 0 + am_cat r ≤ 8
    omega
  have hun := ok10 (by omega)
  have hh2 : am_hh m2 = [] := ok8 (by omega)
  have hcode : Cond.code (am_mn m2) (am_cd m2) (am_ml m2) (am_re m2) ∈ am_W := by
    have := hm2.2.2.2
    rw [if_pos hh2] at this
    exact this
  have hM := am_met (d := d') (m := m2) (as := as) (h := h) w (fun k v h' => am_unc_no hun) hm2 hcat htr hh2
  have hfix : CallFix p mth cd (am_cd m) (am_ml m) s args am_W (am_mn m).cls := ⟨hx, hb, hml, hown, hts⟩
  obtain ⟨k1, k2, k3, k4⟩ := ok5 (by omega)
  obtain ⟨k5, k6, k7⟩ := ok6 (by omega)
  obtain ⟨b, As, eV, hrec⟩ := am_recv hW hS hH hrc hvs k2 k7
  have hst2 : lv = As.reverse ++ [.ref b] := by rw [← List.reverse_reverse lv, eV]; simp
  have hAs : As.length = am_na m2 - 1 := by
    have : lv.length = As.length + 1 := by rw [hst2]; simp
    omega
  rw [eV] at hvs
  have hp0 : PreV s H (am_mn m2).cls b (am_Pc G as h) As := ⟨am_Pc_blind, hrec k6.1 k6.2, fun U hU hWU => ⟨_, rfl, hvs, by rw [hU]; exact hH, by rw [hU]; exact (hW.kept hS.1 hS.2.1).warm hWU⟩⟩
  have estk : lv ++ rv = As.reverse ++ .ref b :: rv := by rw [hst2]; simp
  rcases hk with hk | hk
  · have cw := cwV (R := R) (own := (am_mn m).cls) (C := (am_mn m2).cls) (index := idx) (am_na m2 - 1) hts (show GoodIn am_W (wsV (am_mn m).cls idx (am_mn m2).cls (am_mn m2) (am_GI m2)) from fun w h => by
        rcases List.mem_append.mp h with h | h
        · simp only [List.mem_cons, List.not_mem_nil, or_false] at h
          rcases h with rfl | rfl | rfl | rfl
          · exact am_good (ok2 (by omega))
          · exact am_good k1
          · exact am_good k5
          · exact am_good ok1
        · exact am_GI_in hcode w h) rfl rfl rfl ⟨rfl, hm2.2.2.1.1, hm2.2.2.1.2, k4⟩ hRm
    exact am_after (rt := am_rtt m2) (va_runV hfix hM cw hp0 rfl hAs hL.1 estk hW8 hd hbud) (fun v h' z => am_ret_zero z) hL hrv hS hbud.1 hbud.2
  · obtain ⟨host, k8⟩ := ok3 (by omega)
    have cw := va_cnB (R := R) (rm := am_rm d' m2) (mc := (am_cap m2).1) (ms := (am_cap m2).2) (am_na m2 - 1) hts (am_GI_in hcode) rfl rfl rfl (hW.1.2.1 _ k8 rfl) (hts _ ok1) ⟨hm2.2.2.1.1, hm2.2.2.1.2, k4⟩ hRm
    exact am_after (rt := am_rtt m2) (va_runVN hfix hM ⟨cw, hts _ k1, hts _ k5⟩ hp0 rfl hAs hL.1 estk hW8 hd hbud) (fun v h' z => am_ret_zero z) hL hrv hS hbud.1 hbud.2
theorem am_i_spec (C : am_Cx G l d m p R s mth args meth cd) {idx kind m2 r3 : Nat} (hk : kind = 4 ∨ kind = 5) (hok : am_cok m pc kind idx m2 r3) (hd : decode (am_cd m) pc = .ok (.invokespecial idx, 3)) (w : am_stp (am_Sim G l) (am_Gl G m p l e R s mth args below meth cd Q) d (am_hd m) K (am_inv kind m2 r3 (am_cap m2) (am_cap m) (am_ml m2) (am_na m2) (am_rtt m2) pc ls st h c s0)) : am_Gl G m p l e R s mth args below meth cd Q (pc, ls, st, h, c, s0) := by
  have w1 := am_inv_inv w
  clear w
  obtain ⟨as, r, hp, hc8, hcat, hrc, hcap, w⟩ := w1
  have w1 := am_dn_inv w
  clear w
  obtain ⟨d', rfl, w⟩ := w1
  obtain ⟨l0, e1, e2, e3⟩ := am_pop_spec hp
  rw [List.append_nil] at e1
  subst e2
  obtain ⟨hm2, ok1, ok2, ok3, ok4, ok5, ok6, ok7, ok8, ok9, ok10⟩ := hok
  have hCx := C
  obtain ⟨hx, hb, hml, hown, hts, hW, hR, hlk, htr, hin⟩ := C
  intro H locs arr sv hH hS hL hst hc hs0
  dsimp only at hH hL hst hc hs0 ⊢
  obtain ⟨lv, rv, rfl, hlv, hrv⟩ := am_RS_app hst
  have hvs : am_RS G as lv.reverse := by rw [e1]; exact am_RS_rev hlv
  have hlen := am_RS_len hlv
  have hcatr := am_RS_cat hrv
  have hbud : c + (am_cap m2).1 ≤ R.cells ∧ s0 + (am_cap m2).2 ≤ R.slots := by
    have := hR.2.2
    rcases hcap with hcap | hcap
    · rw [hcap]; exact ⟨hc, hs0⟩
    · omega
  have hRm : (am_rm d' m2).frames + 1 ≤ R.frames ∧ 8 + (am_ml m2 + 11) + (am_rm d' m2).locals ≤ R.locals := by
    have h1 := hR.1
    have h2 := hR.2.1
    have h3 := hm2.2.1
    refine ⟨?_, ?_⟩
    · show d' + 8 + 1 ≤ _
      omega
    · show 8 + (am_ml m2 + 11) + (40 * d' + 200) ≤ _
      omega
  have hW8 : 2 * (F0 mth pc arr (lv ++ rv)).monitorRoom + (rv.map fun v => v.category).sum ≤ 8 := by
    rw [hcatr]
    show 2 * 0 + am_cat r ≤ 8
    omega
  have hun := ok10 (by omega)
  have hh2 : am_hh m2 = [] := ok8 (by omega)
  have hcode : Cond.code (am_mn m2) (am_cd m2) (am_ml m2) (am_re m2) ∈ am_W := by
    have := hm2.2.2.2
    rw [if_pos hh2] at this
    exact this
  have hM := am_met (d := d') (m := m2) (as := as) (h := h) w (fun k v h' => am_unc_no hun) hm2 hcat htr hh2
  have hfix : CallFix p mth cd (am_cd m) (am_ml m) s args am_W (am_mn m).cls := ⟨hx, hb, hml, hown, hts⟩
  obtain ⟨k1, k2, k3, k4⟩ := ok5 (by omega)
  obtain ⟨k5, k6, k7⟩ := ok7 (by omega)
  obtain ⟨b, As, eV, -⟩ := am_recv (C := "") hW hS hH hrc hvs k2 (by rcases k6 with k6 | k6; exact Or.inr (Or.inl k6); exact Or.inr (Or.inr (Or.inl k6)))
  have hst2 : lv = As.reverse ++ [.ref b] := by rw [← List.reverse_reverse lv, eV]; simp
  have hAs : As.length = am_na m2 - 1 := by
    have : lv.length = As.length + 1 := by rw [hst2]; simp
    omega
  rw [eV] at hvs
  have hp0 : PreS s H (am_Pc G as h) (.ref b :: As) := ⟨am_Pc_blind, fun U hU hWU => ⟨_, rfl, hvs, by rw [hU]; exact hH, by rw [hU]; exact (hW.kept hS.1 hS.2.1).warm hWU⟩⟩
  have estk : lv ++ rv = As.reverse ++ .ref b :: rv := by rw [hst2]; simp
  rw [k7] at hM hcode
  have hGI : GoodIn am_W (Cond.code (am_mn m2) (am_cd m2) (am_ml m2) none :: am_W) := by
    intro w h
    rcases List.mem_cons.mp h with rfl | h
    · exact am_good hcode
    · exact am_good h
  rcases hk with hk | hk
  · have cw := cwI (R := R) (own := (am_mn m).cls) (index := idx) (am_na m2 - 1) hts hGI rfl rfl rfl (hts _ ok1) (hts _ (ok2 (by omega))) (hts _ k1) k5 ⟨hm2.2.2.1.1, hm2.2.2.1.2, k4⟩ hRm
    exact am_after (rt := am_rtt m2) (va_runI hfix hM cw hp0 rfl hAs hL.1 estk hW8 hd hbud) (fun v h' z => am_ret_zero z) hL hrv hS hbud.1 hbud.2
  · obtain ⟨host, k8⟩ := ok3 (by omega)
    have cw := va_cnB (R := R) (rm := am_rm d' m2) (mc := (am_cap m2).1) (ms := (am_cap m2).2) (am_na m2 - 1) hts hGI rfl rfl rfl (hW.1.2.1 _ k8 rfl) (hts _ ok1) ⟨hm2.2.2.1.1, hm2.2.2.1.2, k4⟩ hRm
    exact am_after (rt := am_rtt m2) (va_runIN hfix hM ⟨cw, k5, hts _ k1⟩ hp0 rfl hAs hL.1 estk hW8 hd hbud) (fun v h' z => am_ret_zero z) hL hrv hS hbud.1 hbud.2
theorem am_i_virtU (C : am_Cx G l d m p R s mth args meth cd) {idx kind m2 : Nat} (hk : kind = 8 ∨ kind = 10) (hok : am_uok m pc kind idx m2) {nb : Nat} (hnb : Cond.instantiable am_bN nb ∈ am_W) (hpv : ∀ w ∈ lw_tbl, (∃ y, w = Cond.privateMethod y) → w ∈ am_W) (hd : decode (am_cd m) pc = .ok (.invokevirtual idx, 3)) (w : am_stp (am_Sim G l) (am_Gl G m p l e R s mth args below meth cd Q) d (am_hd m) K (am_inv kind m2 8 (am_cap m2) (am_cap m) (am_ml m2) (am_na m2) (am_rtt m2) pc ls st h c s0)) : am_Gl G m p l e R s mth args below meth cd Q (pc, ls, st, h, c, s0) := by
  have w1 := am_inv_inv w
  clear w
  obtain ⟨as, r, hp, hc8, hcat, hrc, hcap, w⟩ := w1
  have w1 := am_dn_inv w
  clear w
  obtain ⟨d', rfl, w⟩ := w1
  obtain ⟨l0, e1, e2, e3⟩ := am_pop_spec hp
  rw [List.append_nil] at e1
  subst e2
  obtain ⟨hm2, ok1, k1, k3, k4, hh2, hun, u8, u10, u9⟩ := hok
  have hCx := C
  obtain ⟨hx, hb, hml, hown, hts, hW, hR, hlk, htr, hin⟩ := C
  intro H locs arr sv hH hS hL hst hc hs0
  dsimp only at hH hL hst hc hs0 ⊢
  obtain ⟨lv, rv, rfl, hlv, hrv⟩ := am_RS_app hst
  have hvs : am_RS G as lv.reverse := by rw [e1]; exact am_RS_rev hlv
  have hlen := am_RS_len hlv
  have hcatr := am_RS_cat hrv
  have hbud : c + (am_cap m2).1 ≤ R.cells ∧ s0 + (am_cap m2).2 ≤ R.slots := by
    have := hR.2.2
    rcases hcap with hcap | hcap
    · rw [hcap]; exact ⟨hc, hs0⟩
    · omega
  have hRm : (am_rm d' m2).frames + 1 ≤ R.frames ∧ 8 + (am_ml m2 + 11) + (am_rm d' m2).locals ≤ R.locals := by
    have h1 := hR.1
    have h2 := hR.2.1
    have h3 := hm2.2.1
    refine ⟨?_, ?_⟩
    · show d' + 8 + 1 ≤ _
      omega
    · show 8 + (am_ml m2 + 11) + (40 * d' + 200) ≤ _
      omega
  have hW8 : 2 * (F0 mth pc arr (lv ++ rv)).monitorRoom + (rv.map fun v => v.category).sum ≤ 8 := by
    rw [hcatr]
    show 2 * 0 + am_cat r ≤ 8
    omega
  have hcode : Cond.code (am_mn m2) (am_cd m2) (am_ml m2) (am_re m2) ∈ am_W := by
    have := hm2.2.2.2
    rw [if_pos hh2] at this
    exact this
  have hM := am_met (d := d') (m := m2) (as := as) (h := h) w (fun k v h' => am_unc_no hun) hm2 hcat htr hh2
  have hfix : CallFix p mth cd (am_cd m) (am_ml m) s args am_W (am_mn m).cls := ⟨hx, hb, hml, hown, hts⟩
  obtain ⟨b, As, eV, hrec⟩ := am_recv (C := am_bN) hW hS hH hrc hvs (by omega) (Or.inr (Or.inr (Or.inr ⟨by omega, by omega, by omega, by omega, by omega, _, rfl, rfl⟩)))
  have hst2 : lv = As.reverse ++ [.ref b] := by rw [← List.reverse_reverse lv, eV]; simp
  have hAs : As.length = am_na m2 - 1 := by
    have : lv.length = As.length + 1 := by rw [hst2]; simp
    omega
  rw [eV] at hvs
  have hp0 : PreV s H am_bN b (am_Pc G as h) As := ⟨am_Pc_blind, hrec (by omega) (by omega), fun U hU hWU => ⟨_, rfl, hvs, by rw [hU]; exact hH, by rw [hU]; exact (hW.kept hS.1 hS.2.1).warm hWU⟩⟩
  have estk : lv ++ rv = As.reverse ++ .ref b :: rv := by rw [hst2]; simp
  rcases hk with hk | hk
  · obtain ⟨c1, c2, c3, c4⟩ := u8 hk
    have hsel : (Cond.selects am_bN (am_mn m2) (am_mn m2)).before args s = true := by
      rcases c4 with c4 | c4
      · exact hts _ c4
      · exact am_sel_priv hm2.2.2.1 (hts _ hnb) (hts _ (hpv _ c4 ⟨_, rfl⟩)) (hts _ k1) (by rw [c1]; exact hts _ c3)
    have hts2 : ∀ w ∈ Cond.selects am_bN (am_mn m2) (am_mn m2) :: am_W, w.before args s = true := fun w hw => by
      rcases List.mem_cons.mp hw with rfl | hw
      · exact hsel
      · exact hts _ hw
    have gd : ∀ {w : Cond}, w ∈ am_W → w ∈ Cond.selects am_bN (am_mn m2) (am_mn m2) :: am_W ∧ ((w.onTables && w.keeps) = true ∨ ∃ ty, w = .arrayClass ty) := fun hw => ⟨List.mem_cons_of_mem _ hw, (am_good hw).2⟩
    have hfix2 : CallFix p mth cd (am_cd m) (am_ml m) s args (Cond.selects am_bN (am_mn m2) (am_mn m2) :: am_W) (am_mn m).cls := ⟨hx, hb, hml, hown, hts2⟩
    have cw := va_cwU (R := R) (own := (am_mn m).cls) (C := am_bN) (owner := am_aN) (index := idx) (x := am_mn m2) (y := am_mn m2) (am_na m2 - 1) hts2 (show GoodIn _ (va_wsU (am_mn m).cls idx am_bN am_aN (am_mn m2) (am_mn m2) (am_GI m2)) from fun w h => by
        rcases List.mem_append.mp h with h | h
        · simp only [List.mem_cons, List.not_mem_nil, or_false] at h
          rcases h with rfl | rfl | rfl | rfl | rfl
          · exact gd c2
          · rw [c1]; exact gd c3
          · exact ⟨List.mem_cons_self, Or.inl rfl⟩
          · exact gd k1
          · exact gd ok1
        · rcases List.mem_cons.mp h with rfl | h
          · exact gd hcode
          · exact gd h) rfl rfl rfl (by rw [← c1]) ⟨by decide, by decide, k4⟩ hRm
    exact am_after (rt := am_rtt m2) (va_runU hfix2 hM cw hp0 rfl hAs hL.1 estk hW8 hd hbud) (fun v h' z => am_ret_zero z) hL hrv hS hbud.1 hbud.2
  · obtain ⟨c1, c2, c3, c4, c5, b0, m0, r0, c6⟩ := u10 hk
    have cw := va_cwO (R := R) (own := (am_mn m).cls) (C := am_bN) (owner := am_aN) (index := idx) (x := ⟨am_aN, "length", "()I"⟩) (y := am_mn m2) (am_na m2 - 1) hts (show GoodIn _ (va_wsO (am_mn m).cls idx am_bN am_aN ⟨am_aN, "length", "()I"⟩ (am_mn m2) (am_GI m2)) from fun w h => by
        rcases List.mem_append.mp h with h | h
        · simp only [List.mem_cons, List.not_mem_nil, or_false] at h
          rcases h with rfl | rfl | rfl | rfl | rfl | rfl
          · exact am_good c2
          · exact am_good c3
          · exact am_good c4
          · rw [c1]; exact am_good c5
          · exact am_good k1
          · exact am_good ok1
        · exact am_GI_in hcode w h) rfl rfl rfl c6 ⟨by decide, by decide, by rw [c1] at k4; exact k4⟩ hRm
    exact am_after (rt := am_rtt m2) (va_runU hfix hM cw hp0 rfl hAs hL.1 estk hW8 hd hbud) (fun v h' z => am_ret_zero z) hL hrv hS hbud.1 hbud.2
theorem am_i_sup (C : am_Cx G l d m p R s mth args meth cd) {idx kind m2 : Nat} (hk : kind = 9) (hok : am_uok m pc kind idx m2)  (hd : decode (am_cd m) pc = .ok (.invokespecial idx, 3)) (w : am_stp (am_Sim G l) (am_Gl G m p l e R s mth args below meth cd Q) d (am_hd m) K (am_inv kind m2 8 (am_cap m2) (am_cap m) (am_ml m2) (am_na m2) (am_rtt m2) pc ls st h c s0)) : am_Gl G m p l e R s mth args below meth cd Q (pc, ls, st, h, c, s0) := by
  have w1 := am_inv_inv w
  clear w
  obtain ⟨as, r, hp, hc8, hcat, hrc, hcap, w⟩ := w1
  have w1 := am_dn_inv w
  clear w
  obtain ⟨d', rfl, w⟩ := w1
  obtain ⟨l0, e1, e2, e3⟩ := am_pop_spec hp
  rw [List.append_nil] at e1
  subst e2
  obtain ⟨hm2, ok1, k1, k3, k4, hh2, hun, u8, u10, u9⟩ := hok
  have hCx := C
  obtain ⟨hx, hb, hml, hown, hts, hW, hR, hlk, htr, hin⟩ := C
  intro H locs arr sv hH hS hL hst hc hs0
  dsimp only at hH hL hst hc hs0 ⊢
  obtain ⟨lv, rv, rfl, hlv, hrv⟩ := am_RS_app hst
  have hvs : am_RS G as lv.reverse := by rw [e1]; exact am_RS_rev hlv
  have hlen := am_RS_len hlv
  have hcatr := am_RS_cat hrv
  have hbud : c + (am_cap m2).1 ≤ R.cells ∧ s0 + (am_cap m2).2 ≤ R.slots := by
    have := hR.2.2
    rcases hcap with hcap | hcap
    · rw [hcap]; exact ⟨hc, hs0⟩
    · omega
  have hRm : (am_rm d' m2).frames + 1 ≤ R.frames ∧ 8 + (am_ml m2 + 11) + (am_rm d' m2).locals ≤ R.locals := by
    have h1 := hR.1
    have h2 := hR.2.1
    have h3 := hm2.2.1
    refine ⟨?_, ?_⟩
    · show d' + 8 + 1 ≤ _
      omega
    · show 8 + (am_ml m2 + 11) + (40 * d' + 200) ≤ _
      omega
  have hW8 : 2 * (F0 mth pc arr (lv ++ rv)).monitorRoom + (rv.map fun v => v.category).sum ≤ 8 := by
    rw [hcatr]
    show 2 * 0 + am_cat r ≤ 8
    omega
  have hcode : Cond.code (am_mn m2) (am_cd m2) (am_ml m2) (am_re m2) ∈ am_W := by
    have := hm2.2.2.2
    rw [if_pos hh2] at this
    exact this
  have hM := am_met (d := d') (m := m2) (as := as) (h := h) w (fun k v h' => am_unc_no hun) hm2 hcat htr hh2
  have hfix : CallFix p mth cd (am_cd m) (am_ml m) s args am_W (am_mn m).cls := ⟨hx, hb, hml, hown, hts⟩
  obtain ⟨b, As, eV, hrec⟩ := am_recv (C := am_bN) hW hS hH hrc hvs (by omega) (Or.inr (Or.inr (Or.inr ⟨by omega, by omega, by omega, by omega, by omega, _, rfl, rfl⟩)))
  have hst2 : lv = As.reverse ++ [.ref b] := by rw [← List.reverse_reverse lv, eV]; simp
  have hAs : As.length = am_na m2 - 1 := by
    have : lv.length = As.length + 1 := by rw [hst2]; simp
    omega
  rw [eV] at hvs
  have hp0 : PreV s H am_bN b (am_Pc G as h) As := ⟨am_Pc_blind, hrec (by omega) (by omega), fun U hU hWU => ⟨_, rfl, hvs, by rw [hU]; exact hH, by rw [hU]; exact (hW.kept hS.1 hS.2.1).warm hWU⟩⟩
  have estk : lv ++ rv = As.reverse ++ .ref b :: rv := by rw [hst2]; simp
  obtain ⟨c1, c2, c3, c4, c5⟩ := u9 hk
  have cw := va_cwSU (R := R) (own := (am_mn m).cls) (index := idx) (y := am_mn m2) (am_na m2 - 1) hts (show GoodIn _ (va_wsSU (am_mn m).cls idx (am_mn m2) (am_GI m2)) from fun w h => by
      rcases List.mem_append.mp h with h | h
      · simp only [List.mem_cons, List.not_mem_nil, or_false] at h
        rcases h with rfl | rfl | rfl | rfl | rfl
        · exact am_good c3
        · rw [c1]; exact am_good c4
        · rw [c1]; exact am_good c5
        · exact am_good k1
        · exact am_good ok1
      · exact am_GI_in hcode w h) rfl rfl rfl ⟨c2, k4⟩ hRm
  have hat := (hW.1.1.1 7 _ rfl).2
  exact am_after (rt := am_rtt m2) (va_runSU hat hfix hM cw hp0 rfl hAs hL.1 estk hW8 hd hbud) (fun v h' z => am_ret_zero z) hL hrv hS hbud.1 hbud.2
end SIM
end
section
/-! ===== calls of what may throw, and of what catches; copying rows ===== -/
def am_ct : Nat → Nat
  | 1 => 174
  | 2 => 1000
  | _ => 1001
/-- the table of a method that catches, as the abstract machine has it -/
def am_hok (m : Nat) : Prop := am_hh m = (am_hd m).map (fun e => (e.1, e.2.1, e.2.2.1, am_ct e.2.2.2)) ∧ ∀ e ∈ am_hd m, (1 ≤ e.2.2.2 ∧ e.2.2.2 ≤ 3) ∧ Cond.classLink (am_mn m).cls (am_ct e.2.2.2) (am_en e.2.2.2) ∈ am_W ∧ Cond.castable (am_en e.2.2.2) (am_en e.2.2.2) ∈ lw_tbl
theorem am_ct_pos (k : Nat) : am_ct k ≠ 0 := by
  unfold am_ct
  split <;> decide
theorem am_fnd_split {x pc : Nat} {P : Nat → Prop} : ∀ {hs : List (Nat × Nat × Nat × Nat)}, am_fnd hs x pc P → ∃ pre a b q suf, hs = pre ++ (a, b, q, x) :: suf ∧ a ≤ pc ∧ pc < b ∧ P q ∧ ∀ z ∈ pre, (z.1 ≤ pc ∧ pc < z.2.1) → z.2.2.2 ≠ x
  | [], w => w.elim
  | (a, b, q, k) :: r, w => by
    unfold am_fnd at w
    split at w
    · rename_i hh
      rw [Bool.and_eq_true, Bool.and_eq_true] at hh
      have h1 := Nat.le_of_ble_eq_true hh.1
      have h2 := Nat.le_of_ble_eq_true hh.2.1
      have h3 := Nat.eq_of_beq_eq_true hh.2.2
      subst h3
      exact ⟨[], a, b, q, r, rfl, h1, h2, w, fun z hz => by cases hz⟩
    · rename_i hh
      obtain ⟨pre, a1, b1, q1, suf, rfl, g1, g2, g3, g4⟩ := am_fnd_split w
      refine ⟨(a, b, q, k) :: pre, a1, b1, q1, suf, rfl, g1, g2, g3, fun z hz hz2 => ?_⟩
      rcases List.mem_cons.mp hz with rfl | hz
      · intro hk
        dsimp only at hz2 hk
        rw [Nat.ble_eq_true_of_le hz2.1, show Nat.blt pc b = true from Nat.ble_eq_true_of_le hz2.2, hk, Nat.beq_refl] at hh
        cases hh
      · exact g4 z hz hz2
section MET
variable {G : am_En} {l : Launch} {d m : Nat} {as : List AV} {h : AH} {K : AK}
/-- a method that catches, and only returns -/
theorem am_metW (hsim : am_Sim G l d m (0, am_ent (am_ml m) as, [], h, 0, 0) K) (hK : ∀ k v h', ¬ K (k + 1) v h') (hm : am_mok m) (hcat : am_cat as ≤ am_ml m) (htr : l.stackTraces = false) (hh : am_hh m ≠ []) :
    Met l (am_mn m) (Cond.codeWith (am_mn m) (am_cd m) (am_ml m) (am_re m) (am_hh m) :: am_W) (am_rm d m) (am_Pc G as h) (am_Qc G (am_rtt m) K) (am_cap m).1 (am_cap m).2 (fun q => eS G ≤ q) := by
  refine MetFree.of_bodyS (code := am_cd m) (maxLocals := am_ml m) (ret := am_re m) hm.1 ?_ ?_
  · intro args s mm hpre hn
    obtain ⟨m9, meth, c, hn9, h1, h2, h3, h4, -, h5, h6, -⟩ := Cond.codeWith_spec (atoms_spec (ws := Cond.codeWith (am_mn m) (am_cd m) (am_ml m) (am_re m) (am_hh m) :: am_W) hpre _ List.mem_cons_self)
    cases hn.symm.trans hn9
    exact ⟨meth, c, h1, h2, h3, h4, h5, h6⟩
  · intro p e s mth args below meth cd s₁ B hml hv _
    obtain ⟨vs, rfl, hRS, hHM, hWK⟩ := hv
    have hts := atoms_spec (ws := Cond.codeWith (am_mn m) (am_cd m) (am_ml m) (am_re m) (am_hh m) :: am_W) B.pre
    have htab : cd.exceptionTable.toList = tableOf (am_hh m) := vx_table (x := am_mn m) B (hts _ List.mem_cons_self)
    have hh0 : s₁.heap = s.heap := by rw [B.state]; rfl
    have key : W p l e (headSpec (Cond.codeWith (am_mn m) (am_cd m) (am_ml m) (am_re m) (am_hh m) :: am_W) (am_rm d m)).room s mth vs.toArray below meth cd s.heap [] 0 0 (MQ below (am_Qc G (am_rtt m) K) vs.toArray s (am_cap m).1 (am_cap m).2 (fun q => eS G ≤ q)) (entryFrame mth vs.toArray (am_ml m)) := by
      rw [lg_entry_eq]
      refine hsim p e _ s mth vs.toArray below meth cd _ (am_Cx_of B rfl hml (fun w hw => List.mem_cons_of_mem _ hw) htr hWK) htab ⟨?_, ?_⟩ s.heap [] _ [] hHM va_S.rf (am_entry hRS hcat) trivial (Nat.zero_le _) (Nat.zero_le _)
      · intro H locs arr st h2 r pc c s0 hK0 hr2 hH hS hc hs
        exact am_End_ret (Y := am_mn m) (ws := []) (s₁ := s) B.exec B.bytes B.returns B.notSynchronized hK0 hr2 hH hS hc hs
      · intro H locs arr st ast h2 pc k c s0 hK0 ht
        obtain ⟨ik, is, ic, tx, hk1, -⟩ := ht
        exact absurd (hK0 _ (Int.le_refl _)) (by obtain ⟨k, rfl⟩ : ∃ k', k = k' + 1 := ⟨k - 1, by omega⟩; exact hK _ _ _)
    obtain ⟨t, a1, o, b1, b2, b3⟩ := key s₁ hh0 (Stand.of_body B)
    exact ⟨t, o, a1, b1, b2, b3⟩
end MET
section SIM
variable {G : am_En} {l : Launch} {d m : Nat} {p : Program} {e : Env} {R : Room} {s : State} {mth : MethodId} {args : Array Value} {below : List Frame} {meth : Method} {cd : Code} {Q : State → Prop} {K : AK} {X : AX} {hs : List (Nat × Nat × Nat × Nat)}
variable {pc : Nat} {ls st : List AV} {h : AH} {c s0 : Nat}
theorem am_i_statW (C : am_Cx G l d m p R s mth args meth cd) {idx m2 r3 : Nat} (hok : am_cok m pc 15 idx m2 r3) (hd : decode (am_cd m) pc = .ok (.invokestatic idx, 3)) (w : am_stp (am_Sim G l) (am_Gl G m p l e R s mth args below meth cd Q) d (am_hd m) K (am_inv 15 m2 r3 (am_cap m2) (am_cap m) (am_ml m2) (am_na m2) (am_rtt m2) pc ls st h c s0)) : am_Gl G m p l e R s mth args below meth cd Q (pc, ls, st, h, c, s0) := by
  have w1 := am_inv_inv w
  clear w
  obtain ⟨as, r, hp, hc8, hcat, hrc, hcap, w⟩ := w1
  have w1 := am_dn_inv w
  clear w
  obtain ⟨d', rfl, w⟩ := w1
  obtain ⟨l0, e1, e2, e3⟩ := am_pop_spec hp
  rw [List.append_nil] at e1
  subst e2
  obtain ⟨hm2, ok1, ok2, ok3, ok4, ok5, ok6, ok7, ok8, ok9, ok10⟩ := hok
  have hCx := C
  obtain ⟨hx, hb, hml, hown, hts, hW, hR, hlk, htr, hin⟩ := C
  intro H locs arr sv hH hS hL hst hc hs0
  dsimp only at hH hL hst hc hs0 ⊢
  obtain ⟨lv, rv, rfl, hlv, hrv⟩ := am_RS_app hst
  have hvs : am_RS G as lv.reverse := by rw [e1]; exact am_RS_rev hlv
  have hlen := am_RS_len hlv
  have hcatr := am_RS_cat hrv
  have hbud : c + (am_cap m2).1 ≤ R.cells ∧ s0 + (am_cap m2).2 ≤ R.slots := by
    have := hR.2.2
    rcases hcap with hcap | hcap
    · rw [hcap]; exact ⟨hc, hs0⟩
    · omega
  have hRm : (am_rm d' m2).frames + 1 ≤ R.frames ∧ 8 + (am_ml m2 + 11) + (am_rm d' m2).locals ≤ R.locals := by
    have h1 := hR.1
    have h2 := hR.2.1
    have h3 := hm2.2.1
    refine ⟨?_, ?_⟩
    · show d' + 8 + 1 ≤ _
      omega
    · show 8 + (am_ml m2 + 11) + (40 * d' + 200) ≤ _
      omega
  have hW8 : 2 * (F0 mth pc arr (lv ++ rv)).monitorRoom + (rv.map fun v => v.category).sum ≤ 8 := by
    rw [hcatr]
    show 2 * 0 + am_cat r ≤ 8
    omega
  have hun := ok10 (by omega)
  have hh2 : am_hh m2 ≠ [] := ok9 rfl
  have hcode : Cond.codeWith (am_mn m2) (am_cd m2) (am_ml m2) (am_re m2) (am_hh m2) ∈ am_W := by
    have := hm2.2.2.2
    rw [if_neg hh2] at this
    exact this
  have hM := am_metW (d := d') (m := m2) (as := as) (h := h) w (fun k v h' => am_unc_no hun) hm2 hcat htr hh2
  have hfix : CallFix p mth cd (am_cd m) (am_ml m) s args am_W (am_mn m).cls := ⟨hx, hb, hml, hown, hts⟩
  obtain ⟨k1, k2, k3⟩ := ok4 (by omega)
  have hp0 : PreS s H (am_Pc G as h) lv.reverse := ⟨am_Pc_blind, fun U hU hWU => ⟨_, rfl, hvs, by rw [hU]; exact hH, by rw [hU]; exact (hW.kept hS.1 hS.2.1).warm hWU⟩⟩
  have cw := vx_cwSW (R := R) (own := (am_mn m).cls) (index := idx) (rm := am_rm d' m2) (mc := (am_cap m2).1) (ms := (am_cap m2).2) (am_na m2) hts (show GoodIn am_W (va_wsS (am_mn m).cls idx (am_mn m2) (Cond.codeWith (am_mn m2) (am_cd m2) (am_ml m2) (am_re m2) (am_hh m2) :: am_W)) from fun w h => by
      rcases List.mem_append.mp h with h | h
      · simp only [List.mem_cons, List.not_mem_nil, or_false] at h
        rcases h with rfl | rfl | rfl
        · exact am_good (ok2 (by omega))
        · exact am_good k1
        · exact am_good ok1
      · rcases List.mem_cons.mp h with rfl | h
        · exact am_good hcode
        · exact am_good h) rfl rfl rfl ⟨hm2.2.2.1.1, hm2.2.2.1.2, k3⟩ hRm
  exact am_after (rt := am_rtt m2) (vx_runSW hfix hM cw hp0 rfl (by simp; omega) hL.1 (by simp) hW8 hd hbud) (fun v h' z => am_ret_zero z) hL hrv hS hbud.1 hbud.2
theorem am_i_virtX (C : am_Cx G l d m p R s mth args meth cd) {idx m2 r3 : Nat} (hok : am_cok m pc 14 idx m2 r3) (hho : am_hok m) (htab : cd.exceptionTable.toList = tableOf (am_hh m)) (hd : decode (am_cd m) pc = .ok (.invokevirtual idx, 3)) (w : am_stp (am_Sim G l) (am_Gl G m p l e R s mth args below meth cd Q) d (am_hd m) K (am_inv 14 m2 r3 (am_cap m2) (am_cap m) (am_ml m2) (am_na m2) (am_rtt m2) pc ls st h c s0)) : am_Gl G m p l e R s mth args below meth cd Q (pc, ls, st, h, c, s0) := by
  have w1 := am_inv_inv w
  clear w
  obtain ⟨as, r, hp, hc8, hcat, hrc, hcap, w⟩ := w1
  have w1 := am_dn_inv w
  clear w
  obtain ⟨d', rfl, w⟩ := w1
  obtain ⟨l0, e1, e2, e3⟩ := am_pop_spec hp
  rw [List.append_nil] at e1
  subst e2
  obtain ⟨hm2, ok1, ok2, ok3, ok4, ok5, ok6, ok7, ok8, ok9, ok10⟩ := hok
  have hCx := C
  obtain ⟨hx, hb, hml, hown, hts, hW, hR, hlk, htr, hin⟩ := C
  intro H locs arr sv hH hS hL hst hc hs0
  dsimp only at hH hL hst hc hs0 ⊢
  obtain ⟨lv, rv, rfl, hlv, hrv⟩ := am_RS_app hst
  have hvs : am_RS G as lv.reverse := by rw [e1]; exact am_RS_rev hlv
  have hlen := am_RS_len hlv
  have hcatr := am_RS_cat hrv
  have hbud : c + (am_cap m2).1 ≤ R.cells ∧ s0 + (am_cap m2).2 ≤ R.slots := by
    have := hR.2.2
    rcases hcap with hcap | hcap
    · rw [hcap]; exact ⟨hc, hs0⟩
    · omega
  have hRm : (am_rm d' m2).frames + 1 ≤ R.frames ∧ 8 + (am_ml m2 + 11) + (am_rm d' m2).locals ≤ R.locals := by
    have h1 := hR.1
    have h2 := hR.2.1
    have h3 := hm2.2.1
    refine ⟨?_, ?_⟩
    · show d' + 8 + 1 ≤ _
      omega
    · show 8 + (am_ml m2 + 11) + (40 * d' + 200) ≤ _
      omega
  have hW8 : 2 * (F0 mth pc arr (lv ++ rv)).monitorRoom + (rv.map fun v => v.category).sum ≤ 8 := by
    rw [hcatr]
    show 2 * 0 + am_cat r ≤ 8
    omega
  have hh2 : am_hh m2 = [] := ok8 (by omega)
  have hcode : Cond.code (am_mn m2) (am_cd m2) (am_ml m2) (am_re m2) ∈ am_W := by
    have := hm2.2.2.2
    rw [if_pos hh2] at this
    exact this
  have hM := am_vmet (d := d') (m := m2) (as := as) (h := h) w hm2 hcat htr hh2
  have hfix : CallFix p mth cd (am_cd m) (am_ml m) s args am_W (am_mn m).cls := ⟨hx, hb, hml, hown, hts⟩
  obtain ⟨k1, k2, k3, k4⟩ := ok5 (by omega)
  obtain ⟨k5, k6, k7⟩ := ok6 (by omega)
  obtain ⟨b, As, eV, hrec⟩ := am_recv hW hS hH hrc hvs k2 k7
  have hst2 : lv = As.reverse ++ [.ref b] := by rw [← List.reverse_reverse lv, eV]; simp
  have hAs : As.length = am_na m2 - 1 := by
    have : lv.length = As.length + 1 := by rw [hst2]; simp
    omega
  rw [eV] at hvs
  have hp0 : PreV s H (am_mn m2).cls b (am_Pc G as h) As := ⟨am_Pc_blind, hrec k6.1 k6.2, fun U hU hWU => ⟨_, rfl, hvs, by rw [hU]; exact hH, by rw [hU]; exact (hW.kept hS.1 hS.2.1).warm hWU⟩⟩
  have estk : lv ++ rv = As.reverse ++ .ref b :: rv := by rw [hst2]; simp
  have cw := cwV (R := R) (own := (am_mn m).cls) (C := (am_mn m2).cls) (index := idx) (am_na m2 - 1) hts (show GoodIn am_W (wsV (am_mn m).cls idx (am_mn m2).cls (am_mn m2) (Cond.code (am_mn m2) (am_cd m2) (am_ml m2) (am_re m2) :: (am_W ++ lw_tbl.filter goodWord))) from fun w h => by
      rcases List.mem_append.mp h with h | h
      · simp only [List.mem_cons, List.not_mem_nil, or_false] at h
        rcases h with rfl | rfl | rfl | rfl
        · exact am_good (ok2 (by omega))
        · exact am_good k1
        · exact am_good k5
        · exact am_good ok1
      · rcases List.mem_cons.mp h with rfl | h
        · exact am_good hcode
        · rcases List.mem_append.mp h with h | h
          · exact am_good h
          · exact am_good h) rfl rfl rfl ⟨rfl, hm2.2.2.1.1, hm2.2.2.1.2, k4⟩ hRm
  have hrun := vx_runV (e := e) (below := below) (meth := meth) (locs := locs) hfix hM cw hp0 (g := F0 mth pc arr (lv ++ rv)) rfl hAs hL.1 estk hW8 hd hbud
  intro T hT X0
  rcases hrun T hT X0 with ⟨ov, st₀, t, T', L, h0, X', hLb, e5, e6, ⟨v', r', h', hv, hrv2, hK, hHM, hF⟩, stp⟩ | ⟨q, st₀, t, T', L, E, ce, h0, X', hLb, e5, e6, ⟨k, h', hk1, hk3, hE, hK, hHM, hF⟩, hce, hcv, hcl, stp⟩
  · cases hv
    obtain ⟨t2, a1, b1⟩ := am_back (am_ret_zero hK) hL hrv hrv2 hHM hF hS h0 hLb e5 hbud.1 hbud.2 T' rfl X'
    exact ⟨t2, stp t2 a1, b1⟩
  · subst hE
    have hfn : am_fnd (am_hd m) k pc (fun q => am_Gl G m p l e R s mth args below meth cd Q (q, ls, [(10, 0)], h', c + (am_cap m2).1, s0 + (am_cap m2).2)) := by
      obtain ⟨k', rfl⟩ : ∃ k', k = k' + 1 := ⟨k - 1, by omega⟩
      cases hh3 : am_hd m with
      | nil => rw [hh3] at hK; exact hK.elim
      | cons a0 b0 => rw [hh3] at hK; exact hK
    obtain ⟨pre, ha, hb', hq, suf, hsp, g1, g2, g3, g4⟩ := am_fnd_split hfn
    obtain ⟨o1, o2⟩ := hho
    have hmem : (ha, hb', hq, k) ∈ am_hd m := by rw [hsp]; simp
    obtain ⟨p1, p2, p3⟩ := o2 _ hmem
    obtain ⟨hz, hkp⟩ := hF
    rw [h0] at hz hkp
    have hcatch : vx_W p l e R s mth args below meth cd T'.heap (locs ++ L) (c + (am_cap m2).1) (s0 + (am_cap m2).2) Q (F0 mth pc arr rv) q := by
      refine vx_catch (name := am_en k) hown (pre.map fun e => ⟨e.1, e.2.1, e.2.2.1, am_ct e.2.2.2⟩) ⟨ha, hb', hq, am_ct k⟩ (suf.map fun e => ⟨e.1, e.2.1, e.2.2.1, am_ct e.2.2.2⟩) ?_ ?_ ?_ (am_ct_pos k) (hts _ p2) (va_Nw.use rfl (hW.1.2.1 _ p3 rfl)) (by rw [e5]; exact hce) hcv hcl ?_
      · rw [htab, o1, hsp]
        unfold tableOf
        simp
        rfl
      · intro z hz9
        obtain ⟨z', hz1, rfl⟩ := List.mem_map.mp hz9
        by_cases hcov : z'.1 ≤ pc ∧ pc < z'.2.1
        · have hne := g4 z' hz1 hcov
          have hmem2 : z' ∈ am_hd m := by rw [hsp]; exact List.mem_append_left _ hz1
          obtain ⟨r1, r2, r3⟩ := o2 _ hmem2
          exact Or.inr ⟨am_ct_pos _, _, hts _ r2, hW.1.2.2.2.2.1 _ _ hk1 hk3 r1.1 r1.2 (fun z => hne z.symm)⟩
        · left
          unfold covers
          simp only [Bool.and_eq_false_iff, decide_eq_false_iff_not]
          by_cases h1 : z'.1 ≤ pc
          · right
            exact fun h2 => hcov ⟨h1, h2⟩
          · left
            exact h1
      · unfold covers
        simp [g1, g2]
      · refine g3 T'.heap (locs ++ L) arr [.ref q] (by rw [e5]; exact hHM) ⟨Nat.le_trans hS.1 (by rw [e5]; exact hz), fun q h1 h2 => ?_, fun q hq => ?_⟩ hL ⟨⟨q, rfl⟩, trivial⟩ hbud.1 hbud.2
        · rw [e5, hkp q (Nat.lt_of_lt_of_le h1 hS.1) h2]
          exact hS.2.1 q h1 h2
        · rcases List.mem_append.mp hq with h | h
          · exact hS.2.2 q h
          · exact hLb q h
    obtain ⟨t2, a1, b1⟩ := hcatch T' rfl X'
    exact ⟨t2, stp.trans a1, b1⟩
theorem am_i_cp (C : am_Cx G l d m p R s mth args meth cd) {idx : Nat} (hw1 : Cond.methodLink (am_mn m).cls idx arraycopyName ∈ am_W) (hw2 : Cond.static arraycopyName ∈ am_W) (hw3 : Cond.initialized "java/lang/System" ∈ am_W) (hw4 : Cond.native arraycopyName ∈ am_W) (hd : decode (am_cd m) pc = .ok (.invokestatic idx, 3))
    (w : am_stp X (am_Gl G m p l e R s mth args below meth cd Q) d hs K (am_pI st fun n r => am_pI r fun j r => am_pR r fun b r => am_pI r fun i r => am_pR r fun a r => am_few r <| am_ck ((am_t h a = 21 ∨ am_t h a = 26) ∧ am_t h b = 21 ∧ ¬ a = b ∧ 0 ≤ n ∧ 0 ≤ i ∧ i + n ≤ am_l h a ∧ 0 ≤ j ∧ j + n ≤ am_l h b) (pc + 3, ls, r, am_cp h a i b j n, c, s0))) : am_Gl G m p l e R s mth args below meth cd Q (pc, ls, st, h, c, s0) := by
  obtain ⟨hx, hb, hml, hown, hts, hW, hR, hlk, htr, hin⟩ := C
  have w1 := am_pI_inv w
  clear w
  obtain ⟨n, r, rfl, w⟩ := w1
  have w1 := am_pI_inv w
  clear w
  obtain ⟨j, r, rfl, w⟩ := w1
  have w1 := am_pR_inv w
  clear w
  obtain ⟨b, r, rfl, w⟩ := w1
  have w1 := am_pI_inv w
  clear w
  obtain ⟨i, r, rfl, w⟩ := w1
  have w1 := am_pR_inv w
  clear w
  obtain ⟨a, r, rfl, w⟩ := w1
  obtain ⟨hfew, ⟨ha, hb2, hab, hn0, hi0, hi1, hj0, hj1⟩, w⟩ := am_few_inv w
  intro H locs arr sv hH hS hL hst hc hs0
  dsimp only at hH hL hst hc hs0 ⊢
  have hq := am_RS_inv hst
  clear hst
  obtain ⟨VN, sv, rfl, ⟨n, rfl, rfl⟩, hst⟩ := hq
  have hq := am_RS_inv hst
  clear hst
  obtain ⟨VJ, sv, rfl, ⟨j, rfl, rfl⟩, hst⟩ := hq
  have hq := am_RS_inv hst
  clear hst
  obtain ⟨VB, sv, rfl, hVB, hst⟩ := hq
  have hq := am_RS_inv hst
  clear hst
  obtain ⟨VI, sv, rfl, ⟨i, rfl, rfl⟩, hst⟩ := hq
  have hq := am_RS_inv hst
  clear hst
  obtain ⟨VA, sv, rfl, hVA, hst⟩ := hq

  obtain ⟨ga1, ga2⟩ := hH.2.2 a (by omega)
  obtain ⟨gb1, gb2⟩ := hH.2.2 b (by omega)
  cases am_RVr hVA ga1.1
  cases am_RVr hVB gb1.1
  obtain ⟨nb, g, fb1, fb2, fb3, fb4⟩ := (am_CO_y hb2).mp gb2
  have hcat := am_RS_cat hst
  have hK : va_K (eD G) vwCl [(eI G, .int), (eY G, .byte), (eJ G, .long), (eZ G, .boolean), (eQ G, .array .int), (eR G, .array .boolean)] s := hW.1.1
  have en : (n.toNatClampNeg : Int) = n.toInt := by
    show ((n.toInt.toNat : Nat) : Int) = _
    omega
  have ei : (i.toNatClampNeg : Int) = i.toInt := by
    show ((i.toInt.toNat : Nat) : Int) = _
    omega
  have ej : (j.toNatClampNeg : Int) = j.toInt := by
    show ((j.toInt.toNat : Nat) : Int) = _
    omega
  have h0i : (0 : Int32).toInt = 0 := rfl
  have i1 : ¬ i < 0 := fun z => by have := Int32.lt_iff_toInt_lt.mp z; omega
  have i2 : ¬ j < 0 := fun z => by have := Int32.lt_iff_toInt_lt.mp z; omega
  have i3 : ¬ n < 0 := fun z => by have := Int32.lt_iff_toInt_lt.mp z; omega
  have h5 : j.toNatClampNeg + n.toNatClampNeg ≤ nb := by omega
  -- the source: its cell and what is copied
  obtain ⟨ca, f, fa1, fa2, fa3, fa4, fa5, fa6⟩ : ∃ (ca : Cell) (f : Nat → Int32), H[ea G a]? = some ca ∧ s.isArrayOf ca .byte ∧ ca.vm ≠ .unknown ∧ i.toNatClampNeg + n.toNatClampNeg ≤ ca.slots.size ∧ (∀ k : Nat, k < i.toNatClampNeg + n.toNatClampNeg → ca.slots[k]? = some (.int (f k)) ∧ am_m h a (k : Int) = (f k).toInt ∧ -128 ≤ (f k).toInt ∧ (f k).toInt ≤ 127) ∧ ∀ q, ca.vm ≠ .statics q := by
    rcases ha with ha | ha
    · obtain ⟨na, f, e1, e2, e3, e4⟩ := (am_CO_y ha).mp ga2
      refine ⟨_, f, e1, (hK.2 1 _ rfl).1 na (fun j => .int (f j)), fun h => (by cases h), by rw [arrV_size]; omega, fun k hk => ⟨arrV_read _ _ (by omega), e4 k (by omega)⟩, fun q h => by cases h⟩
    · obtain ⟨j9, j1, j2, j3, j4⟩ := (am_CO_b ha).mp ga2
      obtain ⟨N, ⟨cell, q1, q2, q3, q4, q5, q6, q7⟩, s5, s6, s7⟩ := am_cTf hW j1
      have e9 : ea G a = ev G j9 := by rw [j2]; exact am_ea_v G j9
      rw [e9]
      refine ⟨cell, fun k => Int32.ofInt (am_cb j9 (k : Int)), by rw [hS.2.1 _ (Array.getElem?_eq_some_iff.mp q1).1 q7]; exact q1, q2, q3, by omega, fun k hk => ⟨q6 k (by omega), ?_⟩, q2.1⟩
      have := s7 k (by omega)
      rw [am_ofInt (by omega), j4 _ (by omega) (by omega)]
      exact ⟨rfl, by omega, by omega⟩
  intro T hT X0
  obtain ⟨-, k0, hk0, cm0, hkk0⟩ := (hK.2 1 _ rfl).1 nb (fun j => .int (g j))
  obtain ⟨-, k9, hk9, cm9, hkk9⟩ := fa2
  have hc1 : H[ea G b]? = some (vp_cell (eY G) (nb, .inl g)) := fb1
  have hfr := hR.1
  have hlo := hR.2.1
  have hnf : nativeFrameWords "java/lang/System" "arraycopy" 5 ≤ 60 := by decide +kernel
  have hval : ∀ i' : Nat, i' < n.toNatClampNeg → ca.slots.getD (i.toNatClampNeg + i') .null = .int (f (i.toNatClampNeg + i')) := fun i' hi' => by
    rw [Array.getD_eq_getD_getElem?, (fa5 _ (by omega)).1]
    rfl
  obtain ⟨vm', X', step⟩ := X0.arraycopy hx hown (hts _ hw1) (hts _ hw4) (hts _ hw2) (hts _ hw3) (src := ea G a) (dst := ea G b) (cs := ca) (cd := vp_cell (eY G) (nb, .inl g)) (srcPos := i) (destPos := j) (n := n) (by rw [hT]; exact fa1) (by rw [hT]; exact hc1)
    fa6 (fun _ h => by cases h) fa3 (fun h => by cases h) hk9 hk0 hkk9 hkk0 (by simp [refKind]) i1 i2 i3
    (by show ¬ _ > (ca.slots.size : Int); omega)
    (by show ¬ _ > ((arrV (eY G) nb (fun j => .int (g j))).slots.size : Int); rw [arrV_size]; omega)
    (fun vm₁ _ i' hi' => by
      obtain ⟨-, -, z1, z2⟩ := fa5 (i.toNatClampNeg + i') (by omega)
      refine ⟨?_, ?_⟩
      · rw [hval i' hi']
        rw [← fb_byte0 z1 (by omega)]
        exact pk_fb _
      · rw [hval i' hi']
        exact trivial)
    (g := F0 mth pc arr (.int n :: .int j :: .ref (ea G b) :: .int i :: .ref (ea G a) :: sv)) rfl (hL.1.trans hml.symm) (rest := sv) rfl (by rw [hb]; exact hd) (by omega) (by show 2 * 0 + _ + (nativeFrameWords "java/lang/System" "arraycopy" 5 + 11) ≤ _; rw [hcat]; omega)
  have e1 : copied ca (vp_cell (eY G) (nb, .inl g)) i j n = vp_cell (eY G) (nb, .inl (va_cpy f g i.toNatClampNeg j.toNatClampNeg n.toNatClampNeg)) := va_copiedX (fun z => .int z) ca (eY G) (n0 := i.toNatClampNeg + n.toNatClampNeg) f g (fun k hk => (fa5 k hk).1) (Nat.le_refl _)
  rw [e1] at X' step
  have hl : ea G b < H.size := (Array.getElem?_eq_some_iff.mp hc1).1
  have hheap : ((T.setVm vm').setCell (ea G b) (vp_cell (eY G) (nb, .inl (va_cpy f g i.toNatClampNeg j.toNatClampNeg n.toNatClampNeg)))).heap = H.setIfInBounds (ea G b) (vp_cell (eY G) (nb, .inl (va_cpy f g i.toNatClampNeg j.toNatClampNeg n.toNatClampNeg))) := by rw [← hT]; rfl
  have oq : ∀ q : Nat, q ≠ ea G b → (H.setIfInBounds (ea G b) (vp_cell (eY G) (nb, .inl (va_cpy f g i.toNatClampNeg j.toNatClampNeg n.toNatClampNeg))))[q]? = H[q]? := fun q hq => by simp [Array.getElem?_setIfInBounds, Ne.symm hq]
  have own1 : (H.setIfInBounds (ea G b) (vp_cell (eY G) (nb, .inl (va_cpy f g i.toNatClampNeg j.toNatClampNeg n.toNatClampNeg))))[ea G b]? = some (arrV (eY G) nb (fun k => .int (va_cpy f g i.toNatClampNeg j.toNatClampNeg n.toNatClampNeg k))) := by
    simp [Array.getElem?_setIfInBounds, hl]
    rfl
  have hHM : am_HM G (am_cp h a i.toInt b j.toInt n.toInt) (H.setIfInBounds (ea G b) (vp_cell (eY G) (nb, .inl (va_cpy f g i.toNatClampNeg j.toNatClampNeg n.toNatClampNeg)))) := by
    refine am_HM_set hH (a := b) ⟨by omega, by omega, by omega⟩ (by simp) oq rfl rfl (fun _ => rfl) (fun _ => rfl) (fun _ => rfl) (fun q k hq => ?_) ?_
    · show (if q = b ∧ _ ∧ _ then _ else _) = _
      rw [if_neg (fun z => hq z.1)]
      rfl
    · refine (am_CO_y (h := am_cp h a i.toInt b j.toInt n.toInt) hb2).mpr ⟨nb, _, own1, fb2, fb3, fun k hk => ?_⟩
      show (if b = b ∧ j.toInt ≤ (k : Int) ∧ (k : Int) < j.toInt + n.toInt then am_m h a (i.toInt + ((k : Int) - j.toInt)) else am_m h b (k : Int)) = _ ∧ _
      unfold va_cpy
      by_cases hk2 : j.toNatClampNeg ≤ k ∧ k < j.toNatClampNeg + n.toNatClampNeg
      · rw [if_pos (by omega), if_pos hk2, show i.toInt + ((k : Int) - j.toInt) = ((i.toNatClampNeg + (k - j.toNatClampNeg) : Nat) : Int) by omega]
        obtain ⟨-, z0, z1, z2⟩ := fa5 (i.toNatClampNeg + (k - j.toNatClampNeg)) (by omega)
        exact ⟨z0, z1, z2⟩
      · rw [if_neg (by omega), if_neg hk2]
        exact fb4 k hk
  obtain ⟨t, a1, b1⟩ := w _ _ arr sv hHM ⟨by simp; exact hS.1, fun q g1 g2 => by
      rw [oq q (fun z => g2 (by rw [z]; exact (hH.w (a := b) ⟨by omega, by omega, by omega⟩).2.1))]
      exact hS.2.1 q g1 g2, fun q hq => by
      rcases List.mem_append.mp hq with h | h
      · exact hS.2.2 q h
      · obtain ⟨z, -, hz⟩ := List.mem_map.mp h
        rw [← hz]
        exact (hH.w (a := b) ⟨by omega, by omega, by omega⟩).2.1⟩ hL hst hc hs0 _ hheap X'
  exact ⟨t, step t a1, b1⟩
end SIM
end
