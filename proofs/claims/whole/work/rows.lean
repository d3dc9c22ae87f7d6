section
-- ===== PART A: goes FIRST, ahead of the names: the tables' words, and 'selects' of the private methods out of them =====
/-- a private method of a class that the tables say can be made, by its rows of tables_1 -/
def lw_okq (q : MethodName × Nat) : Prop := (q.1.cls ≠ "java/lang/invoke/MethodHandle" ∧ q.1.cls ≠ "java/lang/invoke/VarHandle") ∧ Cond.instantiable q.1.cls q.2 ∈ tables_1 ∧ Cond.privateMethod q.1 ∈ tables_1 ∧ Cond.instanceMethod q.1 ∈ tables_1
theorem lw_p0 : lw_okq (⟨"SilenceForMoney$Reader", "findTokens", "(LSilenceForMoney$Tape;)V"⟩, 13) := ⟨⟨by decide +kernel, by decide +kernel⟩, List.mem_of_getElem? (i := 351) (by decide +kernel), List.mem_of_getElem? (i := 531) (by decide +kernel), List.mem_of_getElem? (i := 532) (by decide +kernel)⟩
theorem lw_p1 : lw_okq (⟨"SilenceForMoney$Reader", "findToken", "(LSilenceForMoney$Tape;I)I"⟩, 13) := ⟨⟨by decide +kernel, by decide +kernel⟩, List.mem_of_getElem? (i := 351) (by decide +kernel), List.mem_of_getElem? (i := 535) (by decide +kernel), List.mem_of_getElem? (i := 536) (by decide +kernel)⟩
theorem lw_p2 : lw_okq (⟨"SilenceForMoney$Reader", "keyword", "(LSilenceForMoney$Tape;II)I"⟩, 13) := ⟨⟨by decide +kernel, by decide +kernel⟩, List.mem_of_getElem? (i := 351) (by decide +kernel), List.mem_of_getElem? (i := 548) (by decide +kernel), List.mem_of_getElem? (i := 549) (by decide +kernel)⟩
theorem lw_p3 : lw_okq (⟨"SilenceForMoney$Reader", "putToken", "(III)V"⟩, 13) := ⟨⟨by decide +kernel, by decide +kernel⟩, List.mem_of_getElem? (i := 351) (by decide +kernel), List.mem_of_getElem? (i := 602) (by decide +kernel), List.mem_of_getElem? (i := 603) (by decide +kernel)⟩
theorem lw_p4 : lw_okq (⟨"SilenceForMoney$Reader", "readLine", "()V"⟩, 13) := ⟨⟨by decide +kernel, by decide +kernel⟩, List.mem_of_getElem? (i := 351) (by decide +kernel), List.mem_of_getElem? (i := 612) (by decide +kernel), List.mem_of_getElem? (i := 613) (by decide +kernel)⟩
theorem lw_p5 : lw_okq (⟨"SilenceForMoney$Reader", "fail", "(I)V"⟩, 13) := ⟨⟨by decide +kernel, by decide +kernel⟩, List.mem_of_getElem? (i := 351) (by decide +kernel), List.mem_of_getElem? (i := 616) (by decide +kernel), List.mem_of_getElem? (i := 617) (by decide +kernel)⟩
theorem lw_p6 : lw_okq (⟨"SilenceForMoney$Reader", "step", "()V"⟩, 13) := ⟨⟨by decide +kernel, by decide +kernel⟩, List.mem_of_getElem? (i := 351) (by decide +kernel), List.mem_of_getElem? (i := 620) (by decide +kernel), List.mem_of_getElem? (i := 621) (by decide +kernel)⟩
theorem lw_p7 : lw_okq (⟨"SilenceForMoney$Reader", "readLoud", "()I"⟩, 13) := ⟨⟨by decide +kernel, by decide +kernel⟩, List.mem_of_getElem? (i := 351) (by decide +kernel), List.mem_of_getElem? (i := 624) (by decide +kernel), List.mem_of_getElem? (i := 625) (by decide +kernel)⟩
theorem lw_p8 : lw_okq (⟨"SilenceForMoney$Reader", "take", "(I)Z"⟩, 13) := ⟨⟨by decide +kernel, by decide +kernel⟩, List.mem_of_getElem? (i := 351) (by decide +kernel), List.mem_of_getElem? (i := 628) (by decide +kernel), List.mem_of_getElem? (i := 629) (by decide +kernel)⟩
theorem lw_p9 : lw_okq (⟨"SilenceForMoney$Reader", "anyOf", "(I)V"⟩, 13) := ⟨⟨by decide +kernel, by decide +kernel⟩, List.mem_of_getElem? (i := 351) (by decide +kernel), List.mem_of_getElem? (i := 632) (by decide +kernel), List.mem_of_getElem? (i := 633) (by decide +kernel)⟩
theorem lw_p10 : lw_okq (⟨"SilenceForMoney$Reader", "condition", "(I)V"⟩, 13) := ⟨⟨by decide +kernel, by decide +kernel⟩, List.mem_of_getElem? (i := 351) (by decide +kernel), List.mem_of_getElem? (i := 636) (by decide +kernel), List.mem_of_getElem? (i := 637) (by decide +kernel)⟩
theorem lw_p11 : lw_okq (⟨"SilenceForMoney$Reader", "emit", "(II)V"⟩, 13) := ⟨⟨by decide +kernel, by decide +kernel⟩, List.mem_of_getElem? (i := 351) (by decide +kernel), List.mem_of_getElem? (i := 640) (by decide +kernel), List.mem_of_getElem? (i := 641) (by decide +kernel)⟩
theorem lw_p12 : lw_okq (⟨"SilenceForMoney$Reader", "sum", "()V"⟩, 13) := ⟨⟨by decide +kernel, by decide +kernel⟩, List.mem_of_getElem? (i := 351) (by decide +kernel), List.mem_of_getElem? (i := 644) (by decide +kernel), List.mem_of_getElem? (i := 645) (by decide +kernel)⟩
theorem lw_p13 : lw_okq (⟨"SilenceForMoney$Reader", "unit", "()V"⟩, 13) := ⟨⟨by decide +kernel, by decide +kernel⟩, List.mem_of_getElem? (i := 351) (by decide +kernel), List.mem_of_getElem? (i := 648) (by decide +kernel), List.mem_of_getElem? (i := 649) (by decide +kernel)⟩
theorem lw_p14 : lw_okq (⟨"SilenceForMoney$Reader", "divisor", "()V"⟩, 13) := ⟨⟨by decide +kernel, by decide +kernel⟩, List.mem_of_getElem? (i := 351) (by decide +kernel), List.mem_of_getElem? (i := 655) (by decide +kernel), List.mem_of_getElem? (i := 656) (by decide +kernel)⟩
theorem lw_p15 : lw_okq (⟨"SilenceForMoney$Reader", "closeLine", "(I)V"⟩, 13) := ⟨⟨by decide +kernel, by decide +kernel⟩, List.mem_of_getElem? (i := 351) (by decide +kernel), List.mem_of_getElem? (i := 659) (by decide +kernel), List.mem_of_getElem? (i := 660) (by decide +kernel)⟩
def lw_privs_1 : List (MethodName × Nat) := [(⟨"SilenceForMoney$Reader", "findTokens", "(LSilenceForMoney$Tape;)V"⟩, 13), (⟨"SilenceForMoney$Reader", "findToken", "(LSilenceForMoney$Tape;I)I"⟩, 13), (⟨"SilenceForMoney$Reader", "keyword", "(LSilenceForMoney$Tape;II)I"⟩, 13), (⟨"SilenceForMoney$Reader", "putToken", "(III)V"⟩, 13), (⟨"SilenceForMoney$Reader", "readLine", "()V"⟩, 13), (⟨"SilenceForMoney$Reader", "fail", "(I)V"⟩, 13), (⟨"SilenceForMoney$Reader", "step", "()V"⟩, 13), (⟨"SilenceForMoney$Reader", "readLoud", "()I"⟩, 13), (⟨"SilenceForMoney$Reader", "take", "(I)Z"⟩, 13), (⟨"SilenceForMoney$Reader", "anyOf", "(I)V"⟩, 13), (⟨"SilenceForMoney$Reader", "condition", "(I)V"⟩, 13), (⟨"SilenceForMoney$Reader", "emit", "(II)V"⟩, 13), (⟨"SilenceForMoney$Reader", "sum", "()V"⟩, 13), (⟨"SilenceForMoney$Reader", "unit", "()V"⟩, 13), (⟨"SilenceForMoney$Reader", "divisor", "()V"⟩, 13), (⟨"SilenceForMoney$Reader", "closeLine", "(I)V"⟩, 13)]
theorem lw_r1 : ∀ q ∈ lw_privs_1, lw_okq q := List.forall_mem_cons.mpr ⟨lw_p0, List.forall_mem_cons.mpr ⟨lw_p1, List.forall_mem_cons.mpr ⟨lw_p2, List.forall_mem_cons.mpr ⟨lw_p3, List.forall_mem_cons.mpr ⟨lw_p4, List.forall_mem_cons.mpr ⟨lw_p5, List.forall_mem_cons.mpr ⟨lw_p6, List.forall_mem_cons.mpr ⟨lw_p7, List.forall_mem_cons.mpr ⟨lw_p8, List.forall_mem_cons.mpr ⟨lw_p9, List.forall_mem_cons.mpr ⟨lw_p10, List.forall_mem_cons.mpr ⟨lw_p11, List.forall_mem_cons.mpr ⟨lw_p12, List.forall_mem_cons.mpr ⟨lw_p13, List.forall_mem_cons.mpr ⟨lw_p14, List.forall_mem_cons.mpr ⟨lw_p15, fun _ h => absurd h List.not_mem_nil⟩⟩⟩⟩⟩⟩⟩⟩⟩⟩⟩⟩⟩⟩⟩⟩
theorem lw_p16 : lw_okq (⟨"SilenceForMoney$Text", "isSo", "(II[I[I)Z"⟩, 4) := ⟨⟨by decide +kernel, by decide +kernel⟩, List.mem_of_getElem? (i := 31) (by decide +kernel), List.mem_of_getElem? (i := 725) (by decide +kernel), List.mem_of_getElem? (i := 726) (by decide +kernel)⟩
theorem lw_p17 : lw_okq (⟨"SilenceForMoney$World", "makeNoise", "(I)V"⟩, 10) := ⟨⟨by decide +kernel, by decide +kernel⟩, List.mem_of_getElem? (i := 53) (by decide +kernel), List.mem_of_getElem? (i := 764) (by decide +kernel), List.mem_of_getElem? (i := 765) (by decide +kernel)⟩
theorem lw_p18 : lw_okq (⟨"SilenceForMoney$World", "putNoise", "(III)V"⟩, 10) := ⟨⟨by decide +kernel, by decide +kernel⟩, List.mem_of_getElem? (i := 53) (by decide +kernel), List.mem_of_getElem? (i := 775) (by decide +kernel), List.mem_of_getElem? (i := 776) (by decide +kernel)⟩
theorem lw_p19 : lw_okq (⟨"SilenceForMoney$World", "judgeNoise", "(I)V"⟩, 10) := ⟨⟨by decide +kernel, by decide +kernel⟩, List.mem_of_getElem? (i := 53) (by decide +kernel), List.mem_of_getElem? (i := 780) (by decide +kernel), List.mem_of_getElem? (i := 781) (by decide +kernel)⟩
theorem lw_p20 : lw_okq (⟨"SilenceForMoney$World", "ring", "(I)V"⟩, 10) := ⟨⟨by decide +kernel, by decide +kernel⟩, List.mem_of_getElem? (i := 53) (by decide +kernel), List.mem_of_getElem? (i := 786) (by decide +kernel), List.mem_of_getElem? (i := 787) (by decide +kernel)⟩
theorem lw_p21 : lw_okq (⟨"SilenceForMoney$World", "chooseDebts", "()V"⟩, 10) := ⟨⟨by decide +kernel, by decide +kernel⟩, List.mem_of_getElem? (i := 53) (by decide +kernel), List.mem_of_getElem? (i := 794) (by decide +kernel), List.mem_of_getElem? (i := 795) (by decide +kernel)⟩
theorem lw_p22 : lw_okq (⟨"SilenceForMoney$World", "keepQuiet", "(II)V"⟩, 10) := ⟨⟨by decide +kernel, by decide +kernel⟩, List.mem_of_getElem? (i := 53) (by decide +kernel), List.mem_of_getElem? (i := 804) (by decide +kernel), List.mem_of_getElem? (i := 805) (by decide +kernel)⟩
theorem lw_p23 : lw_okq (⟨"SilenceForMoney$World", "isWordHeardOf", "(I)Z"⟩, 10) := ⟨⟨by decide +kernel, by decide +kernel⟩, List.mem_of_getElem? (i := 53) (by decide +kernel), List.mem_of_getElem? (i := 808) (by decide +kernel), List.mem_of_getElem? (i := 809) (by decide +kernel)⟩
theorem lw_p24 : lw_okq (⟨"SilenceForMoney$World", "isHeard", "(I)Z"⟩, 10) := ⟨⟨by decide +kernel, by decide +kernel⟩, List.mem_of_getElem? (i := 53) (by decide +kernel), List.mem_of_getElem? (i := 812) (by decide +kernel), List.mem_of_getElem? (i := 813) (by decide +kernel)⟩
theorem lw_p25 : lw_okq (⟨"SilenceForMoney$World", "beginAgain", "(III)V"⟩, 10) := ⟨⟨by decide +kernel, by decide +kernel⟩, List.mem_of_getElem? (i := 53) (by decide +kernel), List.mem_of_getElem? (i := 824) (by decide +kernel), List.mem_of_getElem? (i := 825) (by decide +kernel)⟩
theorem lw_p26 : lw_okq (⟨"SilenceForMoney$World", "payQuarter", "(II)V"⟩, 10) := ⟨⟨by decide +kernel, by decide +kernel⟩, List.mem_of_getElem? (i := 53) (by decide +kernel), List.mem_of_getElem? (i := 828) (by decide +kernel), List.mem_of_getElem? (i := 829) (by decide +kernel)⟩
theorem lw_p27 : lw_okq (⟨"SilenceForMoney$Bargains", "keep", "(LSilenceForMoney$Bargain;)V"⟩, 2) := ⟨⟨by decide +kernel, by decide +kernel⟩, List.mem_of_getElem? (i := 237) (by decide +kernel), List.mem_of_getElem? (i := 894) (by decide +kernel), List.mem_of_getElem? (i := 895) (by decide +kernel)⟩
theorem lw_p28 : lw_okq (⟨"SilenceForMoney$Debts", "greatestLeft", "()I"⟩, 11) := ⟨⟨by decide +kernel, by decide +kernel⟩, List.mem_of_getElem? (i := 112) (by decide +kernel), List.mem_of_getElem? (i := 986) (by decide +kernel), List.mem_of_getElem? (i := 987) (by decide +kernel)⟩
theorem lw_p29 : lw_okq (⟨"SilenceForMoney$Debts", "hoursOnlyFor", "(I)I"⟩, 11) := ⟨⟨by decide +kernel, by decide +kernel⟩, List.mem_of_getElem? (i := 112) (by decide +kernel), List.mem_of_getElem? (i := 990) (by decide +kernel), List.mem_of_getElem? (i := 991) (by decide +kernel)⟩
theorem lw_p30 : lw_okq (⟨"SilenceForMoney$World", "canMakeWord", "(IIIZ)Z"⟩, 10) := ⟨⟨by decide +kernel, by decide +kernel⟩, List.mem_of_getElem? (i := 53) (by decide +kernel), List.mem_of_getElem? (i := 1020) (by decide +kernel), List.mem_of_getElem? (i := 1021) (by decide +kernel)⟩
theorem lw_p31 : lw_okq (⟨"SilenceForMoney", "think", "(II)V"⟩, 5) := ⟨⟨by decide +kernel, by decide +kernel⟩, List.mem_of_getElem? (i := 23) (by decide +kernel), List.mem_of_getElem? (i := 1072) (by decide +kernel), List.mem_of_getElem? (i := 1073) (by decide +kernel)⟩
def lw_privs_2 : List (MethodName × Nat) := [(⟨"SilenceForMoney$Text", "isSo", "(II[I[I)Z"⟩, 4), (⟨"SilenceForMoney$World", "makeNoise", "(I)V"⟩, 10), (⟨"SilenceForMoney$World", "putNoise", "(III)V"⟩, 10), (⟨"SilenceForMoney$World", "judgeNoise", "(I)V"⟩, 10), (⟨"SilenceForMoney$World", "ring", "(I)V"⟩, 10), (⟨"SilenceForMoney$World", "chooseDebts", "()V"⟩, 10), (⟨"SilenceForMoney$World", "keepQuiet", "(II)V"⟩, 10), (⟨"SilenceForMoney$World", "isWordHeardOf", "(I)Z"⟩, 10), (⟨"SilenceForMoney$World", "isHeard", "(I)Z"⟩, 10), (⟨"SilenceForMoney$World", "beginAgain", "(III)V"⟩, 10), (⟨"SilenceForMoney$World", "payQuarter", "(II)V"⟩, 10), (⟨"SilenceForMoney$Bargains", "keep", "(LSilenceForMoney$Bargain;)V"⟩, 2), (⟨"SilenceForMoney$Debts", "greatestLeft", "()I"⟩, 11), (⟨"SilenceForMoney$Debts", "hoursOnlyFor", "(I)I"⟩, 11), (⟨"SilenceForMoney$World", "canMakeWord", "(IIIZ)Z"⟩, 10), (⟨"SilenceForMoney", "think", "(II)V"⟩, 5)]
theorem lw_r2 : ∀ q ∈ lw_privs_2, lw_okq q := List.forall_mem_cons.mpr ⟨lw_p16, List.forall_mem_cons.mpr ⟨lw_p17, List.forall_mem_cons.mpr ⟨lw_p18, List.forall_mem_cons.mpr ⟨lw_p19, List.forall_mem_cons.mpr ⟨lw_p20, List.forall_mem_cons.mpr ⟨lw_p21, List.forall_mem_cons.mpr ⟨lw_p22, List.forall_mem_cons.mpr ⟨lw_p23, List.forall_mem_cons.mpr ⟨lw_p24, List.forall_mem_cons.mpr ⟨lw_p25, List.forall_mem_cons.mpr ⟨lw_p26, List.forall_mem_cons.mpr ⟨lw_p27, List.forall_mem_cons.mpr ⟨lw_p28, List.forall_mem_cons.mpr ⟨lw_p29, List.forall_mem_cons.mpr ⟨lw_p30, List.forall_mem_cons.mpr ⟨lw_p31, fun _ h => absurd h List.not_mem_nil⟩⟩⟩⟩⟩⟩⟩⟩⟩⟩⟩⟩⟩⟩⟩⟩
theorem lw_p32 : lw_okq (⟨"SilenceForMoneyModel", "hushes", "(I)V"⟩, 25) := ⟨⟨by decide +kernel, by decide +kernel⟩, List.mem_of_getElem? (i := 1113) (by decide +kernel), List.mem_of_getElem? (i := 1119) (by decide +kernel), List.mem_of_getElem? (i := 1120) (by decide +kernel)⟩
theorem lw_p33 : lw_okq (⟨"SilenceForMoneyModel", "gives", "(III)V"⟩, 25) := ⟨⟨by decide +kernel, by decide +kernel⟩, List.mem_of_getElem? (i := 1113) (by decide +kernel), List.mem_of_getElem? (i := 1213) (by decide +kernel), List.mem_of_getElem? (i := 1214) (by decide +kernel)⟩
theorem lw_p34 : lw_okq (⟨"SilenceForMoneyModel", "isOne", "(I)Z"⟩, 25) := ⟨⟨by decide +kernel, by decide +kernel⟩, List.mem_of_getElem? (i := 1113) (by decide +kernel), List.mem_of_getElem? (i := 1221) (by decide +kernel), List.mem_of_getElem? (i := 1222) (by decide +kernel)⟩
theorem lw_p35 : lw_okq (⟨"SilenceForMoneyModel", "own", "(II)I"⟩, 25) := ⟨⟨by decide +kernel, by decide +kernel⟩, List.mem_of_getElem? (i := 1113) (by decide +kernel), List.mem_of_getElem? (i := 1225) (by decide +kernel), List.mem_of_getElem? (i := 1226) (by decide +kernel)⟩
theorem lw_p36 : lw_okq (⟨"SilenceForMoneyModel", "lays0", "(III)V"⟩, 25) := ⟨⟨by decide +kernel, by decide +kernel⟩, List.mem_of_getElem? (i := 1113) (by decide +kernel), List.mem_of_getElem? (i := 1242) (by decide +kernel), List.mem_of_getElem? (i := 1243) (by decide +kernel)⟩
theorem lw_p37 : lw_okq (⟨"SilenceForMoneyModel", "isDebt", "(I)Z"⟩, 25) := ⟨⟨by decide +kernel, by decide +kernel⟩, List.mem_of_getElem? (i := 1113) (by decide +kernel), List.mem_of_getElem? (i := 1250) (by decide +kernel), List.mem_of_getElem? (i := 1251) (by decide +kernel)⟩
theorem lw_p38 : lw_okq (⟨"SilenceForMoneyModel", "debtOf", "(II)I"⟩, 25) := ⟨⟨by decide +kernel, by decide +kernel⟩, List.mem_of_getElem? (i := 1113) (by decide +kernel), List.mem_of_getElem? (i := 1258) (by decide +kernel), List.mem_of_getElem? (i := 1259) (by decide +kernel)⟩
theorem lw_p39 : lw_okq (⟨"SilenceForMoneyModel", "workerOf", "(I)I"⟩, 25) := ⟨⟨by decide +kernel, by decide +kernel⟩, List.mem_of_getElem? (i := 1113) (by decide +kernel), List.mem_of_getElem? (i := 1262) (by decide +kernel), List.mem_of_getElem? (i := 1263) (by decide +kernel)⟩
theorem lw_p40 : lw_okq (⟨"SilenceForMoneyModel", "next0", "()V"⟩, 25) := ⟨⟨by decide +kernel, by decide +kernel⟩, List.mem_of_getElem? (i := 1113) (by decide +kernel), List.mem_of_getElem? (i := 1278) (by decide +kernel), List.mem_of_getElem? (i := 1279) (by decide +kernel)⟩
theorem lw_p41 : lw_okq (⟨"SilenceForMoneyModel", "see", "(I)I"⟩, 25) := ⟨⟨by decide +kernel, by decide +kernel⟩, List.mem_of_getElem? (i := 1113) (by decide +kernel), List.mem_of_getElem? (i := 1282) (by decide +kernel), List.mem_of_getElem? (i := 1283) (by decide +kernel)⟩
theorem lw_p42 : lw_okq (⟨"SilenceForMoneyModel", "word0", "()I"⟩, 25) := ⟨⟨by decide +kernel, by decide +kernel⟩, List.mem_of_getElem? (i := 1113) (by decide +kernel), List.mem_of_getElem? (i := 1289) (by decide +kernel), List.mem_of_getElem? (i := 1290) (by decide +kernel)⟩
theorem lw_p43 : lw_okq (⟨"SilenceForMoneyModel", "is", "(Ljava/lang/String;)Z"⟩, 25) := ⟨⟨by decide +kernel, by decide +kernel⟩, List.mem_of_getElem? (i := 1113) (by decide +kernel), List.mem_of_getElem? (i := 1294) (by decide +kernel), List.mem_of_getElem? (i := 1295) (by decide +kernel)⟩
theorem lw_p44 : lw_okq (⟨"SilenceForMoneyModel", "lawWord", "()I"⟩, 25) := ⟨⟨by decide +kernel, by decide +kernel⟩, List.mem_of_getElem? (i := 1113) (by decide +kernel), List.mem_of_getElem? (i := 1306) (by decide +kernel), List.mem_of_getElem? (i := 1307) (by decide +kernel)⟩
theorem lw_p45 : lw_okq (⟨"SilenceForMoneyModel", "ruleWord", "()I"⟩, 25) := ⟨⟨by decide +kernel, by decide +kernel⟩, List.mem_of_getElem? (i := 1113) (by decide +kernel), List.mem_of_getElem? (i := 1314) (by decide +kernel), List.mem_of_getElem? (i := 1315) (by decide +kernel)⟩
theorem lw_p46 : lw_okq (⟨"SilenceForMoneyModel", "aLine", "()Z"⟩, 25) := ⟨⟨by decide +kernel, by decide +kernel⟩, List.mem_of_getElem? (i := 1113) (by decide +kernel), List.mem_of_getElem? (i := 1329) (by decide +kernel), List.mem_of_getElem? (i := 1330) (by decide +kernel)⟩
theorem lw_p47 : lw_okq (⟨"SilenceForMoneyModel", "bad", "(I)Z"⟩, 25) := ⟨⟨by decide +kernel, by decide +kernel⟩, List.mem_of_getElem? (i := 1113) (by decide +kernel), List.mem_of_getElem? (i := 1333) (by decide +kernel), List.mem_of_getElem? (i := 1334) (by decide +kernel)⟩
def lw_privs_3 : List (MethodName × Nat) := [(⟨"SilenceForMoneyModel", "hushes", "(I)V"⟩, 25), (⟨"SilenceForMoneyModel", "gives", "(III)V"⟩, 25), (⟨"SilenceForMoneyModel", "isOne", "(I)Z"⟩, 25), (⟨"SilenceForMoneyModel", "own", "(II)I"⟩, 25), (⟨"SilenceForMoneyModel", "lays0", "(III)V"⟩, 25), (⟨"SilenceForMoneyModel", "isDebt", "(I)Z"⟩, 25), (⟨"SilenceForMoneyModel", "debtOf", "(II)I"⟩, 25), (⟨"SilenceForMoneyModel", "workerOf", "(I)I"⟩, 25), (⟨"SilenceForMoneyModel", "next0", "()V"⟩, 25), (⟨"SilenceForMoneyModel", "see", "(I)I"⟩, 25), (⟨"SilenceForMoneyModel", "word0", "()I"⟩, 25), (⟨"SilenceForMoneyModel", "is", "(Ljava/lang/String;)Z"⟩, 25), (⟨"SilenceForMoneyModel", "lawWord", "()I"⟩, 25), (⟨"SilenceForMoneyModel", "ruleWord", "()I"⟩, 25), (⟨"SilenceForMoneyModel", "aLine", "()Z"⟩, 25), (⟨"SilenceForMoneyModel", "bad", "(I)Z"⟩, 25)]
theorem lw_r3 : ∀ q ∈ lw_privs_3, lw_okq q := List.forall_mem_cons.mpr ⟨lw_p32, List.forall_mem_cons.mpr ⟨lw_p33, List.forall_mem_cons.mpr ⟨lw_p34, List.forall_mem_cons.mpr ⟨lw_p35, List.forall_mem_cons.mpr ⟨lw_p36, List.forall_mem_cons.mpr ⟨lw_p37, List.forall_mem_cons.mpr ⟨lw_p38, List.forall_mem_cons.mpr ⟨lw_p39, List.forall_mem_cons.mpr ⟨lw_p40, List.forall_mem_cons.mpr ⟨lw_p41, List.forall_mem_cons.mpr ⟨lw_p42, List.forall_mem_cons.mpr ⟨lw_p43, List.forall_mem_cons.mpr ⟨lw_p44, List.forall_mem_cons.mpr ⟨lw_p45, List.forall_mem_cons.mpr ⟨lw_p46, List.forall_mem_cons.mpr ⟨lw_p47, fun _ h => absurd h List.not_mem_nil⟩⟩⟩⟩⟩⟩⟩⟩⟩⟩⟩⟩⟩⟩⟩⟩
theorem lw_p48 : lw_okq (⟨"SilenceForMoneyModel", "number", "(II)Z"⟩, 25) := ⟨⟨by decide +kernel, by decide +kernel⟩, List.mem_of_getElem? (i := 1113) (by decide +kernel), List.mem_of_getElem? (i := 1337) (by decide +kernel), List.mem_of_getElem? (i := 1338) (by decide +kernel)⟩
theorem lw_p49 : lw_okq (⟨"SilenceForMoneyModel", "need", "(I)Z"⟩, 25) := ⟨⟨by decide +kernel, by decide +kernel⟩, List.mem_of_getElem? (i := 1113) (by decide +kernel), List.mem_of_getElem? (i := 1341) (by decide +kernel), List.mem_of_getElem? (i := 1342) (by decide +kernel)⟩
theorem lw_p50 : lw_okq (⟨"SilenceForMoneyModel", "any", "()Z"⟩, 25) := ⟨⟨by decide +kernel, by decide +kernel⟩, List.mem_of_getElem? (i := 1113) (by decide +kernel), List.mem_of_getElem? (i := 1345) (by decide +kernel), List.mem_of_getElem? (i := 1346) (by decide +kernel)⟩
theorem lw_p51 : lw_okq (⟨"SilenceForMoneyModel", "every", "()Z"⟩, 25) := ⟨⟨by decide +kernel, by decide +kernel⟩, List.mem_of_getElem? (i := 1113) (by decide +kernel), List.mem_of_getElem? (i := 1349) (by decide +kernel), List.mem_of_getElem? (i := 1350) (by decide +kernel)⟩
theorem lw_p52 : lw_okq (⟨"SilenceForMoneyModel", "one0", "()Z"⟩, 25) := ⟨⟨by decide +kernel, by decide +kernel⟩, List.mem_of_getElem? (i := 1113) (by decide +kernel), List.mem_of_getElem? (i := 1353) (by decide +kernel), List.mem_of_getElem? (i := 1354) (by decide +kernel)⟩
theorem lw_p53 : lw_okq (⟨"SilenceForMoneyModel", "opens", "()Z"⟩, 25) := ⟨⟨by decide +kernel, by decide +kernel⟩, List.mem_of_getElem? (i := 1113) (by decide +kernel), List.mem_of_getElem? (i := 1357) (by decide +kernel), List.mem_of_getElem? (i := 1358) (by decide +kernel)⟩
theorem lw_p54 : lw_okq (⟨"SilenceForMoneyModel", "lay", "(II)V"⟩, 25) := ⟨⟨by decide +kernel, by decide +kernel⟩, List.mem_of_getElem? (i := 1113) (by decide +kernel), List.mem_of_getElem? (i := 1361) (by decide +kernel), List.mem_of_getElem? (i := 1362) (by decide +kernel)⟩
theorem lw_p55 : lw_okq (⟨"SilenceForMoneyModel", "sumUp", "()Z"⟩, 25) := ⟨⟨by decide +kernel, by decide +kernel⟩, List.mem_of_getElem? (i := 1113) (by decide +kernel), List.mem_of_getElem? (i := 1365) (by decide +kernel), List.mem_of_getElem? (i := 1366) (by decide +kernel)⟩
theorem lw_p56 : lw_okq (⟨"SilenceForMoneyModel", "product", "()Z"⟩, 25) := ⟨⟨by decide +kernel, by decide +kernel⟩, List.mem_of_getElem? (i := 1113) (by decide +kernel), List.mem_of_getElem? (i := 1369) (by decide +kernel), List.mem_of_getElem? (i := 1370) (by decide +kernel)⟩
theorem lw_p57 : lw_okq (⟨"SilenceForMoneyModel", "unit", "()Z"⟩, 25) := ⟨⟨by decide +kernel, by decide +kernel⟩, List.mem_of_getElem? (i := 1113) (by decide +kernel), List.mem_of_getElem? (i := 1373) (by decide +kernel), List.mem_of_getElem? (i := 1374) (by decide +kernel)⟩
theorem lw_p58 : lw_okq (⟨"SilenceForMoneyModel", "isWord", "(IIIIZZ)Z"⟩, 25) := ⟨⟨by decide +kernel, by decide +kernel⟩, List.mem_of_getElem? (i := 1113) (by decide +kernel), List.mem_of_getElem? (i := 1385) (by decide +kernel), List.mem_of_getElem? (i := 1386) (by decide +kernel)⟩
theorem lw_p59 : lw_okq (⟨"SilenceForMoneyModel", "firstLine", "(I)I"⟩, 25) := ⟨⟨by decide +kernel, by decide +kernel⟩, List.mem_of_getElem? (i := 1113) (by decide +kernel), List.mem_of_getElem? (i := 1392) (by decide +kernel), List.mem_of_getElem? (i := 1393) (by decide +kernel)⟩
theorem lw_p60 : lw_okq (⟨"SilenceForMoneyModel", "comesTo", "(III)I"⟩, 25) := ⟨⟨by decide +kernel, by decide +kernel⟩, List.mem_of_getElem? (i := 1113) (by decide +kernel), List.mem_of_getElem? (i := 1396) (by decide +kernel), List.mem_of_getElem? (i := 1397) (by decide +kernel)⟩
theorem lw_p61 : lw_okq (⟨"SilenceForMoneyModel", "ruled", "(I)I"⟩, 25) := ⟨⟨by decide +kernel, by decide +kernel⟩, List.mem_of_getElem? (i := 1113) (by decide +kernel), List.mem_of_getElem? (i := 1407) (by decide +kernel), List.mem_of_getElem? (i := 1408) (by decide +kernel)⟩
theorem lw_p62 : lw_okq (⟨"SilenceForMoneyModel", "hourNow", "()I"⟩, 25) := ⟨⟨by decide +kernel, by decide +kernel⟩, List.mem_of_getElem? (i := 1113) (by decide +kernel), List.mem_of_getElem? (i := 1411) (by decide +kernel), List.mem_of_getElem? (i := 1412) (by decide +kernel)⟩
theorem lw_p63 : lw_okq (⟨"SilenceForMoneyModel", "isFeast", "(I)Z"⟩, 25) := ⟨⟨by decide +kernel, by decide +kernel⟩, List.mem_of_getElem? (i := 1113) (by decide +kernel), List.mem_of_getElem? (i := 1415) (by decide +kernel), List.mem_of_getElem? (i := 1416) (by decide +kernel)⟩
def lw_privs_4 : List (MethodName × Nat) := [(⟨"SilenceForMoneyModel", "number", "(II)Z"⟩, 25), (⟨"SilenceForMoneyModel", "need", "(I)Z"⟩, 25), (⟨"SilenceForMoneyModel", "any", "()Z"⟩, 25), (⟨"SilenceForMoneyModel", "every", "()Z"⟩, 25), (⟨"SilenceForMoneyModel", "one0", "()Z"⟩, 25), (⟨"SilenceForMoneyModel", "opens", "()Z"⟩, 25), (⟨"SilenceForMoneyModel", "lay", "(II)V"⟩, 25), (⟨"SilenceForMoneyModel", "sumUp", "()Z"⟩, 25), (⟨"SilenceForMoneyModel", "product", "()Z"⟩, 25), (⟨"SilenceForMoneyModel", "unit", "()Z"⟩, 25), (⟨"SilenceForMoneyModel", "isWord", "(IIIIZZ)Z"⟩, 25), (⟨"SilenceForMoneyModel", "firstLine", "(I)I"⟩, 25), (⟨"SilenceForMoneyModel", "comesTo", "(III)I"⟩, 25), (⟨"SilenceForMoneyModel", "ruled", "(I)I"⟩, 25), (⟨"SilenceForMoneyModel", "hourNow", "()I"⟩, 25), (⟨"SilenceForMoneyModel", "isFeast", "(I)Z"⟩, 25)]
theorem lw_r4 : ∀ q ∈ lw_privs_4, lw_okq q := List.forall_mem_cons.mpr ⟨lw_p48, List.forall_mem_cons.mpr ⟨lw_p49, List.forall_mem_cons.mpr ⟨lw_p50, List.forall_mem_cons.mpr ⟨lw_p51, List.forall_mem_cons.mpr ⟨lw_p52, List.forall_mem_cons.mpr ⟨lw_p53, List.forall_mem_cons.mpr ⟨lw_p54, List.forall_mem_cons.mpr ⟨lw_p55, List.forall_mem_cons.mpr ⟨lw_p56, List.forall_mem_cons.mpr ⟨lw_p57, List.forall_mem_cons.mpr ⟨lw_p58, List.forall_mem_cons.mpr ⟨lw_p59, List.forall_mem_cons.mpr ⟨lw_p60, List.forall_mem_cons.mpr ⟨lw_p61, List.forall_mem_cons.mpr ⟨lw_p62, List.forall_mem_cons.mpr ⟨lw_p63, fun _ h => absurd h List.not_mem_nil⟩⟩⟩⟩⟩⟩⟩⟩⟩⟩⟩⟩⟩⟩⟩⟩
theorem lw_p64 : lw_okq (⟨"SilenceForMoneyModel", "left", "(II)I"⟩, 25) := ⟨⟨by decide +kernel, by decide +kernel⟩, List.mem_of_getElem? (i := 1113) (by decide +kernel), List.mem_of_getElem? (i := 1419) (by decide +kernel), List.mem_of_getElem? (i := 1420) (by decide +kernel)⟩
theorem lw_p65 : lw_okq (⟨"SilenceForMoneyModel", "aQuarter", "()V"⟩, 25) := ⟨⟨by decide +kernel, by decide +kernel⟩, List.mem_of_getElem? (i := 1113) (by decide +kernel), List.mem_of_getElem? (i := 1431) (by decide +kernel), List.mem_of_getElem? (i := 1432) (by decide +kernel)⟩
theorem lw_p66 : lw_okq (⟨"SilenceForMoneyModel", "makesNoise", "(I)V"⟩, 25) := ⟨⟨by decide +kernel, by decide +kernel⟩, List.mem_of_getElem? (i := 1113) (by decide +kernel), List.mem_of_getElem? (i := 1435) (by decide +kernel), List.mem_of_getElem? (i := 1436) (by decide +kernel)⟩
theorem lw_p67 : lw_okq (⟨"SilenceForMoneyModel", "draw", "(I)I"⟩, 25) := ⟨⟨by decide +kernel, by decide +kernel⟩, List.mem_of_getElem? (i := 1113) (by decide +kernel), List.mem_of_getElem? (i := 1439) (by decide +kernel), List.mem_of_getElem? (i := 1440) (by decide +kernel)⟩
theorem lw_p68 : lw_okq (⟨"SilenceForMoneyModel", "sounds", "(III)V"⟩, 25) := ⟨⟨by decide +kernel, by decide +kernel⟩, List.mem_of_getElem? (i := 1113) (by decide +kernel), List.mem_of_getElem? (i := 1445) (by decide +kernel), List.mem_of_getElem? (i := 1446) (by decide +kernel)⟩
theorem lw_p69 : lw_okq (⟨"SilenceForMoneyModel", "writes", "(III)V"⟩, 25) := ⟨⟨by decide +kernel, by decide +kernel⟩, List.mem_of_getElem? (i := 1113) (by decide +kernel), List.mem_of_getElem? (i := 1449) (by decide +kernel), List.mem_of_getElem? (i := 1450) (by decide +kernel)⟩
theorem lw_p70 : lw_okq (⟨"SilenceForMoneyModel", "keptFor", "(I)I"⟩, 25) := ⟨⟨by decide +kernel, by decide +kernel⟩, List.mem_of_getElem? (i := 1113) (by decide +kernel), List.mem_of_getElem? (i := 1453) (by decide +kernel), List.mem_of_getElem? (i := 1454) (by decide +kernel)⟩
theorem lw_p71 : lw_okq (⟨"SilenceForMoneyModel", "keeps", "(II)V"⟩, 25) := ⟨⟨by decide +kernel, by decide +kernel⟩, List.mem_of_getElem? (i := 1113) (by decide +kernel), List.mem_of_getElem? (i := 1457) (by decide +kernel), List.mem_of_getElem? (i := 1458) (by decide +kernel)⟩
theorem lw_p72 : lw_okq (⟨"SilenceForMoneyModel", "isBetrayed", "(I)Z"⟩, 25) := ⟨⟨by decide +kernel, by decide +kernel⟩, List.mem_of_getElem? (i := 1113) (by decide +kernel), List.mem_of_getElem? (i := 1461) (by decide +kernel), List.mem_of_getElem? (i := 1462) (by decide +kernel)⟩
theorem lw_p73 : lw_okq (⟨"SilenceForMoneyModel", "isHeard", "(I)Z"⟩, 25) := ⟨⟨by decide +kernel, by decide +kernel⟩, List.mem_of_getElem? (i := 1113) (by decide +kernel), List.mem_of_getElem? (i := 1465) (by decide +kernel), List.mem_of_getElem? (i := 1466) (by decide +kernel)⟩
theorem lw_p74 : lw_okq (⟨"SilenceForMoneyModel", "isLeft", "(I)Z"⟩, 25) := ⟨⟨by decide +kernel, by decide +kernel⟩, List.mem_of_getElem? (i := 1113) (by decide +kernel), List.mem_of_getElem? (i := 1473) (by decide +kernel), List.mem_of_getElem? (i := 1474) (by decide +kernel)⟩
theorem lw_p75 : lw_okq (⟨"SilenceForMoneyModel", "begins", "(III)V"⟩, 25) := ⟨⟨by decide +kernel, by decide +kernel⟩, List.mem_of_getElem? (i := 1113) (by decide +kernel), List.mem_of_getElem? (i := 1477) (by decide +kernel), List.mem_of_getElem? (i := 1478) (by decide +kernel)⟩
theorem lw_p76 : lw_okq (⟨"SilenceForMoneyModel", "pays", "(III)V"⟩, 25) := ⟨⟨by decide +kernel, by decide +kernel⟩, List.mem_of_getElem? (i := 1113) (by decide +kernel), List.mem_of_getElem? (i := 1481) (by decide +kernel), List.mem_of_getElem? (i := 1482) (by decide +kernel)⟩
theorem lw_p77 : lw_okq (⟨"SilenceForMoneyModel", "isOf", "(I)V"⟩, 25) := ⟨⟨by decide +kernel, by decide +kernel⟩, List.mem_of_getElem? (i := 1113) (by decide +kernel), List.mem_of_getElem? (i := 1485) (by decide +kernel), List.mem_of_getElem? (i := 1486) (by decide +kernel)⟩
theorem lw_p78 : lw_okq (⟨"SilenceForMoneyModel", "ends", "()V"⟩, 25) := ⟨⟨by decide +kernel, by decide +kernel⟩, List.mem_of_getElem? (i := 1113) (by decide +kernel), List.mem_of_getElem? (i := 1489) (by decide +kernel), List.mem_of_getElem? (i := 1490) (by decide +kernel)⟩
theorem lw_p79 : lw_okq (⟨"SilenceForMoneyModel", "isIt", "(II)Z"⟩, 25) := ⟨⟨by decide +kernel, by decide +kernel⟩, List.mem_of_getElem? (i := 1113) (by decide +kernel), List.mem_of_getElem? (i := 1509) (by decide +kernel), List.mem_of_getElem? (i := 1510) (by decide +kernel)⟩
def lw_privs_5 : List (MethodName × Nat) := [(⟨"SilenceForMoneyModel", "left", "(II)I"⟩, 25), (⟨"SilenceForMoneyModel", "aQuarter", "()V"⟩, 25), (⟨"SilenceForMoneyModel", "makesNoise", "(I)V"⟩, 25), (⟨"SilenceForMoneyModel", "draw", "(I)I"⟩, 25), (⟨"SilenceForMoneyModel", "sounds", "(III)V"⟩, 25), (⟨"SilenceForMoneyModel", "writes", "(III)V"⟩, 25), (⟨"SilenceForMoneyModel", "keptFor", "(I)I"⟩, 25), (⟨"SilenceForMoneyModel", "keeps", "(II)V"⟩, 25), (⟨"SilenceForMoneyModel", "isBetrayed", "(I)Z"⟩, 25), (⟨"SilenceForMoneyModel", "isHeard", "(I)Z"⟩, 25), (⟨"SilenceForMoneyModel", "isLeft", "(I)Z"⟩, 25), (⟨"SilenceForMoneyModel", "begins", "(III)V"⟩, 25), (⟨"SilenceForMoneyModel", "pays", "(III)V"⟩, 25), (⟨"SilenceForMoneyModel", "isOf", "(I)V"⟩, 25), (⟨"SilenceForMoneyModel", "ends", "()V"⟩, 25), (⟨"SilenceForMoneyModel", "isIt", "(II)Z"⟩, 25)]
theorem lw_r5 : ∀ q ∈ lw_privs_5, lw_okq q := List.forall_mem_cons.mpr ⟨lw_p64, List.forall_mem_cons.mpr ⟨lw_p65, List.forall_mem_cons.mpr ⟨lw_p66, List.forall_mem_cons.mpr ⟨lw_p67, List.forall_mem_cons.mpr ⟨lw_p68, List.forall_mem_cons.mpr ⟨lw_p69, List.forall_mem_cons.mpr ⟨lw_p70, List.forall_mem_cons.mpr ⟨lw_p71, List.forall_mem_cons.mpr ⟨lw_p72, List.forall_mem_cons.mpr ⟨lw_p73, List.forall_mem_cons.mpr ⟨lw_p74, List.forall_mem_cons.mpr ⟨lw_p75, List.forall_mem_cons.mpr ⟨lw_p76, List.forall_mem_cons.mpr ⟨lw_p77, List.forall_mem_cons.mpr ⟨lw_p78, List.forall_mem_cons.mpr ⟨lw_p79, fun _ h => absurd h List.not_mem_nil⟩⟩⟩⟩⟩⟩⟩⟩⟩⟩⟩⟩⟩⟩⟩⟩
theorem lw_p80 : lw_okq (⟨"SilenceForMoneyModel", "alone", "()I"⟩, 25) := ⟨⟨by decide +kernel, by decide +kernel⟩, List.mem_of_getElem? (i := 1113) (by decide +kernel), List.mem_of_getElem? (i := 1517) (by decide +kernel), List.mem_of_getElem? (i := 1518) (by decide +kernel)⟩
theorem lw_p81 : lw_okq (⟨"SilenceForMoneyModel", "greatest", "()I"⟩, 25) := ⟨⟨by decide +kernel, by decide +kernel⟩, List.mem_of_getElem? (i := 1113) (by decide +kernel), List.mem_of_getElem? (i := 1521) (by decide +kernel), List.mem_of_getElem? (i := 1522) (by decide +kernel)⟩
theorem lw_p82 : lw_okq (⟨"SilenceForMoneyModel", "mays", "()I"⟩, 25) := ⟨⟨by decide +kernel, by decide +kernel⟩, List.mem_of_getElem? (i := 1113) (by decide +kernel), List.mem_of_getElem? (i := 1525) (by decide +kernel), List.mem_of_getElem? (i := 1526) (by decide +kernel)⟩
theorem lw_p83 : lw_okq (⟨"SilenceForMoneyModel", "within", "(I)I"⟩, 25) := ⟨⟨by decide +kernel, by decide +kernel⟩, List.mem_of_getElem? (i := 1113) (by decide +kernel), List.mem_of_getElem? (i := 1529) (by decide +kernel), List.mem_of_getElem? (i := 1530) (by decide +kernel)⟩
theorem lw_p84 : lw_okq (⟨"SilenceForMoneyModel", "canSay", "(IIIZI)Z"⟩, 25) := ⟨⟨by decide +kernel, by decide +kernel⟩, List.mem_of_getElem? (i := 1113) (by decide +kernel), List.mem_of_getElem? (i := 1543) (by decide +kernel), List.mem_of_getElem? (i := 1544) (by decide +kernel)⟩
theorem lw_p85 : lw_okq (⟨"SilenceForMoneyModel", "canBe", "(IIIIIZI)Z"⟩, 25) := ⟨⟨by decide +kernel, by decide +kernel⟩, List.mem_of_getElem? (i := 1113) (by decide +kernel), List.mem_of_getElem? (i := 1547) (by decide +kernel), List.mem_of_getElem? (i := 1548) (by decide +kernel)⟩
theorem lw_p86 : lw_okq (⟨"SilenceForMoneyModel", "setsOut", "()V"⟩, 25) := ⟨⟨by decide +kernel, by decide +kernel⟩, List.mem_of_getElem? (i := 1113) (by decide +kernel), List.mem_of_getElem? (i := 1555) (by decide +kernel), List.mem_of_getElem? (i := 1556) (by decide +kernel)⟩
theorem lw_p87 : lw_okq (⟨"SilenceForMoneyModel", "comesBack", "()V"⟩, 25) := ⟨⟨by decide +kernel, by decide +kernel⟩, List.mem_of_getElem? (i := 1113) (by decide +kernel), List.mem_of_getElem? (i := 1559) (by decide +kernel), List.mem_of_getElem? (i := 1560) (by decide +kernel)⟩
theorem lw_p88 : lw_okq (⟨"SilenceForMoneyModel", "leads", "(II)V"⟩, 25) := ⟨⟨by decide +kernel, by decide +kernel⟩, List.mem_of_getElem? (i := 1113) (by decide +kernel), List.mem_of_getElem? (i := 1567) (by decide +kernel), List.mem_of_getElem? (i := 1568) (by decide +kernel)⟩
def lw_privs_6 : List (MethodName × Nat) := [(⟨"SilenceForMoneyModel", "alone", "()I"⟩, 25), (⟨"SilenceForMoneyModel", "greatest", "()I"⟩, 25), (⟨"SilenceForMoneyModel", "mays", "()I"⟩, 25), (⟨"SilenceForMoneyModel", "within", "(I)I"⟩, 25), (⟨"SilenceForMoneyModel", "canSay", "(IIIZI)Z"⟩, 25), (⟨"SilenceForMoneyModel", "canBe", "(IIIIIZI)Z"⟩, 25), (⟨"SilenceForMoneyModel", "setsOut", "()V"⟩, 25), (⟨"SilenceForMoneyModel", "comesBack", "()V"⟩, 25), (⟨"SilenceForMoneyModel", "leads", "(II)V"⟩, 25)]
theorem lw_r6 : ∀ q ∈ lw_privs_6, lw_okq q := List.forall_mem_cons.mpr ⟨lw_p80, List.forall_mem_cons.mpr ⟨lw_p81, List.forall_mem_cons.mpr ⟨lw_p82, List.forall_mem_cons.mpr ⟨lw_p83, List.forall_mem_cons.mpr ⟨lw_p84, List.forall_mem_cons.mpr ⟨lw_p85, List.forall_mem_cons.mpr ⟨lw_p86, List.forall_mem_cons.mpr ⟨lw_p87, List.forall_mem_cons.mpr ⟨lw_p88, fun _ h => absurd h List.not_mem_nil⟩⟩⟩⟩⟩⟩⟩⟩⟩
def lw_privs : List (MethodName × Nat) := lw_privs_1 ++ (lw_privs_2 ++ (lw_privs_3 ++ (lw_privs_4 ++ (lw_privs_5 ++ (lw_privs_6)))))
def lw_tbl : List Cond := k2_sels lw_privs ++ tables_1
theorem lw_privs_ok : ∀ q ∈ lw_privs, lw_okq q := by
  show ∀ q ∈ lw_privs_1 ++ (lw_privs_2 ++ (lw_privs_3 ++ (lw_privs_4 ++ (lw_privs_5 ++ (lw_privs_6))))), lw_okq q
  exact List.forall_mem_append.mpr ⟨lw_r1, List.forall_mem_append.mpr ⟨lw_r2, List.forall_mem_append.mpr ⟨lw_r3, List.forall_mem_append.mpr ⟨lw_r4, List.forall_mem_append.mpr ⟨lw_r5, lw_r6⟩⟩⟩⟩⟩
-- ===== end of PART A; then your names; then what follows =====
end
section
def RX0 : String := "SilenceForMoney$Bargain"
def TX0 : u_T := fun k => match k with
  | 0 => ("SilenceForMoney$Bargain", "payer", "I", true)
  | 1 => ("SilenceForMoney$Bargain", "payee", "I", true)
  | 2 => ("SilenceForMoney$Bargain", "price", "I", true)
  | 3 => ("SilenceForMoney$Bargain", "rows", "[I", true)
  | 4 => ("SilenceForMoney$Bargain", "taken", "I", false)
  | _ => ("SilenceForMoney$Bargain", "born", "I", false)
def tyX0 : Nat → FieldType := fun k => match k with
  | 0 => .int
  | 1 => .int
  | 2 => .int
  | 3 => .array .int
  | 4 => .int
  | _ => .int
abbrev wsX00 : List Cond := u_ws RX0 TX0 6
theorem nmX0 : ∀ a, a < 6 → ∀ b, b < 6 → a ≠ b → (TX0 a).2.1 ≠ (TX0 b).2.1 := by decide +kernel
theorem tyX0_ok : ∀ k, k < 6 → parseFieldDescriptor (TX0 k).2.2.1 = some (tyX0 k) := by decide +kernel
abbrev cX0_init : ByteArray := prog_2_method_1_code
def yX0_init : MethodName := ⟨RX0, "<init>", "(IIII)V"⟩
abbrev cX0_takeIn : ByteArray := prog_2_method_2_code
def yX0_takeIn : MethodName := ⟨RX0, "takeIn", "(LSilenceForMoney$Debts;I)V"⟩
abbrev cX0_leaves : ByteArray := prog_2_method_3_code
def yX0_leaves : MethodName := ⟨RX0, "leaves", "(I)V"⟩
abbrev cX0_bears : ByteArray := prog_2_method_4_code
def yX0_bears : MethodName := ⟨RX0, "bears", "(I)V"⟩
abbrev cX0_canGoBack : ByteArray := prog_2_method_5_code
def yX0_canGoBack : MethodName := ⟨RX0, "canGoBack", "(LSilenceForMoney$Debts;)Z"⟩
abbrev cX0_goBack : ByteArray := prog_2_method_6_code
def yX0_goBack : MethodName := ⟨RX0, "goBack", "(LSilenceForMoney$Debts;LSilenceForMoney$People;)V"⟩
def RX1 : String := "SilenceForMoney$Bargains"
def TX1 : u_T := fun k => match k with
  | 0 => ("SilenceForMoney$Bargains", "count", "I", false)
  | _ => ("SilenceForMoney$Bargains", "rows", "[LSilenceForMoney$Bargain;", true)
def tyX1 : Nat → FieldType := fun k => match k with
  | 0 => .int
  | _ => .array (.object "SilenceForMoney$Bargain")
abbrev wsX10 : List Cond := u_ws RX1 TX1 2
theorem nmX1 : ∀ a, a < 2 → ∀ b, b < 2 → a ≠ b → (TX1 a).2.1 ≠ (TX1 b).2.1 := by decide +kernel
theorem tyX1_ok : ∀ k, k < 2 → parseFieldDescriptor (TX1 k).2.2.1 = some (tyX1 k) := by decide +kernel
abbrev cX1_init : ByteArray := prog_3_method_1_code
def yX1_init : MethodName := ⟨RX1, "<init>", "()V"⟩
abbrev cX1_copyFrom : ByteArray := prog_3_method_2_code
def yX1_copyFrom : MethodName := ⟨RX1, "copyFrom", "(LSilenceForMoney$Bargains;)V"⟩
abbrev cX1_keep : ByteArray := prog_3_method_3_code
def yX1_keep : MethodName := ⟨RX1, "keep", "(LSilenceForMoney$Bargain;)V"⟩
abbrev cX1_lendOn : ByteArray := prog_3_method_4_code
def yX1_lendOn : MethodName := ⟨RX1, "lendOn", "(LSilenceForMoney$Debts;LSilenceForMoney$People;III)Z"⟩
abbrev cX1_splitOff : ByteArray := prog_3_method_5_code
def yX1_splitOff : MethodName := ⟨RX1, "splitOff", "(LSilenceForMoney$Debts;II)I"⟩
abbrev cX1_handDown : ByteArray := prog_3_method_6_code
def yX1_handDown : MethodName := ⟨RX1, "handDown", "(LSilenceForMoney$Debts;II)I"⟩
abbrev cX1_sellOn : ByteArray := prog_3_method_7_code
def yX1_sellOn : MethodName := ⟨RX1, "sellOn", "(LSilenceForMoney$Debts;LSilenceForMoney$People;III)Z"⟩
abbrev cX1_goBack : ByteArray := prog_3_method_8_code
def yX1_goBack : MethodName := ⟨RX1, "goBack", "(LSilenceForMoney$Debts;LSilenceForMoney$People;)Z"⟩
def RX2 : String := "SilenceForMoney$Book"
def TX2 : u_T := fun k => match k with
  | 0 => ("SilenceForMoney$Book", "most", "I", true)
  | 1 => ("SilenceForMoney$Book", "lines", "[I", true)
  | 2 => ("SilenceForMoney$Book", "count", "I", false)
  | 3 => ("SilenceForMoney$Book", "paid", "I", false)
  | 4 => ("SilenceForMoney$Book", "again", "I", false)
  | 5 => ("SilenceForMoney$Book", "falseStrikes", "I", false)
  | _ => ("SilenceForMoney$Book", "spoke", "I", false)
def tyX2 : Nat → FieldType := fun k => match k with
  | 0 => .int
  | 1 => .array .int
  | 2 => .int
  | 3 => .int
  | 4 => .int
  | 5 => .int
  | _ => .int
abbrev wsX20 : List Cond := u_ws RX2 TX2 7
theorem nmX2 : ∀ a, a < 7 → ∀ b, b < 7 → a ≠ b → (TX2 a).2.1 ≠ (TX2 b).2.1 := by decide +kernel
theorem tyX2_ok : ∀ k, k < 7 → parseFieldDescriptor (TX2 k).2.2.1 = some (tyX2 k) := by decide +kernel
abbrev cX2_init : ByteArray := prog_4_method_1_code
def yX2_init : MethodName := ⟨RX2, "<init>", "(I)V"⟩
abbrev cX2_copyFrom : ByteArray := prog_4_method_2_code
def yX2_copyFrom : MethodName := ⟨RX2, "copyFrom", "(LSilenceForMoney$Book;)V"⟩
abbrev cX2_write : ByteArray := prog_4_method_3_code
def yX2_write : MethodName := ⟨RX2, "write", "(LSilenceForMoney$Time;III)V"⟩
abbrev cX2_isBetterThan : ByteArray := prog_4_method_4_code
def yX2_isBetterThan : MethodName := ⟨RX2, "isBetterThan", "(II)Z"⟩
abbrev cX2_countOf : ByteArray := prog_4_method_5_code
def yX2_countOf : MethodName := ⟨RX2, "countOf", "(I)I"⟩
def RX3 : String := "SilenceForMoney$Debts"
def TX3 : u_T := fun k => match k with
  | 0 => ("SilenceForMoney$Debts", "count", "I", false)
  | 1 => ("SilenceForMoney$Debts", "debtor", "[I", true)
  | 2 => ("SilenceForMoney$Debts", "creditor", "[I", true)
  | 3 => ("SilenceForMoney$Debts", "left", "[I", true)
  | 4 => ("SilenceForMoney$Debts", "part", "[I", true)
  | 5 => ("SilenceForMoney$Debts", "proxy", "[I", true)
  | 6 => ("SilenceForMoney$Debts", "helperSet", "[I", true)
  | 7 => ("SilenceForMoney$Debts", "paid", "[I", true)
  | 8 => ("SilenceForMoney$Debts", "may", "[I", true)
  | 9 => ("SilenceForMoney$Debts", "owes", "[I", true)
  | _ => ("SilenceForMoney$Debts", "owed", "[I", true)
def tyX3 : Nat → FieldType := fun k => match k with
  | 0 => .int
  | 1 => .array .int
  | 2 => .array .int
  | 3 => .array .int
  | 4 => .array .int
  | 5 => .array .int
  | 6 => .array .int
  | 7 => .array .int
  | 8 => .array .int
  | 9 => .array .int
  | _ => .array .int
abbrev wsX30 : List Cond := u_ws RX3 TX3 11
theorem nmX3 : ∀ a, a < 11 → ∀ b, b < 11 → a ≠ b → (TX3 a).2.1 ≠ (TX3 b).2.1 := by decide +kernel
theorem tyX3_ok : ∀ k, k < 11 → parseFieldDescriptor (TX3 k).2.2.1 = some (tyX3 k) := by decide +kernel
abbrev cX3_init : ByteArray := prog_5_method_1_code
def yX3_init : MethodName := ⟨RX3, "<init>", "()V"⟩
abbrev cX3_copyFrom : ByteArray := prog_5_method_2_code
def yX3_copyFrom : MethodName := ⟨RX3, "copyFrom", "(LSilenceForMoney$Debts;)V"⟩
abbrev cX3_has : ByteArray := prog_5_method_3_code
def yX3_has : MethodName := ⟨RX3, "has", "(I)Z"⟩
abbrev cX3_isOpen : ByteArray := prog_5_method_4_code
def yX3_isOpen : MethodName := ⟨RX3, "isOpen", "(I)Z"⟩
abbrev cX3_isOpenWith : ByteArray := prog_5_method_5_code
def yX3_isOpenWith : MethodName := ⟨RX3, "isOpenWith", "(II)Z"⟩
abbrev cX3_openCountWith : ByteArray := prog_5_method_6_code
def yX3_openCountWith : MethodName := ⟨RX3, "openCountWith", "(I)I"⟩
abbrev cX3_handDown : ByteArray := prog_5_method_7_code
def yX3_handDown : MethodName := ⟨RX3, "handDown", "(III)V"⟩
abbrev cX3_add : ByteArray := prog_5_method_8_code
def yX3_add : MethodName := ⟨RX3, "add", "(III)I"⟩
abbrev cX3_workerOf : ByteArray := prog_5_method_9_code
def yX3_workerOf : MethodName := ⟨RX3, "workerOf", "(I)I"⟩
abbrev cX3_tellOf : ByteArray := prog_5_method_10_code
def yX3_tellOf : MethodName := ⟨RX3, "tellOf", "(II)I"⟩
abbrev cX3_allHours : ByteArray := prog_5_method_11_code
def yX3_allHours : MethodName := ⟨RX3, "allHours", "()I"⟩
abbrev cX3_doneCount : ByteArray := prog_5_method_12_code
def yX3_doneCount : MethodName := ⟨RX3, "doneCount", "()I"⟩
abbrev cX3_hoursOf : ByteArray := prog_5_method_13_code
def yX3_hoursOf : MethodName := ⟨RX3, "hoursOf", "(II)I"⟩
abbrev cX3_tally : ByteArray := prog_5_method_14_code
def yX3_tally : MethodName := ⟨RX3, "tally", "()V"⟩
abbrev cX3_goesAhead : ByteArray := prog_5_method_15_code
def yX3_goesAhead : MethodName := ⟨RX3, "goesAhead", "(III)Z"⟩
abbrev cX3_findWhoMay : ByteArray := prog_5_method_16_code
def yX3_findWhoMay : MethodName := ⟨RX3, "findWhoMay", "(LSilenceForMoney$People;)Z"⟩
abbrev cX3_greatestLeft : ByteArray := prog_5_method_17_code
def yX3_greatestLeft : MethodName := ⟨RX3, "greatestLeft", "()I"⟩
abbrev cX3_hoursOnlyFor : ByteArray := prog_5_method_18_code
def yX3_hoursOnlyFor : MethodName := ⟨RX3, "hoursOnlyFor", "(I)I"⟩
abbrev cX3_bestHours : ByteArray := prog_5_method_19_code
def yX3_bestHours : MethodName := ⟨RX3, "bestHours", "(I)I"⟩
abbrev cX3_boundHours : ByteArray := prog_5_method_20_code
def yX3_boundHours : MethodName := ⟨RX3, "boundHours", "()I"⟩
abbrev cX3_aloneHours : ByteArray := prog_5_method_21_code
def yX3_aloneHours : MethodName := ⟨RX3, "aloneHours", "()I"⟩
def RX4 : String := "SilenceForMoney$People"
def TX4 : u_T := fun k => match k with
  | 0 => ("SilenceForMoney$People", "count", "I", false)
  | 1 => ("SilenceForMoney$People", "sort", "[I", true)
  | 2 => ("SilenceForMoney$People", "place", "[I", true)
  | 3 => ("SilenceForMoney$People", "loud", "[I", true)
  | 4 => ("SilenceForMoney$People", "whispers", "[I", true)
  | 5 => ("SilenceForMoney$People", "rule", "[I", true)
  | 6 => ("SilenceForMoney$People", "coin", "[I", true)
  | 7 => ("SilenceForMoney$People", "parent", "[I", true)
  | 8 => ("SilenceForMoney$People", "noiseSort", "[I", true)
  | 9 => ("SilenceForMoney$People", "noiseLoud", "[I", true)
  | _ => ("SilenceForMoney$People", "noiseWord", "[I", true)
def tyX4 : Nat → FieldType := fun k => match k with
  | 0 => .int
  | 1 => .array .int
  | 2 => .array .int
  | 3 => .array .int
  | 4 => .array .int
  | 5 => .array .int
  | 6 => .array .int
  | 7 => .array .int
  | 8 => .array .int
  | 9 => .array .int
  | _ => .array .int
abbrev wsX40 : List Cond := u_ws RX4 TX4 11
theorem nmX4 : ∀ a, a < 11 → ∀ b, b < 11 → a ≠ b → (TX4 a).2.1 ≠ (TX4 b).2.1 := by decide +kernel
theorem tyX4_ok : ∀ k, k < 11 → parseFieldDescriptor (TX4 k).2.2.1 = some (tyX4 k) := by decide +kernel
abbrev cX4_init : ByteArray := prog_6_method_1_code
def yX4_init : MethodName := ⟨RX4, "<init>", "()V"⟩
abbrev cX4_copyFrom : ByteArray := prog_6_method_2_code
def yX4_copyFrom : MethodName := ⟨RX4, "copyFrom", "(LSilenceForMoney$People;)V"⟩
abbrev cX4_has : ByteArray := prog_6_method_3_code
def yX4_has : MethodName := ⟨RX4, "has", "(I)Z"⟩
abbrev cX4_isNoChild : ByteArray := prog_6_method_4_code
def yX4_isNoChild : MethodName := ⟨RX4, "isNoChild", "(I)Z"⟩
abbrev cX4_add : ByteArray := prog_6_method_5_code
def yX4_add : MethodName := ⟨RX4, "add", "(IIIII)I"⟩
abbrev cX4_giveParent : ByteArray := prog_6_method_6_code
def yX4_giveParent : MethodName := ⟨RX4, "giveParent", "(II)Z"⟩
abbrev cX4_change : ByteArray := prog_6_method_7_code
def yX4_change : MethodName := ⟨RX4, "change", "(III)V"⟩
abbrev cX4_tellOf : ByteArray := prog_6_method_8_code
def yX4_tellOf : MethodName := ⟨RX4, "tellOf", "(II)I"⟩
abbrev cX4_hush : ByteArray := prog_6_method_9_code
def yX4_hush : MethodName := ⟨RX4, "hush", "(I)V"⟩
abbrev cX4_noiseOf : ByteArray := prog_6_method_10_code
def yX4_noiseOf : MethodName := ⟨RX4, "noiseOf", "(II)I"⟩
abbrev cX4_othersWith : ByteArray := prog_6_method_11_code
def yX4_othersWith : MethodName := ⟨RX4, "othersWith", "(I)I"⟩
abbrev cX4_noChildren : ByteArray := prog_6_method_12_code
def yX4_noChildren : MethodName := ⟨RX4, "noChildren", "()I"⟩
abbrev cX4_pay : ByteArray := prog_6_method_13_code
def yX4_pay : MethodName := ⟨RX4, "pay", "(III)V"⟩
def RX5 : String := "SilenceForMoney$Reader"
def TX5 : u_T := fun k => match k with
  | 0 => ("SilenceForMoney$Reader", "fault", "I", false)
  | 1 => ("SilenceForMoney$Reader", "faultPlace", "I", false)
  | 2 => ("SilenceForMoney$Reader", "isLaw", "Z", false)
  | 3 => ("SilenceForMoney$Reader", "lines", "I", false)
  | 4 => ("SilenceForMoney$Reader", "length", "I", false)
  | 5 => ("SilenceForMoney$Reader", "code", "[I", true)
  | 6 => ("SilenceForMoney$Reader", "start", "[I", true)
  | 7 => ("SilenceForMoney$Reader", "deed", "[I", true)
  | 8 => ("SilenceForMoney$Reader", "kinds", "[I", true)
  | 9 => ("SilenceForMoney$Reader", "places", "[I", true)
  | 10 => ("SilenceForMoney$Reader", "numbers", "[I", true)
  | 11 => ("SilenceForMoney$Reader", "tokens", "I", false)
  | _ => ("SilenceForMoney$Reader", "at", "I", false)
def tyX5 : Nat → FieldType := fun k => match k with
  | 0 => .int
  | 1 => .int
  | 2 => .boolean
  | 3 => .int
  | 4 => .int
  | 5 => .array .int
  | 6 => .array .int
  | 7 => .array .int
  | 8 => .array .int
  | 9 => .array .int
  | 10 => .array .int
  | 11 => .int
  | _ => .int
abbrev wsX50 : List Cond := u_ws RX5 TX5 13
theorem nmX5 : ∀ a, a < 13 → ∀ b, b < 13 → a ≠ b → (TX5 a).2.1 ≠ (TX5 b).2.1 := by decide +kernel
theorem tyX5_ok : ∀ k, k < 13 → parseFieldDescriptor (TX5 k).2.2.1 = some (tyX5 k) := by decide +kernel
abbrev cX5_init : ByteArray := prog_7_method_1_code
def yX5_init : MethodName := ⟨RX5, "<init>", "()V"⟩
abbrev cX5_forget : ByteArray := prog_7_method_2_code
def yX5_forget : MethodName := ⟨RX5, "forget", "()V"⟩
abbrev cX5_read : ByteArray := prog_7_method_3_code
def yX5_read : MethodName := ⟨RX5, "read", "(LSilenceForMoney$Tape;Z)LSilenceForMoney$Text;"⟩
abbrev cX5_findTokens : ByteArray := prog_7_method_4_code
def yX5_findTokens : MethodName := ⟨RX5, "findTokens", "(LSilenceForMoney$Tape;)V"⟩
abbrev cX5_findToken : ByteArray := prog_7_method_5_code
def yX5_findToken : MethodName := ⟨RX5, "findToken", "(LSilenceForMoney$Tape;I)I"⟩
abbrev cX5_putToken : ByteArray := prog_7_method_6_code
def yX5_putToken : MethodName := ⟨RX5, "putToken", "(III)V"⟩
abbrev cX5_isLetter : ByteArray := prog_7_method_7_code
def yX5_isLetter : MethodName := ⟨RX5, "isLetter", "(I)Z"⟩
abbrev cX5_isDigit : ByteArray := prog_7_method_8_code
def yX5_isDigit : MethodName := ⟨RX5, "isDigit", "(I)Z"⟩
abbrev cX5_isSign : ByteArray := prog_7_method_9_code
def yX5_isSign : MethodName := ⟨RX5, "isSign", "(I)Z"⟩
abbrev cX5_endOfRun : ByteArray := prog_7_method_10_code
def yX5_endOfRun : MethodName := ⟨RX5, "endOfRun", "(LSilenceForMoney$Tape;IZ)I"⟩
abbrev cX5_numberOf : ByteArray := prog_7_method_11_code
def yX5_numberOf : MethodName := ⟨RX5, "numberOf", "(LSilenceForMoney$Tape;II)I"⟩
abbrev cX5_keyword : ByteArray := prog_7_method_12_code
def yX5_keyword : MethodName := ⟨RX5, "keyword", "(LSilenceForMoney$Tape;II)I"⟩
abbrev cX5_emit : ByteArray := prog_7_method_13_code
def yX5_emit : MethodName := ⟨RX5, "emit", "(II)V"⟩
abbrev cX5_closeLine : ByteArray := prog_7_method_14_code
def yX5_closeLine : MethodName := ⟨RX5, "closeLine", "(I)V"⟩
abbrev cX5_fail : ByteArray := prog_7_method_15_code
def yX5_fail : MethodName := ⟨RX5, "fail", "(I)V"⟩
abbrev cX5_step : ByteArray := prog_7_method_16_code
def yX5_step : MethodName := ⟨RX5, "step", "()V"⟩
abbrev cX5_take : ByteArray := prog_7_method_17_code
def yX5_take : MethodName := ⟨RX5, "take", "(I)Z"⟩
abbrev cX5_readLine : ByteArray := prog_7_method_18_code
def yX5_readLine : MethodName := ⟨RX5, "readLine", "()V"⟩
abbrev cX5_readLoud : ByteArray := prog_7_method_19_code
def yX5_readLoud : MethodName := ⟨RX5, "readLoud", "()I"⟩
abbrev cX5_anyOf : ByteArray := prog_7_method_20_code
def yX5_anyOf : MethodName := ⟨RX5, "anyOf", "(I)V"⟩
abbrev cX5_condition : ByteArray := prog_7_method_21_code
def yX5_condition : MethodName := ⟨RX5, "condition", "(I)V"⟩
abbrev cX5_sum : ByteArray := prog_7_method_22_code
def yX5_sum : MethodName := ⟨RX5, "sum", "()V"⟩
abbrev cX5_isReckoning : ByteArray := prog_7_method_23_code
def yX5_isReckoning : MethodName := ⟨RX5, "isReckoning", "(I)Z"⟩
abbrev cX5_divisor : ByteArray := prog_7_method_24_code
def yX5_divisor : MethodName := ⟨RX5, "divisor", "()V"⟩
abbrev cX5_unit : ByteArray := prog_7_method_25_code
def yX5_unit : MethodName := ⟨RX5, "unit", "()V"⟩
def RX6 : String := "SilenceForMoney$Tape"
def TX6 : u_T := fun k => match k with
  | 0 => ("SilenceForMoney$Tape", "bytes", "[I", true)
  | _ => ("SilenceForMoney$Tape", "length", "I", false)
def tyX6 : Nat → FieldType := fun k => match k with
  | 0 => .array .int
  | _ => .int
abbrev wsX60 : List Cond := u_ws RX6 TX6 2
theorem nmX6 : ∀ a, a < 2 → ∀ b, b < 2 → a ≠ b → (TX6 a).2.1 ≠ (TX6 b).2.1 := by decide +kernel
theorem tyX6_ok : ∀ k, k < 2 → parseFieldDescriptor (TX6 k).2.2.1 = some (tyX6 k) := by decide +kernel
abbrev cX6_init : ByteArray := prog_8_method_1_code
def yX6_init : MethodName := ⟨RX6, "<init>", "()V"⟩
abbrev cX6_put : ByteArray := prog_8_method_2_code
def yX6_put : MethodName := ⟨RX6, "put", "(I)V"⟩
def RX7 : String := "SilenceForMoney$Text"
def TX7 : u_T := fun k => match k with
  | 0 => ("SilenceForMoney$Text", "lines", "I", true)
  | 1 => ("SilenceForMoney$Text", "start", "[I", true)
  | 2 => ("SilenceForMoney$Text", "deed", "[I", true)
  | _ => ("SilenceForMoney$Text", "code", "[I", true)
def tyX7 : Nat → FieldType := fun k => match k with
  | 0 => .int
  | 1 => .array .int
  | 2 => .array .int
  | _ => .array .int
abbrev wsX70 : List Cond := u_ws RX7 TX7 4
theorem nmX7 : ∀ a, a < 4 → ∀ b, b < 4 → a ≠ b → (TX7 a).2.1 ≠ (TX7 b).2.1 := by decide +kernel
theorem tyX7_ok : ∀ k, k < 4 → parseFieldDescriptor (TX7 k).2.2.1 = some (tyX7 k) := by decide +kernel
abbrev cX7_init : ByteArray := prog_9_method_1_code
def yX7_init : MethodName := ⟨RX7, "<init>", "(I[I[I[I)V"⟩
abbrev cX7_deedOf : ByteArray := prog_9_method_2_code
def yX7_deedOf : MethodName := ⟨RX7, "deedOf", "(I)I"⟩
abbrev cX7_firstLine : ByteArray := prog_9_method_3_code
def yX7_firstLine : MethodName := ⟨RX7, "firstLine", "([I[I)I"⟩
abbrev cX7_isSo : ByteArray := prog_9_method_4_code
def yX7_isSo : MethodName := ⟨RX7, "isSo", "(II[I[I)Z"⟩
abbrev cX7_valueAt : ByteArray := prog_9_method_5_code
def yX7_valueAt : MethodName := ⟨RX7, "valueAt", "([II)I"⟩
abbrev cX7_join : ByteArray := prog_9_method_6_code
def yX7_join : MethodName := ⟨RX7, "join", "(III)I"⟩
def RX8 : String := "SilenceForMoney$Time"
def TX8 : u_T := fun k => match k with
  | 0 => ("SilenceForMoney$Time", "state", "I", false)
  | 1 => ("SilenceForMoney$Time", "day", "I", false)
  | 2 => ("SilenceForMoney$Time", "quarter", "I", false)
  | _ => ("SilenceForMoney$Time", "feasts", "I", false)
def tyX8 : Nat → FieldType := fun k => match k with
  | 0 => .int
  | 1 => .int
  | 2 => .int
  | _ => .int
abbrev wsX80 : List Cond := u_ws RX8 TX8 4
theorem nmX8 : ∀ a, a < 4 → ∀ b, b < 4 → a ≠ b → (TX8 a).2.1 ≠ (TX8 b).2.1 := by decide +kernel
theorem tyX8_ok : ∀ k, k < 4 → parseFieldDescriptor (TX8 k).2.2.1 = some (tyX8 k) := by decide +kernel
abbrev cX8_init : ByteArray := prog_10_method_1_code
def yX8_init : MethodName := ⟨RX8, "<init>", "()V"⟩
abbrev cX8_copyFrom : ByteArray := prog_10_method_2_code
def yX8_copyFrom : MethodName := ⟨RX8, "copyFrom", "(LSilenceForMoney$Time;)V"⟩
abbrev cX8_draw : ByteArray := prog_10_method_3_code
def yX8_draw : MethodName := ⟨RX8, "draw", "(I)I"⟩
abbrev cX8_hour : ByteArray := prog_10_method_4_code
def yX8_hour : MethodName := ⟨RX8, "hour", "()I"⟩
abbrev cX8_isNight : ByteArray := prog_10_method_5_code
def yX8_isNight : MethodName := ⟨RX8, "isNight", "()Z"⟩
abbrev cX8_isFeast : ByteArray := prog_10_method_6_code
def yX8_isFeast : MethodName := ⟨RX8, "isFeast", "()Z"⟩
abbrev cX8_isFeastOn : ByteArray := prog_10_method_7_code
def yX8_isFeastOn : MethodName := ⟨RX8, "isFeastOn", "(I)Z"⟩
abbrev cX8_goOn : ByteArray := prog_10_method_8_code
def yX8_goOn : MethodName := ⟨RX8, "goOn", "()V"⟩
def RX9 : String := "SilenceForMoney$Town"
def TX9 : u_T := fun k => match k with
  | 0 => ("SilenceForMoney$Town", "walls", "[I", true)
  | 1 => ("SilenceForMoney$Town", "round", "[I", true)
  | 2 => ("SilenceForMoney$Town", "ringer", "I", false)
  | 3 => ("SilenceForMoney$Town", "ear", "I", false)
  | 4 => ("SilenceForMoney$Town", "falsely", "I", false)
  | 5 => ("SilenceForMoney$Town", "order", "I", false)
  | _ => ("SilenceForMoney$Town", "law", "I", false)
def tyX9 : Nat → FieldType := fun k => match k with
  | 0 => .array .int
  | 1 => .array .int
  | 2 => .int
  | 3 => .int
  | 4 => .int
  | 5 => .int
  | _ => .int
abbrev wsX90 : List Cond := u_ws RX9 TX9 7
theorem nmX9 : ∀ a, a < 7 → ∀ b, b < 7 → a ≠ b → (TX9 a).2.1 ≠ (TX9 b).2.1 := by decide +kernel
theorem tyX9_ok : ∀ k, k < 7 → parseFieldDescriptor (TX9 k).2.2.1 = some (tyX9 k) := by decide +kernel
abbrev cX9_init : ByteArray := prog_11_method_1_code
def yX9_init : MethodName := ⟨RX9, "<init>", "()V"⟩
abbrev cX9_copyFrom : ByteArray := prog_11_method_2_code
def yX9_copyFrom : MethodName := ⟨RX9, "copyFrom", "(LSilenceForMoney$Town;)V"⟩
abbrev cX9_putWall : ByteArray := prog_11_method_3_code
def yX9_putWall : MethodName := ⟨RX9, "putWall", "(III)V"⟩
abbrev cX9_wallBetween : ByteArray := prog_11_method_4_code
def yX9_wallBetween : MethodName := ⟨RX9, "wallBetween", "(II)I"⟩
abbrev cX9_placeAt : ByteArray := prog_11_method_5_code
def yX9_placeAt : MethodName := ⟨RX9, "placeAt", "(I)I"⟩
def RX10 : String := "SilenceForMoney$World"
def TX10 : u_T := fun k => match k with
  | 0 => ("SilenceForMoney$World", "people", "LSilenceForMoney$People;", true)
  | 1 => ("SilenceForMoney$World", "debts", "LSilenceForMoney$Debts;", true)
  | 2 => ("SilenceForMoney$World", "town", "LSilenceForMoney$Town;", true)
  | 3 => ("SilenceForMoney$World", "time", "LSilenceForMoney$Time;", true)
  | 4 => ("SilenceForMoney$World", "book", "LSilenceForMoney$Book;", true)
  | 5 => ("SilenceForMoney$World", "bargains", "LSilenceForMoney$Bargains;", true)
  | 6 => ("SilenceForMoney$World", "texts", "[LSilenceForMoney$Text;", true)
  | 7 => ("SilenceForMoney$World", "values", "[I", true)
  | 8 => ("SilenceForMoney$World", "stack", "[I", true)
  | _ => ("SilenceForMoney$World", "chosen", "[I", true)
def tyX10 : Nat → FieldType := fun k => match k with
  | 0 => .object "SilenceForMoney$People"
  | 1 => .object "SilenceForMoney$Debts"
  | 2 => .object "SilenceForMoney$Town"
  | 3 => .object "SilenceForMoney$Time"
  | 4 => .object "SilenceForMoney$Book"
  | 5 => .object "SilenceForMoney$Bargains"
  | 6 => .array (.object "SilenceForMoney$Text")
  | 7 => .array .int
  | 8 => .array .int
  | _ => .array .int
abbrev wsX100 : List Cond := u_ws RX10 TX10 10
theorem nmX10 : ∀ a, a < 10 → ∀ b, b < 10 → a ≠ b → (TX10 a).2.1 ≠ (TX10 b).2.1 := by decide +kernel
theorem tyX10_ok : ∀ k, k < 10 → parseFieldDescriptor (TX10 k).2.2.1 = some (tyX10 k) := by decide +kernel
abbrev cX10_init : ByteArray := prog_12_method_1_code
def yX10_init : MethodName := ⟨RX10, "<init>", "(ILSilenceForMoney$Text;)V"⟩
abbrev cX10_copyFrom : ByteArray := prog_12_method_2_code
def yX10_copyFrom : MethodName := ⟨RX10, "copyFrom", "(LSilenceForMoney$World;)V"⟩
abbrev cX10_change : ByteArray := prog_12_method_3_code
def yX10_change : MethodName := ⟨RX10, "change", "(II)V"⟩
abbrev cX10_isWord : ByteArray := prog_12_method_4_code
def yX10_isWord : MethodName := ⟨RX10, "isWord", "(IIIIZZ)Z"⟩
abbrev cX10_deedOf : ByteArray := prog_12_method_5_code
def yX10_deedOf : MethodName := ⟨RX10, "deedOf", "(I)I"⟩
abbrev cX10_pass : ByteArray := prog_12_method_6_code
def yX10_pass : MethodName := ⟨RX10, "pass", "()V"⟩
abbrev cX10_makeNoise : ByteArray := prog_12_method_7_code
def yX10_makeNoise : MethodName := ⟨RX10, "makeNoise", "(I)V"⟩
abbrev cX10_putNoise : ByteArray := prog_12_method_8_code
def yX10_putNoise : MethodName := ⟨RX10, "putNoise", "(III)V"⟩
abbrev cX10_judgeNoise : ByteArray := prog_12_method_9_code
def yX10_judgeNoise : MethodName := ⟨RX10, "judgeNoise", "(I)V"⟩
abbrev cX10_ring : ByteArray := prog_12_method_10_code
def yX10_ring : MethodName := ⟨RX10, "ring", "(I)V"⟩
abbrev cX10_chooseDebts : ByteArray := prog_12_method_11_code
def yX10_chooseDebts : MethodName := ⟨RX10, "chooseDebts", "()V"⟩
abbrev cX10_keepQuiet : ByteArray := prog_12_method_12_code
def yX10_keepQuiet : MethodName := ⟨RX10, "keepQuiet", "(II)V"⟩
abbrev cX10_isWordHeardOf : ByteArray := prog_12_method_13_code
def yX10_isWordHeardOf : MethodName := ⟨RX10, "isWordHeardOf", "(I)Z"⟩
abbrev cX10_isHeard : ByteArray := prog_12_method_14_code
def yX10_isHeard : MethodName := ⟨RX10, "isHeard", "(I)Z"⟩
abbrev cX10_beginAgain : ByteArray := prog_12_method_15_code
def yX10_beginAgain : MethodName := ⟨RX10, "beginAgain", "(III)V"⟩
abbrev cX10_payQuarter : ByteArray := prog_12_method_16_code
def yX10_payQuarter : MethodName := ⟨RX10, "payQuarter", "(II)V"⟩
abbrev cX10_tillQuiet : ByteArray := prog_12_method_17_code
def yX10_tillQuiet : MethodName := ⟨RX10, "tillQuiet", "()I"⟩
abbrev cX10_byWhom : ByteArray := prog_12_method_18_code
def yX10_byWhom : MethodName := ⟨RX10, "byWhom", "(IZII)I"⟩
abbrev cX10_canMakeWord : ByteArray := prog_12_method_19_code
def yX10_canMakeWord : MethodName := ⟨RX10, "canMakeWord", "(IIIZ)Z"⟩
def RX11 : String := "SilenceForMoney"
def TX11 : u_T := fun k => match k with
  | 0 => ("SilenceForMoney", "now", "LSilenceForMoney$World;", true)
  | 1 => ("SilenceForMoney", "dream", "LSilenceForMoney$World;", true)
  | 2 => ("SilenceForMoney", "kept", "LSilenceForMoney$World;", false)
  | 3 => ("SilenceForMoney", "tape", "LSilenceForMoney$Tape;", true)
  | _ => ("SilenceForMoney", "reader", "LSilenceForMoney$Reader;", true)
def tyX11 : Nat → FieldType := fun k => match k with
  | 0 => .object "SilenceForMoney$World"
  | 1 => .object "SilenceForMoney$World"
  | 2 => .object "SilenceForMoney$World"
  | 3 => .object "SilenceForMoney$Tape"
  | _ => .object "SilenceForMoney$Reader"
abbrev wsX110 : List Cond := u_ws RX11 TX11 5
theorem nmX11 : ∀ a, a < 5 → ∀ b, b < 5 → a ≠ b → (TX11 a).2.1 ≠ (TX11 b).2.1 := by decide +kernel
theorem tyX11_ok : ∀ k, k < 5 → parseFieldDescriptor (TX11 k).2.2.1 = some (tyX11 k) := by decide +kernel
abbrev cX11_init : ByteArray := prog_1_method_1_code
def yX11_init : MethodName := ⟨RX11, "<init>", "()V"⟩
abbrev cX11_state : ByteArray := prog_1_method_2_code
def yX11_state : MethodName := ⟨RX11, "state", "(I)I"⟩
abbrev cX11_one : ByteArray := prog_1_method_3_code
def yX11_one : MethodName := ⟨RX11, "one", "(IIIII)I"⟩
abbrev cX11_tell : ByteArray := prog_1_method_4_code
def yX11_tell : MethodName := ⟨RX11, "tell", "(III)Z"⟩
abbrev cX11_wall : ByteArray := prog_1_method_5_code
def yX11_wall : MethodName := ⟨RX11, "wall", "(III)Z"⟩
abbrev cX11_set : ByteArray := prog_1_method_6_code
def yX11_set : MethodName := ⟨RX11, "set", "(II)Z"⟩
abbrev cX11_debt : ByteArray := prog_1_method_7_code
def yX11_debt : MethodName := ⟨RX11, "debt", "(III)I"⟩
abbrev cX11_helpers : ByteArray := prog_1_method_8_code
def yX11_helpers : MethodName := ⟨RX11, "helpers", "(II)Z"⟩
abbrev cX11_of : ByteArray := prog_1_method_9_code
def yX11_of : MethodName := ⟨RX11, "of", "(II)I"⟩
abbrev cX11_feed : ByteArray := prog_1_method_10_code
def yX11_feed : MethodName := ⟨RX11, "feed", "(IIIII)I"⟩
abbrev cX11_end : ByteArray := prog_1_method_11_code
def yX11_end : MethodName := ⟨RX11, "end", "(I)Z"⟩
abbrev cX11_text : ByteArray := prog_1_method_12_code
def yX11_text : MethodName := ⟨RX11, "text", "(I)I"⟩
abbrev cX11_fault : ByteArray := prog_1_method_13_code
def yX11_fault : MethodName := ⟨RX11, "fault", "(I)I"⟩
abbrev cX11_does : ByteArray := prog_1_method_14_code
def yX11_does : MethodName := ⟨RX11, "does", "(I)I"⟩
abbrev cX11_word : ByteArray := prog_1_method_15_code
def yX11_word : MethodName := ⟨RX11, "word", "(IIIIZZ)I"⟩
abbrev cX11_quarters : ByteArray := prog_1_method_16_code
def yX11_quarters : MethodName := ⟨RX11, "quarters", "(I)I"⟩
abbrev cX11_noise : ByteArray := prog_1_method_17_code
def yX11_noise : MethodName := ⟨RX11, "noise", "(II)I"⟩
abbrev cX11_lend : ByteArray := prog_1_method_18_code
def yX11_lend : MethodName := ⟨RX11, "lend", "(III)Z"⟩
abbrev cX11_split : ByteArray := prog_1_method_19_code
def yX11_split : MethodName := ⟨RX11, "split", "(II)I"⟩
abbrev cX11_inherit : ByteArray := prog_1_method_20_code
def yX11_inherit : MethodName := ⟨RX11, "inherit", "(II)I"⟩
abbrev cX11_sell : ByteArray := prog_1_method_21_code
def yX11_sell : MethodName := ⟨RX11, "sell", "(III)Z"⟩
abbrev cX11_undo : ByteArray := prog_1_method_22_code
def yX11_undo : MethodName := ⟨RX11, "undo", "()Z"⟩
abbrev cX11_soonest : ByteArray := prog_1_method_23_code
def yX11_soonest : MethodName := ⟨RX11, "soonest", "(I)I"⟩
abbrev cX11_whom : ByteArray := prog_1_method_24_code
def yX11_whom : MethodName := ⟨RX11, "whom", "(IIII)I"⟩
abbrev cX11_quiet : ByteArray := prog_1_method_25_code
def yX11_quiet : MethodName := ⟨RX11, "quiet", "(II)I"⟩
abbrev cX11_thought : ByteArray := prog_1_method_26_code
def yX11_thought : MethodName := ⟨RX11, "thought", "(III)I"⟩
abbrev cX11_person : ByteArray := prog_1_method_27_code
def yX11_person : MethodName := ⟨RX11, "person", "(II)I"⟩
abbrev cX11_book : ByteArray := prog_1_method_28_code
def yX11_book : MethodName := ⟨RX11, "book", "(II)I"⟩
abbrev cX11_image : ByteArray := prog_1_method_29_code
def yX11_image : MethodName := ⟨RX11, "image", "(Z)Z"⟩
abbrev cX11_look : ByteArray := prog_1_method_30_code
def yX11_look : MethodName := ⟨RX11, "look", "(I)I"⟩
abbrev cX11_think : ByteArray := prog_1_method_31_code
def yX11_think : MethodName := ⟨RX11, "think", "(II)V"⟩
abbrev cX11_isWithin : ByteArray := prog_1_method_32_code
def yX11_isWithin : MethodName := ⟨RX11, "isWithin", "(III)Z"⟩
abbrev cX11_isPlace : ByteArray := prog_1_method_33_code
def yX11_isPlace : MethodName := ⟨RX11, "isPlace", "(I)Z"⟩
abbrev cX11_isHour : ByteArray := prog_1_method_34_code
def yX11_isHour : MethodName := ⟨RX11, "isHour", "(I)Z"⟩
abbrev cX11_isLaw : ByteArray := prog_1_method_35_code
def yX11_isLaw : MethodName := ⟨RX11, "isLaw", "(I)Z"⟩
abbrev cX11_isNightIn : ByteArray := prog_1_method_36_code
def yX11_isNightIn : MethodName := ⟨RX11, "isNightIn", "(I)Z"⟩
abbrev cX11_upwards : ByteArray := prog_1_method_37_code
def yX11_upwards : MethodName := ⟨RX11, "upwards", "(II)I"⟩
def RX12 : String := "SilenceForMoneyModel"
def TX12 : u_T := fun k => match k with
  | 0 => ("SilenceForMoneyModel", "w", "[I", true)
  | 1 => ("SilenceForMoneyModel", "kept", "[I", true)
  | 2 => ("SilenceForMoneyModel", "before", "[I", true)
  | 3 => ("SilenceForMoneyModel", "hasImage", "Z", false)
  | 4 => ("SilenceForMoneyModel", "freshLine", "[I", true)
  | 5 => ("SilenceForMoneyModel", "freshStep", "[I", true)
  | 6 => ("SilenceForMoneyModel", "tape", "[I", true)
  | 7 => ("SilenceForMoneyModel", "pile", "[I", true)
  | 8 => ("SilenceForMoneyModel", "facts", "[I", true)
  | 9 => ("SilenceForMoneyModel", "which", "I", false)
  | 10 => ("SilenceForMoneyModel", "lines", "I", false)
  | 11 => ("SilenceForMoneyModel", "steps", "I", false)
  | 12 => ("SilenceForMoneyModel", "taped", "I", false)
  | 13 => ("SilenceForMoneyModel", "at", "I", false)
  | 14 => ("SilenceForMoneyModel", "token", "I", false)
  | 15 => ("SilenceForMoneyModel", "tokenAt", "I", false)
  | 16 => ("SilenceForMoneyModel", "value", "I", false)
  | 17 => ("SilenceForMoneyModel", "wrong", "I", false)
  | 18 => ("SilenceForMoneyModel", "wrongAt", "I", false)
  | 19 => ("SilenceForMoneyModel", "faultKind", "I", false)
  | 20 => ("SilenceForMoneyModel", "depth", "I", false)
  | 21 => ("SilenceForMoneyModel", "faultPlace", "I", false)
  | 22 => ("SilenceForMoneyModel", "bargain", "I", false)
  | 23 => ("SilenceForMoneyModel", "may", "[I", true)
  | _ => ("SilenceForMoneyModel", "came", "[I", true)
def tyX12 : Nat → FieldType := fun k => match k with
  | 0 => .array .int
  | 1 => .array .int
  | 2 => .array .int
  | 3 => .boolean
  | 4 => .array .int
  | 5 => .array .int
  | 6 => .array .int
  | 7 => .array .int
  | 8 => .array .int
  | 9 => .int
  | 10 => .int
  | 11 => .int
  | 12 => .int
  | 13 => .int
  | 14 => .int
  | 15 => .int
  | 16 => .int
  | 17 => .int
  | 18 => .int
  | 19 => .int
  | 20 => .int
  | 21 => .int
  | 22 => .int
  | 23 => .array .int
  | _ => .array .int
abbrev wsX120 : List Cond := u_ws RX12 TX12 25
theorem nmX12 : ∀ a, a < 25 → ∀ b, b < 25 → a ≠ b → (TX12 a).2.1 ≠ (TX12 b).2.1 := by decide +kernel
theorem tyX12_ok : ∀ k, k < 25 → parseFieldDescriptor (TX12 k).2.2.1 = some (tyX12 k) := by decide +kernel
abbrev cX12_init : ByteArray := prog_14_method_1_code
def yX12_init : MethodName := ⟨RX12, "<init>", "()V"⟩
abbrev cX12_isIn : ByteArray := prog_14_method_2_code
def yX12_isIn : MethodName := ⟨RX12, "isIn", "(III)Z"⟩
abbrev cX12_state : ByteArray := prog_14_method_3_code
def yX12_state : MethodName := ⟨RX12, "state", "(I)I"⟩
abbrev cX12_draw : ByteArray := prog_14_method_4_code
def yX12_draw : MethodName := ⟨RX12, "draw", "(I)I"⟩
abbrev cX12_hushes : ByteArray := prog_14_method_5_code
def yX12_hushes : MethodName := ⟨RX12, "hushes", "(I)V"⟩
abbrev cX12_isOne : ByteArray := prog_14_method_6_code
def yX12_isOne : MethodName := ⟨RX12, "isOne", "(I)Z"⟩
abbrev cX12_isPlace : ByteArray := prog_14_method_7_code
def yX12_isPlace : MethodName := ⟨RX12, "isPlace", "(I)Z"⟩
abbrev cX12_own : ByteArray := prog_14_method_8_code
def yX12_own : MethodName := ⟨RX12, "own", "(II)I"⟩
abbrev cX12_gives : ByteArray := prog_14_method_9_code
def yX12_gives : MethodName := ⟨RX12, "gives", "(III)V"⟩
abbrev cX12_debtOf : ByteArray := prog_14_method_10_code
def yX12_debtOf : MethodName := ⟨RX12, "debtOf", "(II)I"⟩
abbrev cX12_lays0 : ByteArray := prog_14_method_11_code
def yX12_lays0 : MethodName := ⟨RX12, "lays0", "(III)V"⟩
abbrev cX12_one : ByteArray := prog_14_method_12_code
def yX12_one : MethodName := ⟨RX12, "one", "(IIIII)I"⟩
abbrev cX12_tell : ByteArray := prog_14_method_13_code
def yX12_tell : MethodName := ⟨RX12, "tell", "(III)Z"⟩
abbrev cX12_wall : ByteArray := prog_14_method_14_code
def yX12_wall : MethodName := ⟨RX12, "wall", "(III)Z"⟩
abbrev cX12_set : ByteArray := prog_14_method_15_code
def yX12_set : MethodName := ⟨RX12, "set", "(II)Z"⟩
abbrev cX12_isDebt : ByteArray := prog_14_method_16_code
def yX12_isDebt : MethodName := ⟨RX12, "isDebt", "(I)Z"⟩
abbrev cX12_debt : ByteArray := prog_14_method_17_code
def yX12_debt : MethodName := ⟨RX12, "debt", "(III)I"⟩
abbrev cX12_helpers : ByteArray := prog_14_method_18_code
def yX12_helpers : MethodName := ⟨RX12, "helpers", "(II)Z"⟩
abbrev cX12_workerOf : ByteArray := prog_14_method_19_code
def yX12_workerOf : MethodName := ⟨RX12, "workerOf", "(I)I"⟩
abbrev cX12_of : ByteArray := prog_14_method_20_code
def yX12_of : MethodName := ⟨RX12, "of", "(II)I"⟩
abbrev cX12_feed : ByteArray := prog_14_method_21_code
def yX12_feed : MethodName := ⟨RX12, "feed", "(IIIII)I"⟩
abbrev cX12_end : ByteArray := prog_14_method_22_code
def yX12_end : MethodName := ⟨RX12, "end", "(I)Z"⟩
abbrev cX12_see : ByteArray := prog_14_method_23_code
def yX12_see : MethodName := ⟨RX12, "see", "(I)I"⟩
abbrev cX12_isLetter : ByteArray := prog_14_method_24_code
def yX12_isLetter : MethodName := ⟨RX12, "isLetter", "(I)Z"⟩
abbrev cX12_isDigit : ByteArray := prog_14_method_25_code
def yX12_isDigit : MethodName := ⟨RX12, "isDigit", "(I)Z"⟩
abbrev cX12_is : ByteArray := prog_14_method_26_code
def yX12_is : MethodName := ⟨RX12, "is", "(Ljava/lang/String;)Z"⟩
abbrev cX12_lawWord : ByteArray := prog_14_method_27_code
def yX12_lawWord : MethodName := ⟨RX12, "lawWord", "()I"⟩
abbrev cX12_ruleWord : ByteArray := prog_14_method_28_code
def yX12_ruleWord : MethodName := ⟨RX12, "ruleWord", "()I"⟩
abbrev cX12_word0 : ByteArray := prog_14_method_29_code
def yX12_word0 : MethodName := ⟨RX12, "word0", "()I"⟩
abbrev cX12_next0 : ByteArray := prog_14_method_30_code
def yX12_next0 : MethodName := ⟨RX12, "next0", "()V"⟩
abbrev cX12_bad : ByteArray := prog_14_method_31_code
def yX12_bad : MethodName := ⟨RX12, "bad", "(I)Z"⟩
abbrev cX12_need : ByteArray := prog_14_method_32_code
def yX12_need : MethodName := ⟨RX12, "need", "(I)Z"⟩
abbrev cX12_number : ByteArray := prog_14_method_33_code
def yX12_number : MethodName := ⟨RX12, "number", "(II)Z"⟩
abbrev cX12_lay : ByteArray := prog_14_method_34_code
def yX12_lay : MethodName := ⟨RX12, "lay", "(II)V"⟩
abbrev cX12_opens : ByteArray := prog_14_method_35_code
def yX12_opens : MethodName := ⟨RX12, "opens", "()Z"⟩
abbrev cX12_sumUp : ByteArray := prog_14_method_36_code
def yX12_sumUp : MethodName := ⟨RX12, "sumUp", "()Z"⟩
abbrev cX12_product : ByteArray := prog_14_method_37_code
def yX12_product : MethodName := ⟨RX12, "product", "()Z"⟩
abbrev cX12_unit : ByteArray := prog_14_method_38_code
def yX12_unit : MethodName := ⟨RX12, "unit", "()Z"⟩
abbrev cX12_any : ByteArray := prog_14_method_39_code
def yX12_any : MethodName := ⟨RX12, "any", "()Z"⟩
abbrev cX12_every : ByteArray := prog_14_method_40_code
def yX12_every : MethodName := ⟨RX12, "every", "()Z"⟩
abbrev cX12_one0 : ByteArray := prog_14_method_41_code
def yX12_one0 : MethodName := ⟨RX12, "one0", "()Z"⟩
abbrev cX12_aLine : ByteArray := prog_14_method_42_code
def yX12_aLine : MethodName := ⟨RX12, "aLine", "()Z"⟩
abbrev cX12_text : ByteArray := prog_14_method_43_code
def yX12_text : MethodName := ⟨RX12, "text", "(I)I"⟩
abbrev cX12_fault : ByteArray := prog_14_method_44_code
def yX12_fault : MethodName := ⟨RX12, "fault", "(I)I"⟩
abbrev cX12_both : ByteArray := prog_14_method_45_code
def yX12_both : MethodName := ⟨RX12, "both", "(III)I"⟩
abbrev cX12_comesTo : ByteArray := prog_14_method_46_code
def yX12_comesTo : MethodName := ⟨RX12, "comesTo", "(III)I"⟩
abbrev cX12_firstLine : ByteArray := prog_14_method_47_code
def yX12_firstLine : MethodName := ⟨RX12, "firstLine", "(I)I"⟩
abbrev cX12_isNight : ByteArray := prog_14_method_48_code
def yX12_isNight : MethodName := ⟨RX12, "isNight", "(I)Z"⟩
abbrev cX12_isFeast : ByteArray := prog_14_method_49_code
def yX12_isFeast : MethodName := ⟨RX12, "isFeast", "(I)Z"⟩
abbrev cX12_isWord : ByteArray := prog_14_method_50_code
def yX12_isWord : MethodName := ⟨RX12, "isWord", "(IIIIZZ)Z"⟩
abbrev cX12_word : ByteArray := prog_14_method_51_code
def yX12_word : MethodName := ⟨RX12, "word", "(IIIIZZ)I"⟩
abbrev cX12_hourNow : ByteArray := prog_14_method_52_code
def yX12_hourNow : MethodName := ⟨RX12, "hourNow", "()I"⟩
abbrev cX12_left : ByteArray := prog_14_method_53_code
def yX12_left : MethodName := ⟨RX12, "left", "(II)I"⟩
abbrev cX12_ruled : ByteArray := prog_14_method_54_code
def yX12_ruled : MethodName := ⟨RX12, "ruled", "(I)I"⟩
abbrev cX12_does : ByteArray := prog_14_method_55_code
def yX12_does : MethodName := ⟨RX12, "does", "(I)I"⟩
abbrev cX12_sounds : ByteArray := prog_14_method_56_code
def yX12_sounds : MethodName := ⟨RX12, "sounds", "(III)V"⟩
abbrev cX12_makesNoise : ByteArray := prog_14_method_57_code
def yX12_makesNoise : MethodName := ⟨RX12, "makesNoise", "(I)V"⟩
abbrev cX12_noise : ByteArray := prog_14_method_58_code
def yX12_noise : MethodName := ⟨RX12, "noise", "(II)I"⟩
abbrev cX12_writes : ByteArray := prog_14_method_59_code
def yX12_writes : MethodName := ⟨RX12, "writes", "(III)V"⟩
abbrev cX12_isHeard : ByteArray := prog_14_method_60_code
def yX12_isHeard : MethodName := ⟨RX12, "isHeard", "(I)Z"⟩
abbrev cX12_isBetrayed : ByteArray := prog_14_method_61_code
def yX12_isBetrayed : MethodName := ⟨RX12, "isBetrayed", "(I)Z"⟩
abbrev cX12_keptFor : ByteArray := prog_14_method_62_code
def yX12_keptFor : MethodName := ⟨RX12, "keptFor", "(I)I"⟩
abbrev cX12_keeps : ByteArray := prog_14_method_63_code
def yX12_keeps : MethodName := ⟨RX12, "keeps", "(II)V"⟩
abbrev cX12_aQuarter : ByteArray := prog_14_method_64_code
def yX12_aQuarter : MethodName := ⟨RX12, "aQuarter", "()V"⟩
abbrev cX12_quarters : ByteArray := prog_14_method_65_code
def yX12_quarters : MethodName := ⟨RX12, "quarters", "(I)I"⟩
abbrev cX12_begins : ByteArray := prog_14_method_66_code
def yX12_begins : MethodName := ⟨RX12, "begins", "(III)V"⟩
abbrev cX12_pays : ByteArray := prog_14_method_67_code
def yX12_pays : MethodName := ⟨RX12, "pays", "(III)V"⟩
abbrev cX12_isOf : ByteArray := prog_14_method_68_code
def yX12_isOf : MethodName := ⟨RX12, "isOf", "(I)V"⟩
abbrev cX12_ends : ByteArray := prog_14_method_69_code
def yX12_ends : MethodName := ⟨RX12, "ends", "()V"⟩
abbrev cX12_isLeft : ByteArray := prog_14_method_70_code
def yX12_isLeft : MethodName := ⟨RX12, "isLeft", "(I)Z"⟩
abbrev cX12_lend : ByteArray := prog_14_method_71_code
def yX12_lend : MethodName := ⟨RX12, "lend", "(III)Z"⟩
abbrev cX12_split : ByteArray := prog_14_method_72_code
def yX12_split : MethodName := ⟨RX12, "split", "(II)I"⟩
abbrev cX12_inherit : ByteArray := prog_14_method_73_code
def yX12_inherit : MethodName := ⟨RX12, "inherit", "(II)I"⟩
abbrev cX12_sell : ByteArray := prog_14_method_74_code
def yX12_sell : MethodName := ⟨RX12, "sell", "(III)Z"⟩
abbrev cX12_isIt : ByteArray := prog_14_method_75_code
def yX12_isIt : MethodName := ⟨RX12, "isIt", "(II)Z"⟩
abbrev cX12_undo : ByteArray := prog_14_method_76_code
def yX12_undo : MethodName := ⟨RX12, "undo", "()Z"⟩
abbrev cX12_mays : ByteArray := prog_14_method_77_code
def yX12_mays : MethodName := ⟨RX12, "mays", "()I"⟩
abbrev cX12_count : ByteArray := prog_14_method_78_code
def yX12_count : MethodName := ⟨RX12, "count", "(I)I"⟩
abbrev cX12_upwards : ByteArray := prog_14_method_79_code
def yX12_upwards : MethodName := ⟨RX12, "upwards", "(II)I"⟩
abbrev cX12_greatest : ByteArray := prog_14_method_80_code
def yX12_greatest : MethodName := ⟨RX12, "greatest", "()I"⟩
abbrev cX12_within : ByteArray := prog_14_method_81_code
def yX12_within : MethodName := ⟨RX12, "within", "(I)I"⟩
abbrev cX12_alone : ByteArray := prog_14_method_82_code
def yX12_alone : MethodName := ⟨RX12, "alone", "()I"⟩
abbrev cX12_soonest : ByteArray := prog_14_method_83_code
def yX12_soonest : MethodName := ⟨RX12, "soonest", "(I)I"⟩
abbrev cX12_canBe : ByteArray := prog_14_method_84_code
def yX12_canBe : MethodName := ⟨RX12, "canBe", "(IIIIIZI)Z"⟩
abbrev cX12_canSay : ByteArray := prog_14_method_85_code
def yX12_canSay : MethodName := ⟨RX12, "canSay", "(IIIZI)Z"⟩
abbrev cX12_whom : ByteArray := prog_14_method_86_code
def yX12_whom : MethodName := ⟨RX12, "whom", "(IIII)I"⟩
abbrev cX12_setsOut : ByteArray := prog_14_method_87_code
def yX12_setsOut : MethodName := ⟨RX12, "setsOut", "()V"⟩
abbrev cX12_comesBack : ByteArray := prog_14_method_88_code
def yX12_comesBack : MethodName := ⟨RX12, "comesBack", "()V"⟩
abbrev cX12_quiet : ByteArray := prog_14_method_89_code
def yX12_quiet : MethodName := ⟨RX12, "quiet", "(II)I"⟩
abbrev cX12_leads : ByteArray := prog_14_method_90_code
def yX12_leads : MethodName := ⟨RX12, "leads", "(II)V"⟩
abbrev cX12_thought : ByteArray := prog_14_method_91_code
def yX12_thought : MethodName := ⟨RX12, "thought", "(III)I"⟩
abbrev cX12_person : ByteArray := prog_14_method_92_code
def yX12_person : MethodName := ⟨RX12, "person", "(II)I"⟩
abbrev cX12_book : ByteArray := prog_14_method_93_code
def yX12_book : MethodName := ⟨RX12, "book", "(II)I"⟩
abbrev cX12_image : ByteArray := prog_14_method_94_code
def yX12_image : MethodName := ⟨RX12, "image", "(Z)Z"⟩
abbrev cX12_look : ByteArray := prog_14_method_95_code
def yX12_look : MethodName := ⟨RX12, "look", "(I)I"⟩
def RJx145de : String := "java/io/Serializable"
def RJx9f9b0 : String := "java/lang/CharSequence"
def RJx8e188 : String := "java/lang/Cloneable"
def RJxb160c : String := "java/lang/Comparable"
def RJ6 : String := "java/lang/Integer"
abbrev cJ6_bitCount_0f7a4 : ByteArray := prog_16_method_49_code
def yJ6_bitCount_0f7a4 : MethodName := ⟨RJ6, "bitCount", "(I)I"⟩
def RJ9 : String := "java/lang/Math"
abbrev cJ9_max_7cf53 : ByteArray := prog_17_method_65_code
def yJ9_max_7cf53 : MethodName := ⟨RJ9, "max", "(II)I"⟩
abbrev cJ9_min_7cf53 : ByteArray := prog_17_method_69_code
def yJ9_min_7cf53 : MethodName := ⟨RJ9, "min", "(II)I"⟩
def RJ0 : String := "java/lang/String"
abbrev cJ0_length_8abf5 : ByteArray := prog_18_method_54_code
def yJ0_length_8abf5 : MethodName := ⟨RJ0, "length", "()I"⟩
abbrev cJ0_charAt_5068e : ByteArray := prog_18_method_56_code
def yJ0_charAt_5068e : MethodName := ⟨RJ0, "charAt", "(I)C"⟩
abbrev cJ0_coder_7d493 : ByteArray := prog_18_method_152_code
def yJ0_coder_7d493 : MethodName := ⟨RJ0, "coder", "()B"⟩
abbrev cJ0_isLatin1_aae02 : ByteArray := prog_18_method_154_code
def yJ0_isLatin1_aae02 : MethodName := ⟨RJ0, "isLatin1", "()Z"⟩
abbrev cJ0_checkIndex_df160 : ByteArray := prog_18_method_155_code
def yJ0_checkIndex_df160 : MethodName := ⟨RJ0, "checkIndex", "(II)V"⟩
def RJ1 : String := "java/lang/StringLatin1"
abbrev cJ1_charAt_3b067 : ByteArray := prog_19_method_2_code
def yJ1_charAt_3b067 : MethodName := ⟨RJ1, "charAt", "([BI)C"⟩
def RJ2 : String := "java/lang/StringUTF16"
abbrev cJ2_getChar_3b067 : ByteArray := prog_20_method_5_code
def yJ2_getChar_3b067 : MethodName := ⟨RJ2, "getChar", "([BI)C"⟩
abbrev cJ2_length_9d52b : ByteArray := prog_20_method_6_code
def yJ2_length_9d52b : MethodName := ⟨RJ2, "length", "([B)I"⟩
abbrev cJ2_charAt_3b067 : ByteArray := prog_20_method_83_code
def yJ2_charAt_3b067 : MethodName := ⟨RJ2, "charAt", "([BI)C"⟩
abbrev cJ2_checkIndex_2214a : ByteArray := prog_20_method_91_code
def yJ2_checkIndex_2214a : MethodName := ⟨RJ2, "checkIndex", "(I[B)V"⟩
def RJ10 : String := "java/lang/System"
def RJxfd54e : String := "java/lang/constant/Constable"
def RJx3cf43 : String := "java/lang/constant/ConstantDesc"
def RJ7 : String := "java/util/Arrays"
abbrev cJ7_fill_53178 : ByteArray := prog_22_method_103_code
def yJ7_fill_53178 : MethodName := ⟨RJ7, "fill", "([II)V"⟩
abbrev cJ7_copyOf_59c91 : ByteArray := prog_22_method_123_code
def yJ7_copyOf_59c91 : MethodName := ⟨RJ7, "copyOf", "([II)[I"⟩
def RJ3 : String := "jdk/internal/util/Preconditions"
abbrev cJ3_checkIndex_8e157 : ByteArray := prog_23_method_11_code
def yJ3_checkIndex_8e157 : MethodName := ⟨RJ3, "checkIndex", "(IILjava/util/function/BiFunction;)I"⟩
def RL : String := "SilenceForMoneyLaw"
abbrev cL_law : ByteArray := code
def yL_law : MethodName := ⟨RL, "law", "([I)Z"⟩
abbrev vwCl : List vw_C := [(RX0, TX0, 6), (RX1, TX1, 2), (RX2, TX2, 7), (RX3, TX3, 11), (RX4, TX4, 11), (RX5, TX5, 13), (RX6, TX6, 2), (RX7, TX7, 4), (RX8, TX8, 4), (RX9, TX9, 7), (RX10, TX10, 10), (RX11, TX11, 5), (RX12, TX12, 25)]
end
section
/-! THE WORDS OF THE TABLES, AND WHAT IS SAID WITH THEM. -/
/-- the words that go from a caller to a callee -/
def gtb : List Cond := lw_tbl.filter goodWord
theorem gtb_good {w : Cond} (h : w ∈ gtb) : (w.onTables && w.keeps) = true ∨ ∃ ty, w = .arrayClass ty := good_of_word (List.mem_filter.mp h).2
theorem gtb_of {w : Cond} (h : w ∈ lw_tbl) (hg : goodWord w = true) : w ∈ gtb := List.mem_filter.mpr ⟨h, hg⟩
/-- a place of the tables -/
theorem gtb_at (i : Nat) {w : Cond} (h : tables_1[i]? = some w) (hg : goodWord w = true) : w ∈ gtb := gtb_of (List.mem_append_right _ (List.mem_of_getElem? h)) hg
theorem gtb_t1 (i : Nat) {w : Cond} (h : tables_1_1[i]? = some w) (hg : goodWord w = true) : w ∈ gtb := gtb_of (List.mem_append_right _ (List.mem_append_left _ (List.mem_of_getElem? h))) hg
theorem gtb_t2 (i : Nat) {w : Cond} (h : tables_1_2[i]? = some w) (hg : goodWord w = true) : w ∈ gtb := gtb_of (List.mem_append_right _ (List.mem_append_right _ (List.mem_append_left _ (List.mem_of_getElem? h)))) hg
theorem gtb_t3 (i : Nat) {w : Cond} (h : tables_1_3[i]? = some w) (hg : goodWord w = true) : w ∈ gtb := gtb_of (List.mem_append_right _ (List.mem_append_right _ (List.mem_append_right _ (List.mem_append_left _ (List.mem_of_getElem? h))))) hg
theorem gtb_t4 (i : Nat) {w : Cond} (h : tables_1_4[i]? = some w) (hg : goodWord w = true) : w ∈ gtb := gtb_of (List.mem_append_right _ (List.mem_append_right _ (List.mem_append_right _ (List.mem_append_right _ (List.mem_append_left _ (List.mem_of_getElem? h)))))) hg
theorem gtb_t5 (i : Nat) {w : Cond} (h : tables_1_5[i]? = some w) (hg : goodWord w = true) : w ∈ gtb := gtb_of (List.mem_append_right _ (List.mem_append_right _ (List.mem_append_right _ (List.mem_append_right _ (List.mem_append_right _ (List.mem_append_left _ (List.mem_of_getElem? h))))))) hg
theorem gtb_t6 (i : Nat) {w : Cond} (h : tables_1_6[i]? = some w) (hg : goodWord w = true) : w ∈ gtb := gtb_of (List.mem_append_right _ (List.mem_append_right _ (List.mem_append_right _ (List.mem_append_right _ (List.mem_append_right _ (List.mem_append_right _ (List.mem_append_left _ (List.mem_of_getElem? h)))))))) hg
theorem gtb_t7 (i : Nat) {w : Cond} (h : tables_1_7[i]? = some w) (hg : goodWord w = true) : w ∈ gtb := gtb_of (List.mem_append_right _ (List.mem_append_right _ (List.mem_append_right _ (List.mem_append_right _ (List.mem_append_right _ (List.mem_append_right _ (List.mem_append_right _ (List.mem_of_getElem? h)))))))) hg
theorem gtb_pr (i : Nat) {w : Cond} (h : (k2_sels lw_privs)[i]? = some w) (hg : goodWord w = true) : w ∈ gtb := gtb_of (List.mem_append_left _ (List.mem_of_getElem? h)) hg
/-- what is said of a method that is called -/
def MB (y : MethodName) (cc : ByteArray) (nL : Nat) (ret : Option FieldType) (np : Nat) : Prop := Cond.code y cc nL ret ∈ gtb ∧ Cond.initialized y.cls ∈ gtb ∧ (y.cls ≠ "java/lang/invoke/MethodHandle" ∧ y.cls ≠ "java/lang/invoke/VarHandle" ∧ (parseMethodDescriptor y.desc).map (fun d => d.parameters.length) = some np)
def MV (y : MethodName) : Prop := Cond.instanceMethod y ∈ gtb ∧ Cond.selects y.cls y y ∈ gtb
def MS (y : MethodName) : Prop := Cond.static y ∈ gtb
def MI (y : MethodName) : Prop := y.name = "<init>" ∧ Cond.instanceMethod y ∈ gtb
/-- a link to a nest mate's private method -/
def NL (own : String) (idx : Nat) (y : MethodName) : Prop := Cond.methodLinkNest own idx y "SilenceForMoney" ∈ lw_tbl
/-- a link of a field: class number, place -/
def FL (own : String) (idx ci kf : Nat) (desc : String) (fin : Bool) : Prop := ∃ (C name : String) (T : u_T) (N : Nat), vwCl[ci]? = some (C, T, N) ∧ T kf = (C, name, desc, fin) ∧ kf < N ∧ Cond.fieldLink own idx C name desc ∈ gtb
def sgB (cc : ByteArray) : Nat → List (Instr × Nat) → Bool
  | _, [] => true
  | pc, (i, n) :: r => decide (decode cc pc = .ok (i, n)) && sgB cc (pc + n) r
end
section
/-! LINKS: fields, methods, classes, by their places in the tables. -/
theorem flX11_19 : FL RX11 19 11 0 "LSilenceForMoney$World;" true := ⟨_, _, _, _, rfl, rfl, by decide, (gtb_t2 158 (by decide +kernel) (by decide +kernel))⟩
theorem flX11_23 : FL RX11 23 11 1 "LSilenceForMoney$World;" true := ⟨_, _, _, _, rfl, rfl, by decide, (gtb_t2 159 (by decide +kernel) (by decide +kernel))⟩
theorem flX11_26 : FL RX11 26 11 2 "LSilenceForMoney$World;" false := ⟨_, _, _, _, rfl, rfl, by decide, (gtb_t2 160 (by decide +kernel) (by decide +kernel))⟩
theorem flX11_32 : FL RX11 32 11 3 "LSilenceForMoney$Tape;" true := ⟨_, _, _, _, rfl, rfl, by decide, (gtb_t2 161 (by decide +kernel) (by decide +kernel))⟩
theorem flX11_39 : FL RX11 39 11 4 "LSilenceForMoney$Reader;" true := ⟨_, _, _, _, rfl, rfl, by decide, (gtb_t2 162 (by decide +kernel) (by decide +kernel))⟩
theorem flX11_43 : FL RX11 43 10 3 "LSilenceForMoney$Time;" true := ⟨_, _, _, _, rfl, rfl, by decide, (gtb_t2 63 (by decide +kernel) (by decide +kernel))⟩
theorem flX11_47 : FL RX11 47 8 0 "I" false := ⟨_, _, _, _, rfl, rfl, by decide, (gtb_t1 216 (by decide +kernel) (by decide +kernel))⟩
theorem flX11_57 : FL RX11 57 10 0 "LSilenceForMoney$People;" true := ⟨_, _, _, _, rfl, rfl, by decide, (gtb_t2 57 (by decide +kernel) (by decide +kernel))⟩
theorem flX11_61 : FL RX11 61 4 0 "I" false := ⟨_, _, _, _, rfl, rfl, by decide, (gtb_t1 65 (by decide +kernel) (by decide +kernel))⟩
theorem slX11_66 : Cond.fieldLink RX11 66 RX11 "TELL_MOST" "[I" ∈ gtb := (gtb_t2 185 (by decide +kernel) (by decide +kernel))
theorem flX11_89 : FL RX11 89 10 2 "LSilenceForMoney$Town;" true := ⟨_, _, _, _, rfl, rfl, by decide, (gtb_t2 61 (by decide +kernel) (by decide +kernel))⟩
theorem flX11_98 : FL RX11 98 9 2 "I" false := ⟨_, _, _, _, rfl, rfl, by decide, (gtb_t1 183 (by decide +kernel) (by decide +kernel))⟩
theorem flX11_101 : FL RX11 101 9 1 "[I" true := ⟨_, _, _, _, rfl, rfl, by decide, (gtb_t1 181 (by decide +kernel) (by decide +kernel))⟩
theorem slX11_104 : Cond.fieldLink RX11 104 RX11 "SET_MOST" "[I" ∈ gtb := (gtb_t2 231 (by decide +kernel) (by decide +kernel))
theorem flX11_110 : FL RX11 110 10 1 "LSilenceForMoney$Debts;" true := ⟨_, _, _, _, rfl, rfl, by decide, (gtb_t2 59 (by decide +kernel) (by decide +kernel))⟩
theorem flX11_120 : FL RX11 120 3 6 "[I" true := ⟨_, _, _, _, rfl, rfl, by decide, (gtb_t1 139 (by decide +kernel) (by decide +kernel))⟩
theorem flX11_127 : FL RX11 127 6 1 "I" false := ⟨_, _, _, _, rfl, rfl, by decide, (gtb_t2 104 (by decide +kernel) (by decide +kernel))⟩
theorem flX11_141 : FL RX11 141 10 6 "[LSilenceForMoney$Text;" true := ⟨_, _, _, _, rfl, rfl, by decide, (gtb_t2 69 (by decide +kernel) (by decide +kernel))⟩
theorem flX11_145 : FL RX11 145 7 0 "I" true := ⟨_, _, _, _, rfl, rfl, by decide, (gtb_t1 37 (by decide +kernel) (by decide +kernel))⟩
theorem flX11_148 : FL RX11 148 5 0 "I" false := ⟨_, _, _, _, rfl, rfl, by decide, (gtb_t2 117 (by decide +kernel) (by decide +kernel))⟩
theorem flX11_151 : FL RX11 151 5 1 "I" false := ⟨_, _, _, _, rfl, rfl, by decide, (gtb_t2 119 (by decide +kernel) (by decide +kernel))⟩
theorem flX11_154 : FL RX11 154 4 1 "[I" true := ⟨_, _, _, _, rfl, rfl, by decide, (gtb_t1 69 (by decide +kernel) (by decide +kernel))⟩
theorem flX11_174 : FL RX11 174 8 1 "I" false := ⟨_, _, _, _, rfl, rfl, by decide, (gtb_t1 220 (by decide +kernel) (by decide +kernel))⟩
theorem flX11_177 : FL RX11 177 8 2 "I" false := ⟨_, _, _, _, rfl, rfl, by decide, (gtb_t1 224 (by decide +kernel) (by decide +kernel))⟩
theorem flX11_180 : FL RX11 180 10 4 "LSilenceForMoney$Book;" true := ⟨_, _, _, _, rfl, rfl, by decide, (gtb_t2 65 (by decide +kernel) (by decide +kernel))⟩
theorem flX11_184 : FL RX11 184 2 3 "I" false := ⟨_, _, _, _, rfl, rfl, by decide, (gtb_t2 32 (by decide +kernel) (by decide +kernel))⟩
theorem flX11_195 : FL RX11 195 10 5 "LSilenceForMoney$Bargains;" true := ⟨_, _, _, _, rfl, rfl, by decide, (gtb_t2 67 (by decide +kernel) (by decide +kernel))⟩
theorem flX11_258 : FL RX11 258 2 4 "I" false := ⟨_, _, _, _, rfl, rfl, by decide, (gtb_t2 36 (by decide +kernel) (by decide +kernel))⟩
theorem flX11_271 : FL RX11 271 2 2 "I" false := ⟨_, _, _, _, rfl, rfl, by decide, (gtb_t2 30 (by decide +kernel) (by decide +kernel))⟩
theorem flX11_272 : FL RX11 272 2 1 "[I" true := ⟨_, _, _, _, rfl, rfl, by decide, (gtb_t2 28 (by decide +kernel) (by decide +kernel))⟩
theorem flX11_274 : FL RX11 274 3 0 "I" false := ⟨_, _, _, _, rfl, rfl, by decide, (gtb_t1 121 (by decide +kernel) (by decide +kernel))⟩
theorem flX11_281 : FL RX11 281 1 0 "I" false := ⟨_, _, _, _, rfl, rfl, by decide, (gtb_t2 5 (by decide +kernel) (by decide +kernel))⟩
theorem flX11_282 : FL RX11 282 9 6 "I" false := ⟨_, _, _, _, rfl, rfl, by decide, (gtb_t1 193 (by decide +kernel) (by decide +kernel))⟩
theorem flX0_9 : FL RX0 9 0 5 "I" false := ⟨_, _, _, _, rfl, rfl, by decide, (gtb_t4 150 (by decide +kernel) (by decide +kernel))⟩
theorem flX0_15 : FL RX0 15 0 0 "I" true := ⟨_, _, _, _, rfl, rfl, by decide, (gtb_t4 145 (by decide +kernel) (by decide +kernel))⟩
theorem flX0_18 : FL RX0 18 0 1 "I" true := ⟨_, _, _, _, rfl, rfl, by decide, (gtb_t4 146 (by decide +kernel) (by decide +kernel))⟩
theorem flX0_21 : FL RX0 21 0 2 "I" true := ⟨_, _, _, _, rfl, rfl, by decide, (gtb_t4 147 (by decide +kernel) (by decide +kernel))⟩
theorem flX0_33 : FL RX0 33 0 3 "[I" true := ⟨_, _, _, _, rfl, rfl, by decide, (gtb_t4 148 (by decide +kernel) (by decide +kernel))⟩
theorem flX0_37 : FL RX0 37 0 4 "I" false := ⟨_, _, _, _, rfl, rfl, by decide, (gtb_t4 149 (by decide +kernel) (by decide +kernel))⟩
theorem flX0_46 : FL RX0 46 3 1 "[I" true := ⟨_, _, _, _, rfl, rfl, by decide, (gtb_t1 123 (by decide +kernel) (by decide +kernel))⟩
theorem flX0_49 : FL RX0 49 3 2 "[I" true := ⟨_, _, _, _, rfl, rfl, by decide, (gtb_t1 126 (by decide +kernel) (by decide +kernel))⟩
theorem flX0_52 : FL RX0 52 3 5 "[I" true := ⟨_, _, _, _, rfl, rfl, by decide, (gtb_t1 135 (by decide +kernel) (by decide +kernel))⟩
theorem flX0_55 : FL RX0 55 3 3 "[I" true := ⟨_, _, _, _, rfl, rfl, by decide, (gtb_t1 129 (by decide +kernel) (by decide +kernel))⟩
theorem flX0_58 : FL RX0 58 3 0 "I" false := ⟨_, _, _, _, rfl, rfl, by decide, (gtb_t1 118 (by decide +kernel) (by decide +kernel))⟩
theorem flX1_11 : FL RX1 11 1 1 "[LSilenceForMoney$Bargain;" true := ⟨_, _, _, _, rfl, rfl, by decide, (gtb_t2 6 (by decide +kernel) (by decide +kernel))⟩
theorem flX1_17 : FL RX1 17 1 0 "I" false := ⟨_, _, _, _, rfl, rfl, by decide, (gtb_t2 4 (by decide +kernel) (by decide +kernel))⟩
theorem flX1_36 : FL RX1 36 3 2 "[I" true := ⟨_, _, _, _, rfl, rfl, by decide, (gtb_t1 127 (by decide +kernel) (by decide +kernel))⟩
theorem flX1_40 : FL RX1 40 3 1 "[I" true := ⟨_, _, _, _, rfl, rfl, by decide, (gtb_t1 124 (by decide +kernel) (by decide +kernel))⟩
theorem flX1_43 : FL RX1 43 4 6 "[I" true := ⟨_, _, _, _, rfl, rfl, by decide, (gtb_t1 79 (by decide +kernel) (by decide +kernel))⟩
theorem flX1_61 : FL RX1 61 3 3 "[I" true := ⟨_, _, _, _, rfl, rfl, by decide, (gtb_t1 130 (by decide +kernel) (by decide +kernel))⟩
theorem flX1_64 : FL RX1 64 3 0 "I" false := ⟨_, _, _, _, rfl, rfl, by decide, (gtb_t1 119 (by decide +kernel) (by decide +kernel))⟩
theorem flX1_74 : FL RX1 74 3 5 "[I" true := ⟨_, _, _, _, rfl, rfl, by decide, (gtb_t1 136 (by decide +kernel) (by decide +kernel))⟩
theorem flX1_77 : FL RX1 77 3 6 "[I" true := ⟨_, _, _, _, rfl, rfl, by decide, (gtb_t1 138 (by decide +kernel) (by decide +kernel))⟩
theorem flX2_18 : FL RX2 18 2 0 "I" true := ⟨_, _, _, _, rfl, rfl, by decide, (gtb_t2 26 (by decide +kernel) (by decide +kernel))⟩
theorem flX2_24 : FL RX2 24 2 1 "[I" true := ⟨_, _, _, _, rfl, rfl, by decide, (gtb_t2 27 (by decide +kernel) (by decide +kernel))⟩
theorem flX2_28 : FL RX2 28 2 2 "I" false := ⟨_, _, _, _, rfl, rfl, by decide, (gtb_t2 29 (by decide +kernel) (by decide +kernel))⟩
theorem flX2_37 : FL RX2 37 2 3 "I" false := ⟨_, _, _, _, rfl, rfl, by decide, (gtb_t2 31 (by decide +kernel) (by decide +kernel))⟩
theorem flX2_40 : FL RX2 40 2 4 "I" false := ⟨_, _, _, _, rfl, rfl, by decide, (gtb_t2 34 (by decide +kernel) (by decide +kernel))⟩
theorem flX2_43 : FL RX2 43 2 5 "I" false := ⟨_, _, _, _, rfl, rfl, by decide, (gtb_t2 37 (by decide +kernel) (by decide +kernel))⟩
theorem flX2_46 : FL RX2 46 2 6 "I" false := ⟨_, _, _, _, rfl, rfl, by decide, (gtb_t2 39 (by decide +kernel) (by decide +kernel))⟩
theorem flX2_49 : FL RX2 49 8 1 "I" false := ⟨_, _, _, _, rfl, rfl, by decide, (gtb_t1 218 (by decide +kernel) (by decide +kernel))⟩
theorem flX2_54 : FL RX2 54 8 2 "I" false := ⟨_, _, _, _, rfl, rfl, by decide, (gtb_t1 222 (by decide +kernel) (by decide +kernel))⟩
theorem flX3_9 : FL RX3 9 3 1 "[I" true := ⟨_, _, _, _, rfl, rfl, by decide, (gtb_t1 122 (by decide +kernel) (by decide +kernel))⟩
theorem flX3_15 : FL RX3 15 3 2 "[I" true := ⟨_, _, _, _, rfl, rfl, by decide, (gtb_t1 125 (by decide +kernel) (by decide +kernel))⟩
theorem flX3_18 : FL RX3 18 3 3 "[I" true := ⟨_, _, _, _, rfl, rfl, by decide, (gtb_t1 128 (by decide +kernel) (by decide +kernel))⟩
theorem flX3_21 : FL RX3 21 3 4 "[I" true := ⟨_, _, _, _, rfl, rfl, by decide, (gtb_t1 132 (by decide +kernel) (by decide +kernel))⟩
theorem flX3_24 : FL RX3 24 3 5 "[I" true := ⟨_, _, _, _, rfl, rfl, by decide, (gtb_t1 134 (by decide +kernel) (by decide +kernel))⟩
theorem flX3_27 : FL RX3 27 3 6 "[I" true := ⟨_, _, _, _, rfl, rfl, by decide, (gtb_t1 137 (by decide +kernel) (by decide +kernel))⟩
theorem flX3_30 : FL RX3 30 3 7 "[I" true := ⟨_, _, _, _, rfl, rfl, by decide, (gtb_t1 140 (by decide +kernel) (by decide +kernel))⟩
theorem flX3_33 : FL RX3 33 3 8 "[I" true := ⟨_, _, _, _, rfl, rfl, by decide, (gtb_t1 142 (by decide +kernel) (by decide +kernel))⟩
theorem flX3_36 : FL RX3 36 3 9 "[I" true := ⟨_, _, _, _, rfl, rfl, by decide, (gtb_t1 143 (by decide +kernel) (by decide +kernel))⟩
theorem flX3_39 : FL RX3 39 3 10 "[I" true := ⟨_, _, _, _, rfl, rfl, by decide, (gtb_t1 145 (by decide +kernel) (by decide +kernel))⟩
theorem flX3_42 : FL RX3 42 3 0 "I" false := ⟨_, _, _, _, rfl, rfl, by decide, (gtb_t1 117 (by decide +kernel) (by decide +kernel))⟩
theorem flX4_9 : FL RX4 9 4 1 "[I" true := ⟨_, _, _, _, rfl, rfl, by decide, (gtb_t1 67 (by decide +kernel) (by decide +kernel))⟩
theorem flX4_15 : FL RX4 15 4 2 "[I" true := ⟨_, _, _, _, rfl, rfl, by decide, (gtb_t1 70 (by decide +kernel) (by decide +kernel))⟩
theorem flX4_18 : FL RX4 18 4 3 "[I" true := ⟨_, _, _, _, rfl, rfl, by decide, (gtb_t1 72 (by decide +kernel) (by decide +kernel))⟩
theorem flX4_21 : FL RX4 21 4 4 "[I" true := ⟨_, _, _, _, rfl, rfl, by decide, (gtb_t1 74 (by decide +kernel) (by decide +kernel))⟩
theorem flX4_24 : FL RX4 24 4 5 "[I" true := ⟨_, _, _, _, rfl, rfl, by decide, (gtb_t1 76 (by decide +kernel) (by decide +kernel))⟩
theorem flX4_27 : FL RX4 27 4 6 "[I" true := ⟨_, _, _, _, rfl, rfl, by decide, (gtb_t1 78 (by decide +kernel) (by decide +kernel))⟩
theorem flX4_30 : FL RX4 30 4 7 "[I" true := ⟨_, _, _, _, rfl, rfl, by decide, (gtb_t1 80 (by decide +kernel) (by decide +kernel))⟩
theorem flX4_33 : FL RX4 33 4 8 "[I" true := ⟨_, _, _, _, rfl, rfl, by decide, (gtb_t1 82 (by decide +kernel) (by decide +kernel))⟩
theorem flX4_36 : FL RX4 36 4 9 "[I" true := ⟨_, _, _, _, rfl, rfl, by decide, (gtb_t1 84 (by decide +kernel) (by decide +kernel))⟩
theorem flX4_39 : FL RX4 39 4 10 "[I" true := ⟨_, _, _, _, rfl, rfl, by decide, (gtb_t1 86 (by decide +kernel) (by decide +kernel))⟩
theorem flX4_42 : FL RX4 42 4 0 "I" false := ⟨_, _, _, _, rfl, rfl, by decide, (gtb_t1 64 (by decide +kernel) (by decide +kernel))⟩
theorem flX5_11 : FL RX5 11 5 1 "I" false := ⟨_, _, _, _, rfl, rfl, by decide, (gtb_t2 118 (by decide +kernel) (by decide +kernel))⟩
theorem flX5_15 : FL RX5 15 5 5 "[I" true := ⟨_, _, _, _, rfl, rfl, by decide, (gtb_t2 123 (by decide +kernel) (by decide +kernel))⟩
theorem flX5_19 : FL RX5 19 5 6 "[I" true := ⟨_, _, _, _, rfl, rfl, by decide, (gtb_t2 124 (by decide +kernel) (by decide +kernel))⟩
theorem flX5_22 : FL RX5 22 5 7 "[I" true := ⟨_, _, _, _, rfl, rfl, by decide, (gtb_t2 125 (by decide +kernel) (by decide +kernel))⟩
theorem flX5_25 : FL RX5 25 5 8 "[I" true := ⟨_, _, _, _, rfl, rfl, by decide, (gtb_t2 126 (by decide +kernel) (by decide +kernel))⟩
theorem flX5_28 : FL RX5 28 5 9 "[I" true := ⟨_, _, _, _, rfl, rfl, by decide, (gtb_t2 127 (by decide +kernel) (by decide +kernel))⟩
theorem flX5_31 : FL RX5 31 5 10 "[I" true := ⟨_, _, _, _, rfl, rfl, by decide, (gtb_t2 128 (by decide +kernel) (by decide +kernel))⟩
theorem flX5_34 : FL RX5 34 5 0 "I" false := ⟨_, _, _, _, rfl, rfl, by decide, (gtb_t2 116 (by decide +kernel) (by decide +kernel))⟩
theorem flX5_40 : FL RX5 40 5 2 "Z" false := ⟨_, _, _, _, rfl, rfl, by decide, (gtb_t2 120 (by decide +kernel) (by decide +kernel))⟩
theorem flX5_44 : FL RX5 44 5 3 "I" false := ⟨_, _, _, _, rfl, rfl, by decide, (gtb_t2 121 (by decide +kernel) (by decide +kernel))⟩
theorem flX5_47 : FL RX5 47 5 4 "I" false := ⟨_, _, _, _, rfl, rfl, by decide, (gtb_t2 122 (by decide +kernel) (by decide +kernel))⟩
theorem flX5_54 : FL RX5 54 5 12 "I" false := ⟨_, _, _, _, rfl, rfl, by decide, (gtb_t2 130 (by decide +kernel) (by decide +kernel))⟩
theorem flX5_71 : FL RX5 71 5 11 "I" false := ⟨_, _, _, _, rfl, rfl, by decide, (gtb_t2 129 (by decide +kernel) (by decide +kernel))⟩
theorem flX5_74 : FL RX5 74 6 1 "I" false := ⟨_, _, _, _, rfl, rfl, by decide, (gtb_t2 103 (by decide +kernel) (by decide +kernel))⟩
theorem flX5_85 : FL RX5 85 6 0 "[I" true := ⟨_, _, _, _, rfl, rfl, by decide, (gtb_t2 101 (by decide +kernel) (by decide +kernel))⟩
theorem flX6_9 : FL RX6 9 6 0 "[I" true := ⟨_, _, _, _, rfl, rfl, by decide, (gtb_t2 100 (by decide +kernel) (by decide +kernel))⟩
theorem flX6_15 : FL RX6 15 6 1 "I" false := ⟨_, _, _, _, rfl, rfl, by decide, (gtb_t2 102 (by decide +kernel) (by decide +kernel))⟩
theorem flX7_9 : FL RX7 9 7 0 "I" true := ⟨_, _, _, _, rfl, rfl, by decide, (gtb_t1 36 (by decide +kernel) (by decide +kernel))⟩
theorem flX7_15 : FL RX7 15 7 1 "[I" true := ⟨_, _, _, _, rfl, rfl, by decide, (gtb_t1 39 (by decide +kernel) (by decide +kernel))⟩
theorem flX7_19 : FL RX7 19 7 2 "[I" true := ⟨_, _, _, _, rfl, rfl, by decide, (gtb_t1 40 (by decide +kernel) (by decide +kernel))⟩
theorem flX7_22 : FL RX7 22 7 3 "[I" true := ⟨_, _, _, _, rfl, rfl, by decide, (gtb_t1 41 (by decide +kernel) (by decide +kernel))⟩
theorem flX8_9 : FL RX8 9 8 0 "I" false := ⟨_, _, _, _, rfl, rfl, by decide, (gtb_t1 215 (by decide +kernel) (by decide +kernel))⟩
theorem flX8_15 : FL RX8 15 8 1 "I" false := ⟨_, _, _, _, rfl, rfl, by decide, (gtb_t1 217 (by decide +kernel) (by decide +kernel))⟩
theorem flX8_18 : FL RX8 18 8 2 "I" false := ⟨_, _, _, _, rfl, rfl, by decide, (gtb_t1 221 (by decide +kernel) (by decide +kernel))⟩
theorem flX8_21 : FL RX8 21 8 3 "I" false := ⟨_, _, _, _, rfl, rfl, by decide, (gtb_t1 225 (by decide +kernel) (by decide +kernel))⟩
theorem flX9_9 : FL RX9 9 9 0 "[I" true := ⟨_, _, _, _, rfl, rfl, by decide, (gtb_t1 179 (by decide +kernel) (by decide +kernel))⟩
theorem flX9_15 : FL RX9 15 9 1 "[I" true := ⟨_, _, _, _, rfl, rfl, by decide, (gtb_t1 180 (by decide +kernel) (by decide +kernel))⟩
theorem flX9_18 : FL RX9 18 9 2 "I" false := ⟨_, _, _, _, rfl, rfl, by decide, (gtb_t1 182 (by decide +kernel) (by decide +kernel))⟩
theorem flX9_22 : FL RX9 22 9 3 "I" false := ⟨_, _, _, _, rfl, rfl, by decide, (gtb_t1 185 (by decide +kernel) (by decide +kernel))⟩
theorem flX9_37 : FL RX9 37 9 4 "I" false := ⟨_, _, _, _, rfl, rfl, by decide, (gtb_t1 187 (by decide +kernel) (by decide +kernel))⟩
theorem flX9_40 : FL RX9 40 9 5 "I" false := ⟨_, _, _, _, rfl, rfl, by decide, (gtb_t1 189 (by decide +kernel) (by decide +kernel))⟩
theorem flX9_43 : FL RX9 43 9 6 "I" false := ⟨_, _, _, _, rfl, rfl, by decide, (gtb_t1 191 (by decide +kernel) (by decide +kernel))⟩
theorem flX10_12 : FL RX10 12 10 0 "LSilenceForMoney$People;" true := ⟨_, _, _, _, rfl, rfl, by decide, (gtb_t2 56 (by decide +kernel) (by decide +kernel))⟩
theorem flX10_21 : FL RX10 21 10 1 "LSilenceForMoney$Debts;" true := ⟨_, _, _, _, rfl, rfl, by decide, (gtb_t2 58 (by decide +kernel) (by decide +kernel))⟩
theorem flX10_28 : FL RX10 28 10 2 "LSilenceForMoney$Town;" true := ⟨_, _, _, _, rfl, rfl, by decide, (gtb_t2 60 (by decide +kernel) (by decide +kernel))⟩
theorem flX10_35 : FL RX10 35 10 3 "LSilenceForMoney$Time;" true := ⟨_, _, _, _, rfl, rfl, by decide, (gtb_t2 62 (by decide +kernel) (by decide +kernel))⟩
theorem flX10_42 : FL RX10 42 10 5 "LSilenceForMoney$Bargains;" true := ⟨_, _, _, _, rfl, rfl, by decide, (gtb_t2 66 (by decide +kernel) (by decide +kernel))⟩
theorem flX10_48 : FL RX10 48 10 6 "[LSilenceForMoney$Text;" true := ⟨_, _, _, _, rfl, rfl, by decide, (gtb_t2 68 (by decide +kernel) (by decide +kernel))⟩
theorem flX10_52 : FL RX10 52 10 7 "[I" true := ⟨_, _, _, _, rfl, rfl, by decide, (gtb_t2 70 (by decide +kernel) (by decide +kernel))⟩
theorem flX10_56 : FL RX10 56 10 8 "[I" true := ⟨_, _, _, _, rfl, rfl, by decide, (gtb_t2 71 (by decide +kernel) (by decide +kernel))⟩
theorem flX10_59 : FL RX10 59 10 9 "[I" true := ⟨_, _, _, _, rfl, rfl, by decide, (gtb_t2 72 (by decide +kernel) (by decide +kernel))⟩
theorem flX10_67 : FL RX10 67 10 4 "LSilenceForMoney$Book;" true := ⟨_, _, _, _, rfl, rfl, by decide, (gtb_t2 64 (by decide +kernel) (by decide +kernel))⟩
theorem flX10_90 : FL RX10 90 9 3 "I" false := ⟨_, _, _, _, rfl, rfl, by decide, (gtb_t1 186 (by decide +kernel) (by decide +kernel))⟩
theorem flX10_94 : FL RX10 94 9 4 "I" false := ⟨_, _, _, _, rfl, rfl, by decide, (gtb_t1 188 (by decide +kernel) (by decide +kernel))⟩
theorem flX10_97 : FL RX10 97 9 5 "I" false := ⟨_, _, _, _, rfl, rfl, by decide, (gtb_t1 190 (by decide +kernel) (by decide +kernel))⟩
theorem flX10_100 : FL RX10 100 8 3 "I" false := ⟨_, _, _, _, rfl, rfl, by decide, (gtb_t1 226 (by decide +kernel) (by decide +kernel))⟩
theorem flX10_103 : FL RX10 103 9 6 "I" false := ⟨_, _, _, _, rfl, rfl, by decide, (gtb_t1 192 (by decide +kernel) (by decide +kernel))⟩
theorem flX10_106 : FL RX10 106 8 1 "I" false := ⟨_, _, _, _, rfl, rfl, by decide, (gtb_t1 219 (by decide +kernel) (by decide +kernel))⟩
theorem flX10_109 : FL RX10 109 8 2 "I" false := ⟨_, _, _, _, rfl, rfl, by decide, (gtb_t1 223 (by decide +kernel) (by decide +kernel))⟩
theorem flX10_123 : FL RX10 123 4 5 "[I" true := ⟨_, _, _, _, rfl, rfl, by decide, (gtb_t1 77 (by decide +kernel) (by decide +kernel))⟩
theorem flX10_137 : FL RX10 137 3 9 "[I" true := ⟨_, _, _, _, rfl, rfl, by decide, (gtb_t1 144 (by decide +kernel) (by decide +kernel))⟩
theorem flX10_140 : FL RX10 140 3 10 "[I" true := ⟨_, _, _, _, rfl, rfl, by decide, (gtb_t1 146 (by decide +kernel) (by decide +kernel))⟩
theorem flX10_153 : FL RX10 153 4 0 "I" false := ⟨_, _, _, _, rfl, rfl, by decide, (gtb_t1 66 (by decide +kernel) (by decide +kernel))⟩
theorem flX10_162 : FL RX10 162 9 2 "I" false := ⟨_, _, _, _, rfl, rfl, by decide, (gtb_t1 184 (by decide +kernel) (by decide +kernel))⟩
theorem flX10_177 : FL RX10 177 4 1 "[I" true := ⟨_, _, _, _, rfl, rfl, by decide, (gtb_t1 68 (by decide +kernel) (by decide +kernel))⟩
theorem flX10_183 : FL RX10 183 4 4 "[I" true := ⟨_, _, _, _, rfl, rfl, by decide, (gtb_t1 75 (by decide +kernel) (by decide +kernel))⟩
theorem flX10_186 : FL RX10 186 4 3 "[I" true := ⟨_, _, _, _, rfl, rfl, by decide, (gtb_t1 73 (by decide +kernel) (by decide +kernel))⟩
theorem flX10_194 : FL RX10 194 4 8 "[I" true := ⟨_, _, _, _, rfl, rfl, by decide, (gtb_t1 83 (by decide +kernel) (by decide +kernel))⟩
theorem flX10_197 : FL RX10 197 4 9 "[I" true := ⟨_, _, _, _, rfl, rfl, by decide, (gtb_t1 85 (by decide +kernel) (by decide +kernel))⟩
theorem flX10_204 : FL RX10 204 4 10 "[I" true := ⟨_, _, _, _, rfl, rfl, by decide, (gtb_t1 87 (by decide +kernel) (by decide +kernel))⟩
theorem flX10_207 : FL RX10 207 2 6 "I" false := ⟨_, _, _, _, rfl, rfl, by decide, (gtb_t2 40 (by decide +kernel) (by decide +kernel))⟩
theorem flX10_227 : FL RX10 227 3 0 "I" false := ⟨_, _, _, _, rfl, rfl, by decide, (gtb_t1 120 (by decide +kernel) (by decide +kernel))⟩
theorem flX10_231 : FL RX10 231 3 3 "[I" true := ⟨_, _, _, _, rfl, rfl, by decide, (gtb_t1 131 (by decide +kernel) (by decide +kernel))⟩
theorem flX10_244 : FL RX10 244 2 5 "I" false := ⟨_, _, _, _, rfl, rfl, by decide, (gtb_t2 38 (by decide +kernel) (by decide +kernel))⟩
theorem flX10_253 : FL RX10 253 4 7 "[I" true := ⟨_, _, _, _, rfl, rfl, by decide, (gtb_t1 81 (by decide +kernel) (by decide +kernel))⟩
theorem flX10_256 : FL RX10 256 4 2 "[I" true := ⟨_, _, _, _, rfl, rfl, by decide, (gtb_t1 71 (by decide +kernel) (by decide +kernel))⟩
theorem flX10_266 : FL RX10 266 3 4 "[I" true := ⟨_, _, _, _, rfl, rfl, by decide, (gtb_t1 133 (by decide +kernel) (by decide +kernel))⟩
theorem flX10_269 : FL RX10 269 2 4 "I" false := ⟨_, _, _, _, rfl, rfl, by decide, (gtb_t2 35 (by decide +kernel) (by decide +kernel))⟩
theorem flX10_272 : FL RX10 272 3 7 "[I" true := ⟨_, _, _, _, rfl, rfl, by decide, (gtb_t1 141 (by decide +kernel) (by decide +kernel))⟩
theorem flX10_275 : FL RX10 275 2 3 "I" false := ⟨_, _, _, _, rfl, rfl, by decide, (gtb_t2 33 (by decide +kernel) (by decide +kernel))⟩
theorem flX10_287 : FL RX10 287 7 0 "I" true := ⟨_, _, _, _, rfl, rfl, by decide, (gtb_t1 38 (by decide +kernel) (by decide +kernel))⟩
theorem flX12_7 : FL RX12 7 12 0 "[I" true := ⟨_, _, _, _, rfl, rfl, by decide, (gtb_t5 162 (by decide +kernel) (by decide +kernel))⟩
theorem flX12_13 : FL RX12 13 12 1 "[I" true := ⟨_, _, _, _, rfl, rfl, by decide, (gtb_t5 163 (by decide +kernel) (by decide +kernel))⟩
theorem flX12_16 : FL RX12 16 12 2 "[I" true := ⟨_, _, _, _, rfl, rfl, by decide, (gtb_t5 164 (by decide +kernel) (by decide +kernel))⟩
theorem flX12_19 : FL RX12 19 12 4 "[I" true := ⟨_, _, _, _, rfl, rfl, by decide, (gtb_t5 166 (by decide +kernel) (by decide +kernel))⟩
theorem flX12_22 : FL RX12 22 12 5 "[I" true := ⟨_, _, _, _, rfl, rfl, by decide, (gtb_t5 167 (by decide +kernel) (by decide +kernel))⟩
theorem flX12_25 : FL RX12 25 12 6 "[I" true := ⟨_, _, _, _, rfl, rfl, by decide, (gtb_t5 168 (by decide +kernel) (by decide +kernel))⟩
theorem flX12_28 : FL RX12 28 12 7 "[I" true := ⟨_, _, _, _, rfl, rfl, by decide, (gtb_t5 169 (by decide +kernel) (by decide +kernel))⟩
theorem flX12_31 : FL RX12 31 12 8 "[I" true := ⟨_, _, _, _, rfl, rfl, by decide, (gtb_t5 170 (by decide +kernel) (by decide +kernel))⟩
theorem flX12_34 : FL RX12 34 12 21 "I" false := ⟨_, _, _, _, rfl, rfl, by decide, (gtb_t5 183 (by decide +kernel) (by decide +kernel))⟩
theorem flX12_38 : FL RX12 38 12 23 "[I" true := ⟨_, _, _, _, rfl, rfl, by decide, (gtb_t5 185 (by decide +kernel) (by decide +kernel))⟩
theorem flX12_41 : FL RX12 41 12 24 "[I" true := ⟨_, _, _, _, rfl, rfl, by decide, (gtb_t5 186 (by decide +kernel) (by decide +kernel))⟩
theorem flX12_83 : FL RX12 83 12 12 "I" false := ⟨_, _, _, _, rfl, rfl, by decide, (gtb_t5 174 (by decide +kernel) (by decide +kernel))⟩
theorem flX12_86 : FL RX12 86 12 13 "I" false := ⟨_, _, _, _, rfl, rfl, by decide, (gtb_t5 175 (by decide +kernel) (by decide +kernel))⟩
theorem flX12_89 : FL RX12 89 12 15 "I" false := ⟨_, _, _, _, rfl, rfl, by decide, (gtb_t5 177 (by decide +kernel) (by decide +kernel))⟩
theorem flX12_144 : FL RX12 144 12 9 "I" false := ⟨_, _, _, _, rfl, rfl, by decide, (gtb_t5 171 (by decide +kernel) (by decide +kernel))⟩
theorem flX12_156 : FL RX12 156 12 14 "I" false := ⟨_, _, _, _, rfl, rfl, by decide, (gtb_t5 176 (by decide +kernel) (by decide +kernel))⟩
theorem flX12_168 : FL RX12 168 12 16 "I" false := ⟨_, _, _, _, rfl, rfl, by decide, (gtb_t5 178 (by decide +kernel) (by decide +kernel))⟩
theorem flX12_171 : FL RX12 171 12 17 "I" false := ⟨_, _, _, _, rfl, rfl, by decide, (gtb_t5 179 (by decide +kernel) (by decide +kernel))⟩
theorem flX12_174 : FL RX12 174 12 18 "I" false := ⟨_, _, _, _, rfl, rfl, by decide, (gtb_t5 180 (by decide +kernel) (by decide +kernel))⟩
theorem flX12_183 : FL RX12 183 12 11 "I" false := ⟨_, _, _, _, rfl, rfl, by decide, (gtb_t5 173 (by decide +kernel) (by decide +kernel))⟩
theorem flX12_186 : FL RX12 186 12 20 "I" false := ⟨_, _, _, _, rfl, rfl, by decide, (gtb_t5 182 (by decide +kernel) (by decide +kernel))⟩
theorem flX12_222 : FL RX12 222 12 10 "I" false := ⟨_, _, _, _, rfl, rfl, by decide, (gtb_t5 172 (by decide +kernel) (by decide +kernel))⟩
theorem flX12_225 : FL RX12 225 12 19 "I" false := ⟨_, _, _, _, rfl, rfl, by decide, (gtb_t5 181 (by decide +kernel) (by decide +kernel))⟩
theorem flX12_287 : FL RX12 287 12 22 "I" false := ⟨_, _, _, _, rfl, rfl, by decide, (gtb_t5 184 (by decide +kernel) (by decide +kernel))⟩
theorem flX12_343 : FL RX12 343 12 3 "Z" false := ⟨_, _, _, _, rfl, rfl, by decide, (gtb_t5 165 (by decide +kernel) (by decide +kernel))⟩
theorem mlX11_3 : Cond.methodLink RX11 3 Lib.objectInit ∈ gtb := (gtb_t1 27 (by decide +kernel) (by decide +kernel))
theorem mlX11_11 : Cond.methodLink RX11 11 yX7_init ∈ gtb := (gtb_t1 32 (by decide +kernel) (by decide +kernel))
theorem mlX11_16 : Cond.methodLink RX11 16 yX10_init ∈ gtb := (gtb_t1 54 (by decide +kernel) (by decide +kernel))
theorem mlX11_53 : Cond.methodLink RX11 53 yX11_isWithin ∈ gtb := (gtb_t2 182 (by decide +kernel) (by decide +kernel))
theorem mlX11_70 : Cond.methodLink RX11 70 yX4_add ∈ gtb := (gtb_t2 187 (by decide +kernel) (by decide +kernel))
theorem mlX11_74 : Cond.methodLink RX11 74 yX4_has ∈ gtb := (gtb_t2 199 (by decide +kernel) (by decide +kernel))
theorem mlX11_78 : Cond.methodLink RX11 78 yX4_giveParent ∈ gtb := (gtb_t2 203 (by decide +kernel) (by decide +kernel))
theorem mlX11_82 : Cond.methodLink RX11 82 yX4_change ∈ gtb := (gtb_t2 212 (by decide +kernel) (by decide +kernel))
theorem mlX11_86 : Cond.methodLink RX11 86 yX11_isPlace ∈ gtb := (gtb_t2 220 (by decide +kernel) (by decide +kernel))
theorem mlX11_93 : Cond.methodLink RX11 93 yX9_putWall ∈ gtb := (gtb_t2 223 (by decide +kernel) (by decide +kernel))
theorem mlX11_107 : Cond.methodLink RX11 107 yX10_change ∈ gtb := (gtb_t2 233 (by decide +kernel) (by decide +kernel))
theorem mlX11_114 : Cond.methodLink RX11 114 yX3_add ∈ gtb := (gtb_t3 1 (by decide +kernel) (by decide +kernel))
theorem mlX11_119 : Cond.methodLink RX11 119 yX3_has ∈ gtb := (gtb_t3 9 (by decide +kernel) (by decide +kernel))
theorem mlX11_123 : Cond.methodLink RX11 123 yX3_tellOf ∈ gtb := (gtb_t3 17 (by decide +kernel) (by decide +kernel))
theorem mlX11_130 : Cond.methodLink RX11 130 yX6_put ∈ gtb := (gtb_t3 29 (by decide +kernel) (by decide +kernel))
theorem mlX11_134 : Cond.methodLink RX11 134 yX5_forget ∈ gtb := (gtb_t3 41 (by decide +kernel) (by decide +kernel))
theorem mlX11_137 : Cond.methodLink RX11 137 yX5_read ∈ gtb := (gtb_t3 45 (by decide +kernel) (by decide +kernel))
theorem mlX11_157 : Cond.methodLink RX11 157 yX3_tally ∈ gtb := (gtb_t3 207 (by decide +kernel) (by decide +kernel))
theorem mlX11_160 : Cond.methodLink RX11 160 yX10_deedOf ∈ gtb := (gtb_t3 212 (by decide +kernel) (by decide +kernel))
theorem mlX11_164 : Cond.methodLink RX11 164 yX11_isLaw ∈ gtb := (gtb_t4 22 (by decide +kernel) (by decide +kernel))
theorem mlX11_167 : Cond.methodLink RX11 167 yX11_isHour ∈ gtb := (gtb_t4 25 (by decide +kernel) (by decide +kernel))
theorem mlX11_170 : Cond.methodLink RX11 170 yX10_isWord ∈ gtb := (gtb_t4 28 (by decide +kernel) (by decide +kernel))
theorem mlX11_189 : Cond.methodLink RX11 189 yX10_pass ∈ gtb := (gtb_t4 38 (by decide +kernel) (by decide +kernel))
theorem mlX11_192 : Cond.methodLink RX11 192 yX4_noiseOf ∈ gtb := (gtb_t4 119 (by decide +kernel) (by decide +kernel))
theorem mlX11_199 : Cond.methodLink RX11 199 yX1_lendOn ∈ gtb := (gtb_t4 127 (by decide +kernel) (by decide +kernel))
theorem mlX11_205 : Cond.methodLink RX11 205 yX1_splitOff ∈ gtb := (gtb_t4 181 (by decide +kernel) (by decide +kernel))
theorem mlX11_209 : Cond.methodLink RX11 209 yX1_handDown ∈ gtb := (gtb_t4 199 (by decide +kernel) (by decide +kernel))
theorem mlX11_212 : Cond.methodLink RX11 212 yX1_sellOn ∈ gtb := (gtb_t4 221 (by decide +kernel) (by decide +kernel))
theorem mlX11_215 : Cond.methodLink RX11 215 yX1_goBack ∈ gtb := (gtb_t4 230 (by decide +kernel) (by decide +kernel))
theorem mlX11_219 : Cond.methodLink RX11 219 yX3_aloneHours ∈ gtb := (gtb_t5 7 (by decide +kernel) (by decide +kernel))
theorem mlX11_223 : Cond.methodLink RX11 223 yX3_findWhoMay ∈ gtb := (gtb_t5 13 (by decide +kernel) (by decide +kernel))
theorem mlX11_227 : Cond.methodLink RX11 227 yX3_bestHours ∈ gtb := (gtb_t5 21 (by decide +kernel) (by decide +kernel))
theorem mlX11_230 : Cond.methodLink RX11 230 yX3_boundHours ∈ gtb := (gtb_t5 42 (by decide +kernel) (by decide +kernel))
theorem mlX11_233 : Cond.methodLink RX11 233 yX8_isFeastOn ∈ gtb := (gtb_t5 54 (by decide +kernel) (by decide +kernel))
theorem mlX11_236 : Cond.methodLink RX11 236 yX10_byWhom ∈ gtb := (gtb_t5 55 (by decide +kernel) (by decide +kernel))
theorem mlX11_240 : Cond.methodLink RX11 240 yX10_copyFrom ∈ gtb := (gtb_t5 67 (by decide +kernel) (by decide +kernel))
theorem mlX11_244 : Cond.methodLink RX11 244 yX10_tillQuiet ∈ gtb := (gtb_t5 99 (by decide +kernel) (by decide +kernel))
theorem mlX11_247 : Cond.methodLink RX11 247 yJ9_min_7cf53 ∈ gtb := (gtb_t5 105 (by decide +kernel) (by decide +kernel))
theorem mlX11_252 : Cond.methodLink RX11 252 yJ9_max_7cf53 ∈ gtb := (gtb_t5 106 (by decide +kernel) (by decide +kernel))
theorem mlX11_255 : Cond.methodLink RX11 255 yX11_think ∈ gtb := (gtb_t5 111 (by decide +kernel) (by decide +kernel))
theorem mlX11_261 : Cond.methodLink RX11 261 yX2_isBetterThan ∈ gtb := (gtb_t5 115 (by decide +kernel) (by decide +kernel))
theorem mlX11_264 : Cond.methodLink RX11 264 yX2_countOf ∈ gtb := (gtb_t5 119 (by decide +kernel) (by decide +kernel))
theorem mlX11_267 : Cond.methodLink RX11 267 yX3_hoursOf ∈ gtb := (gtb_t5 127 (by decide +kernel) (by decide +kernel))
theorem mlX11_270 : Cond.methodLink RX11 270 yX4_tellOf ∈ gtb := (gtb_t5 131 (by decide +kernel) (by decide +kernel))
theorem mlX11_275 : Cond.methodLink RX11 275 yX3_doneCount ∈ gtb := (gtb_t5 147 (by decide +kernel) (by decide +kernel))
theorem mlX11_278 : Cond.methodLink RX11 278 yX3_allHours ∈ gtb := (gtb_t5 151 (by decide +kernel) (by decide +kernel))
theorem mlX0_3 : Cond.methodLink RX0 3 Lib.objectInit ∈ gtb := (gtb_t4 142 (by decide +kernel) (by decide +kernel))
theorem mlX0_24 : Cond.methodLink RX0 24 yJ9_min_7cf53 ∈ gtb := (gtb_t4 143 (by decide +kernel) (by decide +kernel))
theorem mlX0_30 : Cond.methodLink RX0 30 yJ9_max_7cf53 ∈ gtb := (gtb_t4 144 (by decide +kernel) (by decide +kernel))
theorem mlX0_40 : Cond.methodLink RX0 40 yX3_has ∈ gtb := (gtb_t4 168 (by decide +kernel) (by decide +kernel))
theorem mlX0_61 : Cond.methodLink RX0 61 yX4_pay ∈ gtb := (gtb_t5 2 (by decide +kernel) (by decide +kernel))
theorem mlX1_3 : Cond.methodLink RX1 3 Lib.objectInit ∈ gtb := (gtb_t2 1 (by decide +kernel) (by decide +kernel))
theorem mlX1_21 : Cond.methodLink RX1 21 yX3_isOpen ∈ gtb := (gtb_t4 131 (by decide +kernel) (by decide +kernel))
theorem mlX1_27 : Cond.methodLink RX1 27 yX4_has ∈ gtb := (gtb_t4 136 (by decide +kernel) (by decide +kernel))
theorem mlX1_46 : Cond.methodLink RX1 46 yX0_init ∈ gtb := (gtb_t4 139 (by decide +kernel) (by decide +kernel))
theorem mlX1_49 : Cond.methodLink RX1 49 yX0_takeIn ∈ gtb := (gtb_t4 164 (by decide +kernel) (by decide +kernel))
theorem mlX1_53 : Cond.methodLink RX1 53 yX4_pay ∈ gtb := (gtb_t4 169 (by decide +kernel) (by decide +kernel))
theorem mlX1_57 : Cond.methodLink RX1 57 yX1_keep ∈ gtb := (gtb_t4 173 (by decide +kernel) (by decide +kernel))
theorem mlX1_65 : Cond.methodLink RX1 65 yX0_leaves ∈ gtb := (gtb_t4 185 (by decide +kernel) (by decide +kernel))
theorem mlX1_69 : Cond.methodLink RX1 69 yX3_add ∈ gtb := (gtb_t4 189 (by decide +kernel) (by decide +kernel))
theorem mlX1_73 : Cond.methodLink RX1 73 yX3_has ∈ gtb := (gtb_t4 190 (by decide +kernel) (by decide +kernel))
theorem mlX1_80 : Cond.methodLink RX1 80 yX0_bears ∈ gtb := (gtb_t4 191 (by decide +kernel) (by decide +kernel))
theorem mlX1_83 : Cond.methodLink RX1 83 yX3_openCountWith ∈ gtb := (gtb_t4 203 (by decide +kernel) (by decide +kernel))
theorem mlX1_87 : Cond.methodLink RX1 87 yX3_isOpenWith ∈ gtb := (gtb_t4 212 (by decide +kernel) (by decide +kernel))
theorem mlX1_91 : Cond.methodLink RX1 91 yX3_handDown ∈ gtb := (gtb_t4 213 (by decide +kernel) (by decide +kernel))
theorem mlX1_94 : Cond.methodLink RX1 94 yX4_isNoChild ∈ gtb := (gtb_t4 225 (by decide +kernel) (by decide +kernel))
theorem mlX1_97 : Cond.methodLink RX1 97 yX0_canGoBack ∈ gtb := (gtb_t4 234 (by decide +kernel) (by decide +kernel))
theorem mlX1_101 : Cond.methodLink RX1 101 yX0_goBack ∈ gtb := (gtb_t4 238 (by decide +kernel) (by decide +kernel))
theorem mlX2_3 : Cond.methodLink RX2 3 Lib.objectInit ∈ gtb := (gtb_t2 19 (by decide +kernel) (by decide +kernel))
theorem mlX2_9 : Cond.methodLink RX2 9 yJ9_min_7cf53 ∈ gtb := (gtb_t2 20 (by decide +kernel) (by decide +kernel))
theorem mlX2_15 : Cond.methodLink RX2 15 yJ9_max_7cf53 ∈ gtb := (gtb_t2 23 (by decide +kernel) (by decide +kernel))
theorem mlX2_31 : Cond.methodLink RX2 31 arraycopyName ∈ gtb := (gtb_t5 94 (by decide +kernel) (by decide +kernel))
theorem mlX3_3 : Cond.methodLink RX3 3 Lib.objectInit ∈ gtb := (gtb_t1 116 (by decide +kernel) (by decide +kernel))
theorem mlX3_46 : Cond.methodLink RX3 46 arraycopyName ∈ gtb := (gtb_t5 80 (by decide +kernel) (by decide +kernel))
theorem mlX3_52 : Cond.methodLink RX3 52 yX3_has ∈ gtb := (gtb_t4 135 (by decide +kernel) (by decide +kernel))
theorem mlX3_56 : Cond.methodLink RX3 56 yX3_isOpen ∈ gtb := (gtb_t4 211 (by decide +kernel) (by decide +kernel))
theorem mlX3_59 : Cond.methodLink RX3 59 yX3_isOpenWith ∈ gtb := (gtb_t4 207 (by decide +kernel) (by decide +kernel))
theorem mlX3_63 : Cond.methodLink RX3 63 yX3_workerOf ∈ gtb := (gtb_t3 21 (by decide +kernel) (by decide +kernel))
theorem mlX3_67 : Cond.methodLink RX3 67 yJ7_fill_53178 ∈ gtb := (gtb_t3 211 (by decide +kernel) (by decide +kernel))
theorem mlX3_73 : Cond.methodLink RX3 73 yX4_noChildren ∈ gtb := (gtb_t5 17 (by decide +kernel) (by decide +kernel))
theorem mlX3_79 : Cond.methodLink RX3 79 yJ9_max_7cf53 ∈ gtb := (gtb_t5 12 (by decide +kernel) (by decide +kernel))
theorem mlX3_85 : Cond.methodLink RX3 85 yX3_greatestLeft ∈ gtb := (gtb_t5 25 (by decide +kernel) (by decide +kernel))
theorem mlX3_88 : Cond.methodLink RX3 88 yX3_hoursOnlyFor ∈ gtb := (gtb_t5 29 (by decide +kernel) (by decide +kernel))
theorem mlX3_91 : Cond.methodLink RX3 91 yJ6_bitCount_0f7a4 ∈ gtb := (gtb_t5 33 (by decide +kernel) (by decide +kernel))
theorem mlX3_99 : Cond.methodLink RX3 99 yX3_allHours ∈ gtb := (gtb_t5 46 (by decide +kernel) (by decide +kernel))
theorem mlX3_102 : Cond.methodLink RX3 102 yX3_tally ∈ gtb := (gtb_t5 11 (by decide +kernel) (by decide +kernel))
theorem mlX4_3 : Cond.methodLink RX4 3 Lib.objectInit ∈ gtb := (gtb_t1 63 (by decide +kernel) (by decide +kernel))
theorem mlX4_46 : Cond.methodLink RX4 46 arraycopyName ∈ gtb := (gtb_t5 75 (by decide +kernel) (by decide +kernel))
theorem mlX4_52 : Cond.methodLink RX4 52 yX4_has ∈ gtb := (gtb_t2 211 (by decide +kernel) (by decide +kernel))
theorem mlX4_56 : Cond.methodLink RX4 56 yX4_hush ∈ gtb := (gtb_t2 191 (by decide +kernel) (by decide +kernel))
theorem mlX4_60 : Cond.methodLink RX4 60 yX4_isNoChild ∈ gtb := (gtb_t2 207 (by decide +kernel) (by decide +kernel))
theorem mlX5_5 : Cond.methodLink RX5 5 Lib.objectInit ∈ gtb := (gtb_t2 115 (by decide +kernel) (by decide +kernel))
theorem mlX5_37 : Cond.methodLink RX5 37 yX5_forget ∈ gtb := (gtb_t3 49 (by decide +kernel) (by decide +kernel))
theorem mlX5_50 : Cond.methodLink RX5 50 yX5_findTokens ∈ gtb := (gtb_t3 50 (by decide +kernel) (by decide +kernel))
theorem mlX5_57 : Cond.methodLink RX5 57 yX5_readLine ∈ gtb := (gtb_t3 131 (by decide +kernel) (by decide +kernel))
theorem mlX5_62 : Cond.methodLink RX5 62 yJ7_copyOf_59c91 ∈ gtb := (gtb_t3 183 (by decide +kernel) (by decide +kernel))
theorem mlX5_68 : Cond.methodLink RX5 68 yX7_init ∈ gtb := (gtb_t3 197 (by decide +kernel) (by decide +kernel))
theorem mlX5_77 : Cond.methodLink RX5 77 yX5_findToken ∈ gtb := (gtb_t3 54 (by decide +kernel) (by decide +kernel))
theorem mlX5_81 : Cond.methodLink RX5 81 yX5_putToken ∈ gtb := (gtb_t3 121 (by decide +kernel) (by decide +kernel))
theorem mlX5_88 : Cond.methodLink RX5 88 yX5_isLetter ∈ gtb := (gtb_t3 58 (by decide +kernel) (by decide +kernel))
theorem mlX5_92 : Cond.methodLink RX5 92 yX5_endOfRun ∈ gtb := (gtb_t3 61 (by decide +kernel) (by decide +kernel))
theorem mlX5_96 : Cond.methodLink RX5 96 yX5_keyword ∈ gtb := (gtb_t3 67 (by decide +kernel) (by decide +kernel))
theorem mlX5_100 : Cond.methodLink RX5 100 yX5_isDigit ∈ gtb := (gtb_t3 64 (by decide +kernel) (by decide +kernel))
theorem mlX5_103 : Cond.methodLink RX5 103 yX5_numberOf ∈ gtb := (gtb_t3 125 (by decide +kernel) (by decide +kernel))
theorem mlX5_106 : Cond.methodLink RX5 106 yX5_isSign ∈ gtb := (gtb_t3 128 (by decide +kernel) (by decide +kernel))
theorem mlX5_113 : Cond.methodLink RX5 113 yJ0_length_8abf5 ∈ gtb := (gtb_t3 73 (by decide +kernel) (by decide +kernel))
theorem mlX5_118 : Cond.methodLink RX5 118 yJ0_charAt_5068e ∈ gtb := (gtb_t3 83 (by decide +kernel) (by decide +kernel))
theorem mlX5_122 : Cond.methodLink RX5 122 yX5_fail ∈ gtb := (gtb_t3 135 (by decide +kernel) (by decide +kernel))
theorem mlX5_126 : Cond.methodLink RX5 126 yX5_step ∈ gtb := (gtb_t3 139 (by decide +kernel) (by decide +kernel))
theorem mlX5_129 : Cond.methodLink RX5 129 yX5_readLoud ∈ gtb := (gtb_t3 143 (by decide +kernel) (by decide +kernel))
theorem mlX5_132 : Cond.methodLink RX5 132 yX5_take ∈ gtb := (gtb_t3 147 (by decide +kernel) (by decide +kernel))
theorem mlX5_135 : Cond.methodLink RX5 135 yX5_anyOf ∈ gtb := (gtb_t3 151 (by decide +kernel) (by decide +kernel))
theorem mlX5_138 : Cond.methodLink RX5 138 yX5_closeLine ∈ gtb := (gtb_t3 178 (by decide +kernel) (by decide +kernel))
theorem mlX5_141 : Cond.methodLink RX5 141 yX5_condition ∈ gtb := (gtb_t3 155 (by decide +kernel) (by decide +kernel))
theorem mlX5_144 : Cond.methodLink RX5 144 yX5_emit ∈ gtb := (gtb_t3 159 (by decide +kernel) (by decide +kernel))
theorem mlX5_148 : Cond.methodLink RX5 148 yX5_sum ∈ gtb := (gtb_t3 163 (by decide +kernel) (by decide +kernel))
theorem mlX5_151 : Cond.methodLink RX5 151 yX5_unit ∈ gtb := (gtb_t3 167 (by decide +kernel) (by decide +kernel))
theorem mlX5_154 : Cond.methodLink RX5 154 yX5_isReckoning ∈ gtb := (gtb_t3 171 (by decide +kernel) (by decide +kernel))
theorem mlX5_157 : Cond.methodLink RX5 157 yX5_divisor ∈ gtb := (gtb_t3 174 (by decide +kernel) (by decide +kernel))
theorem mlX6_3 : Cond.methodLink RX6 3 Lib.objectInit ∈ gtb := (gtb_t2 99 (by decide +kernel) (by decide +kernel))
theorem mlX7_3 : Cond.methodLink RX7 3 Lib.objectInit ∈ gtb := (gtb_t1 35 (by decide +kernel) (by decide +kernel))
theorem mlX7_25 : Cond.methodLink RX7 25 yX7_isSo ∈ gtb := (gtb_t4 4 (by decide +kernel) (by decide +kernel))
theorem mlX7_29 : Cond.methodLink RX7 29 yX7_valueAt ∈ gtb := (gtb_t4 8 (by decide +kernel) (by decide +kernel))
theorem mlX7_33 : Cond.methodLink RX7 33 yX7_join ∈ gtb := (gtb_t4 11 (by decide +kernel) (by decide +kernel))
theorem mlX8_3 : Cond.methodLink RX8 3 Lib.objectInit ∈ gtb := (gtb_t1 214 (by decide +kernel) (by decide +kernel))
theorem mlX8_26 : Cond.methodLink RX8 26 yX8_hour ∈ gtb := (gtb_t3 224 (by decide +kernel) (by decide +kernel))
theorem mlX8_34 : Cond.methodLink RX8 34 yX8_isFeastOn ∈ gtb := (gtb_t3 232 (by decide +kernel) (by decide +kernel))
theorem mlX9_3 : Cond.methodLink RX9 3 Lib.objectInit ∈ gtb := (gtb_t1 175 (by decide +kernel) (by decide +kernel))
theorem mlX9_25 : Cond.methodLink RX9 25 yJ7_fill_53178 ∈ gtb := (gtb_t1 176 (by decide +kernel) (by decide +kernel))
theorem mlX9_31 : Cond.methodLink RX9 31 arraycopyName ∈ gtb := (gtb_t5 85 (by decide +kernel) (by decide +kernel))
theorem mlX10_3 : Cond.methodLink RX10 3 Lib.objectInit ∈ gtb := (gtb_t1 57 (by decide +kernel) (by decide +kernel))
theorem mlX10_27 : Cond.methodLink RX10 27 yX9_init ∈ gtb := (gtb_t1 172 (by decide +kernel) (by decide +kernel))
theorem mlX10_64 : Cond.methodLink RX10 64 yX2_init ∈ gtb := (gtb_t2 16 (by decide +kernel) (by decide +kernel))
theorem mlX10_71 : Cond.methodLink RX10 71 yX4_copyFrom ∈ gtb := (gtb_t5 71 (by decide +kernel) (by decide +kernel))
theorem mlX10_75 : Cond.methodLink RX10 75 yX3_copyFrom ∈ gtb := (gtb_t5 76 (by decide +kernel) (by decide +kernel))
theorem mlX10_78 : Cond.methodLink RX10 78 yX9_copyFrom ∈ gtb := (gtb_t5 81 (by decide +kernel) (by decide +kernel))
theorem mlX10_81 : Cond.methodLink RX10 81 yX8_copyFrom ∈ gtb := (gtb_t5 86 (by decide +kernel) (by decide +kernel))
theorem mlX10_84 : Cond.methodLink RX10 84 yX2_copyFrom ∈ gtb := (gtb_t5 90 (by decide +kernel) (by decide +kernel))
theorem mlX10_87 : Cond.methodLink RX10 87 yX1_copyFrom ∈ gtb := (gtb_t5 95 (by decide +kernel) (by decide +kernel))
theorem mlX10_119 : Cond.methodLink RX10 119 yX7_firstLine ∈ gtb := (gtb_t4 0 (by decide +kernel) (by decide +kernel))
theorem mlX10_126 : Cond.methodLink RX10 126 yX8_hour ∈ gtb := (gtb_t3 216 (by decide +kernel) (by decide +kernel))
theorem mlX10_130 : Cond.methodLink RX10 130 yX8_isNight ∈ gtb := (gtb_t3 220 (by decide +kernel) (by decide +kernel))
theorem mlX10_134 : Cond.methodLink RX10 134 yX8_isFeast ∈ gtb := (gtb_t3 228 (by decide +kernel) (by decide +kernel))
theorem mlX10_143 : Cond.methodLink RX10 143 yX4_othersWith ∈ gtb := (gtb_t3 236 (by decide +kernel) (by decide +kernel))
theorem mlX10_147 : Cond.methodLink RX10 147 yX7_deedOf ∈ gtb := (gtb_t4 14 (by decide +kernel) (by decide +kernel))
theorem mlX10_150 : Cond.methodLink RX10 150 yX3_tally ∈ gtb := (gtb_t4 42 (by decide +kernel) (by decide +kernel))
theorem mlX10_156 : Cond.methodLink RX10 156 yX10_makeNoise ∈ gtb := (gtb_t4 43 (by decide +kernel) (by decide +kernel))
theorem mlX10_159 : Cond.methodLink RX10 159 yX10_judgeNoise ∈ gtb := (gtb_t4 59 (by decide +kernel) (by decide +kernel))
theorem mlX10_165 : Cond.methodLink RX10 165 yX4_has ∈ gtb := (gtb_t4 64 (by decide +kernel) (by decide +kernel))
theorem mlX10_168 : Cond.methodLink RX10 168 yX10_ring ∈ gtb := (gtb_t4 65 (by decide +kernel) (by decide +kernel))
theorem mlX10_171 : Cond.methodLink RX10 171 yX8_goOn ∈ gtb := (gtb_t4 111 (by decide +kernel) (by decide +kernel))
theorem mlX10_174 : Cond.methodLink RX10 174 yX4_hush ∈ gtb := (gtb_t4 47 (by decide +kernel) (by decide +kernel))
theorem mlX10_180 : Cond.methodLink RX10 180 yX8_draw ∈ gtb := (gtb_t4 48 (by decide +kernel) (by decide +kernel))
theorem mlX10_189 : Cond.methodLink RX10 189 yX10_putNoise ∈ gtb := (gtb_t4 54 (by decide +kernel) (by decide +kernel))
theorem mlX10_193 : Cond.methodLink RX10 193 yX10_deedOf ∈ gtb := (gtb_t4 58 (by decide +kernel) (by decide +kernel))
theorem mlX10_200 : Cond.methodLink RX10 200 yX10_isWord ∈ gtb := (gtb_t4 63 (by decide +kernel) (by decide +kernel))
theorem mlX10_210 : Cond.methodLink RX10 210 yX2_write ∈ gtb := (gtb_t4 69 (by decide +kernel) (by decide +kernel))
theorem mlX10_214 : Cond.methodLink RX10 214 yX10_chooseDebts ∈ gtb := (gtb_t4 73 (by decide +kernel) (by decide +kernel))
theorem mlX10_217 : Cond.methodLink RX10 217 yX10_keepQuiet ∈ gtb := (gtb_t4 83 (by decide +kernel) (by decide +kernel))
theorem mlX10_221 : Cond.methodLink RX10 221 yJ7_fill_53178 ∈ gtb := (gtb_t4 77 (by decide +kernel) (by decide +kernel))
theorem mlX10_228 : Cond.methodLink RX10 228 yX3_workerOf ∈ gtb := (gtb_t4 78 (by decide +kernel) (by decide +kernel))
theorem mlX10_234 : Cond.methodLink RX10 234 yX3_goesAhead ∈ gtb := (gtb_t4 79 (by decide +kernel) (by decide +kernel))
theorem mlX10_238 : Cond.methodLink RX10 238 yX10_isWordHeardOf ∈ gtb := (gtb_t4 87 (by decide +kernel) (by decide +kernel))
theorem mlX10_241 : Cond.methodLink RX10 241 yX10_beginAgain ∈ gtb := (gtb_t4 103 (by decide +kernel) (by decide +kernel))
theorem mlX10_247 : Cond.methodLink RX10 247 yX10_payQuarter ∈ gtb := (gtb_t4 107 (by decide +kernel) (by decide +kernel))
theorem mlX10_250 : Cond.methodLink RX10 250 yX10_isHeard ∈ gtb := (gtb_t4 91 (by decide +kernel) (by decide +kernel))
theorem mlX10_259 : Cond.methodLink RX10 259 yX9_placeAt ∈ gtb := (gtb_t4 95 (by decide +kernel) (by decide +kernel))
theorem mlX10_262 : Cond.methodLink RX10 262 yX9_wallBetween ∈ gtb := (gtb_t4 99 (by decide +kernel) (by decide +kernel))
theorem mlX10_277 : Cond.methodLink RX10 277 yX3_allHours ∈ gtb := (gtb_t5 103 (by decide +kernel) (by decide +kernel))
theorem mlX10_280 : Cond.methodLink RX10 280 yX10_pass ∈ gtb := (gtb_t5 104 (by decide +kernel) (by decide +kernel))
theorem mlX10_283 : Cond.methodLink RX10 283 yX10_canMakeWord ∈ gtb := (gtb_t5 59 (by decide +kernel) (by decide +kernel))
theorem mlL_9 : Cond.methodLink RL 9 yX11_init ∈ gtb := (gtb_t1 24 (by decide +kernel) (by decide +kernel))
theorem mlL_12 : Cond.methodLink RL 12 yX12_init ∈ gtb := (gtb_t5 154 (by decide +kernel) (by decide +kernel))
theorem mlL_13 : Cond.methodLink RL 13 yX11_state ∈ gtb := (gtb_t2 174 (by decide +kernel) (by decide +kernel))
theorem mlL_17 : Cond.methodLink RL 17 yX12_state ∈ gtb := (gtb_t5 238 (by decide +kernel) (by decide +kernel))
theorem mlL_18 : Cond.methodLink RL 18 yX11_one ∈ gtb := (gtb_t2 178 (by decide +kernel) (by decide +kernel))
theorem mlL_22 : Cond.methodLink RL 22 yX12_one ∈ gtb := (gtb_t6 2 (by decide +kernel) (by decide +kernel))
theorem mlL_23 : Cond.methodLink RL 23 yX11_tell ∈ gtb := (gtb_t2 195 (by decide +kernel) (by decide +kernel))
theorem mlL_27 : Cond.methodLink RL 27 yX12_tell ∈ gtb := (gtb_t6 16 (by decide +kernel) (by decide +kernel))
theorem mlL_28 : Cond.methodLink RL 28 yX11_wall ∈ gtb := (gtb_t2 216 (by decide +kernel) (by decide +kernel))
theorem mlL_31 : Cond.methodLink RL 31 yX12_wall ∈ gtb := (gtb_t6 29 (by decide +kernel) (by decide +kernel))
theorem mlL_32 : Cond.methodLink RL 32 yX11_set ∈ gtb := (gtb_t2 227 (by decide +kernel) (by decide +kernel))
theorem mlL_36 : Cond.methodLink RL 36 yX12_set ∈ gtb := (gtb_t6 33 (by decide +kernel) (by decide +kernel))
theorem mlL_37 : Cond.methodLink RL 37 yX11_debt ∈ gtb := (gtb_t2 237 (by decide +kernel) (by decide +kernel))
theorem mlL_41 : Cond.methodLink RL 41 yX12_debt ∈ gtb := (gtb_t6 37 (by decide +kernel) (by decide +kernel))
theorem mlL_42 : Cond.methodLink RL 42 yX11_helpers ∈ gtb := (gtb_t3 5 (by decide +kernel) (by decide +kernel))
theorem mlL_45 : Cond.methodLink RL 45 yX12_helpers ∈ gtb := (gtb_t6 45 (by decide +kernel) (by decide +kernel))
theorem mlL_46 : Cond.methodLink RL 46 yX11_of ∈ gtb := (gtb_t3 13 (by decide +kernel) (by decide +kernel))
theorem mlL_50 : Cond.methodLink RL 50 yX12_of ∈ gtb := (gtb_t6 53 (by decide +kernel) (by decide +kernel))
theorem mlL_51 : Cond.methodLink RL 51 yX11_feed ∈ gtb := (gtb_t3 25 (by decide +kernel) (by decide +kernel))
theorem mlL_54 : Cond.methodLink RL 54 yX12_feed ∈ gtb := (gtb_t6 65 (by decide +kernel) (by decide +kernel))
theorem mlL_55 : Cond.methodLink RL 55 yX11_end ∈ gtb := (gtb_t3 33 (by decide +kernel) (by decide +kernel))
theorem mlL_59 : Cond.methodLink RL 59 yX12_end ∈ gtb := (gtb_t6 69 (by decide +kernel) (by decide +kernel))
theorem mlL_60 : Cond.methodLink RL 60 yX11_text ∈ gtb := (gtb_t3 37 (by decide +kernel) (by decide +kernel))
theorem mlL_63 : Cond.methodLink RL 63 yX12_text ∈ gtb := (gtb_t6 73 (by decide +kernel) (by decide +kernel))
theorem mlL_64 : Cond.methodLink RL 64 yX11_fault ∈ gtb := (gtb_t3 199 (by decide +kernel) (by decide +kernel))
theorem mlL_67 : Cond.methodLink RL 67 yX12_fault ∈ gtb := (gtb_t6 176 (by decide +kernel) (by decide +kernel))
theorem mlL_68 : Cond.methodLink RL 68 yX11_does ∈ gtb := (gtb_t3 203 (by decide +kernel) (by decide +kernel))
theorem mlL_71 : Cond.methodLink RL 71 yX12_does ∈ gtb := (gtb_t6 202 (by decide +kernel) (by decide +kernel))
theorem mlL_72 : Cond.methodLink RL 72 yX11_word ∈ gtb := (gtb_t4 18 (by decide +kernel) (by decide +kernel))
theorem mlL_76 : Cond.methodLink RL 76 yX12_word ∈ gtb := (gtb_t6 180 (by decide +kernel) (by decide +kernel))
theorem mlL_77 : Cond.methodLink RL 77 yX11_quarters ∈ gtb := (gtb_t4 34 (by decide +kernel) (by decide +kernel))
theorem mlL_80 : Cond.methodLink RL 80 yX12_quarters ∈ gtb := (gtb_t6 226 (by decide +kernel) (by decide +kernel))
theorem mlL_81 : Cond.methodLink RL 81 yX11_noise ∈ gtb := (gtb_t4 115 (by decide +kernel) (by decide +kernel))
theorem mlL_84 : Cond.methodLink RL 84 yX12_noise ∈ gtb := (gtb_t6 222 (by decide +kernel) (by decide +kernel))
theorem mlL_85 : Cond.methodLink RL 85 yX11_lend ∈ gtb := (gtb_t4 123 (by decide +kernel) (by decide +kernel))
theorem mlL_88 : Cond.methodLink RL 88 yX12_lend ∈ gtb := (gtb_t7 28 (by decide +kernel) (by decide +kernel))
theorem mlL_89 : Cond.methodLink RL 89 yX11_split ∈ gtb := (gtb_t4 177 (by decide +kernel) (by decide +kernel))
theorem mlL_92 : Cond.methodLink RL 92 yX12_split ∈ gtb := (gtb_t7 52 (by decide +kernel) (by decide +kernel))
theorem mlL_93 : Cond.methodLink RL 93 yX11_inherit ∈ gtb := (gtb_t4 195 (by decide +kernel) (by decide +kernel))
theorem mlL_96 : Cond.methodLink RL 96 yX12_inherit ∈ gtb := (gtb_t7 56 (by decide +kernel) (by decide +kernel))
theorem mlL_97 : Cond.methodLink RL 97 yX11_sell ∈ gtb := (gtb_t4 217 (by decide +kernel) (by decide +kernel))
theorem mlL_100 : Cond.methodLink RL 100 yX12_sell ∈ gtb := (gtb_t7 60 (by decide +kernel) (by decide +kernel))
theorem mlL_101 : Cond.methodLink RL 101 yX11_undo ∈ gtb := (gtb_t4 226 (by decide +kernel) (by decide +kernel))
theorem mlL_105 : Cond.methodLink RL 105 yX12_undo ∈ gtb := (gtb_t7 64 (by decide +kernel) (by decide +kernel))
theorem mlL_106 : Cond.methodLink RL 106 yX11_soonest ∈ gtb := (gtb_t5 3 (by decide +kernel) (by decide +kernel))
theorem mlL_109 : Cond.methodLink RL 109 yX12_soonest ∈ gtb := (gtb_t7 72 (by decide +kernel) (by decide +kernel))
theorem mlL_110 : Cond.methodLink RL 110 yX11_whom ∈ gtb := (gtb_t5 50 (by decide +kernel) (by decide +kernel))
theorem mlL_114 : Cond.methodLink RL 114 yX12_whom ∈ gtb := (gtb_t7 98 (by decide +kernel) (by decide +kernel))
theorem mlL_115 : Cond.methodLink RL 115 yX11_quiet ∈ gtb := (gtb_t5 63 (by decide +kernel) (by decide +kernel))
theorem mlL_118 : Cond.methodLink RL 118 yX12_quiet ∈ gtb := (gtb_t7 110 (by decide +kernel) (by decide +kernel))
theorem mlL_119 : Cond.methodLink RL 119 yX11_thought ∈ gtb := (gtb_t5 107 (by decide +kernel) (by decide +kernel))
theorem mlL_122 : Cond.methodLink RL 122 yX12_thought ∈ gtb := (gtb_t7 122 (by decide +kernel) (by decide +kernel))
theorem mlL_123 : Cond.methodLink RL 123 yX11_person ∈ gtb := (gtb_t5 123 (by decide +kernel) (by decide +kernel))
theorem mlL_126 : Cond.methodLink RL 126 yX12_person ∈ gtb := (gtb_t7 130 (by decide +kernel) (by decide +kernel))
theorem mlL_127 : Cond.methodLink RL 127 yX11_book ∈ gtb := (gtb_t5 135 (by decide +kernel) (by decide +kernel))
theorem mlL_130 : Cond.methodLink RL 130 yX12_book ∈ gtb := (gtb_t7 134 (by decide +kernel) (by decide +kernel))
theorem mlL_131 : Cond.methodLink RL 131 yX11_image ∈ gtb := (gtb_t5 139 (by decide +kernel) (by decide +kernel))
theorem mlL_135 : Cond.methodLink RL 135 yX12_image ∈ gtb := (gtb_t7 138 (by decide +kernel) (by decide +kernel))
theorem mlL_136 : Cond.methodLink RL 136 yX11_look ∈ gtb := (gtb_t5 143 (by decide +kernel) (by decide +kernel))
theorem mlL_139 : Cond.methodLink RL 139 yX12_look ∈ gtb := (gtb_t7 142 (by decide +kernel) (by decide +kernel))
theorem mlX12_1 : Cond.methodLink RX12 1 Lib.objectInit ∈ gtb := (gtb_t5 157 (by decide +kernel) (by decide +kernel))
theorem mlX12_44 : Cond.methodLink RX12 44 yX12_hushes ∈ gtb := (gtb_t5 158 (by decide +kernel) (by decide +kernel))
theorem mlX12_50 : Cond.methodLink RX12 50 yX12_isIn ∈ gtb := (gtb_t6 6 (by decide +kernel) (by decide +kernel))
theorem mlX12_54 : Cond.methodLink RX12 54 yX12_isPlace ∈ gtb := (gtb_t6 9 (by decide +kernel) (by decide +kernel))
theorem mlX12_58 : Cond.methodLink RX12 58 yX12_gives ∈ gtb := (gtb_t6 12 (by decide +kernel) (by decide +kernel))
theorem mlX12_62 : Cond.methodLink RX12 62 yX12_isOne ∈ gtb := (gtb_t6 20 (by decide +kernel) (by decide +kernel))
theorem mlX12_65 : Cond.methodLink RX12 65 yX12_own ∈ gtb := (gtb_t6 24 (by decide +kernel) (by decide +kernel))
theorem mlX12_70 : Cond.methodLink RX12 70 yX12_lays0 ∈ gtb := (gtb_t6 41 (by decide +kernel) (by decide +kernel))
theorem mlX12_73 : Cond.methodLink RX12 73 yX12_isDebt ∈ gtb := (gtb_t6 49 (by decide +kernel) (by decide +kernel))
theorem mlX12_76 : Cond.methodLink RX12 76 yX12_debtOf ∈ gtb := (gtb_t6 57 (by decide +kernel) (by decide +kernel))
theorem mlX12_79 : Cond.methodLink RX12 79 yX12_workerOf ∈ gtb := (gtb_t6 61 (by decide +kernel) (by decide +kernel))
theorem mlX12_92 : Cond.methodLink RX12 92 yJ0_length_8abf5 ∈ gtb := (gtb_t6 97 (by decide +kernel) (by decide +kernel))
theorem mlX12_98 : Cond.methodLink RX12 98 yJ0_charAt_5068e ∈ gtb := (gtb_t6 98 (by decide +kernel) (by decide +kernel))
theorem mlX12_104 : Cond.methodLink RX12 104 yX12_is ∈ gtb := (gtb_t6 93 (by decide +kernel) (by decide +kernel))
theorem mlX12_147 : Cond.methodLink RX12 147 yX12_lawWord ∈ gtb := (gtb_t6 105 (by decide +kernel) (by decide +kernel))
theorem mlX12_150 : Cond.methodLink RX12 150 yX12_ruleWord ∈ gtb := (gtb_t6 113 (by decide +kernel) (by decide +kernel))
theorem mlX12_153 : Cond.methodLink RX12 153 yX12_see ∈ gtb := (gtb_t6 81 (by decide +kernel) (by decide +kernel))
theorem mlX12_159 : Cond.methodLink RX12 159 yX12_isLetter ∈ gtb := (gtb_t6 85 (by decide +kernel) (by decide +kernel))
theorem mlX12_162 : Cond.methodLink RX12 162 yX12_word0 ∈ gtb := (gtb_t6 88 (by decide +kernel) (by decide +kernel))
theorem mlX12_165 : Cond.methodLink RX12 165 yX12_isDigit ∈ gtb := (gtb_t6 125 (by decide +kernel) (by decide +kernel))
theorem mlX12_177 : Cond.methodLink RX12 177 yX12_bad ∈ gtb := (gtb_t6 132 (by decide +kernel) (by decide +kernel))
theorem mlX12_180 : Cond.methodLink RX12 180 yX12_next0 ∈ gtb := (gtb_t6 77 (by decide +kernel) (by decide +kernel))
theorem mlX12_189 : Cond.methodLink RX12 189 yX12_product ∈ gtb := (gtb_t6 168 (by decide +kernel) (by decide +kernel))
theorem mlX12_193 : Cond.methodLink RX12 193 yX12_lay ∈ gtb := (gtb_t6 160 (by decide +kernel) (by decide +kernel))
theorem mlX12_197 : Cond.methodLink RX12 197 yX12_unit ∈ gtb := (gtb_t6 172 (by decide +kernel) (by decide +kernel))
theorem mlX12_200 : Cond.methodLink RX12 200 yX12_number ∈ gtb := (gtb_t6 136 (by decide +kernel) (by decide +kernel))
theorem mlX12_204 : Cond.methodLink RX12 204 yX12_every ∈ gtb := (gtb_t6 148 (by decide +kernel) (by decide +kernel))
theorem mlX12_207 : Cond.methodLink RX12 207 yX12_one0 ∈ gtb := (gtb_t6 152 (by decide +kernel) (by decide +kernel))
theorem mlX12_210 : Cond.methodLink RX12 210 yX12_opens ∈ gtb := (gtb_t6 156 (by decide +kernel) (by decide +kernel))
theorem mlX12_213 : Cond.methodLink RX12 213 yX12_any ∈ gtb := (gtb_t6 144 (by decide +kernel) (by decide +kernel))
theorem mlX12_216 : Cond.methodLink RX12 216 yX12_need ∈ gtb := (gtb_t6 140 (by decide +kernel) (by decide +kernel))
theorem mlX12_219 : Cond.methodLink RX12 219 yX12_sumUp ∈ gtb := (gtb_t6 164 (by decide +kernel) (by decide +kernel))
theorem mlX12_228 : Cond.methodLink RX12 228 yX12_aLine ∈ gtb := (gtb_t6 128 (by decide +kernel) (by decide +kernel))
theorem mlX12_231 : Cond.methodLink RX12 231 yX12_both ∈ gtb := (gtb_t6 199 (by decide +kernel) (by decide +kernel))
theorem mlX12_235 : Cond.methodLink RX12 235 yX12_comesTo ∈ gtb := (gtb_t6 195 (by decide +kernel) (by decide +kernel))
theorem mlX12_238 : Cond.methodLink RX12 238 yX12_isNight ∈ gtb := (gtb_t6 188 (by decide +kernel) (by decide +kernel))
theorem mlX12_241 : Cond.methodLink RX12 241 yX12_firstLine ∈ gtb := (gtb_t6 191 (by decide +kernel) (by decide +kernel))
theorem mlX12_244 : Cond.methodLink RX12 244 yX12_isWord ∈ gtb := (gtb_t6 184 (by decide +kernel) (by decide +kernel))
theorem mlX12_248 : Cond.methodLink RX12 248 yX12_hourNow ∈ gtb := (gtb_t6 210 (by decide +kernel) (by decide +kernel))
theorem mlX12_251 : Cond.methodLink RX12 251 yX12_isFeast ∈ gtb := (gtb_t6 214 (by decide +kernel) (by decide +kernel))
theorem mlX12_254 : Cond.methodLink RX12 254 yX12_left ∈ gtb := (gtb_t6 218 (by decide +kernel) (by decide +kernel))
theorem mlX12_257 : Cond.methodLink RX12 257 yX12_ruled ∈ gtb := (gtb_t6 206 (by decide +kernel) (by decide +kernel))
theorem mlX12_260 : Cond.methodLink RX12 260 yX12_draw ∈ gtb := (gtb_t6 238 (by decide +kernel) (by decide +kernel))
theorem mlX12_263 : Cond.methodLink RX12 263 yX12_sounds ∈ gtb := (gtb_t7 4 (by decide +kernel) (by decide +kernel))
theorem mlX12_266 : Cond.methodLink RX12 266 yX12_isHeard ∈ gtb := (gtb_t7 24 (by decide +kernel) (by decide +kernel))
theorem mlX12_269 : Cond.methodLink RX12 269 yX12_isBetrayed ∈ gtb := (gtb_t7 20 (by decide +kernel) (by decide +kernel))
theorem mlX12_272 : Cond.methodLink RX12 272 yX12_writes ∈ gtb := (gtb_t7 8 (by decide +kernel) (by decide +kernel))
theorem mlX12_275 : Cond.methodLink RX12 275 yX12_makesNoise ∈ gtb := (gtb_t6 234 (by decide +kernel) (by decide +kernel))
theorem mlX12_278 : Cond.methodLink RX12 278 yX12_keptFor ∈ gtb := (gtb_t7 12 (by decide +kernel) (by decide +kernel))
theorem mlX12_281 : Cond.methodLink RX12 281 yX12_keeps ∈ gtb := (gtb_t7 16 (by decide +kernel) (by decide +kernel))
theorem mlX12_284 : Cond.methodLink RX12 284 yX12_aQuarter ∈ gtb := (gtb_t6 230 (by decide +kernel) (by decide +kernel))
theorem mlX12_290 : Cond.methodLink RX12 290 yX12_pays ∈ gtb := (gtb_t7 40 (by decide +kernel) (by decide +kernel))
theorem mlX12_293 : Cond.methodLink RX12 293 yX12_isLeft ∈ gtb := (gtb_t7 32 (by decide +kernel) (by decide +kernel))
theorem mlX12_296 : Cond.methodLink RX12 296 yX12_begins ∈ gtb := (gtb_t7 36 (by decide +kernel) (by decide +kernel))
theorem mlX12_299 : Cond.methodLink RX12 299 yX12_isOf ∈ gtb := (gtb_t7 44 (by decide +kernel) (by decide +kernel))
theorem mlX12_302 : Cond.methodLink RX12 302 yX12_ends ∈ gtb := (gtb_t7 48 (by decide +kernel) (by decide +kernel))
theorem mlX12_305 : Cond.methodLink RX12 305 yX12_isIt ∈ gtb := (gtb_t7 68 (by decide +kernel) (by decide +kernel))
theorem mlX12_308 : Cond.methodLink RX12 308 yX12_alone ∈ gtb := (gtb_t7 76 (by decide +kernel) (by decide +kernel))
theorem mlX12_311 : Cond.methodLink RX12 311 yX12_greatest ∈ gtb := (gtb_t7 80 (by decide +kernel) (by decide +kernel))
theorem mlX12_314 : Cond.methodLink RX12 314 yX12_mays ∈ gtb := (gtb_t7 84 (by decide +kernel) (by decide +kernel))
theorem mlX12_317 : Cond.methodLink RX12 317 yX12_within ∈ gtb := (gtb_t7 88 (by decide +kernel) (by decide +kernel))
theorem mlX12_320 : Cond.methodLink RX12 320 yX12_count ∈ gtb := (gtb_t7 92 (by decide +kernel) (by decide +kernel))
theorem mlX12_323 : Cond.methodLink RX12 323 yX12_upwards ∈ gtb := (gtb_t7 95 (by decide +kernel) (by decide +kernel))
theorem mlX12_326 : Cond.methodLink RX12 326 yX12_canBe ∈ gtb := (gtb_t7 106 (by decide +kernel) (by decide +kernel))
theorem mlX12_330 : Cond.methodLink RX12 330 yX12_canSay ∈ gtb := (gtb_t7 102 (by decide +kernel) (by decide +kernel))
theorem mlX12_334 : Cond.methodLink RX12 334 yX12_setsOut ∈ gtb := (gtb_t7 114 (by decide +kernel) (by decide +kernel))
theorem mlX12_337 : Cond.methodLink RX12 337 yX12_comesBack ∈ gtb := (gtb_t7 118 (by decide +kernel) (by decide +kernel))
theorem mlX12_340 : Cond.methodLink RX12 340 yX12_leads ∈ gtb := (gtb_t7 126 (by decide +kernel) (by decide +kernel))
theorem mlJ0_335 : Cond.methodLink RJ0 335 yJ0_coder_7d493 ∈ gtb := (gtb_t3 77 (by decide +kernel) (by decide +kernel))
theorem mlJ0_492 : Cond.methodLink RJ0 492 yJ0_isLatin1_aae02 ∈ gtb := (gtb_t3 87 (by decide +kernel) (by decide +kernel))
theorem mlJ0_495 : Cond.methodLink RJ0 495 yJ1_charAt_3b067 ∈ gtb := (gtb_t3 91 (by decide +kernel) (by decide +kernel))
theorem mlJ0_498 : Cond.methodLink RJ0 498 yJ2_charAt_3b067 ∈ gtb := (gtb_t3 102 (by decide +kernel) (by decide +kernel))
theorem mlJ0_1059 : Cond.methodLink RJ0 1059 yJ3_checkIndex_8e157 ∈ gtb := (gtb_t3 99 (by decide +kernel) (by decide +kernel))
theorem mlJ1_9 : Cond.methodLink RJ1 9 yJ0_checkIndex_df160 ∈ gtb := (gtb_t3 94 (by decide +kernel) (by decide +kernel))
theorem mlJ2_48 : Cond.methodLink RJ2 48 yJ2_length_9d52b ∈ gtb := (gtb_t3 108 (by decide +kernel) (by decide +kernel))
theorem mlJ2_67 : Cond.methodLink RJ2 67 yJ2_checkIndex_2214a ∈ gtb := (gtb_t3 105 (by decide +kernel) (by decide +kernel))
theorem mlJ2_71 : Cond.methodLink RJ2 71 yJ2_getChar_3b067 ∈ gtb := (gtb_t3 112 (by decide +kernel) (by decide +kernel))
theorem mlJ2_414 : Cond.methodLink RJ2 414 yJ0_checkIndex_df160 ∈ gtb := (gtb_t3 111 (by decide +kernel) (by decide +kernel))
theorem mlJ7_150 : Cond.methodLink RJ7 150 arraycopyName ∈ gtb := (gtb_t3 194 (by decide +kernel) (by decide +kernel))
theorem mlJ7_304 : Cond.methodLink RJ7 304 yJ9_min_7cf53 ∈ gtb := (gtb_t3 193 (by decide +kernel) (by decide +kernel))
theorem nlX11_31 : NL RX11 31 yX6_init := List.mem_append_right _ (List.mem_of_getElem? (i := 336) (by decide +kernel))
theorem nlX11_38 : NL RX11 38 yX5_init := List.mem_append_right _ (List.mem_of_getElem? (i := 352) (by decide +kernel))
theorem nlX1_32 : NL RX1 32 yX11_isWithin := List.mem_append_right _ (List.mem_of_getElem? (i := 857) (by decide +kernel))
theorem nlX3_96 : NL RX3 96 yX11_upwards := List.mem_append_right _ (List.mem_of_getElem? (i := 999) (by decide +kernel))
theorem nlX8_30 : NL RX8 30 yX11_isNightIn := List.mem_append_right _ (List.mem_of_getElem? (i := 705) (by decide +kernel))
theorem nlX10_11 : NL RX10 11 yX4_init := List.mem_append_right _ (List.mem_of_getElem? (i := 60) (by decide +kernel))
theorem nlX10_20 : NL RX10 20 yX3_init := List.mem_append_right _ (List.mem_of_getElem? (i := 113) (by decide +kernel))
theorem nlX10_34 : NL RX10 34 yX8_init := List.mem_append_right _ (List.mem_of_getElem? (i := 211) (by decide +kernel))
theorem nlX10_41 : NL RX10 41 yX1_init := List.mem_append_right _ (List.mem_of_getElem? (i := 238) (by decide +kernel))
theorem nlX10_112 : NL RX10 112 yX11_isLaw := List.mem_append_right _ (List.mem_of_getElem? (i := 752) (by decide +kernel))
theorem nlX10_116 : NL RX10 116 yX11_isNightIn := List.mem_append_right _ (List.mem_of_getElem? (i := 753) (by decide +kernel))
theorem clX11_9 : Cond.classLink RX11 9 RX7 ∈ gtb := (gtb_t1 30 (by decide +kernel) (by decide +kernel))
theorem clX11_14 : Cond.classLink RX11 14 RX10 ∈ gtb := (gtb_t1 52 (by decide +kernel) (by decide +kernel))
theorem clX11_29 : Cond.classLink RX11 29 RX6 ∈ gtb := (gtb_t2 94 (by decide +kernel) (by decide +kernel))
theorem clX11_36 : Cond.classLink RX11 36 RX5 ∈ gtb := (gtb_t2 110 (by decide +kernel) (by decide +kernel))
theorem clX1_9 : Cond.classLink RX1 9 RX0 ∈ gtb := (gtb_t2 2 (by decide +kernel) (by decide +kernel))
theorem clX5_60 : Cond.classLink RX5 60 RX7 ∈ gtb := (gtb_t3 182 (by decide +kernel) (by decide +kernel))
theorem clX10_9 : Cond.classLink RX10 9 RX4 ∈ gtb := (gtb_t1 58 (by decide +kernel) (by decide +kernel))
theorem clX10_18 : Cond.classLink RX10 18 RX3 ∈ gtb := (gtb_t1 111 (by decide +kernel) (by decide +kernel))
theorem clX10_25 : Cond.classLink RX10 25 RX9 ∈ gtb := (gtb_t1 170 (by decide +kernel) (by decide +kernel))
theorem clX10_32 : Cond.classLink RX10 32 RX8 ∈ gtb := (gtb_t1 209 (by decide +kernel) (by decide +kernel))
theorem clX10_39 : Cond.classLink RX10 39 RX1 ∈ gtb := (gtb_t1 236 (by decide +kernel) (by decide +kernel))
theorem clX10_46 : Cond.classLink RX10 46 RX7 ∈ gtb := (gtb_t2 12 (by decide +kernel) (by decide +kernel))
theorem clX10_62 : Cond.classLink RX10 62 RX2 ∈ gtb := (gtb_t2 14 (by decide +kernel) (by decide +kernel))
theorem clL_7 : Cond.classLink RL 7 RX11 ∈ gtb := (gtb_t1 22 (by decide +kernel) (by decide +kernel))
theorem clL_10 : Cond.classLink RL 10 RX12 ∈ gtb := (gtb_t5 152 (by decide +kernel) (by decide +kernel))
theorem clJ7_317 : Cond.classLink RJ7 317 "[I" ∈ gtb := (gtb_t3 192 (by decide +kernel) (by decide +kernel))
theorem coX8_24 : Cond.constant RX8 24 1664525 ∈ gtb := (gtb_t4 52 (by decide +kernel) (by decide +kernel))
theorem coX8_25 : Cond.constant RX8 25 1013904223 ∈ gtb := (gtb_t4 53 (by decide +kernel) (by decide +kernel))
theorem coX12_48 : Cond.constant RX12 48 1664525 ∈ gtb := (gtb_t7 2 (by decide +kernel) (by decide +kernel))
theorem coX12_49 : Cond.constant RX12 49 1013904223 ∈ gtb := (gtb_t7 3 (by decide +kernel) (by decide +kernel))
theorem coX12_69 : Cond.constant RX12 69 99999 ∈ gtb := (gtb_t6 28 (by decide +kernel) (by decide +kernel))
theorem coJ6_265 : Cond.constant RJ6 265 1431655765 ∈ gtb := (gtb_t5 36 (by decide +kernel) (by decide +kernel))
theorem coJ6_266 : Cond.constant RJ6 266 858993459 ∈ gtb := (gtb_t5 37 (by decide +kernel) (by decide +kernel))
theorem coJ6_267 : Cond.constant RJ6 267 252645135 ∈ gtb := (gtb_t5 38 (by decide +kernel) (by decide +kernel))
theorem inX11 : Cond.instantiable RX11 5 ∈ gtb := (gtb_t1 23 (by decide +kernel) (by decide +kernel))
theorem icX11 : Cond.initialized RX11 ∈ gtb := (gtb_t1 1 (by decide +kernel) (by decide +kernel))
theorem inX7 : Cond.instantiable RX7 4 ∈ gtb := (gtb_t1 31 (by decide +kernel) (by decide +kernel))
theorem icX7 : Cond.initialized RX7 ∈ gtb := (gtb_t1 2 (by decide +kernel) (by decide +kernel))
theorem inX10 : Cond.instantiable RX10 10 ∈ gtb := (gtb_t1 53 (by decide +kernel) (by decide +kernel))
theorem icX10 : Cond.initialized RX10 ∈ gtb := (gtb_t1 3 (by decide +kernel) (by decide +kernel))
theorem inX4 : Cond.instantiable RX4 11 ∈ gtb := (gtb_t1 59 (by decide +kernel) (by decide +kernel))
theorem icX4 : Cond.initialized RX4 ∈ gtb := (gtb_t1 4 (by decide +kernel) (by decide +kernel))
theorem inX3 : Cond.instantiable RX3 11 ∈ gtb := (gtb_t1 112 (by decide +kernel) (by decide +kernel))
theorem icX3 : Cond.initialized RX3 ∈ gtb := (gtb_t1 5 (by decide +kernel) (by decide +kernel))
theorem inX9 : Cond.instantiable RX9 7 ∈ gtb := (gtb_t1 171 (by decide +kernel) (by decide +kernel))
theorem icX9 : Cond.initialized RX9 ∈ gtb := (gtb_t1 6 (by decide +kernel) (by decide +kernel))
theorem inX8 : Cond.instantiable RX8 4 ∈ gtb := (gtb_t1 210 (by decide +kernel) (by decide +kernel))
theorem icX8 : Cond.initialized RX8 ∈ gtb := (gtb_t1 8 (by decide +kernel) (by decide +kernel))
theorem inX1 : Cond.instantiable RX1 2 ∈ gtb := (gtb_t1 237 (by decide +kernel) (by decide +kernel))
theorem icX1 : Cond.initialized RX1 ∈ gtb := (gtb_t1 9 (by decide +kernel) (by decide +kernel))
theorem inX2 : Cond.instantiable RX2 7 ∈ gtb := (gtb_t2 15 (by decide +kernel) (by decide +kernel))
theorem icX2 : Cond.initialized RX2 ∈ gtb := (gtb_t1 10 (by decide +kernel) (by decide +kernel))
theorem inX6 : Cond.instantiable RX6 2 ∈ gtb := (gtb_t2 95 (by decide +kernel) (by decide +kernel))
theorem icX6 : Cond.initialized RX6 ∈ gtb := (gtb_t1 12 (by decide +kernel) (by decide +kernel))
theorem inX5 : Cond.instantiable RX5 13 ∈ gtb := (gtb_t2 111 (by decide +kernel) (by decide +kernel))
theorem icX5 : Cond.initialized RX5 ∈ gtb := (gtb_t1 13 (by decide +kernel) (by decide +kernel))
theorem inX0 : Cond.instantiable RX0 6 ∈ gtb := (gtb_t4 138 (by decide +kernel) (by decide +kernel))
theorem icX0 : Cond.initialized RX0 ∈ gtb := (gtb_t1 20 (by decide +kernel) (by decide +kernel))
theorem inX12 : Cond.instantiable RX12 25 ∈ gtb := (gtb_t5 153 (by decide +kernel) (by decide +kernel))
theorem icX12 : Cond.initialized RX12 ∈ gtb := (gtb_t1 14 (by decide +kernel) (by decide +kernel))
theorem ac_int : Cond.arrayClass .int ∈ gtb := (gtb_t1 51 (by decide +kernel) (by decide +kernel))
theorem mbX0_init : MB yX0_init cX0_init 5 none 4 := ⟨(gtb_t4 141 (by decide +kernel) (by decide +kernel)), (gtb_t1 20 (by decide +kernel) (by decide +kernel)), by decide +kernel⟩
theorem miX0_init : MI yX0_init := ⟨rfl, (gtb_t4 140 (by decide +kernel) (by decide +kernel))⟩
theorem mbX0_takeIn : MB yX0_takeIn cX0_takeIn 4 none 2 := ⟨(gtb_t4 167 (by decide +kernel) (by decide +kernel)), (gtb_t1 20 (by decide +kernel) (by decide +kernel)), by decide +kernel⟩
theorem mvX0_takeIn : MV yX0_takeIn := ⟨(gtb_t4 165 (by decide +kernel) (by decide +kernel)), (gtb_t4 166 (by decide +kernel) (by decide +kernel))⟩
theorem mbX0_leaves : MB yX0_leaves cX0_leaves 2 none 1 := ⟨(gtb_t4 188 (by decide +kernel) (by decide +kernel)), (gtb_t1 20 (by decide +kernel) (by decide +kernel)), by decide +kernel⟩
theorem mvX0_leaves : MV yX0_leaves := ⟨(gtb_t4 186 (by decide +kernel) (by decide +kernel)), (gtb_t4 187 (by decide +kernel) (by decide +kernel))⟩
theorem mbX0_bears : MB yX0_bears cX0_bears 2 none 1 := ⟨(gtb_t4 194 (by decide +kernel) (by decide +kernel)), (gtb_t1 20 (by decide +kernel) (by decide +kernel)), by decide +kernel⟩
theorem mvX0_bears : MV yX0_bears := ⟨(gtb_t4 192 (by decide +kernel) (by decide +kernel)), (gtb_t4 193 (by decide +kernel) (by decide +kernel))⟩
theorem mbX0_canGoBack : MB yX0_canGoBack cX0_canGoBack 4 (some .boolean) 1 := ⟨(gtb_t4 237 (by decide +kernel) (by decide +kernel)), (gtb_t1 20 (by decide +kernel) (by decide +kernel)), by decide +kernel⟩
theorem mvX0_canGoBack : MV yX0_canGoBack := ⟨(gtb_t4 235 (by decide +kernel) (by decide +kernel)), (gtb_t4 236 (by decide +kernel) (by decide +kernel))⟩
theorem mbX0_goBack : MB yX0_goBack cX0_goBack 6 none 2 := ⟨(gtb_t5 1 (by decide +kernel) (by decide +kernel)), (gtb_t1 20 (by decide +kernel) (by decide +kernel)), by decide +kernel⟩
theorem mvX0_goBack : MV yX0_goBack := ⟨(gtb_t4 239 (by decide +kernel) (by decide +kernel)), (gtb_t5 0 (by decide +kernel) (by decide +kernel))⟩
theorem mbX1_init : MB yX1_init cX1_init 1 none 0 := ⟨(gtb_t2 0 (by decide +kernel) (by decide +kernel)), (gtb_t1 9 (by decide +kernel) (by decide +kernel)), by decide +kernel⟩
theorem miX1_init : MI yX1_init := ⟨rfl, (gtb_t1 239 (by decide +kernel) (by decide +kernel))⟩
theorem mbX1_copyFrom : MB yX1_copyFrom cX1_copyFrom 3 none 1 := ⟨(gtb_t5 98 (by decide +kernel) (by decide +kernel)), (gtb_t1 9 (by decide +kernel) (by decide +kernel)), by decide +kernel⟩
theorem mvX1_copyFrom : MV yX1_copyFrom := ⟨(gtb_t5 96 (by decide +kernel) (by decide +kernel)), (gtb_t5 97 (by decide +kernel) (by decide +kernel))⟩
theorem mbX1_keep : MB yX1_keep cX1_keep 3 none 1 := ⟨(gtb_t4 176 (by decide +kernel) (by decide +kernel)), (gtb_t1 9 (by decide +kernel) (by decide +kernel)), by decide +kernel⟩
theorem mvX1_keep : MV yX1_keep := ⟨(gtb_t4 175 (by decide +kernel) (by decide +kernel)), (gtb_pr 27 (by decide +kernel) (by decide +kernel))⟩
theorem mbX1_lendOn : MB yX1_lendOn cX1_lendOn 8 (some .boolean) 5 := ⟨(gtb_t4 130 (by decide +kernel) (by decide +kernel)), (gtb_t1 9 (by decide +kernel) (by decide +kernel)), by decide +kernel⟩
theorem mvX1_lendOn : MV yX1_lendOn := ⟨(gtb_t4 128 (by decide +kernel) (by decide +kernel)), (gtb_t4 129 (by decide +kernel) (by decide +kernel))⟩
theorem mbX1_splitOff : MB yX1_splitOff cX1_splitOff 6 (some .int) 3 := ⟨(gtb_t4 184 (by decide +kernel) (by decide +kernel)), (gtb_t1 9 (by decide +kernel) (by decide +kernel)), by decide +kernel⟩
theorem mvX1_splitOff : MV yX1_splitOff := ⟨(gtb_t4 182 (by decide +kernel) (by decide +kernel)), (gtb_t4 183 (by decide +kernel) (by decide +kernel))⟩
theorem mbX1_handDown : MB yX1_handDown cX1_handDown 7 (some .int) 3 := ⟨(gtb_t4 202 (by decide +kernel) (by decide +kernel)), (gtb_t1 9 (by decide +kernel) (by decide +kernel)), by decide +kernel⟩
theorem mvX1_handDown : MV yX1_handDown := ⟨(gtb_t4 200 (by decide +kernel) (by decide +kernel)), (gtb_t4 201 (by decide +kernel) (by decide +kernel))⟩
theorem mbX1_sellOn : MB yX1_sellOn cX1_sellOn 8 (some .boolean) 5 := ⟨(gtb_t4 224 (by decide +kernel) (by decide +kernel)), (gtb_t1 9 (by decide +kernel) (by decide +kernel)), by decide +kernel⟩
theorem mvX1_sellOn : MV yX1_sellOn := ⟨(gtb_t4 222 (by decide +kernel) (by decide +kernel)), (gtb_t4 223 (by decide +kernel) (by decide +kernel))⟩
theorem mbX1_goBack : MB yX1_goBack cX1_goBack 4 (some .boolean) 2 := ⟨(gtb_t4 233 (by decide +kernel) (by decide +kernel)), (gtb_t1 9 (by decide +kernel) (by decide +kernel)), by decide +kernel⟩
theorem mvX1_goBack : MV yX1_goBack := ⟨(gtb_t4 231 (by decide +kernel) (by decide +kernel)), (gtb_t4 232 (by decide +kernel) (by decide +kernel))⟩
theorem mbX2_init : MB yX2_init cX2_init 2 none 1 := ⟨(gtb_t2 18 (by decide +kernel) (by decide +kernel)), (gtb_t1 10 (by decide +kernel) (by decide +kernel)), by decide +kernel⟩
theorem miX2_init : MI yX2_init := ⟨rfl, (gtb_t2 17 (by decide +kernel) (by decide +kernel))⟩
theorem mbX2_copyFrom : MB yX2_copyFrom cX2_copyFrom 2 none 1 := ⟨(gtb_t5 93 (by decide +kernel) (by decide +kernel)), (gtb_t1 10 (by decide +kernel) (by decide +kernel)), by decide +kernel⟩
theorem mvX2_copyFrom : MV yX2_copyFrom := ⟨(gtb_t5 91 (by decide +kernel) (by decide +kernel)), (gtb_t5 92 (by decide +kernel) (by decide +kernel))⟩
theorem mbX2_write : MB yX2_write cX2_write 6 none 4 := ⟨(gtb_t4 72 (by decide +kernel) (by decide +kernel)), (gtb_t1 10 (by decide +kernel) (by decide +kernel)), by decide +kernel⟩
theorem mvX2_write : MV yX2_write := ⟨(gtb_t4 70 (by decide +kernel) (by decide +kernel)), (gtb_t4 71 (by decide +kernel) (by decide +kernel))⟩
theorem mbX2_isBetterThan : MB yX2_isBetterThan cX2_isBetterThan 3 (some .boolean) 2 := ⟨(gtb_t5 118 (by decide +kernel) (by decide +kernel)), (gtb_t1 10 (by decide +kernel) (by decide +kernel)), by decide +kernel⟩
theorem mvX2_isBetterThan : MV yX2_isBetterThan := ⟨(gtb_t5 116 (by decide +kernel) (by decide +kernel)), (gtb_t5 117 (by decide +kernel) (by decide +kernel))⟩
theorem mbX2_countOf : MB yX2_countOf cX2_countOf 2 (some .int) 1 := ⟨(gtb_t5 122 (by decide +kernel) (by decide +kernel)), (gtb_t1 10 (by decide +kernel) (by decide +kernel)), by decide +kernel⟩
theorem mvX2_countOf : MV yX2_countOf := ⟨(gtb_t5 120 (by decide +kernel) (by decide +kernel)), (gtb_t5 121 (by decide +kernel) (by decide +kernel))⟩
theorem mbX3_init : MB yX3_init cX3_init 1 none 0 := ⟨(gtb_t1 115 (by decide +kernel) (by decide +kernel)), (gtb_t1 5 (by decide +kernel) (by decide +kernel)), by decide +kernel⟩
theorem miX3_init : MI yX3_init := ⟨rfl, (gtb_t1 114 (by decide +kernel) (by decide +kernel))⟩
theorem mbX3_copyFrom : MB yX3_copyFrom cX3_copyFrom 2 none 1 := ⟨(gtb_t5 79 (by decide +kernel) (by decide +kernel)), (gtb_t1 5 (by decide +kernel) (by decide +kernel)), by decide +kernel⟩
theorem mvX3_copyFrom : MV yX3_copyFrom := ⟨(gtb_t5 77 (by decide +kernel) (by decide +kernel)), (gtb_t5 78 (by decide +kernel) (by decide +kernel))⟩
theorem mbX3_has : MB yX3_has cX3_has 2 (some .boolean) 1 := ⟨(gtb_t3 12 (by decide +kernel) (by decide +kernel)), (gtb_t1 5 (by decide +kernel) (by decide +kernel)), by decide +kernel⟩
theorem mvX3_has : MV yX3_has := ⟨(gtb_t3 10 (by decide +kernel) (by decide +kernel)), (gtb_t3 11 (by decide +kernel) (by decide +kernel))⟩
theorem mbX3_isOpen : MB yX3_isOpen cX3_isOpen 2 (some .boolean) 1 := ⟨(gtb_t4 134 (by decide +kernel) (by decide +kernel)), (gtb_t1 5 (by decide +kernel) (by decide +kernel)), by decide +kernel⟩
theorem mvX3_isOpen : MV yX3_isOpen := ⟨(gtb_t4 132 (by decide +kernel) (by decide +kernel)), (gtb_t4 133 (by decide +kernel) (by decide +kernel))⟩
theorem mbX3_isOpenWith : MB yX3_isOpenWith cX3_isOpenWith 3 (some .boolean) 2 := ⟨(gtb_t4 210 (by decide +kernel) (by decide +kernel)), (gtb_t1 5 (by decide +kernel) (by decide +kernel)), by decide +kernel⟩
theorem mvX3_isOpenWith : MV yX3_isOpenWith := ⟨(gtb_t4 208 (by decide +kernel) (by decide +kernel)), (gtb_t4 209 (by decide +kernel) (by decide +kernel))⟩
theorem mbX3_openCountWith : MB yX3_openCountWith cX3_openCountWith 4 (some .int) 1 := ⟨(gtb_t4 206 (by decide +kernel) (by decide +kernel)), (gtb_t1 5 (by decide +kernel) (by decide +kernel)), by decide +kernel⟩
theorem mvX3_openCountWith : MV yX3_openCountWith := ⟨(gtb_t4 204 (by decide +kernel) (by decide +kernel)), (gtb_t4 205 (by decide +kernel) (by decide +kernel))⟩
theorem mbX3_handDown : MB yX3_handDown cX3_handDown 4 none 3 := ⟨(gtb_t4 216 (by decide +kernel) (by decide +kernel)), (gtb_t1 5 (by decide +kernel) (by decide +kernel)), by decide +kernel⟩
theorem mvX3_handDown : MV yX3_handDown := ⟨(gtb_t4 214 (by decide +kernel) (by decide +kernel)), (gtb_t4 215 (by decide +kernel) (by decide +kernel))⟩
theorem mbX3_add : MB yX3_add cX3_add 5 (some .int) 3 := ⟨(gtb_t3 4 (by decide +kernel) (by decide +kernel)), (gtb_t1 5 (by decide +kernel) (by decide +kernel)), by decide +kernel⟩
theorem mvX3_add : MV yX3_add := ⟨(gtb_t3 2 (by decide +kernel) (by decide +kernel)), (gtb_t3 3 (by decide +kernel) (by decide +kernel))⟩
theorem mbX3_workerOf : MB yX3_workerOf cX3_workerOf 2 (some .int) 1 := ⟨(gtb_t3 24 (by decide +kernel) (by decide +kernel)), (gtb_t1 5 (by decide +kernel) (by decide +kernel)), by decide +kernel⟩
theorem mvX3_workerOf : MV yX3_workerOf := ⟨(gtb_t3 22 (by decide +kernel) (by decide +kernel)), (gtb_t3 23 (by decide +kernel) (by decide +kernel))⟩
theorem mbX3_tellOf : MB yX3_tellOf cX3_tellOf 3 (some .int) 2 := ⟨(gtb_t3 20 (by decide +kernel) (by decide +kernel)), (gtb_t1 5 (by decide +kernel) (by decide +kernel)), by decide +kernel⟩
theorem mvX3_tellOf : MV yX3_tellOf := ⟨(gtb_t3 18 (by decide +kernel) (by decide +kernel)), (gtb_t3 19 (by decide +kernel) (by decide +kernel))⟩
theorem mbX3_allHours : MB yX3_allHours cX3_allHours 3 (some .int) 0 := ⟨(gtb_t5 49 (by decide +kernel) (by decide +kernel)), (gtb_t1 5 (by decide +kernel) (by decide +kernel)), by decide +kernel⟩
theorem mvX3_allHours : MV yX3_allHours := ⟨(gtb_t5 47 (by decide +kernel) (by decide +kernel)), (gtb_t5 48 (by decide +kernel) (by decide +kernel))⟩
theorem mbX3_doneCount : MB yX3_doneCount cX3_doneCount 3 (some .int) 0 := ⟨(gtb_t5 150 (by decide +kernel) (by decide +kernel)), (gtb_t1 5 (by decide +kernel) (by decide +kernel)), by decide +kernel⟩
theorem mvX3_doneCount : MV yX3_doneCount := ⟨(gtb_t5 148 (by decide +kernel) (by decide +kernel)), (gtb_t5 149 (by decide +kernel) (by decide +kernel))⟩
theorem mbX3_hoursOf : MB yX3_hoursOf cX3_hoursOf 6 (some .int) 2 := ⟨(gtb_t5 130 (by decide +kernel) (by decide +kernel)), (gtb_t1 5 (by decide +kernel) (by decide +kernel)), by decide +kernel⟩
theorem mvX3_hoursOf : MV yX3_hoursOf := ⟨(gtb_t5 128 (by decide +kernel) (by decide +kernel)), (gtb_t5 129 (by decide +kernel) (by decide +kernel))⟩
theorem mbX3_tally : MB yX3_tally cX3_tally 4 none 0 := ⟨(gtb_t3 210 (by decide +kernel) (by decide +kernel)), (gtb_t1 5 (by decide +kernel) (by decide +kernel)), by decide +kernel⟩
theorem mvX3_tally : MV yX3_tally := ⟨(gtb_t3 208 (by decide +kernel) (by decide +kernel)), (gtb_t3 209 (by decide +kernel) (by decide +kernel))⟩
theorem mbX3_goesAhead : MB yX3_goesAhead cX3_goesAhead 4 (some .boolean) 3 := ⟨(gtb_t4 82 (by decide +kernel) (by decide +kernel)), (gtb_t1 5 (by decide +kernel) (by decide +kernel)), by decide +kernel⟩
theorem mvX3_goesAhead : MV yX3_goesAhead := ⟨(gtb_t4 80 (by decide +kernel) (by decide +kernel)), (gtb_t4 81 (by decide +kernel) (by decide +kernel))⟩
theorem mbX3_findWhoMay : MB yX3_findWhoMay cX3_findWhoMay 6 (some .boolean) 1 := ⟨(gtb_t5 16 (by decide +kernel) (by decide +kernel)), (gtb_t1 5 (by decide +kernel) (by decide +kernel)), by decide +kernel⟩
theorem mvX3_findWhoMay : MV yX3_findWhoMay := ⟨(gtb_t5 14 (by decide +kernel) (by decide +kernel)), (gtb_t5 15 (by decide +kernel) (by decide +kernel))⟩
theorem mbX3_greatestLeft : MB yX3_greatestLeft cX3_greatestLeft 3 (some .int) 0 := ⟨(gtb_t5 28 (by decide +kernel) (by decide +kernel)), (gtb_t1 5 (by decide +kernel) (by decide +kernel)), by decide +kernel⟩
theorem mvX3_greatestLeft : MV yX3_greatestLeft := ⟨(gtb_t5 27 (by decide +kernel) (by decide +kernel)), (gtb_pr 28 (by decide +kernel) (by decide +kernel))⟩
theorem mbX3_hoursOnlyFor : MB yX3_hoursOnlyFor cX3_hoursOnlyFor 4 (some .int) 1 := ⟨(gtb_t5 32 (by decide +kernel) (by decide +kernel)), (gtb_t1 5 (by decide +kernel) (by decide +kernel)), by decide +kernel⟩
theorem mvX3_hoursOnlyFor : MV yX3_hoursOnlyFor := ⟨(gtb_t5 31 (by decide +kernel) (by decide +kernel)), (gtb_pr 29 (by decide +kernel) (by decide +kernel))⟩
theorem mbX3_bestHours : MB yX3_bestHours cX3_bestHours 4 (some .int) 1 := ⟨(gtb_t5 24 (by decide +kernel) (by decide +kernel)), (gtb_t1 5 (by decide +kernel) (by decide +kernel)), by decide +kernel⟩
theorem mvX3_bestHours : MV yX3_bestHours := ⟨(gtb_t5 22 (by decide +kernel) (by decide +kernel)), (gtb_t5 23 (by decide +kernel) (by decide +kernel))⟩
theorem mbX3_boundHours : MB yX3_boundHours cX3_boundHours 3 (some .int) 0 := ⟨(gtb_t5 45 (by decide +kernel) (by decide +kernel)), (gtb_t1 5 (by decide +kernel) (by decide +kernel)), by decide +kernel⟩
theorem mvX3_boundHours : MV yX3_boundHours := ⟨(gtb_t5 43 (by decide +kernel) (by decide +kernel)), (gtb_t5 44 (by decide +kernel) (by decide +kernel))⟩
theorem mbX3_aloneHours : MB yX3_aloneHours cX3_aloneHours 3 (some .int) 0 := ⟨(gtb_t5 10 (by decide +kernel) (by decide +kernel)), (gtb_t1 5 (by decide +kernel) (by decide +kernel)), by decide +kernel⟩
theorem mvX3_aloneHours : MV yX3_aloneHours := ⟨(gtb_t5 8 (by decide +kernel) (by decide +kernel)), (gtb_t5 9 (by decide +kernel) (by decide +kernel))⟩
theorem mbX4_init : MB yX4_init cX4_init 1 none 0 := ⟨(gtb_t1 62 (by decide +kernel) (by decide +kernel)), (gtb_t1 4 (by decide +kernel) (by decide +kernel)), by decide +kernel⟩
theorem miX4_init : MI yX4_init := ⟨rfl, (gtb_t1 61 (by decide +kernel) (by decide +kernel))⟩
theorem mbX4_copyFrom : MB yX4_copyFrom cX4_copyFrom 2 none 1 := ⟨(gtb_t5 74 (by decide +kernel) (by decide +kernel)), (gtb_t1 4 (by decide +kernel) (by decide +kernel)), by decide +kernel⟩
theorem mvX4_copyFrom : MV yX4_copyFrom := ⟨(gtb_t5 72 (by decide +kernel) (by decide +kernel)), (gtb_t5 73 (by decide +kernel) (by decide +kernel))⟩
theorem mbX4_has : MB yX4_has cX4_has 2 (some .boolean) 1 := ⟨(gtb_t2 202 (by decide +kernel) (by decide +kernel)), (gtb_t1 4 (by decide +kernel) (by decide +kernel)), by decide +kernel⟩
theorem mvX4_has : MV yX4_has := ⟨(gtb_t2 200 (by decide +kernel) (by decide +kernel)), (gtb_t2 201 (by decide +kernel) (by decide +kernel))⟩
theorem mbX4_isNoChild : MB yX4_isNoChild cX4_isNoChild 2 (some .boolean) 1 := ⟨(gtb_t2 210 (by decide +kernel) (by decide +kernel)), (gtb_t1 4 (by decide +kernel) (by decide +kernel)), by decide +kernel⟩
theorem mvX4_isNoChild : MV yX4_isNoChild := ⟨(gtb_t2 208 (by decide +kernel) (by decide +kernel)), (gtb_t2 209 (by decide +kernel) (by decide +kernel))⟩
theorem mbX4_add : MB yX4_add cX4_add 7 (some .int) 5 := ⟨(gtb_t2 190 (by decide +kernel) (by decide +kernel)), (gtb_t1 4 (by decide +kernel) (by decide +kernel)), by decide +kernel⟩
theorem mvX4_add : MV yX4_add := ⟨(gtb_t2 188 (by decide +kernel) (by decide +kernel)), (gtb_t2 189 (by decide +kernel) (by decide +kernel))⟩
theorem mbX4_giveParent : MB yX4_giveParent cX4_giveParent 3 (some .boolean) 2 := ⟨(gtb_t2 206 (by decide +kernel) (by decide +kernel)), (gtb_t1 4 (by decide +kernel) (by decide +kernel)), by decide +kernel⟩
theorem mvX4_giveParent : MV yX4_giveParent := ⟨(gtb_t2 204 (by decide +kernel) (by decide +kernel)), (gtb_t2 205 (by decide +kernel) (by decide +kernel))⟩
theorem mbX4_change : MB yX4_change cX4_change 4 none 3 := ⟨(gtb_t2 215 (by decide +kernel) (by decide +kernel)), (gtb_t1 4 (by decide +kernel) (by decide +kernel)), by decide +kernel⟩
theorem mvX4_change : MV yX4_change := ⟨(gtb_t2 213 (by decide +kernel) (by decide +kernel)), (gtb_t2 214 (by decide +kernel) (by decide +kernel))⟩
theorem mbX4_tellOf : MB yX4_tellOf cX4_tellOf 3 (some .int) 2 := ⟨(gtb_t5 134 (by decide +kernel) (by decide +kernel)), (gtb_t1 4 (by decide +kernel) (by decide +kernel)), by decide +kernel⟩
theorem mvX4_tellOf : MV yX4_tellOf := ⟨(gtb_t5 132 (by decide +kernel) (by decide +kernel)), (gtb_t5 133 (by decide +kernel) (by decide +kernel))⟩
theorem mbX4_hush : MB yX4_hush cX4_hush 2 none 1 := ⟨(gtb_t2 194 (by decide +kernel) (by decide +kernel)), (gtb_t1 4 (by decide +kernel) (by decide +kernel)), by decide +kernel⟩
theorem mvX4_hush : MV yX4_hush := ⟨(gtb_t2 192 (by decide +kernel) (by decide +kernel)), (gtb_t2 193 (by decide +kernel) (by decide +kernel))⟩
theorem mbX4_noiseOf : MB yX4_noiseOf cX4_noiseOf 3 (some .int) 2 := ⟨(gtb_t4 122 (by decide +kernel) (by decide +kernel)), (gtb_t1 4 (by decide +kernel) (by decide +kernel)), by decide +kernel⟩
theorem mvX4_noiseOf : MV yX4_noiseOf := ⟨(gtb_t4 120 (by decide +kernel) (by decide +kernel)), (gtb_t4 121 (by decide +kernel) (by decide +kernel))⟩
theorem mbX4_othersWith : MB yX4_othersWith cX4_othersWith 4 (some .int) 1 := ⟨(gtb_t3 239 (by decide +kernel) (by decide +kernel)), (gtb_t1 4 (by decide +kernel) (by decide +kernel)), by decide +kernel⟩
theorem mvX4_othersWith : MV yX4_othersWith := ⟨(gtb_t3 237 (by decide +kernel) (by decide +kernel)), (gtb_t3 238 (by decide +kernel) (by decide +kernel))⟩
theorem mbX4_noChildren : MB yX4_noChildren cX4_noChildren 3 (some .int) 0 := ⟨(gtb_t5 20 (by decide +kernel) (by decide +kernel)), (gtb_t1 4 (by decide +kernel) (by decide +kernel)), by decide +kernel⟩
theorem mvX4_noChildren : MV yX4_noChildren := ⟨(gtb_t5 18 (by decide +kernel) (by decide +kernel)), (gtb_t5 19 (by decide +kernel) (by decide +kernel))⟩
theorem mbX4_pay : MB yX4_pay cX4_pay 4 none 3 := ⟨(gtb_t4 172 (by decide +kernel) (by decide +kernel)), (gtb_t1 4 (by decide +kernel) (by decide +kernel)), by decide +kernel⟩
theorem mvX4_pay : MV yX4_pay := ⟨(gtb_t4 170 (by decide +kernel) (by decide +kernel)), (gtb_t4 171 (by decide +kernel) (by decide +kernel))⟩
theorem mbX5_init : MB yX5_init cX5_init 1 none 0 := ⟨(gtb_t2 114 (by decide +kernel) (by decide +kernel)), (gtb_t1 13 (by decide +kernel) (by decide +kernel)), by decide +kernel⟩
theorem miX5_init : MI yX5_init := ⟨rfl, (gtb_t2 113 (by decide +kernel) (by decide +kernel))⟩
theorem mbX5_forget : MB yX5_forget cX5_forget 1 none 0 := ⟨(gtb_t3 44 (by decide +kernel) (by decide +kernel)), (gtb_t1 13 (by decide +kernel) (by decide +kernel)), by decide +kernel⟩
theorem mvX5_forget : MV yX5_forget := ⟨(gtb_t3 42 (by decide +kernel) (by decide +kernel)), (gtb_t3 43 (by decide +kernel) (by decide +kernel))⟩
theorem mbX5_read : MB yX5_read cX5_read 4 (some (.object "SilenceForMoney$Text")) 2 := ⟨(gtb_t3 48 (by decide +kernel) (by decide +kernel)), (gtb_t1 13 (by decide +kernel) (by decide +kernel)), by decide +kernel⟩
theorem mvX5_read : MV yX5_read := ⟨(gtb_t3 46 (by decide +kernel) (by decide +kernel)), (gtb_t3 47 (by decide +kernel) (by decide +kernel))⟩
theorem mbX5_findTokens : MB yX5_findTokens cX5_findTokens 4 none 1 := ⟨(gtb_t3 53 (by decide +kernel) (by decide +kernel)), (gtb_t1 13 (by decide +kernel) (by decide +kernel)), by decide +kernel⟩
theorem mvX5_findTokens : MV yX5_findTokens := ⟨(gtb_t3 52 (by decide +kernel) (by decide +kernel)), (gtb_pr 0 (by decide +kernel) (by decide +kernel))⟩
theorem mbX5_findToken : MB yX5_findToken cX5_findToken 5 (some .int) 2 := ⟨(gtb_t3 57 (by decide +kernel) (by decide +kernel)), (gtb_t1 13 (by decide +kernel) (by decide +kernel)), by decide +kernel⟩
theorem mvX5_findToken : MV yX5_findToken := ⟨(gtb_t3 56 (by decide +kernel) (by decide +kernel)), (gtb_pr 1 (by decide +kernel) (by decide +kernel))⟩
theorem mbX5_putToken : MB yX5_putToken cX5_putToken 4 none 3 := ⟨(gtb_t3 124 (by decide +kernel) (by decide +kernel)), (gtb_t1 13 (by decide +kernel) (by decide +kernel)), by decide +kernel⟩
theorem mvX5_putToken : MV yX5_putToken := ⟨(gtb_t3 123 (by decide +kernel) (by decide +kernel)), (gtb_pr 3 (by decide +kernel) (by decide +kernel))⟩
theorem mbX5_isLetter : MB yX5_isLetter cX5_isLetter 1 (some .boolean) 1 := ⟨(gtb_t3 60 (by decide +kernel) (by decide +kernel)), (gtb_t1 13 (by decide +kernel) (by decide +kernel)), by decide +kernel⟩
theorem msX5_isLetter : MS yX5_isLetter := (gtb_t3 59 (by decide +kernel) (by decide +kernel))
theorem mbX5_isDigit : MB yX5_isDigit cX5_isDigit 1 (some .boolean) 1 := ⟨(gtb_t3 66 (by decide +kernel) (by decide +kernel)), (gtb_t1 13 (by decide +kernel) (by decide +kernel)), by decide +kernel⟩
theorem msX5_isDigit : MS yX5_isDigit := (gtb_t3 65 (by decide +kernel) (by decide +kernel))
theorem mbX5_isSign : MB yX5_isSign cX5_isSign 1 (some .boolean) 1 := ⟨(gtb_t3 130 (by decide +kernel) (by decide +kernel)), (gtb_t1 13 (by decide +kernel) (by decide +kernel)), by decide +kernel⟩
theorem msX5_isSign : MS yX5_isSign := (gtb_t3 129 (by decide +kernel) (by decide +kernel))
theorem mbX5_endOfRun : MB yX5_endOfRun cX5_endOfRun 5 (some .int) 3 := ⟨(gtb_t3 63 (by decide +kernel) (by decide +kernel)), (gtb_t1 13 (by decide +kernel) (by decide +kernel)), by decide +kernel⟩
theorem msX5_endOfRun : MS yX5_endOfRun := (gtb_t3 62 (by decide +kernel) (by decide +kernel))
theorem mbX5_numberOf : MB yX5_numberOf cX5_numberOf 5 (some .int) 3 := ⟨(gtb_t3 127 (by decide +kernel) (by decide +kernel)), (gtb_t1 13 (by decide +kernel) (by decide +kernel)), by decide +kernel⟩
theorem msX5_numberOf : MS yX5_numberOf := (gtb_t3 126 (by decide +kernel) (by decide +kernel))
theorem mbX5_keyword : MB yX5_keyword cX5_keyword 10 (some .int) 3 := ⟨(gtb_t3 70 (by decide +kernel) (by decide +kernel)), (gtb_t1 13 (by decide +kernel) (by decide +kernel)), by decide +kernel⟩
theorem mvX5_keyword : MV yX5_keyword := ⟨(gtb_t3 69 (by decide +kernel) (by decide +kernel)), (gtb_pr 2 (by decide +kernel) (by decide +kernel))⟩
theorem mbX5_emit : MB yX5_emit cX5_emit 3 none 2 := ⟨(gtb_t3 162 (by decide +kernel) (by decide +kernel)), (gtb_t1 13 (by decide +kernel) (by decide +kernel)), by decide +kernel⟩
theorem mvX5_emit : MV yX5_emit := ⟨(gtb_t3 161 (by decide +kernel) (by decide +kernel)), (gtb_pr 11 (by decide +kernel) (by decide +kernel))⟩
theorem mbX5_closeLine : MB yX5_closeLine cX5_closeLine 2 none 1 := ⟨(gtb_t3 181 (by decide +kernel) (by decide +kernel)), (gtb_t1 13 (by decide +kernel) (by decide +kernel)), by decide +kernel⟩
theorem mvX5_closeLine : MV yX5_closeLine := ⟨(gtb_t3 180 (by decide +kernel) (by decide +kernel)), (gtb_pr 15 (by decide +kernel) (by decide +kernel))⟩
theorem mbX5_fail : MB yX5_fail cX5_fail 2 none 1 := ⟨(gtb_t3 138 (by decide +kernel) (by decide +kernel)), (gtb_t1 13 (by decide +kernel) (by decide +kernel)), by decide +kernel⟩
theorem mvX5_fail : MV yX5_fail := ⟨(gtb_t3 137 (by decide +kernel) (by decide +kernel)), (gtb_pr 5 (by decide +kernel) (by decide +kernel))⟩
theorem mbX5_step : MB yX5_step cX5_step 1 none 0 := ⟨(gtb_t3 142 (by decide +kernel) (by decide +kernel)), (gtb_t1 13 (by decide +kernel) (by decide +kernel)), by decide +kernel⟩
theorem mvX5_step : MV yX5_step := ⟨(gtb_t3 141 (by decide +kernel) (by decide +kernel)), (gtb_pr 6 (by decide +kernel) (by decide +kernel))⟩
theorem mbX5_take : MB yX5_take cX5_take 2 (some .boolean) 1 := ⟨(gtb_t3 150 (by decide +kernel) (by decide +kernel)), (gtb_t1 13 (by decide +kernel) (by decide +kernel)), by decide +kernel⟩
theorem mvX5_take : MV yX5_take := ⟨(gtb_t3 149 (by decide +kernel) (by decide +kernel)), (gtb_pr 8 (by decide +kernel) (by decide +kernel))⟩
theorem mbX5_readLine : MB yX5_readLine cX5_readLine 3 none 0 := ⟨(gtb_t3 134 (by decide +kernel) (by decide +kernel)), (gtb_t1 13 (by decide +kernel) (by decide +kernel)), by decide +kernel⟩
theorem mvX5_readLine : MV yX5_readLine := ⟨(gtb_t3 133 (by decide +kernel) (by decide +kernel)), (gtb_pr 4 (by decide +kernel) (by decide +kernel))⟩
theorem mbX5_readLoud : MB yX5_readLoud cX5_readLoud 2 (some .int) 0 := ⟨(gtb_t3 146 (by decide +kernel) (by decide +kernel)), (gtb_t1 13 (by decide +kernel) (by decide +kernel)), by decide +kernel⟩
theorem mvX5_readLoud : MV yX5_readLoud := ⟨(gtb_t3 145 (by decide +kernel) (by decide +kernel)), (gtb_pr 7 (by decide +kernel) (by decide +kernel))⟩
theorem mbX5_anyOf : MB yX5_anyOf cX5_anyOf 5 none 1 := ⟨(gtb_t3 154 (by decide +kernel) (by decide +kernel)), (gtb_t1 13 (by decide +kernel) (by decide +kernel)), by decide +kernel⟩
theorem mvX5_anyOf : MV yX5_anyOf := ⟨(gtb_t3 153 (by decide +kernel) (by decide +kernel)), (gtb_pr 9 (by decide +kernel) (by decide +kernel))⟩
theorem mbX5_condition : MB yX5_condition cX5_condition 4 none 1 := ⟨(gtb_t3 158 (by decide +kernel) (by decide +kernel)), (gtb_t1 13 (by decide +kernel) (by decide +kernel)), by decide +kernel⟩
theorem mvX5_condition : MV yX5_condition := ⟨(gtb_t3 157 (by decide +kernel) (by decide +kernel)), (gtb_pr 10 (by decide +kernel) (by decide +kernel))⟩
theorem mbX5_sum : MB yX5_sum cX5_sum 4 none 0 := ⟨(gtb_t3 166 (by decide +kernel) (by decide +kernel)), (gtb_t1 13 (by decide +kernel) (by decide +kernel)), by decide +kernel⟩
theorem mvX5_sum : MV yX5_sum := ⟨(gtb_t3 165 (by decide +kernel) (by decide +kernel)), (gtb_pr 12 (by decide +kernel) (by decide +kernel))⟩
theorem mbX5_isReckoning : MB yX5_isReckoning cX5_isReckoning 1 (some .boolean) 1 := ⟨(gtb_t3 173 (by decide +kernel) (by decide +kernel)), (gtb_t1 13 (by decide +kernel) (by decide +kernel)), by decide +kernel⟩
theorem msX5_isReckoning : MS yX5_isReckoning := (gtb_t3 172 (by decide +kernel) (by decide +kernel))
theorem mbX5_divisor : MB yX5_divisor cX5_divisor 1 none 0 := ⟨(gtb_t3 177 (by decide +kernel) (by decide +kernel)), (gtb_t1 13 (by decide +kernel) (by decide +kernel)), by decide +kernel⟩
theorem mvX5_divisor : MV yX5_divisor := ⟨(gtb_t3 176 (by decide +kernel) (by decide +kernel)), (gtb_pr 14 (by decide +kernel) (by decide +kernel))⟩
theorem mbX5_unit : MB yX5_unit cX5_unit 3 none 0 := ⟨(gtb_t3 170 (by decide +kernel) (by decide +kernel)), (gtb_t1 13 (by decide +kernel) (by decide +kernel)), by decide +kernel⟩
theorem mvX5_unit : MV yX5_unit := ⟨(gtb_t3 169 (by decide +kernel) (by decide +kernel)), (gtb_pr 13 (by decide +kernel) (by decide +kernel))⟩
theorem mbX6_init : MB yX6_init cX6_init 1 none 0 := ⟨(gtb_t2 98 (by decide +kernel) (by decide +kernel)), (gtb_t1 12 (by decide +kernel) (by decide +kernel)), by decide +kernel⟩
theorem miX6_init : MI yX6_init := ⟨rfl, (gtb_t2 97 (by decide +kernel) (by decide +kernel))⟩
theorem mbX6_put : MB yX6_put cX6_put 3 none 1 := ⟨(gtb_t3 32 (by decide +kernel) (by decide +kernel)), (gtb_t1 12 (by decide +kernel) (by decide +kernel)), by decide +kernel⟩
theorem mvX6_put : MV yX6_put := ⟨(gtb_t3 30 (by decide +kernel) (by decide +kernel)), (gtb_t3 31 (by decide +kernel) (by decide +kernel))⟩
theorem mbX7_init : MB yX7_init cX7_init 5 none 4 := ⟨(gtb_t1 34 (by decide +kernel) (by decide +kernel)), (gtb_t1 2 (by decide +kernel) (by decide +kernel)), by decide +kernel⟩
theorem miX7_init : MI yX7_init := ⟨rfl, (gtb_t1 33 (by decide +kernel) (by decide +kernel))⟩
theorem mbX7_deedOf : MB yX7_deedOf cX7_deedOf 2 (some .int) 1 := ⟨(gtb_t4 17 (by decide +kernel) (by decide +kernel)), (gtb_t1 2 (by decide +kernel) (by decide +kernel)), by decide +kernel⟩
theorem mvX7_deedOf : MV yX7_deedOf := ⟨(gtb_t4 15 (by decide +kernel) (by decide +kernel)), (gtb_t4 16 (by decide +kernel) (by decide +kernel))⟩
theorem mbX7_firstLine : MB yX7_firstLine cX7_firstLine 4 (some .int) 2 := ⟨(gtb_t4 3 (by decide +kernel) (by decide +kernel)), (gtb_t1 2 (by decide +kernel) (by decide +kernel)), by decide +kernel⟩
theorem mvX7_firstLine : MV yX7_firstLine := ⟨(gtb_t4 1 (by decide +kernel) (by decide +kernel)), (gtb_t4 2 (by decide +kernel) (by decide +kernel))⟩
theorem mbX7_isSo : MB yX7_isSo cX7_isSo 9 (some .boolean) 4 := ⟨(gtb_t4 7 (by decide +kernel) (by decide +kernel)), (gtb_t1 2 (by decide +kernel) (by decide +kernel)), by decide +kernel⟩
theorem mvX7_isSo : MV yX7_isSo := ⟨(gtb_t4 6 (by decide +kernel) (by decide +kernel)), (gtb_pr 16 (by decide +kernel) (by decide +kernel))⟩
theorem mbX7_valueAt : MB yX7_valueAt cX7_valueAt 2 (some .int) 2 := ⟨(gtb_t4 10 (by decide +kernel) (by decide +kernel)), (gtb_t1 2 (by decide +kernel) (by decide +kernel)), by decide +kernel⟩
theorem msX7_valueAt : MS yX7_valueAt := (gtb_t4 9 (by decide +kernel) (by decide +kernel))
theorem mbX7_join : MB yX7_join cX7_join 3 (some .int) 3 := ⟨(gtb_t4 13 (by decide +kernel) (by decide +kernel)), (gtb_t1 2 (by decide +kernel) (by decide +kernel)), by decide +kernel⟩
theorem msX7_join : MS yX7_join := (gtb_t4 12 (by decide +kernel) (by decide +kernel))
theorem mbX8_init : MB yX8_init cX8_init 1 none 0 := ⟨(gtb_t1 213 (by decide +kernel) (by decide +kernel)), (gtb_t1 8 (by decide +kernel) (by decide +kernel)), by decide +kernel⟩
theorem miX8_init : MI yX8_init := ⟨rfl, (gtb_t1 212 (by decide +kernel) (by decide +kernel))⟩
theorem mbX8_copyFrom : MB yX8_copyFrom cX8_copyFrom 2 none 1 := ⟨(gtb_t5 89 (by decide +kernel) (by decide +kernel)), (gtb_t1 8 (by decide +kernel) (by decide +kernel)), by decide +kernel⟩
theorem mvX8_copyFrom : MV yX8_copyFrom := ⟨(gtb_t5 87 (by decide +kernel) (by decide +kernel)), (gtb_t5 88 (by decide +kernel) (by decide +kernel))⟩
theorem mbX8_draw : MB yX8_draw cX8_draw 2 (some .int) 1 := ⟨(gtb_t4 51 (by decide +kernel) (by decide +kernel)), (gtb_t1 8 (by decide +kernel) (by decide +kernel)), by decide +kernel⟩
theorem mvX8_draw : MV yX8_draw := ⟨(gtb_t4 49 (by decide +kernel) (by decide +kernel)), (gtb_t4 50 (by decide +kernel) (by decide +kernel))⟩
theorem mbX8_hour : MB yX8_hour cX8_hour 1 (some .int) 0 := ⟨(gtb_t3 219 (by decide +kernel) (by decide +kernel)), (gtb_t1 8 (by decide +kernel) (by decide +kernel)), by decide +kernel⟩
theorem mvX8_hour : MV yX8_hour := ⟨(gtb_t3 217 (by decide +kernel) (by decide +kernel)), (gtb_t3 218 (by decide +kernel) (by decide +kernel))⟩
theorem mbX8_isNight : MB yX8_isNight cX8_isNight 1 (some .boolean) 0 := ⟨(gtb_t3 223 (by decide +kernel) (by decide +kernel)), (gtb_t1 8 (by decide +kernel) (by decide +kernel)), by decide +kernel⟩
theorem mvX8_isNight : MV yX8_isNight := ⟨(gtb_t3 221 (by decide +kernel) (by decide +kernel)), (gtb_t3 222 (by decide +kernel) (by decide +kernel))⟩
theorem mbX8_isFeast : MB yX8_isFeast cX8_isFeast 1 (some .boolean) 0 := ⟨(gtb_t3 231 (by decide +kernel) (by decide +kernel)), (gtb_t1 8 (by decide +kernel) (by decide +kernel)), by decide +kernel⟩
theorem mvX8_isFeast : MV yX8_isFeast := ⟨(gtb_t3 229 (by decide +kernel) (by decide +kernel)), (gtb_t3 230 (by decide +kernel) (by decide +kernel))⟩
theorem mbX8_isFeastOn : MB yX8_isFeastOn cX8_isFeastOn 2 (some .boolean) 1 := ⟨(gtb_t3 235 (by decide +kernel) (by decide +kernel)), (gtb_t1 8 (by decide +kernel) (by decide +kernel)), by decide +kernel⟩
theorem mvX8_isFeastOn : MV yX8_isFeastOn := ⟨(gtb_t3 233 (by decide +kernel) (by decide +kernel)), (gtb_t3 234 (by decide +kernel) (by decide +kernel))⟩
theorem mbX8_goOn : MB yX8_goOn cX8_goOn 1 none 0 := ⟨(gtb_t4 114 (by decide +kernel) (by decide +kernel)), (gtb_t1 8 (by decide +kernel) (by decide +kernel)), by decide +kernel⟩
theorem mvX8_goOn : MV yX8_goOn := ⟨(gtb_t4 112 (by decide +kernel) (by decide +kernel)), (gtb_t4 113 (by decide +kernel) (by decide +kernel))⟩
theorem mbX9_init : MB yX9_init cX9_init 2 none 0 := ⟨(gtb_t1 174 (by decide +kernel) (by decide +kernel)), (gtb_t1 6 (by decide +kernel) (by decide +kernel)), by decide +kernel⟩
theorem miX9_init : MI yX9_init := ⟨rfl, (gtb_t1 173 (by decide +kernel) (by decide +kernel))⟩
theorem mbX9_copyFrom : MB yX9_copyFrom cX9_copyFrom 2 none 1 := ⟨(gtb_t5 84 (by decide +kernel) (by decide +kernel)), (gtb_t1 6 (by decide +kernel) (by decide +kernel)), by decide +kernel⟩
theorem mvX9_copyFrom : MV yX9_copyFrom := ⟨(gtb_t5 82 (by decide +kernel) (by decide +kernel)), (gtb_t5 83 (by decide +kernel) (by decide +kernel))⟩
theorem mbX9_putWall : MB yX9_putWall cX9_putWall 4 none 3 := ⟨(gtb_t2 226 (by decide +kernel) (by decide +kernel)), (gtb_t1 6 (by decide +kernel) (by decide +kernel)), by decide +kernel⟩
theorem mvX9_putWall : MV yX9_putWall := ⟨(gtb_t2 224 (by decide +kernel) (by decide +kernel)), (gtb_t2 225 (by decide +kernel) (by decide +kernel))⟩
theorem mbX9_wallBetween : MB yX9_wallBetween cX9_wallBetween 4 (some .int) 2 := ⟨(gtb_t4 102 (by decide +kernel) (by decide +kernel)), (gtb_t1 6 (by decide +kernel) (by decide +kernel)), by decide +kernel⟩
theorem mvX9_wallBetween : MV yX9_wallBetween := ⟨(gtb_t4 100 (by decide +kernel) (by decide +kernel)), (gtb_t4 101 (by decide +kernel) (by decide +kernel))⟩
theorem mbX9_placeAt : MB yX9_placeAt cX9_placeAt 2 (some .int) 1 := ⟨(gtb_t4 98 (by decide +kernel) (by decide +kernel)), (gtb_t1 6 (by decide +kernel) (by decide +kernel)), by decide +kernel⟩
theorem mvX9_placeAt : MV yX9_placeAt := ⟨(gtb_t4 96 (by decide +kernel) (by decide +kernel)), (gtb_t4 97 (by decide +kernel) (by decide +kernel))⟩
theorem mbX10_init : MB yX10_init cX10_init 4 none 2 := ⟨(gtb_t1 56 (by decide +kernel) (by decide +kernel)), (gtb_t1 3 (by decide +kernel) (by decide +kernel)), by decide +kernel⟩
theorem miX10_init : MI yX10_init := ⟨rfl, (gtb_t1 55 (by decide +kernel) (by decide +kernel))⟩
theorem mbX10_copyFrom : MB yX10_copyFrom cX10_copyFrom 3 none 1 := ⟨(gtb_t5 70 (by decide +kernel) (by decide +kernel)), (gtb_t1 3 (by decide +kernel) (by decide +kernel)), by decide +kernel⟩
theorem mvX10_copyFrom : MV yX10_copyFrom := ⟨(gtb_t5 68 (by decide +kernel) (by decide +kernel)), (gtb_t5 69 (by decide +kernel) (by decide +kernel))⟩
theorem mbX10_change : MB yX10_change cX10_change 3 none 2 := ⟨(gtb_t2 236 (by decide +kernel) (by decide +kernel)), (gtb_t1 3 (by decide +kernel) (by decide +kernel)), by decide +kernel⟩
theorem mvX10_change : MV yX10_change := ⟨(gtb_t2 234 (by decide +kernel) (by decide +kernel)), (gtb_t2 235 (by decide +kernel) (by decide +kernel))⟩
theorem mbX10_isWord : MB yX10_isWord cX10_isWord 7 (some .boolean) 6 := ⟨(gtb_t4 31 (by decide +kernel) (by decide +kernel)), (gtb_t1 3 (by decide +kernel) (by decide +kernel)), by decide +kernel⟩
theorem mvX10_isWord : MV yX10_isWord := ⟨(gtb_t4 29 (by decide +kernel) (by decide +kernel)), (gtb_t4 30 (by decide +kernel) (by decide +kernel))⟩
theorem mbX10_deedOf : MB yX10_deedOf cX10_deedOf 4 (some .int) 1 := ⟨(gtb_t3 215 (by decide +kernel) (by decide +kernel)), (gtb_t1 3 (by decide +kernel) (by decide +kernel)), by decide +kernel⟩
theorem mvX10_deedOf : MV yX10_deedOf := ⟨(gtb_t3 213 (by decide +kernel) (by decide +kernel)), (gtb_t3 214 (by decide +kernel) (by decide +kernel))⟩
theorem mbX10_pass : MB yX10_pass cX10_pass 2 none 0 := ⟨(gtb_t4 41 (by decide +kernel) (by decide +kernel)), (gtb_t1 3 (by decide +kernel) (by decide +kernel)), by decide +kernel⟩
theorem mvX10_pass : MV yX10_pass := ⟨(gtb_t4 39 (by decide +kernel) (by decide +kernel)), (gtb_t4 40 (by decide +kernel) (by decide +kernel))⟩
theorem mbX10_makeNoise : MB yX10_makeNoise cX10_makeNoise 4 none 1 := ⟨(gtb_t4 46 (by decide +kernel) (by decide +kernel)), (gtb_t1 3 (by decide +kernel) (by decide +kernel)), by decide +kernel⟩
theorem mvX10_makeNoise : MV yX10_makeNoise := ⟨(gtb_t4 45 (by decide +kernel) (by decide +kernel)), (gtb_pr 17 (by decide +kernel) (by decide +kernel))⟩
theorem mbX10_putNoise : MB yX10_putNoise cX10_putNoise 4 none 3 := ⟨(gtb_t4 57 (by decide +kernel) (by decide +kernel)), (gtb_t1 3 (by decide +kernel) (by decide +kernel)), by decide +kernel⟩
theorem mvX10_putNoise : MV yX10_putNoise := ⟨(gtb_t4 56 (by decide +kernel) (by decide +kernel)), (gtb_pr 18 (by decide +kernel) (by decide +kernel))⟩
theorem mbX10_judgeNoise : MB yX10_judgeNoise cX10_judgeNoise 5 none 1 := ⟨(gtb_t4 62 (by decide +kernel) (by decide +kernel)), (gtb_t1 3 (by decide +kernel) (by decide +kernel)), by decide +kernel⟩
theorem mvX10_judgeNoise : MV yX10_judgeNoise := ⟨(gtb_t4 61 (by decide +kernel) (by decide +kernel)), (gtb_pr 19 (by decide +kernel) (by decide +kernel))⟩
theorem mbX10_ring : MB yX10_ring cX10_ring 3 none 1 := ⟨(gtb_t4 68 (by decide +kernel) (by decide +kernel)), (gtb_t1 3 (by decide +kernel) (by decide +kernel)), by decide +kernel⟩
theorem mvX10_ring : MV yX10_ring := ⟨(gtb_t4 67 (by decide +kernel) (by decide +kernel)), (gtb_pr 20 (by decide +kernel) (by decide +kernel))⟩
theorem mbX10_chooseDebts : MB yX10_chooseDebts cX10_chooseDebts 4 none 0 := ⟨(gtb_t4 76 (by decide +kernel) (by decide +kernel)), (gtb_t1 3 (by decide +kernel) (by decide +kernel)), by decide +kernel⟩
theorem mvX10_chooseDebts : MV yX10_chooseDebts := ⟨(gtb_t4 75 (by decide +kernel) (by decide +kernel)), (gtb_pr 21 (by decide +kernel) (by decide +kernel))⟩
theorem mbX10_keepQuiet : MB yX10_keepQuiet cX10_keepQuiet 3 none 2 := ⟨(gtb_t4 86 (by decide +kernel) (by decide +kernel)), (gtb_t1 3 (by decide +kernel) (by decide +kernel)), by decide +kernel⟩
theorem mvX10_keepQuiet : MV yX10_keepQuiet := ⟨(gtb_t4 85 (by decide +kernel) (by decide +kernel)), (gtb_pr 22 (by decide +kernel) (by decide +kernel))⟩
theorem mbX10_isWordHeardOf : MB yX10_isWordHeardOf cX10_isWordHeardOf 4 (some .boolean) 1 := ⟨(gtb_t4 90 (by decide +kernel) (by decide +kernel)), (gtb_t1 3 (by decide +kernel) (by decide +kernel)), by decide +kernel⟩
theorem mvX10_isWordHeardOf : MV yX10_isWordHeardOf := ⟨(gtb_t4 89 (by decide +kernel) (by decide +kernel)), (gtb_pr 23 (by decide +kernel) (by decide +kernel))⟩
theorem mbX10_isHeard : MB yX10_isHeard cX10_isHeard 3 (some .boolean) 1 := ⟨(gtb_t4 94 (by decide +kernel) (by decide +kernel)), (gtb_t1 3 (by decide +kernel) (by decide +kernel)), by decide +kernel⟩
theorem mvX10_isHeard : MV yX10_isHeard := ⟨(gtb_t4 93 (by decide +kernel) (by decide +kernel)), (gtb_pr 24 (by decide +kernel) (by decide +kernel))⟩
theorem mbX10_beginAgain : MB yX10_beginAgain cX10_beginAgain 4 none 3 := ⟨(gtb_t4 106 (by decide +kernel) (by decide +kernel)), (gtb_t1 3 (by decide +kernel) (by decide +kernel)), by decide +kernel⟩
theorem mvX10_beginAgain : MV yX10_beginAgain := ⟨(gtb_t4 105 (by decide +kernel) (by decide +kernel)), (gtb_pr 25 (by decide +kernel) (by decide +kernel))⟩
theorem mbX10_payQuarter : MB yX10_payQuarter cX10_payQuarter 3 none 2 := ⟨(gtb_t4 110 (by decide +kernel) (by decide +kernel)), (gtb_t1 3 (by decide +kernel) (by decide +kernel)), by decide +kernel⟩
theorem mvX10_payQuarter : MV yX10_payQuarter := ⟨(gtb_t4 109 (by decide +kernel) (by decide +kernel)), (gtb_pr 26 (by decide +kernel) (by decide +kernel))⟩
theorem mbX10_tillQuiet : MB yX10_tillQuiet cX10_tillQuiet 3 (some .int) 0 := ⟨(gtb_t5 102 (by decide +kernel) (by decide +kernel)), (gtb_t1 3 (by decide +kernel) (by decide +kernel)), by decide +kernel⟩
theorem mvX10_tillQuiet : MV yX10_tillQuiet := ⟨(gtb_t5 100 (by decide +kernel) (by decide +kernel)), (gtb_t5 101 (by decide +kernel) (by decide +kernel))⟩
theorem mbX10_byWhom : MB yX10_byWhom cX10_byWhom 8 (some .int) 4 := ⟨(gtb_t5 58 (by decide +kernel) (by decide +kernel)), (gtb_t1 3 (by decide +kernel) (by decide +kernel)), by decide +kernel⟩
theorem mvX10_byWhom : MV yX10_byWhom := ⟨(gtb_t5 56 (by decide +kernel) (by decide +kernel)), (gtb_t5 57 (by decide +kernel) (by decide +kernel))⟩
theorem mbX10_canMakeWord : MB yX10_canMakeWord cX10_canMakeWord 12 (some .boolean) 4 := ⟨(gtb_t5 62 (by decide +kernel) (by decide +kernel)), (gtb_t1 3 (by decide +kernel) (by decide +kernel)), by decide +kernel⟩
theorem mvX10_canMakeWord : MV yX10_canMakeWord := ⟨(gtb_t5 61 (by decide +kernel) (by decide +kernel)), (gtb_pr 30 (by decide +kernel) (by decide +kernel))⟩
theorem mbX11_init : MB yX11_init cX11_init 2 none 0 := ⟨(gtb_t1 26 (by decide +kernel) (by decide +kernel)), (gtb_t1 1 (by decide +kernel) (by decide +kernel)), by decide +kernel⟩
theorem miX11_init : MI yX11_init := ⟨rfl, (gtb_t1 25 (by decide +kernel) (by decide +kernel))⟩
theorem mbX11_state : MB yX11_state cX11_state 3 (some .int) 1 := ⟨(gtb_t2 177 (by decide +kernel) (by decide +kernel)), (gtb_t1 1 (by decide +kernel) (by decide +kernel)), by decide +kernel⟩
theorem mvX11_state : MV yX11_state := ⟨(gtb_t2 175 (by decide +kernel) (by decide +kernel)), (gtb_t2 176 (by decide +kernel) (by decide +kernel))⟩
theorem mbX11_one : MB yX11_one cX11_one 6 (some .int) 5 := ⟨(gtb_t2 181 (by decide +kernel) (by decide +kernel)), (gtb_t1 1 (by decide +kernel) (by decide +kernel)), by decide +kernel⟩
theorem mvX11_one : MV yX11_one := ⟨(gtb_t2 179 (by decide +kernel) (by decide +kernel)), (gtb_t2 180 (by decide +kernel) (by decide +kernel))⟩
theorem mbX11_tell : MB yX11_tell cX11_tell 5 (some .boolean) 3 := ⟨(gtb_t2 198 (by decide +kernel) (by decide +kernel)), (gtb_t1 1 (by decide +kernel) (by decide +kernel)), by decide +kernel⟩
theorem mvX11_tell : MV yX11_tell := ⟨(gtb_t2 196 (by decide +kernel) (by decide +kernel)), (gtb_t2 197 (by decide +kernel) (by decide +kernel))⟩
theorem mbX11_wall : MB yX11_wall cX11_wall 4 (some .boolean) 3 := ⟨(gtb_t2 219 (by decide +kernel) (by decide +kernel)), (gtb_t1 1 (by decide +kernel) (by decide +kernel)), by decide +kernel⟩
theorem mvX11_wall : MV yX11_wall := ⟨(gtb_t2 217 (by decide +kernel) (by decide +kernel)), (gtb_t2 218 (by decide +kernel) (by decide +kernel))⟩
theorem mbX11_set : MB yX11_set cX11_set 3 (some .boolean) 2 := ⟨(gtb_t2 230 (by decide +kernel) (by decide +kernel)), (gtb_t1 1 (by decide +kernel) (by decide +kernel)), by decide +kernel⟩
theorem mvX11_set : MV yX11_set := ⟨(gtb_t2 228 (by decide +kernel) (by decide +kernel)), (gtb_t2 229 (by decide +kernel) (by decide +kernel))⟩
theorem mbX11_debt : MB yX11_debt cX11_debt 4 (some .int) 3 := ⟨(gtb_t3 0 (by decide +kernel) (by decide +kernel)), (gtb_t1 1 (by decide +kernel) (by decide +kernel)), by decide +kernel⟩
theorem mvX11_debt : MV yX11_debt := ⟨(gtb_t2 238 (by decide +kernel) (by decide +kernel)), (gtb_t2 239 (by decide +kernel) (by decide +kernel))⟩
theorem mbX11_helpers : MB yX11_helpers cX11_helpers 3 (some .boolean) 2 := ⟨(gtb_t3 8 (by decide +kernel) (by decide +kernel)), (gtb_t1 1 (by decide +kernel) (by decide +kernel)), by decide +kernel⟩
theorem mvX11_helpers : MV yX11_helpers := ⟨(gtb_t3 6 (by decide +kernel) (by decide +kernel)), (gtb_t3 7 (by decide +kernel) (by decide +kernel))⟩
theorem mbX11_of : MB yX11_of cX11_of 3 (some .int) 2 := ⟨(gtb_t3 16 (by decide +kernel) (by decide +kernel)), (gtb_t1 1 (by decide +kernel) (by decide +kernel)), by decide +kernel⟩
theorem mvX11_of : MV yX11_of := ⟨(gtb_t3 14 (by decide +kernel) (by decide +kernel)), (gtb_t3 15 (by decide +kernel) (by decide +kernel))⟩
theorem mbX11_feed : MB yX11_feed cX11_feed 6 (some .int) 5 := ⟨(gtb_t3 28 (by decide +kernel) (by decide +kernel)), (gtb_t1 1 (by decide +kernel) (by decide +kernel)), by decide +kernel⟩
theorem mvX11_feed : MV yX11_feed := ⟨(gtb_t3 26 (by decide +kernel) (by decide +kernel)), (gtb_t3 27 (by decide +kernel) (by decide +kernel))⟩
theorem mbX11_end : MB yX11_end cX11_end 2 (some .boolean) 1 := ⟨(gtb_t3 36 (by decide +kernel) (by decide +kernel)), (gtb_t1 1 (by decide +kernel) (by decide +kernel)), by decide +kernel⟩
theorem mvX11_end : MV yX11_end := ⟨(gtb_t3 34 (by decide +kernel) (by decide +kernel)), (gtb_t3 35 (by decide +kernel) (by decide +kernel))⟩
theorem mbX11_text : MB yX11_text cX11_text 3 (some .int) 1 := ⟨(gtb_t3 40 (by decide +kernel) (by decide +kernel)), (gtb_t1 1 (by decide +kernel) (by decide +kernel)), by decide +kernel⟩
theorem mvX11_text : MV yX11_text := ⟨(gtb_t3 38 (by decide +kernel) (by decide +kernel)), (gtb_t3 39 (by decide +kernel) (by decide +kernel))⟩
theorem mbX11_fault : MB yX11_fault cX11_fault 2 (some .int) 1 := ⟨(gtb_t3 202 (by decide +kernel) (by decide +kernel)), (gtb_t1 1 (by decide +kernel) (by decide +kernel)), by decide +kernel⟩
theorem mvX11_fault : MV yX11_fault := ⟨(gtb_t3 200 (by decide +kernel) (by decide +kernel)), (gtb_t3 201 (by decide +kernel) (by decide +kernel))⟩
theorem mbX11_does : MB yX11_does cX11_does 2 (some .int) 1 := ⟨(gtb_t3 206 (by decide +kernel) (by decide +kernel)), (gtb_t1 1 (by decide +kernel) (by decide +kernel)), by decide +kernel⟩
theorem mvX11_does : MV yX11_does := ⟨(gtb_t3 204 (by decide +kernel) (by decide +kernel)), (gtb_t3 205 (by decide +kernel) (by decide +kernel))⟩
theorem mbX11_word : MB yX11_word cX11_word 7 (some .int) 6 := ⟨(gtb_t4 21 (by decide +kernel) (by decide +kernel)), (gtb_t1 1 (by decide +kernel) (by decide +kernel)), by decide +kernel⟩
theorem mvX11_word : MV yX11_word := ⟨(gtb_t4 19 (by decide +kernel) (by decide +kernel)), (gtb_t4 20 (by decide +kernel) (by decide +kernel))⟩
theorem mbX11_quarters : MB yX11_quarters cX11_quarters 4 (some .int) 1 := ⟨(gtb_t4 37 (by decide +kernel) (by decide +kernel)), (gtb_t1 1 (by decide +kernel) (by decide +kernel)), by decide +kernel⟩
theorem mvX11_quarters : MV yX11_quarters := ⟨(gtb_t4 35 (by decide +kernel) (by decide +kernel)), (gtb_t4 36 (by decide +kernel) (by decide +kernel))⟩
theorem mbX11_noise : MB yX11_noise cX11_noise 3 (some .int) 2 := ⟨(gtb_t4 118 (by decide +kernel) (by decide +kernel)), (gtb_t1 1 (by decide +kernel) (by decide +kernel)), by decide +kernel⟩
theorem mvX11_noise : MV yX11_noise := ⟨(gtb_t4 116 (by decide +kernel) (by decide +kernel)), (gtb_t4 117 (by decide +kernel) (by decide +kernel))⟩
theorem mbX11_lend : MB yX11_lend cX11_lend 4 (some .boolean) 3 := ⟨(gtb_t4 126 (by decide +kernel) (by decide +kernel)), (gtb_t1 1 (by decide +kernel) (by decide +kernel)), by decide +kernel⟩
theorem mvX11_lend : MV yX11_lend := ⟨(gtb_t4 124 (by decide +kernel) (by decide +kernel)), (gtb_t4 125 (by decide +kernel) (by decide +kernel))⟩
theorem mbX11_split : MB yX11_split cX11_split 3 (some .int) 2 := ⟨(gtb_t4 180 (by decide +kernel) (by decide +kernel)), (gtb_t1 1 (by decide +kernel) (by decide +kernel)), by decide +kernel⟩
theorem mvX11_split : MV yX11_split := ⟨(gtb_t4 178 (by decide +kernel) (by decide +kernel)), (gtb_t4 179 (by decide +kernel) (by decide +kernel))⟩
theorem mbX11_inherit : MB yX11_inherit cX11_inherit 3 (some .int) 2 := ⟨(gtb_t4 198 (by decide +kernel) (by decide +kernel)), (gtb_t1 1 (by decide +kernel) (by decide +kernel)), by decide +kernel⟩
theorem mvX11_inherit : MV yX11_inherit := ⟨(gtb_t4 196 (by decide +kernel) (by decide +kernel)), (gtb_t4 197 (by decide +kernel) (by decide +kernel))⟩
theorem mbX11_sell : MB yX11_sell cX11_sell 4 (some .boolean) 3 := ⟨(gtb_t4 220 (by decide +kernel) (by decide +kernel)), (gtb_t1 1 (by decide +kernel) (by decide +kernel)), by decide +kernel⟩
theorem mvX11_sell : MV yX11_sell := ⟨(gtb_t4 218 (by decide +kernel) (by decide +kernel)), (gtb_t4 219 (by decide +kernel) (by decide +kernel))⟩
theorem mbX11_undo : MB yX11_undo cX11_undo 1 (some .boolean) 0 := ⟨(gtb_t4 229 (by decide +kernel) (by decide +kernel)), (gtb_t1 1 (by decide +kernel) (by decide +kernel)), by decide +kernel⟩
theorem mvX11_undo : MV yX11_undo := ⟨(gtb_t4 227 (by decide +kernel) (by decide +kernel)), (gtb_t4 228 (by decide +kernel) (by decide +kernel))⟩
theorem mbX11_soonest : MB yX11_soonest cX11_soonest 3 (some .int) 1 := ⟨(gtb_t5 6 (by decide +kernel) (by decide +kernel)), (gtb_t1 1 (by decide +kernel) (by decide +kernel)), by decide +kernel⟩
theorem mvX11_soonest : MV yX11_soonest := ⟨(gtb_t5 4 (by decide +kernel) (by decide +kernel)), (gtb_t5 5 (by decide +kernel) (by decide +kernel))⟩
theorem mbX11_whom : MB yX11_whom cX11_whom 5 (some .int) 4 := ⟨(gtb_t5 53 (by decide +kernel) (by decide +kernel)), (gtb_t1 1 (by decide +kernel) (by decide +kernel)), by decide +kernel⟩
theorem mvX11_whom : MV yX11_whom := ⟨(gtb_t5 51 (by decide +kernel) (by decide +kernel)), (gtb_t5 52 (by decide +kernel) (by decide +kernel))⟩
theorem mbX11_quiet : MB yX11_quiet cX11_quiet 9 (some .int) 2 := ⟨(gtb_t5 66 (by decide +kernel) (by decide +kernel)), (gtb_t1 1 (by decide +kernel) (by decide +kernel)), by decide +kernel⟩
theorem mvX11_quiet : MV yX11_quiet := ⟨(gtb_t5 64 (by decide +kernel) (by decide +kernel)), (gtb_t5 65 (by decide +kernel) (by decide +kernel))⟩
theorem mbX11_thought : MB yX11_thought cX11_thought 6 (some .int) 3 := ⟨(gtb_t5 110 (by decide +kernel) (by decide +kernel)), (gtb_t1 1 (by decide +kernel) (by decide +kernel)), by decide +kernel⟩
theorem mvX11_thought : MV yX11_thought := ⟨(gtb_t5 108 (by decide +kernel) (by decide +kernel)), (gtb_t5 109 (by decide +kernel) (by decide +kernel))⟩
theorem mbX11_person : MB yX11_person cX11_person 3 (some .int) 2 := ⟨(gtb_t5 126 (by decide +kernel) (by decide +kernel)), (gtb_t1 1 (by decide +kernel) (by decide +kernel)), by decide +kernel⟩
theorem mvX11_person : MV yX11_person := ⟨(gtb_t5 124 (by decide +kernel) (by decide +kernel)), (gtb_t5 125 (by decide +kernel) (by decide +kernel))⟩
theorem mbX11_book : MB yX11_book cX11_book 3 (some .int) 2 := ⟨(gtb_t5 138 (by decide +kernel) (by decide +kernel)), (gtb_t1 1 (by decide +kernel) (by decide +kernel)), by decide +kernel⟩
theorem mvX11_book : MV yX11_book := ⟨(gtb_t5 136 (by decide +kernel) (by decide +kernel)), (gtb_t5 137 (by decide +kernel) (by decide +kernel))⟩
theorem mbX11_image : MB yX11_image cX11_image 2 (some .boolean) 1 := ⟨(gtb_t5 142 (by decide +kernel) (by decide +kernel)), (gtb_t1 1 (by decide +kernel) (by decide +kernel)), by decide +kernel⟩
theorem mvX11_image : MV yX11_image := ⟨(gtb_t5 140 (by decide +kernel) (by decide +kernel)), (gtb_t5 141 (by decide +kernel) (by decide +kernel))⟩
theorem mbX11_look : MB yX11_look cX11_look 2 (some .int) 1 := ⟨(gtb_t5 146 (by decide +kernel) (by decide +kernel)), (gtb_t1 1 (by decide +kernel) (by decide +kernel)), by decide +kernel⟩
theorem mvX11_look : MV yX11_look := ⟨(gtb_t5 144 (by decide +kernel) (by decide +kernel)), (gtb_t5 145 (by decide +kernel) (by decide +kernel))⟩
theorem mbX11_think : MB yX11_think cX11_think 4 none 2 := ⟨(gtb_t5 114 (by decide +kernel) (by decide +kernel)), (gtb_t1 1 (by decide +kernel) (by decide +kernel)), by decide +kernel⟩
theorem mvX11_think : MV yX11_think := ⟨(gtb_t5 113 (by decide +kernel) (by decide +kernel)), (gtb_pr 31 (by decide +kernel) (by decide +kernel))⟩
theorem mbX11_isWithin : MB yX11_isWithin cX11_isWithin 3 (some .boolean) 3 := ⟨(gtb_t2 184 (by decide +kernel) (by decide +kernel)), (gtb_t1 1 (by decide +kernel) (by decide +kernel)), by decide +kernel⟩
theorem msX11_isWithin : MS yX11_isWithin := (gtb_t2 183 (by decide +kernel) (by decide +kernel))
theorem mbX11_isPlace : MB yX11_isPlace cX11_isPlace 1 (some .boolean) 1 := ⟨(gtb_t2 222 (by decide +kernel) (by decide +kernel)), (gtb_t1 1 (by decide +kernel) (by decide +kernel)), by decide +kernel⟩
theorem msX11_isPlace : MS yX11_isPlace := (gtb_t2 221 (by decide +kernel) (by decide +kernel))
theorem mbX11_isHour : MB yX11_isHour cX11_isHour 1 (some .boolean) 1 := ⟨(gtb_t4 27 (by decide +kernel) (by decide +kernel)), (gtb_t1 1 (by decide +kernel) (by decide +kernel)), by decide +kernel⟩
theorem msX11_isHour : MS yX11_isHour := (gtb_t4 26 (by decide +kernel) (by decide +kernel))
theorem mbX11_isLaw : MB yX11_isLaw cX11_isLaw 1 (some .boolean) 1 := ⟨(gtb_t4 24 (by decide +kernel) (by decide +kernel)), (gtb_t1 1 (by decide +kernel) (by decide +kernel)), by decide +kernel⟩
theorem msX11_isLaw : MS yX11_isLaw := (gtb_t4 23 (by decide +kernel) (by decide +kernel))
theorem mbX11_isNightIn : MB yX11_isNightIn cX11_isNightIn 1 (some .boolean) 1 := ⟨(gtb_t3 227 (by decide +kernel) (by decide +kernel)), (gtb_t1 1 (by decide +kernel) (by decide +kernel)), by decide +kernel⟩
theorem msX11_isNightIn : MS yX11_isNightIn := (gtb_t3 226 (by decide +kernel) (by decide +kernel))
theorem mbX11_upwards : MB yX11_upwards cX11_upwards 2 (some .int) 2 := ⟨(gtb_t5 41 (by decide +kernel) (by decide +kernel)), (gtb_t1 1 (by decide +kernel) (by decide +kernel)), by decide +kernel⟩
theorem msX11_upwards : MS yX11_upwards := (gtb_t5 40 (by decide +kernel) (by decide +kernel))
theorem mbX12_init : MB yX12_init cX12_init 3 none 0 := ⟨(gtb_t5 156 (by decide +kernel) (by decide +kernel)), (gtb_t1 14 (by decide +kernel) (by decide +kernel)), by decide +kernel⟩
theorem miX12_init : MI yX12_init := ⟨rfl, (gtb_t5 155 (by decide +kernel) (by decide +kernel))⟩
theorem mbX12_isIn : MB yX12_isIn cX12_isIn 3 (some .boolean) 3 := ⟨(gtb_t6 8 (by decide +kernel) (by decide +kernel)), (gtb_t1 14 (by decide +kernel) (by decide +kernel)), by decide +kernel⟩
theorem msX12_isIn : MS yX12_isIn := (gtb_t6 7 (by decide +kernel) (by decide +kernel))
theorem mbX12_state : MB yX12_state cX12_state 3 (some .int) 1 := ⟨(gtb_t6 1 (by decide +kernel) (by decide +kernel)), (gtb_t1 14 (by decide +kernel) (by decide +kernel)), by decide +kernel⟩
theorem mvX12_state : MV yX12_state := ⟨(gtb_t5 239 (by decide +kernel) (by decide +kernel)), (gtb_t6 0 (by decide +kernel) (by decide +kernel))⟩
theorem mbX12_draw : MB yX12_draw cX12_draw 2 (some .int) 1 := ⟨(gtb_t7 1 (by decide +kernel) (by decide +kernel)), (gtb_t1 14 (by decide +kernel) (by decide +kernel)), by decide +kernel⟩
theorem mvX12_draw : MV yX12_draw := ⟨(gtb_t7 0 (by decide +kernel) (by decide +kernel)), (gtb_pr 67 (by decide +kernel) (by decide +kernel))⟩
theorem mbX12_hushes : MB yX12_hushes cX12_hushes 2 none 1 := ⟨(gtb_t5 161 (by decide +kernel) (by decide +kernel)), (gtb_t1 14 (by decide +kernel) (by decide +kernel)), by decide +kernel⟩
theorem mvX12_hushes : MV yX12_hushes := ⟨(gtb_t5 160 (by decide +kernel) (by decide +kernel)), (gtb_pr 32 (by decide +kernel) (by decide +kernel))⟩
theorem mbX12_isOne : MB yX12_isOne cX12_isOne 2 (some .boolean) 1 := ⟨(gtb_t6 23 (by decide +kernel) (by decide +kernel)), (gtb_t1 14 (by decide +kernel) (by decide +kernel)), by decide +kernel⟩
theorem mvX12_isOne : MV yX12_isOne := ⟨(gtb_t6 22 (by decide +kernel) (by decide +kernel)), (gtb_pr 34 (by decide +kernel) (by decide +kernel))⟩
theorem mbX12_isPlace : MB yX12_isPlace cX12_isPlace 1 (some .boolean) 1 := ⟨(gtb_t6 11 (by decide +kernel) (by decide +kernel)), (gtb_t1 14 (by decide +kernel) (by decide +kernel)), by decide +kernel⟩
theorem msX12_isPlace : MS yX12_isPlace := (gtb_t6 10 (by decide +kernel) (by decide +kernel))
theorem mbX12_own : MB yX12_own cX12_own 3 (some .int) 2 := ⟨(gtb_t6 27 (by decide +kernel) (by decide +kernel)), (gtb_t1 14 (by decide +kernel) (by decide +kernel)), by decide +kernel⟩
theorem mvX12_own : MV yX12_own := ⟨(gtb_t6 26 (by decide +kernel) (by decide +kernel)), (gtb_pr 35 (by decide +kernel) (by decide +kernel))⟩
theorem mbX12_gives : MB yX12_gives cX12_gives 4 none 3 := ⟨(gtb_t6 15 (by decide +kernel) (by decide +kernel)), (gtb_t1 14 (by decide +kernel) (by decide +kernel)), by decide +kernel⟩
theorem mvX12_gives : MV yX12_gives := ⟨(gtb_t6 14 (by decide +kernel) (by decide +kernel)), (gtb_pr 33 (by decide +kernel) (by decide +kernel))⟩
theorem mbX12_debtOf : MB yX12_debtOf cX12_debtOf 3 (some .int) 2 := ⟨(gtb_t6 60 (by decide +kernel) (by decide +kernel)), (gtb_t1 14 (by decide +kernel) (by decide +kernel)), by decide +kernel⟩
theorem mvX12_debtOf : MV yX12_debtOf := ⟨(gtb_t6 59 (by decide +kernel) (by decide +kernel)), (gtb_pr 38 (by decide +kernel) (by decide +kernel))⟩
theorem mbX12_lays0 : MB yX12_lays0 cX12_lays0 4 none 3 := ⟨(gtb_t6 44 (by decide +kernel) (by decide +kernel)), (gtb_t1 14 (by decide +kernel) (by decide +kernel)), by decide +kernel⟩
theorem mvX12_lays0 : MV yX12_lays0 := ⟨(gtb_t6 43 (by decide +kernel) (by decide +kernel)), (gtb_pr 36 (by decide +kernel) (by decide +kernel))⟩
theorem mbX12_one : MB yX12_one cX12_one 7 (some .int) 5 := ⟨(gtb_t6 5 (by decide +kernel) (by decide +kernel)), (gtb_t1 14 (by decide +kernel) (by decide +kernel)), by decide +kernel⟩
theorem mvX12_one : MV yX12_one := ⟨(gtb_t6 3 (by decide +kernel) (by decide +kernel)), (gtb_t6 4 (by decide +kernel) (by decide +kernel))⟩
theorem mbX12_tell : MB yX12_tell cX12_tell 5 (some .boolean) 3 := ⟨(gtb_t6 19 (by decide +kernel) (by decide +kernel)), (gtb_t1 14 (by decide +kernel) (by decide +kernel)), by decide +kernel⟩
theorem mvX12_tell : MV yX12_tell := ⟨(gtb_t6 17 (by decide +kernel) (by decide +kernel)), (gtb_t6 18 (by decide +kernel) (by decide +kernel))⟩
theorem mbX12_wall : MB yX12_wall cX12_wall 4 (some .boolean) 3 := ⟨(gtb_t6 32 (by decide +kernel) (by decide +kernel)), (gtb_t1 14 (by decide +kernel) (by decide +kernel)), by decide +kernel⟩
theorem mvX12_wall : MV yX12_wall := ⟨(gtb_t6 30 (by decide +kernel) (by decide +kernel)), (gtb_t6 31 (by decide +kernel) (by decide +kernel))⟩
theorem mbX12_set : MB yX12_set cX12_set 4 (some .boolean) 2 := ⟨(gtb_t6 36 (by decide +kernel) (by decide +kernel)), (gtb_t1 14 (by decide +kernel) (by decide +kernel)), by decide +kernel⟩
theorem mvX12_set : MV yX12_set := ⟨(gtb_t6 34 (by decide +kernel) (by decide +kernel)), (gtb_t6 35 (by decide +kernel) (by decide +kernel))⟩
theorem mbX12_isDebt : MB yX12_isDebt cX12_isDebt 2 (some .boolean) 1 := ⟨(gtb_t6 52 (by decide +kernel) (by decide +kernel)), (gtb_t1 14 (by decide +kernel) (by decide +kernel)), by decide +kernel⟩
theorem mvX12_isDebt : MV yX12_isDebt := ⟨(gtb_t6 51 (by decide +kernel) (by decide +kernel)), (gtb_pr 37 (by decide +kernel) (by decide +kernel))⟩
theorem mbX12_debt : MB yX12_debt cX12_debt 5 (some .int) 3 := ⟨(gtb_t6 40 (by decide +kernel) (by decide +kernel)), (gtb_t1 14 (by decide +kernel) (by decide +kernel)), by decide +kernel⟩
theorem mvX12_debt : MV yX12_debt := ⟨(gtb_t6 38 (by decide +kernel) (by decide +kernel)), (gtb_t6 39 (by decide +kernel) (by decide +kernel))⟩
theorem mbX12_helpers : MB yX12_helpers cX12_helpers 3 (some .boolean) 2 := ⟨(gtb_t6 48 (by decide +kernel) (by decide +kernel)), (gtb_t1 14 (by decide +kernel) (by decide +kernel)), by decide +kernel⟩
theorem mvX12_helpers : MV yX12_helpers := ⟨(gtb_t6 46 (by decide +kernel) (by decide +kernel)), (gtb_t6 47 (by decide +kernel) (by decide +kernel))⟩
theorem mbX12_workerOf : MB yX12_workerOf cX12_workerOf 2 (some .int) 1 := ⟨(gtb_t6 64 (by decide +kernel) (by decide +kernel)), (gtb_t1 14 (by decide +kernel) (by decide +kernel)), by decide +kernel⟩
theorem mvX12_workerOf : MV yX12_workerOf := ⟨(gtb_t6 63 (by decide +kernel) (by decide +kernel)), (gtb_pr 39 (by decide +kernel) (by decide +kernel))⟩
theorem mbX12_of : MB yX12_of cX12_of 3 (some .int) 2 := ⟨(gtb_t6 56 (by decide +kernel) (by decide +kernel)), (gtb_t1 14 (by decide +kernel) (by decide +kernel)), by decide +kernel⟩
theorem mvX12_of : MV yX12_of := ⟨(gtb_t6 54 (by decide +kernel) (by decide +kernel)), (gtb_t6 55 (by decide +kernel) (by decide +kernel))⟩
theorem mbX12_feed : MB yX12_feed cX12_feed 8 (some .int) 5 := ⟨(gtb_t6 68 (by decide +kernel) (by decide +kernel)), (gtb_t1 14 (by decide +kernel) (by decide +kernel)), by decide +kernel⟩
theorem mvX12_feed : MV yX12_feed := ⟨(gtb_t6 66 (by decide +kernel) (by decide +kernel)), (gtb_t6 67 (by decide +kernel) (by decide +kernel))⟩
theorem mbX12_end : MB yX12_end cX12_end 2 (some .boolean) 1 := ⟨(gtb_t6 72 (by decide +kernel) (by decide +kernel)), (gtb_t1 14 (by decide +kernel) (by decide +kernel)), by decide +kernel⟩
theorem mvX12_end : MV yX12_end := ⟨(gtb_t6 70 (by decide +kernel) (by decide +kernel)), (gtb_t6 71 (by decide +kernel) (by decide +kernel))⟩
theorem mbX12_see : MB yX12_see cX12_see 2 (some .int) 1 := ⟨(gtb_t6 84 (by decide +kernel) (by decide +kernel)), (gtb_t1 14 (by decide +kernel) (by decide +kernel)), by decide +kernel⟩
theorem mvX12_see : MV yX12_see := ⟨(gtb_t6 83 (by decide +kernel) (by decide +kernel)), (gtb_pr 41 (by decide +kernel) (by decide +kernel))⟩
theorem mbX12_isLetter : MB yX12_isLetter cX12_isLetter 1 (some .boolean) 1 := ⟨(gtb_t6 87 (by decide +kernel) (by decide +kernel)), (gtb_t1 14 (by decide +kernel) (by decide +kernel)), by decide +kernel⟩
theorem msX12_isLetter : MS yX12_isLetter := (gtb_t6 86 (by decide +kernel) (by decide +kernel))
theorem mbX12_isDigit : MB yX12_isDigit cX12_isDigit 1 (some .boolean) 1 := ⟨(gtb_t6 127 (by decide +kernel) (by decide +kernel)), (gtb_t1 14 (by decide +kernel) (by decide +kernel)), by decide +kernel⟩
theorem msX12_isDigit : MS yX12_isDigit := (gtb_t6 126 (by decide +kernel) (by decide +kernel))
theorem mbX12_is : MB yX12_is cX12_is 4 (some .boolean) 1 := ⟨(gtb_t6 96 (by decide +kernel) (by decide +kernel)), (gtb_t1 14 (by decide +kernel) (by decide +kernel)), by decide +kernel⟩
theorem mvX12_is : MV yX12_is := ⟨(gtb_t6 95 (by decide +kernel) (by decide +kernel)), (gtb_pr 43 (by decide +kernel) (by decide +kernel))⟩
theorem mbX12_lawWord : MB yX12_lawWord cX12_lawWord 1 (some .int) 0 := ⟨(gtb_t6 108 (by decide +kernel) (by decide +kernel)), (gtb_t1 14 (by decide +kernel) (by decide +kernel)), by decide +kernel⟩
theorem mvX12_lawWord : MV yX12_lawWord := ⟨(gtb_t6 107 (by decide +kernel) (by decide +kernel)), (gtb_pr 44 (by decide +kernel) (by decide +kernel))⟩
theorem mbX12_ruleWord : MB yX12_ruleWord cX12_ruleWord 1 (some .int) 0 := ⟨(gtb_t6 116 (by decide +kernel) (by decide +kernel)), (gtb_t1 14 (by decide +kernel) (by decide +kernel)), by decide +kernel⟩
theorem mvX12_ruleWord : MV yX12_ruleWord := ⟨(gtb_t6 115 (by decide +kernel) (by decide +kernel)), (gtb_pr 45 (by decide +kernel) (by decide +kernel))⟩
theorem mbX12_word0 : MB yX12_word0 cX12_word0 1 (some .int) 0 := ⟨(gtb_t6 91 (by decide +kernel) (by decide +kernel)), (gtb_t1 14 (by decide +kernel) (by decide +kernel)), by decide +kernel⟩
theorem mvX12_word0 : MV yX12_word0 := ⟨(gtb_t6 90 (by decide +kernel) (by decide +kernel)), (gtb_pr 42 (by decide +kernel) (by decide +kernel))⟩
theorem mbX12_next0 : MB yX12_next0 cX12_next0 3 none 0 := ⟨(gtb_t6 80 (by decide +kernel) (by decide +kernel)), (gtb_t1 14 (by decide +kernel) (by decide +kernel)), by decide +kernel⟩
theorem mvX12_next0 : MV yX12_next0 := ⟨(gtb_t6 79 (by decide +kernel) (by decide +kernel)), (gtb_pr 40 (by decide +kernel) (by decide +kernel))⟩
theorem mbX12_bad : MB yX12_bad cX12_bad 2 (some .boolean) 1 := ⟨(gtb_t6 135 (by decide +kernel) (by decide +kernel)), (gtb_t1 14 (by decide +kernel) (by decide +kernel)), by decide +kernel⟩
theorem mvX12_bad : MV yX12_bad := ⟨(gtb_t6 134 (by decide +kernel) (by decide +kernel)), (gtb_pr 47 (by decide +kernel) (by decide +kernel))⟩
theorem mbX12_need : MB yX12_need cX12_need 2 (some .boolean) 1 := ⟨(gtb_t6 143 (by decide +kernel) (by decide +kernel)), (gtb_t1 14 (by decide +kernel) (by decide +kernel)), by decide +kernel⟩
theorem mvX12_need : MV yX12_need := ⟨(gtb_t6 142 (by decide +kernel) (by decide +kernel)), (gtb_pr 49 (by decide +kernel) (by decide +kernel))⟩
theorem mbX12_number : MB yX12_number cX12_number 3 (some .boolean) 2 := ⟨(gtb_t6 139 (by decide +kernel) (by decide +kernel)), (gtb_t1 14 (by decide +kernel) (by decide +kernel)), by decide +kernel⟩
theorem mvX12_number : MV yX12_number := ⟨(gtb_t6 138 (by decide +kernel) (by decide +kernel)), (gtb_pr 48 (by decide +kernel) (by decide +kernel))⟩
theorem mbX12_lay : MB yX12_lay cX12_lay 3 none 2 := ⟨(gtb_t6 163 (by decide +kernel) (by decide +kernel)), (gtb_t1 14 (by decide +kernel) (by decide +kernel)), by decide +kernel⟩
theorem mvX12_lay : MV yX12_lay := ⟨(gtb_t6 162 (by decide +kernel) (by decide +kernel)), (gtb_pr 54 (by decide +kernel) (by decide +kernel))⟩
theorem mbX12_opens : MB yX12_opens cX12_opens 1 (some .boolean) 0 := ⟨(gtb_t6 159 (by decide +kernel) (by decide +kernel)), (gtb_t1 14 (by decide +kernel) (by decide +kernel)), by decide +kernel⟩
theorem mvX12_opens : MV yX12_opens := ⟨(gtb_t6 158 (by decide +kernel) (by decide +kernel)), (gtb_pr 53 (by decide +kernel) (by decide +kernel))⟩
theorem mbX12_sumUp : MB yX12_sumUp cX12_sumUp 2 (some .boolean) 0 := ⟨(gtb_t6 167 (by decide +kernel) (by decide +kernel)), (gtb_t1 14 (by decide +kernel) (by decide +kernel)), by decide +kernel⟩
theorem mvX12_sumUp : MV yX12_sumUp := ⟨(gtb_t6 166 (by decide +kernel) (by decide +kernel)), (gtb_pr 55 (by decide +kernel) (by decide +kernel))⟩
theorem mbX12_product : MB yX12_product cX12_product 3 (some .boolean) 0 := ⟨(gtb_t6 171 (by decide +kernel) (by decide +kernel)), (gtb_t1 14 (by decide +kernel) (by decide +kernel)), by decide +kernel⟩
theorem mvX12_product : MV yX12_product := ⟨(gtb_t6 170 (by decide +kernel) (by decide +kernel)), (gtb_pr 56 (by decide +kernel) (by decide +kernel))⟩
theorem mbX12_unit : MB yX12_unit cX12_unit 2 (some .boolean) 0 := ⟨(gtb_t6 175 (by decide +kernel) (by decide +kernel)), (gtb_t1 14 (by decide +kernel) (by decide +kernel)), by decide +kernel⟩
theorem mvX12_unit : MV yX12_unit := ⟨(gtb_t6 174 (by decide +kernel) (by decide +kernel)), (gtb_pr 57 (by decide +kernel) (by decide +kernel))⟩
theorem mbX12_any : MB yX12_any cX12_any 1 (some .boolean) 0 := ⟨(gtb_t6 147 (by decide +kernel) (by decide +kernel)), (gtb_t1 14 (by decide +kernel) (by decide +kernel)), by decide +kernel⟩
theorem mvX12_any : MV yX12_any := ⟨(gtb_t6 146 (by decide +kernel) (by decide +kernel)), (gtb_pr 50 (by decide +kernel) (by decide +kernel))⟩
theorem mbX12_every : MB yX12_every cX12_every 1 (some .boolean) 0 := ⟨(gtb_t6 151 (by decide +kernel) (by decide +kernel)), (gtb_t1 14 (by decide +kernel) (by decide +kernel)), by decide +kernel⟩
theorem mvX12_every : MV yX12_every := ⟨(gtb_t6 150 (by decide +kernel) (by decide +kernel)), (gtb_pr 51 (by decide +kernel) (by decide +kernel))⟩
theorem mbX12_one0 : MB yX12_one0 cX12_one0 2 (some .boolean) 0 := ⟨(gtb_t6 155 (by decide +kernel) (by decide +kernel)), (gtb_t1 14 (by decide +kernel) (by decide +kernel)), by decide +kernel⟩
theorem mvX12_one0 : MV yX12_one0 := ⟨(gtb_t6 154 (by decide +kernel) (by decide +kernel)), (gtb_pr 52 (by decide +kernel) (by decide +kernel))⟩
theorem mbX12_aLine : MB yX12_aLine cX12_aLine 3 (some .boolean) 0 := ⟨(gtb_t6 131 (by decide +kernel) (by decide +kernel)), (gtb_t1 14 (by decide +kernel) (by decide +kernel)), by decide +kernel⟩
theorem mvX12_aLine : MV yX12_aLine := ⟨(gtb_t6 130 (by decide +kernel) (by decide +kernel)), (gtb_pr 46 (by decide +kernel) (by decide +kernel))⟩
theorem mbX12_text : MB yX12_text cX12_text 4 (some .int) 1 := ⟨(gtb_t6 76 (by decide +kernel) (by decide +kernel)), (gtb_t1 14 (by decide +kernel) (by decide +kernel)), by decide +kernel⟩
theorem mvX12_text : MV yX12_text := ⟨(gtb_t6 74 (by decide +kernel) (by decide +kernel)), (gtb_t6 75 (by decide +kernel) (by decide +kernel))⟩
theorem mbX12_fault : MB yX12_fault cX12_fault 2 (some .int) 1 := ⟨(gtb_t6 179 (by decide +kernel) (by decide +kernel)), (gtb_t1 14 (by decide +kernel) (by decide +kernel)), by decide +kernel⟩
theorem mvX12_fault : MV yX12_fault := ⟨(gtb_t6 177 (by decide +kernel) (by decide +kernel)), (gtb_t6 178 (by decide +kernel) (by decide +kernel))⟩
theorem mbX12_both : MB yX12_both cX12_both 3 (some .int) 3 := ⟨(gtb_t6 201 (by decide +kernel) (by decide +kernel)), (gtb_t1 14 (by decide +kernel) (by decide +kernel)), by decide +kernel⟩
theorem msX12_both : MS yX12_both := (gtb_t6 200 (by decide +kernel) (by decide +kernel))
theorem mbX12_comesTo : MB yX12_comesTo cX12_comesTo 8 (some .int) 3 := ⟨(gtb_t6 198 (by decide +kernel) (by decide +kernel)), (gtb_t1 14 (by decide +kernel) (by decide +kernel)), by decide +kernel⟩
theorem mvX12_comesTo : MV yX12_comesTo := ⟨(gtb_t6 197 (by decide +kernel) (by decide +kernel)), (gtb_pr 60 (by decide +kernel) (by decide +kernel))⟩
theorem mbX12_firstLine : MB yX12_firstLine cX12_firstLine 4 (some .int) 1 := ⟨(gtb_t6 194 (by decide +kernel) (by decide +kernel)), (gtb_t1 14 (by decide +kernel) (by decide +kernel)), by decide +kernel⟩
theorem mvX12_firstLine : MV yX12_firstLine := ⟨(gtb_t6 193 (by decide +kernel) (by decide +kernel)), (gtb_pr 59 (by decide +kernel) (by decide +kernel))⟩
theorem mbX12_isNight : MB yX12_isNight cX12_isNight 1 (some .boolean) 1 := ⟨(gtb_t6 190 (by decide +kernel) (by decide +kernel)), (gtb_t1 14 (by decide +kernel) (by decide +kernel)), by decide +kernel⟩
theorem msX12_isNight : MS yX12_isNight := (gtb_t6 189 (by decide +kernel) (by decide +kernel))
theorem mbX12_isFeast : MB yX12_isFeast cX12_isFeast 2 (some .boolean) 1 := ⟨(gtb_t6 217 (by decide +kernel) (by decide +kernel)), (gtb_t1 14 (by decide +kernel) (by decide +kernel)), by decide +kernel⟩
theorem mvX12_isFeast : MV yX12_isFeast := ⟨(gtb_t6 216 (by decide +kernel) (by decide +kernel)), (gtb_pr 63 (by decide +kernel) (by decide +kernel))⟩
theorem mbX12_isWord : MB yX12_isWord cX12_isWord 7 (some .boolean) 6 := ⟨(gtb_t6 187 (by decide +kernel) (by decide +kernel)), (gtb_t1 14 (by decide +kernel) (by decide +kernel)), by decide +kernel⟩
theorem mvX12_isWord : MV yX12_isWord := ⟨(gtb_t6 186 (by decide +kernel) (by decide +kernel)), (gtb_pr 58 (by decide +kernel) (by decide +kernel))⟩
theorem mbX12_word : MB yX12_word cX12_word 7 (some .int) 6 := ⟨(gtb_t6 183 (by decide +kernel) (by decide +kernel)), (gtb_t1 14 (by decide +kernel) (by decide +kernel)), by decide +kernel⟩
theorem mvX12_word : MV yX12_word := ⟨(gtb_t6 181 (by decide +kernel) (by decide +kernel)), (gtb_t6 182 (by decide +kernel) (by decide +kernel))⟩
theorem mbX12_hourNow : MB yX12_hourNow cX12_hourNow 1 (some .int) 0 := ⟨(gtb_t6 213 (by decide +kernel) (by decide +kernel)), (gtb_t1 14 (by decide +kernel) (by decide +kernel)), by decide +kernel⟩
theorem mvX12_hourNow : MV yX12_hourNow := ⟨(gtb_t6 212 (by decide +kernel) (by decide +kernel)), (gtb_pr 62 (by decide +kernel) (by decide +kernel))⟩
theorem mbX12_left : MB yX12_left cX12_left 5 (some .int) 2 := ⟨(gtb_t6 221 (by decide +kernel) (by decide +kernel)), (gtb_t1 14 (by decide +kernel) (by decide +kernel)), by decide +kernel⟩
theorem mvX12_left : MV yX12_left := ⟨(gtb_t6 220 (by decide +kernel) (by decide +kernel)), (gtb_pr 64 (by decide +kernel) (by decide +kernel))⟩
theorem mbX12_ruled : MB yX12_ruled cX12_ruled 4 (some .int) 1 := ⟨(gtb_t6 209 (by decide +kernel) (by decide +kernel)), (gtb_t1 14 (by decide +kernel) (by decide +kernel)), by decide +kernel⟩
theorem mvX12_ruled : MV yX12_ruled := ⟨(gtb_t6 208 (by decide +kernel) (by decide +kernel)), (gtb_pr 61 (by decide +kernel) (by decide +kernel))⟩
theorem mbX12_does : MB yX12_does cX12_does 3 (some .int) 1 := ⟨(gtb_t6 205 (by decide +kernel) (by decide +kernel)), (gtb_t1 14 (by decide +kernel) (by decide +kernel)), by decide +kernel⟩
theorem mvX12_does : MV yX12_does := ⟨(gtb_t6 203 (by decide +kernel) (by decide +kernel)), (gtb_t6 204 (by decide +kernel) (by decide +kernel))⟩
theorem mbX12_sounds : MB yX12_sounds cX12_sounds 4 none 3 := ⟨(gtb_t7 7 (by decide +kernel) (by decide +kernel)), (gtb_t1 14 (by decide +kernel) (by decide +kernel)), by decide +kernel⟩
theorem mvX12_sounds : MV yX12_sounds := ⟨(gtb_t7 6 (by decide +kernel) (by decide +kernel)), (gtb_pr 68 (by decide +kernel) (by decide +kernel))⟩
theorem mbX12_makesNoise : MB yX12_makesNoise cX12_makesNoise 4 none 1 := ⟨(gtb_t6 237 (by decide +kernel) (by decide +kernel)), (gtb_t1 14 (by decide +kernel) (by decide +kernel)), by decide +kernel⟩
theorem mvX12_makesNoise : MV yX12_makesNoise := ⟨(gtb_t6 236 (by decide +kernel) (by decide +kernel)), (gtb_pr 66 (by decide +kernel) (by decide +kernel))⟩
theorem mbX12_noise : MB yX12_noise cX12_noise 3 (some .int) 2 := ⟨(gtb_t6 225 (by decide +kernel) (by decide +kernel)), (gtb_t1 14 (by decide +kernel) (by decide +kernel)), by decide +kernel⟩
theorem mvX12_noise : MV yX12_noise := ⟨(gtb_t6 223 (by decide +kernel) (by decide +kernel)), (gtb_t6 224 (by decide +kernel) (by decide +kernel))⟩
theorem mbX12_writes : MB yX12_writes cX12_writes 5 none 3 := ⟨(gtb_t7 11 (by decide +kernel) (by decide +kernel)), (gtb_t1 14 (by decide +kernel) (by decide +kernel)), by decide +kernel⟩
theorem mvX12_writes : MV yX12_writes := ⟨(gtb_t7 10 (by decide +kernel) (by decide +kernel)), (gtb_pr 69 (by decide +kernel) (by decide +kernel))⟩
theorem mbX12_isHeard : MB yX12_isHeard cX12_isHeard 2 (some .boolean) 1 := ⟨(gtb_t7 27 (by decide +kernel) (by decide +kernel)), (gtb_t1 14 (by decide +kernel) (by decide +kernel)), by decide +kernel⟩
theorem mvX12_isHeard : MV yX12_isHeard := ⟨(gtb_t7 26 (by decide +kernel) (by decide +kernel)), (gtb_pr 73 (by decide +kernel) (by decide +kernel))⟩
theorem mbX12_isBetrayed : MB yX12_isBetrayed cX12_isBetrayed 3 (some .boolean) 1 := ⟨(gtb_t7 23 (by decide +kernel) (by decide +kernel)), (gtb_t1 14 (by decide +kernel) (by decide +kernel)), by decide +kernel⟩
theorem mvX12_isBetrayed : MV yX12_isBetrayed := ⟨(gtb_t7 22 (by decide +kernel) (by decide +kernel)), (gtb_pr 72 (by decide +kernel) (by decide +kernel))⟩
theorem mbX12_keptFor : MB yX12_keptFor cX12_keptFor 4 (some .int) 1 := ⟨(gtb_t7 15 (by decide +kernel) (by decide +kernel)), (gtb_t1 14 (by decide +kernel) (by decide +kernel)), by decide +kernel⟩
theorem mvX12_keptFor : MV yX12_keptFor := ⟨(gtb_t7 14 (by decide +kernel) (by decide +kernel)), (gtb_pr 70 (by decide +kernel) (by decide +kernel))⟩
theorem mbX12_keeps : MB yX12_keeps cX12_keeps 4 none 2 := ⟨(gtb_t7 19 (by decide +kernel) (by decide +kernel)), (gtb_t1 14 (by decide +kernel) (by decide +kernel)), by decide +kernel⟩
theorem mvX12_keeps : MV yX12_keeps := ⟨(gtb_t7 18 (by decide +kernel) (by decide +kernel)), (gtb_pr 71 (by decide +kernel) (by decide +kernel))⟩
theorem mbX12_aQuarter : MB yX12_aQuarter cX12_aQuarter 3 none 0 := ⟨(gtb_t6 233 (by decide +kernel) (by decide +kernel)), (gtb_t1 14 (by decide +kernel) (by decide +kernel)), by decide +kernel⟩
theorem mvX12_aQuarter : MV yX12_aQuarter := ⟨(gtb_t6 232 (by decide +kernel) (by decide +kernel)), (gtb_pr 65 (by decide +kernel) (by decide +kernel))⟩
theorem mbX12_quarters : MB yX12_quarters cX12_quarters 4 (some .int) 1 := ⟨(gtb_t6 229 (by decide +kernel) (by decide +kernel)), (gtb_t1 14 (by decide +kernel) (by decide +kernel)), by decide +kernel⟩
theorem mvX12_quarters : MV yX12_quarters := ⟨(gtb_t6 227 (by decide +kernel) (by decide +kernel)), (gtb_t6 228 (by decide +kernel) (by decide +kernel))⟩
theorem mbX12_begins : MB yX12_begins cX12_begins 6 none 3 := ⟨(gtb_t7 39 (by decide +kernel) (by decide +kernel)), (gtb_t1 14 (by decide +kernel) (by decide +kernel)), by decide +kernel⟩
theorem mvX12_begins : MV yX12_begins := ⟨(gtb_t7 38 (by decide +kernel) (by decide +kernel)), (gtb_pr 75 (by decide +kernel) (by decide +kernel))⟩
theorem mbX12_pays : MB yX12_pays cX12_pays 4 none 3 := ⟨(gtb_t7 43 (by decide +kernel) (by decide +kernel)), (gtb_t1 14 (by decide +kernel) (by decide +kernel)), by decide +kernel⟩
theorem mvX12_pays : MV yX12_pays := ⟨(gtb_t7 42 (by decide +kernel) (by decide +kernel)), (gtb_pr 76 (by decide +kernel) (by decide +kernel))⟩
theorem mbX12_isOf : MB yX12_isOf cX12_isOf 2 none 1 := ⟨(gtb_t7 47 (by decide +kernel) (by decide +kernel)), (gtb_t1 14 (by decide +kernel) (by decide +kernel)), by decide +kernel⟩
theorem mvX12_isOf : MV yX12_isOf := ⟨(gtb_t7 46 (by decide +kernel) (by decide +kernel)), (gtb_pr 77 (by decide +kernel) (by decide +kernel))⟩
theorem mbX12_ends : MB yX12_ends cX12_ends 2 none 0 := ⟨(gtb_t7 51 (by decide +kernel) (by decide +kernel)), (gtb_t1 14 (by decide +kernel) (by decide +kernel)), by decide +kernel⟩
theorem mvX12_ends : MV yX12_ends := ⟨(gtb_t7 50 (by decide +kernel) (by decide +kernel)), (gtb_pr 78 (by decide +kernel) (by decide +kernel))⟩
theorem mbX12_isLeft : MB yX12_isLeft cX12_isLeft 2 (some .boolean) 1 := ⟨(gtb_t7 35 (by decide +kernel) (by decide +kernel)), (gtb_t1 14 (by decide +kernel) (by decide +kernel)), by decide +kernel⟩
theorem mvX12_isLeft : MV yX12_isLeft := ⟨(gtb_t7 34 (by decide +kernel) (by decide +kernel)), (gtb_pr 74 (by decide +kernel) (by decide +kernel))⟩
theorem mbX12_lend : MB yX12_lend cX12_lend 4 (some .boolean) 3 := ⟨(gtb_t7 31 (by decide +kernel) (by decide +kernel)), (gtb_t1 14 (by decide +kernel) (by decide +kernel)), by decide +kernel⟩
theorem mvX12_lend : MV yX12_lend := ⟨(gtb_t7 29 (by decide +kernel) (by decide +kernel)), (gtb_t7 30 (by decide +kernel) (by decide +kernel))⟩
theorem mbX12_split : MB yX12_split cX12_split 5 (some .int) 2 := ⟨(gtb_t7 55 (by decide +kernel) (by decide +kernel)), (gtb_t1 14 (by decide +kernel) (by decide +kernel)), by decide +kernel⟩
theorem mvX12_split : MV yX12_split := ⟨(gtb_t7 53 (by decide +kernel) (by decide +kernel)), (gtb_t7 54 (by decide +kernel) (by decide +kernel))⟩
theorem mbX12_inherit : MB yX12_inherit cX12_inherit 5 (some .int) 2 := ⟨(gtb_t7 59 (by decide +kernel) (by decide +kernel)), (gtb_t1 14 (by decide +kernel) (by decide +kernel)), by decide +kernel⟩
theorem mvX12_inherit : MV yX12_inherit := ⟨(gtb_t7 57 (by decide +kernel) (by decide +kernel)), (gtb_t7 58 (by decide +kernel) (by decide +kernel))⟩
theorem mbX12_sell : MB yX12_sell cX12_sell 4 (some .boolean) 3 := ⟨(gtb_t7 63 (by decide +kernel) (by decide +kernel)), (gtb_t1 14 (by decide +kernel) (by decide +kernel)), by decide +kernel⟩
theorem mvX12_sell : MV yX12_sell := ⟨(gtb_t7 61 (by decide +kernel) (by decide +kernel)), (gtb_t7 62 (by decide +kernel) (by decide +kernel))⟩
theorem mbX12_isIt : MB yX12_isIt cX12_isIt 3 (some .boolean) 2 := ⟨(gtb_t7 71 (by decide +kernel) (by decide +kernel)), (gtb_t1 14 (by decide +kernel) (by decide +kernel)), by decide +kernel⟩
theorem mvX12_isIt : MV yX12_isIt := ⟨(gtb_t7 70 (by decide +kernel) (by decide +kernel)), (gtb_pr 79 (by decide +kernel) (by decide +kernel))⟩
theorem mbX12_undo : MB yX12_undo cX12_undo 6 (some .boolean) 0 := ⟨(gtb_t7 67 (by decide +kernel) (by decide +kernel)), (gtb_t1 14 (by decide +kernel) (by decide +kernel)), by decide +kernel⟩
theorem mvX12_undo : MV yX12_undo := ⟨(gtb_t7 65 (by decide +kernel) (by decide +kernel)), (gtb_t7 66 (by decide +kernel) (by decide +kernel))⟩
theorem mbX12_mays : MB yX12_mays cX12_mays 5 (some .int) 0 := ⟨(gtb_t7 87 (by decide +kernel) (by decide +kernel)), (gtb_t1 14 (by decide +kernel) (by decide +kernel)), by decide +kernel⟩
theorem mvX12_mays : MV yX12_mays := ⟨(gtb_t7 86 (by decide +kernel) (by decide +kernel)), (gtb_pr 82 (by decide +kernel) (by decide +kernel))⟩
theorem mbX12_count : MB yX12_count cX12_count 3 (some .int) 1 := ⟨(gtb_t7 94 (by decide +kernel) (by decide +kernel)), (gtb_t1 14 (by decide +kernel) (by decide +kernel)), by decide +kernel⟩
theorem msX12_count : MS yX12_count := (gtb_t7 93 (by decide +kernel) (by decide +kernel))
theorem mbX12_upwards : MB yX12_upwards cX12_upwards 2 (some .int) 2 := ⟨(gtb_t7 97 (by decide +kernel) (by decide +kernel)), (gtb_t1 14 (by decide +kernel) (by decide +kernel)), by decide +kernel⟩
theorem msX12_upwards : MS yX12_upwards := (gtb_t7 96 (by decide +kernel) (by decide +kernel))
theorem mbX12_greatest : MB yX12_greatest cX12_greatest 3 (some .int) 0 := ⟨(gtb_t7 83 (by decide +kernel) (by decide +kernel)), (gtb_t1 14 (by decide +kernel) (by decide +kernel)), by decide +kernel⟩
theorem mvX12_greatest : MV yX12_greatest := ⟨(gtb_t7 82 (by decide +kernel) (by decide +kernel)), (gtb_pr 81 (by decide +kernel) (by decide +kernel))⟩
theorem mbX12_within : MB yX12_within cX12_within 4 (some .int) 1 := ⟨(gtb_t7 91 (by decide +kernel) (by decide +kernel)), (gtb_t1 14 (by decide +kernel) (by decide +kernel)), by decide +kernel⟩
theorem mvX12_within : MV yX12_within := ⟨(gtb_t7 90 (by decide +kernel) (by decide +kernel)), (gtb_pr 83 (by decide +kernel) (by decide +kernel))⟩
theorem mbX12_alone : MB yX12_alone cX12_alone 3 (some .int) 0 := ⟨(gtb_t7 79 (by decide +kernel) (by decide +kernel)), (gtb_t1 14 (by decide +kernel) (by decide +kernel)), by decide +kernel⟩
theorem mvX12_alone : MV yX12_alone := ⟨(gtb_t7 78 (by decide +kernel) (by decide +kernel)), (gtb_pr 80 (by decide +kernel) (by decide +kernel))⟩
theorem mbX12_soonest : MB yX12_soonest cX12_soonest 6 (some .int) 1 := ⟨(gtb_t7 75 (by decide +kernel) (by decide +kernel)), (gtb_t1 14 (by decide +kernel) (by decide +kernel)), by decide +kernel⟩
theorem mvX12_soonest : MV yX12_soonest := ⟨(gtb_t7 73 (by decide +kernel) (by decide +kernel)), (gtb_t7 74 (by decide +kernel) (by decide +kernel))⟩
theorem mbX12_canBe : MB yX12_canBe cX12_canBe 8 (some .boolean) 7 := ⟨(gtb_t7 109 (by decide +kernel) (by decide +kernel)), (gtb_t1 14 (by decide +kernel) (by decide +kernel)), by decide +kernel⟩
theorem mvX12_canBe : MV yX12_canBe := ⟨(gtb_t7 108 (by decide +kernel) (by decide +kernel)), (gtb_pr 85 (by decide +kernel) (by decide +kernel))⟩
theorem mbX12_canSay : MB yX12_canSay cX12_canSay 9 (some .boolean) 5 := ⟨(gtb_t7 105 (by decide +kernel) (by decide +kernel)), (gtb_t1 14 (by decide +kernel) (by decide +kernel)), by decide +kernel⟩
theorem mvX12_canSay : MV yX12_canSay := ⟨(gtb_t7 104 (by decide +kernel) (by decide +kernel)), (gtb_pr 84 (by decide +kernel) (by decide +kernel))⟩
theorem mbX12_whom : MB yX12_whom cX12_whom 7 (some .int) 4 := ⟨(gtb_t7 101 (by decide +kernel) (by decide +kernel)), (gtb_t1 14 (by decide +kernel) (by decide +kernel)), by decide +kernel⟩
theorem mvX12_whom : MV yX12_whom := ⟨(gtb_t7 99 (by decide +kernel) (by decide +kernel)), (gtb_t7 100 (by decide +kernel) (by decide +kernel))⟩
theorem mbX12_setsOut : MB yX12_setsOut cX12_setsOut 2 none 0 := ⟨(gtb_t7 117 (by decide +kernel) (by decide +kernel)), (gtb_t1 14 (by decide +kernel) (by decide +kernel)), by decide +kernel⟩
theorem mvX12_setsOut : MV yX12_setsOut := ⟨(gtb_t7 116 (by decide +kernel) (by decide +kernel)), (gtb_pr 86 (by decide +kernel) (by decide +kernel))⟩
theorem mbX12_comesBack : MB yX12_comesBack cX12_comesBack 2 none 0 := ⟨(gtb_t7 121 (by decide +kernel) (by decide +kernel)), (gtb_t1 14 (by decide +kernel) (by decide +kernel)), by decide +kernel⟩
theorem mvX12_comesBack : MV yX12_comesBack := ⟨(gtb_t7 120 (by decide +kernel) (by decide +kernel)), (gtb_pr 87 (by decide +kernel) (by decide +kernel))⟩
theorem mbX12_quiet : MB yX12_quiet cX12_quiet 9 (some .int) 2 := ⟨(gtb_t7 113 (by decide +kernel) (by decide +kernel)), (gtb_t1 14 (by decide +kernel) (by decide +kernel)), by decide +kernel⟩
theorem mvX12_quiet : MV yX12_quiet := ⟨(gtb_t7 111 (by decide +kernel) (by decide +kernel)), (gtb_t7 112 (by decide +kernel) (by decide +kernel))⟩
theorem mbX12_leads : MB yX12_leads cX12_leads 4 none 2 := ⟨(gtb_t7 129 (by decide +kernel) (by decide +kernel)), (gtb_t1 14 (by decide +kernel) (by decide +kernel)), by decide +kernel⟩
theorem mvX12_leads : MV yX12_leads := ⟨(gtb_t7 128 (by decide +kernel) (by decide +kernel)), (gtb_pr 88 (by decide +kernel) (by decide +kernel))⟩
theorem mbX12_thought : MB yX12_thought cX12_thought 6 (some .int) 3 := ⟨(gtb_t7 125 (by decide +kernel) (by decide +kernel)), (gtb_t1 14 (by decide +kernel) (by decide +kernel)), by decide +kernel⟩
theorem mvX12_thought : MV yX12_thought := ⟨(gtb_t7 123 (by decide +kernel) (by decide +kernel)), (gtb_t7 124 (by decide +kernel) (by decide +kernel))⟩
theorem mbX12_person : MB yX12_person cX12_person 3 (some .int) 2 := ⟨(gtb_t7 133 (by decide +kernel) (by decide +kernel)), (gtb_t1 14 (by decide +kernel) (by decide +kernel)), by decide +kernel⟩
theorem mvX12_person : MV yX12_person := ⟨(gtb_t7 131 (by decide +kernel) (by decide +kernel)), (gtb_t7 132 (by decide +kernel) (by decide +kernel))⟩
theorem mbX12_book : MB yX12_book cX12_book 3 (some .int) 2 := ⟨(gtb_t7 137 (by decide +kernel) (by decide +kernel)), (gtb_t1 14 (by decide +kernel) (by decide +kernel)), by decide +kernel⟩
theorem mvX12_book : MV yX12_book := ⟨(gtb_t7 135 (by decide +kernel) (by decide +kernel)), (gtb_t7 136 (by decide +kernel) (by decide +kernel))⟩
theorem mbX12_image : MB yX12_image cX12_image 3 (some .boolean) 1 := ⟨(gtb_t7 141 (by decide +kernel) (by decide +kernel)), (gtb_t1 14 (by decide +kernel) (by decide +kernel)), by decide +kernel⟩
theorem mvX12_image : MV yX12_image := ⟨(gtb_t7 139 (by decide +kernel) (by decide +kernel)), (gtb_t7 140 (by decide +kernel) (by decide +kernel))⟩
theorem mbX12_look : MB yX12_look cX12_look 4 (some .int) 1 := ⟨(gtb_t7 145 (by decide +kernel) (by decide +kernel)), (gtb_t1 14 (by decide +kernel) (by decide +kernel)), by decide +kernel⟩
theorem mvX12_look : MV yX12_look := ⟨(gtb_t7 143 (by decide +kernel) (by decide +kernel)), (gtb_t7 144 (by decide +kernel) (by decide +kernel))⟩
theorem mbJ6_bitCount_0f7a4 : MB yJ6_bitCount_0f7a4 cJ6_bitCount_0f7a4 1 (some .int) 1 := ⟨(gtb_t5 35 (by decide +kernel) (by decide +kernel)), (gtb_t1 21 (by decide +kernel) (by decide +kernel)), by decide +kernel⟩
theorem msJ6_bitCount_0f7a4 : MS yJ6_bitCount_0f7a4 := (gtb_t5 34 (by decide +kernel) (by decide +kernel))
theorem mbJ9_max_7cf53 : MB yJ9_max_7cf53 cJ9_max_7cf53 2 (some .int) 2 := ⟨(gtb_t2 25 (by decide +kernel) (by decide +kernel)), (gtb_t1 11 (by decide +kernel) (by decide +kernel)), by decide +kernel⟩
theorem msJ9_max_7cf53 : MS yJ9_max_7cf53 := (gtb_t2 24 (by decide +kernel) (by decide +kernel))
theorem mbJ9_min_7cf53 : MB yJ9_min_7cf53 cJ9_min_7cf53 2 (some .int) 2 := ⟨(gtb_t2 22 (by decide +kernel) (by decide +kernel)), (gtb_t1 11 (by decide +kernel) (by decide +kernel)), by decide +kernel⟩
theorem msJ9_min_7cf53 : MS yJ9_min_7cf53 := (gtb_t2 21 (by decide +kernel) (by decide +kernel))
theorem mbJ0_length_8abf5 : MB yJ0_length_8abf5 cJ0_length_8abf5 1 (some .int) 0 := ⟨(gtb_t3 76 (by decide +kernel) (by decide +kernel)), (gtb_t1 15 (by decide +kernel) (by decide +kernel)), by decide +kernel⟩
theorem mvJ0_length_8abf5 : MV yJ0_length_8abf5 := ⟨(gtb_t3 74 (by decide +kernel) (by decide +kernel)), (gtb_t3 75 (by decide +kernel) (by decide +kernel))⟩
theorem mbJ0_charAt_5068e : MB yJ0_charAt_5068e cJ0_charAt_5068e 2 (some .char) 1 := ⟨(gtb_t3 86 (by decide +kernel) (by decide +kernel)), (gtb_t1 15 (by decide +kernel) (by decide +kernel)), by decide +kernel⟩
theorem mvJ0_charAt_5068e : MV yJ0_charAt_5068e := ⟨(gtb_t3 84 (by decide +kernel) (by decide +kernel)), (gtb_t3 85 (by decide +kernel) (by decide +kernel))⟩
theorem mbJ0_coder_7d493 : MB yJ0_coder_7d493 cJ0_coder_7d493 1 (some .byte) 0 := ⟨(gtb_t3 80 (by decide +kernel) (by decide +kernel)), (gtb_t1 15 (by decide +kernel) (by decide +kernel)), by decide +kernel⟩
theorem mvJ0_coder_7d493 : MV yJ0_coder_7d493 := ⟨(gtb_t3 78 (by decide +kernel) (by decide +kernel)), (gtb_t3 79 (by decide +kernel) (by decide +kernel))⟩
theorem mbJ0_isLatin1_aae02 : MB yJ0_isLatin1_aae02 cJ0_isLatin1_aae02 1 (some .boolean) 0 := ⟨(gtb_t3 90 (by decide +kernel) (by decide +kernel)), (gtb_t1 15 (by decide +kernel) (by decide +kernel)), by decide +kernel⟩
theorem mvJ0_isLatin1_aae02 : MV yJ0_isLatin1_aae02 := ⟨(gtb_t3 88 (by decide +kernel) (by decide +kernel)), (gtb_t3 89 (by decide +kernel) (by decide +kernel))⟩
theorem mbJ0_checkIndex_df160 : MB yJ0_checkIndex_df160 cJ0_checkIndex_df160 2 none 2 := ⟨(gtb_t3 96 (by decide +kernel) (by decide +kernel)), (gtb_t1 15 (by decide +kernel) (by decide +kernel)), by decide +kernel⟩
theorem msJ0_checkIndex_df160 : MS yJ0_checkIndex_df160 := (gtb_t3 95 (by decide +kernel) (by decide +kernel))
theorem mbJ1_charAt_3b067 : MB yJ1_charAt_3b067 cJ1_charAt_3b067 2 (some .char) 2 := ⟨(gtb_t3 93 (by decide +kernel) (by decide +kernel)), (gtb_t1 16 (by decide +kernel) (by decide +kernel)), by decide +kernel⟩
theorem msJ1_charAt_3b067 : MS yJ1_charAt_3b067 := (gtb_t3 92 (by decide +kernel) (by decide +kernel))
theorem mbJ2_getChar_3b067 : MB yJ2_getChar_3b067 cJ2_getChar_3b067 2 (some .char) 2 := ⟨(gtb_t3 114 (by decide +kernel) (by decide +kernel)), (gtb_t1 18 (by decide +kernel) (by decide +kernel)), by decide +kernel⟩
theorem msJ2_getChar_3b067 : MS yJ2_getChar_3b067 := (gtb_t3 113 (by decide +kernel) (by decide +kernel))
theorem mbJ2_length_9d52b : MB yJ2_length_9d52b cJ2_length_9d52b 1 (some .int) 1 := ⟨(gtb_t3 110 (by decide +kernel) (by decide +kernel)), (gtb_t1 18 (by decide +kernel) (by decide +kernel)), by decide +kernel⟩
theorem msJ2_length_9d52b : MS yJ2_length_9d52b := (gtb_t3 109 (by decide +kernel) (by decide +kernel))
theorem mbJ2_charAt_3b067 : MB yJ2_charAt_3b067 cJ2_charAt_3b067 2 (some .char) 2 := ⟨(gtb_t3 104 (by decide +kernel) (by decide +kernel)), (gtb_t1 18 (by decide +kernel) (by decide +kernel)), by decide +kernel⟩
theorem msJ2_charAt_3b067 : MS yJ2_charAt_3b067 := (gtb_t3 103 (by decide +kernel) (by decide +kernel))
theorem mbJ2_checkIndex_2214a : MB yJ2_checkIndex_2214a cJ2_checkIndex_2214a 2 none 2 := ⟨(gtb_t3 107 (by decide +kernel) (by decide +kernel)), (gtb_t1 18 (by decide +kernel) (by decide +kernel)), by decide +kernel⟩
theorem msJ2_checkIndex_2214a : MS yJ2_checkIndex_2214a := (gtb_t3 106 (by decide +kernel) (by decide +kernel))
theorem mbJ7_fill_53178 : MB yJ7_fill_53178 cJ7_fill_53178 4 none 2 := ⟨(gtb_t1 178 (by decide +kernel) (by decide +kernel)), (gtb_t1 7 (by decide +kernel) (by decide +kernel)), by decide +kernel⟩
theorem msJ7_fill_53178 : MS yJ7_fill_53178 := (gtb_t1 177 (by decide +kernel) (by decide +kernel))
theorem mbJ7_copyOf_59c91 : MB yJ7_copyOf_59c91 cJ7_copyOf_59c91 3 (some (.array .int)) 2 := ⟨(gtb_t3 185 (by decide +kernel) (by decide +kernel)), (gtb_t1 7 (by decide +kernel) (by decide +kernel)), by decide +kernel⟩
theorem msJ7_copyOf_59c91 : MS yJ7_copyOf_59c91 := (gtb_t3 184 (by decide +kernel) (by decide +kernel))
theorem mbJ3_checkIndex_8e157 : MB yJ3_checkIndex_8e157 cJ3_checkIndex_8e157 3 (some .int) 3 := ⟨(gtb_t3 101 (by decide +kernel) (by decide +kernel)), (gtb_t1 17 (by decide +kernel) (by decide +kernel)), by decide +kernel⟩
theorem msJ3_checkIndex_8e157 : MS yJ3_checkIndex_8e157 := (gtb_t3 100 (by decide +kernel) (by decide +kernel))
end
section
/-! THE INSTRUCTIONS OF EACH METHOD. -/
def tX0_init : List (Instr × Nat) := [(.aload_n 0, 1), (.invokespecial 3, 3), (.aload_n 0, 1), (.iconst (-1), 1), (.putfield 9, 3), (.aload_n 0, 1), (.iload_n 1, 1), (.putfield 15, 3), (.aload_n 0, 1), (.iload_n 2, 1), (.putfield 18, 3), (.aload_n 0, 1), (.iload_n 3, 1), (.putfield 21, 3), (.aload_n 0, 1), (.iconst 0, 1), (.iload 4, 2), (.bipush 40, 2), (.invokestatic 24, 3), (.invokestatic 30, 3), (.bipush 6, 2), (.imul, 1), (.newarray .int, 2), (.putfield 33, 3), (.return_, 1)]
theorem tX0_init_ok : sgB cX0_init 0 tX0_init = true := by decide +kernel
def tX0_takeIn : List (Instr × Nat) := [(.aload_n 0, 1), (.getfield 37, 3), (.bipush 6, 2), (.imul, 1), (.istore_n 3, 1), (.iload_n 3, 1), (.bipush 6, 2), (.iadd, 1), (.aload_n 0, 1), (.getfield 33, 3), (.arraylength, 1), (.if_icmp .gt 11, 3), (.aload_n 1, 1), (.iload_n 2, 1), (.invokevirtual 40, 3), (.ifCond .ne 4, 3), (.return_, 1), (.aload_n 0, 1), (.getfield 33, 3), (.iload_n 3, 1), (.iconst 0, 1), (.iadd, 1), (.iload_n 2, 1), (.iastore, 1), (.aload_n 0, 1), (.getfield 33, 3), (.iload_n 3, 1), (.iconst 1, 1), (.iadd, 1), (.aload_n 1, 1), (.getfield 46, 3), (.iload_n 2, 1), (.iaload, 1), (.iastore, 1), (.aload_n 0, 1), (.getfield 33, 3), (.iload_n 3, 1), (.iconst 2, 1), (.iadd, 1), (.aload_n 1, 1), (.getfield 49, 3), (.iload_n 2, 1), (.iaload, 1), (.iastore, 1), (.aload_n 0, 1), (.getfield 33, 3), (.iload_n 3, 1), (.iconst 3, 1), (.iadd, 1), (.aload_n 1, 1), (.getfield 52, 3), (.iload_n 2, 1), (.iaload, 1), (.iastore, 1), (.aload_n 0, 1), (.getfield 33, 3), (.iload_n 3, 1), (.iconst 4, 1), (.iadd, 1), (.aload_n 1, 1), (.getfield 55, 3), (.iload_n 2, 1), (.iaload, 1), (.iastore, 1), (.aload_n 0, 1), (.getfield 33, 3), (.iload_n 3, 1), (.iconst 5, 1), (.iadd, 1), (.aload_n 1, 1), (.getfield 55, 3), (.iload_n 2, 1), (.iaload, 1), (.iastore, 1), (.aload_n 0, 1), (.dup, 1), (.getfield 37, 3), (.iconst 1, 1), (.iadd, 1), (.putfield 37, 3), (.return_, 1)]
theorem tX0_takeIn_ok : sgB cX0_takeIn 0 tX0_takeIn = true := by decide +kernel
def tX0_leaves : List (Instr × Nat) := [(.aload_n 0, 1), (.getfield 37, 3), (.iconst 1, 1), (.if_icmp .lt 20, 3), (.aload_n 0, 1), (.getfield 33, 3), (.aload_n 0, 1), (.getfield 37, 3), (.iconst 1, 1), (.isub, 1), (.bipush 6, 2), (.imul, 1), (.iconst 5, 1), (.iadd, 1), (.iload_n 1, 1), (.iastore, 1), (.return_, 1)]
theorem tX0_leaves_ok : sgB cX0_leaves 0 tX0_leaves = true := by decide +kernel
def tX0_bears : List (Instr × Nat) := [(.aload_n 0, 1), (.iload_n 1, 1), (.putfield 9, 3), (.return_, 1)]
theorem tX0_bears_ok : sgB cX0_bears 0 tX0_bears = true := by decide +kernel
def tX0_canGoBack : List (Instr × Nat) := [(.aload_n 0, 1), (.getfield 9, 3), (.iconst (-1), 1), (.if_icmp .eq 18, 3), (.aload_n 0, 1), (.getfield 9, 3), (.aload_n 1, 1), (.getfield 58, 3), (.iconst 1, 1), (.isub, 1), (.if_icmp .eq 5, 3), (.iconst 0, 1), (.ireturn, 1), (.iconst 0, 1), (.istore_n 2, 1), (.iload_n 2, 1), (.aload_n 0, 1), (.getfield 37, 3), (.if_icmp .ge 51, 3), (.aload_n 0, 1), (.getfield 33, 3), (.iload_n 2, 1), (.bipush 6, 2), (.imul, 1), (.iconst 0, 1), (.iadd, 1), (.iaload, 1), (.istore_n 3, 1), (.aload_n 1, 1), (.iload_n 3, 1), (.invokevirtual 40, 3), (.ifCond .eq 23, 3), (.aload_n 1, 1), (.getfield 55, 3), (.iload_n 3, 1), (.iaload, 1), (.aload_n 0, 1), (.getfield 33, 3), (.iload_n 2, 1), (.bipush 6, 2), (.imul, 1), (.iconst 5, 1), (.iadd, 1), (.iaload, 1), (.if_icmp .eq 5, 3), (.iconst 0, 1), (.ireturn, 1), (.iinc 2 1, 3), (.goto (-53), 3), (.iconst 1, 1), (.ireturn, 1)]
theorem tX0_canGoBack_ok : sgB cX0_canGoBack 0 tX0_canGoBack = true := by decide +kernel
def tX0_goBack : List (Instr × Nat) := [(.iconst 0, 1), (.istore_n 3, 1), (.iload_n 3, 1), (.aload_n 0, 1), (.getfield 37, 3), (.if_icmp .ge 99, 3), (.iload_n 3, 1), (.bipush 6, 2), (.imul, 1), (.istore 4, 2), (.aload_n 0, 1), (.getfield 33, 3), (.iload 4, 2), (.iconst 0, 1), (.iadd, 1), (.iaload, 1), (.istore 5, 2), (.aload_n 1, 1), (.iload 5, 2), (.invokevirtual 40, 3), (.ifCond .eq 67, 3), (.aload_n 1, 1), (.getfield 46, 3), (.iload 5, 2), (.aload_n 0, 1), (.getfield 33, 3), (.iload 4, 2), (.iconst 1, 1), (.iadd, 1), (.iaload, 1), (.iastore, 1), (.aload_n 1, 1), (.getfield 49, 3), (.iload 5, 2), (.aload_n 0, 1), (.getfield 33, 3), (.iload 4, 2), (.iconst 2, 1), (.iadd, 1), (.iaload, 1), (.iastore, 1), (.aload_n 1, 1), (.getfield 52, 3), (.iload 5, 2), (.aload_n 0, 1), (.getfield 33, 3), (.iload 4, 2), (.iconst 3, 1), (.iadd, 1), (.iaload, 1), (.iastore, 1), (.aload_n 1, 1), (.getfield 55, 3), (.iload 5, 2), (.aload_n 0, 1), (.getfield 33, 3), (.iload 4, 2), (.iconst 4, 1), (.iadd, 1), (.iaload, 1), (.iastore, 1), (.iinc 3 1, 3), (.goto (-101), 3), (.aload_n 0, 1), (.getfield 9, 3), (.iconst (-1), 1), (.if_icmp .eq 13, 3), (.aload_n 1, 1), (.dup, 1), (.getfield 58, 3), (.iconst 1, 1), (.isub, 1), (.putfield 58, 3), (.aload_n 2, 1), (.aload_n 0, 1), (.getfield 18, 3), (.aload_n 0, 1), (.getfield 15, 3), (.aload_n 0, 1), (.getfield 21, 3), (.invokevirtual 61, 3), (.return_, 1)]
theorem tX0_goBack_ok : sgB cX0_goBack 0 tX0_goBack = true := by decide +kernel
def tX1_init : List (Instr × Nat) := [(.aload_n 0, 1), (.invokespecial 3, 3), (.aload_n 0, 1), (.bipush 60, 2), (.anewarray 9, 3), (.putfield 11, 3), (.return_, 1)]
theorem tX1_init_ok : sgB cX1_init 0 tX1_init = true := by decide +kernel
def tX1_copyFrom : List (Instr × Nat) := [(.aload_n 0, 1), (.aload_n 1, 1), (.getfield 17, 3), (.putfield 17, 3), (.iconst 0, 1), (.istore_n 2, 1), (.iload_n 2, 1), (.aload_n 0, 1), (.getfield 11, 3), (.arraylength, 1), (.if_icmp .ge 21, 3), (.aload_n 0, 1), (.getfield 11, 3), (.iload_n 2, 1), (.aload_n 1, 1), (.getfield 11, 3), (.iload_n 2, 1), (.aaload, 1), (.aastore, 1), (.iinc 2 1, 3), (.goto (-24), 3), (.return_, 1)]
theorem tX1_copyFrom_ok : sgB cX1_copyFrom 0 tX1_copyFrom = true := by decide +kernel
def tX1_keep : List (Instr × Nat) := [(.aload_n 0, 1), (.getfield 17, 3), (.bipush 60, 2), (.if_icmp .lt 37, 3), (.iconst 1, 1), (.istore_n 2, 1), (.iload_n 2, 1), (.bipush 60, 2), (.if_icmp .ge 23, 3), (.aload_n 0, 1), (.getfield 11, 3), (.iload_n 2, 1), (.iconst 1, 1), (.isub, 1), (.aload_n 0, 1), (.getfield 11, 3), (.iload_n 2, 1), (.aaload, 1), (.aastore, 1), (.iinc 2 1, 3), (.goto (-23), 3), (.aload_n 0, 1), (.bipush 59, 2), (.putfield 17, 3), (.aload_n 0, 1), (.getfield 11, 3), (.aload_n 0, 1), (.getfield 17, 3), (.aload_n 1, 1), (.aastore, 1), (.aload_n 0, 1), (.dup, 1), (.getfield 17, 3), (.iconst 1, 1), (.iadd, 1), (.putfield 17, 3), (.return_, 1)]
theorem tX1_keep_ok : sgB cX1_keep 0 tX1_keep = true := by decide +kernel
def tX1_lendOn : List (Instr × Nat) := [(.aload_n 1, 1), (.iload_n 3, 1), (.invokevirtual 21, 3), (.ifCond .eq 24, 3), (.aload_n 2, 1), (.iload 4, 2), (.invokevirtual 27, 3), (.ifCond .eq 15, 3), (.iload 5, 2), (.iconst 0, 1), (.sipush 9999, 3), (.invokestatic 32, 3), (.ifCond .ne 5, 3), (.iconst 0, 1), (.ireturn, 1), (.aload_n 1, 1), (.getfield 36, 3), (.iload_n 3, 1), (.iaload, 1), (.istore 6, 2), (.iload 4, 2), (.iload 6, 2), (.if_icmp .eq 26, 3), (.iload 4, 2), (.aload_n 1, 1), (.getfield 40, 3), (.iload_n 3, 1), (.iaload, 1), (.if_icmp .eq 15, 3), (.aload_n 2, 1), (.getfield 43, 3), (.iload 4, 2), (.iaload, 1), (.iload 5, 2), (.if_icmp .ge 5, 3), (.iconst 0, 1), (.ireturn, 1), (.new 9, 3), (.dup, 1), (.iload 4, 2), (.iload 6, 2), (.iload 5, 2), (.iconst 1, 1), (.invokespecial 46, 3), (.astore 7, 2), (.aload 7, 2), (.aload_n 1, 1), (.iload_n 3, 1), (.invokevirtual 49, 3), (.aload_n 1, 1), (.getfield 36, 3), (.iload_n 3, 1), (.iload 4, 2), (.iastore, 1), (.aload_n 2, 1), (.iload 4, 2), (.iload 6, 2), (.iload 5, 2), (.invokevirtual 53, 3), (.aload_n 0, 1), (.aload 7, 2), (.invokevirtual 57, 3), (.iconst 1, 1), (.ireturn, 1)]
theorem tX1_lendOn_ok : sgB cX1_lendOn 0 tX1_lendOn = true := by decide +kernel
def tX1_splitOff : List (Instr × Nat) := [(.aload_n 1, 1), (.iload_n 2, 1), (.invokevirtual 21, 3), (.ifCond .eq 33, 3), (.iload_n 3, 1), (.iconst 1, 1), (.sipush 199, 3), (.invokestatic 32, 3), (.ifCond .eq 22, 3), (.aload_n 1, 1), (.getfield 61, 3), (.iload_n 2, 1), (.iaload, 1), (.iload_n 3, 1), (.if_icmp .le 12, 3), (.aload_n 1, 1), (.getfield 64, 3), (.bipush 40, 2), (.if_icmp .lt 5, 3), (.iconst (-1), 1), (.ireturn, 1), (.new 9, 3), (.dup, 1), (.iconst (-1), 1), (.iconst (-1), 1), (.iconst 0, 1), (.iconst 2, 1), (.invokespecial 46, 3), (.astore 4, 2), (.aload 4, 2), (.aload_n 1, 1), (.iload_n 2, 1), (.invokevirtual 49, 3), (.aload_n 1, 1), (.getfield 61, 3), (.iload_n 2, 1), (.dup2, 1), (.iaload, 1), (.iload_n 3, 1), (.isub, 1), (.iastore, 1), (.aload 4, 2), (.aload_n 1, 1), (.getfield 61, 3), (.iload_n 2, 1), (.iaload, 1), (.invokevirtual 65, 3), (.aload_n 1, 1), (.aload_n 1, 1), (.getfield 40, 3), (.iload_n 2, 1), (.iaload, 1), (.aload_n 1, 1), (.getfield 36, 3), (.iload_n 2, 1), (.iaload, 1), (.iload_n 3, 1), (.invokevirtual 69, 3), (.istore 5, 2), (.aload_n 1, 1), (.iload 5, 2), (.invokevirtual 73, 3), (.ifCond .eq 29, 3), (.aload_n 1, 1), (.getfield 74, 3), (.iload 5, 2), (.aload_n 1, 1), (.getfield 74, 3), (.iload_n 2, 1), (.iaload, 1), (.iastore, 1), (.aload_n 1, 1), (.getfield 77, 3), (.iload 5, 2), (.aload_n 1, 1), (.getfield 77, 3), (.iload_n 2, 1), (.iaload, 1), (.iastore, 1), (.aload 4, 2), (.aload_n 1, 1), (.iload 5, 2), (.invokevirtual 49, 3), (.aload 4, 2), (.iload 5, 2), (.invokevirtual 80, 3), (.aload_n 0, 1), (.aload 4, 2), (.invokevirtual 57, 3), (.iload 5, 2), (.ireturn, 1)]
theorem tX1_splitOff_ok : sgB cX1_splitOff 0 tX1_splitOff = true := by decide +kernel
def tX1_handDown : List (Instr × Nat) := [(.aload_n 1, 1), (.iload_n 2, 1), (.invokevirtual 83, 3), (.istore 4, 2), (.iload 4, 2), (.ifCond .ne 5, 3), (.iconst 0, 1), (.ireturn, 1), (.new 9, 3), (.dup, 1), (.iconst (-1), 1), (.iconst (-1), 1), (.iconst 0, 1), (.iload 4, 2), (.invokespecial 46, 3), (.astore 5, 2), (.iconst 0, 1), (.istore 6, 2), (.iload 6, 2), (.aload_n 1, 1), (.getfield 64, 3), (.if_icmp .ge 47, 3), (.aload_n 1, 1), (.iload 6, 2), (.iload_n 2, 1), (.invokevirtual 87, 3), (.ifCond .eq 31, 3), (.aload 5, 2), (.aload_n 1, 1), (.iload 6, 2), (.invokevirtual 49, 3), (.aload_n 1, 1), (.iload 6, 2), (.iload_n 2, 1), (.iload_n 3, 1), (.invokevirtual 91, 3), (.aload 5, 2), (.aload_n 1, 1), (.getfield 61, 3), (.iload 6, 2), (.iaload, 1), (.invokevirtual 65, 3), (.iinc 6 1, 3), (.goto (-50), 3), (.aload_n 0, 1), (.aload 5, 2), (.invokevirtual 57, 3), (.iload 4, 2), (.ireturn, 1)]
theorem tX1_handDown_ok : sgB cX1_handDown 0 tX1_handDown = true := by decide +kernel
def tX1_sellOn : List (Instr × Nat) := [(.aload_n 1, 1), (.iload_n 3, 1), (.invokevirtual 21, 3), (.ifCond .eq 15, 3), (.iload 5, 2), (.iconst 0, 1), (.sipush 9999, 3), (.invokestatic 32, 3), (.ifCond .ne 5, 3), (.iconst 0, 1), (.ireturn, 1), (.aload_n 1, 1), (.getfield 40, 3), (.iload_n 3, 1), (.iaload, 1), (.istore 6, 2), (.iload 4, 2), (.iconst (-1), 1), (.if_icmp .eq 33, 3), (.iload 4, 2), (.iload 6, 2), (.if_icmp .eq 24, 3), (.aload_n 2, 1), (.iload 4, 2), (.invokevirtual 94, 3), (.ifCond .eq 15, 3), (.aload_n 2, 1), (.getfield 43, 3), (.iload 6, 2), (.iaload, 1), (.iload 5, 2), (.if_icmp .ge 5, 3), (.iconst 0, 1), (.ireturn, 1), (.new 9, 3), (.dup, 1), (.iload 6, 2), (.iload 4, 2), (.iload 5, 2), (.iconst 1, 1), (.invokespecial 46, 3), (.astore 7, 2), (.aload 7, 2), (.aload_n 1, 1), (.iload_n 3, 1), (.invokevirtual 49, 3), (.aload_n 1, 1), (.getfield 74, 3), (.iload_n 3, 1), (.iload 4, 2), (.iastore, 1), (.aload_n 2, 1), (.iload 6, 2), (.iload 4, 2), (.iload 5, 2), (.invokevirtual 53, 3), (.aload_n 0, 1), (.aload 7, 2), (.invokevirtual 57, 3), (.iconst 1, 1), (.ireturn, 1)]
theorem tX1_sellOn_ok : sgB cX1_sellOn 0 tX1_sellOn = true := by decide +kernel
def tX1_goBack : List (Instr × Nat) := [(.aload_n 0, 1), (.getfield 17, 3), (.iconst 1, 1), (.if_icmp .ge 5, 3), (.iconst 0, 1), (.ireturn, 1), (.aload_n 0, 1), (.getfield 11, 3), (.aload_n 0, 1), (.getfield 17, 3), (.iconst 1, 1), (.isub, 1), (.aaload, 1), (.astore_n 3, 1), (.aload_n 3, 1), (.ifnull 11, 3), (.aload_n 3, 1), (.aload_n 1, 1), (.invokevirtual 97, 3), (.ifCond .ne 5, 3), (.iconst 0, 1), (.ireturn, 1), (.aload_n 3, 1), (.aload_n 1, 1), (.aload_n 2, 1), (.invokevirtual 101, 3), (.aload_n 0, 1), (.dup, 1), (.getfield 17, 3), (.iconst 1, 1), (.isub, 1), (.putfield 17, 3), (.iconst 1, 1), (.ireturn, 1)]
theorem tX1_goBack_ok : sgB cX1_goBack 0 tX1_goBack = true := by decide +kernel
def tX2_init : List (Instr × Nat) := [(.aload_n 0, 1), (.invokespecial 3, 3), (.aload_n 0, 1), (.iconst 0, 1), (.iload_n 1, 1), (.sipush 400, 3), (.invokestatic 9, 3), (.invokestatic 15, 3), (.putfield 18, 3), (.aload_n 0, 1), (.aload_n 0, 1), (.getfield 18, 3), (.iconst 5, 1), (.imul, 1), (.newarray .int, 2), (.putfield 24, 3), (.return_, 1)]
theorem tX2_init_ok : sgB cX2_init 0 tX2_init = true := by decide +kernel
def tX2_copyFrom : List (Instr × Nat) := [(.aload_n 0, 1), (.aload_n 1, 1), (.getfield 28, 3), (.aload_n 0, 1), (.getfield 18, 3), (.invokestatic 9, 3), (.putfield 28, 3), (.aload_n 1, 1), (.getfield 24, 3), (.iconst 0, 1), (.aload_n 0, 1), (.getfield 24, 3), (.iconst 0, 1), (.aload_n 0, 1), (.getfield 28, 3), (.iconst 5, 1), (.imul, 1), (.invokestatic 31, 3), (.aload_n 0, 1), (.aload_n 1, 1), (.getfield 37, 3), (.putfield 37, 3), (.aload_n 0, 1), (.aload_n 1, 1), (.getfield 40, 3), (.putfield 40, 3), (.aload_n 0, 1), (.aload_n 1, 1), (.getfield 43, 3), (.putfield 43, 3), (.aload_n 0, 1), (.aload_n 1, 1), (.getfield 46, 3), (.putfield 46, 3), (.return_, 1)]
theorem tX2_copyFrom_ok : sgB cX2_copyFrom 0 tX2_copyFrom = true := by decide +kernel
def tX2_write : List (Instr × Nat) := [(.aload_n 0, 1), (.getfield 28, 3), (.aload_n 0, 1), (.getfield 18, 3), (.if_icmp .lt 4, 3), (.return_, 1), (.aload_n 0, 1), (.getfield 28, 3), (.iconst 5, 1), (.imul, 1), (.istore 5, 2), (.aload_n 0, 1), (.getfield 24, 3), (.iload 5, 2), (.aload_n 1, 1), (.getfield 49, 3), (.iastore, 1), (.aload_n 0, 1), (.getfield 24, 3), (.iload 5, 2), (.iconst 1, 1), (.iadd, 1), (.aload_n 1, 1), (.getfield 54, 3), (.iastore, 1), (.aload_n 0, 1), (.getfield 24, 3), (.iload 5, 2), (.iconst 2, 1), (.iadd, 1), (.iload_n 2, 1), (.iastore, 1), (.aload_n 0, 1), (.getfield 24, 3), (.iload 5, 2), (.iconst 3, 1), (.iadd, 1), (.iload_n 3, 1), (.iastore, 1), (.aload_n 0, 1), (.getfield 24, 3), (.iload 5, 2), (.iconst 4, 1), (.iadd, 1), (.iload 4, 2), (.iastore, 1), (.aload_n 0, 1), (.dup, 1), (.getfield 28, 3), (.iconst 1, 1), (.iadd, 1), (.putfield 28, 3), (.return_, 1)]
theorem tX2_write_ok : sgB cX2_write 0 tX2_write = true := by decide +kernel
def tX2_isBetterThan : List (Instr × Nat) := [(.aload_n 0, 1), (.getfield 37, 3), (.iload_n 1, 1), (.if_icmp .ne 19, 3), (.aload_n 0, 1), (.getfield 40, 3), (.iload_n 2, 1), (.if_icmp .ge 7, 3), (.iconst 1, 1), (.goto 20, 3), (.iconst 0, 1), (.goto 16, 3), (.aload_n 0, 1), (.getfield 37, 3), (.iload_n 1, 1), (.if_icmp .le 7, 3), (.iconst 1, 1), (.goto 4, 3), (.iconst 0, 1), (.ireturn, 1)]
theorem tX2_isBetterThan_ok : sgB cX2_isBetterThan 0 tX2_isBetterThan = true := by decide +kernel
def tX2_countOf : List (Instr × Nat) := [(.iload_n 1, 1), (.tableswitch 42 0 2 #[27, 32, 37], 27), (.aload_n 0, 1), (.getfield 37, 3), (.ireturn, 1), (.aload_n 0, 1), (.getfield 40, 3), (.ireturn, 1), (.aload_n 0, 1), (.getfield 43, 3), (.ireturn, 1), (.aload_n 0, 1), (.getfield 46, 3), (.ireturn, 1)]
theorem tX2_countOf_ok : sgB cX2_countOf 0 tX2_countOf = true := by decide +kernel
def tX3_init : List (Instr × Nat) := [(.aload_n 0, 1), (.invokespecial 3, 3), (.aload_n 0, 1), (.bipush 40, 2), (.newarray .int, 2), (.putfield 9, 3), (.aload_n 0, 1), (.bipush 40, 2), (.newarray .int, 2), (.putfield 15, 3), (.aload_n 0, 1), (.bipush 40, 2), (.newarray .int, 2), (.putfield 18, 3), (.aload_n 0, 1), (.bipush 40, 2), (.newarray .int, 2), (.putfield 21, 3), (.aload_n 0, 1), (.bipush 40, 2), (.newarray .int, 2), (.putfield 24, 3), (.aload_n 0, 1), (.bipush 40, 2), (.newarray .int, 2), (.putfield 27, 3), (.aload_n 0, 1), (.bipush 40, 2), (.newarray .int, 2), (.putfield 30, 3), (.aload_n 0, 1), (.bipush 40, 2), (.newarray .int, 2), (.putfield 33, 3), (.aload_n 0, 1), (.bipush 12, 2), (.newarray .int, 2), (.putfield 36, 3), (.aload_n 0, 1), (.bipush 12, 2), (.newarray .int, 2), (.putfield 39, 3), (.return_, 1)]
theorem tX3_init_ok : sgB cX3_init 0 tX3_init = true := by decide +kernel
def tX3_copyFrom : List (Instr × Nat) := [(.aload_n 0, 1), (.aload_n 1, 1), (.getfield 42, 3), (.putfield 42, 3), (.aload_n 1, 1), (.getfield 9, 3), (.iconst 0, 1), (.aload_n 0, 1), (.getfield 9, 3), (.iconst 0, 1), (.bipush 40, 2), (.invokestatic 46, 3), (.aload_n 1, 1), (.getfield 15, 3), (.iconst 0, 1), (.aload_n 0, 1), (.getfield 15, 3), (.iconst 0, 1), (.bipush 40, 2), (.invokestatic 46, 3), (.aload_n 1, 1), (.getfield 18, 3), (.iconst 0, 1), (.aload_n 0, 1), (.getfield 18, 3), (.iconst 0, 1), (.bipush 40, 2), (.invokestatic 46, 3), (.aload_n 1, 1), (.getfield 21, 3), (.iconst 0, 1), (.aload_n 0, 1), (.getfield 21, 3), (.iconst 0, 1), (.bipush 40, 2), (.invokestatic 46, 3), (.aload_n 1, 1), (.getfield 24, 3), (.iconst 0, 1), (.aload_n 0, 1), (.getfield 24, 3), (.iconst 0, 1), (.bipush 40, 2), (.invokestatic 46, 3), (.aload_n 1, 1), (.getfield 27, 3), (.iconst 0, 1), (.aload_n 0, 1), (.getfield 27, 3), (.iconst 0, 1), (.bipush 40, 2), (.invokestatic 46, 3), (.aload_n 1, 1), (.getfield 30, 3), (.iconst 0, 1), (.aload_n 0, 1), (.getfield 30, 3), (.iconst 0, 1), (.bipush 40, 2), (.invokestatic 46, 3), (.return_, 1)]
theorem tX3_copyFrom_ok : sgB cX3_copyFrom 0 tX3_copyFrom = true := by decide +kernel
def tX3_has : List (Instr × Nat) := [(.iload_n 1, 1), (.ifCond .lt 15, 3), (.iload_n 1, 1), (.aload_n 0, 1), (.getfield 42, 3), (.if_icmp .ge 7, 3), (.iconst 1, 1), (.goto 4, 3), (.iconst 0, 1), (.ireturn, 1)]
theorem tX3_has_ok : sgB cX3_has 0 tX3_has = true := by decide +kernel
def tX3_isOpen : List (Instr × Nat) := [(.aload_n 0, 1), (.iload_n 1, 1), (.invokevirtual 52, 3), (.ifCond .eq 16, 3), (.aload_n 0, 1), (.getfield 18, 3), (.iload_n 1, 1), (.iaload, 1), (.ifCond .le 7, 3), (.iconst 1, 1), (.goto 4, 3), (.iconst 0, 1), (.ireturn, 1)]
theorem tX3_isOpen_ok : sgB cX3_isOpen 0 tX3_isOpen = true := by decide +kernel
def tX3_isOpenWith : List (Instr × Nat) := [(.aload_n 0, 1), (.iload_n 1, 1), (.invokevirtual 56, 3), (.ifCond .eq 27, 3), (.aload_n 0, 1), (.getfield 9, 3), (.iload_n 1, 1), (.iaload, 1), (.iload_n 2, 1), (.if_icmp .eq 13, 3), (.aload_n 0, 1), (.getfield 15, 3), (.iload_n 1, 1), (.iaload, 1), (.iload_n 2, 1), (.if_icmp .ne 7, 3), (.iconst 1, 1), (.goto 4, 3), (.iconst 0, 1), (.ireturn, 1)]
theorem tX3_isOpenWith_ok : sgB cX3_isOpenWith 0 tX3_isOpenWith = true := by decide +kernel
def tX3_openCountWith : List (Instr × Nat) := [(.iconst 0, 1), (.istore_n 2, 1), (.iconst 0, 1), (.istore_n 3, 1), (.iload_n 3, 1), (.aload_n 0, 1), (.getfield 42, 3), (.if_icmp .ge 21, 3), (.aload_n 0, 1), (.iload_n 3, 1), (.iload_n 1, 1), (.invokevirtual 59, 3), (.ifCond .eq 6, 3), (.iinc 2 1, 3), (.iinc 3 1, 3), (.goto (-23), 3), (.iload_n 2, 1), (.ireturn, 1)]
theorem tX3_openCountWith_ok : sgB cX3_openCountWith 0 tX3_openCountWith = true := by decide +kernel
def tX3_handDown : List (Instr × Nat) := [(.aload_n 0, 1), (.getfield 9, 3), (.iload_n 1, 1), (.iaload, 1), (.iload_n 2, 1), (.if_icmp .ne 13, 3), (.aload_n 0, 1), (.getfield 9, 3), (.iload_n 1, 1), (.iload_n 3, 1), (.iastore, 1), (.goto 10, 3), (.aload_n 0, 1), (.getfield 15, 3), (.iload_n 1, 1), (.iload_n 3, 1), (.iastore, 1), (.aload_n 0, 1), (.getfield 24, 3), (.iload_n 1, 1), (.iaload, 1), (.aload_n 0, 1), (.getfield 9, 3), (.iload_n 1, 1), (.iaload, 1), (.if_icmp .ne 10, 3), (.aload_n 0, 1), (.getfield 24, 3), (.iload_n 1, 1), (.iconst (-1), 1), (.iastore, 1), (.aload_n 0, 1), (.getfield 9, 3), (.iload_n 1, 1), (.iaload, 1), (.aload_n 0, 1), (.getfield 15, 3), (.iload_n 1, 1), (.iaload, 1), (.if_icmp .ne 10, 3), (.aload_n 0, 1), (.getfield 18, 3), (.iload_n 1, 1), (.iconst 0, 1), (.iastore, 1), (.return_, 1)]
theorem tX3_handDown_ok : sgB cX3_handDown 0 tX3_handDown = true := by decide +kernel
def tX3_add : List (Instr × Nat) := [(.aload_n 0, 1), (.getfield 42, 3), (.istore 4, 2), (.iload 4, 2), (.bipush 40, 2), (.if_icmp .lt 5, 3), (.iconst (-1), 1), (.ireturn, 1), (.aload_n 0, 1), (.getfield 9, 3), (.iload 4, 2), (.iload_n 1, 1), (.iastore, 1), (.aload_n 0, 1), (.getfield 15, 3), (.iload 4, 2), (.iload_n 2, 1), (.iastore, 1), (.aload_n 0, 1), (.getfield 18, 3), (.iload 4, 2), (.iload_n 3, 1), (.iastore, 1), (.aload_n 0, 1), (.getfield 21, 3), (.iload 4, 2), (.iconst 0, 1), (.iastore, 1), (.aload_n 0, 1), (.getfield 24, 3), (.iload 4, 2), (.iconst (-1), 1), (.iastore, 1), (.aload_n 0, 1), (.getfield 27, 3), (.iload 4, 2), (.iconst 0, 1), (.iastore, 1), (.aload_n 0, 1), (.getfield 30, 3), (.iload 4, 2), (.iconst 0, 1), (.iastore, 1), (.aload_n 0, 1), (.dup, 1), (.getfield 42, 3), (.iconst 1, 1), (.iadd, 1), (.putfield 42, 3), (.iload 4, 2), (.ireturn, 1)]
theorem tX3_add_ok : sgB cX3_add 0 tX3_add = true := by decide +kernel
def tX3_workerOf : List (Instr × Nat) := [(.aload_n 0, 1), (.getfield 24, 3), (.iload_n 1, 1), (.iaload, 1), (.iconst (-1), 1), (.if_icmp .eq 12, 3), (.aload_n 0, 1), (.getfield 24, 3), (.iload_n 1, 1), (.iaload, 1), (.goto 9, 3), (.aload_n 0, 1), (.getfield 9, 3), (.iload_n 1, 1), (.iaload, 1), (.ireturn, 1)]
theorem tX3_workerOf_ok : sgB cX3_workerOf 0 tX3_workerOf = true := by decide +kernel
def tX3_tellOf : List (Instr × Nat) := [(.iload_n 2, 1), (.tableswitch 102 0 7 #[47, 54, 61, 68, 75, 82, 89, 95], 47), (.aload_n 0, 1), (.getfield 9, 3), (.iload_n 1, 1), (.iaload, 1), (.ireturn, 1), (.aload_n 0, 1), (.getfield 15, 3), (.iload_n 1, 1), (.iaload, 1), (.ireturn, 1), (.aload_n 0, 1), (.getfield 18, 3), (.iload_n 1, 1), (.iaload, 1), (.ireturn, 1), (.aload_n 0, 1), (.getfield 21, 3), (.iload_n 1, 1), (.iaload, 1), (.ireturn, 1), (.aload_n 0, 1), (.getfield 24, 3), (.iload_n 1, 1), (.iaload, 1), (.ireturn, 1), (.aload_n 0, 1), (.getfield 27, 3), (.iload_n 1, 1), (.iaload, 1), (.ireturn, 1), (.aload_n 0, 1), (.iload_n 1, 1), (.invokevirtual 63, 3), (.ireturn, 1), (.aload_n 0, 1), (.getfield 30, 3), (.iload_n 1, 1), (.iaload, 1), (.ireturn, 1), (.bipush (-2), 2), (.ireturn, 1)]
theorem tX3_tellOf_ok : sgB cX3_tellOf 0 tX3_tellOf = true := by decide +kernel
def tX3_allHours : List (Instr × Nat) := [(.iconst 0, 1), (.istore_n 1, 1), (.iconst 0, 1), (.istore_n 2, 1), (.iload_n 2, 1), (.aload_n 0, 1), (.getfield 42, 3), (.if_icmp .ge 18, 3), (.iload_n 1, 1), (.aload_n 0, 1), (.getfield 18, 3), (.iload_n 2, 1), (.iaload, 1), (.iadd, 1), (.istore_n 1, 1), (.iinc 2 1, 3), (.goto (-20), 3), (.iload_n 1, 1), (.ireturn, 1)]
theorem tX3_allHours_ok : sgB cX3_allHours 0 tX3_allHours = true := by decide +kernel
def tX3_doneCount : List (Instr × Nat) := [(.iconst 0, 1), (.istore_n 1, 1), (.iconst 0, 1), (.istore_n 2, 1), (.iload_n 2, 1), (.aload_n 0, 1), (.getfield 42, 3), (.if_icmp .ge 21, 3), (.aload_n 0, 1), (.getfield 18, 3), (.iload_n 2, 1), (.iaload, 1), (.ifCond .ne 6, 3), (.iinc 1 1, 3), (.iinc 2 1, 3), (.goto (-23), 3), (.iload_n 1, 1), (.ireturn, 1)]
theorem tX3_doneCount_ok : sgB cX3_doneCount 0 tX3_doneCount = true := by decide +kernel
def tX3_hoursOf : List (Instr × Nat) := [(.iconst 0, 1), (.istore_n 3, 1), (.iconst 0, 1), (.istore 4, 2), (.iload 4, 2), (.aload_n 0, 1), (.getfield 42, 3), (.if_icmp .ge 62, 3), (.iload_n 2, 1), (.ifCond .ne 13, 3), (.aload_n 0, 1), (.getfield 9, 3), (.iload 4, 2), (.iaload, 1), (.goto 24, 3), (.iload_n 2, 1), (.iconst 1, 1), (.if_icmp .ne 13, 3), (.aload_n 0, 1), (.getfield 15, 3), (.iload 4, 2), (.iaload, 1), (.goto 9, 3), (.aload_n 0, 1), (.iload 4, 2), (.invokevirtual 63, 3), (.istore 5, 2), (.iload 5, 2), (.iload_n 1, 1), (.if_icmp .ne 13, 3), (.iload_n 3, 1), (.aload_n 0, 1), (.getfield 18, 3), (.iload 4, 2), (.iaload, 1), (.iadd, 1), (.istore_n 3, 1), (.iinc 4 1, 3), (.goto (-65), 3), (.iload_n 3, 1), (.ireturn, 1)]
theorem tX3_hoursOf_ok : sgB cX3_hoursOf 0 tX3_hoursOf = true := by decide +kernel
def tX3_tally : List (Instr × Nat) := [(.aload_n 0, 1), (.getfield 36, 3), (.iconst 0, 1), (.invokestatic 67, 3), (.aload_n 0, 1), (.getfield 39, 3), (.iconst 0, 1), (.invokestatic 67, 3), (.iconst 0, 1), (.istore_n 1, 1), (.iload_n 1, 1), (.aload_n 0, 1), (.getfield 42, 3), (.if_icmp .ge 72, 3), (.aload_n 0, 1), (.iload_n 1, 1), (.invokevirtual 63, 3), (.istore_n 2, 1), (.aload_n 0, 1), (.getfield 15, 3), (.iload_n 1, 1), (.iaload, 1), (.istore_n 3, 1), (.iload_n 2, 1), (.ifCond .lt 49, 3), (.iload_n 2, 1), (.bipush 12, 2), (.if_icmp .ge 43, 3), (.iload_n 3, 1), (.ifCond .lt 39, 3), (.iload_n 3, 1), (.bipush 12, 2), (.if_icmp .ge 33, 3), (.aload_n 0, 1), (.getfield 36, 3), (.iload_n 2, 1), (.dup2, 1), (.iaload, 1), (.aload_n 0, 1), (.getfield 18, 3), (.iload_n 1, 1), (.iaload, 1), (.iadd, 1), (.iastore, 1), (.aload_n 0, 1), (.getfield 39, 3), (.iload_n 3, 1), (.dup2, 1), (.iaload, 1), (.aload_n 0, 1), (.getfield 18, 3), (.iload_n 1, 1), (.iaload, 1), (.iadd, 1), (.iastore, 1), (.iinc 1 1, 3), (.goto (-74), 3), (.return_, 1)]
theorem tX3_tally_ok : sgB cX3_tally 0 tX3_tally = true := by decide +kernel
def tX3_goesAhead : List (Instr × Nat) := [(.iload_n 3, 1), (.ifCond .ne 5, 3), (.iconst 0, 1), (.ireturn, 1), (.iload_n 3, 1), (.iconst 1, 1), (.if_icmp .ne 26, 3), (.aload_n 0, 1), (.getfield 18, 3), (.iload_n 1, 1), (.iaload, 1), (.aload_n 0, 1), (.getfield 18, 3), (.iload_n 2, 1), (.iaload, 1), (.if_icmp .ge 7, 3), (.iconst 1, 1), (.goto 27, 3), (.iconst 0, 1), (.goto 23, 3), (.aload_n 0, 1), (.getfield 18, 3), (.iload_n 1, 1), (.iaload, 1), (.aload_n 0, 1), (.getfield 18, 3), (.iload_n 2, 1), (.iaload, 1), (.if_icmp .le 7, 3), (.iconst 1, 1), (.goto 4, 3), (.iconst 0, 1), (.ireturn, 1)]
theorem tX3_goesAhead_ok : sgB cX3_goesAhead 0 tX3_goesAhead = true := by decide +kernel
def tX3_findWhoMay : List (Instr × Nat) := [(.aload_n 1, 1), (.invokevirtual 73, 3), (.istore_n 2, 1), (.iconst 1, 1), (.istore_n 3, 1), (.iconst 0, 1), (.istore 4, 2), (.iload 4, 2), (.aload_n 0, 1), (.getfield 42, 3), (.if_icmp .ge 86, 3), (.aload_n 0, 1), (.getfield 27, 3), (.iload 4, 2), (.iaload, 1), (.iconst 1, 1), (.aload_n 0, 1), (.getfield 9, 3), (.iload 4, 2), (.iaload, 1), (.ishl, 1), (.ior, 1), (.istore 5, 2), (.aload_n 0, 1), (.getfield 24, 3), (.iload 4, 2), (.iaload, 1), (.iconst (-1), 1), (.if_icmp .eq 17, 3), (.iload 5, 2), (.iconst 1, 1), (.aload_n 0, 1), (.getfield 24, 3), (.iload 4, 2), (.iaload, 1), (.ishl, 1), (.ior, 1), (.istore 5, 2), (.aload_n 0, 1), (.getfield 33, 3), (.iload 4, 2), (.iload 5, 2), (.iload_n 2, 1), (.iand, 1), (.iastore, 1), (.aload_n 0, 1), (.getfield 18, 3), (.iload 4, 2), (.iaload, 1), (.ifCond .le 15, 3), (.aload_n 0, 1), (.getfield 33, 3), (.iload 4, 2), (.iaload, 1), (.ifCond .ne 5, 3), (.iconst 0, 1), (.istore_n 3, 1), (.iinc 4 1, 3), (.goto (-89), 3), (.iload_n 3, 1), (.ireturn, 1)]
theorem tX3_findWhoMay_ok : sgB cX3_findWhoMay 0 tX3_findWhoMay = true := by decide +kernel
def tX3_greatestLeft : List (Instr × Nat) := [(.iconst 0, 1), (.istore_n 1, 1), (.iconst 0, 1), (.istore_n 2, 1), (.iload_n 2, 1), (.aload_n 0, 1), (.getfield 42, 3), (.if_icmp .ge 20, 3), (.iload_n 1, 1), (.aload_n 0, 1), (.getfield 18, 3), (.iload_n 2, 1), (.iaload, 1), (.invokestatic 79, 3), (.istore_n 1, 1), (.iinc 2 1, 3), (.goto (-22), 3), (.iload_n 1, 1), (.ireturn, 1)]
theorem tX3_greatestLeft_ok : sgB cX3_greatestLeft 0 tX3_greatestLeft = true := by decide +kernel
def tX3_hoursOnlyFor : List (Instr × Nat) := [(.iconst 0, 1), (.istore_n 2, 1), (.iconst 0, 1), (.istore_n 3, 1), (.iload_n 3, 1), (.aload_n 0, 1), (.getfield 42, 3), (.if_icmp .ge 31, 3), (.aload_n 0, 1), (.getfield 33, 3), (.iload_n 3, 1), (.iaload, 1), (.iload_n 1, 1), (.iconst (-1), 1), (.ixor, 1), (.iand, 1), (.ifCond .ne 12, 3), (.iload_n 2, 1), (.aload_n 0, 1), (.getfield 18, 3), (.iload_n 3, 1), (.iaload, 1), (.iadd, 1), (.istore_n 2, 1), (.iinc 3 1, 3), (.goto (-33), 3), (.iload_n 2, 1), (.ireturn, 1)]
theorem tX3_hoursOnlyFor_ok : sgB cX3_hoursOnlyFor 0 tX3_hoursOnlyFor = true := by decide +kernel
def tX3_bestHours : List (Instr × Nat) := [(.aload_n 0, 1), (.invokevirtual 85, 3), (.istore_n 2, 1), (.iload_n 2, 1), (.ifCond .ne 5, 3), (.iconst 0, 1), (.ireturn, 1), (.iconst 1, 1), (.istore_n 3, 1), (.iload_n 3, 1), (.iconst 1, 1), (.iload_n 1, 1), (.ishl, 1), (.if_icmp .ge 26, 3), (.iload_n 2, 1), (.aload_n 0, 1), (.iload_n 3, 1), (.invokevirtual 88, 3), (.iload_n 3, 1), (.invokestatic 91, 3), (.invokestatic 96, 3), (.invokestatic 79, 3), (.istore_n 2, 1), (.iinc 3 1, 3), (.goto (-27), 3), (.iload_n 2, 1), (.ireturn, 1)]
theorem tX3_bestHours_ok : sgB cX3_bestHours 0 tX3_bestHours = true := by decide +kernel
def tX3_boundHours : List (Instr × Nat) := [(.iconst 0, 1), (.istore_n 1, 1), (.iconst 0, 1), (.istore_n 2, 1), (.iload_n 2, 1), (.aload_n 0, 1), (.getfield 42, 3), (.if_icmp .ge 27, 3), (.aload_n 0, 1), (.getfield 18, 3), (.iload_n 2, 1), (.iaload, 1), (.ifCond .le 12, 3), (.iload_n 1, 1), (.aload_n 0, 1), (.getfield 33, 3), (.iload_n 2, 1), (.iaload, 1), (.ior, 1), (.istore_n 1, 1), (.iinc 2 1, 3), (.goto (-29), 3), (.aload_n 0, 1), (.invokevirtual 85, 3), (.aload_n 0, 1), (.invokevirtual 99, 3), (.iload_n 1, 1), (.invokestatic 91, 3), (.invokestatic 96, 3), (.invokestatic 79, 3), (.ireturn, 1)]
theorem tX3_boundHours_ok : sgB cX3_boundHours 0 tX3_boundHours = true := by decide +kernel
def tX3_aloneHours : List (Instr × Nat) := [(.aload_n 0, 1), (.invokevirtual 102, 3), (.iconst 0, 1), (.istore_n 1, 1), (.iconst 0, 1), (.istore_n 2, 1), (.iload_n 2, 1), (.bipush 12, 2), (.if_icmp .ge 20, 3), (.iload_n 1, 1), (.aload_n 0, 1), (.getfield 36, 3), (.iload_n 2, 1), (.iaload, 1), (.invokestatic 79, 3), (.istore_n 1, 1), (.iinc 2 1, 3), (.goto (-20), 3), (.iload_n 1, 1), (.ireturn, 1)]
theorem tX3_aloneHours_ok : sgB cX3_aloneHours 0 tX3_aloneHours = true := by decide +kernel
def tX4_init : List (Instr × Nat) := [(.aload_n 0, 1), (.invokespecial 3, 3), (.aload_n 0, 1), (.bipush 12, 2), (.newarray .int, 2), (.putfield 9, 3), (.aload_n 0, 1), (.bipush 12, 2), (.newarray .int, 2), (.putfield 15, 3), (.aload_n 0, 1), (.bipush 12, 2), (.newarray .int, 2), (.putfield 18, 3), (.aload_n 0, 1), (.bipush 12, 2), (.newarray .int, 2), (.putfield 21, 3), (.aload_n 0, 1), (.bipush 12, 2), (.newarray .int, 2), (.putfield 24, 3), (.aload_n 0, 1), (.bipush 12, 2), (.newarray .int, 2), (.putfield 27, 3), (.aload_n 0, 1), (.bipush 12, 2), (.newarray .int, 2), (.putfield 30, 3), (.aload_n 0, 1), (.bipush 12, 2), (.newarray .int, 2), (.putfield 33, 3), (.aload_n 0, 1), (.bipush 12, 2), (.newarray .int, 2), (.putfield 36, 3), (.aload_n 0, 1), (.bipush 12, 2), (.newarray .int, 2), (.putfield 39, 3), (.return_, 1)]
theorem tX4_init_ok : sgB cX4_init 0 tX4_init = true := by decide +kernel
def tX4_copyFrom : List (Instr × Nat) := [(.aload_n 0, 1), (.aload_n 1, 1), (.getfield 42, 3), (.putfield 42, 3), (.aload_n 1, 1), (.getfield 9, 3), (.iconst 0, 1), (.aload_n 0, 1), (.getfield 9, 3), (.iconst 0, 1), (.bipush 12, 2), (.invokestatic 46, 3), (.aload_n 1, 1), (.getfield 15, 3), (.iconst 0, 1), (.aload_n 0, 1), (.getfield 15, 3), (.iconst 0, 1), (.bipush 12, 2), (.invokestatic 46, 3), (.aload_n 1, 1), (.getfield 18, 3), (.iconst 0, 1), (.aload_n 0, 1), (.getfield 18, 3), (.iconst 0, 1), (.bipush 12, 2), (.invokestatic 46, 3), (.aload_n 1, 1), (.getfield 21, 3), (.iconst 0, 1), (.aload_n 0, 1), (.getfield 21, 3), (.iconst 0, 1), (.bipush 12, 2), (.invokestatic 46, 3), (.aload_n 1, 1), (.getfield 24, 3), (.iconst 0, 1), (.aload_n 0, 1), (.getfield 24, 3), (.iconst 0, 1), (.bipush 12, 2), (.invokestatic 46, 3), (.aload_n 1, 1), (.getfield 27, 3), (.iconst 0, 1), (.aload_n 0, 1), (.getfield 27, 3), (.iconst 0, 1), (.bipush 12, 2), (.invokestatic 46, 3), (.aload_n 1, 1), (.getfield 30, 3), (.iconst 0, 1), (.aload_n 0, 1), (.getfield 30, 3), (.iconst 0, 1), (.bipush 12, 2), (.invokestatic 46, 3), (.aload_n 1, 1), (.getfield 33, 3), (.iconst 0, 1), (.aload_n 0, 1), (.getfield 33, 3), (.iconst 0, 1), (.bipush 12, 2), (.invokestatic 46, 3), (.aload_n 1, 1), (.getfield 36, 3), (.iconst 0, 1), (.aload_n 0, 1), (.getfield 36, 3), (.iconst 0, 1), (.bipush 12, 2), (.invokestatic 46, 3), (.aload_n 1, 1), (.getfield 39, 3), (.iconst 0, 1), (.aload_n 0, 1), (.getfield 39, 3), (.iconst 0, 1), (.bipush 12, 2), (.invokestatic 46, 3), (.return_, 1)]
theorem tX4_copyFrom_ok : sgB cX4_copyFrom 0 tX4_copyFrom = true := by decide +kernel
def tX4_has : List (Instr × Nat) := [(.iload_n 1, 1), (.ifCond .lt 15, 3), (.iload_n 1, 1), (.aload_n 0, 1), (.getfield 42, 3), (.if_icmp .ge 7, 3), (.iconst 1, 1), (.goto 4, 3), (.iconst 0, 1), (.ireturn, 1)]
theorem tX4_has_ok : sgB cX4_has 0 tX4_has = true := by decide +kernel
def tX4_isNoChild : List (Instr × Nat) := [(.aload_n 0, 1), (.iload_n 1, 1), (.invokevirtual 52, 3), (.ifCond .eq 17, 3), (.aload_n 0, 1), (.getfield 9, 3), (.iload_n 1, 1), (.iaload, 1), (.iconst 1, 1), (.if_icmp .eq 7, 3), (.iconst 1, 1), (.goto 4, 3), (.iconst 0, 1), (.ireturn, 1)]
theorem tX4_isNoChild_ok : sgB cX4_isNoChild 0 tX4_isNoChild = true := by decide +kernel
def tX4_add : List (Instr × Nat) := [(.aload_n 0, 1), (.getfield 42, 3), (.istore 6, 2), (.iload 6, 2), (.bipush 12, 2), (.if_icmp .lt 5, 3), (.iconst (-1), 1), (.ireturn, 1), (.aload_n 0, 1), (.getfield 9, 3), (.iload 6, 2), (.iload_n 1, 1), (.iastore, 1), (.aload_n 0, 1), (.getfield 15, 3), (.iload 6, 2), (.iload_n 2, 1), (.iastore, 1), (.aload_n 0, 1), (.getfield 18, 3), (.iload 6, 2), (.iload_n 3, 1), (.iastore, 1), (.aload_n 0, 1), (.getfield 21, 3), (.iload 6, 2), (.iload 4, 2), (.iastore, 1), (.aload_n 0, 1), (.getfield 24, 3), (.iload 6, 2), (.iload 5, 2), (.iastore, 1), (.aload_n 0, 1), (.getfield 27, 3), (.iload 6, 2), (.iconst 0, 1), (.iastore, 1), (.aload_n 0, 1), (.getfield 30, 3), (.iload 6, 2), (.iconst (-1), 1), (.iastore, 1), (.aload_n 0, 1), (.iload 6, 2), (.invokevirtual 56, 3), (.aload_n 0, 1), (.dup, 1), (.getfield 42, 3), (.iconst 1, 1), (.iadd, 1), (.putfield 42, 3), (.iload 6, 2), (.ireturn, 1)]
theorem tX4_add_ok : sgB cX4_add 0 tX4_add = true := by decide +kernel
def tX4_giveParent : List (Instr × Nat) := [(.aload_n 0, 1), (.getfield 9, 3), (.iload_n 1, 1), (.iaload, 1), (.iconst 1, 1), (.if_icmp .eq 5, 3), (.iconst 0, 1), (.ireturn, 1), (.iload_n 2, 1), (.iconst (-1), 1), (.if_icmp .eq 13, 3), (.aload_n 0, 1), (.iload_n 2, 1), (.invokevirtual 60, 3), (.ifCond .ne 5, 3), (.iconst 0, 1), (.ireturn, 1), (.aload_n 0, 1), (.getfield 30, 3), (.iload_n 1, 1), (.iload_n 2, 1), (.iastore, 1), (.iconst 1, 1), (.ireturn, 1)]
theorem tX4_giveParent_ok : sgB cX4_giveParent 0 tX4_giveParent = true := by decide +kernel
def tX4_change : List (Instr × Nat) := [(.iload_n 2, 1), (.tableswitch 85 0 4 #[35, 45, 55, 65, 75], 35), (.aload_n 0, 1), (.getfield 15, 3), (.iload_n 1, 1), (.iload_n 3, 1), (.iastore, 1), (.goto 43, 3), (.aload_n 0, 1), (.getfield 18, 3), (.iload_n 1, 1), (.iload_n 3, 1), (.iastore, 1), (.goto 33, 3), (.aload_n 0, 1), (.getfield 21, 3), (.iload_n 1, 1), (.iload_n 3, 1), (.iastore, 1), (.goto 23, 3), (.aload_n 0, 1), (.getfield 24, 3), (.iload_n 1, 1), (.iload_n 3, 1), (.iastore, 1), (.goto 13, 3), (.aload_n 0, 1), (.getfield 27, 3), (.iload_n 1, 1), (.iload_n 3, 1), (.iastore, 1), (.goto 3, 3), (.return_, 1)]
theorem tX4_change_ok : sgB cX4_change 0 tX4_change = true := by decide +kernel
def tX4_tellOf : List (Instr × Nat) := [(.iload_n 2, 1), (.tableswitch 92 0 6 #[43, 50, 57, 64, 71, 78, 85], 43), (.aload_n 0, 1), (.getfield 9, 3), (.iload_n 1, 1), (.iaload, 1), (.ireturn, 1), (.aload_n 0, 1), (.getfield 15, 3), (.iload_n 1, 1), (.iaload, 1), (.ireturn, 1), (.aload_n 0, 1), (.getfield 18, 3), (.iload_n 1, 1), (.iaload, 1), (.ireturn, 1), (.aload_n 0, 1), (.getfield 21, 3), (.iload_n 1, 1), (.iaload, 1), (.ireturn, 1), (.aload_n 0, 1), (.getfield 24, 3), (.iload_n 1, 1), (.iaload, 1), (.ireturn, 1), (.aload_n 0, 1), (.getfield 27, 3), (.iload_n 1, 1), (.iaload, 1), (.ireturn, 1), (.aload_n 0, 1), (.getfield 30, 3), (.iload_n 1, 1), (.iaload, 1), (.ireturn, 1), (.bipush (-2), 2), (.ireturn, 1)]
theorem tX4_tellOf_ok : sgB cX4_tellOf 0 tX4_tellOf = true := by decide +kernel
def tX4_hush : List (Instr × Nat) := [(.aload_n 0, 1), (.getfield 33, 3), (.iload_n 1, 1), (.iconst (-1), 1), (.iastore, 1), (.aload_n 0, 1), (.getfield 36, 3), (.iload_n 1, 1), (.iconst (-1), 1), (.iastore, 1), (.aload_n 0, 1), (.getfield 39, 3), (.iload_n 1, 1), (.iconst (-1), 1), (.iastore, 1), (.return_, 1)]
theorem tX4_hush_ok : sgB cX4_hush 0 tX4_hush = true := by decide +kernel
def tX4_noiseOf : List (Instr × Nat) := [(.iload_n 2, 1), (.ifCond .ne 10, 3), (.aload_n 0, 1), (.getfield 33, 3), (.iload_n 1, 1), (.iaload, 1), (.ireturn, 1), (.iload_n 2, 1), (.iconst 1, 1), (.if_icmp .ne 12, 3), (.aload_n 0, 1), (.getfield 36, 3), (.iload_n 1, 1), (.iaload, 1), (.goto 9, 3), (.aload_n 0, 1), (.getfield 39, 3), (.iload_n 1, 1), (.iaload, 1), (.ireturn, 1)]
theorem tX4_noiseOf_ok : sgB cX4_noiseOf 0 tX4_noiseOf = true := by decide +kernel
def tX4_othersWith : List (Instr × Nat) := [(.iconst 0, 1), (.istore_n 2, 1), (.iconst 0, 1), (.istore_n 3, 1), (.iload_n 3, 1), (.aload_n 0, 1), (.getfield 42, 3), (.if_icmp .ge 32, 3), (.iload_n 3, 1), (.iload_n 1, 1), (.if_icmp .eq 21, 3), (.aload_n 0, 1), (.getfield 15, 3), (.iload_n 3, 1), (.iaload, 1), (.aload_n 0, 1), (.getfield 15, 3), (.iload_n 1, 1), (.iaload, 1), (.if_icmp .ne 6, 3), (.iinc 2 1, 3), (.iinc 3 1, 3), (.goto (-34), 3), (.iload_n 2, 1), (.ireturn, 1)]
theorem tX4_othersWith_ok : sgB cX4_othersWith 0 tX4_othersWith = true := by decide +kernel
def tX4_noChildren : List (Instr × Nat) := [(.iconst 0, 1), (.istore_n 1, 1), (.iconst 0, 1), (.istore_n 2, 1), (.iload_n 2, 1), (.aload_n 0, 1), (.getfield 42, 3), (.if_icmp .ge 25, 3), (.aload_n 0, 1), (.getfield 9, 3), (.iload_n 2, 1), (.iaload, 1), (.iconst 1, 1), (.if_icmp .eq 9, 3), (.iload_n 1, 1), (.iconst 1, 1), (.iload_n 2, 1), (.ishl, 1), (.ior, 1), (.istore_n 1, 1), (.iinc 2 1, 3), (.goto (-27), 3), (.iload_n 1, 1), (.ireturn, 1)]
theorem tX4_noChildren_ok : sgB cX4_noChildren 0 tX4_noChildren = true := by decide +kernel
def tX4_pay : List (Instr × Nat) := [(.aload_n 0, 1), (.iload_n 1, 1), (.invokevirtual 52, 3), (.ifCond .eq 31, 3), (.aload_n 0, 1), (.iload_n 2, 1), (.invokevirtual 52, 3), (.ifCond .eq 23, 3), (.aload_n 0, 1), (.getfield 27, 3), (.iload_n 1, 1), (.dup2, 1), (.iaload, 1), (.iload_n 3, 1), (.isub, 1), (.iastore, 1), (.aload_n 0, 1), (.getfield 27, 3), (.iload_n 2, 1), (.dup2, 1), (.iaload, 1), (.iload_n 3, 1), (.iadd, 1), (.iastore, 1), (.return_, 1)]
theorem tX4_pay_ok : sgB cX4_pay 0 tX4_pay = true := by decide +kernel
def tX5_init : List (Instr × Nat) := [(.aload_n 0, 1), (.invokespecial 5, 3), (.aload_n 0, 1), (.iconst (-1), 1), (.putfield 11, 3), (.aload_n 0, 1), (.sipush 400, 3), (.newarray .int, 2), (.putfield 15, 3), (.aload_n 0, 1), (.bipush 17, 2), (.newarray .int, 2), (.putfield 19, 3), (.aload_n 0, 1), (.bipush 16, 2), (.newarray .int, 2), (.putfield 22, 3), (.aload_n 0, 1), (.sipush 401, 3), (.newarray .int, 2), (.putfield 25, 3), (.aload_n 0, 1), (.sipush 401, 3), (.newarray .int, 2), (.putfield 28, 3), (.aload_n 0, 1), (.sipush 401, 3), (.newarray .int, 2), (.putfield 31, 3), (.return_, 1)]
theorem tX5_init_ok : sgB cX5_init 0 tX5_init = true := by decide +kernel
def tX5_forget : List (Instr × Nat) := [(.aload_n 0, 1), (.iconst 0, 1), (.putfield 34, 3), (.aload_n 0, 1), (.iconst (-1), 1), (.putfield 11, 3), (.return_, 1)]
theorem tX5_forget_ok : sgB cX5_forget 0 tX5_forget = true := by decide +kernel
def tX5_read : List (Instr × Nat) := [(.aload_n 0, 1), (.invokevirtual 37, 3), (.aload_n 0, 1), (.iload_n 2, 1), (.putfield 40, 3), (.aload_n 0, 1), (.iconst 0, 1), (.putfield 44, 3), (.aload_n 0, 1), (.iconst 0, 1), (.putfield 47, 3), (.aload_n 0, 1), (.aload_n 1, 1), (.invokevirtual 50, 3), (.aload_n 0, 1), (.iconst 0, 1), (.putfield 54, 3), (.iconst 0, 1), (.istore_n 3, 1), (.iload_n 3, 1), (.sipush 400, 3), (.if_icmp .ge 32, 3), (.aload_n 0, 1), (.getfield 34, 3), (.ifCond .ne 25, 3), (.aload_n 0, 1), (.getfield 25, 3), (.aload_n 0, 1), (.getfield 54, 3), (.iaload, 1), (.ifCond .eq 13, 3), (.aload_n 0, 1), (.invokevirtual 57, 3), (.iinc 3 1, 3), (.goto (-33), 3), (.aload_n 0, 1), (.getfield 34, 3), (.ifCond .eq 5, 3), (.aconst_null, 1), (.areturn, 1), (.new 60, 3), (.dup, 1), (.aload_n 0, 1), (.getfield 44, 3), (.aload_n 0, 1), (.getfield 19, 3), (.aload_n 0, 1), (.getfield 44, 3), (.iconst 1, 1), (.iadd, 1), (.invokestatic 62, 3), (.aload_n 0, 1), (.getfield 22, 3), (.aload_n 0, 1), (.getfield 44, 3), (.invokestatic 62, 3), (.aload_n 0, 1), (.getfield 15, 3), (.aload_n 0, 1), (.getfield 47, 3), (.invokestatic 62, 3), (.invokespecial 68, 3), (.areturn, 1)]
theorem tX5_read_ok : sgB cX5_read 0 tX5_read = true := by decide +kernel
def tX5_findTokens : List (Instr × Nat) := [(.aload_n 0, 1), (.iconst 0, 1), (.putfield 71, 3), (.iconst 0, 1), (.istore_n 2, 1), (.iconst 0, 1), (.istore_n 3, 1), (.iload_n 3, 1), (.sipush 400, 3), (.if_icmp .ge 24, 3), (.iload_n 2, 1), (.aload_n 1, 1), (.getfield 74, 3), (.if_icmp .ge 16, 3), (.aload_n 0, 1), (.aload_n 1, 1), (.iload_n 2, 1), (.invokevirtual 77, 3), (.istore_n 2, 1), (.iinc 3 1, 3), (.goto (-25), 3), (.aload_n 0, 1), (.iconst 0, 1), (.aload_n 1, 1), (.getfield 74, 3), (.iconst 0, 1), (.invokevirtual 81, 3), (.return_, 1)]
theorem tX5_findTokens_ok : sgB cX5_findTokens 0 tX5_findTokens = true := by decide +kernel
def tX5_findToken : List (Instr × Nat) := [(.aload_n 1, 1), (.getfield 85, 3), (.iload_n 2, 1), (.iaload, 1), (.istore_n 3, 1), (.iload_n 3, 1), (.bipush 32, 2), (.if_icmp .eq 9, 3), (.iload_n 3, 1), (.bipush 10, 2), (.if_icmp .ne 7, 3), (.iload_n 2, 1), (.iconst 1, 1), (.iadd, 1), (.ireturn, 1), (.iload_n 3, 1), (.invokestatic 88, 3), (.ifCond .eq 28, 3), (.aload_n 1, 1), (.iload_n 2, 1), (.iconst 1, 1), (.invokestatic 92, 3), (.istore 4, 2), (.aload_n 0, 1), (.aload_n 0, 1), (.aload_n 1, 1), (.iload_n 2, 1), (.iload 4, 2), (.invokevirtual 96, 3), (.iload_n 2, 1), (.iconst 0, 1), (.invokevirtual 81, 3), (.iload 4, 2), (.ireturn, 1), (.iload_n 3, 1), (.invokestatic 100, 3), (.ifCond .eq 39, 3), (.aload_n 1, 1), (.iload_n 2, 1), (.iconst 0, 1), (.invokestatic 92, 3), (.istore 4, 2), (.aload_n 0, 1), (.iload 4, 2), (.iload_n 2, 1), (.isub, 1), (.iconst 4, 1), (.if_icmp .gt 7, 3), (.iconst 1, 1), (.goto 4, 3), (.iconst 2, 1), (.iload_n 2, 1), (.aload_n 1, 1), (.iload_n 2, 1), (.iload 4, 2), (.invokestatic 103, 3), (.invokevirtual 81, 3), (.iload 4, 2), (.ireturn, 1), (.aload_n 0, 1), (.iload_n 3, 1), (.invokestatic 106, 3), (.ifCond .eq 7, 3), (.iload_n 3, 1), (.goto 4, 3), (.iconst 2, 1), (.iload_n 2, 1), (.iconst 0, 1), (.invokevirtual 81, 3), (.iload_n 2, 1), (.iconst 1, 1), (.iadd, 1), (.ireturn, 1)]
theorem tX5_findToken_ok : sgB cX5_findToken 0 tX5_findToken = true := by decide +kernel
def tX5_putToken : List (Instr × Nat) := [(.aload_n 0, 1), (.getfield 71, 3), (.sipush 400, 3), (.if_icmp .gt 43, 3), (.aload_n 0, 1), (.getfield 25, 3), (.aload_n 0, 1), (.getfield 71, 3), (.iload_n 1, 1), (.iastore, 1), (.aload_n 0, 1), (.getfield 28, 3), (.aload_n 0, 1), (.getfield 71, 3), (.iload_n 2, 1), (.iastore, 1), (.aload_n 0, 1), (.getfield 31, 3), (.aload_n 0, 1), (.getfield 71, 3), (.iload_n 3, 1), (.iastore, 1), (.aload_n 0, 1), (.dup, 1), (.getfield 71, 3), (.iconst 1, 1), (.iadd, 1), (.putfield 71, 3), (.return_, 1)]
theorem tX5_putToken_ok : sgB cX5_putToken 0 tX5_putToken = true := by decide +kernel
def tX5_isLetter : List (Instr × Nat) := [(.iload_n 0, 1), (.bipush 97, 2), (.if_icmp .lt 9, 3), (.iload_n 0, 1), (.bipush 122, 2), (.if_icmp .le 15, 3), (.iload_n 0, 1), (.bipush 65, 2), (.if_icmp .lt 13, 3), (.iload_n 0, 1), (.bipush 90, 2), (.if_icmp .gt 7, 3), (.iconst 1, 1), (.goto 4, 3), (.iconst 0, 1), (.ireturn, 1)]
theorem tX5_isLetter_ok : sgB cX5_isLetter 0 tX5_isLetter = true := by decide +kernel
def tX5_isDigit : List (Instr × Nat) := [(.iload_n 0, 1), (.bipush 48, 2), (.if_icmp .lt 13, 3), (.iload_n 0, 1), (.bipush 57, 2), (.if_icmp .gt 7, 3), (.iconst 1, 1), (.goto 4, 3), (.iconst 0, 1), (.ireturn, 1)]
theorem tX5_isDigit_ok : sgB cX5_isDigit 0 tX5_isDigit = true := by decide +kernel
def tX5_isSign : List (Instr × Nat) := [(.iload_n 0, 1), (.bipush 59, 2), (.if_icmp .eq 57, 3), (.iload_n 0, 1), (.bipush 43, 2), (.if_icmp .eq 51, 3), (.iload_n 0, 1), (.bipush 45, 2), (.if_icmp .eq 45, 3), (.iload_n 0, 1), (.bipush 42, 2), (.if_icmp .eq 39, 3), (.iload_n 0, 1), (.bipush 47, 2), (.if_icmp .eq 33, 3), (.iload_n 0, 1), (.bipush 40, 2), (.if_icmp .eq 27, 3), (.iload_n 0, 1), (.bipush 41, 2), (.if_icmp .eq 21, 3), (.iload_n 0, 1), (.bipush 60, 2), (.if_icmp .eq 15, 3), (.iload_n 0, 1), (.bipush 61, 2), (.if_icmp .eq 9, 3), (.iload_n 0, 1), (.bipush 62, 2), (.if_icmp .ne 7, 3), (.iconst 1, 1), (.goto 4, 3), (.iconst 0, 1), (.ireturn, 1)]
theorem tX5_isSign_ok : sgB cX5_isSign 0 tX5_isSign = true := by decide +kernel
def tX5_endOfRun : List (Instr × Nat) := [(.iload_n 1, 1), (.istore_n 3, 1), (.iload_n 1, 1), (.istore 4, 2), (.iload 4, 2), (.aload_n 0, 1), (.getfield 74, 3), (.if_icmp .ge 50, 3), (.iload_n 2, 1), (.ifCond .eq 19, 3), (.aload_n 0, 1), (.getfield 85, 3), (.iload 4, 2), (.iaload, 1), (.invokestatic 88, 3), (.ifCond .ne 22, 3), (.goto 30, 3), (.aload_n 0, 1), (.getfield 85, 3), (.iload 4, 2), (.iaload, 1), (.invokestatic 100, 3), (.ifCond .ne 6, 3), (.goto 14, 3), (.iload 4, 2), (.iconst 1, 1), (.iadd, 1), (.istore_n 3, 1), (.iinc 4 1, 3), (.goto (-53), 3), (.iload_n 3, 1), (.ireturn, 1)]
theorem tX5_endOfRun_ok : sgB cX5_endOfRun 0 tX5_endOfRun = true := by decide +kernel
def tX5_numberOf : List (Instr × Nat) := [(.iconst 0, 1), (.istore_n 3, 1), (.iload_n 1, 1), (.istore 4, 2), (.iload 4, 2), (.iload_n 2, 1), (.if_icmp .ge 25, 3), (.iload_n 3, 1), (.bipush 10, 2), (.imul, 1), (.aload_n 0, 1), (.getfield 85, 3), (.iload 4, 2), (.iaload, 1), (.iadd, 1), (.bipush 48, 2), (.isub, 1), (.istore_n 3, 1), (.iinc 4 1, 3), (.goto (-25), 3), (.iload_n 3, 1), (.ireturn, 1)]
theorem tX5_numberOf_ok : sgB cX5_numberOf 0 tX5_numberOf = true := by decide +kernel
def tX5_keyword : List (Instr × Nat) := [(.aload_n 0, 1), (.getfield 40, 3), (.ifCond .eq 8, 3), (.ldc 109, 2), (.goto 5, 3), (.ldc 111, 2), (.astore 4, 2), (.bipush 100, 2), (.istore 5, 2), (.iload_n 2, 1), (.istore 6, 2), (.iconst 1, 1), (.istore 7, 2), (.iconst 0, 1), (.istore 8, 2), (.iload 8, 2), (.aload 4, 2), (.invokevirtual 113, 3), (.if_icmp .gt 99, 3), (.iload 8, 2), (.aload 4, 2), (.invokevirtual 113, 3), (.if_icmp .ge 13, 3), (.aload 4, 2), (.iload 8, 2), (.invokevirtual 118, 3), (.goto 5, 3), (.bipush 32, 2), (.istore 9, 2), (.iload 9, 2), (.bipush 32, 2), (.if_icmp .eq 39, 3), (.iload 7, 2), (.ifCond .eq 25, 3), (.iload 6, 2), (.iload_n 3, 1), (.if_icmp .ge 19, 3), (.aload_n 1, 1), (.getfield 85, 3), (.iload 6, 2), (.iaload, 1), (.iload 9, 2), (.if_icmp .ne 7, 3), (.iconst 1, 1), (.goto 4, 3), (.iconst 0, 1), (.istore 7, 2), (.iinc 6 1, 3), (.goto 26, 3), (.iload 7, 2), (.ifCond .eq 12, 3), (.iload 6, 2), (.iload_n 3, 1), (.if_icmp .ne 6, 3), (.iload 5, 2), (.ireturn, 1), (.iinc 5 1, 3), (.iload_n 2, 1), (.istore 6, 2), (.iconst 1, 1), (.istore 7, 2), (.iinc 8 1, 3), (.goto (-103), 3), (.iconst 2, 1), (.ireturn, 1)]
theorem tX5_keyword_ok : sgB cX5_keyword 0 tX5_keyword = true := by decide +kernel
def tX5_emit : List (Instr × Nat) := [(.aload_n 0, 1), (.getfield 47, 3), (.aload_n 0, 1), (.getfield 15, 3), (.arraylength, 1), (.if_icmp .ge 27, 3), (.aload_n 0, 1), (.getfield 15, 3), (.aload_n 0, 1), (.getfield 47, 3), (.iload_n 2, 1), (.iconst 4, 1), (.ishl, 1), (.iload_n 1, 1), (.ior, 1), (.iastore, 1), (.aload_n 0, 1), (.dup, 1), (.getfield 47, 3), (.iconst 1, 1), (.iadd, 1), (.putfield 47, 3), (.return_, 1)]
theorem tX5_emit_ok : sgB cX5_emit 0 tX5_emit = true := by decide +kernel
def tX5_closeLine : List (Instr × Nat) := [(.aload_n 0, 1), (.getfield 44, 3), (.bipush 16, 2), (.if_icmp .ge 36, 3), (.aload_n 0, 1), (.getfield 22, 3), (.aload_n 0, 1), (.getfield 44, 3), (.iload_n 1, 1), (.iastore, 1), (.aload_n 0, 1), (.dup, 1), (.getfield 44, 3), (.iconst 1, 1), (.iadd, 1), (.putfield 44, 3), (.aload_n 0, 1), (.getfield 19, 3), (.aload_n 0, 1), (.getfield 44, 3), (.aload_n 0, 1), (.getfield 47, 3), (.iastore, 1), (.return_, 1)]
theorem tX5_closeLine_ok : sgB cX5_closeLine 0 tX5_closeLine = true := by decide +kernel
def tX5_fail : List (Instr × Nat) := [(.aload_n 0, 1), (.getfield 34, 3), (.ifCond .ne 21, 3), (.aload_n 0, 1), (.iload_n 1, 1), (.putfield 34, 3), (.aload_n 0, 1), (.aload_n 0, 1), (.getfield 28, 3), (.aload_n 0, 1), (.getfield 54, 3), (.iaload, 1), (.putfield 11, 3), (.return_, 1)]
theorem tX5_fail_ok : sgB cX5_fail 0 tX5_fail = true := by decide +kernel
def tX5_step : List (Instr × Nat) := [(.aload_n 0, 1), (.getfield 54, 3), (.aload_n 0, 1), (.getfield 71, 3), (.iconst 1, 1), (.isub, 1), (.if_icmp .ge 13, 3), (.aload_n 0, 1), (.dup, 1), (.getfield 54, 3), (.iconst 1, 1), (.iadd, 1), (.putfield 54, 3), (.return_, 1)]
theorem tX5_step_ok : sgB cX5_step 0 tX5_step = true := by decide +kernel
def tX5_take : List (Instr × Nat) := [(.aload_n 0, 1), (.getfield 34, 3), (.ifCond .ne 16, 3), (.aload_n 0, 1), (.getfield 25, 3), (.aload_n 0, 1), (.getfield 54, 3), (.iaload, 1), (.iload_n 1, 1), (.if_icmp .eq 10, 3), (.aload_n 0, 1), (.iconst 1, 1), (.invokevirtual 122, 3), (.iconst 0, 1), (.ireturn, 1), (.aload_n 0, 1), (.invokevirtual 126, 3), (.iconst 1, 1), (.ireturn, 1)]
theorem tX5_take_ok : sgB cX5_take 0 tX5_take = true := by decide +kernel
def tX5_readLine : List (Instr × Nat) := [(.aload_n 0, 1), (.getfield 25, 3), (.aload_n 0, 1), (.getfield 54, 3), (.iaload, 1), (.istore_n 1, 1), (.aload_n 0, 1), (.getfield 40, 3), (.ifCond .eq 12, 3), (.iload_n 1, 1), (.bipush 104, 2), (.if_icmp .eq 24, 3), (.goto 15, 3), (.iload_n 1, 1), (.bipush 104, 2), (.if_icmp .lt 9, 3), (.iload_n 1, 1), (.bipush 106, 2), (.if_icmp .le 9, 3), (.aload_n 0, 1), (.iconst 1, 1), (.invokevirtual 122, 3), (.return_, 1), (.aload_n 0, 1), (.getfield 44, 3), (.bipush 16, 2), (.if_icmp .lt 9, 3), (.aload_n 0, 1), (.iconst 3, 1), (.invokevirtual 122, 3), (.return_, 1), (.aload_n 0, 1), (.invokevirtual 126, 3), (.iconst 0, 1), (.istore_n 2, 1), (.aload_n 0, 1), (.getfield 40, 3), (.ifCond .ne 27, 3), (.iload_n 1, 1), (.bipush 106, 2), (.if_icmp .eq 21, 3), (.aload_n 0, 1), (.invokevirtual 129, 3), (.iload_n 1, 1), (.bipush 104, 2), (.if_icmp .ne 7, 3), (.iconst 1, 1), (.goto 5, 3), (.bipush 101, 2), (.iadd, 1), (.istore_n 2, 1), (.aload_n 0, 1), (.getfield 40, 3), (.ifCond .ne 17, 3), (.aload_n 0, 1), (.getfield 25, 3), (.aload_n 0, 1), (.getfield 54, 3), (.iaload, 1), (.bipush 100, 2), (.if_icmp .ne 17, 3), (.aload_n 0, 1), (.bipush 100, 2), (.invokevirtual 132, 3), (.ifCond .eq 8, 3), (.aload_n 0, 1), (.iconst 0, 1), (.invokevirtual 135, 3), (.aload_n 0, 1), (.bipush 59, 2), (.invokevirtual 132, 3), (.ifCond .eq 8, 3), (.aload_n 0, 1), (.iload_n 2, 1), (.invokevirtual 138, 3), (.return_, 1)]
theorem tX5_readLine_ok : sgB cX5_readLine 0 tX5_readLine = true := by decide +kernel
def tX5_readLoud : List (Instr × Nat) := [(.aload_n 0, 1), (.getfield 31, 3), (.aload_n 0, 1), (.getfield 54, 3), (.iaload, 1), (.istore_n 1, 1), (.aload_n 0, 1), (.getfield 25, 3), (.aload_n 0, 1), (.getfield 54, 3), (.iaload, 1), (.iconst 1, 1), (.if_icmp .ne 14, 3), (.iload_n 1, 1), (.bipush 99, 2), (.if_icmp .le 8, 3), (.aload_n 0, 1), (.iconst 2, 1), (.invokevirtual 122, 3), (.aload_n 0, 1), (.iconst 1, 1), (.invokevirtual 132, 3), (.pop, 1), (.iload_n 1, 1), (.ireturn, 1)]
theorem tX5_readLoud_ok : sgB cX5_readLoud 0 tX5_readLoud = true := by decide +kernel
def tX5_anyOf : List (Instr × Nat) := [(.aload_n 0, 1), (.iload_n 1, 1), (.invokevirtual 141, 3), (.iconst 0, 1), (.istore_n 2, 1), (.iconst 0, 1), (.istore_n 3, 1), (.iload_n 3, 1), (.sipush 400, 3), (.if_icmp .ge 117, 3), (.aload_n 0, 1), (.getfield 34, 3), (.ifCond .ne 110, 3), (.aload_n 0, 1), (.getfield 25, 3), (.aload_n 0, 1), (.getfield 54, 3), (.iaload, 1), (.bipush 101, 2), (.if_icmp .eq 17, 3), (.aload_n 0, 1), (.getfield 25, 3), (.aload_n 0, 1), (.getfield 54, 3), (.iaload, 1), (.bipush 102, 2), (.if_icmp .ne 82, 3), (.aload_n 0, 1), (.getfield 25, 3), (.aload_n 0, 1), (.getfield 54, 3), (.iaload, 1), (.bipush 102, 2), (.if_icmp .ne 7, 3), (.iconst 1, 1), (.goto 4, 3), (.iconst 0, 1), (.istore 4, 2), (.iload 4, 2), (.ifCond .ne 14, 3), (.iload_n 2, 1), (.ifCond .eq 10, 3), (.aload_n 0, 1), (.bipush 11, 2), (.iconst 0, 1), (.invokevirtual 144, 3), (.iload_n 2, 1), (.ifCond .ne 8, 3), (.iload 4, 2), (.ifCond .ne 7, 3), (.iconst 1, 1), (.goto 4, 3), (.iconst 0, 1), (.istore_n 2, 1), (.aload_n 0, 1), (.invokevirtual 126, 3), (.aload_n 0, 1), (.iload_n 1, 1), (.invokevirtual 141, 3), (.iload 4, 2), (.ifCond .eq 10, 3), (.aload_n 0, 1), (.bipush 10, 2), (.iconst 0, 1), (.invokevirtual 144, 3), (.iinc 3 1, 3), (.goto (-118), 3), (.iload_n 2, 1), (.ifCond .eq 10, 3), (.aload_n 0, 1), (.bipush 11, 2), (.iconst 0, 1), (.invokevirtual 144, 3), (.return_, 1)]
theorem tX5_anyOf_ok : sgB cX5_anyOf 0 tX5_anyOf = true := by decide +kernel
def tX5_condition : List (Instr × Nat) := [(.aload_n 0, 1), (.getfield 25, 3), (.aload_n 0, 1), (.getfield 54, 3), (.iaload, 1), (.istore_n 2, 1), (.iload_n 2, 1), (.bipush 103, 2), (.if_icmp .eq 9, 3), (.iload_n 2, 1), (.bipush 40, 2), (.if_icmp .ne 57, 3), (.iload_n 1, 1), (.bipush 8, 2), (.if_icmp .lt 9, 3), (.aload_n 0, 1), (.iconst 3, 1), (.invokevirtual 122, 3), (.return_, 1), (.aload_n 0, 1), (.invokevirtual 126, 3), (.iload_n 2, 1), (.bipush 103, 2), (.if_icmp .ne 20, 3), (.aload_n 0, 1), (.iload_n 1, 1), (.iconst 1, 1), (.iadd, 1), (.invokevirtual 141, 3), (.aload_n 0, 1), (.bipush 9, 2), (.iconst 0, 1), (.invokevirtual 144, 3), (.goto 17, 3), (.aload_n 0, 1), (.iload_n 1, 1), (.iconst 1, 1), (.iadd, 1), (.invokevirtual 135, 3), (.aload_n 0, 1), (.bipush 41, 2), (.invokevirtual 132, 3), (.pop, 1), (.return_, 1), (.aload_n 0, 1), (.invokevirtual 148, 3), (.aload_n 0, 1), (.getfield 25, 3), (.aload_n 0, 1), (.getfield 54, 3), (.iaload, 1), (.istore_n 3, 1), (.iload_n 3, 1), (.bipush 60, 2), (.if_icmp .eq 15, 3), (.iload_n 3, 1), (.bipush 61, 2), (.if_icmp .eq 9, 3), (.iload_n 3, 1), (.bipush 62, 2), (.if_icmp .ne 43, 3), (.aload_n 0, 1), (.invokevirtual 126, 3), (.aload_n 0, 1), (.invokevirtual 148, 3), (.aload_n 0, 1), (.iload_n 3, 1), (.bipush 60, 2), (.if_icmp .ne 8, 3), (.bipush 6, 2), (.goto 16, 3), (.iload_n 3, 1), (.bipush 61, 2), (.if_icmp .ne 8, 3), (.bipush 7, 2), (.goto 5, 3), (.bipush 8, 2), (.iconst 0, 1), (.invokevirtual 144, 3), (.goto 8, 3), (.aload_n 0, 1), (.iconst 1, 1), (.invokevirtual 122, 3), (.return_, 1)]
theorem tX5_condition_ok : sgB cX5_condition 0 tX5_condition = true := by decide +kernel
def tX5_sum : List (Instr × Nat) := [(.aload_n 0, 1), (.invokevirtual 151, 3), (.iconst (-1), 1), (.istore_n 1, 1), (.iconst 0, 1), (.istore_n 2, 1), (.iload_n 2, 1), (.sipush 400, 3), (.if_icmp .ge 104, 3), (.aload_n 0, 1), (.getfield 34, 3), (.ifCond .ne 97, 3), (.aload_n 0, 1), (.getfield 25, 3), (.aload_n 0, 1), (.getfield 54, 3), (.iaload, 1), (.invokestatic 154, 3), (.ifCond .eq 82, 3), (.aload_n 0, 1), (.getfield 25, 3), (.aload_n 0, 1), (.getfield 54, 3), (.iaload, 1), (.istore_n 3, 1), (.aload_n 0, 1), (.invokevirtual 126, 3), (.iload_n 3, 1), (.bipush 47, 2), (.if_icmp .ne 10, 3), (.aload_n 0, 1), (.invokevirtual 157, 3), (.goto 49, 3), (.iload_n 3, 1), (.bipush 42, 2), (.if_icmp .ne 16, 3), (.aload_n 0, 1), (.invokevirtual 151, 3), (.aload_n 0, 1), (.iconst 4, 1), (.iconst 0, 1), (.invokevirtual 144, 3), (.goto 30, 3), (.iload_n 1, 1), (.iconst (-1), 1), (.if_icmp .eq 9, 3), (.aload_n 0, 1), (.iload_n 1, 1), (.iconst 0, 1), (.invokevirtual 144, 3), (.iload_n 3, 1), (.bipush 43, 2), (.if_icmp .ne 7, 3), (.iconst 2, 1), (.goto 4, 3), (.iconst 3, 1), (.istore_n 1, 1), (.aload_n 0, 1), (.invokevirtual 151, 3), (.iinc 2 1, 3), (.goto (-105), 3), (.iload_n 1, 1), (.iconst (-1), 1), (.if_icmp .eq 9, 3), (.aload_n 0, 1), (.iload_n 1, 1), (.iconst 0, 1), (.invokevirtual 144, 3), (.return_, 1)]
theorem tX5_sum_ok : sgB cX5_sum 0 tX5_sum = true := by decide +kernel
def tX5_isReckoning : List (Instr × Nat) := [(.iload_n 0, 1), (.bipush 43, 2), (.if_icmp .eq 21, 3), (.iload_n 0, 1), (.bipush 45, 2), (.if_icmp .eq 15, 3), (.iload_n 0, 1), (.bipush 42, 2), (.if_icmp .eq 9, 3), (.iload_n 0, 1), (.bipush 47, 2), (.if_icmp .ne 7, 3), (.iconst 1, 1), (.goto 4, 3), (.iconst 0, 1), (.ireturn, 1)]
theorem tX5_isReckoning_ok : sgB cX5_isReckoning 0 tX5_isReckoning = true := by decide +kernel
def tX5_divisor : List (Instr × Nat) := [(.aload_n 0, 1), (.getfield 25, 3), (.aload_n 0, 1), (.getfield 54, 3), (.iaload, 1), (.iconst 1, 1), (.if_icmp .eq 11, 3), (.aload_n 0, 1), (.iconst 1, 1), (.invokevirtual 122, 3), (.goto 41, 3), (.aload_n 0, 1), (.getfield 31, 3), (.aload_n 0, 1), (.getfield 54, 3), (.iaload, 1), (.ifCond .ne 11, 3), (.aload_n 0, 1), (.iconst 2, 1), (.invokevirtual 122, 3), (.goto 21, 3), (.aload_n 0, 1), (.iconst 5, 1), (.aload_n 0, 1), (.getfield 31, 3), (.aload_n 0, 1), (.getfield 54, 3), (.iaload, 1), (.invokevirtual 144, 3), (.aload_n 0, 1), (.invokevirtual 126, 3), (.return_, 1)]
theorem tX5_divisor_ok : sgB cX5_divisor 0 tX5_divisor = true := by decide +kernel
def tX5_unit : List (Instr × Nat) := [(.aload_n 0, 1), (.getfield 25, 3), (.aload_n 0, 1), (.getfield 54, 3), (.iaload, 1), (.istore_n 1, 1), (.aload_n 0, 1), (.getfield 40, 3), (.ifCond .eq 8, 3), (.bipush 105, 2), (.goto 5, 3), (.bipush 107, 2), (.istore_n 2, 1), (.iload_n 1, 1), (.iconst 1, 1), (.if_icmp .ne 24, 3), (.aload_n 0, 1), (.iconst 0, 1), (.aload_n 0, 1), (.getfield 31, 3), (.aload_n 0, 1), (.getfield 54, 3), (.iaload, 1), (.invokevirtual 144, 3), (.aload_n 0, 1), (.invokevirtual 126, 3), (.goto 28, 3), (.iload_n 1, 1), (.iload_n 2, 1), (.if_icmp .lt 18, 3), (.aload_n 0, 1), (.iconst 1, 1), (.iload_n 1, 1), (.iload_n 2, 1), (.isub, 1), (.invokevirtual 144, 3), (.aload_n 0, 1), (.invokevirtual 126, 3), (.goto 8, 3), (.aload_n 0, 1), (.iconst 1, 1), (.invokevirtual 122, 3), (.return_, 1)]
theorem tX5_unit_ok : sgB cX5_unit 0 tX5_unit = true := by decide +kernel
def tX6_init : List (Instr × Nat) := [(.aload_n 0, 1), (.invokespecial 3, 3), (.aload_n 0, 1), (.sipush 400, 3), (.newarray .int, 2), (.putfield 9, 3), (.return_, 1)]
theorem tX6_init_ok : sgB cX6_init 0 tX6_init = true := by decide +kernel
def tX6_put : List (Instr × Nat) := [(.bipush 24, 2), (.istore_n 2, 1), (.iload_n 2, 1), (.ifCond .lt 45, 3), (.aload_n 0, 1), (.getfield 15, 3), (.sipush 400, 3), (.if_icmp .ge 29, 3), (.aload_n 0, 1), (.getfield 9, 3), (.aload_n 0, 1), (.getfield 15, 3), (.iload_n 1, 1), (.iload_n 2, 1), (.iushr, 1), (.sipush 255, 3), (.iand, 1), (.iastore, 1), (.aload_n 0, 1), (.dup, 1), (.getfield 15, 3), (.iconst 1, 1), (.iadd, 1), (.putfield 15, 3), (.iinc 2 (-8), 3), (.goto (-43), 3), (.return_, 1)]
theorem tX6_put_ok : sgB cX6_put 0 tX6_put = true := by decide +kernel
def tX7_init : List (Instr × Nat) := [(.aload_n 0, 1), (.invokespecial 3, 3), (.aload_n 0, 1), (.iload_n 1, 1), (.putfield 9, 3), (.aload_n 0, 1), (.aload_n 2, 1), (.putfield 15, 3), (.aload_n 0, 1), (.aload_n 3, 1), (.putfield 19, 3), (.aload_n 0, 1), (.aload 4, 2), (.putfield 22, 3), (.return_, 1)]
theorem tX7_init_ok : sgB cX7_init 0 tX7_init = true := by decide +kernel
def tX7_deedOf : List (Instr × Nat) := [(.iload_n 1, 1), (.ifCond .lt 21, 3), (.iload_n 1, 1), (.aload_n 0, 1), (.getfield 19, 3), (.arraylength, 1), (.if_icmp .ge 12, 3), (.aload_n 0, 1), (.getfield 19, 3), (.iload_n 1, 1), (.iaload, 1), (.goto 4, 3), (.iconst 0, 1), (.ireturn, 1)]
theorem tX7_deedOf_ok : sgB cX7_deedOf 0 tX7_deedOf = true := by decide +kernel
def tX7_firstLine : List (Instr × Nat) := [(.iconst 0, 1), (.istore_n 3, 1), (.iload_n 3, 1), (.aload_n 0, 1), (.getfield 9, 3), (.if_icmp .ge 62, 3), (.iload_n 3, 1), (.iconst 1, 1), (.iadd, 1), (.aload_n 0, 1), (.getfield 15, 3), (.arraylength, 1), (.if_icmp .ge 51, 3), (.aload_n 0, 1), (.getfield 15, 3), (.iload_n 3, 1), (.iaload, 1), (.aload_n 0, 1), (.getfield 15, 3), (.iload_n 3, 1), (.iconst 1, 1), (.iadd, 1), (.iaload, 1), (.if_icmp .eq 26, 3), (.aload_n 0, 1), (.aload_n 0, 1), (.getfield 15, 3), (.iload_n 3, 1), (.iaload, 1), (.aload_n 0, 1), (.getfield 15, 3), (.iload_n 3, 1), (.iconst 1, 1), (.iadd, 1), (.iaload, 1), (.aload_n 1, 1), (.aload_n 2, 1), (.invokevirtual 25, 3), (.ifCond .eq 5, 3), (.iload_n 3, 1), (.ireturn, 1), (.iinc 3 1, 3), (.goto (-64), 3), (.iconst (-1), 1), (.ireturn, 1)]
theorem tX7_firstLine_ok : sgB cX7_firstLine 0 tX7_firstLine = true := by decide +kernel
def tX7_isSo : List (Instr × Nat) := [(.iconst 0, 1), (.istore 5, 2), (.iload_n 1, 1), (.istore 6, 2), (.iload 6, 2), (.iload_n 2, 1), (.if_icmp .ge 185, 3), (.iload 6, 2), (.aload_n 0, 1), (.getfield 22, 3), (.arraylength, 1), (.if_icmp .ge 175, 3), (.aload_n 0, 1), (.getfield 22, 3), (.iload 6, 2), (.iaload, 1), (.bipush 15, 2), (.iand, 1), (.istore 7, 2), (.aload_n 0, 1), (.getfield 22, 3), (.iload 6, 2), (.iaload, 1), (.iconst 4, 1), (.ishr, 1), (.istore 8, 2), (.iload 7, 2), (.ifCond .eq 9, 3), (.iload 7, 2), (.iconst 1, 1), (.if_icmp .ne 38, 3), (.iload 5, 2), (.aload 4, 2), (.arraylength, 1), (.if_icmp .ge 127, 3), (.aload 4, 2), (.iload 5, 2), (.iload 7, 2), (.ifCond .ne 8, 3), (.iload 8, 2), (.goto 9, 3), (.aload_n 3, 1), (.iload 8, 2), (.invokestatic 29, 3), (.iastore, 1), (.iinc 5 1, 3), (.goto 100, 3), (.iload 7, 2), (.iconst 5, 1), (.if_icmp .ne 29, 3), (.iload 5, 2), (.iconst 1, 1), (.if_icmp .lt 88, 3), (.iload 8, 2), (.ifCond .le 83, 3), (.aload 4, 2), (.iload 5, 2), (.iconst 1, 1), (.isub, 1), (.dup2, 1), (.iaload, 1), (.iload 8, 2), (.idiv, 1), (.iastore, 1), (.goto 68, 3), (.iload 7, 2), (.bipush 9, 2), (.if_icmp .ne 28, 3), (.iload 5, 2), (.iconst 1, 1), (.if_icmp .lt 55, 3), (.aload 4, 2), (.iload 5, 2), (.iconst 1, 1), (.isub, 1), (.iconst 1, 1), (.aload 4, 2), (.iload 5, 2), (.iconst 1, 1), (.isub, 1), (.iaload, 1), (.isub, 1), (.iastore, 1), (.goto 36, 3), (.iload 5, 2), (.iconst 2, 1), (.if_icmp .lt 30, 3), (.iinc 5 (-1), 3), (.aload 4, 2), (.iload 5, 2), (.iconst 1, 1), (.isub, 1), (.iload 7, 2), (.aload 4, 2), (.iload 5, 2), (.iconst 1, 1), (.isub, 1), (.iaload, 1), (.aload 4, 2), (.iload 5, 2), (.iaload, 1), (.invokestatic 33, 3), (.iastore, 1), (.iinc 6 1, 3), (.goto (-185), 3), (.iload 5, 2), (.iconst 1, 1), (.if_icmp .lt 14, 3), (.aload 4, 2), (.iconst 0, 1), (.iaload, 1), (.ifCond .eq 7, 3), (.iconst 1, 1), (.goto 4, 3), (.iconst 0, 1), (.ireturn, 1)]
theorem tX7_isSo_ok : sgB cX7_isSo 0 tX7_isSo = true := by decide +kernel
def tX7_valueAt : List (Instr × Nat) := [(.iload_n 1, 1), (.ifCond .lt 15, 3), (.iload_n 1, 1), (.aload_n 0, 1), (.arraylength, 1), (.if_icmp .ge 9, 3), (.aload_n 0, 1), (.iload_n 1, 1), (.iaload, 1), (.goto 4, 3), (.iconst 0, 1), (.ireturn, 1)]
theorem tX7_valueAt_ok : sgB cX7_valueAt 0 tX7_valueAt = true := by decide +kernel
def tX7_join : List (Instr × Nat) := [(.iload_n 0, 1), (.tableswitch 108 2 11 #[55, 59, 63, 108, 67, 78, 89, 108, 100, 104], 55), (.iload_n 1, 1), (.iload_n 2, 1), (.iadd, 1), (.ireturn, 1), (.iload_n 1, 1), (.iload_n 2, 1), (.isub, 1), (.ireturn, 1), (.iload_n 1, 1), (.iload_n 2, 1), (.imul, 1), (.ireturn, 1), (.iload_n 1, 1), (.iload_n 2, 1), (.if_icmp .ge 7, 3), (.iconst 1, 1), (.goto 4, 3), (.iconst 0, 1), (.ireturn, 1), (.iload_n 1, 1), (.iload_n 2, 1), (.if_icmp .ne 7, 3), (.iconst 1, 1), (.goto 4, 3), (.iconst 0, 1), (.ireturn, 1), (.iload_n 1, 1), (.iload_n 2, 1), (.if_icmp .le 7, 3), (.iconst 1, 1), (.goto 4, 3), (.iconst 0, 1), (.ireturn, 1), (.iload_n 1, 1), (.iload_n 2, 1), (.iand, 1), (.ireturn, 1), (.iload_n 1, 1), (.iload_n 2, 1), (.ior, 1), (.ireturn, 1), (.iconst 0, 1), (.ireturn, 1)]
theorem tX7_join_ok : sgB cX7_join 0 tX7_join = true := by decide +kernel
def tX8_init : List (Instr × Nat) := [(.aload_n 0, 1), (.invokespecial 3, 3), (.return_, 1)]
theorem tX8_init_ok : sgB cX8_init 0 tX8_init = true := by decide +kernel
def tX8_copyFrom : List (Instr × Nat) := [(.aload_n 0, 1), (.aload_n 1, 1), (.getfield 9, 3), (.putfield 9, 3), (.aload_n 0, 1), (.aload_n 1, 1), (.getfield 15, 3), (.putfield 15, 3), (.aload_n 0, 1), (.aload_n 1, 1), (.getfield 18, 3), (.putfield 18, 3), (.aload_n 0, 1), (.aload_n 1, 1), (.getfield 21, 3), (.putfield 21, 3), (.return_, 1)]
theorem tX8_copyFrom_ok : sgB cX8_copyFrom 0 tX8_copyFrom = true := by decide +kernel
def tX8_draw : List (Instr × Nat) := [(.aload_n 0, 1), (.ldc 24, 2), (.aload_n 0, 1), (.getfield 9, 3), (.imul, 1), (.ldc 25, 2), (.iadd, 1), (.putfield 9, 3), (.iload_n 1, 1), (.ifCond .le 15, 3), (.aload_n 0, 1), (.getfield 9, 3), (.bipush 8, 2), (.iushr, 1), (.iload_n 1, 1), (.irem, 1), (.goto 4, 3), (.iconst 0, 1), (.ireturn, 1)]
theorem tX8_draw_ok : sgB cX8_draw 0 tX8_draw = true := by decide +kernel
def tX8_hour : List (Instr × Nat) := [(.aload_n 0, 1), (.getfield 18, 3), (.iconst 4, 1), (.idiv, 1), (.ireturn, 1)]
theorem tX8_hour_ok : sgB cX8_hour 0 tX8_hour = true := by decide +kernel
def tX8_isNight : List (Instr × Nat) := [(.aload_n 0, 1), (.invokevirtual 26, 3), (.invokestatic 30, 3), (.ireturn, 1)]
theorem tX8_isNight_ok : sgB cX8_isNight 0 tX8_isNight = true := by decide +kernel
def tX8_isFeast : List (Instr × Nat) := [(.aload_n 0, 1), (.aload_n 0, 1), (.getfield 15, 3), (.invokevirtual 34, 3), (.ireturn, 1)]
theorem tX8_isFeast_ok : sgB cX8_isFeast 0 tX8_isFeast = true := by decide +kernel
def tX8_isFeastOn : List (Instr × Nat) := [(.aload_n 0, 1), (.getfield 21, 3), (.ifCond .le 16, 3), (.iload_n 1, 1), (.aload_n 0, 1), (.getfield 21, 3), (.irem, 1), (.ifCond .ne 7, 3), (.iconst 1, 1), (.goto 4, 3), (.iconst 0, 1), (.ireturn, 1)]
theorem tX8_isFeastOn_ok : sgB cX8_isFeastOn 0 tX8_isFeastOn = true := by decide +kernel
def tX8_goOn : List (Instr × Nat) := [(.aload_n 0, 1), (.dup, 1), (.getfield 18, 3), (.iconst 1, 1), (.iadd, 1), (.putfield 18, 3), (.aload_n 0, 1), (.getfield 18, 3), (.bipush 96, 2), (.if_icmp .lt 18, 3), (.aload_n 0, 1), (.iconst 0, 1), (.putfield 18, 3), (.aload_n 0, 1), (.dup, 1), (.getfield 15, 3), (.iconst 1, 1), (.iadd, 1), (.putfield 15, 3), (.return_, 1)]
theorem tX8_goOn_ok : sgB cX8_goOn 0 tX8_goOn = true := by decide +kernel
def tX9_init : List (Instr × Nat) := [(.aload_n 0, 1), (.invokespecial 3, 3), (.aload_n 0, 1), (.bipush 36, 2), (.newarray .int, 2), (.putfield 9, 3), (.aload_n 0, 1), (.bipush 24, 2), (.newarray .int, 2), (.putfield 15, 3), (.aload_n 0, 1), (.iconst (-1), 1), (.putfield 18, 3), (.aload_n 0, 1), (.iconst 5, 1), (.putfield 22, 3), (.aload_n 0, 1), (.getfield 9, 3), (.bipush 20, 2), (.invokestatic 25, 3), (.iconst 0, 1), (.istore_n 1, 1), (.iload_n 1, 1), (.bipush 6, 2), (.if_icmp .ge 21, 3), (.aload_n 0, 1), (.getfield 9, 3), (.iload_n 1, 1), (.bipush 6, 2), (.imul, 1), (.iload_n 1, 1), (.iadd, 1), (.iconst 0, 1), (.iastore, 1), (.iinc 1 1, 3), (.goto (-21), 3), (.return_, 1)]
theorem tX9_init_ok : sgB cX9_init 0 tX9_init = true := by decide +kernel
def tX9_copyFrom : List (Instr × Nat) := [(.aload_n 1, 1), (.getfield 9, 3), (.iconst 0, 1), (.aload_n 0, 1), (.getfield 9, 3), (.iconst 0, 1), (.aload_n 0, 1), (.getfield 9, 3), (.arraylength, 1), (.invokestatic 31, 3), (.aload_n 1, 1), (.getfield 15, 3), (.iconst 0, 1), (.aload_n 0, 1), (.getfield 15, 3), (.iconst 0, 1), (.aload_n 0, 1), (.getfield 15, 3), (.arraylength, 1), (.invokestatic 31, 3), (.aload_n 0, 1), (.aload_n 1, 1), (.getfield 18, 3), (.putfield 18, 3), (.aload_n 0, 1), (.aload_n 1, 1), (.getfield 22, 3), (.putfield 22, 3), (.aload_n 0, 1), (.aload_n 1, 1), (.getfield 37, 3), (.putfield 37, 3), (.aload_n 0, 1), (.aload_n 1, 1), (.getfield 40, 3), (.putfield 40, 3), (.aload_n 0, 1), (.aload_n 1, 1), (.getfield 43, 3), (.putfield 43, 3), (.return_, 1)]
theorem tX9_copyFrom_ok : sgB cX9_copyFrom 0 tX9_copyFrom = true := by decide +kernel
def tX9_putWall : List (Instr × Nat) := [(.aload_n 0, 1), (.getfield 9, 3), (.iload_n 1, 1), (.bipush 6, 2), (.imul, 1), (.iload_n 2, 1), (.iadd, 1), (.iload_n 3, 1), (.iastore, 1), (.aload_n 0, 1), (.getfield 9, 3), (.iload_n 2, 1), (.bipush 6, 2), (.imul, 1), (.iload_n 1, 1), (.iadd, 1), (.iload_n 3, 1), (.iastore, 1), (.return_, 1)]
theorem tX9_putWall_ok : sgB cX9_putWall 0 tX9_putWall = true := by decide +kernel
def tX9_wallBetween : List (Instr × Nat) := [(.iload_n 1, 1), (.bipush 6, 2), (.imul, 1), (.iload_n 2, 1), (.iadd, 1), (.istore_n 3, 1), (.iload_n 3, 1), (.ifCond .lt 21, 3), (.iload_n 3, 1), (.aload_n 0, 1), (.getfield 9, 3), (.arraylength, 1), (.if_icmp .ge 12, 3), (.aload_n 0, 1), (.getfield 9, 3), (.iload_n 3, 1), (.iaload, 1), (.goto 4, 3), (.iconst 0, 1), (.ireturn, 1)]
theorem tX9_wallBetween_ok : sgB cX9_wallBetween 0 tX9_wallBetween = true := by decide +kernel
def tX9_placeAt : List (Instr × Nat) := [(.iload_n 1, 1), (.ifCond .lt 21, 3), (.iload_n 1, 1), (.aload_n 0, 1), (.getfield 15, 3), (.arraylength, 1), (.if_icmp .ge 12, 3), (.aload_n 0, 1), (.getfield 15, 3), (.iload_n 1, 1), (.iaload, 1), (.goto 4, 3), (.iconst 0, 1), (.ireturn, 1)]
theorem tX9_placeAt_ok : sgB cX9_placeAt 0 tX9_placeAt = true := by decide +kernel
def tX10_init : List (Instr × Nat) := [(.aload_n 0, 1), (.invokespecial 3, 3), (.aload_n 0, 1), (.new 9, 3), (.dup, 1), (.invokespecial 11, 3), (.putfield 12, 3), (.aload_n 0, 1), (.new 18, 3), (.dup, 1), (.invokespecial 20, 3), (.putfield 21, 3), (.aload_n 0, 1), (.new 25, 3), (.dup, 1), (.invokespecial 27, 3), (.putfield 28, 3), (.aload_n 0, 1), (.new 32, 3), (.dup, 1), (.invokespecial 34, 3), (.putfield 35, 3), (.aload_n 0, 1), (.new 39, 3), (.dup, 1), (.invokespecial 41, 3), (.putfield 42, 3), (.aload_n 0, 1), (.bipush 6, 2), (.anewarray 46, 3), (.putfield 48, 3), (.aload_n 0, 1), (.bipush 8, 2), (.newarray .int, 2), (.putfield 52, 3), (.aload_n 0, 1), (.bipush 32, 2), (.newarray .int, 2), (.putfield 56, 3), (.aload_n 0, 1), (.bipush 12, 2), (.newarray .int, 2), (.putfield 59, 3), (.aload_n 0, 1), (.new 62, 3), (.dup, 1), (.iload_n 1, 1), (.invokespecial 64, 3), (.putfield 67, 3), (.iconst 0, 1), (.istore_n 3, 1), (.iload_n 3, 1), (.aload_n 0, 1), (.getfield 48, 3), (.arraylength, 1), (.if_icmp .ge 16, 3), (.aload_n 0, 1), (.getfield 48, 3), (.iload_n 3, 1), (.aload_n 2, 1), (.aastore, 1), (.iinc 3 1, 3), (.goto (-19), 3), (.return_, 1)]
theorem tX10_init_ok : sgB cX10_init 0 tX10_init = true := by decide +kernel
def tX10_copyFrom : List (Instr × Nat) := [(.aload_n 0, 1), (.getfield 12, 3), (.aload_n 1, 1), (.getfield 12, 3), (.invokevirtual 71, 3), (.aload_n 0, 1), (.getfield 21, 3), (.aload_n 1, 1), (.getfield 21, 3), (.invokevirtual 75, 3), (.aload_n 0, 1), (.getfield 28, 3), (.aload_n 1, 1), (.getfield 28, 3), (.invokevirtual 78, 3), (.aload_n 0, 1), (.getfield 35, 3), (.aload_n 1, 1), (.getfield 35, 3), (.invokevirtual 81, 3), (.aload_n 0, 1), (.getfield 67, 3), (.aload_n 1, 1), (.getfield 67, 3), (.invokevirtual 84, 3), (.aload_n 0, 1), (.getfield 42, 3), (.aload_n 1, 1), (.getfield 42, 3), (.invokevirtual 87, 3), (.iconst 0, 1), (.istore_n 2, 1), (.iload_n 2, 1), (.aload_n 0, 1), (.getfield 48, 3), (.arraylength, 1), (.if_icmp .ge 21, 3), (.aload_n 0, 1), (.getfield 48, 3), (.iload_n 2, 1), (.aload_n 1, 1), (.getfield 48, 3), (.iload_n 2, 1), (.aaload, 1), (.aastore, 1), (.iinc 2 1, 3), (.goto (-24), 3), (.return_, 1)]
theorem tX10_copyFrom_ok : sgB cX10_copyFrom 0 tX10_copyFrom = true := by decide +kernel
def tX10_change : List (Instr × Nat) := [(.iload_n 1, 1), (.tableswitch 120 1 7 #[43, 54, 65, 76, 87, 98, 109], 43), (.aload_n 0, 1), (.getfield 28, 3), (.iload_n 2, 1), (.putfield 90, 3), (.goto 69, 3), (.aload_n 0, 1), (.getfield 28, 3), (.iload_n 2, 1), (.putfield 94, 3), (.goto 58, 3), (.aload_n 0, 1), (.getfield 28, 3), (.iload_n 2, 1), (.putfield 97, 3), (.goto 47, 3), (.aload_n 0, 1), (.getfield 35, 3), (.iload_n 2, 1), (.putfield 100, 3), (.goto 36, 3), (.aload_n 0, 1), (.getfield 28, 3), (.iload_n 2, 1), (.putfield 103, 3), (.goto 25, 3), (.aload_n 0, 1), (.getfield 35, 3), (.iload_n 2, 1), (.putfield 106, 3), (.goto 14, 3), (.aload_n 0, 1), (.getfield 35, 3), (.iload_n 2, 1), (.putfield 109, 3), (.goto 3, 3), (.return_, 1)]
theorem tX10_change_ok : sgB cX10_change 0 tX10_change = true := by decide +kernel
def tX10_isWord : List (Instr × Nat) := [(.iload_n 1, 1), (.invokestatic 112, 3), (.ifCond .ne 5, 3), (.iconst 0, 1), (.ireturn, 1), (.aload_n 0, 1), (.getfield 52, 3), (.iconst 0, 1), (.iload_n 3, 1), (.iastore, 1), (.aload_n 0, 1), (.getfield 52, 3), (.iconst 1, 1), (.iload_n 2, 1), (.iastore, 1), (.aload_n 0, 1), (.getfield 52, 3), (.iconst 2, 1), (.iload 4, 2), (.iastore, 1), (.aload_n 0, 1), (.getfield 52, 3), (.iconst 3, 1), (.iload 4, 2), (.invokestatic 116, 3), (.ifCond .eq 7, 3), (.iconst 1, 1), (.goto 4, 3), (.iconst 0, 1), (.iastore, 1), (.aload_n 0, 1), (.getfield 52, 3), (.iconst 4, 1), (.iload 6, 2), (.ifCond .eq 7, 3), (.iconst 1, 1), (.goto 4, 3), (.iconst 0, 1), (.iastore, 1), (.aload_n 0, 1), (.getfield 52, 3), (.iconst 5, 1), (.iload 5, 2), (.ifCond .eq 7, 3), (.iconst 1, 1), (.goto 4, 3), (.iconst 0, 1), (.iastore, 1), (.aload_n 0, 1), (.getfield 48, 3), (.iload_n 1, 1), (.aaload, 1), (.aload_n 0, 1), (.getfield 52, 3), (.aload_n 0, 1), (.getfield 56, 3), (.invokevirtual 119, 3), (.iconst (-1), 1), (.if_icmp .eq 7, 3), (.iconst 1, 1), (.goto 4, 3), (.iconst 0, 1), (.ireturn, 1)]
theorem tX10_isWord_ok : sgB cX10_isWord 0 tX10_isWord = true := by decide +kernel
def tX10_deedOf : List (Instr × Nat) := [(.aload_n 0, 1), (.getfield 12, 3), (.getfield 123, 3), (.iload_n 1, 1), (.iaload, 1), (.istore_n 2, 1), (.iload_n 2, 1), (.ifCond .lt 8, 3), (.iload_n 2, 1), (.iconst 4, 1), (.if_icmp .lt 5, 3), (.iconst 0, 1), (.ireturn, 1), (.aload_n 0, 1), (.getfield 52, 3), (.iconst 0, 1), (.aload_n 0, 1), (.getfield 35, 3), (.invokevirtual 126, 3), (.iastore, 1), (.aload_n 0, 1), (.getfield 52, 3), (.iconst 1, 1), (.aload_n 0, 1), (.getfield 35, 3), (.getfield 109, 3), (.iconst 4, 1), (.irem, 1), (.iastore, 1), (.aload_n 0, 1), (.getfield 52, 3), (.iconst 2, 1), (.aload_n 0, 1), (.getfield 35, 3), (.getfield 106, 3), (.iastore, 1), (.aload_n 0, 1), (.getfield 52, 3), (.iconst 3, 1), (.aload_n 0, 1), (.getfield 35, 3), (.invokevirtual 130, 3), (.ifCond .eq 7, 3), (.iconst 1, 1), (.goto 4, 3), (.iconst 0, 1), (.iastore, 1), (.aload_n 0, 1), (.getfield 52, 3), (.iconst 4, 1), (.aload_n 0, 1), (.getfield 35, 3), (.invokevirtual 134, 3), (.ifCond .eq 7, 3), (.iconst 1, 1), (.goto 4, 3), (.iconst 0, 1), (.iastore, 1), (.aload_n 0, 1), (.getfield 52, 3), (.iconst 5, 1), (.aload_n 0, 1), (.getfield 21, 3), (.getfield 137, 3), (.iload_n 1, 1), (.iaload, 1), (.iastore, 1), (.aload_n 0, 1), (.getfield 52, 3), (.bipush 6, 2), (.aload_n 0, 1), (.getfield 21, 3), (.getfield 140, 3), (.iload_n 1, 1), (.iaload, 1), (.iastore, 1), (.aload_n 0, 1), (.getfield 52, 3), (.bipush 7, 2), (.aload_n 0, 1), (.getfield 12, 3), (.iload_n 1, 1), (.invokevirtual 143, 3), (.iastore, 1), (.aload_n 0, 1), (.getfield 48, 3), (.iconst 2, 1), (.iload_n 2, 1), (.iadd, 1), (.aaload, 1), (.astore_n 3, 1), (.aload_n 3, 1), (.aload_n 3, 1), (.aload_n 0, 1), (.getfield 52, 3), (.aload_n 0, 1), (.getfield 56, 3), (.invokevirtual 119, 3), (.invokevirtual 147, 3), (.ireturn, 1)]
theorem tX10_deedOf_ok : sgB cX10_deedOf 0 tX10_deedOf = true := by decide +kernel
def tX10_pass : List (Instr × Nat) := [(.aload_n 0, 1), (.getfield 35, 3), (.invokevirtual 130, 3), (.ifCond .ne 10, 3), (.aload_n 0, 1), (.getfield 21, 3), (.invokevirtual 150, 3), (.iconst 0, 1), (.istore_n 1, 1), (.iload_n 1, 1), (.aload_n 0, 1), (.getfield 12, 3), (.getfield 153, 3), (.if_icmp .ge 19, 3), (.aload_n 0, 1), (.iload_n 1, 1), (.invokevirtual 156, 3), (.aload_n 0, 1), (.iload_n 1, 1), (.invokevirtual 159, 3), (.iinc 1 1, 3), (.goto (-24), 3), (.aload_n 0, 1), (.getfield 12, 3), (.aload_n 0, 1), (.getfield 28, 3), (.getfield 162, 3), (.invokevirtual 165, 3), (.ifCond .eq 24, 3), (.aload_n 0, 1), (.getfield 35, 3), (.invokevirtual 134, 3), (.ifCond .ne 14, 3), (.aload_n 0, 1), (.aload_n 0, 1), (.getfield 28, 3), (.getfield 162, 3), (.invokevirtual 168, 3), (.aload_n 0, 1), (.getfield 35, 3), (.invokevirtual 171, 3), (.return_, 1)]
theorem tX10_pass_ok : sgB cX10_pass 0 tX10_pass = true := by decide +kernel
def tX10_makeNoise : List (Instr × Nat) := [(.aload_n 0, 1), (.getfield 12, 3), (.iload_n 1, 1), (.invokevirtual 174, 3), (.aload_n 0, 1), (.getfield 12, 3), (.getfield 177, 3), (.iload_n 1, 1), (.iaload, 1), (.istore_n 2, 1), (.iload_n 2, 1), (.iconst 1, 1), (.if_icmp .ne 43, 3), (.aload_n 0, 1), (.getfield 35, 3), (.sipush 1000, 3), (.invokevirtual 180, 3), (.aload_n 0, 1), (.getfield 12, 3), (.getfield 183, 3), (.iload_n 1, 1), (.iaload, 1), (.if_icmp .ge 120, 3), (.aload_n 0, 1), (.iload_n 1, 1), (.iconst 2, 1), (.aload_n 0, 1), (.getfield 12, 3), (.getfield 186, 3), (.iload_n 1, 1), (.iaload, 1), (.invokevirtual 189, 3), (.goto 102, 3), (.iload_n 2, 1), (.ifCond .ne 55, 3), (.aload_n 0, 1), (.getfield 35, 3), (.invokevirtual 130, 3), (.ifCond .eq 45, 3), (.aload_n 0, 1), (.getfield 35, 3), (.sipush 1000, 3), (.invokevirtual 180, 3), (.aload_n 0, 1), (.getfield 12, 3), (.getfield 183, 3), (.iload_n 1, 1), (.iaload, 1), (.if_icmp .ge 66, 3), (.aload_n 0, 1), (.iload_n 1, 1), (.iconst 1, 1), (.aload_n 0, 1), (.getfield 12, 3), (.getfield 186, 3), (.iload_n 1, 1), (.iaload, 1), (.iconst 2, 1), (.idiv, 1), (.invokevirtual 189, 3), (.goto 46, 3), (.iload_n 2, 1), (.ifCond .ne 42, 3), (.aload_n 0, 1), (.iload_n 1, 1), (.invokevirtual 193, 3), (.istore_n 3, 1), (.iload_n 3, 1), (.bipush 101, 2), (.if_icmp .lt 16, 3), (.aload_n 0, 1), (.iload_n 1, 1), (.iconst 3, 1), (.iload_n 3, 1), (.bipush 101, 2), (.isub, 1), (.invokevirtual 189, 3), (.goto 17, 3), (.iload_n 3, 1), (.iconst 1, 1), (.if_icmp .lt 12, 3), (.aload_n 0, 1), (.iload_n 1, 1), (.iconst 0, 1), (.iload_n 3, 1), (.iconst 1, 1), (.isub, 1), (.invokevirtual 189, 3), (.return_, 1)]
theorem tX10_makeNoise_ok : sgB cX10_makeNoise 0 tX10_makeNoise = true := by decide +kernel
def tX10_putNoise : List (Instr × Nat) := [(.aload_n 0, 1), (.getfield 12, 3), (.getfield 194, 3), (.iload_n 1, 1), (.iload_n 2, 1), (.iastore, 1), (.aload_n 0, 1), (.getfield 12, 3), (.getfield 197, 3), (.iload_n 1, 1), (.iload_n 3, 1), (.iastore, 1), (.return_, 1)]
theorem tX10_putNoise_ok : sgB cX10_putNoise 0 tX10_putNoise = true := by decide +kernel
def tX10_judgeNoise : List (Instr × Nat) := [(.aload_n 0, 1), (.getfield 12, 3), (.getfield 194, 3), (.iload_n 1, 1), (.iaload, 1), (.istore_n 2, 1), (.iload_n 2, 1), (.iconst (-1), 1), (.if_icmp .ne 4, 3), (.return_, 1), (.aload_n 0, 1), (.getfield 12, 3), (.getfield 177, 3), (.iload_n 1, 1), (.iaload, 1), (.iconst 1, 1), (.if_icmp .ne 7, 3), (.iconst 1, 1), (.goto 4, 3), (.iconst 0, 1), (.istore_n 3, 1), (.aload_n 0, 1), (.aload_n 0, 1), (.getfield 28, 3), (.getfield 103, 3), (.iload_n 2, 1), (.aload_n 0, 1), (.getfield 12, 3), (.getfield 197, 3), (.iload_n 1, 1), (.iaload, 1), (.aload_n 0, 1), (.getfield 35, 3), (.invokevirtual 126, 3), (.iload_n 3, 1), (.aload_n 0, 1), (.getfield 35, 3), (.invokevirtual 134, 3), (.invokevirtual 200, 3), (.istore 4, 2), (.aload_n 0, 1), (.getfield 12, 3), (.getfield 204, 3), (.iload_n 1, 1), (.iload 4, 2), (.ifCond .eq 7, 3), (.iconst 1, 1), (.goto 4, 3), (.iconst 0, 1), (.iastore, 1), (.return_, 1)]
theorem tX10_judgeNoise_ok : sgB cX10_judgeNoise 0 tX10_judgeNoise = true := by decide +kernel
def tX10_ring : List (Instr × Nat) := [(.aload_n 0, 1), (.getfield 12, 3), (.getfield 204, 3), (.iload_n 1, 1), (.iaload, 1), (.iconst 1, 1), (.if_icmp .ne 31, 3), (.aload_n 0, 1), (.getfield 67, 3), (.dup, 1), (.getfield 207, 3), (.iconst 1, 1), (.iadd, 1), (.putfield 207, 3), (.aload_n 0, 1), (.getfield 67, 3), (.aload_n 0, 1), (.getfield 35, 3), (.iconst 3, 1), (.iload_n 1, 1), (.iconst (-1), 1), (.invokevirtual 210, 3), (.return_, 1), (.aload_n 0, 1), (.invokevirtual 214, 3), (.iconst 0, 1), (.istore_n 2, 1), (.iload_n 2, 1), (.aload_n 0, 1), (.getfield 12, 3), (.getfield 153, 3), (.if_icmp .ge 30, 3), (.aload_n 0, 1), (.getfield 59, 3), (.iload_n 2, 1), (.iaload, 1), (.iconst (-1), 1), (.if_icmp .eq 14, 3), (.aload_n 0, 1), (.iload_n 2, 1), (.aload_n 0, 1), (.getfield 59, 3), (.iload_n 2, 1), (.iaload, 1), (.invokevirtual 217, 3), (.iinc 2 1, 3), (.goto (-35), 3), (.return_, 1)]
theorem tX10_ring_ok : sgB cX10_ring 0 tX10_ring = true := by decide +kernel
def tX10_chooseDebts : List (Instr × Nat) := [(.aload_n 0, 1), (.getfield 59, 3), (.iconst (-1), 1), (.invokestatic 221, 3), (.iconst 0, 1), (.istore_n 1, 1), (.iload_n 1, 1), (.aload_n 0, 1), (.getfield 21, 3), (.getfield 227, 3), (.if_icmp .ge 79, 3), (.aload_n 0, 1), (.getfield 21, 3), (.iload_n 1, 1), (.invokevirtual 228, 3), (.istore_n 2, 1), (.aload_n 0, 1), (.getfield 21, 3), (.getfield 231, 3), (.iload_n 1, 1), (.iaload, 1), (.ifCond .le 52, 3), (.aload_n 0, 1), (.getfield 12, 3), (.iload_n 2, 1), (.invokevirtual 165, 3), (.ifCond .eq 41, 3), (.aload_n 0, 1), (.getfield 59, 3), (.iload_n 2, 1), (.iaload, 1), (.istore_n 3, 1), (.iload_n 3, 1), (.iconst (-1), 1), (.if_icmp .eq 22, 3), (.aload_n 0, 1), (.getfield 21, 3), (.iload_n 1, 1), (.iload_n 3, 1), (.aload_n 0, 1), (.getfield 28, 3), (.getfield 97, 3), (.invokevirtual 234, 3), (.ifCond .eq 10, 3), (.aload_n 0, 1), (.getfield 59, 3), (.iload_n 2, 1), (.iload_n 1, 1), (.iastore, 1), (.iinc 1 1, 3), (.goto (-84), 3), (.return_, 1)]
theorem tX10_chooseDebts_ok : sgB cX10_chooseDebts 0 tX10_chooseDebts = true := by decide +kernel
def tX10_keepQuiet : List (Instr × Nat) := [(.aload_n 0, 1), (.iload_n 1, 1), (.invokevirtual 238, 3), (.ifCond .eq 13, 3), (.aload_n 0, 1), (.iload_n 1, 1), (.iload_n 2, 1), (.iconst 1, 1), (.invokevirtual 241, 3), (.goto 62, 3), (.aload_n 0, 1), (.getfield 28, 3), (.getfield 94, 3), (.ifCond .le 46, 3), (.aload_n 0, 1), (.getfield 35, 3), (.sipush 1000, 3), (.invokevirtual 180, 3), (.aload_n 0, 1), (.getfield 28, 3), (.getfield 94, 3), (.if_icmp .ge 26, 3), (.aload_n 0, 1), (.getfield 67, 3), (.dup, 1), (.getfield 244, 3), (.iconst 1, 1), (.iadd, 1), (.putfield 244, 3), (.aload_n 0, 1), (.iload_n 1, 1), (.iload_n 2, 1), (.iconst 2, 1), (.invokevirtual 241, 3), (.goto 9, 3), (.aload_n 0, 1), (.iload_n 1, 1), (.iload_n 2, 1), (.invokevirtual 247, 3), (.return_, 1)]
theorem tX10_keepQuiet_ok : sgB cX10_keepQuiet 0 tX10_keepQuiet = true := by decide +kernel
def tX10_isWordHeardOf : List (Instr × Nat) := [(.aload_n 0, 1), (.iload_n 1, 1), (.invokevirtual 250, 3), (.istore_n 2, 1), (.iconst 0, 1), (.istore_n 3, 1), (.iload_n 3, 1), (.aload_n 0, 1), (.getfield 12, 3), (.getfield 153, 3), (.if_icmp .ge 40, 3), (.iload_n 2, 1), (.ifCond .ne 36, 3), (.aload_n 0, 1), (.getfield 12, 3), (.getfield 253, 3), (.iload_n 3, 1), (.iaload, 1), (.iload_n 1, 1), (.if_icmp .ne 15, 3), (.aload_n 0, 1), (.iload_n 3, 1), (.invokevirtual 250, 3), (.ifCond .eq 7, 3), (.iconst 1, 1), (.goto 4, 3), (.iconst 0, 1), (.istore_n 2, 1), (.iinc 3 1, 3), (.goto (-45), 3), (.iload_n 2, 1), (.ireturn, 1)]
theorem tX10_isWordHeardOf_ok : sgB cX10_isWordHeardOf 0 tX10_isWordHeardOf = true := by decide +kernel
def tX10_isHeard : List (Instr × Nat) := [(.aload_n 0, 1), (.getfield 12, 3), (.getfield 204, 3), (.iload_n 1, 1), (.iaload, 1), (.iconst 1, 1), (.if_icmp .eq 5, 3), (.iconst 0, 1), (.ireturn, 1), (.aload_n 0, 1), (.getfield 28, 3), (.aload_n 0, 1), (.getfield 12, 3), (.getfield 256, 3), (.iload_n 1, 1), (.iaload, 1), (.aload_n 0, 1), (.getfield 28, 3), (.aload_n 0, 1), (.getfield 35, 3), (.invokevirtual 126, 3), (.invokevirtual 259, 3), (.invokevirtual 262, 3), (.istore_n 2, 1), (.aload_n 0, 1), (.getfield 12, 3), (.getfield 197, 3), (.iload_n 1, 1), (.iaload, 1), (.iload_n 2, 1), (.isub, 1), (.aload_n 0, 1), (.getfield 28, 3), (.getfield 90, 3), (.if_icmp .lt 7, 3), (.iconst 1, 1), (.goto 4, 3), (.iconst 0, 1), (.ireturn, 1)]
theorem tX10_isHeard_ok : sgB cX10_isHeard 0 tX10_isHeard = true := by decide +kernel
def tX10_beginAgain : List (Instr × Nat) := [(.aload_n 0, 1), (.getfield 21, 3), (.getfield 266, 3), (.iload_n 2, 1), (.iaload, 1), (.ifCond .le 30, 3), (.aload_n 0, 1), (.getfield 67, 3), (.dup, 1), (.getfield 269, 3), (.iconst 1, 1), (.iadd, 1), (.putfield 269, 3), (.aload_n 0, 1), (.getfield 67, 3), (.aload_n 0, 1), (.getfield 35, 3), (.iload_n 3, 1), (.iload_n 1, 1), (.iload_n 2, 1), (.invokevirtual 210, 3), (.aload_n 0, 1), (.getfield 21, 3), (.getfield 266, 3), (.iload_n 2, 1), (.iconst 0, 1), (.iastore, 1), (.return_, 1)]
theorem tX10_beginAgain_ok : sgB cX10_beginAgain 0 tX10_beginAgain = true := by decide +kernel
def tX10_payQuarter : List (Instr × Nat) := [(.aload_n 0, 1), (.getfield 21, 3), (.getfield 266, 3), (.iload_n 2, 1), (.dup2, 1), (.iaload, 1), (.iconst 1, 1), (.iadd, 1), (.iastore, 1), (.aload_n 0, 1), (.getfield 21, 3), (.getfield 266, 3), (.iload_n 2, 1), (.iaload, 1), (.iconst 4, 1), (.if_icmp .ge 4, 3), (.return_, 1), (.aload_n 0, 1), (.getfield 21, 3), (.getfield 266, 3), (.iload_n 2, 1), (.iconst 0, 1), (.iastore, 1), (.aload_n 0, 1), (.getfield 21, 3), (.getfield 231, 3), (.iload_n 2, 1), (.dup2, 1), (.iaload, 1), (.iconst 1, 1), (.isub, 1), (.iastore, 1), (.aload_n 0, 1), (.getfield 21, 3), (.getfield 272, 3), (.iload_n 2, 1), (.dup2, 1), (.iaload, 1), (.iconst 1, 1), (.iadd, 1), (.iastore, 1), (.aload_n 0, 1), (.getfield 67, 3), (.dup, 1), (.getfield 275, 3), (.iconst 1, 1), (.iadd, 1), (.putfield 275, 3), (.aload_n 0, 1), (.getfield 67, 3), (.aload_n 0, 1), (.getfield 35, 3), (.iconst 0, 1), (.iload_n 1, 1), (.iload_n 2, 1), (.invokevirtual 210, 3), (.aload_n 0, 1), (.getfield 21, 3), (.getfield 231, 3), (.iload_n 2, 1), (.iaload, 1), (.ifCond .ne 17, 3), (.aload_n 0, 1), (.getfield 67, 3), (.aload_n 0, 1), (.getfield 35, 3), (.iconst 4, 1), (.iload_n 1, 1), (.iload_n 2, 1), (.invokevirtual 210, 3), (.return_, 1)]
theorem tX10_payQuarter_ok : sgB cX10_payQuarter 0 tX10_payQuarter = true := by decide +kernel
def tX10_tillQuiet : List (Instr × Nat) := [(.aload_n 0, 1), (.getfield 67, 3), (.getfield 275, 3), (.aload_n 0, 1), (.getfield 21, 3), (.invokevirtual 277, 3), (.iadd, 1), (.istore_n 1, 1), (.iload_n 1, 1), (.aload_n 0, 1), (.getfield 67, 3), (.getfield 275, 3), (.if_icmp .le 27, 3), (.aload_n 0, 1), (.getfield 28, 3), (.getfield 162, 3), (.iconst (-1), 1), (.if_icmp .eq 14, 3), (.aload_n 0, 1), (.getfield 35, 3), (.getfield 100, 3), (.iconst 1, 1), (.if_icmp .ne 5, 3), (.iconst (-1), 1), (.ireturn, 1), (.iconst 0, 1), (.istore_n 2, 1), (.iload_n 2, 1), (.sipush 5760, 3), (.if_icmp .ge 26, 3), (.aload_n 0, 1), (.getfield 67, 3), (.getfield 275, 3), (.iload_n 1, 1), (.if_icmp .ne 5, 3), (.iload_n 2, 1), (.ireturn, 1), (.aload_n 0, 1), (.invokevirtual 280, 3), (.iinc 2 1, 3), (.goto (-27), 3), (.aload_n 0, 1), (.getfield 67, 3), (.getfield 275, 3), (.iload_n 1, 1), (.if_icmp .ne 9, 3), (.sipush 5760, 3), (.goto 4, 3), (.iconst (-1), 1), (.ireturn, 1)]
theorem tX10_tillQuiet_ok : sgB cX10_tillQuiet 0 tX10_tillQuiet = true := by decide +kernel
def tX10_byWhom : List (Instr × Nat) := [(.iconst 0, 1), (.istore 5, 2), (.iconst 0, 1), (.istore 6, 2), (.iload 6, 2), (.aload_n 0, 1), (.getfield 12, 3), (.getfield 153, 3), (.if_icmp .ge 54, 3), (.iload 4, 2), (.aload_n 0, 1), (.getfield 28, 3), (.aload_n 0, 1), (.getfield 12, 3), (.getfield 256, 3), (.iload 6, 2), (.iaload, 1), (.iload_n 1, 1), (.invokevirtual 262, 3), (.iadd, 1), (.istore 7, 2), (.aload_n 0, 1), (.iload 6, 2), (.iload 7, 2), (.iload_n 3, 1), (.iload_n 2, 1), (.invokevirtual 283, 3), (.ifCond .eq 12, 3), (.iload 5, 2), (.iconst 1, 1), (.iload 6, 2), (.ishl, 1), (.ior, 1), (.istore 5, 2), (.iinc 6 1, 3), (.goto (-60), 3), (.iload 5, 2), (.ireturn, 1)]
theorem tX10_byWhom_ok : sgB cX10_byWhom 0 tX10_byWhom = true := by decide +kernel
def tX10_canMakeWord : List (Instr × Nat) := [(.aload_n 0, 1), (.getfield 12, 3), (.getfield 177, 3), (.iload_n 1, 1), (.iaload, 1), (.istore 5, 2), (.iload 5, 2), (.iconst 1, 1), (.if_icmp .ne 54, 3), (.aload_n 0, 1), (.getfield 12, 3), (.getfield 183, 3), (.iload_n 1, 1), (.iaload, 1), (.ifCond .le 40, 3), (.aload_n 0, 1), (.getfield 12, 3), (.getfield 186, 3), (.iload_n 1, 1), (.iaload, 1), (.iload_n 2, 1), (.if_icmp .ne 27, 3), (.aload_n 0, 1), (.aload_n 0, 1), (.getfield 28, 3), (.getfield 103, 3), (.iconst 2, 1), (.iload_n 2, 1), (.iload_n 3, 1), (.iconst 1, 1), (.iload 4, 2), (.invokevirtual 200, 3), (.ifCond .eq 7, 3), (.iconst 1, 1), (.goto 4, 3), (.iconst 0, 1), (.ireturn, 1), (.iload 5, 2), (.ifCond .eq 5, 3), (.iconst 0, 1), (.ireturn, 1), (.iload_n 3, 1), (.invokestatic 116, 3), (.ifCond .eq 56, 3), (.aload_n 0, 1), (.getfield 12, 3), (.getfield 183, 3), (.iload_n 1, 1), (.iaload, 1), (.ifCond .le 42, 3), (.aload_n 0, 1), (.getfield 12, 3), (.getfield 186, 3), (.iload_n 1, 1), (.iaload, 1), (.iconst 2, 1), (.idiv, 1), (.iload_n 2, 1), (.if_icmp .ne 27, 3), (.aload_n 0, 1), (.aload_n 0, 1), (.getfield 28, 3), (.getfield 103, 3), (.iconst 1, 1), (.iload_n 2, 1), (.iload_n 3, 1), (.iconst 0, 1), (.iload 4, 2), (.invokevirtual 200, 3), (.ifCond .eq 7, 3), (.iconst 1, 1), (.goto 4, 3), (.iconst 0, 1), (.ireturn, 1), (.aload_n 0, 1), (.getfield 12, 3), (.getfield 123, 3), (.iload_n 1, 1), (.iaload, 1), (.istore 6, 2), (.iload 6, 2), (.ifCond .lt 9, 3), (.iload 6, 2), (.iconst 4, 1), (.if_icmp .lt 5, 3), (.iconst 0, 1), (.ireturn, 1), (.aload_n 0, 1), (.getfield 48, 3), (.iconst 2, 1), (.iload 6, 2), (.iadd, 1), (.aaload, 1), (.astore 7, 2), (.iconst 0, 1), (.istore 8, 2), (.iconst 0, 1), (.istore 9, 2), (.iload 9, 2), (.aload 7, 2), (.getfield 287, 3), (.if_icmp .ge 118, 3), (.iload 8, 2), (.ifCond .ne 113, 3), (.aload 7, 2), (.iload 9, 2), (.invokevirtual 147, 3), (.iload_n 2, 1), (.iconst 1, 1), (.iadd, 1), (.if_icmp .ne 13, 3), (.iload_n 2, 1), (.bipush 99, 2), (.if_icmp .gt 7, 3), (.iconst 1, 1), (.goto 4, 3), (.iconst 0, 1), (.istore 10, 2), (.aload 7, 2), (.iload 9, 2), (.invokevirtual 147, 3), (.iload_n 2, 1), (.bipush 101, 2), (.iadd, 1), (.if_icmp .ne 7, 3), (.iconst 1, 1), (.goto 4, 3), (.iconst 0, 1), (.istore 11, 2), (.iload 10, 2), (.ifCond .eq 23, 3), (.aload_n 0, 1), (.aload_n 0, 1), (.getfield 28, 3), (.getfield 103, 3), (.iconst 0, 1), (.iload_n 2, 1), (.iload_n 3, 1), (.iconst 0, 1), (.iload 4, 2), (.invokevirtual 200, 3), (.ifCond .ne 28, 3), (.iload 11, 2), (.ifCond .eq 27, 3), (.aload_n 0, 1), (.aload_n 0, 1), (.getfield 28, 3), (.getfield 103, 3), (.iconst 3, 1), (.iload_n 2, 1), (.iload_n 3, 1), (.iconst 0, 1), (.iload 4, 2), (.invokevirtual 200, 3), (.ifCond .eq 7, 3), (.iconst 1, 1), (.goto 4, 3), (.iconst 0, 1), (.istore 8, 2), (.iinc 9 1, 3), (.goto (-122), 3), (.iload 8, 2), (.ireturn, 1)]
theorem tX10_canMakeWord_ok : sgB cX10_canMakeWord 0 tX10_canMakeWord = true := by decide +kernel
def tX11_init : List (Instr × Nat) := [(.aload_n 0, 1), (.invokespecial 3, 3), (.new 9, 3), (.dup, 1), (.iconst 0, 1), (.iconst 1, 1), (.newarray .int, 2), (.iconst 0, 1), (.newarray .int, 2), (.iconst 0, 1), (.newarray .int, 2), (.invokespecial 11, 3), (.astore_n 1, 1), (.aload_n 0, 1), (.new 14, 3), (.dup, 1), (.sipush 400, 3), (.aload_n 1, 1), (.invokespecial 16, 3), (.putfield 19, 3), (.aload_n 0, 1), (.new 14, 3), (.dup, 1), (.iconst 0, 1), (.aload_n 1, 1), (.invokespecial 16, 3), (.putfield 23, 3), (.aload_n 0, 1), (.aconst_null, 1), (.putfield 26, 3), (.aload_n 0, 1), (.new 29, 3), (.dup, 1), (.invokespecial 31, 3), (.putfield 32, 3), (.aload_n 0, 1), (.new 36, 3), (.dup, 1), (.invokespecial 38, 3), (.putfield 39, 3), (.return_, 1)]
theorem tX11_init_ok : sgB cX11_init 0 tX11_init = true := by decide +kernel
def tX11_state : List (Instr × Nat) := [(.aload_n 0, 1), (.getfield 19, 3), (.getfield 43, 3), (.getfield 47, 3), (.istore_n 2, 1), (.aload_n 0, 1), (.getfield 19, 3), (.getfield 43, 3), (.iload_n 1, 1), (.putfield 47, 3), (.iload_n 2, 1), (.ireturn, 1)]
theorem tX11_state_ok : sgB cX11_state 0 tX11_state = true := by decide +kernel
def tX11_one : List (Instr × Nat) := [(.iload_n 1, 1), (.iconst 0, 1), (.iconst 2, 1), (.invokestatic 53, 3), (.ifCond .eq 18, 3), (.aload_n 0, 1), (.getfield 19, 3), (.getfield 57, 3), (.getfield 61, 3), (.bipush 12, 2), (.if_icmp .lt 5, 3), (.iconst (-1), 1), (.ireturn, 1), (.iload_n 2, 1), (.iconst 0, 1), (.getstatic 66, 3), (.iconst 0, 1), (.iaload, 1), (.invokestatic 53, 3), (.ifCond .eq 44, 3), (.iload_n 3, 1), (.iconst 0, 1), (.getstatic 66, 3), (.iconst 1, 1), (.iaload, 1), (.invokestatic 53, 3), (.ifCond .eq 31, 3), (.iload 4, 2), (.iconst 0, 1), (.getstatic 66, 3), (.iconst 2, 1), (.iaload, 1), (.invokestatic 53, 3), (.ifCond .eq 17, 3), (.iload 5, 2), (.iconst 0, 1), (.getstatic 66, 3), (.iconst 3, 1), (.iaload, 1), (.invokestatic 53, 3), (.ifCond .ne 5, 3), (.iconst (-1), 1), (.ireturn, 1), (.aload_n 0, 1), (.getfield 19, 3), (.getfield 57, 3), (.iload_n 1, 1), (.iload_n 2, 1), (.iload_n 3, 1), (.iload 4, 2), (.iload 5, 2), (.invokevirtual 70, 3), (.ireturn, 1)]
theorem tX11_one_ok : sgB cX11_one 0 tX11_one = true := by decide +kernel
def tX11_tell : List (Instr × Nat) := [(.aload_n 0, 1), (.getfield 19, 3), (.getfield 57, 3), (.astore 4, 2), (.aload 4, 2), (.iload_n 1, 1), (.invokevirtual 74, 3), (.ifCond .ne 5, 3), (.iconst 0, 1), (.ireturn, 1), (.iload_n 2, 1), (.iconst 5, 1), (.if_icmp .ne 11, 3), (.aload 4, 2), (.iload_n 1, 1), (.iload_n 3, 1), (.invokevirtual 78, 3), (.ireturn, 1), (.iload_n 2, 1), (.iconst 0, 1), (.iconst 4, 1), (.invokestatic 53, 3), (.ifCond .eq 16, 3), (.iload_n 3, 1), (.iconst 0, 1), (.getstatic 66, 3), (.iload_n 2, 1), (.iaload, 1), (.invokestatic 53, 3), (.ifCond .ne 5, 3), (.iconst 0, 1), (.ireturn, 1), (.aload 4, 2), (.iload_n 1, 1), (.iload_n 2, 1), (.iload_n 3, 1), (.invokevirtual 82, 3), (.iconst 1, 1), (.ireturn, 1)]
theorem tX11_tell_ok : sgB cX11_tell 0 tX11_tell = true := by decide +kernel
def tX11_wall : List (Instr × Nat) := [(.iload_n 1, 1), (.invokestatic 86, 3), (.ifCond .eq 25, 3), (.iload_n 2, 1), (.invokestatic 86, 3), (.ifCond .eq 18, 3), (.iload_n 1, 1), (.iload_n 2, 1), (.if_icmp .eq 13, 3), (.iload_n 3, 1), (.iconst 0, 1), (.bipush 99, 2), (.invokestatic 53, 3), (.ifCond .ne 5, 3), (.iconst 0, 1), (.ireturn, 1), (.aload_n 0, 1), (.getfield 19, 3), (.getfield 89, 3), (.iload_n 1, 1), (.iload_n 2, 1), (.iload_n 3, 1), (.invokevirtual 93, 3), (.iconst 1, 1), (.ireturn, 1)]
theorem tX11_wall_ok : sgB cX11_wall 0 tX11_wall = true := by decide +kernel
def tX11_set : List (Instr × Nat) := [(.iload_n 1, 1), (.ifCond .ne 37, 3), (.iload_n 2, 1), (.iconst (-1), 1), (.if_icmp .eq 19, 3), (.aload_n 0, 1), (.getfield 19, 3), (.getfield 57, 3), (.iload_n 2, 1), (.invokevirtual 74, 3), (.ifCond .ne 5, 3), (.iconst 0, 1), (.ireturn, 1), (.aload_n 0, 1), (.getfield 19, 3), (.getfield 89, 3), (.iload_n 2, 1), (.putfield 98, 3), (.iconst 1, 1), (.ireturn, 1), (.iload_n 1, 1), (.bipush 10, 2), (.bipush 33, 2), (.invokestatic 53, 3), (.ifCond .eq 30, 3), (.iload_n 2, 1), (.invokestatic 86, 3), (.ifCond .ne 5, 3), (.iconst 0, 1), (.ireturn, 1), (.aload_n 0, 1), (.getfield 19, 3), (.getfield 89, 3), (.getfield 101, 3), (.iload_n 1, 1), (.bipush 10, 2), (.isub, 1), (.iload_n 2, 1), (.iastore, 1), (.iconst 1, 1), (.ireturn, 1), (.iload_n 1, 1), (.iconst 1, 1), (.getstatic 104, 3), (.arraylength, 1), (.iconst 1, 1), (.isub, 1), (.invokestatic 53, 3), (.ifCond .eq 16, 3), (.iload_n 2, 1), (.iconst 0, 1), (.getstatic 104, 3), (.iload_n 1, 1), (.iaload, 1), (.invokestatic 53, 3), (.ifCond .ne 5, 3), (.iconst 0, 1), (.ireturn, 1), (.aload_n 0, 1), (.getfield 19, 3), (.iload_n 1, 1), (.iload_n 2, 1), (.invokevirtual 107, 3), (.iconst 1, 1), (.ireturn, 1)]
theorem tX11_set_ok : sgB cX11_set 0 tX11_set = true := by decide +kernel
def tX11_debt : List (Instr × Nat) := [(.aload_n 0, 1), (.getfield 19, 3), (.getfield 57, 3), (.iload_n 1, 1), (.invokevirtual 74, 3), (.ifCond .eq 22, 3), (.aload_n 0, 1), (.getfield 19, 3), (.getfield 57, 3), (.iload_n 2, 1), (.invokevirtual 74, 3), (.ifCond .eq 8, 3), (.iload_n 1, 1), (.iload_n 2, 1), (.if_icmp .ne 5, 3), (.iconst (-1), 1), (.ireturn, 1), (.iload_n 3, 1), (.iconst 1, 1), (.sipush 200, 3), (.invokestatic 53, 3), (.ifCond .ne 5, 3), (.iconst (-1), 1), (.ireturn, 1), (.aload_n 0, 1), (.getfield 19, 3), (.getfield 110, 3), (.iload_n 1, 1), (.iload_n 2, 1), (.iload_n 3, 1), (.invokevirtual 114, 3), (.ireturn, 1)]
theorem tX11_debt_ok : sgB cX11_debt 0 tX11_debt = true := by decide +kernel
def tX11_helpers : List (Instr × Nat) := [(.aload_n 0, 1), (.getfield 19, 3), (.getfield 110, 3), (.iload_n 1, 1), (.invokevirtual 119, 3), (.ifCond .eq 25, 3), (.iload_n 2, 1), (.iconst 0, 1), (.iconst 1, 1), (.aload_n 0, 1), (.getfield 19, 3), (.getfield 57, 3), (.getfield 61, 3), (.ishl, 1), (.iconst 1, 1), (.isub, 1), (.invokestatic 53, 3), (.ifCond .ne 5, 3), (.iconst 0, 1), (.ireturn, 1), (.aload_n 0, 1), (.getfield 19, 3), (.getfield 110, 3), (.getfield 120, 3), (.iload_n 1, 1), (.iload_n 2, 1), (.iastore, 1), (.iconst 1, 1), (.ireturn, 1)]
theorem tX11_helpers_ok : sgB cX11_helpers 0 tX11_helpers = true := by decide +kernel
def tX11_of : List (Instr × Nat) := [(.aload_n 0, 1), (.getfield 19, 3), (.getfield 110, 3), (.iload_n 1, 1), (.invokevirtual 119, 3), (.ifCond .ne 6, 3), (.bipush (-2), 2), (.ireturn, 1), (.aload_n 0, 1), (.getfield 19, 3), (.getfield 110, 3), (.iload_n 1, 1), (.iload_n 2, 1), (.invokevirtual 123, 3), (.ireturn, 1)]
theorem tX11_of_ok : sgB cX11_of 0 tX11_of = true := by decide +kernel
def tX11_feed : List (Instr × Nat) := [(.aload_n 0, 1), (.getfield 32, 3), (.getfield 127, 3), (.bipush 20, 2), (.iadd, 1), (.sipush 400, 3), (.if_icmp .le 5, 3), (.iconst (-1), 1), (.ireturn, 1), (.aload_n 0, 1), (.getfield 32, 3), (.iload_n 1, 1), (.invokevirtual 130, 3), (.aload_n 0, 1), (.getfield 32, 3), (.iload_n 2, 1), (.invokevirtual 130, 3), (.aload_n 0, 1), (.getfield 32, 3), (.iload_n 3, 1), (.invokevirtual 130, 3), (.aload_n 0, 1), (.getfield 32, 3), (.iload 4, 2), (.invokevirtual 130, 3), (.aload_n 0, 1), (.getfield 32, 3), (.iload 5, 2), (.invokevirtual 130, 3), (.aload_n 0, 1), (.getfield 32, 3), (.getfield 127, 3), (.ireturn, 1)]
theorem tX11_feed_ok : sgB cX11_feed 0 tX11_feed = true := by decide +kernel
def tX11_end : List (Instr × Nat) := [(.iload_n 1, 1), (.iconst 0, 1), (.aload_n 0, 1), (.getfield 32, 3), (.getfield 127, 3), (.invokestatic 53, 3), (.ifCond .ne 5, 3), (.iconst 0, 1), (.ireturn, 1), (.aload_n 0, 1), (.getfield 32, 3), (.iload_n 1, 1), (.putfield 127, 3), (.iconst 1, 1), (.ireturn, 1)]
theorem tX11_end_ok : sgB cX11_end 0 tX11_end = true := by decide +kernel
def tX11_text : List (Instr × Nat) := [(.iload_n 1, 1), (.iconst 0, 1), (.iconst 5, 1), (.invokestatic 53, 3), (.ifCond .ne 20, 3), (.aload_n 0, 1), (.getfield 39, 3), (.invokevirtual 134, 3), (.aload_n 0, 1), (.getfield 32, 3), (.iconst 0, 1), (.putfield 127, 3), (.iconst (-1), 1), (.ireturn, 1), (.aload_n 0, 1), (.getfield 39, 3), (.aload_n 0, 1), (.getfield 32, 3), (.iload_n 1, 1), (.iconst 2, 1), (.if_icmp .ge 7, 3), (.iconst 1, 1), (.goto 4, 3), (.iconst 0, 1), (.invokevirtual 137, 3), (.astore_n 2, 1), (.aload_n 0, 1), (.getfield 32, 3), (.iconst 0, 1), (.putfield 127, 3), (.aload_n 2, 1), (.ifnonnull 5, 3), (.iconst (-1), 1), (.ireturn, 1), (.aload_n 0, 1), (.getfield 19, 3), (.getfield 141, 3), (.iload_n 1, 1), (.aload_n 2, 1), (.aastore, 1), (.aload_n 2, 1), (.getfield 145, 3), (.ireturn, 1)]
theorem tX11_text_ok : sgB cX11_text 0 tX11_text = true := by decide +kernel
def tX11_fault : List (Instr × Nat) := [(.iload_n 1, 1), (.ifCond .ne 11, 3), (.aload_n 0, 1), (.getfield 39, 3), (.getfield 148, 3), (.ireturn, 1), (.iload_n 1, 1), (.iconst 1, 1), (.if_icmp .ne 13, 3), (.aload_n 0, 1), (.getfield 39, 3), (.getfield 151, 3), (.goto 4, 3), (.iconst (-1), 1), (.ireturn, 1)]
theorem tX11_fault_ok : sgB cX11_fault 0 tX11_fault = true := by decide +kernel
def tX11_does : List (Instr × Nat) := [(.aload_n 0, 1), (.getfield 19, 3), (.getfield 57, 3), (.iload_n 1, 1), (.invokevirtual 74, 3), (.ifCond .eq 18, 3), (.aload_n 0, 1), (.getfield 19, 3), (.getfield 57, 3), (.getfield 154, 3), (.iload_n 1, 1), (.iaload, 1), (.ifCond .eq 5, 3), (.iconst (-1), 1), (.ireturn, 1), (.aload_n 0, 1), (.getfield 19, 3), (.getfield 110, 3), (.invokevirtual 157, 3), (.aload_n 0, 1), (.getfield 19, 3), (.iload_n 1, 1), (.invokevirtual 160, 3), (.ireturn, 1)]
theorem tX11_does_ok : sgB cX11_does 0 tX11_does = true := by decide +kernel
def tX11_word : List (Instr × Nat) := [(.iload_n 1, 1), (.invokestatic 164, 3), (.ifCond .eq 30, 3), (.iload_n 2, 1), (.iconst 0, 1), (.iconst 3, 1), (.invokestatic 53, 3), (.ifCond .eq 21, 3), (.iload_n 3, 1), (.iconst 0, 1), (.bipush 99, 2), (.invokestatic 53, 3), (.ifCond .eq 11, 3), (.iload 4, 2), (.invokestatic 167, 3), (.ifCond .ne 5, 3), (.iconst (-1), 1), (.ireturn, 1), (.aload_n 0, 1), (.getfield 19, 3), (.iload_n 1, 1), (.iload_n 2, 1), (.iload_n 3, 1), (.iload 4, 2), (.iload 5, 2), (.iload 6, 2), (.invokevirtual 170, 3), (.ifCond .eq 7, 3), (.iconst 1, 1), (.goto 4, 3), (.iconst 0, 1), (.ireturn, 1)]
theorem tX11_word_ok : sgB cX11_word 0 tX11_word = true := by decide +kernel
def tX11_quarters : List (Instr × Nat) := [(.iload_n 1, 1), (.iconst 1, 1), (.sipush 960, 3), (.invokestatic 53, 3), (.ifCond .ne 5, 3), (.iconst (-1), 1), (.ireturn, 1), (.aload_n 0, 1), (.getfield 19, 3), (.getfield 43, 3), (.getfield 174, 3), (.aload_n 0, 1), (.getfield 19, 3), (.getfield 43, 3), (.getfield 177, 3), (.iload_n 1, 1), (.iadd, 1), (.bipush 96, 2), (.idiv, 1), (.iadd, 1), (.sipush 9999, 3), (.if_icmp .le 5, 3), (.iconst (-1), 1), (.ireturn, 1), (.aload_n 0, 1), (.getfield 19, 3), (.getfield 180, 3), (.getfield 184, 3), (.istore_n 2, 1), (.iconst 0, 1), (.istore_n 3, 1), (.iload_n 3, 1), (.iload_n 1, 1), (.if_icmp .ge 16, 3), (.aload_n 0, 1), (.getfield 19, 3), (.invokevirtual 189, 3), (.iinc 3 1, 3), (.goto (-15), 3), (.aload_n 0, 1), (.getfield 19, 3), (.getfield 180, 3), (.getfield 184, 3), (.iload_n 2, 1), (.isub, 1), (.ireturn, 1)]
theorem tX11_quarters_ok : sgB cX11_quarters 0 tX11_quarters = true := by decide +kernel
def tX11_noise : List (Instr × Nat) := [(.aload_n 0, 1), (.getfield 19, 3), (.getfield 57, 3), (.iload_n 1, 1), (.invokevirtual 74, 3), (.ifCond .eq 12, 3), (.iload_n 2, 1), (.iconst 0, 1), (.iconst 2, 1), (.invokestatic 53, 3), (.ifCond .ne 6, 3), (.bipush (-2), 2), (.ireturn, 1), (.aload_n 0, 1), (.getfield 19, 3), (.getfield 57, 3), (.iload_n 1, 1), (.iload_n 2, 1), (.invokevirtual 192, 3), (.ireturn, 1)]
theorem tX11_noise_ok : sgB cX11_noise 0 tX11_noise = true := by decide +kernel
def tX11_lend : List (Instr × Nat) := [(.aload_n 0, 1), (.getfield 19, 3), (.getfield 195, 3), (.aload_n 0, 1), (.getfield 19, 3), (.getfield 110, 3), (.aload_n 0, 1), (.getfield 19, 3), (.getfield 57, 3), (.iload_n 1, 1), (.iload_n 2, 1), (.iload_n 3, 1), (.invokevirtual 199, 3), (.ireturn, 1)]
theorem tX11_lend_ok : sgB cX11_lend 0 tX11_lend = true := by decide +kernel
def tX11_split : List (Instr × Nat) := [(.aload_n 0, 1), (.getfield 19, 3), (.getfield 195, 3), (.aload_n 0, 1), (.getfield 19, 3), (.getfield 110, 3), (.iload_n 1, 1), (.iload_n 2, 1), (.invokevirtual 205, 3), (.ireturn, 1)]
theorem tX11_split_ok : sgB cX11_split 0 tX11_split = true := by decide +kernel
def tX11_inherit : List (Instr × Nat) := [(.aload_n 0, 1), (.getfield 19, 3), (.getfield 57, 3), (.iload_n 1, 1), (.invokevirtual 74, 3), (.ifCond .eq 22, 3), (.aload_n 0, 1), (.getfield 19, 3), (.getfield 57, 3), (.iload_n 2, 1), (.invokevirtual 74, 3), (.ifCond .eq 8, 3), (.iload_n 1, 1), (.iload_n 2, 1), (.if_icmp .ne 5, 3), (.iconst (-1), 1), (.ireturn, 1), (.aload_n 0, 1), (.getfield 19, 3), (.getfield 195, 3), (.aload_n 0, 1), (.getfield 19, 3), (.getfield 110, 3), (.iload_n 1, 1), (.iload_n 2, 1), (.invokevirtual 209, 3), (.ireturn, 1)]
theorem tX11_inherit_ok : sgB cX11_inherit 0 tX11_inherit = true := by decide +kernel
def tX11_sell : List (Instr × Nat) := [(.aload_n 0, 1), (.getfield 19, 3), (.getfield 195, 3), (.aload_n 0, 1), (.getfield 19, 3), (.getfield 110, 3), (.aload_n 0, 1), (.getfield 19, 3), (.getfield 57, 3), (.iload_n 1, 1), (.iload_n 2, 1), (.iload_n 3, 1), (.invokevirtual 212, 3), (.ireturn, 1)]
theorem tX11_sell_ok : sgB cX11_sell 0 tX11_sell = true := by decide +kernel
def tX11_undo : List (Instr × Nat) := [(.aload_n 0, 1), (.getfield 19, 3), (.getfield 195, 3), (.aload_n 0, 1), (.getfield 19, 3), (.getfield 110, 3), (.aload_n 0, 1), (.getfield 19, 3), (.getfield 57, 3), (.invokevirtual 215, 3), (.ireturn, 1)]
theorem tX11_undo_ok : sgB cX11_undo 0 tX11_undo = true := by decide +kernel
def tX11_soonest : List (Instr × Nat) := [(.iload_n 1, 1), (.iconst 0, 1), (.iconst 2, 1), (.invokestatic 53, 3), (.ifCond .ne 5, 3), (.iconst (-1), 1), (.ireturn, 1), (.aload_n 0, 1), (.getfield 19, 3), (.getfield 110, 3), (.astore_n 2, 1), (.iload_n 1, 1), (.iconst 2, 1), (.if_icmp .ne 8, 3), (.aload_n 2, 1), (.invokevirtual 219, 3), (.ireturn, 1), (.aload_n 2, 1), (.aload_n 0, 1), (.getfield 19, 3), (.getfield 57, 3), (.invokevirtual 223, 3), (.ifCond .ne 5, 3), (.iconst (-1), 1), (.ireturn, 1), (.iload_n 1, 1), (.ifCond .ne 20, 3), (.aload_n 2, 1), (.aload_n 0, 1), (.getfield 19, 3), (.getfield 57, 3), (.getfield 61, 3), (.invokevirtual 227, 3), (.goto 7, 3), (.aload_n 2, 1), (.invokevirtual 230, 3), (.ireturn, 1)]
theorem tX11_soonest_ok : sgB cX11_soonest 0 tX11_soonest = true := by decide +kernel
def tX11_whom : List (Instr × Nat) := [(.iload_n 1, 1), (.invokestatic 86, 3), (.ifCond .eq 32, 3), (.iload_n 2, 1), (.iconst 0, 1), (.sipush 9999, 3), (.invokestatic 53, 3), (.ifCond .eq 21, 3), (.iload_n 3, 1), (.invokestatic 167, 3), (.ifCond .eq 14, 3), (.iload 4, 2), (.iconst 0, 1), (.bipush 99, 2), (.invokestatic 53, 3), (.ifCond .ne 5, 3), (.iconst (-1), 1), (.ireturn, 1), (.aload_n 0, 1), (.getfield 19, 3), (.iload_n 1, 1), (.aload_n 0, 1), (.getfield 19, 3), (.getfield 43, 3), (.iload_n 2, 1), (.invokevirtual 233, 3), (.iload_n 3, 1), (.iload 4, 2), (.invokevirtual 236, 3), (.ireturn, 1)]
theorem tX11_whom_ok : sgB cX11_whom 0 tX11_whom = true := by decide +kernel
def tX11_quiet : List (Instr × Nat) := [(.iload_n 1, 1), (.iconst 1, 1), (.bipush 8, 2), (.invokestatic 53, 3), (.ifCond .eq 12, 3), (.iload_n 2, 1), (.iconst 0, 1), (.iconst 2, 1), (.invokestatic 53, 3), (.ifCond .ne 5, 3), (.iconst (-1), 1), (.ireturn, 1), (.iconst (-1), 1), (.istore_n 3, 1), (.iconst (-1), 1), (.istore 4, 2), (.iconst 0, 1), (.istore 5, 2), (.aload_n 0, 1), (.getfield 19, 3), (.getfield 43, 3), (.getfield 47, 3), (.istore 6, 2), (.iconst 0, 1), (.istore 7, 2), (.iload 7, 2), (.iload_n 1, 1), (.if_icmp .ge 91, 3), (.aload_n 0, 1), (.getfield 23, 3), (.aload_n 0, 1), (.getfield 19, 3), (.invokevirtual 240, 3), (.aload_n 0, 1), (.getfield 23, 3), (.getfield 43, 3), (.iload 6, 2), (.putfield 47, 3), (.aload_n 0, 1), (.getfield 23, 3), (.invokevirtual 244, 3), (.istore 8, 2), (.aload_n 0, 1), (.getfield 23, 3), (.getfield 43, 3), (.getfield 47, 3), (.istore 6, 2), (.iload 8, 2), (.iconst (-1), 1), (.if_icmp .ne 9, 3), (.iinc 5 1, 3), (.goto 29, 3), (.iload_n 3, 1), (.iconst (-1), 1), (.if_icmp .ne 8, 3), (.iload 8, 2), (.goto 9, 3), (.iload_n 3, 1), (.iload 8, 2), (.invokestatic 247, 3), (.istore_n 3, 1), (.iload 4, 2), (.iload 8, 2), (.invokestatic 252, 3), (.istore 4, 2), (.iinc 7 1, 3), (.goto (-91), 3), (.iload_n 2, 1), (.iconst 2, 1), (.if_icmp .ne 6, 3), (.iload 5, 2), (.ireturn, 1), (.iload_n 2, 1), (.ifCond .ne 7, 3), (.iload_n 3, 1), (.goto 5, 3), (.iload 4, 2), (.ireturn, 1)]
theorem tX11_quiet_ok : sgB cX11_quiet 0 tX11_quiet = true := by decide +kernel
def tX11_thought : List (Instr × Nat) := [(.iload_n 1, 1), (.iconst 1, 1), (.bipush 30, 2), (.invokestatic 53, 3), (.ifCond .ne 5, 3), (.iconst (-1), 1), (.ireturn, 1), (.iload_n 2, 1), (.iconst (-1), 1), (.if_icmp .ne 62, 3), (.aload_n 0, 1), (.iload_n 1, 1), (.iconst 0, 1), (.invokevirtual 255, 3), (.aload_n 0, 1), (.getfield 23, 3), (.getfield 180, 3), (.getfield 184, 3), (.istore 4, 2), (.aload_n 0, 1), (.getfield 23, 3), (.getfield 180, 3), (.getfield 258, 3), (.istore 5, 2), (.aload_n 0, 1), (.iload_n 1, 1), (.iconst 1, 1), (.invokevirtual 255, 3), (.aload_n 0, 1), (.getfield 23, 3), (.getfield 180, 3), (.iload 4, 2), (.iload 5, 2), (.invokevirtual 261, 3), (.ifCond .eq 7, 3), (.iconst 1, 1), (.goto 4, 3), (.iconst 0, 1), (.ireturn, 1), (.iload_n 2, 1), (.invokestatic 164, 3), (.ifCond .eq 12, 3), (.iload_n 3, 1), (.iconst 0, 1), (.iconst 3, 1), (.invokestatic 53, 3), (.ifCond .ne 5, 3), (.iconst (-1), 1), (.ireturn, 1), (.aload_n 0, 1), (.iload_n 1, 1), (.iload_n 2, 1), (.invokevirtual 255, 3), (.aload_n 0, 1), (.getfield 23, 3), (.getfield 180, 3), (.iload_n 3, 1), (.invokevirtual 264, 3), (.aload_n 0, 1), (.getfield 19, 3), (.getfield 180, 3), (.iload_n 3, 1), (.invokevirtual 264, 3), (.isub, 1), (.ireturn, 1)]
theorem tX11_thought_ok : sgB cX11_thought 0 tX11_thought = true := by decide +kernel
def tX11_person : List (Instr × Nat) := [(.aload_n 0, 1), (.getfield 19, 3), (.getfield 57, 3), (.iload_n 1, 1), (.invokevirtual 74, 3), (.ifCond .ne 6, 3), (.bipush (-2), 2), (.ireturn, 1), (.iload_n 2, 1), (.bipush 7, 2), (.bipush 9, 2), (.invokestatic 53, 3), (.ifCond .eq 19, 3), (.aload_n 0, 1), (.getfield 19, 3), (.getfield 110, 3), (.iload_n 1, 1), (.iload_n 2, 1), (.bipush 7, 2), (.isub, 1), (.invokevirtual 267, 3), (.ireturn, 1), (.aload_n 0, 1), (.getfield 19, 3), (.getfield 57, 3), (.iload_n 1, 1), (.iload_n 2, 1), (.invokevirtual 270, 3), (.ireturn, 1)]
theorem tX11_person_ok : sgB cX11_person 0 tX11_person = true := by decide +kernel
def tX11_book : List (Instr × Nat) := [(.iload_n 1, 1), (.iconst 0, 1), (.aload_n 0, 1), (.getfield 19, 3), (.getfield 180, 3), (.getfield 271, 3), (.iconst 1, 1), (.isub, 1), (.invokestatic 53, 3), (.ifCond .eq 12, 3), (.iload_n 2, 1), (.iconst 0, 1), (.iconst 4, 1), (.invokestatic 53, 3), (.ifCond .ne 5, 3), (.iconst (-1), 1), (.ireturn, 1), (.aload_n 0, 1), (.getfield 19, 3), (.getfield 180, 3), (.getfield 272, 3), (.iload_n 1, 1), (.iconst 5, 1), (.imul, 1), (.iload_n 2, 1), (.iadd, 1), (.iaload, 1), (.ireturn, 1)]
theorem tX11_book_ok : sgB cX11_book 0 tX11_book = true := by decide +kernel
def tX11_image : List (Instr × Nat) := [(.iload_n 1, 1), (.ifCond .eq 46, 3), (.aload_n 0, 1), (.getfield 26, 3), (.ifnonnull 26, 3), (.aload_n 0, 1), (.new 14, 3), (.dup, 1), (.sipush 400, 3), (.aload_n 0, 1), (.getfield 19, 3), (.getfield 141, 3), (.iconst 0, 1), (.aaload, 1), (.invokespecial 16, 3), (.putfield 26, 3), (.aload_n 0, 1), (.getfield 26, 3), (.aload_n 0, 1), (.getfield 19, 3), (.invokevirtual 240, 3), (.iconst 1, 1), (.ireturn, 1), (.aload_n 0, 1), (.getfield 26, 3), (.ifnonnull 5, 3), (.iconst 0, 1), (.ireturn, 1), (.aload_n 0, 1), (.getfield 19, 3), (.aload_n 0, 1), (.getfield 26, 3), (.invokevirtual 240, 3), (.iconst 1, 1), (.ireturn, 1)]
theorem tX11_image_ok : sgB cX11_image 0 tX11_image = true := by decide +kernel
def tX11_look : List (Instr × Nat) := [(.iload_n 1, 1), (.tableswitch 180 0 12 #[67, 78, 89, 100, 111, 122, 122, 122, 122, 136, 147, 158, 169], 67), (.aload_n 0, 1), (.getfield 19, 3), (.getfield 57, 3), (.getfield 61, 3), (.ireturn, 1), (.aload_n 0, 1), (.getfield 19, 3), (.getfield 110, 3), (.getfield 274, 3), (.ireturn, 1), (.aload_n 0, 1), (.getfield 19, 3), (.getfield 180, 3), (.getfield 271, 3), (.ireturn, 1), (.aload_n 0, 1), (.getfield 19, 3), (.getfield 43, 3), (.getfield 174, 3), (.ireturn, 1), (.aload_n 0, 1), (.getfield 19, 3), (.getfield 43, 3), (.getfield 177, 3), (.ireturn, 1), (.aload_n 0, 1), (.getfield 19, 3), (.getfield 180, 3), (.iload_n 1, 1), (.iconst 5, 1), (.isub, 1), (.invokevirtual 264, 3), (.ireturn, 1), (.aload_n 0, 1), (.getfield 19, 3), (.getfield 110, 3), (.invokevirtual 275, 3), (.ireturn, 1), (.aload_n 0, 1), (.getfield 19, 3), (.getfield 110, 3), (.invokevirtual 278, 3), (.ireturn, 1), (.aload_n 0, 1), (.getfield 19, 3), (.getfield 195, 3), (.getfield 281, 3), (.ireturn, 1), (.aload_n 0, 1), (.getfield 19, 3), (.getfield 43, 3), (.getfield 47, 3), (.ireturn, 1), (.iconst (-1), 1), (.ireturn, 1)]
theorem tX11_look_ok : sgB cX11_look 0 tX11_look = true := by decide +kernel
def tX11_think : List (Instr × Nat) := [(.aload_n 0, 1), (.getfield 23, 3), (.aload_n 0, 1), (.getfield 19, 3), (.invokevirtual 240, 3), (.aload_n 0, 1), (.getfield 23, 3), (.getfield 89, 3), (.iload_n 2, 1), (.putfield 282, 3), (.iconst 0, 1), (.istore_n 3, 1), (.iload_n 3, 1), (.iload_n 1, 1), (.bipush 96, 2), (.imul, 1), (.if_icmp .ge 16, 3), (.aload_n 0, 1), (.getfield 23, 3), (.invokevirtual 189, 3), (.iinc 3 1, 3), (.goto (-18), 3), (.return_, 1)]
theorem tX11_think_ok : sgB cX11_think 0 tX11_think = true := by decide +kernel
def tX11_isWithin : List (Instr × Nat) := [(.iload_n 0, 1), (.iload_n 1, 1), (.if_icmp .lt 12, 3), (.iload_n 0, 1), (.iload_n 2, 1), (.if_icmp .gt 7, 3), (.iconst 1, 1), (.goto 4, 3), (.iconst 0, 1), (.ireturn, 1)]
theorem tX11_isWithin_ok : sgB cX11_isWithin 0 tX11_isWithin = true := by decide +kernel
def tX11_isPlace : List (Instr × Nat) := [(.iload_n 0, 1), (.ifCond .lt 13, 3), (.iload_n 0, 1), (.bipush 6, 2), (.if_icmp .ge 7, 3), (.iconst 1, 1), (.goto 4, 3), (.iconst 0, 1), (.ireturn, 1)]
theorem tX11_isPlace_ok : sgB cX11_isPlace 0 tX11_isPlace = true := by decide +kernel
def tX11_isHour : List (Instr × Nat) := [(.iload_n 0, 1), (.ifCond .lt 13, 3), (.iload_n 0, 1), (.bipush 24, 2), (.if_icmp .ge 7, 3), (.iconst 1, 1), (.goto 4, 3), (.iconst 0, 1), (.ireturn, 1)]
theorem tX11_isHour_ok : sgB cX11_isHour 0 tX11_isHour = true := by decide +kernel
def tX11_isLaw : List (Instr × Nat) := [(.iload_n 0, 1), (.ifCond .lt 12, 3), (.iload_n 0, 1), (.iconst 2, 1), (.if_icmp .ge 7, 3), (.iconst 1, 1), (.goto 4, 3), (.iconst 0, 1), (.ireturn, 1)]
theorem tX11_isLaw_ok : sgB cX11_isLaw 0 tX11_isLaw = true := by decide +kernel
def tX11_isNightIn : List (Instr × Nat) := [(.iload_n 0, 1), (.bipush 6, 2), (.if_icmp .lt 9, 3), (.iload_n 0, 1), (.bipush 22, 2), (.if_icmp .lt 7, 3), (.iconst 1, 1), (.goto 4, 3), (.iconst 0, 1), (.ireturn, 1)]
theorem tX11_isNightIn_ok : sgB cX11_isNightIn 0 tX11_isNightIn = true := by decide +kernel
def tX11_upwards : List (Instr × Nat) := [(.iload_n 1, 1), (.ifCond .le 13, 3), (.iload_n 0, 1), (.iload_n 1, 1), (.iadd, 1), (.iconst 1, 1), (.isub, 1), (.iload_n 1, 1), (.idiv, 1), (.goto 4, 3), (.iconst 0, 1), (.ireturn, 1)]
theorem tX11_upwards_ok : sgB cX11_upwards 0 tX11_upwards = true := by decide +kernel
def tX12_init : List (Instr × Nat) := [(.aload_n 0, 1), (.invokespecial 1, 3), (.aload_n 0, 1), (.sipush 20240, 3), (.newarray .int, 2), (.putfield 7, 3), (.aload_n 0, 1), (.sipush 20240, 3), (.newarray .int, 2), (.putfield 13, 3), (.aload_n 0, 1), (.sipush 2550, 3), (.newarray .int, 2), (.putfield 16, 3), (.aload_n 0, 1), (.bipush 64, 2), (.newarray .int, 2), (.putfield 19, 3), (.aload_n 0, 1), (.sipush 820, 3), (.newarray .int, 2), (.putfield 22, 3), (.aload_n 0, 1), (.sipush 400, 3), (.newarray .int, 2), (.putfield 25, 3), (.aload_n 0, 1), (.sipush 420, 3), (.newarray .int, 2), (.putfield 28, 3), (.aload_n 0, 1), (.bipush 12, 2), (.newarray .int, 2), (.putfield 31, 3), (.aload_n 0, 1), (.iconst (-1), 1), (.putfield 34, 3), (.aload_n 0, 1), (.bipush 40, 2), (.newarray .int, 2), (.putfield 38, 3), (.aload_n 0, 1), (.iconst 4, 1), (.newarray .int, 2), (.putfield 41, 3), (.aload_n 0, 1), (.getfield 7, 3), (.iconst 3, 1), (.iconst (-1), 1), (.iastore, 1), (.aload_n 0, 1), (.getfield 7, 3), (.iconst 4, 1), (.iconst 5, 1), (.iastore, 1), (.iconst 0, 1), (.istore_n 1, 1), (.iload_n 1, 1), (.bipush 6, 2), (.if_icmp .ge 48, 3), (.iconst 0, 1), (.istore_n 2, 1), (.iload_n 2, 1), (.bipush 6, 2), (.if_icmp .ge 34, 3), (.aload_n 0, 1), (.getfield 7, 3), (.bipush 50, 2), (.bipush 6, 2), (.iload_n 1, 1), (.imul, 1), (.iadd, 1), (.iload_n 2, 1), (.iadd, 1), (.iload_n 1, 1), (.iload_n 2, 1), (.if_icmp .ne 7, 3), (.iconst 0, 1), (.goto 5, 3), (.bipush 20, 2), (.iastore, 1), (.iinc 2 1, 3), (.goto (-34), 3), (.iinc 1 1, 3), (.goto (-48), 3), (.iconst 0, 1), (.istore_n 1, 1), (.iload_n 1, 1), (.bipush 12, 2), (.if_icmp .ge 14, 3), (.aload_n 0, 1), (.iload_n 1, 1), (.invokevirtual 44, 3), (.iinc 1 1, 3), (.goto (-14), 3), (.return_, 1)]
theorem tX12_init_ok : sgB cX12_init 0 tX12_init = true := by decide +kernel
def tX12_isIn : List (Instr × Nat) := [(.iload_n 0, 1), (.iload_n 1, 1), (.if_icmp .lt 12, 3), (.iload_n 0, 1), (.iload_n 2, 1), (.if_icmp .gt 7, 3), (.iconst 1, 1), (.goto 4, 3), (.iconst 0, 1), (.ireturn, 1)]
theorem tX12_isIn_ok : sgB cX12_isIn 0 tX12_isIn = true := by decide +kernel
def tX12_state : List (Instr × Nat) := [(.aload_n 0, 1), (.getfield 7, 3), (.iconst 0, 1), (.iaload, 1), (.istore_n 2, 1), (.aload_n 0, 1), (.getfield 7, 3), (.iconst 0, 1), (.iload_n 1, 1), (.iastore, 1), (.iload_n 2, 1), (.ireturn, 1)]
theorem tX12_state_ok : sgB cX12_state 0 tX12_state = true := by decide +kernel
def tX12_draw : List (Instr × Nat) := [(.aload_n 0, 1), (.getfield 7, 3), (.iconst 0, 1), (.ldc 48, 2), (.aload_n 0, 1), (.getfield 7, 3), (.iconst 0, 1), (.iaload, 1), (.imul, 1), (.ldc 49, 2), (.iadd, 1), (.iastore, 1), (.aload_n 0, 1), (.getfield 7, 3), (.iconst 0, 1), (.iaload, 1), (.bipush 8, 2), (.iushr, 1), (.iload_n 1, 1), (.irem, 1), (.ireturn, 1)]
theorem tX12_draw_ok : sgB cX12_draw 0 tX12_draw = true := by decide +kernel
def tX12_hushes : List (Instr × Nat) := [(.aload_n 0, 1), (.getfield 7, 3), (.sipush 190, 3), (.iconst 3, 1), (.iload_n 1, 1), (.imul, 1), (.iadd, 1), (.iconst (-1), 1), (.iastore, 1), (.aload_n 0, 1), (.getfield 7, 3), (.sipush 190, 3), (.iconst 3, 1), (.iload_n 1, 1), (.imul, 1), (.iadd, 1), (.iconst 1, 1), (.iadd, 1), (.iconst (-1), 1), (.iastore, 1), (.aload_n 0, 1), (.getfield 7, 3), (.sipush 190, 3), (.iconst 3, 1), (.iload_n 1, 1), (.imul, 1), (.iadd, 1), (.iconst 2, 1), (.iadd, 1), (.iconst (-1), 1), (.iastore, 1), (.return_, 1)]
theorem tX12_hushes_ok : sgB cX12_hushes 0 tX12_hushes = true := by decide +kernel
def tX12_isOne : List (Instr × Nat) := [(.iload_n 1, 1), (.iconst 0, 1), (.aload_n 0, 1), (.getfield 7, 3), (.bipush 9, 2), (.iaload, 1), (.iconst 1, 1), (.isub, 1), (.invokestatic 50, 3), (.ireturn, 1)]
theorem tX12_isOne_ok : sgB cX12_isOne 0 tX12_isOne = true := by decide +kernel
def tX12_isPlace : List (Instr × Nat) := [(.iload_n 0, 1), (.iconst 0, 1), (.iconst 5, 1), (.invokestatic 50, 3), (.ireturn, 1)]
theorem tX12_isPlace_ok : sgB cX12_isPlace 0 tX12_isPlace = true := by decide +kernel
def tX12_own : List (Instr × Nat) := [(.aload_n 0, 1), (.getfield 7, 3), (.bipush 90, 2), (.bipush 8, 2), (.iload_n 1, 1), (.imul, 1), (.iadd, 1), (.iload_n 2, 1), (.iadd, 1), (.iaload, 1), (.ireturn, 1)]
theorem tX12_own_ok : sgB cX12_own 0 tX12_own = true := by decide +kernel
def tX12_gives : List (Instr × Nat) := [(.aload_n 0, 1), (.getfield 7, 3), (.bipush 90, 2), (.bipush 8, 2), (.iload_n 1, 1), (.imul, 1), (.iadd, 1), (.iload_n 2, 1), (.iadd, 1), (.iload_n 3, 1), (.iastore, 1), (.return_, 1)]
theorem tX12_gives_ok : sgB cX12_gives 0 tX12_gives = true := by decide +kernel
def tX12_debtOf : List (Instr × Nat) := [(.aload_n 0, 1), (.getfield 7, 3), (.sipush 230, 3), (.bipush 8, 2), (.iload_n 1, 1), (.imul, 1), (.iadd, 1), (.iload_n 2, 1), (.iadd, 1), (.iaload, 1), (.ireturn, 1)]
theorem tX12_debtOf_ok : sgB cX12_debtOf 0 tX12_debtOf = true := by decide +kernel
def tX12_lays0 : List (Instr × Nat) := [(.aload_n 0, 1), (.getfield 7, 3), (.sipush 230, 3), (.bipush 8, 2), (.iload_n 1, 1), (.imul, 1), (.iadd, 1), (.iload_n 2, 1), (.iadd, 1), (.iload_n 3, 1), (.iastore, 1), (.return_, 1)]
theorem tX12_lays0_ok : sgB cX12_lays0 0 tX12_lays0 = true := by decide +kernel
def tX12_one : List (Instr × Nat) := [(.iload_n 1, 1), (.iconst 0, 1), (.iconst 2, 1), (.invokestatic 50, 3), (.ifCond .eq 54, 3), (.iload_n 2, 1), (.invokestatic 54, 3), (.ifCond .eq 47, 3), (.iload_n 3, 1), (.iconst 0, 1), (.bipush 99, 2), (.invokestatic 50, 3), (.ifCond .eq 37, 3), (.iload 4, 2), (.iconst 0, 1), (.sipush 1000, 3), (.invokestatic 50, 3), (.ifCond .eq 25, 3), (.iload 5, 2), (.iconst 0, 1), (.iconst 4, 1), (.invokestatic 50, 3), (.ifCond .eq 15, 3), (.aload_n 0, 1), (.getfield 7, 3), (.bipush 9, 2), (.iaload, 1), (.bipush 12, 2), (.if_icmp .ne 5, 3), (.iconst (-1), 1), (.ireturn, 1), (.aload_n 0, 1), (.getfield 7, 3), (.bipush 9, 2), (.iaload, 1), (.istore 6, 2), (.aload_n 0, 1), (.iload 6, 2), (.iconst 0, 1), (.iload_n 1, 1), (.invokevirtual 58, 3), (.aload_n 0, 1), (.iload 6, 2), (.iconst 1, 1), (.iload_n 2, 1), (.invokevirtual 58, 3), (.aload_n 0, 1), (.iload 6, 2), (.iconst 2, 1), (.iload_n 3, 1), (.invokevirtual 58, 3), (.aload_n 0, 1), (.iload 6, 2), (.iconst 3, 1), (.iload 4, 2), (.invokevirtual 58, 3), (.aload_n 0, 1), (.iload 6, 2), (.iconst 4, 1), (.iload 5, 2), (.invokevirtual 58, 3), (.aload_n 0, 1), (.iload 6, 2), (.iconst 5, 1), (.iconst 0, 1), (.invokevirtual 58, 3), (.aload_n 0, 1), (.iload 6, 2), (.bipush 6, 2), (.iconst (-1), 1), (.invokevirtual 58, 3), (.aload_n 0, 1), (.iload 6, 2), (.invokevirtual 44, 3), (.aload_n 0, 1), (.getfield 7, 3), (.bipush 9, 2), (.dup2, 1), (.iaload, 1), (.iconst 1, 1), (.iadd, 1), (.iastore, 1), (.iload 6, 2), (.ireturn, 1)]
theorem tX12_one_ok : sgB cX12_one 0 tX12_one = true := by decide +kernel
def tX12_tell : List (Instr × Nat) := [(.aload_n 0, 1), (.iload_n 1, 1), (.invokevirtual 62, 3), (.ifCond .eq 12, 3), (.iload_n 2, 1), (.iconst 0, 1), (.iconst 5, 1), (.invokestatic 50, 3), (.ifCond .ne 5, 3), (.iconst 0, 1), (.ireturn, 1), (.iload_n 2, 1), (.iconst 5, 1), (.if_icmp .ne 48, 3), (.aload_n 0, 1), (.iload_n 1, 1), (.iconst 0, 1), (.invokevirtual 65, 3), (.iconst 1, 1), (.if_icmp .ne 26, 3), (.iload_n 3, 1), (.iconst (-1), 1), (.if_icmp .eq 23, 3), (.aload_n 0, 1), (.iload_n 3, 1), (.invokevirtual 62, 3), (.ifCond .eq 13, 3), (.aload_n 0, 1), (.iload_n 3, 1), (.iconst 0, 1), (.invokevirtual 65, 3), (.iconst 1, 1), (.if_icmp .ne 5, 3), (.iconst 0, 1), (.ireturn, 1), (.aload_n 0, 1), (.iload_n 1, 1), (.bipush 6, 2), (.iload_n 3, 1), (.invokevirtual 58, 3), (.iconst 1, 1), (.ireturn, 1), (.iload_n 2, 1), (.ifCond .ne 7, 3), (.iconst 5, 1), (.goto 35, 3), (.iload_n 2, 1), (.iconst 1, 1), (.if_icmp .ne 8, 3), (.bipush 99, 2), (.goto 25, 3), (.iload_n 2, 1), (.iconst 2, 1), (.if_icmp .ne 9, 3), (.sipush 1000, 3), (.goto 14, 3), (.iload_n 2, 1), (.iconst 3, 1), (.if_icmp .ne 7, 3), (.iconst 4, 1), (.goto 5, 3), (.ldc 69, 2), (.istore 4, 2), (.iload_n 3, 1), (.iconst 0, 1), (.iload 4, 2), (.invokestatic 50, 3), (.ifCond .ne 5, 3), (.iconst 0, 1), (.ireturn, 1), (.aload_n 0, 1), (.iload_n 1, 1), (.iconst 1, 1), (.iload_n 2, 1), (.iadd, 1), (.iload_n 3, 1), (.invokevirtual 58, 3), (.iconst 1, 1), (.ireturn, 1)]
theorem tX12_tell_ok : sgB cX12_tell 0 tX12_tell = true := by decide +kernel
def tX12_wall : List (Instr × Nat) := [(.iload_n 1, 1), (.invokestatic 54, 3), (.ifCond .eq 25, 3), (.iload_n 2, 1), (.invokestatic 54, 3), (.ifCond .eq 18, 3), (.iload_n 1, 1), (.iload_n 2, 1), (.if_icmp .eq 13, 3), (.iload_n 3, 1), (.iconst 0, 1), (.bipush 99, 2), (.invokestatic 50, 3), (.ifCond .ne 5, 3), (.iconst 0, 1), (.ireturn, 1), (.aload_n 0, 1), (.getfield 7, 3), (.bipush 50, 2), (.bipush 6, 2), (.iload_n 1, 1), (.imul, 1), (.iadd, 1), (.iload_n 2, 1), (.iadd, 1), (.iload_n 3, 1), (.iastore, 1), (.aload_n 0, 1), (.getfield 7, 3), (.bipush 50, 2), (.bipush 6, 2), (.iload_n 2, 1), (.imul, 1), (.iadd, 1), (.iload_n 1, 1), (.iadd, 1), (.iload_n 3, 1), (.iastore, 1), (.iconst 1, 1), (.ireturn, 1)]
theorem tX12_wall_ok : sgB cX12_wall 0 tX12_wall = true := by decide +kernel
def tX12_set : List (Instr × Nat) := [(.iload_n 1, 1), (.bipush 10, 2), (.bipush 33, 2), (.invokestatic 50, 3), (.ifCond .eq 27, 3), (.iload_n 2, 1), (.invokestatic 54, 3), (.ifCond .ne 5, 3), (.iconst 0, 1), (.ireturn, 1), (.aload_n 0, 1), (.getfield 7, 3), (.bipush 20, 2), (.iload_n 1, 1), (.iadd, 1), (.bipush 10, 2), (.isub, 1), (.iload_n 2, 1), (.iastore, 1), (.iconst 1, 1), (.ireturn, 1), (.iload_n 1, 1), (.tableswitch 218 0 7 #[48, 80, 111, 133, 80, 154, 175, 197], 48), (.iload_n 2, 1), (.iconst (-1), 1), (.if_icmp .eq 11, 3), (.aload_n 0, 1), (.iload_n 2, 1), (.invokevirtual 62, 3), (.ifCond .eq 7, 3), (.iconst 1, 1), (.goto 4, 3), (.iconst 0, 1), (.istore_n 3, 1), (.iload_n 3, 1), (.ifCond .eq 10, 3), (.aload_n 0, 1), (.getfield 7, 3), (.iconst 3, 1), (.iload_n 2, 1), (.iastore, 1), (.iload_n 3, 1), (.ireturn, 1), (.iload_n 2, 1), (.iconst 0, 1), (.bipush 99, 2), (.invokestatic 50, 3), (.istore_n 3, 1), (.iload_n 3, 1), (.ifCond .eq 20, 3), (.aload_n 0, 1), (.getfield 7, 3), (.iload_n 1, 1), (.iconst 1, 1), (.if_icmp .ne 7, 3), (.iconst 4, 1), (.goto 5, 3), (.bipush 7, 2), (.iload_n 2, 1), (.iastore, 1), (.iload_n 3, 1), (.ireturn, 1), (.iload_n 2, 1), (.iconst 0, 1), (.sipush 1000, 3), (.invokestatic 50, 3), (.istore_n 3, 1), (.iload_n 3, 1), (.ifCond .eq 10, 3), (.aload_n 0, 1), (.getfield 7, 3), (.iconst 5, 1), (.iload_n 2, 1), (.iastore, 1), (.iload_n 3, 1), (.ireturn, 1), (.iload_n 2, 1), (.iconst 0, 1), (.iconst 2, 1), (.invokestatic 50, 3), (.istore_n 3, 1), (.iload_n 3, 1), (.ifCond .eq 11, 3), (.aload_n 0, 1), (.getfield 7, 3), (.bipush 6, 2), (.iload_n 2, 1), (.iastore, 1), (.iload_n 3, 1), (.ireturn, 1), (.iload_n 2, 1), (.iconst 0, 1), (.iconst 1, 1), (.invokestatic 50, 3), (.istore_n 3, 1), (.iload_n 3, 1), (.ifCond .eq 11, 3), (.aload_n 0, 1), (.getfield 7, 3), (.bipush 8, 2), (.iload_n 2, 1), (.iastore, 1), (.iload_n 3, 1), (.ireturn, 1), (.iload_n 2, 1), (.iconst 0, 1), (.sipush 9999, 3), (.invokestatic 50, 3), (.istore_n 3, 1), (.iload_n 3, 1), (.ifCond .eq 10, 3), (.aload_n 0, 1), (.getfield 7, 3), (.iconst 1, 1), (.iload_n 2, 1), (.iastore, 1), (.iload_n 3, 1), (.ireturn, 1), (.iload_n 2, 1), (.iconst 0, 1), (.bipush 95, 2), (.invokestatic 50, 3), (.istore_n 3, 1), (.iload_n 3, 1), (.ifCond .eq 10, 3), (.aload_n 0, 1), (.getfield 7, 3), (.iconst 2, 1), (.iload_n 2, 1), (.iastore, 1), (.iload_n 3, 1), (.ireturn, 1), (.iconst 0, 1), (.ireturn, 1)]
theorem tX12_set_ok : sgB cX12_set 0 tX12_set = true := by decide +kernel
def tX12_isDebt : List (Instr × Nat) := [(.iload_n 1, 1), (.iconst 0, 1), (.aload_n 0, 1), (.getfield 7, 3), (.bipush 10, 2), (.iaload, 1), (.iconst 1, 1), (.isub, 1), (.invokestatic 50, 3), (.ireturn, 1)]
theorem tX12_isDebt_ok : sgB cX12_isDebt 0 tX12_isDebt = true := by decide +kernel
def tX12_debt : List (Instr × Nat) := [(.aload_n 0, 1), (.iload_n 1, 1), (.invokevirtual 62, 3), (.ifCond .eq 39, 3), (.aload_n 0, 1), (.iload_n 2, 1), (.invokevirtual 62, 3), (.ifCond .eq 31, 3), (.iload_n 1, 1), (.iload_n 2, 1), (.if_icmp .eq 26, 3), (.iload_n 3, 1), (.iconst 1, 1), (.sipush 200, 3), (.invokestatic 50, 3), (.ifCond .eq 15, 3), (.aload_n 0, 1), (.getfield 7, 3), (.bipush 10, 2), (.iaload, 1), (.bipush 40, 2), (.if_icmp .ne 5, 3), (.iconst (-1), 1), (.ireturn, 1), (.aload_n 0, 1), (.getfield 7, 3), (.bipush 10, 2), (.iaload, 1), (.istore 4, 2), (.aload_n 0, 1), (.iload 4, 2), (.iconst 0, 1), (.iload_n 1, 1), (.invokevirtual 70, 3), (.aload_n 0, 1), (.iload 4, 2), (.iconst 1, 1), (.iload_n 2, 1), (.invokevirtual 70, 3), (.aload_n 0, 1), (.iload 4, 2), (.iconst 2, 1), (.iload_n 3, 1), (.invokevirtual 70, 3), (.aload_n 0, 1), (.iload 4, 2), (.iconst 3, 1), (.iconst 0, 1), (.invokevirtual 70, 3), (.aload_n 0, 1), (.iload 4, 2), (.iconst 4, 1), (.iconst (-1), 1), (.invokevirtual 70, 3), (.aload_n 0, 1), (.iload 4, 2), (.iconst 5, 1), (.iconst 0, 1), (.invokevirtual 70, 3), (.aload_n 0, 1), (.iload 4, 2), (.bipush 6, 2), (.iconst 0, 1), (.invokevirtual 70, 3), (.aload_n 0, 1), (.getfield 7, 3), (.bipush 10, 2), (.dup2, 1), (.iaload, 1), (.iconst 1, 1), (.iadd, 1), (.iastore, 1), (.iload 4, 2), (.ireturn, 1)]
theorem tX12_debt_ok : sgB cX12_debt 0 tX12_debt = true := by decide +kernel
def tX12_helpers : List (Instr × Nat) := [(.aload_n 0, 1), (.iload_n 1, 1), (.invokevirtual 73, 3), (.ifCond .eq 22, 3), (.iload_n 2, 1), (.iconst 0, 1), (.iconst 1, 1), (.aload_n 0, 1), (.getfield 7, 3), (.bipush 9, 2), (.iaload, 1), (.ishl, 1), (.iconst 1, 1), (.isub, 1), (.invokestatic 50, 3), (.ifCond .ne 5, 3), (.iconst 0, 1), (.ireturn, 1), (.aload_n 0, 1), (.iload_n 1, 1), (.iconst 5, 1), (.iload_n 2, 1), (.invokevirtual 70, 3), (.iconst 1, 1), (.ireturn, 1)]
theorem tX12_helpers_ok : sgB cX12_helpers 0 tX12_helpers = true := by decide +kernel
def tX12_workerOf : List (Instr × Nat) := [(.aload_n 0, 1), (.iload_n 1, 1), (.iconst 4, 1), (.invokevirtual 76, 3), (.iconst (-1), 1), (.if_icmp .ne 12, 3), (.aload_n 0, 1), (.iload_n 1, 1), (.iconst 0, 1), (.invokevirtual 76, 3), (.goto 9, 3), (.aload_n 0, 1), (.iload_n 1, 1), (.iconst 4, 1), (.invokevirtual 76, 3), (.ireturn, 1)]
theorem tX12_workerOf_ok : sgB cX12_workerOf 0 tX12_workerOf = true := by decide +kernel
def tX12_of : List (Instr × Nat) := [(.aload_n 0, 1), (.iload_n 1, 1), (.invokevirtual 73, 3), (.ifCond .eq 13, 3), (.iload_n 2, 1), (.iconst 0, 1), (.bipush 7, 2), (.invokestatic 50, 3), (.ifCond .ne 6, 3), (.bipush (-2), 2), (.ireturn, 1), (.iload_n 2, 1), (.bipush 6, 2), (.if_icmp .ge 12, 3), (.aload_n 0, 1), (.iload_n 1, 1), (.iload_n 2, 1), (.invokevirtual 76, 3), (.goto 24, 3), (.iload_n 2, 1), (.bipush 6, 2), (.if_icmp .ne 11, 3), (.aload_n 0, 1), (.iload_n 1, 1), (.invokevirtual 79, 3), (.goto 10, 3), (.aload_n 0, 1), (.iload_n 1, 1), (.bipush 6, 2), (.invokevirtual 76, 3), (.ireturn, 1)]
theorem tX12_of_ok : sgB cX12_of 0 tX12_of = true := by decide +kernel
def tX12_feed : List (Instr × Nat) := [(.aload_n 0, 1), (.getfield 83, 3), (.bipush 20, 2), (.iadd, 1), (.sipush 400, 3), (.if_icmp .le 5, 3), (.iconst (-1), 1), (.ireturn, 1), (.iconst 0, 1), (.istore 6, 2), (.iload 6, 2), (.bipush 20, 2), (.if_icmp .ge 93, 3), (.iload 6, 2), (.iconst 4, 1), (.if_icmp .ge 7, 3), (.iload_n 1, 1), (.goto 39, 3), (.iload 6, 2), (.bipush 8, 2), (.if_icmp .ge 7, 3), (.iload_n 2, 1), (.goto 28, 3), (.iload 6, 2), (.bipush 12, 2), (.if_icmp .ge 7, 3), (.iload_n 3, 1), (.goto 17, 3), (.iload 6, 2), (.bipush 16, 2), (.if_icmp .ge 8, 3), (.iload 4, 2), (.goto 5, 3), (.iload 5, 2), (.istore 7, 2), (.aload_n 0, 1), (.getfield 25, 3), (.aload_n 0, 1), (.getfield 83, 3), (.iload 7, 2), (.bipush 24, 2), (.bipush 8, 2), (.iload 6, 2), (.iconst 4, 1), (.irem, 1), (.imul, 1), (.isub, 1), (.ishr, 1), (.sipush 255, 3), (.iand, 1), (.iastore, 1), (.aload_n 0, 1), (.dup, 1), (.getfield 83, 3), (.iconst 1, 1), (.iadd, 1), (.putfield 83, 3), (.iinc 6 1, 3), (.goto (-94), 3), (.aload_n 0, 1), (.getfield 83, 3), (.ireturn, 1)]
theorem tX12_feed_ok : sgB cX12_feed 0 tX12_feed = true := by decide +kernel
def tX12_end : List (Instr × Nat) := [(.iload_n 1, 1), (.iconst 0, 1), (.aload_n 0, 1), (.getfield 83, 3), (.invokestatic 50, 3), (.ifCond .ne 5, 3), (.iconst 0, 1), (.ireturn, 1), (.aload_n 0, 1), (.iload_n 1, 1), (.putfield 83, 3), (.iconst 1, 1), (.ireturn, 1)]
theorem tX12_end_ok : sgB cX12_end 0 tX12_end = true := by decide +kernel
def tX12_see : List (Instr × Nat) := [(.iload_n 1, 1), (.aload_n 0, 1), (.getfield 83, 3), (.if_icmp .ge 12, 3), (.aload_n 0, 1), (.getfield 25, 3), (.iload_n 1, 1), (.iaload, 1), (.goto 4, 3), (.iconst (-1), 1), (.ireturn, 1)]
theorem tX12_see_ok : sgB cX12_see 0 tX12_see = true := by decide +kernel
def tX12_isLetter : List (Instr × Nat) := [(.iload_n 0, 1), (.bipush 97, 2), (.bipush 122, 2), (.invokestatic 50, 3), (.ifCond .ne 14, 3), (.iload_n 0, 1), (.bipush 65, 2), (.bipush 90, 2), (.invokestatic 50, 3), (.ifCond .eq 7, 3), (.iconst 1, 1), (.goto 4, 3), (.iconst 0, 1), (.ireturn, 1)]
theorem tX12_isLetter_ok : sgB cX12_isLetter 0 tX12_isLetter = true := by decide +kernel
def tX12_isDigit : List (Instr × Nat) := [(.iload_n 0, 1), (.bipush 48, 2), (.bipush 57, 2), (.invokestatic 50, 3), (.ireturn, 1)]
theorem tX12_isDigit_ok : sgB cX12_isDigit 0 tX12_isDigit = true := by decide +kernel
def tX12_is : List (Instr × Nat) := [(.aload_n 0, 1), (.getfield 86, 3), (.aload_n 0, 1), (.getfield 89, 3), (.isub, 1), (.aload_n 1, 1), (.invokevirtual 92, 3), (.if_icmp .ne 7, 3), (.iconst 1, 1), (.goto 4, 3), (.iconst 0, 1), (.istore_n 2, 1), (.iconst 0, 1), (.istore_n 3, 1), (.iload_n 3, 1), (.aload_n 1, 1), (.invokevirtual 92, 3), (.if_icmp .ge 38, 3), (.iload_n 2, 1), (.ifCond .eq 34, 3), (.aload_n 0, 1), (.getfield 25, 3), (.aload_n 0, 1), (.getfield 89, 3), (.iload_n 3, 1), (.iadd, 1), (.iaload, 1), (.aload_n 1, 1), (.iload_n 3, 1), (.invokevirtual 98, 3), (.if_icmp .ne 7, 3), (.iconst 1, 1), (.goto 4, 3), (.iconst 0, 1), (.istore_n 2, 1), (.iinc 3 1, 3), (.goto (-40), 3), (.iload_n 2, 1), (.ireturn, 1)]
theorem tX12_is_ok : sgB cX12_is 0 tX12_is = true := by decide +kernel
def tX12_lawWord : List (Instr × Nat) := [(.aload_n 0, 1), (.ldc 102, 2), (.invokevirtual 104, 3), (.ifCond .eq 6, 3), (.bipush 20, 2), (.ireturn, 1), (.aload_n 0, 1), (.ldc 108, 2), (.invokevirtual 104, 3), (.ifCond .eq 6, 3), (.bipush 41, 2), (.ireturn, 1), (.aload_n 0, 1), (.ldc 110, 2), (.invokevirtual 104, 3), (.ifCond .eq 6, 3), (.bipush 42, 2), (.ireturn, 1), (.aload_n 0, 1), (.ldc 112, 2), (.invokevirtual 104, 3), (.ifCond .eq 8, 3), (.bipush 46, 2), (.goto 4, 3), (.iconst 1, 1), (.ireturn, 1)]
theorem tX12_lawWord_ok : sgB cX12_lawWord 0 tX12_lawWord = true := by decide +kernel
def tX12_ruleWord : List (Instr × Nat) := [(.aload_n 0, 1), (.ldc 114, 2), (.invokevirtual 104, 3), (.ifCond .eq 6, 3), (.bipush 21, 2), (.ireturn, 1), (.aload_n 0, 1), (.ldc 116, 2), (.invokevirtual 104, 3), (.ifCond .eq 6, 3), (.bipush 22, 2), (.ireturn, 1), (.aload_n 0, 1), (.ldc 118, 2), (.invokevirtual 104, 3), (.ifCond .eq 6, 3), (.bipush 23, 2), (.ireturn, 1), (.aload_n 0, 1), (.ldc 120, 2), (.invokevirtual 104, 3), (.ifCond .eq 6, 3), (.bipush 47, 2), (.ireturn, 1), (.aload_n 0, 1), (.ldc 122, 2), (.invokevirtual 104, 3), (.ifCond .eq 6, 3), (.bipush 48, 2), (.ireturn, 1), (.aload_n 0, 1), (.ldc 124, 2), (.invokevirtual 104, 3), (.ifCond .eq 6, 3), (.bipush 49, 2), (.ireturn, 1), (.aload_n 0, 1), (.ldc 126, 2), (.invokevirtual 104, 3), (.ifCond .eq 6, 3), (.bipush 50, 2), (.ireturn, 1), (.aload_n 0, 1), (.ldc 128, 2), (.invokevirtual 104, 3), (.ifCond .eq 8, 3), (.bipush 51, 2), (.goto 4, 3), (.iconst 1, 1), (.ireturn, 1)]
theorem tX12_ruleWord_ok : sgB cX12_ruleWord 0 tX12_ruleWord = true := by decide +kernel
def tX12_word0 : List (Instr × Nat) := [(.aload_n 0, 1), (.ldc 130, 2), (.invokevirtual 104, 3), (.ifCond .eq 5, 3), (.iconst 3, 1), (.ireturn, 1), (.aload_n 0, 1), (.ldc 132, 2), (.invokevirtual 104, 3), (.ifCond .eq 5, 3), (.iconst 4, 1), (.ireturn, 1), (.aload_n 0, 1), (.ldc 134, 2), (.invokevirtual 104, 3), (.ifCond .eq 5, 3), (.iconst 5, 1), (.ireturn, 1), (.aload_n 0, 1), (.ldc 136, 2), (.invokevirtual 104, 3), (.ifCond .eq 6, 3), (.bipush 6, 2), (.ireturn, 1), (.aload_n 0, 1), (.ldc 138, 2), (.invokevirtual 104, 3), (.ifCond .eq 6, 3), (.bipush 43, 2), (.ireturn, 1), (.aload_n 0, 1), (.ldc 140, 2), (.invokevirtual 104, 3), (.ifCond .eq 6, 3), (.bipush 44, 2), (.ireturn, 1), (.aload_n 0, 1), (.ldc 142, 2), (.invokevirtual 104, 3), (.ifCond .eq 6, 3), (.bipush 45, 2), (.ireturn, 1), (.aload_n 0, 1), (.getfield 144, 3), (.iconst 2, 1), (.if_icmp .ge 10, 3), (.aload_n 0, 1), (.invokevirtual 147, 3), (.goto 7, 3), (.aload_n 0, 1), (.invokevirtual 150, 3), (.ireturn, 1)]
theorem tX12_word0_ok : sgB cX12_word0 0 tX12_word0 = true := by decide +kernel
def tX12_next0 : List (Instr × Nat) := [(.aload_n 0, 1), (.aload_n 0, 1), (.getfield 86, 3), (.invokevirtual 153, 3), (.bipush 32, 2), (.if_icmp .eq 16, 3), (.aload_n 0, 1), (.aload_n 0, 1), (.getfield 86, 3), (.invokevirtual 153, 3), (.bipush 10, 2), (.if_icmp .ne 16, 3), (.aload_n 0, 1), (.dup, 1), (.getfield 86, 3), (.iconst 1, 1), (.iadd, 1), (.putfield 86, 3), (.goto (-36), 3), (.aload_n 0, 1), (.aload_n 0, 1), (.getfield 86, 3), (.putfield 89, 3), (.aload_n 0, 1), (.aload_n 0, 1), (.getfield 86, 3), (.invokevirtual 153, 3), (.istore_n 1, 1), (.iload_n 1, 1), (.iconst (-1), 1), (.if_icmp .ne 11, 3), (.aload_n 0, 1), (.iconst 0, 1), (.putfield 156, 3), (.goto 240, 3), (.iload_n 1, 1), (.invokestatic 159, 3), (.ifCond .eq 41, 3), (.aload_n 0, 1), (.aload_n 0, 1), (.getfield 86, 3), (.invokevirtual 153, 3), (.invokestatic 159, 3), (.ifCond .eq 16, 3), (.aload_n 0, 1), (.dup, 1), (.getfield 86, 3), (.iconst 1, 1), (.iadd, 1), (.putfield 86, 3), (.goto (-24), 3), (.aload_n 0, 1), (.aload_n 0, 1), (.invokevirtual 162, 3), (.putfield 156, 3), (.goto 195, 3), (.iload_n 1, 1), (.invokestatic 165, 3), (.ifCond .eq 96, 3), (.aload_n 0, 1), (.iconst 0, 1), (.putfield 168, 3), (.aload_n 0, 1), (.aload_n 0, 1), (.getfield 86, 3), (.invokevirtual 153, 3), (.invokestatic 165, 3), (.ifCond .eq 52, 3), (.aload_n 0, 1), (.getfield 86, 3), (.aload_n 0, 1), (.getfield 89, 3), (.iconst 4, 1), (.iadd, 1), (.if_icmp .ge 26, 3), (.aload_n 0, 1), (.bipush 10, 2), (.aload_n 0, 1), (.getfield 168, 3), (.imul, 1), (.aload_n 0, 1), (.aload_n 0, 1), (.getfield 86, 3), (.invokevirtual 153, 3), (.iadd, 1), (.bipush 48, 2), (.isub, 1), (.putfield 168, 3), (.aload_n 0, 1), (.dup, 1), (.getfield 86, 3), (.iconst 1, 1), (.iadd, 1), (.putfield 86, 3), (.goto (-60), 3), (.aload_n 0, 1), (.aload_n 0, 1), (.getfield 86, 3), (.aload_n 0, 1), (.getfield 89, 3), (.isub, 1), (.iconst 5, 1), (.if_icmp .ge 7, 3), (.iconst 2, 1), (.goto 4, 3), (.iconst 1, 1), (.putfield 156, 3), (.goto 95, 3), (.aload_n 0, 1), (.dup, 1), (.getfield 86, 3), (.iconst 1, 1), (.iadd, 1), (.putfield 86, 3), (.iload_n 1, 1), (.bipush 59, 2), (.if_icmp .eq 57, 3), (.iload_n 1, 1), (.bipush 43, 2), (.if_icmp .eq 51, 3), (.iload_n 1, 1), (.bipush 45, 2), (.if_icmp .eq 45, 3), (.iload_n 1, 1), (.bipush 42, 2), (.if_icmp .eq 39, 3), (.iload_n 1, 1), (.bipush 47, 2), (.if_icmp .eq 33, 3), (.iload_n 1, 1), (.bipush 40, 2), (.if_icmp .eq 27, 3), (.iload_n 1, 1), (.bipush 41, 2), (.if_icmp .eq 21, 3), (.iload_n 1, 1), (.bipush 60, 2), (.if_icmp .eq 15, 3), (.iload_n 1, 1), (.bipush 61, 2), (.if_icmp .eq 9, 3), (.iload_n 1, 1), (.bipush 62, 2), (.if_icmp .ne 7, 3), (.iconst 1, 1), (.goto 4, 3), (.iconst 0, 1), (.istore_n 2, 1), (.aload_n 0, 1), (.iload_n 2, 1), (.ifCond .eq 10, 3), (.bipush 100, 2), (.iload_n 1, 1), (.iadd, 1), (.goto 4, 3), (.iconst 1, 1), (.putfield 156, 3), (.return_, 1)]
theorem tX12_next0_ok : sgB cX12_next0 0 tX12_next0 = true := by decide +kernel
def tX12_bad : List (Instr × Nat) := [(.aload_n 0, 1), (.iload_n 1, 1), (.putfield 171, 3), (.aload_n 0, 1), (.aload_n 0, 1), (.getfield 89, 3), (.putfield 174, 3), (.iconst 0, 1), (.ireturn, 1)]
theorem tX12_bad_ok : sgB cX12_bad 0 tX12_bad = true := by decide +kernel
def tX12_need : List (Instr × Nat) := [(.aload_n 0, 1), (.getfield 156, 3), (.iload_n 1, 1), (.if_icmp .eq 9, 3), (.aload_n 0, 1), (.iconst 1, 1), (.invokevirtual 177, 3), (.ireturn, 1), (.aload_n 0, 1), (.invokevirtual 180, 3), (.iconst 1, 1), (.ireturn, 1)]
theorem tX12_need_ok : sgB cX12_need 0 tX12_need = true := by decide +kernel
def tX12_number : List (Instr × Nat) := [(.aload_n 0, 1), (.getfield 156, 3), (.iconst 2, 1), (.if_icmp .eq 9, 3), (.aload_n 0, 1), (.iconst 1, 1), (.invokevirtual 177, 3), (.ireturn, 1), (.aload_n 0, 1), (.getfield 168, 3), (.iload_n 1, 1), (.iload_n 2, 1), (.invokestatic 50, 3), (.ifCond .ne 9, 3), (.aload_n 0, 1), (.iconst 2, 1), (.invokevirtual 177, 3), (.ireturn, 1), (.aload_n 0, 1), (.invokevirtual 180, 3), (.iconst 1, 1), (.ireturn, 1)]
theorem tX12_number_ok : sgB cX12_number 0 tX12_number = true := by decide +kernel
def tX12_lay : List (Instr × Nat) := [(.aload_n 0, 1), (.getfield 22, 3), (.iconst 2, 1), (.aload_n 0, 1), (.getfield 183, 3), (.imul, 1), (.iload_n 1, 1), (.iastore, 1), (.aload_n 0, 1), (.getfield 22, 3), (.iconst 2, 1), (.aload_n 0, 1), (.getfield 183, 3), (.imul, 1), (.iconst 1, 1), (.iadd, 1), (.iload_n 2, 1), (.iastore, 1), (.aload_n 0, 1), (.dup, 1), (.getfield 183, 3), (.iconst 1, 1), (.iadd, 1), (.putfield 183, 3), (.return_, 1)]
theorem tX12_lay_ok : sgB cX12_lay 0 tX12_lay = true := by decide +kernel
def tX12_opens : List (Instr × Nat) := [(.aload_n 0, 1), (.getfield 186, 3), (.bipush 8, 2), (.if_icmp .ne 9, 3), (.aload_n 0, 1), (.iconst 3, 1), (.invokevirtual 177, 3), (.ireturn, 1), (.aload_n 0, 1), (.dup, 1), (.getfield 186, 3), (.iconst 1, 1), (.iadd, 1), (.putfield 186, 3), (.aload_n 0, 1), (.invokevirtual 180, 3), (.iconst 1, 1), (.ireturn, 1)]
theorem tX12_opens_ok : sgB cX12_opens 0 tX12_opens = true := by decide +kernel
def tX12_sumUp : List (Instr × Nat) := [(.aload_n 0, 1), (.invokevirtual 189, 3), (.ifCond .ne 5, 3), (.iconst 0, 1), (.ireturn, 1), (.aload_n 0, 1), (.getfield 156, 3), (.sipush 143, 3), (.if_icmp .eq 13, 3), (.aload_n 0, 1), (.getfield 156, 3), (.sipush 145, 3), (.if_icmp .ne 43, 3), (.aload_n 0, 1), (.getfield 156, 3), (.sipush 143, 3), (.if_icmp .ne 8, 3), (.bipush 12, 2), (.goto 5, 3), (.bipush 13, 2), (.istore_n 1, 1), (.aload_n 0, 1), (.invokevirtual 180, 3), (.aload_n 0, 1), (.invokevirtual 189, 3), (.ifCond .ne 5, 3), (.iconst 0, 1), (.ireturn, 1), (.aload_n 0, 1), (.iload_n 1, 1), (.iconst 0, 1), (.invokevirtual 193, 3), (.goto (-57), 3), (.iconst 1, 1), (.ireturn, 1)]
theorem tX12_sumUp_ok : sgB cX12_sumUp 0 tX12_sumUp = true := by decide +kernel
def tX12_product : List (Instr × Nat) := [(.aload_n 0, 1), (.invokevirtual 197, 3), (.ifCond .ne 5, 3), (.iconst 0, 1), (.ireturn, 1), (.aload_n 0, 1), (.getfield 156, 3), (.sipush 142, 3), (.if_icmp .eq 13, 3), (.aload_n 0, 1), (.getfield 156, 3), (.sipush 147, 3), (.if_icmp .ne 74, 3), (.aload_n 0, 1), (.getfield 156, 3), (.sipush 147, 3), (.if_icmp .ne 7, 3), (.iconst 1, 1), (.goto 4, 3), (.iconst 0, 1), (.istore_n 1, 1), (.aload_n 0, 1), (.invokevirtual 180, 3), (.iload_n 1, 1), (.ifCond .eq 31, 3), (.aload_n 0, 1), (.getfield 168, 3), (.istore_n 2, 1), (.aload_n 0, 1), (.iconst 1, 1), (.sipush 9999, 3), (.invokevirtual 200, 3), (.ifCond .ne 5, 3), (.iconst 0, 1), (.ireturn, 1), (.aload_n 0, 1), (.bipush 15, 2), (.iload_n 2, 1), (.invokevirtual 193, 3), (.goto 19, 3), (.aload_n 0, 1), (.invokevirtual 197, 3), (.ifCond .ne 5, 3), (.iconst 0, 1), (.ireturn, 1), (.aload_n 0, 1), (.bipush 14, 2), (.iconst 0, 1), (.invokevirtual 193, 3), (.goto (-88), 3), (.iconst 1, 1), (.ireturn, 1)]
theorem tX12_product_ok : sgB cX12_product 0 tX12_product = true := by decide +kernel
def tX12_unit : List (Instr × Nat) := [(.aload_n 0, 1), (.getfield 156, 3), (.bipush 41, 2), (.bipush 51, 2), (.invokestatic 50, 3), (.istore_n 1, 1), (.aload_n 0, 1), (.getfield 156, 3), (.iconst 2, 1), (.if_icmp .eq 13, 3), (.iload_n 1, 1), (.ifCond .ne 9, 3), (.aload_n 0, 1), (.iconst 1, 1), (.invokevirtual 177, 3), (.ireturn, 1), (.aload_n 0, 1), (.iload_n 1, 1), (.ifCond .eq 13, 3), (.aload_n 0, 1), (.getfield 156, 3), (.bipush 40, 2), (.isub, 1), (.goto 4, 3), (.iconst 0, 1), (.aload_n 0, 1), (.getfield 168, 3), (.invokevirtual 193, 3), (.aload_n 0, 1), (.invokevirtual 180, 3), (.iconst 1, 1), (.ireturn, 1)]
theorem tX12_unit_ok : sgB cX12_unit 0 tX12_unit = true := by decide +kernel
def tX12_any : List (Instr × Nat) := [(.aload_n 0, 1), (.invokevirtual 204, 3), (.ifCond .ne 5, 3), (.iconst 0, 1), (.ireturn, 1), (.aload_n 0, 1), (.getfield 156, 3), (.iconst 4, 1), (.if_icmp .ne 26, 3), (.aload_n 0, 1), (.invokevirtual 180, 3), (.aload_n 0, 1), (.invokevirtual 204, 3), (.ifCond .ne 5, 3), (.iconst 0, 1), (.ireturn, 1), (.aload_n 0, 1), (.bipush 21, 2), (.iconst 0, 1), (.invokevirtual 193, 3), (.goto (-28), 3), (.iconst 1, 1), (.ireturn, 1)]
theorem tX12_any_ok : sgB cX12_any 0 tX12_any = true := by decide +kernel
def tX12_every : List (Instr × Nat) := [(.aload_n 0, 1), (.invokevirtual 207, 3), (.ifCond .ne 5, 3), (.iconst 0, 1), (.ireturn, 1), (.aload_n 0, 1), (.getfield 156, 3), (.iconst 5, 1), (.if_icmp .ne 26, 3), (.aload_n 0, 1), (.invokevirtual 180, 3), (.aload_n 0, 1), (.invokevirtual 207, 3), (.ifCond .ne 5, 3), (.iconst 0, 1), (.ireturn, 1), (.aload_n 0, 1), (.bipush 20, 2), (.iconst 0, 1), (.invokevirtual 193, 3), (.goto (-28), 3), (.iconst 1, 1), (.ireturn, 1)]
theorem tX12_every_ok : sgB cX12_every 0 tX12_every = true := by decide +kernel
def tX12_one0 : List (Instr × Nat) := [(.aload_n 0, 1), (.getfield 156, 3), (.bipush 6, 2), (.if_icmp .ne 38, 3), (.aload_n 0, 1), (.invokevirtual 210, 3), (.ifCond .eq 10, 3), (.aload_n 0, 1), (.invokevirtual 207, 3), (.ifCond .ne 5, 3), (.iconst 0, 1), (.ireturn, 1), (.aload_n 0, 1), (.dup, 1), (.getfield 186, 3), (.iconst 1, 1), (.isub, 1), (.putfield 186, 3), (.aload_n 0, 1), (.bipush 19, 2), (.iconst 0, 1), (.invokevirtual 193, 3), (.iconst 1, 1), (.ireturn, 1), (.aload_n 0, 1), (.getfield 156, 3), (.sipush 140, 3), (.if_icmp .ne 41, 3), (.aload_n 0, 1), (.invokevirtual 210, 3), (.ifCond .eq 20, 3), (.aload_n 0, 1), (.invokevirtual 213, 3), (.ifCond .eq 13, 3), (.aload_n 0, 1), (.sipush 141, 3), (.invokevirtual 216, 3), (.ifCond .ne 5, 3), (.iconst 0, 1), (.ireturn, 1), (.aload_n 0, 1), (.dup, 1), (.getfield 186, 3), (.iconst 1, 1), (.isub, 1), (.putfield 186, 3), (.iconst 1, 1), (.ireturn, 1), (.aload_n 0, 1), (.invokevirtual 219, 3), (.ifCond .ne 5, 3), (.iconst 0, 1), (.ireturn, 1), (.aload_n 0, 1), (.getfield 156, 3), (.sipush 160, 3), (.if_icmp .ne 8, 3), (.bipush 16, 2), (.goto 34, 3), (.aload_n 0, 1), (.getfield 156, 3), (.sipush 161, 3), (.if_icmp .ne 8, 3), (.bipush 17, 2), (.goto 19, 3), (.aload_n 0, 1), (.getfield 156, 3), (.sipush 162, 3), (.if_icmp .ne 8, 3), (.bipush 18, 2), (.goto 4, 3), (.iconst (-1), 1), (.istore_n 1, 1), (.iload_n 1, 1), (.iconst (-1), 1), (.if_icmp .ne 9, 3), (.aload_n 0, 1), (.iconst 1, 1), (.invokevirtual 177, 3), (.ireturn, 1), (.aload_n 0, 1), (.invokevirtual 180, 3), (.aload_n 0, 1), (.invokevirtual 219, 3), (.ifCond .ne 5, 3), (.iconst 0, 1), (.ireturn, 1), (.aload_n 0, 1), (.iload_n 1, 1), (.iconst 0, 1), (.invokevirtual 193, 3), (.iconst 1, 1), (.ireturn, 1)]
theorem tX12_one0_ok : sgB cX12_one0 0 tX12_one0 = true := by decide +kernel
def tX12_aLine : List (Instr × Nat) := [(.aload_n 0, 1), (.getfield 144, 3), (.iconst 2, 1), (.if_icmp .ge 7, 3), (.iconst 1, 1), (.goto 4, 3), (.iconst 0, 1), (.istore_n 1, 1), (.aload_n 0, 1), (.getfield 156, 3), (.bipush 20, 2), (.iload_n 1, 1), (.ifCond .eq 7, 3), (.iconst 0, 1), (.goto 4, 3), (.iconst 1, 1), (.iadd, 1), (.bipush 20, 2), (.iload_n 1, 1), (.ifCond .eq 7, 3), (.iconst 0, 1), (.goto 4, 3), (.iconst 3, 1), (.iadd, 1), (.invokestatic 50, 3), (.ifCond .ne 9, 3), (.aload_n 0, 1), (.iconst 1, 1), (.invokevirtual 177, 3), (.ireturn, 1), (.aload_n 0, 1), (.getfield 222, 3), (.bipush 16, 2), (.if_icmp .ne 9, 3), (.aload_n 0, 1), (.iconst 3, 1), (.invokevirtual 177, 3), (.ireturn, 1), (.aload_n 0, 1), (.getfield 156, 3), (.bipush 20, 2), (.isub, 1), (.istore_n 2, 1), (.aload_n 0, 1), (.iconst 0, 1), (.putfield 186, 3), (.aload_n 0, 1), (.invokevirtual 180, 3), (.aload_n 0, 1), (.getfield 19, 3), (.iconst 4, 1), (.aload_n 0, 1), (.getfield 222, 3), (.imul, 1), (.iload_n 2, 1), (.iastore, 1), (.aload_n 0, 1), (.getfield 19, 3), (.iconst 4, 1), (.aload_n 0, 1), (.getfield 222, 3), (.imul, 1), (.iconst 1, 1), (.iadd, 1), (.aload_n 0, 1), (.getfield 168, 3), (.iastore, 1), (.iload_n 2, 1), (.iconst 1, 1), (.if_icmp .eq 8, 3), (.iload_n 2, 1), (.iconst 2, 1), (.if_icmp .ne 15, 3), (.aload_n 0, 1), (.iconst 0, 1), (.bipush 99, 2), (.invokevirtual 200, 3), (.ifCond .ne 5, 3), (.iconst 0, 1), (.ireturn, 1), (.aload_n 0, 1), (.getfield 19, 3), (.iconst 4, 1), (.aload_n 0, 1), (.getfield 222, 3), (.imul, 1), (.iconst 2, 1), (.iadd, 1), (.aload_n 0, 1), (.getfield 183, 3), (.iastore, 1), (.iload_n 1, 1), (.ifCond .ne 11, 3), (.aload_n 0, 1), (.getfield 156, 3), (.iconst 3, 1), (.if_icmp .ne 20, 3), (.aload_n 0, 1), (.iconst 3, 1), (.invokevirtual 216, 3), (.ifCond .eq 10, 3), (.aload_n 0, 1), (.invokevirtual 213, 3), (.ifCond .ne 5, 3), (.iconst 0, 1), (.ireturn, 1), (.aload_n 0, 1), (.getfield 19, 3), (.iconst 4, 1), (.aload_n 0, 1), (.getfield 222, 3), (.imul, 1), (.iconst 3, 1), (.iadd, 1), (.aload_n 0, 1), (.getfield 183, 3), (.iastore, 1), (.aload_n 0, 1), (.sipush 159, 3), (.invokevirtual 216, 3), (.ireturn, 1)]
theorem tX12_aLine_ok : sgB cX12_aLine 0 tX12_aLine = true := by decide +kernel
def tX12_text : List (Instr × Nat) := [(.aload_n 0, 1), (.iconst 0, 1), (.putfield 171, 3), (.iload_n 1, 1), (.iconst 0, 1), (.iconst 5, 1), (.invokestatic 50, 3), (.ifCond .ne 20, 3), (.aload_n 0, 1), (.iconst 0, 1), (.putfield 83, 3), (.aload_n 0, 1), (.iconst 0, 1), (.putfield 225, 3), (.aload_n 0, 1), (.iconst (-1), 1), (.putfield 34, 3), (.iconst (-1), 1), (.ireturn, 1), (.aload_n 0, 1), (.iload_n 1, 1), (.putfield 144, 3), (.aload_n 0, 1), (.iconst 0, 1), (.putfield 86, 3), (.aload_n 0, 1), (.iconst 0, 1), (.putfield 222, 3), (.aload_n 0, 1), (.iconst 0, 1), (.putfield 183, 3), (.aload_n 0, 1), (.invokevirtual 180, 3), (.iconst 1, 1), (.istore_n 2, 1), (.iload_n 2, 1), (.ifCond .eq 36, 3), (.aload_n 0, 1), (.getfield 156, 3), (.ifCond .eq 29, 3), (.aload_n 0, 1), (.invokevirtual 228, 3), (.istore_n 2, 1), (.aload_n 0, 1), (.dup, 1), (.getfield 222, 3), (.iload_n 2, 1), (.ifCond .eq 7, 3), (.iconst 1, 1), (.goto 4, 3), (.iconst 0, 1), (.iadd, 1), (.putfield 222, 3), (.goto (-34), 3), (.aload_n 0, 1), (.iconst 0, 1), (.putfield 83, 3), (.aload_n 0, 1), (.aload_n 0, 1), (.getfield 171, 3), (.putfield 225, 3), (.aload_n 0, 1), (.iload_n 2, 1), (.ifCond .eq 7, 3), (.iconst (-1), 1), (.goto 7, 3), (.aload_n 0, 1), (.getfield 174, 3), (.putfield 34, 3), (.iload_n 2, 1), (.ifCond .ne 5, 3), (.iconst (-1), 1), (.ireturn, 1), (.aload_n 0, 1), (.getfield 7, 3), (.sipush 2550, 3), (.iload_n 1, 1), (.iadd, 1), (.aload_n 0, 1), (.getfield 222, 3), (.iastore, 1), (.iconst 0, 1), (.istore_n 3, 1), (.iload_n 3, 1), (.aload_n 0, 1), (.getfield 222, 3), (.if_icmp .ge 107, 3), (.aload_n 0, 1), (.getfield 7, 3), (.sipush 2560, 3), (.bipush 16, 2), (.iload_n 1, 1), (.imul, 1), (.iadd, 1), (.iload_n 3, 1), (.iadd, 1), (.aload_n 0, 1), (.getfield 19, 3), (.iconst 4, 1), (.iload_n 3, 1), (.imul, 1), (.iaload, 1), (.iastore, 1), (.aload_n 0, 1), (.getfield 7, 3), (.sipush 2660, 3), (.bipush 16, 2), (.iload_n 1, 1), (.imul, 1), (.iadd, 1), (.iload_n 3, 1), (.iadd, 1), (.aload_n 0, 1), (.getfield 19, 3), (.iconst 4, 1), (.iload_n 3, 1), (.imul, 1), (.iconst 1, 1), (.iadd, 1), (.iaload, 1), (.iastore, 1), (.aload_n 0, 1), (.getfield 7, 3), (.sipush 2760, 3), (.bipush 16, 2), (.iload_n 1, 1), (.imul, 1), (.iadd, 1), (.iload_n 3, 1), (.iadd, 1), (.aload_n 0, 1), (.getfield 19, 3), (.iconst 4, 1), (.iload_n 3, 1), (.imul, 1), (.iconst 2, 1), (.iadd, 1), (.iaload, 1), (.iastore, 1), (.aload_n 0, 1), (.getfield 7, 3), (.sipush 2860, 3), (.bipush 16, 2), (.iload_n 1, 1), (.imul, 1), (.iadd, 1), (.iload_n 3, 1), (.iadd, 1), (.aload_n 0, 1), (.getfield 19, 3), (.iconst 4, 1), (.iload_n 3, 1), (.imul, 1), (.iconst 3, 1), (.iadd, 1), (.iaload, 1), (.iastore, 1), (.iinc 3 1, 3), (.goto (-109), 3), (.iconst 0, 1), (.istore_n 3, 1), (.iload_n 3, 1), (.iconst 2, 1), (.aload_n 0, 1), (.getfield 183, 3), (.imul, 1), (.if_icmp .ge 31, 3), (.aload_n 0, 1), (.getfield 7, 3), (.sipush 2960, 3), (.sipush 820, 3), (.iload_n 1, 1), (.imul, 1), (.iadd, 1), (.iload_n 3, 1), (.iadd, 1), (.aload_n 0, 1), (.getfield 22, 3), (.iload_n 3, 1), (.iaload, 1), (.iastore, 1), (.iinc 3 1, 3), (.goto (-35), 3), (.aload_n 0, 1), (.getfield 222, 3), (.ireturn, 1)]
theorem tX12_text_ok : sgB cX12_text 0 tX12_text = true := by decide +kernel
def tX12_fault : List (Instr × Nat) := [(.iload_n 1, 1), (.ifCond .ne 10, 3), (.aload_n 0, 1), (.getfield 225, 3), (.goto 16, 3), (.iload_n 1, 1), (.iconst 1, 1), (.if_icmp .ne 10, 3), (.aload_n 0, 1), (.getfield 34, 3), (.goto 4, 3), (.iconst (-1), 1), (.ireturn, 1)]
theorem tX12_fault_ok : sgB cX12_fault 0 tX12_fault = true := by decide +kernel
def tX12_both : List (Instr × Nat) := [(.iload_n 0, 1), (.tableswitch 100 12 20 #[51, 55, 59, 100, 63, 74, 85, 100, 96], 51), (.iload_n 1, 1), (.iload_n 2, 1), (.iadd, 1), (.ireturn, 1), (.iload_n 1, 1), (.iload_n 2, 1), (.isub, 1), (.ireturn, 1), (.iload_n 1, 1), (.iload_n 2, 1), (.imul, 1), (.ireturn, 1), (.iload_n 1, 1), (.iload_n 2, 1), (.if_icmp .ge 7, 3), (.iconst 1, 1), (.goto 4, 3), (.iconst 0, 1), (.ireturn, 1), (.iload_n 1, 1), (.iload_n 2, 1), (.if_icmp .ne 7, 3), (.iconst 1, 1), (.goto 4, 3), (.iconst 0, 1), (.ireturn, 1), (.iload_n 1, 1), (.iload_n 2, 1), (.if_icmp .le 7, 3), (.iconst 1, 1), (.goto 4, 3), (.iconst 0, 1), (.ireturn, 1), (.iload_n 1, 1), (.iload_n 2, 1), (.iand, 1), (.ireturn, 1), (.iload_n 1, 1), (.iload_n 2, 1), (.ior, 1), (.ireturn, 1)]
theorem tX12_both_ok : sgB cX12_both 0 tX12_both = true := by decide +kernel
def tX12_comesTo : List (Instr × Nat) := [(.iconst 0, 1), (.istore 4, 2), (.iload_n 2, 1), (.istore 5, 2), (.iload 5, 2), (.iload_n 3, 1), (.if_icmp .ge 177, 3), (.aload_n 0, 1), (.getfield 7, 3), (.sipush 2960, 3), (.sipush 820, 3), (.iload_n 1, 1), (.imul, 1), (.iadd, 1), (.iconst 2, 1), (.iload 5, 2), (.imul, 1), (.iadd, 1), (.iaload, 1), (.istore 6, 2), (.aload_n 0, 1), (.getfield 7, 3), (.sipush 2960, 3), (.sipush 820, 3), (.iload_n 1, 1), (.imul, 1), (.iadd, 1), (.iconst 2, 1), (.iload 5, 2), (.imul, 1), (.iadd, 1), (.iconst 1, 1), (.iadd, 1), (.iaload, 1), (.istore 7, 2), (.iload 6, 2), (.bipush 12, 2), (.if_icmp .ge 33, 3), (.aload_n 0, 1), (.getfield 28, 3), (.iload 4, 2), (.iload 6, 2), (.ifCond .ne 8, 3), (.iload 7, 2), (.goto 10, 3), (.aload_n 0, 1), (.getfield 31, 3), (.iload 6, 2), (.iaload, 1), (.iastore, 1), (.iinc 4 1, 3), (.goto 90, 3), (.iload 6, 2), (.bipush 15, 2), (.if_icmp .ne 20, 3), (.aload_n 0, 1), (.getfield 28, 3), (.iload 4, 2), (.iconst 1, 1), (.isub, 1), (.dup2, 1), (.iaload, 1), (.iload 7, 2), (.idiv, 1), (.iastore, 1), (.goto 66, 3), (.iload 6, 2), (.bipush 19, 2), (.if_icmp .ne 26, 3), (.aload_n 0, 1), (.getfield 28, 3), (.iload 4, 2), (.iconst 1, 1), (.isub, 1), (.iconst 1, 1), (.aload_n 0, 1), (.getfield 28, 3), (.iload 4, 2), (.iconst 1, 1), (.isub, 1), (.iaload, 1), (.isub, 1), (.iastore, 1), (.goto 36, 3), (.iinc 4 (-1), 3), (.aload_n 0, 1), (.getfield 28, 3), (.iload 4, 2), (.iconst 1, 1), (.isub, 1), (.iload 6, 2), (.aload_n 0, 1), (.getfield 28, 3), (.iload 4, 2), (.iconst 1, 1), (.isub, 1), (.iaload, 1), (.aload_n 0, 1), (.getfield 28, 3), (.iload 4, 2), (.iaload, 1), (.invokestatic 231, 3), (.iastore, 1), (.iinc 5 1, 3), (.goto (-177), 3), (.aload_n 0, 1), (.getfield 28, 3), (.iconst 0, 1), (.iaload, 1), (.ireturn, 1)]
theorem tX12_comesTo_ok : sgB cX12_comesTo 0 tX12_comesTo = true := by decide +kernel
def tX12_firstLine : List (Instr × Nat) := [(.iconst 0, 1), (.istore_n 2, 1), (.iload_n 2, 1), (.aload_n 0, 1), (.getfield 7, 3), (.sipush 2550, 3), (.iload_n 1, 1), (.iadd, 1), (.iaload, 1), (.if_icmp .ge 70, 3), (.bipush 16, 2), (.iload_n 1, 1), (.imul, 1), (.iload_n 2, 1), (.iadd, 1), (.istore_n 3, 1), (.aload_n 0, 1), (.getfield 7, 3), (.sipush 2860, 3), (.iload_n 3, 1), (.iadd, 1), (.iaload, 1), (.aload_n 0, 1), (.getfield 7, 3), (.sipush 2760, 3), (.iload_n 3, 1), (.iadd, 1), (.iaload, 1), (.if_icmp .eq 32, 3), (.aload_n 0, 1), (.iload_n 1, 1), (.aload_n 0, 1), (.getfield 7, 3), (.sipush 2760, 3), (.iload_n 3, 1), (.iadd, 1), (.iaload, 1), (.aload_n 0, 1), (.getfield 7, 3), (.sipush 2860, 3), (.iload_n 3, 1), (.iadd, 1), (.iaload, 1), (.invokevirtual 235, 3), (.iconst 1, 1), (.if_icmp .ne 5, 3), (.iload_n 3, 1), (.ireturn, 1), (.iinc 2 1, 3), (.goto (-78), 3), (.iconst (-1), 1), (.ireturn, 1)]
theorem tX12_firstLine_ok : sgB cX12_firstLine 0 tX12_firstLine = true := by decide +kernel
def tX12_isNight : List (Instr × Nat) := [(.iload_n 0, 1), (.bipush 6, 2), (.if_icmp .lt 9, 3), (.iload_n 0, 1), (.bipush 21, 2), (.if_icmp .le 7, 3), (.iconst 1, 1), (.goto 4, 3), (.iconst 0, 1), (.ireturn, 1)]
theorem tX12_isNight_ok : sgB cX12_isNight 0 tX12_isNight = true := by decide +kernel
def tX12_isFeast : List (Instr × Nat) := [(.aload_n 0, 1), (.getfield 7, 3), (.bipush 7, 2), (.iaload, 1), (.ifCond .le 19, 3), (.iload_n 1, 1), (.aload_n 0, 1), (.getfield 7, 3), (.bipush 7, 2), (.iaload, 1), (.irem, 1), (.ifCond .ne 7, 3), (.iconst 1, 1), (.goto 4, 3), (.iconst 0, 1), (.ireturn, 1)]
theorem tX12_isFeast_ok : sgB cX12_isFeast 0 tX12_isFeast = true := by decide +kernel
def tX12_isWord : List (Instr × Nat) := [(.aload_n 0, 1), (.getfield 31, 3), (.iconst 1, 1), (.iload_n 3, 1), (.iastore, 1), (.aload_n 0, 1), (.getfield 31, 3), (.iconst 2, 1), (.iload_n 2, 1), (.iastore, 1), (.aload_n 0, 1), (.getfield 31, 3), (.iconst 3, 1), (.iload 4, 2), (.iastore, 1), (.aload_n 0, 1), (.getfield 31, 3), (.iconst 4, 1), (.iload 4, 2), (.invokestatic 238, 3), (.ifCond .eq 7, 3), (.iconst 1, 1), (.goto 4, 3), (.iconst 0, 1), (.iastore, 1), (.aload_n 0, 1), (.getfield 31, 3), (.iconst 5, 1), (.iload 6, 2), (.ifCond .eq 7, 3), (.iconst 1, 1), (.goto 4, 3), (.iconst 0, 1), (.iastore, 1), (.aload_n 0, 1), (.getfield 31, 3), (.bipush 6, 2), (.iload 5, 2), (.ifCond .eq 7, 3), (.iconst 1, 1), (.goto 4, 3), (.iconst 0, 1), (.iastore, 1), (.aload_n 0, 1), (.iload_n 1, 1), (.invokevirtual 241, 3), (.iconst (-1), 1), (.if_icmp .eq 7, 3), (.iconst 1, 1), (.goto 4, 3), (.iconst 0, 1), (.ireturn, 1)]
theorem tX12_isWord_ok : sgB cX12_isWord 0 tX12_isWord = true := by decide +kernel
def tX12_word : List (Instr × Nat) := [(.iload_n 1, 1), (.iconst 0, 1), (.iconst 1, 1), (.invokestatic 50, 3), (.ifCond .eq 33, 3), (.iload_n 2, 1), (.iconst 0, 1), (.iconst 3, 1), (.invokestatic 50, 3), (.ifCond .eq 24, 3), (.iload_n 3, 1), (.iconst 0, 1), (.bipush 99, 2), (.invokestatic 50, 3), (.ifCond .eq 14, 3), (.iload 4, 2), (.iconst 0, 1), (.bipush 23, 2), (.invokestatic 50, 3), (.ifCond .ne 5, 3), (.iconst (-1), 1), (.ireturn, 1), (.aload_n 0, 1), (.iload_n 1, 1), (.iload_n 2, 1), (.iload_n 3, 1), (.iload 4, 2), (.iload 5, 2), (.iload 6, 2), (.invokevirtual 244, 3), (.ifCond .eq 7, 3), (.iconst 1, 1), (.goto 4, 3), (.iconst 0, 1), (.ireturn, 1)]
theorem tX12_word_ok : sgB cX12_word 0 tX12_word = true := by decide +kernel
def tX12_hourNow : List (Instr × Nat) := [(.aload_n 0, 1), (.getfield 7, 3), (.iconst 2, 1), (.iaload, 1), (.iconst 4, 1), (.idiv, 1), (.ireturn, 1)]
theorem tX12_hourNow_ok : sgB cX12_hourNow 0 tX12_hourNow = true := by decide +kernel
def tX12_left : List (Instr × Nat) := [(.iconst 0, 1), (.istore_n 3, 1), (.iconst 0, 1), (.istore 4, 2), (.iload 4, 2), (.aload_n 0, 1), (.getfield 7, 3), (.bipush 10, 2), (.iaload, 1), (.if_icmp .ge 62, 3), (.iload_n 3, 1), (.iload_n 2, 1), (.ifCond .ne 13, 3), (.aload_n 0, 1), (.iload 4, 2), (.iconst 0, 1), (.invokevirtual 76, 3), (.goto 24, 3), (.iload_n 2, 1), (.iconst 1, 1), (.if_icmp .ne 13, 3), (.aload_n 0, 1), (.iload 4, 2), (.iconst 1, 1), (.invokevirtual 76, 3), (.goto 9, 3), (.aload_n 0, 1), (.iload 4, 2), (.invokevirtual 79, 3), (.iload_n 1, 1), (.if_icmp .ne 13, 3), (.aload_n 0, 1), (.iload 4, 2), (.iconst 2, 1), (.invokevirtual 76, 3), (.goto 4, 3), (.iconst 0, 1), (.iadd, 1), (.istore_n 3, 1), (.iinc 4 1, 3), (.goto (-68), 3), (.iload_n 3, 1), (.ireturn, 1)]
theorem tX12_left_ok : sgB cX12_left 0 tX12_left = true := by decide +kernel
def tX12_ruled : List (Instr × Nat) := [(.aload_n 0, 1), (.iload_n 1, 1), (.iconst 4, 1), (.invokevirtual 65, 3), (.iconst 4, 1), (.if_icmp .ne 5, 3), (.iconst (-1), 1), (.ireturn, 1), (.iconst 0, 1), (.istore_n 2, 1), (.iconst 0, 1), (.istore_n 3, 1), (.iload_n 3, 1), (.aload_n 0, 1), (.getfield 7, 3), (.bipush 9, 2), (.iaload, 1), (.if_icmp .ge 37, 3), (.iload_n 2, 1), (.iload_n 3, 1), (.iload_n 1, 1), (.if_icmp .eq 22, 3), (.aload_n 0, 1), (.iload_n 3, 1), (.iconst 1, 1), (.invokevirtual 65, 3), (.aload_n 0, 1), (.iload_n 1, 1), (.iconst 1, 1), (.invokevirtual 65, 3), (.if_icmp .ne 7, 3), (.iconst 1, 1), (.goto 4, 3), (.iconst 0, 1), (.iadd, 1), (.istore_n 2, 1), (.iinc 3 1, 3), (.goto (-42), 3), (.aload_n 0, 1), (.getfield 31, 3), (.iconst 3, 1), (.aload_n 0, 1), (.invokevirtual 248, 3), (.iastore, 1), (.aload_n 0, 1), (.getfield 31, 3), (.bipush 7, 2), (.aload_n 0, 1), (.getfield 7, 3), (.iconst 2, 1), (.iaload, 1), (.iconst 4, 1), (.irem, 1), (.iastore, 1), (.aload_n 0, 1), (.getfield 31, 3), (.bipush 8, 2), (.aload_n 0, 1), (.getfield 7, 3), (.iconst 1, 1), (.iaload, 1), (.iastore, 1), (.aload_n 0, 1), (.getfield 31, 3), (.iconst 4, 1), (.aload_n 0, 1), (.invokevirtual 248, 3), (.invokestatic 238, 3), (.ifCond .eq 7, 3), (.iconst 1, 1), (.goto 4, 3), (.iconst 0, 1), (.iastore, 1), (.aload_n 0, 1), (.getfield 31, 3), (.iconst 5, 1), (.aload_n 0, 1), (.aload_n 0, 1), (.getfield 7, 3), (.iconst 1, 1), (.iaload, 1), (.invokevirtual 251, 3), (.ifCond .eq 7, 3), (.iconst 1, 1), (.goto 4, 3), (.iconst 0, 1), (.iastore, 1), (.aload_n 0, 1), (.getfield 31, 3), (.bipush 9, 2), (.aload_n 0, 1), (.iload_n 1, 1), (.iconst 2, 1), (.invokevirtual 254, 3), (.iastore, 1), (.aload_n 0, 1), (.getfield 31, 3), (.bipush 10, 2), (.aload_n 0, 1), (.iload_n 1, 1), (.iconst 1, 1), (.invokevirtual 254, 3), (.iastore, 1), (.aload_n 0, 1), (.getfield 31, 3), (.bipush 11, 2), (.iload_n 2, 1), (.iastore, 1), (.aload_n 0, 1), (.iconst 2, 1), (.aload_n 0, 1), (.iload_n 1, 1), (.iconst 4, 1), (.invokevirtual 65, 3), (.iadd, 1), (.invokevirtual 241, 3), (.istore_n 3, 1), (.iload_n 3, 1), (.iconst (-1), 1), (.if_icmp .eq 17, 3), (.aload_n 0, 1), (.getfield 7, 3), (.sipush 2560, 3), (.iload_n 3, 1), (.iadd, 1), (.iaload, 1), (.iconst 3, 1), (.if_icmp .ne 7, 3), (.iconst (-1), 1), (.goto 4, 3), (.iload_n 3, 1), (.ireturn, 1)]
theorem tX12_ruled_ok : sgB cX12_ruled 0 tX12_ruled = true := by decide +kernel
def tX12_does : List (Instr × Nat) := [(.aload_n 0, 1), (.iload_n 1, 1), (.invokevirtual 62, 3), (.ifCond .eq 12, 3), (.aload_n 0, 1), (.iload_n 1, 1), (.iconst 0, 1), (.invokevirtual 65, 3), (.ifCond .eq 5, 3), (.iconst (-1), 1), (.ireturn, 1), (.aload_n 0, 1), (.iload_n 1, 1), (.invokevirtual 257, 3), (.istore_n 2, 1), (.iload_n 2, 1), (.iconst (-1), 1), (.if_icmp .ne 7, 3), (.iconst 0, 1), (.goto 34, 3), (.aload_n 0, 1), (.getfield 7, 3), (.sipush 2560, 3), (.iload_n 2, 1), (.iadd, 1), (.iaload, 1), (.iconst 1, 1), (.if_icmp .ne 7, 3), (.iconst 1, 1), (.goto 5, 3), (.bipush 101, 2), (.aload_n 0, 1), (.getfield 7, 3), (.sipush 2660, 3), (.iload_n 2, 1), (.iadd, 1), (.iaload, 1), (.iadd, 1), (.ireturn, 1)]
theorem tX12_does_ok : sgB cX12_does 0 tX12_does = true := by decide +kernel
def tX12_sounds : List (Instr × Nat) := [(.aload_n 0, 1), (.getfield 7, 3), (.sipush 190, 3), (.iconst 3, 1), (.iload_n 1, 1), (.imul, 1), (.iadd, 1), (.iload_n 2, 1), (.iastore, 1), (.aload_n 0, 1), (.getfield 7, 3), (.sipush 190, 3), (.iconst 3, 1), (.iload_n 1, 1), (.imul, 1), (.iadd, 1), (.iconst 1, 1), (.iadd, 1), (.iload_n 3, 1), (.iastore, 1), (.aload_n 0, 1), (.getfield 7, 3), (.sipush 190, 3), (.iconst 3, 1), (.iload_n 1, 1), (.imul, 1), (.iadd, 1), (.iconst 2, 1), (.iadd, 1), (.aload_n 0, 1), (.aload_n 0, 1), (.getfield 7, 3), (.bipush 8, 2), (.iaload, 1), (.iload_n 2, 1), (.iload_n 3, 1), (.aload_n 0, 1), (.invokevirtual 248, 3), (.aload_n 0, 1), (.iload_n 1, 1), (.iconst 0, 1), (.invokevirtual 65, 3), (.iconst 1, 1), (.if_icmp .ne 7, 3), (.iconst 1, 1), (.goto 4, 3), (.iconst 0, 1), (.aload_n 0, 1), (.aload_n 0, 1), (.getfield 7, 3), (.iconst 1, 1), (.iaload, 1), (.invokevirtual 251, 3), (.invokevirtual 244, 3), (.ifCond .eq 7, 3), (.iconst 1, 1), (.goto 4, 3), (.iconst 0, 1), (.iastore, 1), (.return_, 1)]
theorem tX12_sounds_ok : sgB cX12_sounds 0 tX12_sounds = true := by decide +kernel
def tX12_makesNoise : List (Instr × Nat) := [(.aload_n 0, 1), (.iload_n 1, 1), (.invokevirtual 44, 3), (.aload_n 0, 1), (.iload_n 1, 1), (.iconst 0, 1), (.invokevirtual 65, 3), (.iconst 2, 1), (.if_icmp .ne 4, 3), (.return_, 1), (.aload_n 0, 1), (.iload_n 1, 1), (.iconst 0, 1), (.invokevirtual 65, 3), (.iconst 1, 1), (.if_icmp .ne 7, 3), (.iconst 1, 1), (.goto 4, 3), (.iconst 0, 1), (.istore_n 2, 1), (.iload_n 2, 1), (.ifCond .ne 13, 3), (.aload_n 0, 1), (.invokevirtual 248, 3), (.invokestatic 238, 3), (.ifCond .eq 55, 3), (.aload_n 0, 1), (.sipush 1000, 3), (.invokevirtual 260, 3), (.aload_n 0, 1), (.iload_n 1, 1), (.iconst 3, 1), (.invokevirtual 65, 3), (.if_icmp .ge 38, 3), (.aload_n 0, 1), (.iload_n 1, 1), (.iload_n 2, 1), (.ifCond .eq 7, 3), (.iconst 2, 1), (.goto 4, 3), (.iconst 1, 1), (.iload_n 2, 1), (.ifCond .eq 12, 3), (.aload_n 0, 1), (.iload_n 1, 1), (.iconst 2, 1), (.invokevirtual 65, 3), (.goto 11, 3), (.aload_n 0, 1), (.iload_n 1, 1), (.iconst 2, 1), (.invokevirtual 65, 3), (.iconst 2, 1), (.idiv, 1), (.invokevirtual 263, 3), (.return_, 1), (.aload_n 0, 1), (.iload_n 1, 1), (.invokevirtual 257, 3), (.istore_n 3, 1), (.iload_n 3, 1), (.iconst (-1), 1), (.if_icmp .eq 37, 3), (.aload_n 0, 1), (.iload_n 1, 1), (.aload_n 0, 1), (.getfield 7, 3), (.sipush 2560, 3), (.iload_n 3, 1), (.iadd, 1), (.iaload, 1), (.iconst 1, 1), (.if_icmp .ne 7, 3), (.iconst 0, 1), (.goto 4, 3), (.iconst 3, 1), (.aload_n 0, 1), (.getfield 7, 3), (.sipush 2660, 3), (.iload_n 3, 1), (.iadd, 1), (.iaload, 1), (.invokevirtual 263, 3), (.return_, 1)]
theorem tX12_makesNoise_ok : sgB cX12_makesNoise 0 tX12_makesNoise = true := by decide +kernel
def tX12_noise : List (Instr × Nat) := [(.aload_n 0, 1), (.iload_n 1, 1), (.invokevirtual 62, 3), (.ifCond .eq 29, 3), (.iload_n 2, 1), (.iconst 0, 1), (.iconst 2, 1), (.invokestatic 50, 3), (.ifCond .eq 20, 3), (.aload_n 0, 1), (.getfield 7, 3), (.sipush 190, 3), (.iconst 3, 1), (.iload_n 1, 1), (.imul, 1), (.iadd, 1), (.iload_n 2, 1), (.iadd, 1), (.iaload, 1), (.goto 5, 3), (.bipush (-2), 2), (.ireturn, 1)]
theorem tX12_noise_ok : sgB cX12_noise 0 tX12_noise = true := by decide +kernel
def tX12_writes : List (Instr × Nat) := [(.aload_n 0, 1), (.getfield 7, 3), (.bipush 11, 2), (.iaload, 1), (.sipush 400, 3), (.if_icmp .ne 4, 3), (.return_, 1), (.sipush 550, 3), (.iconst 5, 1), (.aload_n 0, 1), (.getfield 7, 3), (.bipush 11, 2), (.iaload, 1), (.imul, 1), (.iadd, 1), (.istore 4, 2), (.aload_n 0, 1), (.getfield 7, 3), (.iload 4, 2), (.aload_n 0, 1), (.getfield 7, 3), (.iconst 1, 1), (.iaload, 1), (.iastore, 1), (.aload_n 0, 1), (.getfield 7, 3), (.iload 4, 2), (.iconst 1, 1), (.iadd, 1), (.aload_n 0, 1), (.getfield 7, 3), (.iconst 2, 1), (.iaload, 1), (.iastore, 1), (.aload_n 0, 1), (.getfield 7, 3), (.iload 4, 2), (.iconst 2, 1), (.iadd, 1), (.iload_n 1, 1), (.iastore, 1), (.aload_n 0, 1), (.getfield 7, 3), (.iload 4, 2), (.iconst 3, 1), (.iadd, 1), (.iload_n 2, 1), (.iastore, 1), (.aload_n 0, 1), (.getfield 7, 3), (.iload 4, 2), (.iconst 4, 1), (.iadd, 1), (.iload_n 3, 1), (.iastore, 1), (.aload_n 0, 1), (.getfield 7, 3), (.bipush 11, 2), (.dup2, 1), (.iaload, 1), (.iconst 1, 1), (.iadd, 1), (.iastore, 1), (.return_, 1)]
theorem tX12_writes_ok : sgB cX12_writes 0 tX12_writes = true := by decide +kernel
def tX12_isHeard : List (Instr × Nat) := [(.aload_n 0, 1), (.getfield 7, 3), (.sipush 190, 3), (.iconst 3, 1), (.iload_n 1, 1), (.imul, 1), (.iadd, 1), (.iconst 2, 1), (.iadd, 1), (.iaload, 1), (.iconst 1, 1), (.if_icmp .eq 5, 3), (.iconst 0, 1), (.ireturn, 1), (.aload_n 0, 1), (.getfield 7, 3), (.sipush 190, 3), (.iconst 3, 1), (.iload_n 1, 1), (.imul, 1), (.iadd, 1), (.iconst 1, 1), (.iadd, 1), (.iaload, 1), (.aload_n 0, 1), (.getfield 7, 3), (.bipush 50, 2), (.bipush 6, 2), (.aload_n 0, 1), (.iload_n 1, 1), (.iconst 1, 1), (.invokevirtual 65, 3), (.imul, 1), (.iadd, 1), (.aload_n 0, 1), (.getfield 7, 3), (.bipush 20, 2), (.aload_n 0, 1), (.invokevirtual 248, 3), (.iadd, 1), (.iaload, 1), (.iadd, 1), (.iaload, 1), (.isub, 1), (.aload_n 0, 1), (.getfield 7, 3), (.iconst 4, 1), (.iaload, 1), (.if_icmp .lt 7, 3), (.iconst 1, 1), (.goto 4, 3), (.iconst 0, 1), (.ireturn, 1)]
theorem tX12_isHeard_ok : sgB cX12_isHeard 0 tX12_isHeard = true := by decide +kernel
def tX12_isBetrayed : List (Instr × Nat) := [(.aload_n 0, 1), (.iload_n 1, 1), (.invokevirtual 266, 3), (.ifCond .eq 5, 3), (.iconst 1, 1), (.ireturn, 1), (.iconst 0, 1), (.istore_n 2, 1), (.iload_n 2, 1), (.aload_n 0, 1), (.getfield 7, 3), (.bipush 9, 2), (.iaload, 1), (.if_icmp .ge 40, 3), (.aload_n 0, 1), (.iload_n 2, 1), (.iconst 0, 1), (.invokevirtual 65, 3), (.iconst 1, 1), (.if_icmp .ne 24, 3), (.aload_n 0, 1), (.iload_n 2, 1), (.bipush 6, 2), (.invokevirtual 65, 3), (.iload_n 1, 1), (.if_icmp .ne 13, 3), (.aload_n 0, 1), (.iload_n 2, 1), (.invokevirtual 266, 3), (.ifCond .eq 5, 3), (.iconst 1, 1), (.ireturn, 1), (.iinc 2 1, 3), (.goto (-45), 3), (.iconst 0, 1), (.ireturn, 1)]
theorem tX12_isBetrayed_ok : sgB cX12_isBetrayed 0 tX12_isBetrayed = true := by decide +kernel
def tX12_keptFor : List (Instr × Nat) := [(.iconst (-1), 1), (.istore_n 2, 1), (.iconst 0, 1), (.istore_n 3, 1), (.iload_n 3, 1), (.aload_n 0, 1), (.getfield 7, 3), (.bipush 10, 2), (.iaload, 1), (.if_icmp .ge 89, 3), (.aload_n 0, 1), (.iload_n 3, 1), (.iconst 2, 1), (.invokevirtual 76, 3), (.ifCond .eq 74, 3), (.aload_n 0, 1), (.iload_n 3, 1), (.invokevirtual 79, 3), (.iload_n 1, 1), (.if_icmp .eq 6, 3), (.goto 62, 3), (.iload_n 2, 1), (.iconst (-1), 1), (.if_icmp .eq 55, 3), (.aload_n 0, 1), (.getfield 7, 3), (.bipush 6, 2), (.iaload, 1), (.iconst 1, 1), (.if_icmp .ne 18, 3), (.aload_n 0, 1), (.iload_n 3, 1), (.iconst 2, 1), (.invokevirtual 76, 3), (.aload_n 0, 1), (.iload_n 2, 1), (.iconst 2, 1), (.invokevirtual 76, 3), (.if_icmp .lt 29, 3), (.aload_n 0, 1), (.getfield 7, 3), (.bipush 6, 2), (.iaload, 1), (.iconst 2, 1), (.if_icmp .ne 20, 3), (.aload_n 0, 1), (.iload_n 3, 1), (.iconst 2, 1), (.invokevirtual 76, 3), (.aload_n 0, 1), (.iload_n 2, 1), (.iconst 2, 1), (.invokevirtual 76, 3), (.if_icmp .le 5, 3), (.iload_n 3, 1), (.istore_n 2, 1), (.iinc 3 1, 3), (.goto (-94), 3), (.iload_n 2, 1), (.ireturn, 1)]
theorem tX12_keptFor_ok : sgB cX12_keptFor 0 tX12_keptFor = true := by decide +kernel
def tX12_keeps : List (Instr × Nat) := [(.aload_n 0, 1), (.iload_n 1, 1), (.invokevirtual 269, 3), (.ifCond .eq 7, 3), (.iconst 1, 1), (.goto 33, 3), (.aload_n 0, 1), (.getfield 7, 3), (.iconst 5, 1), (.iaload, 1), (.ifCond .le 23, 3), (.aload_n 0, 1), (.sipush 1000, 3), (.invokevirtual 260, 3), (.aload_n 0, 1), (.getfield 7, 3), (.iconst 5, 1), (.iaload, 1), (.if_icmp .ge 7, 3), (.iconst 2, 1), (.goto 4, 3), (.iconst 0, 1), (.istore_n 3, 1), (.aload_n 0, 1), (.getfield 7, 3), (.bipush 14, 2), (.dup2, 1), (.iaload, 1), (.iload_n 3, 1), (.iconst 2, 1), (.if_icmp .ne 7, 3), (.iconst 1, 1), (.goto 4, 3), (.iconst 0, 1), (.iadd, 1), (.iastore, 1), (.iload_n 3, 1), (.ifCond .le 38, 3), (.aload_n 0, 1), (.iload_n 2, 1), (.iconst 3, 1), (.invokevirtual 76, 3), (.ifCond .le 21, 3), (.aload_n 0, 1), (.getfield 7, 3), (.bipush 13, 2), (.dup2, 1), (.iaload, 1), (.iconst 1, 1), (.iadd, 1), (.iastore, 1), (.aload_n 0, 1), (.iload_n 3, 1), (.iload_n 1, 1), (.iload_n 2, 1), (.invokevirtual 272, 3), (.aload_n 0, 1), (.iload_n 2, 1), (.iconst 3, 1), (.iconst 0, 1), (.invokevirtual 70, 3), (.return_, 1), (.aload_n 0, 1), (.iload_n 2, 1), (.iconst 3, 1), (.aload_n 0, 1), (.iload_n 2, 1), (.iconst 3, 1), (.invokevirtual 76, 3), (.iconst 1, 1), (.iadd, 1), (.invokevirtual 70, 3), (.aload_n 0, 1), (.iload_n 2, 1), (.iconst 3, 1), (.invokevirtual 76, 3), (.iconst 4, 1), (.if_icmp .ge 4, 3), (.return_, 1), (.aload_n 0, 1), (.iload_n 2, 1), (.iconst 3, 1), (.iconst 0, 1), (.invokevirtual 70, 3), (.aload_n 0, 1), (.iload_n 2, 1), (.iconst 2, 1), (.aload_n 0, 1), (.iload_n 2, 1), (.iconst 2, 1), (.invokevirtual 76, 3), (.iconst 1, 1), (.isub, 1), (.invokevirtual 70, 3), (.aload_n 0, 1), (.iload_n 2, 1), (.bipush 6, 2), (.aload_n 0, 1), (.iload_n 2, 1), (.bipush 6, 2), (.invokevirtual 76, 3), (.iconst 1, 1), (.iadd, 1), (.invokevirtual 70, 3), (.aload_n 0, 1), (.getfield 7, 3), (.bipush 12, 2), (.dup2, 1), (.iaload, 1), (.iconst 1, 1), (.iadd, 1), (.iastore, 1), (.aload_n 0, 1), (.iconst 0, 1), (.iload_n 1, 1), (.iload_n 2, 1), (.invokevirtual 272, 3), (.aload_n 0, 1), (.iload_n 2, 1), (.iconst 2, 1), (.invokevirtual 76, 3), (.ifCond .ne 10, 3), (.aload_n 0, 1), (.iconst 4, 1), (.iload_n 1, 1), (.iload_n 2, 1), (.invokevirtual 272, 3), (.return_, 1)]
theorem tX12_keeps_ok : sgB cX12_keeps 0 tX12_keeps = true := by decide +kernel
def tX12_aQuarter : List (Instr × Nat) := [(.iconst 0, 1), (.istore_n 1, 1), (.iload_n 1, 1), (.aload_n 0, 1), (.getfield 7, 3), (.bipush 9, 2), (.iaload, 1), (.if_icmp .ge 14, 3), (.aload_n 0, 1), (.iload_n 1, 1), (.invokevirtual 275, 3), (.iinc 1 1, 3), (.goto (-19), 3), (.aload_n 0, 1), (.getfield 7, 3), (.iconst 3, 1), (.iaload, 1), (.iconst (-1), 1), (.if_icmp .eq 101, 3), (.aload_n 0, 1), (.aload_n 0, 1), (.getfield 7, 3), (.iconst 1, 1), (.iaload, 1), (.invokevirtual 251, 3), (.ifCond .ne 88, 3), (.aload_n 0, 1), (.getfield 7, 3), (.sipush 190, 3), (.iconst 3, 1), (.aload_n 0, 1), (.getfield 7, 3), (.iconst 3, 1), (.iaload, 1), (.imul, 1), (.iadd, 1), (.iconst 2, 1), (.iadd, 1), (.iaload, 1), (.iconst 1, 1), (.if_icmp .ne 29, 3), (.aload_n 0, 1), (.getfield 7, 3), (.bipush 15, 2), (.dup2, 1), (.iaload, 1), (.iconst 1, 1), (.iadd, 1), (.iastore, 1), (.aload_n 0, 1), (.iconst 3, 1), (.aload_n 0, 1), (.getfield 7, 3), (.iconst 3, 1), (.iaload, 1), (.iconst (-1), 1), (.invokevirtual 272, 3), (.goto 39, 3), (.iconst 0, 1), (.istore_n 1, 1), (.iload_n 1, 1), (.aload_n 0, 1), (.getfield 7, 3), (.bipush 9, 2), (.iaload, 1), (.if_icmp .ge 26, 3), (.aload_n 0, 1), (.iload_n 1, 1), (.invokevirtual 278, 3), (.istore_n 2, 1), (.iload_n 2, 1), (.iconst (-1), 1), (.if_icmp .eq 9, 3), (.aload_n 0, 1), (.iload_n 1, 1), (.iload_n 2, 1), (.invokevirtual 281, 3), (.iinc 1 1, 3), (.goto (-31), 3), (.aload_n 0, 1), (.getfield 7, 3), (.iconst 2, 1), (.dup2, 1), (.iaload, 1), (.iconst 1, 1), (.iadd, 1), (.iastore, 1), (.aload_n 0, 1), (.getfield 7, 3), (.iconst 2, 1), (.iaload, 1), (.bipush 96, 2), (.if_icmp .ge 4, 3), (.return_, 1), (.aload_n 0, 1), (.getfield 7, 3), (.iconst 2, 1), (.iconst 0, 1), (.iastore, 1), (.aload_n 0, 1), (.getfield 7, 3), (.iconst 1, 1), (.dup2, 1), (.iaload, 1), (.iconst 1, 1), (.iadd, 1), (.iastore, 1), (.return_, 1)]
theorem tX12_aQuarter_ok : sgB cX12_aQuarter 0 tX12_aQuarter = true := by decide +kernel
def tX12_quarters : List (Instr × Nat) := [(.iload_n 1, 1), (.iconst 1, 1), (.sipush 960, 3), (.invokestatic 50, 3), (.ifCond .eq 27, 3), (.aload_n 0, 1), (.getfield 7, 3), (.iconst 1, 1), (.iaload, 1), (.aload_n 0, 1), (.getfield 7, 3), (.iconst 2, 1), (.iaload, 1), (.iload_n 1, 1), (.iadd, 1), (.bipush 96, 2), (.idiv, 1), (.iadd, 1), (.sipush 9999, 3), (.if_icmp .le 5, 3), (.iconst (-1), 1), (.ireturn, 1), (.aload_n 0, 1), (.getfield 7, 3), (.bipush 12, 2), (.iaload, 1), (.istore_n 2, 1), (.iconst 0, 1), (.istore_n 3, 1), (.iload_n 3, 1), (.iload_n 1, 1), (.if_icmp .ge 13, 3), (.aload_n 0, 1), (.invokevirtual 284, 3), (.iinc 3 1, 3), (.goto (-12), 3), (.aload_n 0, 1), (.getfield 7, 3), (.bipush 12, 2), (.iaload, 1), (.iload_n 2, 1), (.isub, 1), (.ireturn, 1)]
theorem tX12_quarters_ok : sgB cX12_quarters 0 tX12_quarters = true := by decide +kernel
def tX12_begins : List (Instr × Nat) := [(.aload_n 0, 1), (.getfield 7, 3), (.bipush 16, 2), (.iaload, 1), (.bipush 60, 2), (.if_icmp .ne 51, 3), (.sipush 7880, 3), (.istore 4, 2), (.iload 4, 2), (.sipush 20034, 3), (.if_icmp .ge 27, 3), (.aload_n 0, 1), (.getfield 7, 3), (.iload 4, 2), (.aload_n 0, 1), (.getfield 7, 3), (.iload 4, 2), (.sipush 206, 3), (.iadd, 1), (.iaload, 1), (.iastore, 1), (.iinc 4 1, 3), (.goto (-29), 3), (.aload_n 0, 1), (.getfield 7, 3), (.bipush 16, 2), (.dup2, 1), (.iaload, 1), (.iconst 1, 1), (.isub, 1), (.iastore, 1), (.aload_n 0, 1), (.sipush 7880, 3), (.sipush 206, 3), (.aload_n 0, 1), (.getfield 7, 3), (.bipush 16, 2), (.iaload, 1), (.imul, 1), (.iadd, 1), (.putfield 287, 3), (.aload_n 0, 1), (.getfield 7, 3), (.aload_n 0, 1), (.getfield 287, 3), (.iconst 0, 1), (.iadd, 1), (.iload_n 1, 1), (.iastore, 1), (.aload_n 0, 1), (.getfield 7, 3), (.aload_n 0, 1), (.getfield 287, 3), (.iconst 1, 1), (.iadd, 1), (.iload_n 2, 1), (.iastore, 1), (.aload_n 0, 1), (.getfield 7, 3), (.aload_n 0, 1), (.getfield 287, 3), (.iconst 2, 1), (.iadd, 1), (.iload_n 3, 1), (.iastore, 1), (.aload_n 0, 1), (.getfield 7, 3), (.aload_n 0, 1), (.getfield 287, 3), (.iconst 3, 1), (.iadd, 1), (.aload_n 0, 1), (.getfield 7, 3), (.bipush 10, 2), (.iaload, 1), (.iastore, 1), (.aload_n 0, 1), (.getfield 7, 3), (.aload_n 0, 1), (.getfield 287, 3), (.iconst 4, 1), (.iadd, 1), (.iconst 0, 1), (.iastore, 1), (.aload_n 0, 1), (.getfield 7, 3), (.aload_n 0, 1), (.getfield 287, 3), (.iconst 5, 1), (.iadd, 1), (.iconst 0, 1), (.iastore, 1), (.iconst 0, 1), (.istore 4, 2), (.iload 4, 2), (.aload_n 0, 1), (.getfield 7, 3), (.bipush 10, 2), (.iaload, 1), (.if_icmp .ge 85, 3), (.aload_n 0, 1), (.getfield 287, 3), (.bipush 6, 2), (.iadd, 1), (.iconst 4, 1), (.iload 4, 2), (.imul, 1), (.iadd, 1), (.istore 5, 2), (.aload_n 0, 1), (.getfield 7, 3), (.iload 5, 2), (.aload_n 0, 1), (.iload 4, 2), (.iconst 0, 1), (.invokevirtual 76, 3), (.iastore, 1), (.aload_n 0, 1), (.getfield 7, 3), (.iload 5, 2), (.iconst 1, 1), (.iadd, 1), (.aload_n 0, 1), (.iload 4, 2), (.iconst 1, 1), (.invokevirtual 76, 3), (.iastore, 1), (.aload_n 0, 1), (.getfield 7, 3), (.iload 5, 2), (.iconst 2, 1), (.iadd, 1), (.aload_n 0, 1), (.iload 4, 2), (.iconst 4, 1), (.invokevirtual 76, 3), (.iastore, 1), (.aload_n 0, 1), (.getfield 7, 3), (.iload 5, 2), (.iconst 3, 1), (.iadd, 1), (.aload_n 0, 1), (.iload 4, 2), (.iconst 2, 1), (.invokevirtual 76, 3), (.iastore, 1), (.iinc 4 1, 3), (.goto (-91), 3), (.aload_n 0, 1), (.iload_n 1, 1), (.iload_n 2, 1), (.iload_n 3, 1), (.invokevirtual 290, 3), (.return_, 1)]
theorem tX12_begins_ok : sgB cX12_begins 0 tX12_begins = true := by decide +kernel
def tX12_pays : List (Instr × Nat) := [(.iload_n 1, 1), (.iconst (-1), 1), (.if_icmp .eq 8, 3), (.iload_n 2, 1), (.iconst (-1), 1), (.if_icmp .ne 4, 3), (.return_, 1), (.aload_n 0, 1), (.iload_n 1, 1), (.iconst 5, 1), (.aload_n 0, 1), (.iload_n 1, 1), (.iconst 5, 1), (.invokevirtual 65, 3), (.iload_n 3, 1), (.isub, 1), (.invokevirtual 58, 3), (.aload_n 0, 1), (.iload_n 2, 1), (.iconst 5, 1), (.aload_n 0, 1), (.iload_n 2, 1), (.iconst 5, 1), (.invokevirtual 65, 3), (.iload_n 3, 1), (.iadd, 1), (.invokevirtual 58, 3), (.return_, 1)]
theorem tX12_pays_ok : sgB cX12_pays 0 tX12_pays = true := by decide +kernel
def tX12_isOf : List (Instr × Nat) := [(.aload_n 0, 1), (.getfield 7, 3), (.aload_n 0, 1), (.getfield 287, 3), (.iload_n 1, 1), (.bipush 20, 2), (.if_icmp .ge 7, 3), (.iconst 4, 1), (.goto 4, 3), (.iconst 5, 1), (.iadd, 1), (.dup2, 1), (.iaload, 1), (.iconst 1, 1), (.iload_n 1, 1), (.bipush 20, 2), (.irem, 1), (.ishl, 1), (.ior, 1), (.iastore, 1), (.return_, 1)]
theorem tX12_isOf_ok : sgB cX12_isOf 0 tX12_isOf = true := by decide +kernel
def tX12_ends : List (Instr × Nat) := [(.iconst 0, 1), (.istore_n 1, 1), (.iload_n 1, 1), (.aload_n 0, 1), (.getfield 7, 3), (.bipush 10, 2), (.iaload, 1), (.if_icmp .ge 30, 3), (.aload_n 0, 1), (.getfield 7, 3), (.aload_n 0, 1), (.getfield 287, 3), (.sipush 166, 3), (.iadd, 1), (.iload_n 1, 1), (.iadd, 1), (.aload_n 0, 1), (.iload_n 1, 1), (.iconst 2, 1), (.invokevirtual 76, 3), (.iastore, 1), (.iinc 1 1, 3), (.goto (-35), 3), (.aload_n 0, 1), (.getfield 7, 3), (.bipush 16, 2), (.dup2, 1), (.iaload, 1), (.iconst 1, 1), (.iadd, 1), (.iastore, 1), (.return_, 1)]
theorem tX12_ends_ok : sgB cX12_ends 0 tX12_ends = true := by decide +kernel
def tX12_isLeft : List (Instr × Nat) := [(.aload_n 0, 1), (.iload_n 1, 1), (.invokevirtual 73, 3), (.ifCond .eq 16, 3), (.aload_n 0, 1), (.iload_n 1, 1), (.iconst 2, 1), (.invokevirtual 76, 3), (.ifCond .le 7, 3), (.iconst 1, 1), (.goto 4, 3), (.iconst 0, 1), (.ireturn, 1)]
theorem tX12_isLeft_ok : sgB cX12_isLeft 0 tX12_isLeft = true := by decide +kernel
def tX12_lend : List (Instr × Nat) := [(.aload_n 0, 1), (.iload_n 1, 1), (.invokevirtual 293, 3), (.ifCond .eq 52, 3), (.aload_n 0, 1), (.iload_n 2, 1), (.invokevirtual 62, 3), (.ifCond .eq 44, 3), (.iload_n 2, 1), (.aload_n 0, 1), (.iload_n 1, 1), (.iconst 1, 1), (.invokevirtual 76, 3), (.if_icmp .eq 34, 3), (.iload_n 2, 1), (.aload_n 0, 1), (.iload_n 1, 1), (.iconst 0, 1), (.invokevirtual 76, 3), (.if_icmp .eq 24, 3), (.iload_n 3, 1), (.iconst 0, 1), (.sipush 9999, 3), (.invokestatic 50, 3), (.ifCond .eq 13, 3), (.aload_n 0, 1), (.iload_n 2, 1), (.iconst 5, 1), (.invokevirtual 65, 3), (.iload_n 3, 1), (.if_icmp .ge 5, 3), (.iconst 0, 1), (.ireturn, 1), (.aload_n 0, 1), (.iload_n 2, 1), (.aload_n 0, 1), (.iload_n 1, 1), (.iconst 1, 1), (.invokevirtual 76, 3), (.iload_n 3, 1), (.invokevirtual 296, 3), (.aload_n 0, 1), (.iload_n 1, 1), (.invokevirtual 299, 3), (.aload_n 0, 1), (.iload_n 1, 1), (.iconst 1, 1), (.iload_n 2, 1), (.invokevirtual 70, 3), (.aload_n 0, 1), (.invokevirtual 302, 3), (.iconst 1, 1), (.ireturn, 1)]
theorem tX12_lend_ok : sgB cX12_lend 0 tX12_lend = true := by decide +kernel
def tX12_split : List (Instr × Nat) := [(.aload_n 0, 1), (.iload_n 1, 1), (.invokevirtual 293, 3), (.ifCond .eq 36, 3), (.iload_n 2, 1), (.iconst 1, 1), (.sipush 199, 3), (.invokestatic 50, 3), (.ifCond .eq 25, 3), (.aload_n 0, 1), (.iload_n 1, 1), (.iconst 2, 1), (.invokevirtual 76, 3), (.iload_n 2, 1), (.if_icmp .le 15, 3), (.aload_n 0, 1), (.getfield 7, 3), (.bipush 10, 2), (.iaload, 1), (.bipush 40, 2), (.if_icmp .ne 5, 3), (.iconst (-1), 1), (.ireturn, 1), (.aload_n 0, 1), (.iconst (-1), 1), (.iconst (-1), 1), (.iconst 0, 1), (.invokevirtual 296, 3), (.aload_n 0, 1), (.getfield 7, 3), (.bipush 10, 2), (.iaload, 1), (.istore_n 3, 1), (.iconst 0, 1), (.istore 4, 2), (.iload 4, 2), (.bipush 8, 2), (.if_icmp .ge 23, 3), (.aload_n 0, 1), (.iload_n 3, 1), (.iload 4, 2), (.aload_n 0, 1), (.iload_n 1, 1), (.iload 4, 2), (.invokevirtual 76, 3), (.invokevirtual 70, 3), (.iinc 4 1, 3), (.goto (-24), 3), (.aload_n 0, 1), (.iload_n 3, 1), (.iconst 2, 1), (.iload_n 2, 1), (.invokevirtual 70, 3), (.aload_n 0, 1), (.iload_n 3, 1), (.iconst 3, 1), (.iconst 0, 1), (.invokevirtual 70, 3), (.aload_n 0, 1), (.iload_n 3, 1), (.bipush 6, 2), (.iconst 0, 1), (.invokevirtual 70, 3), (.aload_n 0, 1), (.iload_n 1, 1), (.iconst 2, 1), (.aload_n 0, 1), (.iload_n 1, 1), (.iconst 2, 1), (.invokevirtual 76, 3), (.iload_n 2, 1), (.isub, 1), (.invokevirtual 70, 3), (.aload_n 0, 1), (.getfield 7, 3), (.bipush 10, 2), (.dup2, 1), (.iaload, 1), (.iconst 1, 1), (.iadd, 1), (.iastore, 1), (.aload_n 0, 1), (.iload_n 1, 1), (.invokevirtual 299, 3), (.aload_n 0, 1), (.iload_n 3, 1), (.invokevirtual 299, 3), (.aload_n 0, 1), (.invokevirtual 302, 3), (.iload_n 3, 1), (.ireturn, 1)]
theorem tX12_split_ok : sgB cX12_split 0 tX12_split = true := by decide +kernel
def tX12_inherit : List (Instr × Nat) := [(.aload_n 0, 1), (.iload_n 1, 1), (.invokevirtual 62, 3), (.ifCond .eq 16, 3), (.aload_n 0, 1), (.iload_n 2, 1), (.invokevirtual 62, 3), (.ifCond .eq 8, 3), (.iload_n 1, 1), (.iload_n 2, 1), (.if_icmp .ne 5, 3), (.iconst (-1), 1), (.ireturn, 1), (.iconst 0, 1), (.istore_n 3, 1), (.iconst 0, 1), (.istore 4, 2), (.iload 4, 2), (.aload_n 0, 1), (.getfield 7, 3), (.bipush 10, 2), (.iaload, 1), (.if_icmp .ge 49, 3), (.iload_n 3, 1), (.aload_n 0, 1), (.iload 4, 2), (.iconst 2, 1), (.invokevirtual 76, 3), (.ifCond .le 29, 3), (.aload_n 0, 1), (.iload 4, 2), (.iconst 0, 1), (.invokevirtual 76, 3), (.iload_n 1, 1), (.if_icmp .eq 14, 3), (.aload_n 0, 1), (.iload 4, 2), (.iconst 1, 1), (.invokevirtual 76, 3), (.iload_n 1, 1), (.if_icmp .ne 7, 3), (.iconst 1, 1), (.goto 4, 3), (.iconst 0, 1), (.iadd, 1), (.istore_n 3, 1), (.iinc 4 1, 3), (.goto (-55), 3), (.iload_n 3, 1), (.ifCond .ne 5, 3), (.iconst 0, 1), (.ireturn, 1), (.aload_n 0, 1), (.iconst (-1), 1), (.iconst (-1), 1), (.iconst 0, 1), (.invokevirtual 296, 3), (.iconst 0, 1), (.istore 4, 2), (.iload 4, 2), (.aload_n 0, 1), (.getfield 7, 3), (.bipush 10, 2), (.iaload, 1), (.if_icmp .ge 138, 3), (.aload_n 0, 1), (.iload 4, 2), (.iconst 2, 1), (.invokevirtual 76, 3), (.ifCond .eq 122, 3), (.aload_n 0, 1), (.iload 4, 2), (.iconst 0, 1), (.invokevirtual 76, 3), (.iload_n 1, 1), (.if_icmp .eq 17, 3), (.aload_n 0, 1), (.iload 4, 2), (.iconst 1, 1), (.invokevirtual 76, 3), (.iload_n 1, 1), (.if_icmp .eq 6, 3), (.goto 97, 3), (.aload_n 0, 1), (.iload 4, 2), (.invokevirtual 299, 3), (.aload_n 0, 1), (.iload 4, 2), (.iconst 0, 1), (.invokevirtual 76, 3), (.iload_n 1, 1), (.if_icmp .ne 11, 3), (.aload_n 0, 1), (.iload 4, 2), (.iconst 0, 1), (.iload_n 2, 1), (.invokevirtual 70, 3), (.aload_n 0, 1), (.iload 4, 2), (.iconst 1, 1), (.invokevirtual 76, 3), (.iload_n 1, 1), (.if_icmp .ne 11, 3), (.aload_n 0, 1), (.iload 4, 2), (.iconst 1, 1), (.iload_n 2, 1), (.invokevirtual 70, 3), (.aload_n 0, 1), (.iload 4, 2), (.iconst 4, 1), (.invokevirtual 76, 3), (.aload_n 0, 1), (.iload 4, 2), (.iconst 0, 1), (.invokevirtual 76, 3), (.if_icmp .ne 11, 3), (.aload_n 0, 1), (.iload 4, 2), (.iconst 4, 1), (.iconst (-1), 1), (.invokevirtual 70, 3), (.aload_n 0, 1), (.iload 4, 2), (.iconst 0, 1), (.invokevirtual 76, 3), (.aload_n 0, 1), (.iload 4, 2), (.iconst 1, 1), (.invokevirtual 76, 3), (.if_icmp .ne 11, 3), (.aload_n 0, 1), (.iload 4, 2), (.iconst 2, 1), (.iconst 0, 1), (.invokevirtual 70, 3), (.iinc 4 1, 3), (.goto (-144), 3), (.aload_n 0, 1), (.invokevirtual 302, 3), (.iload_n 3, 1), (.ireturn, 1)]
theorem tX12_inherit_ok : sgB cX12_inherit 0 tX12_inherit = true := by decide +kernel
def tX12_sell : List (Instr × Nat) := [(.aload_n 0, 1), (.iload_n 1, 1), (.invokevirtual 293, 3), (.ifCond .eq 67, 3), (.iload_n 2, 1), (.iconst (-1), 1), (.if_icmp .eq 31, 3), (.aload_n 0, 1), (.iload_n 2, 1), (.invokevirtual 62, 3), (.ifCond .eq 54, 3), (.iload_n 2, 1), (.aload_n 0, 1), (.iload_n 1, 1), (.iconst 0, 1), (.invokevirtual 76, 3), (.if_icmp .eq 44, 3), (.aload_n 0, 1), (.iload_n 2, 1), (.iconst 0, 1), (.invokevirtual 65, 3), (.iconst 1, 1), (.if_icmp .eq 34, 3), (.iload_n 3, 1), (.iconst 0, 1), (.sipush 9999, 3), (.invokestatic 50, 3), (.ifCond .eq 23, 3), (.iload_n 2, 1), (.iconst (-1), 1), (.if_icmp .eq 20, 3), (.aload_n 0, 1), (.aload_n 0, 1), (.iload_n 1, 1), (.iconst 0, 1), (.invokevirtual 76, 3), (.iconst 5, 1), (.invokevirtual 65, 3), (.iload_n 3, 1), (.if_icmp .ge 5, 3), (.iconst 0, 1), (.ireturn, 1), (.aload_n 0, 1), (.iload_n 2, 1), (.iconst (-1), 1), (.if_icmp .ne 7, 3), (.iconst (-1), 1), (.goto 9, 3), (.aload_n 0, 1), (.iload_n 1, 1), (.iconst 0, 1), (.invokevirtual 76, 3), (.iload_n 2, 1), (.iload_n 3, 1), (.invokevirtual 296, 3), (.aload_n 0, 1), (.iload_n 1, 1), (.invokevirtual 299, 3), (.aload_n 0, 1), (.iload_n 1, 1), (.iconst 4, 1), (.iload_n 2, 1), (.invokevirtual 70, 3), (.aload_n 0, 1), (.invokevirtual 302, 3), (.iconst 1, 1), (.ireturn, 1)]
theorem tX12_sell_ok : sgB cX12_sell 0 tX12_sell = true := by decide +kernel
def tX12_isIt : List (Instr × Nat) := [(.aload_n 0, 1), (.getfield 7, 3), (.iload_n 1, 1), (.iload_n 2, 1), (.bipush 20, 2), (.if_icmp .ge 7, 3), (.iconst 4, 1), (.goto 4, 3), (.iconst 5, 1), (.iadd, 1), (.iaload, 1), (.iload_n 2, 1), (.bipush 20, 2), (.irem, 1), (.ishr, 1), (.iconst 1, 1), (.iand, 1), (.iconst 1, 1), (.if_icmp .ne 7, 3), (.iconst 1, 1), (.goto 4, 3), (.iconst 0, 1), (.ireturn, 1)]
theorem tX12_isIt_ok : sgB cX12_isIt 0 tX12_isIt = true := by decide +kernel
def tX12_undo : List (Instr × Nat) := [(.aload_n 0, 1), (.getfield 7, 3), (.bipush 16, 2), (.iaload, 1), (.ifCond .ne 5, 3), (.iconst 0, 1), (.ireturn, 1), (.sipush 7880, 3), (.sipush 206, 3), (.aload_n 0, 1), (.getfield 7, 3), (.bipush 16, 2), (.iaload, 1), (.iconst 1, 1), (.isub, 1), (.imul, 1), (.iadd, 1), (.istore_n 1, 1), (.aload_n 0, 1), (.getfield 7, 3), (.iload_n 1, 1), (.iconst 3, 1), (.iadd, 1), (.iaload, 1), (.istore_n 2, 1), (.aload_n 0, 1), (.iload_n 1, 1), (.iload_n 2, 1), (.invokevirtual 305, 3), (.ifCond .eq 13, 3), (.iload_n 2, 1), (.bipush 40, 2), (.if_icmp .ge 7, 3), (.iconst 1, 1), (.goto 4, 3), (.iconst 0, 1), (.istore_n 3, 1), (.iload_n 3, 1), (.ifCond .eq 18, 3), (.aload_n 0, 1), (.getfield 7, 3), (.bipush 10, 2), (.iaload, 1), (.iload_n 2, 1), (.iconst 1, 1), (.iadd, 1), (.if_icmp .eq 5, 3), (.iconst 0, 1), (.ireturn, 1), (.iconst 0, 1), (.istore 4, 2), (.iload 4, 2), (.aload_n 0, 1), (.getfield 7, 3), (.bipush 10, 2), (.iaload, 1), (.if_icmp .ge 44, 3), (.aload_n 0, 1), (.iload_n 1, 1), (.iload 4, 2), (.invokevirtual 305, 3), (.ifCond .eq 28, 3), (.aload_n 0, 1), (.iload 4, 2), (.iconst 2, 1), (.invokevirtual 76, 3), (.aload_n 0, 1), (.getfield 7, 3), (.iload_n 1, 1), (.sipush 166, 3), (.iadd, 1), (.iload 4, 2), (.iadd, 1), (.iaload, 1), (.if_icmp .eq 5, 3), (.iconst 0, 1), (.ireturn, 1), (.iinc 4 1, 3), (.goto (-50), 3), (.iconst 0, 1), (.istore 4, 2), (.iload 4, 2), (.iload_n 2, 1), (.if_icmp .ge 95, 3), (.aload_n 0, 1), (.iload_n 1, 1), (.iload 4, 2), (.invokevirtual 305, 3), (.ifCond .ne 6, 3), (.goto 76, 3), (.iload_n 1, 1), (.bipush 6, 2), (.iadd, 1), (.iconst 4, 1), (.iload 4, 2), (.imul, 1), (.iadd, 1), (.istore 5, 2), (.aload_n 0, 1), (.iload 4, 2), (.iconst 0, 1), (.aload_n 0, 1), (.getfield 7, 3), (.iload 5, 2), (.iaload, 1), (.invokevirtual 70, 3), (.aload_n 0, 1), (.iload 4, 2), (.iconst 1, 1), (.aload_n 0, 1), (.getfield 7, 3), (.iload 5, 2), (.iconst 1, 1), (.iadd, 1), (.iaload, 1), (.invokevirtual 70, 3), (.aload_n 0, 1), (.iload 4, 2), (.iconst 4, 1), (.aload_n 0, 1), (.getfield 7, 3), (.iload 5, 2), (.iconst 2, 1), (.iadd, 1), (.iaload, 1), (.invokevirtual 70, 3), (.aload_n 0, 1), (.iload 4, 2), (.iconst 2, 1), (.aload_n 0, 1), (.getfield 7, 3), (.iload 5, 2), (.iconst 3, 1), (.iadd, 1), (.iaload, 1), (.invokevirtual 70, 3), (.iinc 4 1, 3), (.goto (-95), 3), (.iload_n 3, 1), (.ifCond .eq 14, 3), (.aload_n 0, 1), (.getfield 7, 3), (.bipush 10, 2), (.dup2, 1), (.iaload, 1), (.iconst 1, 1), (.isub, 1), (.iastore, 1), (.aload_n 0, 1), (.aload_n 0, 1), (.getfield 7, 3), (.iload_n 1, 1), (.iconst 1, 1), (.iadd, 1), (.iaload, 1), (.aload_n 0, 1), (.getfield 7, 3), (.iload_n 1, 1), (.iconst 0, 1), (.iadd, 1), (.iaload, 1), (.aload_n 0, 1), (.getfield 7, 3), (.iload_n 1, 1), (.iconst 2, 1), (.iadd, 1), (.iaload, 1), (.invokevirtual 290, 3), (.aload_n 0, 1), (.getfield 7, 3), (.bipush 16, 2), (.dup2, 1), (.iaload, 1), (.iconst 1, 1), (.isub, 1), (.iastore, 1), (.iconst 1, 1), (.ireturn, 1)]
theorem tX12_undo_ok : sgB cX12_undo 0 tX12_undo = true := by decide +kernel
def tX12_mays : List (Instr × Nat) := [(.iconst 0, 1), (.istore_n 1, 1), (.iconst 0, 1), (.istore_n 2, 1), (.iconst 0, 1), (.istore_n 3, 1), (.iload_n 3, 1), (.aload_n 0, 1), (.getfield 7, 3), (.bipush 9, 2), (.iaload, 1), (.if_icmp .ge 29, 3), (.iload_n 2, 1), (.aload_n 0, 1), (.iload_n 3, 1), (.iconst 0, 1), (.invokevirtual 65, 3), (.iconst 1, 1), (.if_icmp .ne 9, 3), (.iconst 1, 1), (.iload_n 3, 1), (.ishl, 1), (.goto 4, 3), (.iconst 0, 1), (.ior, 1), (.istore_n 2, 1), (.iinc 3 1, 3), (.goto (-34), 3), (.iconst 0, 1), (.istore_n 3, 1), (.iload_n 3, 1), (.aload_n 0, 1), (.getfield 7, 3), (.bipush 10, 2), (.iaload, 1), (.if_icmp .ge 100, 3), (.aload_n 0, 1), (.getfield 38, 3), (.iload_n 3, 1), (.iconst 0, 1), (.iastore, 1), (.aload_n 0, 1), (.iload_n 3, 1), (.iconst 2, 1), (.invokevirtual 76, 3), (.ifCond .ne 6, 3), (.goto 75, 3), (.aload_n 0, 1), (.iload_n 3, 1), (.iconst 5, 1), (.invokevirtual 76, 3), (.iconst 1, 1), (.aload_n 0, 1), (.iload_n 3, 1), (.iconst 0, 1), (.invokevirtual 76, 3), (.ishl, 1), (.ior, 1), (.istore 4, 2), (.aload_n 0, 1), (.iload_n 3, 1), (.iconst 4, 1), (.invokevirtual 76, 3), (.iconst (-1), 1), (.if_icmp .eq 16, 3), (.iload 4, 2), (.iconst 1, 1), (.aload_n 0, 1), (.iload_n 3, 1), (.iconst 4, 1), (.invokevirtual 76, 3), (.ishl, 1), (.ior, 1), (.istore 4, 2), (.aload_n 0, 1), (.getfield 38, 3), (.iload_n 3, 1), (.iload 4, 2), (.iload_n 2, 1), (.iconst (-1), 1), (.ixor, 1), (.iand, 1), (.iastore, 1), (.aload_n 0, 1), (.getfield 38, 3), (.iload_n 3, 1), (.iaload, 1), (.ifCond .ne 5, 3), (.iconst (-1), 1), (.ireturn, 1), (.iload_n 1, 1), (.aload_n 0, 1), (.getfield 38, 3), (.iload_n 3, 1), (.iaload, 1), (.ior, 1), (.istore_n 1, 1), (.iinc 3 1, 3), (.goto (-105), 3), (.iload_n 1, 1), (.ireturn, 1)]
theorem tX12_mays_ok : sgB cX12_mays 0 tX12_mays = true := by decide +kernel
def tX12_count : List (Instr × Nat) := [(.iconst 0, 1), (.istore_n 1, 1), (.iconst 0, 1), (.istore_n 2, 1), (.iload_n 2, 1), (.bipush 30, 2), (.if_icmp .ge 17, 3), (.iload_n 1, 1), (.iload_n 0, 1), (.iload_n 2, 1), (.ishr, 1), (.iconst 1, 1), (.iand, 1), (.iadd, 1), (.istore_n 1, 1), (.iinc 2 1, 3), (.goto (-17), 3), (.iload_n 1, 1), (.ireturn, 1)]
theorem tX12_count_ok : sgB cX12_count 0 tX12_count = true := by decide +kernel
def tX12_upwards : List (Instr × Nat) := [(.iload_n 0, 1), (.iload_n 1, 1), (.iadd, 1), (.iconst 1, 1), (.isub, 1), (.iload_n 1, 1), (.idiv, 1), (.ireturn, 1)]
theorem tX12_upwards_ok : sgB cX12_upwards 0 tX12_upwards = true := by decide +kernel
def tX12_greatest : List (Instr × Nat) := [(.iconst 0, 1), (.istore_n 1, 1), (.iconst 0, 1), (.istore_n 2, 1), (.iload_n 2, 1), (.aload_n 0, 1), (.getfield 7, 3), (.bipush 10, 2), (.iaload, 1), (.if_icmp .ge 30, 3), (.aload_n 0, 1), (.iload_n 2, 1), (.iconst 2, 1), (.invokevirtual 76, 3), (.iload_n 1, 1), (.if_icmp .le 12, 3), (.aload_n 0, 1), (.iload_n 2, 1), (.iconst 2, 1), (.invokevirtual 76, 3), (.goto 4, 3), (.iload_n 1, 1), (.istore_n 1, 1), (.iinc 2 1, 3), (.goto (-35), 3), (.iload_n 1, 1), (.ireturn, 1)]
theorem tX12_greatest_ok : sgB cX12_greatest 0 tX12_greatest = true := by decide +kernel
def tX12_within : List (Instr × Nat) := [(.iconst 0, 1), (.istore_n 2, 1), (.iconst 0, 1), (.istore_n 3, 1), (.iload_n 3, 1), (.aload_n 0, 1), (.getfield 7, 3), (.bipush 10, 2), (.iaload, 1), (.if_icmp .ge 44, 3), (.iload_n 2, 1), (.aload_n 0, 1), (.iload_n 3, 1), (.iconst 2, 1), (.invokevirtual 76, 3), (.ifCond .le 25, 3), (.aload_n 0, 1), (.getfield 38, 3), (.iload_n 3, 1), (.iaload, 1), (.iload_n 1, 1), (.iconst (-1), 1), (.ixor, 1), (.iand, 1), (.ifCond .ne 12, 3), (.aload_n 0, 1), (.iload_n 3, 1), (.iconst 2, 1), (.invokevirtual 76, 3), (.goto 4, 3), (.iconst 0, 1), (.iadd, 1), (.istore_n 2, 1), (.iinc 3 1, 3), (.goto (-49), 3), (.iload_n 2, 1), (.ireturn, 1)]
theorem tX12_within_ok : sgB cX12_within 0 tX12_within = true := by decide +kernel
def tX12_alone : List (Instr × Nat) := [(.iconst 0, 1), (.istore_n 1, 1), (.iconst 0, 1), (.istore_n 2, 1), (.iload_n 2, 1), (.aload_n 0, 1), (.getfield 7, 3), (.bipush 9, 2), (.iaload, 1), (.if_icmp .ge 30, 3), (.aload_n 0, 1), (.iload_n 2, 1), (.iconst 2, 1), (.invokevirtual 254, 3), (.iload_n 1, 1), (.if_icmp .le 12, 3), (.aload_n 0, 1), (.iload_n 2, 1), (.iconst 2, 1), (.invokevirtual 254, 3), (.goto 4, 3), (.iload_n 1, 1), (.istore_n 1, 1), (.iinc 2 1, 3), (.goto (-35), 3), (.iload_n 1, 1), (.ireturn, 1)]
theorem tX12_alone_ok : sgB cX12_alone 0 tX12_alone = true := by decide +kernel
def tX12_soonest : List (Instr × Nat) := [(.iload_n 1, 1), (.iconst 0, 1), (.iconst 2, 1), (.invokestatic 50, 3), (.ifCond .ne 5, 3), (.iconst (-1), 1), (.ireturn, 1), (.iload_n 1, 1), (.iconst 2, 1), (.if_icmp .ne 8, 3), (.aload_n 0, 1), (.invokevirtual 308, 3), (.ireturn, 1), (.aload_n 0, 1), (.invokevirtual 311, 3), (.ifCond .ne 5, 3), (.iconst 0, 1), (.ireturn, 1), (.aload_n 0, 1), (.invokevirtual 314, 3), (.istore_n 2, 1), (.iload_n 2, 1), (.iconst (-1), 1), (.if_icmp .ne 5, 3), (.iconst (-1), 1), (.ireturn, 1), (.aload_n 0, 1), (.invokevirtual 311, 3), (.istore_n 3, 1), (.iconst 1, 1), (.istore 4, 2), (.iload 4, 2), (.iload_n 2, 1), (.if_icmp .gt 61, 3), (.iload 4, 2), (.iload_n 2, 1), (.iconst (-1), 1), (.ixor, 1), (.iand, 1), (.ifCond .ne 46, 3), (.iload_n 1, 1), (.iconst 1, 1), (.if_icmp .ne 12, 3), (.iload 4, 2), (.iload_n 2, 1), (.if_icmp .eq 6, 3), (.goto 32, 3), (.aload_n 0, 1), (.iload 4, 2), (.invokevirtual 317, 3), (.iload 4, 2), (.invokestatic 320, 3), (.invokestatic 323, 3), (.istore 5, 2), (.iload 5, 2), (.iload_n 3, 1), (.if_icmp .le 8, 3), (.iload 5, 2), (.goto 4, 3), (.iload_n 3, 1), (.istore_n 3, 1), (.iinc 4 1, 3), (.goto (-61), 3), (.iload_n 3, 1), (.ireturn, 1)]
theorem tX12_soonest_ok : sgB cX12_soonest 0 tX12_soonest = true := by decide +kernel
def tX12_canBe : List (Instr × Nat) := [(.iload 4, 2), (.aload_n 0, 1), (.getfield 7, 3), (.bipush 50, 2), (.bipush 6, 2), (.aload_n 0, 1), (.iload_n 1, 1), (.iconst 1, 1), (.invokevirtual 65, 3), (.imul, 1), (.iadd, 1), (.iload_n 2, 1), (.iadd, 1), (.iaload, 1), (.isub, 1), (.iload 7, 2), (.if_icmp .ne 43, 3), (.aload_n 0, 1), (.aload_n 0, 1), (.getfield 7, 3), (.bipush 8, 2), (.iaload, 1), (.iload_n 3, 1), (.iload 4, 2), (.iload 5, 2), (.aload_n 0, 1), (.iload_n 1, 1), (.iconst 0, 1), (.invokevirtual 65, 3), (.iconst 1, 1), (.if_icmp .ne 7, 3), (.iconst 1, 1), (.goto 4, 3), (.iconst 0, 1), (.iload 6, 2), (.invokevirtual 244, 3), (.ifCond .eq 7, 3), (.iconst 1, 1), (.goto 4, 3), (.iconst 0, 1), (.ireturn, 1)]
theorem tX12_canBe_ok : sgB cX12_canBe 0 tX12_canBe = true := by decide +kernel
def tX12_canSay : List (Instr × Nat) := [(.aload_n 0, 1), (.iload_n 1, 1), (.iconst 0, 1), (.invokevirtual 65, 3), (.iconst 2, 1), (.if_icmp .ne 5, 3), (.iconst 0, 1), (.ireturn, 1), (.aload_n 0, 1), (.iload_n 1, 1), (.iconst 0, 1), (.invokevirtual 65, 3), (.iconst 1, 1), (.if_icmp .ne 39, 3), (.aload_n 0, 1), (.iload_n 1, 1), (.iconst 3, 1), (.invokevirtual 65, 3), (.ifCond .le 28, 3), (.aload_n 0, 1), (.iload_n 1, 1), (.iload_n 2, 1), (.iconst 2, 1), (.aload_n 0, 1), (.iload_n 1, 1), (.iconst 2, 1), (.invokevirtual 65, 3), (.iload_n 3, 1), (.iload 4, 2), (.iload 5, 2), (.invokevirtual 326, 3), (.ifCond .eq 7, 3), (.iconst 1, 1), (.goto 4, 3), (.iconst 0, 1), (.ireturn, 1), (.iload_n 3, 1), (.invokestatic 238, 3), (.ifCond .eq 41, 3), (.aload_n 0, 1), (.iload_n 1, 1), (.iconst 3, 1), (.invokevirtual 65, 3), (.ifCond .le 30, 3), (.aload_n 0, 1), (.iload_n 1, 1), (.iload_n 2, 1), (.iconst 1, 1), (.aload_n 0, 1), (.iload_n 1, 1), (.iconst 2, 1), (.invokevirtual 65, 3), (.iconst 2, 1), (.idiv, 1), (.iload_n 3, 1), (.iload 4, 2), (.iload 5, 2), (.invokevirtual 326, 3), (.ifCond .eq 7, 3), (.iconst 1, 1), (.goto 4, 3), (.iconst 0, 1), (.ireturn, 1), (.aload_n 0, 1), (.iload_n 1, 1), (.iconst 4, 1), (.invokevirtual 65, 3), (.iconst 4, 1), (.if_icmp .ne 5, 3), (.iconst 0, 1), (.ireturn, 1), (.iconst 2, 1), (.aload_n 0, 1), (.iload_n 1, 1), (.iconst 4, 1), (.invokevirtual 65, 3), (.iadd, 1), (.istore 6, 2), (.iconst 0, 1), (.istore 7, 2), (.iload 7, 2), (.aload_n 0, 1), (.getfield 7, 3), (.sipush 2550, 3), (.iload 6, 2), (.iadd, 1), (.iaload, 1), (.if_icmp .ge 81, 3), (.bipush 16, 2), (.iload 6, 2), (.imul, 1), (.iload 7, 2), (.iadd, 1), (.istore 8, 2), (.aload_n 0, 1), (.getfield 7, 3), (.sipush 2560, 3), (.iload 8, 2), (.iadd, 1), (.iaload, 1), (.iconst 3, 1), (.if_icmp .eq 50, 3), (.aload_n 0, 1), (.iload_n 1, 1), (.iload_n 2, 1), (.aload_n 0, 1), (.getfield 7, 3), (.sipush 2560, 3), (.iload 8, 2), (.iadd, 1), (.iaload, 1), (.iconst 1, 1), (.if_icmp .ne 7, 3), (.iconst 0, 1), (.goto 4, 3), (.iconst 3, 1), (.aload_n 0, 1), (.getfield 7, 3), (.sipush 2660, 3), (.iload 8, 2), (.iadd, 1), (.iaload, 1), (.iload_n 3, 1), (.iload 4, 2), (.iload 5, 2), (.invokevirtual 326, 3), (.ifCond .eq 5, 3), (.iconst 1, 1), (.ireturn, 1), (.iinc 7 1, 3), (.goto (-91), 3), (.iconst 0, 1), (.ireturn, 1)]
theorem tX12_canSay_ok : sgB cX12_canSay 0 tX12_canSay = true := by decide +kernel
def tX12_whom : List (Instr × Nat) := [(.iload_n 1, 1), (.invokestatic 54, 3), (.ifCond .eq 35, 3), (.iload_n 2, 1), (.iconst 0, 1), (.sipush 9999, 3), (.invokestatic 50, 3), (.ifCond .eq 24, 3), (.iload_n 3, 1), (.iconst 0, 1), (.bipush 23, 2), (.invokestatic 50, 3), (.ifCond .eq 14, 3), (.iload 4, 2), (.iconst 0, 1), (.bipush 99, 2), (.invokestatic 50, 3), (.ifCond .ne 5, 3), (.iconst (-1), 1), (.ireturn, 1), (.iconst 0, 1), (.istore 5, 2), (.iconst 0, 1), (.istore 6, 2), (.iload 6, 2), (.aload_n 0, 1), (.getfield 7, 3), (.bipush 9, 2), (.iaload, 1), (.if_icmp .ge 40, 3), (.iload 5, 2), (.aload_n 0, 1), (.iload 6, 2), (.iload_n 1, 1), (.iload_n 3, 1), (.aload_n 0, 1), (.iload_n 2, 1), (.invokevirtual 251, 3), (.iload 4, 2), (.invokevirtual 330, 3), (.ifCond .eq 10, 3), (.iconst 1, 1), (.iload 6, 2), (.ishl, 1), (.goto 4, 3), (.iconst 0, 1), (.ior, 1), (.istore 5, 2), (.iinc 6 1, 3), (.goto (-46), 3), (.iload 5, 2), (.ireturn, 1)]
theorem tX12_whom_ok : sgB cX12_whom 0 tX12_whom = true := by decide +kernel
def tX12_setsOut : List (Instr × Nat) := [(.iconst 0, 1), (.istore_n 1, 1), (.iload_n 1, 1), (.sipush 2550, 3), (.if_icmp .ge 21, 3), (.aload_n 0, 1), (.getfield 16, 3), (.iload_n 1, 1), (.aload_n 0, 1), (.getfield 7, 3), (.iload_n 1, 1), (.iaload, 1), (.iastore, 1), (.iinc 1 1, 3), (.goto (-22), 3), (.return_, 1)]
theorem tX12_setsOut_ok : sgB cX12_setsOut 0 tX12_setsOut = true := by decide +kernel
def tX12_comesBack : List (Instr × Nat) := [(.iconst 0, 1), (.istore_n 1, 1), (.iload_n 1, 1), (.sipush 2550, 3), (.if_icmp .ge 21, 3), (.aload_n 0, 1), (.getfield 7, 3), (.iload_n 1, 1), (.aload_n 0, 1), (.getfield 16, 3), (.iload_n 1, 1), (.iaload, 1), (.iastore, 1), (.iinc 1 1, 3), (.goto (-22), 3), (.return_, 1)]
theorem tX12_comesBack_ok : sgB cX12_comesBack 0 tX12_comesBack = true := by decide +kernel
def tX12_quiet : List (Instr × Nat) := [(.iload_n 1, 1), (.iconst 1, 1), (.bipush 8, 2), (.invokestatic 50, 3), (.ifCond .eq 12, 3), (.iload_n 2, 1), (.iconst 0, 1), (.iconst 2, 1), (.invokestatic 50, 3), (.ifCond .ne 5, 3), (.iconst (-1), 1), (.ireturn, 1), (.aload_n 0, 1), (.invokevirtual 334, 3), (.iconst (-1), 1), (.istore_n 3, 1), (.iconst (-1), 1), (.istore 4, 2), (.iconst 0, 1), (.istore 5, 2), (.iconst 0, 1), (.istore 6, 2), (.iload 6, 2), (.iload_n 1, 1), (.if_icmp .ge 104, 3), (.aload_n 0, 1), (.getfield 7, 3), (.iconst 0, 1), (.iaload, 1), (.istore 7, 2), (.aload_n 0, 1), (.invokevirtual 337, 3), (.aload_n 0, 1), (.getfield 7, 3), (.iconst 0, 1), (.iload 7, 2), (.iastore, 1), (.iconst 0, 1), (.istore 8, 2), (.iload 8, 2), (.sipush 5760, 3), (.if_icmp .ge 20, 3), (.aload_n 0, 1), (.invokevirtual 311, 3), (.ifCond .le 13, 3), (.aload_n 0, 1), (.invokevirtual 284, 3), (.iinc 8 1, 3), (.goto (-22), 3), (.aload_n 0, 1), (.invokevirtual 311, 3), (.ifCond .le 9, 3), (.iinc 5 1, 3), (.goto 37, 3), (.iload_n 3, 1), (.iconst (-1), 1), (.if_icmp .eq 9, 3), (.iload 8, 2), (.iload_n 3, 1), (.if_icmp .ge 8, 3), (.iload 8, 2), (.goto 4, 3), (.iload_n 3, 1), (.istore_n 3, 1), (.iload 8, 2), (.iload 4, 2), (.if_icmp .le 8, 3), (.iload 8, 2), (.goto 5, 3), (.iload 4, 2), (.istore 4, 2), (.iinc 6 1, 3), (.goto (-104), 3), (.aload_n 0, 1), (.invokevirtual 337, 3), (.iload_n 2, 1), (.ifCond .ne 7, 3), (.iload_n 3, 1), (.goto 15, 3), (.iload_n 2, 1), (.iconst 1, 1), (.if_icmp .ne 8, 3), (.iload 4, 2), (.goto 5, 3), (.iload 5, 2), (.ireturn, 1)]
theorem tX12_quiet_ok : sgB cX12_quiet 0 tX12_quiet = true := by decide +kernel
def tX12_leads : List (Instr × Nat) := [(.aload_n 0, 1), (.invokevirtual 334, 3), (.aload_n 0, 1), (.getfield 7, 3), (.bipush 8, 2), (.iload_n 2, 1), (.iastore, 1), (.iconst 0, 1), (.istore_n 3, 1), (.iload_n 3, 1), (.bipush 96, 2), (.iload_n 1, 1), (.imul, 1), (.if_icmp .ge 13, 3), (.aload_n 0, 1), (.invokevirtual 284, 3), (.iinc 3 1, 3), (.goto (-15), 3), (.iconst 0, 1), (.istore_n 3, 1), (.iload_n 3, 1), (.iconst 4, 1), (.if_icmp .ge 34, 3), (.aload_n 0, 1), (.getfield 41, 3), (.iload_n 3, 1), (.aload_n 0, 1), (.getfield 7, 3), (.bipush 12, 2), (.iload_n 3, 1), (.iadd, 1), (.iaload, 1), (.aload_n 0, 1), (.getfield 16, 3), (.bipush 12, 2), (.iload_n 3, 1), (.iadd, 1), (.iaload, 1), (.isub, 1), (.iastore, 1), (.iinc 3 1, 3), (.goto (-33), 3), (.aload_n 0, 1), (.invokevirtual 337, 3), (.return_, 1)]
theorem tX12_leads_ok : sgB cX12_leads 0 tX12_leads = true := by decide +kernel
def tX12_thought : List (Instr × Nat) := [(.iload_n 1, 1), (.iconst 1, 1), (.bipush 30, 2), (.invokestatic 50, 3), (.ifCond .eq 26, 3), (.iload_n 2, 1), (.iconst (-1), 1), (.iconst 1, 1), (.invokestatic 50, 3), (.ifCond .eq 17, 3), (.iload_n 2, 1), (.iconst (-1), 1), (.if_icmp .eq 14, 3), (.iload_n 3, 1), (.iconst 0, 1), (.iconst 3, 1), (.invokestatic 50, 3), (.ifCond .ne 5, 3), (.iconst (-1), 1), (.ireturn, 1), (.iload_n 2, 1), (.iconst (-1), 1), (.if_icmp .eq 16, 3), (.aload_n 0, 1), (.iload_n 1, 1), (.iload_n 2, 1), (.invokevirtual 340, 3), (.aload_n 0, 1), (.getfield 41, 3), (.iload_n 3, 1), (.iaload, 1), (.ireturn, 1), (.aload_n 0, 1), (.iload_n 1, 1), (.iconst 0, 1), (.invokevirtual 340, 3), (.aload_n 0, 1), (.getfield 41, 3), (.iconst 0, 1), (.iaload, 1), (.istore 4, 2), (.aload_n 0, 1), (.getfield 41, 3), (.iconst 1, 1), (.iaload, 1), (.istore 5, 2), (.aload_n 0, 1), (.iload_n 1, 1), (.iconst 1, 1), (.invokevirtual 340, 3), (.aload_n 0, 1), (.getfield 41, 3), (.iconst 0, 1), (.iaload, 1), (.iload 4, 2), (.if_icmp .gt 25, 3), (.aload_n 0, 1), (.getfield 41, 3), (.iconst 0, 1), (.iaload, 1), (.iload 4, 2), (.if_icmp .ne 18, 3), (.aload_n 0, 1), (.getfield 41, 3), (.iconst 1, 1), (.iaload, 1), (.iload 5, 2), (.if_icmp .ge 7, 3), (.iconst 1, 1), (.goto 4, 3), (.iconst 0, 1), (.ireturn, 1)]
theorem tX12_thought_ok : sgB cX12_thought 0 tX12_thought = true := by decide +kernel
def tX12_person : List (Instr × Nat) := [(.aload_n 0, 1), (.iload_n 1, 1), (.invokevirtual 62, 3), (.ifCond .eq 13, 3), (.iload_n 2, 1), (.iconst 0, 1), (.bipush 9, 2), (.invokestatic 50, 3), (.ifCond .ne 6, 3), (.bipush (-2), 2), (.ireturn, 1), (.iload_n 2, 1), (.bipush 7, 2), (.if_icmp .ge 12, 3), (.aload_n 0, 1), (.iload_n 1, 1), (.iload_n 2, 1), (.invokevirtual 65, 3), (.goto 12, 3), (.aload_n 0, 1), (.iload_n 1, 1), (.iload_n 2, 1), (.bipush 7, 2), (.isub, 1), (.invokevirtual 254, 3), (.ireturn, 1)]
theorem tX12_person_ok : sgB cX12_person 0 tX12_person = true := by decide +kernel
def tX12_book : List (Instr × Nat) := [(.iload_n 1, 1), (.iconst 0, 1), (.aload_n 0, 1), (.getfield 7, 3), (.bipush 11, 2), (.iaload, 1), (.iconst 1, 1), (.isub, 1), (.invokestatic 50, 3), (.ifCond .eq 29, 3), (.iload_n 2, 1), (.iconst 0, 1), (.iconst 4, 1), (.invokestatic 50, 3), (.ifCond .eq 20, 3), (.aload_n 0, 1), (.getfield 7, 3), (.sipush 550, 3), (.iconst 5, 1), (.iload_n 1, 1), (.imul, 1), (.iadd, 1), (.iload_n 2, 1), (.iadd, 1), (.iaload, 1), (.goto 4, 3), (.iconst (-1), 1), (.ireturn, 1)]
theorem tX12_book_ok : sgB cX12_book 0 tX12_book = true := by decide +kernel
def tX12_image : List (Instr × Nat) := [(.iload_n 1, 1), (.ifCond .ne 12, 3), (.aload_n 0, 1), (.getfield 343, 3), (.ifCond .ne 5, 3), (.iconst 0, 1), (.ireturn, 1), (.iconst 0, 1), (.istore_n 2, 1), (.iload_n 2, 1), (.sipush 20240, 3), (.if_icmp .ge 40, 3), (.iload_n 1, 1), (.ifCond .eq 18, 3), (.aload_n 0, 1), (.getfield 13, 3), (.iload_n 2, 1), (.aload_n 0, 1), (.getfield 7, 3), (.iload_n 2, 1), (.iaload, 1), (.iastore, 1), (.goto 15, 3), (.aload_n 0, 1), (.getfield 7, 3), (.iload_n 2, 1), (.aload_n 0, 1), (.getfield 13, 3), (.iload_n 2, 1), (.iaload, 1), (.iastore, 1), (.iinc 2 1, 3), (.goto (-41), 3), (.aload_n 0, 1), (.iconst 1, 1), (.putfield 343, 3), (.iconst 1, 1), (.ireturn, 1)]
theorem tX12_image_ok : sgB cX12_image 0 tX12_image = true := by decide +kernel
def tX12_look : List (Instr × Nat) := [(.iconst 0, 1), (.istore_n 2, 1), (.iload_n 1, 1), (.tableswitch 198 0 12 #[65, 73, 81, 89, 96, 103, 103, 103, 103, 115, 153, 183, 191], 65), (.aload_n 0, 1), (.getfield 7, 3), (.bipush 9, 2), (.iaload, 1), (.ireturn, 1), (.aload_n 0, 1), (.getfield 7, 3), (.bipush 10, 2), (.iaload, 1), (.ireturn, 1), (.aload_n 0, 1), (.getfield 7, 3), (.bipush 11, 2), (.iaload, 1), (.ireturn, 1), (.aload_n 0, 1), (.getfield 7, 3), (.iconst 1, 1), (.iaload, 1), (.ireturn, 1), (.aload_n 0, 1), (.getfield 7, 3), (.iconst 2, 1), (.iaload, 1), (.ireturn, 1), (.aload_n 0, 1), (.getfield 7, 3), (.bipush 12, 2), (.iload_n 1, 1), (.iadd, 1), (.iconst 5, 1), (.isub, 1), (.iaload, 1), (.ireturn, 1), (.iconst 0, 1), (.istore_n 3, 1), (.iload_n 3, 1), (.aload_n 0, 1), (.getfield 7, 3), (.bipush 10, 2), (.iaload, 1), (.if_icmp .ge 26, 3), (.iload_n 2, 1), (.aload_n 0, 1), (.iload_n 3, 1), (.iconst 2, 1), (.invokevirtual 76, 3), (.ifCond .ne 7, 3), (.iconst 1, 1), (.goto 4, 3), (.iconst 0, 1), (.iadd, 1), (.istore_n 2, 1), (.iinc 3 1, 3), (.goto (-31), 3), (.iload_n 2, 1), (.ireturn, 1), (.iconst 0, 1), (.istore_n 3, 1), (.iload_n 3, 1), (.aload_n 0, 1), (.getfield 7, 3), (.bipush 10, 2), (.iaload, 1), (.if_icmp .ge 18, 3), (.iload_n 2, 1), (.aload_n 0, 1), (.iload_n 3, 1), (.iconst 2, 1), (.invokevirtual 76, 3), (.iadd, 1), (.istore_n 2, 1), (.iinc 3 1, 3), (.goto (-23), 3), (.iload_n 2, 1), (.ireturn, 1), (.aload_n 0, 1), (.getfield 7, 3), (.bipush 16, 2), (.iaload, 1), (.ireturn, 1), (.aload_n 0, 1), (.getfield 7, 3), (.iconst 0, 1), (.iaload, 1), (.ireturn, 1), (.iconst (-1), 1), (.ireturn, 1)]
theorem tX12_look_ok : sgB cX12_look 0 tX12_look = true := by decide +kernel
def tJ6_bitCount_0f7a4 : List (Instr × Nat) := [(.iload_n 0, 1), (.iload_n 0, 1), (.iconst 1, 1), (.iushr, 1), (.ldc_w 265, 3), (.iand, 1), (.isub, 1), (.istore_n 0, 1), (.iload_n 0, 1), (.ldc_w 266, 3), (.iand, 1), (.iload_n 0, 1), (.iconst 2, 1), (.iushr, 1), (.ldc_w 266, 3), (.iand, 1), (.iadd, 1), (.istore_n 0, 1), (.iload_n 0, 1), (.iload_n 0, 1), (.iconst 4, 1), (.iushr, 1), (.iadd, 1), (.ldc_w 267, 3), (.iand, 1), (.istore_n 0, 1), (.iload_n 0, 1), (.iload_n 0, 1), (.bipush 8, 2), (.iushr, 1), (.iadd, 1), (.istore_n 0, 1), (.iload_n 0, 1), (.iload_n 0, 1), (.bipush 16, 2), (.iushr, 1), (.iadd, 1), (.istore_n 0, 1), (.iload_n 0, 1), (.bipush 63, 2), (.iand, 1), (.ireturn, 1)]
theorem tJ6_bitCount_0f7a4_ok : sgB cJ6_bitCount_0f7a4 0 tJ6_bitCount_0f7a4 = true := by decide +kernel
def tJ9_max_7cf53 : List (Instr × Nat) := [(.iload_n 0, 1), (.iload_n 1, 1), (.if_icmp .lt 7, 3), (.iload_n 0, 1), (.goto 4, 3), (.iload_n 1, 1), (.ireturn, 1)]
theorem tJ9_max_7cf53_ok : sgB cJ9_max_7cf53 0 tJ9_max_7cf53 = true := by decide +kernel
def tJ9_min_7cf53 : List (Instr × Nat) := [(.iload_n 0, 1), (.iload_n 1, 1), (.if_icmp .gt 7, 3), (.iload_n 0, 1), (.goto 4, 3), (.iload_n 1, 1), (.ireturn, 1)]
theorem tJ9_min_7cf53_ok : sgB cJ9_min_7cf53 0 tJ9_min_7cf53 = true := by decide +kernel
def tJ0_length_8abf5 : List (Instr × Nat) := [(.aload_n 0, 1), (.getfield 9, 3), (.arraylength, 1), (.aload_n 0, 1), (.invokevirtual 335, 3), (.ishr, 1), (.ireturn, 1)]
theorem tJ0_length_8abf5_ok : sgB cJ0_length_8abf5 0 tJ0_length_8abf5 = true := by decide +kernel
def tJ0_charAt_5068e : List (Instr × Nat) := [(.aload_n 0, 1), (.invokevirtual 492, 3), (.ifCond .eq 12, 3), (.aload_n 0, 1), (.getfield 9, 3), (.iload_n 1, 1), (.invokestatic 495, 3), (.ireturn, 1), (.aload_n 0, 1), (.getfield 9, 3), (.iload_n 1, 1), (.invokestatic 498, 3), (.ireturn, 1)]
theorem tJ0_charAt_5068e_ok : sgB cJ0_charAt_5068e 0 tJ0_charAt_5068e = true := by decide +kernel
def tJ0_coder_7d493 : List (Instr × Nat) := [(.getstatic 38, 3), (.ifCond .eq 10, 3), (.aload_n 0, 1), (.getfield 15, 3), (.goto 4, 3), (.iconst 1, 1), (.ireturn, 1)]
theorem tJ0_coder_7d493_ok : sgB cJ0_coder_7d493 0 tJ0_coder_7d493 = true := by decide +kernel
def tJ0_isLatin1_aae02 : List (Instr × Nat) := [(.getstatic 38, 3), (.ifCond .eq 14, 3), (.aload_n 0, 1), (.getfield 15, 3), (.ifCond .ne 7, 3), (.iconst 1, 1), (.goto 4, 3), (.iconst 0, 1), (.ireturn, 1)]
theorem tJ0_isLatin1_aae02_ok : sgB cJ0_isLatin1_aae02 0 tJ0_isLatin1_aae02 = true := by decide +kernel
def tJ0_checkIndex_df160 : List (Instr × Nat) := [(.iload_n 0, 1), (.iload_n 1, 1), (.getstatic 1053, 3), (.invokestatic 1059, 3), (.pop, 1), (.return_, 1)]
theorem tJ0_checkIndex_df160_ok : sgB cJ0_checkIndex_df160 0 tJ0_checkIndex_df160 = true := by decide +kernel
def tJ1_charAt_3b067 : List (Instr × Nat) := [(.iload_n 1, 1), (.aload_n 0, 1), (.arraylength, 1), (.invokestatic 9, 3), (.aload_n 0, 1), (.iload_n 1, 1), (.baload, 1), (.sipush 255, 3), (.iand, 1), (.i2c, 1), (.ireturn, 1)]
theorem tJ1_charAt_3b067_ok : sgB cJ1_charAt_3b067 0 tJ1_charAt_3b067 = true := by decide +kernel
def tJ7_fill_53178 : List (Instr × Nat) := [(.iconst 0, 1), (.istore_n 2, 1), (.aload_n 0, 1), (.arraylength, 1), (.istore_n 3, 1), (.iload_n 2, 1), (.iload_n 3, 1), (.if_icmp .ge 13, 3), (.aload_n 0, 1), (.iload_n 2, 1), (.iload_n 1, 1), (.iastore, 1), (.iinc 2 1, 3), (.goto (-12), 3), (.return_, 1)]
theorem tJ7_fill_53178_ok : sgB cJ7_fill_53178 0 tJ7_fill_53178 = true := by decide +kernel
def tJ7_copyOf_59c91 : List (Instr × Nat) := [(.iload_n 1, 1), (.aload_n 0, 1), (.arraylength, 1), (.if_icmp .ne 11, 3), (.aload_n 0, 1), (.invokevirtual 316, 3), (.checkcast 317, 3), (.areturn, 1), (.iload_n 1, 1), (.newarray .int, 2), (.astore_n 2, 1), (.aload_n 0, 1), (.iconst 0, 1), (.aload_n 2, 1), (.iconst 0, 1), (.aload_n 0, 1), (.arraylength, 1), (.iload_n 1, 1), (.invokestatic 304, 3), (.invokestatic 150, 3), (.aload_n 2, 1), (.areturn, 1)]
theorem tJ7_copyOf_59c91_ok : sgB cJ7_copyOf_59c91 0 tJ7_copyOf_59c91 = true := by decide +kernel
def tJ3_checkIndex_8e157 : List (Instr × Nat) := [(.iload_n 0, 1), (.ifCond .lt 8, 3), (.iload_n 0, 1), (.iload_n 1, 1), (.if_icmp .lt 10, 3), (.aload_n 2, 1), (.iload_n 0, 1), (.iload_n 1, 1), (.invokestatic 95, 3), (.athrow, 1), (.iload_n 0, 1), (.ireturn, 1)]
theorem tJ3_checkIndex_8e157_ok : sgB cJ3_checkIndex_8e157 0 tJ3_checkIndex_8e157 = true := by decide +kernel
end
section
/-! FIELDS, ARRAYS, BRANCHES, RETURNS over the mini heap. -/
theorem inG0 : ∀ w ∈ u_ws RX0 TX0 6, w ∈ gtb := by decide +kernel
theorem inG1 : ∀ w ∈ u_ws RX1 TX1 2, w ∈ gtb := by decide +kernel
theorem inG2 : ∀ w ∈ u_ws RX2 TX2 7, w ∈ gtb := by decide +kernel
theorem inG3 : ∀ w ∈ u_ws RX3 TX3 11, w ∈ gtb := by decide +kernel
theorem inG4 : ∀ w ∈ u_ws RX4 TX4 11, w ∈ gtb := by decide +kernel
theorem inG5 : ∀ w ∈ u_ws RX5 TX5 13, w ∈ gtb := by decide +kernel
theorem inG6 : ∀ w ∈ u_ws RX6 TX6 2, w ∈ gtb := by decide +kernel
theorem inG7 : ∀ w ∈ u_ws RX7 TX7 4, w ∈ gtb := by decide +kernel
theorem inG8 : ∀ w ∈ u_ws RX8 TX8 4, w ∈ gtb := by decide +kernel
theorem inG9 : ∀ w ∈ u_ws RX9 TX9 7, w ∈ gtb := by decide +kernel
theorem inG10 : ∀ w ∈ u_ws RX10 TX10 10, w ∈ gtb := by decide +kernel
theorem inG11 : ∀ w ∈ u_ws RX11 TX11 5, w ∈ gtb := by decide +kernel
theorem inG12 : ∀ w ∈ u_ws RX12 TX12 25, w ∈ gtb := by decide +kernel
def ClsOk (r : vw_C) : Prop := (∀ w ∈ u_ws r.1 r.2.1 r.2.2, w ∈ gtb) ∧ (∃ ty0 : Nat → FieldType, ∀ k, k < r.2.2 → parseFieldDescriptor (r.2.1 k).2.2.1 = some (ty0 k)) ∧ ∀ a, a < r.2.2 → ∀ b, b < r.2.2 → a ≠ b → (r.2.1 a).2.1 ≠ (r.2.1 b).2.1
theorem clsOk : ∀ (ci : Nat) (r : vw_C), vwCl[ci]? = some r → ClsOk r := by
  intro ci r h
  match ci, h with
  | 0, h => cases h; exact ⟨inG0, ⟨tyX0, tyX0_ok⟩, nmX0⟩
  | 1, h => cases h; exact ⟨inG1, ⟨tyX1, tyX1_ok⟩, nmX1⟩
  | 2, h => cases h; exact ⟨inG2, ⟨tyX2, tyX2_ok⟩, nmX2⟩
  | 3, h => cases h; exact ⟨inG3, ⟨tyX3, tyX3_ok⟩, nmX3⟩
  | 4, h => cases h; exact ⟨inG4, ⟨tyX4, tyX4_ok⟩, nmX4⟩
  | 5, h => cases h; exact ⟨inG5, ⟨tyX5, tyX5_ok⟩, nmX5⟩
  | 6, h => cases h; exact ⟨inG6, ⟨tyX6, tyX6_ok⟩, nmX6⟩
  | 7, h => cases h; exact ⟨inG7, ⟨tyX7, tyX7_ok⟩, nmX7⟩
  | 8, h => cases h; exact ⟨inG8, ⟨tyX8, tyX8_ok⟩, nmX8⟩
  | 9, h => cases h; exact ⟨inG9, ⟨tyX9, tyX9_ok⟩, nmX9⟩
  | 10, h => cases h; exact ⟨inG10, ⟨tyX10, tyX10_ok⟩, nmX10⟩
  | 11, h => cases h; exact ⟨inG11, ⟨tyX11, tyX11_ok⟩, nmX11⟩
  | 12, h => cases h; exact ⟨inG12, ⟨tyX12, tyX12_ok⟩, nmX12⟩
  | c + 13, h => simp [vwCl] at h
end
section
/-! THE MINI HEAP: shapes (which cell an address is, and its references), ints (fields and elements by address and place), the next free address. -/
abbrev Sh : Type := (Nat × List (Option (Option Nat))) ⊕ (Nat ⊕ (Nat × Nat × (Nat → Option Nat)))
abbrev Tau : Type := Nat → Option Sh
abbrev Sig : Type := Nat → Nat → Int32
abbrev Hp : Type := Tau × Sig × Nat
/-- the constants of a run: class ids, field places, class of int arrays, classes of arrays of references, first own address, the heap below it, two static arrays, the Strings -/
abbrev Kt : Type := (Nat → ClassId) × (Nat → Nat → Nat) × ClassId × (Nat → ClassId) × Nat × Heap × (Nat × Nat) × (Nat → Nat) × (Nat → Nat) × (Nat → Option (Nat × (Nat → Int32)))
abbrev kC (K : Kt) : Nat → ClassId := K.1
abbrev kD (K : Kt) : Nat → Nat → Nat := K.2.1
abbrev kI (K : Kt) : ClassId := K.2.2.1
abbrev kR (K : Kt) : Nat → ClassId := K.2.2.2.1
abbrev kB (K : Kt) : Nat := K.2.2.2.2.1
abbrev kH (K : Kt) : Heap := K.2.2.2.2.2.1
abbrev kT (K : Kt) : Nat := K.2.2.2.2.2.2.1.1
abbrev kS (K : Kt) : Nat := K.2.2.2.2.2.2.1.2
abbrev kK (K : Kt) : Nat → Nat := K.2.2.2.2.2.2.2.1
abbrev kV (K : Kt) : Nat → Nat := K.2.2.2.2.2.2.2.2.1
abbrev kX (K : Kt) : Nat → Option (Nat × (Nat → Int32)) := K.2.2.2.2.2.2.2.2.2
abbrev kA (K : Kt) : Nat → Prop := fun q => kB K ≤ q
def valOf (σ : Sig) (a k : Nat) (r : Option (Option Nat)) : Value := match r with
  | none => .int (σ a k)
  | some x => va_rf x
def cellOk (K : Kt) (τ : Tau) (σ : Sig) (H : Heap) (a : Nat) : Prop := match τ a with
  | none => True
  | some (.inl (ci, rs)) => (∃ r : vw_C, vwCl[ci]? = some r ∧ r.2.2 = rs.length) ∧ t_OB a (kC K ci) rs.length (kD K ci) H (fun k => valOf σ a k (rs.getD k none))
  | some (.inr (.inl N)) => H[a]? = some (arrV (kI K) N (fun j => .int (σ a j)))
  | some (.inr (.inr (ci, N, f))) => H[a]? = some (arrV (kR K ci) N (fun j => va_rf (f j)))
def Rel (K : Kt) (h : Hp) (H : Heap) : Prop := H.size = h.2.2 ∧ kB K ≤ h.2.2 ∧ (∀ a, cellOk K h.1 h.2.1 H a) ∧ (∀ a x, h.1 a = some x → kB K ≤ a ∧ a < h.2.2) ∧ ∀ q, q < kB K → H[q]? = (kH K)[q]?
/-- the Strings of the claim: class, pool index, text -/
def strTab : List (String × Nat × String) := [("SilenceForMoney$Reader", 109, "when or and not word loud sort hour night feast child"), ("SilenceForMoney$Reader", 111, "when or and not talk work hush hour quarter day night feast owes owed with"), ("SilenceForMoneyModel", 130, "when"), ("SilenceForMoneyModel", 132, "or"), ("SilenceForMoneyModel", 134, "and"), ("SilenceForMoneyModel", 136, "not"), ("SilenceForMoneyModel", 138, "hour"), ("SilenceForMoneyModel", 140, "night"), ("SilenceForMoneyModel", 142, "feast"), ("SilenceForMoneyModel", 102, "word"), ("SilenceForMoneyModel", 108, "loud"), ("SilenceForMoneyModel", 110, "sort"), ("SilenceForMoneyModel", 112, "child"), ("SilenceForMoneyModel", 114, "talk"), ("SilenceForMoneyModel", 116, "work"), ("SilenceForMoneyModel", 118, "hush"), ("SilenceForMoneyModel", 120, "quarter"), ("SilenceForMoneyModel", 122, "day"), ("SilenceForMoneyModel", 124, "owes"), ("SilenceForMoneyModel", 126, "owed"), ("SilenceForMoneyModel", 128, "with")]
def strLen : List Nat := [53, 74, 4, 2, 3, 3, 4, 5, 5, 4, 4, 4, 5, 4, 4, 4, 7, 3, 4, 4, 4]
def strByt : List (List Int32) := [[119, 104, 101, 110, 32, 111, 114, 32, 97, 110, 100, 32, 110, 111, 116, 32, 119, 111, 114, 100, 32, 108, 111, 117, 100, 32, 115, 111, 114, 116, 32, 104, 111, 117, 114, 32, 110, 105, 103, 104, 116, 32, 102, 101, 97, 115, 116, 32, 99, 104, 105, 108, 100], [119, 104, 101, 110, 32, 111, 114, 32, 97, 110, 100, 32, 110, 111, 116, 32, 116, 97, 108, 107, 32, 119, 111, 114, 107, 32, 104, 117, 115, 104, 32, 104, 111, 117, 114, 32, 113, 117, 97, 114, 116, 101, 114, 32, 100, 97, 121, 32, 110, 105, 103, 104, 116, 32, 102, 101, 97, 115, 116, 32, 111, 119, 101, 115, 32, 111, 119, 101, 100, 32, 119, 105, 116, 104], [119, 104, 101, 110], [111, 114], [97, 110, 100], [110, 111, 116], [104, 111, 117, 114], [110, 105, 103, 104, 116], [102, 101, 97, 115, 116], [119, 111, 114, 100], [108, 111, 117, 100], [115, 111, 114, 116], [99, 104, 105, 108, 100], [116, 97, 108, 107], [119, 111, 114, 107], [104, 117, 115, 104], [113, 117, 97, 114, 116, 101, 114], [100, 97, 121], [111, 119, 101, 115], [111, 119, 101, 100], [119, 105, 116, 104]]
def isNest : Cond → Bool
  | .methodLinkNest _ _ _ _ => true
  | _ => false
def tysK (K : Kt) : List (ClassId × FieldType) := [(kI K, .int), (kR K 0, .object RX0), (kR K 7, .object RX7)]
def extOk (K : Kt) (U : State) : Prop := ∀ a N f, kX K a = some (N, f) → va_T .int a N (fun j => .int (f j)) (kA K) U (kH K)
def tellMost : Nat → Int32 := fun j => ([5, 99, 1000, 4, 99999] : List Int32).getD j 0
def setMost : Nat → Int32 := fun j => ([0, 99, 1000, 2, 99, 1, 9999, 95] : List Int32).getD j 0
/-- the two static arrays and the Strings -/
def Kz (K : Kt) (U : State) : Prop := va_Z RX11 "TELL_MOST" "[I" (.ref (kT K)) (kA K) U (kH K) ∧ va_Z RX11 "SET_MOST" "[I" (.ref (kS K)) (kA K) U (kH K) ∧ kX K (kT K) = some (5, tellMost) ∧ kX K (kS K) = some (8, setMost) ∧ vk_S 21 strLen strByt (kK K) (kV K) (kA K) U (kH K) ∧ (∀ (i : Nat) (q : String × Nat × String), strTab[i]? = some q → vk_R q.1 q.2.1 q.2.2 (kK K i) U) ∧ va_AO RX0 U ∧ va_AO RX7 U ∧ va_Z RJ0 "COMPACT_STRINGS" "Z" (.int 1) (kA K) U (kH K) ∧ va_Zq RJ3 "SIOOBE_FORMATTER" "Ljava/util/function/BiFunction;" (kA K) U (kH K)
def Kx (K : Kt) (U : State) : Prop := va_K (kC K, kD K) vwCl (tysK K) U ∧ (∀ w ∈ lw_tbl, isNest w = true → va_Nw w U) ∧ (kH K).size = kB K ∧ extOk K U ∧ Kz K U
theorem Kx.warm {K : Kt} {s U : State} (hW : s.WarmedH U.vm) (h : Kx K s) : Kx K U := by
  obtain ⟨h1, h2, h3, h4, z1, z2, z3, z4, z5, z6, z7, z8, z9, z10⟩ := h
  refine ⟨va_K.moved hW.alike h1, fun w hw hn => ?_, h3, fun a N f ha => (h4 a N f ha).moved hW.alike, z1.moved hW.alike, z2.moved hW.alike, z3, z4, z5.moved hW.alike, fun i q hq => (z6 i q hq).warm hW, z7.moved hW.alike, z8.moved hW.alike, z9.moved hW.alike, z10.moved hW.alike⟩
  cases w <;> first | exact va_Nw.warmM hW (h2 _ hw hn) | (simp [isNest] at hn)
theorem Kx.same {K : Kt} {s U : State} (hv : s.vm = U.vm) (h : Kx K s) : Kx K U := by
  have ha : s.vm.Alike U.vm := by rw [hv]; exact Vm.Alike.refl _
  obtain ⟨h1, h2, h3, h4, z1, z2, z3, z4, z5, z6, z7, z8, z9, z10⟩ := h
  refine ⟨va_K.moved ha h1, fun w hw hn => ?_, h3, fun a N f hx => (h4 a N f hx).moved ha, z1.moved ha, z2.moved ha, z3, z4, z5.moved ha, fun i q hq => (z6 i q hq).same hv.symm, z7.moved ha, z8.moved ha, z9.moved ha, z10.moved ha⟩
  exact va_Nw.same (by cases w <;> first | rfl | (simp [isNest] at hn)) hv (h2 _ hw hn)
abbrev Cx : Type := Program × Launch × Env × Room × State × MethodId × Array Value × List Frame × Method × Code × (State → Prop)
abbrev xp (X : Cx) : Program := X.1
abbrev xl (X : Cx) : Launch := X.2.1
abbrev xe (X : Cx) : Env := X.2.2.1
abbrev xR (X : Cx) : Room := X.2.2.2.1
abbrev xs (X : Cx) : State := X.2.2.2.2.1
abbrev xm (X : Cx) : MethodId := X.2.2.2.2.2.1
abbrev xa (X : Cx) : Array Value := X.2.2.2.2.2.2.1
abbrev xb (X : Cx) : List Frame := X.2.2.2.2.2.2.2.1
abbrev xh (X : Cx) : Method := X.2.2.2.2.2.2.2.2.1
abbrev xc (X : Cx) : Code := X.2.2.2.2.2.2.2.2.2.1
abbrev xQ (X : Cx) : State → Prop := X.2.2.2.2.2.2.2.2.2.2
abbrev Lo : Type := List (Option Value)
def lh (ls : Array Slot) (nL : Nat) (L : Lo) : Prop := ls.size = nL ∧ lv_wf ls ∧ ∀ (i : Nat) (v : Value), L[i]? = some (some v) → ls[i]? = some (.val v) ∧ v.category = 1
abbrev Wx (X : Cx) (H : Heap) (locs : List Loc) (k n : Nat) (g : JFrame) : Prop := W (xp X) (xl X) (xe X) (xR X) (xs X) (xm X) (xa X) (xb X) (xh X) (xc X) H locs k n (xQ X) g
/-- THE JUDGEMENT: from every machine state that shows this mini heap, these locals and this stack at pc, the machine comes to a state with Q -/
def G (K : Kt) (X : Cx) (nL k n pc : Nat) (L : Lo) (S : List Value) (h : Hp) : Prop :=
  ∀ (H : Heap) (locs : List Loc) (ls : Array Slot), Rel K h H → (∀ q ∈ locs, kB K ≤ q.base) → lh ls nL L → Wx X H locs k n (F0 (xm X) pc ls S)
/-- what holds throughout a method -/
def Fx (K : Kt) (X : Cx) (cc : ByteArray) (nL : Nat) (own : String) (D mc ms : Nat) : Prop :=
  (xp X).tables.exec = Jvm.exec ∧ (xc X).code = cc ∧ (xc X).maxLocals = nL ∧ (xs X).vm.findClass own = some (xm X).cls ∧ (∀ w ∈ gtb, w.before (xa X) (xs X) = true) ∧ Kx K (xs X) ∧ (xh X).locks = false ∧ D ≤ (xR X).frames ∧ 64 * D ≤ (xR X).locals ∧ mc ≤ (xR X).cells ∧ ms ≤ (xR X).slots
section FX
variable {K : Kt} {X : Cx} {cc : ByteArray} {nL : Nat} {own : String} {D mc ms : Nat}
theorem Fx.ex (h : Fx K X cc nL own D mc ms) : (xp X).tables.exec = Jvm.exec := h.1
theorem Fx.co (h : Fx K X cc nL own D mc ms) : (xc X).code = cc := h.2.1
theorem Fx.ml (h : Fx K X cc nL own D mc ms) : (xc X).maxLocals = nL := h.2.2.1
theorem Fx.ow (h : Fx K X cc nL own D mc ms) : (xs X).vm.findClass own = some (xm X).cls := h.2.2.2.1
theorem Fx.ts (h : Fx K X cc nL own D mc ms) : ∀ w ∈ gtb, w.before (xa X) (xs X) = true := h.2.2.2.2.1
theorem Fx.kx (h : Fx K X cc nL own D mc ms) : Kx K (xs X) := h.2.2.2.2.2.1
theorem Fx.lk (h : Fx K X cc nL own D mc ms) : (xh X).locks = false := h.2.2.2.2.2.2.1
theorem Fx.fr (h : Fx K X cc nL own D mc ms) : D ≤ (xR X).frames := h.2.2.2.2.2.2.2.1
theorem Fx.lo (h : Fx K X cc nL own D mc ms) : 64 * D ≤ (xR X).locals := h.2.2.2.2.2.2.2.2.1
theorem Fx.ce (h : Fx K X cc nL own D mc ms) : mc ≤ (xR X).cells := h.2.2.2.2.2.2.2.2.2.1
theorem Fx.sl (h : Fx K X cc nL own D mc ms) : ms ≤ (xR X).slots := h.2.2.2.2.2.2.2.2.2.2
end FX
/-- a method's contract: with these arguments over this mini heap it returns r, and the mini heap is h' -/
def Qcc (K : Kt) (r : Option Value) (h' : Hp) : Array Value → State → Outcome → State → Prop := fun _ _ o t => o = .returned r ∧ Rel K h' t.heap
def Pcc (K : Kt) (A : List Value) (h : Hp) : Array Value → State → Prop := fun v U => v = A.toArray ∧ Rel K h U.heap ∧ Kx K U
def OkK (D mc ms : Nat) (y : MethodName) (cc : ByteArray) (nL : Nat) (ret : Option FieldType) (K : Kt) (A : List Value) (h : Hp) (r : Option Value) (h' : Hp) : Prop :=
  ∀ (l : Launch), Met l y (.code y cc nL ret :: gtb) { frames := D, cells := mc, slots := ms, locals := 64 * D } (Pcc K A h) (Qcc K r h') mc ms (kA K)
def Ok (D mc ms : Nat) (y : MethodName) (cc : ByteArray) (nL : Nat) (ret : Option FieldType) (A : List Value) (h : Hp) (r : Option Value) (h' : Hp) : Prop := ∀ K : Kt, OkK D mc ms y cc nL ret K A h r h'
/-- a method's end -/
def En (K : Kt) (X : Cx) (ret : Option FieldType) (mc ms : Nat) (r : Option Value) (h' : Hp) : Prop :=
  xQ X = MQ (xb X) (Qcc K r h') (xa X) (xs X) mc ms (kA K) ∧ (xh X).sig.returnType = ret
theorem lh_entry (A : List Value) {n : Nat} (hA : ∀ v ∈ A, v.category = 1) (hn : A.length ≤ n) (m : MethodId) : ∃ ls : Array Slot, entryFrame m A.toArray n = F0 m 0 ls [] ∧ lh ls n (A.map some ++ List.replicate (n - A.length) none) := by
  have hsl : ∀ B : List Value, (∀ v ∈ B, v.category = 1) → lg_sl B = B.map (fun v => .val v) := by
    intro B
    induction B with
    | nil => intro _; rfl
    | cons v vs ih =>
      intro h
      have h1 : v.category = 1 := h v (List.mem_cons_self)
      have h2 := ih (fun w hw => h w (List.mem_cons_of_mem _ hw))
      show (if v.category = 2 then [Slot.val v, Slot.second] else [Slot.val v]) ++ lg_sl vs = _
      rw [h1, h2]; rfl
  have hlen : (lg_sl A).length = A.length := by rw [hsl A hA, List.length_map]
  have hE := lv_entry A (n := n) (by rw [hlen]; exact hn)
  refine ⟨_, lg_entry_eq m A n, hE.1, hE.2.1, fun i v hv => ?_⟩
  have hi : i < A.length := by
    by_cases hi : i < A.length
    · exact hi
    · rw [List.getElem?_append_right (by rw [List.length_map]; omega)] at hv
      have := List.eq_of_mem_replicate (List.mem_of_getElem? hv)
      cases this
  rw [List.getElem?_append_left (by rw [List.length_map]; exact hi), List.getElem?_map] at hv
  have hv2 : A[i]? = some v := by
    cases hz : A[i]? with
    | none => rw [hz] at hv; cases hv
    | some z => rw [hz] at hv; simp at hv; rw [hv]
  refine ⟨?_, hA v (List.mem_of_getElem? hv2)⟩
  rw [List.getElem?_toArray, hsl A hA, List.getElem?_append_left (by rw [List.length_map]; exact hi), List.getElem?_map, hv2]
  rfl
theorem ok_ofK {K : Kt} {D mc ms : Nat} {y : MethodName} {cc : ByteArray} {nL : Nat} {ret : Option FieldType} {A : List Value} {h h' : Hp} {r : Option Value} (hy : plainName y.cls = true) (hA0 : (A.all fun v => v.category == 1) = true) (hn : A.length ≤ nL)
    (body : ∀ (X : Cx), Fx K X cc nL y.cls D mc ms → En K X ret mc ms r h' → (xh X).name = y.name → ∀ L0 : Lo, A.map some ++ List.replicate (nL - A.length) none = L0 → G K X nL 0 0 0 L0 [] h) : OkK D mc ms y cc nL ret K A h r h' := by
  have hA : ∀ v ∈ A, v.category = 1 := fun v hv => by have := List.all_eq_true.mp hA0 v hv; simpa using this
  intro l
  refine Met.ofW (cc := cc) (maxL := nL) (ret := ret) hy rfl ?_
  intro p e s m args below meth c s₁ B hml hv
  obtain ⟨rfl, hR, hKx⟩ := hv
  have hpre : ∀ w ∈ (Cond.code y cc nL ret :: gtb), w.before A.toArray s = true := atoms_spec (ws := Cond.code y cc nL ret :: gtb) B.pre
  have hb := body (p, l, e, (headSpec (Cond.code y cc nL ret :: gtb) { frames := D, cells := mc, slots := ms, locals := 64 * D }).room, s, m, A.toArray, below, meth, c, MQ below (Qcc K r h') A.toArray s mc ms (kA K))
    ⟨B.exec, B.bytes, hml, findClass_of_methodNamed B.named, fun w hw => hpre w (List.mem_cons_of_mem _ hw), hKx, B.notSynchronized, Nat.le_refl _, Nat.le_refl _, Nat.le_refl _, Nat.le_refl _⟩ ⟨rfl, B.returns⟩ (name_of_methodNamed B.named B.method).1
  obtain ⟨ls, hE, hls⟩ := lh_entry A hA hn m
  rw [hE]
  exact hb _ rfl s.heap [] ls hR (fun q hq => by cases hq) hls
theorem ok_of {D mc ms : Nat} {y : MethodName} {cc : ByteArray} {nL : Nat} {ret : Option FieldType} {A : List Value} {h h' : Hp} {r : Option Value} (hy : plainName y.cls = true) (hA0 : (A.all fun v => v.category == 1) = true) (hn : A.length ≤ nL)
    (body : ∀ (K : Kt) (X : Cx), Fx K X cc nL y.cls D mc ms → En K X ret mc ms r h' → (xh X).name = y.name → ∀ L0 : Lo, A.map some ++ List.replicate (nL - A.length) none = L0 → G K X nL 0 0 0 L0 [] h) : Ok D mc ms y cc nL ret A h r h' := fun K => ok_ofK hy hA0 hn (body K)
end
section
/-! STRAIGHT RUNS: a method's instructions as a list; what stands on the stack and in the locals alone is computed. -/
def lnI : List (Instr × Nat) → Nat
  | [] => 0
  | (_, n) :: r => n + lnI r
theorem sgB_drop {cc : ByteArray} : ∀ (j pc : Nat) (t : List (Instr × Nat)), sgB cc pc t = true → sgB cc (pc + lnI (t.take j)) (t.drop j) = true
  | 0, pc, t, h => by simpa [lnI] using h
  | j + 1, pc, [], h => by simp [lnI, sgB]
  | j + 1, pc, (i, n) :: r, h => by
    have h2 : sgB cc (pc + n) r = true := by simp [sgB] at h; exact h.2
    have h3 := sgB_drop j (pc + n) r h2
    simp only [List.take_succ_cons, List.drop_succ_cons, lnI]
    rw [← Nat.add_assoc]; exact h3
theorem sgB_take {cc : ByteArray} : ∀ (j pc : Nat) (t : List (Instr × Nat)), sgB cc pc t = true → sgB cc pc (t.take j) = true
  | 0, pc, t, h => by simp [sgB]
  | j + 1, pc, [], h => by simp [sgB]
  | j + 1, pc, (i, n) :: r, h => by
    simp [sgB] at h
    simp only [List.take_succ_cons, sgB, Bool.and_eq_true, decide_eq_true_eq]
    exact ⟨h.1, sgB_take j (pc + n) r h.2⟩
/-- the instruction at place j of the table -/
theorem dAt {cc : ByteArray} {t : List (Instr × Nat)} (h : sgB cc 0 t = true) (j : Nat) {pc : Nat} {q : Instr × Nat} (hp : lnI (t.take j) = pc) (hq : t[j]? = some q) : decode cc pc = .ok q := by
  have h1 := sgB_drop j 0 t h
  obtain ⟨hj, hz⟩ := List.getElem?_eq_some_iff.mp hq
  rw [List.drop_eq_getElem_cons hj, hz, Nat.zero_add, hp] at h1
  obtain ⟨i, n⟩ := q
  simp [sgB] at h1
  exact h1.1
def lget (L : Lo) (i : Nat) : Option Value := match L[i]? with
  | some (some v) => some v
  | _ => none
def px (i : Instr) (L : Lo) (S : List Value) : Option (Nat × Lo × List Value) := match i with
  | .iconst n => some (1, L, .int (Int32.ofInt n) :: S)
  | .bipush n => some (2, L, .int (Int8.ofInt n).toInt32 :: S)
  | .sipush n => some (3, L, .int (Int16.ofInt n).toInt32 :: S)
  | .aconst_null => some (1, L, .null :: S)
  | .iload_n k => (match lget L k.val with | some (.int x) => some (1, L, .int x :: S) | _ => none)
  | .iload k => (match lget L k with | some (.int x) => some (2, L, .int x :: S) | _ => none)
  | .aload_n k => (match lget L k.val with | some (.ref x) => some (1, L, .ref x :: S) | some .null => some (1, L, .null :: S) | _ => none)
  | .aload k => (match lget L k with | some (.ref x) => some (2, L, .ref x :: S) | some .null => some (2, L, .null :: S) | _ => none)
  | .istore_n k => (match S with | .int x :: S => if k.val < L.length then some (1, L.set k.val (some (.int x)), S) else none | _ => none)
  | .istore k => (match S with | .int x :: S => if k < L.length then some (2, L.set k (some (.int x)), S) else none | _ => none)
  | .astore_n k => (match S with | .ref x :: S => if k.val < L.length then some (1, L.set k.val (some (.ref x)), S) else none | .null :: S => if k.val < L.length then some (1, L.set k.val (some .null), S) else none | _ => none)
  | .astore k => (match S with | .ref x :: S => if k < L.length then some (2, L.set k (some (.ref x)), S) else none | .null :: S => if k < L.length then some (2, L.set k (some .null), S) else none | _ => none)
  | .iinc k n => (match lget L k with | some (.int x) => if k < L.length then some (3, L.set k (some (.int (x + Int32.ofInt n))), S) else none | _ => none)
  | .iadd => (match S with | .int y :: .int x :: S => some (1, L, .int (x + y) :: S) | _ => none)
  | .isub => (match S with | .int y :: .int x :: S => some (1, L, .int (x - y) :: S) | _ => none)
  | .imul => (match S with | .int y :: .int x :: S => some (1, L, .int (x * y) :: S) | _ => none)
  | .iand => (match S with | .int y :: .int x :: S => some (1, L, .int (x &&& y) :: S) | _ => none)
  | .ior => (match S with | .int y :: .int x :: S => some (1, L, .int (x ||| y) :: S) | _ => none)
  | .ixor => (match S with | .int y :: .int x :: S => some (1, L, .int (x ^^^ y) :: S) | _ => none)
  | .ishl => (match S with | .int y :: .int x :: S => some (1, L, .int (x <<< (y &&& 31)) :: S) | _ => none)
  | .ishr => (match S with | .int y :: .int x :: S => some (1, L, .int (x >>> (y &&& 31)) :: S) | _ => none)
  | .iushr => (match S with | .int y :: .int x :: S => some (1, L, .int (x.toUInt32 >>> (y.toUInt32 &&& Int32.toUInt32 31)).toInt32 :: S) | _ => none)
  | .dup => (match S with | .int x :: S => some (1, L, .int x :: .int x :: S) | .ref x :: S => some (1, L, .ref x :: .ref x :: S) | _ => none)
  | .pop => (match S with | .int _ :: S => some (1, L, S) | .ref _ :: S => some (1, L, S) | _ => none)
  | .dup2 => (match S with | .int y :: .ref x :: S => some (1, L, .int y :: .ref x :: .int y :: .ref x :: S) | _ => none)
  | _ => none
def pxs : List (Instr × Nat) → Lo → List Value → Option (Lo × List Value)
  | [], L, S => some (L, S)
  | (i, m) :: r, L, S => (match px i L S with | none => none | some (z, L', S') => if z = m then pxs r L' S' else none)
theorem lget_some {L : Lo} {i : Nat} {v : Value} (h : lget L i = some v) : L[i]? = some (some v) := by
  unfold lget at h
  split at h
  · next hq => rw [hq]; cases h; rfl
  · cases h
def lvOf (L : Lo) : List (Nat × Value) := (L.zipIdx).filterMap (fun q => match q.1 with | some v => some (q.2, v) | none => none)
theorem lvOf_mem {L : Lo} {q : Nat × Value} : q ∈ lvOf L ↔ L[q.1]? = some (some q.2) := by
  obtain ⟨i, v⟩ := q
  simp only [lvOf, List.mem_filterMap]
  constructor
  · rintro ⟨⟨z, j⟩, hm, hz⟩
    rw [List.mem_zipIdx_iff_getElem?] at hm
    cases z with
    | none => simp at hz
    | some w => simp at hz; obtain ⟨rfl, rfl⟩ := hz; exact hm
  · intro h
    exact ⟨(some v, i), by rw [List.mem_zipIdx_iff_getElem?]; exact h, rfl⟩
theorem lh.has {ls : Array Slot} {nL : Nat} {L : Lo} (h : lh ls nL L) : lv_has ls nL (lvOf L) := ⟨h.1, h.2.1, fun q hq => (h.2.2 q.1 q.2 (lvOf_mem.mp hq)).1⟩
theorem lh.at {ls : Array Slot} {nL : Nat} {L : Lo} {i : Nat} {v : Value} (h : lh ls nL L) (hv : lget L i = some v) : ls[i]? = some (.val v) := (h.2.2 i v (lget_some hv)).1
theorem lh.set {ls ls' : Array Slot} {nL : Nat} {L : Lo} {i : Nat} {v : Value} (h : lh ls nL L) (hc : v.category = 1) (h' : lv_has ls' nL ((i, v) :: (lvOf L).filter (fun q => !(q.1 == i) && !(q.1 + 1 == i && q.2.category == 2)))) : lh ls' nL (L.set i (some v)) := by
  refine ⟨h'.1, h'.2.1, fun j w hw => ?_⟩
  by_cases hj : i = j
  · subst hj
    rw [List.getElem?_set] at hw
    split at hw
    · split at hw
      · cases hw; exact ⟨h'.2.2 (i, v) List.mem_cons_self, hc⟩
      · cases hw
    · contradiction
  · rw [List.getElem?_set_ne hj] at hw
    have hcat := (h.2.2 j w hw).2
    refine ⟨h'.2.2 (j, w) (List.mem_cons_of_mem _ (List.mem_filter.mpr ⟨lvOf_mem.mpr hw, ?_⟩)), hcat⟩
    simp [Ne.symm hj, hcat]
section PX
variable {K : Kt} {X : Cx} {cc : ByteArray} {nL : Nat} {own : String} {D mc ms k n pc : Nat} {L L' : Lo} {S S' : List Value} {h : Hp}
set_option maxHeartbeats 4000000 in
theorem g_px (hF : Fx K X cc nL own D mc ms) (hn : L.length = nL) {i : Instr} {len : Nat} (hd : decode cc pc = .ok (i, len)) (hp : px i L S = some (len, L', S')) (kk : G K X nL k n (pc + len) L' S' h) : G K X nL k n pc L S h ∧ L'.length = nL := by
  have hx := hF.ex
  have hb := hF.co
  have stI : ∀ {i : Nat} {v : Value} {ls ls' : Array Slot}, i < L.length → v.category = 1 → lh ls nL L → lv_has ls' nL ((i, v) :: (lvOf L).filter (fun q => !(q.1 == i) && !(q.1 + 1 == i && q.2.category == 2))) → lh ls' nL (L.set i (some v)) := fun _ hc hl h' => hl.set hc h'
  unfold px at hp
  split at hp
  · cases hp; exact ⟨fun H locs ls hR hq hl => lv_iconst hx hb hd rfl (kk H locs ls hR hq hl), hn⟩
  · cases hp; exact ⟨fun H locs ls hR hq hl => lv_bipush hx hb hd rfl (kk H locs ls hR hq hl), hn⟩
  · cases hp; exact ⟨fun H locs ls hR hq hl => lv_sipush hx hb hd rfl (kk H locs ls hR hq hl), hn⟩
  · cases hp; exact ⟨fun H locs ls hR hq hl => lv_null hx hb hd (kk H locs ls hR hq hl), hn⟩
  · split at hp
    · next hg => cases hp; exact ⟨fun H locs ls hR hq hl => lv_iload_n hx hb hd rfl (hl.at hg) (kk H locs ls hR hq hl), hn⟩
    · cases hp
  · split at hp
    · next hg => cases hp; exact ⟨fun H locs ls hR hq hl => lv_iload hx hb hd (hl.at hg) (kk H locs ls hR hq hl), hn⟩
    · cases hp
  · split at hp
    · next hg => cases hp; exact ⟨fun H locs ls hR hq hl => lv_aload_n hx hb hd rfl (hl.at hg) (kk H locs ls hR hq hl), hn⟩
    · next hg => cases hp; exact ⟨fun H locs ls hR hq hl => lv_aload_nN hx hb hd rfl (hl.at hg) (kk H locs ls hR hq hl), hn⟩
    · cases hp
  · split at hp
    · next hg => cases hp; exact ⟨fun H locs ls hR hq hl => lv_aload hx hb hd (hl.at hg) (kk H locs ls hR hq hl), hn⟩
    · next hg => cases hp; exact ⟨fun H locs ls hR hq hl => lv_aloadN hx hb hd (hl.at hg) (kk H locs ls hR hq hl), hn⟩
    · cases hp
  · split at hp
    · split at hp
      · next hg => cases hp; exact ⟨fun H locs ls hR hq hl => lv_istore_n hx hb hd rfl hl.has (hn ▸ hg) rfl (fun ls' h' => kk H locs ls' hR hq (stI hg rfl hl h')), by rw [List.length_set]; exact hn⟩
      · cases hp
    · cases hp
  · split at hp
    · split at hp
      · next hg => cases hp; exact ⟨fun H locs ls hR hq hl => lv_istore hx hb hd hl.has (hn ▸ hg) rfl (fun ls' h' => kk H locs ls' hR hq (stI hg rfl hl h')), by rw [List.length_set]; exact hn⟩
      · cases hp
    · cases hp
  · split at hp
    · split at hp
      · next hg => cases hp; exact ⟨fun H locs ls hR hq hl => lv_astore_n hx hb hd rfl hl.has (hn ▸ hg) rfl (fun ls' h' => kk H locs ls' hR hq (stI hg rfl hl h')), by rw [List.length_set]; exact hn⟩
      · cases hp
    · split at hp
      · next hg => cases hp; exact ⟨fun H locs ls hR hq hl => lv_astore_nN hx hb hd rfl hl.has (hn ▸ hg) rfl (fun ls' h' => kk H locs ls' hR hq (stI hg rfl hl h')), by rw [List.length_set]; exact hn⟩
      · cases hp
    · cases hp
  · split at hp
    · split at hp
      · next hg => cases hp; exact ⟨fun H locs ls hR hq hl => lv_astore hx hb hd hl.has (hn ▸ hg) rfl (fun ls' h' => kk H locs ls' hR hq (stI hg rfl hl h')), by rw [List.length_set]; exact hn⟩
      · cases hp
    · split at hp
      · next hg => cases hp; exact ⟨fun H locs ls hR hq hl => lv_astoreN hx hb hd hl.has (hn ▸ hg) rfl (fun ls' h' => kk H locs ls' hR hq (stI hg rfl hl h')), by rw [List.length_set]; exact hn⟩
      · cases hp
    · cases hp
  · split at hp
    · next hg0 =>
      split at hp
      · next hg =>
        cases hp
        refine ⟨fun H locs ls hR hq hl => ?_, by rw [List.length_set]; exact hn⟩
        obtain ⟨j, hj⟩ := List.getElem?_of_mem (lvOf_mem (q := (_, _)).mpr (lget_some hg0))
        exact lv_iinc hx hb hd hl.has hj rfl (hn ▸ hg) rfl (fun ls' h' => kk H locs ls' hR hq (stI hg rfl hl h'))
      · cases hp
    · cases hp
  · split at hp
    · cases hp; exact ⟨fun H locs ls hR hq hl => lv_iadd hx hb hd (kk H locs ls hR hq hl), hn⟩
    · cases hp
  · split at hp
    · cases hp; exact ⟨fun H locs ls hR hq hl => lv_isub hx hb hd (kk H locs ls hR hq hl), hn⟩
    · cases hp
  · split at hp
    · cases hp; exact ⟨fun H locs ls hR hq hl => lv_imul hx hb hd (kk H locs ls hR hq hl), hn⟩
    · cases hp
  · split at hp
    · cases hp; exact ⟨fun H locs ls hR hq hl => lv_iand hx hb hd (kk H locs ls hR hq hl), hn⟩
    · cases hp
  · split at hp
    · cases hp; exact ⟨fun H locs ls hR hq hl => lv_ior hx hb hd (kk H locs ls hR hq hl), hn⟩
    · cases hp
  · split at hp
    · cases hp; exact ⟨fun H locs ls hR hq hl => lv_ixor hx hb hd (kk H locs ls hR hq hl), hn⟩
    · cases hp
  · split at hp
    · cases hp; exact ⟨fun H locs ls hR hq hl => lv_ishl hx hb hd (kk H locs ls hR hq hl), hn⟩
    · cases hp
  · split at hp
    · cases hp; exact ⟨fun H locs ls hR hq hl => lv_ishr hx hb hd (kk H locs ls hR hq hl), hn⟩
    · cases hp
  · split at hp
    · cases hp; exact ⟨fun H locs ls hR hq hl => lv_iushr hx hb hd rfl (kk H locs ls hR hq hl), hn⟩
    · cases hp
  · split at hp
    · cases hp; exact ⟨fun H locs ls hR hq hl => lv_dup hx hb hd rfl (kk H locs ls hR hq hl), hn⟩
    · cases hp; exact ⟨fun H locs ls hR hq hl => lv_dup hx hb hd rfl (kk H locs ls hR hq hl), hn⟩
    · cases hp
  · split at hp
    · cases hp; exact ⟨fun H locs ls hR hq hl => lv_pop hx hb hd rfl (kk H locs ls hR hq hl), hn⟩
    · cases hp; exact ⟨fun H locs ls hR hq hl => lv_pop hx hb hd rfl (kk H locs ls hR hq hl), hn⟩
    · cases hp
  · split at hp
    · cases hp; exact ⟨fun H locs ls hR hq hl => lv_dup2_11 hx hb hd rfl rfl (kk H locs ls hR hq hl), hn⟩
    · cases hp
  · cases hp
/-- how long the locals are behind a run -/
theorem px_len {i : Instr} {z : Nat} {L L' : Lo} {S S' : List Value} (hp : px i L S = some (z, L', S')) : L'.length = L.length := by
  unfold px at hp
  repeat' split at hp
  all_goals first | (cases hp; done) | (cases hp; rfl) | (cases hp; simp)
theorem g_ps (hF : Fx K X cc nL own D mc ms) (kk : G K X nL k n pc L' S' h) : ∀ (is : List (Instr × Nat)) (pc0 : Nat) (L : Lo) (S : List Value), L.length = nL → sgB cc pc0 is = true → pxs is L S = some (L', S') → pc0 + lnI is = pc → G K X nL k n pc0 L S h
  | [], pc0, L, S, hn, hs, hp, he => by
    simp only [pxs, Option.some.injEq, Prod.mk.injEq] at hp
    obtain ⟨rfl, rfl⟩ := hp
    simp only [lnI, Nat.add_zero] at he
    subst he; exact kk
  | (i, m) :: r, pc0, L, S, hn, hs, hp, he => by
    simp only [sgB, Bool.and_eq_true, decide_eq_true_eq] at hs
    simp only [pxs] at hp
    split at hp
    · cases hp
    · next z L1 S1 hq =>
      split at hp
      · next hz =>
        subst hz
        exact (g_px hF hn hs.1 hq (g_ps hF kk r (pc0 + z) L1 S1 ((px_len hq).trans hn) hs.2 hp (by simp only [lnI] at he; omega))).1
      · cases hp
/-- A STRAIGHT RUN: m instructions from place j of the method's table on -/
theorem g_p {t : List (Instr × Nat)} (hF : Fx K X cc nL own D mc ms) (ht : sgB cc 0 t = true) (j m : Nat) {pc0 : Nat} (h0 : lnI (t.take j) = pc0) (hn : L.length = nL) (hp : pxs ((t.drop j).take m) L S = some (L', S')) (he : pc0 + lnI ((t.drop j).take m) = pc) (kk : G K X nL k n pc L' S' h) : G K X nL k n pc0 L S h := by
  have h1 := sgB_drop j 0 t ht
  rw [Nat.zero_add, h0] at h1
  exact g_ps hF kk _ pc0 L S hn (sgB_take m pc0 _ h1) hp he
end PX
end
section
def wr (σ : Sig) (a k : Nat) (v : Int32) : Sig := fun b j => if b = a ∧ j = k then v else σ b j
theorem wr_row {σ : Sig} {a k b : Nat} {v : Int32} (h : b ≠ a) : wr σ a k v b = σ b := by funext j; simp [wr, h]
theorem wr_same {σ : Sig} {a k j : Nat} {v : Int32} : wr σ a k v a j = if j = k then v else σ a j := by simp [wr]
theorem cellOk.kept {K : Kt} {τ : Tau} {σ σ' : Sig} {H H' : Heap} {b : Nat} (h : cellOk K τ σ H b) (hH : H'[b]? = H[b]?) (hσ : σ' b = σ b) : cellOk K τ σ' H' b := by
  unfold cellOk at h ⊢
  split at h
  · trivial
  · refine ⟨h.1, ?_⟩
    have h2 := h.2.kept hH
    exact h2.to (fun k _ => by simp only [valOf]; split <;> simp [hσ])
  · rw [hH, hσ]; exact h
  · rw [hH]; exact h
theorem cellOk.tau {K : Kt} {τ τ' : Tau} {σ : Sig} {H : Heap} {b : Nat} (h : cellOk K τ σ H b) (ht : τ' b = τ b) : cellOk K τ' σ H b := by
  unfold cellOk at h ⊢
  rw [ht]; exact h
theorem Rel.cell {K : Kt} {h : Hp} {H : Heap} (hR : Rel K h H) (a : Nat) : cellOk K h.1 h.2.1 H a := hR.2.2.1 a
theorem Rel.obj {K : Kt} {τ : Tau} {σ : Sig} {nx : Nat} {H : Heap} (hR : Rel K (τ, σ, nx) H) {a ci : Nat} {rs : List (Option (Option Nat))} (hs : τ a = some (.inl (ci, rs))) : (∃ r : vw_C, vwCl[ci]? = some r ∧ r.2.2 = rs.length) ∧ t_OB a (kC K ci) rs.length (kD K ci) H (fun k => valOf σ a k (rs.getD k none)) := by
  have := hR.cell a; unfold cellOk at this; simp only [hs] at this; exact this
theorem Rel.arr {K : Kt} {τ : Tau} {σ : Sig} {nx : Nat} {H : Heap} (hR : Rel K (τ, σ, nx) H) {a N : Nat} (hs : τ a = some (.inr (.inl N))) : H[a]? = some (arrV (kI K) N (fun j => .int (σ a j))) := by
  have := hR.cell a; unfold cellOk at this; simp only [hs] at this; exact this
theorem Rel.rar {K : Kt} {τ : Tau} {σ : Sig} {nx : Nat} {H : Heap} (hR : Rel K (τ, σ, nx) H) {a ci N : Nat} {f : Nat → Option Nat} (hs : τ a = some (.inr (.inr (ci, N, f)))) : H[a]? = some (arrV (kR K ci) N (fun j => va_rf (f j))) := by
  have := hR.cell a; unfold cellOk at this; simp only [hs] at this; exact this
section HP
variable {K : Kt} {X : Cx} {cc : ByteArray} {nL : Nat} {own : String} {D mc ms k n pc : Nat} {L : Lo} {S : List Value} {τ : Tau} {σ : Sig} {nx : Nat} {desc : String} {fin : Bool}
theorem g_get (hF : Fx K X cc nL own D mc ms) {idx ci kf a : Nat} (hd : decode cc pc = .ok (.getfield idx, 3)) (hf : FL own idx ci kf desc fin) {rs : List (Option (Option Nat))} (hs : τ a = some (.inl (ci, rs))) {v : Option (Option Nat)} (hr : rs[kf]? = some v) (kk : G K X nL k n (pc + 3) L (valOf σ a kf v :: S) (τ, σ, nx)) : G K X nL k n pc L (.ref a :: S) (τ, σ, nx) := by
  intro H locs ls hR hq hl
  obtain ⟨C, name, T, N, hc, hT, hk, hlk⟩ := hf
  obtain ⟨⟨r, hr1, hr2⟩, cell, q1, q2, q3, q4⟩ := hR.obj hs
  cases hc.symm.trans hr1
  have hin : ∀ w ∈ u_ws C T N, w ∈ gtb := (clsOk ci _ hc).1
  have hkn : u_Kn (xs X) C T N (kC K ci) (kD K ci) := hF.kx.1.1 ci _ hc
  obtain ⟨hS, hfc, kC, hkC, hkind⟩ := hkn
  obtain ⟨cf, kf', fi, f, hi, hsl⟩ := hS kf hk
  have e : T kf = (C, name, desc, fin) := hT
  have hi' : (xs X).fieldFound? C name desc = some (cf, kf', fi, f) := by simpa [e] using hi
  refine W.getf hF.ex hF.co hF.ow (hF.ts _ hlk) hi' (u_facts hfc hkC (u_lays hF.ts hin hk) hi).1 q1 (by rw [q3]; exact fun h => by cases h) (v := valOf σ a kf v) ?_ rfl rfl hd (kk H locs ls hR hq hl)
  rw [hsl, q4 kf (hr2 ▸ hk)]
  simp only [List.getD_eq_getElem?_getD, hr, Option.getD_some]
theorem g_getI (hF : Fx K X cc nL own D mc ms) {idx ci kf a : Nat} (hd : decode cc pc = .ok (.getfield idx, 3)) (hf : FL own idx ci kf desc fin) {rs : List (Option (Option Nat))} (hs : τ a = some (.inl (ci, rs))) (hr : rs[kf]? = some none) (kk : G K X nL k n (pc + 3) L (.int (σ a kf) :: S) (τ, σ, nx)) : G K X nL k n pc L (.ref a :: S) (τ, σ, nx) := g_get hF hd hf hs hr kk
theorem g_getR (hF : Fx K X cc nL own D mc ms) {idx ci kf a b : Nat} (hd : decode cc pc = .ok (.getfield idx, 3)) (hf : FL own idx ci kf desc fin) {rs : List (Option (Option Nat))} (hs : τ a = some (.inl (ci, rs))) (hr : rs[kf]? = some (some (some b))) (kk : G K X nL k n (pc + 3) L (.ref b :: S) (τ, σ, nx)) : G K X nL k n pc L (.ref a :: S) (τ, σ, nx) := g_get hF hd hf hs hr kk
theorem g_getN (hF : Fx K X cc nL own D mc ms) {idx ci kf a : Nat} (hd : decode cc pc = .ok (.getfield idx, 3)) (hf : FL own idx ci kf desc fin) {rs : List (Option (Option Nat))} (hs : τ a = some (.inl (ci, rs))) (hr : rs[kf]? = some (some none)) (kk : G K X nL k n (pc + 3) L (.null :: S) (τ, σ, nx)) : G K X nL k n pc L (.ref a :: S) (τ, σ, nx) := g_get hF hd hf hs hr kk
/-- the shape behind a store of a reference -/
def setR (τ : Tau) (a kf : Nat) (r : Option Nat) : Tau := fun b => if b = a then (match τ a with | some (.inl (ci, rs)) => some (.inl (ci, rs.set kf (some r))) | x => x) else τ b
theorem slots_apart (hF : Fx K X cc nL own D mc ms) {ci : Nat} {C : String} {T : u_T} {N : Nat} (hc : vwCl[ci]? = some (C, T, N)) : ∀ x y, x < N → y < N → x ≠ y → (kD K ci) x ≠ (kD K ci) y := by
  obtain ⟨hin, ⟨ty0, hty⟩, hnm⟩ := clsOk ci _ hc
  exact va_apart (own := own) hF.ts hin ty0 hty hnm hF.kx.1 hc
theorem g_put0 (hF : Fx K X cc nL own D mc ms) {idx ci kf a : Nat} (hd : decode cc pc = .ok (.putfield idx, 3)) (hf : FL own idx ci kf desc fin) (hfin : fin = false ∨ (fin = true ∧ (xh X).name = "<init>" ∧ ∃ T N, vwCl[ci]? = some (own, T, N))) {rs : List (Option (Option Nat))} (hs : τ a = some (.inl (ci, rs))) {v : Value} {ty : FieldType} (hty : parseFieldDescriptor desc = some ty) (hnw : narrow ty v = v) (hft : fits ty v = true)
    (kk : ∀ (H H' : Heap) (locs : List Loc) (ls : Array Slot), Rel K (τ, σ, nx) H → (∀ q ∈ locs, kB K ≤ q.base) → lh ls nL L → H'.size = H.size → (∀ q, q ≠ a → H'[q]? = H[q]?) → t_OB a (kC K ci) rs.length (kD K ci) H' (updV (fun k => valOf σ a k (rs.getD k none)) kf v) → Wx X H' locs k n (F0 (xm X) (pc + 3) ls S)) : G K X nL k n pc L (v :: .ref a :: S) (τ, σ, nx) := by
  intro H locs ls hR hq hl
  obtain ⟨C, name, T, N, hc, hT, hk, hlk⟩ := hf
  obtain ⟨⟨r, hr1, hr2⟩, cell, q1, q2, q3, q4⟩ := hR.obj hs
  cases hc.symm.trans hr1
  have hin : ∀ w ∈ u_ws C T N, w ∈ gtb := (clsOk ci _ hc).1
  have hkn : u_Kn (xs X) C T N (kC K ci) (kD K ci) := hF.kx.1.1 ci _ hc
  obtain ⟨hS, hfc, kC, hkC, hkind⟩ := hkn
  obtain ⟨cf, kf', fi, f, hi, hsl⟩ := hS kf hk
  have hi' : (xs X).fieldFound? C name desc = some (cf, kf', fi, f) := by simpa [hT] using hi
  have hst := (u_facts hfc hkC (u_lays hF.ts hin hk) hi).1
  have hap := slots_apart hF hc
  have hN : N = rs.length := hr2
  have ha := (hR.2.2.2.1 a _ hs).1
  have hend : ∀ H' : Heap, H'[a]? = some (cell.setSlot f.slot v) → H'.size = H.size → (∀ q, q ≠ a → H'[q]? = H[q]?) → Wx X H' (locs ++ [⟨a, f.slot⟩]) k n (F0 (xm X) (pc + 3) ls S) := by
    intro H' e1 e2 e3
    rw [hsl] at e1
    refine kk H H' _ ls hR (fun q h => ?_) hl e2 e3 ⟨_, e1, q2, q3, t_set q4 (hN ▸ hap) (hN ▸ hk) v⟩
    rcases List.mem_append.mp h with h | h
    · exact hq q h
    · rw [List.mem_singleton.mp h]; exact ha
  have hlay := hF.ts _ (hin _ (u_in_lay hk))
  rcases hfin with hfin | ⟨hfin, hini, T2, N2, hc2⟩
  · unfold u_lay at hlay
    rw [if_neg (by rw [hT, hfin]; exact fun h => by cases h)] at hlay
    have h6 := u_store (v := v) hfc hkC hkind hlay hi (by rw [hT]; exact hty) hnw hft
    exact W.putK hF.ex hF.co (f := f) ⟨hF.ow, hF.ts _ hlk, ⟨_, _, _, hi'⟩, hst⟩ (by rw [q2]; exact h6) q1 q3 (by rw [hsl]; exact k2_hasslot (q4 kf (hN ▸ hk))) rfl rfl hd hend
  · cases hc.symm.trans hc2
    unfold u_lay at hlay
    rw [if_pos (by rw [hT, hfin])] at hlay
    have h6 := u_fits (v := v) hfc hkC hkind (Or.inr hlay) hi (by rw [hT]; exact hty) hnw hft
    have hcf : (xm X).cls = cf := by
      obtain ⟨_, _, c', _, _, _, -, -, hf', -, -, -, hown2, -⟩ := Cond.laysFinal_spec hlay
      have e1 : c' = cf := by have := hi.symm.trans hf'; simp at this; exact this.1.symm
      rw [hT] at hown2
      rw [← e1]; exact Option.some.inj (hF.ow.symm.trans hown2)
    exact W.putFinK hF.ex hF.co hF.ow (hF.ts _ hlk) hi' hst hcf hini (by rw [q2]; exact h6) q1 q3 (by rw [hsl]; exact k2_hasslot (q4 kf (hN ▸ hk))) rfl rfl hd hend
theorem rel_set {H H' : Heap} {a : Nat} {x : Sh} {τ' : Tau} {σ' : Sig} (hR : Rel K (τ, σ, nx) H) (hs : τ a = some x) (hz : H'.size = H.size) (ho : ∀ q, q ≠ a → H'[q]? = H[q]?) (hτ : ∀ b, b ≠ a → τ' b = τ b) (hσ : ∀ b, b ≠ a → σ' b = σ b) (hc : cellOk K τ' σ' H' a) (hx : ∃ y, τ' a = some y) : Rel K (τ', σ', nx) H' := by
  obtain ⟨h1, h2, h3, h4, h5⟩ := hR
  have ha := h4 a x hs
  refine ⟨hz.trans h1, h2, fun b => ?_, fun b y hb => ?_, fun q hq => ?_⟩
  · by_cases e : b = a
    · subst e; exact hc
    · exact ((h3 b).kept (ho b e) (hσ b e)).tau (hτ b e)
  · by_cases e : b = a
    · subst e; exact ha
    · exact h4 b y ((hτ b e).symm.trans hb)
  · rw [ho q (by have := ha.1; omega)]; exact h5 q hq
theorem g_putI (hF : Fx K X cc nL own D mc ms) {idx ci kf a : Nat} (hd : decode cc pc = .ok (.putfield idx, 3)) (hf : FL own idx ci kf desc fin) (hfin : fin = false ∨ (fin = true ∧ (xh X).name = "<init>" ∧ ∃ T N, vwCl[ci]? = some (own, T, N))) {rs : List (Option (Option Nat))} (hs : τ a = some (.inl (ci, rs))) (hr : rs[kf]? = some none) {v : Int32} (hty : desc = "I" ∨ (desc = "Z" ∧ (v = 0 ∨ v = 1)))
    (kk : G K X nL k n (pc + 3) L S (τ, wr σ a kf v, nx)) : G K X nL k n pc L (.int v :: .ref a :: S) (τ, σ, nx) := by
  have hend : ∀ (H H' : Heap) (locs : List Loc) (ls : Array Slot), Rel K (τ, σ, nx) H → (∀ q ∈ locs, kB K ≤ q.base) → lh ls nL L → H'.size = H.size → (∀ q, q ≠ a → H'[q]? = H[q]?) → t_OB a (kC K ci) rs.length (kD K ci) H' (updV (fun k => valOf σ a k (rs.getD k none)) kf (.int v)) → Wx X H' locs k n (F0 (xm X) (pc + 3) ls S) := by
    intro H H' locs ls hR hq hl hz ho hob
    refine kk H' locs ls (rel_set (τ' := τ) (σ' := wr σ a kf v) hR hs hz ho (fun _ _ => rfl) (fun b hb => wr_row hb) ?_ ⟨_, hs⟩) hq hl
    unfold cellOk
    simp only [hs]
    refine ⟨(hR.obj hs).1, hob.to (fun j hj => ?_)⟩
    by_cases e : j = kf
    · subst e; simp [updV, valOf, List.getD_eq_getElem?_getD, hr, wr]
    · simp only [updV, e, if_false, valOf]; split <;> simp [wr, e]
  rcases hty with rfl | ⟨rfl, hv⟩
  · exact g_put0 hF hd hf hfin hs (ty := .int) rfl rfl rfl hend
  · refine g_put0 hF hd hf hfin hs (ty := .boolean) rfl ?_ ?_ hend
    · rcases hv with rfl | rfl <;> rfl
    · rcases hv with rfl | rfl <;> rfl
theorem g_putR (hF : Fx K X cc nL own D mc ms) {idx ci kf a : Nat} (hd : decode cc pc = .ok (.putfield idx, 3)) (hf : FL own idx ci kf desc fin) (hfin : fin = false ∨ (fin = true ∧ (xh X).name = "<init>" ∧ ∃ T N, vwCl[ci]? = some (own, T, N))) {rs : List (Option (Option Nat))} (hs : τ a = some (.inl (ci, rs))) {r0 r : Option Nat} (hr : rs[kf]? = some (some r0)) (hty : (∃ C, parseFieldDescriptor desc = some (.object C)) ∨ ∃ t, parseFieldDescriptor desc = some (.array t))
    (kk : G K X nL k n (pc + 3) L S (setR τ a kf r, σ, nx)) : G K X nL k n pc L (va_rf r :: .ref a :: S) (τ, σ, nx) := by
  have hkl : kf < rs.length := (List.getElem?_eq_some_iff.mp hr).1
  have hta : setR τ a kf r a = some (.inl (ci, rs.set kf (some r))) := by simp [setR, hs]
  have hend : ∀ (H H' : Heap) (locs : List Loc) (ls : Array Slot), Rel K (τ, σ, nx) H → (∀ q ∈ locs, kB K ≤ q.base) → lh ls nL L → H'.size = H.size → (∀ q, q ≠ a → H'[q]? = H[q]?) → t_OB a (kC K ci) rs.length (kD K ci) H' (updV (fun k => valOf σ a k (rs.getD k none)) kf (va_rf r)) → Wx X H' locs k n (F0 (xm X) (pc + 3) ls S) := by
    intro H H' locs ls hR hq hl hz ho hob
    refine kk H' locs ls (rel_set (τ' := setR τ a kf r) (σ' := σ) hR hs hz ho (fun b hb => by simp [setR, hb]) (fun b hb => rfl) ?_ ⟨_, hta⟩) hq hl
    unfold cellOk
    simp only [hta]
    refine ⟨by rw [List.length_set]; exact (hR.obj hs).1, ?_⟩
    rw [List.length_set]
    refine hob.to (fun j hj => ?_)
    by_cases e : j = kf
    · subst e; simp [updV, valOf, List.getD_eq_getElem?_getD, hkl]
    · simp only [updV, e, if_false, List.getD_eq_getElem?_getD, List.getElem?_set_ne (Ne.symm e)]
  rcases hty with ⟨C, hC⟩ | ⟨t, ht⟩
  · refine g_put0 hF hd hf hfin hs hC ?_ ?_ hend
    · cases r <;> rfl
    · cases r <;> rfl
  · refine g_put0 hF hd hf hfin hs ht ?_ ?_ hend
    · cases r <;> rfl
    · cases r <;> rfl
/-- a place of an int array -/
def ld (N : Nat) (f : Nat → Int32) (i : Int32) : Option Int32 := if i < 0 ∨ N ≤ i.toNatClampNeg then none else some (f i.toNatClampNeg)
theorem ld_some {N : Nat} {f : Nat → Int32} {i v : Int32} (h : ld N f i = some v) : ¬ (i < 0 ∨ N ≤ i.toNatClampNeg) ∧ v = f i.toNatClampNeg := by
  unfold ld at h
  split at h
  · cases h
  · next hc => cases h; exact ⟨hc, rfl⟩
theorem g_ild (hF : Fx K X cc nL own D mc ms) {a N : Nat} {i v : Int32} (hd : decode cc pc = .ok (.iaload, 1)) (hs : τ a = some (.inr (.inl N))) (hv : ld N (σ a) i = some v) (kk : G K X nL k n (pc + 1) L (.int v :: S) (τ, σ, nx)) : G K X nL k n pc L (.int i :: .ref a :: S) (τ, σ, nx) := by
  intro H locs ls hR hq hl
  obtain ⟨hin, rfl⟩ := ld_some hv
  have hlt : i.toNatClampNeg < N := Nat.not_le.mp fun q => hin (Or.inr q)
  exact W.iald (v := .int (σ a i.toNatClampNeg)) hF.ex hF.co (hR.arr hs) ((hF.kx.1.2 0 _ rfl).1 N (fun j => .int (σ a j))) (fun q => by cases q) (by rw [arrV_size]; exact hin) (by rw [arrV_read _ _ hlt]) rfl rfl hd (kk H locs ls hR hq hl)
/-- a store into an int array of N places -/
def st (N : Nat) (σ : Sig) (a : Nat) (i v : Int32) : Option Sig := if i < 0 ∨ N ≤ i.toNatClampNeg then none else some (wr σ a i.toNatClampNeg v)
theorem st_some {N : Nat} {σ σ' : Sig} {a : Nat} {i v : Int32} (h : st N σ a i v = some σ') : ¬ (i < 0 ∨ N ≤ i.toNatClampNeg) ∧ σ' = wr σ a i.toNatClampNeg v := by
  unfold st at h
  split at h
  · cases h
  · next hc => cases h; exact ⟨hc, rfl⟩
theorem g_ist (hF : Fx K X cc nL own D mc ms) {a N : Nat} {i v : Int32} {σ' : Sig} (hd : decode cc pc = .ok (.iastore, 1)) (hs : τ a = some (.inr (.inl N))) (hv : st N σ a i v = some σ') (kk : G K X nL k n (pc + 1) L S (τ, σ', nx)) : G K X nL k n pc L (.int v :: .int i :: .ref a :: S) (τ, σ, nx) := by
  intro H locs ls hR hq hl
  obtain ⟨hin, rfl⟩ := st_some hv
  have hlt : i.toNatClampNeg < N := Nat.not_le.mp fun q => hin (Or.inr q)
  have ha := (hR.2.2.2.1 a _ hs).1
  refine W.iast hF.ex hF.co (hR.arr hs) ((hF.kx.1.2 0 _ rfl).1 N (fun j => .int (σ a j))) (fun q => by cases q) (by rw [arrV_size]; exact hin) rfl rfl hd fun H1 e z oq => ?_
  refine kk H1 _ ls (rel_set (τ' := τ) (σ' := wr σ a i.toNatClampNeg v) hR hs z oq (fun _ _ => rfl) (fun b hb => wr_row hb) ?_ ⟨_, hs⟩) (fun q h => ?_) hl
  · unfold cellOk
    simp only [hs]
    rw [e, arrV_store]
    congr 2
    funext q
    by_cases hqe : q = i.toNatClampNeg
    · subst hqe; simp [updV, wr]
    · simp [updV, wr, hqe]
  · rcases List.mem_append.mp h with h | h
    · exact hq q h
    · rw [List.mem_singleton.mp h]; exact ha
theorem g_alen (hF : Fx K X cc nL own D mc ms) {a N : Nat} {v : Int32} (hd : decode cc pc = .ok (.arraylength, 1)) (hs : τ a = some (.inr (.inl N))) (hv : Int32.ofNat N = v) (kk : G K X nL k n (pc + 1) L (.int v :: S) (τ, σ, nx)) : G K X nL k n pc L (.ref a :: S) (τ, σ, nx) := by
  intro H locs ls hR hq hl
  exact W.alen (n := v) hF.ex hF.co (hR.arr hs) ((hF.kx.1.2 0 _ rfl).1 N (fun j => .int (σ a j))) (by rw [arrV_size]; exact hv) rfl rfl hd (kk H locs ls hR hq hl)
end HP
end
section
/-! BRANCHES, RETURNS, DIVISIONS, CONSTANTS OF THE POOL, SWITCHES. -/
section CT
variable {K : Kt} {X : Cx} {cc : ByteArray} {nL : Nat} {own : String} {D mc ms k n pc : Nat} {L : Lo} {S : List Value} {h : Hp}
theorem g_if_eq (hF : Fx K X cc nL own D mc ms) {x : Int32} {off : Int} {tgt : Nat} (hd : decode cc pc = .ok (.ifCond .eq off, 3)) (ht : (pc : Int) + off = (tgt : Int)) (kt : x = 0 → G K X nL k n tgt L S h) (kf : ¬ x = 0 → G K X nL k n (pc + 3) L S h) : G K X nL k n pc L (.int x :: S) h :=
  fun H locs ls hR hq hl => lv_if_eq hF.ex hF.co hd ht (fun c => kt c H locs ls hR hq hl) (fun c => kf c H locs ls hR hq hl)
theorem g_icmp_eq (hF : Fx K X cc nL own D mc ms) {x y : Int32} {off : Int} {tgt : Nat} (hd : decode cc pc = .ok (.if_icmp .eq off, 3)) (ht : (pc : Int) + off = (tgt : Int)) (kt : x = y → G K X nL k n tgt L S h) (kf : ¬ x = y → G K X nL k n (pc + 3) L S h) : G K X nL k n pc L (.int y :: .int x :: S) h :=
  fun H locs ls hR hq hl => lv_icmp_eq hF.ex hF.co hd ht (fun c => kt c H locs ls hR hq hl) (fun c => kf c H locs ls hR hq hl)
theorem g_if_ne (hF : Fx K X cc nL own D mc ms) {x : Int32} {off : Int} {tgt : Nat} (hd : decode cc pc = .ok (.ifCond .ne off, 3)) (ht : (pc : Int) + off = (tgt : Int)) (kt : ¬ x = 0 → G K X nL k n tgt L S h) (kf : x = 0 → G K X nL k n (pc + 3) L S h) : G K X nL k n pc L (.int x :: S) h :=
  fun H locs ls hR hq hl => lv_if_ne hF.ex hF.co hd ht (fun c => kt c H locs ls hR hq hl) (fun c => kf c H locs ls hR hq hl)
theorem g_icmp_ne (hF : Fx K X cc nL own D mc ms) {x y : Int32} {off : Int} {tgt : Nat} (hd : decode cc pc = .ok (.if_icmp .ne off, 3)) (ht : (pc : Int) + off = (tgt : Int)) (kt : ¬ x = y → G K X nL k n tgt L S h) (kf : x = y → G K X nL k n (pc + 3) L S h) : G K X nL k n pc L (.int y :: .int x :: S) h :=
  fun H locs ls hR hq hl => lv_icmp_ne hF.ex hF.co hd ht (fun c => kt c H locs ls hR hq hl) (fun c => kf c H locs ls hR hq hl)
theorem g_if_lt (hF : Fx K X cc nL own D mc ms) {x : Int32} {off : Int} {tgt : Nat} (hd : decode cc pc = .ok (.ifCond .lt off, 3)) (ht : (pc : Int) + off = (tgt : Int)) (kt : x < 0 → G K X nL k n tgt L S h) (kf : ¬ x < 0 → G K X nL k n (pc + 3) L S h) : G K X nL k n pc L (.int x :: S) h :=
  fun H locs ls hR hq hl => lv_if_lt hF.ex hF.co hd ht (fun c => kt c H locs ls hR hq hl) (fun c => kf c H locs ls hR hq hl)
theorem g_icmp_lt (hF : Fx K X cc nL own D mc ms) {x y : Int32} {off : Int} {tgt : Nat} (hd : decode cc pc = .ok (.if_icmp .lt off, 3)) (ht : (pc : Int) + off = (tgt : Int)) (kt : x < y → G K X nL k n tgt L S h) (kf : ¬ x < y → G K X nL k n (pc + 3) L S h) : G K X nL k n pc L (.int y :: .int x :: S) h :=
  fun H locs ls hR hq hl => lv_icmp_lt hF.ex hF.co hd ht (fun c => kt c H locs ls hR hq hl) (fun c => kf c H locs ls hR hq hl)
theorem g_if_ge (hF : Fx K X cc nL own D mc ms) {x : Int32} {off : Int} {tgt : Nat} (hd : decode cc pc = .ok (.ifCond .ge off, 3)) (ht : (pc : Int) + off = (tgt : Int)) (kt : 0 ≤ x → G K X nL k n tgt L S h) (kf : ¬ 0 ≤ x → G K X nL k n (pc + 3) L S h) : G K X nL k n pc L (.int x :: S) h :=
  fun H locs ls hR hq hl => lv_if_ge hF.ex hF.co hd ht (fun c => kt c H locs ls hR hq hl) (fun c => kf c H locs ls hR hq hl)
theorem g_icmp_ge (hF : Fx K X cc nL own D mc ms) {x y : Int32} {off : Int} {tgt : Nat} (hd : decode cc pc = .ok (.if_icmp .ge off, 3)) (ht : (pc : Int) + off = (tgt : Int)) (kt : y ≤ x → G K X nL k n tgt L S h) (kf : ¬ y ≤ x → G K X nL k n (pc + 3) L S h) : G K X nL k n pc L (.int y :: .int x :: S) h :=
  fun H locs ls hR hq hl => lv_icmp_ge hF.ex hF.co hd ht (fun c => kt c H locs ls hR hq hl) (fun c => kf c H locs ls hR hq hl)
theorem g_if_gt (hF : Fx K X cc nL own D mc ms) {x : Int32} {off : Int} {tgt : Nat} (hd : decode cc pc = .ok (.ifCond .gt off, 3)) (ht : (pc : Int) + off = (tgt : Int)) (kt : 0 < x → G K X nL k n tgt L S h) (kf : ¬ 0 < x → G K X nL k n (pc + 3) L S h) : G K X nL k n pc L (.int x :: S) h :=
  fun H locs ls hR hq hl => lv_if_gt hF.ex hF.co hd ht (fun c => kt c H locs ls hR hq hl) (fun c => kf c H locs ls hR hq hl)
theorem g_icmp_gt (hF : Fx K X cc nL own D mc ms) {x y : Int32} {off : Int} {tgt : Nat} (hd : decode cc pc = .ok (.if_icmp .gt off, 3)) (ht : (pc : Int) + off = (tgt : Int)) (kt : y < x → G K X nL k n tgt L S h) (kf : ¬ y < x → G K X nL k n (pc + 3) L S h) : G K X nL k n pc L (.int y :: .int x :: S) h :=
  fun H locs ls hR hq hl => lv_icmp_gt hF.ex hF.co hd ht (fun c => kt c H locs ls hR hq hl) (fun c => kf c H locs ls hR hq hl)
theorem g_if_le (hF : Fx K X cc nL own D mc ms) {x : Int32} {off : Int} {tgt : Nat} (hd : decode cc pc = .ok (.ifCond .le off, 3)) (ht : (pc : Int) + off = (tgt : Int)) (kt : x ≤ 0 → G K X nL k n tgt L S h) (kf : ¬ x ≤ 0 → G K X nL k n (pc + 3) L S h) : G K X nL k n pc L (.int x :: S) h :=
  fun H locs ls hR hq hl => lv_if_le hF.ex hF.co hd ht (fun c => kt c H locs ls hR hq hl) (fun c => kf c H locs ls hR hq hl)
theorem g_icmp_le (hF : Fx K X cc nL own D mc ms) {x y : Int32} {off : Int} {tgt : Nat} (hd : decode cc pc = .ok (.if_icmp .le off, 3)) (ht : (pc : Int) + off = (tgt : Int)) (kt : x ≤ y → G K X nL k n tgt L S h) (kf : ¬ x ≤ y → G K X nL k n (pc + 3) L S h) : G K X nL k n pc L (.int y :: .int x :: S) h :=
  fun H locs ls hR hq hl => lv_icmp_le hF.ex hF.co hd ht (fun c => kt c H locs ls hR hq hl) (fun c => kf c H locs ls hR hq hl)
theorem g_goto (hF : Fx K X cc nL own D mc ms) {off : Int} {tgt : Nat} (hd : decode cc pc = .ok (.goto off, 3)) (ht : (pc : Int) + off = (tgt : Int)) (kk : G K X nL k n tgt L S h) : G K X nL k n pc L S h :=
  fun H locs ls hR hq hl => lv_goto hF.ex hF.co hd ht (kk H locs ls hR hq hl)
theorem g_idiv (hF : Fx K X cc nL own D mc ms) {x y : Int32} (hd : decode cc pc = .ok (.idiv, 1)) (hne : ¬ y = 0) (kk : G K X nL k n (pc + 1) L (.int (x / y) :: S) h) : G K X nL k n pc L (.int y :: .int x :: S) h :=
  fun H locs ls hR hq hl => lv_idiv hF.ex hF.co hd hne (kk H locs ls hR hq hl)
theorem g_irem (hF : Fx K X cc nL own D mc ms) {x y : Int32} (hd : decode cc pc = .ok (.irem, 1)) (hne : ¬ y = 0) (kk : G K X nL k n (pc + 1) L (.int (x - x / y * y) :: S) h) : G K X nL k n pc L (.int y :: .int x :: S) h :=
  fun H locs ls hR hq hl => lv_irem hF.ex hF.co hd hne (kk H locs ls hR hq hl)
theorem g_ldc (hF : Fx K X cc nL own D mc ms) {idx : Nat} {v : Int32} (hd : decode cc pc = .ok (.ldc idx, 2)) (hw : Cond.constant own idx v ∈ gtb) (kk : G K X nL k n (pc + 2) L (.int v :: S) h) : G K X nL k n pc L S h :=
  fun H locs ls hR hq hl => lv_ldc hF.ex hF.co hF.ow (hF.ts _ hw) hd (kk H locs ls hR hq hl)
theorem g_ldcw (hF : Fx K X cc nL own D mc ms) {idx : Nat} {v : Int32} (hd : decode cc pc = .ok (.ldc_w idx, 3)) (hw : Cond.constant own idx v ∈ gtb) (kk : G K X nL k n (pc + 3) L (.int v :: S) h) : G K X nL k n pc L S h :=
  fun H locs ls hR hq hl => lv_ldcw hF.ex hF.co hF.ow (hF.ts _ hw) hd (kk H locs ls hR hq hl)
theorem g_ifnonnull (hF : Fx K X cc nL own D mc ms) {x : Nat} {off : Int} {tgt : Nat} (hd : decode cc pc = .ok (.ifnonnull off, 3)) (ht : (pc : Int) + off = (tgt : Int)) (kk : G K X nL k n tgt L S h) : G K X nL k n pc L (.ref x :: S) h :=
  fun H locs ls hR hq hl => lv_ifnonnull hF.ex hF.co hd ht (kk H locs ls hR hq hl)
theorem g_ifnonnullN (hF : Fx K X cc nL own D mc ms) {off : Int} (hd : decode cc pc = .ok (.ifnonnull off, 3)) (kk : G K X nL k n (pc + 3) L S h) : G K X nL k n pc L (.null :: S) h :=
  fun H locs ls hR hq hl => lv_ifnonnullN hF.ex hF.co hd (kk H locs ls hR hq hl)
theorem g_ifnull (hF : Fx K X cc nL own D mc ms) {x : Nat} {off : Int} (hd : decode cc pc = .ok (.ifnull off, 3)) (kk : G K X nL k n (pc + 3) L S h) : G K X nL k n pc L (.ref x :: S) h :=
  fun H locs ls hR hq hl => lv_ifnull hF.ex hF.co hd (kk H locs ls hR hq hl)
theorem g_ifnullN (hF : Fx K X cc nL own D mc ms) {off : Int} {tgt : Nat} (hd : decode cc pc = .ok (.ifnull off, 3)) (ht : (pc : Int) + off = (tgt : Int)) (kk : G K X nL k n tgt L S h) : G K X nL k n pc L (.null :: S) h :=
  fun H locs ls hR hq hl => lv_ifnullN hF.ex hF.co hd ht (kk H locs ls hR hq hl)
/-- more room than was used -/
theorem g_widen {k' n' : Nat} (h1 : k ≤ k') (h2 : n ≤ n') (kk : G K X nL k' n' pc L S h) : G K X nL k n pc L S h :=
  fun H locs ls hR hq hl => W.widen h1 h2 (kk H locs ls hR hq hl)
/-- locals that are not looked at any more -/
theorem g_drop {L' : Lo} (hd : ∀ (i : Nat) (v : Value), L'[i]? = some (some v) → L[i]? = some (some v)) (kk : G K X nL k n pc L' S h) : G K X nL k n pc L S h :=
  fun H locs ls hR hq hl => kk H locs ls hR hq ⟨hl.1, hl.2.1, fun i v hv => hl.2.2 i v (hd i v hv)⟩
def lsub : Lo → Lo → Bool
  | [], _ => true
  | none :: L', _ :: L => lsub L' L
  | none :: L', [] => lsub L' []
  | some _ :: _, _ => false
theorem g_iret (hF : Fx K X cc nL own D mc ms) {v : Int32} (hE : En K X (some .int) mc ms (some (.int v)) h) (hd : decode cc pc = .ok (.ireturn, 1)) (h1 : k ≤ mc) (h2 : n ≤ ms) : G K X nL k n pc L [.int v] h := by
  intro H locs ls hR hq hl
  refine W.widen h1 h2 ?_
  rw [hE.1]
  exact W.iret hF.ex hF.co hE.2 (fun t ht _ => ⟨rfl, by rw [ht]; exact hR⟩) hq hd hF.lk
theorem g_zret (hF : Fx K X cc nL own D mc ms) {v : Int32} (hE : En K X (some .boolean) mc ms (some (.int v)) h) (hv : v = 0 ∨ v = 1) (hd : decode cc pc = .ok (.ireturn, 1)) (h1 : k ≤ mc) (h2 : n ≤ ms) : G K X nL k n pc L [.int v] h := by
  intro H locs ls hR hq hl
  refine W.widen h1 h2 ?_
  rw [hE.1]
  exact W.zret hF.ex hF.co hE.2 (by rcases hv with rfl | rfl <;> rfl) (fun t ht _ => ⟨rfl, by rw [ht]; exact hR⟩) hq hd hF.lk
theorem g_vret (hF : Fx K X cc nL own D mc ms) (hE : En K X none mc ms none h) (hd : decode cc pc = .ok (.return_, 1)) (h1 : k ≤ mc) (h2 : n ≤ ms) : G K X nL k n pc L [] h := by
  intro H locs ls hR hq hl
  refine W.widen h1 h2 ?_
  rw [hE.1]
  exact W.vret hF.ex hF.co hE.2 (fun t ht _ => ⟨rfl, by rw [ht]; exact hR⟩) hq hd hF.lk
theorem g_aret (hF : Fx K X cc nL own D mc ms) {r : Option Nat} {rt : FieldType} (hE : En K X (some rt) mc ms (some (va_rf r)) h) (hrt : (∃ c, rt = .object c) ∨ ∃ t, rt = .array t) (hd : decode cc pc = .ok (.areturn, 1)) (h1 : k ≤ mc) (h2 : n ≤ ms) : G K X nL k n pc L [va_rf r] h := by
  intro H locs ls hR hq hl
  refine W.widen h1 h2 ?_
  rw [hE.1]
  exact W.aret hF.ex hF.co hE.2 hrt (by cases r; exact Or.inl rfl; exact Or.inr ⟨_, rfl⟩) (fun t ht _ => ⟨rfl, by rw [ht]; exact hR⟩) hq hd hF.lk
/-- a switch whose places are known one by one -/
theorem g_tsw (hF : Fx K X cc nL own D mc ms) {dflt lo hi : Int} {offs : Array Int} {len : Nat} {x c : Int32} {off : Int} {tgt : Nat} (hd : decode cc pc = .ok (.tableswitch dflt lo hi offs, len)) (hx : x = c) (h1 : ¬ c.toInt < lo) (h2 : ¬ hi < c.toInt) (ho : offs[(c.toInt - lo).toNat]? = some off) (ht : (pc : Int) + off = (tgt : Int)) (kk : G K X nL k n tgt L S h) : G K X nL k n pc L (.int x :: S) h := by
  subst hx
  exact fun H locs ls hR hq hl => lv_tableIn hF.ex hF.co hd h1 h2 ho ht (kk H locs ls hR hq hl)
theorem g_tswD (hF : Fx K X cc nL own D mc ms) {dflt lo hi : Int} {offs : Array Int} {len : Nat} {x : Int32} {tgt : Nat} (hd : decode cc pc = .ok (.tableswitch dflt lo hi offs, len)) (ho : x.toInt < lo ∨ hi < x.toInt) (ht : (pc : Int) + dflt = (tgt : Int)) (kk : G K X nL k n tgt L S h) : G K X nL k n pc L (.int x :: S) h :=
  fun H locs ls hR hq hl => lv_tableOut hF.ex hF.co hd ho ht (kk H locs ls hR hq hl)
/-- none of the numbers lo, lo + 1 .. : outside -/
theorem tsw_out {x : Int32} (lo : Int) : ∀ (m : Nat), (∀ j : Nat, j < m → x.toInt ≠ lo + j) → x.toInt < lo ∨ lo + m ≤ x.toInt := by
  intro m hm
  by_cases h1 : x.toInt < lo
  · exact Or.inl h1
  · refine Or.inr ?_
    by_cases h2 : lo + m ≤ x.toInt
    · exact h2
    · exact absurd (by omega) (hm (x.toInt - lo).toNat (by omega))
end CT
end
section
/-! CALLS. -/
theorem pcc_blind (K : Kt) (A : List Value) (h : Hp) : FrameBlind (Pcc K A h) := fun a U g mk q => ⟨q.1, q.2.1, Kx.same (s := U) (U := U.calling g mk a) rfl q.2.2⟩
section CA
variable {K : Kt} {X : Cx} {cc : ByteArray} {nL : Nat} {own : String} {D mc ms k n pc : Nat} {L : Lo} {S S0 : List Value} {h h1 : Hp} {τ : Tau} {σ : Sig} {nx : Nat}
variable {y : MethodName} {cc' : ByteArray} {nL' np D' mc' ms' idx : Nat} {ret' : Option FieldType} {As : List Value} {r : Option Value} {b : Nat}
theorem good_ws (hm : Cond.code y cc' nL' ret' ∈ gtb) : GoodIn gtb (Cond.code y cc' nL' ret' :: gtb) := fun w hw => by
  rcases List.mem_cons.mp hw with rfl | hw
  · exact ⟨hm, gtb_good hm⟩
  · exact ⟨hw, gtb_good hw⟩
theorem run_go {a : Array Value} {H : Heap} {locs : List Loc} {ls : Array Slot} (hr : va_Run (xp X) (xl X) (xe X) (xR X) (xs X) (xm X) (xa X) (xb X) (xh X) (xc X) H locs k n mc' ms' (F0 (xm X) pc ls S0) S (Qcc K r h1 a) (kA K)) (hq : ∀ q ∈ locs, kB K ≤ q.base) (hl : lh ls nL L) (kk : G K X nL (k + mc') (n + ms') (pc + 3) L (r.toList ++ S) h1) : Wx X H locs k n (F0 (xm X) pc ls S0) := by
  intro T hT Xs
  obtain ⟨v, st₀, t, T', Lc, h0, X', hL, e1, e2, ⟨hv, hR'⟩, st⟩ := hr T hT Xs
  cases hv
  obtain ⟨t2, a1, b1⟩ := kk T'.heap (locs ++ Lc) ls (by rw [e1]; exact hR') (fun q h => by
    rcases List.mem_append.mp h with h | h
    · exact hq q h
    · exact hL q h) hl T' rfl X'
  exact ⟨t2, st t2 a1, b1⟩
theorem roomF (hF : Fx K X cc nL own D mc ms) (hD : D' + 1 ≤ D) (hnl : nL' ≤ 45) : ({ frames := D', cells := mc', slots := ms', locals := 64 * D' } : Room).frames + 1 ≤ (xR X).frames ∧ 8 + (nL' + 11) + ({ frames := D', cells := mc', slots := ms', locals := 64 * D' } : Room).locals ≤ (xR X).locals := by
  have h1 := hF.fr; have h2 := hF.lo
  constructor
  · show D' + 1 ≤ _; omega
  · show 8 + (nL' + 11) + 64 * D' ≤ _; omega
theorem g_cV0 (hF : Fx K X cc nL own D mc ms) (hOk : OkK D' mc' ms' y cc' nL' ret' K (.ref b :: As) h r h1) (hm : MB y cc' nL' ret' np) (hv : MV y) (hlk : Cond.methodLink own idx y ∈ gtb) (hD : D' + 1 ≤ D) (hnl : nL' ≤ 45) (hd : decode cc pc = .ok (.invokevirtual idx, 3)) (hrec : ∀ H : Heap, Rel K h H → ∃ cellB : Cell, H[b]? = some cellB ∧ cellB.vm.isStatics = false ∧ (xs X).vm.findClass y.cls = some cellB.cls) (hn : As.length = np) (hst : S0 = As.reverse ++ .ref b :: S) (hS : (S.map fun v => v.category).sum ≤ 8) {k1 n1 : Nat} {S1 : List Value} (hk1 : k + mc' = k1) (hn1 : n + ms' = n1) (hc : k1 ≤ mc) (hs : n1 ≤ ms) (hS1 : r.toList ++ S = S1)
    (kk : G K X nL k1 n1 (pc + 3) L S1 h1) : G K X nL k n pc L S0 h := by
  intro H locs ls hR hq hl
  subst hk1; subst hn1; subst hS1
  have h1 := hF.ce; have h2 := hF.sl
  have hcb := callB_of (own := own) (index := idx) (R := xR X) (mc := mc') (ms := ms') (rm := { frames := D', cells := mc', slots := ms', locals := 64 * D' }) np hF.ts (good_ws hm.1) rfl rfl rfl (hF.ts _ hm.2.1) (hF.ts _ hlk) hm.2.2 (roomF hF hD hnl)
  exact run_go (va_runV (C := y.cls) (As := As) (rest := S) (b := b) ⟨hF.ex, hF.co, hF.ml, hF.ow, hF.ts⟩ (hOk (xl X)) ⟨hcb, hF.ts _ hv.1, hF.ts _ hv.2⟩ ⟨pcc_blind K _ _, hrec H hR, fun U hU hW => ⟨rfl, by rw [hU]; exact hR, Kx.warm hW hF.kx⟩⟩ rfl hn hl.1 hst (by show 2 * 0 + _ ≤ 8; omega) hd ⟨by omega, by omega⟩) hq hl kk
theorem g_cV (hF : Fx K X cc nL own D mc ms) (hOk : OkK D' mc' ms' y cc' nL' ret' K (.ref b :: As) (τ, σ, nx) r h1) (hm : MB y cc' nL' ret' np) (hv : MV y) (hlk : Cond.methodLink own idx y ∈ gtb) (hD : D' + 1 ≤ D) (hnl : nL' ≤ 45) (hd : decode cc pc = .ok (.invokevirtual idx, 3)) {ci : Nat} {rs : List (Option (Option Nat))} {T : u_T} {N : Nat} (hb : τ b = some (.inl (ci, rs))) (hcl : vwCl[ci]? = some (y.cls, T, N)) (hn : As.length = np) (hst : S0 = As.reverse ++ .ref b :: S) (hS : (S.map fun v => v.category).sum ≤ 8) {k1 n1 : Nat} {S1 : List Value} (hk1 : k + mc' = k1) (hn1 : n + ms' = n1) (hc : k1 ≤ mc) (hs : n1 ≤ ms) (hS1 : r.toList ++ S = S1)
    (kk : G K X nL k1 n1 (pc + 3) L S1 h1) : G K X nL k n pc L S0 (τ, σ, nx) := by
  exact g_cV0 hF hOk hm hv hlk hD hnl hd (fun H hR => by
    obtain ⟨-, cell, q1, q2, q3, -⟩ := hR.obj hb
    have hfc := (hF.kx.1.1 ci _ hcl).2.1
    exact ⟨cell, q1, by rw [q3]; rfl, by rw [q2]; exact hfc⟩) hn hst hS hk1 hn1 hc hs hS1 kk
theorem g_cS (hF : Fx K X cc nL own D mc ms) (hOk : OkK D' mc' ms' y cc' nL' ret' K As h r h1) (hm : MB y cc' nL' ret' np) (hv : MS y) (hlk : Cond.methodLink own idx y ∈ gtb) (hD : D' + 1 ≤ D) (hnl : nL' ≤ 45) (hd : decode cc pc = .ok (.invokestatic idx, 3)) (hn : As.length = np) (hst : S0 = As.reverse ++ S) (hS : (S.map fun v => v.category).sum ≤ 8) {k1 n1 : Nat} {S1 : List Value} (hk1 : k + mc' = k1) (hn1 : n + ms' = n1) (hc : k1 ≤ mc) (hs : n1 ≤ ms) (hS1 : r.toList ++ S = S1)
    (kk : G K X nL k1 n1 (pc + 3) L S1 h1) : G K X nL k n pc L S0 h := by
  intro H locs ls hR hq hl
  subst hk1; subst hn1; subst hS1
  have h1 := hF.ce; have h2 := hF.sl
  have hcb := callB_of (own := own) (index := idx) (R := xR X) (mc := mc') (ms := ms') (rm := { frames := D', cells := mc', slots := ms', locals := 64 * D' }) np hF.ts (good_ws hm.1) rfl rfl rfl (hF.ts _ hm.2.1) (hF.ts _ hlk) hm.2.2 (roomF hF hD hnl)
  exact run_go (va_runS (As := As) (rest := S) ⟨hF.ex, hF.co, hF.ml, hF.ow, hF.ts⟩ (hOk (xl X)) ⟨hcb, hF.ts _ hv⟩ ⟨pcc_blind K _ _, fun U hU hW => ⟨rfl, by rw [hU]; exact hR, Kx.warm hW hF.kx⟩⟩ rfl hn hl.1 hst (by show 2 * 0 + _ ≤ 8; omega) hd ⟨by omega, by omega⟩) hq hl kk
theorem g_cI (hF : Fx K X cc nL own D mc ms) (hOk : OkK D' mc' ms' y cc' nL' none K (.ref b :: As) h r h1) (hm : MB y cc' nL' none np) (hv : MI y) (hlk : Cond.methodLink own idx y ∈ gtb) (hD : D' + 1 ≤ D) (hnl : nL' ≤ 45) (hd : decode cc pc = .ok (.invokespecial idx, 3)) (hn : As.length = np) (hst : S0 = As.reverse ++ .ref b :: S) (hS : (S.map fun v => v.category).sum ≤ 8) {k1 n1 : Nat} {S1 : List Value} (hk1 : k + mc' = k1) (hn1 : n + ms' = n1) (hc : k1 ≤ mc) (hs : n1 ≤ ms) (hS1 : r.toList ++ S = S1)
    (kk : G K X nL k1 n1 (pc + 3) L S1 h1) : G K X nL k n pc L S0 h := by
  intro H locs ls hR hq hl
  subst hk1; subst hn1; subst hS1
  have h1 := hF.ce; have h2 := hF.sl
  have hcb := callB_of (own := own) (index := idx) (R := xR X) (mc := mc') (ms := ms') (rm := { frames := D', cells := mc', slots := ms', locals := 64 * D' }) np hF.ts (good_ws hm.1) rfl rfl rfl (hF.ts _ hm.2.1) (hF.ts _ hlk) hm.2.2 (roomF hF hD hnl)
  exact run_go (va_runI (As := As) (rest := S) (b := b) ⟨hF.ex, hF.co, hF.ml, hF.ow, hF.ts⟩ (hOk (xl X)) ⟨hcb, hv.1, hF.ts _ hv.2⟩ ⟨pcc_blind K _ _, fun U hU hW => ⟨rfl, by rw [hU]; exact hR, Kx.warm hW hF.kx⟩⟩ rfl hn hl.1 hst (by show 2 * 0 + _ ≤ 8; omega) hd ⟨by omega, by omega⟩) hq hl kk
theorem g_cSN (hF : Fx K X cc nL own D mc ms) (hOk : OkK D' mc' ms' y cc' nL' ret' K As h r h1) (hm : MB y cc' nL' ret' np) (hv : MS y) (hlk : NL own idx y) (hD : D' + 1 ≤ D) (hnl : nL' ≤ 45) (hd : decode cc pc = .ok (.invokestatic idx, 3)) (hn : As.length = np) (hst : S0 = As.reverse ++ S) (hS : (S.map fun v => v.category).sum ≤ 8) {k1 n1 : Nat} {S1 : List Value} (hk1 : k + mc' = k1) (hn1 : n + ms' = n1) (hc : k1 ≤ mc) (hs : n1 ≤ ms) (hS1 : r.toList ++ S = S1)
    (kk : G K X nL k1 n1 (pc + 3) L S1 h1) : G K X nL k n pc L S0 h := by
  intro H locs ls hR hq hl
  subst hk1; subst hn1; subst hS1
  have h1 := hF.ce; have h2 := hF.sl
  have hcb := va_cnB (own := own) (index := idx) (R := xR X) (mc := mc') (ms := ms') (rm := { frames := D', cells := mc', slots := ms', locals := 64 * D' }) np hF.ts (good_ws hm.1) rfl rfl rfl (hF.kx.2.1 _ hlk rfl) (hF.ts _ hm.2.1) hm.2.2 (roomF hF hD hnl)
  exact run_go (va_runSN (As := As) (rest := S) ⟨hF.ex, hF.co, hF.ml, hF.ow, hF.ts⟩ (hOk (xl X)) ⟨hcb, hF.ts _ hv, trivial⟩ ⟨pcc_blind K _ _, fun U hU hW => ⟨rfl, by rw [hU]; exact hR, Kx.warm hW hF.kx⟩⟩ rfl hn hl.1 hst (by show 2 * 0 + _ ≤ 8; omega) hd ⟨by omega, by omega⟩) hq hl kk
theorem g_cIN (hF : Fx K X cc nL own D mc ms) (hOk : OkK D' mc' ms' y cc' nL' none K (.ref b :: As) h r h1) (hm : MB y cc' nL' none np) (hv : MI y) (hlk : NL own idx y) (hD : D' + 1 ≤ D) (hnl : nL' ≤ 45) (hd : decode cc pc = .ok (.invokespecial idx, 3)) (hn : As.length = np) (hst : S0 = As.reverse ++ .ref b :: S) (hS : (S.map fun v => v.category).sum ≤ 8) {k1 n1 : Nat} {S1 : List Value} (hk1 : k + mc' = k1) (hn1 : n + ms' = n1) (hc : k1 ≤ mc) (hs : n1 ≤ ms) (hS1 : r.toList ++ S = S1)
    (kk : G K X nL k1 n1 (pc + 3) L S1 h1) : G K X nL k n pc L S0 h := by
  intro H locs ls hR hq hl
  subst hk1; subst hn1; subst hS1
  have h1 := hF.ce; have h2 := hF.sl
  have hcb := va_cnB (own := own) (index := idx) (R := xR X) (mc := mc') (ms := ms') (rm := { frames := D', cells := mc', slots := ms', locals := 64 * D' }) np hF.ts (good_ws hm.1) rfl rfl rfl (hF.kx.2.1 _ hlk rfl) (hF.ts _ hm.2.1) hm.2.2 (roomF hF hD hnl)
  exact run_go (va_runIN (As := As) (rest := S) (b := b) ⟨hF.ex, hF.co, hF.ml, hF.ow, hF.ts⟩ (hOk (xl X)) ⟨hcb, hv.1, hF.ts _ hv.2⟩ ⟨pcc_blind K _ _, fun U hU hW => ⟨rfl, by rw [hU]; exact hR, Kx.warm hW hF.kx⟩⟩ rfl hn hl.1 hst (by show 2 * 0 + _ ≤ 8; omega) hd ⟨by omega, by omega⟩) hq hl kk
theorem oi_m : Cond.instanceMethod Lib.objectInit ∈ gtb ∧ Cond.code Lib.objectInit ⟨#[0xb1]⟩ 1 none ∈ gtb := by decide +kernel
theorem g_oi (hF : Fx K X cc nL own D mc ms) {a : Nat} (hlk : Cond.methodLink own idx Lib.objectInit ∈ gtb) (hd : decode cc pc = .ok (.invokespecial idx, 3)) (hD : 1 ≤ D) (hS : (S.map fun v => v.category).sum ≤ 8) (kk : G K X nL k n (pc + 3) L S h) : G K X nL k n pc L (.ref a :: S) h := by
  intro H locs ls hR hq hl
  have h1 := hF.fr; have h2 := hF.lo
  exact W.objInit hF.ex hF.co hF.ow (hF.ts _ hlk) (hF.ts _ oi_m.1) (hF.ts _ oi_m.2) rfl (hl.1.trans hF.ml.symm) rfl hd (by omega) (by show 2 * 0 + _ + 12 ≤ _; omega) (kk H locs ls hR hq hl)
end CA
end
section
/-! NEW CELLS, ARRAYS OF REFERENCES, THE COPY, STATICS. -/
def al (τ : Tau) (nx : Nat) (x : Sh) : Tau := fun b => if b = nx then some x else τ b
def zr (σ : Sig) (nx : Nat) : Sig := fun b j => if b = nx then 0 else σ b j
/-- the shape of a new object: int fields, references (none yet) -/
def rs0 (ty : Nat → FieldType) (N : Nat) : List (Option (Option Nat)) := (List.range N).map fun j => match defaultValue (ty j) with | .int _ => none | _ => some none
section AL
variable {K : Kt} {X : Cx} {cc : ByteArray} {nL : Nat} {own : String} {D mc ms k n pc : Nat} {L : Lo} {S : List Value} {τ : Tau} {σ : Sig} {nx : Nat}
theorem rel_new {H H' : Heap} {x : Sh} (hR : Rel K (τ, σ, nx) H) (hz : H'.size = nx + 1) (ho : ∀ q, q < nx → H'[q]? = H[q]?) (hc : cellOk K (al τ nx x) (zr σ nx) H' nx) : Rel K (al τ nx x, zr σ nx, nx + 1) H' := by
  obtain ⟨h1, h2, h3, h4, h5⟩ := hR
  refine ⟨hz, Nat.le_succ_of_le h2, fun b => ?_, fun b y hb => ?_, fun q hq => ?_⟩
  · by_cases e : b = nx
    · subst e; exact hc
    · have ht : al τ nx x b = τ b := by simp [al, e]
      cases hτ : τ b with
      | none => unfold cellOk; simp [ht, hτ]
      | some y =>
        have hlt := (h4 b y hτ).2
        exact ((h3 b).kept (ho b hlt) (by funext j; simp [zr, e])).tau ht
  · by_cases e : b = nx
    · subst e; exact ⟨h2, Nat.lt_succ_self _⟩
    · have hb' : τ b = some y := by have : al τ nx x b = some y := hb; simpa [al, e] using this
      have := h4 b y hb'
      exact ⟨this.1, Nat.lt_succ_of_lt this.2⟩
  · rw [ho q (Nat.lt_of_lt_of_le hq h2)]; exact h5 q hq
theorem g_new (hF : Fx K X cc nL own D mc ms) {idx ci N : Nat} {C : String} {T : u_T} (ty : Nat → FieldType) (hd : decode cc pc = .ok (.new idx, 3)) (hcl : vwCl[ci]? = some (C, T, N)) (hty : ∀ j, j < N → parseFieldDescriptor (T j).2.2.1 = some (ty j)) (hck : Cond.classLink own idx C ∈ gtb) (hit : Cond.instantiable C N ∈ gtb) (hin : Cond.initialized C ∈ gtb) {rs : List (Option (Option Nat))} (hrs : rs.length = N) (hdv : ∀ j, j < N → defaultValue (ty j) = (match rs.getD j none with | none => .int 0 | some x => va_rf x)) (hc : k + 1 ≤ mc) (hs : n + N ≤ ms)
    (kk : G K X nL (k + 1) (n + N) (pc + 3) L (.ref nx :: S) (al τ nx (.inl (ci, rs)), zr σ nx, nx + 1)) : G K X nL k n pc L S (τ, σ, nx) := by
  intro H locs ls hR hq hl
  have h1 := hF.ce; have h2 := hF.sl
  have hin2 : ∀ w ∈ u_ws C T N, w ∈ gtb := (clsOk ci _ hcl).1
  have hkn : u_Kn (xs X) C T N (kC K ci) (kD K ci) := hF.kx.1.1 ci _ hcl
  have hsz : H.size = nx := hR.1
  refine W.newcK (g := F0 (xm X) pc ls S) hF.ex hF.co hF.ow (hF.ts _ hck) (hF.ts _ hit) (hF.ts _ hin) rfl hd (by omega) (by omega) hkn.2.1 hsz fun H1 kC hkC e1 z1 o1 => ?_
  refine kk H1 locs ls (rel_new hR z1 o1 ?_) hq hl
  unfold cellOk
  have e : al τ nx (.inl (ci, rs)) nx = some (.inl (ci, rs)) := by simp [al]
  simp only [e]
  refine ⟨⟨_, hcl, hrs.symm⟩, ?_⟩
  rw [hrs]
  refine (u_born ty hF.ts hin2 hkn hkC e1 hty).to (fun j hj => ?_)
  rw [hdv j hj]
  simp only [valOf]
  split <;> simp_all [zr]
theorem g_newI (hF : Fx K X cc nL own D mc ms) {i : Int32} {N M : Nat} (hd : decode cc pc = .ok (.newarray .int, 2)) (hac : Cond.arrayClass .int ∈ gtb) (hi : ¬ i < 0) (hN : i.toNatClampNeg = N) (hM : N ≤ M) (hb : M ≤ 100000) (hc : k + 1 ≤ mc) (hs : n + M ≤ ms)
    (kk : G K X nL (k + 1) (n + M) (pc + 2) L (.ref nx :: S) (al τ nx (.inr (.inl N)), zr σ nx, nx + 1)) : G K X nL k n pc L (.int i :: S) (τ, σ, nx) := by
  intro H locs ls hR hq hl
  have h1 := hF.ce; have h2 := hF.sl
  have hsz : H.size = nx := hR.1
  refine va_newaK (g := F0 (xm X) pc ls (.int i :: S)) (atype := .int) hF.ex hF.co (hF.ts _ hac) rfl hd rfl hi hN (by show N * 4 ≤ _; omega) (by omega) (by omega) hsz fun H1 cA e1 z1 o1 hAr hNm => ?_
  have hcA : cA = kI K := by
    have h3 : (xs X).vm.findClass ("[" ++ FieldType.int.toString) = some (kI K) := (hF.kx.1.2 0 _ rfl).2
    exact Option.some.inj (hNm.symm.trans h3)
  refine W.widen (Nat.le_refl _) (show n + N ≤ n + M by omega) ?_
  refine kk H1 locs ls (rel_new hR z1 o1 ?_) hq hl
  unfold cellOk
  have e : al τ nx (.inr (.inl N)) nx = some (.inr (.inl N)) := by simp [al]
  simp only [e]
  rw [e1, hcA]
  congr 2
  funext j
  simp [zr, defaultValue, newarray.typeOf]
theorem g_newR (hF : Fx K X cc nL own D mc ms) {idx ci tj N : Nat} {i : Int32} {C : String} (hd : decode cc pc = .ok (.anewarray idx, 3)) (hck : Cond.classLink own idx C ∈ gtb) (hov : va_AO C (xs X)) (htk : (tysK K)[tj]? = some (kR K ci, .object C)) (hi : ¬ i < 0) (hN : i.toNatClampNeg = N) (hb : N ≤ 100000) (hc : k + 1 ≤ mc) (hs : n + N ≤ ms)
    (kk : G K X nL (k + 1) (n + N) (pc + 3) L (.ref nx :: S) (al τ nx (.inr (.inr (ci, N, fun _ => none))), zr σ nx, nx + 1)) : G K X nL k n pc L (.int i :: S) (τ, σ, nx) := by
  intro H locs ls hR hq hl
  subst hN
  have h1 := hF.ce; have h2 := hF.sl
  have hsz : H.size = nx := hR.1
  refine W.anew (g := F0 (xm X) pc ls (.int i :: S)) hF.ex hF.co hF.ow (hF.ts _ hck) hov.use rfl hd rfl hi (by omega) (by omega) (by omega) fun cA kA comp g1 g2 g3 g4 => ?_
  have hcA : cA = kR K ci := by
    obtain ⟨_, _, _, _, _, h4⟩ := (hF.kx.1.2 tj _ htk).2
    exact Option.some.inj (g1.symm.trans h4)
  subst hsz
  refine kk _ locs ls (rel_new hR (by simp) (fun q hlt => by rw [Array.getElem?_push, if_neg (by omega)]) ?_) hq hl
  unfold cellOk
  have e : al τ H.size (.inr (.inr (ci, i.toNatClampNeg, fun _ => none))) H.size = some (.inr (.inr (ci, i.toNatClampNeg, fun _ => none))) := by simp [al]
  simp only [e]
  rw [Array.getElem?_push, if_pos rfl, arrV_new, hcA]
  rfl
/-- a place of an array of references -/
def ldr (N : Nat) (f : Nat → Option Nat) (i : Int32) : Option (Option Nat) := if i < 0 ∨ N ≤ i.toNatClampNeg then none else some (f i.toNatClampNeg)
theorem ldr_some {N : Nat} {f : Nat → Option Nat} {i : Int32} {v : Option Nat} (h : ldr N f i = some v) : ¬ (i < 0 ∨ N ≤ i.toNatClampNeg) ∧ v = f i.toNatClampNeg := by
  unfold ldr at h
  split at h
  · cases h
  · next hc => cases h; exact ⟨hc, rfl⟩
theorem g_rld (hF : Fx K X cc nL own D mc ms) {a ci N tj : Nat} {C : String} {f : Nat → Option Nat} {i : Int32} {v : Option Nat} (hd : decode cc pc = .ok (.aaload, 1)) (hs : τ a = some (.inr (.inr (ci, N, f)))) (htk : (tysK K)[tj]? = some (kR K ci, .object C)) (hv : ldr N f i = some v) (kk : G K X nL k n (pc + 1) L (va_rf v :: S) (τ, σ, nx)) : G K X nL k n pc L (.int i :: .ref a :: S) (τ, σ, nx) := by
  intro H locs ls hR hq hl
  obtain ⟨hin, rfl⟩ := ldr_some hv
  have hlt : i.toNatClampNeg < N := Nat.not_le.mp fun q => hin (Or.inr q)
  exact W.aald (v := va_rf (f i.toNatClampNeg)) (ty := .object C) hF.ex hF.co (hR.rar hs) ((hF.kx.1.2 tj _ htk).1 N (fun j => va_rf (f j))) rfl (fun q => by cases q) (by rw [arrV_size]; exact hin) (by rw [arrV_read _ _ hlt]) rfl rfl hd (kk H locs ls hR hq hl)
/-- a store into an array of references -/
def str (τ : Tau) (a : Nat) (i : Int32) (v : Option Nat) : Option Tau := match τ a with
  | some (.inr (.inr (ci, N, f))) => if i < 0 ∨ N ≤ i.toNatClampNeg then none else some (fun b => if b = a then some (.inr (.inr (ci, N, va_up f i.toNatClampNeg v))) else τ b)
  | _ => none
theorem str_some {τ τ' : Tau} {a ci N : Nat} {f : Nat → Option Nat} {i : Int32} {v : Option Nat} (hs : τ a = some (.inr (.inr (ci, N, f)))) (h : str τ a i v = some τ') : ¬ (i < 0 ∨ N ≤ i.toNatClampNeg) ∧ τ' = fun b => if b = a then some (.inr (.inr (ci, N, va_up f i.toNatClampNeg v))) else τ b := by
  unfold str at h
  simp only [hs] at h
  split at h
  · cases h
  · next hc => cases h; exact ⟨hc, rfl⟩
theorem g_rst (hF : Fx K X cc nL own D mc ms) {a ci N tj v : Nat} {C : String} {T : u_T} {M : Nat} {f : Nat → Option Nat} {i : Int32} {τ' : Tau} {rs : List (Option (Option Nat))} (hd : decode cc pc = .ok (.aastore, 1)) (hs : τ a = some (.inr (.inr (ci, N, f)))) (htk : (tysK K)[tj]? = some (kR K ci, .object C)) (hvs : τ v = some (.inl (ci, rs))) (hcl : vwCl[ci]? = some (C, T, M)) (hv : str τ a i (some v) = some τ') (kk : G K X nL k n (pc + 1) L S (τ', σ, nx)) : G K X nL k n pc L (.ref v :: .int i :: .ref a :: S) (τ, σ, nx) := by
  intro H locs ls hR hq hl
  obtain ⟨hin, rfl⟩ := str_some hs hv
  have hlt : i.toNatClampNeg < N := Nat.not_le.mp fun q => hin (Or.inr q)
  have h0 : ¬ i < 0 := fun q => hin (Or.inl q)
  have ha := (hR.2.2.2.1 a _ hs).1
  obtain ⟨-, cellV, g1, g2, g3, -⟩ := hR.obj hvs
  have hcls : ClassAt (xs X) C (kC K ci) := (hF.kx.1.1 ci _ hcl).2
  obtain ⟨kA, comp, k1, k2, k3, -⟩ := (hF.kx.1.2 tj _ htk).2
  have hcomp : comp = kC K ci := Option.some.inj (k3.symm.trans hcls.1)
  subst hcomp
  obtain ⟨kC', hkC, -⟩ := hcls.2
  refine W.aast hF.ex hF.co (hR.rar hs) (fun q h => by cases h) (fun h => by cases h) k1 k2 rfl hkC ⟨h0, by rw [arrV_size]; exact hlt⟩ g1 (fun q h => by rw [g3] at h; cases h) (by rw [g2]; exact hkC) (by rw [g2]; exact va_assign hcls) rfl rfl hd fun H1 e z oq => ?_
  refine kk H1 _ ls (rel_set (a := a) hR hs z oq (fun b hb => by simp [hb]) (fun b hb => rfl) ?_ ⟨.inr (.inr (ci, N, va_up f i.toNatClampNeg (some v))), by simp⟩) (fun q h => ?_) hl
  · unfold cellOk
    simp only [if_true]
    rw [e, arrV_store]
    congr 2
    funext q
    by_cases hqe : q = i.toNatClampNeg
    · subst hqe; simp [updV, va_up, va_rf]
    · simp [updV, va_up, hqe]
  · rcases List.mem_append.mp h with h | h
    · exact hq q h
    · rw [List.mem_singleton.mp h]; exact ha
theorem g_rstN (hF : Fx K X cc nL own D mc ms) {a ci N tj : Nat} {C : String} {f : Nat → Option Nat} {i : Int32} {τ' : Tau} (hd : decode cc pc = .ok (.aastore, 1)) (hs : τ a = some (.inr (.inr (ci, N, f)))) (htk : (tysK K)[tj]? = some (kR K ci, .object C)) (hv : str τ a i none = some τ') (kk : G K X nL k n (pc + 1) L S (τ', σ, nx)) : G K X nL k n pc L (.null :: .int i :: .ref a :: S) (τ, σ, nx) := by
  intro H locs ls hR hq hl
  obtain ⟨hin, rfl⟩ := str_some hs hv
  have ha := (hR.2.2.2.1 a _ hs).1
  refine va_WaastN (C := C) hF.ex hF.co (hR.rar hs) ((hF.kx.1.2 tj _ htk).1 N (fun j => va_rf (f j))) (fun h => by cases h) (by rw [arrV_size]; exact hin) rfl rfl hd fun H1 e z oq => ?_
  refine kk H1 _ ls (rel_set (a := a) hR hs z oq (fun b hb => by simp [hb]) (fun b hb => rfl) ?_ ⟨.inr (.inr (ci, N, va_up f i.toNatClampNeg none)), by simp⟩) (fun q h => ?_) hl
  · unfold cellOk
    simp only [if_true]
    rw [e, arrV_store]
    congr 2
    funext q
    by_cases hqe : q = i.toNatClampNeg
    · subst hqe; simp [updV, va_up, va_rf]
    · simp [updV, va_up, hqe]
  · rcases List.mem_append.mp h with h | h
    · exact hq q h
    · rw [List.mem_singleton.mp h]; exact ha
theorem g_ralen (hF : Fx K X cc nL own D mc ms) {a ci N tj : Nat} {C : String} {f : Nat → Option Nat} {v : Int32} (hd : decode cc pc = .ok (.arraylength, 1)) (hs : τ a = some (.inr (.inr (ci, N, f)))) (htk : (tysK K)[tj]? = some (kR K ci, .object C)) (hv : Int32.ofNat N = v) (kk : G K X nL k n (pc + 1) L (.int v :: S) (τ, σ, nx)) : G K X nL k n pc L (.ref a :: S) (τ, σ, nx) := by
  intro H locs ls hR hq hl
  exact W.alen (n := v) hF.ex hF.co (hR.rar hs) ((hF.kx.1.2 tj _ htk).1 N (fun j => va_rf (f j))) (by rw [arrV_size]; exact hv) rfl rfl hd (kk H locs ls hR hq hl)
/-- outside arrays: the script, the two tables -/
theorem g_xld (hF : Fx K X cc nL own D mc ms) {a N : Nat} {f : Nat → Int32} {i v : Int32} (hd : decode cc pc = .ok (.iaload, 1)) (hs : kX K a = some (N, f)) (hv : ld N f i = some v) {h : Hp} (kk : G K X nL k n (pc + 1) L (.int v :: S) h) : G K X nL k n pc L (.int i :: .ref a :: S) h := by
  intro H locs ls hR hq hl
  obtain ⟨hin, rfl⟩ := ld_some hv
  have hlt : i.toNatClampNeg < N := Nat.not_le.mp fun q => hin (Or.inr q)
  obtain ⟨cell, c1, c2, c3, c4, c5, c6, c7⟩ := hF.kx.2.2.2.1 a N f hs
  have hb : a < kB K := Nat.not_le.mp c7
  exact W.iald (v := .int (f i.toNatClampNeg)) hF.ex hF.co (by rw [hR.2.2.2.2 a hb]; exact c1) c2 c3 (fun q => hin (q.elim Or.inl (fun z => Or.inr (Nat.le_trans c4 z)))) (c6 _ hlt) rfl rfl hd (kk H locs ls hR hq hl)
theorem g_xlen (hF : Fx K X cc nL own D mc ms) {a N : Nat} {f : Nat → Int32} {v : Int32} (hd : decode cc pc = .ok (.arraylength, 1)) (hs : kX K a = some (N, f)) (hv : Int32.ofNat N = v) {h : Hp} (kk : G K X nL k n (pc + 1) L (.int v :: S) h) : G K X nL k n pc L (.ref a :: S) h := by
  intro H locs ls hR hq hl
  obtain ⟨cell, c1, c2, c3, c4, c5, c6, c7⟩ := hF.kx.2.2.2.1 a N f hs
  have hb : a < kB K := Nat.not_le.mp c7
  exact W.alen (n := v) hF.ex hF.co (by rw [hR.2.2.2.2 a hb]; exact c1) c2 (c5.trans hv) rfl rfl hd (kk H locs ls hR hq hl)
/-- a static that is said -/
theorem g_sta (hF : Fx K X cc nL own D mc ms) {idx : Nat} {C nm de : String} {v : Value} (hd : decode cc pc = .ok (.getstatic idx, 3)) (hlk : Cond.fieldLink own idx C nm de ∈ gtb) (hz : va_Z C nm de v (kA K) (xs X) (kH K)) {h : Hp} (kk : G K X nL k n (pc + 3) L (v :: S) h) : G K X nL k n pc L S h := by
  intro H locs ls hR hq hl
  have hz' : va_Z C nm de v (kA K) (xs X) H := hz.kept (fun a h1 h2 => hR.2.2.2.2 a (Nat.not_le.mp h2))
  obtain ⟨cf, kf, fi, f, a, cell, g1, g2, g3, g4, g5, g6, g7, g8⟩ := hz'
  exact W.gets (g := F0 (xm X) pc ls S) hF.ex hF.co hF.ow (hF.ts _ hlk) g1 g2 g3 g4 g5 (fun e => by rw [e] at g6; cases g6) g7 rfl hd (kk H locs ls hR hq hl)
theorem g_ldcS (hF : Fx K X cc nL own D mc ms) {idx i : Nat} {tx : String} (hd : decode cc pc = .ok (.ldc idx, 2)) (hs : strTab[i]? = some (own, idx, tx)) {h : Hp} (kk : G K X nL k n (pc + 2) L (.ref (kK K i) :: S) h) : G K X nL k n pc L S h :=
  fun H locs ls hR hq hl => va_ldcS hF.ex hF.co hF.ow (hF.kx.2.2.2.2.2.2.2.2.2.1 i _ hs) hd (kk H locs ls hR hq hl)
end AL
end
section
/-! System.arraycopy over int arrays. -/
def cpS (σ : Sig) (a0 a1 sp dp m : Nat) : Sig := fun b j => if b = a1 then va_cpy (σ a0) (σ a1) sp dp m j else σ b j
def cp (n0 n1 : Nat) (σ : Sig) (a0 : Nat) (sp : Int32) (a1 : Nat) (dp m : Int32) : Option Sig := if sp < 0 ∨ dp < 0 ∨ m < 0 ∨ n0 < sp.toNatClampNeg + m.toNatClampNeg ∨ n1 < dp.toNatClampNeg + m.toNatClampNeg then none else some (cpS σ a0 a1 sp.toNatClampNeg dp.toNatClampNeg m.toNatClampNeg)
theorem cp_some {n0 n1 : Nat} {σ σ' : Sig} {a0 a1 : Nat} {sp dp m : Int32} (h : cp n0 n1 σ a0 sp a1 dp m = some σ') : ¬ sp < 0 ∧ ¬ dp < 0 ∧ ¬ m < 0 ∧ sp.toNatClampNeg + m.toNatClampNeg ≤ n0 ∧ dp.toNatClampNeg + m.toNatClampNeg ≤ n1 ∧ σ' = cpS σ a0 a1 sp.toNatClampNeg dp.toNatClampNeg m.toNatClampNeg := by
  unfold cp at h
  split at h
  · cases h
  · next hc =>
    cases h
    refine ⟨fun q => hc (Or.inl q), fun q => hc (Or.inr (Or.inl q)), fun q => hc (Or.inr (Or.inr (Or.inl q))), ?_, ?_, rfl⟩
    · exact Nat.not_lt.mp fun q => hc (Or.inr (Or.inr (Or.inr (Or.inl q))))
    · exact Nat.not_lt.mp fun q => hc (Or.inr (Or.inr (Or.inr (Or.inr q))))
theorem ac_m : Cond.native arraycopyName ∈ gtb ∧ Cond.static arraycopyName ∈ gtb ∧ Cond.initialized "java/lang/System" ∈ gtb := by decide +kernel
theorem ac_w : nativeFrameWords "java/lang/System" "arraycopy" 5 + 11 ≤ 48 := by decide +kernel
theorem nnI (z : Int32) (hz : ¬ z < 0) : z.toInt = (z.toNatClampNeg : Int) := by
  have hz0 : (0 : Int) ≤ z.toInt := by
    have := Int32.not_lt.mp hz
    simpa using Int32.le_iff_toInt_le.mp this
  show z.toInt = ((z.toInt.toNat : Nat) : Int)
  omega
section CP
variable {K : Kt} {X : Cx} {cc : ByteArray} {nL : Nat} {own : String} {D mc ms k n pc : Nat} {L : Lo} {S : List Value} {τ : Tau} {σ σ' : Sig} {nx : Nat}
theorem g_copy (hF : Fx K X cc nL own D mc ms) {idx a0 a1 n0 n1 : Nat} {sp dp m : Int32} (hlk : Cond.methodLink own idx arraycopyName ∈ gtb) (hd : decode cc pc = .ok (.invokestatic idx, 3)) (hs0 : τ a0 = some (.inr (.inl n0))) (hs1 : τ a1 = some (.inr (.inl n1))) (hv : cp n0 n1 σ a0 sp a1 dp m = some σ') (hD : 1 ≤ D) (hS : (S.map fun v => v.category).sum ≤ 8)
    (kk : G K X nL k n (pc + 3) L S (τ, σ', nx)) : G K X nL k n pc L (.int m :: .int dp :: .ref a1 :: .int sp :: .ref a0 :: S) (τ, σ, nx) := by
  intro H locs ls hR hq hl T hT Xs
  obtain ⟨h1, h2, h3, h4, h5, rfl⟩ := cp_some hv
  have hc0 : H[a0]? = some (vp_cell (kI K) (n0, .inl (σ a0))) := hR.arr hs0
  have hc1 : H[a1]? = some (vp_cell (kI K) (n1, .inl (σ a1))) := hR.arr hs1
  obtain ⟨-, k0, hk0, cm0, hkk0⟩ := (hF.kx.1.2 0 _ rfl).1 n0 (fun j => .int (σ a0 j))
  obtain ⟨-, k1, hk1, cm1, hkk1⟩ := (hF.kx.1.2 0 _ rfl).1 n1 (fun j => .int (σ a1 j))
  have hlo := hF.lo; have hfr := hF.fr; have hw := ac_w
  obtain ⟨vm', X', step⟩ := Xs.arraycopy hF.ex hF.ow (hF.ts _ hlk) (hF.ts _ ac_m.1) (hF.ts _ ac_m.2.1) (hF.ts _ ac_m.2.2) (src := a0) (dst := a1) (cs := vp_cell (kI K) (n0, .inl (σ a0))) (cd := vp_cell (kI K) (n1, .inl (σ a1))) (srcPos := sp) (destPos := dp) (n := m) (by rw [hT]; exact hc0) (by rw [hT]; exact hc1)
    (fun _ h => by cases h) (fun _ h => by cases h) (fun h => by cases h) (fun h => by cases h) hk0 hk1 hkk0 hkk1 (by simp [refKind]) h1 h2 h3
    (by rw [nnI sp h1, nnI m h3]; show ¬ _ > ((arrV (kI K) n0 (fun j => .int (σ a0 j))).slots.size : Int); rw [arrV_size]; omega)
    (by rw [nnI dp h2, nnI m h3]; show ¬ _ > ((arrV (kI K) n1 (fun j => .int (σ a1 j))).slots.size : Int); rw [arrV_size]; omega)
    (fun vm₁ _ i hi => by
      have e : (vp_cell (kI K) (n0, .inl (σ a0))).slots.getD (sp.toNatClampNeg + i) .null = .int (σ a0 (sp.toNatClampNeg + i)) := by
        show (arrV (kI K) n0 (fun j => .int (σ a0 j))).slots.getD _ _ = _
        rw [Array.getD_eq_getD_getElem?, arrV_read _ _ (by omega)]
        rfl
      refine ⟨?_, ?_⟩
      · rw [e]; rfl
      · rw [e]; exact trivial)
    (g := F0 (xm X) pc ls (.int m :: .int dp :: .ref a1 :: .int sp :: .ref a0 :: S)) rfl (by rw [hF.ml]; exact hl.1) (rest := S) rfl (by rw [hF.co]; exact hd) (by omega) (by show 2 * 0 + _ + _ ≤ _; omega)
  have e1 : copied (vp_cell (kI K) (n0, .inl (σ a0))) (vp_cell (kI K) (n1, .inl (σ a1))) sp dp m = vp_cell (kI K) (n1, .inl (va_cpy (σ a0) (σ a1) sp.toNatClampNeg dp.toNatClampNeg m.toNatClampNeg)) := va_copied (fun z => .int z) (kI K) (kI K) (σ a0) (σ a1) h4
  rw [e1] at X' step
  have hla : a1 < H.size := (Array.getElem?_eq_some_iff.mp hc1).1
  have ha := (hR.2.2.2.1 a1 _ hs1).1
  have oq : ∀ q : Nat, q ≠ a1 → (H.setIfInBounds a1 (vp_cell (kI K) (n1, .inl (va_cpy (σ a0) (σ a1) sp.toNatClampNeg dp.toNatClampNeg m.toNatClampNeg))))[q]? = H[q]? := fun q hq => by simp [Array.getElem?_setIfInBounds, Ne.symm hq]
  have hR' : Rel K (τ, cpS σ a0 a1 sp.toNatClampNeg dp.toNatClampNeg m.toNatClampNeg, nx) (H.setIfInBounds a1 (vp_cell (kI K) (n1, .inl (va_cpy (σ a0) (σ a1) sp.toNatClampNeg dp.toNatClampNeg m.toNatClampNeg)))) := by
    refine rel_set (τ' := τ) hR hs1 (by simp) oq (fun _ _ => rfl) (fun b hb => by funext j; simp [cpS, hb]) ?_ ⟨_, hs1⟩
    unfold cellOk
    simp only [hs1]
    rw [Array.getElem?_setIfInBounds, if_pos rfl, if_pos hla, vp_cell_i]
    congr 2
    funext j
    simp [cpS]
  have hheap : ((T.setVm vm').setCell a1 (vp_cell (kI K) (n1, .inl (va_cpy (σ a0) (σ a1) sp.toNatClampNeg dp.toNatClampNeg m.toNatClampNeg)))).heap = H.setIfInBounds a1 (vp_cell (kI K) (n1, .inl (va_cpy (σ a0) (σ a1) sp.toNatClampNeg dp.toNatClampNeg m.toNatClampNeg))) := by rw [← hT]; rfl
  obtain ⟨t, b1, b2⟩ := kk _ _ ls hR' (fun q hq2 => by
      rcases List.mem_append.mp hq2 with h | h
      · exact hq q h
      · obtain ⟨z, -, hz⟩ := List.mem_map.mp h
        rw [← hz]
        exact ha) hl _ hheap X'
  exact ⟨t, step t b1, b2⟩
end CP
end
section
/-! WHAT THE FUNCTIONS OF THE METHODS ARE MADE OF. -/
theorem ob {α β : Type} {x : Option α} {f : α → Option β} {r : β} (h : x.bind f = some r) : ∃ v, x = some v ∧ f v = some r := by
  cases x with
  | none => cases h
  | some v => exact ⟨v, rfl, h⟩
theorem oi {α : Type} {c : Prop} [Decidable c] {a b : Option α} {r : α} (h : (if c then a else b) = some r) : (c → a = some r) ∧ (¬ c → b = some r) := by
  split at h
  · next hc => exact ⟨fun _ => h, fun hn => absurd hc hn⟩
  · next hc => exact ⟨fun hp => absurd hp hc, fun _ => h⟩
/-- what must not be -/
theorem on {α : Type} {c : Prop} [Decidable c] {b : Option α} {r : α} (h : (if c then none else b) = some r) : ¬ c ∧ b = some r := by
  split at h
  · cases h
  · next hc => exact ⟨hc, h⟩
/-- what must be -/
theorem oy {α : Type} {c : Prop} [Decidable c] {b : Option α} {r : α} (h : (if c then b else none) = some r) : c ∧ b = some r := by
  split at h
  · next hc => exact ⟨hc, h⟩
  · cases h
/-- a shape that must be -/
noncomputable def chk {α : Type} (p : Prop) (x : Option α) : Option α := @ite _ p (Classical.propDecidable p) x none
theorem oc {α : Type} {p : Prop} {x : Option α} {r : α} (h : chk p x = some r) : p ∧ x = some r := by
  unfold chk at h
  by_cases hp : p
  · rw [if_pos hp] at h; exact ⟨hp, h⟩
  · rw [if_neg hp] at h; cases h
theorem chk_pos {α : Type} {p : Prop} {x : Option α} (h : p) : chk p x = x := by unfold chk; rw [if_pos h]
/-- how often a loop may go round -/
def FU : Nat := 30000
theorem en_i {K : Kt} {X : Cx} {ret : Option FieldType} {mc ms : Nat} {x r : Int32} {h : Hp} (H : some x = some r) (hE : En K X ret mc ms (some (.int r)) h) : En K X ret mc ms (some (.int x)) h := by cases H; exact hE
theorem en_v {K : Kt} {X : Cx} {ret : Option FieldType} {mc ms : Nat} {τ : Tau} {nx : Nat} {s t : Sig} (H : some s = some t) (hE : En K X ret mc ms none (τ, t, nx)) : En K X ret mc ms none (τ, s, nx) := by cases H; exact hE
theorem en_p {K : Kt} {X : Cx} {ret : Option FieldType} {mc ms : Nat} {τ : Tau} {nx : Nat} {x r : Int32} {s t : Sig} (H : some (x, s) = some (r, t)) (hE : En K X ret mc ms (some (.int r)) (τ, t, nx)) : En K X ret mc ms (some (.int x)) (τ, s, nx) := by cases H; exact hE
theorem en_vh {K : Kt} {X : Cx} {ret : Option FieldType} {mc ms : Nat} {s t : Hp} (H : some s = some t) (hE : En K X ret mc ms none t) : En K X ret mc ms none s := by cases H; exact hE
theorem en_ph {K : Kt} {X : Cx} {ret : Option FieldType} {mc ms : Nat} {x r : Int32} {s t : Hp} (H : some (x, s) = some (r, t)) (hE : En K X ret mc ms (some (.int r)) t) : En K X ret mc ms (some (.int x)) s := by cases H; exact hE
theorem en_rh {K : Kt} {X : Cx} {ret : Option FieldType} {mc ms : Nat} {x r : Option Nat} {s t : Hp} (H : some (x, s) = some (r, t)) (hE : En K X ret mc ms (some (va_rf r)) t) : En K X ret mc ms (some (va_rf x)) s := by cases H; exact hE
/-- locals that count no more -/
def mkL : List Bool → Lo → Lo
  | true :: m, x :: L => x :: mkL m L
  | false :: m, _ :: L => none :: mkL m L
  | _, _ => []
theorem mkL_sub : ∀ (m : List Bool) (L : Lo) (i : Nat) (v : Value), (mkL m L)[i]? = some (some v) → L[i]? = some (some v)
  | [], L, i, v, h => by simp [mkL] at h
  | true :: m, [], i, v, h => by simp [mkL] at h
  | false :: m, [], i, v, h => by simp [mkL] at h
  | true :: m, x :: L, 0, v, h => by simpa [mkL] using h
  | false :: m, x :: L, 0, v, h => by simp [mkL] at h
  | true :: m, x :: L, i + 1, v, h => by simp only [mkL, List.getElem?_cons_succ] at h ⊢; exact mkL_sub m L i v h
  | false :: m, x :: L, i + 1, v, h => by simp only [mkL, List.getElem?_cons_succ] at h ⊢; exact mkL_sub m L i v h
theorem g_m {K : Kt} {X : Cx} {nL k n pc : Nat} {L L' : Lo} {S : List Value} {h : Hp} (m : List Bool) (hL : mkL m L = L') (kk : G K X nL k n pc L' S h) : G K X nL k n pc L S h := g_drop (fun i v hv => mkL_sub m L i v (by rw [hL]; exact hv)) kk
theorem al0 {α : Type} {p : α → Prop} : ∀ c ∈ ([] : List α), p c := fun _ h => by cases h
theorem al1 {α : Type} {p : α → Prop} {a : α} {l : List α} (h1 : p a) (h2 : ∀ c ∈ l, p c) : ∀ c ∈ a :: l, p c := List.forall_mem_cons.mpr ⟨h1, h2⟩
theorem tsw_l {x : Int32} (lo hi : Int) (m : Nat) (cs : List Int32) (hc : ∀ c ∈ cs, ¬ x = c) (hm : ∀ j : Nat, j < m → ∃ c ∈ cs, c.toInt = lo + j) (hh : lo + m = hi + 1) : x.toInt < lo ∨ hi < x.toInt := by
  rcases tsw_out (x := x) lo m (fun j hj e => by
    obtain ⟨c, h1, h2⟩ := hm j hj
    exact hc c h1 (Int32.toInt_inj.mp (e.trans h2.symm))) with h | h
  · exact Or.inl h
  · exact Or.inr (by omega)
/-- a store of an int field -/
def pI (σ : Sig) (a k : Nat) (v : Int32) : Option Sig := some (wr σ a k v)
theorem g_pI {K : Kt} {X : Cx} {cc : ByteArray} {nL : Nat} {own : String} {D mc ms k n pc : Nat} {L : Lo} {S : List Value} {τ : Tau} {σ σ' : Sig} {nx : Nat} {fin : Bool} (hF : Fx K X cc nL own D mc ms) {idx ci kf a : Nat} (hd : decode cc pc = .ok (.putfield idx, 3)) (hf : FL own idx ci kf "I" fin) (hfin : fin = false ∨ (fin = true ∧ (xh X).name = "<init>" ∧ ∃ T N, vwCl[ci]? = some (own, T, N))) {rs : List (Option (Option Nat))} (hs : τ a = some (.inl (ci, rs))) (hr : rs[kf]? = some none) {v : Int32} (e : pI σ a kf v = some σ')
    (kk : G K X nL k n (pc + 3) L S (τ, σ', nx)) : G K X nL k n pc L (.int v :: .ref a :: S) (τ, σ, nx) := by
  cases e; exact g_putI hF hd hf hfin hs hr (Or.inl rfl) kk
def pZ (σ : Sig) (a k : Nat) (v : Int32) : Option Sig := if v = 0 ∨ v = 1 then some (wr σ a k v) else none
theorem g_pZ {K : Kt} {X : Cx} {cc : ByteArray} {nL : Nat} {own : String} {D mc ms k n pc : Nat} {L : Lo} {S : List Value} {τ : Tau} {σ σ' : Sig} {nx : Nat} {fin : Bool} (hF : Fx K X cc nL own D mc ms) {idx ci kf a : Nat} (hd : decode cc pc = .ok (.putfield idx, 3)) (hf : FL own idx ci kf "Z" fin) (hfin : fin = false ∨ (fin = true ∧ (xh X).name = "<init>" ∧ ∃ T N, vwCl[ci]? = some (own, T, N))) {rs : List (Option (Option Nat))} (hs : τ a = some (.inl (ci, rs))) (hr : rs[kf]? = some none) {v : Int32} (e : pZ σ a kf v = some σ')
    (kk : G K X nL k n (pc + 3) L S (τ, σ', nx)) : G K X nL k n pc L (.int v :: .ref a :: S) (τ, σ, nx) := by
  obtain ⟨hv, e⟩ := oy e
  cases e; exact g_putI hF hd hf hfin hs hr (Or.inr ⟨rfl, hv⟩) kk
end
section
/-! SHAPES: where the parts of an object lie. -/
def rcon (τ : Tau) (a : Nat) : Nat → Option Nat := match τ a with | some (.inr (.inr (_, _, f))) => f | _ => fun _ => none
def rfld (τ : Tau) (a k : Nat) : Option Nat := match τ a with | some (.inl (_, rs)) => (rs.getD k none).getD none | _ => none
def ShX0 (τ : Tau) (a : Nat) (n : Nat) : Prop := τ a = some (.inl (0, [none, none, none, some (some (a + 1)), none, none])) ∧ τ (a + 1) = some (.inr (.inl n))
def ShX1 (τ : Tau) (a : Nat) : Prop := τ a = some (.inl (1, [none, some (some (a + 1))])) ∧ τ (a + 1) = some (.inr (.inr (0, 60, rcon τ (a + 1))))
def ShX2 (τ : Tau) (a : Nat) (M : Nat) : Prop := τ a = some (.inl (2, [none, some (some (a + 1)), none, none, none, none, none])) ∧ τ (a + 1) = some (.inr (.inl M))
def ShX3 (τ : Tau) (a : Nat) : Prop := τ a = some (.inl (3, [none, some (some (a + 1)), some (some (a + 2)), some (some (a + 3)), some (some (a + 4)), some (some (a + 5)), some (some (a + 6)), some (some (a + 7)), some (some (a + 8)), some (some (a + 9)), some (some (a + 10))])) ∧ τ (a + 1) = some (.inr (.inl 40)) ∧ τ (a + 2) = some (.inr (.inl 40)) ∧ τ (a + 3) = some (.inr (.inl 40)) ∧ τ (a + 4) = some (.inr (.inl 40)) ∧ τ (a + 5) = some (.inr (.inl 40)) ∧ τ (a + 6) = some (.inr (.inl 40)) ∧ τ (a + 7) = some (.inr (.inl 40)) ∧ τ (a + 8) = some (.inr (.inl 40)) ∧ τ (a + 9) = some (.inr (.inl 12)) ∧ τ (a + 10) = some (.inr (.inl 12))
def ShX4 (τ : Tau) (a : Nat) : Prop := τ a = some (.inl (4, [none, some (some (a + 1)), some (some (a + 2)), some (some (a + 3)), some (some (a + 4)), some (some (a + 5)), some (some (a + 6)), some (some (a + 7)), some (some (a + 8)), some (some (a + 9)), some (some (a + 10))])) ∧ τ (a + 1) = some (.inr (.inl 12)) ∧ τ (a + 2) = some (.inr (.inl 12)) ∧ τ (a + 3) = some (.inr (.inl 12)) ∧ τ (a + 4) = some (.inr (.inl 12)) ∧ τ (a + 5) = some (.inr (.inl 12)) ∧ τ (a + 6) = some (.inr (.inl 12)) ∧ τ (a + 7) = some (.inr (.inl 12)) ∧ τ (a + 8) = some (.inr (.inl 12)) ∧ τ (a + 9) = some (.inr (.inl 12)) ∧ τ (a + 10) = some (.inr (.inl 12))
def ShX5 (τ : Tau) (a : Nat) : Prop := τ a = some (.inl (5, [none, none, none, none, none, some (some (a + 1)), some (some (a + 2)), some (some (a + 3)), some (some (a + 4)), some (some (a + 5)), some (some (a + 6)), none, none])) ∧ τ (a + 1) = some (.inr (.inl 400)) ∧ τ (a + 2) = some (.inr (.inl 17)) ∧ τ (a + 3) = some (.inr (.inl 16)) ∧ τ (a + 4) = some (.inr (.inl 401)) ∧ τ (a + 5) = some (.inr (.inl 401)) ∧ τ (a + 6) = some (.inr (.inl 401))
def ShX6 (τ : Tau) (a : Nat) : Prop := τ a = some (.inl (6, [some (some (a + 1)), none])) ∧ τ (a + 1) = some (.inr (.inl 400))
def ShX7 (τ : Tau) (a : Nat) (n1 : Nat) (n2 : Nat) (n3 : Nat) : Prop := τ a = some (.inl (7, [none, some (some (a + 1)), some (some (a + 2)), some (some (a + 3))])) ∧ τ (a + 1) = some (.inr (.inl n1)) ∧ τ (a + 2) = some (.inr (.inl n2)) ∧ τ (a + 3) = some (.inr (.inl n3))
def ShX8 (τ : Tau) (a : Nat) : Prop := τ a = some (.inl (8, [none, none, none, none]))
def ShX9 (τ : Tau) (a : Nat) : Prop := τ a = some (.inl (9, [some (some (a + 1)), some (some (a + 2)), none, none, none, none, none])) ∧ τ (a + 1) = some (.inr (.inl 36)) ∧ τ (a + 2) = some (.inr (.inl 24))
def ShX12 (τ : Tau) (a : Nat) : Prop := τ a = some (.inl (12, [some (some (a + 1)), some (some (a + 2)), some (some (a + 3)), none, some (some (a + 4)), some (some (a + 5)), some (some (a + 6)), some (some (a + 7)), some (some (a + 8)), none, none, none, none, none, none, none, none, none, none, none, none, none, none, some (some (a + 9)), some (some (a + 10))])) ∧ τ (a + 1) = some (.inr (.inl 20240)) ∧ τ (a + 2) = some (.inr (.inl 20240)) ∧ τ (a + 3) = some (.inr (.inl 2550)) ∧ τ (a + 4) = some (.inr (.inl 64)) ∧ τ (a + 5) = some (.inr (.inl 820)) ∧ τ (a + 6) = some (.inr (.inl 400)) ∧ τ (a + 7) = some (.inr (.inl 420)) ∧ τ (a + 8) = some (.inr (.inl 12)) ∧ τ (a + 9) = some (.inr (.inl 40)) ∧ τ (a + 10) = some (.inr (.inl 4))
def ShX10 (τ : Tau) (a : Nat) (M : Nat) : Prop := τ a = some (.inl (10, [some (some (a + 1)), some (some (a + 12)), some (some (a + 23)), some (some (a + 26)), some (some (a + 33)), some (some (a + 27)), some (some (a + 29)), some (some (a + 30)), some (some (a + 31)), some (some (a + 32))])) ∧ ShX4 τ (a + 1) ∧ ShX3 τ (a + 12) ∧ ShX9 τ (a + 23) ∧ ShX8 τ (a + 26) ∧ ShX2 τ (a + 33) M ∧ ShX1 τ (a + 27) ∧ τ (a + 29) = some (.inr (.inr (7, 6, rcon τ (a + 29)))) ∧ τ (a + 30) = some (.inr (.inl 8)) ∧ τ (a + 31) = some (.inr (.inl 32)) ∧ τ (a + 32) = some (.inr (.inl 12))
def ShX11 (τ : Tau) (a : Nat) : Prop := τ a = some (.inl (11, [some (some (a + 5)), some (some (a + 40)), some (rfld τ a 2), some (some (a + 75)), some (some (a + 77))])) ∧ ShX10 τ (a + 5) 2000 ∧ ShX10 τ (a + 40) 0 ∧ ShX6 τ (a + 75) ∧ ShX5 τ (a + 77)
/-- the length of the k-th array behind an object -/
def tl (τ : Tau) (t k : Nat) : Nat := match τ (t + k) with | some (.inr (.inl n)) => n | _ => 0
end
section
/-! STRING CONSTANTS: length() and charAt(). -/
def slen (w : Nat) : Int32 := Int32.ofNat (strLen.getD w 0)
def sch (w : Nat) (i : Int32) : Option Int32 := ld (strLen.getD w 0) (fun j => (strByt.getD w []).getD j 0) i
theorem str_fits : ∀ w, w < 21 → ∀ j, j < strLen.getD w 0 → 0 ≤ (strByt.getD w []).getD j 0 ∧ (strByt.getD w []).getD j 0 < 128 := by decide +kernel
theorem str_len : ∀ w, w < 21 → strLen.getD w 0 < 100 := by decide +kernel
section SR
variable {K : Kt} {X : Cx} {cc : ByteArray} {nL : Nat} {own : String} {D mc ms k n pc : Nat} {L : Lo} {S : List Value} {h : Hp} {w : Nat}
theorem Fx.vs (hF : Fx K X cc nL own D mc ms) : vk_S 21 strLen strByt (kK K) (kV K) (kA K) (xs X) (kH K) := hF.kx.2.2.2.2.2.2.2.2.1
theorem Rel.low {H : Heap} (hR : Rel K h H) : ∀ a : Nat, a < (kH K).size → ¬ kA K a → H[a]? = (kH K)[a]? := fun a _ h2 => hR.2.2.2.2 a (Nat.not_le.mp h2)
theorem g_sfld (hF : Fx K X cc nL own D mc ms) {idx q : Nat} {nm de : String} {v : Value} (hd : decode cc pc = .ok (.getfield idx, 3)) (hlk : Cond.fieldLink own idx RJ0 nm de ∈ gtb) (hE : va_OF RJ0 nm de v q (kA K) (xs X) (kH K)) (kk : G K X nL k n (pc + 3) L (v :: S) h) : G K X nL k n pc L (.ref q :: S) h := by
  intro H locs ls hR hq hl
  obtain ⟨cf, k', fi, f, cell, h1, h2, h3, h4, h5, h6⟩ := hE.kept hR.low
  exact W.getf hF.ex hF.co hF.ow (hF.ts _ hlk) h1 h2 h3 h4 (v := v) h5 rfl rfl hd (kk H locs ls hR hq hl)
theorem g_sblen (hF : Fx K X cc nL own D mc ms) {t N : Nat} {f : Nat → Value} (hd : decode cc pc = .ok (.arraylength, 1)) (hT : va_T .byte t N f (kA K) (xs X) (kH K)) (kk : G K X nL k n (pc + 1) L (.int (Int32.ofNat N) :: S) h) : G K X nL k n pc L (.ref t :: S) h := by
  intro H locs ls hR hq hl
  obtain ⟨cell, c1, c2, c3, c4, c5, c6, c7⟩ := hT.kept hR.low
  exact W.alen (n := Int32.ofNat N) hF.ex hF.co c1 c2 c5 rfl rfl hd (kk H locs ls hR hq hl)
theorem g_sbld (hF : Fx K X cc nL own D mc ms) {t N : Nat} {f : Nat → Int32} {i v : Int32} (hd : decode cc pc = .ok (.baload, 1)) (hT : va_T .byte t N (fun j => .int (f j)) (kA K) (xs X) (kH K)) (hv : ld N f i = some v) (kk : G K X nL k n (pc + 1) L (.int v :: S) h) : G K X nL k n pc L (.int i :: .ref t :: S) h := by
  intro H locs ls hR hq hl
  obtain ⟨hin, rfl⟩ := ld_some hv
  have hlt : i.toNatClampNeg < N := Nat.not_le.mp fun q => hin (Or.inr q)
  obtain ⟨cell, c1, c2, c3, c4, c5, c6, c7⟩ := hT.kept hR.low
  exact W.bald (v := .int (f i.toNatClampNeg)) hF.ex hF.co c1 c2 c3 (fun q => hin (q.elim Or.inl (fun z => Or.inr (Nat.le_trans c4 z)))) (c6 _ hlt) rfl rfl hd (kk H locs ls hR hq hl)
theorem g_i2c (hF : Fx K X cc nL own D mc ms) {x v : Int32} (hd : decode cc pc = .ok (.i2c, 1)) (hv : (x.toUInt32 % 65536).toInt32 = v) (kk : G K X nL k n (pc + 1) L (.int v :: S) h) : G K X nL k n pc L (.int x :: S) h :=
  fun H locs ls hR hq hl => lv_i2c hF.ex hF.co hd hv (kk H locs ls hR hq hl)
theorem g_nret (hF : Fx K X cc nL own D mc ms) {v : Int32} {ty : FieldType} (hE : En K X (some ty) mc ms (some (.int v)) h) (hn : narrow ty (.int v) = .int v) (hd : decode cc pc = .ok (.ireturn, 1)) (h1 : k ≤ mc) (h2 : n ≤ ms) : G K X nL k n pc L [.int v] h := by
  intro H locs ls hR hq hl
  refine W.widen h1 h2 ?_
  rw [hE.1]
  exact W.zret hF.ex hF.co hE.2 hn (fun t ht _ => ⟨rfl, by rw [ht]; exact hR⟩) hq hd hF.lk
theorem srec (hF : Fx K X cc nL own D mc ms) (hw : w < 21) : ∀ H : Heap, Rel K h H → ∃ cellB : Cell, H[kK K w]? = some cellB ∧ cellB.vm.isStatics = false ∧ (xs X).vm.findClass "java/lang/String" = some cellB.cls := by
  intro H hR
  obtain ⟨cell, h1, h2, h3, -⟩ := (hF.vs.1 w hw).1.kept hR.low
  exact ⟨cell, h1, h2, h3⟩
end SR
theorem lkS38 : Cond.fieldLink RJ0 38 RJ0 "COMPACT_STRINGS" "Z" ∈ gtb := by decide +kernel
theorem lkS1053 : Cond.fieldLink RJ0 1053 RJ3 "SIOOBE_FORMATTER" "Ljava/util/function/BiFunction;" ∈ gtb := by decide +kernel
theorem lkS9 : Cond.fieldLink RJ0 9 RJ0 "value" "[B" ∈ gtb := by decide +kernel
theorem lkS15 : Cond.fieldLink RJ0 15 RJ0 "coder" "B" ∈ gtb := by decide +kernel
theorem J0_coder_ok {K : Kt} {D : Nat} {h : Hp} {w : Nat} (hw : w < 21) (hD : 1 ≤ D) : OkK D 0 0 yJ0_coder_7d493 cJ0_coder_7d493 1 (some .byte) K [.ref (kK K w)] h (some (.int 0)) h := by
  refine ok_ofK (by decide +kernel) rfl (Nat.le_of_ble_eq_true rfl) (fun X hF hE hN L0 hL0 => ?_)
  obtain rfl : [some (.ref (kK K w))] = L0 := hL0
  have hF : Fx K X cJ0_coder_7d493 1 RJ0 D 0 0 := hF
  refine g_sta hF (dAt tJ0_coder_7d493_ok 0 rfl rfl) lkS38 hF.kx.2.2.2.2.2.2.2.2.2.2.2.2.1 ?_
  refine g_if_eq hF (dAt tJ0_coder_7d493_ok 1 rfl rfl) rfl (fun c => absurd c (by decide)) (fun _ => ?_)
  refine g_p (S' := [.ref (kK K w)]) hF tJ0_coder_7d493_ok 2 1 rfl rfl rfl rfl ?_
  refine g_sfld hF (dAt tJ0_coder_7d493_ok 3 rfl rfl) lkS15 (hF.vs.1 w hw).2.1 ?_
  refine g_goto hF (dAt tJ0_coder_7d493_ok 4 rfl rfl) rfl ?_
  exact g_nret hF hE rfl (dAt tJ0_coder_7d493_ok 6 rfl rfl) (by decide) (by decide)
theorem J0_isLatin1_ok {K : Kt} {D : Nat} {h : Hp} {w : Nat} (hw : w < 21) (hD : 1 ≤ D) : OkK D 0 0 yJ0_isLatin1_aae02 cJ0_isLatin1_aae02 1 (some .boolean) K [.ref (kK K w)] h (some (.int 1)) h := by
  refine ok_ofK (by decide +kernel) rfl (Nat.le_of_ble_eq_true rfl) (fun X hF hE hN L0 hL0 => ?_)
  obtain rfl : [some (.ref (kK K w))] = L0 := hL0
  have hF : Fx K X cJ0_isLatin1_aae02 1 RJ0 D 0 0 := hF
  refine g_sta hF (dAt tJ0_isLatin1_aae02_ok 0 rfl rfl) lkS38 hF.kx.2.2.2.2.2.2.2.2.2.2.2.2.1 ?_
  refine g_if_eq hF (dAt tJ0_isLatin1_aae02_ok 1 rfl rfl) rfl (fun c => absurd c (by decide)) (fun _ => ?_)
  refine g_p (S' := [.ref (kK K w)]) hF tJ0_isLatin1_aae02_ok 2 1 rfl rfl rfl rfl ?_
  refine g_sfld hF (dAt tJ0_isLatin1_aae02_ok 3 rfl rfl) lkS15 (hF.vs.1 w hw).2.1 ?_
  refine g_if_ne hF (dAt tJ0_isLatin1_aae02_ok 4 rfl rfl) rfl (fun c => absurd rfl c) (fun _ => ?_)
  refine g_p (S' := [.int 1]) hF tJ0_isLatin1_aae02_ok 5 1 rfl rfl rfl rfl ?_
  refine g_goto hF (dAt tJ0_isLatin1_aae02_ok 6 rfl rfl) rfl ?_
  exact g_nret hF hE rfl (dAt tJ0_isLatin1_aae02_ok 8 rfl rfl) (by decide) (by decide)
theorem shr0 {N : Nat} (h : N < 100) : (Int32.ofNat N) >>> ((0 : Int32) &&& 31) = Int32.ofNat N := by
  have h1 : ∀ N, N < 100 → (Int32.ofNat N) >>> ((0 : Int32) &&& 31) = Int32.ofNat N := by decide +kernel
  exact h1 N h
theorem J0_length_ok {K : Kt} {D : Nat} {h : Hp} {w : Nat} (hw : w < 21) (hD : 2 ≤ D) : OkK D 0 0 yJ0_length_8abf5 cJ0_length_8abf5 1 (some .int) K [.ref (kK K w)] h (some (.int (slen w))) h := by
  refine ok_ofK (by decide +kernel) rfl (Nat.le_of_ble_eq_true rfl) (fun X hF hE hN L0 hL0 => ?_)
  obtain rfl : [some (.ref (kK K w))] = L0 := hL0
  have hF : Fx K X cJ0_length_8abf5 1 RJ0 D 0 0 := hF
  refine g_p (S' := [.ref (kK K w)]) hF tJ0_length_8abf5_ok 0 1 rfl rfl rfl rfl ?_
  refine g_sfld hF (dAt tJ0_length_8abf5_ok 1 rfl rfl) lkS9 (hF.vs.1 w hw).2.2.1 ?_
  refine g_sblen hF (dAt tJ0_length_8abf5_ok 2 rfl rfl) (hF.vs.1 w hw).2.2.2 ?_
  refine g_p (S' := [.ref (kK K w), .int (slen w)]) hF tJ0_length_8abf5_ok 3 1 rfl rfl rfl rfl ?_
  refine g_cV0 (S := [.int (slen w)]) hF (J0_coder_ok hw (Nat.le_refl _)) mbJ0_coder_7d493 mvJ0_coder_7d493 mlJ0_335 (by omega) (by decide) (dAt tJ0_length_8abf5_ok 4 rfl rfl) (srec hF hw) rfl rfl (Nat.le_of_ble_eq_true rfl) rfl rfl (by decide) (by decide) rfl ?_
  refine g_p (S' := [.int (slen w >>> ((0 : Int32) &&& 31))]) hF tJ0_length_8abf5_ok 5 1 rfl rfl rfl rfl ?_
  rw [show slen w >>> ((0 : Int32) &&& 31) = slen w from shr0 (str_len w hw)]
  exact g_iret hF hE (dAt tJ0_length_8abf5_ok 6 rfl rfl) (by decide) (by decide)
theorem J3_check_ok {D : Nat} {h : Hp} {i m : Int32} {r : Option Nat} (h0 : ¬ i < 0) (h1 : i < m) (hD : 1 ≤ D) : Ok D 0 0 yJ3_checkIndex_8e157 cJ3_checkIndex_8e157 3 (some .int) [.int i, .int m, va_rf r] h (some (.int i)) h := by
  refine ok_of (by decide +kernel) (by cases r <;> rfl) (Nat.le_of_ble_eq_true rfl) (fun K X hF hE hN L0 hL0 => ?_)
  obtain rfl : [some (.int i), some (.int m), some (va_rf r)] = L0 := hL0
  have hF : Fx K X cJ3_checkIndex_8e157 3 RJ3 D 0 0 := hF
  refine g_p (S' := [.int i]) hF tJ3_checkIndex_8e157_ok 0 1 rfl rfl rfl rfl ?_
  refine g_if_lt hF (dAt tJ3_checkIndex_8e157_ok 1 rfl rfl) rfl (fun c => absurd c h0) (fun _ => ?_)
  refine g_p (S' := [.int m, .int i]) hF tJ3_checkIndex_8e157_ok 2 2 rfl rfl rfl rfl ?_
  refine g_icmp_lt hF (dAt tJ3_checkIndex_8e157_ok 4 rfl rfl) rfl (fun _ => ?_) (fun c => absurd h1 c)
  refine g_p (S' := [.int i]) hF tJ3_checkIndex_8e157_ok 10 1 rfl rfl rfl rfl ?_
  exact g_iret hF hE (dAt tJ3_checkIndex_8e157_ok 11 rfl rfl) (by decide) (by decide)
theorem J0_check_ok {D : Nat} {h : Hp} {i m : Int32} (h0 : ¬ i < 0) (h1 : i < m) (hD : 2 ≤ D) : Ok D 0 0 yJ0_checkIndex_df160 cJ0_checkIndex_df160 2 none [.int i, .int m] h none h := by
  refine ok_of (by decide +kernel) rfl (Nat.le_of_ble_eq_true rfl) (fun K X hF hE hN L0 hL0 => ?_)
  obtain rfl : [some (.int i), some (.int m)] = L0 := hL0
  have hF : Fx K X cJ0_checkIndex_df160 2 RJ0 D 0 0 := hF
  refine g_p (S' := [.int m, .int i]) hF tJ0_checkIndex_df160_ok 0 2 rfl rfl rfl rfl ?_
  have hend : ∀ r : Option Nat, va_Z RJ3 "SIOOBE_FORMATTER" "Ljava/util/function/BiFunction;" (va_rf r) (kA K) (xs X) (kH K) → G K X 2 0 0 2 [some (.int i), some (.int m)] [.int m, .int i] h := by
    intro r hz
    refine g_sta hF (dAt tJ0_checkIndex_df160_ok 2 rfl rfl) lkS1053 hz ?_
    refine g_cS (S := []) hF (J3_check_ok (r := r) h0 h1 (Nat.le_refl _) K) mbJ3_checkIndex_8e157 msJ3_checkIndex_8e157 mlJ0_1059 (by omega) (by decide) (dAt tJ0_checkIndex_df160_ok 3 rfl rfl) rfl rfl (Nat.le_of_ble_eq_true rfl) rfl rfl (by decide) (by decide) rfl ?_
    refine g_p (S' := []) hF tJ0_checkIndex_df160_ok 4 1 rfl rfl rfl rfl ?_
    exact g_vret hF hE (dAt tJ0_checkIndex_df160_ok 5 rfl rfl) (by decide) (by decide)
  rcases hF.kx.2.2.2.2.2.2.2.2.2.2.2.2.2 with hz | ⟨t, hz⟩
  · exact hend none hz
  · exact hend (some t) hz
theorem c_and : ∀ v : Int32, 0 ≤ v → v < 128 → v &&& 255 = v ∧ (v.toUInt32 % 65536).toInt32 = v ∧ narrow .char (.int v) = .int v := by
  intro v h0 h1
  have key : ∀ j : Nat, j < 128 → Int32.ofNat j &&& 255 = Int32.ofNat j ∧ ((Int32.ofNat j).toUInt32 % 65536).toInt32 = Int32.ofNat j ∧ narrow .char (.int (Int32.ofNat j)) = .int (Int32.ofNat j) := by decide +kernel
  obtain ⟨j, hj, rfl⟩ := nI_of (Int32.not_lt.mpr h0)
  have hj2 : j < 128 := by
    have := (nI_ltI hj (by decide : (128 : Nat) < 2 ^ 31)).mp (show nI j < nI 128 from h1)
    exact this
  exact key j hj2
theorem J1_charAt_ok {K : Kt} {D : Nat} {h : Hp} {w : Nat} {i v : Int32} (hw : w < 21) (e : sch w i = some v) (hD : 3 ≤ D) : OkK D 0 0 yJ1_charAt_3b067 cJ1_charAt_3b067 2 (some .char) K [.ref (kV K w), .int i] h (some (.int v)) h := by
  refine ok_ofK (by decide +kernel) rfl (Nat.le_of_ble_eq_true rfl) (fun X hF hE hN L0 hL0 => ?_)
  obtain rfl : [some (.ref (kV K w)), some (.int i)] = L0 := hL0
  have hF : Fx K X cJ1_charAt_3b067 2 RJ1 D 0 0 := hF
  obtain ⟨hin, hv⟩ := ld_some e
  have hlt : i.toNatClampNeg < strLen.getD w 0 := Nat.not_le.mp fun q => hin (Or.inr q)
  have h0 : ¬ i < 0 := fun q => hin (Or.inl q)
  have h1 : i < slen w := by
    obtain ⟨j, hj, rfl⟩ := nI_of h0
    rw [nI_clamp hj] at hlt
    exact nI_lt hlt (by have := str_len w hw; omega)
  have hb := str_fits w hw _ hlt
  obtain ⟨q1, q2, q3⟩ := c_and v (hv ▸ hb.1) (hv ▸ hb.2)
  refine g_p (S' := [.ref (kV K w), .int i]) hF tJ1_charAt_3b067_ok 0 2 rfl rfl rfl rfl ?_
  refine g_sblen hF (dAt tJ1_charAt_3b067_ok 2 rfl rfl) (hF.vs.1 w hw).2.2.2 ?_
  refine g_cS (S := []) hF (J0_check_ok h0 h1 (Nat.le_refl _) K) mbJ0_checkIndex_df160 msJ0_checkIndex_df160 mlJ1_9 (by omega) (by decide) (dAt tJ1_charAt_3b067_ok 3 rfl rfl) rfl rfl (Nat.le_of_ble_eq_true rfl) rfl rfl (by decide) (by decide) rfl ?_
  refine g_p (S' := [.int i, .ref (kV K w)]) hF tJ1_charAt_3b067_ok 4 2 rfl rfl rfl rfl ?_
  refine g_sbld hF (dAt tJ1_charAt_3b067_ok 6 rfl rfl) (hF.vs.1 w hw).2.2.2 e ?_
  refine g_p (S' := [.int (v &&& 255)]) hF tJ1_charAt_3b067_ok 7 2 rfl rfl rfl rfl ?_
  rw [q1]
  refine g_i2c hF (dAt tJ1_charAt_3b067_ok 9 rfl rfl) q2 ?_
  exact g_nret hF hE q3 (dAt tJ1_charAt_3b067_ok 10 rfl rfl) (by decide) (by decide)
theorem J0_charAt_ok {K : Kt} {D : Nat} {h : Hp} {w : Nat} {i v : Int32} (hw : w < 21) (e : sch w i = some v) (hD : 4 ≤ D) : OkK D 0 0 yJ0_charAt_5068e cJ0_charAt_5068e 2 (some .char) K [.ref (kK K w), .int i] h (some (.int v)) h := by
  refine ok_ofK (by decide +kernel) rfl (Nat.le_of_ble_eq_true rfl) (fun X hF hE hN L0 hL0 => ?_)
  obtain rfl : [some (.ref (kK K w)), some (.int i)] = L0 := hL0
  have hF : Fx K X cJ0_charAt_5068e 2 RJ0 D 0 0 := hF
  obtain ⟨hin, hv⟩ := ld_some e
  have hlt : i.toNatClampNeg < strLen.getD w 0 := Nat.not_le.mp fun q => hin (Or.inr q)
  have hb := str_fits w hw _ hlt
  obtain ⟨q1, q2, q3⟩ := c_and v (hv ▸ hb.1) (hv ▸ hb.2)
  refine g_p (S' := [.ref (kK K w)]) hF tJ0_charAt_5068e_ok 0 1 rfl rfl rfl rfl ?_
  refine g_cV0 (S := []) hF (J0_isLatin1_ok hw (Nat.le_refl _)) mbJ0_isLatin1_aae02 mvJ0_isLatin1_aae02 mlJ0_492 (by omega) (by decide) (dAt tJ0_charAt_5068e_ok 1 rfl rfl) (srec hF hw) rfl rfl (Nat.le_of_ble_eq_true rfl) rfl rfl (by decide) (by decide) rfl ?_
  refine g_if_eq hF (dAt tJ0_charAt_5068e_ok 2 rfl rfl) rfl (fun c => absurd c (by decide)) (fun _ => ?_)
  refine g_p (S' := [.ref (kK K w)]) hF tJ0_charAt_5068e_ok 3 1 rfl rfl rfl rfl ?_
  refine g_sfld hF (dAt tJ0_charAt_5068e_ok 4 rfl rfl) lkS9 (hF.vs.1 w hw).2.2.1 ?_
  refine g_p (S' := [.int i, .ref (kV K w)]) hF tJ0_charAt_5068e_ok 5 1 rfl rfl rfl rfl ?_
  refine g_cS (S := []) hF (J1_charAt_ok hw e (Nat.le_refl _)) mbJ1_charAt_3b067 msJ1_charAt_3b067 mlJ0_495 (by omega) (by decide) (dAt tJ0_charAt_5068e_ok 6 rfl rfl) rfl rfl (Nat.le_of_ble_eq_true rfl) rfl rfl (by decide) (by decide) rfl ?_
  exact g_nret hF hE q3 (dAt tJ0_charAt_5068e_ok 7 rfl rfl) (by decide) (by decide)
end
section
/-! Math.max, Math.min. -/
def mmax (x y : Int32) : Int32 := if x < y then y else x
def mmin (x y : Int32) : Int32 := if y < x then y else x
theorem mm_w : Cond.static Lib.Math.max.name ∈ gtb ∧ Cond.initialized "java/lang/Math" ∈ gtb ∧ Cond.code Lib.Math.max.name Lib.Math.max.code 2 (some .int) ∈ gtb ∧ Cond.static Lib.Math.min.name ∈ gtb ∧ Cond.code Lib.Math.min.name Lib.Math.min.code 2 (some .int) ∈ gtb := by decide +kernel
theorem g_mmax {K : Kt} {X : Cx} {cc : ByteArray} {nL : Nat} {own : String} {D mc ms k n pc idx : Nat} {L : Lo} {S : List Value} {h : Hp} {x y : Int32} (hF : Fx K X cc nL own D mc ms) (hlk : Cond.methodLink own idx Lib.Math.max.name ∈ gtb) (hd : decode cc pc = .ok (.invokestatic idx, 3)) (hD : 1 ≤ D) (hS : (S.map fun v => v.category).sum ≤ 8) (hc : k ≤ mc) (hs : n ≤ ms) (kk : G K X nL k n (pc + 3) L (.int (mmax x y) :: S) h) : G K X nL k n pc L (.int y :: .int x :: S) h := by
  intro H locs ls hR hq hl
  have h1 := hF.fr; have h2 := hF.lo; have h3 := hF.ce; have h4 := hF.sl
  exact va_mmax hF.ex hF.co (hF.ml.trans hl.1.symm) hF.ow (hF.ts _ hlk) (hF.ts _ mm_w.1) (hF.ts _ mm_w.2.1) (hF.ts _ mm_w.2.2.1) (by omega) (by omega) (by omega) (by omega) hd (kk H locs ls hR hq hl)
theorem g_mmin {K : Kt} {X : Cx} {cc : ByteArray} {nL : Nat} {own : String} {D mc ms k n pc idx : Nat} {L : Lo} {S : List Value} {h : Hp} {x y : Int32} (hF : Fx K X cc nL own D mc ms) (hlk : Cond.methodLink own idx Lib.Math.min.name ∈ gtb) (hd : decode cc pc = .ok (.invokestatic idx, 3)) (hD : 1 ≤ D) (hS : (S.map fun v => v.category).sum ≤ 8) (hc : k ≤ mc) (hs : n ≤ ms) (kk : G K X nL k n (pc + 3) L (.int (mmin x y) :: S) h) : G K X nL k n pc L (.int y :: .int x :: S) h := by
  intro H locs ls hR hq hl
  have h1 := hF.fr; have h2 := hF.lo; have h3 := hF.ce; have h4 := hF.sl
  exact va_mmin hF.ex hF.co (hF.ml.trans hl.1.symm) hF.ow (hF.ts _ hlk) (hF.ts _ mm_w.2.2.2.1) (hF.ts _ mm_w.2.1) (hF.ts _ mm_w.2.2.2.2) (by omega) (by omega) (by omega) (by omega) hd (kk H locs ls hR hq hl)
end
section
/-! Math.max, Math.min, Integer.bitCount, Arrays.fill. -/
def J6_bitCount_0f7a4_f (x0 : Int32) (σ : Sig) : Option (Int32) := some ((((((((x0 - (((x0 : Int32).toUInt32 >>> ((1 : Int32).toUInt32 &&& Int32.toUInt32 31)).toInt32 &&& 1431655765)) &&& 858993459) + ((((x0 - (((x0 : Int32).toUInt32 >>> ((1 : Int32).toUInt32 &&& Int32.toUInt32 31)).toInt32 &&& 1431655765)) : Int32).toUInt32 >>> ((2 : Int32).toUInt32 &&& Int32.toUInt32 31)).toInt32 &&& 858993459)) + (((((x0 - (((x0 : Int32).toUInt32 >>> ((1 : Int32).toUInt32 &&& Int32.toUInt32 31)).toInt32 &&& 1431655765)) &&& 858993459) + ((((x0 - (((x0 : Int32).toUInt32 >>> ((1 : Int32).toUInt32 &&& Int32.toUInt32 31)).toInt32 &&& 1431655765)) : Int32).toUInt32 >>> ((2 : Int32).toUInt32 &&& Int32.toUInt32 31)).toInt32 &&& 858993459)) : Int32).toUInt32 >>> ((4 : Int32).toUInt32 &&& Int32.toUInt32 31)).toInt32) &&& 252645135) + (((((((x0 - (((x0 : Int32).toUInt32 >>> ((1 : Int32).toUInt32 &&& Int32.toUInt32 31)).toInt32 &&& 1431655765)) &&& 858993459) + ((((x0 - (((x0 : Int32).toUInt32 >>> ((1 : Int32).toUInt32 &&& Int32.toUInt32 31)).toInt32 &&& 1431655765)) : Int32).toUInt32 >>> ((2 : Int32).toUInt32 &&& Int32.toUInt32 31)).toInt32 &&& 858993459)) + (((((x0 - (((x0 : Int32).toUInt32 >>> ((1 : Int32).toUInt32 &&& Int32.toUInt32 31)).toInt32 &&& 1431655765)) &&& 858993459) + ((((x0 - (((x0 : Int32).toUInt32 >>> ((1 : Int32).toUInt32 &&& Int32.toUInt32 31)).toInt32 &&& 1431655765)) : Int32).toUInt32 >>> ((2 : Int32).toUInt32 &&& Int32.toUInt32 31)).toInt32 &&& 858993459)) : Int32).toUInt32 >>> ((4 : Int32).toUInt32 &&& Int32.toUInt32 31)).toInt32) &&& 252645135) : Int32).toUInt32 >>> ((8 : Int32).toUInt32 &&& Int32.toUInt32 31)).toInt32) + ((((((((x0 - (((x0 : Int32).toUInt32 >>> ((1 : Int32).toUInt32 &&& Int32.toUInt32 31)).toInt32 &&& 1431655765)) &&& 858993459) + ((((x0 - (((x0 : Int32).toUInt32 >>> ((1 : Int32).toUInt32 &&& Int32.toUInt32 31)).toInt32 &&& 1431655765)) : Int32).toUInt32 >>> ((2 : Int32).toUInt32 &&& Int32.toUInt32 31)).toInt32 &&& 858993459)) + (((((x0 - (((x0 : Int32).toUInt32 >>> ((1 : Int32).toUInt32 &&& Int32.toUInt32 31)).toInt32 &&& 1431655765)) &&& 858993459) + ((((x0 - (((x0 : Int32).toUInt32 >>> ((1 : Int32).toUInt32 &&& Int32.toUInt32 31)).toInt32 &&& 1431655765)) : Int32).toUInt32 >>> ((2 : Int32).toUInt32 &&& Int32.toUInt32 31)).toInt32 &&& 858993459)) : Int32).toUInt32 >>> ((4 : Int32).toUInt32 &&& Int32.toUInt32 31)).toInt32) &&& 252645135) + (((((((x0 - (((x0 : Int32).toUInt32 >>> ((1 : Int32).toUInt32 &&& Int32.toUInt32 31)).toInt32 &&& 1431655765)) &&& 858993459) + ((((x0 - (((x0 : Int32).toUInt32 >>> ((1 : Int32).toUInt32 &&& Int32.toUInt32 31)).toInt32 &&& 1431655765)) : Int32).toUInt32 >>> ((2 : Int32).toUInt32 &&& Int32.toUInt32 31)).toInt32 &&& 858993459)) + (((((x0 - (((x0 : Int32).toUInt32 >>> ((1 : Int32).toUInt32 &&& Int32.toUInt32 31)).toInt32 &&& 1431655765)) &&& 858993459) + ((((x0 - (((x0 : Int32).toUInt32 >>> ((1 : Int32).toUInt32 &&& Int32.toUInt32 31)).toInt32 &&& 1431655765)) : Int32).toUInt32 >>> ((2 : Int32).toUInt32 &&& Int32.toUInt32 31)).toInt32 &&& 858993459)) : Int32).toUInt32 >>> ((4 : Int32).toUInt32 &&& Int32.toUInt32 31)).toInt32) &&& 252645135) : Int32).toUInt32 >>> ((8 : Int32).toUInt32 &&& Int32.toUInt32 31)).toInt32) : Int32).toUInt32 >>> ((16 : Int32).toUInt32 &&& Int32.toUInt32 31)).toInt32) &&& 63)
set_option maxRecDepth 4000 in
set_option maxHeartbeats 1000000 in
theorem J6_bitCount_0f7a4_ok {D : Nat} {τ : Tau} {nx : Nat} {x0 : Int32} {σ : Sig} {res : Int32} (hD : 1 ≤ D) (H : J6_bitCount_0f7a4_f x0 σ = some res) : Ok D 0 0 yJ6_bitCount_0f7a4 cJ6_bitCount_0f7a4 1 (some .int) [.int x0] (τ, σ, nx) (some (.int res)) (τ, σ, nx) := by
  refine ok_of (by decide +kernel) rfl (Nat.le_of_ble_eq_true rfl) (fun K X hF hE hN L0 hL0 => ?_)
  obtain rfl : [some (.int x0)] = L0 := hL0
  have hF : Fx K X cJ6_bitCount_0f7a4 1 RJ6 D 0 0 := hF
  refine g_p (S' := [.int (((x0 : Int32).toUInt32 >>> ((1 : Int32).toUInt32 &&& Int32.toUInt32 31)).toInt32), .int x0]) hF tJ6_bitCount_0f7a4_ok 0 4 rfl rfl rfl rfl ?_
  refine g_ldcw hF (dAt tJ6_bitCount_0f7a4_ok 4 rfl rfl) coJ6_265 ?_
  refine g_p (L' := [some (.int (x0 - (((x0 : Int32).toUInt32 >>> ((1 : Int32).toUInt32 &&& Int32.toUInt32 31)).toInt32 &&& 1431655765)))]) (S' := [.int (x0 - (((x0 : Int32).toUInt32 >>> ((1 : Int32).toUInt32 &&& Int32.toUInt32 31)).toInt32 &&& 1431655765))]) hF tJ6_bitCount_0f7a4_ok 5 4 rfl rfl rfl rfl ?_
  refine g_ldcw hF (dAt tJ6_bitCount_0f7a4_ok 9 rfl rfl) coJ6_266 ?_
  refine g_p (S' := [.int ((((x0 - (((x0 : Int32).toUInt32 >>> ((1 : Int32).toUInt32 &&& Int32.toUInt32 31)).toInt32 &&& 1431655765)) : Int32).toUInt32 >>> ((2 : Int32).toUInt32 &&& Int32.toUInt32 31)).toInt32), .int ((x0 - (((x0 : Int32).toUInt32 >>> ((1 : Int32).toUInt32 &&& Int32.toUInt32 31)).toInt32 &&& 1431655765)) &&& 858993459)]) hF tJ6_bitCount_0f7a4_ok 10 4 rfl rfl rfl rfl ?_
  refine g_ldcw hF (dAt tJ6_bitCount_0f7a4_ok 14 rfl rfl) coJ6_266 ?_
  refine g_p (L' := [some (.int (((x0 - (((x0 : Int32).toUInt32 >>> ((1 : Int32).toUInt32 &&& Int32.toUInt32 31)).toInt32 &&& 1431655765)) &&& 858993459) + ((((x0 - (((x0 : Int32).toUInt32 >>> ((1 : Int32).toUInt32 &&& Int32.toUInt32 31)).toInt32 &&& 1431655765)) : Int32).toUInt32 >>> ((2 : Int32).toUInt32 &&& Int32.toUInt32 31)).toInt32 &&& 858993459)))]) (S' := [.int ((((x0 - (((x0 : Int32).toUInt32 >>> ((1 : Int32).toUInt32 &&& Int32.toUInt32 31)).toInt32 &&& 1431655765)) &&& 858993459) + ((((x0 - (((x0 : Int32).toUInt32 >>> ((1 : Int32).toUInt32 &&& Int32.toUInt32 31)).toInt32 &&& 1431655765)) : Int32).toUInt32 >>> ((2 : Int32).toUInt32 &&& Int32.toUInt32 31)).toInt32 &&& 858993459)) + (((((x0 - (((x0 : Int32).toUInt32 >>> ((1 : Int32).toUInt32 &&& Int32.toUInt32 31)).toInt32 &&& 1431655765)) &&& 858993459) + ((((x0 - (((x0 : Int32).toUInt32 >>> ((1 : Int32).toUInt32 &&& Int32.toUInt32 31)).toInt32 &&& 1431655765)) : Int32).toUInt32 >>> ((2 : Int32).toUInt32 &&& Int32.toUInt32 31)).toInt32 &&& 858993459)) : Int32).toUInt32 >>> ((4 : Int32).toUInt32 &&& Int32.toUInt32 31)).toInt32)]) hF tJ6_bitCount_0f7a4_ok 15 8 rfl rfl rfl rfl ?_
  refine g_ldcw hF (dAt tJ6_bitCount_0f7a4_ok 23 rfl rfl) coJ6_267 ?_
  refine g_p (L' := [some (.int (((((((x0 - (((x0 : Int32).toUInt32 >>> ((1 : Int32).toUInt32 &&& Int32.toUInt32 31)).toInt32 &&& 1431655765)) &&& 858993459) + ((((x0 - (((x0 : Int32).toUInt32 >>> ((1 : Int32).toUInt32 &&& Int32.toUInt32 31)).toInt32 &&& 1431655765)) : Int32).toUInt32 >>> ((2 : Int32).toUInt32 &&& Int32.toUInt32 31)).toInt32 &&& 858993459)) + (((((x0 - (((x0 : Int32).toUInt32 >>> ((1 : Int32).toUInt32 &&& Int32.toUInt32 31)).toInt32 &&& 1431655765)) &&& 858993459) + ((((x0 - (((x0 : Int32).toUInt32 >>> ((1 : Int32).toUInt32 &&& Int32.toUInt32 31)).toInt32 &&& 1431655765)) : Int32).toUInt32 >>> ((2 : Int32).toUInt32 &&& Int32.toUInt32 31)).toInt32 &&& 858993459)) : Int32).toUInt32 >>> ((4 : Int32).toUInt32 &&& Int32.toUInt32 31)).toInt32) &&& 252645135) + (((((((x0 - (((x0 : Int32).toUInt32 >>> ((1 : Int32).toUInt32 &&& Int32.toUInt32 31)).toInt32 &&& 1431655765)) &&& 858993459) + ((((x0 - (((x0 : Int32).toUInt32 >>> ((1 : Int32).toUInt32 &&& Int32.toUInt32 31)).toInt32 &&& 1431655765)) : Int32).toUInt32 >>> ((2 : Int32).toUInt32 &&& Int32.toUInt32 31)).toInt32 &&& 858993459)) + (((((x0 - (((x0 : Int32).toUInt32 >>> ((1 : Int32).toUInt32 &&& Int32.toUInt32 31)).toInt32 &&& 1431655765)) &&& 858993459) + ((((x0 - (((x0 : Int32).toUInt32 >>> ((1 : Int32).toUInt32 &&& Int32.toUInt32 31)).toInt32 &&& 1431655765)) : Int32).toUInt32 >>> ((2 : Int32).toUInt32 &&& Int32.toUInt32 31)).toInt32 &&& 858993459)) : Int32).toUInt32 >>> ((4 : Int32).toUInt32 &&& Int32.toUInt32 31)).toInt32) &&& 252645135) : Int32).toUInt32 >>> ((8 : Int32).toUInt32 &&& Int32.toUInt32 31)).toInt32) + ((((((((x0 - (((x0 : Int32).toUInt32 >>> ((1 : Int32).toUInt32 &&& Int32.toUInt32 31)).toInt32 &&& 1431655765)) &&& 858993459) + ((((x0 - (((x0 : Int32).toUInt32 >>> ((1 : Int32).toUInt32 &&& Int32.toUInt32 31)).toInt32 &&& 1431655765)) : Int32).toUInt32 >>> ((2 : Int32).toUInt32 &&& Int32.toUInt32 31)).toInt32 &&& 858993459)) + (((((x0 - (((x0 : Int32).toUInt32 >>> ((1 : Int32).toUInt32 &&& Int32.toUInt32 31)).toInt32 &&& 1431655765)) &&& 858993459) + ((((x0 - (((x0 : Int32).toUInt32 >>> ((1 : Int32).toUInt32 &&& Int32.toUInt32 31)).toInt32 &&& 1431655765)) : Int32).toUInt32 >>> ((2 : Int32).toUInt32 &&& Int32.toUInt32 31)).toInt32 &&& 858993459)) : Int32).toUInt32 >>> ((4 : Int32).toUInt32 &&& Int32.toUInt32 31)).toInt32) &&& 252645135) + (((((((x0 - (((x0 : Int32).toUInt32 >>> ((1 : Int32).toUInt32 &&& Int32.toUInt32 31)).toInt32 &&& 1431655765)) &&& 858993459) + ((((x0 - (((x0 : Int32).toUInt32 >>> ((1 : Int32).toUInt32 &&& Int32.toUInt32 31)).toInt32 &&& 1431655765)) : Int32).toUInt32 >>> ((2 : Int32).toUInt32 &&& Int32.toUInt32 31)).toInt32 &&& 858993459)) + (((((x0 - (((x0 : Int32).toUInt32 >>> ((1 : Int32).toUInt32 &&& Int32.toUInt32 31)).toInt32 &&& 1431655765)) &&& 858993459) + ((((x0 - (((x0 : Int32).toUInt32 >>> ((1 : Int32).toUInt32 &&& Int32.toUInt32 31)).toInt32 &&& 1431655765)) : Int32).toUInt32 >>> ((2 : Int32).toUInt32 &&& Int32.toUInt32 31)).toInt32 &&& 858993459)) : Int32).toUInt32 >>> ((4 : Int32).toUInt32 &&& Int32.toUInt32 31)).toInt32) &&& 252645135) : Int32).toUInt32 >>> ((8 : Int32).toUInt32 &&& Int32.toUInt32 31)).toInt32) : Int32).toUInt32 >>> ((16 : Int32).toUInt32 &&& Int32.toUInt32 31)).toInt32))]) (S' := [.int ((((((((x0 - (((x0 : Int32).toUInt32 >>> ((1 : Int32).toUInt32 &&& Int32.toUInt32 31)).toInt32 &&& 1431655765)) &&& 858993459) + ((((x0 - (((x0 : Int32).toUInt32 >>> ((1 : Int32).toUInt32 &&& Int32.toUInt32 31)).toInt32 &&& 1431655765)) : Int32).toUInt32 >>> ((2 : Int32).toUInt32 &&& Int32.toUInt32 31)).toInt32 &&& 858993459)) + (((((x0 - (((x0 : Int32).toUInt32 >>> ((1 : Int32).toUInt32 &&& Int32.toUInt32 31)).toInt32 &&& 1431655765)) &&& 858993459) + ((((x0 - (((x0 : Int32).toUInt32 >>> ((1 : Int32).toUInt32 &&& Int32.toUInt32 31)).toInt32 &&& 1431655765)) : Int32).toUInt32 >>> ((2 : Int32).toUInt32 &&& Int32.toUInt32 31)).toInt32 &&& 858993459)) : Int32).toUInt32 >>> ((4 : Int32).toUInt32 &&& Int32.toUInt32 31)).toInt32) &&& 252645135) + (((((((x0 - (((x0 : Int32).toUInt32 >>> ((1 : Int32).toUInt32 &&& Int32.toUInt32 31)).toInt32 &&& 1431655765)) &&& 858993459) + ((((x0 - (((x0 : Int32).toUInt32 >>> ((1 : Int32).toUInt32 &&& Int32.toUInt32 31)).toInt32 &&& 1431655765)) : Int32).toUInt32 >>> ((2 : Int32).toUInt32 &&& Int32.toUInt32 31)).toInt32 &&& 858993459)) + (((((x0 - (((x0 : Int32).toUInt32 >>> ((1 : Int32).toUInt32 &&& Int32.toUInt32 31)).toInt32 &&& 1431655765)) &&& 858993459) + ((((x0 - (((x0 : Int32).toUInt32 >>> ((1 : Int32).toUInt32 &&& Int32.toUInt32 31)).toInt32 &&& 1431655765)) : Int32).toUInt32 >>> ((2 : Int32).toUInt32 &&& Int32.toUInt32 31)).toInt32 &&& 858993459)) : Int32).toUInt32 >>> ((4 : Int32).toUInt32 &&& Int32.toUInt32 31)).toInt32) &&& 252645135) : Int32).toUInt32 >>> ((8 : Int32).toUInt32 &&& Int32.toUInt32 31)).toInt32) + ((((((((x0 - (((x0 : Int32).toUInt32 >>> ((1 : Int32).toUInt32 &&& Int32.toUInt32 31)).toInt32 &&& 1431655765)) &&& 858993459) + ((((x0 - (((x0 : Int32).toUInt32 >>> ((1 : Int32).toUInt32 &&& Int32.toUInt32 31)).toInt32 &&& 1431655765)) : Int32).toUInt32 >>> ((2 : Int32).toUInt32 &&& Int32.toUInt32 31)).toInt32 &&& 858993459)) + (((((x0 - (((x0 : Int32).toUInt32 >>> ((1 : Int32).toUInt32 &&& Int32.toUInt32 31)).toInt32 &&& 1431655765)) &&& 858993459) + ((((x0 - (((x0 : Int32).toUInt32 >>> ((1 : Int32).toUInt32 &&& Int32.toUInt32 31)).toInt32 &&& 1431655765)) : Int32).toUInt32 >>> ((2 : Int32).toUInt32 &&& Int32.toUInt32 31)).toInt32 &&& 858993459)) : Int32).toUInt32 >>> ((4 : Int32).toUInt32 &&& Int32.toUInt32 31)).toInt32) &&& 252645135) + (((((((x0 - (((x0 : Int32).toUInt32 >>> ((1 : Int32).toUInt32 &&& Int32.toUInt32 31)).toInt32 &&& 1431655765)) &&& 858993459) + ((((x0 - (((x0 : Int32).toUInt32 >>> ((1 : Int32).toUInt32 &&& Int32.toUInt32 31)).toInt32 &&& 1431655765)) : Int32).toUInt32 >>> ((2 : Int32).toUInt32 &&& Int32.toUInt32 31)).toInt32 &&& 858993459)) + (((((x0 - (((x0 : Int32).toUInt32 >>> ((1 : Int32).toUInt32 &&& Int32.toUInt32 31)).toInt32 &&& 1431655765)) &&& 858993459) + ((((x0 - (((x0 : Int32).toUInt32 >>> ((1 : Int32).toUInt32 &&& Int32.toUInt32 31)).toInt32 &&& 1431655765)) : Int32).toUInt32 >>> ((2 : Int32).toUInt32 &&& Int32.toUInt32 31)).toInt32 &&& 858993459)) : Int32).toUInt32 >>> ((4 : Int32).toUInt32 &&& Int32.toUInt32 31)).toInt32) &&& 252645135) : Int32).toUInt32 >>> ((8 : Int32).toUInt32 &&& Int32.toUInt32 31)).toInt32) : Int32).toUInt32 >>> ((16 : Int32).toUInt32 &&& Int32.toUInt32 31)).toInt32) &&& 63)]) hF tJ6_bitCount_0f7a4_ok 24 17 rfl rfl rfl rfl ?_
  exact g_iret hF (en_i H hE) (dAt tJ6_bitCount_0f7a4_ok 41 rfl rfl) (by decide) (by decide)
def J7_fill_53178_b5 (r0 : Nat) (n0_ : Nat) : Nat → Int32 → Int32 → Int32 → Sig → Option (Sig)
  | 0, _, _, _, _ => none
  | fu + 1, x1, x2, x3, σ => if x3 ≤ x2 then (some σ) else ((st n0_ σ r0 x2 x1).bind fun s2 => J7_fill_53178_b5 r0 n0_ fu x1 (x2 + 1) x3 s2)
set_option maxRecDepth 4000 in
set_option maxHeartbeats 1000000 in
theorem J7_fill_53178_b5_ok {K : Kt} {X : Cx} {D : Nat} {τ : Tau} {nx : Nat} {r0 : Nat} {n0_ : Nat} {res : Sig}  (hD : 1 ≤ D) (hF : Fx K X cJ7_fill_53178 4 RJ7 D 0 0) (hr0 : τ r0 = some (.inr (.inl n0_))) (hE : En K X none 0 0 none (τ, res, nx)) : ∀ (fu : Nat) (x1 x2 x3 : Int32) (σ : Sig), J7_fill_53178_b5 r0 n0_ fu x1 x2 x3 σ = some res → G K X 4 0 0 5 [some (.ref r0), some (.int x1), some (.int x2), some (.int x3)] [] (τ, σ, nx)
  | 0, _, _, _, _, H => nomatch H
  | fu + 1, x1, x2, x3, σ, H => by
    refine g_p (S' := [.int x3, .int x2]) hF tJ7_fill_53178_ok 5 2 rfl rfl rfl rfl ?_
    obtain ⟨Ht1, Hf1⟩ := oi H
    refine g_icmp_ge hF (dAt tJ7_fill_53178_ok 7 rfl rfl) rfl (fun c1 => ?_) (fun c1 => ?_)
    · have H := Ht1 c1
      exact g_vret hF (en_v H hE) (dAt tJ7_fill_53178_ok 14 rfl rfl) (by decide) (by decide)
    · have H := Hf1 c1
      refine g_p (S' := [.int x1, .int x2, .ref r0]) hF tJ7_fill_53178_ok 8 3 rfl rfl rfl rfl ?_
      obtain ⟨s2, e3, H⟩ := ob H
      refine g_ist hF (dAt tJ7_fill_53178_ok 11 rfl rfl) hr0 e3 ?_
      refine g_p (L' := [some (.ref r0), some (.int x1), some (.int (x2 + 1)), some (.int x3)]) (S' := []) hF tJ7_fill_53178_ok 12 1 rfl rfl rfl rfl ?_
      refine g_goto hF (dAt tJ7_fill_53178_ok 13 rfl rfl) rfl ?_
      exact J7_fill_53178_b5_ok hD hF hr0 hE fu _ _ _ _ H
def J7_fill_53178_f (r0 : Nat) (n0_ : Nat) (x1 : Int32) (σ : Sig) : Option (Sig) := J7_fill_53178_b5 r0 n0_ FU x1 0 (Int32.ofNat n0_) σ
set_option maxRecDepth 4000 in
set_option maxHeartbeats 1000000 in
theorem J7_fill_53178_ok {D : Nat} {τ : Tau} {nx : Nat} {r0 : Nat} {n0_ : Nat} {x1 : Int32} {σ : Sig} {res : Sig} (hD : 1 ≤ D) (hr0 : τ r0 = some (.inr (.inl n0_))) (H : J7_fill_53178_f r0 n0_ x1 σ = some res) : Ok D 0 0 yJ7_fill_53178 cJ7_fill_53178 4 none [.ref r0, .int x1] (τ, σ, nx) none (τ, res, nx) := by
  refine ok_of (by decide +kernel) rfl (Nat.le_of_ble_eq_true rfl) (fun K X hF hE hN L0 hL0 => ?_)
  obtain rfl : [some (.ref r0), some (.int x1), none, none] = L0 := hL0
  have hF : Fx K X cJ7_fill_53178 4 RJ7 D 0 0 := hF
  refine g_p (L' := [some (.ref r0), some (.int x1), some (.int 0), none]) (S' := [.ref r0]) hF tJ7_fill_53178_ok 0 3 rfl rfl rfl rfl ?_
  refine g_alen hF (dAt tJ7_fill_53178_ok 3 rfl rfl) hr0 rfl ?_
  refine g_p (L' := [some (.ref r0), some (.int x1), some (.int 0), some (.int (Int32.ofNat n0_))]) (S' := []) hF tJ7_fill_53178_ok 4 1 rfl rfl rfl rfl ?_
  exact J7_fill_53178_b5_ok hD hF hr0 hE FU _ _ _ _ H
end
section
/-! The static helpers. -/
def X11_isWithin_f (x0 x1 x2 : Int32) (σ : Sig) : Option (Int32) := if x0 < x1 then (some 0) else (if x2 < x0 then (some 0) else (some 1))
set_option maxRecDepth 4000 in
set_option maxHeartbeats 1000000 in
theorem X11_isWithin_ok {D : Nat} {τ : Tau} {nx : Nat} {x0 x1 x2 : Int32} {σ : Sig} {res : Int32} (hD : 1 ≤ D) (H : X11_isWithin_f x0 x1 x2 σ = some res) : Ok D 0 0 yX11_isWithin cX11_isWithin 3 (some .boolean) [.int x0, .int x1, .int x2] (τ, σ, nx) (some (.int res)) (τ, σ, nx) := by
  refine ok_of (by decide +kernel) rfl (Nat.le_of_ble_eq_true rfl) (fun K X hF hE hN L0 hL0 => ?_)
  obtain rfl : [some (.int x0), some (.int x1), some (.int x2)] = L0 := hL0
  have hF : Fx K X cX11_isWithin 3 RX11 D 0 0 := hF
  refine g_p (S' := [.int x1, .int x0]) hF tX11_isWithin_ok 0 2 rfl rfl rfl rfl ?_
  obtain ⟨Ht1, Hf1⟩ := oi H
  refine g_icmp_lt hF (dAt tX11_isWithin_ok 2 rfl rfl) rfl (fun c1 => ?_) (fun c1 => ?_)
  · have H := Ht1 c1
    refine g_p (S' := [.int 0]) hF tX11_isWithin_ok 8 1 rfl rfl rfl rfl ?_
    exact g_zret hF (en_i H hE) (Or.inl rfl) (dAt tX11_isWithin_ok 9 rfl rfl) (by decide) (by decide)
  · have H := Hf1 c1
    refine g_p (S' := [.int x2, .int x0]) hF tX11_isWithin_ok 3 2 rfl rfl rfl rfl ?_
    obtain ⟨Ht2, Hf2⟩ := oi H
    refine g_icmp_gt hF (dAt tX11_isWithin_ok 5 rfl rfl) rfl (fun c2 => ?_) (fun c2 => ?_)
    · have H := Ht2 c2
      refine g_p (S' := [.int 0]) hF tX11_isWithin_ok 8 1 rfl rfl rfl rfl ?_
      exact g_zret hF (en_i H hE) (Or.inl rfl) (dAt tX11_isWithin_ok 9 rfl rfl) (by decide) (by decide)
    · have H := Hf2 c2
      refine g_p (S' := [.int 1]) hF tX11_isWithin_ok 6 1 rfl rfl rfl rfl ?_
      refine g_goto hF (dAt tX11_isWithin_ok 7 rfl rfl) rfl ?_
      exact g_zret hF (en_i H hE) (Or.inr rfl) (dAt tX11_isWithin_ok 9 rfl rfl) (by decide) (by decide)
def X11_isPlace_f (x0 : Int32) (σ : Sig) : Option (Int32) := if x0 < 0 then (some 0) else (if 6 ≤ x0 then (some 0) else (some 1))
set_option maxRecDepth 4000 in
set_option maxHeartbeats 1000000 in
theorem X11_isPlace_ok {D : Nat} {τ : Tau} {nx : Nat} {x0 : Int32} {σ : Sig} {res : Int32} (hD : 1 ≤ D) (H : X11_isPlace_f x0 σ = some res) : Ok D 0 0 yX11_isPlace cX11_isPlace 1 (some .boolean) [.int x0] (τ, σ, nx) (some (.int res)) (τ, σ, nx) := by
  refine ok_of (by decide +kernel) rfl (Nat.le_of_ble_eq_true rfl) (fun K X hF hE hN L0 hL0 => ?_)
  obtain rfl : [some (.int x0)] = L0 := hL0
  have hF : Fx K X cX11_isPlace 1 RX11 D 0 0 := hF
  refine g_p (S' := [.int x0]) hF tX11_isPlace_ok 0 1 rfl rfl rfl rfl ?_
  obtain ⟨Ht1, Hf1⟩ := oi H
  refine g_if_lt hF (dAt tX11_isPlace_ok 1 rfl rfl) rfl (fun c1 => ?_) (fun c1 => ?_)
  · have H := Ht1 c1
    refine g_p (S' := [.int 0]) hF tX11_isPlace_ok 7 1 rfl rfl rfl rfl ?_
    exact g_zret hF (en_i H hE) (Or.inl rfl) (dAt tX11_isPlace_ok 8 rfl rfl) (by decide) (by decide)
  · have H := Hf1 c1
    refine g_p (S' := [.int 6, .int x0]) hF tX11_isPlace_ok 2 2 rfl rfl rfl rfl ?_
    obtain ⟨Ht2, Hf2⟩ := oi H
    refine g_icmp_ge hF (dAt tX11_isPlace_ok 4 rfl rfl) rfl (fun c2 => ?_) (fun c2 => ?_)
    · have H := Ht2 c2
      refine g_p (S' := [.int 0]) hF tX11_isPlace_ok 7 1 rfl rfl rfl rfl ?_
      exact g_zret hF (en_i H hE) (Or.inl rfl) (dAt tX11_isPlace_ok 8 rfl rfl) (by decide) (by decide)
    · have H := Hf2 c2
      refine g_p (S' := [.int 1]) hF tX11_isPlace_ok 5 1 rfl rfl rfl rfl ?_
      refine g_goto hF (dAt tX11_isPlace_ok 6 rfl rfl) rfl ?_
      exact g_zret hF (en_i H hE) (Or.inr rfl) (dAt tX11_isPlace_ok 8 rfl rfl) (by decide) (by decide)
def X11_isHour_f (x0 : Int32) (σ : Sig) : Option (Int32) := if x0 < 0 then (some 0) else (if 24 ≤ x0 then (some 0) else (some 1))
set_option maxRecDepth 4000 in
set_option maxHeartbeats 1000000 in
theorem X11_isHour_ok {D : Nat} {τ : Tau} {nx : Nat} {x0 : Int32} {σ : Sig} {res : Int32} (hD : 1 ≤ D) (H : X11_isHour_f x0 σ = some res) : Ok D 0 0 yX11_isHour cX11_isHour 1 (some .boolean) [.int x0] (τ, σ, nx) (some (.int res)) (τ, σ, nx) := by
  refine ok_of (by decide +kernel) rfl (Nat.le_of_ble_eq_true rfl) (fun K X hF hE hN L0 hL0 => ?_)
  obtain rfl : [some (.int x0)] = L0 := hL0
  have hF : Fx K X cX11_isHour 1 RX11 D 0 0 := hF
  refine g_p (S' := [.int x0]) hF tX11_isHour_ok 0 1 rfl rfl rfl rfl ?_
  obtain ⟨Ht1, Hf1⟩ := oi H
  refine g_if_lt hF (dAt tX11_isHour_ok 1 rfl rfl) rfl (fun c1 => ?_) (fun c1 => ?_)
  · have H := Ht1 c1
    refine g_p (S' := [.int 0]) hF tX11_isHour_ok 7 1 rfl rfl rfl rfl ?_
    exact g_zret hF (en_i H hE) (Or.inl rfl) (dAt tX11_isHour_ok 8 rfl rfl) (by decide) (by decide)
  · have H := Hf1 c1
    refine g_p (S' := [.int 24, .int x0]) hF tX11_isHour_ok 2 2 rfl rfl rfl rfl ?_
    obtain ⟨Ht2, Hf2⟩ := oi H
    refine g_icmp_ge hF (dAt tX11_isHour_ok 4 rfl rfl) rfl (fun c2 => ?_) (fun c2 => ?_)
    · have H := Ht2 c2
      refine g_p (S' := [.int 0]) hF tX11_isHour_ok 7 1 rfl rfl rfl rfl ?_
      exact g_zret hF (en_i H hE) (Or.inl rfl) (dAt tX11_isHour_ok 8 rfl rfl) (by decide) (by decide)
    · have H := Hf2 c2
      refine g_p (S' := [.int 1]) hF tX11_isHour_ok 5 1 rfl rfl rfl rfl ?_
      refine g_goto hF (dAt tX11_isHour_ok 6 rfl rfl) rfl ?_
      exact g_zret hF (en_i H hE) (Or.inr rfl) (dAt tX11_isHour_ok 8 rfl rfl) (by decide) (by decide)
def X11_isLaw_f (x0 : Int32) (σ : Sig) : Option (Int32) := if x0 < 0 then (some 0) else (if 2 ≤ x0 then (some 0) else (some 1))
set_option maxRecDepth 4000 in
set_option maxHeartbeats 1000000 in
theorem X11_isLaw_ok {D : Nat} {τ : Tau} {nx : Nat} {x0 : Int32} {σ : Sig} {res : Int32} (hD : 1 ≤ D) (H : X11_isLaw_f x0 σ = some res) : Ok D 0 0 yX11_isLaw cX11_isLaw 1 (some .boolean) [.int x0] (τ, σ, nx) (some (.int res)) (τ, σ, nx) := by
  refine ok_of (by decide +kernel) rfl (Nat.le_of_ble_eq_true rfl) (fun K X hF hE hN L0 hL0 => ?_)
  obtain rfl : [some (.int x0)] = L0 := hL0
  have hF : Fx K X cX11_isLaw 1 RX11 D 0 0 := hF
  refine g_p (S' := [.int x0]) hF tX11_isLaw_ok 0 1 rfl rfl rfl rfl ?_
  obtain ⟨Ht1, Hf1⟩ := oi H
  refine g_if_lt hF (dAt tX11_isLaw_ok 1 rfl rfl) rfl (fun c1 => ?_) (fun c1 => ?_)
  · have H := Ht1 c1
    refine g_p (S' := [.int 0]) hF tX11_isLaw_ok 7 1 rfl rfl rfl rfl ?_
    exact g_zret hF (en_i H hE) (Or.inl rfl) (dAt tX11_isLaw_ok 8 rfl rfl) (by decide) (by decide)
  · have H := Hf1 c1
    refine g_p (S' := [.int 2, .int x0]) hF tX11_isLaw_ok 2 2 rfl rfl rfl rfl ?_
    obtain ⟨Ht2, Hf2⟩ := oi H
    refine g_icmp_ge hF (dAt tX11_isLaw_ok 4 rfl rfl) rfl (fun c2 => ?_) (fun c2 => ?_)
    · have H := Ht2 c2
      refine g_p (S' := [.int 0]) hF tX11_isLaw_ok 7 1 rfl rfl rfl rfl ?_
      exact g_zret hF (en_i H hE) (Or.inl rfl) (dAt tX11_isLaw_ok 8 rfl rfl) (by decide) (by decide)
    · have H := Hf2 c2
      refine g_p (S' := [.int 1]) hF tX11_isLaw_ok 5 1 rfl rfl rfl rfl ?_
      refine g_goto hF (dAt tX11_isLaw_ok 6 rfl rfl) rfl ?_
      exact g_zret hF (en_i H hE) (Or.inr rfl) (dAt tX11_isLaw_ok 8 rfl rfl) (by decide) (by decide)
def X11_isNightIn_f (x0 : Int32) (σ : Sig) : Option (Int32) := if x0 < 6 then (some 1) else (if x0 < 22 then (some 0) else (some 1))
set_option maxRecDepth 4000 in
set_option maxHeartbeats 1000000 in
theorem X11_isNightIn_ok {D : Nat} {τ : Tau} {nx : Nat} {x0 : Int32} {σ : Sig} {res : Int32} (hD : 1 ≤ D) (H : X11_isNightIn_f x0 σ = some res) : Ok D 0 0 yX11_isNightIn cX11_isNightIn 1 (some .boolean) [.int x0] (τ, σ, nx) (some (.int res)) (τ, σ, nx) := by
  refine ok_of (by decide +kernel) rfl (Nat.le_of_ble_eq_true rfl) (fun K X hF hE hN L0 hL0 => ?_)
  obtain rfl : [some (.int x0)] = L0 := hL0
  have hF : Fx K X cX11_isNightIn 1 RX11 D 0 0 := hF
  refine g_p (S' := [.int 6, .int x0]) hF tX11_isNightIn_ok 0 2 rfl rfl rfl rfl ?_
  obtain ⟨Ht1, Hf1⟩ := oi H
  refine g_icmp_lt hF (dAt tX11_isNightIn_ok 2 rfl rfl) rfl (fun c1 => ?_) (fun c1 => ?_)
  · have H := Ht1 c1
    refine g_p (S' := [.int 1]) hF tX11_isNightIn_ok 6 1 rfl rfl rfl rfl ?_
    refine g_goto hF (dAt tX11_isNightIn_ok 7 rfl rfl) rfl ?_
    exact g_zret hF (en_i H hE) (Or.inr rfl) (dAt tX11_isNightIn_ok 9 rfl rfl) (by decide) (by decide)
  · have H := Hf1 c1
    refine g_p (S' := [.int 22, .int x0]) hF tX11_isNightIn_ok 3 2 rfl rfl rfl rfl ?_
    obtain ⟨Ht2, Hf2⟩ := oi H
    refine g_icmp_lt hF (dAt tX11_isNightIn_ok 5 rfl rfl) rfl (fun c2 => ?_) (fun c2 => ?_)
    · have H := Ht2 c2
      refine g_p (S' := [.int 0]) hF tX11_isNightIn_ok 8 1 rfl rfl rfl rfl ?_
      exact g_zret hF (en_i H hE) (Or.inl rfl) (dAt tX11_isNightIn_ok 9 rfl rfl) (by decide) (by decide)
    · have H := Hf2 c2
      refine g_p (S' := [.int 1]) hF tX11_isNightIn_ok 6 1 rfl rfl rfl rfl ?_
      refine g_goto hF (dAt tX11_isNightIn_ok 7 rfl rfl) rfl ?_
      exact g_zret hF (en_i H hE) (Or.inr rfl) (dAt tX11_isNightIn_ok 9 rfl rfl) (by decide) (by decide)
def X11_upwards_f (x0 x1 : Int32) (σ : Sig) : Option (Int32) := if x1 ≤ 0 then (some 0) else (if x1 = 0 then none else (some (((x0 + x1) - 1) / x1)))
set_option maxRecDepth 4000 in
set_option maxHeartbeats 1000000 in
theorem X11_upwards_ok {D : Nat} {τ : Tau} {nx : Nat} {x0 x1 : Int32} {σ : Sig} {res : Int32} (hD : 1 ≤ D) (H : X11_upwards_f x0 x1 σ = some res) : Ok D 0 0 yX11_upwards cX11_upwards 2 (some .int) [.int x0, .int x1] (τ, σ, nx) (some (.int res)) (τ, σ, nx) := by
  refine ok_of (by decide +kernel) rfl (Nat.le_of_ble_eq_true rfl) (fun K X hF hE hN L0 hL0 => ?_)
  obtain rfl : [some (.int x0), some (.int x1)] = L0 := hL0
  have hF : Fx K X cX11_upwards 2 RX11 D 0 0 := hF
  refine g_p (S' := [.int x1]) hF tX11_upwards_ok 0 1 rfl rfl rfl rfl ?_
  obtain ⟨Ht1, Hf1⟩ := oi H
  refine g_if_le hF (dAt tX11_upwards_ok 1 rfl rfl) rfl (fun c1 => ?_) (fun c1 => ?_)
  · have H := Ht1 c1
    refine g_p (S' := [.int 0]) hF tX11_upwards_ok 10 1 rfl rfl rfl rfl ?_
    exact g_iret hF (en_i H hE) (dAt tX11_upwards_ok 11 rfl rfl) (by decide) (by decide)
  · have H := Hf1 c1
    refine g_p (S' := [.int x1, .int ((x0 + x1) - 1)]) hF tX11_upwards_ok 2 6 rfl rfl rfl rfl ?_
    obtain ⟨z2, H⟩ := on H
    refine g_idiv hF (dAt tX11_upwards_ok 8 rfl rfl) z2 ?_
    refine g_goto hF (dAt tX11_upwards_ok 9 rfl rfl) rfl ?_
    exact g_iret hF (en_i H hE) (dAt tX11_upwards_ok 11 rfl rfl) (by decide) (by decide)
end
section
/-! SilenceForMoney$Time -/
def X8_copyFrom_f (a : Nat) (r1 : Nat) (σ : Sig) : Option (Sig) := (pI σ a 0 (σ r1 0)).bind fun s1 => (pI s1 a 1 (s1 r1 1)).bind fun s3 => (pI s3 a 2 (s3 r1 2)).bind fun s5 => (pI s5 a 3 (s5 r1 3)).bind fun s7 => some s7
set_option maxRecDepth 4000 in
set_option maxHeartbeats 1000000 in
theorem X8_copyFrom_ok {D : Nat} {τ : Tau} {nx : Nat} {a : Nat} {r1 : Nat} {σ : Sig} {res : Sig} (hD : 1 ≤ D) (hS : ShX8 τ a) (hr1 : ShX8 τ r1) (H : X8_copyFrom_f a r1 σ = some res) : Ok D 0 0 yX8_copyFrom cX8_copyFrom 2 none [.ref a, .ref r1] (τ, σ, nx) none (τ, res, nx) := by
  refine ok_of (by decide +kernel) rfl (Nat.le_of_ble_eq_true rfl) (fun K X hF hE hN L0 hL0 => ?_)
  obtain rfl : [some (.ref a), some (.ref r1)] = L0 := hL0
  have hF : Fx K X cX8_copyFrom 2 RX8 D 0 0 := hF
  refine g_p (S' := [.ref r1, .ref a]) hF tX8_copyFrom_ok 0 2 rfl rfl rfl rfl ?_
  refine g_getI hF (dAt tX8_copyFrom_ok 2 rfl rfl) flX8_9 hr1 rfl ?_
  obtain ⟨s1, e2, H⟩ := ob H
  refine g_pI hF (dAt tX8_copyFrom_ok 3 rfl rfl) flX8_9 (Or.inl rfl) hS rfl e2 ?_
  refine g_p (S' := [.ref r1, .ref a]) hF tX8_copyFrom_ok 4 2 rfl rfl rfl rfl ?_
  refine g_getI hF (dAt tX8_copyFrom_ok 6 rfl rfl) flX8_15 hr1 rfl ?_
  obtain ⟨s3, e4, H⟩ := ob H
  refine g_pI hF (dAt tX8_copyFrom_ok 7 rfl rfl) flX8_15 (Or.inl rfl) hS rfl e4 ?_
  refine g_p (S' := [.ref r1, .ref a]) hF tX8_copyFrom_ok 8 2 rfl rfl rfl rfl ?_
  refine g_getI hF (dAt tX8_copyFrom_ok 10 rfl rfl) flX8_18 hr1 rfl ?_
  obtain ⟨s5, e6, H⟩ := ob H
  refine g_pI hF (dAt tX8_copyFrom_ok 11 rfl rfl) flX8_18 (Or.inl rfl) hS rfl e6 ?_
  refine g_p (S' := [.ref r1, .ref a]) hF tX8_copyFrom_ok 12 2 rfl rfl rfl rfl ?_
  refine g_getI hF (dAt tX8_copyFrom_ok 14 rfl rfl) flX8_21 hr1 rfl ?_
  obtain ⟨s7, e8, H⟩ := ob H
  refine g_pI hF (dAt tX8_copyFrom_ok 15 rfl rfl) flX8_21 (Or.inl rfl) hS rfl e8 ?_
  exact g_vret hF (en_v H hE) (dAt tX8_copyFrom_ok 16 rfl rfl) (by decide) (by decide)
def X8_draw_f (a : Nat) (x1 : Int32) (σ : Sig) : Option (Int32 × Sig) := (pI σ a 0 ((1664525 * (σ a 0)) + 1013904223)).bind fun s1 => if x1 ≤ 0 then (some (0, s1)) else (if x1 = 0 then none else (some (((((s1 a 0) : Int32).toUInt32 >>> ((8 : Int32).toUInt32 &&& Int32.toUInt32 31)).toInt32 - (((s1 a 0) : Int32).toUInt32 >>> ((8 : Int32).toUInt32 &&& Int32.toUInt32 31)).toInt32 / x1 * x1), s1)))
set_option maxRecDepth 4000 in
set_option maxHeartbeats 1000000 in
theorem X8_draw_ok {D : Nat} {τ : Tau} {nx : Nat} {a : Nat} {x1 : Int32} {σ : Sig} {res : Int32} {rsg : Sig} (hD : 1 ≤ D) (hS : ShX8 τ a) (H : X8_draw_f a x1 σ = some (res, rsg)) : Ok D 0 0 yX8_draw cX8_draw 2 (some .int) [.ref a, .int x1] (τ, σ, nx) (some (.int res)) (τ, rsg, nx) := by
  refine ok_of (by decide +kernel) rfl (Nat.le_of_ble_eq_true rfl) (fun K X hF hE hN L0 hL0 => ?_)
  obtain rfl : [some (.ref a), some (.int x1)] = L0 := hL0
  have hF : Fx K X cX8_draw 2 RX8 D 0 0 := hF
  refine g_p (S' := [.ref a]) hF tX8_draw_ok 0 1 rfl rfl rfl rfl ?_
  refine g_ldc hF (dAt tX8_draw_ok 1 rfl rfl) coX8_24 ?_
  refine g_p (S' := [.ref a, .int 1664525, .ref a]) hF tX8_draw_ok 2 1 rfl rfl rfl rfl ?_
  refine g_getI hF (dAt tX8_draw_ok 3 rfl rfl) flX8_9 hS rfl ?_
  refine g_p (S' := [.int (1664525 * (σ a 0)), .ref a]) hF tX8_draw_ok 4 1 rfl rfl rfl rfl ?_
  refine g_ldc hF (dAt tX8_draw_ok 5 rfl rfl) coX8_25 ?_
  refine g_p (S' := [.int ((1664525 * (σ a 0)) + 1013904223), .ref a]) hF tX8_draw_ok 6 1 rfl rfl rfl rfl ?_
  obtain ⟨s1, e2, H⟩ := ob H
  refine g_pI hF (dAt tX8_draw_ok 7 rfl rfl) flX8_9 (Or.inl rfl) hS rfl e2 ?_
  refine g_p (S' := [.int x1]) hF tX8_draw_ok 8 1 rfl rfl rfl rfl ?_
  obtain ⟨Ht3, Hf3⟩ := oi H
  refine g_if_le hF (dAt tX8_draw_ok 9 rfl rfl) rfl (fun c3 => ?_) (fun c3 => ?_)
  · have H := Ht3 c3
    refine g_p (S' := [.int 0]) hF tX8_draw_ok 17 1 rfl rfl rfl rfl ?_
    exact g_iret hF (en_p H hE) (dAt tX8_draw_ok 18 rfl rfl) (by decide) (by decide)
  · have H := Hf3 c3
    refine g_p (S' := [.ref a]) hF tX8_draw_ok 10 1 rfl rfl rfl rfl ?_
    refine g_getI hF (dAt tX8_draw_ok 11 rfl rfl) flX8_9 hS rfl ?_
    refine g_p (S' := [.int x1, .int ((((s1 a 0) : Int32).toUInt32 >>> ((8 : Int32).toUInt32 &&& Int32.toUInt32 31)).toInt32)]) hF tX8_draw_ok 12 3 rfl rfl rfl rfl ?_
    obtain ⟨z4, H⟩ := on H
    refine g_irem hF (dAt tX8_draw_ok 15 rfl rfl) z4 ?_
    refine g_goto hF (dAt tX8_draw_ok 16 rfl rfl) rfl ?_
    exact g_iret hF (en_p H hE) (dAt tX8_draw_ok 18 rfl rfl) (by decide) (by decide)
def X8_hour_f (a : Nat) (σ : Sig) : Option (Int32) := some ((σ a 2) / 4)
set_option maxRecDepth 4000 in
set_option maxHeartbeats 1000000 in
theorem X8_hour_ok {D : Nat} {τ : Tau} {nx : Nat} {a : Nat} {σ : Sig} {res : Int32} (hD : 1 ≤ D) (hS : ShX8 τ a) (H : X8_hour_f a σ = some res) : Ok D 0 0 yX8_hour cX8_hour 1 (some .int) [.ref a] (τ, σ, nx) (some (.int res)) (τ, σ, nx) := by
  refine ok_of (by decide +kernel) rfl (Nat.le_of_ble_eq_true rfl) (fun K X hF hE hN L0 hL0 => ?_)
  obtain rfl : [some (.ref a)] = L0 := hL0
  have hF : Fx K X cX8_hour 1 RX8 D 0 0 := hF
  refine g_p (S' := [.ref a]) hF tX8_hour_ok 0 1 rfl rfl rfl rfl ?_
  refine g_getI hF (dAt tX8_hour_ok 1 rfl rfl) flX8_18 hS rfl ?_
  refine g_p (S' := [.int 4, .int (σ a 2)]) hF tX8_hour_ok 2 1 rfl rfl rfl rfl ?_
  refine g_idiv hF (dAt tX8_hour_ok 3 rfl rfl) (by decide) ?_
  exact g_iret hF (en_i H hE) (dAt tX8_hour_ok 4 rfl rfl) (by decide) (by decide)
def X8_isNight_f (a : Nat) (σ : Sig) : Option (Int32) := (X8_hour_f a σ).bind fun v1 => (X11_isNightIn_f v1 σ).bind fun v3 => if v3 = 0 ∨ v3 = 1 then some v3 else none
set_option maxRecDepth 4000 in
set_option maxHeartbeats 1000000 in
theorem X8_isNight_ok {D : Nat} {τ : Tau} {nx : Nat} {a : Nat} {σ : Sig} {res : Int32} (hD : 2 ≤ D) (hS : ShX8 τ a) (H : X8_isNight_f a σ = some res) : Ok D 0 0 yX8_isNight cX8_isNight 1 (some .boolean) [.ref a] (τ, σ, nx) (some (.int res)) (τ, σ, nx) := by
  refine ok_of (by decide +kernel) rfl (Nat.le_of_ble_eq_true rfl) (fun K X hF hE hN L0 hL0 => ?_)
  obtain rfl : [some (.ref a)] = L0 := hL0
  have hF : Fx K X cX8_isNight 1 RX8 D 0 0 := hF
  refine g_p (S' := [.ref a]) hF tX8_isNight_ok 0 1 rfl rfl rfl rfl ?_
  obtain ⟨v1, e2, H⟩ := ob H
  refine g_cV (S := []) hF (X8_hour_ok (Nat.le_refl _) hS e2 K) mbX8_hour mvX8_hour mlX8_26 (by omega) (by decide) (dAt tX8_isNight_ok 1 rfl rfl) hS rfl rfl rfl (Nat.le_of_ble_eq_true rfl) rfl rfl (by decide) (by decide) rfl ?_
  obtain ⟨v3, e4, H⟩ := ob H
  refine g_cSN (S := []) hF (X11_isNightIn_ok (Nat.le_refl _)  e4 K) mbX11_isNightIn msX11_isNightIn nlX8_30 (by omega) (by decide) (dAt tX8_isNight_ok 2 rfl rfl) rfl rfl (Nat.le_of_ble_eq_true rfl) rfl rfl (by decide) (by decide) rfl ?_
  obtain ⟨hb, H⟩ := oy H
  exact g_zret hF (en_i H hE) hb (dAt tX8_isNight_ok 3 rfl rfl) (by decide) (by decide)
def X8_isFeastOn_f (a : Nat) (x1 : Int32) (σ : Sig) : Option (Int32) := if (σ a 3) ≤ 0 then (some 0) else (if (σ a 3) = 0 then none else (if (x1 - x1 / (σ a 3) * (σ a 3)) = 0 then (some 1) else (some 0)))
set_option maxRecDepth 4000 in
set_option maxHeartbeats 1000000 in
theorem X8_isFeastOn_ok {D : Nat} {τ : Tau} {nx : Nat} {a : Nat} {x1 : Int32} {σ : Sig} {res : Int32} (hD : 1 ≤ D) (hS : ShX8 τ a) (H : X8_isFeastOn_f a x1 σ = some res) : Ok D 0 0 yX8_isFeastOn cX8_isFeastOn 2 (some .boolean) [.ref a, .int x1] (τ, σ, nx) (some (.int res)) (τ, σ, nx) := by
  refine ok_of (by decide +kernel) rfl (Nat.le_of_ble_eq_true rfl) (fun K X hF hE hN L0 hL0 => ?_)
  obtain rfl : [some (.ref a), some (.int x1)] = L0 := hL0
  have hF : Fx K X cX8_isFeastOn 2 RX8 D 0 0 := hF
  refine g_p (S' := [.ref a]) hF tX8_isFeastOn_ok 0 1 rfl rfl rfl rfl ?_
  refine g_getI hF (dAt tX8_isFeastOn_ok 1 rfl rfl) flX8_21 hS rfl ?_
  obtain ⟨Ht1, Hf1⟩ := oi H
  refine g_if_le hF (dAt tX8_isFeastOn_ok 2 rfl rfl) rfl (fun c1 => ?_) (fun c1 => ?_)
  · have H := Ht1 c1
    refine g_p (S' := [.int 0]) hF tX8_isFeastOn_ok 10 1 rfl rfl rfl rfl ?_
    exact g_zret hF (en_i H hE) (Or.inl rfl) (dAt tX8_isFeastOn_ok 11 rfl rfl) (by decide) (by decide)
  · have H := Hf1 c1
    refine g_p (S' := [.ref a, .int x1]) hF tX8_isFeastOn_ok 3 2 rfl rfl rfl rfl ?_
    refine g_getI hF (dAt tX8_isFeastOn_ok 5 rfl rfl) flX8_21 hS rfl ?_
    obtain ⟨z2, H⟩ := on H
    refine g_irem hF (dAt tX8_isFeastOn_ok 6 rfl rfl) z2 ?_
    obtain ⟨Ht3, Hf3⟩ := oi H
    refine g_if_ne hF (dAt tX8_isFeastOn_ok 7 rfl rfl) rfl (fun c3 => ?_) (fun c3 => ?_)
    · have H := Hf3 c3
      refine g_p (S' := [.int 0]) hF tX8_isFeastOn_ok 10 1 rfl rfl rfl rfl ?_
      exact g_zret hF (en_i H hE) (Or.inl rfl) (dAt tX8_isFeastOn_ok 11 rfl rfl) (by decide) (by decide)
    · have H := Ht3 c3
      refine g_p (S' := [.int 1]) hF tX8_isFeastOn_ok 8 1 rfl rfl rfl rfl ?_
      refine g_goto hF (dAt tX8_isFeastOn_ok 9 rfl rfl) rfl ?_
      exact g_zret hF (en_i H hE) (Or.inr rfl) (dAt tX8_isFeastOn_ok 11 rfl rfl) (by decide) (by decide)
def X8_goOn_f (a : Nat) (σ : Sig) : Option (Sig) := (pI σ a 2 ((σ a 2) + 1)).bind fun s1 => if (s1 a 2) < 96 then (some s1) else ((pI s1 a 2 0).bind fun s4 => (pI s4 a 1 ((s4 a 1) + 1)).bind fun s6 => some s6)
set_option maxRecDepth 4000 in
set_option maxHeartbeats 1000000 in
theorem X8_goOn_ok {D : Nat} {τ : Tau} {nx : Nat} {a : Nat} {σ : Sig} {res : Sig} (hD : 1 ≤ D) (hS : ShX8 τ a) (H : X8_goOn_f a σ = some res) : Ok D 0 0 yX8_goOn cX8_goOn 1 none [.ref a] (τ, σ, nx) none (τ, res, nx) := by
  refine ok_of (by decide +kernel) rfl (Nat.le_of_ble_eq_true rfl) (fun K X hF hE hN L0 hL0 => ?_)
  obtain rfl : [some (.ref a)] = L0 := hL0
  have hF : Fx K X cX8_goOn 1 RX8 D 0 0 := hF
  refine g_p (S' := [.ref a, .ref a]) hF tX8_goOn_ok 0 2 rfl rfl rfl rfl ?_
  refine g_getI hF (dAt tX8_goOn_ok 2 rfl rfl) flX8_18 hS rfl ?_
  refine g_p (S' := [.int ((σ a 2) + 1), .ref a]) hF tX8_goOn_ok 3 2 rfl rfl rfl rfl ?_
  obtain ⟨s1, e2, H⟩ := ob H
  refine g_pI hF (dAt tX8_goOn_ok 5 rfl rfl) flX8_18 (Or.inl rfl) hS rfl e2 ?_
  refine g_p (S' := [.ref a]) hF tX8_goOn_ok 6 1 rfl rfl rfl rfl ?_
  refine g_getI hF (dAt tX8_goOn_ok 7 rfl rfl) flX8_18 hS rfl ?_
  refine g_p (S' := [.int 96, .int (s1 a 2)]) hF tX8_goOn_ok 8 1 rfl rfl rfl rfl ?_
  obtain ⟨Ht3, Hf3⟩ := oi H
  refine g_icmp_lt hF (dAt tX8_goOn_ok 9 rfl rfl) rfl (fun c3 => ?_) (fun c3 => ?_)
  · have H := Ht3 c3
    exact g_vret hF (en_v H hE) (dAt tX8_goOn_ok 19 rfl rfl) (by decide) (by decide)
  · have H := Hf3 c3
    refine g_p (S' := [.int 0, .ref a]) hF tX8_goOn_ok 10 2 rfl rfl rfl rfl ?_
    obtain ⟨s4, e5, H⟩ := ob H
    refine g_pI hF (dAt tX8_goOn_ok 12 rfl rfl) flX8_18 (Or.inl rfl) hS rfl e5 ?_
    refine g_p (S' := [.ref a, .ref a]) hF tX8_goOn_ok 13 2 rfl rfl rfl rfl ?_
    refine g_getI hF (dAt tX8_goOn_ok 15 rfl rfl) flX8_15 hS rfl ?_
    refine g_p (S' := [.int ((s4 a 1) + 1), .ref a]) hF tX8_goOn_ok 16 2 rfl rfl rfl rfl ?_
    obtain ⟨s6, e7, H⟩ := ob H
    refine g_pI hF (dAt tX8_goOn_ok 18 rfl rfl) flX8_15 (Or.inl rfl) hS rfl e7 ?_
    exact g_vret hF (en_v H hE) (dAt tX8_goOn_ok 19 rfl rfl) (by decide) (by decide)
def X8_isFeast_f (a : Nat) (σ : Sig) : Option (Int32) := (X8_isFeastOn_f a (σ a 1) σ).bind fun v1 => if v1 = 0 ∨ v1 = 1 then some v1 else none
set_option maxRecDepth 4000 in
set_option maxHeartbeats 1000000 in
theorem X8_isFeast_ok {D : Nat} {τ : Tau} {nx : Nat} {a : Nat} {σ : Sig} {res : Int32} (hD : 2 ≤ D) (hS : ShX8 τ a) (H : X8_isFeast_f a σ = some res) : Ok D 0 0 yX8_isFeast cX8_isFeast 1 (some .boolean) [.ref a] (τ, σ, nx) (some (.int res)) (τ, σ, nx) := by
  refine ok_of (by decide +kernel) rfl (Nat.le_of_ble_eq_true rfl) (fun K X hF hE hN L0 hL0 => ?_)
  obtain rfl : [some (.ref a)] = L0 := hL0
  have hF : Fx K X cX8_isFeast 1 RX8 D 0 0 := hF
  refine g_p (S' := [.ref a, .ref a]) hF tX8_isFeast_ok 0 2 rfl rfl rfl rfl ?_
  refine g_getI hF (dAt tX8_isFeast_ok 2 rfl rfl) flX8_15 hS rfl ?_
  obtain ⟨v1, e2, H⟩ := ob H
  refine g_cV (S := []) hF (X8_isFeastOn_ok (Nat.le_refl _) hS e2 K) mbX8_isFeastOn mvX8_isFeastOn mlX8_34 (by omega) (by decide) (dAt tX8_isFeast_ok 3 rfl rfl) hS rfl rfl rfl (Nat.le_of_ble_eq_true rfl) rfl rfl (by decide) (by decide) rfl ?_
  obtain ⟨hb, H⟩ := oy H
  exact g_zret hF (en_i H hE) hb (dAt tX8_isFeast_ok 4 rfl rfl) (by decide) (by decide)
end
section
/-! SilenceForMoney$People -/
def X4_copyFrom_f (a : Nat) (r1 : Nat) (σ : Sig) : Option (Sig) := (pI σ a 0 (σ r1 0)).bind fun s1 => (cp 12 12 s1 (r1 + 1) 0 (a + 1) 0 12).bind fun s3 => (cp 12 12 s3 (r1 + 2) 0 (a + 2) 0 12).bind fun s5 => (cp 12 12 s5 (r1 + 3) 0 (a + 3) 0 12).bind fun s7 => (cp 12 12 s7 (r1 + 4) 0 (a + 4) 0 12).bind fun s9 => (cp 12 12 s9 (r1 + 5) 0 (a + 5) 0 12).bind fun s11 => (cp 12 12 s11 (r1 + 6) 0 (a + 6) 0 12).bind fun s13 => (cp 12 12 s13 (r1 + 7) 0 (a + 7) 0 12).bind fun s15 => (cp 12 12 s15 (r1 + 8) 0 (a + 8) 0 12).bind fun s17 => (cp 12 12 s17 (r1 + 9) 0 (a + 9) 0 12).bind fun s19 => (cp 12 12 s19 (r1 + 10) 0 (a + 10) 0 12).bind fun s21 => some s21
set_option maxRecDepth 4000 in
set_option maxHeartbeats 1000000 in
theorem X4_copyFrom_ok {D : Nat} {τ : Tau} {nx : Nat} {a : Nat} {r1 : Nat} {σ : Sig} {res : Sig} (hD : 1 ≤ D) (hS : ShX4 τ a) (hr1 : ShX4 τ r1) (H : X4_copyFrom_f a r1 σ = some res) : Ok D 0 0 yX4_copyFrom cX4_copyFrom 2 none [.ref a, .ref r1] (τ, σ, nx) none (τ, res, nx) := by
  refine ok_of (by decide +kernel) rfl (Nat.le_of_ble_eq_true rfl) (fun K X hF hE hN L0 hL0 => ?_)
  obtain rfl : [some (.ref a), some (.ref r1)] = L0 := hL0
  have hF : Fx K X cX4_copyFrom 2 RX4 D 0 0 := hF
  refine g_p (S' := [.ref r1, .ref a]) hF tX4_copyFrom_ok 0 2 rfl rfl rfl rfl ?_
  refine g_getI hF (dAt tX4_copyFrom_ok 2 rfl rfl) flX4_42 hr1.1 rfl ?_
  obtain ⟨s1, e2, H⟩ := ob H
  refine g_pI hF (dAt tX4_copyFrom_ok 3 rfl rfl) flX4_42 (Or.inl rfl) hS.1 rfl e2 ?_
  refine g_p (S' := [.ref r1]) hF tX4_copyFrom_ok 4 1 rfl rfl rfl rfl ?_
  refine g_getR hF (dAt tX4_copyFrom_ok 5 rfl rfl) flX4_9 hr1.1 rfl ?_
  refine g_p (S' := [.ref a, .int 0, .ref (r1 + 1)]) hF tX4_copyFrom_ok 6 2 rfl rfl rfl rfl ?_
  refine g_getR hF (dAt tX4_copyFrom_ok 8 rfl rfl) flX4_9 hS.1 rfl ?_
  refine g_p (S' := [.int 12, .int 0, .ref (a + 1), .int 0, .ref (r1 + 1)]) hF tX4_copyFrom_ok 9 2 rfl rfl rfl rfl ?_
  obtain ⟨s3, e4, H⟩ := ob H
  refine g_copy hF mlX4_46 (dAt tX4_copyFrom_ok 11 rfl rfl) hr1.2.1 hS.2.1 e4 (by omega) (Nat.le_of_ble_eq_true rfl) ?_
  refine g_p (S' := [.ref r1]) hF tX4_copyFrom_ok 12 1 rfl rfl rfl rfl ?_
  refine g_getR hF (dAt tX4_copyFrom_ok 13 rfl rfl) flX4_15 hr1.1 rfl ?_
  refine g_p (S' := [.ref a, .int 0, .ref (r1 + 2)]) hF tX4_copyFrom_ok 14 2 rfl rfl rfl rfl ?_
  refine g_getR hF (dAt tX4_copyFrom_ok 16 rfl rfl) flX4_15 hS.1 rfl ?_
  refine g_p (S' := [.int 12, .int 0, .ref (a + 2), .int 0, .ref (r1 + 2)]) hF tX4_copyFrom_ok 17 2 rfl rfl rfl rfl ?_
  obtain ⟨s5, e6, H⟩ := ob H
  refine g_copy hF mlX4_46 (dAt tX4_copyFrom_ok 19 rfl rfl) hr1.2.2.1 hS.2.2.1 e6 (by omega) (Nat.le_of_ble_eq_true rfl) ?_
  refine g_p (S' := [.ref r1]) hF tX4_copyFrom_ok 20 1 rfl rfl rfl rfl ?_
  refine g_getR hF (dAt tX4_copyFrom_ok 21 rfl rfl) flX4_18 hr1.1 rfl ?_
  refine g_p (S' := [.ref a, .int 0, .ref (r1 + 3)]) hF tX4_copyFrom_ok 22 2 rfl rfl rfl rfl ?_
  refine g_getR hF (dAt tX4_copyFrom_ok 24 rfl rfl) flX4_18 hS.1 rfl ?_
  refine g_p (S' := [.int 12, .int 0, .ref (a + 3), .int 0, .ref (r1 + 3)]) hF tX4_copyFrom_ok 25 2 rfl rfl rfl rfl ?_
  obtain ⟨s7, e8, H⟩ := ob H
  refine g_copy hF mlX4_46 (dAt tX4_copyFrom_ok 27 rfl rfl) hr1.2.2.2.1 hS.2.2.2.1 e8 (by omega) (Nat.le_of_ble_eq_true rfl) ?_
  refine g_p (S' := [.ref r1]) hF tX4_copyFrom_ok 28 1 rfl rfl rfl rfl ?_
  refine g_getR hF (dAt tX4_copyFrom_ok 29 rfl rfl) flX4_21 hr1.1 rfl ?_
  refine g_p (S' := [.ref a, .int 0, .ref (r1 + 4)]) hF tX4_copyFrom_ok 30 2 rfl rfl rfl rfl ?_
  refine g_getR hF (dAt tX4_copyFrom_ok 32 rfl rfl) flX4_21 hS.1 rfl ?_
  refine g_p (S' := [.int 12, .int 0, .ref (a + 4), .int 0, .ref (r1 + 4)]) hF tX4_copyFrom_ok 33 2 rfl rfl rfl rfl ?_
  obtain ⟨s9, e10, H⟩ := ob H
  refine g_copy hF mlX4_46 (dAt tX4_copyFrom_ok 35 rfl rfl) hr1.2.2.2.2.1 hS.2.2.2.2.1 e10 (by omega) (Nat.le_of_ble_eq_true rfl) ?_
  refine g_p (S' := [.ref r1]) hF tX4_copyFrom_ok 36 1 rfl rfl rfl rfl ?_
  refine g_getR hF (dAt tX4_copyFrom_ok 37 rfl rfl) flX4_24 hr1.1 rfl ?_
  refine g_p (S' := [.ref a, .int 0, .ref (r1 + 5)]) hF tX4_copyFrom_ok 38 2 rfl rfl rfl rfl ?_
  refine g_getR hF (dAt tX4_copyFrom_ok 40 rfl rfl) flX4_24 hS.1 rfl ?_
  refine g_p (S' := [.int 12, .int 0, .ref (a + 5), .int 0, .ref (r1 + 5)]) hF tX4_copyFrom_ok 41 2 rfl rfl rfl rfl ?_
  obtain ⟨s11, e12, H⟩ := ob H
  refine g_copy hF mlX4_46 (dAt tX4_copyFrom_ok 43 rfl rfl) hr1.2.2.2.2.2.1 hS.2.2.2.2.2.1 e12 (by omega) (Nat.le_of_ble_eq_true rfl) ?_
  refine g_p (S' := [.ref r1]) hF tX4_copyFrom_ok 44 1 rfl rfl rfl rfl ?_
  refine g_getR hF (dAt tX4_copyFrom_ok 45 rfl rfl) flX4_27 hr1.1 rfl ?_
  refine g_p (S' := [.ref a, .int 0, .ref (r1 + 6)]) hF tX4_copyFrom_ok 46 2 rfl rfl rfl rfl ?_
  refine g_getR hF (dAt tX4_copyFrom_ok 48 rfl rfl) flX4_27 hS.1 rfl ?_
  refine g_p (S' := [.int 12, .int 0, .ref (a + 6), .int 0, .ref (r1 + 6)]) hF tX4_copyFrom_ok 49 2 rfl rfl rfl rfl ?_
  obtain ⟨s13, e14, H⟩ := ob H
  refine g_copy hF mlX4_46 (dAt tX4_copyFrom_ok 51 rfl rfl) hr1.2.2.2.2.2.2.1 hS.2.2.2.2.2.2.1 e14 (by omega) (Nat.le_of_ble_eq_true rfl) ?_
  refine g_p (S' := [.ref r1]) hF tX4_copyFrom_ok 52 1 rfl rfl rfl rfl ?_
  refine g_getR hF (dAt tX4_copyFrom_ok 53 rfl rfl) flX4_30 hr1.1 rfl ?_
  refine g_p (S' := [.ref a, .int 0, .ref (r1 + 7)]) hF tX4_copyFrom_ok 54 2 rfl rfl rfl rfl ?_
  refine g_getR hF (dAt tX4_copyFrom_ok 56 rfl rfl) flX4_30 hS.1 rfl ?_
  refine g_p (S' := [.int 12, .int 0, .ref (a + 7), .int 0, .ref (r1 + 7)]) hF tX4_copyFrom_ok 57 2 rfl rfl rfl rfl ?_
  obtain ⟨s15, e16, H⟩ := ob H
  refine g_copy hF mlX4_46 (dAt tX4_copyFrom_ok 59 rfl rfl) hr1.2.2.2.2.2.2.2.1 hS.2.2.2.2.2.2.2.1 e16 (by omega) (Nat.le_of_ble_eq_true rfl) ?_
  refine g_p (S' := [.ref r1]) hF tX4_copyFrom_ok 60 1 rfl rfl rfl rfl ?_
  refine g_getR hF (dAt tX4_copyFrom_ok 61 rfl rfl) flX4_33 hr1.1 rfl ?_
  refine g_p (S' := [.ref a, .int 0, .ref (r1 + 8)]) hF tX4_copyFrom_ok 62 2 rfl rfl rfl rfl ?_
  refine g_getR hF (dAt tX4_copyFrom_ok 64 rfl rfl) flX4_33 hS.1 rfl ?_
  refine g_p (S' := [.int 12, .int 0, .ref (a + 8), .int 0, .ref (r1 + 8)]) hF tX4_copyFrom_ok 65 2 rfl rfl rfl rfl ?_
  obtain ⟨s17, e18, H⟩ := ob H
  refine g_copy hF mlX4_46 (dAt tX4_copyFrom_ok 67 rfl rfl) hr1.2.2.2.2.2.2.2.2.1 hS.2.2.2.2.2.2.2.2.1 e18 (by omega) (Nat.le_of_ble_eq_true rfl) ?_
  refine g_p (S' := [.ref r1]) hF tX4_copyFrom_ok 68 1 rfl rfl rfl rfl ?_
  refine g_getR hF (dAt tX4_copyFrom_ok 69 rfl rfl) flX4_36 hr1.1 rfl ?_
  refine g_p (S' := [.ref a, .int 0, .ref (r1 + 9)]) hF tX4_copyFrom_ok 70 2 rfl rfl rfl rfl ?_
  refine g_getR hF (dAt tX4_copyFrom_ok 72 rfl rfl) flX4_36 hS.1 rfl ?_
  refine g_p (S' := [.int 12, .int 0, .ref (a + 9), .int 0, .ref (r1 + 9)]) hF tX4_copyFrom_ok 73 2 rfl rfl rfl rfl ?_
  obtain ⟨s19, e20, H⟩ := ob H
  refine g_copy hF mlX4_46 (dAt tX4_copyFrom_ok 75 rfl rfl) hr1.2.2.2.2.2.2.2.2.2.1 hS.2.2.2.2.2.2.2.2.2.1 e20 (by omega) (Nat.le_of_ble_eq_true rfl) ?_
  refine g_p (S' := [.ref r1]) hF tX4_copyFrom_ok 76 1 rfl rfl rfl rfl ?_
  refine g_getR hF (dAt tX4_copyFrom_ok 77 rfl rfl) flX4_39 hr1.1 rfl ?_
  refine g_p (S' := [.ref a, .int 0, .ref (r1 + 10)]) hF tX4_copyFrom_ok 78 2 rfl rfl rfl rfl ?_
  refine g_getR hF (dAt tX4_copyFrom_ok 80 rfl rfl) flX4_39 hS.1 rfl ?_
  refine g_p (S' := [.int 12, .int 0, .ref (a + 10), .int 0, .ref (r1 + 10)]) hF tX4_copyFrom_ok 81 2 rfl rfl rfl rfl ?_
  obtain ⟨s21, e22, H⟩ := ob H
  refine g_copy hF mlX4_46 (dAt tX4_copyFrom_ok 83 rfl rfl) hr1.2.2.2.2.2.2.2.2.2.2 hS.2.2.2.2.2.2.2.2.2.2 e22 (by omega) (Nat.le_of_ble_eq_true rfl) ?_
  exact g_vret hF (en_v H hE) (dAt tX4_copyFrom_ok 84 rfl rfl) (by decide) (by decide)
def X4_has_f (a : Nat) (x1 : Int32) (σ : Sig) : Option (Int32) := if x1 < 0 then (some 0) else (if (σ a 0) ≤ x1 then (some 0) else (some 1))
set_option maxRecDepth 4000 in
set_option maxHeartbeats 1000000 in
theorem X4_has_ok {D : Nat} {τ : Tau} {nx : Nat} {a : Nat} {x1 : Int32} {σ : Sig} {res : Int32} (hD : 1 ≤ D) (hS : ShX4 τ a) (H : X4_has_f a x1 σ = some res) : Ok D 0 0 yX4_has cX4_has 2 (some .boolean) [.ref a, .int x1] (τ, σ, nx) (some (.int res)) (τ, σ, nx) := by
  refine ok_of (by decide +kernel) rfl (Nat.le_of_ble_eq_true rfl) (fun K X hF hE hN L0 hL0 => ?_)
  obtain rfl : [some (.ref a), some (.int x1)] = L0 := hL0
  have hF : Fx K X cX4_has 2 RX4 D 0 0 := hF
  refine g_p (S' := [.int x1]) hF tX4_has_ok 0 1 rfl rfl rfl rfl ?_
  obtain ⟨Ht1, Hf1⟩ := oi H
  refine g_if_lt hF (dAt tX4_has_ok 1 rfl rfl) rfl (fun c1 => ?_) (fun c1 => ?_)
  · have H := Ht1 c1
    refine g_p (S' := [.int 0]) hF tX4_has_ok 8 1 rfl rfl rfl rfl ?_
    exact g_zret hF (en_i H hE) (Or.inl rfl) (dAt tX4_has_ok 9 rfl rfl) (by decide) (by decide)
  · have H := Hf1 c1
    refine g_p (S' := [.ref a, .int x1]) hF tX4_has_ok 2 2 rfl rfl rfl rfl ?_
    refine g_getI hF (dAt tX4_has_ok 4 rfl rfl) flX4_42 hS.1 rfl ?_
    obtain ⟨Ht2, Hf2⟩ := oi H
    refine g_icmp_ge hF (dAt tX4_has_ok 5 rfl rfl) rfl (fun c2 => ?_) (fun c2 => ?_)
    · have H := Ht2 c2
      refine g_p (S' := [.int 0]) hF tX4_has_ok 8 1 rfl rfl rfl rfl ?_
      exact g_zret hF (en_i H hE) (Or.inl rfl) (dAt tX4_has_ok 9 rfl rfl) (by decide) (by decide)
    · have H := Hf2 c2
      refine g_p (S' := [.int 1]) hF tX4_has_ok 6 1 rfl rfl rfl rfl ?_
      refine g_goto hF (dAt tX4_has_ok 7 rfl rfl) rfl ?_
      exact g_zret hF (en_i H hE) (Or.inr rfl) (dAt tX4_has_ok 9 rfl rfl) (by decide) (by decide)
def X4_isNoChild_f (a : Nat) (x1 : Int32) (σ : Sig) : Option (Int32) := (X4_has_f a x1 σ).bind fun v1 => if v1 = 0 then (some 0) else ((ld 12 (σ (a + 1)) x1).bind fun v4 => if v4 = 1 then (some 0) else (some 1))
set_option maxRecDepth 4000 in
set_option maxHeartbeats 1000000 in
theorem X4_isNoChild_ok {D : Nat} {τ : Tau} {nx : Nat} {a : Nat} {x1 : Int32} {σ : Sig} {res : Int32} (hD : 2 ≤ D) (hS : ShX4 τ a) (H : X4_isNoChild_f a x1 σ = some res) : Ok D 0 0 yX4_isNoChild cX4_isNoChild 2 (some .boolean) [.ref a, .int x1] (τ, σ, nx) (some (.int res)) (τ, σ, nx) := by
  refine ok_of (by decide +kernel) rfl (Nat.le_of_ble_eq_true rfl) (fun K X hF hE hN L0 hL0 => ?_)
  obtain rfl : [some (.ref a), some (.int x1)] = L0 := hL0
  have hF : Fx K X cX4_isNoChild 2 RX4 D 0 0 := hF
  refine g_p (S' := [.int x1, .ref a]) hF tX4_isNoChild_ok 0 2 rfl rfl rfl rfl ?_
  obtain ⟨v1, e2, H⟩ := ob H
  refine g_cV (S := []) hF (X4_has_ok (Nat.le_refl _) hS e2 K) mbX4_has mvX4_has mlX4_52 (by omega) (by decide) (dAt tX4_isNoChild_ok 2 rfl rfl) hS.1 rfl rfl rfl (Nat.le_of_ble_eq_true rfl) rfl rfl (by decide) (by decide) rfl ?_
  obtain ⟨Ht3, Hf3⟩ := oi H
  refine g_if_eq hF (dAt tX4_isNoChild_ok 3 rfl rfl) rfl (fun c3 => ?_) (fun c3 => ?_)
  · have H := Ht3 c3
    refine g_p (S' := [.int 0]) hF tX4_isNoChild_ok 12 1 rfl rfl rfl rfl ?_
    exact g_zret hF (en_i H hE) (Or.inl rfl) (dAt tX4_isNoChild_ok 13 rfl rfl) (by decide) (by decide)
  · have H := Hf3 c3
    refine g_p (S' := [.ref a]) hF tX4_isNoChild_ok 4 1 rfl rfl rfl rfl ?_
    refine g_getR hF (dAt tX4_isNoChild_ok 5 rfl rfl) flX4_9 hS.1 rfl ?_
    refine g_p (S' := [.int x1, .ref (a + 1)]) hF tX4_isNoChild_ok 6 1 rfl rfl rfl rfl ?_
    obtain ⟨v4, e5, H⟩ := ob H
    refine g_ild hF (dAt tX4_isNoChild_ok 7 rfl rfl) hS.2.1 e5 ?_
    refine g_p (S' := [.int 1, .int v4]) hF tX4_isNoChild_ok 8 1 rfl rfl rfl rfl ?_
    obtain ⟨Ht6, Hf6⟩ := oi H
    refine g_icmp_eq hF (dAt tX4_isNoChild_ok 9 rfl rfl) rfl (fun c6 => ?_) (fun c6 => ?_)
    · have H := Ht6 c6
      refine g_p (S' := [.int 0]) hF tX4_isNoChild_ok 12 1 rfl rfl rfl rfl ?_
      exact g_zret hF (en_i H hE) (Or.inl rfl) (dAt tX4_isNoChild_ok 13 rfl rfl) (by decide) (by decide)
    · have H := Hf6 c6
      refine g_p (S' := [.int 1]) hF tX4_isNoChild_ok 10 1 rfl rfl rfl rfl ?_
      refine g_goto hF (dAt tX4_isNoChild_ok 11 rfl rfl) rfl ?_
      exact g_zret hF (en_i H hE) (Or.inr rfl) (dAt tX4_isNoChild_ok 13 rfl rfl) (by decide) (by decide)
def X4_giveParent_b27 (a : Nat) (x1 x2 : Int32) (σ : Sig) : Option (Int32 × Sig) := (st 12 σ (a + 7) x1 x2).bind fun s1 => some (1, s1)
set_option maxRecDepth 4000 in
set_option maxHeartbeats 1000000 in
theorem X4_giveParent_b27_ok {K : Kt} {X : Cx} {D : Nat} {τ : Tau} {nx : Nat} {a : Nat} {res : Int32} {rsg : Sig}  (hD : 3 ≤ D) (hF : Fx K X cX4_giveParent 3 RX4 D 0 0) (hS : ShX4 τ a) (hE : En K X (some .boolean) 0 0 (some (.int res)) (τ, rsg, nx)) {x1 x2 : Int32} {σ : Sig} (H : X4_giveParent_b27 a x1 x2 σ = some (res, rsg)) : G K X 3 0 0 27 [some (.ref a), some (.int x1), some (.int x2)] [] (τ, σ, nx) := by
  refine g_p (S' := [.ref a]) hF tX4_giveParent_ok 17 1 rfl rfl rfl rfl ?_
  refine g_getR hF (dAt tX4_giveParent_ok 18 rfl rfl) flX4_30 hS.1 rfl ?_
  refine g_p (S' := [.int x2, .int x1, .ref (a + 7)]) hF tX4_giveParent_ok 19 2 rfl rfl rfl rfl ?_
  obtain ⟨s1, e2, H⟩ := ob H
  refine g_ist hF (dAt tX4_giveParent_ok 21 rfl rfl) hS.2.2.2.2.2.2.2.1 e2 ?_
  refine g_p (S' := [.int 1]) hF tX4_giveParent_ok 22 1 rfl rfl rfl rfl ?_
  exact g_zret hF (en_p H hE) (Or.inr rfl) (dAt tX4_giveParent_ok 23 rfl rfl) (by decide) (by decide)
def X4_giveParent_f (a : Nat) (x1 x2 : Int32) (σ : Sig) : Option (Int32 × Sig) := (ld 12 (σ (a + 1)) x1).bind fun v1 => if v1 = 1 then (if x2 = (-1) then (X4_giveParent_b27 a x1 x2 σ) else ((X4_isNoChild_f a x2 σ).bind fun v5 => if v5 = 0 then (some (0, σ)) else (X4_giveParent_b27 a x1 x2 σ))) else (some (0, σ))
set_option maxRecDepth 4000 in
set_option maxHeartbeats 1000000 in
theorem X4_giveParent_ok {D : Nat} {τ : Tau} {nx : Nat} {a : Nat} {x1 x2 : Int32} {σ : Sig} {res : Int32} {rsg : Sig} (hD : 3 ≤ D) (hS : ShX4 τ a) (H : X4_giveParent_f a x1 x2 σ = some (res, rsg)) : Ok D 0 0 yX4_giveParent cX4_giveParent 3 (some .boolean) [.ref a, .int x1, .int x2] (τ, σ, nx) (some (.int res)) (τ, rsg, nx) := by
  refine ok_of (by decide +kernel) rfl (Nat.le_of_ble_eq_true rfl) (fun K X hF hE hN L0 hL0 => ?_)
  obtain rfl : [some (.ref a), some (.int x1), some (.int x2)] = L0 := hL0
  have hF : Fx K X cX4_giveParent 3 RX4 D 0 0 := hF
  refine g_p (S' := [.ref a]) hF tX4_giveParent_ok 0 1 rfl rfl rfl rfl ?_
  refine g_getR hF (dAt tX4_giveParent_ok 1 rfl rfl) flX4_9 hS.1 rfl ?_
  refine g_p (S' := [.int x1, .ref (a + 1)]) hF tX4_giveParent_ok 2 1 rfl rfl rfl rfl ?_
  obtain ⟨v1, e2, H⟩ := ob H
  refine g_ild hF (dAt tX4_giveParent_ok 3 rfl rfl) hS.2.1 e2 ?_
  refine g_p (S' := [.int 1, .int v1]) hF tX4_giveParent_ok 4 1 rfl rfl rfl rfl ?_
  obtain ⟨Ht3, Hf3⟩ := oi H
  refine g_icmp_eq hF (dAt tX4_giveParent_ok 5 rfl rfl) rfl (fun c3 => ?_) (fun c3 => ?_)
  · have H := Ht3 c3
    refine g_p (S' := [.int (-1), .int x2]) hF tX4_giveParent_ok 8 2 rfl rfl rfl rfl ?_
    obtain ⟨Ht4, Hf4⟩ := oi H
    refine g_icmp_eq hF (dAt tX4_giveParent_ok 10 rfl rfl) rfl (fun c4 => ?_) (fun c4 => ?_)
    · have H := Ht4 c4
      exact X4_giveParent_b27_ok hD hF hS hE H
    · have H := Hf4 c4
      refine g_p (S' := [.int x2, .ref a]) hF tX4_giveParent_ok 11 2 rfl rfl rfl rfl ?_
      obtain ⟨v5, e6, H⟩ := ob H
      refine g_cV (S := []) hF (X4_isNoChild_ok (Nat.le_refl _) hS e6 K) mbX4_isNoChild mvX4_isNoChild mlX4_60 (by omega) (by decide) (dAt tX4_giveParent_ok 13 rfl rfl) hS.1 rfl rfl rfl (Nat.le_of_ble_eq_true rfl) rfl rfl (by decide) (by decide) rfl ?_
      obtain ⟨Ht7, Hf7⟩ := oi H
      refine g_if_ne hF (dAt tX4_giveParent_ok 14 rfl rfl) rfl (fun c7 => ?_) (fun c7 => ?_)
      · have H := Hf7 c7
        exact X4_giveParent_b27_ok hD hF hS hE H
      · have H := Ht7 c7
        refine g_p (S' := [.int 0]) hF tX4_giveParent_ok 15 1 rfl rfl rfl rfl ?_
        exact g_zret hF (en_p H hE) (Or.inl rfl) (dAt tX4_giveParent_ok 16 rfl rfl) (by decide) (by decide)
  · have H := Hf3 c3
    refine g_p (S' := [.int 0]) hF tX4_giveParent_ok 6 1 rfl rfl rfl rfl ?_
    exact g_zret hF (en_p H hE) (Or.inl rfl) (dAt tX4_giveParent_ok 7 rfl rfl) (by decide) (by decide)
def X4_change_f (a : Nat) (x1 x2 x3 : Int32) (σ : Sig) : Option (Sig) := if x2 = 0 then ((st 12 σ (a + 2) x1 x3).bind fun s2 => some s2) else if x2 = 1 then ((st 12 σ (a + 3) x1 x3).bind fun s4 => some s4) else if x2 = 2 then ((st 12 σ (a + 4) x1 x3).bind fun s6 => some s6) else if x2 = 3 then ((st 12 σ (a + 5) x1 x3).bind fun s8 => some s8) else if x2 = 4 then ((st 12 σ (a + 6) x1 x3).bind fun s10 => some s10) else (some σ)
set_option maxRecDepth 4000 in
set_option maxHeartbeats 1000000 in
theorem X4_change_ok {D : Nat} {τ : Tau} {nx : Nat} {a : Nat} {x1 x2 x3 : Int32} {σ : Sig} {res : Sig} (hD : 1 ≤ D) (hS : ShX4 τ a) (H : X4_change_f a x1 x2 x3 σ = some res) : Ok D 0 0 yX4_change cX4_change 4 none [.ref a, .int x1, .int x2, .int x3] (τ, σ, nx) none (τ, res, nx) := by
  refine ok_of (by decide +kernel) rfl (Nat.le_of_ble_eq_true rfl) (fun K X hF hE hN L0 hL0 => ?_)
  obtain rfl : [some (.ref a), some (.int x1), some (.int x2), some (.int x3)] = L0 := hL0
  have hF : Fx K X cX4_change 4 RX4 D 0 0 := hF
  refine g_p (S' := [.int x2]) hF tX4_change_ok 0 1 rfl rfl rfl rfl ?_
  obtain ⟨Ht1_0, Hf1_0⟩ := oi H
  by_cases c1_0 : x2 = 0
  · have H := Ht1_0 c1_0
    refine g_tsw (c := 0) hF (dAt tX4_change_ok 1 rfl rfl) c1_0 (by decide) (by decide) rfl rfl ?_
    refine g_p (S' := [.ref a]) hF tX4_change_ok 2 1 rfl rfl rfl rfl ?_
    refine g_getR hF (dAt tX4_change_ok 3 rfl rfl) flX4_15 hS.1 rfl ?_
    refine g_p (S' := [.int x3, .int x1, .ref (a + 2)]) hF tX4_change_ok 4 2 rfl rfl rfl rfl ?_
    obtain ⟨s2, e3, H⟩ := ob H
    refine g_ist hF (dAt tX4_change_ok 6 rfl rfl) hS.2.2.1 e3 ?_
    refine g_goto hF (dAt tX4_change_ok 7 rfl rfl) rfl ?_
    exact g_vret hF (en_v H hE) (dAt tX4_change_ok 32 rfl rfl) (by decide) (by decide)
  have H := Hf1_0 c1_0
  obtain ⟨Ht1_1, Hf1_1⟩ := oi H
  by_cases c1_1 : x2 = 1
  · have H := Ht1_1 c1_1
    refine g_tsw (c := 1) hF (dAt tX4_change_ok 1 rfl rfl) c1_1 (by decide) (by decide) rfl rfl ?_
    refine g_p (S' := [.ref a]) hF tX4_change_ok 8 1 rfl rfl rfl rfl ?_
    refine g_getR hF (dAt tX4_change_ok 9 rfl rfl) flX4_18 hS.1 rfl ?_
    refine g_p (S' := [.int x3, .int x1, .ref (a + 3)]) hF tX4_change_ok 10 2 rfl rfl rfl rfl ?_
    obtain ⟨s4, e5, H⟩ := ob H
    refine g_ist hF (dAt tX4_change_ok 12 rfl rfl) hS.2.2.2.1 e5 ?_
    refine g_goto hF (dAt tX4_change_ok 13 rfl rfl) rfl ?_
    exact g_vret hF (en_v H hE) (dAt tX4_change_ok 32 rfl rfl) (by decide) (by decide)
  have H := Hf1_1 c1_1
  obtain ⟨Ht1_2, Hf1_2⟩ := oi H
  by_cases c1_2 : x2 = 2
  · have H := Ht1_2 c1_2
    refine g_tsw (c := 2) hF (dAt tX4_change_ok 1 rfl rfl) c1_2 (by decide) (by decide) rfl rfl ?_
    refine g_p (S' := [.ref a]) hF tX4_change_ok 14 1 rfl rfl rfl rfl ?_
    refine g_getR hF (dAt tX4_change_ok 15 rfl rfl) flX4_21 hS.1 rfl ?_
    refine g_p (S' := [.int x3, .int x1, .ref (a + 4)]) hF tX4_change_ok 16 2 rfl rfl rfl rfl ?_
    obtain ⟨s6, e7, H⟩ := ob H
    refine g_ist hF (dAt tX4_change_ok 18 rfl rfl) hS.2.2.2.2.1 e7 ?_
    refine g_goto hF (dAt tX4_change_ok 19 rfl rfl) rfl ?_
    exact g_vret hF (en_v H hE) (dAt tX4_change_ok 32 rfl rfl) (by decide) (by decide)
  have H := Hf1_2 c1_2
  obtain ⟨Ht1_3, Hf1_3⟩ := oi H
  by_cases c1_3 : x2 = 3
  · have H := Ht1_3 c1_3
    refine g_tsw (c := 3) hF (dAt tX4_change_ok 1 rfl rfl) c1_3 (by decide) (by decide) rfl rfl ?_
    refine g_p (S' := [.ref a]) hF tX4_change_ok 20 1 rfl rfl rfl rfl ?_
    refine g_getR hF (dAt tX4_change_ok 21 rfl rfl) flX4_24 hS.1 rfl ?_
    refine g_p (S' := [.int x3, .int x1, .ref (a + 5)]) hF tX4_change_ok 22 2 rfl rfl rfl rfl ?_
    obtain ⟨s8, e9, H⟩ := ob H
    refine g_ist hF (dAt tX4_change_ok 24 rfl rfl) hS.2.2.2.2.2.1 e9 ?_
    refine g_goto hF (dAt tX4_change_ok 25 rfl rfl) rfl ?_
    exact g_vret hF (en_v H hE) (dAt tX4_change_ok 32 rfl rfl) (by decide) (by decide)
  have H := Hf1_3 c1_3
  obtain ⟨Ht1_4, Hf1_4⟩ := oi H
  by_cases c1_4 : x2 = 4
  · have H := Ht1_4 c1_4
    refine g_tsw (c := 4) hF (dAt tX4_change_ok 1 rfl rfl) c1_4 (by decide) (by decide) rfl rfl ?_
    refine g_p (S' := [.ref a]) hF tX4_change_ok 26 1 rfl rfl rfl rfl ?_
    refine g_getR hF (dAt tX4_change_ok 27 rfl rfl) flX4_27 hS.1 rfl ?_
    refine g_p (S' := [.int x3, .int x1, .ref (a + 6)]) hF tX4_change_ok 28 2 rfl rfl rfl rfl ?_
    obtain ⟨s10, e11, H⟩ := ob H
    refine g_ist hF (dAt tX4_change_ok 30 rfl rfl) hS.2.2.2.2.2.2.1 e11 ?_
    refine g_goto hF (dAt tX4_change_ok 31 rfl rfl) rfl ?_
    exact g_vret hF (en_v H hE) (dAt tX4_change_ok 32 rfl rfl) (by decide) (by decide)
  have H := Hf1_4 c1_4
  refine g_tswD hF (dAt tX4_change_ok 1 rfl rfl) (tsw_l 0 4 5 [0, 1, 2, 3, 4] (al1 c1_0 (al1 c1_1 (al1 c1_2 (al1 c1_3 (al1 c1_4 al0))))) (by decide) (by decide)) rfl ?_
  exact g_vret hF (en_v H hE) (dAt tX4_change_ok 32 rfl rfl) (by decide) (by decide)
def X4_tellOf_f (a : Nat) (x1 x2 : Int32) (σ : Sig) : Option (Int32) := if x2 = 0 then ((ld 12 (σ (a + 1)) x1).bind fun v2 => some v2) else if x2 = 1 then ((ld 12 (σ (a + 2)) x1).bind fun v4 => some v4) else if x2 = 2 then ((ld 12 (σ (a + 3)) x1).bind fun v6 => some v6) else if x2 = 3 then ((ld 12 (σ (a + 4)) x1).bind fun v8 => some v8) else if x2 = 4 then ((ld 12 (σ (a + 5)) x1).bind fun v10 => some v10) else if x2 = 5 then ((ld 12 (σ (a + 6)) x1).bind fun v12 => some v12) else if x2 = 6 then ((ld 12 (σ (a + 7)) x1).bind fun v14 => some v14) else (some (-2))
set_option maxRecDepth 4000 in
set_option maxHeartbeats 1000000 in
theorem X4_tellOf_ok {D : Nat} {τ : Tau} {nx : Nat} {a : Nat} {x1 x2 : Int32} {σ : Sig} {res : Int32} (hD : 1 ≤ D) (hS : ShX4 τ a) (H : X4_tellOf_f a x1 x2 σ = some res) : Ok D 0 0 yX4_tellOf cX4_tellOf 3 (some .int) [.ref a, .int x1, .int x2] (τ, σ, nx) (some (.int res)) (τ, σ, nx) := by
  refine ok_of (by decide +kernel) rfl (Nat.le_of_ble_eq_true rfl) (fun K X hF hE hN L0 hL0 => ?_)
  obtain rfl : [some (.ref a), some (.int x1), some (.int x2)] = L0 := hL0
  have hF : Fx K X cX4_tellOf 3 RX4 D 0 0 := hF
  refine g_p (S' := [.int x2]) hF tX4_tellOf_ok 0 1 rfl rfl rfl rfl ?_
  obtain ⟨Ht1_0, Hf1_0⟩ := oi H
  by_cases c1_0 : x2 = 0
  · have H := Ht1_0 c1_0
    refine g_tsw (c := 0) hF (dAt tX4_tellOf_ok 1 rfl rfl) c1_0 (by decide) (by decide) rfl rfl ?_
    refine g_p (S' := [.ref a]) hF tX4_tellOf_ok 2 1 rfl rfl rfl rfl ?_
    refine g_getR hF (dAt tX4_tellOf_ok 3 rfl rfl) flX4_9 hS.1 rfl ?_
    refine g_p (S' := [.int x1, .ref (a + 1)]) hF tX4_tellOf_ok 4 1 rfl rfl rfl rfl ?_
    obtain ⟨v2, e3, H⟩ := ob H
    refine g_ild hF (dAt tX4_tellOf_ok 5 rfl rfl) hS.2.1 e3 ?_
    exact g_iret hF (en_i H hE) (dAt tX4_tellOf_ok 6 rfl rfl) (by decide) (by decide)
  have H := Hf1_0 c1_0
  obtain ⟨Ht1_1, Hf1_1⟩ := oi H
  by_cases c1_1 : x2 = 1
  · have H := Ht1_1 c1_1
    refine g_tsw (c := 1) hF (dAt tX4_tellOf_ok 1 rfl rfl) c1_1 (by decide) (by decide) rfl rfl ?_
    refine g_p (S' := [.ref a]) hF tX4_tellOf_ok 7 1 rfl rfl rfl rfl ?_
    refine g_getR hF (dAt tX4_tellOf_ok 8 rfl rfl) flX4_15 hS.1 rfl ?_
    refine g_p (S' := [.int x1, .ref (a + 2)]) hF tX4_tellOf_ok 9 1 rfl rfl rfl rfl ?_
    obtain ⟨v4, e5, H⟩ := ob H
    refine g_ild hF (dAt tX4_tellOf_ok 10 rfl rfl) hS.2.2.1 e5 ?_
    exact g_iret hF (en_i H hE) (dAt tX4_tellOf_ok 11 rfl rfl) (by decide) (by decide)
  have H := Hf1_1 c1_1
  obtain ⟨Ht1_2, Hf1_2⟩ := oi H
  by_cases c1_2 : x2 = 2
  · have H := Ht1_2 c1_2
    refine g_tsw (c := 2) hF (dAt tX4_tellOf_ok 1 rfl rfl) c1_2 (by decide) (by decide) rfl rfl ?_
    refine g_p (S' := [.ref a]) hF tX4_tellOf_ok 12 1 rfl rfl rfl rfl ?_
    refine g_getR hF (dAt tX4_tellOf_ok 13 rfl rfl) flX4_18 hS.1 rfl ?_
    refine g_p (S' := [.int x1, .ref (a + 3)]) hF tX4_tellOf_ok 14 1 rfl rfl rfl rfl ?_
    obtain ⟨v6, e7, H⟩ := ob H
    refine g_ild hF (dAt tX4_tellOf_ok 15 rfl rfl) hS.2.2.2.1 e7 ?_
    exact g_iret hF (en_i H hE) (dAt tX4_tellOf_ok 16 rfl rfl) (by decide) (by decide)
  have H := Hf1_2 c1_2
  obtain ⟨Ht1_3, Hf1_3⟩ := oi H
  by_cases c1_3 : x2 = 3
  · have H := Ht1_3 c1_3
    refine g_tsw (c := 3) hF (dAt tX4_tellOf_ok 1 rfl rfl) c1_3 (by decide) (by decide) rfl rfl ?_
    refine g_p (S' := [.ref a]) hF tX4_tellOf_ok 17 1 rfl rfl rfl rfl ?_
    refine g_getR hF (dAt tX4_tellOf_ok 18 rfl rfl) flX4_21 hS.1 rfl ?_
    refine g_p (S' := [.int x1, .ref (a + 4)]) hF tX4_tellOf_ok 19 1 rfl rfl rfl rfl ?_
    obtain ⟨v8, e9, H⟩ := ob H
    refine g_ild hF (dAt tX4_tellOf_ok 20 rfl rfl) hS.2.2.2.2.1 e9 ?_
    exact g_iret hF (en_i H hE) (dAt tX4_tellOf_ok 21 rfl rfl) (by decide) (by decide)
  have H := Hf1_3 c1_3
  obtain ⟨Ht1_4, Hf1_4⟩ := oi H
  by_cases c1_4 : x2 = 4
  · have H := Ht1_4 c1_4
    refine g_tsw (c := 4) hF (dAt tX4_tellOf_ok 1 rfl rfl) c1_4 (by decide) (by decide) rfl rfl ?_
    refine g_p (S' := [.ref a]) hF tX4_tellOf_ok 22 1 rfl rfl rfl rfl ?_
    refine g_getR hF (dAt tX4_tellOf_ok 23 rfl rfl) flX4_24 hS.1 rfl ?_
    refine g_p (S' := [.int x1, .ref (a + 5)]) hF tX4_tellOf_ok 24 1 rfl rfl rfl rfl ?_
    obtain ⟨v10, e11, H⟩ := ob H
    refine g_ild hF (dAt tX4_tellOf_ok 25 rfl rfl) hS.2.2.2.2.2.1 e11 ?_
    exact g_iret hF (en_i H hE) (dAt tX4_tellOf_ok 26 rfl rfl) (by decide) (by decide)
  have H := Hf1_4 c1_4
  obtain ⟨Ht1_5, Hf1_5⟩ := oi H
  by_cases c1_5 : x2 = 5
  · have H := Ht1_5 c1_5
    refine g_tsw (c := 5) hF (dAt tX4_tellOf_ok 1 rfl rfl) c1_5 (by decide) (by decide) rfl rfl ?_
    refine g_p (S' := [.ref a]) hF tX4_tellOf_ok 27 1 rfl rfl rfl rfl ?_
    refine g_getR hF (dAt tX4_tellOf_ok 28 rfl rfl) flX4_27 hS.1 rfl ?_
    refine g_p (S' := [.int x1, .ref (a + 6)]) hF tX4_tellOf_ok 29 1 rfl rfl rfl rfl ?_
    obtain ⟨v12, e13, H⟩ := ob H
    refine g_ild hF (dAt tX4_tellOf_ok 30 rfl rfl) hS.2.2.2.2.2.2.1 e13 ?_
    exact g_iret hF (en_i H hE) (dAt tX4_tellOf_ok 31 rfl rfl) (by decide) (by decide)
  have H := Hf1_5 c1_5
  obtain ⟨Ht1_6, Hf1_6⟩ := oi H
  by_cases c1_6 : x2 = 6
  · have H := Ht1_6 c1_6
    refine g_tsw (c := 6) hF (dAt tX4_tellOf_ok 1 rfl rfl) c1_6 (by decide) (by decide) rfl rfl ?_
    refine g_p (S' := [.ref a]) hF tX4_tellOf_ok 32 1 rfl rfl rfl rfl ?_
    refine g_getR hF (dAt tX4_tellOf_ok 33 rfl rfl) flX4_30 hS.1 rfl ?_
    refine g_p (S' := [.int x1, .ref (a + 7)]) hF tX4_tellOf_ok 34 1 rfl rfl rfl rfl ?_
    obtain ⟨v14, e15, H⟩ := ob H
    refine g_ild hF (dAt tX4_tellOf_ok 35 rfl rfl) hS.2.2.2.2.2.2.2.1 e15 ?_
    exact g_iret hF (en_i H hE) (dAt tX4_tellOf_ok 36 rfl rfl) (by decide) (by decide)
  have H := Hf1_6 c1_6
  refine g_tswD hF (dAt tX4_tellOf_ok 1 rfl rfl) (tsw_l 0 6 7 [0, 1, 2, 3, 4, 5, 6] (al1 c1_0 (al1 c1_1 (al1 c1_2 (al1 c1_3 (al1 c1_4 (al1 c1_5 (al1 c1_6 al0))))))) (by decide) (by decide)) rfl ?_
  refine g_p (S' := [.int (-2)]) hF tX4_tellOf_ok 37 1 rfl rfl rfl rfl ?_
  exact g_iret hF (en_i H hE) (dAt tX4_tellOf_ok 38 rfl rfl) (by decide) (by decide)
def X4_hush_f (a : Nat) (x1 : Int32) (σ : Sig) : Option (Sig) := (st 12 σ (a + 8) x1 (-1)).bind fun s1 => (st 12 s1 (a + 9) x1 (-1)).bind fun s3 => (st 12 s3 (a + 10) x1 (-1)).bind fun s5 => some s5
set_option maxRecDepth 4000 in
set_option maxHeartbeats 1000000 in
theorem X4_hush_ok {D : Nat} {τ : Tau} {nx : Nat} {a : Nat} {x1 : Int32} {σ : Sig} {res : Sig} (hD : 1 ≤ D) (hS : ShX4 τ a) (H : X4_hush_f a x1 σ = some res) : Ok D 0 0 yX4_hush cX4_hush 2 none [.ref a, .int x1] (τ, σ, nx) none (τ, res, nx) := by
  refine ok_of (by decide +kernel) rfl (Nat.le_of_ble_eq_true rfl) (fun K X hF hE hN L0 hL0 => ?_)
  obtain rfl : [some (.ref a), some (.int x1)] = L0 := hL0
  have hF : Fx K X cX4_hush 2 RX4 D 0 0 := hF
  refine g_p (S' := [.ref a]) hF tX4_hush_ok 0 1 rfl rfl rfl rfl ?_
  refine g_getR hF (dAt tX4_hush_ok 1 rfl rfl) flX4_33 hS.1 rfl ?_
  refine g_p (S' := [.int (-1), .int x1, .ref (a + 8)]) hF tX4_hush_ok 2 2 rfl rfl rfl rfl ?_
  obtain ⟨s1, e2, H⟩ := ob H
  refine g_ist hF (dAt tX4_hush_ok 4 rfl rfl) hS.2.2.2.2.2.2.2.2.1 e2 ?_
  refine g_p (S' := [.ref a]) hF tX4_hush_ok 5 1 rfl rfl rfl rfl ?_
  refine g_getR hF (dAt tX4_hush_ok 6 rfl rfl) flX4_36 hS.1 rfl ?_
  refine g_p (S' := [.int (-1), .int x1, .ref (a + 9)]) hF tX4_hush_ok 7 2 rfl rfl rfl rfl ?_
  obtain ⟨s3, e4, H⟩ := ob H
  refine g_ist hF (dAt tX4_hush_ok 9 rfl rfl) hS.2.2.2.2.2.2.2.2.2.1 e4 ?_
  refine g_p (S' := [.ref a]) hF tX4_hush_ok 10 1 rfl rfl rfl rfl ?_
  refine g_getR hF (dAt tX4_hush_ok 11 rfl rfl) flX4_39 hS.1 rfl ?_
  refine g_p (S' := [.int (-1), .int x1, .ref (a + 10)]) hF tX4_hush_ok 12 2 rfl rfl rfl rfl ?_
  obtain ⟨s5, e6, H⟩ := ob H
  refine g_ist hF (dAt tX4_hush_ok 14 rfl rfl) hS.2.2.2.2.2.2.2.2.2.2 e6 ?_
  exact g_vret hF (en_v H hE) (dAt tX4_hush_ok 15 rfl rfl) (by decide) (by decide)
def X4_noiseOf_f (a : Nat) (x1 x2 : Int32) (σ : Sig) : Option (Int32) := if x2 = 0 then ((ld 12 (σ (a + 8)) x1).bind fun v7 => some v7) else (if x2 = 1 then ((ld 12 (σ (a + 9)) x1).bind fun v5 => some v5) else ((ld 12 (σ (a + 10)) x1).bind fun v3 => some v3))
set_option maxRecDepth 4000 in
set_option maxHeartbeats 1000000 in
theorem X4_noiseOf_ok {D : Nat} {τ : Tau} {nx : Nat} {a : Nat} {x1 x2 : Int32} {σ : Sig} {res : Int32} (hD : 1 ≤ D) (hS : ShX4 τ a) (H : X4_noiseOf_f a x1 x2 σ = some res) : Ok D 0 0 yX4_noiseOf cX4_noiseOf 3 (some .int) [.ref a, .int x1, .int x2] (τ, σ, nx) (some (.int res)) (τ, σ, nx) := by
  refine ok_of (by decide +kernel) rfl (Nat.le_of_ble_eq_true rfl) (fun K X hF hE hN L0 hL0 => ?_)
  obtain rfl : [some (.ref a), some (.int x1), some (.int x2)] = L0 := hL0
  have hF : Fx K X cX4_noiseOf 3 RX4 D 0 0 := hF
  refine g_p (S' := [.int x2]) hF tX4_noiseOf_ok 0 1 rfl rfl rfl rfl ?_
  obtain ⟨Ht1, Hf1⟩ := oi H
  refine g_if_ne hF (dAt tX4_noiseOf_ok 1 rfl rfl) rfl (fun c1 => ?_) (fun c1 => ?_)
  · have H := Hf1 c1
    refine g_p (S' := [.int 1, .int x2]) hF tX4_noiseOf_ok 7 2 rfl rfl rfl rfl ?_
    obtain ⟨Ht2, Hf2⟩ := oi H
    refine g_icmp_ne hF (dAt tX4_noiseOf_ok 9 rfl rfl) rfl (fun c2 => ?_) (fun c2 => ?_)
    · have H := Hf2 c2
      refine g_p (S' := [.ref a]) hF tX4_noiseOf_ok 15 1 rfl rfl rfl rfl ?_
      refine g_getR hF (dAt tX4_noiseOf_ok 16 rfl rfl) flX4_39 hS.1 rfl ?_
      refine g_p (S' := [.int x1, .ref (a + 10)]) hF tX4_noiseOf_ok 17 1 rfl rfl rfl rfl ?_
      obtain ⟨v3, e4, H⟩ := ob H
      refine g_ild hF (dAt tX4_noiseOf_ok 18 rfl rfl) hS.2.2.2.2.2.2.2.2.2.2 e4 ?_
      exact g_iret hF (en_i H hE) (dAt tX4_noiseOf_ok 19 rfl rfl) (by decide) (by decide)
    · have H := Ht2 c2
      refine g_p (S' := [.ref a]) hF tX4_noiseOf_ok 10 1 rfl rfl rfl rfl ?_
      refine g_getR hF (dAt tX4_noiseOf_ok 11 rfl rfl) flX4_36 hS.1 rfl ?_
      refine g_p (S' := [.int x1, .ref (a + 9)]) hF tX4_noiseOf_ok 12 1 rfl rfl rfl rfl ?_
      obtain ⟨v5, e6, H⟩ := ob H
      refine g_ild hF (dAt tX4_noiseOf_ok 13 rfl rfl) hS.2.2.2.2.2.2.2.2.2.1 e6 ?_
      refine g_goto hF (dAt tX4_noiseOf_ok 14 rfl rfl) rfl ?_
      exact g_iret hF (en_i H hE) (dAt tX4_noiseOf_ok 19 rfl rfl) (by decide) (by decide)
  · have H := Ht1 c1
    refine g_p (S' := [.ref a]) hF tX4_noiseOf_ok 2 1 rfl rfl rfl rfl ?_
    refine g_getR hF (dAt tX4_noiseOf_ok 3 rfl rfl) flX4_33 hS.1 rfl ?_
    refine g_p (S' := [.int x1, .ref (a + 8)]) hF tX4_noiseOf_ok 4 1 rfl rfl rfl rfl ?_
    obtain ⟨v7, e8, H⟩ := ob H
    refine g_ild hF (dAt tX4_noiseOf_ok 5 rfl rfl) hS.2.2.2.2.2.2.2.2.1 e8 ?_
    exact g_iret hF (en_i H hE) (dAt tX4_noiseOf_ok 6 rfl rfl) (by decide) (by decide)
def X4_othersWith_b4 (a : Nat) (σ : Sig) : Nat → Int32 → Int32 → Int32 → Option (Int32)
  | 0, _, _, _ => none
  | fu + 1, x1, x2, x3 => if (σ a 0) ≤ x3 then (some x2) else (if x3 = x1 then (X4_othersWith_b4 a σ fu x1 x2 (x3 + 1)) else ((ld 12 (σ (a + 2)) x3).bind fun v3 => (ld 12 (σ (a + 2)) x1).bind fun v5 => if v3 = v5 then (X4_othersWith_b4 a σ fu x1 (x2 + 1) (x3 + 1)) else (X4_othersWith_b4 a σ fu x1 x2 (x3 + 1))))
set_option maxRecDepth 4000 in
set_option maxHeartbeats 1000000 in
theorem X4_othersWith_b4_ok {K : Kt} {X : Cx} {D : Nat} {τ : Tau} {nx : Nat} {a : Nat} {res : Int32} {σ : Sig}  (hD : 1 ≤ D) (hF : Fx K X cX4_othersWith 4 RX4 D 0 0) (hS : ShX4 τ a) (hE : En K X (some .int) 0 0 (some (.int res)) (τ, σ, nx)) : ∀ (fu : Nat) (x1 x2 x3 : Int32), X4_othersWith_b4 a σ fu x1 x2 x3 = some res → G K X 4 0 0 4 [some (.ref a), some (.int x1), some (.int x2), some (.int x3)] [] (τ, σ, nx)
  | 0, _, _, _, H => nomatch H
  | fu + 1, x1, x2, x3, H => by
    refine g_p (S' := [.ref a, .int x3]) hF tX4_othersWith_ok 4 2 rfl rfl rfl rfl ?_
    refine g_getI hF (dAt tX4_othersWith_ok 6 rfl rfl) flX4_42 hS.1 rfl ?_
    obtain ⟨Ht1, Hf1⟩ := oi H
    refine g_icmp_ge hF (dAt tX4_othersWith_ok 7 rfl rfl) rfl (fun c1 => ?_) (fun c1 => ?_)
    · have H := Ht1 c1
      refine g_p (S' := [.int x2]) hF tX4_othersWith_ok 23 1 rfl rfl rfl rfl ?_
      exact g_iret hF (en_i H hE) (dAt tX4_othersWith_ok 24 rfl rfl) (by decide) (by decide)
    · have H := Hf1 c1
      refine g_p (S' := [.int x1, .int x3]) hF tX4_othersWith_ok 8 2 rfl rfl rfl rfl ?_
      obtain ⟨Ht2, Hf2⟩ := oi H
      refine g_icmp_eq hF (dAt tX4_othersWith_ok 10 rfl rfl) rfl (fun c2 => ?_) (fun c2 => ?_)
      · have H := Ht2 c2
        refine g_p (L' := [some (.ref a), some (.int x1), some (.int x2), some (.int (x3 + 1))]) (S' := []) hF tX4_othersWith_ok 21 1 rfl rfl rfl rfl ?_
        refine g_goto hF (dAt tX4_othersWith_ok 22 rfl rfl) rfl ?_
        exact X4_othersWith_b4_ok hD hF hS hE fu _ _ _ H
      · have H := Hf2 c2
        refine g_p (S' := [.ref a]) hF tX4_othersWith_ok 11 1 rfl rfl rfl rfl ?_
        refine g_getR hF (dAt tX4_othersWith_ok 12 rfl rfl) flX4_15 hS.1 rfl ?_
        refine g_p (S' := [.int x3, .ref (a + 2)]) hF tX4_othersWith_ok 13 1 rfl rfl rfl rfl ?_
        obtain ⟨v3, e4, H⟩ := ob H
        refine g_ild hF (dAt tX4_othersWith_ok 14 rfl rfl) hS.2.2.1 e4 ?_
        refine g_p (S' := [.ref a, .int v3]) hF tX4_othersWith_ok 15 1 rfl rfl rfl rfl ?_
        refine g_getR hF (dAt tX4_othersWith_ok 16 rfl rfl) flX4_15 hS.1 rfl ?_
        refine g_p (S' := [.int x1, .ref (a + 2), .int v3]) hF tX4_othersWith_ok 17 1 rfl rfl rfl rfl ?_
        obtain ⟨v5, e6, H⟩ := ob H
        refine g_ild hF (dAt tX4_othersWith_ok 18 rfl rfl) hS.2.2.1 e6 ?_
        obtain ⟨Ht7, Hf7⟩ := oi H
        refine g_icmp_ne hF (dAt tX4_othersWith_ok 19 rfl rfl) rfl (fun c7 => ?_) (fun c7 => ?_)
        · have H := Hf7 c7
          refine g_p (L' := [some (.ref a), some (.int x1), some (.int x2), some (.int (x3 + 1))]) (S' := []) hF tX4_othersWith_ok 21 1 rfl rfl rfl rfl ?_
          refine g_goto hF (dAt tX4_othersWith_ok 22 rfl rfl) rfl ?_
          exact X4_othersWith_b4_ok hD hF hS hE fu _ _ _ H
        · have H := Ht7 c7
          refine g_p (L' := [some (.ref a), some (.int x1), some (.int (x2 + 1)), some (.int (x3 + 1))]) (S' := []) hF tX4_othersWith_ok 20 2 rfl rfl rfl rfl ?_
          refine g_goto hF (dAt tX4_othersWith_ok 22 rfl rfl) rfl ?_
          exact X4_othersWith_b4_ok hD hF hS hE fu _ _ _ H
def X4_othersWith_f (a : Nat) (x1 : Int32) (σ : Sig) : Option (Int32) := X4_othersWith_b4 a σ FU x1 0 0
set_option maxRecDepth 4000 in
set_option maxHeartbeats 1000000 in
theorem X4_othersWith_ok {D : Nat} {τ : Tau} {nx : Nat} {a : Nat} {x1 : Int32} {σ : Sig} {res : Int32} (hD : 1 ≤ D) (hS : ShX4 τ a) (H : X4_othersWith_f a x1 σ = some res) : Ok D 0 0 yX4_othersWith cX4_othersWith 4 (some .int) [.ref a, .int x1] (τ, σ, nx) (some (.int res)) (τ, σ, nx) := by
  refine ok_of (by decide +kernel) rfl (Nat.le_of_ble_eq_true rfl) (fun K X hF hE hN L0 hL0 => ?_)
  obtain rfl : [some (.ref a), some (.int x1), none, none] = L0 := hL0
  have hF : Fx K X cX4_othersWith 4 RX4 D 0 0 := hF
  refine g_p (L' := [some (.ref a), some (.int x1), some (.int 0), some (.int 0)]) (S' := []) hF tX4_othersWith_ok 0 4 rfl rfl rfl rfl ?_
  exact X4_othersWith_b4_ok hD hF hS hE FU _ _ _ H
def X4_noChildren_b4 (a : Nat) (σ : Sig) : Nat → Int32 → Int32 → Option (Int32)
  | 0, _, _ => none
  | fu + 1, x1, x2 => if (σ a 0) ≤ x2 then (some x1) else ((ld 12 (σ (a + 1)) x2).bind fun v2 => if v2 = 1 then (X4_noChildren_b4 a σ fu x1 (x2 + 1)) else (X4_noChildren_b4 a σ fu (x1 ||| (1 <<< (x2 &&& 31))) (x2 + 1)))
set_option maxRecDepth 4000 in
set_option maxHeartbeats 1000000 in
theorem X4_noChildren_b4_ok {K : Kt} {X : Cx} {D : Nat} {τ : Tau} {nx : Nat} {a : Nat} {res : Int32} {σ : Sig}  (hD : 1 ≤ D) (hF : Fx K X cX4_noChildren 3 RX4 D 0 0) (hS : ShX4 τ a) (hE : En K X (some .int) 0 0 (some (.int res)) (τ, σ, nx)) : ∀ (fu : Nat) (x1 x2 : Int32), X4_noChildren_b4 a σ fu x1 x2 = some res → G K X 3 0 0 4 [some (.ref a), some (.int x1), some (.int x2)] [] (τ, σ, nx)
  | 0, _, _, H => nomatch H
  | fu + 1, x1, x2, H => by
    refine g_p (S' := [.ref a, .int x2]) hF tX4_noChildren_ok 4 2 rfl rfl rfl rfl ?_
    refine g_getI hF (dAt tX4_noChildren_ok 6 rfl rfl) flX4_42 hS.1 rfl ?_
    obtain ⟨Ht1, Hf1⟩ := oi H
    refine g_icmp_ge hF (dAt tX4_noChildren_ok 7 rfl rfl) rfl (fun c1 => ?_) (fun c1 => ?_)
    · have H := Ht1 c1
      refine g_p (S' := [.int x1]) hF tX4_noChildren_ok 22 1 rfl rfl rfl rfl ?_
      exact g_iret hF (en_i H hE) (dAt tX4_noChildren_ok 23 rfl rfl) (by decide) (by decide)
    · have H := Hf1 c1
      refine g_p (S' := [.ref a]) hF tX4_noChildren_ok 8 1 rfl rfl rfl rfl ?_
      refine g_getR hF (dAt tX4_noChildren_ok 9 rfl rfl) flX4_9 hS.1 rfl ?_
      refine g_p (S' := [.int x2, .ref (a + 1)]) hF tX4_noChildren_ok 10 1 rfl rfl rfl rfl ?_
      obtain ⟨v2, e3, H⟩ := ob H
      refine g_ild hF (dAt tX4_noChildren_ok 11 rfl rfl) hS.2.1 e3 ?_
      refine g_p (S' := [.int 1, .int v2]) hF tX4_noChildren_ok 12 1 rfl rfl rfl rfl ?_
      obtain ⟨Ht4, Hf4⟩ := oi H
      refine g_icmp_eq hF (dAt tX4_noChildren_ok 13 rfl rfl) rfl (fun c4 => ?_) (fun c4 => ?_)
      · have H := Ht4 c4
        refine g_p (L' := [some (.ref a), some (.int x1), some (.int (x2 + 1))]) (S' := []) hF tX4_noChildren_ok 20 1 rfl rfl rfl rfl ?_
        refine g_goto hF (dAt tX4_noChildren_ok 21 rfl rfl) rfl ?_
        exact X4_noChildren_b4_ok hD hF hS hE fu _ _ H
      · have H := Hf4 c4
        refine g_p (L' := [some (.ref a), some (.int (x1 ||| (1 <<< (x2 &&& 31)))), some (.int (x2 + 1))]) (S' := []) hF tX4_noChildren_ok 14 7 rfl rfl rfl rfl ?_
        refine g_goto hF (dAt tX4_noChildren_ok 21 rfl rfl) rfl ?_
        exact X4_noChildren_b4_ok hD hF hS hE fu _ _ H
def X4_noChildren_f (a : Nat) (σ : Sig) : Option (Int32) := X4_noChildren_b4 a σ FU 0 0
set_option maxRecDepth 4000 in
set_option maxHeartbeats 1000000 in
theorem X4_noChildren_ok {D : Nat} {τ : Tau} {nx : Nat} {a : Nat} {σ : Sig} {res : Int32} (hD : 1 ≤ D) (hS : ShX4 τ a) (H : X4_noChildren_f a σ = some res) : Ok D 0 0 yX4_noChildren cX4_noChildren 3 (some .int) [.ref a] (τ, σ, nx) (some (.int res)) (τ, σ, nx) := by
  refine ok_of (by decide +kernel) rfl (Nat.le_of_ble_eq_true rfl) (fun K X hF hE hN L0 hL0 => ?_)
  obtain rfl : [some (.ref a), none, none] = L0 := hL0
  have hF : Fx K X cX4_noChildren 3 RX4 D 0 0 := hF
  refine g_p (L' := [some (.ref a), some (.int 0), some (.int 0)]) (S' := []) hF tX4_noChildren_ok 0 4 rfl rfl rfl rfl ?_
  exact X4_noChildren_b4_ok hD hF hS hE FU _ _ H
def X4_pay_f (a : Nat) (x1 x2 x3 : Int32) (σ : Sig) : Option (Sig) := (X4_has_f a x1 σ).bind fun v1 => if v1 = 0 then (some σ) else ((X4_has_f a x2 σ).bind fun v4 => if v4 = 0 then (some σ) else ((ld 12 (σ (a + 6)) x1).bind fun v7 => (st 12 σ (a + 6) x1 (v7 - x3)).bind fun s9 => (ld 12 (s9 (a + 6)) x2).bind fun v11 => (st 12 s9 (a + 6) x2 (v11 + x3)).bind fun s13 => some s13))
set_option maxRecDepth 4000 in
set_option maxHeartbeats 1000000 in
theorem X4_pay_ok {D : Nat} {τ : Tau} {nx : Nat} {a : Nat} {x1 x2 x3 : Int32} {σ : Sig} {res : Sig} (hD : 2 ≤ D) (hS : ShX4 τ a) (H : X4_pay_f a x1 x2 x3 σ = some res) : Ok D 0 0 yX4_pay cX4_pay 4 none [.ref a, .int x1, .int x2, .int x3] (τ, σ, nx) none (τ, res, nx) := by
  refine ok_of (by decide +kernel) rfl (Nat.le_of_ble_eq_true rfl) (fun K X hF hE hN L0 hL0 => ?_)
  obtain rfl : [some (.ref a), some (.int x1), some (.int x2), some (.int x3)] = L0 := hL0
  have hF : Fx K X cX4_pay 4 RX4 D 0 0 := hF
  refine g_p (S' := [.int x1, .ref a]) hF tX4_pay_ok 0 2 rfl rfl rfl rfl ?_
  obtain ⟨v1, e2, H⟩ := ob H
  refine g_cV (S := []) hF (X4_has_ok (Nat.le_refl _) hS e2 K) mbX4_has mvX4_has mlX4_52 (by omega) (by decide) (dAt tX4_pay_ok 2 rfl rfl) hS.1 rfl rfl rfl (Nat.le_of_ble_eq_true rfl) rfl rfl (by decide) (by decide) rfl ?_
  obtain ⟨Ht3, Hf3⟩ := oi H
  refine g_if_eq hF (dAt tX4_pay_ok 3 rfl rfl) rfl (fun c3 => ?_) (fun c3 => ?_)
  · have H := Ht3 c3
    exact g_vret hF (en_v H hE) (dAt tX4_pay_ok 24 rfl rfl) (by decide) (by decide)
  · have H := Hf3 c3
    refine g_p (S' := [.int x2, .ref a]) hF tX4_pay_ok 4 2 rfl rfl rfl rfl ?_
    obtain ⟨v4, e5, H⟩ := ob H
    refine g_cV (S := []) hF (X4_has_ok (Nat.le_refl _) hS e5 K) mbX4_has mvX4_has mlX4_52 (by omega) (by decide) (dAt tX4_pay_ok 6 rfl rfl) hS.1 rfl rfl rfl (Nat.le_of_ble_eq_true rfl) rfl rfl (by decide) (by decide) rfl ?_
    obtain ⟨Ht6, Hf6⟩ := oi H
    refine g_if_eq hF (dAt tX4_pay_ok 7 rfl rfl) rfl (fun c6 => ?_) (fun c6 => ?_)
    · have H := Ht6 c6
      exact g_vret hF (en_v H hE) (dAt tX4_pay_ok 24 rfl rfl) (by decide) (by decide)
    · have H := Hf6 c6
      refine g_p (S' := [.ref a]) hF tX4_pay_ok 8 1 rfl rfl rfl rfl ?_
      refine g_getR hF (dAt tX4_pay_ok 9 rfl rfl) flX4_27 hS.1 rfl ?_
      refine g_p (S' := [.int x1, .ref (a + 6), .int x1, .ref (a + 6)]) hF tX4_pay_ok 10 2 rfl rfl rfl rfl ?_
      obtain ⟨v7, e8, H⟩ := ob H
      refine g_ild hF (dAt tX4_pay_ok 12 rfl rfl) hS.2.2.2.2.2.2.1 e8 ?_
      refine g_p (S' := [.int (v7 - x3), .int x1, .ref (a + 6)]) hF tX4_pay_ok 13 2 rfl rfl rfl rfl ?_
      obtain ⟨s9, e10, H⟩ := ob H
      refine g_ist hF (dAt tX4_pay_ok 15 rfl rfl) hS.2.2.2.2.2.2.1 e10 ?_
      refine g_p (S' := [.ref a]) hF tX4_pay_ok 16 1 rfl rfl rfl rfl ?_
      refine g_getR hF (dAt tX4_pay_ok 17 rfl rfl) flX4_27 hS.1 rfl ?_
      refine g_p (S' := [.int x2, .ref (a + 6), .int x2, .ref (a + 6)]) hF tX4_pay_ok 18 2 rfl rfl rfl rfl ?_
      obtain ⟨v11, e12, H⟩ := ob H
      refine g_ild hF (dAt tX4_pay_ok 20 rfl rfl) hS.2.2.2.2.2.2.1 e12 ?_
      refine g_p (S' := [.int (v11 + x3), .int x2, .ref (a + 6)]) hF tX4_pay_ok 21 2 rfl rfl rfl rfl ?_
      obtain ⟨s13, e14, H⟩ := ob H
      refine g_ist hF (dAt tX4_pay_ok 23 rfl rfl) hS.2.2.2.2.2.2.1 e14 ?_
      exact g_vret hF (en_v H hE) (dAt tX4_pay_ok 24 rfl rfl) (by decide) (by decide)
def X4_add_f (a : Nat) (x1 x2 x3 x4 x5 : Int32) (σ : Sig) : Option (Int32 × Sig) := if (σ a 0) < 12 then ((st 12 σ (a + 1) (σ a 0) x1).bind fun s2 => (st 12 s2 (a + 2) (σ a 0) x2).bind fun s4 => (st 12 s4 (a + 3) (σ a 0) x3).bind fun s6 => (st 12 s6 (a + 4) (σ a 0) x4).bind fun s8 => (st 12 s8 (a + 5) (σ a 0) x5).bind fun s10 => (st 12 s10 (a + 6) (σ a 0) 0).bind fun s12 => (st 12 s12 (a + 7) (σ a 0) (-1)).bind fun s14 => (X4_hush_f a (σ a 0) s14).bind fun s16 => (pI s16 a 0 ((s16 a 0) + 1)).bind fun s18 => some ((σ a 0), s18)) else (some ((-1), σ))
set_option maxRecDepth 4000 in
set_option maxHeartbeats 1000000 in
theorem X4_add_ok {D : Nat} {τ : Tau} {nx : Nat} {a : Nat} {x1 x2 x3 x4 x5 : Int32} {σ : Sig} {res : Int32} {rsg : Sig} (hD : 2 ≤ D) (hS : ShX4 τ a) (H : X4_add_f a x1 x2 x3 x4 x5 σ = some (res, rsg)) : Ok D 0 0 yX4_add cX4_add 7 (some .int) [.ref a, .int x1, .int x2, .int x3, .int x4, .int x5] (τ, σ, nx) (some (.int res)) (τ, rsg, nx) := by
  refine ok_of (by decide +kernel) rfl (Nat.le_of_ble_eq_true rfl) (fun K X hF hE hN L0 hL0 => ?_)
  obtain rfl : [some (.ref a), some (.int x1), some (.int x2), some (.int x3), some (.int x4), some (.int x5), none] = L0 := hL0
  have hF : Fx K X cX4_add 7 RX4 D 0 0 := hF
  refine g_p (S' := [.ref a]) hF tX4_add_ok 0 1 rfl rfl rfl rfl ?_
  refine g_getI hF (dAt tX4_add_ok 1 rfl rfl) flX4_42 hS.1 rfl ?_
  refine g_p (L' := [some (.ref a), some (.int x1), some (.int x2), some (.int x3), some (.int x4), some (.int x5), some (.int (σ a 0))]) (S' := [.int 12, .int (σ a 0)]) hF tX4_add_ok 2 3 rfl rfl rfl rfl ?_
  obtain ⟨Ht1, Hf1⟩ := oi H
  refine g_icmp_lt hF (dAt tX4_add_ok 5 rfl rfl) rfl (fun c1 => ?_) (fun c1 => ?_)
  · have H := Ht1 c1
    refine g_p (S' := [.ref a]) hF tX4_add_ok 8 1 rfl rfl rfl rfl ?_
    refine g_getR hF (dAt tX4_add_ok 9 rfl rfl) flX4_9 hS.1 rfl ?_
    refine g_p (S' := [.int x1, .int (σ a 0), .ref (a + 1)]) hF tX4_add_ok 10 2 rfl rfl rfl rfl ?_
    obtain ⟨s2, e3, H⟩ := ob H
    refine g_ist hF (dAt tX4_add_ok 12 rfl rfl) hS.2.1 e3 ?_
    refine g_p (S' := [.ref a]) hF tX4_add_ok 13 1 rfl rfl rfl rfl ?_
    refine g_getR hF (dAt tX4_add_ok 14 rfl rfl) flX4_15 hS.1 rfl ?_
    refine g_p (S' := [.int x2, .int (σ a 0), .ref (a + 2)]) hF tX4_add_ok 15 2 rfl rfl rfl rfl ?_
    obtain ⟨s4, e5, H⟩ := ob H
    refine g_ist hF (dAt tX4_add_ok 17 rfl rfl) hS.2.2.1 e5 ?_
    refine g_p (S' := [.ref a]) hF tX4_add_ok 18 1 rfl rfl rfl rfl ?_
    refine g_getR hF (dAt tX4_add_ok 19 rfl rfl) flX4_18 hS.1 rfl ?_
    refine g_p (S' := [.int x3, .int (σ a 0), .ref (a + 3)]) hF tX4_add_ok 20 2 rfl rfl rfl rfl ?_
    obtain ⟨s6, e7, H⟩ := ob H
    refine g_ist hF (dAt tX4_add_ok 22 rfl rfl) hS.2.2.2.1 e7 ?_
    refine g_p (S' := [.ref a]) hF tX4_add_ok 23 1 rfl rfl rfl rfl ?_
    refine g_getR hF (dAt tX4_add_ok 24 rfl rfl) flX4_21 hS.1 rfl ?_
    refine g_p (S' := [.int x4, .int (σ a 0), .ref (a + 4)]) hF tX4_add_ok 25 2 rfl rfl rfl rfl ?_
    obtain ⟨s8, e9, H⟩ := ob H
    refine g_ist hF (dAt tX4_add_ok 27 rfl rfl) hS.2.2.2.2.1 e9 ?_
    refine g_p (S' := [.ref a]) hF tX4_add_ok 28 1 rfl rfl rfl rfl ?_
    refine g_getR hF (dAt tX4_add_ok 29 rfl rfl) flX4_24 hS.1 rfl ?_
    refine g_p (S' := [.int x5, .int (σ a 0), .ref (a + 5)]) hF tX4_add_ok 30 2 rfl rfl rfl rfl ?_
    obtain ⟨s10, e11, H⟩ := ob H
    refine g_ist hF (dAt tX4_add_ok 32 rfl rfl) hS.2.2.2.2.2.1 e11 ?_
    refine g_p (S' := [.ref a]) hF tX4_add_ok 33 1 rfl rfl rfl rfl ?_
    refine g_getR hF (dAt tX4_add_ok 34 rfl rfl) flX4_27 hS.1 rfl ?_
    refine g_p (S' := [.int 0, .int (σ a 0), .ref (a + 6)]) hF tX4_add_ok 35 2 rfl rfl rfl rfl ?_
    obtain ⟨s12, e13, H⟩ := ob H
    refine g_ist hF (dAt tX4_add_ok 37 rfl rfl) hS.2.2.2.2.2.2.1 e13 ?_
    refine g_p (S' := [.ref a]) hF tX4_add_ok 38 1 rfl rfl rfl rfl ?_
    refine g_getR hF (dAt tX4_add_ok 39 rfl rfl) flX4_30 hS.1 rfl ?_
    refine g_p (S' := [.int (-1), .int (σ a 0), .ref (a + 7)]) hF tX4_add_ok 40 2 rfl rfl rfl rfl ?_
    obtain ⟨s14, e15, H⟩ := ob H
    refine g_ist hF (dAt tX4_add_ok 42 rfl rfl) hS.2.2.2.2.2.2.2.1 e15 ?_
    refine g_p (S' := [.int (σ a 0), .ref a]) hF tX4_add_ok 43 2 rfl rfl rfl rfl ?_
    obtain ⟨s16, e17, H⟩ := ob H
    refine g_cV (S := []) hF (X4_hush_ok (Nat.le_refl _) hS e17 K) mbX4_hush mvX4_hush mlX4_56 (by omega) (by decide) (dAt tX4_add_ok 45 rfl rfl) hS.1 rfl rfl rfl (Nat.le_of_ble_eq_true rfl) rfl rfl (by decide) (by decide) rfl ?_
    refine g_p (S' := [.ref a, .ref a]) hF tX4_add_ok 46 2 rfl rfl rfl rfl ?_
    refine g_getI hF (dAt tX4_add_ok 48 rfl rfl) flX4_42 hS.1 rfl ?_
    refine g_p (S' := [.int ((s16 a 0) + 1), .ref a]) hF tX4_add_ok 49 2 rfl rfl rfl rfl ?_
    obtain ⟨s18, e19, H⟩ := ob H
    refine g_pI hF (dAt tX4_add_ok 51 rfl rfl) flX4_42 (Or.inl rfl) hS.1 rfl e19 ?_
    refine g_p (S' := [.int (σ a 0)]) hF tX4_add_ok 52 1 rfl rfl rfl rfl ?_
    exact g_iret hF (en_p H hE) (dAt tX4_add_ok 53 rfl rfl) (by decide) (by decide)
  · have H := Hf1 c1
    refine g_p (S' := [.int (-1)]) hF tX4_add_ok 6 1 rfl rfl rfl rfl ?_
    exact g_iret hF (en_p H hE) (dAt tX4_add_ok 7 rfl rfl) (by decide) (by decide)
end
section
/-! SilenceForMoney$Town -/
def X9_copyFrom_f (a : Nat) (r1 : Nat) (σ : Sig) : Option (Sig) := (cp 36 36 σ (r1 + 1) 0 (a + 1) 0 36).bind fun s1 => (cp 24 24 s1 (r1 + 2) 0 (a + 2) 0 24).bind fun s3 => (pI s3 a 2 (s3 r1 2)).bind fun s5 => (pI s5 a 3 (s5 r1 3)).bind fun s7 => (pI s7 a 4 (s7 r1 4)).bind fun s9 => (pI s9 a 5 (s9 r1 5)).bind fun s11 => (pI s11 a 6 (s11 r1 6)).bind fun s13 => some s13
set_option maxRecDepth 4000 in
set_option maxHeartbeats 1000000 in
theorem X9_copyFrom_ok {D : Nat} {τ : Tau} {nx : Nat} {a : Nat} {r1 : Nat} {σ : Sig} {res : Sig} (hD : 1 ≤ D) (hS : ShX9 τ a) (hr1 : ShX9 τ r1) (H : X9_copyFrom_f a r1 σ = some res) : Ok D 0 0 yX9_copyFrom cX9_copyFrom 2 none [.ref a, .ref r1] (τ, σ, nx) none (τ, res, nx) := by
  refine ok_of (by decide +kernel) rfl (Nat.le_of_ble_eq_true rfl) (fun K X hF hE hN L0 hL0 => ?_)
  obtain rfl : [some (.ref a), some (.ref r1)] = L0 := hL0
  have hF : Fx K X cX9_copyFrom 2 RX9 D 0 0 := hF
  refine g_p (S' := [.ref r1]) hF tX9_copyFrom_ok 0 1 rfl rfl rfl rfl ?_
  refine g_getR hF (dAt tX9_copyFrom_ok 1 rfl rfl) flX9_9 hr1.1 rfl ?_
  refine g_p (S' := [.ref a, .int 0, .ref (r1 + 1)]) hF tX9_copyFrom_ok 2 2 rfl rfl rfl rfl ?_
  refine g_getR hF (dAt tX9_copyFrom_ok 4 rfl rfl) flX9_9 hS.1 rfl ?_
  refine g_p (S' := [.ref a, .int 0, .ref (a + 1), .int 0, .ref (r1 + 1)]) hF tX9_copyFrom_ok 5 2 rfl rfl rfl rfl ?_
  refine g_getR hF (dAt tX9_copyFrom_ok 7 rfl rfl) flX9_9 hS.1 rfl ?_
  refine g_alen hF (dAt tX9_copyFrom_ok 8 rfl rfl) hS.2.1 rfl ?_
  obtain ⟨s1, e2, H⟩ := ob H
  refine g_copy hF mlX9_31 (dAt tX9_copyFrom_ok 9 rfl rfl) hr1.2.1 hS.2.1 e2 (by omega) (Nat.le_of_ble_eq_true rfl) ?_
  refine g_p (S' := [.ref r1]) hF tX9_copyFrom_ok 10 1 rfl rfl rfl rfl ?_
  refine g_getR hF (dAt tX9_copyFrom_ok 11 rfl rfl) flX9_15 hr1.1 rfl ?_
  refine g_p (S' := [.ref a, .int 0, .ref (r1 + 2)]) hF tX9_copyFrom_ok 12 2 rfl rfl rfl rfl ?_
  refine g_getR hF (dAt tX9_copyFrom_ok 14 rfl rfl) flX9_15 hS.1 rfl ?_
  refine g_p (S' := [.ref a, .int 0, .ref (a + 2), .int 0, .ref (r1 + 2)]) hF tX9_copyFrom_ok 15 2 rfl rfl rfl rfl ?_
  refine g_getR hF (dAt tX9_copyFrom_ok 17 rfl rfl) flX9_15 hS.1 rfl ?_
  refine g_alen hF (dAt tX9_copyFrom_ok 18 rfl rfl) hS.2.2 rfl ?_
  obtain ⟨s3, e4, H⟩ := ob H
  refine g_copy hF mlX9_31 (dAt tX9_copyFrom_ok 19 rfl rfl) hr1.2.2 hS.2.2 e4 (by omega) (Nat.le_of_ble_eq_true rfl) ?_
  refine g_p (S' := [.ref r1, .ref a]) hF tX9_copyFrom_ok 20 2 rfl rfl rfl rfl ?_
  refine g_getI hF (dAt tX9_copyFrom_ok 22 rfl rfl) flX9_18 hr1.1 rfl ?_
  obtain ⟨s5, e6, H⟩ := ob H
  refine g_pI hF (dAt tX9_copyFrom_ok 23 rfl rfl) flX9_18 (Or.inl rfl) hS.1 rfl e6 ?_
  refine g_p (S' := [.ref r1, .ref a]) hF tX9_copyFrom_ok 24 2 rfl rfl rfl rfl ?_
  refine g_getI hF (dAt tX9_copyFrom_ok 26 rfl rfl) flX9_22 hr1.1 rfl ?_
  obtain ⟨s7, e8, H⟩ := ob H
  refine g_pI hF (dAt tX9_copyFrom_ok 27 rfl rfl) flX9_22 (Or.inl rfl) hS.1 rfl e8 ?_
  refine g_p (S' := [.ref r1, .ref a]) hF tX9_copyFrom_ok 28 2 rfl rfl rfl rfl ?_
  refine g_getI hF (dAt tX9_copyFrom_ok 30 rfl rfl) flX9_37 hr1.1 rfl ?_
  obtain ⟨s9, e10, H⟩ := ob H
  refine g_pI hF (dAt tX9_copyFrom_ok 31 rfl rfl) flX9_37 (Or.inl rfl) hS.1 rfl e10 ?_
  refine g_p (S' := [.ref r1, .ref a]) hF tX9_copyFrom_ok 32 2 rfl rfl rfl rfl ?_
  refine g_getI hF (dAt tX9_copyFrom_ok 34 rfl rfl) flX9_40 hr1.1 rfl ?_
  obtain ⟨s11, e12, H⟩ := ob H
  refine g_pI hF (dAt tX9_copyFrom_ok 35 rfl rfl) flX9_40 (Or.inl rfl) hS.1 rfl e12 ?_
  refine g_p (S' := [.ref r1, .ref a]) hF tX9_copyFrom_ok 36 2 rfl rfl rfl rfl ?_
  refine g_getI hF (dAt tX9_copyFrom_ok 38 rfl rfl) flX9_43 hr1.1 rfl ?_
  obtain ⟨s13, e14, H⟩ := ob H
  refine g_pI hF (dAt tX9_copyFrom_ok 39 rfl rfl) flX9_43 (Or.inl rfl) hS.1 rfl e14 ?_
  exact g_vret hF (en_v H hE) (dAt tX9_copyFrom_ok 40 rfl rfl) (by decide) (by decide)
def X9_putWall_f (a : Nat) (x1 x2 x3 : Int32) (σ : Sig) : Option (Sig) := (st 36 σ (a + 1) ((x1 * 6) + x2) x3).bind fun s1 => (st 36 s1 (a + 1) ((x2 * 6) + x1) x3).bind fun s3 => some s3
set_option maxRecDepth 4000 in
set_option maxHeartbeats 1000000 in
theorem X9_putWall_ok {D : Nat} {τ : Tau} {nx : Nat} {a : Nat} {x1 x2 x3 : Int32} {σ : Sig} {res : Sig} (hD : 1 ≤ D) (hS : ShX9 τ a) (H : X9_putWall_f a x1 x2 x3 σ = some res) : Ok D 0 0 yX9_putWall cX9_putWall 4 none [.ref a, .int x1, .int x2, .int x3] (τ, σ, nx) none (τ, res, nx) := by
  refine ok_of (by decide +kernel) rfl (Nat.le_of_ble_eq_true rfl) (fun K X hF hE hN L0 hL0 => ?_)
  obtain rfl : [some (.ref a), some (.int x1), some (.int x2), some (.int x3)] = L0 := hL0
  have hF : Fx K X cX9_putWall 4 RX9 D 0 0 := hF
  refine g_p (S' := [.ref a]) hF tX9_putWall_ok 0 1 rfl rfl rfl rfl ?_
  refine g_getR hF (dAt tX9_putWall_ok 1 rfl rfl) flX9_9 hS.1 rfl ?_
  refine g_p (S' := [.int x3, .int ((x1 * 6) + x2), .ref (a + 1)]) hF tX9_putWall_ok 2 6 rfl rfl rfl rfl ?_
  obtain ⟨s1, e2, H⟩ := ob H
  refine g_ist hF (dAt tX9_putWall_ok 8 rfl rfl) hS.2.1 e2 ?_
  refine g_p (S' := [.ref a]) hF tX9_putWall_ok 9 1 rfl rfl rfl rfl ?_
  refine g_getR hF (dAt tX9_putWall_ok 10 rfl rfl) flX9_9 hS.1 rfl ?_
  refine g_p (S' := [.int x3, .int ((x2 * 6) + x1), .ref (a + 1)]) hF tX9_putWall_ok 11 6 rfl rfl rfl rfl ?_
  obtain ⟨s3, e4, H⟩ := ob H
  refine g_ist hF (dAt tX9_putWall_ok 17 rfl rfl) hS.2.1 e4 ?_
  exact g_vret hF (en_v H hE) (dAt tX9_putWall_ok 18 rfl rfl) (by decide) (by decide)
def X9_wallBetween_f (a : Nat) (x1 x2 : Int32) (σ : Sig) : Option (Int32) := if ((x1 * 6) + x2) < 0 then (some 0) else (if 36 ≤ ((x1 * 6) + x2) then (some 0) else ((ld 36 (σ (a + 1)) ((x1 * 6) + x2)).bind fun v3 => some v3))
set_option maxRecDepth 4000 in
set_option maxHeartbeats 1000000 in
theorem X9_wallBetween_ok {D : Nat} {τ : Tau} {nx : Nat} {a : Nat} {x1 x2 : Int32} {σ : Sig} {res : Int32} (hD : 1 ≤ D) (hS : ShX9 τ a) (H : X9_wallBetween_f a x1 x2 σ = some res) : Ok D 0 0 yX9_wallBetween cX9_wallBetween 4 (some .int) [.ref a, .int x1, .int x2] (τ, σ, nx) (some (.int res)) (τ, σ, nx) := by
  refine ok_of (by decide +kernel) rfl (Nat.le_of_ble_eq_true rfl) (fun K X hF hE hN L0 hL0 => ?_)
  obtain rfl : [some (.ref a), some (.int x1), some (.int x2), none] = L0 := hL0
  have hF : Fx K X cX9_wallBetween 4 RX9 D 0 0 := hF
  refine g_p (L' := [some (.ref a), some (.int x1), some (.int x2), some (.int ((x1 * 6) + x2))]) (S' := [.int ((x1 * 6) + x2)]) hF tX9_wallBetween_ok 0 7 rfl rfl rfl rfl ?_
  obtain ⟨Ht1, Hf1⟩ := oi H
  refine g_if_lt hF (dAt tX9_wallBetween_ok 7 rfl rfl) rfl (fun c1 => ?_) (fun c1 => ?_)
  · have H := Ht1 c1
    refine g_p (S' := [.int 0]) hF tX9_wallBetween_ok 18 1 rfl rfl rfl rfl ?_
    exact g_iret hF (en_i H hE) (dAt tX9_wallBetween_ok 19 rfl rfl) (by decide) (by decide)
  · have H := Hf1 c1
    refine g_p (S' := [.ref a, .int ((x1 * 6) + x2)]) hF tX9_wallBetween_ok 8 2 rfl rfl rfl rfl ?_
    refine g_getR hF (dAt tX9_wallBetween_ok 10 rfl rfl) flX9_9 hS.1 rfl ?_
    refine g_alen hF (dAt tX9_wallBetween_ok 11 rfl rfl) hS.2.1 rfl ?_
    obtain ⟨Ht2, Hf2⟩ := oi H
    refine g_icmp_ge hF (dAt tX9_wallBetween_ok 12 rfl rfl) rfl (fun c2 => ?_) (fun c2 => ?_)
    · have H := Ht2 c2
      refine g_p (S' := [.int 0]) hF tX9_wallBetween_ok 18 1 rfl rfl rfl rfl ?_
      exact g_iret hF (en_i H hE) (dAt tX9_wallBetween_ok 19 rfl rfl) (by decide) (by decide)
    · have H := Hf2 c2
      refine g_p (S' := [.ref a]) hF tX9_wallBetween_ok 13 1 rfl rfl rfl rfl ?_
      refine g_getR hF (dAt tX9_wallBetween_ok 14 rfl rfl) flX9_9 hS.1 rfl ?_
      refine g_p (S' := [.int ((x1 * 6) + x2), .ref (a + 1)]) hF tX9_wallBetween_ok 15 1 rfl rfl rfl rfl ?_
      obtain ⟨v3, e4, H⟩ := ob H
      refine g_ild hF (dAt tX9_wallBetween_ok 16 rfl rfl) hS.2.1 e4 ?_
      refine g_goto hF (dAt tX9_wallBetween_ok 17 rfl rfl) rfl ?_
      exact g_iret hF (en_i H hE) (dAt tX9_wallBetween_ok 19 rfl rfl) (by decide) (by decide)
def X9_placeAt_f (a : Nat) (x1 : Int32) (σ : Sig) : Option (Int32) := if x1 < 0 then (some 0) else (if 24 ≤ x1 then (some 0) else ((ld 24 (σ (a + 2)) x1).bind fun v3 => some v3))
set_option maxRecDepth 4000 in
set_option maxHeartbeats 1000000 in
theorem X9_placeAt_ok {D : Nat} {τ : Tau} {nx : Nat} {a : Nat} {x1 : Int32} {σ : Sig} {res : Int32} (hD : 1 ≤ D) (hS : ShX9 τ a) (H : X9_placeAt_f a x1 σ = some res) : Ok D 0 0 yX9_placeAt cX9_placeAt 2 (some .int) [.ref a, .int x1] (τ, σ, nx) (some (.int res)) (τ, σ, nx) := by
  refine ok_of (by decide +kernel) rfl (Nat.le_of_ble_eq_true rfl) (fun K X hF hE hN L0 hL0 => ?_)
  obtain rfl : [some (.ref a), some (.int x1)] = L0 := hL0
  have hF : Fx K X cX9_placeAt 2 RX9 D 0 0 := hF
  refine g_p (S' := [.int x1]) hF tX9_placeAt_ok 0 1 rfl rfl rfl rfl ?_
  obtain ⟨Ht1, Hf1⟩ := oi H
  refine g_if_lt hF (dAt tX9_placeAt_ok 1 rfl rfl) rfl (fun c1 => ?_) (fun c1 => ?_)
  · have H := Ht1 c1
    refine g_p (S' := [.int 0]) hF tX9_placeAt_ok 12 1 rfl rfl rfl rfl ?_
    exact g_iret hF (en_i H hE) (dAt tX9_placeAt_ok 13 rfl rfl) (by decide) (by decide)
  · have H := Hf1 c1
    refine g_p (S' := [.ref a, .int x1]) hF tX9_placeAt_ok 2 2 rfl rfl rfl rfl ?_
    refine g_getR hF (dAt tX9_placeAt_ok 4 rfl rfl) flX9_15 hS.1 rfl ?_
    refine g_alen hF (dAt tX9_placeAt_ok 5 rfl rfl) hS.2.2 rfl ?_
    obtain ⟨Ht2, Hf2⟩ := oi H
    refine g_icmp_ge hF (dAt tX9_placeAt_ok 6 rfl rfl) rfl (fun c2 => ?_) (fun c2 => ?_)
    · have H := Ht2 c2
      refine g_p (S' := [.int 0]) hF tX9_placeAt_ok 12 1 rfl rfl rfl rfl ?_
      exact g_iret hF (en_i H hE) (dAt tX9_placeAt_ok 13 rfl rfl) (by decide) (by decide)
    · have H := Hf2 c2
      refine g_p (S' := [.ref a]) hF tX9_placeAt_ok 7 1 rfl rfl rfl rfl ?_
      refine g_getR hF (dAt tX9_placeAt_ok 8 rfl rfl) flX9_15 hS.1 rfl ?_
      refine g_p (S' := [.int x1, .ref (a + 2)]) hF tX9_placeAt_ok 9 1 rfl rfl rfl rfl ?_
      obtain ⟨v3, e4, H⟩ := ob H
      refine g_ild hF (dAt tX9_placeAt_ok 10 rfl rfl) hS.2.2 e4 ?_
      refine g_goto hF (dAt tX9_placeAt_ok 11 rfl rfl) rfl ?_
      exact g_iret hF (en_i H hE) (dAt tX9_placeAt_ok 13 rfl rfl) (by decide) (by decide)
end
section
/-! SilenceForMoney$Book -/
def X2_copyFrom_f (a : Nat) (M : Nat) (r1 : Nat) (M1 : Nat) (σ : Sig) : Option (Sig) := (pI σ a 2 (mmin (σ r1 2) (σ a 0))).bind fun s1 => (cp M1 M s1 (r1 + 1) 0 (a + 1) 0 ((s1 a 2) * 5)).bind fun s3 => (pI s3 a 3 (s3 r1 3)).bind fun s5 => (pI s5 a 4 (s5 r1 4)).bind fun s7 => (pI s7 a 5 (s7 r1 5)).bind fun s9 => (pI s9 a 6 (s9 r1 6)).bind fun s11 => some s11
set_option maxRecDepth 4000 in
set_option maxHeartbeats 1000000 in
theorem X2_copyFrom_ok {D : Nat} {τ : Tau} {nx : Nat} {a : Nat} {M : Nat} {r1 : Nat} {M1 : Nat} {σ : Sig} {res : Sig} (hD : 1 ≤ D) (hS : ShX2 τ a M) (hr1 : ShX2 τ r1 M1) (H : X2_copyFrom_f a M r1 M1 σ = some res) : Ok D 0 0 yX2_copyFrom cX2_copyFrom 2 none [.ref a, .ref r1] (τ, σ, nx) none (τ, res, nx) := by
  refine ok_of (by decide +kernel) rfl (Nat.le_of_ble_eq_true rfl) (fun K X hF hE hN L0 hL0 => ?_)
  obtain rfl : [some (.ref a), some (.ref r1)] = L0 := hL0
  have hF : Fx K X cX2_copyFrom 2 RX2 D 0 0 := hF
  refine g_p (S' := [.ref r1, .ref a]) hF tX2_copyFrom_ok 0 2 rfl rfl rfl rfl ?_
  refine g_getI hF (dAt tX2_copyFrom_ok 2 rfl rfl) flX2_28 hr1.1 rfl ?_
  refine g_p (S' := [.ref a, .int (σ r1 2), .ref a]) hF tX2_copyFrom_ok 3 1 rfl rfl rfl rfl ?_
  refine g_getI hF (dAt tX2_copyFrom_ok 4 rfl rfl) flX2_18 hS.1 rfl ?_
  refine g_mmin hF mlX2_9 (dAt tX2_copyFrom_ok 5 rfl rfl) (by omega) (Nat.le_of_ble_eq_true rfl) (by decide) (by decide) ?_
  obtain ⟨s1, e2, H⟩ := ob H
  refine g_pI hF (dAt tX2_copyFrom_ok 6 rfl rfl) flX2_28 (Or.inl rfl) hS.1 rfl e2 ?_
  refine g_p (S' := [.ref r1]) hF tX2_copyFrom_ok 7 1 rfl rfl rfl rfl ?_
  refine g_getR hF (dAt tX2_copyFrom_ok 8 rfl rfl) flX2_24 hr1.1 rfl ?_
  refine g_p (S' := [.ref a, .int 0, .ref (r1 + 1)]) hF tX2_copyFrom_ok 9 2 rfl rfl rfl rfl ?_
  refine g_getR hF (dAt tX2_copyFrom_ok 11 rfl rfl) flX2_24 hS.1 rfl ?_
  refine g_p (S' := [.ref a, .int 0, .ref (a + 1), .int 0, .ref (r1 + 1)]) hF tX2_copyFrom_ok 12 2 rfl rfl rfl rfl ?_
  refine g_getI hF (dAt tX2_copyFrom_ok 14 rfl rfl) flX2_28 hS.1 rfl ?_
  refine g_p (S' := [.int ((s1 a 2) * 5), .int 0, .ref (a + 1), .int 0, .ref (r1 + 1)]) hF tX2_copyFrom_ok 15 2 rfl rfl rfl rfl ?_
  obtain ⟨s3, e4, H⟩ := ob H
  refine g_copy hF mlX2_31 (dAt tX2_copyFrom_ok 17 rfl rfl) hr1.2 hS.2 e4 (by omega) (Nat.le_of_ble_eq_true rfl) ?_
  refine g_p (S' := [.ref r1, .ref a]) hF tX2_copyFrom_ok 18 2 rfl rfl rfl rfl ?_
  refine g_getI hF (dAt tX2_copyFrom_ok 20 rfl rfl) flX2_37 hr1.1 rfl ?_
  obtain ⟨s5, e6, H⟩ := ob H
  refine g_pI hF (dAt tX2_copyFrom_ok 21 rfl rfl) flX2_37 (Or.inl rfl) hS.1 rfl e6 ?_
  refine g_p (S' := [.ref r1, .ref a]) hF tX2_copyFrom_ok 22 2 rfl rfl rfl rfl ?_
  refine g_getI hF (dAt tX2_copyFrom_ok 24 rfl rfl) flX2_40 hr1.1 rfl ?_
  obtain ⟨s7, e8, H⟩ := ob H
  refine g_pI hF (dAt tX2_copyFrom_ok 25 rfl rfl) flX2_40 (Or.inl rfl) hS.1 rfl e8 ?_
  refine g_p (S' := [.ref r1, .ref a]) hF tX2_copyFrom_ok 26 2 rfl rfl rfl rfl ?_
  refine g_getI hF (dAt tX2_copyFrom_ok 28 rfl rfl) flX2_43 hr1.1 rfl ?_
  obtain ⟨s9, e10, H⟩ := ob H
  refine g_pI hF (dAt tX2_copyFrom_ok 29 rfl rfl) flX2_43 (Or.inl rfl) hS.1 rfl e10 ?_
  refine g_p (S' := [.ref r1, .ref a]) hF tX2_copyFrom_ok 30 2 rfl rfl rfl rfl ?_
  refine g_getI hF (dAt tX2_copyFrom_ok 32 rfl rfl) flX2_46 hr1.1 rfl ?_
  obtain ⟨s11, e12, H⟩ := ob H
  refine g_pI hF (dAt tX2_copyFrom_ok 33 rfl rfl) flX2_46 (Or.inl rfl) hS.1 rfl e12 ?_
  exact g_vret hF (en_v H hE) (dAt tX2_copyFrom_ok 34 rfl rfl) (by decide) (by decide)
def X2_write_f (a : Nat) (M : Nat) (r1 : Nat) (x2 x3 x4 : Int32) (σ : Sig) : Option (Sig) := if (σ a 2) < (σ a 0) then ((st M σ (a + 1) ((σ a 2) * 5) (σ r1 1)).bind fun s2 => (st M s2 (a + 1) (((σ a 2) * 5) + 1) (s2 r1 2)).bind fun s4 => (st M s4 (a + 1) (((σ a 2) * 5) + 2) x2).bind fun s6 => (st M s6 (a + 1) (((σ a 2) * 5) + 3) x3).bind fun s8 => (st M s8 (a + 1) (((σ a 2) * 5) + 4) x4).bind fun s10 => (pI s10 a 2 ((s10 a 2) + 1)).bind fun s12 => some s12) else (some σ)
set_option maxRecDepth 4000 in
set_option maxHeartbeats 1000000 in
theorem X2_write_ok {D : Nat} {τ : Tau} {nx : Nat} {a : Nat} {M : Nat} {r1 : Nat} {x2 x3 x4 : Int32} {σ : Sig} {res : Sig} (hD : 1 ≤ D) (hS : ShX2 τ a M) (hr1 : ShX8 τ r1) (H : X2_write_f a M r1 x2 x3 x4 σ = some res) : Ok D 0 0 yX2_write cX2_write 6 none [.ref a, .ref r1, .int x2, .int x3, .int x4] (τ, σ, nx) none (τ, res, nx) := by
  refine ok_of (by decide +kernel) rfl (Nat.le_of_ble_eq_true rfl) (fun K X hF hE hN L0 hL0 => ?_)
  obtain rfl : [some (.ref a), some (.ref r1), some (.int x2), some (.int x3), some (.int x4), none] = L0 := hL0
  have hF : Fx K X cX2_write 6 RX2 D 0 0 := hF
  refine g_p (S' := [.ref a]) hF tX2_write_ok 0 1 rfl rfl rfl rfl ?_
  refine g_getI hF (dAt tX2_write_ok 1 rfl rfl) flX2_28 hS.1 rfl ?_
  refine g_p (S' := [.ref a, .int (σ a 2)]) hF tX2_write_ok 2 1 rfl rfl rfl rfl ?_
  refine g_getI hF (dAt tX2_write_ok 3 rfl rfl) flX2_18 hS.1 rfl ?_
  obtain ⟨Ht1, Hf1⟩ := oi H
  refine g_icmp_lt hF (dAt tX2_write_ok 4 rfl rfl) rfl (fun c1 => ?_) (fun c1 => ?_)
  · have H := Ht1 c1
    refine g_p (S' := [.ref a]) hF tX2_write_ok 6 1 rfl rfl rfl rfl ?_
    refine g_getI hF (dAt tX2_write_ok 7 rfl rfl) flX2_28 hS.1 rfl ?_
    refine g_p (L' := [some (.ref a), some (.ref r1), some (.int x2), some (.int x3), some (.int x4), some (.int ((σ a 2) * 5))]) (S' := [.ref a]) hF tX2_write_ok 8 4 rfl rfl rfl rfl ?_
    refine g_getR hF (dAt tX2_write_ok 12 rfl rfl) flX2_24 hS.1 rfl ?_
    refine g_p (S' := [.ref r1, .int ((σ a 2) * 5), .ref (a + 1)]) hF tX2_write_ok 13 2 rfl rfl rfl rfl ?_
    refine g_getI hF (dAt tX2_write_ok 15 rfl rfl) flX2_49 hr1 rfl ?_
    obtain ⟨s2, e3, H⟩ := ob H
    refine g_ist hF (dAt tX2_write_ok 16 rfl rfl) hS.2 e3 ?_
    refine g_p (S' := [.ref a]) hF tX2_write_ok 17 1 rfl rfl rfl rfl ?_
    refine g_getR hF (dAt tX2_write_ok 18 rfl rfl) flX2_24 hS.1 rfl ?_
    refine g_p (S' := [.ref r1, .int (((σ a 2) * 5) + 1), .ref (a + 1)]) hF tX2_write_ok 19 4 rfl rfl rfl rfl ?_
    refine g_getI hF (dAt tX2_write_ok 23 rfl rfl) flX2_54 hr1 rfl ?_
    obtain ⟨s4, e5, H⟩ := ob H
    refine g_ist hF (dAt tX2_write_ok 24 rfl rfl) hS.2 e5 ?_
    refine g_p (S' := [.ref a]) hF tX2_write_ok 25 1 rfl rfl rfl rfl ?_
    refine g_getR hF (dAt tX2_write_ok 26 rfl rfl) flX2_24 hS.1 rfl ?_
    refine g_p (S' := [.int x2, .int (((σ a 2) * 5) + 2), .ref (a + 1)]) hF tX2_write_ok 27 4 rfl rfl rfl rfl ?_
    obtain ⟨s6, e7, H⟩ := ob H
    refine g_ist hF (dAt tX2_write_ok 31 rfl rfl) hS.2 e7 ?_
    refine g_p (S' := [.ref a]) hF tX2_write_ok 32 1 rfl rfl rfl rfl ?_
    refine g_getR hF (dAt tX2_write_ok 33 rfl rfl) flX2_24 hS.1 rfl ?_
    refine g_p (S' := [.int x3, .int (((σ a 2) * 5) + 3), .ref (a + 1)]) hF tX2_write_ok 34 4 rfl rfl rfl rfl ?_
    obtain ⟨s8, e9, H⟩ := ob H
    refine g_ist hF (dAt tX2_write_ok 38 rfl rfl) hS.2 e9 ?_
    refine g_p (S' := [.ref a]) hF tX2_write_ok 39 1 rfl rfl rfl rfl ?_
    refine g_getR hF (dAt tX2_write_ok 40 rfl rfl) flX2_24 hS.1 rfl ?_
    refine g_p (S' := [.int x4, .int (((σ a 2) * 5) + 4), .ref (a + 1)]) hF tX2_write_ok 41 4 rfl rfl rfl rfl ?_
    obtain ⟨s10, e11, H⟩ := ob H
    refine g_ist hF (dAt tX2_write_ok 45 rfl rfl) hS.2 e11 ?_
    refine g_p (S' := [.ref a, .ref a]) hF tX2_write_ok 46 2 rfl rfl rfl rfl ?_
    refine g_getI hF (dAt tX2_write_ok 48 rfl rfl) flX2_28 hS.1 rfl ?_
    refine g_p (S' := [.int ((s10 a 2) + 1), .ref a]) hF tX2_write_ok 49 2 rfl rfl rfl rfl ?_
    obtain ⟨s12, e13, H⟩ := ob H
    refine g_pI hF (dAt tX2_write_ok 51 rfl rfl) flX2_28 (Or.inl rfl) hS.1 rfl e13 ?_
    exact g_vret hF (en_v H hE) (dAt tX2_write_ok 52 rfl rfl) (by decide) (by decide)
  · have H := Hf1 c1
    exact g_vret hF (en_v H hE) (dAt tX2_write_ok 5 rfl rfl) (by decide) (by decide)
def X2_isBetterThan_f (a : Nat) (M : Nat) (x1 x2 : Int32) (σ : Sig) : Option (Int32) := if (σ a 3) = x1 then (if x2 ≤ (σ a 4) then (some 0) else (some 1)) else (if (σ a 3) ≤ x1 then (some 0) else (some 1))
set_option maxRecDepth 4000 in
set_option maxHeartbeats 1000000 in
theorem X2_isBetterThan_ok {D : Nat} {τ : Tau} {nx : Nat} {a : Nat} {M : Nat} {x1 x2 : Int32} {σ : Sig} {res : Int32} (hD : 1 ≤ D) (hS : ShX2 τ a M) (H : X2_isBetterThan_f a M x1 x2 σ = some res) : Ok D 0 0 yX2_isBetterThan cX2_isBetterThan 3 (some .boolean) [.ref a, .int x1, .int x2] (τ, σ, nx) (some (.int res)) (τ, σ, nx) := by
  refine ok_of (by decide +kernel) rfl (Nat.le_of_ble_eq_true rfl) (fun K X hF hE hN L0 hL0 => ?_)
  obtain rfl : [some (.ref a), some (.int x1), some (.int x2)] = L0 := hL0
  have hF : Fx K X cX2_isBetterThan 3 RX2 D 0 0 := hF
  refine g_p (S' := [.ref a]) hF tX2_isBetterThan_ok 0 1 rfl rfl rfl rfl ?_
  refine g_getI hF (dAt tX2_isBetterThan_ok 1 rfl rfl) flX2_37 hS.1 rfl ?_
  refine g_p (S' := [.int x1, .int (σ a 3)]) hF tX2_isBetterThan_ok 2 1 rfl rfl rfl rfl ?_
  obtain ⟨Ht1, Hf1⟩ := oi H
  refine g_icmp_ne hF (dAt tX2_isBetterThan_ok 3 rfl rfl) rfl (fun c1 => ?_) (fun c1 => ?_)
  · have H := Hf1 c1
    refine g_p (S' := [.ref a]) hF tX2_isBetterThan_ok 12 1 rfl rfl rfl rfl ?_
    refine g_getI hF (dAt tX2_isBetterThan_ok 13 rfl rfl) flX2_37 hS.1 rfl ?_
    refine g_p (S' := [.int x1, .int (σ a 3)]) hF tX2_isBetterThan_ok 14 1 rfl rfl rfl rfl ?_
    obtain ⟨Ht2, Hf2⟩ := oi H
    refine g_icmp_le hF (dAt tX2_isBetterThan_ok 15 rfl rfl) rfl (fun c2 => ?_) (fun c2 => ?_)
    · have H := Ht2 c2
      refine g_p (S' := [.int 0]) hF tX2_isBetterThan_ok 18 1 rfl rfl rfl rfl ?_
      exact g_zret hF (en_i H hE) (Or.inl rfl) (dAt tX2_isBetterThan_ok 19 rfl rfl) (by decide) (by decide)
    · have H := Hf2 c2
      refine g_p (S' := [.int 1]) hF tX2_isBetterThan_ok 16 1 rfl rfl rfl rfl ?_
      refine g_goto hF (dAt tX2_isBetterThan_ok 17 rfl rfl) rfl ?_
      exact g_zret hF (en_i H hE) (Or.inr rfl) (dAt tX2_isBetterThan_ok 19 rfl rfl) (by decide) (by decide)
  · have H := Ht1 c1
    refine g_p (S' := [.ref a]) hF tX2_isBetterThan_ok 4 1 rfl rfl rfl rfl ?_
    refine g_getI hF (dAt tX2_isBetterThan_ok 5 rfl rfl) flX2_40 hS.1 rfl ?_
    refine g_p (S' := [.int x2, .int (σ a 4)]) hF tX2_isBetterThan_ok 6 1 rfl rfl rfl rfl ?_
    obtain ⟨Ht3, Hf3⟩ := oi H
    refine g_icmp_ge hF (dAt tX2_isBetterThan_ok 7 rfl rfl) rfl (fun c3 => ?_) (fun c3 => ?_)
    · have H := Ht3 c3
      refine g_p (S' := [.int 0]) hF tX2_isBetterThan_ok 10 1 rfl rfl rfl rfl ?_
      refine g_goto hF (dAt tX2_isBetterThan_ok 11 rfl rfl) rfl ?_
      exact g_zret hF (en_i H hE) (Or.inl rfl) (dAt tX2_isBetterThan_ok 19 rfl rfl) (by decide) (by decide)
    · have H := Hf3 c3
      refine g_p (S' := [.int 1]) hF tX2_isBetterThan_ok 8 1 rfl rfl rfl rfl ?_
      refine g_goto hF (dAt tX2_isBetterThan_ok 9 rfl rfl) rfl ?_
      exact g_zret hF (en_i H hE) (Or.inr rfl) (dAt tX2_isBetterThan_ok 19 rfl rfl) (by decide) (by decide)
def X2_countOf_f (a : Nat) (M : Nat) (x1 : Int32) (σ : Sig) : Option (Int32) := if x1 = 0 then (some (σ a 3)) else if x1 = 1 then (some (σ a 4)) else if x1 = 2 then (some (σ a 5)) else (some (σ a 6))
set_option maxRecDepth 4000 in
set_option maxHeartbeats 1000000 in
theorem X2_countOf_ok {D : Nat} {τ : Tau} {nx : Nat} {a : Nat} {M : Nat} {x1 : Int32} {σ : Sig} {res : Int32} (hD : 1 ≤ D) (hS : ShX2 τ a M) (H : X2_countOf_f a M x1 σ = some res) : Ok D 0 0 yX2_countOf cX2_countOf 2 (some .int) [.ref a, .int x1] (τ, σ, nx) (some (.int res)) (τ, σ, nx) := by
  refine ok_of (by decide +kernel) rfl (Nat.le_of_ble_eq_true rfl) (fun K X hF hE hN L0 hL0 => ?_)
  obtain rfl : [some (.ref a), some (.int x1)] = L0 := hL0
  have hF : Fx K X cX2_countOf 2 RX2 D 0 0 := hF
  refine g_p (S' := [.int x1]) hF tX2_countOf_ok 0 1 rfl rfl rfl rfl ?_
  obtain ⟨Ht1_0, Hf1_0⟩ := oi H
  by_cases c1_0 : x1 = 0
  · have H := Ht1_0 c1_0
    refine g_tsw (c := 0) hF (dAt tX2_countOf_ok 1 rfl rfl) c1_0 (by decide) (by decide) rfl rfl ?_
    refine g_p (S' := [.ref a]) hF tX2_countOf_ok 2 1 rfl rfl rfl rfl ?_
    refine g_getI hF (dAt tX2_countOf_ok 3 rfl rfl) flX2_37 hS.1 rfl ?_
    exact g_iret hF (en_i H hE) (dAt tX2_countOf_ok 4 rfl rfl) (by decide) (by decide)
  have H := Hf1_0 c1_0
  obtain ⟨Ht1_1, Hf1_1⟩ := oi H
  by_cases c1_1 : x1 = 1
  · have H := Ht1_1 c1_1
    refine g_tsw (c := 1) hF (dAt tX2_countOf_ok 1 rfl rfl) c1_1 (by decide) (by decide) rfl rfl ?_
    refine g_p (S' := [.ref a]) hF tX2_countOf_ok 5 1 rfl rfl rfl rfl ?_
    refine g_getI hF (dAt tX2_countOf_ok 6 rfl rfl) flX2_40 hS.1 rfl ?_
    exact g_iret hF (en_i H hE) (dAt tX2_countOf_ok 7 rfl rfl) (by decide) (by decide)
  have H := Hf1_1 c1_1
  obtain ⟨Ht1_2, Hf1_2⟩ := oi H
  by_cases c1_2 : x1 = 2
  · have H := Ht1_2 c1_2
    refine g_tsw (c := 2) hF (dAt tX2_countOf_ok 1 rfl rfl) c1_2 (by decide) (by decide) rfl rfl ?_
    refine g_p (S' := [.ref a]) hF tX2_countOf_ok 8 1 rfl rfl rfl rfl ?_
    refine g_getI hF (dAt tX2_countOf_ok 9 rfl rfl) flX2_43 hS.1 rfl ?_
    exact g_iret hF (en_i H hE) (dAt tX2_countOf_ok 10 rfl rfl) (by decide) (by decide)
  have H := Hf1_2 c1_2
  refine g_tswD hF (dAt tX2_countOf_ok 1 rfl rfl) (tsw_l 0 2 3 [0, 1, 2] (al1 c1_0 (al1 c1_1 (al1 c1_2 al0))) (by decide) (by decide)) rfl ?_
  refine g_p (S' := [.ref a]) hF tX2_countOf_ok 11 1 rfl rfl rfl rfl ?_
  refine g_getI hF (dAt tX2_countOf_ok 12 rfl rfl) flX2_46 hS.1 rfl ?_
  exact g_iret hF (en_i H hE) (dAt tX2_countOf_ok 13 rfl rfl) (by decide) (by decide)
end
section
/-! SilenceForMoney$Tape -/
def X6_put_b3 (a : Nat) : Nat → Int32 → Int32 → Sig → Option (Sig)
  | 0, _, _, _ => none
  | fu + 1, x1, x2, σ => if x2 < 0 then (some σ) else (if 400 ≤ (σ a 1) then (X6_put_b3 a fu x1 (x2 + (-8)) σ) else ((st 400 σ (a + 1) (σ a 1) (((x1 : Int32).toUInt32 >>> ((x2 : Int32).toUInt32 &&& Int32.toUInt32 31)).toInt32 &&& 255)).bind fun s3 => (pI s3 a 1 ((s3 a 1) + 1)).bind fun s5 => X6_put_b3 a fu x1 (x2 + (-8)) s5))
set_option maxRecDepth 4000 in
set_option maxHeartbeats 1000000 in
theorem X6_put_b3_ok {K : Kt} {X : Cx} {D : Nat} {τ : Tau} {nx : Nat} {a : Nat} {res : Sig}  (hD : 1 ≤ D) (hF : Fx K X cX6_put 3 RX6 D 0 0) (hS : ShX6 τ a) (hE : En K X none 0 0 none (τ, res, nx)) : ∀ (fu : Nat) (x1 x2 : Int32) (σ : Sig), X6_put_b3 a fu x1 x2 σ = some res → G K X 3 0 0 3 [some (.ref a), some (.int x1), some (.int x2)] [] (τ, σ, nx)
  | 0, _, _, _, H => nomatch H
  | fu + 1, x1, x2, σ, H => by
    refine g_p (S' := [.int x2]) hF tX6_put_ok 2 1 rfl rfl rfl rfl ?_
    obtain ⟨Ht1, Hf1⟩ := oi H
    refine g_if_lt hF (dAt tX6_put_ok 3 rfl rfl) rfl (fun c1 => ?_) (fun c1 => ?_)
    · have H := Ht1 c1
      exact g_vret hF (en_v H hE) (dAt tX6_put_ok 26 rfl rfl) (by decide) (by decide)
    · have H := Hf1 c1
      refine g_p (S' := [.ref a]) hF tX6_put_ok 4 1 rfl rfl rfl rfl ?_
      refine g_getI hF (dAt tX6_put_ok 5 rfl rfl) flX6_15 hS.1 rfl ?_
      refine g_p (S' := [.int 400, .int (σ a 1)]) hF tX6_put_ok 6 1 rfl rfl rfl rfl ?_
      obtain ⟨Ht2, Hf2⟩ := oi H
      refine g_icmp_ge hF (dAt tX6_put_ok 7 rfl rfl) rfl (fun c2 => ?_) (fun c2 => ?_)
      · have H := Ht2 c2
        refine g_p (L' := [some (.ref a), some (.int x1), some (.int (x2 + (-8)))]) (S' := []) hF tX6_put_ok 24 1 rfl rfl rfl rfl ?_
        refine g_goto hF (dAt tX6_put_ok 25 rfl rfl) rfl ?_
        exact X6_put_b3_ok hD hF hS hE fu _ _ _ H
      · have H := Hf2 c2
        refine g_p (S' := [.ref a]) hF tX6_put_ok 8 1 rfl rfl rfl rfl ?_
        refine g_getR hF (dAt tX6_put_ok 9 rfl rfl) flX6_9 hS.1 rfl ?_
        refine g_p (S' := [.ref a, .ref (a + 1)]) hF tX6_put_ok 10 1 rfl rfl rfl rfl ?_
        refine g_getI hF (dAt tX6_put_ok 11 rfl rfl) flX6_15 hS.1 rfl ?_
        refine g_p (S' := [.int (((x1 : Int32).toUInt32 >>> ((x2 : Int32).toUInt32 &&& Int32.toUInt32 31)).toInt32 &&& 255), .int (σ a 1), .ref (a + 1)]) hF tX6_put_ok 12 5 rfl rfl rfl rfl ?_
        obtain ⟨s3, e4, H⟩ := ob H
        refine g_ist hF (dAt tX6_put_ok 17 rfl rfl) hS.2 e4 ?_
        refine g_p (S' := [.ref a, .ref a]) hF tX6_put_ok 18 2 rfl rfl rfl rfl ?_
        refine g_getI hF (dAt tX6_put_ok 20 rfl rfl) flX6_15 hS.1 rfl ?_
        refine g_p (S' := [.int ((s3 a 1) + 1), .ref a]) hF tX6_put_ok 21 2 rfl rfl rfl rfl ?_
        obtain ⟨s5, e6, H⟩ := ob H
        refine g_pI hF (dAt tX6_put_ok 23 rfl rfl) flX6_15 (Or.inl rfl) hS.1 rfl e6 ?_
        refine g_p (L' := [some (.ref a), some (.int x1), some (.int (x2 + (-8)))]) (S' := []) hF tX6_put_ok 24 1 rfl rfl rfl rfl ?_
        refine g_goto hF (dAt tX6_put_ok 25 rfl rfl) rfl ?_
        exact X6_put_b3_ok hD hF hS hE fu _ _ _ H
def X6_put_f (a : Nat) (x1 : Int32) (σ : Sig) : Option (Sig) := X6_put_b3 a FU x1 24 σ
set_option maxRecDepth 4000 in
set_option maxHeartbeats 1000000 in
theorem X6_put_ok {D : Nat} {τ : Tau} {nx : Nat} {a : Nat} {x1 : Int32} {σ : Sig} {res : Sig} (hD : 1 ≤ D) (hS : ShX6 τ a) (H : X6_put_f a x1 σ = some res) : Ok D 0 0 yX6_put cX6_put 3 none [.ref a, .int x1] (τ, σ, nx) none (τ, res, nx) := by
  refine ok_of (by decide +kernel) rfl (Nat.le_of_ble_eq_true rfl) (fun K X hF hE hN L0 hL0 => ?_)
  obtain rfl : [some (.ref a), some (.int x1), none] = L0 := hL0
  have hF : Fx K X cX6_put 3 RX6 D 0 0 := hF
  refine g_p (L' := [some (.ref a), some (.int x1), some (.int 24)]) (S' := []) hF tX6_put_ok 0 2 rfl rfl rfl rfl ?_
  exact X6_put_b3_ok hD hF hS hE FU _ _ _ H
end
section
/-! SilenceForMoney$Debts -/
def X3_copyFrom_f (a : Nat) (r1 : Nat) (σ : Sig) : Option (Sig) := (pI σ a 0 (σ r1 0)).bind fun s1 => (cp 40 40 s1 (r1 + 1) 0 (a + 1) 0 40).bind fun s3 => (cp 40 40 s3 (r1 + 2) 0 (a + 2) 0 40).bind fun s5 => (cp 40 40 s5 (r1 + 3) 0 (a + 3) 0 40).bind fun s7 => (cp 40 40 s7 (r1 + 4) 0 (a + 4) 0 40).bind fun s9 => (cp 40 40 s9 (r1 + 5) 0 (a + 5) 0 40).bind fun s11 => (cp 40 40 s11 (r1 + 6) 0 (a + 6) 0 40).bind fun s13 => (cp 40 40 s13 (r1 + 7) 0 (a + 7) 0 40).bind fun s15 => some s15
set_option maxRecDepth 4000 in
set_option maxHeartbeats 1000000 in
theorem X3_copyFrom_ok {D : Nat} {τ : Tau} {nx : Nat} {a : Nat} {r1 : Nat} {σ : Sig} {res : Sig} (hD : 1 ≤ D) (hS : ShX3 τ a) (hr1 : ShX3 τ r1) (H : X3_copyFrom_f a r1 σ = some res) : Ok D 0 0 yX3_copyFrom cX3_copyFrom 2 none [.ref a, .ref r1] (τ, σ, nx) none (τ, res, nx) := by
  refine ok_of (by decide +kernel) rfl (Nat.le_of_ble_eq_true rfl) (fun K X hF hE hN L0 hL0 => ?_)
  obtain rfl : [some (.ref a), some (.ref r1)] = L0 := hL0
  have hF : Fx K X cX3_copyFrom 2 RX3 D 0 0 := hF
  refine g_p (S' := [.ref r1, .ref a]) hF tX3_copyFrom_ok 0 2 rfl rfl rfl rfl ?_
  refine g_getI hF (dAt tX3_copyFrom_ok 2 rfl rfl) flX3_42 hr1.1 rfl ?_
  obtain ⟨s1, e2, H⟩ := ob H
  refine g_pI hF (dAt tX3_copyFrom_ok 3 rfl rfl) flX3_42 (Or.inl rfl) hS.1 rfl e2 ?_
  refine g_p (S' := [.ref r1]) hF tX3_copyFrom_ok 4 1 rfl rfl rfl rfl ?_
  refine g_getR hF (dAt tX3_copyFrom_ok 5 rfl rfl) flX3_9 hr1.1 rfl ?_
  refine g_p (S' := [.ref a, .int 0, .ref (r1 + 1)]) hF tX3_copyFrom_ok 6 2 rfl rfl rfl rfl ?_
  refine g_getR hF (dAt tX3_copyFrom_ok 8 rfl rfl) flX3_9 hS.1 rfl ?_
  refine g_p (S' := [.int 40, .int 0, .ref (a + 1), .int 0, .ref (r1 + 1)]) hF tX3_copyFrom_ok 9 2 rfl rfl rfl rfl ?_
  obtain ⟨s3, e4, H⟩ := ob H
  refine g_copy hF mlX3_46 (dAt tX3_copyFrom_ok 11 rfl rfl) hr1.2.1 hS.2.1 e4 (by omega) (Nat.le_of_ble_eq_true rfl) ?_
  refine g_p (S' := [.ref r1]) hF tX3_copyFrom_ok 12 1 rfl rfl rfl rfl ?_
  refine g_getR hF (dAt tX3_copyFrom_ok 13 rfl rfl) flX3_15 hr1.1 rfl ?_
  refine g_p (S' := [.ref a, .int 0, .ref (r1 + 2)]) hF tX3_copyFrom_ok 14 2 rfl rfl rfl rfl ?_
  refine g_getR hF (dAt tX3_copyFrom_ok 16 rfl rfl) flX3_15 hS.1 rfl ?_
  refine g_p (S' := [.int 40, .int 0, .ref (a + 2), .int 0, .ref (r1 + 2)]) hF tX3_copyFrom_ok 17 2 rfl rfl rfl rfl ?_
  obtain ⟨s5, e6, H⟩ := ob H
  refine g_copy hF mlX3_46 (dAt tX3_copyFrom_ok 19 rfl rfl) hr1.2.2.1 hS.2.2.1 e6 (by omega) (Nat.le_of_ble_eq_true rfl) ?_
  refine g_p (S' := [.ref r1]) hF tX3_copyFrom_ok 20 1 rfl rfl rfl rfl ?_
  refine g_getR hF (dAt tX3_copyFrom_ok 21 rfl rfl) flX3_18 hr1.1 rfl ?_
  refine g_p (S' := [.ref a, .int 0, .ref (r1 + 3)]) hF tX3_copyFrom_ok 22 2 rfl rfl rfl rfl ?_
  refine g_getR hF (dAt tX3_copyFrom_ok 24 rfl rfl) flX3_18 hS.1 rfl ?_
  refine g_p (S' := [.int 40, .int 0, .ref (a + 3), .int 0, .ref (r1 + 3)]) hF tX3_copyFrom_ok 25 2 rfl rfl rfl rfl ?_
  obtain ⟨s7, e8, H⟩ := ob H
  refine g_copy hF mlX3_46 (dAt tX3_copyFrom_ok 27 rfl rfl) hr1.2.2.2.1 hS.2.2.2.1 e8 (by omega) (Nat.le_of_ble_eq_true rfl) ?_
  refine g_p (S' := [.ref r1]) hF tX3_copyFrom_ok 28 1 rfl rfl rfl rfl ?_
  refine g_getR hF (dAt tX3_copyFrom_ok 29 rfl rfl) flX3_21 hr1.1 rfl ?_
  refine g_p (S' := [.ref a, .int 0, .ref (r1 + 4)]) hF tX3_copyFrom_ok 30 2 rfl rfl rfl rfl ?_
  refine g_getR hF (dAt tX3_copyFrom_ok 32 rfl rfl) flX3_21 hS.1 rfl ?_
  refine g_p (S' := [.int 40, .int 0, .ref (a + 4), .int 0, .ref (r1 + 4)]) hF tX3_copyFrom_ok 33 2 rfl rfl rfl rfl ?_
  obtain ⟨s9, e10, H⟩ := ob H
  refine g_copy hF mlX3_46 (dAt tX3_copyFrom_ok 35 rfl rfl) hr1.2.2.2.2.1 hS.2.2.2.2.1 e10 (by omega) (Nat.le_of_ble_eq_true rfl) ?_
  refine g_p (S' := [.ref r1]) hF tX3_copyFrom_ok 36 1 rfl rfl rfl rfl ?_
  refine g_getR hF (dAt tX3_copyFrom_ok 37 rfl rfl) flX3_24 hr1.1 rfl ?_
  refine g_p (S' := [.ref a, .int 0, .ref (r1 + 5)]) hF tX3_copyFrom_ok 38 2 rfl rfl rfl rfl ?_
  refine g_getR hF (dAt tX3_copyFrom_ok 40 rfl rfl) flX3_24 hS.1 rfl ?_
  refine g_p (S' := [.int 40, .int 0, .ref (a + 5), .int 0, .ref (r1 + 5)]) hF tX3_copyFrom_ok 41 2 rfl rfl rfl rfl ?_
  obtain ⟨s11, e12, H⟩ := ob H
  refine g_copy hF mlX3_46 (dAt tX3_copyFrom_ok 43 rfl rfl) hr1.2.2.2.2.2.1 hS.2.2.2.2.2.1 e12 (by omega) (Nat.le_of_ble_eq_true rfl) ?_
  refine g_p (S' := [.ref r1]) hF tX3_copyFrom_ok 44 1 rfl rfl rfl rfl ?_
  refine g_getR hF (dAt tX3_copyFrom_ok 45 rfl rfl) flX3_27 hr1.1 rfl ?_
  refine g_p (S' := [.ref a, .int 0, .ref (r1 + 6)]) hF tX3_copyFrom_ok 46 2 rfl rfl rfl rfl ?_
  refine g_getR hF (dAt tX3_copyFrom_ok 48 rfl rfl) flX3_27 hS.1 rfl ?_
  refine g_p (S' := [.int 40, .int 0, .ref (a + 6), .int 0, .ref (r1 + 6)]) hF tX3_copyFrom_ok 49 2 rfl rfl rfl rfl ?_
  obtain ⟨s13, e14, H⟩ := ob H
  refine g_copy hF mlX3_46 (dAt tX3_copyFrom_ok 51 rfl rfl) hr1.2.2.2.2.2.2.1 hS.2.2.2.2.2.2.1 e14 (by omega) (Nat.le_of_ble_eq_true rfl) ?_
  refine g_p (S' := [.ref r1]) hF tX3_copyFrom_ok 52 1 rfl rfl rfl rfl ?_
  refine g_getR hF (dAt tX3_copyFrom_ok 53 rfl rfl) flX3_30 hr1.1 rfl ?_
  refine g_p (S' := [.ref a, .int 0, .ref (r1 + 7)]) hF tX3_copyFrom_ok 54 2 rfl rfl rfl rfl ?_
  refine g_getR hF (dAt tX3_copyFrom_ok 56 rfl rfl) flX3_30 hS.1 rfl ?_
  refine g_p (S' := [.int 40, .int 0, .ref (a + 7), .int 0, .ref (r1 + 7)]) hF tX3_copyFrom_ok 57 2 rfl rfl rfl rfl ?_
  obtain ⟨s15, e16, H⟩ := ob H
  refine g_copy hF mlX3_46 (dAt tX3_copyFrom_ok 59 rfl rfl) hr1.2.2.2.2.2.2.2.1 hS.2.2.2.2.2.2.2.1 e16 (by omega) (Nat.le_of_ble_eq_true rfl) ?_
  exact g_vret hF (en_v H hE) (dAt tX3_copyFrom_ok 60 rfl rfl) (by decide) (by decide)
def X3_has_f (a : Nat) (x1 : Int32) (σ : Sig) : Option (Int32) := if x1 < 0 then (some 0) else (if (σ a 0) ≤ x1 then (some 0) else (some 1))
set_option maxRecDepth 4000 in
set_option maxHeartbeats 1000000 in
theorem X3_has_ok {D : Nat} {τ : Tau} {nx : Nat} {a : Nat} {x1 : Int32} {σ : Sig} {res : Int32} (hD : 1 ≤ D) (hS : ShX3 τ a) (H : X3_has_f a x1 σ = some res) : Ok D 0 0 yX3_has cX3_has 2 (some .boolean) [.ref a, .int x1] (τ, σ, nx) (some (.int res)) (τ, σ, nx) := by
  refine ok_of (by decide +kernel) rfl (Nat.le_of_ble_eq_true rfl) (fun K X hF hE hN L0 hL0 => ?_)
  obtain rfl : [some (.ref a), some (.int x1)] = L0 := hL0
  have hF : Fx K X cX3_has 2 RX3 D 0 0 := hF
  refine g_p (S' := [.int x1]) hF tX3_has_ok 0 1 rfl rfl rfl rfl ?_
  obtain ⟨Ht1, Hf1⟩ := oi H
  refine g_if_lt hF (dAt tX3_has_ok 1 rfl rfl) rfl (fun c1 => ?_) (fun c1 => ?_)
  · have H := Ht1 c1
    refine g_p (S' := [.int 0]) hF tX3_has_ok 8 1 rfl rfl rfl rfl ?_
    exact g_zret hF (en_i H hE) (Or.inl rfl) (dAt tX3_has_ok 9 rfl rfl) (by decide) (by decide)
  · have H := Hf1 c1
    refine g_p (S' := [.ref a, .int x1]) hF tX3_has_ok 2 2 rfl rfl rfl rfl ?_
    refine g_getI hF (dAt tX3_has_ok 4 rfl rfl) flX3_42 hS.1 rfl ?_
    obtain ⟨Ht2, Hf2⟩ := oi H
    refine g_icmp_ge hF (dAt tX3_has_ok 5 rfl rfl) rfl (fun c2 => ?_) (fun c2 => ?_)
    · have H := Ht2 c2
      refine g_p (S' := [.int 0]) hF tX3_has_ok 8 1 rfl rfl rfl rfl ?_
      exact g_zret hF (en_i H hE) (Or.inl rfl) (dAt tX3_has_ok 9 rfl rfl) (by decide) (by decide)
    · have H := Hf2 c2
      refine g_p (S' := [.int 1]) hF tX3_has_ok 6 1 rfl rfl rfl rfl ?_
      refine g_goto hF (dAt tX3_has_ok 7 rfl rfl) rfl ?_
      exact g_zret hF (en_i H hE) (Or.inr rfl) (dAt tX3_has_ok 9 rfl rfl) (by decide) (by decide)
def X3_isOpen_f (a : Nat) (x1 : Int32) (σ : Sig) : Option (Int32) := (X3_has_f a x1 σ).bind fun v1 => if v1 = 0 then (some 0) else ((ld 40 (σ (a + 3)) x1).bind fun v4 => if v4 ≤ 0 then (some 0) else (some 1))
set_option maxRecDepth 4000 in
set_option maxHeartbeats 1000000 in
theorem X3_isOpen_ok {D : Nat} {τ : Tau} {nx : Nat} {a : Nat} {x1 : Int32} {σ : Sig} {res : Int32} (hD : 2 ≤ D) (hS : ShX3 τ a) (H : X3_isOpen_f a x1 σ = some res) : Ok D 0 0 yX3_isOpen cX3_isOpen 2 (some .boolean) [.ref a, .int x1] (τ, σ, nx) (some (.int res)) (τ, σ, nx) := by
  refine ok_of (by decide +kernel) rfl (Nat.le_of_ble_eq_true rfl) (fun K X hF hE hN L0 hL0 => ?_)
  obtain rfl : [some (.ref a), some (.int x1)] = L0 := hL0
  have hF : Fx K X cX3_isOpen 2 RX3 D 0 0 := hF
  refine g_p (S' := [.int x1, .ref a]) hF tX3_isOpen_ok 0 2 rfl rfl rfl rfl ?_
  obtain ⟨v1, e2, H⟩ := ob H
  refine g_cV (S := []) hF (X3_has_ok (Nat.le_refl _) hS e2 K) mbX3_has mvX3_has mlX3_52 (by omega) (by decide) (dAt tX3_isOpen_ok 2 rfl rfl) hS.1 rfl rfl rfl (Nat.le_of_ble_eq_true rfl) rfl rfl (by decide) (by decide) rfl ?_
  obtain ⟨Ht3, Hf3⟩ := oi H
  refine g_if_eq hF (dAt tX3_isOpen_ok 3 rfl rfl) rfl (fun c3 => ?_) (fun c3 => ?_)
  · have H := Ht3 c3
    refine g_p (S' := [.int 0]) hF tX3_isOpen_ok 11 1 rfl rfl rfl rfl ?_
    exact g_zret hF (en_i H hE) (Or.inl rfl) (dAt tX3_isOpen_ok 12 rfl rfl) (by decide) (by decide)
  · have H := Hf3 c3
    refine g_p (S' := [.ref a]) hF tX3_isOpen_ok 4 1 rfl rfl rfl rfl ?_
    refine g_getR hF (dAt tX3_isOpen_ok 5 rfl rfl) flX3_18 hS.1 rfl ?_
    refine g_p (S' := [.int x1, .ref (a + 3)]) hF tX3_isOpen_ok 6 1 rfl rfl rfl rfl ?_
    obtain ⟨v4, e5, H⟩ := ob H
    refine g_ild hF (dAt tX3_isOpen_ok 7 rfl rfl) hS.2.2.2.1 e5 ?_
    obtain ⟨Ht6, Hf6⟩ := oi H
    refine g_if_le hF (dAt tX3_isOpen_ok 8 rfl rfl) rfl (fun c6 => ?_) (fun c6 => ?_)
    · have H := Ht6 c6
      refine g_p (S' := [.int 0]) hF tX3_isOpen_ok 11 1 rfl rfl rfl rfl ?_
      exact g_zret hF (en_i H hE) (Or.inl rfl) (dAt tX3_isOpen_ok 12 rfl rfl) (by decide) (by decide)
    · have H := Hf6 c6
      refine g_p (S' := [.int 1]) hF tX3_isOpen_ok 9 1 rfl rfl rfl rfl ?_
      refine g_goto hF (dAt tX3_isOpen_ok 10 rfl rfl) rfl ?_
      exact g_zret hF (en_i H hE) (Or.inr rfl) (dAt tX3_isOpen_ok 12 rfl rfl) (by decide) (by decide)
def X3_isOpenWith_f (a : Nat) (x1 x2 : Int32) (σ : Sig) : Option (Int32) := (X3_isOpen_f a x1 σ).bind fun v1 => if v1 = 0 then (some 0) else ((ld 40 (σ (a + 1)) x1).bind fun v4 => if v4 = x2 then (some 1) else ((ld 40 (σ (a + 2)) x1).bind fun v7 => if v7 = x2 then (some 1) else (some 0)))
set_option maxRecDepth 4000 in
set_option maxHeartbeats 1000000 in
theorem X3_isOpenWith_ok {D : Nat} {τ : Tau} {nx : Nat} {a : Nat} {x1 x2 : Int32} {σ : Sig} {res : Int32} (hD : 3 ≤ D) (hS : ShX3 τ a) (H : X3_isOpenWith_f a x1 x2 σ = some res) : Ok D 0 0 yX3_isOpenWith cX3_isOpenWith 3 (some .boolean) [.ref a, .int x1, .int x2] (τ, σ, nx) (some (.int res)) (τ, σ, nx) := by
  refine ok_of (by decide +kernel) rfl (Nat.le_of_ble_eq_true rfl) (fun K X hF hE hN L0 hL0 => ?_)
  obtain rfl : [some (.ref a), some (.int x1), some (.int x2)] = L0 := hL0
  have hF : Fx K X cX3_isOpenWith 3 RX3 D 0 0 := hF
  refine g_p (S' := [.int x1, .ref a]) hF tX3_isOpenWith_ok 0 2 rfl rfl rfl rfl ?_
  obtain ⟨v1, e2, H⟩ := ob H
  refine g_cV (S := []) hF (X3_isOpen_ok (Nat.le_refl _) hS e2 K) mbX3_isOpen mvX3_isOpen mlX3_56 (by omega) (by decide) (dAt tX3_isOpenWith_ok 2 rfl rfl) hS.1 rfl rfl rfl (Nat.le_of_ble_eq_true rfl) rfl rfl (by decide) (by decide) rfl ?_
  obtain ⟨Ht3, Hf3⟩ := oi H
  refine g_if_eq hF (dAt tX3_isOpenWith_ok 3 rfl rfl) rfl (fun c3 => ?_) (fun c3 => ?_)
  · have H := Ht3 c3
    refine g_p (S' := [.int 0]) hF tX3_isOpenWith_ok 18 1 rfl rfl rfl rfl ?_
    exact g_zret hF (en_i H hE) (Or.inl rfl) (dAt tX3_isOpenWith_ok 19 rfl rfl) (by decide) (by decide)
  · have H := Hf3 c3
    refine g_p (S' := [.ref a]) hF tX3_isOpenWith_ok 4 1 rfl rfl rfl rfl ?_
    refine g_getR hF (dAt tX3_isOpenWith_ok 5 rfl rfl) flX3_9 hS.1 rfl ?_
    refine g_p (S' := [.int x1, .ref (a + 1)]) hF tX3_isOpenWith_ok 6 1 rfl rfl rfl rfl ?_
    obtain ⟨v4, e5, H⟩ := ob H
    refine g_ild hF (dAt tX3_isOpenWith_ok 7 rfl rfl) hS.2.1 e5 ?_
    refine g_p (S' := [.int x2, .int v4]) hF tX3_isOpenWith_ok 8 1 rfl rfl rfl rfl ?_
    obtain ⟨Ht6, Hf6⟩ := oi H
    refine g_icmp_eq hF (dAt tX3_isOpenWith_ok 9 rfl rfl) rfl (fun c6 => ?_) (fun c6 => ?_)
    · have H := Ht6 c6
      refine g_p (S' := [.int 1]) hF tX3_isOpenWith_ok 16 1 rfl rfl rfl rfl ?_
      refine g_goto hF (dAt tX3_isOpenWith_ok 17 rfl rfl) rfl ?_
      exact g_zret hF (en_i H hE) (Or.inr rfl) (dAt tX3_isOpenWith_ok 19 rfl rfl) (by decide) (by decide)
    · have H := Hf6 c6
      refine g_p (S' := [.ref a]) hF tX3_isOpenWith_ok 10 1 rfl rfl rfl rfl ?_
      refine g_getR hF (dAt tX3_isOpenWith_ok 11 rfl rfl) flX3_15 hS.1 rfl ?_
      refine g_p (S' := [.int x1, .ref (a + 2)]) hF tX3_isOpenWith_ok 12 1 rfl rfl rfl rfl ?_
      obtain ⟨v7, e8, H⟩ := ob H
      refine g_ild hF (dAt tX3_isOpenWith_ok 13 rfl rfl) hS.2.2.1 e8 ?_
      refine g_p (S' := [.int x2, .int v7]) hF tX3_isOpenWith_ok 14 1 rfl rfl rfl rfl ?_
      obtain ⟨Ht9, Hf9⟩ := oi H
      refine g_icmp_ne hF (dAt tX3_isOpenWith_ok 15 rfl rfl) rfl (fun c9 => ?_) (fun c9 => ?_)
      · have H := Hf9 c9
        refine g_p (S' := [.int 0]) hF tX3_isOpenWith_ok 18 1 rfl rfl rfl rfl ?_
        exact g_zret hF (en_i H hE) (Or.inl rfl) (dAt tX3_isOpenWith_ok 19 rfl rfl) (by decide) (by decide)
      · have H := Ht9 c9
        refine g_p (S' := [.int 1]) hF tX3_isOpenWith_ok 16 1 rfl rfl rfl rfl ?_
        refine g_goto hF (dAt tX3_isOpenWith_ok 17 rfl rfl) rfl ?_
        exact g_zret hF (en_i H hE) (Or.inr rfl) (dAt tX3_isOpenWith_ok 19 rfl rfl) (by decide) (by decide)
def X3_openCountWith_b4 (a : Nat) (σ : Sig) : Nat → Int32 → Int32 → Int32 → Option (Int32)
  | 0, _, _, _ => none
  | fu + 1, x1, x2, x3 => if (σ a 0) ≤ x3 then (some x2) else ((X3_isOpenWith_f a x3 x1 σ).bind fun v2 => if v2 = 0 then (X3_openCountWith_b4 a σ fu x1 x2 (x3 + 1)) else (X3_openCountWith_b4 a σ fu x1 (x2 + 1) (x3 + 1)))
set_option maxRecDepth 4000 in
set_option maxHeartbeats 1000000 in
theorem X3_openCountWith_b4_ok {K : Kt} {X : Cx} {D : Nat} {τ : Tau} {nx : Nat} {a : Nat} {res : Int32} {σ : Sig}  (hD : 4 ≤ D) (hF : Fx K X cX3_openCountWith 4 RX3 D 0 0) (hS : ShX3 τ a) (hE : En K X (some .int) 0 0 (some (.int res)) (τ, σ, nx)) : ∀ (fu : Nat) (x1 x2 x3 : Int32), X3_openCountWith_b4 a σ fu x1 x2 x3 = some res → G K X 4 0 0 4 [some (.ref a), some (.int x1), some (.int x2), some (.int x3)] [] (τ, σ, nx)
  | 0, _, _, _, H => nomatch H
  | fu + 1, x1, x2, x3, H => by
    refine g_p (S' := [.ref a, .int x3]) hF tX3_openCountWith_ok 4 2 rfl rfl rfl rfl ?_
    refine g_getI hF (dAt tX3_openCountWith_ok 6 rfl rfl) flX3_42 hS.1 rfl ?_
    obtain ⟨Ht1, Hf1⟩ := oi H
    refine g_icmp_ge hF (dAt tX3_openCountWith_ok 7 rfl rfl) rfl (fun c1 => ?_) (fun c1 => ?_)
    · have H := Ht1 c1
      refine g_p (S' := [.int x2]) hF tX3_openCountWith_ok 16 1 rfl rfl rfl rfl ?_
      exact g_iret hF (en_i H hE) (dAt tX3_openCountWith_ok 17 rfl rfl) (by decide) (by decide)
    · have H := Hf1 c1
      refine g_p (S' := [.int x1, .int x3, .ref a]) hF tX3_openCountWith_ok 8 3 rfl rfl rfl rfl ?_
      obtain ⟨v2, e3, H⟩ := ob H
      refine g_cV (S := []) hF (X3_isOpenWith_ok (Nat.le_refl _) hS e3 K) mbX3_isOpenWith mvX3_isOpenWith mlX3_59 (by omega) (by decide) (dAt tX3_openCountWith_ok 11 rfl rfl) hS.1 rfl rfl rfl (Nat.le_of_ble_eq_true rfl) rfl rfl (by decide) (by decide) rfl ?_
      obtain ⟨Ht4, Hf4⟩ := oi H
      refine g_if_eq hF (dAt tX3_openCountWith_ok 12 rfl rfl) rfl (fun c4 => ?_) (fun c4 => ?_)
      · have H := Ht4 c4
        refine g_p (L' := [some (.ref a), some (.int x1), some (.int x2), some (.int (x3 + 1))]) (S' := []) hF tX3_openCountWith_ok 14 1 rfl rfl rfl rfl ?_
        refine g_goto hF (dAt tX3_openCountWith_ok 15 rfl rfl) rfl ?_
        exact X3_openCountWith_b4_ok hD hF hS hE fu _ _ _ H
      · have H := Hf4 c4
        refine g_p (L' := [some (.ref a), some (.int x1), some (.int (x2 + 1)), some (.int (x3 + 1))]) (S' := []) hF tX3_openCountWith_ok 13 2 rfl rfl rfl rfl ?_
        refine g_goto hF (dAt tX3_openCountWith_ok 15 rfl rfl) rfl ?_
        exact X3_openCountWith_b4_ok hD hF hS hE fu _ _ _ H
def X3_openCountWith_f (a : Nat) (x1 : Int32) (σ : Sig) : Option (Int32) := X3_openCountWith_b4 a σ FU x1 0 0
set_option maxRecDepth 4000 in
set_option maxHeartbeats 1000000 in
theorem X3_openCountWith_ok {D : Nat} {τ : Tau} {nx : Nat} {a : Nat} {x1 : Int32} {σ : Sig} {res : Int32} (hD : 4 ≤ D) (hS : ShX3 τ a) (H : X3_openCountWith_f a x1 σ = some res) : Ok D 0 0 yX3_openCountWith cX3_openCountWith 4 (some .int) [.ref a, .int x1] (τ, σ, nx) (some (.int res)) (τ, σ, nx) := by
  refine ok_of (by decide +kernel) rfl (Nat.le_of_ble_eq_true rfl) (fun K X hF hE hN L0 hL0 => ?_)
  obtain rfl : [some (.ref a), some (.int x1), none, none] = L0 := hL0
  have hF : Fx K X cX3_openCountWith 4 RX3 D 0 0 := hF
  refine g_p (L' := [some (.ref a), some (.int x1), some (.int 0), some (.int 0)]) (S' := []) hF tX3_openCountWith_ok 0 4 rfl rfl rfl rfl ?_
  exact X3_openCountWith_b4_ok hD hF hS hE FU _ _ _ H
def X3_handDown_b49 (a : Nat) (x1 : Int32) (σ : Sig) : Option (Sig) := (ld 40 (σ (a + 1)) x1).bind fun v1 => (ld 40 (σ (a + 2)) x1).bind fun v3 => if v1 = v3 then ((st 40 σ (a + 3) x1 0).bind fun s6 => some s6) else (some σ)
set_option maxRecDepth 4000 in
set_option maxHeartbeats 1000000 in
theorem X3_handDown_b49_ok {K : Kt} {X : Cx} {D : Nat} {τ : Tau} {nx : Nat} {a : Nat} {res : Sig}  (hD : 1 ≤ D) (hF : Fx K X cX3_handDown 4 RX3 D 0 0) (hS : ShX3 τ a) (hE : En K X none 0 0 none (τ, res, nx)) {x1 : Int32} {σ : Sig} (H : X3_handDown_b49 a x1 σ = some res) : G K X 4 0 0 49 [some (.ref a), some (.int x1), none, none] [] (τ, σ, nx) := by
  refine g_p (S' := [.ref a]) hF tX3_handDown_ok 31 1 rfl rfl rfl rfl ?_
  refine g_getR hF (dAt tX3_handDown_ok 32 rfl rfl) flX3_9 hS.1 rfl ?_
  refine g_p (S' := [.int x1, .ref (a + 1)]) hF tX3_handDown_ok 33 1 rfl rfl rfl rfl ?_
  obtain ⟨v1, e2, H⟩ := ob H
  refine g_ild hF (dAt tX3_handDown_ok 34 rfl rfl) hS.2.1 e2 ?_
  refine g_p (S' := [.ref a, .int v1]) hF tX3_handDown_ok 35 1 rfl rfl rfl rfl ?_
  refine g_getR hF (dAt tX3_handDown_ok 36 rfl rfl) flX3_15 hS.1 rfl ?_
  refine g_p (S' := [.int x1, .ref (a + 2), .int v1]) hF tX3_handDown_ok 37 1 rfl rfl rfl rfl ?_
  obtain ⟨v3, e4, H⟩ := ob H
  refine g_ild hF (dAt tX3_handDown_ok 38 rfl rfl) hS.2.2.1 e4 ?_
  obtain ⟨Ht5, Hf5⟩ := oi H
  refine g_icmp_ne hF (dAt tX3_handDown_ok 39 rfl rfl) rfl (fun c5 => ?_) (fun c5 => ?_)
  · have H := Hf5 c5
    exact g_vret hF (en_v H hE) (dAt tX3_handDown_ok 45 rfl rfl) (by decide) (by decide)
  · have H := Ht5 c5
    refine g_p (S' := [.ref a]) hF tX3_handDown_ok 40 1 rfl rfl rfl rfl ?_
    refine g_getR hF (dAt tX3_handDown_ok 41 rfl rfl) flX3_18 hS.1 rfl ?_
    refine g_p (S' := [.int 0, .int x1, .ref (a + 3)]) hF tX3_handDown_ok 42 2 rfl rfl rfl rfl ?_
    obtain ⟨s6, e7, H⟩ := ob H
    refine g_ist hF (dAt tX3_handDown_ok 44 rfl rfl) hS.2.2.2.1 e7 ?_
    exact g_vret hF (en_v H hE) (dAt tX3_handDown_ok 45 rfl rfl) (by decide) (by decide)
def X3_handDown_b27 (a : Nat) (x1 : Int32) (σ : Sig) : Option (Sig) := (ld 40 (σ (a + 5)) x1).bind fun v1 => (ld 40 (σ (a + 1)) x1).bind fun v3 => if v1 = v3 then ((st 40 σ (a + 5) x1 (-1)).bind fun s6 => X3_handDown_b49 a x1 s6) else (X3_handDown_b49 a x1 σ)
set_option maxRecDepth 4000 in
set_option maxHeartbeats 1000000 in
theorem X3_handDown_b27_ok {K : Kt} {X : Cx} {D : Nat} {τ : Tau} {nx : Nat} {a : Nat} {res : Sig}  (hD : 1 ≤ D) (hF : Fx K X cX3_handDown 4 RX3 D 0 0) (hS : ShX3 τ a) (hE : En K X none 0 0 none (τ, res, nx)) {x1 : Int32} {σ : Sig} (H : X3_handDown_b27 a x1 σ = some res) : G K X 4 0 0 27 [some (.ref a), some (.int x1), none, none] [] (τ, σ, nx) := by
  refine g_p (S' := [.ref a]) hF tX3_handDown_ok 17 1 rfl rfl rfl rfl ?_
  refine g_getR hF (dAt tX3_handDown_ok 18 rfl rfl) flX3_24 hS.1 rfl ?_
  refine g_p (S' := [.int x1, .ref (a + 5)]) hF tX3_handDown_ok 19 1 rfl rfl rfl rfl ?_
  obtain ⟨v1, e2, H⟩ := ob H
  refine g_ild hF (dAt tX3_handDown_ok 20 rfl rfl) hS.2.2.2.2.2.1 e2 ?_
  refine g_p (S' := [.ref a, .int v1]) hF tX3_handDown_ok 21 1 rfl rfl rfl rfl ?_
  refine g_getR hF (dAt tX3_handDown_ok 22 rfl rfl) flX3_9 hS.1 rfl ?_
  refine g_p (S' := [.int x1, .ref (a + 1), .int v1]) hF tX3_handDown_ok 23 1 rfl rfl rfl rfl ?_
  obtain ⟨v3, e4, H⟩ := ob H
  refine g_ild hF (dAt tX3_handDown_ok 24 rfl rfl) hS.2.1 e4 ?_
  obtain ⟨Ht5, Hf5⟩ := oi H
  refine g_icmp_ne hF (dAt tX3_handDown_ok 25 rfl rfl) rfl (fun c5 => ?_) (fun c5 => ?_)
  · have H := Hf5 c5
    exact X3_handDown_b49_ok hD hF hS hE H
  · have H := Ht5 c5
    refine g_p (S' := [.ref a]) hF tX3_handDown_ok 26 1 rfl rfl rfl rfl ?_
    refine g_getR hF (dAt tX3_handDown_ok 27 rfl rfl) flX3_24 hS.1 rfl ?_
    refine g_p (S' := [.int (-1), .int x1, .ref (a + 5)]) hF tX3_handDown_ok 28 2 rfl rfl rfl rfl ?_
    obtain ⟨s6, e7, H⟩ := ob H
    refine g_ist hF (dAt tX3_handDown_ok 30 rfl rfl) hS.2.2.2.2.2.1 e7 ?_
    exact X3_handDown_b49_ok hD hF hS hE H
def X3_handDown_f (a : Nat) (x1 x2 x3 : Int32) (σ : Sig) : Option (Sig) := (ld 40 (σ (a + 1)) x1).bind fun v1 => if v1 = x2 then ((st 40 σ (a + 1) x1 x3).bind fun s6 => X3_handDown_b27 a x1 s6) else ((st 40 σ (a + 2) x1 x3).bind fun s4 => X3_handDown_b27 a x1 s4)
set_option maxRecDepth 4000 in
set_option maxHeartbeats 1000000 in
theorem X3_handDown_ok {D : Nat} {τ : Tau} {nx : Nat} {a : Nat} {x1 x2 x3 : Int32} {σ : Sig} {res : Sig} (hD : 1 ≤ D) (hS : ShX3 τ a) (H : X3_handDown_f a x1 x2 x3 σ = some res) : Ok D 0 0 yX3_handDown cX3_handDown 4 none [.ref a, .int x1, .int x2, .int x3] (τ, σ, nx) none (τ, res, nx) := by
  refine ok_of (by decide +kernel) rfl (Nat.le_of_ble_eq_true rfl) (fun K X hF hE hN L0 hL0 => ?_)
  obtain rfl : [some (.ref a), some (.int x1), some (.int x2), some (.int x3)] = L0 := hL0
  have hF : Fx K X cX3_handDown 4 RX3 D 0 0 := hF
  refine g_p (S' := [.ref a]) hF tX3_handDown_ok 0 1 rfl rfl rfl rfl ?_
  refine g_getR hF (dAt tX3_handDown_ok 1 rfl rfl) flX3_9 hS.1 rfl ?_
  refine g_p (S' := [.int x1, .ref (a + 1)]) hF tX3_handDown_ok 2 1 rfl rfl rfl rfl ?_
  obtain ⟨v1, e2, H⟩ := ob H
  refine g_ild hF (dAt tX3_handDown_ok 3 rfl rfl) hS.2.1 e2 ?_
  refine g_p (S' := [.int x2, .int v1]) hF tX3_handDown_ok 4 1 rfl rfl rfl rfl ?_
  obtain ⟨Ht3, Hf3⟩ := oi H
  refine g_icmp_ne hF (dAt tX3_handDown_ok 5 rfl rfl) rfl (fun c3 => ?_) (fun c3 => ?_)
  · have H := Hf3 c3
    refine g_p (S' := [.ref a]) hF tX3_handDown_ok 12 1 rfl rfl rfl rfl ?_
    refine g_getR hF (dAt tX3_handDown_ok 13 rfl rfl) flX3_15 hS.1 rfl ?_
    refine g_p (S' := [.int x3, .int x1, .ref (a + 2)]) hF tX3_handDown_ok 14 2 rfl rfl rfl rfl ?_
    obtain ⟨s4, e5, H⟩ := ob H
    refine g_ist hF (dAt tX3_handDown_ok 16 rfl rfl) hS.2.2.1 e5 ?_
    refine g_m [true, true, false, false] rfl ?_
    exact X3_handDown_b27_ok hD hF hS hE H
  · have H := Ht3 c3
    refine g_p (S' := [.ref a]) hF tX3_handDown_ok 6 1 rfl rfl rfl rfl ?_
    refine g_getR hF (dAt tX3_handDown_ok 7 rfl rfl) flX3_9 hS.1 rfl ?_
    refine g_p (S' := [.int x3, .int x1, .ref (a + 1)]) hF tX3_handDown_ok 8 2 rfl rfl rfl rfl ?_
    obtain ⟨s6, e7, H⟩ := ob H
    refine g_ist hF (dAt tX3_handDown_ok 10 rfl rfl) hS.2.1 e7 ?_
    refine g_goto hF (dAt tX3_handDown_ok 11 rfl rfl) rfl ?_
    refine g_m [true, true, false, false] rfl ?_
    exact X3_handDown_b27_ok hD hF hS hE H
def X3_add_f (a : Nat) (x1 x2 x3 : Int32) (σ : Sig) : Option (Int32 × Sig) := if (σ a 0) < 40 then ((st 40 σ (a + 1) (σ a 0) x1).bind fun s2 => (st 40 s2 (a + 2) (σ a 0) x2).bind fun s4 => (st 40 s4 (a + 3) (σ a 0) x3).bind fun s6 => (st 40 s6 (a + 4) (σ a 0) 0).bind fun s8 => (st 40 s8 (a + 5) (σ a 0) (-1)).bind fun s10 => (st 40 s10 (a + 6) (σ a 0) 0).bind fun s12 => (st 40 s12 (a + 7) (σ a 0) 0).bind fun s14 => (pI s14 a 0 ((s14 a 0) + 1)).bind fun s16 => some ((σ a 0), s16)) else (some ((-1), σ))
set_option maxRecDepth 4000 in
set_option maxHeartbeats 1000000 in
theorem X3_add_ok {D : Nat} {τ : Tau} {nx : Nat} {a : Nat} {x1 x2 x3 : Int32} {σ : Sig} {res : Int32} {rsg : Sig} (hD : 1 ≤ D) (hS : ShX3 τ a) (H : X3_add_f a x1 x2 x3 σ = some (res, rsg)) : Ok D 0 0 yX3_add cX3_add 5 (some .int) [.ref a, .int x1, .int x2, .int x3] (τ, σ, nx) (some (.int res)) (τ, rsg, nx) := by
  refine ok_of (by decide +kernel) rfl (Nat.le_of_ble_eq_true rfl) (fun K X hF hE hN L0 hL0 => ?_)
  obtain rfl : [some (.ref a), some (.int x1), some (.int x2), some (.int x3), none] = L0 := hL0
  have hF : Fx K X cX3_add 5 RX3 D 0 0 := hF
  refine g_p (S' := [.ref a]) hF tX3_add_ok 0 1 rfl rfl rfl rfl ?_
  refine g_getI hF (dAt tX3_add_ok 1 rfl rfl) flX3_42 hS.1 rfl ?_
  refine g_p (L' := [some (.ref a), some (.int x1), some (.int x2), some (.int x3), some (.int (σ a 0))]) (S' := [.int 40, .int (σ a 0)]) hF tX3_add_ok 2 3 rfl rfl rfl rfl ?_
  obtain ⟨Ht1, Hf1⟩ := oi H
  refine g_icmp_lt hF (dAt tX3_add_ok 5 rfl rfl) rfl (fun c1 => ?_) (fun c1 => ?_)
  · have H := Ht1 c1
    refine g_p (S' := [.ref a]) hF tX3_add_ok 8 1 rfl rfl rfl rfl ?_
    refine g_getR hF (dAt tX3_add_ok 9 rfl rfl) flX3_9 hS.1 rfl ?_
    refine g_p (S' := [.int x1, .int (σ a 0), .ref (a + 1)]) hF tX3_add_ok 10 2 rfl rfl rfl rfl ?_
    obtain ⟨s2, e3, H⟩ := ob H
    refine g_ist hF (dAt tX3_add_ok 12 rfl rfl) hS.2.1 e3 ?_
    refine g_p (S' := [.ref a]) hF tX3_add_ok 13 1 rfl rfl rfl rfl ?_
    refine g_getR hF (dAt tX3_add_ok 14 rfl rfl) flX3_15 hS.1 rfl ?_
    refine g_p (S' := [.int x2, .int (σ a 0), .ref (a + 2)]) hF tX3_add_ok 15 2 rfl rfl rfl rfl ?_
    obtain ⟨s4, e5, H⟩ := ob H
    refine g_ist hF (dAt tX3_add_ok 17 rfl rfl) hS.2.2.1 e5 ?_
    refine g_p (S' := [.ref a]) hF tX3_add_ok 18 1 rfl rfl rfl rfl ?_
    refine g_getR hF (dAt tX3_add_ok 19 rfl rfl) flX3_18 hS.1 rfl ?_
    refine g_p (S' := [.int x3, .int (σ a 0), .ref (a + 3)]) hF tX3_add_ok 20 2 rfl rfl rfl rfl ?_
    obtain ⟨s6, e7, H⟩ := ob H
    refine g_ist hF (dAt tX3_add_ok 22 rfl rfl) hS.2.2.2.1 e7 ?_
    refine g_p (S' := [.ref a]) hF tX3_add_ok 23 1 rfl rfl rfl rfl ?_
    refine g_getR hF (dAt tX3_add_ok 24 rfl rfl) flX3_21 hS.1 rfl ?_
    refine g_p (S' := [.int 0, .int (σ a 0), .ref (a + 4)]) hF tX3_add_ok 25 2 rfl rfl rfl rfl ?_
    obtain ⟨s8, e9, H⟩ := ob H
    refine g_ist hF (dAt tX3_add_ok 27 rfl rfl) hS.2.2.2.2.1 e9 ?_
    refine g_p (S' := [.ref a]) hF tX3_add_ok 28 1 rfl rfl rfl rfl ?_
    refine g_getR hF (dAt tX3_add_ok 29 rfl rfl) flX3_24 hS.1 rfl ?_
    refine g_p (S' := [.int (-1), .int (σ a 0), .ref (a + 5)]) hF tX3_add_ok 30 2 rfl rfl rfl rfl ?_
    obtain ⟨s10, e11, H⟩ := ob H
    refine g_ist hF (dAt tX3_add_ok 32 rfl rfl) hS.2.2.2.2.2.1 e11 ?_
    refine g_p (S' := [.ref a]) hF tX3_add_ok 33 1 rfl rfl rfl rfl ?_
    refine g_getR hF (dAt tX3_add_ok 34 rfl rfl) flX3_27 hS.1 rfl ?_
    refine g_p (S' := [.int 0, .int (σ a 0), .ref (a + 6)]) hF tX3_add_ok 35 2 rfl rfl rfl rfl ?_
    obtain ⟨s12, e13, H⟩ := ob H
    refine g_ist hF (dAt tX3_add_ok 37 rfl rfl) hS.2.2.2.2.2.2.1 e13 ?_
    refine g_p (S' := [.ref a]) hF tX3_add_ok 38 1 rfl rfl rfl rfl ?_
    refine g_getR hF (dAt tX3_add_ok 39 rfl rfl) flX3_30 hS.1 rfl ?_
    refine g_p (S' := [.int 0, .int (σ a 0), .ref (a + 7)]) hF tX3_add_ok 40 2 rfl rfl rfl rfl ?_
    obtain ⟨s14, e15, H⟩ := ob H
    refine g_ist hF (dAt tX3_add_ok 42 rfl rfl) hS.2.2.2.2.2.2.2.1 e15 ?_
    refine g_p (S' := [.ref a, .ref a]) hF tX3_add_ok 43 2 rfl rfl rfl rfl ?_
    refine g_getI hF (dAt tX3_add_ok 45 rfl rfl) flX3_42 hS.1 rfl ?_
    refine g_p (S' := [.int ((s14 a 0) + 1), .ref a]) hF tX3_add_ok 46 2 rfl rfl rfl rfl ?_
    obtain ⟨s16, e17, H⟩ := ob H
    refine g_pI hF (dAt tX3_add_ok 48 rfl rfl) flX3_42 (Or.inl rfl) hS.1 rfl e17 ?_
    refine g_p (S' := [.int (σ a 0)]) hF tX3_add_ok 49 1 rfl rfl rfl rfl ?_
    exact g_iret hF (en_p H hE) (dAt tX3_add_ok 50 rfl rfl) (by decide) (by decide)
  · have H := Hf1 c1
    refine g_p (S' := [.int (-1)]) hF tX3_add_ok 6 1 rfl rfl rfl rfl ?_
    exact g_iret hF (en_p H hE) (dAt tX3_add_ok 7 rfl rfl) (by decide) (by decide)
def X3_workerOf_f (a : Nat) (x1 : Int32) (σ : Sig) : Option (Int32) := (ld 40 (σ (a + 5)) x1).bind fun v1 => if v1 = (-1) then ((ld 40 (σ (a + 1)) x1).bind fun v4 => some v4) else ((ld 40 (σ (a + 5)) x1).bind fun v6 => some v6)
set_option maxRecDepth 4000 in
set_option maxHeartbeats 1000000 in
theorem X3_workerOf_ok {D : Nat} {τ : Tau} {nx : Nat} {a : Nat} {x1 : Int32} {σ : Sig} {res : Int32} (hD : 1 ≤ D) (hS : ShX3 τ a) (H : X3_workerOf_f a x1 σ = some res) : Ok D 0 0 yX3_workerOf cX3_workerOf 2 (some .int) [.ref a, .int x1] (τ, σ, nx) (some (.int res)) (τ, σ, nx) := by
  refine ok_of (by decide +kernel) rfl (Nat.le_of_ble_eq_true rfl) (fun K X hF hE hN L0 hL0 => ?_)
  obtain rfl : [some (.ref a), some (.int x1)] = L0 := hL0
  have hF : Fx K X cX3_workerOf 2 RX3 D 0 0 := hF
  refine g_p (S' := [.ref a]) hF tX3_workerOf_ok 0 1 rfl rfl rfl rfl ?_
  refine g_getR hF (dAt tX3_workerOf_ok 1 rfl rfl) flX3_24 hS.1 rfl ?_
  refine g_p (S' := [.int x1, .ref (a + 5)]) hF tX3_workerOf_ok 2 1 rfl rfl rfl rfl ?_
  obtain ⟨v1, e2, H⟩ := ob H
  refine g_ild hF (dAt tX3_workerOf_ok 3 rfl rfl) hS.2.2.2.2.2.1 e2 ?_
  refine g_p (S' := [.int (-1), .int v1]) hF tX3_workerOf_ok 4 1 rfl rfl rfl rfl ?_
  obtain ⟨Ht3, Hf3⟩ := oi H
  refine g_icmp_eq hF (dAt tX3_workerOf_ok 5 rfl rfl) rfl (fun c3 => ?_) (fun c3 => ?_)
  · have H := Ht3 c3
    refine g_p (S' := [.ref a]) hF tX3_workerOf_ok 11 1 rfl rfl rfl rfl ?_
    refine g_getR hF (dAt tX3_workerOf_ok 12 rfl rfl) flX3_9 hS.1 rfl ?_
    refine g_p (S' := [.int x1, .ref (a + 1)]) hF tX3_workerOf_ok 13 1 rfl rfl rfl rfl ?_
    obtain ⟨v4, e5, H⟩ := ob H
    refine g_ild hF (dAt tX3_workerOf_ok 14 rfl rfl) hS.2.1 e5 ?_
    exact g_iret hF (en_i H hE) (dAt tX3_workerOf_ok 15 rfl rfl) (by decide) (by decide)
  · have H := Hf3 c3
    refine g_p (S' := [.ref a]) hF tX3_workerOf_ok 6 1 rfl rfl rfl rfl ?_
    refine g_getR hF (dAt tX3_workerOf_ok 7 rfl rfl) flX3_24 hS.1 rfl ?_
    refine g_p (S' := [.int x1, .ref (a + 5)]) hF tX3_workerOf_ok 8 1 rfl rfl rfl rfl ?_
    obtain ⟨v6, e7, H⟩ := ob H
    refine g_ild hF (dAt tX3_workerOf_ok 9 rfl rfl) hS.2.2.2.2.2.1 e7 ?_
    refine g_goto hF (dAt tX3_workerOf_ok 10 rfl rfl) rfl ?_
    exact g_iret hF (en_i H hE) (dAt tX3_workerOf_ok 15 rfl rfl) (by decide) (by decide)
def X3_tellOf_f (a : Nat) (x1 x2 : Int32) (σ : Sig) : Option (Int32) := if x2 = 0 then ((ld 40 (σ (a + 1)) x1).bind fun v2 => some v2) else if x2 = 1 then ((ld 40 (σ (a + 2)) x1).bind fun v4 => some v4) else if x2 = 2 then ((ld 40 (σ (a + 3)) x1).bind fun v6 => some v6) else if x2 = 3 then ((ld 40 (σ (a + 4)) x1).bind fun v8 => some v8) else if x2 = 4 then ((ld 40 (σ (a + 5)) x1).bind fun v10 => some v10) else if x2 = 5 then ((ld 40 (σ (a + 6)) x1).bind fun v12 => some v12) else if x2 = 6 then ((X3_workerOf_f a x1 σ).bind fun v14 => some v14) else if x2 = 7 then ((ld 40 (σ (a + 7)) x1).bind fun v16 => some v16) else (some (-2))
set_option maxRecDepth 4000 in
set_option maxHeartbeats 1000000 in
theorem X3_tellOf_ok {D : Nat} {τ : Tau} {nx : Nat} {a : Nat} {x1 x2 : Int32} {σ : Sig} {res : Int32} (hD : 2 ≤ D) (hS : ShX3 τ a) (H : X3_tellOf_f a x1 x2 σ = some res) : Ok D 0 0 yX3_tellOf cX3_tellOf 3 (some .int) [.ref a, .int x1, .int x2] (τ, σ, nx) (some (.int res)) (τ, σ, nx) := by
  refine ok_of (by decide +kernel) rfl (Nat.le_of_ble_eq_true rfl) (fun K X hF hE hN L0 hL0 => ?_)
  obtain rfl : [some (.ref a), some (.int x1), some (.int x2)] = L0 := hL0
  have hF : Fx K X cX3_tellOf 3 RX3 D 0 0 := hF
  refine g_p (S' := [.int x2]) hF tX3_tellOf_ok 0 1 rfl rfl rfl rfl ?_
  obtain ⟨Ht1_0, Hf1_0⟩ := oi H
  by_cases c1_0 : x2 = 0
  · have H := Ht1_0 c1_0
    refine g_tsw (c := 0) hF (dAt tX3_tellOf_ok 1 rfl rfl) c1_0 (by decide) (by decide) rfl rfl ?_
    refine g_p (S' := [.ref a]) hF tX3_tellOf_ok 2 1 rfl rfl rfl rfl ?_
    refine g_getR hF (dAt tX3_tellOf_ok 3 rfl rfl) flX3_9 hS.1 rfl ?_
    refine g_p (S' := [.int x1, .ref (a + 1)]) hF tX3_tellOf_ok 4 1 rfl rfl rfl rfl ?_
    obtain ⟨v2, e3, H⟩ := ob H
    refine g_ild hF (dAt tX3_tellOf_ok 5 rfl rfl) hS.2.1 e3 ?_
    exact g_iret hF (en_i H hE) (dAt tX3_tellOf_ok 6 rfl rfl) (by decide) (by decide)
  have H := Hf1_0 c1_0
  obtain ⟨Ht1_1, Hf1_1⟩ := oi H
  by_cases c1_1 : x2 = 1
  · have H := Ht1_1 c1_1
    refine g_tsw (c := 1) hF (dAt tX3_tellOf_ok 1 rfl rfl) c1_1 (by decide) (by decide) rfl rfl ?_
    refine g_p (S' := [.ref a]) hF tX3_tellOf_ok 7 1 rfl rfl rfl rfl ?_
    refine g_getR hF (dAt tX3_tellOf_ok 8 rfl rfl) flX3_15 hS.1 rfl ?_
    refine g_p (S' := [.int x1, .ref (a + 2)]) hF tX3_tellOf_ok 9 1 rfl rfl rfl rfl ?_
    obtain ⟨v4, e5, H⟩ := ob H
    refine g_ild hF (dAt tX3_tellOf_ok 10 rfl rfl) hS.2.2.1 e5 ?_
    exact g_iret hF (en_i H hE) (dAt tX3_tellOf_ok 11 rfl rfl) (by decide) (by decide)
  have H := Hf1_1 c1_1
  obtain ⟨Ht1_2, Hf1_2⟩ := oi H
  by_cases c1_2 : x2 = 2
  · have H := Ht1_2 c1_2
    refine g_tsw (c := 2) hF (dAt tX3_tellOf_ok 1 rfl rfl) c1_2 (by decide) (by decide) rfl rfl ?_
    refine g_p (S' := [.ref a]) hF tX3_tellOf_ok 12 1 rfl rfl rfl rfl ?_
    refine g_getR hF (dAt tX3_tellOf_ok 13 rfl rfl) flX3_18 hS.1 rfl ?_
    refine g_p (S' := [.int x1, .ref (a + 3)]) hF tX3_tellOf_ok 14 1 rfl rfl rfl rfl ?_
    obtain ⟨v6, e7, H⟩ := ob H
    refine g_ild hF (dAt tX3_tellOf_ok 15 rfl rfl) hS.2.2.2.1 e7 ?_
    exact g_iret hF (en_i H hE) (dAt tX3_tellOf_ok 16 rfl rfl) (by decide) (by decide)
  have H := Hf1_2 c1_2
  obtain ⟨Ht1_3, Hf1_3⟩ := oi H
  by_cases c1_3 : x2 = 3
  · have H := Ht1_3 c1_3
    refine g_tsw (c := 3) hF (dAt tX3_tellOf_ok 1 rfl rfl) c1_3 (by decide) (by decide) rfl rfl ?_
    refine g_p (S' := [.ref a]) hF tX3_tellOf_ok 17 1 rfl rfl rfl rfl ?_
    refine g_getR hF (dAt tX3_tellOf_ok 18 rfl rfl) flX3_21 hS.1 rfl ?_
    refine g_p (S' := [.int x1, .ref (a + 4)]) hF tX3_tellOf_ok 19 1 rfl rfl rfl rfl ?_
    obtain ⟨v8, e9, H⟩ := ob H
    refine g_ild hF (dAt tX3_tellOf_ok 20 rfl rfl) hS.2.2.2.2.1 e9 ?_
    exact g_iret hF (en_i H hE) (dAt tX3_tellOf_ok 21 rfl rfl) (by decide) (by decide)
  have H := Hf1_3 c1_3
  obtain ⟨Ht1_4, Hf1_4⟩ := oi H
  by_cases c1_4 : x2 = 4
  · have H := Ht1_4 c1_4
    refine g_tsw (c := 4) hF (dAt tX3_tellOf_ok 1 rfl rfl) c1_4 (by decide) (by decide) rfl rfl ?_
    refine g_p (S' := [.ref a]) hF tX3_tellOf_ok 22 1 rfl rfl rfl rfl ?_
    refine g_getR hF (dAt tX3_tellOf_ok 23 rfl rfl) flX3_24 hS.1 rfl ?_
    refine g_p (S' := [.int x1, .ref (a + 5)]) hF tX3_tellOf_ok 24 1 rfl rfl rfl rfl ?_
    obtain ⟨v10, e11, H⟩ := ob H
    refine g_ild hF (dAt tX3_tellOf_ok 25 rfl rfl) hS.2.2.2.2.2.1 e11 ?_
    exact g_iret hF (en_i H hE) (dAt tX3_tellOf_ok 26 rfl rfl) (by decide) (by decide)
  have H := Hf1_4 c1_4
  obtain ⟨Ht1_5, Hf1_5⟩ := oi H
  by_cases c1_5 : x2 = 5
  · have H := Ht1_5 c1_5
    refine g_tsw (c := 5) hF (dAt tX3_tellOf_ok 1 rfl rfl) c1_5 (by decide) (by decide) rfl rfl ?_
    refine g_p (S' := [.ref a]) hF tX3_tellOf_ok 27 1 rfl rfl rfl rfl ?_
    refine g_getR hF (dAt tX3_tellOf_ok 28 rfl rfl) flX3_27 hS.1 rfl ?_
    refine g_p (S' := [.int x1, .ref (a + 6)]) hF tX3_tellOf_ok 29 1 rfl rfl rfl rfl ?_
    obtain ⟨v12, e13, H⟩ := ob H
    refine g_ild hF (dAt tX3_tellOf_ok 30 rfl rfl) hS.2.2.2.2.2.2.1 e13 ?_
    exact g_iret hF (en_i H hE) (dAt tX3_tellOf_ok 31 rfl rfl) (by decide) (by decide)
  have H := Hf1_5 c1_5
  obtain ⟨Ht1_6, Hf1_6⟩ := oi H
  by_cases c1_6 : x2 = 6
  · have H := Ht1_6 c1_6
    refine g_tsw (c := 6) hF (dAt tX3_tellOf_ok 1 rfl rfl) c1_6 (by decide) (by decide) rfl rfl ?_
    refine g_p (S' := [.int x1, .ref a]) hF tX3_tellOf_ok 32 2 rfl rfl rfl rfl ?_
    obtain ⟨v14, e15, H⟩ := ob H
    refine g_cV (S := []) hF (X3_workerOf_ok (Nat.le_refl _) hS e15 K) mbX3_workerOf mvX3_workerOf mlX3_63 (by omega) (by decide) (dAt tX3_tellOf_ok 34 rfl rfl) hS.1 rfl rfl rfl (Nat.le_of_ble_eq_true rfl) rfl rfl (by decide) (by decide) rfl ?_
    exact g_iret hF (en_i H hE) (dAt tX3_tellOf_ok 35 rfl rfl) (by decide) (by decide)
  have H := Hf1_6 c1_6
  obtain ⟨Ht1_7, Hf1_7⟩ := oi H
  by_cases c1_7 : x2 = 7
  · have H := Ht1_7 c1_7
    refine g_tsw (c := 7) hF (dAt tX3_tellOf_ok 1 rfl rfl) c1_7 (by decide) (by decide) rfl rfl ?_
    refine g_p (S' := [.ref a]) hF tX3_tellOf_ok 36 1 rfl rfl rfl rfl ?_
    refine g_getR hF (dAt tX3_tellOf_ok 37 rfl rfl) flX3_30 hS.1 rfl ?_
    refine g_p (S' := [.int x1, .ref (a + 7)]) hF tX3_tellOf_ok 38 1 rfl rfl rfl rfl ?_
    obtain ⟨v16, e17, H⟩ := ob H
    refine g_ild hF (dAt tX3_tellOf_ok 39 rfl rfl) hS.2.2.2.2.2.2.2.1 e17 ?_
    exact g_iret hF (en_i H hE) (dAt tX3_tellOf_ok 40 rfl rfl) (by decide) (by decide)
  have H := Hf1_7 c1_7
  refine g_tswD hF (dAt tX3_tellOf_ok 1 rfl rfl) (tsw_l 0 7 8 [0, 1, 2, 3, 4, 5, 6, 7] (al1 c1_0 (al1 c1_1 (al1 c1_2 (al1 c1_3 (al1 c1_4 (al1 c1_5 (al1 c1_6 (al1 c1_7 al0)))))))) (by decide) (by decide)) rfl ?_
  refine g_p (S' := [.int (-2)]) hF tX3_tellOf_ok 41 1 rfl rfl rfl rfl ?_
  exact g_iret hF (en_i H hE) (dAt tX3_tellOf_ok 42 rfl rfl) (by decide) (by decide)
def X3_allHours_b4 (a : Nat) (σ : Sig) : Nat → Int32 → Int32 → Option (Int32)
  | 0, _, _ => none
  | fu + 1, x1, x2 => if (σ a 0) ≤ x2 then (some x1) else ((ld 40 (σ (a + 3)) x2).bind fun v2 => X3_allHours_b4 a σ fu (x1 + v2) (x2 + 1))
set_option maxRecDepth 4000 in
set_option maxHeartbeats 1000000 in
theorem X3_allHours_b4_ok {K : Kt} {X : Cx} {D : Nat} {τ : Tau} {nx : Nat} {a : Nat} {res : Int32} {σ : Sig}  (hD : 1 ≤ D) (hF : Fx K X cX3_allHours 3 RX3 D 0 0) (hS : ShX3 τ a) (hE : En K X (some .int) 0 0 (some (.int res)) (τ, σ, nx)) : ∀ (fu : Nat) (x1 x2 : Int32), X3_allHours_b4 a σ fu x1 x2 = some res → G K X 3 0 0 4 [some (.ref a), some (.int x1), some (.int x2)] [] (τ, σ, nx)
  | 0, _, _, H => nomatch H
  | fu + 1, x1, x2, H => by
    refine g_p (S' := [.ref a, .int x2]) hF tX3_allHours_ok 4 2 rfl rfl rfl rfl ?_
    refine g_getI hF (dAt tX3_allHours_ok 6 rfl rfl) flX3_42 hS.1 rfl ?_
    obtain ⟨Ht1, Hf1⟩ := oi H
    refine g_icmp_ge hF (dAt tX3_allHours_ok 7 rfl rfl) rfl (fun c1 => ?_) (fun c1 => ?_)
    · have H := Ht1 c1
      refine g_p (S' := [.int x1]) hF tX3_allHours_ok 17 1 rfl rfl rfl rfl ?_
      exact g_iret hF (en_i H hE) (dAt tX3_allHours_ok 18 rfl rfl) (by decide) (by decide)
    · have H := Hf1 c1
      refine g_p (S' := [.ref a, .int x1]) hF tX3_allHours_ok 8 2 rfl rfl rfl rfl ?_
      refine g_getR hF (dAt tX3_allHours_ok 10 rfl rfl) flX3_18 hS.1 rfl ?_
      refine g_p (S' := [.int x2, .ref (a + 3), .int x1]) hF tX3_allHours_ok 11 1 rfl rfl rfl rfl ?_
      obtain ⟨v2, e3, H⟩ := ob H
      refine g_ild hF (dAt tX3_allHours_ok 12 rfl rfl) hS.2.2.2.1 e3 ?_
      refine g_p (L' := [some (.ref a), some (.int (x1 + v2)), some (.int (x2 + 1))]) (S' := []) hF tX3_allHours_ok 13 3 rfl rfl rfl rfl ?_
      refine g_goto hF (dAt tX3_allHours_ok 16 rfl rfl) rfl ?_
      exact X3_allHours_b4_ok hD hF hS hE fu _ _ H
def X3_allHours_f (a : Nat) (σ : Sig) : Option (Int32) := X3_allHours_b4 a σ FU 0 0
set_option maxRecDepth 4000 in
set_option maxHeartbeats 1000000 in
theorem X3_allHours_ok {D : Nat} {τ : Tau} {nx : Nat} {a : Nat} {σ : Sig} {res : Int32} (hD : 1 ≤ D) (hS : ShX3 τ a) (H : X3_allHours_f a σ = some res) : Ok D 0 0 yX3_allHours cX3_allHours 3 (some .int) [.ref a] (τ, σ, nx) (some (.int res)) (τ, σ, nx) := by
  refine ok_of (by decide +kernel) rfl (Nat.le_of_ble_eq_true rfl) (fun K X hF hE hN L0 hL0 => ?_)
  obtain rfl : [some (.ref a), none, none] = L0 := hL0
  have hF : Fx K X cX3_allHours 3 RX3 D 0 0 := hF
  refine g_p (L' := [some (.ref a), some (.int 0), some (.int 0)]) (S' := []) hF tX3_allHours_ok 0 4 rfl rfl rfl rfl ?_
  exact X3_allHours_b4_ok hD hF hS hE FU _ _ H
def X3_doneCount_b4 (a : Nat) (σ : Sig) : Nat → Int32 → Int32 → Option (Int32)
  | 0, _, _ => none
  | fu + 1, x1, x2 => if (σ a 0) ≤ x2 then (some x1) else ((ld 40 (σ (a + 3)) x2).bind fun v2 => if v2 = 0 then (X3_doneCount_b4 a σ fu (x1 + 1) (x2 + 1)) else (X3_doneCount_b4 a σ fu x1 (x2 + 1)))
set_option maxRecDepth 4000 in
set_option maxHeartbeats 1000000 in
theorem X3_doneCount_b4_ok {K : Kt} {X : Cx} {D : Nat} {τ : Tau} {nx : Nat} {a : Nat} {res : Int32} {σ : Sig}  (hD : 1 ≤ D) (hF : Fx K X cX3_doneCount 3 RX3 D 0 0) (hS : ShX3 τ a) (hE : En K X (some .int) 0 0 (some (.int res)) (τ, σ, nx)) : ∀ (fu : Nat) (x1 x2 : Int32), X3_doneCount_b4 a σ fu x1 x2 = some res → G K X 3 0 0 4 [some (.ref a), some (.int x1), some (.int x2)] [] (τ, σ, nx)
  | 0, _, _, H => nomatch H
  | fu + 1, x1, x2, H => by
    refine g_p (S' := [.ref a, .int x2]) hF tX3_doneCount_ok 4 2 rfl rfl rfl rfl ?_
    refine g_getI hF (dAt tX3_doneCount_ok 6 rfl rfl) flX3_42 hS.1 rfl ?_
    obtain ⟨Ht1, Hf1⟩ := oi H
    refine g_icmp_ge hF (dAt tX3_doneCount_ok 7 rfl rfl) rfl (fun c1 => ?_) (fun c1 => ?_)
    · have H := Ht1 c1
      refine g_p (S' := [.int x1]) hF tX3_doneCount_ok 16 1 rfl rfl rfl rfl ?_
      exact g_iret hF (en_i H hE) (dAt tX3_doneCount_ok 17 rfl rfl) (by decide) (by decide)
    · have H := Hf1 c1
      refine g_p (S' := [.ref a]) hF tX3_doneCount_ok 8 1 rfl rfl rfl rfl ?_
      refine g_getR hF (dAt tX3_doneCount_ok 9 rfl rfl) flX3_18 hS.1 rfl ?_
      refine g_p (S' := [.int x2, .ref (a + 3)]) hF tX3_doneCount_ok 10 1 rfl rfl rfl rfl ?_
      obtain ⟨v2, e3, H⟩ := ob H
      refine g_ild hF (dAt tX3_doneCount_ok 11 rfl rfl) hS.2.2.2.1 e3 ?_
      obtain ⟨Ht4, Hf4⟩ := oi H
      refine g_if_ne hF (dAt tX3_doneCount_ok 12 rfl rfl) rfl (fun c4 => ?_) (fun c4 => ?_)
      · have H := Hf4 c4
        refine g_p (L' := [some (.ref a), some (.int x1), some (.int (x2 + 1))]) (S' := []) hF tX3_doneCount_ok 14 1 rfl rfl rfl rfl ?_
        refine g_goto hF (dAt tX3_doneCount_ok 15 rfl rfl) rfl ?_
        exact X3_doneCount_b4_ok hD hF hS hE fu _ _ H
      · have H := Ht4 c4
        refine g_p (L' := [some (.ref a), some (.int (x1 + 1)), some (.int (x2 + 1))]) (S' := []) hF tX3_doneCount_ok 13 2 rfl rfl rfl rfl ?_
        refine g_goto hF (dAt tX3_doneCount_ok 15 rfl rfl) rfl ?_
        exact X3_doneCount_b4_ok hD hF hS hE fu _ _ H
def X3_doneCount_f (a : Nat) (σ : Sig) : Option (Int32) := X3_doneCount_b4 a σ FU 0 0
set_option maxRecDepth 4000 in
set_option maxHeartbeats 1000000 in
theorem X3_doneCount_ok {D : Nat} {τ : Tau} {nx : Nat} {a : Nat} {σ : Sig} {res : Int32} (hD : 1 ≤ D) (hS : ShX3 τ a) (H : X3_doneCount_f a σ = some res) : Ok D 0 0 yX3_doneCount cX3_doneCount 3 (some .int) [.ref a] (τ, σ, nx) (some (.int res)) (τ, σ, nx) := by
  refine ok_of (by decide +kernel) rfl (Nat.le_of_ble_eq_true rfl) (fun K X hF hE hN L0 hL0 => ?_)
  obtain rfl : [some (.ref a), none, none] = L0 := hL0
  have hF : Fx K X cX3_doneCount 3 RX3 D 0 0 := hF
  refine g_p (L' := [some (.ref a), some (.int 0), some (.int 0)]) (S' := []) hF tX3_doneCount_ok 0 4 rfl rfl rfl rfl ?_
  exact X3_doneCount_b4_ok hD hF hS hE FU _ _ H
def X3_hoursOf_b49 (a : Nat) (σ : Sig) (k5 : Int32 → Int32 → Int32 → Int32 → Option (Int32)) (x1 x2 x3 x4 y0 : Int32) : Option (Int32) := if y0 = x1 then ((ld 40 (σ (a + 3)) x4).bind fun v2 => k5 x1 x2 (x3 + v2) (x4 + 1)) else (k5 x1 x2 x3 (x4 + 1))
set_option maxRecDepth 4000 in
set_option maxHeartbeats 1000000 in
theorem X3_hoursOf_b49_ok {K : Kt} {X : Cx} {D : Nat} {τ : Tau} {nx : Nat} {a : Nat} {res : Int32} {σ : Sig}  (hD : 2 ≤ D) (hF : Fx K X cX3_hoursOf 6 RX3 D 0 0) (hS : ShX3 τ a) (hE : En K X (some .int) 0 0 (some (.int res)) (τ, σ, nx)) {k5 : Int32 → Int32 → Int32 → Int32 → Option (Int32)} (hk5 : ∀ (x1 x2 x3 x4 : Int32), k5 x1 x2 x3 x4 = some res → G K X 6 0 0 5 [some (.ref a), some (.int x1), some (.int x2), some (.int x3), some (.int x4), none] [] (τ, σ, nx)) {x1 x2 x3 x4 y0 : Int32} (H : X3_hoursOf_b49 a σ k5 x1 x2 x3 x4 y0 = some res) : G K X 6 0 0 49 [some (.ref a), some (.int x1), some (.int x2), some (.int x3), some (.int x4), none] [.int y0] (τ, σ, nx) := by
  refine g_p (L' := [some (.ref a), some (.int x1), some (.int x2), some (.int x3), some (.int x4), some (.int y0)]) (S' := [.int x1, .int y0]) hF tX3_hoursOf_ok 26 3 rfl rfl rfl rfl ?_
  obtain ⟨Ht1, Hf1⟩ := oi H
  refine g_icmp_ne hF (dAt tX3_hoursOf_ok 29 rfl rfl) rfl (fun c1 => ?_) (fun c1 => ?_)
  · have H := Hf1 c1
    refine g_p (L' := [some (.ref a), some (.int x1), some (.int x2), some (.int x3), some (.int (x4 + 1)), some (.int y0)]) (S' := []) hF tX3_hoursOf_ok 37 1 rfl rfl rfl rfl ?_
    refine g_goto hF (dAt tX3_hoursOf_ok 38 rfl rfl) rfl ?_
    refine g_m [true, true, true, true, true, false] rfl ?_
    exact hk5 _ _ _ _ H
  · have H := Ht1 c1
    refine g_p (S' := [.ref a, .int x3]) hF tX3_hoursOf_ok 30 2 rfl rfl rfl rfl ?_
    refine g_getR hF (dAt tX3_hoursOf_ok 32 rfl rfl) flX3_18 hS.1 rfl ?_
    refine g_p (S' := [.int x4, .ref (a + 3), .int x3]) hF tX3_hoursOf_ok 33 1 rfl rfl rfl rfl ?_
    obtain ⟨v2, e3, H⟩ := ob H
    refine g_ild hF (dAt tX3_hoursOf_ok 34 rfl rfl) hS.2.2.2.1 e3 ?_
    refine g_p (L' := [some (.ref a), some (.int x1), some (.int x2), some (.int (x3 + v2)), some (.int (x4 + 1)), some (.int y0)]) (S' := []) hF tX3_hoursOf_ok 35 3 rfl rfl rfl rfl ?_
    refine g_goto hF (dAt tX3_hoursOf_ok 38 rfl rfl) rfl ?_
    refine g_m [true, true, true, true, true, false] rfl ?_
    exact hk5 _ _ _ _ H
def X3_hoursOf_b5 (a : Nat) (σ : Sig) : Nat → Int32 → Int32 → Int32 → Int32 → Option (Int32)
  | 0, _, _, _, _ => none
  | fu + 1, x1, x2, x3, x4 => if (σ a 0) ≤ x4 then (some x3) else (if x2 = 0 then ((ld 40 (σ (a + 1)) x4).bind fun v8 => X3_hoursOf_b49 a σ (X3_hoursOf_b5 a σ fu) x1 x2 x3 x4 v8) else (if x2 = 1 then ((ld 40 (σ (a + 2)) x4).bind fun v6 => X3_hoursOf_b49 a σ (X3_hoursOf_b5 a σ fu) x1 x2 x3 x4 v6) else ((X3_workerOf_f a x4 σ).bind fun v4 => X3_hoursOf_b49 a σ (X3_hoursOf_b5 a σ fu) x1 x2 x3 x4 v4)))
set_option maxRecDepth 4000 in
set_option maxHeartbeats 1000000 in
theorem X3_hoursOf_b5_ok {K : Kt} {X : Cx} {D : Nat} {τ : Tau} {nx : Nat} {a : Nat} {res : Int32} {σ : Sig}  (hD : 2 ≤ D) (hF : Fx K X cX3_hoursOf 6 RX3 D 0 0) (hS : ShX3 τ a) (hE : En K X (some .int) 0 0 (some (.int res)) (τ, σ, nx)) : ∀ (fu : Nat) (x1 x2 x3 x4 : Int32), X3_hoursOf_b5 a σ fu x1 x2 x3 x4 = some res → G K X 6 0 0 5 [some (.ref a), some (.int x1), some (.int x2), some (.int x3), some (.int x4), none] [] (τ, σ, nx)
  | 0, _, _, _, _, H => nomatch H
  | fu + 1, x1, x2, x3, x4, H => by
    refine g_p (S' := [.ref a, .int x4]) hF tX3_hoursOf_ok 4 2 rfl rfl rfl rfl ?_
    refine g_getI hF (dAt tX3_hoursOf_ok 6 rfl rfl) flX3_42 hS.1 rfl ?_
    obtain ⟨Ht1, Hf1⟩ := oi H
    refine g_icmp_ge hF (dAt tX3_hoursOf_ok 7 rfl rfl) rfl (fun c1 => ?_) (fun c1 => ?_)
    · have H := Ht1 c1
      refine g_p (S' := [.int x3]) hF tX3_hoursOf_ok 39 1 rfl rfl rfl rfl ?_
      exact g_iret hF (en_i H hE) (dAt tX3_hoursOf_ok 40 rfl rfl) (by decide) (by decide)
    · have H := Hf1 c1
      refine g_p (S' := [.int x2]) hF tX3_hoursOf_ok 8 1 rfl rfl rfl rfl ?_
      obtain ⟨Ht2, Hf2⟩ := oi H
      refine g_if_ne hF (dAt tX3_hoursOf_ok 9 rfl rfl) rfl (fun c2 => ?_) (fun c2 => ?_)
      · have H := Hf2 c2
        refine g_p (S' := [.int 1, .int x2]) hF tX3_hoursOf_ok 15 2 rfl rfl rfl rfl ?_
        obtain ⟨Ht3, Hf3⟩ := oi H
        refine g_icmp_ne hF (dAt tX3_hoursOf_ok 17 rfl rfl) rfl (fun c3 => ?_) (fun c3 => ?_)
        · have H := Hf3 c3
          refine g_p (S' := [.int x4, .ref a]) hF tX3_hoursOf_ok 23 2 rfl rfl rfl rfl ?_
          obtain ⟨v4, e5, H⟩ := ob H
          refine g_cV (S := []) hF (X3_workerOf_ok (Nat.le_refl _) hS e5 K) mbX3_workerOf mvX3_workerOf mlX3_63 (by omega) (by decide) (dAt tX3_hoursOf_ok 25 rfl rfl) hS.1 rfl rfl rfl (Nat.le_of_ble_eq_true rfl) rfl rfl (by decide) (by decide) rfl ?_
          exact X3_hoursOf_b49_ok hD hF hS hE (fun _ _ _ _ H => X3_hoursOf_b5_ok hD hF hS hE fu _ _ _ _ H) H
        · have H := Ht3 c3
          refine g_p (S' := [.ref a]) hF tX3_hoursOf_ok 18 1 rfl rfl rfl rfl ?_
          refine g_getR hF (dAt tX3_hoursOf_ok 19 rfl rfl) flX3_15 hS.1 rfl ?_
          refine g_p (S' := [.int x4, .ref (a + 2)]) hF tX3_hoursOf_ok 20 1 rfl rfl rfl rfl ?_
          obtain ⟨v6, e7, H⟩ := ob H
          refine g_ild hF (dAt tX3_hoursOf_ok 21 rfl rfl) hS.2.2.1 e7 ?_
          refine g_goto hF (dAt tX3_hoursOf_ok 22 rfl rfl) rfl ?_
          exact X3_hoursOf_b49_ok hD hF hS hE (fun _ _ _ _ H => X3_hoursOf_b5_ok hD hF hS hE fu _ _ _ _ H) H
      · have H := Ht2 c2
        refine g_p (S' := [.ref a]) hF tX3_hoursOf_ok 10 1 rfl rfl rfl rfl ?_
        refine g_getR hF (dAt tX3_hoursOf_ok 11 rfl rfl) flX3_9 hS.1 rfl ?_
        refine g_p (S' := [.int x4, .ref (a + 1)]) hF tX3_hoursOf_ok 12 1 rfl rfl rfl rfl ?_
        obtain ⟨v8, e9, H⟩ := ob H
        refine g_ild hF (dAt tX3_hoursOf_ok 13 rfl rfl) hS.2.1 e9 ?_
        refine g_goto hF (dAt tX3_hoursOf_ok 14 rfl rfl) rfl ?_
        exact X3_hoursOf_b49_ok hD hF hS hE (fun _ _ _ _ H => X3_hoursOf_b5_ok hD hF hS hE fu _ _ _ _ H) H
def X3_hoursOf_f (a : Nat) (x1 x2 : Int32) (σ : Sig) : Option (Int32) := X3_hoursOf_b5 a σ FU x1 x2 0 0
set_option maxRecDepth 4000 in
set_option maxHeartbeats 1000000 in
theorem X3_hoursOf_ok {D : Nat} {τ : Tau} {nx : Nat} {a : Nat} {x1 x2 : Int32} {σ : Sig} {res : Int32} (hD : 2 ≤ D) (hS : ShX3 τ a) (H : X3_hoursOf_f a x1 x2 σ = some res) : Ok D 0 0 yX3_hoursOf cX3_hoursOf 6 (some .int) [.ref a, .int x1, .int x2] (τ, σ, nx) (some (.int res)) (τ, σ, nx) := by
  refine ok_of (by decide +kernel) rfl (Nat.le_of_ble_eq_true rfl) (fun K X hF hE hN L0 hL0 => ?_)
  obtain rfl : [some (.ref a), some (.int x1), some (.int x2), none, none, none] = L0 := hL0
  have hF : Fx K X cX3_hoursOf 6 RX3 D 0 0 := hF
  refine g_p (L' := [some (.ref a), some (.int x1), some (.int x2), some (.int 0), some (.int 0), none]) (S' := []) hF tX3_hoursOf_ok 0 4 rfl rfl rfl rfl ?_
  exact X3_hoursOf_b5_ok hD hF hS hE FU _ _ _ _ H
def X3_tally_b18 (a : Nat) : Nat → Int32 → Sig → Option (Sig)
  | 0, _, _ => none
  | fu + 1, x1, σ => if (σ a 0) ≤ x1 then (some σ) else ((X3_workerOf_f a x1 σ).bind fun v2 => (ld 40 (σ (a + 2)) x1).bind fun v4 => if v2 < 0 then (X3_tally_b18 a fu (x1 + 1) σ) else (if 12 ≤ v2 then (X3_tally_b18 a fu (x1 + 1) σ) else (if v4 < 0 then (X3_tally_b18 a fu (x1 + 1) σ) else (if 12 ≤ v4 then (X3_tally_b18 a fu (x1 + 1) σ) else ((ld 12 (σ (a + 9)) v2).bind fun v10 => (ld 40 (σ (a + 3)) x1).bind fun v12 => (st 12 σ (a + 9) v2 (v10 + v12)).bind fun s14 => (ld 12 (s14 (a + 10)) v4).bind fun v16 => (ld 40 (s14 (a + 3)) x1).bind fun v18 => (st 12 s14 (a + 10) v4 (v16 + v18)).bind fun s20 => X3_tally_b18 a fu (x1 + 1) s20)))))
set_option maxRecDepth 4000 in
set_option maxHeartbeats 1000000 in
theorem X3_tally_b18_ok {K : Kt} {X : Cx} {D : Nat} {τ : Tau} {nx : Nat} {a : Nat} {res : Sig}  (hD : 2 ≤ D) (hF : Fx K X cX3_tally 4 RX3 D 0 0) (hS : ShX3 τ a) (hE : En K X none 0 0 none (τ, res, nx)) : ∀ (fu : Nat) (x1 : Int32) (σ : Sig), X3_tally_b18 a fu x1 σ = some res → G K X 4 0 0 18 [some (.ref a), some (.int x1), none, none] [] (τ, σ, nx)
  | 0, _, _, H => nomatch H
  | fu + 1, x1, σ, H => by
    refine g_p (S' := [.ref a, .int x1]) hF tX3_tally_ok 10 2 rfl rfl rfl rfl ?_
    refine g_getI hF (dAt tX3_tally_ok 12 rfl rfl) flX3_42 hS.1 rfl ?_
    obtain ⟨Ht1, Hf1⟩ := oi H
    refine g_icmp_ge hF (dAt tX3_tally_ok 13 rfl rfl) rfl (fun c1 => ?_) (fun c1 => ?_)
    · have H := Ht1 c1
      exact g_vret hF (en_v H hE) (dAt tX3_tally_ok 57 rfl rfl) (by decide) (by decide)
    · have H := Hf1 c1
      refine g_p (S' := [.int x1, .ref a]) hF tX3_tally_ok 14 2 rfl rfl rfl rfl ?_
      obtain ⟨v2, e3, H⟩ := ob H
      refine g_cV (S := []) hF (X3_workerOf_ok (Nat.le_refl _) hS e3 K) mbX3_workerOf mvX3_workerOf mlX3_63 (by omega) (by decide) (dAt tX3_tally_ok 16 rfl rfl) hS.1 rfl rfl rfl (Nat.le_of_ble_eq_true rfl) rfl rfl (by decide) (by decide) rfl ?_
      refine g_p (L' := [some (.ref a), some (.int x1), some (.int v2), none]) (S' := [.ref a]) hF tX3_tally_ok 17 2 rfl rfl rfl rfl ?_
      refine g_getR hF (dAt tX3_tally_ok 19 rfl rfl) flX3_15 hS.1 rfl ?_
      refine g_p (S' := [.int x1, .ref (a + 2)]) hF tX3_tally_ok 20 1 rfl rfl rfl rfl ?_
      obtain ⟨v4, e5, H⟩ := ob H
      refine g_ild hF (dAt tX3_tally_ok 21 rfl rfl) hS.2.2.1 e5 ?_
      refine g_p (L' := [some (.ref a), some (.int x1), some (.int v2), some (.int v4)]) (S' := [.int v2]) hF tX3_tally_ok 22 2 rfl rfl rfl rfl ?_
      obtain ⟨Ht6, Hf6⟩ := oi H
      refine g_if_lt hF (dAt tX3_tally_ok 24 rfl rfl) rfl (fun c6 => ?_) (fun c6 => ?_)
      · have H := Ht6 c6
        refine g_p (L' := [some (.ref a), some (.int (x1 + 1)), some (.int v2), some (.int v4)]) (S' := []) hF tX3_tally_ok 55 1 rfl rfl rfl rfl ?_
        refine g_goto hF (dAt tX3_tally_ok 56 rfl rfl) rfl ?_
        refine g_m [true, true, false, false] rfl ?_
        exact X3_tally_b18_ok hD hF hS hE fu _ _ H
      · have H := Hf6 c6
        refine g_p (S' := [.int 12, .int v2]) hF tX3_tally_ok 25 2 rfl rfl rfl rfl ?_
        obtain ⟨Ht7, Hf7⟩ := oi H
        refine g_icmp_ge hF (dAt tX3_tally_ok 27 rfl rfl) rfl (fun c7 => ?_) (fun c7 => ?_)
        · have H := Ht7 c7
          refine g_p (L' := [some (.ref a), some (.int (x1 + 1)), some (.int v2), some (.int v4)]) (S' := []) hF tX3_tally_ok 55 1 rfl rfl rfl rfl ?_
          refine g_goto hF (dAt tX3_tally_ok 56 rfl rfl) rfl ?_
          refine g_m [true, true, false, false] rfl ?_
          exact X3_tally_b18_ok hD hF hS hE fu _ _ H
        · have H := Hf7 c7
          refine g_p (S' := [.int v4]) hF tX3_tally_ok 28 1 rfl rfl rfl rfl ?_
          obtain ⟨Ht8, Hf8⟩ := oi H
          refine g_if_lt hF (dAt tX3_tally_ok 29 rfl rfl) rfl (fun c8 => ?_) (fun c8 => ?_)
          · have H := Ht8 c8
            refine g_p (L' := [some (.ref a), some (.int (x1 + 1)), some (.int v2), some (.int v4)]) (S' := []) hF tX3_tally_ok 55 1 rfl rfl rfl rfl ?_
            refine g_goto hF (dAt tX3_tally_ok 56 rfl rfl) rfl ?_
            refine g_m [true, true, false, false] rfl ?_
            exact X3_tally_b18_ok hD hF hS hE fu _ _ H
          · have H := Hf8 c8
            refine g_p (S' := [.int 12, .int v4]) hF tX3_tally_ok 30 2 rfl rfl rfl rfl ?_
            obtain ⟨Ht9, Hf9⟩ := oi H
            refine g_icmp_ge hF (dAt tX3_tally_ok 32 rfl rfl) rfl (fun c9 => ?_) (fun c9 => ?_)
            · have H := Ht9 c9
              refine g_p (L' := [some (.ref a), some (.int (x1 + 1)), some (.int v2), some (.int v4)]) (S' := []) hF tX3_tally_ok 55 1 rfl rfl rfl rfl ?_
              refine g_goto hF (dAt tX3_tally_ok 56 rfl rfl) rfl ?_
              refine g_m [true, true, false, false] rfl ?_
              exact X3_tally_b18_ok hD hF hS hE fu _ _ H
            · have H := Hf9 c9
              refine g_p (S' := [.ref a]) hF tX3_tally_ok 33 1 rfl rfl rfl rfl ?_
              refine g_getR hF (dAt tX3_tally_ok 34 rfl rfl) flX3_36 hS.1 rfl ?_
              refine g_p (S' := [.int v2, .ref (a + 9), .int v2, .ref (a + 9)]) hF tX3_tally_ok 35 2 rfl rfl rfl rfl ?_
              obtain ⟨v10, e11, H⟩ := ob H
              refine g_ild hF (dAt tX3_tally_ok 37 rfl rfl) hS.2.2.2.2.2.2.2.2.2.1 e11 ?_
              refine g_p (S' := [.ref a, .int v10, .int v2, .ref (a + 9)]) hF tX3_tally_ok 38 1 rfl rfl rfl rfl ?_
              refine g_getR hF (dAt tX3_tally_ok 39 rfl rfl) flX3_18 hS.1 rfl ?_
              refine g_p (S' := [.int x1, .ref (a + 3), .int v10, .int v2, .ref (a + 9)]) hF tX3_tally_ok 40 1 rfl rfl rfl rfl ?_
              obtain ⟨v12, e13, H⟩ := ob H
              refine g_ild hF (dAt tX3_tally_ok 41 rfl rfl) hS.2.2.2.1 e13 ?_
              refine g_p (S' := [.int (v10 + v12), .int v2, .ref (a + 9)]) hF tX3_tally_ok 42 1 rfl rfl rfl rfl ?_
              obtain ⟨s14, e15, H⟩ := ob H
              refine g_ist hF (dAt tX3_tally_ok 43 rfl rfl) hS.2.2.2.2.2.2.2.2.2.1 e15 ?_
              refine g_p (S' := [.ref a]) hF tX3_tally_ok 44 1 rfl rfl rfl rfl ?_
              refine g_getR hF (dAt tX3_tally_ok 45 rfl rfl) flX3_39 hS.1 rfl ?_
              refine g_p (S' := [.int v4, .ref (a + 10), .int v4, .ref (a + 10)]) hF tX3_tally_ok 46 2 rfl rfl rfl rfl ?_
              obtain ⟨v16, e17, H⟩ := ob H
              refine g_ild hF (dAt tX3_tally_ok 48 rfl rfl) hS.2.2.2.2.2.2.2.2.2.2 e17 ?_
              refine g_p (S' := [.ref a, .int v16, .int v4, .ref (a + 10)]) hF tX3_tally_ok 49 1 rfl rfl rfl rfl ?_
              refine g_getR hF (dAt tX3_tally_ok 50 rfl rfl) flX3_18 hS.1 rfl ?_
              refine g_p (S' := [.int x1, .ref (a + 3), .int v16, .int v4, .ref (a + 10)]) hF tX3_tally_ok 51 1 rfl rfl rfl rfl ?_
              obtain ⟨v18, e19, H⟩ := ob H
              refine g_ild hF (dAt tX3_tally_ok 52 rfl rfl) hS.2.2.2.1 e19 ?_
              refine g_p (S' := [.int (v16 + v18), .int v4, .ref (a + 10)]) hF tX3_tally_ok 53 1 rfl rfl rfl rfl ?_
              obtain ⟨s20, e21, H⟩ := ob H
              refine g_ist hF (dAt tX3_tally_ok 54 rfl rfl) hS.2.2.2.2.2.2.2.2.2.2 e21 ?_
              refine g_p (L' := [some (.ref a), some (.int (x1 + 1)), some (.int v2), some (.int v4)]) (S' := []) hF tX3_tally_ok 55 1 rfl rfl rfl rfl ?_
              refine g_goto hF (dAt tX3_tally_ok 56 rfl rfl) rfl ?_
              refine g_m [true, true, false, false] rfl ?_
              exact X3_tally_b18_ok hD hF hS hE fu _ _ H
def X3_tally_f (a : Nat) (σ : Sig) : Option (Sig) := (J7_fill_53178_f (a + 9) 12 0 σ).bind fun s1 => (J7_fill_53178_f (a + 10) 12 0 s1).bind fun s3 => X3_tally_b18 a FU 0 s3
set_option maxRecDepth 4000 in
set_option maxHeartbeats 1000000 in
theorem X3_tally_ok {D : Nat} {τ : Tau} {nx : Nat} {a : Nat} {σ : Sig} {res : Sig} (hD : 2 ≤ D) (hS : ShX3 τ a) (H : X3_tally_f a σ = some res) : Ok D 0 0 yX3_tally cX3_tally 4 none [.ref a] (τ, σ, nx) none (τ, res, nx) := by
  refine ok_of (by decide +kernel) rfl (Nat.le_of_ble_eq_true rfl) (fun K X hF hE hN L0 hL0 => ?_)
  obtain rfl : [some (.ref a), none, none, none] = L0 := hL0
  have hF : Fx K X cX3_tally 4 RX3 D 0 0 := hF
  refine g_p (S' := [.ref a]) hF tX3_tally_ok 0 1 rfl rfl rfl rfl ?_
  refine g_getR hF (dAt tX3_tally_ok 1 rfl rfl) flX3_36 hS.1 rfl ?_
  refine g_p (S' := [.int 0, .ref (a + 9)]) hF tX3_tally_ok 2 1 rfl rfl rfl rfl ?_
  obtain ⟨s1, e2, H⟩ := ob H
  refine g_cS (S := []) hF (J7_fill_53178_ok (Nat.le_refl _) hS.2.2.2.2.2.2.2.2.2.1 e2 K) mbJ7_fill_53178 msJ7_fill_53178 mlX3_67 (by omega) (by decide) (dAt tX3_tally_ok 3 rfl rfl) rfl rfl (Nat.le_of_ble_eq_true rfl) rfl rfl (by decide) (by decide) rfl ?_
  refine g_p (S' := [.ref a]) hF tX3_tally_ok 4 1 rfl rfl rfl rfl ?_
  refine g_getR hF (dAt tX3_tally_ok 5 rfl rfl) flX3_39 hS.1 rfl ?_
  refine g_p (S' := [.int 0, .ref (a + 10)]) hF tX3_tally_ok 6 1 rfl rfl rfl rfl ?_
  obtain ⟨s3, e4, H⟩ := ob H
  refine g_cS (S := []) hF (J7_fill_53178_ok (Nat.le_refl _) hS.2.2.2.2.2.2.2.2.2.2 e4 K) mbJ7_fill_53178 msJ7_fill_53178 mlX3_67 (by omega) (by decide) (dAt tX3_tally_ok 7 rfl rfl) rfl rfl (Nat.le_of_ble_eq_true rfl) rfl rfl (by decide) (by decide) rfl ?_
  refine g_p (L' := [some (.ref a), some (.int 0), none, none]) (S' := []) hF tX3_tally_ok 8 2 rfl rfl rfl rfl ?_
  exact X3_tally_b18_ok hD hF hS hE FU _ _ H
def X3_goesAhead_f (a : Nat) (x1 x2 x3 : Int32) (σ : Sig) : Option (Int32) := if x3 = 0 then (some 0) else (if x3 = 1 then ((ld 40 (σ (a + 3)) x1).bind fun v8 => (ld 40 (σ (a + 3)) x2).bind fun v10 => if v10 ≤ v8 then (some 0) else (some 1)) else ((ld 40 (σ (a + 3)) x1).bind fun v3 => (ld 40 (σ (a + 3)) x2).bind fun v5 => if v3 ≤ v5 then (some 0) else (some 1)))
set_option maxRecDepth 4000 in
set_option maxHeartbeats 1000000 in
theorem X3_goesAhead_ok {D : Nat} {τ : Tau} {nx : Nat} {a : Nat} {x1 x2 x3 : Int32} {σ : Sig} {res : Int32} (hD : 1 ≤ D) (hS : ShX3 τ a) (H : X3_goesAhead_f a x1 x2 x3 σ = some res) : Ok D 0 0 yX3_goesAhead cX3_goesAhead 4 (some .boolean) [.ref a, .int x1, .int x2, .int x3] (τ, σ, nx) (some (.int res)) (τ, σ, nx) := by
  refine ok_of (by decide +kernel) rfl (Nat.le_of_ble_eq_true rfl) (fun K X hF hE hN L0 hL0 => ?_)
  obtain rfl : [some (.ref a), some (.int x1), some (.int x2), some (.int x3)] = L0 := hL0
  have hF : Fx K X cX3_goesAhead 4 RX3 D 0 0 := hF
  refine g_p (S' := [.int x3]) hF tX3_goesAhead_ok 0 1 rfl rfl rfl rfl ?_
  obtain ⟨Ht1, Hf1⟩ := oi H
  refine g_if_ne hF (dAt tX3_goesAhead_ok 1 rfl rfl) rfl (fun c1 => ?_) (fun c1 => ?_)
  · have H := Hf1 c1
    refine g_p (S' := [.int 1, .int x3]) hF tX3_goesAhead_ok 4 2 rfl rfl rfl rfl ?_
    obtain ⟨Ht2, Hf2⟩ := oi H
    refine g_icmp_ne hF (dAt tX3_goesAhead_ok 6 rfl rfl) rfl (fun c2 => ?_) (fun c2 => ?_)
    · have H := Hf2 c2
      refine g_p (S' := [.ref a]) hF tX3_goesAhead_ok 20 1 rfl rfl rfl rfl ?_
      refine g_getR hF (dAt tX3_goesAhead_ok 21 rfl rfl) flX3_18 hS.1 rfl ?_
      refine g_p (S' := [.int x1, .ref (a + 3)]) hF tX3_goesAhead_ok 22 1 rfl rfl rfl rfl ?_
      obtain ⟨v3, e4, H⟩ := ob H
      refine g_ild hF (dAt tX3_goesAhead_ok 23 rfl rfl) hS.2.2.2.1 e4 ?_
      refine g_p (S' := [.ref a, .int v3]) hF tX3_goesAhead_ok 24 1 rfl rfl rfl rfl ?_
      refine g_getR hF (dAt tX3_goesAhead_ok 25 rfl rfl) flX3_18 hS.1 rfl ?_
      refine g_p (S' := [.int x2, .ref (a + 3), .int v3]) hF tX3_goesAhead_ok 26 1 rfl rfl rfl rfl ?_
      obtain ⟨v5, e6, H⟩ := ob H
      refine g_ild hF (dAt tX3_goesAhead_ok 27 rfl rfl) hS.2.2.2.1 e6 ?_
      obtain ⟨Ht7, Hf7⟩ := oi H
      refine g_icmp_le hF (dAt tX3_goesAhead_ok 28 rfl rfl) rfl (fun c7 => ?_) (fun c7 => ?_)
      · have H := Ht7 c7
        refine g_p (S' := [.int 0]) hF tX3_goesAhead_ok 31 1 rfl rfl rfl rfl ?_
        exact g_zret hF (en_i H hE) (Or.inl rfl) (dAt tX3_goesAhead_ok 32 rfl rfl) (by decide) (by decide)
      · have H := Hf7 c7
        refine g_p (S' := [.int 1]) hF tX3_goesAhead_ok 29 1 rfl rfl rfl rfl ?_
        refine g_goto hF (dAt tX3_goesAhead_ok 30 rfl rfl) rfl ?_
        exact g_zret hF (en_i H hE) (Or.inr rfl) (dAt tX3_goesAhead_ok 32 rfl rfl) (by decide) (by decide)
    · have H := Ht2 c2
      refine g_p (S' := [.ref a]) hF tX3_goesAhead_ok 7 1 rfl rfl rfl rfl ?_
      refine g_getR hF (dAt tX3_goesAhead_ok 8 rfl rfl) flX3_18 hS.1 rfl ?_
      refine g_p (S' := [.int x1, .ref (a + 3)]) hF tX3_goesAhead_ok 9 1 rfl rfl rfl rfl ?_
      obtain ⟨v8, e9, H⟩ := ob H
      refine g_ild hF (dAt tX3_goesAhead_ok 10 rfl rfl) hS.2.2.2.1 e9 ?_
      refine g_p (S' := [.ref a, .int v8]) hF tX3_goesAhead_ok 11 1 rfl rfl rfl rfl ?_
      refine g_getR hF (dAt tX3_goesAhead_ok 12 rfl rfl) flX3_18 hS.1 rfl ?_
      refine g_p (S' := [.int x2, .ref (a + 3), .int v8]) hF tX3_goesAhead_ok 13 1 rfl rfl rfl rfl ?_
      obtain ⟨v10, e11, H⟩ := ob H
      refine g_ild hF (dAt tX3_goesAhead_ok 14 rfl rfl) hS.2.2.2.1 e11 ?_
      obtain ⟨Ht12, Hf12⟩ := oi H
      refine g_icmp_ge hF (dAt tX3_goesAhead_ok 15 rfl rfl) rfl (fun c12 => ?_) (fun c12 => ?_)
      · have H := Ht12 c12
        refine g_p (S' := [.int 0]) hF tX3_goesAhead_ok 18 1 rfl rfl rfl rfl ?_
        refine g_goto hF (dAt tX3_goesAhead_ok 19 rfl rfl) rfl ?_
        exact g_zret hF (en_i H hE) (Or.inl rfl) (dAt tX3_goesAhead_ok 32 rfl rfl) (by decide) (by decide)
      · have H := Hf12 c12
        refine g_p (S' := [.int 1]) hF tX3_goesAhead_ok 16 1 rfl rfl rfl rfl ?_
        refine g_goto hF (dAt tX3_goesAhead_ok 17 rfl rfl) rfl ?_
        exact g_zret hF (en_i H hE) (Or.inr rfl) (dAt tX3_goesAhead_ok 32 rfl rfl) (by decide) (by decide)
  · have H := Ht1 c1
    refine g_p (S' := [.int 0]) hF tX3_goesAhead_ok 2 1 rfl rfl rfl rfl ?_
    exact g_zret hF (en_i H hE) (Or.inl rfl) (dAt tX3_goesAhead_ok 3 rfl rfl) (by decide) (by decide)
def X3_findWhoMay_b63 (a : Nat) (r1 : Nat) (k10 : Int32 → Int32 → Int32 → Sig → Option (Int32 × Sig)) (x2 x3 x4 x5 : Int32) (σ : Sig) : Option (Int32 × Sig) := (st 40 σ (a + 8) x4 (x5 &&& x2)).bind fun s1 => (ld 40 (s1 (a + 3)) x4).bind fun v3 => if v3 ≤ 0 then (k10 x2 x3 (x4 + 1) s1) else ((ld 40 (s1 (a + 8)) x4).bind fun v6 => if v6 = 0 then (k10 x2 0 (x4 + 1) s1) else (k10 x2 x3 (x4 + 1) s1))
set_option maxRecDepth 4000 in
set_option maxHeartbeats 1000000 in
theorem X3_findWhoMay_b63_ok {K : Kt} {X : Cx} {D : Nat} {τ : Tau} {nx : Nat} {a : Nat} {r1 : Nat} {res : Int32} {rsg : Sig}  (hD : 2 ≤ D) (hF : Fx K X cX3_findWhoMay 6 RX3 D 0 0) (hS : ShX3 τ a) (hr1 : ShX4 τ r1) (hE : En K X (some .boolean) 0 0 (some (.int res)) (τ, rsg, nx)) {k10 : Int32 → Int32 → Int32 → Sig → Option (Int32 × Sig)} (hk10 : ∀ (x2 x3 x4 : Int32) (σ : Sig), k10 x2 x3 x4 σ = some (res, rsg) → G K X 6 0 0 10 [some (.ref a), none, some (.int x2), some (.int x3), some (.int x4), none] [] (τ, σ, nx)) {x2 x3 x4 x5 : Int32} {σ : Sig} (H : X3_findWhoMay_b63 a r1 k10 x2 x3 x4 x5 σ = some (res, rsg)) : G K X 6 0 0 63 [some (.ref a), none, some (.int x2), some (.int x3), some (.int x4), some (.int x5)] [] (τ, σ, nx) := by
  refine g_p (S' := [.ref a]) hF tX3_findWhoMay_ok 38 1 rfl rfl rfl rfl ?_
  refine g_getR hF (dAt tX3_findWhoMay_ok 39 rfl rfl) flX3_33 hS.1 rfl ?_
  refine g_p (S' := [.int (x5 &&& x2), .int x4, .ref (a + 8)]) hF tX3_findWhoMay_ok 40 4 rfl rfl rfl rfl ?_
  obtain ⟨s1, e2, H⟩ := ob H
  refine g_ist hF (dAt tX3_findWhoMay_ok 44 rfl rfl) hS.2.2.2.2.2.2.2.2.1 e2 ?_
  refine g_p (S' := [.ref a]) hF tX3_findWhoMay_ok 45 1 rfl rfl rfl rfl ?_
  refine g_getR hF (dAt tX3_findWhoMay_ok 46 rfl rfl) flX3_18 hS.1 rfl ?_
  refine g_p (S' := [.int x4, .ref (a + 3)]) hF tX3_findWhoMay_ok 47 1 rfl rfl rfl rfl ?_
  obtain ⟨v3, e4, H⟩ := ob H
  refine g_ild hF (dAt tX3_findWhoMay_ok 48 rfl rfl) hS.2.2.2.1 e4 ?_
  obtain ⟨Ht5, Hf5⟩ := oi H
  refine g_if_le hF (dAt tX3_findWhoMay_ok 49 rfl rfl) rfl (fun c5 => ?_) (fun c5 => ?_)
  · have H := Ht5 c5
    refine g_p (L' := [some (.ref a), none, some (.int x2), some (.int x3), some (.int (x4 + 1)), some (.int x5)]) (S' := []) hF tX3_findWhoMay_ok 57 1 rfl rfl rfl rfl ?_
    refine g_goto hF (dAt tX3_findWhoMay_ok 58 rfl rfl) rfl ?_
    refine g_m [true, false, true, true, true, false] rfl ?_
    exact hk10 _ _ _ _ H
  · have H := Hf5 c5
    refine g_p (S' := [.ref a]) hF tX3_findWhoMay_ok 50 1 rfl rfl rfl rfl ?_
    refine g_getR hF (dAt tX3_findWhoMay_ok 51 rfl rfl) flX3_33 hS.1 rfl ?_
    refine g_p (S' := [.int x4, .ref (a + 8)]) hF tX3_findWhoMay_ok 52 1 rfl rfl rfl rfl ?_
    obtain ⟨v6, e7, H⟩ := ob H
    refine g_ild hF (dAt tX3_findWhoMay_ok 53 rfl rfl) hS.2.2.2.2.2.2.2.2.1 e7 ?_
    obtain ⟨Ht8, Hf8⟩ := oi H
    refine g_if_ne hF (dAt tX3_findWhoMay_ok 54 rfl rfl) rfl (fun c8 => ?_) (fun c8 => ?_)
    · have H := Hf8 c8
      refine g_p (L' := [some (.ref a), none, some (.int x2), some (.int x3), some (.int (x4 + 1)), some (.int x5)]) (S' := []) hF tX3_findWhoMay_ok 57 1 rfl rfl rfl rfl ?_
      refine g_goto hF (dAt tX3_findWhoMay_ok 58 rfl rfl) rfl ?_
      refine g_m [true, false, true, true, true, false] rfl ?_
      exact hk10 _ _ _ _ H
    · have H := Ht8 c8
      refine g_p (L' := [some (.ref a), none, some (.int x2), some (.int 0), some (.int (x4 + 1)), some (.int x5)]) (S' := []) hF tX3_findWhoMay_ok 55 3 rfl rfl rfl rfl ?_
      refine g_goto hF (dAt tX3_findWhoMay_ok 58 rfl rfl) rfl ?_
      refine g_m [true, false, true, true, true, false] rfl ?_
      exact hk10 _ _ _ _ H
def X3_findWhoMay_b10 (a : Nat) (r1 : Nat) : Nat → Int32 → Int32 → Int32 → Sig → Option (Int32 × Sig)
  | 0, _, _, _, _ => none
  | fu + 1, x2, x3, x4, σ => if (σ a 0) ≤ x4 then (if x3 = 0 ∨ x3 = 1 then some (x3, σ) else none) else ((ld 40 (σ (a + 6)) x4).bind fun v2 => (ld 40 (σ (a + 1)) x4).bind fun v4 => (ld 40 (σ (a + 5)) x4).bind fun v6 => if v6 = (-1) then (X3_findWhoMay_b63 a r1 (X3_findWhoMay_b10 a r1 fu) x2 x3 x4 (v2 ||| (1 <<< (v4 &&& 31))) σ) else ((ld 40 (σ (a + 5)) x4).bind fun v9 => X3_findWhoMay_b63 a r1 (X3_findWhoMay_b10 a r1 fu) x2 x3 x4 ((v2 ||| (1 <<< (v4 &&& 31))) ||| (1 <<< (v9 &&& 31))) σ))
set_option maxRecDepth 4000 in
set_option maxHeartbeats 1000000 in
theorem X3_findWhoMay_b10_ok {K : Kt} {X : Cx} {D : Nat} {τ : Tau} {nx : Nat} {a : Nat} {r1 : Nat} {res : Int32} {rsg : Sig}  (hD : 2 ≤ D) (hF : Fx K X cX3_findWhoMay 6 RX3 D 0 0) (hS : ShX3 τ a) (hr1 : ShX4 τ r1) (hE : En K X (some .boolean) 0 0 (some (.int res)) (τ, rsg, nx)) : ∀ (fu : Nat) (x2 x3 x4 : Int32) (σ : Sig), X3_findWhoMay_b10 a r1 fu x2 x3 x4 σ = some (res, rsg) → G K X 6 0 0 10 [some (.ref a), none, some (.int x2), some (.int x3), some (.int x4), none] [] (τ, σ, nx)
  | 0, _, _, _, _, H => nomatch H
  | fu + 1, x2, x3, x4, σ, H => by
    refine g_p (S' := [.ref a, .int x4]) hF tX3_findWhoMay_ok 7 2 rfl rfl rfl rfl ?_
    refine g_getI hF (dAt tX3_findWhoMay_ok 9 rfl rfl) flX3_42 hS.1 rfl ?_
    obtain ⟨Ht1, Hf1⟩ := oi H
    refine g_icmp_ge hF (dAt tX3_findWhoMay_ok 10 rfl rfl) rfl (fun c1 => ?_) (fun c1 => ?_)
    · have H := Ht1 c1
      refine g_p (S' := [.int x3]) hF tX3_findWhoMay_ok 59 1 rfl rfl rfl rfl ?_
      obtain ⟨hb, H⟩ := oy H
      exact g_zret hF (en_p H hE) hb (dAt tX3_findWhoMay_ok 60 rfl rfl) (by decide) (by decide)
    · have H := Hf1 c1
      refine g_p (S' := [.ref a]) hF tX3_findWhoMay_ok 11 1 rfl rfl rfl rfl ?_
      refine g_getR hF (dAt tX3_findWhoMay_ok 12 rfl rfl) flX3_27 hS.1 rfl ?_
      refine g_p (S' := [.int x4, .ref (a + 6)]) hF tX3_findWhoMay_ok 13 1 rfl rfl rfl rfl ?_
      obtain ⟨v2, e3, H⟩ := ob H
      refine g_ild hF (dAt tX3_findWhoMay_ok 14 rfl rfl) hS.2.2.2.2.2.2.1 e3 ?_
      refine g_p (S' := [.ref a, .int 1, .int v2]) hF tX3_findWhoMay_ok 15 2 rfl rfl rfl rfl ?_
      refine g_getR hF (dAt tX3_findWhoMay_ok 17 rfl rfl) flX3_9 hS.1 rfl ?_
      refine g_p (S' := [.int x4, .ref (a + 1), .int 1, .int v2]) hF tX3_findWhoMay_ok 18 1 rfl rfl rfl rfl ?_
      obtain ⟨v4, e5, H⟩ := ob H
      refine g_ild hF (dAt tX3_findWhoMay_ok 19 rfl rfl) hS.2.1 e5 ?_
      refine g_p (L' := [some (.ref a), none, some (.int x2), some (.int x3), some (.int x4), some (.int (v2 ||| (1 <<< (v4 &&& 31))))]) (S' := [.ref a]) hF tX3_findWhoMay_ok 20 4 rfl rfl rfl rfl ?_
      refine g_getR hF (dAt tX3_findWhoMay_ok 24 rfl rfl) flX3_24 hS.1 rfl ?_
      refine g_p (S' := [.int x4, .ref (a + 5)]) hF tX3_findWhoMay_ok 25 1 rfl rfl rfl rfl ?_
      obtain ⟨v6, e7, H⟩ := ob H
      refine g_ild hF (dAt tX3_findWhoMay_ok 26 rfl rfl) hS.2.2.2.2.2.1 e7 ?_
      refine g_p (S' := [.int (-1), .int v6]) hF tX3_findWhoMay_ok 27 1 rfl rfl rfl rfl ?_
      obtain ⟨Ht8, Hf8⟩ := oi H
      refine g_icmp_eq hF (dAt tX3_findWhoMay_ok 28 rfl rfl) rfl (fun c8 => ?_) (fun c8 => ?_)
      · have H := Ht8 c8
        exact X3_findWhoMay_b63_ok hD hF hS hr1 hE (fun _ _ _ _ H => X3_findWhoMay_b10_ok hD hF hS hr1 hE fu _ _ _ _ H) H
      · have H := Hf8 c8
        refine g_p (S' := [.ref a, .int 1, .int (v2 ||| (1 <<< (v4 &&& 31)))]) hF tX3_findWhoMay_ok 29 3 rfl rfl rfl rfl ?_
        refine g_getR hF (dAt tX3_findWhoMay_ok 32 rfl rfl) flX3_24 hS.1 rfl ?_
        refine g_p (S' := [.int x4, .ref (a + 5), .int 1, .int (v2 ||| (1 <<< (v4 &&& 31)))]) hF tX3_findWhoMay_ok 33 1 rfl rfl rfl rfl ?_
        obtain ⟨v9, e10, H⟩ := ob H
        refine g_ild hF (dAt tX3_findWhoMay_ok 34 rfl rfl) hS.2.2.2.2.2.1 e10 ?_
        refine g_p (L' := [some (.ref a), none, some (.int x2), some (.int x3), some (.int x4), some (.int ((v2 ||| (1 <<< (v4 &&& 31))) ||| (1 <<< (v9 &&& 31))))]) (S' := []) hF tX3_findWhoMay_ok 35 3 rfl rfl rfl rfl ?_
        exact X3_findWhoMay_b63_ok hD hF hS hr1 hE (fun _ _ _ _ H => X3_findWhoMay_b10_ok hD hF hS hr1 hE fu _ _ _ _ H) H
def X3_findWhoMay_f (a : Nat) (r1 : Nat) (σ : Sig) : Option (Int32 × Sig) := (X4_noChildren_f r1 σ).bind fun v1 => X3_findWhoMay_b10 a r1 FU v1 1 0 σ
set_option maxRecDepth 4000 in
set_option maxHeartbeats 1000000 in
theorem X3_findWhoMay_ok {D : Nat} {τ : Tau} {nx : Nat} {a : Nat} {r1 : Nat} {σ : Sig} {res : Int32} {rsg : Sig} (hD : 2 ≤ D) (hS : ShX3 τ a) (hr1 : ShX4 τ r1) (H : X3_findWhoMay_f a r1 σ = some (res, rsg)) : Ok D 0 0 yX3_findWhoMay cX3_findWhoMay 6 (some .boolean) [.ref a, .ref r1] (τ, σ, nx) (some (.int res)) (τ, rsg, nx) := by
  refine ok_of (by decide +kernel) rfl (Nat.le_of_ble_eq_true rfl) (fun K X hF hE hN L0 hL0 => ?_)
  obtain rfl : [some (.ref a), some (.ref r1), none, none, none, none] = L0 := hL0
  have hF : Fx K X cX3_findWhoMay 6 RX3 D 0 0 := hF
  refine g_p (S' := [.ref r1]) hF tX3_findWhoMay_ok 0 1 rfl rfl rfl rfl ?_
  obtain ⟨v1, e2, H⟩ := ob H
  refine g_cV (S := []) hF (X4_noChildren_ok (Nat.le_refl _) hr1 e2 K) mbX4_noChildren mvX4_noChildren mlX3_73 (by omega) (by decide) (dAt tX3_findWhoMay_ok 1 rfl rfl) hr1.1 rfl rfl rfl (Nat.le_of_ble_eq_true rfl) rfl rfl (by decide) (by decide) rfl ?_
  refine g_p (L' := [some (.ref a), some (.ref r1), some (.int v1), some (.int 1), some (.int 0), none]) (S' := []) hF tX3_findWhoMay_ok 2 5 rfl rfl rfl rfl ?_
  refine g_m [true, false, true, true, true, false] rfl ?_
  exact X3_findWhoMay_b10_ok hD hF hS hr1 hE FU _ _ _ _ H
def X3_greatestLeft_b4 (a : Nat) (σ : Sig) : Nat → Int32 → Int32 → Option (Int32)
  | 0, _, _ => none
  | fu + 1, x1, x2 => if (σ a 0) ≤ x2 then (some x1) else ((ld 40 (σ (a + 3)) x2).bind fun v2 => X3_greatestLeft_b4 a σ fu (mmax x1 v2) (x2 + 1))
set_option maxRecDepth 4000 in
set_option maxHeartbeats 1000000 in
theorem X3_greatestLeft_b4_ok {K : Kt} {X : Cx} {D : Nat} {τ : Tau} {nx : Nat} {a : Nat} {res : Int32} {σ : Sig}  (hD : 1 ≤ D) (hF : Fx K X cX3_greatestLeft 3 RX3 D 0 0) (hS : ShX3 τ a) (hE : En K X (some .int) 0 0 (some (.int res)) (τ, σ, nx)) : ∀ (fu : Nat) (x1 x2 : Int32), X3_greatestLeft_b4 a σ fu x1 x2 = some res → G K X 3 0 0 4 [some (.ref a), some (.int x1), some (.int x2)] [] (τ, σ, nx)
  | 0, _, _, H => nomatch H
  | fu + 1, x1, x2, H => by
    refine g_p (S' := [.ref a, .int x2]) hF tX3_greatestLeft_ok 4 2 rfl rfl rfl rfl ?_
    refine g_getI hF (dAt tX3_greatestLeft_ok 6 rfl rfl) flX3_42 hS.1 rfl ?_
    obtain ⟨Ht1, Hf1⟩ := oi H
    refine g_icmp_ge hF (dAt tX3_greatestLeft_ok 7 rfl rfl) rfl (fun c1 => ?_) (fun c1 => ?_)
    · have H := Ht1 c1
      refine g_p (S' := [.int x1]) hF tX3_greatestLeft_ok 17 1 rfl rfl rfl rfl ?_
      exact g_iret hF (en_i H hE) (dAt tX3_greatestLeft_ok 18 rfl rfl) (by decide) (by decide)
    · have H := Hf1 c1
      refine g_p (S' := [.ref a, .int x1]) hF tX3_greatestLeft_ok 8 2 rfl rfl rfl rfl ?_
      refine g_getR hF (dAt tX3_greatestLeft_ok 10 rfl rfl) flX3_18 hS.1 rfl ?_
      refine g_p (S' := [.int x2, .ref (a + 3), .int x1]) hF tX3_greatestLeft_ok 11 1 rfl rfl rfl rfl ?_
      obtain ⟨v2, e3, H⟩ := ob H
      refine g_ild hF (dAt tX3_greatestLeft_ok 12 rfl rfl) hS.2.2.2.1 e3 ?_
      refine g_mmax hF mlX3_79 (dAt tX3_greatestLeft_ok 13 rfl rfl) (by omega) (Nat.le_of_ble_eq_true rfl) (by decide) (by decide) ?_
      refine g_p (L' := [some (.ref a), some (.int (mmax x1 v2)), some (.int (x2 + 1))]) (S' := []) hF tX3_greatestLeft_ok 14 2 rfl rfl rfl rfl ?_
      refine g_goto hF (dAt tX3_greatestLeft_ok 16 rfl rfl) rfl ?_
      exact X3_greatestLeft_b4_ok hD hF hS hE fu _ _ H
def X3_greatestLeft_f (a : Nat) (σ : Sig) : Option (Int32) := X3_greatestLeft_b4 a σ FU 0 0
set_option maxRecDepth 4000 in
set_option maxHeartbeats 1000000 in
theorem X3_greatestLeft_ok {D : Nat} {τ : Tau} {nx : Nat} {a : Nat} {σ : Sig} {res : Int32} (hD : 1 ≤ D) (hS : ShX3 τ a) (H : X3_greatestLeft_f a σ = some res) : Ok D 0 0 yX3_greatestLeft cX3_greatestLeft 3 (some .int) [.ref a] (τ, σ, nx) (some (.int res)) (τ, σ, nx) := by
  refine ok_of (by decide +kernel) rfl (Nat.le_of_ble_eq_true rfl) (fun K X hF hE hN L0 hL0 => ?_)
  obtain rfl : [some (.ref a), none, none] = L0 := hL0
  have hF : Fx K X cX3_greatestLeft 3 RX3 D 0 0 := hF
  refine g_p (L' := [some (.ref a), some (.int 0), some (.int 0)]) (S' := []) hF tX3_greatestLeft_ok 0 4 rfl rfl rfl rfl ?_
  exact X3_greatestLeft_b4_ok hD hF hS hE FU _ _ H
def X3_hoursOnlyFor_b4 (a : Nat) (σ : Sig) : Nat → Int32 → Int32 → Int32 → Option (Int32)
  | 0, _, _, _ => none
  | fu + 1, x1, x2, x3 => if (σ a 0) ≤ x3 then (some x2) else ((ld 40 (σ (a + 8)) x3).bind fun v2 => if (v2 &&& (x1 ^^^ (-1))) = 0 then ((ld 40 (σ (a + 3)) x3).bind fun v5 => X3_hoursOnlyFor_b4 a σ fu x1 (x2 + v5) (x3 + 1)) else (X3_hoursOnlyFor_b4 a σ fu x1 x2 (x3 + 1)))
set_option maxRecDepth 4000 in
set_option maxHeartbeats 1000000 in
theorem X3_hoursOnlyFor_b4_ok {K : Kt} {X : Cx} {D : Nat} {τ : Tau} {nx : Nat} {a : Nat} {res : Int32} {σ : Sig}  (hD : 1 ≤ D) (hF : Fx K X cX3_hoursOnlyFor 4 RX3 D 0 0) (hS : ShX3 τ a) (hE : En K X (some .int) 0 0 (some (.int res)) (τ, σ, nx)) : ∀ (fu : Nat) (x1 x2 x3 : Int32), X3_hoursOnlyFor_b4 a σ fu x1 x2 x3 = some res → G K X 4 0 0 4 [some (.ref a), some (.int x1), some (.int x2), some (.int x3)] [] (τ, σ, nx)
  | 0, _, _, _, H => nomatch H
  | fu + 1, x1, x2, x3, H => by
    refine g_p (S' := [.ref a, .int x3]) hF tX3_hoursOnlyFor_ok 4 2 rfl rfl rfl rfl ?_
    refine g_getI hF (dAt tX3_hoursOnlyFor_ok 6 rfl rfl) flX3_42 hS.1 rfl ?_
    obtain ⟨Ht1, Hf1⟩ := oi H
    refine g_icmp_ge hF (dAt tX3_hoursOnlyFor_ok 7 rfl rfl) rfl (fun c1 => ?_) (fun c1 => ?_)
    · have H := Ht1 c1
      refine g_p (S' := [.int x2]) hF tX3_hoursOnlyFor_ok 26 1 rfl rfl rfl rfl ?_
      exact g_iret hF (en_i H hE) (dAt tX3_hoursOnlyFor_ok 27 rfl rfl) (by decide) (by decide)
    · have H := Hf1 c1
      refine g_p (S' := [.ref a]) hF tX3_hoursOnlyFor_ok 8 1 rfl rfl rfl rfl ?_
      refine g_getR hF (dAt tX3_hoursOnlyFor_ok 9 rfl rfl) flX3_33 hS.1 rfl ?_
      refine g_p (S' := [.int x3, .ref (a + 8)]) hF tX3_hoursOnlyFor_ok 10 1 rfl rfl rfl rfl ?_
      obtain ⟨v2, e3, H⟩ := ob H
      refine g_ild hF (dAt tX3_hoursOnlyFor_ok 11 rfl rfl) hS.2.2.2.2.2.2.2.2.1 e3 ?_
      refine g_p (S' := [.int (v2 &&& (x1 ^^^ (-1)))]) hF tX3_hoursOnlyFor_ok 12 4 rfl rfl rfl rfl ?_
      obtain ⟨Ht4, Hf4⟩ := oi H
      refine g_if_ne hF (dAt tX3_hoursOnlyFor_ok 16 rfl rfl) rfl (fun c4 => ?_) (fun c4 => ?_)
      · have H := Hf4 c4
        refine g_p (L' := [some (.ref a), some (.int x1), some (.int x2), some (.int (x3 + 1))]) (S' := []) hF tX3_hoursOnlyFor_ok 24 1 rfl rfl rfl rfl ?_
        refine g_goto hF (dAt tX3_hoursOnlyFor_ok 25 rfl rfl) rfl ?_
        exact X3_hoursOnlyFor_b4_ok hD hF hS hE fu _ _ _ H
      · have H := Ht4 c4
        refine g_p (S' := [.ref a, .int x2]) hF tX3_hoursOnlyFor_ok 17 2 rfl rfl rfl rfl ?_
        refine g_getR hF (dAt tX3_hoursOnlyFor_ok 19 rfl rfl) flX3_18 hS.1 rfl ?_
        refine g_p (S' := [.int x3, .ref (a + 3), .int x2]) hF tX3_hoursOnlyFor_ok 20 1 rfl rfl rfl rfl ?_
        obtain ⟨v5, e6, H⟩ := ob H
        refine g_ild hF (dAt tX3_hoursOnlyFor_ok 21 rfl rfl) hS.2.2.2.1 e6 ?_
        refine g_p (L' := [some (.ref a), some (.int x1), some (.int (x2 + v5)), some (.int (x3 + 1))]) (S' := []) hF tX3_hoursOnlyFor_ok 22 3 rfl rfl rfl rfl ?_
        refine g_goto hF (dAt tX3_hoursOnlyFor_ok 25 rfl rfl) rfl ?_
        exact X3_hoursOnlyFor_b4_ok hD hF hS hE fu _ _ _ H
def X3_hoursOnlyFor_f (a : Nat) (x1 : Int32) (σ : Sig) : Option (Int32) := X3_hoursOnlyFor_b4 a σ FU x1 0 0
set_option maxRecDepth 4000 in
set_option maxHeartbeats 1000000 in
theorem X3_hoursOnlyFor_ok {D : Nat} {τ : Tau} {nx : Nat} {a : Nat} {x1 : Int32} {σ : Sig} {res : Int32} (hD : 1 ≤ D) (hS : ShX3 τ a) (H : X3_hoursOnlyFor_f a x1 σ = some res) : Ok D 0 0 yX3_hoursOnlyFor cX3_hoursOnlyFor 4 (some .int) [.ref a, .int x1] (τ, σ, nx) (some (.int res)) (τ, σ, nx) := by
  refine ok_of (by decide +kernel) rfl (Nat.le_of_ble_eq_true rfl) (fun K X hF hE hN L0 hL0 => ?_)
  obtain rfl : [some (.ref a), some (.int x1), none, none] = L0 := hL0
  have hF : Fx K X cX3_hoursOnlyFor 4 RX3 D 0 0 := hF
  refine g_p (L' := [some (.ref a), some (.int x1), some (.int 0), some (.int 0)]) (S' := []) hF tX3_hoursOnlyFor_ok 0 4 rfl rfl rfl rfl ?_
  exact X3_hoursOnlyFor_b4_ok hD hF hS hE FU _ _ _ H
def X3_bestHours_b13 (a : Nat) (σ : Sig) : Nat → Int32 → Int32 → Int32 → Option (Int32)
  | 0, _, _, _ => none
  | fu + 1, x1, x2, x3 => if (1 <<< (x1 &&& 31)) ≤ x3 then (some x2) else ((X3_hoursOnlyFor_f a x3 σ).bind fun v2 => (J6_bitCount_0f7a4_f x3 σ).bind fun v4 => (X11_upwards_f v2 v4 σ).bind fun v6 => X3_bestHours_b13 a σ fu x1 (mmax x2 v6) (x3 + 1))
set_option maxRecDepth 4000 in
set_option maxHeartbeats 1000000 in
theorem X3_bestHours_b13_ok {K : Kt} {X : Cx} {D : Nat} {τ : Tau} {nx : Nat} {a : Nat} {res : Int32} {σ : Sig}  (hD : 2 ≤ D) (hF : Fx K X cX3_bestHours 4 RX3 D 0 0) (hS : ShX3 τ a) (hE : En K X (some .int) 0 0 (some (.int res)) (τ, σ, nx)) : ∀ (fu : Nat) (x1 x2 x3 : Int32), X3_bestHours_b13 a σ fu x1 x2 x3 = some res → G K X 4 0 0 13 [some (.ref a), some (.int x1), some (.int x2), some (.int x3)] [] (τ, σ, nx)
  | 0, _, _, _, H => nomatch H
  | fu + 1, x1, x2, x3, H => by
    refine g_p (S' := [.int (1 <<< (x1 &&& 31)), .int x3]) hF tX3_bestHours_ok 9 4 rfl rfl rfl rfl ?_
    obtain ⟨Ht1, Hf1⟩ := oi H
    refine g_icmp_ge hF (dAt tX3_bestHours_ok 13 rfl rfl) rfl (fun c1 => ?_) (fun c1 => ?_)
    · have H := Ht1 c1
      refine g_p (S' := [.int x2]) hF tX3_bestHours_ok 25 1 rfl rfl rfl rfl ?_
      exact g_iret hF (en_i H hE) (dAt tX3_bestHours_ok 26 rfl rfl) (by decide) (by decide)
    · have H := Hf1 c1
      refine g_p (S' := [.int x3, .ref a, .int x2]) hF tX3_bestHours_ok 14 3 rfl rfl rfl rfl ?_
      obtain ⟨v2, e3, H⟩ := ob H
      refine g_cV (S := [.int x2]) hF (X3_hoursOnlyFor_ok (Nat.le_refl _) hS e3 K) mbX3_hoursOnlyFor mvX3_hoursOnlyFor mlX3_88 (by omega) (by decide) (dAt tX3_bestHours_ok 17 rfl rfl) hS.1 rfl rfl rfl (Nat.le_of_ble_eq_true rfl) rfl rfl (by decide) (by decide) rfl ?_
      refine g_p (S' := [.int x3, .int v2, .int x2]) hF tX3_bestHours_ok 18 1 rfl rfl rfl rfl ?_
      obtain ⟨v4, e5, H⟩ := ob H
      refine g_cS (S := [.int v2, .int x2]) hF (J6_bitCount_0f7a4_ok (Nat.le_refl _)  e5 K) mbJ6_bitCount_0f7a4 msJ6_bitCount_0f7a4 mlX3_91 (by omega) (by decide) (dAt tX3_bestHours_ok 19 rfl rfl) rfl rfl (Nat.le_of_ble_eq_true rfl) rfl rfl (by decide) (by decide) rfl ?_
      obtain ⟨v6, e7, H⟩ := ob H
      refine g_cSN (S := [.int x2]) hF (X11_upwards_ok (Nat.le_refl _)  e7 K) mbX11_upwards msX11_upwards nlX3_96 (by omega) (by decide) (dAt tX3_bestHours_ok 20 rfl rfl) rfl rfl (Nat.le_of_ble_eq_true rfl) rfl rfl (by decide) (by decide) rfl ?_
      refine g_mmax hF mlX3_79 (dAt tX3_bestHours_ok 21 rfl rfl) (by omega) (Nat.le_of_ble_eq_true rfl) (by decide) (by decide) ?_
      refine g_p (L' := [some (.ref a), some (.int x1), some (.int (mmax x2 v6)), some (.int (x3 + 1))]) (S' := []) hF tX3_bestHours_ok 22 2 rfl rfl rfl rfl ?_
      refine g_goto hF (dAt tX3_bestHours_ok 24 rfl rfl) rfl ?_
      exact X3_bestHours_b13_ok hD hF hS hE fu _ _ _ H
def X3_bestHours_f (a : Nat) (x1 : Int32) (σ : Sig) : Option (Int32) := (X3_greatestLeft_f a σ).bind fun v1 => if v1 = 0 then (some 0) else (X3_bestHours_b13 a σ FU x1 v1 1)
set_option maxRecDepth 4000 in
set_option maxHeartbeats 1000000 in
theorem X3_bestHours_ok {D : Nat} {τ : Tau} {nx : Nat} {a : Nat} {x1 : Int32} {σ : Sig} {res : Int32} (hD : 2 ≤ D) (hS : ShX3 τ a) (H : X3_bestHours_f a x1 σ = some res) : Ok D 0 0 yX3_bestHours cX3_bestHours 4 (some .int) [.ref a, .int x1] (τ, σ, nx) (some (.int res)) (τ, σ, nx) := by
  refine ok_of (by decide +kernel) rfl (Nat.le_of_ble_eq_true rfl) (fun K X hF hE hN L0 hL0 => ?_)
  obtain rfl : [some (.ref a), some (.int x1), none, none] = L0 := hL0
  have hF : Fx K X cX3_bestHours 4 RX3 D 0 0 := hF
  refine g_p (S' := [.ref a]) hF tX3_bestHours_ok 0 1 rfl rfl rfl rfl ?_
  obtain ⟨v1, e2, H⟩ := ob H
  refine g_cV (S := []) hF (X3_greatestLeft_ok (Nat.le_refl _) hS e2 K) mbX3_greatestLeft mvX3_greatestLeft mlX3_85 (by omega) (by decide) (dAt tX3_bestHours_ok 1 rfl rfl) hS.1 rfl rfl rfl (Nat.le_of_ble_eq_true rfl) rfl rfl (by decide) (by decide) rfl ?_
  refine g_p (L' := [some (.ref a), some (.int x1), some (.int v1), none]) (S' := [.int v1]) hF tX3_bestHours_ok 2 2 rfl rfl rfl rfl ?_
  obtain ⟨Ht3, Hf3⟩ := oi H
  refine g_if_ne hF (dAt tX3_bestHours_ok 4 rfl rfl) rfl (fun c3 => ?_) (fun c3 => ?_)
  · have H := Hf3 c3
    refine g_p (L' := [some (.ref a), some (.int x1), some (.int v1), some (.int 1)]) (S' := []) hF tX3_bestHours_ok 7 2 rfl rfl rfl rfl ?_
    exact X3_bestHours_b13_ok hD hF hS hE FU _ _ _ H
  · have H := Ht3 c3
    refine g_p (S' := [.int 0]) hF tX3_bestHours_ok 5 1 rfl rfl rfl rfl ?_
    exact g_iret hF (en_i H hE) (dAt tX3_bestHours_ok 6 rfl rfl) (by decide) (by decide)
def X3_boundHours_b4 (a : Nat) (σ : Sig) : Nat → Int32 → Int32 → Option (Int32)
  | 0, _, _ => none
  | fu + 1, x1, x2 => if (σ a 0) ≤ x2 then ((X3_greatestLeft_f a σ).bind fun v2 => (X3_allHours_f a σ).bind fun v4 => (J6_bitCount_0f7a4_f x1 σ).bind fun v6 => (X11_upwards_f v4 v6 σ).bind fun v8 => some (mmax v2 v8)) else ((ld 40 (σ (a + 3)) x2).bind fun v10 => if v10 ≤ 0 then (X3_boundHours_b4 a σ fu x1 (x2 + 1)) else ((ld 40 (σ (a + 8)) x2).bind fun v13 => X3_boundHours_b4 a σ fu (x1 ||| v13) (x2 + 1)))
set_option maxRecDepth 4000 in
set_option maxHeartbeats 1000000 in
theorem X3_boundHours_b4_ok {K : Kt} {X : Cx} {D : Nat} {τ : Tau} {nx : Nat} {a : Nat} {res : Int32} {σ : Sig}  (hD : 2 ≤ D) (hF : Fx K X cX3_boundHours 3 RX3 D 0 0) (hS : ShX3 τ a) (hE : En K X (some .int) 0 0 (some (.int res)) (τ, σ, nx)) : ∀ (fu : Nat) (x1 x2 : Int32), X3_boundHours_b4 a σ fu x1 x2 = some res → G K X 3 0 0 4 [some (.ref a), some (.int x1), some (.int x2)] [] (τ, σ, nx)
  | 0, _, _, H => nomatch H
  | fu + 1, x1, x2, H => by
    refine g_p (S' := [.ref a, .int x2]) hF tX3_boundHours_ok 4 2 rfl rfl rfl rfl ?_
    refine g_getI hF (dAt tX3_boundHours_ok 6 rfl rfl) flX3_42 hS.1 rfl ?_
    obtain ⟨Ht1, Hf1⟩ := oi H
    refine g_icmp_ge hF (dAt tX3_boundHours_ok 7 rfl rfl) rfl (fun c1 => ?_) (fun c1 => ?_)
    · have H := Ht1 c1
      refine g_p (S' := [.ref a]) hF tX3_boundHours_ok 22 1 rfl rfl rfl rfl ?_
      obtain ⟨v2, e3, H⟩ := ob H
      refine g_cV (S := []) hF (X3_greatestLeft_ok (Nat.le_refl _) hS e3 K) mbX3_greatestLeft mvX3_greatestLeft mlX3_85 (by omega) (by decide) (dAt tX3_boundHours_ok 23 rfl rfl) hS.1 rfl rfl rfl (Nat.le_of_ble_eq_true rfl) rfl rfl (by decide) (by decide) rfl ?_
      refine g_p (S' := [.ref a, .int v2]) hF tX3_boundHours_ok 24 1 rfl rfl rfl rfl ?_
      obtain ⟨v4, e5, H⟩ := ob H
      refine g_cV (S := [.int v2]) hF (X3_allHours_ok (Nat.le_refl _) hS e5 K) mbX3_allHours mvX3_allHours mlX3_99 (by omega) (by decide) (dAt tX3_boundHours_ok 25 rfl rfl) hS.1 rfl rfl rfl (Nat.le_of_ble_eq_true rfl) rfl rfl (by decide) (by decide) rfl ?_
      refine g_p (S' := [.int x1, .int v4, .int v2]) hF tX3_boundHours_ok 26 1 rfl rfl rfl rfl ?_
      obtain ⟨v6, e7, H⟩ := ob H
      refine g_cS (S := [.int v4, .int v2]) hF (J6_bitCount_0f7a4_ok (Nat.le_refl _)  e7 K) mbJ6_bitCount_0f7a4 msJ6_bitCount_0f7a4 mlX3_91 (by omega) (by decide) (dAt tX3_boundHours_ok 27 rfl rfl) rfl rfl (Nat.le_of_ble_eq_true rfl) rfl rfl (by decide) (by decide) rfl ?_
      obtain ⟨v8, e9, H⟩ := ob H
      refine g_cSN (S := [.int v2]) hF (X11_upwards_ok (Nat.le_refl _)  e9 K) mbX11_upwards msX11_upwards nlX3_96 (by omega) (by decide) (dAt tX3_boundHours_ok 28 rfl rfl) rfl rfl (Nat.le_of_ble_eq_true rfl) rfl rfl (by decide) (by decide) rfl ?_
      refine g_mmax hF mlX3_79 (dAt tX3_boundHours_ok 29 rfl rfl) (by omega) (Nat.le_of_ble_eq_true rfl) (by decide) (by decide) ?_
      exact g_iret hF (en_i H hE) (dAt tX3_boundHours_ok 30 rfl rfl) (by decide) (by decide)
    · have H := Hf1 c1
      refine g_p (S' := [.ref a]) hF tX3_boundHours_ok 8 1 rfl rfl rfl rfl ?_
      refine g_getR hF (dAt tX3_boundHours_ok 9 rfl rfl) flX3_18 hS.1 rfl ?_
      refine g_p (S' := [.int x2, .ref (a + 3)]) hF tX3_boundHours_ok 10 1 rfl rfl rfl rfl ?_
      obtain ⟨v10, e11, H⟩ := ob H
      refine g_ild hF (dAt tX3_boundHours_ok 11 rfl rfl) hS.2.2.2.1 e11 ?_
      obtain ⟨Ht12, Hf12⟩ := oi H
      refine g_if_le hF (dAt tX3_boundHours_ok 12 rfl rfl) rfl (fun c12 => ?_) (fun c12 => ?_)
      · have H := Ht12 c12
        refine g_p (L' := [some (.ref a), some (.int x1), some (.int (x2 + 1))]) (S' := []) hF tX3_boundHours_ok 20 1 rfl rfl rfl rfl ?_
        refine g_goto hF (dAt tX3_boundHours_ok 21 rfl rfl) rfl ?_
        exact X3_boundHours_b4_ok hD hF hS hE fu _ _ H
      · have H := Hf12 c12
        refine g_p (S' := [.ref a, .int x1]) hF tX3_boundHours_ok 13 2 rfl rfl rfl rfl ?_
        refine g_getR hF (dAt tX3_boundHours_ok 15 rfl rfl) flX3_33 hS.1 rfl ?_
        refine g_p (S' := [.int x2, .ref (a + 8), .int x1]) hF tX3_boundHours_ok 16 1 rfl rfl rfl rfl ?_
        obtain ⟨v13, e14, H⟩ := ob H
        refine g_ild hF (dAt tX3_boundHours_ok 17 rfl rfl) hS.2.2.2.2.2.2.2.2.1 e14 ?_
        refine g_p (L' := [some (.ref a), some (.int (x1 ||| v13)), some (.int (x2 + 1))]) (S' := []) hF tX3_boundHours_ok 18 3 rfl rfl rfl rfl ?_
        refine g_goto hF (dAt tX3_boundHours_ok 21 rfl rfl) rfl ?_
        exact X3_boundHours_b4_ok hD hF hS hE fu _ _ H
def X3_boundHours_f (a : Nat) (σ : Sig) : Option (Int32) := X3_boundHours_b4 a σ FU 0 0
set_option maxRecDepth 4000 in
set_option maxHeartbeats 1000000 in
theorem X3_boundHours_ok {D : Nat} {τ : Tau} {nx : Nat} {a : Nat} {σ : Sig} {res : Int32} (hD : 2 ≤ D) (hS : ShX3 τ a) (H : X3_boundHours_f a σ = some res) : Ok D 0 0 yX3_boundHours cX3_boundHours 3 (some .int) [.ref a] (τ, σ, nx) (some (.int res)) (τ, σ, nx) := by
  refine ok_of (by decide +kernel) rfl (Nat.le_of_ble_eq_true rfl) (fun K X hF hE hN L0 hL0 => ?_)
  obtain rfl : [some (.ref a), none, none] = L0 := hL0
  have hF : Fx K X cX3_boundHours 3 RX3 D 0 0 := hF
  refine g_p (L' := [some (.ref a), some (.int 0), some (.int 0)]) (S' := []) hF tX3_boundHours_ok 0 4 rfl rfl rfl rfl ?_
  exact X3_boundHours_b4_ok hD hF hS hE FU _ _ H
def X3_aloneHours_b8 (a : Nat) : Nat → Int32 → Int32 → Sig → Option (Int32 × Sig)
  | 0, _, _, _ => none
  | fu + 1, x1, x2, σ => if 12 ≤ x2 then (some (x1, σ)) else ((ld 12 (σ (a + 9)) x2).bind fun v2 => X3_aloneHours_b8 a fu (mmax x1 v2) (x2 + 1) σ)
set_option maxRecDepth 4000 in
set_option maxHeartbeats 1000000 in
theorem X3_aloneHours_b8_ok {K : Kt} {X : Cx} {D : Nat} {τ : Tau} {nx : Nat} {a : Nat} {res : Int32} {rsg : Sig}  (hD : 3 ≤ D) (hF : Fx K X cX3_aloneHours 3 RX3 D 0 0) (hS : ShX3 τ a) (hE : En K X (some .int) 0 0 (some (.int res)) (τ, rsg, nx)) : ∀ (fu : Nat) (x1 x2 : Int32) (σ : Sig), X3_aloneHours_b8 a fu x1 x2 σ = some (res, rsg) → G K X 3 0 0 8 [some (.ref a), some (.int x1), some (.int x2)] [] (τ, σ, nx)
  | 0, _, _, _, H => nomatch H
  | fu + 1, x1, x2, σ, H => by
    refine g_p (S' := [.int 12, .int x2]) hF tX3_aloneHours_ok 6 2 rfl rfl rfl rfl ?_
    obtain ⟨Ht1, Hf1⟩ := oi H
    refine g_icmp_ge hF (dAt tX3_aloneHours_ok 8 rfl rfl) rfl (fun c1 => ?_) (fun c1 => ?_)
    · have H := Ht1 c1
      refine g_p (S' := [.int x1]) hF tX3_aloneHours_ok 18 1 rfl rfl rfl rfl ?_
      exact g_iret hF (en_p H hE) (dAt tX3_aloneHours_ok 19 rfl rfl) (by decide) (by decide)
    · have H := Hf1 c1
      refine g_p (S' := [.ref a, .int x1]) hF tX3_aloneHours_ok 9 2 rfl rfl rfl rfl ?_
      refine g_getR hF (dAt tX3_aloneHours_ok 11 rfl rfl) flX3_36 hS.1 rfl ?_
      refine g_p (S' := [.int x2, .ref (a + 9), .int x1]) hF tX3_aloneHours_ok 12 1 rfl rfl rfl rfl ?_
      obtain ⟨v2, e3, H⟩ := ob H
      refine g_ild hF (dAt tX3_aloneHours_ok 13 rfl rfl) hS.2.2.2.2.2.2.2.2.2.1 e3 ?_
      refine g_mmax hF mlX3_79 (dAt tX3_aloneHours_ok 14 rfl rfl) (by omega) (Nat.le_of_ble_eq_true rfl) (by decide) (by decide) ?_
      refine g_p (L' := [some (.ref a), some (.int (mmax x1 v2)), some (.int (x2 + 1))]) (S' := []) hF tX3_aloneHours_ok 15 2 rfl rfl rfl rfl ?_
      refine g_goto hF (dAt tX3_aloneHours_ok 17 rfl rfl) rfl ?_
      exact X3_aloneHours_b8_ok hD hF hS hE fu _ _ _ H
def X3_aloneHours_f (a : Nat) (σ : Sig) : Option (Int32 × Sig) := (X3_tally_f a σ).bind fun s1 => X3_aloneHours_b8 a FU 0 0 s1
set_option maxRecDepth 4000 in
set_option maxHeartbeats 1000000 in
theorem X3_aloneHours_ok {D : Nat} {τ : Tau} {nx : Nat} {a : Nat} {σ : Sig} {res : Int32} {rsg : Sig} (hD : 3 ≤ D) (hS : ShX3 τ a) (H : X3_aloneHours_f a σ = some (res, rsg)) : Ok D 0 0 yX3_aloneHours cX3_aloneHours 3 (some .int) [.ref a] (τ, σ, nx) (some (.int res)) (τ, rsg, nx) := by
  refine ok_of (by decide +kernel) rfl (Nat.le_of_ble_eq_true rfl) (fun K X hF hE hN L0 hL0 => ?_)
  obtain rfl : [some (.ref a), none, none] = L0 := hL0
  have hF : Fx K X cX3_aloneHours 3 RX3 D 0 0 := hF
  refine g_p (S' := [.ref a]) hF tX3_aloneHours_ok 0 1 rfl rfl rfl rfl ?_
  obtain ⟨s1, e2, H⟩ := ob H
  refine g_cV (S := []) hF (X3_tally_ok (Nat.le_refl _) hS e2 K) mbX3_tally mvX3_tally mlX3_102 (by omega) (by decide) (dAt tX3_aloneHours_ok 1 rfl rfl) hS.1 rfl rfl rfl (Nat.le_of_ble_eq_true rfl) rfl rfl (by decide) (by decide) rfl ?_
  refine g_p (L' := [some (.ref a), some (.int 0), some (.int 0)]) (S' := []) hF tX3_aloneHours_ok 2 4 rfl rfl rfl rfl ?_
  exact X3_aloneHours_b8_ok hD hF hS hE FU _ _ _ H
end
section
/-! SilenceForMoney$Text -/
def X7_deedOf_f (a : Nat) (n1 : Nat) (n2 : Nat) (n3 : Nat) (x1 : Int32) (σ : Sig) : Option (Int32) := if x1 < 0 then (some 0) else (if (Int32.ofNat n2) ≤ x1 then (some 0) else ((ld n2 (σ (a + 2)) x1).bind fun v3 => some v3))
set_option maxRecDepth 4000 in
set_option maxHeartbeats 1000000 in
theorem X7_deedOf_ok {D : Nat} {τ : Tau} {nx : Nat} {a : Nat} {n1 : Nat} {n2 : Nat} {n3 : Nat} {x1 : Int32} {σ : Sig} {res : Int32} (hD : 1 ≤ D) (hS : ShX7 τ a n1 n2 n3) (H : X7_deedOf_f a n1 n2 n3 x1 σ = some res) : Ok D 0 0 yX7_deedOf cX7_deedOf 2 (some .int) [.ref a, .int x1] (τ, σ, nx) (some (.int res)) (τ, σ, nx) := by
  refine ok_of (by decide +kernel) rfl (Nat.le_of_ble_eq_true rfl) (fun K X hF hE hN L0 hL0 => ?_)
  obtain rfl : [some (.ref a), some (.int x1)] = L0 := hL0
  have hF : Fx K X cX7_deedOf 2 RX7 D 0 0 := hF
  refine g_p (S' := [.int x1]) hF tX7_deedOf_ok 0 1 rfl rfl rfl rfl ?_
  obtain ⟨Ht1, Hf1⟩ := oi H
  refine g_if_lt hF (dAt tX7_deedOf_ok 1 rfl rfl) rfl (fun c1 => ?_) (fun c1 => ?_)
  · have H := Ht1 c1
    refine g_p (S' := [.int 0]) hF tX7_deedOf_ok 12 1 rfl rfl rfl rfl ?_
    exact g_iret hF (en_i H hE) (dAt tX7_deedOf_ok 13 rfl rfl) (by decide) (by decide)
  · have H := Hf1 c1
    refine g_p (S' := [.ref a, .int x1]) hF tX7_deedOf_ok 2 2 rfl rfl rfl rfl ?_
    refine g_getR hF (dAt tX7_deedOf_ok 4 rfl rfl) flX7_19 hS.1 rfl ?_
    refine g_alen hF (dAt tX7_deedOf_ok 5 rfl rfl) hS.2.2.1 rfl ?_
    obtain ⟨Ht2, Hf2⟩ := oi H
    refine g_icmp_ge hF (dAt tX7_deedOf_ok 6 rfl rfl) rfl (fun c2 => ?_) (fun c2 => ?_)
    · have H := Ht2 c2
      refine g_p (S' := [.int 0]) hF tX7_deedOf_ok 12 1 rfl rfl rfl rfl ?_
      exact g_iret hF (en_i H hE) (dAt tX7_deedOf_ok 13 rfl rfl) (by decide) (by decide)
    · have H := Hf2 c2
      refine g_p (S' := [.ref a]) hF tX7_deedOf_ok 7 1 rfl rfl rfl rfl ?_
      refine g_getR hF (dAt tX7_deedOf_ok 8 rfl rfl) flX7_19 hS.1 rfl ?_
      refine g_p (S' := [.int x1, .ref (a + 2)]) hF tX7_deedOf_ok 9 1 rfl rfl rfl rfl ?_
      obtain ⟨v3, e4, H⟩ := ob H
      refine g_ild hF (dAt tX7_deedOf_ok 10 rfl rfl) hS.2.2.1 e4 ?_
      refine g_goto hF (dAt tX7_deedOf_ok 11 rfl rfl) rfl ?_
      exact g_iret hF (en_i H hE) (dAt tX7_deedOf_ok 13 rfl rfl) (by decide) (by decide)
def X7_valueAt_f (r0 : Nat) (n0_ : Nat) (x1 : Int32) (σ : Sig) : Option (Int32) := if x1 < 0 then (some 0) else (if (Int32.ofNat n0_) ≤ x1 then (some 0) else ((ld n0_ (σ r0) x1).bind fun v3 => some v3))
set_option maxRecDepth 4000 in
set_option maxHeartbeats 1000000 in
theorem X7_valueAt_ok {D : Nat} {τ : Tau} {nx : Nat} {r0 : Nat} {n0_ : Nat} {x1 : Int32} {σ : Sig} {res : Int32} (hD : 1 ≤ D) (hr0 : τ r0 = some (.inr (.inl n0_))) (H : X7_valueAt_f r0 n0_ x1 σ = some res) : Ok D 0 0 yX7_valueAt cX7_valueAt 2 (some .int) [.ref r0, .int x1] (τ, σ, nx) (some (.int res)) (τ, σ, nx) := by
  refine ok_of (by decide +kernel) rfl (Nat.le_of_ble_eq_true rfl) (fun K X hF hE hN L0 hL0 => ?_)
  obtain rfl : [some (.ref r0), some (.int x1)] = L0 := hL0
  have hF : Fx K X cX7_valueAt 2 RX7 D 0 0 := hF
  refine g_p (S' := [.int x1]) hF tX7_valueAt_ok 0 1 rfl rfl rfl rfl ?_
  obtain ⟨Ht1, Hf1⟩ := oi H
  refine g_if_lt hF (dAt tX7_valueAt_ok 1 rfl rfl) rfl (fun c1 => ?_) (fun c1 => ?_)
  · have H := Ht1 c1
    refine g_p (S' := [.int 0]) hF tX7_valueAt_ok 10 1 rfl rfl rfl rfl ?_
    exact g_iret hF (en_i H hE) (dAt tX7_valueAt_ok 11 rfl rfl) (by decide) (by decide)
  · have H := Hf1 c1
    refine g_p (S' := [.ref r0, .int x1]) hF tX7_valueAt_ok 2 2 rfl rfl rfl rfl ?_
    refine g_alen hF (dAt tX7_valueAt_ok 4 rfl rfl) hr0 rfl ?_
    obtain ⟨Ht2, Hf2⟩ := oi H
    refine g_icmp_ge hF (dAt tX7_valueAt_ok 5 rfl rfl) rfl (fun c2 => ?_) (fun c2 => ?_)
    · have H := Ht2 c2
      refine g_p (S' := [.int 0]) hF tX7_valueAt_ok 10 1 rfl rfl rfl rfl ?_
      exact g_iret hF (en_i H hE) (dAt tX7_valueAt_ok 11 rfl rfl) (by decide) (by decide)
    · have H := Hf2 c2
      refine g_p (S' := [.int x1, .ref r0]) hF tX7_valueAt_ok 6 2 rfl rfl rfl rfl ?_
      obtain ⟨v3, e4, H⟩ := ob H
      refine g_ild hF (dAt tX7_valueAt_ok 8 rfl rfl) hr0 e4 ?_
      refine g_goto hF (dAt tX7_valueAt_ok 9 rfl rfl) rfl ?_
      exact g_iret hF (en_i H hE) (dAt tX7_valueAt_ok 11 rfl rfl) (by decide) (by decide)
def X7_join_f (x0 x1 x2 : Int32) (σ : Sig) : Option (Int32) := if x0 = 2 then (some (x1 + x2)) else if x0 = 3 then (some (x1 - x2)) else if x0 = 4 then (some (x1 * x2)) else if x0 = 5 then (some 0) else if x0 = 6 then (if x2 ≤ x1 then (some 0) else (some 1)) else if x0 = 7 then (if x1 = x2 then (some 1) else (some 0)) else if x0 = 8 then (if x1 ≤ x2 then (some 0) else (some 1)) else if x0 = 9 then (some 0) else if x0 = 10 then (some (x1 &&& x2)) else if x0 = 11 then (some (x1 ||| x2)) else (some 0)
set_option maxRecDepth 4000 in
set_option maxHeartbeats 1000000 in
theorem X7_join_ok {D : Nat} {τ : Tau} {nx : Nat} {x0 x1 x2 : Int32} {σ : Sig} {res : Int32} (hD : 1 ≤ D) (H : X7_join_f x0 x1 x2 σ = some res) : Ok D 0 0 yX7_join cX7_join 3 (some .int) [.int x0, .int x1, .int x2] (τ, σ, nx) (some (.int res)) (τ, σ, nx) := by
  refine ok_of (by decide +kernel) rfl (Nat.le_of_ble_eq_true rfl) (fun K X hF hE hN L0 hL0 => ?_)
  obtain rfl : [some (.int x0), some (.int x1), some (.int x2)] = L0 := hL0
  have hF : Fx K X cX7_join 3 RX7 D 0 0 := hF
  refine g_p (S' := [.int x0]) hF tX7_join_ok 0 1 rfl rfl rfl rfl ?_
  obtain ⟨Ht1_0, Hf1_0⟩ := oi H
  by_cases c1_0 : x0 = 2
  · have H := Ht1_0 c1_0
    refine g_tsw (c := 2) hF (dAt tX7_join_ok 1 rfl rfl) c1_0 (by decide) (by decide) rfl rfl ?_
    refine g_p (S' := [.int (x1 + x2)]) hF tX7_join_ok 2 3 rfl rfl rfl rfl ?_
    exact g_iret hF (en_i H hE) (dAt tX7_join_ok 5 rfl rfl) (by decide) (by decide)
  have H := Hf1_0 c1_0
  obtain ⟨Ht1_1, Hf1_1⟩ := oi H
  by_cases c1_1 : x0 = 3
  · have H := Ht1_1 c1_1
    refine g_tsw (c := 3) hF (dAt tX7_join_ok 1 rfl rfl) c1_1 (by decide) (by decide) rfl rfl ?_
    refine g_p (S' := [.int (x1 - x2)]) hF tX7_join_ok 6 3 rfl rfl rfl rfl ?_
    exact g_iret hF (en_i H hE) (dAt tX7_join_ok 9 rfl rfl) (by decide) (by decide)
  have H := Hf1_1 c1_1
  obtain ⟨Ht1_2, Hf1_2⟩ := oi H
  by_cases c1_2 : x0 = 4
  · have H := Ht1_2 c1_2
    refine g_tsw (c := 4) hF (dAt tX7_join_ok 1 rfl rfl) c1_2 (by decide) (by decide) rfl rfl ?_
    refine g_p (S' := [.int (x1 * x2)]) hF tX7_join_ok 10 3 rfl rfl rfl rfl ?_
    exact g_iret hF (en_i H hE) (dAt tX7_join_ok 13 rfl rfl) (by decide) (by decide)
  have H := Hf1_2 c1_2
  obtain ⟨Ht1_3, Hf1_3⟩ := oi H
  by_cases c1_3 : x0 = 5
  · have H := Ht1_3 c1_3
    refine g_tsw (c := 5) hF (dAt tX7_join_ok 1 rfl rfl) c1_3 (by decide) (by decide) rfl rfl ?_
    refine g_p (S' := [.int 0]) hF tX7_join_ok 43 1 rfl rfl rfl rfl ?_
    exact g_iret hF (en_i H hE) (dAt tX7_join_ok 44 rfl rfl) (by decide) (by decide)
  have H := Hf1_3 c1_3
  obtain ⟨Ht1_4, Hf1_4⟩ := oi H
  by_cases c1_4 : x0 = 6
  · have H := Ht1_4 c1_4
    refine g_tsw (c := 6) hF (dAt tX7_join_ok 1 rfl rfl) c1_4 (by decide) (by decide) rfl rfl ?_
    refine g_p (S' := [.int x2, .int x1]) hF tX7_join_ok 14 2 rfl rfl rfl rfl ?_
    obtain ⟨Ht2, Hf2⟩ := oi H
    refine g_icmp_ge hF (dAt tX7_join_ok 16 rfl rfl) rfl (fun c2 => ?_) (fun c2 => ?_)
    · have H := Ht2 c2
      refine g_p (S' := [.int 0]) hF tX7_join_ok 19 1 rfl rfl rfl rfl ?_
      exact g_iret hF (en_i H hE) (dAt tX7_join_ok 20 rfl rfl) (by decide) (by decide)
    · have H := Hf2 c2
      refine g_p (S' := [.int 1]) hF tX7_join_ok 17 1 rfl rfl rfl rfl ?_
      refine g_goto hF (dAt tX7_join_ok 18 rfl rfl) rfl ?_
      exact g_iret hF (en_i H hE) (dAt tX7_join_ok 20 rfl rfl) (by decide) (by decide)
  have H := Hf1_4 c1_4
  obtain ⟨Ht1_5, Hf1_5⟩ := oi H
  by_cases c1_5 : x0 = 7
  · have H := Ht1_5 c1_5
    refine g_tsw (c := 7) hF (dAt tX7_join_ok 1 rfl rfl) c1_5 (by decide) (by decide) rfl rfl ?_
    refine g_p (S' := [.int x2, .int x1]) hF tX7_join_ok 21 2 rfl rfl rfl rfl ?_
    obtain ⟨Ht3, Hf3⟩ := oi H
    refine g_icmp_ne hF (dAt tX7_join_ok 23 rfl rfl) rfl (fun c3 => ?_) (fun c3 => ?_)
    · have H := Hf3 c3
      refine g_p (S' := [.int 0]) hF tX7_join_ok 26 1 rfl rfl rfl rfl ?_
      exact g_iret hF (en_i H hE) (dAt tX7_join_ok 27 rfl rfl) (by decide) (by decide)
    · have H := Ht3 c3
      refine g_p (S' := [.int 1]) hF tX7_join_ok 24 1 rfl rfl rfl rfl ?_
      refine g_goto hF (dAt tX7_join_ok 25 rfl rfl) rfl ?_
      exact g_iret hF (en_i H hE) (dAt tX7_join_ok 27 rfl rfl) (by decide) (by decide)
  have H := Hf1_5 c1_5
  obtain ⟨Ht1_6, Hf1_6⟩ := oi H
  by_cases c1_6 : x0 = 8
  · have H := Ht1_6 c1_6
    refine g_tsw (c := 8) hF (dAt tX7_join_ok 1 rfl rfl) c1_6 (by decide) (by decide) rfl rfl ?_
    refine g_p (S' := [.int x2, .int x1]) hF tX7_join_ok 28 2 rfl rfl rfl rfl ?_
    obtain ⟨Ht4, Hf4⟩ := oi H
    refine g_icmp_le hF (dAt tX7_join_ok 30 rfl rfl) rfl (fun c4 => ?_) (fun c4 => ?_)
    · have H := Ht4 c4
      refine g_p (S' := [.int 0]) hF tX7_join_ok 33 1 rfl rfl rfl rfl ?_
      exact g_iret hF (en_i H hE) (dAt tX7_join_ok 34 rfl rfl) (by decide) (by decide)
    · have H := Hf4 c4
      refine g_p (S' := [.int 1]) hF tX7_join_ok 31 1 rfl rfl rfl rfl ?_
      refine g_goto hF (dAt tX7_join_ok 32 rfl rfl) rfl ?_
      exact g_iret hF (en_i H hE) (dAt tX7_join_ok 34 rfl rfl) (by decide) (by decide)
  have H := Hf1_6 c1_6
  obtain ⟨Ht1_7, Hf1_7⟩ := oi H
  by_cases c1_7 : x0 = 9
  · have H := Ht1_7 c1_7
    refine g_tsw (c := 9) hF (dAt tX7_join_ok 1 rfl rfl) c1_7 (by decide) (by decide) rfl rfl ?_
    refine g_p (S' := [.int 0]) hF tX7_join_ok 43 1 rfl rfl rfl rfl ?_
    exact g_iret hF (en_i H hE) (dAt tX7_join_ok 44 rfl rfl) (by decide) (by decide)
  have H := Hf1_7 c1_7
  obtain ⟨Ht1_8, Hf1_8⟩ := oi H
  by_cases c1_8 : x0 = 10
  · have H := Ht1_8 c1_8
    refine g_tsw (c := 10) hF (dAt tX7_join_ok 1 rfl rfl) c1_8 (by decide) (by decide) rfl rfl ?_
    refine g_p (S' := [.int (x1 &&& x2)]) hF tX7_join_ok 35 3 rfl rfl rfl rfl ?_
    exact g_iret hF (en_i H hE) (dAt tX7_join_ok 38 rfl rfl) (by decide) (by decide)
  have H := Hf1_8 c1_8
  obtain ⟨Ht1_9, Hf1_9⟩ := oi H
  by_cases c1_9 : x0 = 11
  · have H := Ht1_9 c1_9
    refine g_tsw (c := 11) hF (dAt tX7_join_ok 1 rfl rfl) c1_9 (by decide) (by decide) rfl rfl ?_
    refine g_p (S' := [.int (x1 ||| x2)]) hF tX7_join_ok 39 3 rfl rfl rfl rfl ?_
    exact g_iret hF (en_i H hE) (dAt tX7_join_ok 42 rfl rfl) (by decide) (by decide)
  have H := Hf1_9 c1_9
  refine g_tswD hF (dAt tX7_join_ok 1 rfl rfl) (tsw_l 2 11 10 [2, 3, 4, 5, 6, 7, 8, 9, 10, 11] (al1 c1_0 (al1 c1_1 (al1 c1_2 (al1 c1_3 (al1 c1_4 (al1 c1_5 (al1 c1_6 (al1 c1_7 (al1 c1_8 (al1 c1_9 al0)))))))))) (by decide) (by decide)) rfl ?_
  refine g_p (S' := [.int 0]) hF tX7_join_ok 43 1 rfl rfl rfl rfl ?_
  exact g_iret hF (en_i H hE) (dAt tX7_join_ok 44 rfl rfl) (by decide) (by decide)
def X7_isSo_b194 (a : Nat) (n1 : Nat) (n2 : Nat) (n3 : Nat) (r3 : Nat) (n3_ : Nat) (r4 : Nat) (n4_ : Nat) (x5 : Int32) (σ : Sig) : Option (Int32 × Sig) := if x5 < 1 then (some (0, σ)) else ((ld n4_ (σ r4) 0).bind fun v2 => if v2 = 0 then (some (0, σ)) else (some (1, σ)))
set_option maxRecDepth 4000 in
set_option maxHeartbeats 1000000 in
theorem X7_isSo_b194_ok {K : Kt} {X : Cx} {D : Nat} {τ : Tau} {nx : Nat} {a : Nat} {n1 : Nat} {n2 : Nat} {n3 : Nat} {r3 : Nat} {n3_ : Nat} {r4 : Nat} {n4_ : Nat} {res : Int32} {rsg : Sig}  (hD : 2 ≤ D) (hF : Fx K X cX7_isSo 9 RX7 D 0 0) (hS : ShX7 τ a n1 n2 n3) (hr3 : τ r3 = some (.inr (.inl n3_))) (hr4 : τ r4 = some (.inr (.inl n4_))) (hE : En K X (some .boolean) 0 0 (some (.int res)) (τ, rsg, nx)) {x5 : Int32} {σ : Sig} (H : X7_isSo_b194 a n1 n2 n3 r3 n3_ r4 n4_ x5 σ = some (res, rsg)) : G K X 9 0 0 194 [none, none, none, none, some (.ref r4), some (.int x5), none, none, none] [] (τ, σ, nx) := by
  refine g_p (S' := [.int 1, .int x5]) hF tX7_isSo_ok 105 2 rfl rfl rfl rfl ?_
  obtain ⟨Ht1, Hf1⟩ := oi H
  refine g_icmp_lt hF (dAt tX7_isSo_ok 107 rfl rfl) rfl (fun c1 => ?_) (fun c1 => ?_)
  · have H := Ht1 c1
    refine g_p (S' := [.int 0]) hF tX7_isSo_ok 114 1 rfl rfl rfl rfl ?_
    exact g_zret hF (en_p H hE) (Or.inl rfl) (dAt tX7_isSo_ok 115 rfl rfl) (by decide) (by decide)
  · have H := Hf1 c1
    refine g_p (S' := [.int 0, .ref r4]) hF tX7_isSo_ok 108 2 rfl rfl rfl rfl ?_
    obtain ⟨v2, e3, H⟩ := ob H
    refine g_ild hF (dAt tX7_isSo_ok 110 rfl rfl) hr4 e3 ?_
    obtain ⟨Ht4, Hf4⟩ := oi H
    refine g_if_eq hF (dAt tX7_isSo_ok 111 rfl rfl) rfl (fun c4 => ?_) (fun c4 => ?_)
    · have H := Ht4 c4
      refine g_p (S' := [.int 0]) hF tX7_isSo_ok 114 1 rfl rfl rfl rfl ?_
      exact g_zret hF (en_p H hE) (Or.inl rfl) (dAt tX7_isSo_ok 115 rfl rfl) (by decide) (by decide)
    · have H := Hf4 c4
      refine g_p (S' := [.int 1]) hF tX7_isSo_ok 112 1 rfl rfl rfl rfl ?_
      refine g_goto hF (dAt tX7_isSo_ok 113 rfl rfl) rfl ?_
      exact g_zret hF (en_p H hE) (Or.inr rfl) (dAt tX7_isSo_ok 115 rfl rfl) (by decide) (by decide)
def X7_isSo_b84 (a : Nat) (n1 : Nat) (n2 : Nat) (n3 : Nat) (r3 : Nat) (n3_ : Nat) (r4 : Nat) (n4_ : Nat) (k6 : Int32 → Int32 → Int32 → Sig → Option (Int32 × Sig)) (x2 x5 x6 y0 y1 : Int32) (σ : Sig) : Option (Int32 × Sig) := (st n4_ σ r4 y1 y0).bind fun s1 => k6 x2 (x5 + 1) (x6 + 1) s1
set_option maxRecDepth 4000 in
set_option maxHeartbeats 1000000 in
theorem X7_isSo_b84_ok {K : Kt} {X : Cx} {D : Nat} {τ : Tau} {nx : Nat} {a : Nat} {n1 : Nat} {n2 : Nat} {n3 : Nat} {r3 : Nat} {n3_ : Nat} {r4 : Nat} {n4_ : Nat} {res : Int32} {rsg : Sig}  (hD : 2 ≤ D) (hF : Fx K X cX7_isSo 9 RX7 D 0 0) (hS : ShX7 τ a n1 n2 n3) (hr3 : τ r3 = some (.inr (.inl n3_))) (hr4 : τ r4 = some (.inr (.inl n4_))) (hE : En K X (some .boolean) 0 0 (some (.int res)) (τ, rsg, nx)) {k6 : Int32 → Int32 → Int32 → Sig → Option (Int32 × Sig)} (hk6 : ∀ (x2 x5 x6 : Int32) (σ : Sig), k6 x2 x5 x6 σ = some (res, rsg) → G K X 9 0 0 6 [some (.ref a), none, some (.int x2), some (.ref r3), some (.ref r4), some (.int x5), some (.int x6), none, none] [] (τ, σ, nx)) {x2 x5 x6 y0 y1 : Int32} {σ : Sig} (H : X7_isSo_b84 a n1 n2 n3 r3 n3_ r4 n4_ k6 x2 x5 x6 y0 y1 σ = some (res, rsg)) : G K X 9 0 0 84 [some (.ref a), none, some (.int x2), some (.ref r3), some (.ref r4), some (.int x5), some (.int x6), none, none] [.int y0, .int y1, .ref r4] (τ, σ, nx) := by
  obtain ⟨s1, e2, H⟩ := ob H
  refine g_ist hF (dAt tX7_isSo_ok 44 rfl rfl) hr4 e2 ?_
  refine g_p (L' := [some (.ref a), none, some (.int x2), some (.ref r3), some (.ref r4), some (.int (x5 + 1)), some (.int x6), none, none]) (S' := []) hF tX7_isSo_ok 45 1 rfl rfl rfl rfl ?_
  refine g_goto hF (dAt tX7_isSo_ok 46 rfl rfl) rfl ?_
  refine g_p (L' := [some (.ref a), none, some (.int x2), some (.ref r3), some (.ref r4), some (.int (x5 + 1)), some (.int (x6 + 1)), none, none]) (S' := []) hF tX7_isSo_ok 103 1 rfl rfl rfl rfl ?_
  refine g_goto hF (dAt tX7_isSo_ok 104 rfl rfl) rfl ?_
  exact hk6 _ _ _ _ H
def X7_isSo_b56 (a : Nat) (n1 : Nat) (n2 : Nat) (n3 : Nat) (r3 : Nat) (n3_ : Nat) (r4 : Nat) (n4_ : Nat) (k6 : Int32 → Int32 → Int32 → Sig → Option (Int32 × Sig)) (x2 x5 x6 x7 x8 : Int32) (σ : Sig) : Option (Int32 × Sig) := if (Int32.ofNat n4_) ≤ x5 then (k6 x2 x5 (x6 + 1) σ) else (if x7 = 0 then (X7_isSo_b84 a n1 n2 n3 r3 n3_ r4 n4_ k6 x2 x5 x6 x8 x5 σ) else ((X7_valueAt_f r3 n3_ x8 σ).bind fun v3 => X7_isSo_b84 a n1 n2 n3 r3 n3_ r4 n4_ k6 x2 x5 x6 v3 x5 σ))
set_option maxRecDepth 4000 in
set_option maxHeartbeats 1000000 in
theorem X7_isSo_b56_ok {K : Kt} {X : Cx} {D : Nat} {τ : Tau} {nx : Nat} {a : Nat} {n1 : Nat} {n2 : Nat} {n3 : Nat} {r3 : Nat} {n3_ : Nat} {r4 : Nat} {n4_ : Nat} {res : Int32} {rsg : Sig}  (hD : 2 ≤ D) (hF : Fx K X cX7_isSo 9 RX7 D 0 0) (hS : ShX7 τ a n1 n2 n3) (hr3 : τ r3 = some (.inr (.inl n3_))) (hr4 : τ r4 = some (.inr (.inl n4_))) (hE : En K X (some .boolean) 0 0 (some (.int res)) (τ, rsg, nx)) {k6 : Int32 → Int32 → Int32 → Sig → Option (Int32 × Sig)} (hk6 : ∀ (x2 x5 x6 : Int32) (σ : Sig), k6 x2 x5 x6 σ = some (res, rsg) → G K X 9 0 0 6 [some (.ref a), none, some (.int x2), some (.ref r3), some (.ref r4), some (.int x5), some (.int x6), none, none] [] (τ, σ, nx)) {x2 x5 x6 x7 x8 : Int32} {σ : Sig} (H : X7_isSo_b56 a n1 n2 n3 r3 n3_ r4 n4_ k6 x2 x5 x6 x7 x8 σ = some (res, rsg)) : G K X 9 0 0 56 [some (.ref a), none, some (.int x2), some (.ref r3), some (.ref r4), some (.int x5), some (.int x6), some (.int x7), some (.int x8)] [] (τ, σ, nx) := by
  refine g_p (S' := [.ref r4, .int x5]) hF tX7_isSo_ok 31 2 rfl rfl rfl rfl ?_
  refine g_alen hF (dAt tX7_isSo_ok 33 rfl rfl) hr4 rfl ?_
  obtain ⟨Ht1, Hf1⟩ := oi H
  refine g_icmp_ge hF (dAt tX7_isSo_ok 34 rfl rfl) rfl (fun c1 => ?_) (fun c1 => ?_)
  · have H := Ht1 c1
    refine g_p (L' := [some (.ref a), none, some (.int x2), some (.ref r3), some (.ref r4), some (.int x5), some (.int (x6 + 1)), some (.int x7), some (.int x8)]) (S' := []) hF tX7_isSo_ok 103 1 rfl rfl rfl rfl ?_
    refine g_goto hF (dAt tX7_isSo_ok 104 rfl rfl) rfl ?_
    refine g_m [true, false, true, true, true, true, true, false, false] rfl ?_
    exact hk6 _ _ _ _ H
  · have H := Hf1 c1
    refine g_p (S' := [.int x7, .int x5, .ref r4]) hF tX7_isSo_ok 35 3 rfl rfl rfl rfl ?_
    obtain ⟨Ht2, Hf2⟩ := oi H
    refine g_if_ne hF (dAt tX7_isSo_ok 38 rfl rfl) rfl (fun c2 => ?_) (fun c2 => ?_)
    · have H := Hf2 c2
      refine g_p (S' := [.int x8, .ref r3, .int x5, .ref r4]) hF tX7_isSo_ok 41 2 rfl rfl rfl rfl ?_
      obtain ⟨v3, e4, H⟩ := ob H
      refine g_cS (S := [.int x5, .ref r4]) hF (X7_valueAt_ok (Nat.le_refl _) hr3 e4 K) mbX7_valueAt msX7_valueAt mlX7_29 (by omega) (by decide) (dAt tX7_isSo_ok 43 rfl rfl) rfl rfl (Nat.le_of_ble_eq_true rfl) rfl rfl (by decide) (by decide) rfl ?_
      refine g_m [true, false, true, true, true, true, true, false, false] rfl ?_
      exact X7_isSo_b84_ok hD hF hS hr3 hr4 hE hk6 H
    · have H := Ht2 c2
      refine g_p (S' := [.int x8, .int x5, .ref r4]) hF tX7_isSo_ok 39 1 rfl rfl rfl rfl ?_
      refine g_goto hF (dAt tX7_isSo_ok 40 rfl rfl) rfl ?_
      refine g_m [true, false, true, true, true, true, true, false, false] rfl ?_
      exact X7_isSo_b84_ok hD hF hS hr3 hr4 hE hk6 H
def X7_isSo_b6 (a : Nat) (n1 : Nat) (n2 : Nat) (n3 : Nat) (r3 : Nat) (n3_ : Nat) (r4 : Nat) (n4_ : Nat) : Nat → Int32 → Int32 → Int32 → Sig → Option (Int32 × Sig)
  | 0, _, _, _, _ => none
  | fu + 1, x2, x5, x6, σ => if x2 ≤ x6 then (X7_isSo_b194 a n1 n2 n3 r3 n3_ r4 n4_ x5 σ) else (if (Int32.ofNat n3) ≤ x6 then (X7_isSo_b194 a n1 n2 n3 r3 n3_ r4 n4_ x5 σ) else ((ld n3 (σ (a + 3)) x6).bind fun v3 => (ld n3 (σ (a + 3)) x6).bind fun v5 => if (v3 &&& 15) = 0 then (X7_isSo_b56 a n1 n2 n3 r3 n3_ r4 n4_ (X7_isSo_b6 a n1 n2 n3 r3 n3_ r4 n4_ fu) x2 x5 x6 (v3 &&& 15) (v5 >>> (4 &&& 31)) σ) else (if (v3 &&& 15) = 1 then (X7_isSo_b56 a n1 n2 n3 r3 n3_ r4 n4_ (X7_isSo_b6 a n1 n2 n3 r3 n3_ r4 n4_ fu) x2 x5 x6 (v3 &&& 15) (v5 >>> (4 &&& 31)) σ) else (if (v3 &&& 15) = 5 then (if x5 < 1 then (X7_isSo_b6 a n1 n2 n3 r3 n3_ r4 n4_ fu x2 x5 (x6 + 1) σ) else (if (v5 >>> (4 &&& 31)) ≤ 0 then (X7_isSo_b6 a n1 n2 n3 r3 n3_ r4 n4_ fu x2 x5 (x6 + 1) σ) else ((ld n4_ (σ r4) (x5 - 1)).bind fun v27 => if (v5 >>> (4 &&& 31)) = 0 then none else ((st n4_ σ r4 (x5 - 1) (v27 / (v5 >>> (4 &&& 31)))).bind fun s30 => X7_isSo_b6 a n1 n2 n3 r3 n3_ r4 n4_ fu x2 x5 (x6 + 1) s30)))) else (if (v3 &&& 15) = 9 then (if x5 < 1 then (X7_isSo_b6 a n1 n2 n3 r3 n3_ r4 n4_ fu x2 x5 (x6 + 1) σ) else ((ld n4_ (σ r4) (x5 - 1)).bind fun v21 => (st n4_ σ r4 (x5 - 1) (1 - v21)).bind fun s23 => X7_isSo_b6 a n1 n2 n3 r3 n3_ r4 n4_ fu x2 x5 (x6 + 1) s23)) else (if x5 < 2 then (X7_isSo_b6 a n1 n2 n3 r3 n3_ r4 n4_ fu x2 x5 (x6 + 1) σ) else ((ld n4_ (σ r4) ((x5 + (-1)) - 1)).bind fun v12 => (ld n4_ (σ r4) (x5 + (-1))).bind fun v14 => (X7_join_f (v3 &&& 15) v12 v14 σ).bind fun v16 => (st n4_ σ r4 ((x5 + (-1)) - 1) v16).bind fun s18 => X7_isSo_b6 a n1 n2 n3 r3 n3_ r4 n4_ fu x2 (x5 + (-1)) (x6 + 1) s18)))))))
set_option maxRecDepth 4000 in
set_option maxHeartbeats 1000000 in
theorem X7_isSo_b6_ok {K : Kt} {X : Cx} {D : Nat} {τ : Tau} {nx : Nat} {a : Nat} {n1 : Nat} {n2 : Nat} {n3 : Nat} {r3 : Nat} {n3_ : Nat} {r4 : Nat} {n4_ : Nat} {res : Int32} {rsg : Sig}  (hD : 2 ≤ D) (hF : Fx K X cX7_isSo 9 RX7 D 0 0) (hS : ShX7 τ a n1 n2 n3) (hr3 : τ r3 = some (.inr (.inl n3_))) (hr4 : τ r4 = some (.inr (.inl n4_))) (hE : En K X (some .boolean) 0 0 (some (.int res)) (τ, rsg, nx)) : ∀ (fu : Nat) (x2 x5 x6 : Int32) (σ : Sig), X7_isSo_b6 a n1 n2 n3 r3 n3_ r4 n4_ fu x2 x5 x6 σ = some (res, rsg) → G K X 9 0 0 6 [some (.ref a), none, some (.int x2), some (.ref r3), some (.ref r4), some (.int x5), some (.int x6), none, none] [] (τ, σ, nx)
  | 0, _, _, _, _, H => nomatch H
  | fu + 1, x2, x5, x6, σ, H => by
    refine g_p (S' := [.int x2, .int x6]) hF tX7_isSo_ok 4 2 rfl rfl rfl rfl ?_
    obtain ⟨Ht1, Hf1⟩ := oi H
    refine g_icmp_ge hF (dAt tX7_isSo_ok 6 rfl rfl) rfl (fun c1 => ?_) (fun c1 => ?_)
    · have H := Ht1 c1
      refine g_m [false, false, false, false, true, true, false, false, false] rfl ?_
      exact X7_isSo_b194_ok hD hF hS hr3 hr4 hE H
    · have H := Hf1 c1
      refine g_p (S' := [.ref a, .int x6]) hF tX7_isSo_ok 7 2 rfl rfl rfl rfl ?_
      refine g_getR hF (dAt tX7_isSo_ok 9 rfl rfl) flX7_22 hS.1 rfl ?_
      refine g_alen hF (dAt tX7_isSo_ok 10 rfl rfl) hS.2.2.2 rfl ?_
      obtain ⟨Ht2, Hf2⟩ := oi H
      refine g_icmp_ge hF (dAt tX7_isSo_ok 11 rfl rfl) rfl (fun c2 => ?_) (fun c2 => ?_)
      · have H := Ht2 c2
        refine g_m [false, false, false, false, true, true, false, false, false] rfl ?_
        exact X7_isSo_b194_ok hD hF hS hr3 hr4 hE H
      · have H := Hf2 c2
        refine g_p (S' := [.ref a]) hF tX7_isSo_ok 12 1 rfl rfl rfl rfl ?_
        refine g_getR hF (dAt tX7_isSo_ok 13 rfl rfl) flX7_22 hS.1 rfl ?_
        refine g_p (S' := [.int x6, .ref (a + 3)]) hF tX7_isSo_ok 14 1 rfl rfl rfl rfl ?_
        obtain ⟨v3, e4, H⟩ := ob H
        refine g_ild hF (dAt tX7_isSo_ok 15 rfl rfl) hS.2.2.2 e4 ?_
        refine g_p (L' := [some (.ref a), none, some (.int x2), some (.ref r3), some (.ref r4), some (.int x5), some (.int x6), some (.int (v3 &&& 15)), none]) (S' := [.ref a]) hF tX7_isSo_ok 16 4 rfl rfl rfl rfl ?_
        refine g_getR hF (dAt tX7_isSo_ok 20 rfl rfl) flX7_22 hS.1 rfl ?_
        refine g_p (S' := [.int x6, .ref (a + 3)]) hF tX7_isSo_ok 21 1 rfl rfl rfl rfl ?_
        obtain ⟨v5, e6, H⟩ := ob H
        refine g_ild hF (dAt tX7_isSo_ok 22 rfl rfl) hS.2.2.2 e6 ?_
        refine g_p (L' := [some (.ref a), none, some (.int x2), some (.ref r3), some (.ref r4), some (.int x5), some (.int x6), some (.int (v3 &&& 15)), some (.int (v5 >>> (4 &&& 31)))]) (S' := [.int (v3 &&& 15)]) hF tX7_isSo_ok 23 4 rfl rfl rfl rfl ?_
        obtain ⟨Ht7, Hf7⟩ := oi H
        refine g_if_eq hF (dAt tX7_isSo_ok 27 rfl rfl) rfl (fun c7 => ?_) (fun c7 => ?_)
        · have H := Ht7 c7
          exact X7_isSo_b56_ok hD hF hS hr3 hr4 hE (fun _ _ _ _ H => X7_isSo_b6_ok hD hF hS hr3 hr4 hE fu _ _ _ _ H) H
        · have H := Hf7 c7
          refine g_p (S' := [.int 1, .int (v3 &&& 15)]) hF tX7_isSo_ok 28 2 rfl rfl rfl rfl ?_
          obtain ⟨Ht8, Hf8⟩ := oi H
          refine g_icmp_ne hF (dAt tX7_isSo_ok 30 rfl rfl) rfl (fun c8 => ?_) (fun c8 => ?_)
          · have H := Hf8 c8
            refine g_p (S' := [.int 5, .int (v3 &&& 15)]) hF tX7_isSo_ok 47 2 rfl rfl rfl rfl ?_
            obtain ⟨Ht9, Hf9⟩ := oi H
            refine g_icmp_ne hF (dAt tX7_isSo_ok 49 rfl rfl) rfl (fun c9 => ?_) (fun c9 => ?_)
            · have H := Hf9 c9
              refine g_p (S' := [.int 9, .int (v3 &&& 15)]) hF tX7_isSo_ok 65 2 rfl rfl rfl rfl ?_
              obtain ⟨Ht10, Hf10⟩ := oi H
              refine g_icmp_ne hF (dAt tX7_isSo_ok 67 rfl rfl) rfl (fun c10 => ?_) (fun c10 => ?_)
              · have H := Hf10 c10
                refine g_p (S' := [.int 2, .int x5]) hF tX7_isSo_ok 84 2 rfl rfl rfl rfl ?_
                obtain ⟨Ht11, Hf11⟩ := oi H
                refine g_icmp_lt hF (dAt tX7_isSo_ok 86 rfl rfl) rfl (fun c11 => ?_) (fun c11 => ?_)
                · have H := Ht11 c11
                  refine g_p (L' := [some (.ref a), none, some (.int x2), some (.ref r3), some (.ref r4), some (.int x5), some (.int (x6 + 1)), some (.int (v3 &&& 15)), some (.int (v5 >>> (4 &&& 31)))]) (S' := []) hF tX7_isSo_ok 103 1 rfl rfl rfl rfl ?_
                  refine g_goto hF (dAt tX7_isSo_ok 104 rfl rfl) rfl ?_
                  refine g_m [true, false, true, true, true, true, true, false, false] rfl ?_
                  exact X7_isSo_b6_ok hD hF hS hr3 hr4 hE fu _ _ _ _ H
                · have H := Hf11 c11
                  refine g_p (L' := [some (.ref a), none, some (.int x2), some (.ref r3), some (.ref r4), some (.int (x5 + (-1))), some (.int x6), some (.int (v3 &&& 15)), some (.int (v5 >>> (4 &&& 31)))]) (S' := [.int ((x5 + (-1)) - 1), .ref r4, .int (v3 &&& 15), .int ((x5 + (-1)) - 1), .ref r4]) hF tX7_isSo_ok 87 10 rfl rfl rfl rfl ?_
                  obtain ⟨v12, e13, H⟩ := ob H
                  refine g_ild hF (dAt tX7_isSo_ok 97 rfl rfl) hr4 e13 ?_
                  refine g_p (S' := [.int (x5 + (-1)), .ref r4, .int v12, .int (v3 &&& 15), .int ((x5 + (-1)) - 1), .ref r4]) hF tX7_isSo_ok 98 2 rfl rfl rfl rfl ?_
                  obtain ⟨v14, e15, H⟩ := ob H
                  refine g_ild hF (dAt tX7_isSo_ok 100 rfl rfl) hr4 e15 ?_
                  obtain ⟨v16, e17, H⟩ := ob H
                  refine g_cS (S := [.int ((x5 + (-1)) - 1), .ref r4]) hF (X7_join_ok (Nat.le_refl _)  e17 K) mbX7_join msX7_join mlX7_33 (by omega) (by decide) (dAt tX7_isSo_ok 101 rfl rfl) rfl rfl (Nat.le_of_ble_eq_true rfl) rfl rfl (by decide) (by decide) rfl ?_
                  obtain ⟨s18, e19, H⟩ := ob H
                  refine g_ist hF (dAt tX7_isSo_ok 102 rfl rfl) hr4 e19 ?_
                  refine g_p (L' := [some (.ref a), none, some (.int x2), some (.ref r3), some (.ref r4), some (.int (x5 + (-1))), some (.int (x6 + 1)), some (.int (v3 &&& 15)), some (.int (v5 >>> (4 &&& 31)))]) (S' := []) hF tX7_isSo_ok 103 1 rfl rfl rfl rfl ?_
                  refine g_goto hF (dAt tX7_isSo_ok 104 rfl rfl) rfl ?_
                  refine g_m [true, false, true, true, true, true, true, false, false] rfl ?_
                  exact X7_isSo_b6_ok hD hF hS hr3 hr4 hE fu _ _ _ _ H
              · have H := Ht10 c10
                refine g_p (S' := [.int 1, .int x5]) hF tX7_isSo_ok 68 2 rfl rfl rfl rfl ?_
                obtain ⟨Ht20, Hf20⟩ := oi H
                refine g_icmp_lt hF (dAt tX7_isSo_ok 70 rfl rfl) rfl (fun c20 => ?_) (fun c20 => ?_)
                · have H := Ht20 c20
                  refine g_p (L' := [some (.ref a), none, some (.int x2), some (.ref r3), some (.ref r4), some (.int x5), some (.int (x6 + 1)), some (.int (v3 &&& 15)), some (.int (v5 >>> (4 &&& 31)))]) (S' := []) hF tX7_isSo_ok 103 1 rfl rfl rfl rfl ?_
                  refine g_goto hF (dAt tX7_isSo_ok 104 rfl rfl) rfl ?_
                  refine g_m [true, false, true, true, true, true, true, false, false] rfl ?_
                  exact X7_isSo_b6_ok hD hF hS hr3 hr4 hE fu _ _ _ _ H
                · have H := Hf20 c20
                  refine g_p (S' := [.int (x5 - 1), .ref r4, .int 1, .int (x5 - 1), .ref r4]) hF tX7_isSo_ok 71 9 rfl rfl rfl rfl ?_
                  obtain ⟨v21, e22, H⟩ := ob H
                  refine g_ild hF (dAt tX7_isSo_ok 80 rfl rfl) hr4 e22 ?_
                  refine g_p (S' := [.int (1 - v21), .int (x5 - 1), .ref r4]) hF tX7_isSo_ok 81 1 rfl rfl rfl rfl ?_
                  obtain ⟨s23, e24, H⟩ := ob H
                  refine g_ist hF (dAt tX7_isSo_ok 82 rfl rfl) hr4 e24 ?_
                  refine g_goto hF (dAt tX7_isSo_ok 83 rfl rfl) rfl ?_
                  refine g_p (L' := [some (.ref a), none, some (.int x2), some (.ref r3), some (.ref r4), some (.int x5), some (.int (x6 + 1)), some (.int (v3 &&& 15)), some (.int (v5 >>> (4 &&& 31)))]) (S' := []) hF tX7_isSo_ok 103 1 rfl rfl rfl rfl ?_
                  refine g_goto hF (dAt tX7_isSo_ok 104 rfl rfl) rfl ?_
                  refine g_m [true, false, true, true, true, true, true, false, false] rfl ?_
                  exact X7_isSo_b6_ok hD hF hS hr3 hr4 hE fu _ _ _ _ H
            · have H := Ht9 c9
              refine g_p (S' := [.int 1, .int x5]) hF tX7_isSo_ok 50 2 rfl rfl rfl rfl ?_
              obtain ⟨Ht25, Hf25⟩ := oi H
              refine g_icmp_lt hF (dAt tX7_isSo_ok 52 rfl rfl) rfl (fun c25 => ?_) (fun c25 => ?_)
              · have H := Ht25 c25
                refine g_p (L' := [some (.ref a), none, some (.int x2), some (.ref r3), some (.ref r4), some (.int x5), some (.int (x6 + 1)), some (.int (v3 &&& 15)), some (.int (v5 >>> (4 &&& 31)))]) (S' := []) hF tX7_isSo_ok 103 1 rfl rfl rfl rfl ?_
                refine g_goto hF (dAt tX7_isSo_ok 104 rfl rfl) rfl ?_
                refine g_m [true, false, true, true, true, true, true, false, false] rfl ?_
                exact X7_isSo_b6_ok hD hF hS hr3 hr4 hE fu _ _ _ _ H
              · have H := Hf25 c25
                refine g_p (S' := [.int (v5 >>> (4 &&& 31))]) hF tX7_isSo_ok 53 1 rfl rfl rfl rfl ?_
                obtain ⟨Ht26, Hf26⟩ := oi H
                refine g_if_le hF (dAt tX7_isSo_ok 54 rfl rfl) rfl (fun c26 => ?_) (fun c26 => ?_)
                · have H := Ht26 c26
                  refine g_p (L' := [some (.ref a), none, some (.int x2), some (.ref r3), some (.ref r4), some (.int x5), some (.int (x6 + 1)), some (.int (v3 &&& 15)), some (.int (v5 >>> (4 &&& 31)))]) (S' := []) hF tX7_isSo_ok 103 1 rfl rfl rfl rfl ?_
                  refine g_goto hF (dAt tX7_isSo_ok 104 rfl rfl) rfl ?_
                  refine g_m [true, false, true, true, true, true, true, false, false] rfl ?_
                  exact X7_isSo_b6_ok hD hF hS hr3 hr4 hE fu _ _ _ _ H
                · have H := Hf26 c26
                  refine g_p (S' := [.int (x5 - 1), .ref r4, .int (x5 - 1), .ref r4]) hF tX7_isSo_ok 55 5 rfl rfl rfl rfl ?_
                  obtain ⟨v27, e28, H⟩ := ob H
                  refine g_ild hF (dAt tX7_isSo_ok 60 rfl rfl) hr4 e28 ?_
                  refine g_p (S' := [.int (v5 >>> (4 &&& 31)), .int v27, .int (x5 - 1), .ref r4]) hF tX7_isSo_ok 61 1 rfl rfl rfl rfl ?_
                  obtain ⟨z29, H⟩ := on H
                  refine g_idiv hF (dAt tX7_isSo_ok 62 rfl rfl) z29 ?_
                  obtain ⟨s30, e31, H⟩ := ob H
                  refine g_ist hF (dAt tX7_isSo_ok 63 rfl rfl) hr4 e31 ?_
                  refine g_goto hF (dAt tX7_isSo_ok 64 rfl rfl) rfl ?_
                  refine g_p (L' := [some (.ref a), none, some (.int x2), some (.ref r3), some (.ref r4), some (.int x5), some (.int (x6 + 1)), some (.int (v3 &&& 15)), some (.int (v5 >>> (4 &&& 31)))]) (S' := []) hF tX7_isSo_ok 103 1 rfl rfl rfl rfl ?_
                  refine g_goto hF (dAt tX7_isSo_ok 104 rfl rfl) rfl ?_
                  refine g_m [true, false, true, true, true, true, true, false, false] rfl ?_
                  exact X7_isSo_b6_ok hD hF hS hr3 hr4 hE fu _ _ _ _ H
          · have H := Ht8 c8
            exact X7_isSo_b56_ok hD hF hS hr3 hr4 hE (fun _ _ _ _ H => X7_isSo_b6_ok hD hF hS hr3 hr4 hE fu _ _ _ _ H) H
def X7_isSo_f (a : Nat) (n1 : Nat) (n2 : Nat) (n3 : Nat) (r3 : Nat) (n3_ : Nat) (r4 : Nat) (n4_ : Nat) (x1 x2 : Int32) (σ : Sig) : Option (Int32 × Sig) := X7_isSo_b6 a n1 n2 n3 r3 n3_ r4 n4_ FU x2 0 x1 σ
set_option maxRecDepth 4000 in
set_option maxHeartbeats 1000000 in
theorem X7_isSo_ok {D : Nat} {τ : Tau} {nx : Nat} {a : Nat} {n1 : Nat} {n2 : Nat} {n3 : Nat} {r3 : Nat} {n3_ : Nat} {r4 : Nat} {n4_ : Nat} {x1 x2 : Int32} {σ : Sig} {res : Int32} {rsg : Sig} (hD : 2 ≤ D) (hS : ShX7 τ a n1 n2 n3) (hr3 : τ r3 = some (.inr (.inl n3_))) (hr4 : τ r4 = some (.inr (.inl n4_))) (H : X7_isSo_f a n1 n2 n3 r3 n3_ r4 n4_ x1 x2 σ = some (res, rsg)) : Ok D 0 0 yX7_isSo cX7_isSo 9 (some .boolean) [.ref a, .int x1, .int x2, .ref r3, .ref r4] (τ, σ, nx) (some (.int res)) (τ, rsg, nx) := by
  refine ok_of (by decide +kernel) rfl (Nat.le_of_ble_eq_true rfl) (fun K X hF hE hN L0 hL0 => ?_)
  obtain rfl : [some (.ref a), some (.int x1), some (.int x2), some (.ref r3), some (.ref r4), none, none, none, none] = L0 := hL0
  have hF : Fx K X cX7_isSo 9 RX7 D 0 0 := hF
  refine g_p (L' := [some (.ref a), some (.int x1), some (.int x2), some (.ref r3), some (.ref r4), some (.int 0), some (.int x1), none, none]) (S' := []) hF tX7_isSo_ok 0 4 rfl rfl rfl rfl ?_
  refine g_m [true, false, true, true, true, true, true, false, false] rfl ?_
  exact X7_isSo_b6_ok hD hF hS hr3 hr4 hE FU _ _ _ _ H
def X7_firstLine_b2 (a : Nat) (n1 : Nat) (n2 : Nat) (n3 : Nat) (r1 : Nat) (n1_ : Nat) (r2 : Nat) (n2_ : Nat) : Nat → Int32 → Sig → Option (Int32 × Sig)
  | 0, _, _ => none
  | fu + 1, x3, σ => if (σ a 0) ≤ x3 then (some ((-1), σ)) else (if (Int32.ofNat n1) ≤ (x3 + 1) then (some ((-1), σ)) else ((ld n1 (σ (a + 1)) x3).bind fun v3 => (ld n1 (σ (a + 1)) (x3 + 1)).bind fun v5 => if v3 = v5 then (some (x3, σ)) else ((ld n1 (σ (a + 1)) x3).bind fun v8 => (ld n1 (σ (a + 1)) (x3 + 1)).bind fun v10 => (X7_isSo_f a n1 n2 n3 r1 n1_ r2 n2_ v8 v10 σ).bind fun ⟨v12, s13⟩ => if v12 = 0 then (X7_firstLine_b2 a n1 n2 n3 r1 n1_ r2 n2_ fu (x3 + 1) s13) else (some (x3, s13)))))
set_option maxRecDepth 4000 in
set_option maxHeartbeats 1000000 in
theorem X7_firstLine_b2_ok {K : Kt} {X : Cx} {D : Nat} {τ : Tau} {nx : Nat} {a : Nat} {n1 : Nat} {n2 : Nat} {n3 : Nat} {r1 : Nat} {n1_ : Nat} {r2 : Nat} {n2_ : Nat} {res : Int32} {rsg : Sig}  (hD : 3 ≤ D) (hF : Fx K X cX7_firstLine 4 RX7 D 0 0) (hS : ShX7 τ a n1 n2 n3) (hr1 : τ r1 = some (.inr (.inl n1_))) (hr2 : τ r2 = some (.inr (.inl n2_))) (hE : En K X (some .int) 0 0 (some (.int res)) (τ, rsg, nx)) : ∀ (fu : Nat) (x3 : Int32) (σ : Sig), X7_firstLine_b2 a n1 n2 n3 r1 n1_ r2 n2_ fu x3 σ = some (res, rsg) → G K X 4 0 0 2 [some (.ref a), some (.ref r1), some (.ref r2), some (.int x3)] [] (τ, σ, nx)
  | 0, _, _, H => nomatch H
  | fu + 1, x3, σ, H => by
    refine g_p (S' := [.ref a, .int x3]) hF tX7_firstLine_ok 2 2 rfl rfl rfl rfl ?_
    refine g_getI hF (dAt tX7_firstLine_ok 4 rfl rfl) flX7_9 hS.1 rfl ?_
    obtain ⟨Ht1, Hf1⟩ := oi H
    refine g_icmp_ge hF (dAt tX7_firstLine_ok 5 rfl rfl) rfl (fun c1 => ?_) (fun c1 => ?_)
    · have H := Ht1 c1
      refine g_p (S' := [.int (-1)]) hF tX7_firstLine_ok 43 1 rfl rfl rfl rfl ?_
      exact g_iret hF (en_p H hE) (dAt tX7_firstLine_ok 44 rfl rfl) (by decide) (by decide)
    · have H := Hf1 c1
      refine g_p (S' := [.ref a, .int (x3 + 1)]) hF tX7_firstLine_ok 6 4 rfl rfl rfl rfl ?_
      refine g_getR hF (dAt tX7_firstLine_ok 10 rfl rfl) flX7_15 hS.1 rfl ?_
      refine g_alen hF (dAt tX7_firstLine_ok 11 rfl rfl) hS.2.1 rfl ?_
      obtain ⟨Ht2, Hf2⟩ := oi H
      refine g_icmp_ge hF (dAt tX7_firstLine_ok 12 rfl rfl) rfl (fun c2 => ?_) (fun c2 => ?_)
      · have H := Ht2 c2
        refine g_p (S' := [.int (-1)]) hF tX7_firstLine_ok 43 1 rfl rfl rfl rfl ?_
        exact g_iret hF (en_p H hE) (dAt tX7_firstLine_ok 44 rfl rfl) (by decide) (by decide)
      · have H := Hf2 c2
        refine g_p (S' := [.ref a]) hF tX7_firstLine_ok 13 1 rfl rfl rfl rfl ?_
        refine g_getR hF (dAt tX7_firstLine_ok 14 rfl rfl) flX7_15 hS.1 rfl ?_
        refine g_p (S' := [.int x3, .ref (a + 1)]) hF tX7_firstLine_ok 15 1 rfl rfl rfl rfl ?_
        obtain ⟨v3, e4, H⟩ := ob H
        refine g_ild hF (dAt tX7_firstLine_ok 16 rfl rfl) hS.2.1 e4 ?_
        refine g_p (S' := [.ref a, .int v3]) hF tX7_firstLine_ok 17 1 rfl rfl rfl rfl ?_
        refine g_getR hF (dAt tX7_firstLine_ok 18 rfl rfl) flX7_15 hS.1 rfl ?_
        refine g_p (S' := [.int (x3 + 1), .ref (a + 1), .int v3]) hF tX7_firstLine_ok 19 3 rfl rfl rfl rfl ?_
        obtain ⟨v5, e6, H⟩ := ob H
        refine g_ild hF (dAt tX7_firstLine_ok 22 rfl rfl) hS.2.1 e6 ?_
        obtain ⟨Ht7, Hf7⟩ := oi H
        refine g_icmp_eq hF (dAt tX7_firstLine_ok 23 rfl rfl) rfl (fun c7 => ?_) (fun c7 => ?_)
        · have H := Ht7 c7
          refine g_p (S' := [.int x3]) hF tX7_firstLine_ok 39 1 rfl rfl rfl rfl ?_
          exact g_iret hF (en_p H hE) (dAt tX7_firstLine_ok 40 rfl rfl) (by decide) (by decide)
        · have H := Hf7 c7
          refine g_p (S' := [.ref a, .ref a]) hF tX7_firstLine_ok 24 2 rfl rfl rfl rfl ?_
          refine g_getR hF (dAt tX7_firstLine_ok 26 rfl rfl) flX7_15 hS.1 rfl ?_
          refine g_p (S' := [.int x3, .ref (a + 1), .ref a]) hF tX7_firstLine_ok 27 1 rfl rfl rfl rfl ?_
          obtain ⟨v8, e9, H⟩ := ob H
          refine g_ild hF (dAt tX7_firstLine_ok 28 rfl rfl) hS.2.1 e9 ?_
          refine g_p (S' := [.ref a, .int v8, .ref a]) hF tX7_firstLine_ok 29 1 rfl rfl rfl rfl ?_
          refine g_getR hF (dAt tX7_firstLine_ok 30 rfl rfl) flX7_15 hS.1 rfl ?_
          refine g_p (S' := [.int (x3 + 1), .ref (a + 1), .int v8, .ref a]) hF tX7_firstLine_ok 31 3 rfl rfl rfl rfl ?_
          obtain ⟨v10, e11, H⟩ := ob H
          refine g_ild hF (dAt tX7_firstLine_ok 34 rfl rfl) hS.2.1 e11 ?_
          refine g_p (S' := [.ref r2, .ref r1, .int v10, .int v8, .ref a]) hF tX7_firstLine_ok 35 2 rfl rfl rfl rfl ?_
          obtain ⟨⟨v12, s13⟩, e14, H⟩ := ob H
          refine g_cV (S := []) hF (X7_isSo_ok (Nat.le_refl _) hS hr1 hr2 e14 K) mbX7_isSo mvX7_isSo mlX7_25 (by omega) (by decide) (dAt tX7_firstLine_ok 37 rfl rfl) hS.1 rfl rfl rfl (Nat.le_of_ble_eq_true rfl) rfl rfl (by decide) (by decide) rfl ?_
          obtain ⟨Ht15, Hf15⟩ := oi H
          refine g_if_eq hF (dAt tX7_firstLine_ok 38 rfl rfl) rfl (fun c15 => ?_) (fun c15 => ?_)
          · have H := Ht15 c15
            refine g_p (L' := [some (.ref a), some (.ref r1), some (.ref r2), some (.int (x3 + 1))]) (S' := []) hF tX7_firstLine_ok 41 1 rfl rfl rfl rfl ?_
            refine g_goto hF (dAt tX7_firstLine_ok 42 rfl rfl) rfl ?_
            exact X7_firstLine_b2_ok hD hF hS hr1 hr2 hE fu _ _ H
          · have H := Hf15 c15
            refine g_p (S' := [.int x3]) hF tX7_firstLine_ok 39 1 rfl rfl rfl rfl ?_
            exact g_iret hF (en_p H hE) (dAt tX7_firstLine_ok 40 rfl rfl) (by decide) (by decide)
def X7_firstLine_f (a : Nat) (n1 : Nat) (n2 : Nat) (n3 : Nat) (r1 : Nat) (n1_ : Nat) (r2 : Nat) (n2_ : Nat) (σ : Sig) : Option (Int32 × Sig) := X7_firstLine_b2 a n1 n2 n3 r1 n1_ r2 n2_ FU 0 σ
set_option maxRecDepth 4000 in
set_option maxHeartbeats 1000000 in
theorem X7_firstLine_ok {D : Nat} {τ : Tau} {nx : Nat} {a : Nat} {n1 : Nat} {n2 : Nat} {n3 : Nat} {r1 : Nat} {n1_ : Nat} {r2 : Nat} {n2_ : Nat} {σ : Sig} {res : Int32} {rsg : Sig} (hD : 3 ≤ D) (hS : ShX7 τ a n1 n2 n3) (hr1 : τ r1 = some (.inr (.inl n1_))) (hr2 : τ r2 = some (.inr (.inl n2_))) (H : X7_firstLine_f a n1 n2 n3 r1 n1_ r2 n2_ σ = some (res, rsg)) : Ok D 0 0 yX7_firstLine cX7_firstLine 4 (some .int) [.ref a, .ref r1, .ref r2] (τ, σ, nx) (some (.int res)) (τ, rsg, nx) := by
  refine ok_of (by decide +kernel) rfl (Nat.le_of_ble_eq_true rfl) (fun K X hF hE hN L0 hL0 => ?_)
  obtain rfl : [some (.ref a), some (.ref r1), some (.ref r2), none] = L0 := hL0
  have hF : Fx K X cX7_firstLine 4 RX7 D 0 0 := hF
  refine g_p (L' := [some (.ref a), some (.ref r1), some (.ref r2), some (.int 0)]) (S' := []) hF tX7_firstLine_ok 0 2 rfl rfl rfl rfl ?_
  exact X7_firstLine_b2_ok hD hF hS hr1 hr2 hE FU _ _ H
end
