section
-- ===== PART A: goes FIRST, ahead of the names: the tables' words, and 'selects' of the private methods out of them =====
/-- a private method of a class that the tables say can be made, by its rows of tables_1 -/
def lw_okq (q : MethodName × Nat) : Prop := (q.1.cls ≠ "java/lang/invoke/MethodHandle" ∧ q.1.cls ≠ "java/lang/invoke/VarHandle") ∧ Cond.instantiable q.1.cls q.2 ∈ tables_1 ∧ Cond.privateMethod q.1 ∈ tables_1 ∧ Cond.instanceMethod q.1 ∈ tables_1
theorem lw_p0 : lw_okq (⟨"SilenceForMoney$Reader", "findTokens", "(LSilenceForMoney$Tape;)V"⟩, 13) := ⟨⟨by decide +kernel, by decide +kernel⟩, List.mem_of_getElem? (i := 351) (by decide +kernel), List.mem_of_getElem? (i := 531) (by decide +kernel), List.mem_of_getElem? (i := 532) (by decide +kernel)⟩
theorem lw_p1 : lw_okq (⟨"SilenceForMoney$Reader", "findToken", "(LSilenceForMoney$Tape;I)I"⟩, 13) := ⟨⟨by decide +kernel, by decide +kernel⟩, List.mem_of_getElem? (i := 351) (by decide +kernel), List.mem_of_getElem? (i := 535) (by decide +kernel), List.mem_of_getElem? (i := 536) (by decide +kernel)⟩
theorem lw_p2 : lw_okq (⟨"SilenceForMoney$Reader", "keyword", "(LSilenceForMoney$Tape;II)I"⟩, 13) := ⟨⟨by decide +kernel, by decide +kernel⟩, List.mem_of_getElem? (i := 351) (by decide +kernel), List.mem_of_getElem? (i := 548) (by decide +kernel), List.mem_of_getElem? (i := 549) (by decide +kernel)⟩
theorem lw_p3 : lw_okq (⟨"SilenceForMoney$Reader", "putToken", "(III)V"⟩, 13) := ⟨⟨by decide +kernel, by decide +kernel⟩, List.mem_of_getElem? (i := 351) (by decide +kernel), List.mem_of_getElem? (i := 602) (by decide +kernel), List.mem_of_getElem? (i := 603) (by decide +kernel)⟩
theorem lw_p4 : lw_okq (⟨"SilenceForMoney$Reader", "readLine", "()V"⟩, 13) := ⟨⟨by decide +kernel, by decide +kernel⟩, List.mem_of_getElem? (i := 351) (by decide +kernel), List.mem_of_getElem? (i := 612) (by decide +kernel), List.mem_of_getElem? (i := 613) (by decide +kernel)⟩
theorem lw_p5 : lw_okq (⟨"SilenceForMoney$Reader", "fail", "(I)V"⟩, 13) := ⟨⟨by decide +kernel, by decide +kernel⟩, List.mem_of_getElem? (i := 351) (by decide +kernel), List.mem_of_getElem? (i := 616) (by decide +kernel), List.mem_of_getElem? (i := 617) (by decide +kernel)⟩
theorem lw_p6 : lw_okq (⟨"SilenceForMoney$Reader", "step", "()V"⟩, 13) := ⟨⟨by decide +kernel, by decide +kernel⟩, List.mem_of_getElem? (i := 351) (by decide +kernel), List.mem_of_getElem? (i := 620) (by decide +kernel), List.mem_of_getElem? (i := 621) (by decide +kernel)⟩
theorem lw_p7 : lw_okq (⟨"SilenceForMoney$Reader", "readLoud", "()I"⟩, 13) := ⟨⟨by decide +kernel, by decide +kernel⟩, List.mem_of_getElem? (i := 351) (by decide +kernel), List.mem_of_getElem? (i := 624) (by decide +kernel), List.mem_of_getElem? (i := 625) (by decide +kernel)⟩
theorem lw_p8 : lw_okq (⟨"SilenceForMoney$Reader", "take", "(I)Z"⟩, 13) := ⟨⟨by decide +kernel, by decide +kernel⟩, List.mem_of_getElem? (i := 351) (by decide +kernel), List.mem_of_getElem? (i := 628) (by decide +kernel), List.mem_of_getElem? (i := 629) (by decide +kernel)⟩
theorem lw_p9 : lw_okq (⟨"SilenceForMoney$Reader", "anyOf", "(I)V"⟩, 13) := ⟨⟨by decide +kernel, by decide +kernel⟩, List.mem_of_getElem? (i := 351) (by decide +kernel), List.mem_of_getElem? (i := 632) (by decide +kernel), List.mem_of_getElem? (i := 633) (by decide +kernel)⟩
theorem lw_p10 : lw_okq (⟨"SilenceForMoney$Reader", "condition", "(I)V"⟩, 13) := ⟨⟨by decide +kernel, by decide +kernel⟩, List.mem_of_getElem? (i := 351) (by decide +kernel), List.mem_of_getElem? (i := 636) (by decide +kernel), List.mem_of_getElem? (i := 637) (by decide +kernel)⟩
theorem lw_p11 : lw_okq (⟨"SilenceForMoney$Reader", "emit", "(II)V"⟩, 13) := ⟨⟨by decide +kernel, by decide +kernel⟩, List.mem_of_getElem? (i := 351) (by decide +kernel), List.mem_of_getElem? (i := 640) (by decide +kernel), List.mem_of_getElem? (i := 641) (by decide +kernel)⟩
theorem lw_p12 : lw_okq (⟨"SilenceForMoney$Reader", "sum", "()V"⟩, 13) := ⟨⟨by decide +kernel, by decide +kernel⟩, List.mem_of_getElem? (i := 351) (by decide +kernel), List.mem_of_getElem? (i := 644) (by decide +kernel), List.mem_of_getElem? (i := 645) (by decide +kernel)⟩
theorem lw_p13 : lw_okq (⟨"SilenceForMoney$Reader", "unit", "()V"⟩, 13) := ⟨⟨by decide +kernel, by decide +kernel⟩, List.mem_of_getElem? (i := 351) (by decide +kernel), List.mem_of_getElem? (i := 648) (by decide +kernel), List.mem_of_getElem? (i := 649) (by decide +kernel)⟩
theorem lw_p14 : lw_okq (⟨"SilenceForMoney$Reader", "divisor", "()V"⟩, 13) := ⟨⟨by decide +kernel, by decide +kernel⟩, List.mem_of_getElem? (i := 351) (by decide +kernel), List.mem_of_getElem? (i := 655) (by decide +kernel), List.mem_of_getElem? (i := 656) (by decide +kernel)⟩
theorem lw_p15 : lw_okq (⟨"SilenceForMoney$Reader", "closeLine", "(I)V"⟩, 13) := ⟨⟨by decide +kernel, by decide +kernel⟩, List.mem_of_getElem? (i := 351) (by decide +kernel), List.mem_of_getElem? (i := 659) (by decide +kernel), List.mem_of_getElem? (i := 660) (by decide +kernel)⟩
def lw_privs_1 : List (MethodName × Nat) := [(⟨"SilenceForMoney$Reader", "findTokens", "(LSilenceForMoney$Tape;)V"⟩, 13), (⟨"SilenceForMoney$Reader", "findToken", "(LSilenceForMoney$Tape;I)I"⟩, 13), (⟨"SilenceForMoney$Reader", "keyword", "(LSilenceForMoney$Tape;II)I"⟩, 13), (⟨"SilenceForMoney$Reader", "putToken", "(III)V"⟩, 13), (⟨"SilenceForMoney$Reader", "readLine", "()V"⟩, 13), (⟨"SilenceForMoney$Reader", "fail", "(I)V"⟩, 13), (⟨"SilenceForMoney$Reader", "step", "()V"⟩, 13), (⟨"SilenceForMoney$Reader", "readLoud", "()I"⟩, 13), (⟨"SilenceForMoney$Reader", "take", "(I)Z"⟩, 13), (⟨"SilenceForMoney$Reader", "anyOf", "(I)V"⟩, 13), (⟨"SilenceForMoney$Reader", "condition", "(I)V"⟩, 13), (⟨"SilenceForMoney$Reader", "emit", "(II)V"⟩, 13), (⟨"SilenceForMoney$Reader", "sum", "()V"⟩, 13), (⟨"SilenceForMoney$Reader", "unit", "()V"⟩, 13), (⟨"SilenceForMoney$Reader", "divisor", "()V"⟩, 13), (⟨"SilenceForMoney$Reader", "closeLine", "(I)V"⟩, 13)]
theorem lw_r1 : ∀ q ∈ lw_privs_1, lw_okq q := List.forall_mem_cons.mpr ⟨lw_p0, List.forall_mem_cons.mpr ⟨lw_p1, List.forall_mem_cons.mpr ⟨lw_p2, List.forall_mem_cons.mpr ⟨lw_p3, List.forall_mem_cons.mpr ⟨lw_p4, List.forall_mem_cons.mpr ⟨lw_p5, List.forall_mem_cons.mpr ⟨lw_p6, List.forall_mem_cons.mpr ⟨lw_p7, List.forall_mem_cons.mpr ⟨lw_p8, List.forall_mem_cons.mpr ⟨lw_p9, List.forall_mem_cons.mpr ⟨lw_p10, List.forall_mem_cons.mpr ⟨lw_p11, List.forall_mem_cons.mpr ⟨lw_p12, List.forall_mem_cons.mpr ⟨lw_p13, List.forall_mem_cons.mpr ⟨lw_p14, List.forall_mem_cons.mpr ⟨lw_p15, fun _ h => absurd h List.not_mem_nil⟩⟩⟩⟩⟩⟩⟩⟩⟩⟩⟩⟩⟩⟩⟩⟩
theorem lw_p16 : lw_okq (⟨"SilenceForMoney$Text", "isSo", "(II[I[I)Z"⟩, 4) := ⟨⟨by decide +kernel, by decide +kernel⟩, List.mem_of_getElem? (i := 31) (by decide +kernel), List.mem_of_getElem? (i := 725) (by decide +kernel), List.mem_of_getElem? (i := 726) (by decide +kernel)⟩
theorem lw_p17 : lw_okq (⟨"SilenceForMoney$World", "makeNoise", "(I)V"⟩, 10) := ⟨⟨by decide +kernel, by decide +kernel⟩, List.mem_of_getElem? (i := 53) (by decide +kernel), List.mem_of_getElem? (i := 764) (by decide +kernel), List.mem_of_getElem? (i := 765) (by decide +kernel)⟩
theorem lw_p18 : lw_okq (⟨"SilenceForMoney$World", "putNoise", "(III)V"⟩, 10) := ⟨⟨by decide +kernel, by decide +kernel⟩, List.mem_of_getElem? (i := 53) (by decide +kernel), List.mem_of_getElem? (i := 775) (by decide +kernel), List.mem_of_getElem? (i := 776) (by decide +kernel)⟩
theorem lw_p19 : lw_okq (⟨"SilenceForMoney$World", "judgeNoise", "(I)V"⟩, 10) := ⟨⟨by decide +kernel, by decide +kernel⟩, List.mem_of_getElem? (i := 53) (by decide +kernel), List.mem_of_getElem? (i := 780) (by decide +kernel), List.mem_of_getElem? (i := 781) (by decide +kernel)⟩
theorem lw_p20 : lw_okq (⟨"SilenceForMoney$World", "ring", "(I)V"⟩, 10) := ⟨⟨by decide +kernel, by decide +kernel⟩, List.mem_of_getElem? (i := 53) (by decide +kernel), List.mem_of_getElem? (i := 786) (by decide +kernel), List.mem_of_getElem? (i := 787) (by decide +kernel)⟩
theorem lw_p21 : lw_okq (⟨"SilenceForMoney$World", "chooseDebts", "()V"⟩, 10) := ⟨⟨by decide +kernel, by decide +kernel⟩, List.mem_of_getElem? (i := 53) (by decide +kernel), List.mem_of_getElem? (i := 794) (by decide +kernel), List.mem_of_getElem? (i := 795) (by decide +kernel)⟩
theorem lw_p22 : lw_okq (⟨"SilenceForMoney$World", "keepQuiet", "(II)V"⟩, 10) := ⟨⟨by decide +kernel, by decide +kernel⟩, List.mem_of_getElem? (i := 53) (by decide +kernel), List.mem_of_getElem? (i := 804) (by decide +kernel), List.mem_of_getElem? (i := 805) (by decide +kernel)⟩
theorem lw_p23 : lw_okq (⟨"SilenceForMoney$World", "isWordHeardOf", "(I)Z"⟩, 10) := ⟨⟨by decide +kernel, by decide +kernel⟩, List.mem_of_getElem? (i := 53) (by decide +kernel), List.mem_of_getElem? (i := 808) (by decide +kernel), List.mem_of_getElem? (i := 809) (by decide +kernel)⟩
theorem lw_p24 : lw_okq (⟨"SilenceForMoney$World", "isHeard", "(I)Z"⟩, 10) := ⟨⟨by decide +kernel, by decide +kernel⟩, List.mem_of_getElem? (i := 53) (by decide +kernel), List.mem_of_getElem? (i := 812) (by decide +kernel), List.mem_of_getElem? (i := 813) (by decide +kernel)⟩
theorem lw_p25 : lw_okq (⟨"SilenceForMoney$World", "beginAgain", "(III)V"⟩, 10) := ⟨⟨by decide +kernel, by decide +kernel⟩, List.mem_of_getElem? (i := 53) (by decide +kernel), List.mem_of_getElem? (i := 824) (by decide +kernel), List.mem_of_getElem? (i := 825) (by decide +kernel)⟩
theorem lw_p26 : lw_okq (⟨"SilenceForMoney$World", "payQuarter", "(II)V"⟩, 10) := ⟨⟨by decide +kernel, by decide +kernel⟩, List.mem_of_getElem? (i := 53) (by decide +kernel), List.mem_of_getElem? (i := 828) (by decide +kernel), List.mem_of_getElem? (i := 829) (by decide +kernel)⟩
theorem lw_p27 : lw_okq (⟨"SilenceForMoney$Bargains", "keep", "(LSilenceForMoney$Bargain;)V"⟩, 2) := ⟨⟨by decide +kernel, by decide +kernel⟩, List.mem_of_getElem? (i := 237) (by decide +kernel), List.mem_of_getElem? (i := 894) (by decide +kernel), List.mem_of_getElem? (i := 895) (by decide +kernel)⟩
theorem lw_p28 : lw_okq (⟨"SilenceForMoney$Debts", "greatestLeft", "()I"⟩, 11) := ⟨⟨by decide +kernel, by decide +kernel⟩, List.mem_of_getElem? (i := 112) (by decide +kernel), List.mem_of_getElem? (i := 986) (by decide +kernel), List.mem_of_getElem? (i := 987) (by decide +kernel)⟩
theorem lw_p29 : lw_okq (⟨"SilenceForMoney$Debts", "hoursOnlyFor", "(I)I"⟩, 11) := ⟨⟨by decide +kernel, by decide +kernel⟩, List.mem_of_getElem? (i := 112) (by decide +kernel), List.mem_of_getElem? (i := 990) (by decide +kernel), List.mem_of_getElem? (i := 991) (by decide +kernel)⟩
theorem lw_p30 : lw_okq (⟨"SilenceForMoney$World", "canMakeWord", "(IIIZ)Z"⟩, 10) := ⟨⟨by decide +kernel, by decide +kernel⟩, List.mem_of_getElem? (i := 53) (by decide +kernel), List.mem_of_getElem? (i := 1020) (by decide +kernel), List.mem_of_getElem? (i := 1021) (by decide +kernel)⟩
theorem lw_p31 : lw_okq (⟨"SilenceForMoney", "think", "(II)V"⟩, 5) := ⟨⟨by decide +kernel, by decide +kernel⟩, List.mem_of_getElem? (i := 23) (by decide +kernel), List.mem_of_getElem? (i := 1072) (by decide +kernel), List.mem_of_getElem? (i := 1073) (by decide +kernel)⟩
def lw_privs_2 : List (MethodName × Nat) := [(⟨"SilenceForMoney$Text", "isSo", "(II[I[I)Z"⟩, 4), (⟨"SilenceForMoney$World", "makeNoise", "(I)V"⟩, 10), (⟨"SilenceForMoney$World", "putNoise", "(III)V"⟩, 10), (⟨"SilenceForMoney$World", "judgeNoise", "(I)V"⟩, 10), (⟨"SilenceForMoney$World", "ring", "(I)V"⟩, 10), (⟨"SilenceForMoney$World", "chooseDebts", "()V"⟩, 10), (⟨"SilenceForMoney$World", "keepQuiet", "(II)V"⟩, 10), (⟨"SilenceForMoney$World", "isWordHeardOf", "(I)Z"⟩, 10), (⟨"SilenceForMoney$World", "isHeard", "(I)Z"⟩, 10), (⟨"SilenceForMoney$World", "beginAgain", "(III)V"⟩, 10), (⟨"SilenceForMoney$World", "payQuarter", "(II)V"⟩, 10), (⟨"SilenceForMoney$Bargains", "keep", "(LSilenceForMoney$Bargain;)V"⟩, 2), (⟨"SilenceForMoney$Debts", "greatestLeft", "()I"⟩, 11), (⟨"SilenceForMoney$Debts", "hoursOnlyFor", "(I)I"⟩, 11), (⟨"SilenceForMoney$World", "canMakeWord", "(IIIZ)Z"⟩, 10), (⟨"SilenceForMoney", "think", "(II)V"⟩, 5)]
theorem lw_r2 : ∀ q ∈ lw_privs_2, lw_okq q := List.forall_mem_cons.mpr ⟨lw_p16, List.forall_mem_cons.mpr ⟨lw_p17, List.forall_mem_cons.mpr ⟨lw_p18, List.forall_mem_cons.mpr ⟨lw_p19, List.forall_mem_cons.mpr ⟨lw_p20, List.forall_mem_cons.mpr ⟨lw_p21, List.forall_mem_cons.mpr ⟨lw_p22, List.forall_mem_cons.mpr ⟨lw_p23, List.forall_mem_cons.mpr ⟨lw_p24, List.forall_mem_cons.mpr ⟨lw_p25, List.forall_mem_cons.mpr ⟨lw_p26, List.forall_mem_cons.mpr ⟨lw_p27, List.forall_mem_cons.mpr ⟨lw_p28, List.forall_mem_cons.mpr ⟨lw_p29, List.forall_mem_cons.mpr ⟨lw_p30, List.forall_mem_cons.mpr ⟨lw_p31, fun _ h => absurd h List.not_mem_nil⟩⟩⟩⟩⟩⟩⟩⟩⟩⟩⟩⟩⟩⟩⟩⟩
theorem lw_p32 : lw_okq (⟨"SilenceForMoneyModel", "hushes", "(I)V"⟩, 25) := ⟨⟨by decide +kernel, by decide +kernel⟩, List.mem_of_getElem? (i := 1113) (by decide +kernel), List.mem_of_getElem? (i := 1119) (by decide +kernel), List.mem_of_getElem? (i := 1120) (by decide +kernel)⟩
theorem lw_p33 : lw_okq (⟨"SilenceForMoneyModel", "gives", "(III)V"⟩, 25) := ⟨⟨by decide +kernel, by decide +kernel⟩, List.mem_of_getElem? (i := 1113) (by decide +kernel), List.mem_of_getElem? (i := 1213) (by decide +kernel), List.mem_of_getElem? (i := 1214) (by decide +kernel)⟩
theorem lw_p34 : lw_okq (⟨"SilenceForMoneyModel", "isOne", "(I)Z"⟩, 25) := ⟨⟨by decide +kernel, by decide +kernel⟩, List.mem_of_getElem? (i := 1113) (by decide +kernel), List.mem_of_getElem? (i := 1221) (by decide +kernel), List.mem_of_getElem? (i := 1222) (by decide +kernel)⟩
theorem lw_p35 : lw_okq (⟨"SilenceForMoneyModel", "own", "(II)I"⟩, 25) := ⟨⟨by decide +kernel, by decide +kernel⟩, List.mem_of_getElem? (i := 1113) (by decide +kernel), List.mem_of_getElem? (i := 1225) (by decide +kernel), List.mem_of_getElem? (i := 1226) (by decide +kernel)⟩
theorem lw_p36 : lw_okq (⟨"SilenceForMoneyModel", "lays0", "(III)V"⟩, 25) := ⟨⟨by decide +kernel, by decide +kernel⟩, List.mem_of_getElem? (i := 1113) (by decide +kernel), List.mem_of_getElem? (i := 1242) (by decide +kernel), List.mem_of_getElem? (i := 1243) (by decide +kernel)⟩
theorem lw_p37 : lw_okq (⟨"SilenceForMoneyModel", "isDebt", "(I)Z"⟩, 25) := ⟨⟨by decide +kernel, by decide +kernel⟩, List.mem_of_getElem? (i := 1113) (by decide +kernel), List.mem_of_getElem? (i := 1250) (by decide +kernel), List.mem_of_getElem? (i := 1251) (by decide +kernel)⟩
theorem lw_p38 : lw_okq (⟨"SilenceForMoneyModel", "debtOf", "(II)I"⟩, 25) := ⟨⟨by decide +kernel, by decide +kernel⟩, List.mem_of_getElem? (i := 1113) (by decide +kernel), List.mem_of_getElem? (i := 1258) (by decide +kernel), List.mem_of_getElem? (i := 1259) (by decide +kernel)⟩
theorem lw_p39 : lw_okq (⟨"SilenceForMoneyModel", "workerOf", "(I)I"⟩, 25) := ⟨⟨by decide +kernel, by decide +kernel⟩, List.mem_of_getElem? (i := 1113) (by decide +kernel), List.mem_of_getElem? (i := 1262) (by decide +kernel), List.mem_of_getElem? (i := 1263) (by decide +kernel)⟩
theorem lw_p40 : lw_okq (⟨"SilenceForMoneyModel", "next0", "()V"⟩, 25) := ⟨⟨by decide +kernel, by decide +kernel⟩, List.mem_of_getElem? (i := 1113) (by decide +kernel), List.mem_of_getElem? (i := 1278) (by decide +kernel), List.mem_of_getElem? (i := 1279) (by decide +kernel)⟩
theorem lw_p41 : lw_okq (⟨"SilenceForMoneyModel", "see", "(I)I"⟩, 25) := ⟨⟨by decide +kernel, by decide +kernel⟩, List.mem_of_getElem? (i := 1113) (by decide +kernel), List.mem_of_getElem? (i := 1282) (by decide +kernel), List.mem_of_getElem? (i := 1283) (by decide +kernel)⟩
theorem lw_p42 : lw_okq (⟨"SilenceForMoneyModel", "word0", "()I"⟩, 25) := ⟨⟨by decide +kernel, by decide +kernel⟩, List.mem_of_getElem? (i := 1113) (by decide +kernel), List.mem_of_getElem? (i := 1289) (by decide +kernel), List.mem_of_getElem? (i := 1290) (by decide +kernel)⟩
theorem lw_p43 : lw_okq (⟨"SilenceForMoneyModel", "is", "(Ljava/lang/String;)Z"⟩, 25) := ⟨⟨by decide +kernel, by decide +kernel⟩, List.mem_of_getElem? (i := 1113) (by decide +kernel), List.mem_of_getElem? (i := 1294) (by decide +kernel), List.mem_of_getElem? (i := 1295) (by decide +kernel)⟩
theorem lw_p44 : lw_okq (⟨"SilenceForMoneyModel", "lawWord", "()I"⟩, 25) := ⟨⟨by decide +kernel, by decide +kernel⟩, List.mem_of_getElem? (i := 1113) (by decide +kernel), List.mem_of_getElem? (i := 1306) (by decide +kernel), List.mem_of_getElem? (i := 1307) (by decide +kernel)⟩
theorem lw_p45 : lw_okq (⟨"SilenceForMoneyModel", "ruleWord", "()I"⟩, 25) := ⟨⟨by decide +kernel, by decide +kernel⟩, List.mem_of_getElem? (i := 1113) (by decide +kernel), List.mem_of_getElem? (i := 1314) (by decide +kernel), List.mem_of_getElem? (i := 1315) (by decide +kernel)⟩
theorem lw_p46 : lw_okq (⟨"SilenceForMoneyModel", "aLine", "()Z"⟩, 25) := ⟨⟨by decide +kernel, by decide +kernel⟩, List.mem_of_getElem? (i := 1113) (by decide +kernel), List.mem_of_getElem? (i := 1329) (by decide +kernel), List.mem_of_getElem? (i := 1330) (by decide +kernel)⟩
theorem lw_p47 : lw_okq (⟨"SilenceForMoneyModel", "bad", "(I)Z"⟩, 25) := ⟨⟨by decide +kernel, by decide +kernel⟩, List.mem_of_getElem? (i := 1113) (by decide +kernel), List.mem_of_getElem? (i := 1333) (by decide +kernel), List.mem_of_getElem? (i := 1334) (by decide +kernel)⟩
def lw_privs_3 : List (MethodName × Nat) := [(⟨"SilenceForMoneyModel", "hushes", "(I)V"⟩, 25), (⟨"SilenceForMoneyModel", "gives", "(III)V"⟩, 25), (⟨"SilenceForMoneyModel", "isOne", "(I)Z"⟩, 25), (⟨"SilenceForMoneyModel", "own", "(II)I"⟩, 25), (⟨"SilenceForMoneyModel", "lays0", "(III)V"⟩, 25), (⟨"SilenceForMoneyModel", "isDebt", "(I)Z"⟩, 25), (⟨"SilenceForMoneyModel", "debtOf", "(II)I"⟩, 25), (⟨"SilenceForMoneyModel", "workerOf", "(I)I"⟩, 25), (⟨"SilenceForMoneyModel", "next0", "()V"⟩, 25), (⟨"SilenceForMoneyModel", "see", "(I)I"⟩, 25), (⟨"SilenceForMoneyModel", "word0", "()I"⟩, 25), (⟨"SilenceForMoneyModel", "is", "(Ljava/lang/String;)Z"⟩, 25), (⟨"SilenceForMoneyModel", "lawWord", "()I"⟩, 25), (⟨"SilenceForMoneyModel", "ruleWord", "()I"⟩, 25), (⟨"SilenceForMoneyModel", "aLine", "()Z"⟩, 25), (⟨"SilenceForMoneyModel", "bad", "(I)Z"⟩, 25)]
theorem lw_r3 : ∀ q ∈ lw_privs_3, lw_okq q := List.forall_mem_cons.mpr ⟨lw_p32, List.forall_mem_cons.mpr ⟨lw_p33, List.forall_mem_cons.mpr ⟨lw_p34, List.forall_mem_cons.mpr ⟨lw_p35, List.forall_mem_cons.mpr ⟨lw_p36, List.forall_mem_cons.mpr ⟨lw_p37, List.forall_mem_cons.mpr ⟨lw_p38, List.forall_mem_cons.mpr ⟨lw_p39, List.forall_mem_cons.mpr ⟨lw_p40, List.forall_mem_cons.mpr ⟨lw_p41, List.forall_mem_cons.mpr ⟨lw_p42, List.forall_mem_cons.mpr ⟨lw_p43, List.forall_mem_cons.mpr ⟨lw_p44, List.forall_mem_cons.mpr ⟨lw_p45, List.forall_mem_cons.mpr ⟨lw_p46, List.forall_mem_cons.mpr ⟨lw_p47, fun _ h => absurd h List.not_mem_nil⟩⟩⟩⟩⟩⟩⟩⟩⟩⟩⟩⟩⟩⟩⟩⟩
theorem lw_p48 : lw_okq (⟨"SilenceForMoneyModel", "number", "(II)Z"⟩, 25) := ⟨⟨by decide +kernel, by decide +kernel⟩, List.mem_of_getElem? (i := 1113) (by decide +kernel), List.mem_of_getElem? (i := 1337) (by decide +kernel), List.mem_of_getElem? (i := 1338) (by decide +kernel)⟩
theorem lw_p49 : lw_okq (⟨"SilenceForMoneyModel", "need", "(I)Z"⟩, 25) := ⟨⟨by decide +kernel, by decide +kernel⟩, List.mem_of_getElem? (i := 1113) (by decide +kernel), List.mem_of_getElem? (i := 1341) (by decide +kernel), List.mem_of_getElem? (i := 1342) (by decide +kernel)⟩
theorem lw_p50 : lw_okq (⟨"SilenceForMoneyModel", "any", "()Z"⟩, 25) := ⟨⟨by decide +kernel, by decide +kernel⟩, List.mem_of_getElem? (i := 1113) (by decide +kernel), List.mem_of_getElem? (i := 1345) (by decide +kernel), List.mem_of_getElem? (i := 1346) (by decide +kernel)⟩
theorem lw_p51 : lw_okq (⟨"SilenceForMoneyModel", "every", "()Z"⟩, 25) := ⟨⟨by decide +kernel, by decide +kernel⟩, List.mem_of_getElem? (i := 1113) (by decide +kernel), List.mem_of_getElem? (i := 1349) (by decide +kernel), List.mem_of_getElem? (i := 1350) (by decide +kernel)⟩
theorem lw_p52 : lw_okq (⟨"SilenceForMoneyModel", "one0", "()Z"⟩, 25) := ⟨⟨by decide +kernel, by decide +kernel⟩, List.mem_of_getElem? (i := 1113) (by decide +kernel), List.mem_of_getElem? (i := 1353) (by decide +kernel), List.mem_of_getElem? (i := 1354) (by decide +kernel)⟩
theorem lw_p53 : lw_okq (⟨"SilenceForMoneyModel", "opens", "()Z"⟩, 25) := ⟨⟨by decide +kernel, by decide +kernel⟩, List.mem_of_getElem? (i := 1113) (by decide +kernel), List.mem_of_getElem? (i := 1357) (by decide +kernel), List.mem_of_getElem? (i := 1358) (by decide +kernel)⟩
theorem lw_p54 : lw_okq (⟨"SilenceForMoneyModel", "lay", "(II)V"⟩, 25) := ⟨⟨by decide +kernel, by decide +kernel⟩, List.mem_of_getElem? (i := 1113) (by decide +kernel), List.mem_of_getElem? (i := 1361) (by decide +kernel), List.mem_of_getElem? (i := 1362) (by decide +kernel)⟩
theorem lw_p55 : lw_okq (⟨"SilenceForMoneyModel", "sumUp", "()Z"⟩, 25) := ⟨⟨by decide +kernel, by decide +kernel⟩, List.mem_of_getElem? (i := 1113) (by decide +kernel), List.mem_of_getElem? (i := 1365) (by decide +kernel), List.mem_of_getElem? (i := 1366) (by decide +kernel)⟩
theorem lw_p56 : lw_okq (⟨"SilenceForMoneyModel", "product", "()Z"⟩, 25) := ⟨⟨by decide +kernel, by decide +kernel⟩, List.mem_of_getElem? (i := 1113) (by decide +kernel), List.mem_of_getElem? (i := 1369) (by decide +kernel), List.mem_of_getElem? (i := 1370) (by decide +kernel)⟩
theorem lw_p57 : lw_okq (⟨"SilenceForMoneyModel", "unit", "()Z"⟩, 25) := ⟨⟨by decide +kernel, by decide +kernel⟩, List.mem_of_getElem? (i := 1113) (by decide +kernel), List.mem_of_getElem? (i := 1373) (by decide +kernel), List.mem_of_getElem? (i := 1374) (by decide +kernel)⟩
theorem lw_p58 : lw_okq (⟨"SilenceForMoneyModel", "isWord", "(IIIIZZ)Z"⟩, 25) := ⟨⟨by decide +kernel, by decide +kernel⟩, List.mem_of_getElem? (i := 1113) (by decide +kernel), List.mem_of_getElem? (i := 1385) (by decide +kernel), List.mem_of_getElem? (i := 1386) (by decide +kernel)⟩
theorem lw_p59 : lw_okq (⟨"SilenceForMoneyModel", "firstLine", "(I)I"⟩, 25) := ⟨⟨by decide +kernel, by decide +kernel⟩, List.mem_of_getElem? (i := 1113) (by decide +kernel), List.mem_of_getElem? (i := 1392) (by decide +kernel), List.mem_of_getElem? (i := 1393) (by decide +kernel)⟩
theorem lw_p60 : lw_okq (⟨"SilenceForMoneyModel", "comesTo", "(III)I"⟩, 25) := ⟨⟨by decide +kernel, by decide +kernel⟩, List.mem_of_getElem? (i := 1113) (by decide +kernel), List.mem_of_getElem? (i := 1396) (by decide +kernel), List.mem_of_getElem? (i := 1397) (by decide +kernel)⟩
theorem lw_p61 : lw_okq (⟨"SilenceForMoneyModel", "ruled", "(I)I"⟩, 25) := ⟨⟨by decide +kernel, by decide +kernel⟩, List.mem_of_getElem? (i := 1113) (by decide +kernel), List.mem_of_getElem? (i := 1407) (by decide +kernel), List.mem_of_getElem? (i := 1408) (by decide +kernel)⟩
theorem lw_p62 : lw_okq (⟨"SilenceForMoneyModel", "hourNow", "()I"⟩, 25) := ⟨⟨by decide +kernel, by decide +kernel⟩, List.mem_of_getElem? (i := 1113) (by decide +kernel), List.mem_of_getElem? (i := 1411) (by decide +kernel), List.mem_of_getElem? (i := 1412) (by decide +kernel)⟩
theorem lw_p63 : lw_okq (⟨"SilenceForMoneyModel", "isFeast", "(I)Z"⟩, 25) := ⟨⟨by decide +kernel, by decide +kernel⟩, List.mem_of_getElem? (i := 1113) (by decide +kernel), List.mem_of_getElem? (i := 1415) (by decide +kernel), List.mem_of_getElem? (i := 1416) (by decide +kernel)⟩
def lw_privs_4 : List (MethodName × Nat) := [(⟨"SilenceForMoneyModel", "number", "(II)Z"⟩, 25), (⟨"SilenceForMoneyModel", "need", "(I)Z"⟩, 25), (⟨"SilenceForMoneyModel", "any", "()Z"⟩, 25), (⟨"SilenceForMoneyModel", "every", "()Z"⟩, 25), (⟨"SilenceForMoneyModel", "one0", "()Z"⟩, 25), (⟨"SilenceForMoneyModel", "opens", "()Z"⟩, 25), (⟨"SilenceForMoneyModel", "lay", "(II)V"⟩, 25), (⟨"SilenceForMoneyModel", "sumUp", "()Z"⟩, 25), (⟨"SilenceForMoneyModel", "product", "()Z"⟩, 25), (⟨"SilenceForMoneyModel", "unit", "()Z"⟩, 25), (⟨"SilenceForMoneyModel", "isWord", "(IIIIZZ)Z"⟩, 25), (⟨"SilenceForMoneyModel", "firstLine", "(I)I"⟩, 25), (⟨"SilenceForMoneyModel", "comesTo", "(III)I"⟩, 25), (⟨"SilenceForMoneyModel", "ruled", "(I)I"⟩, 25), (⟨"SilenceForMoneyModel", "hourNow", "()I"⟩, 25), (⟨"SilenceForMoneyModel", "isFeast", "(I)Z"⟩, 25)]
theorem lw_r4 : ∀ q ∈ lw_privs_4, lw_okq q := List.forall_mem_cons.mpr ⟨lw_p48, List.forall_mem_cons.mpr ⟨lw_p49, List.forall_mem_cons.mpr ⟨lw_p50, List.forall_mem_cons.mpr ⟨lw_p51, List.forall_mem_cons.mpr ⟨lw_p52, List.forall_mem_cons.mpr ⟨lw_p53, List.forall_mem_cons.mpr ⟨lw_p54, List.forall_mem_cons.mpr ⟨lw_p55, List.forall_mem_cons.mpr ⟨lw_p56, List.forall_mem_cons.mpr ⟨lw_p57, List.forall_mem_cons.mpr ⟨lw_p58, List.forall_mem_cons.mpr ⟨lw_p59, List.forall_mem_cons.mpr ⟨lw_p60, List.forall_mem_cons.mpr ⟨lw_p61, List.forall_mem_cons.mpr ⟨lw_p62, List.forall_mem_cons.mpr ⟨lw_p63, fun _ h => absurd h List.not_mem_nil⟩⟩⟩⟩⟩⟩⟩⟩⟩⟩⟩⟩⟩⟩⟩⟩
theorem lw_p64 : lw_okq (⟨"SilenceForMoneyModel", "left", "(II)I"⟩, 25) := ⟨⟨by decide +kernel, by decide +kernel⟩, List.mem_of_getElem? (i := 1113) (by decide +kernel), List.mem_of_getElem? (i := 1419) (by decide +kernel), List.mem_of_getElem? (i := 1420) (by decide +kernel)⟩
theorem lw_p65 : lw_okq (⟨"SilenceForMoneyModel", "aQuarter", "()V"⟩, 25) := ⟨⟨by decide +kernel, by decide +kernel⟩, List.mem_of_getElem? (i := 1113) (by decide +kernel), List.mem_of_getElem? (i := 1431) (by decide +kernel), List.mem_of_getElem? (i := 1432) (by decide +kernel)⟩
theorem lw_p66 : lw_okq (⟨"SilenceForMoneyModel", "makesNoise", "(I)V"⟩, 25) := ⟨⟨by decide +kernel, by decide +kernel⟩, List.mem_of_getElem? (i := 1113) (by decide +kernel), List.mem_of_getElem? (i := 1435) (by decide +kernel), List.mem_of_getElem? (i := 1436) (by decide +kernel)⟩
theorem lw_p67 : lw_okq (⟨"SilenceForMoneyModel", "draw", "(I)I"⟩, 25) := ⟨⟨by decide +kernel, by decide +kernel⟩, List.mem_of_getElem? (i := 1113) (by decide +kernel), List.mem_of_getElem? (i := 1439) (by decide +kernel), List.mem_of_getElem? (i := 1440) (by decide +kernel)⟩
theorem lw_p68 : lw_okq (⟨"SilenceForMoneyModel", "sounds", "(III)V"⟩, 25) := ⟨⟨by decide +kernel, by decide +kernel⟩, List.mem_of_getElem? (i := 1113) (by decide +kernel), List.mem_of_getElem? (i := 1445) (by decide +kernel), List.mem_of_getElem? (i := 1446) (by decide +kernel)⟩
theorem lw_p69 : lw_okq (⟨"SilenceForMoneyModel", "writes", "(III)V"⟩, 25) := ⟨⟨by decide +kernel, by decide +kernel⟩, List.mem_of_getElem? (i := 1113) (by decide +kernel), List.mem_of_getElem? (i := 1449) (by decide +kernel), List.mem_of_getElem? (i := 1450) (by decide +kernel)⟩
theorem lw_p70 : lw_okq (⟨"SilenceForMoneyModel", "keptFor", "(I)I"⟩, 25) := ⟨⟨by decide +kernel, by decide +kernel⟩, List.mem_of_getElem? (i := 1113) (by decide +kernel), List.mem_of_getElem? (i := 1453) (by decide +kernel), List.mem_of_getElem? (i := 1454) (by decide +kernel)⟩
theorem lw_p71 : lw_okq (⟨"SilenceForMoneyModel", "keeps", "(II)V"⟩, 25) := ⟨⟨by decide +kernel, by decide +kernel⟩, List.mem_of_getElem? (i := 1113) (by decide +kernel), List.mem_of_getElem? (i := 1457) (by decide +kernel), List.mem_of_getElem? (i := 1458) (by decide +kernel)⟩
theorem lw_p72 : lw_okq (⟨"SilenceForMoneyModel", "isBetrayed", "(I)Z"⟩, 25) := ⟨⟨by decide +kernel, by decide +kernel⟩, List.mem_of_getElem? (i := 1113) (by decide +kernel), List.mem_of_getElem? (i := 1461) (by decide +kernel), List.mem_of_getElem? (i := 1462) (by decide +kernel)⟩
theorem lw_p73 : lw_okq (⟨"SilenceForMoneyModel", "isHeard", "(I)Z"⟩, 25) := ⟨⟨by decide +kernel, by decide +kernel⟩, List.mem_of_getElem? (i := 1113) (by decide +kernel), List.mem_of_getElem? (i := 1465) (by decide +kernel), List.mem_of_getElem? (i := 1466) (by decide +kernel)⟩
theorem lw_p74 : lw_okq (⟨"SilenceForMoneyModel", "isLeft", "(I)Z"⟩, 25) := ⟨⟨by decide +kernel, by decide +kernel⟩, List.mem_of_getElem? (i := 1113) (by decide +kernel), List.mem_of_getElem? (i := 1473) (by decide +kernel), List.mem_of_getElem? (i := 1474) (by decide +kernel)⟩
theorem lw_p75 : lw_okq (⟨"SilenceForMoneyModel", "begins", "(III)V"⟩, 25) := ⟨⟨by decide +kernel, by decide +kernel⟩, List.mem_of_getElem? (i := 1113) (by decide +kernel), List.mem_of_getElem? (i := 1477) (by decide +kernel), List.mem_of_getElem? (i := 1478) (by decide +kernel)⟩
theorem lw_p76 : lw_okq (⟨"SilenceForMoneyModel", "pays", "(III)V"⟩, 25) := ⟨⟨by decide +kernel, by decide +kernel⟩, List.mem_of_getElem? (i := 1113) (by decide +kernel), List.mem_of_getElem? (i := 1481) (by decide +kernel), List.mem_of_getElem? (i := 1482) (by decide +kernel)⟩
theorem lw_p77 : lw_okq (⟨"SilenceForMoneyModel", "isOf", "(I)V"⟩, 25) := ⟨⟨by decide +kernel, by decide +kernel⟩, List.mem_of_getElem? (i := 1113) (by decide +kernel), List.mem_of_getElem? (i := 1485) (by decide +kernel), List.mem_of_getElem? (i := 1486) (by decide +kernel)⟩
theorem lw_p78 : lw_okq (⟨"SilenceForMoneyModel", "ends", "()V"⟩, 25) := ⟨⟨by decide +kernel, by decide +kernel⟩, List.mem_of_getElem? (i := 1113) (by decide +kernel), List.mem_of_getElem? (i := 1489) (by decide +kernel), List.mem_of_getElem? (i := 1490) (by decide +kernel)⟩
theorem lw_p79 : lw_okq (⟨"SilenceForMoneyModel", "isIt", "(II)Z"⟩, 25) := ⟨⟨by decide +kernel, by decide +kernel⟩, List.mem_of_getElem? (i := 1113) (by decide +kernel), List.mem_of_getElem? (i := 1509) (by decide +kernel), List.mem_of_getElem? (i := 1510) (by decide +kernel)⟩
def lw_privs_5 : List (MethodName × Nat) := [(⟨"SilenceForMoneyModel", "left", "(II)I"⟩, 25), (⟨"SilenceForMoneyModel", "aQuarter", "()V"⟩, 25), (⟨"SilenceForMoneyModel", "makesNoise", "(I)V"⟩, 25), (⟨"SilenceForMoneyModel", "draw", "(I)I"⟩, 25), (⟨"SilenceForMoneyModel", "sounds", "(III)V"⟩, 25), (⟨"SilenceForMoneyModel", "writes", "(III)V"⟩, 25), (⟨"SilenceForMoneyModel", "keptFor", "(I)I"⟩, 25), (⟨"SilenceForMoneyModel", "keeps", "(II)V"⟩, 25), (⟨"SilenceForMoneyModel", "isBetrayed", "(I)Z"⟩, 25), (⟨"SilenceForMoneyModel", "isHeard", "(I)Z"⟩, 25), (⟨"SilenceForMoneyModel", "isLeft", "(I)Z"⟩, 25), (⟨"SilenceForMoneyModel", "begins", "(III)V"⟩, 25), (⟨"SilenceForMoneyModel", "pays", "(III)V"⟩, 25), (⟨"SilenceForMoneyModel", "isOf", "(I)V"⟩, 25), (⟨"SilenceForMoneyModel", "ends", "()V"⟩, 25), (⟨"SilenceForMoneyModel", "isIt", "(II)Z"⟩, 25)]
theorem lw_r5 : ∀ q ∈ lw_privs_5, lw_okq q := List.forall_mem_cons.mpr ⟨lw_p64, List.forall_mem_cons.mpr ⟨lw_p65, List.forall_mem_cons.mpr ⟨lw_p66, List.forall_mem_cons.mpr ⟨lw_p67, List.forall_mem_cons.mpr ⟨lw_p68, List.forall_mem_cons.mpr ⟨lw_p69, List.forall_mem_cons.mpr ⟨lw_p70, List.forall_mem_cons.mpr ⟨lw_p71, List.forall_mem_cons.mpr ⟨lw_p72, List.forall_mem_cons.mpr ⟨lw_p73, List.forall_mem_cons.mpr ⟨lw_p74, List.forall_mem_cons.mpr ⟨lw_p75, List.forall_mem_cons.mpr ⟨lw_p76, List.forall_mem_cons.mpr ⟨lw_p77, List.forall_mem_cons.mpr ⟨lw_p78, List.forall_mem_cons.mpr ⟨lw_p79, fun _ h => absurd h List.not_mem_nil⟩⟩⟩⟩⟩⟩⟩⟩⟩⟩⟩⟩⟩⟩⟩⟩
theorem lw_p80 : lw_okq (⟨"SilenceForMoneyModel", "alone", "()I"⟩, 25) := ⟨⟨by decide +kernel, by decide +kernel⟩, List.mem_of_getElem? (i := 1113) (by decide +kernel), List.mem_of_getElem? (i := 1517) (by decide +kernel), List.mem_of_getElem? (i := 1518) (by decide +kernel)⟩
theorem lw_p81 : lw_okq (⟨"SilenceForMoneyModel", "greatest", "()I"⟩, 25) := ⟨⟨by decide +kernel, by decide +kernel⟩, List.mem_of_getElem? (i := 1113) (by decide +kernel), List.mem_of_getElem? (i := 1521) (by decide +kernel), List.mem_of_getElem? (i := 1522) (by decide +kernel)⟩
theorem lw_p82 : lw_okq (⟨"SilenceForMoneyModel", "mays", "()I"⟩, 25) := ⟨⟨by decide +kernel, by decide +kernel⟩, List.mem_of_getElem? (i := 1113) (by decide +kernel), List.mem_of_getElem? (i := 1525) (by decide +kernel), List.mem_of_getElem? (i := 1526) (by decide +kernel)⟩
theorem lw_p83 : lw_okq (⟨"SilenceForMoneyModel", "within", "(I)I"⟩, 25) := ⟨⟨by decide +kernel, by decide +kernel⟩, List.mem_of_getElem? (i := 1113) (by decide +kernel), List.mem_of_getElem? (i := 1529) (by decide +kernel), List.mem_of_getElem? (i := 1530) (by decide +kernel)⟩
theorem lw_p84 : lw_okq (⟨"SilenceForMoneyModel", "canSay", "(IIIZI)Z"⟩, 25) := ⟨⟨by decide +kernel, by decide +kernel⟩, List.mem_of_getElem? (i := 1113) (by decide +kernel), List.mem_of_getElem? (i := 1543) (by decide +kernel), List.mem_of_getElem? (i := 1544) (by decide +kernel)⟩
theorem lw_p85 : lw_okq (⟨"SilenceForMoneyModel", "canBe", "(IIIIIZI)Z"⟩, 25) := ⟨⟨by decide +kernel, by decide +kernel⟩, List.mem_of_getElem? (i := 1113) (by decide +kernel), List.mem_of_getElem? (i := 1547) (by decide +kernel), List.mem_of_getElem? (i := 1548) (by decide +kernel)⟩
theorem lw_p86 : lw_okq (⟨"SilenceForMoneyModel", "setsOut", "()V"⟩, 25) := ⟨⟨by decide +kernel, by decide +kernel⟩, List.mem_of_getElem? (i := 1113) (by decide +kernel), List.mem_of_getElem? (i := 1555) (by decide +kernel), List.mem_of_getElem? (i := 1556) (by decide +kernel)⟩
theorem lw_p87 : lw_okq (⟨"SilenceForMoneyModel", "comesBack", "()V"⟩, 25) := ⟨⟨by decide +kernel, by decide +kernel⟩, List.mem_of_getElem? (i := 1113) (by decide +kernel), List.mem_of_getElem? (i := 1559) (by decide +kernel), List.mem_of_getElem? (i := 1560) (by decide +kernel)⟩
theorem lw_p88 : lw_okq (⟨"SilenceForMoneyModel", "leads", "(II)V"⟩, 25) := ⟨⟨by decide +kernel, by decide +kernel⟩, List.mem_of_getElem? (i := 1113) (by decide +kernel), List.mem_of_getElem? (i := 1567) (by decide +kernel), List.mem_of_getElem? (i := 1568) (by decide +kernel)⟩
def lw_privs_6 : List (MethodName × Nat) := [(⟨"SilenceForMoneyModel", "alone", "()I"⟩, 25), (⟨"SilenceForMoneyModel", "greatest", "()I"⟩, 25), (⟨"SilenceForMoneyModel", "mays", "()I"⟩, 25), (⟨"SilenceForMoneyModel", "within", "(I)I"⟩, 25), (⟨"SilenceForMoneyModel", "canSay", "(IIIZI)Z"⟩, 25), (⟨"SilenceForMoneyModel", "canBe", "(IIIIIZI)Z"⟩, 25), (⟨"SilenceForMoneyModel", "setsOut", "()V"⟩, 25), (⟨"SilenceForMoneyModel", "comesBack", "()V"⟩, 25), (⟨"SilenceForMoneyModel", "leads", "(II)V"⟩, 25)]
theorem lw_r6 : ∀ q ∈ lw_privs_6, lw_okq q := List.forall_mem_cons.mpr ⟨lw_p80, List.forall_mem_cons.mpr ⟨lw_p81, List.forall_mem_cons.mpr ⟨lw_p82, List.forall_mem_cons.mpr ⟨lw_p83, List.forall_mem_cons.mpr ⟨lw_p84, List.forall_mem_cons.mpr ⟨lw_p85, List.forall_mem_cons.mpr ⟨lw_p86, List.forall_mem_cons.mpr ⟨lw_p87, List.forall_mem_cons.mpr ⟨lw_p88, fun _ h => absurd h List.not_mem_nil⟩⟩⟩⟩⟩⟩⟩⟩⟩
def lw_privs : List (MethodName × Nat) := lw_privs_1 ++ (lw_privs_2 ++ (lw_privs_3 ++ (lw_privs_4 ++ (lw_privs_5 ++ (lw_privs_6)))))
def lw_tbl : List Cond := k2_sels lw_privs ++ tables_1
theorem lw_privs_ok : ∀ q ∈ lw_privs, lw_okq q := by
  show ∀ q ∈ lw_privs_1 ++ (lw_privs_2 ++ (lw_privs_3 ++ (lw_privs_4 ++ (lw_privs_5 ++ (lw_privs_6))))), lw_okq q
  exact List.forall_mem_append.mpr ⟨lw_r1, List.forall_mem_append.mpr ⟨lw_r2, List.forall_mem_append.mpr ⟨lw_r3, List.forall_mem_append.mpr ⟨lw_r4, List.forall_mem_append.mpr ⟨lw_r5, lw_r6⟩⟩⟩⟩⟩
-- ===== end of PART A; then your names; then what follows =====
end
section
def RX0 : String := "SilenceForMoney$Bargain"
def TX0 : u_T := fun k => match k with
  | 0 => ("SilenceForMoney$Bargain", "payer", "I", true)
  | 1 => ("SilenceForMoney$Bargain", "payee", "I", true)
  | 2 => ("SilenceForMoney$Bargain", "price", "I", true)
  | 3 => ("SilenceForMoney$Bargain", "rows", "[I", true)
  | 4 => ("SilenceForMoney$Bargain", "taken", "I", false)
  | _ => ("SilenceForMoney$Bargain", "born", "I", false)
def tyX0 : Nat → FieldType := fun k => match k with
  | 0 => .int
  | 1 => .int
  | 2 => .int
  | 3 => .array .int
  | 4 => .int
  | _ => .int
abbrev wsX00 : List Cond := u_ws RX0 TX0 6
theorem nmX0 : ∀ a, a < 6 → ∀ b, b < 6 → a ≠ b → (TX0 a).2.1 ≠ (TX0 b).2.1 := by decide +kernel
theorem tyX0_ok : ∀ k, k < 6 → parseFieldDescriptor (TX0 k).2.2.1 = some (tyX0 k) := by decide +kernel
abbrev cX0_init : ByteArray := prog_2_method_1_code
def yX0_init : MethodName := ⟨RX0, "<init>", "(IIII)V"⟩
abbrev cX0_takeIn : ByteArray := prog_2_method_2_code
def yX0_takeIn : MethodName := ⟨RX0, "takeIn", "(LSilenceForMoney$Debts;I)V"⟩
abbrev cX0_leaves : ByteArray := prog_2_method_3_code
def yX0_leaves : MethodName := ⟨RX0, "leaves", "(I)V"⟩
abbrev cX0_bears : ByteArray := prog_2_method_4_code
def yX0_bears : MethodName := ⟨RX0, "bears", "(I)V"⟩
abbrev cX0_canGoBack : ByteArray := prog_2_method_5_code
def yX0_canGoBack : MethodName := ⟨RX0, "canGoBack", "(LSilenceForMoney$Debts;)Z"⟩
abbrev cX0_goBack : ByteArray := prog_2_method_6_code
def yX0_goBack : MethodName := ⟨RX0, "goBack", "(LSilenceForMoney$Debts;LSilenceForMoney$People;)V"⟩
def RX1 : String := "SilenceForMoney$Bargains"
def TX1 : u_T := fun k => match k with
  | 0 => ("SilenceForMoney$Bargains", "count", "I", false)
  | _ => ("SilenceForMoney$Bargains", "rows", "[LSilenceForMoney$Bargain;", true)
def tyX1 : Nat → FieldType := fun k => match k with
  | 0 => .int
  | _ => .array (.object "SilenceForMoney$Bargain")
abbrev wsX10 : List Cond := u_ws RX1 TX1 2
theorem nmX1 : ∀ a, a < 2 → ∀ b, b < 2 → a ≠ b → (TX1 a).2.1 ≠ (TX1 b).2.1 := by decide +kernel
theorem tyX1_ok : ∀ k, k < 2 → parseFieldDescriptor (TX1 k).2.2.1 = some (tyX1 k) := by decide +kernel
abbrev cX1_init : ByteArray := prog_3_method_1_code
def yX1_init : MethodName := ⟨RX1, "<init>", "()V"⟩
abbrev cX1_copyFrom : ByteArray := prog_3_method_2_code
def yX1_copyFrom : MethodName := ⟨RX1, "copyFrom", "(LSilenceForMoney$Bargains;)V"⟩
abbrev cX1_keep : ByteArray := prog_3_method_3_code
def yX1_keep : MethodName := ⟨RX1, "keep", "(LSilenceForMoney$Bargain;)V"⟩
abbrev cX1_lendOn : ByteArray := prog_3_method_4_code
def yX1_lendOn : MethodName := ⟨RX1, "lendOn", "(LSilenceForMoney$Debts;LSilenceForMoney$People;III)Z"⟩
abbrev cX1_splitOff : ByteArray := prog_3_method_5_code
def yX1_splitOff : MethodName := ⟨RX1, "splitOff", "(LSilenceForMoney$Debts;II)I"⟩
abbrev cX1_handDown : ByteArray := prog_3_method_6_code
def yX1_handDown : MethodName := ⟨RX1, "handDown", "(LSilenceForMoney$Debts;II)I"⟩
abbrev cX1_sellOn : ByteArray := prog_3_method_7_code
def yX1_sellOn : MethodName := ⟨RX1, "sellOn", "(LSilenceForMoney$Debts;LSilenceForMoney$People;III)Z"⟩
abbrev cX1_goBack : ByteArray := prog_3_method_8_code
def yX1_goBack : MethodName := ⟨RX1, "goBack", "(LSilenceForMoney$Debts;LSilenceForMoney$People;)Z"⟩
def RX2 : String := "SilenceForMoney$Book"
def TX2 : u_T := fun k => match k with
  | 0 => ("SilenceForMoney$Book", "most", "I", true)
  | 1 => ("SilenceForMoney$Book", "lines", "[I", true)
  | 2 => ("SilenceForMoney$Book", "count", "I", false)
  | 3 => ("SilenceForMoney$Book", "paid", "I", false)
  | 4 => ("SilenceForMoney$Book", "again", "I", false)
  | 5 => ("SilenceForMoney$Book", "falseStrikes", "I", false)
  | _ => ("SilenceForMoney$Book", "spoke", "I", false)
def tyX2 : Nat → FieldType := fun k => match k with
  | 0 => .int
  | 1 => .array .int
  | 2 => .int
  | 3 => .int
  | 4 => .int
  | 5 => .int
  | _ => .int
abbrev wsX20 : List Cond := u_ws RX2 TX2 7
theorem nmX2 : ∀ a, a < 7 → ∀ b, b < 7 → a ≠ b → (TX2 a).2.1 ≠ (TX2 b).2.1 := by decide +kernel
theorem tyX2_ok : ∀ k, k < 7 → parseFieldDescriptor (TX2 k).2.2.1 = some (tyX2 k) := by decide +kernel
abbrev cX2_init : ByteArray := prog_4_method_1_code
def yX2_init : MethodName := ⟨RX2, "<init>", "(I)V"⟩
abbrev cX2_copyFrom : ByteArray := prog_4_method_2_code
def yX2_copyFrom : MethodName := ⟨RX2, "copyFrom", "(LSilenceForMoney$Book;)V"⟩
abbrev cX2_write : ByteArray := prog_4_method_3_code
def yX2_write : MethodName := ⟨RX2, "write", "(LSilenceForMoney$Time;III)V"⟩
abbrev cX2_isBetterThan : ByteArray := prog_4_method_4_code
def yX2_isBetterThan : MethodName := ⟨RX2, "isBetterThan", "(II)Z"⟩
abbrev cX2_countOf : ByteArray := prog_4_method_5_code
def yX2_countOf : MethodName := ⟨RX2, "countOf", "(I)I"⟩
def RX3 : String := "SilenceForMoney$Debts"
def TX3 : u_T := fun k => match k with
  | 0 => ("SilenceForMoney$Debts", "count", "I", false)
  | 1 => ("SilenceForMoney$Debts", "debtor", "[I", true)
  | 2 => ("SilenceForMoney$Debts", "creditor", "[I", true)
  | 3 => ("SilenceForMoney$Debts", "left", "[I", true)
  | 4 => ("SilenceForMoney$Debts", "part", "[I", true)
  | 5 => ("SilenceForMoney$Debts", "proxy", "[I", true)
  | 6 => ("SilenceForMoney$Debts", "helperSet", "[I", true)
  | 7 => ("SilenceForMoney$Debts", "paid", "[I", true)
  | 8 => ("SilenceForMoney$Debts", "may", "[I", true)
  | 9 => ("SilenceForMoney$Debts", "owes", "[I", true)
  | _ => ("SilenceForMoney$Debts", "owed", "[I", true)
def tyX3 : Nat → FieldType := fun k => match k with
  | 0 => .int
  | 1 => .array .int
  | 2 => .array .int
  | 3 => .array .int
  | 4 => .array .int
  | 5 => .array .int
  | 6 => .array .int
  | 7 => .array .int
  | 8 => .array .int
  | 9 => .array .int
  | _ => .array .int
abbrev wsX30 : List Cond := u_ws RX3 TX3 11
theorem nmX3 : ∀ a, a < 11 → ∀ b, b < 11 → a ≠ b → (TX3 a).2.1 ≠ (TX3 b).2.1 := by decide +kernel
theorem tyX3_ok : ∀ k, k < 11 → parseFieldDescriptor (TX3 k).2.2.1 = some (tyX3 k) := by decide +kernel
abbrev cX3_init : ByteArray := prog_5_method_1_code
def yX3_init : MethodName := ⟨RX3, "<init>", "()V"⟩
abbrev cX3_copyFrom : ByteArray := prog_5_method_2_code
def yX3_copyFrom : MethodName := ⟨RX3, "copyFrom", "(LSilenceForMoney$Debts;)V"⟩
abbrev cX3_has : ByteArray := prog_5_method_3_code
def yX3_has : MethodName := ⟨RX3, "has", "(I)Z"⟩
abbrev cX3_isOpen : ByteArray := prog_5_method_4_code
def yX3_isOpen : MethodName := ⟨RX3, "isOpen", "(I)Z"⟩
abbrev cX3_isOpenWith : ByteArray := prog_5_method_5_code
def yX3_isOpenWith : MethodName := ⟨RX3, "isOpenWith", "(II)Z"⟩
abbrev cX3_openCountWith : ByteArray := prog_5_method_6_code
def yX3_openCountWith : MethodName := ⟨RX3, "openCountWith", "(I)I"⟩
abbrev cX3_handDown : ByteArray := prog_5_method_7_code
def yX3_handDown : MethodName := ⟨RX3, "handDown", "(III)V"⟩
abbrev cX3_add : ByteArray := prog_5_method_8_code
def yX3_add : MethodName := ⟨RX3, "add", "(III)I"⟩
abbrev cX3_workerOf : ByteArray := prog_5_method_9_code
def yX3_workerOf : MethodName := ⟨RX3, "workerOf", "(I)I"⟩
abbrev cX3_tellOf : ByteArray := prog_5_method_10_code
def yX3_tellOf : MethodName := ⟨RX3, "tellOf", "(II)I"⟩
abbrev cX3_allHours : ByteArray := prog_5_method_11_code
def yX3_allHours : MethodName := ⟨RX3, "allHours", "()I"⟩
abbrev cX3_doneCount : ByteArray := prog_5_method_12_code
def yX3_doneCount : MethodName := ⟨RX3, "doneCount", "()I"⟩
abbrev cX3_hoursOf : ByteArray := prog_5_method_13_code
def yX3_hoursOf : MethodName := ⟨RX3, "hoursOf", "(II)I"⟩
abbrev cX3_tally : ByteArray := prog_5_method_14_code
def yX3_tally : MethodName := ⟨RX3, "tally", "()V"⟩
abbrev cX3_goesAhead : ByteArray := prog_5_method_15_code
def yX3_goesAhead : MethodName := ⟨RX3, "goesAhead", "(III)Z"⟩
abbrev cX3_findWhoMay : ByteArray := prog_5_method_16_code
def yX3_findWhoMay : MethodName := ⟨RX3, "findWhoMay", "(LSilenceForMoney$People;)Z"⟩
abbrev cX3_greatestLeft : ByteArray := prog_5_method_17_code
def yX3_greatestLeft : MethodName := ⟨RX3, "greatestLeft", "()I"⟩
abbrev cX3_hoursOnlyFor : ByteArray := prog_5_method_18_code
def yX3_hoursOnlyFor : MethodName := ⟨RX3, "hoursOnlyFor", "(I)I"⟩
abbrev cX3_bestHours : ByteArray := prog_5_method_19_code
def yX3_bestHours : MethodName := ⟨RX3, "bestHours", "(I)I"⟩
abbrev cX3_boundHours : ByteArray := prog_5_method_20_code
def yX3_boundHours : MethodName := ⟨RX3, "boundHours", "()I"⟩
abbrev cX3_aloneHours : ByteArray := prog_5_method_21_code
def yX3_aloneHours : MethodName := ⟨RX3, "aloneHours", "()I"⟩
def RX4 : String := "SilenceForMoney$People"
def TX4 : u_T := fun k => match k with
  | 0 => ("SilenceForMoney$People", "count", "I", false)
  | 1 => ("SilenceForMoney$People", "sort", "[I", true)
  | 2 => ("SilenceForMoney$People", "place", "[I", true)
  | 3 => ("SilenceForMoney$People", "loud", "[I", true)
  | 4 => ("SilenceForMoney$People", "whispers", "[I", true)
  | 5 => ("SilenceForMoney$People", "rule", "[I", true)
  | 6 => ("SilenceForMoney$People", "coin", "[I", true)
  | 7 => ("SilenceForMoney$People", "parent", "[I", true)
  | 8 => ("SilenceForMoney$People", "noiseSort", "[I", true)
  | 9 => ("SilenceForMoney$People", "noiseLoud", "[I", true)
  | _ => ("SilenceForMoney$People", "noiseWord", "[I", true)
def tyX4 : Nat → FieldType := fun k => match k with
  | 0 => .int
  | 1 => .array .int
  | 2 => .array .int
  | 3 => .array .int
  | 4 => .array .int
  | 5 => .array .int
  | 6 => .array .int
  | 7 => .array .int
  | 8 => .array .int
  | 9 => .array .int
  | _ => .array .int
abbrev wsX40 : List Cond := u_ws RX4 TX4 11
theorem nmX4 : ∀ a, a < 11 → ∀ b, b < 11 → a ≠ b → (TX4 a).2.1 ≠ (TX4 b).2.1 := by decide +kernel
theorem tyX4_ok : ∀ k, k < 11 → parseFieldDescriptor (TX4 k).2.2.1 = some (tyX4 k) := by decide +kernel
abbrev cX4_init : ByteArray := prog_6_method_1_code
def yX4_init : MethodName := ⟨RX4, "<init>", "()V"⟩
abbrev cX4_copyFrom : ByteArray := prog_6_method_2_code
def yX4_copyFrom : MethodName := ⟨RX4, "copyFrom", "(LSilenceForMoney$People;)V"⟩
abbrev cX4_has : ByteArray := prog_6_method_3_code
def yX4_has : MethodName := ⟨RX4, "has", "(I)Z"⟩
abbrev cX4_isNoChild : ByteArray := prog_6_method_4_code
def yX4_isNoChild : MethodName := ⟨RX4, "isNoChild", "(I)Z"⟩
abbrev cX4_add : ByteArray := prog_6_method_5_code
def yX4_add : MethodName := ⟨RX4, "add", "(IIIII)I"⟩
abbrev cX4_giveParent : ByteArray := prog_6_method_6_code
def yX4_giveParent : MethodName := ⟨RX4, "giveParent", "(II)Z"⟩
abbrev cX4_change : ByteArray := prog_6_method_7_code
def yX4_change : MethodName := ⟨RX4, "change", "(III)V"⟩
abbrev cX4_tellOf : ByteArray := prog_6_method_8_code
def yX4_tellOf : MethodName := ⟨RX4, "tellOf", "(II)I"⟩
abbrev cX4_hush : ByteArray := prog_6_method_9_code
def yX4_hush : MethodName := ⟨RX4, "hush", "(I)V"⟩
abbrev cX4_noiseOf : ByteArray := prog_6_method_10_code
def yX4_noiseOf : MethodName := ⟨RX4, "noiseOf", "(II)I"⟩
abbrev cX4_othersWith : ByteArray := prog_6_method_11_code
def yX4_othersWith : MethodName := ⟨RX4, "othersWith", "(I)I"⟩
abbrev cX4_noChildren : ByteArray := prog_6_method_12_code
def yX4_noChildren : MethodName := ⟨RX4, "noChildren", "()I"⟩
abbrev cX4_pay : ByteArray := prog_6_method_13_code
def yX4_pay : MethodName := ⟨RX4, "pay", "(III)V"⟩
def RX5 : String := "SilenceForMoney$Reader"
def TX5 : u_T := fun k => match k with
  | 0 => ("SilenceForMoney$Reader", "fault", "I", false)
  | 1 => ("SilenceForMoney$Reader", "faultPlace", "I", false)
  | 2 => ("SilenceForMoney$Reader", "isLaw", "Z", false)
  | 3 => ("SilenceForMoney$Reader", "lines", "I", false)
  | 4 => ("SilenceForMoney$Reader", "length", "I", false)
  | 5 => ("SilenceForMoney$Reader", "code", "[I", true)
  | 6 => ("SilenceForMoney$Reader", "start", "[I", true)
  | 7 => ("SilenceForMoney$Reader", "deed", "[I", true)
  | 8 => ("SilenceForMoney$Reader", "kinds", "[I", true)
  | 9 => ("SilenceForMoney$Reader", "places", "[I", true)
  | 10 => ("SilenceForMoney$Reader", "numbers", "[I", true)
  | 11 => ("SilenceForMoney$Reader", "tokens", "I", false)
  | _ => ("SilenceForMoney$Reader", "at", "I", false)
def tyX5 : Nat → FieldType := fun k => match k with
  | 0 => .int
  | 1 => .int
  | 2 => .boolean
  | 3 => .int
  | 4 => .int
  | 5 => .array .int
  | 6 => .array .int
  | 7 => .array .int
  | 8 => .array .int
  | 9 => .array .int
  | 10 => .array .int
  | 11 => .int
  | _ => .int
abbrev wsX50 : List Cond := u_ws RX5 TX5 13
theorem nmX5 : ∀ a, a < 13 → ∀ b, b < 13 → a ≠ b → (TX5 a).2.1 ≠ (TX5 b).2.1 := by decide +kernel
theorem tyX5_ok : ∀ k, k < 13 → parseFieldDescriptor (TX5 k).2.2.1 = some (tyX5 k) := by decide +kernel
abbrev cX5_init : ByteArray := prog_7_method_1_code
def yX5_init : MethodName := ⟨RX5, "<init>", "()V"⟩
abbrev cX5_forget : ByteArray := prog_7_method_2_code
def yX5_forget : MethodName := ⟨RX5, "forget", "()V"⟩
abbrev cX5_read : ByteArray := prog_7_method_3_code
def yX5_read : MethodName := ⟨RX5, "read", "(LSilenceForMoney$Tape;Z)LSilenceForMoney$Text;"⟩
abbrev cX5_findTokens : ByteArray := prog_7_method_4_code
def yX5_findTokens : MethodName := ⟨RX5, "findTokens", "(LSilenceForMoney$Tape;)V"⟩
abbrev cX5_findToken : ByteArray := prog_7_method_5_code
def yX5_findToken : MethodName := ⟨RX5, "findToken", "(LSilenceForMoney$Tape;I)I"⟩
abbrev cX5_putToken : ByteArray := prog_7_method_6_code
def yX5_putToken : MethodName := ⟨RX5, "putToken", "(III)V"⟩
abbrev cX5_isLetter : ByteArray := prog_7_method_7_code
def yX5_isLetter : MethodName := ⟨RX5, "isLetter", "(I)Z"⟩
abbrev cX5_isDigit : ByteArray := prog_7_method_8_code
def yX5_isDigit : MethodName := ⟨RX5, "isDigit", "(I)Z"⟩
abbrev cX5_isSign : ByteArray := prog_7_method_9_code
def yX5_isSign : MethodName := ⟨RX5, "isSign", "(I)Z"⟩
abbrev cX5_endOfRun : ByteArray := prog_7_method_10_code
def yX5_endOfRun : MethodName := ⟨RX5, "endOfRun", "(LSilenceForMoney$Tape;IZ)I"⟩
abbrev cX5_numberOf : ByteArray := prog_7_method_11_code
def yX5_numberOf : MethodName := ⟨RX5, "numberOf", "(LSilenceForMoney$Tape;II)I"⟩
abbrev cX5_keyword : ByteArray := prog_7_method_12_code
def yX5_keyword : MethodName := ⟨RX5, "keyword", "(LSilenceForMoney$Tape;II)I"⟩
abbrev cX5_emit : ByteArray := prog_7_method_13_code
def yX5_emit : MethodName := ⟨RX5, "emit", "(II)V"⟩
abbrev cX5_closeLine : ByteArray := prog_7_method_14_code
def yX5_closeLine : MethodName := ⟨RX5, "closeLine", "(I)V"⟩
abbrev cX5_fail : ByteArray := prog_7_method_15_code
def yX5_fail : MethodName := ⟨RX5, "fail", "(I)V"⟩
abbrev cX5_step : ByteArray := prog_7_method_16_code
def yX5_step : MethodName := ⟨RX5, "step", "()V"⟩
abbrev cX5_take : ByteArray := prog_7_method_17_code
def yX5_take : MethodName := ⟨RX5, "take", "(I)Z"⟩
abbrev cX5_readLine : ByteArray := prog_7_method_18_code
def yX5_readLine : MethodName := ⟨RX5, "readLine", "()V"⟩
abbrev cX5_readLoud : ByteArray := prog_7_method_19_code
def yX5_readLoud : MethodName := ⟨RX5, "readLoud", "()I"⟩
abbrev cX5_anyOf : ByteArray := prog_7_method_20_code
def yX5_anyOf : MethodName := ⟨RX5, "anyOf", "(I)V"⟩
abbrev cX5_condition : ByteArray := prog_7_method_21_code
def yX5_condition : MethodName := ⟨RX5, "condition", "(I)V"⟩
abbrev cX5_sum : ByteArray := prog_7_method_22_code
def yX5_sum : MethodName := ⟨RX5, "sum", "()V"⟩
abbrev cX5_isReckoning : ByteArray := prog_7_method_23_code
def yX5_isReckoning : MethodName := ⟨RX5, "isReckoning", "(I)Z"⟩
abbrev cX5_divisor : ByteArray := prog_7_method_24_code
def yX5_divisor : MethodName := ⟨RX5, "divisor", "()V"⟩
abbrev cX5_unit : ByteArray := prog_7_method_25_code
def yX5_unit : MethodName := ⟨RX5, "unit", "()V"⟩
def RX6 : String := "SilenceForMoney$Tape"
def TX6 : u_T := fun k => match k with
  | 0 => ("SilenceForMoney$Tape", "bytes", "[I", true)
  | _ => ("SilenceForMoney$Tape", "length", "I", false)
def tyX6 : Nat → FieldType := fun k => match k with
  | 0 => .array .int
  | _ => .int
abbrev wsX60 : List Cond := u_ws RX6 TX6 2
theorem nmX6 : ∀ a, a < 2 → ∀ b, b < 2 → a ≠ b → (TX6 a).2.1 ≠ (TX6 b).2.1 := by decide +kernel
theorem tyX6_ok : ∀ k, k < 2 → parseFieldDescriptor (TX6 k).2.2.1 = some (tyX6 k) := by decide +kernel
abbrev cX6_init : ByteArray := prog_8_method_1_code
def yX6_init : MethodName := ⟨RX6, "<init>", "()V"⟩
abbrev cX6_put : ByteArray := prog_8_method_2_code
def yX6_put : MethodName := ⟨RX6, "put", "(I)V"⟩
def RX7 : String := "SilenceForMoney$Text"
def TX7 : u_T := fun k => match k with
  | 0 => ("SilenceForMoney$Text", "lines", "I", true)
  | 1 => ("SilenceForMoney$Text", "start", "[I", true)
  | 2 => ("SilenceForMoney$Text", "deed", "[I", true)
  | _ => ("SilenceForMoney$Text", "code", "[I", true)
def tyX7 : Nat → FieldType := fun k => match k with
  | 0 => .int
  | 1 => .array .int
  | 2 => .array .int
  | _ => .array .int
abbrev wsX70 : List Cond := u_ws RX7 TX7 4
theorem nmX7 : ∀ a, a < 4 → ∀ b, b < 4 → a ≠ b → (TX7 a).2.1 ≠ (TX7 b).2.1 := by decide +kernel
theorem tyX7_ok : ∀ k, k < 4 → parseFieldDescriptor (TX7 k).2.2.1 = some (tyX7 k) := by decide +kernel
abbrev cX7_init : ByteArray := prog_9_method_1_code
def yX7_init : MethodName := ⟨RX7, "<init>", "(I[I[I[I)V"⟩
abbrev cX7_deedOf : ByteArray := prog_9_method_2_code
def yX7_deedOf : MethodName := ⟨RX7, "deedOf", "(I)I"⟩
abbrev cX7_firstLine : ByteArray := prog_9_method_3_code
def yX7_firstLine : MethodName := ⟨RX7, "firstLine", "([I[I)I"⟩
abbrev cX7_isSo : ByteArray := prog_9_method_4_code
def yX7_isSo : MethodName := ⟨RX7, "isSo", "(II[I[I)Z"⟩
abbrev cX7_valueAt : ByteArray := prog_9_method_5_code
def yX7_valueAt : MethodName := ⟨RX7, "valueAt", "([II)I"⟩
abbrev cX7_join : ByteArray := prog_9_method_6_code
def yX7_join : MethodName := ⟨RX7, "join", "(III)I"⟩
def RX8 : String := "SilenceForMoney$Time"
def TX8 : u_T := fun k => match k with
  | 0 => ("SilenceForMoney$Time", "state", "I", false)
  | 1 => ("SilenceForMoney$Time", "day", "I", false)
  | 2 => ("SilenceForMoney$Time", "quarter", "I", false)
  | _ => ("SilenceForMoney$Time", "feasts", "I", false)
def tyX8 : Nat → FieldType := fun k => match k with
  | 0 => .int
  | 1 => .int
  | 2 => .int
  | _ => .int
abbrev wsX80 : List Cond := u_ws RX8 TX8 4
theorem nmX8 : ∀ a, a < 4 → ∀ b, b < 4 → a ≠ b → (TX8 a).2.1 ≠ (TX8 b).2.1 := by decide +kernel
theorem tyX8_ok : ∀ k, k < 4 → parseFieldDescriptor (TX8 k).2.2.1 = some (tyX8 k) := by decide +kernel
abbrev cX8_init : ByteArray := prog_10_method_1_code
def yX8_init : MethodName := ⟨RX8, "<init>", "()V"⟩
abbrev cX8_copyFrom : ByteArray := prog_10_method_2_code
def yX8_copyFrom : MethodName := ⟨RX8, "copyFrom", "(LSilenceForMoney$Time;)V"⟩
abbrev cX8_draw : ByteArray := prog_10_method_3_code
def yX8_draw : MethodName := ⟨RX8, "draw", "(I)I"⟩
abbrev cX8_hour : ByteArray := prog_10_method_4_code
def yX8_hour : MethodName := ⟨RX8, "hour", "()I"⟩
abbrev cX8_isNight : ByteArray := prog_10_method_5_code
def yX8_isNight : MethodName := ⟨RX8, "isNight", "()Z"⟩
abbrev cX8_isFeast : ByteArray := prog_10_method_6_code
def yX8_isFeast : MethodName := ⟨RX8, "isFeast", "()Z"⟩
abbrev cX8_isFeastOn : ByteArray := prog_10_method_7_code
def yX8_isFeastOn : MethodName := ⟨RX8, "isFeastOn", "(I)Z"⟩
abbrev cX8_goOn : ByteArray := prog_10_method_8_code
def yX8_goOn : MethodName := ⟨RX8, "goOn", "()V"⟩
def RX9 : String := "SilenceForMoney$Town"
def TX9 : u_T := fun k => match k with
  | 0 => ("SilenceForMoney$Town", "walls", "[I", true)
  | 1 => ("SilenceForMoney$Town", "round", "[I", true)
  | 2 => ("SilenceForMoney$Town", "ringer", "I", false)
  | 3 => ("SilenceForMoney$Town", "ear", "I", false)
  | 4 => ("SilenceForMoney$Town", "falsely", "I", false)
  | 5 => ("SilenceForMoney$Town", "order", "I", false)
  | _ => ("SilenceForMoney$Town", "law", "I", false)
def tyX9 : Nat → FieldType := fun k => match k with
  | 0 => .array .int
  | 1 => .array .int
  | 2 => .int
  | 3 => .int
  | 4 => .int
  | 5 => .int
  | _ => .int
abbrev wsX90 : List Cond := u_ws RX9 TX9 7
theorem nmX9 : ∀ a, a < 7 → ∀ b, b < 7 → a ≠ b → (TX9 a).2.1 ≠ (TX9 b).2.1 := by decide +kernel
theorem tyX9_ok : ∀ k, k < 7 → parseFieldDescriptor (TX9 k).2.2.1 = some (tyX9 k) := by decide +kernel
abbrev cX9_init : ByteArray := prog_11_method_1_code
def yX9_init : MethodName := ⟨RX9, "<init>", "()V"⟩
abbrev cX9_copyFrom : ByteArray := prog_11_method_2_code
def yX9_copyFrom : MethodName := ⟨RX9, "copyFrom", "(LSilenceForMoney$Town;)V"⟩
abbrev cX9_putWall : ByteArray := prog_11_method_3_code
def yX9_putWall : MethodName := ⟨RX9, "putWall", "(III)V"⟩
abbrev cX9_wallBetween : ByteArray := prog_11_method_4_code
def yX9_wallBetween : MethodName := ⟨RX9, "wallBetween", "(II)I"⟩
abbrev cX9_placeAt : ByteArray := prog_11_method_5_code
def yX9_placeAt : MethodName := ⟨RX9, "placeAt", "(I)I"⟩
def RX10 : String := "SilenceForMoney$World"
def TX10 : u_T := fun k => match k with
  | 0 => ("SilenceForMoney$World", "people", "LSilenceForMoney$People;", true)
  | 1 => ("SilenceForMoney$World", "debts", "LSilenceForMoney$Debts;", true)
  | 2 => ("SilenceForMoney$World", "town", "LSilenceForMoney$Town;", true)
  | 3 => ("SilenceForMoney$World", "time", "LSilenceForMoney$Time;", true)
  | 4 => ("SilenceForMoney$World", "book", "LSilenceForMoney$Book;", true)
  | 5 => ("SilenceForMoney$World", "bargains", "LSilenceForMoney$Bargains;", true)
  | 6 => ("SilenceForMoney$World", "texts", "[LSilenceForMoney$Text;", true)
  | 7 => ("SilenceForMoney$World", "values", "[I", true)
  | 8 => ("SilenceForMoney$World", "stack", "[I", true)
  | _ => ("SilenceForMoney$World", "chosen", "[I", true)
def tyX10 : Nat → FieldType := fun k => match k with
  | 0 => .object "SilenceForMoney$People"
  | 1 => .object "SilenceForMoney$Debts"
  | 2 => .object "SilenceForMoney$Town"
  | 3 => .object "SilenceForMoney$Time"
  | 4 => .object "SilenceForMoney$Book"
  | 5 => .object "SilenceForMoney$Bargains"
  | 6 => .array (.object "SilenceForMoney$Text")
  | 7 => .array .int
  | 8 => .array .int
  | _ => .array .int
abbrev wsX100 : List Cond := u_ws RX10 TX10 10
theorem nmX10 : ∀ a, a < 10 → ∀ b, b < 10 → a ≠ b → (TX10 a).2.1 ≠ (TX10 b).2.1 := by decide +kernel
theorem tyX10_ok : ∀ k, k < 10 → parseFieldDescriptor (TX10 k).2.2.1 = some (tyX10 k) := by decide +kernel
abbrev cX10_init : ByteArray := prog_12_method_1_code
def yX10_init : MethodName := ⟨RX10, "<init>", "(ILSilenceForMoney$Text;)V"⟩
abbrev cX10_copyFrom : ByteArray := prog_12_method_2_code
def yX10_copyFrom : MethodName := ⟨RX10, "copyFrom", "(LSilenceForMoney$World;)V"⟩
abbrev cX10_change : ByteArray := prog_12_method_3_code
def yX10_change : MethodName := ⟨RX10, "change", "(II)V"⟩
abbrev cX10_isWord : ByteArray := prog_12_method_4_code
def yX10_isWord : MethodName := ⟨RX10, "isWord", "(IIIIZZ)Z"⟩
abbrev cX10_deedOf : ByteArray := prog_12_method_5_code
def yX10_deedOf : MethodName := ⟨RX10, "deedOf", "(I)I"⟩
abbrev cX10_pass : ByteArray := prog_12_method_6_code
def yX10_pass : MethodName := ⟨RX10, "pass", "()V"⟩
abbrev cX10_makeNoise : ByteArray := prog_12_method_7_code
def yX10_makeNoise : MethodName := ⟨RX10, "makeNoise", "(I)V"⟩
abbrev cX10_putNoise : ByteArray := prog_12_method_8_code
def yX10_putNoise : MethodName := ⟨RX10, "putNoise", "(III)V"⟩
abbrev cX10_judgeNoise : ByteArray := prog_12_method_9_code
def yX10_judgeNoise : MethodName := ⟨RX10, "judgeNoise", "(I)V"⟩
abbrev cX10_ring : ByteArray := prog_12_method_10_code
def yX10_ring : MethodName := ⟨RX10, "ring", "(I)V"⟩
abbrev cX10_chooseDebts : ByteArray := prog_12_method_11_code
def yX10_chooseDebts : MethodName := ⟨RX10, "chooseDebts", "()V"⟩
abbrev cX10_keepQuiet : ByteArray := prog_12_method_12_code
def yX10_keepQuiet : MethodName := ⟨RX10, "keepQuiet", "(II)V"⟩
abbrev cX10_isWordHeardOf : ByteArray := prog_12_method_13_code
def yX10_isWordHeardOf : MethodName := ⟨RX10, "isWordHeardOf", "(I)Z"⟩
abbrev cX10_isHeard : ByteArray := prog_12_method_14_code
def yX10_isHeard : MethodName := ⟨RX10, "isHeard", "(I)Z"⟩
abbrev cX10_beginAgain : ByteArray := prog_12_method_15_code
def yX10_beginAgain : MethodName := ⟨RX10, "beginAgain", "(III)V"⟩
abbrev cX10_payQuarter : ByteArray := prog_12_method_16_code
def yX10_payQuarter : MethodName := ⟨RX10, "payQuarter", "(II)V"⟩
abbrev cX10_tillQuiet : ByteArray := prog_12_method_17_code
def yX10_tillQuiet : MethodName := ⟨RX10, "tillQuiet", "()I"⟩
abbrev cX10_byWhom : ByteArray := prog_12_method_18_code
def yX10_byWhom : MethodName := ⟨RX10, "byWhom", "(IZII)I"⟩
abbrev cX10_canMakeWord : ByteArray := prog_12_method_19_code
def yX10_canMakeWord : MethodName := ⟨RX10, "canMakeWord", "(IIIZ)Z"⟩
def RX11 : String := "SilenceForMoney"
def TX11 : u_T := fun k => match k with
  | 0 => ("SilenceForMoney", "now", "LSilenceForMoney$World;", true)
  | 1 => ("SilenceForMoney", "dream", "LSilenceForMoney$World;", true)
  | 2 => ("SilenceForMoney", "kept", "LSilenceForMoney$World;", false)
  | 3 => ("SilenceForMoney", "tape", "LSilenceForMoney$Tape;", true)
  | _ => ("SilenceForMoney", "reader", "LSilenceForMoney$Reader;", true)
def tyX11 : Nat → FieldType := fun k => match k with
  | 0 => .object "SilenceForMoney$World"
  | 1 => .object "SilenceForMoney$World"
  | 2 => .object "SilenceForMoney$World"
  | 3 => .object "SilenceForMoney$Tape"
  | _ => .object "SilenceForMoney$Reader"
abbrev wsX110 : List Cond := u_ws RX11 TX11 5
theorem nmX11 : ∀ a, a < 5 → ∀ b, b < 5 → a ≠ b → (TX11 a).2.1 ≠ (TX11 b).2.1 := by decide +kernel
theorem tyX11_ok : ∀ k, k < 5 → parseFieldDescriptor (TX11 k).2.2.1 = some (tyX11 k) := by decide +kernel
abbrev cX11_init : ByteArray := prog_1_method_1_code
def yX11_init : MethodName := ⟨RX11, "<init>", "()V"⟩
abbrev cX11_state : ByteArray := prog_1_method_2_code
def yX11_state : MethodName := ⟨RX11, "state", "(I)I"⟩
abbrev cX11_one : ByteArray := prog_1_method_3_code
def yX11_one : MethodName := ⟨RX11, "one", "(IIIII)I"⟩
abbrev cX11_tell : ByteArray := prog_1_method_4_code
def yX11_tell : MethodName := ⟨RX11, "tell", "(III)Z"⟩
abbrev cX11_wall : ByteArray := prog_1_method_5_code
def yX11_wall : MethodName := ⟨RX11, "wall", "(III)Z"⟩
abbrev cX11_set : ByteArray := prog_1_method_6_code
def yX11_set : MethodName := ⟨RX11, "set", "(II)Z"⟩
abbrev cX11_debt : ByteArray := prog_1_method_7_code
def yX11_debt : MethodName := ⟨RX11, "debt", "(III)I"⟩
abbrev cX11_helpers : ByteArray := prog_1_method_8_code
def yX11_helpers : MethodName := ⟨RX11, "helpers", "(II)Z"⟩
abbrev cX11_of : ByteArray := prog_1_method_9_code
def yX11_of : MethodName := ⟨RX11, "of", "(II)I"⟩
abbrev cX11_feed : ByteArray := prog_1_method_10_code
def yX11_feed : MethodName := ⟨RX11, "feed", "(IIIII)I"⟩
abbrev cX11_end : ByteArray := prog_1_method_11_code
def yX11_end : MethodName := ⟨RX11, "end", "(I)Z"⟩
abbrev cX11_text : ByteArray := prog_1_method_12_code
def yX11_text : MethodName := ⟨RX11, "text", "(I)I"⟩
abbrev cX11_fault : ByteArray := prog_1_method_13_code
def yX11_fault : MethodName := ⟨RX11, "fault", "(I)I"⟩
abbrev cX11_does : ByteArray := prog_1_method_14_code
def yX11_does : MethodName := ⟨RX11, "does", "(I)I"⟩
abbrev cX11_word : ByteArray := prog_1_method_15_code
def yX11_word : MethodName := ⟨RX11, "word", "(IIIIZZ)I"⟩
abbrev cX11_quarters : ByteArray := prog_1_method_16_code
def yX11_quarters : MethodName := ⟨RX11, "quarters", "(I)I"⟩
abbrev cX11_noise : ByteArray := prog_1_method_17_code
def yX11_noise : MethodName := ⟨RX11, "noise", "(II)I"⟩
abbrev cX11_lend : ByteArray := prog_1_method_18_code
def yX11_lend : MethodName := ⟨RX11, "lend", "(III)Z"⟩
abbrev cX11_split : ByteArray := prog_1_method_19_code
def yX11_split : MethodName := ⟨RX11, "split", "(II)I"⟩
abbrev cX11_inherit : ByteArray := prog_1_method_20_code
def yX11_inherit : MethodName := ⟨RX11, "inherit", "(II)I"⟩
abbrev cX11_sell : ByteArray := prog_1_method_21_code
def yX11_sell : MethodName := ⟨RX11, "sell", "(III)Z"⟩
abbrev cX11_undo : ByteArray := prog_1_method_22_code
def yX11_undo : MethodName := ⟨RX11, "undo", "()Z"⟩
abbrev cX11_soonest : ByteArray := prog_1_method_23_code
def yX11_soonest : MethodName := ⟨RX11, "soonest", "(I)I"⟩
abbrev cX11_whom : ByteArray := prog_1_method_24_code
def yX11_whom : MethodName := ⟨RX11, "whom", "(IIII)I"⟩
abbrev cX11_quiet : ByteArray := prog_1_method_25_code
def yX11_quiet : MethodName := ⟨RX11, "quiet", "(II)I"⟩
abbrev cX11_thought : ByteArray := prog_1_method_26_code
def yX11_thought : MethodName := ⟨RX11, "thought", "(III)I"⟩
abbrev cX11_person : ByteArray := prog_1_method_27_code
def yX11_person : MethodName := ⟨RX11, "person", "(II)I"⟩
abbrev cX11_book : ByteArray := prog_1_method_28_code
def yX11_book : MethodName := ⟨RX11, "book", "(II)I"⟩
abbrev cX11_image : ByteArray := prog_1_method_29_code
def yX11_image : MethodName := ⟨RX11, "image", "(Z)Z"⟩
abbrev cX11_look : ByteArray := prog_1_method_30_code
def yX11_look : MethodName := ⟨RX11, "look", "(I)I"⟩
abbrev cX11_think : ByteArray := prog_1_method_31_code
def yX11_think : MethodName := ⟨RX11, "think", "(II)V"⟩
abbrev cX11_isWithin : ByteArray := prog_1_method_32_code
def yX11_isWithin : MethodName := ⟨RX11, "isWithin", "(III)Z"⟩
abbrev cX11_isPlace : ByteArray := prog_1_method_33_code
def yX11_isPlace : MethodName := ⟨RX11, "isPlace", "(I)Z"⟩
abbrev cX11_isHour : ByteArray := prog_1_method_34_code
def yX11_isHour : MethodName := ⟨RX11, "isHour", "(I)Z"⟩
abbrev cX11_isLaw : ByteArray := prog_1_method_35_code
def yX11_isLaw : MethodName := ⟨RX11, "isLaw", "(I)Z"⟩
abbrev cX11_isNightIn : ByteArray := prog_1_method_36_code
def yX11_isNightIn : MethodName := ⟨RX11, "isNightIn", "(I)Z"⟩
abbrev cX11_upwards : ByteArray := prog_1_method_37_code
def yX11_upwards : MethodName := ⟨RX11, "upwards", "(II)I"⟩
def RX12 : String := "SilenceForMoneyModel"
def TX12 : u_T := fun k => match k with
  | 0 => ("SilenceForMoneyModel", "w", "[I", true)
  | 1 => ("SilenceForMoneyModel", "kept", "[I", true)
  | 2 => ("SilenceForMoneyModel", "before", "[I", true)
  | 3 => ("SilenceForMoneyModel", "hasImage", "Z", false)
  | 4 => ("SilenceForMoneyModel", "freshLine", "[I", true)
  | 5 => ("SilenceForMoneyModel", "freshStep", "[I", true)
  | 6 => ("SilenceForMoneyModel", "tape", "[I", true)
  | 7 => ("SilenceForMoneyModel", "pile", "[I", true)
  | 8 => ("SilenceForMoneyModel", "facts", "[I", true)
  | 9 => ("SilenceForMoneyModel", "which", "I", false)
  | 10 => ("SilenceForMoneyModel", "lines", "I", false)
  | 11 => ("SilenceForMoneyModel", "steps", "I", false)
  | 12 => ("SilenceForMoneyModel", "taped", "I", false)
  | 13 => ("SilenceForMoneyModel", "at", "I", false)
  | 14 => ("SilenceForMoneyModel", "token", "I", false)
  | 15 => ("SilenceForMoneyModel", "tokenAt", "I", false)
  | 16 => ("SilenceForMoneyModel", "value", "I", false)
  | 17 => ("SilenceForMoneyModel", "wrong", "I", false)
  | 18 => ("SilenceForMoneyModel", "wrongAt", "I", false)
  | 19 => ("SilenceForMoneyModel", "faultKind", "I", false)
  | 20 => ("SilenceForMoneyModel", "depth", "I", false)
  | 21 => ("SilenceForMoneyModel", "faultPlace", "I", false)
  | 22 => ("SilenceForMoneyModel", "bargain", "I", false)
  | 23 => ("SilenceForMoneyModel", "may", "[I", true)
  | _ => ("SilenceForMoneyModel", "came", "[I", true)
def tyX12 : Nat → FieldType := fun k => match k with
  | 0 => .array .int
  | 1 => .array .int
  | 2 => .array .int
  | 3 => .boolean
  | 4 => .array .int
  | 5 => .array .int
  | 6 => .array .int
  | 7 => .array .int
  | 8 => .array .int
  | 9 => .int
  | 10 => .int
  | 11 => .int
  | 12 => .int
  | 13 => .int
  | 14 => .int
  | 15 => .int
  | 16 => .int
  | 17 => .int
  | 18 => .int
  | 19 => .int
  | 20 => .int
  | 21 => .int
  | 22 => .int
  | 23 => .array .int
  | _ => .array .int
abbrev wsX120 : List Cond := u_ws RX12 TX12 25
theorem nmX12 : ∀ a, a < 25 → ∀ b, b < 25 → a ≠ b → (TX12 a).2.1 ≠ (TX12 b).2.1 := by decide +kernel
theorem tyX12_ok : ∀ k, k < 25 → parseFieldDescriptor (TX12 k).2.2.1 = some (tyX12 k) := by decide +kernel
abbrev cX12_init : ByteArray := prog_14_method_1_code
def yX12_init : MethodName := ⟨RX12, "<init>", "()V"⟩
abbrev cX12_isIn : ByteArray := prog_14_method_2_code
def yX12_isIn : MethodName := ⟨RX12, "isIn", "(III)Z"⟩
abbrev cX12_state : ByteArray := prog_14_method_3_code
def yX12_state : MethodName := ⟨RX12, "state", "(I)I"⟩
abbrev cX12_draw : ByteArray := prog_14_method_4_code
def yX12_draw : MethodName := ⟨RX12, "draw", "(I)I"⟩
abbrev cX12_hushes : ByteArray := prog_14_method_5_code
def yX12_hushes : MethodName := ⟨RX12, "hushes", "(I)V"⟩
abbrev cX12_isOne : ByteArray := prog_14_method_6_code
def yX12_isOne : MethodName := ⟨RX12, "isOne", "(I)Z"⟩
abbrev cX12_isPlace : ByteArray := prog_14_method_7_code
def yX12_isPlace : MethodName := ⟨RX12, "isPlace", "(I)Z"⟩
abbrev cX12_own : ByteArray := prog_14_method_8_code
def yX12_own : MethodName := ⟨RX12, "own", "(II)I"⟩
abbrev cX12_gives : ByteArray := prog_14_method_9_code
def yX12_gives : MethodName := ⟨RX12, "gives", "(III)V"⟩
abbrev cX12_debtOf : ByteArray := prog_14_method_10_code
def yX12_debtOf : MethodName := ⟨RX12, "debtOf", "(II)I"⟩
abbrev cX12_lays0 : ByteArray := prog_14_method_11_code
def yX12_lays0 : MethodName := ⟨RX12, "lays0", "(III)V"⟩
abbrev cX12_one : ByteArray := prog_14_method_12_code
def yX12_one : MethodName := ⟨RX12, "one", "(IIIII)I"⟩
abbrev cX12_tell : ByteArray := prog_14_method_13_code
def yX12_tell : MethodName := ⟨RX12, "tell", "(III)Z"⟩
abbrev cX12_wall : ByteArray := prog_14_method_14_code
def yX12_wall : MethodName := ⟨RX12, "wall", "(III)Z"⟩
abbrev cX12_set : ByteArray := prog_14_method_15_code
def yX12_set : MethodName := ⟨RX12, "set", "(II)Z"⟩
abbrev cX12_isDebt : ByteArray := prog_14_method_16_code
def yX12_isDebt : MethodName := ⟨RX12, "isDebt", "(I)Z"⟩
abbrev cX12_debt : ByteArray := prog_14_method_17_code
def yX12_debt : MethodName := ⟨RX12, "debt", "(III)I"⟩
abbrev cX12_helpers : ByteArray := prog_14_method_18_code
def yX12_helpers : MethodName := ⟨RX12, "helpers", "(II)Z"⟩
abbrev cX12_workerOf : ByteArray := prog_14_method_19_code
def yX12_workerOf : MethodName := ⟨RX12, "workerOf", "(I)I"⟩
abbrev cX12_of : ByteArray := prog_14_method_20_code
def yX12_of : MethodName := ⟨RX12, "of", "(II)I"⟩
abbrev cX12_feed : ByteArray := prog_14_method_21_code
def yX12_feed : MethodName := ⟨RX12, "feed", "(IIIII)I"⟩
abbrev cX12_end : ByteArray := prog_14_method_22_code
def yX12_end : MethodName := ⟨RX12, "end", "(I)Z"⟩
abbrev cX12_see : ByteArray := prog_14_method_23_code
def yX12_see : MethodName := ⟨RX12, "see", "(I)I"⟩
abbrev cX12_isLetter : ByteArray := prog_14_method_24_code
def yX12_isLetter : MethodName := ⟨RX12, "isLetter", "(I)Z"⟩
abbrev cX12_isDigit : ByteArray := prog_14_method_25_code
def yX12_isDigit : MethodName := ⟨RX12, "isDigit", "(I)Z"⟩
abbrev cX12_is : ByteArray := prog_14_method_26_code
def yX12_is : MethodName := ⟨RX12, "is", "(Ljava/lang/String;)Z"⟩
abbrev cX12_lawWord : ByteArray := prog_14_method_27_code
def yX12_lawWord : MethodName := ⟨RX12, "lawWord", "()I"⟩
abbrev cX12_ruleWord : ByteArray := prog_14_method_28_code
def yX12_ruleWord : MethodName := ⟨RX12, "ruleWord", "()I"⟩
abbrev cX12_word0 : ByteArray := prog_14_method_29_code
def yX12_word0 : MethodName := ⟨RX12, "word0", "()I"⟩
abbrev cX12_next0 : ByteArray := prog_14_method_30_code
def yX12_next0 : MethodName := ⟨RX12, "next0", "()V"⟩
abbrev cX12_bad : ByteArray := prog_14_method_31_code
def yX12_bad : MethodName := ⟨RX12, "bad", "(I)Z"⟩
abbrev cX12_need : ByteArray := prog_14_method_32_code
def yX12_need : MethodName := ⟨RX12, "need", "(I)Z"⟩
abbrev cX12_number : ByteArray := prog_14_method_33_code
def yX12_number : MethodName := ⟨RX12, "number", "(II)Z"⟩
abbrev cX12_lay : ByteArray := prog_14_method_34_code
def yX12_lay : MethodName := ⟨RX12, "lay", "(II)V"⟩
abbrev cX12_opens : ByteArray := prog_14_method_35_code
def yX12_opens : MethodName := ⟨RX12, "opens", "()Z"⟩
abbrev cX12_sumUp : ByteArray := prog_14_method_36_code
def yX12_sumUp : MethodName := ⟨RX12, "sumUp", "()Z"⟩
abbrev cX12_product : ByteArray := prog_14_method_37_code
def yX12_product : MethodName := ⟨RX12, "product", "()Z"⟩
abbrev cX12_unit : ByteArray := prog_14_method_38_code
def yX12_unit : MethodName := ⟨RX12, "unit", "()Z"⟩
abbrev cX12_any : ByteArray := prog_14_method_39_code
def yX12_any : MethodName := ⟨RX12, "any", "()Z"⟩
abbrev cX12_every : ByteArray := prog_14_method_40_code
def yX12_every : MethodName := ⟨RX12, "every", "()Z"⟩
abbrev cX12_one0 : ByteArray := prog_14_method_41_code
def yX12_one0 : MethodName := ⟨RX12, "one0", "()Z"⟩
abbrev cX12_aLine : ByteArray := prog_14_method_42_code
def yX12_aLine : MethodName := ⟨RX12, "aLine", "()Z"⟩
abbrev cX12_text : ByteArray := prog_14_method_43_code
def yX12_text : MethodName := ⟨RX12, "text", "(I)I"⟩
abbrev cX12_fault : ByteArray := prog_14_method_44_code
def yX12_fault : MethodName := ⟨RX12, "fault", "(I)I"⟩
abbrev cX12_both : ByteArray := prog_14_method_45_code
def yX12_both : MethodName := ⟨RX12, "both", "(III)I"⟩
abbrev cX12_comesTo : ByteArray := prog_14_method_46_code
def yX12_comesTo : MethodName := ⟨RX12, "comesTo", "(III)I"⟩
abbrev cX12_firstLine : ByteArray := prog_14_method_47_code
def yX12_firstLine : MethodName := ⟨RX12, "firstLine", "(I)I"⟩
abbrev cX12_isNight : ByteArray := prog_14_method_48_code
def yX12_isNight : MethodName := ⟨RX12, "isNight", "(I)Z"⟩
abbrev cX12_isFeast : ByteArray := prog_14_method_49_code
def yX12_isFeast : MethodName := ⟨RX12, "isFeast", "(I)Z"⟩
abbrev cX12_isWord : ByteArray := prog_14_method_50_code
def yX12_isWord : MethodName := ⟨RX12, "isWord", "(IIIIZZ)Z"⟩
abbrev cX12_word : ByteArray := prog_14_method_51_code
def yX12_word : MethodName := ⟨RX12, "word", "(IIIIZZ)I"⟩
abbrev cX12_hourNow : ByteArray := prog_14_method_52_code
def yX12_hourNow : MethodName := ⟨RX12, "hourNow", "()I"⟩
abbrev cX12_left : ByteArray := prog_14_method_53_code
def yX12_left : MethodName := ⟨RX12, "left", "(II)I"⟩
abbrev cX12_ruled : ByteArray := prog_14_method_54_code
def yX12_ruled : MethodName := ⟨RX12, "ruled", "(I)I"⟩
abbrev cX12_does : ByteArray := prog_14_method_55_code
def yX12_does : MethodName := ⟨RX12, "does", "(I)I"⟩
abbrev cX12_sounds : ByteArray := prog_14_method_56_code
def yX12_sounds : MethodName := ⟨RX12, "sounds", "(III)V"⟩
abbrev cX12_makesNoise : ByteArray := prog_14_method_57_code
def yX12_makesNoise : MethodName := ⟨RX12, "makesNoise", "(I)V"⟩
abbrev cX12_noise : ByteArray := prog_14_method_58_code
def yX12_noise : MethodName := ⟨RX12, "noise", "(II)I"⟩
abbrev cX12_writes : ByteArray := prog_14_method_59_code
def yX12_writes : MethodName := ⟨RX12, "writes", "(III)V"⟩
abbrev cX12_isHeard : ByteArray := prog_14_method_60_code
def yX12_isHeard : MethodName := ⟨RX12, "isHeard", "(I)Z"⟩
abbrev cX12_isBetrayed : ByteArray := prog_14_method_61_code
def yX12_isBetrayed : MethodName := ⟨RX12, "isBetrayed", "(I)Z"⟩
abbrev cX12_keptFor : ByteArray := prog_14_method_62_code
def yX12_keptFor : MethodName := ⟨RX12, "keptFor", "(I)I"⟩
abbrev cX12_keeps : ByteArray := prog_14_method_63_code
def yX12_keeps : MethodName := ⟨RX12, "keeps", "(II)V"⟩
abbrev cX12_aQuarter : ByteArray := prog_14_method_64_code
def yX12_aQuarter : MethodName := ⟨RX12, "aQuarter", "()V"⟩
abbrev cX12_quarters : ByteArray := prog_14_method_65_code
def yX12_quarters : MethodName := ⟨RX12, "quarters", "(I)I"⟩
abbrev cX12_begins : ByteArray := prog_14_method_66_code
def yX12_begins : MethodName := ⟨RX12, "begins", "(III)V"⟩
abbrev cX12_pays : ByteArray := prog_14_method_67_code
def yX12_pays : MethodName := ⟨RX12, "pays", "(III)V"⟩
abbrev cX12_isOf : ByteArray := prog_14_method_68_code
def yX12_isOf : MethodName := ⟨RX12, "isOf", "(I)V"⟩
abbrev cX12_ends : ByteArray := prog_14_method_69_code
def yX12_ends : MethodName := ⟨RX12, "ends", "()V"⟩
abbrev cX12_isLeft : ByteArray := prog_14_method_70_code
def yX12_isLeft : MethodName := ⟨RX12, "isLeft", "(I)Z"⟩
abbrev cX12_lend : ByteArray := prog_14_method_71_code
def yX12_lend : MethodName := ⟨RX12, "lend", "(III)Z"⟩
abbrev cX12_split : ByteArray := prog_14_method_72_code
def yX12_split : MethodName := ⟨RX12, "split", "(II)I"⟩
abbrev cX12_inherit : ByteArray := prog_14_method_73_code
def yX12_inherit : MethodName := ⟨RX12, "inherit", "(II)I"⟩
abbrev cX12_sell : ByteArray := prog_14_method_74_code
def yX12_sell : MethodName := ⟨RX12, "sell", "(III)Z"⟩
abbrev cX12_isIt : ByteArray := prog_14_method_75_code
def yX12_isIt : MethodName := ⟨RX12, "isIt", "(II)Z"⟩
abbrev cX12_undo : ByteArray := prog_14_method_76_code
def yX12_undo : MethodName := ⟨RX12, "undo", "()Z"⟩
abbrev cX12_mays : ByteArray := prog_14_method_77_code
def yX12_mays : MethodName := ⟨RX12, "mays", "()I"⟩
abbrev cX12_count : ByteArray := prog_14_method_78_code
def yX12_count : MethodName := ⟨RX12, "count", "(I)I"⟩
abbrev cX12_upwards : ByteArray := prog_14_method_79_code
def yX12_upwards : MethodName := ⟨RX12, "upwards", "(II)I"⟩
abbrev cX12_greatest : ByteArray := prog_14_method_80_code
def yX12_greatest : MethodName := ⟨RX12, "greatest", "()I"⟩
abbrev cX12_within : ByteArray := prog_14_method_81_code
def yX12_within : MethodName := ⟨RX12, "within", "(I)I"⟩
abbrev cX12_alone : ByteArray := prog_14_method_82_code
def yX12_alone : MethodName := ⟨RX12, "alone", "()I"⟩
abbrev cX12_soonest : ByteArray := prog_14_method_83_code
def yX12_soonest : MethodName := ⟨RX12, "soonest", "(I)I"⟩
abbrev cX12_canBe : ByteArray := prog_14_method_84_code
def yX12_canBe : MethodName := ⟨RX12, "canBe", "(IIIIIZI)Z"⟩
abbrev cX12_canSay : ByteArray := prog_14_method_85_code
def yX12_canSay : MethodName := ⟨RX12, "canSay", "(IIIZI)Z"⟩
abbrev cX12_whom : ByteArray := prog_14_method_86_code
def yX12_whom : MethodName := ⟨RX12, "whom", "(IIII)I"⟩
abbrev cX12_setsOut : ByteArray := prog_14_method_87_code
def yX12_setsOut : MethodName := ⟨RX12, "setsOut", "()V"⟩
abbrev cX12_comesBack : ByteArray := prog_14_method_88_code
def yX12_comesBack : MethodName := ⟨RX12, "comesBack", "()V"⟩
abbrev cX12_quiet : ByteArray := prog_14_method_89_code
def yX12_quiet : MethodName := ⟨RX12, "quiet", "(II)I"⟩
abbrev cX12_leads : ByteArray := prog_14_method_90_code
def yX12_leads : MethodName := ⟨RX12, "leads", "(II)V"⟩
abbrev cX12_thought : ByteArray := prog_14_method_91_code
def yX12_thought : MethodName := ⟨RX12, "thought", "(III)I"⟩
abbrev cX12_person : ByteArray := prog_14_method_92_code
def yX12_person : MethodName := ⟨RX12, "person", "(II)I"⟩
abbrev cX12_book : ByteArray := prog_14_method_93_code
def yX12_book : MethodName := ⟨RX12, "book", "(II)I"⟩
abbrev cX12_image : ByteArray := prog_14_method_94_code
def yX12_image : MethodName := ⟨RX12, "image", "(Z)Z"⟩
abbrev cX12_look : ByteArray := prog_14_method_95_code
def yX12_look : MethodName := ⟨RX12, "look", "(I)I"⟩
def RJx145de : String := "java/io/Serializable"
def RJx9f9b0 : String := "java/lang/CharSequence"
def RJx8e188 : String := "java/lang/Cloneable"
def RJxb160c : String := "java/lang/Comparable"
def RJ6 : String := "java/lang/Integer"
abbrev cJ6_bitCount_0f7a4 : ByteArray := prog_16_method_49_code
def yJ6_bitCount_0f7a4 : MethodName := ⟨RJ6, "bitCount", "(I)I"⟩
def RJ9 : String := "java/lang/Math"
abbrev cJ9_max_7cf53 : ByteArray := prog_17_method_65_code
def yJ9_max_7cf53 : MethodName := ⟨RJ9, "max", "(II)I"⟩
abbrev cJ9_min_7cf53 : ByteArray := prog_17_method_69_code
def yJ9_min_7cf53 : MethodName := ⟨RJ9, "min", "(II)I"⟩
def RJ0 : String := "java/lang/String"
abbrev cJ0_length_8abf5 : ByteArray := prog_18_method_54_code
def yJ0_length_8abf5 : MethodName := ⟨RJ0, "length", "()I"⟩
abbrev cJ0_charAt_5068e : ByteArray := prog_18_method_56_code
def yJ0_charAt_5068e : MethodName := ⟨RJ0, "charAt", "(I)C"⟩
abbrev cJ0_coder_7d493 : ByteArray := prog_18_method_152_code
def yJ0_coder_7d493 : MethodName := ⟨RJ0, "coder", "()B"⟩
abbrev cJ0_isLatin1_aae02 : ByteArray := prog_18_method_154_code
def yJ0_isLatin1_aae02 : MethodName := ⟨RJ0, "isLatin1", "()Z"⟩
abbrev cJ0_checkIndex_df160 : ByteArray := prog_18_method_155_code
def yJ0_checkIndex_df160 : MethodName := ⟨RJ0, "checkIndex", "(II)V"⟩
def RJ1 : String := "java/lang/StringLatin1"
abbrev cJ1_charAt_3b067 : ByteArray := prog_19_method_2_code
def yJ1_charAt_3b067 : MethodName := ⟨RJ1, "charAt", "([BI)C"⟩
def RJ2 : String := "java/lang/StringUTF16"
abbrev cJ2_getChar_3b067 : ByteArray := prog_20_method_5_code
def yJ2_getChar_3b067 : MethodName := ⟨RJ2, "getChar", "([BI)C"⟩
abbrev cJ2_length_9d52b : ByteArray := prog_20_method_6_code
def yJ2_length_9d52b : MethodName := ⟨RJ2, "length", "([B)I"⟩
abbrev cJ2_charAt_3b067 : ByteArray := prog_20_method_83_code
def yJ2_charAt_3b067 : MethodName := ⟨RJ2, "charAt", "([BI)C"⟩
abbrev cJ2_checkIndex_2214a : ByteArray := prog_20_method_91_code
def yJ2_checkIndex_2214a : MethodName := ⟨RJ2, "checkIndex", "(I[B)V"⟩
def RJ10 : String := "java/lang/System"
def RJxfd54e : String := "java/lang/constant/Constable"
def RJx3cf43 : String := "java/lang/constant/ConstantDesc"
def RJ7 : String := "java/util/Arrays"
abbrev cJ7_fill_53178 : ByteArray := prog_22_method_103_code
def yJ7_fill_53178 : MethodName := ⟨RJ7, "fill", "([II)V"⟩
abbrev cJ7_copyOf_59c91 : ByteArray := prog_22_method_123_code
def yJ7_copyOf_59c91 : MethodName := ⟨RJ7, "copyOf", "([II)[I"⟩
def RJ3 : String := "jdk/internal/util/Preconditions"
abbrev cJ3_checkIndex_8e157 : ByteArray := prog_23_method_11_code
def yJ3_checkIndex_8e157 : MethodName := ⟨RJ3, "checkIndex", "(IILjava/util/function/BiFunction;)I"⟩
def RL : String := "SilenceForMoneyLaw"
abbrev cL_law : ByteArray := code
def yL_law : MethodName := ⟨RL, "law", "([I)Z"⟩
abbrev vwCl : List vw_C := [(RX0, TX0, 6), (RX1, TX1, 2), (RX2, TX2, 7), (RX3, TX3, 11), (RX4, TX4, 11), (RX5, TX5, 13), (RX6, TX6, 2), (RX7, TX7, 4), (RX8, TX8, 4), (RX9, TX9, 7), (RX10, TX10, 10), (RX11, TX11, 5), (RX12, TX12, 25)]
end
section
/-! THE MINI HEAP: shapes (which cell an address is, and its references), ints (fields and elements by address and place), the next free address. -/
abbrev Sh : Type := (Nat × List (Option (Option Nat))) ⊕ (Nat ⊕ (Nat × Nat × (Nat → Option Nat)))
abbrev Tau : Type := Nat → Option Sh
abbrev Sig : Type := Nat → Nat → Int32
abbrev Hp : Type := Tau × Sig × Nat
/-- the constants of a run: class ids, field places, class of int arrays, classes of arrays of references, first own address, the heap below it, two static arrays, the Strings -/
abbrev Kt : Type := (Nat → ClassId) × (Nat → Nat → Nat) × ClassId × (Nat → ClassId) × Nat × Heap × (Nat × Nat) × (Nat → Nat) × (Nat → Nat) × (Nat → Option (Nat × (Nat → Int32)))
abbrev kC (K : Kt) : Nat → ClassId := K.1
abbrev kD (K : Kt) : Nat → Nat → Nat := K.2.1
abbrev kI (K : Kt) : ClassId := K.2.2.1
abbrev kR (K : Kt) : Nat → ClassId := K.2.2.2.1
abbrev kB (K : Kt) : Nat := K.2.2.2.2.1
abbrev kH (K : Kt) : Heap := K.2.2.2.2.2.1
abbrev kT (K : Kt) : Nat := K.2.2.2.2.2.2.1.1
abbrev kS (K : Kt) : Nat := K.2.2.2.2.2.2.1.2
abbrev kK (K : Kt) : Nat → Nat := K.2.2.2.2.2.2.2.1
abbrev kV (K : Kt) : Nat → Nat := K.2.2.2.2.2.2.2.2.1
abbrev kX (K : Kt) : Nat → Option (Nat × (Nat → Int32)) := K.2.2.2.2.2.2.2.2.2
abbrev kA (K : Kt) : Nat → Prop := fun q => kB K ≤ q
def valOf (σ : Sig) (a k : Nat) (r : Option (Option Nat)) : Value := match r with
  | none => .int (σ a k)
  | some x => va_rf x
def cellOk (K : Kt) (τ : Tau) (σ : Sig) (H : Heap) (a : Nat) : Prop := match τ a with
  | none => True
  | some (.inl (ci, rs)) => (∃ r : vw_C, vwCl[ci]? = some r ∧ r.2.2 = rs.length) ∧ t_OB a (kC K ci) rs.length (kD K ci) H (fun k => valOf σ a k (rs.getD k none))
  | some (.inr (.inl N)) => H[a]? = some (arrV (kI K) N (fun j => .int (σ a j)))
  | some (.inr (.inr (ci, N, f))) => H[a]? = some (arrV (kR K ci) N (fun j => va_rf (f j)))
def Rel (K : Kt) (h : Hp) (H : Heap) : Prop := H.size = h.2.2 ∧ kB K ≤ h.2.2 ∧ (∀ a, cellOk K h.1 h.2.1 H a) ∧ (∀ a x, h.1 a = some x → kB K ≤ a ∧ a < h.2.2) ∧ ∀ q, q < kB K → H[q]? = (kH K)[q]?
/-- the Strings of the claim: class, pool index, text -/
def strTab : List (String × Nat × String) := [("SilenceForMoney$Reader", 109, "when or and not word loud sort hour night feast child"), ("SilenceForMoney$Reader", 111, "when or and not talk work hush hour quarter day night feast owes owed with"), ("SilenceForMoneyModel", 130, "when"), ("SilenceForMoneyModel", 132, "or"), ("SilenceForMoneyModel", 134, "and"), ("SilenceForMoneyModel", 136, "not"), ("SilenceForMoneyModel", 138, "hour"), ("SilenceForMoneyModel", 140, "night"), ("SilenceForMoneyModel", 142, "feast"), ("SilenceForMoneyModel", 102, "word"), ("SilenceForMoneyModel", 108, "loud"), ("SilenceForMoneyModel", 110, "sort"), ("SilenceForMoneyModel", 112, "child"), ("SilenceForMoneyModel", 114, "talk"), ("SilenceForMoneyModel", 116, "work"), ("SilenceForMoneyModel", 118, "hush"), ("SilenceForMoneyModel", 120, "quarter"), ("SilenceForMoneyModel", 122, "day"), ("SilenceForMoneyModel", 124, "owes"), ("SilenceForMoneyModel", 126, "owed"), ("SilenceForMoneyModel", 128, "with")]
def strLen : List Nat := [53, 74, 4, 2, 3, 3, 4, 5, 5, 4, 4, 4, 5, 4, 4, 4, 7, 3, 4, 4, 4]
def strByt : List (List Int32) := [[119, 104, 101, 110, 32, 111, 114, 32, 97, 110, 100, 32, 110, 111, 116, 32, 119, 111, 114, 100, 32, 108, 111, 117, 100, 32, 115, 111, 114, 116, 32, 104, 111, 117, 114, 32, 110, 105, 103, 104, 116, 32, 102, 101, 97, 115, 116, 32, 99, 104, 105, 108, 100], [119, 104, 101, 110, 32, 111, 114, 32, 97, 110, 100, 32, 110, 111, 116, 32, 116, 97, 108, 107, 32, 119, 111, 114, 107, 32, 104, 117, 115, 104, 32, 104, 111, 117, 114, 32, 113, 117, 97, 114, 116, 101, 114, 32, 100, 97, 121, 32, 110, 105, 103, 104, 116, 32, 102, 101, 97, 115, 116, 32, 111, 119, 101, 115, 32, 111, 119, 101, 100, 32, 119, 105, 116, 104], [119, 104, 101, 110], [111, 114], [97, 110, 100], [110, 111, 116], [104, 111, 117, 114], [110, 105, 103, 104, 116], [102, 101, 97, 115, 116], [119, 111, 114, 100], [108, 111, 117, 100], [115, 111, 114, 116], [99, 104, 105, 108, 100], [116, 97, 108, 107], [119, 111, 114, 107], [104, 117, 115, 104], [113, 117, 97, 114, 116, 101, 114], [100, 97, 121], [111, 119, 101, 115], [111, 119, 101, 100], [119, 105, 116, 104]]
def isNest : Cond → Bool
  | .methodLinkNest _ _ _ _ => true
  | _ => false
def tysK (K : Kt) : List (ClassId × FieldType) := [(kI K, .int), (kR K 0, .object RX0), (kR K 7, .object RX7)]
def extOk (K : Kt) (U : State) : Prop := ∀ a N f, kX K a = some (N, f) → va_T .int a N (fun j => .int (f j)) (kA K) U (kH K)
def tellMost : Nat → Int32 := fun j => ([5, 99, 1000, 4, 99999] : List Int32).getD j 0
def setMost : Nat → Int32 := fun j => ([0, 99, 1000, 2, 99, 1, 9999, 95] : List Int32).getD j 0
/-- the two static arrays and the Strings -/
def Kz (K : Kt) (U : State) : Prop := va_Z RX11 "TELL_MOST" "[I" (.ref (kT K)) (kA K) U (kH K) ∧ va_Z RX11 "SET_MOST" "[I" (.ref (kS K)) (kA K) U (kH K) ∧ kX K (kT K) = some (5, tellMost) ∧ kX K (kS K) = some (8, setMost) ∧ vk_S 21 strLen strByt (kK K) (kV K) (kA K) U (kH K) ∧ (∀ (i : Nat) (q : String × Nat × String), strTab[i]? = some q → vk_R q.1 q.2.1 q.2.2 (kK K i) U) ∧ va_AO RX0 U ∧ va_AO RX7 U
def Kx (K : Kt) (U : State) : Prop := va_K (kC K, kD K) vwCl (tysK K) U ∧ (∀ w ∈ lw_tbl, isNest w = true → va_Nw w U) ∧ (kH K).size = kB K ∧ extOk K U ∧ Kz K U
theorem Kx.warm {K : Kt} {s U : State} (hW : s.WarmedH U.vm) (h : Kx K s) : Kx K U := by
  obtain ⟨h1, h2, h3, h4, z1, z2, z3, z4, z5, z6, z7, z8⟩ := h
  refine ⟨va_K.moved hW.alike h1, fun w hw hn => ?_, h3, fun a N f ha => (h4 a N f ha).moved hW.alike, z1.moved hW.alike, z2.moved hW.alike, z3, z4, z5.moved hW.alike, fun i q hq => (z6 i q hq).warm hW, z7.moved hW.alike, z8.moved hW.alike⟩
  cases w <;> first | exact va_Nw.warmM hW (h2 _ hw hn) | (simp [isNest] at hn)
theorem Kx.same {K : Kt} {s U : State} (hv : s.vm = U.vm) (h : Kx K s) : Kx K U := by
  have ha : s.vm.Alike U.vm := by rw [hv]; exact Vm.Alike.refl _
  obtain ⟨h1, h2, h3, h4, z1, z2, z3, z4, z5, z6, z7, z8⟩ := h
  refine ⟨va_K.moved ha h1, fun w hw hn => ?_, h3, fun a N f hx => (h4 a N f hx).moved ha, z1.moved ha, z2.moved ha, z3, z4, z5.moved ha, fun i q hq => (z6 i q hq).same hv.symm, z7.moved ha, z8.moved ha⟩
  exact va_Nw.same (by cases w <;> first | rfl | (simp [isNest] at hn)) hv (h2 _ hw hn)
/-- the words that go from a caller to a callee -/
def gtb : List Cond := lw_tbl.filter goodWord
abbrev Cx : Type := Program × Launch × Env × Room × State × MethodId × Array Value × List Frame × Method × Code × (State → Prop)
abbrev xp (X : Cx) : Program := X.1
abbrev xl (X : Cx) : Launch := X.2.1
abbrev xe (X : Cx) : Env := X.2.2.1
abbrev xR (X : Cx) : Room := X.2.2.2.1
abbrev xs (X : Cx) : State := X.2.2.2.2.1
abbrev xm (X : Cx) : MethodId := X.2.2.2.2.2.1
abbrev xa (X : Cx) : Array Value := X.2.2.2.2.2.2.1
abbrev xb (X : Cx) : List Frame := X.2.2.2.2.2.2.2.1
abbrev xh (X : Cx) : Method := X.2.2.2.2.2.2.2.2.1
abbrev xc (X : Cx) : Code := X.2.2.2.2.2.2.2.2.2.1
abbrev xQ (X : Cx) : State → Prop := X.2.2.2.2.2.2.2.2.2.2
abbrev Lo : Type := List (Option Value)
def lh (ls : Array Slot) (nL : Nat) (L : Lo) : Prop := ls.size = nL ∧ lv_wf ls ∧ ∀ (i : Nat) (v : Value), L[i]? = some (some v) → ls[i]? = some (.val v) ∧ v.category = 1
abbrev Wx (X : Cx) (H : Heap) (locs : List Loc) (k n : Nat) (g : JFrame) : Prop := W (xp X) (xl X) (xe X) (xR X) (xs X) (xm X) (xa X) (xb X) (xh X) (xc X) H locs k n (xQ X) g
/-- THE JUDGEMENT: from every machine state that shows this mini heap, these locals and this stack at pc, the machine comes to a state with Q -/
def G (K : Kt) (X : Cx) (nL k n pc : Nat) (L : Lo) (S : List Value) (h : Hp) : Prop :=
  ∀ (H : Heap) (locs : List Loc) (ls : Array Slot), Rel K h H → (∀ q ∈ locs, kB K ≤ q.base) → lh ls nL L → Wx X H locs k n (F0 (xm X) pc ls S)
/-- what holds throughout a method -/
def Fx (K : Kt) (X : Cx) (cc : ByteArray) (nL : Nat) (own : String) (D mc ms : Nat) : Prop :=
  (xp X).tables.exec = Jvm.exec ∧ (xc X).code = cc ∧ (xc X).maxLocals = nL ∧ (xs X).vm.findClass own = some (xm X).cls ∧ (∀ w ∈ gtb, w.before (xa X) (xs X) = true) ∧ Kx K (xs X) ∧ (xh X).locks = false ∧ D ≤ (xR X).frames ∧ 64 * D ≤ (xR X).locals ∧ mc ≤ (xR X).cells ∧ ms ≤ (xR X).slots
section FX
variable {K : Kt} {X : Cx} {cc : ByteArray} {nL : Nat} {own : String} {D mc ms : Nat}
theorem Fx.ex (h : Fx K X cc nL own D mc ms) : (xp X).tables.exec = Jvm.exec := h.1
theorem Fx.co (h : Fx K X cc nL own D mc ms) : (xc X).code = cc := h.2.1
theorem Fx.ml (h : Fx K X cc nL own D mc ms) : (xc X).maxLocals = nL := h.2.2.1
theorem Fx.ow (h : Fx K X cc nL own D mc ms) : (xs X).vm.findClass own = some (xm X).cls := h.2.2.2.1
theorem Fx.ts (h : Fx K X cc nL own D mc ms) : ∀ w ∈ gtb, w.before (xa X) (xs X) = true := h.2.2.2.2.1
theorem Fx.kx (h : Fx K X cc nL own D mc ms) : Kx K (xs X) := h.2.2.2.2.2.1
theorem Fx.lk (h : Fx K X cc nL own D mc ms) : (xh X).locks = false := h.2.2.2.2.2.2.1
theorem Fx.fr (h : Fx K X cc nL own D mc ms) : D ≤ (xR X).frames := h.2.2.2.2.2.2.2.1
theorem Fx.lo (h : Fx K X cc nL own D mc ms) : 64 * D ≤ (xR X).locals := h.2.2.2.2.2.2.2.2.1
theorem Fx.ce (h : Fx K X cc nL own D mc ms) : mc ≤ (xR X).cells := h.2.2.2.2.2.2.2.2.2.1
theorem Fx.sl (h : Fx K X cc nL own D mc ms) : ms ≤ (xR X).slots := h.2.2.2.2.2.2.2.2.2.2
end FX
/-- a method's contract: with these arguments over this mini heap it returns r, and the mini heap is h' -/
def Qcc (K : Kt) (r : Option Value) (h' : Hp) : Array Value → State → Outcome → State → Prop := fun _ _ o t => o = .returned r ∧ Rel K h' t.heap
def Pcc (K : Kt) (A : List Value) (h : Hp) : Array Value → State → Prop := fun v U => v = A.toArray ∧ Rel K h U.heap ∧ Kx K U
def Ok (D mc ms : Nat) (y : MethodName) (cc : ByteArray) (nL : Nat) (ret : Option FieldType) (A : List Value) (h : Hp) (r : Option Value) (h' : Hp) : Prop :=
  ∀ (l : Launch) (K : Kt), Met l y (.code y cc nL ret :: gtb) { frames := D, cells := mc, slots := ms, locals := 64 * D } (Pcc K A h) (Qcc K r h') mc ms (kA K)
/-- a method's end -/
def En (K : Kt) (X : Cx) (ret : Option FieldType) (mc ms : Nat) (r : Option Value) (h' : Hp) : Prop :=
  xQ X = MQ (xb X) (Qcc K r h') (xa X) (xs X) mc ms (kA K) ∧ (xh X).sig.returnType = ret
theorem lh_entry (A : List Value) {n : Nat} (hA : ∀ v ∈ A, v.category = 1) (hn : A.length ≤ n) (m : MethodId) : ∃ ls : Array Slot, entryFrame m A.toArray n = F0 m 0 ls [] ∧ lh ls n (A.map some ++ List.replicate (n - A.length) none) := by
  have hsl : ∀ B : List Value, (∀ v ∈ B, v.category = 1) → lg_sl B = B.map (fun v => .val v) := by
    intro B
    induction B with
    | nil => intro _; rfl
    | cons v vs ih =>
      intro h
      have h1 : v.category = 1 := h v (List.mem_cons_self)
      have h2 := ih (fun w hw => h w (List.mem_cons_of_mem _ hw))
      show (if v.category = 2 then [Slot.val v, Slot.second] else [Slot.val v]) ++ lg_sl vs = _
      rw [h1, h2]; rfl
  have hlen : (lg_sl A).length = A.length := by rw [hsl A hA, List.length_map]
  have hE := lv_entry A (n := n) (by rw [hlen]; exact hn)
  refine ⟨_, lg_entry_eq m A n, hE.1, hE.2.1, fun i v hv => ?_⟩
  have hi : i < A.length := by
    by_cases hi : i < A.length
    · exact hi
    · rw [List.getElem?_append_right (by rw [List.length_map]; omega)] at hv
      have := List.eq_of_mem_replicate (List.mem_of_getElem? hv)
      cases this
  rw [List.getElem?_append_left (by rw [List.length_map]; exact hi), List.getElem?_map] at hv
  have hv2 : A[i]? = some v := by
    cases hz : A[i]? with
    | none => rw [hz] at hv; cases hv
    | some z => rw [hz] at hv; simp at hv; rw [hv]
  refine ⟨?_, hA v (List.mem_of_getElem? hv2)⟩
  rw [List.getElem?_toArray, hsl A hA, List.getElem?_append_left (by rw [List.length_map]; exact hi), List.getElem?_map, hv2]
  rfl
theorem ok_of {D mc ms : Nat} {y : MethodName} {cc : ByteArray} {nL : Nat} {ret : Option FieldType} {A : List Value} {h h' : Hp} {r : Option Value} (hy : plainName y.cls = true) (hA0 : (A.all fun v => v.category == 1) = true) (hn : A.length ≤ nL)
    (body : ∀ (K : Kt) (X : Cx), Fx K X cc nL y.cls D mc ms → En K X ret mc ms r h' → (xh X).name = y.name → ∀ L0 : Lo, A.map some ++ List.replicate (nL - A.length) none = L0 → G K X nL 0 0 0 L0 [] h) : Ok D mc ms y cc nL ret A h r h' := by
  have hA : ∀ v ∈ A, v.category = 1 := fun v hv => by have := List.all_eq_true.mp hA0 v hv; simpa using this
  intro l K
  refine Met.ofW (cc := cc) (maxL := nL) (ret := ret) hy rfl ?_
  intro p e s m args below meth c s₁ B hml hv
  obtain ⟨rfl, hR, hKx⟩ := hv
  have hpre : ∀ w ∈ (Cond.code y cc nL ret :: gtb), w.before A.toArray s = true := atoms_spec (ws := Cond.code y cc nL ret :: gtb) B.pre
  have hb := body K (p, l, e, (headSpec (Cond.code y cc nL ret :: gtb) { frames := D, cells := mc, slots := ms, locals := 64 * D }).room, s, m, A.toArray, below, meth, c, MQ below (Qcc K r h') A.toArray s mc ms (kA K))
    ⟨B.exec, B.bytes, hml, findClass_of_methodNamed B.named, fun w hw => hpre w (List.mem_cons_of_mem _ hw), hKx, B.notSynchronized, Nat.le_refl _, Nat.le_refl _, Nat.le_refl _, Nat.le_refl _⟩ ⟨rfl, B.returns⟩ (name_of_methodNamed B.named B.method).1
  obtain ⟨ls, hE, hls⟩ := lh_entry A hA hn m
  rw [hE]
  exact hb _ rfl s.heap [] ls hR (fun q hq => by cases hq) hls
end
section
/-! STRAIGHT RUNS: a method's instructions as a list; what stands on the stack and in the locals alone is computed. -/
def sgB (cc : ByteArray) : Nat → List (Instr × Nat) → Bool
  | _, [] => true
  | pc, (i, n) :: r => decide (decode cc pc = .ok (i, n)) && sgB cc (pc + n) r
def lnI : List (Instr × Nat) → Nat
  | [] => 0
  | (_, n) :: r => n + lnI r
theorem sgB_drop {cc : ByteArray} : ∀ (j pc : Nat) (t : List (Instr × Nat)), sgB cc pc t = true → sgB cc (pc + lnI (t.take j)) (t.drop j) = true
  | 0, pc, t, h => by simpa [lnI] using h
  | j + 1, pc, [], h => by simp [lnI, sgB]
  | j + 1, pc, (i, n) :: r, h => by
    have h2 : sgB cc (pc + n) r = true := by simp [sgB] at h; exact h.2
    have h3 := sgB_drop j (pc + n) r h2
    simp only [List.take_succ_cons, List.drop_succ_cons, lnI]
    rw [← Nat.add_assoc]; exact h3
theorem sgB_take {cc : ByteArray} : ∀ (j pc : Nat) (t : List (Instr × Nat)), sgB cc pc t = true → sgB cc pc (t.take j) = true
  | 0, pc, t, h => by simp [sgB]
  | j + 1, pc, [], h => by simp [sgB]
  | j + 1, pc, (i, n) :: r, h => by
    simp [sgB] at h
    simp only [List.take_succ_cons, sgB, Bool.and_eq_true, decide_eq_true_eq]
    exact ⟨h.1, sgB_take j (pc + n) r h.2⟩
/-- the instruction at place j of the table -/
theorem dAt {cc : ByteArray} {t : List (Instr × Nat)} (h : sgB cc 0 t = true) (j : Nat) {pc : Nat} {q : Instr × Nat} (hp : lnI (t.take j) = pc) (hq : t[j]? = some q) : decode cc pc = .ok q := by
  have h1 := sgB_drop j 0 t h
  obtain ⟨hj, hz⟩ := List.getElem?_eq_some_iff.mp hq
  rw [List.drop_eq_getElem_cons hj, hz, Nat.zero_add, hp] at h1
  obtain ⟨i, n⟩ := q
  simp [sgB] at h1
  exact h1.1
def lget (L : Lo) (i : Nat) : Option Value := match L[i]? with
  | some (some v) => some v
  | _ => none
def px (i : Instr) (L : Lo) (S : List Value) : Option (Nat × Lo × List Value) := match i with
  | .iconst n => some (1, L, .int (Int32.ofInt n) :: S)
  | .bipush n => some (2, L, .int (Int8.ofInt n).toInt32 :: S)
  | .sipush n => some (3, L, .int (Int16.ofInt n).toInt32 :: S)
  | .aconst_null => some (1, L, .null :: S)
  | .iload_n k => (match lget L k.val with | some (.int x) => some (1, L, .int x :: S) | _ => none)
  | .iload k => (match lget L k with | some (.int x) => some (2, L, .int x :: S) | _ => none)
  | .aload_n k => (match lget L k.val with | some (.ref x) => some (1, L, .ref x :: S) | some .null => some (1, L, .null :: S) | _ => none)
  | .aload k => (match lget L k with | some (.ref x) => some (2, L, .ref x :: S) | some .null => some (2, L, .null :: S) | _ => none)
  | .istore_n k => (match S with | .int x :: S => if k.val < L.length then some (1, L.set k.val (some (.int x)), S) else none | _ => none)
  | .istore k => (match S with | .int x :: S => if k < L.length then some (2, L.set k (some (.int x)), S) else none | _ => none)
  | .astore_n k => (match S with | .ref x :: S => if k.val < L.length then some (1, L.set k.val (some (.ref x)), S) else none | .null :: S => if k.val < L.length then some (1, L.set k.val (some .null), S) else none | _ => none)
  | .astore k => (match S with | .ref x :: S => if k < L.length then some (2, L.set k (some (.ref x)), S) else none | .null :: S => if k < L.length then some (2, L.set k (some .null), S) else none | _ => none)
  | .iinc k n => (match lget L k with | some (.int x) => if k < L.length then some (3, L.set k (some (.int (x + Int32.ofInt n))), S) else none | _ => none)
  | .iadd => (match S with | .int y :: .int x :: S => some (1, L, .int (x + y) :: S) | _ => none)
  | .isub => (match S with | .int y :: .int x :: S => some (1, L, .int (x - y) :: S) | _ => none)
  | .imul => (match S with | .int y :: .int x :: S => some (1, L, .int (x * y) :: S) | _ => none)
  | .iand => (match S with | .int y :: .int x :: S => some (1, L, .int (x &&& y) :: S) | _ => none)
  | .ior => (match S with | .int y :: .int x :: S => some (1, L, .int (x ||| y) :: S) | _ => none)
  | .ixor => (match S with | .int y :: .int x :: S => some (1, L, .int (x ^^^ y) :: S) | _ => none)
  | .ishl => (match S with | .int y :: .int x :: S => some (1, L, .int (x <<< (y &&& 31)) :: S) | _ => none)
  | .ishr => (match S with | .int y :: .int x :: S => some (1, L, .int (x >>> (y &&& 31)) :: S) | _ => none)
  | .iushr => (match S with | .int y :: .int x :: S => some (1, L, .int (x.toUInt32 >>> (y.toUInt32 &&& Int32.toUInt32 31)).toInt32 :: S) | _ => none)
  | .dup => (match S with | .int x :: S => some (1, L, .int x :: .int x :: S) | .ref x :: S => some (1, L, .ref x :: .ref x :: S) | _ => none)
  | .pop => (match S with | .int _ :: S => some (1, L, S) | .ref _ :: S => some (1, L, S) | _ => none)
  | .dup2 => (match S with | .int y :: .ref x :: S => some (1, L, .int y :: .ref x :: .int y :: .ref x :: S) | _ => none)
  | _ => none
def pxs : List (Instr × Nat) → Lo → List Value → Option (Lo × List Value)
  | [], L, S => some (L, S)
  | (i, m) :: r, L, S => (match px i L S with | none => none | some (z, L', S') => if z = m then pxs r L' S' else none)
theorem lget_some {L : Lo} {i : Nat} {v : Value} (h : lget L i = some v) : L[i]? = some (some v) := by
  unfold lget at h
  split at h
  · next hq => rw [hq]; cases h; rfl
  · cases h
def lvOf (L : Lo) : List (Nat × Value) := (L.zipIdx).filterMap (fun q => match q.1 with | some v => some (q.2, v) | none => none)
theorem lvOf_mem {L : Lo} {q : Nat × Value} : q ∈ lvOf L ↔ L[q.1]? = some (some q.2) := by
  obtain ⟨i, v⟩ := q
  simp only [lvOf, List.mem_filterMap]
  constructor
  · rintro ⟨⟨z, j⟩, hm, hz⟩
    rw [List.mem_zipIdx_iff_getElem?] at hm
    cases z with
    | none => simp at hz
    | some w => simp at hz; obtain ⟨rfl, rfl⟩ := hz; exact hm
  · intro h
    exact ⟨(some v, i), by rw [List.mem_zipIdx_iff_getElem?]; exact h, rfl⟩
theorem lh.has {ls : Array Slot} {nL : Nat} {L : Lo} (h : lh ls nL L) : lv_has ls nL (lvOf L) := ⟨h.1, h.2.1, fun q hq => (h.2.2 q.1 q.2 (lvOf_mem.mp hq)).1⟩
theorem lh.at {ls : Array Slot} {nL : Nat} {L : Lo} {i : Nat} {v : Value} (h : lh ls nL L) (hv : lget L i = some v) : ls[i]? = some (.val v) := (h.2.2 i v (lget_some hv)).1
theorem lh.set {ls ls' : Array Slot} {nL : Nat} {L : Lo} {i : Nat} {v : Value} (h : lh ls nL L) (hc : v.category = 1) (h' : lv_has ls' nL ((i, v) :: (lvOf L).filter (fun q => !(q.1 == i) && !(q.1 + 1 == i && q.2.category == 2)))) : lh ls' nL (L.set i (some v)) := by
  refine ⟨h'.1, h'.2.1, fun j w hw => ?_⟩
  by_cases hj : i = j
  · subst hj
    rw [List.getElem?_set] at hw
    split at hw
    · split at hw
      · cases hw; exact ⟨h'.2.2 (i, v) List.mem_cons_self, hc⟩
      · cases hw
    · contradiction
  · rw [List.getElem?_set_ne hj] at hw
    have hcat := (h.2.2 j w hw).2
    refine ⟨h'.2.2 (j, w) (List.mem_cons_of_mem _ (List.mem_filter.mpr ⟨lvOf_mem.mpr hw, ?_⟩)), hcat⟩
    simp [Ne.symm hj, hcat]
section PX
variable {K : Kt} {X : Cx} {cc : ByteArray} {nL : Nat} {own : String} {D mc ms k n pc : Nat} {L L' : Lo} {S S' : List Value} {h : Hp}
set_option maxHeartbeats 4000000 in
theorem g_px (hF : Fx K X cc nL own D mc ms) (hn : L.length = nL) {i : Instr} {len : Nat} (hd : decode cc pc = .ok (i, len)) (hp : px i L S = some (len, L', S')) (kk : G K X nL k n (pc + len) L' S' h) : G K X nL k n pc L S h ∧ L'.length = nL := by
  have hx := hF.ex
  have hb := hF.co
  have stI : ∀ {i : Nat} {v : Value} {ls ls' : Array Slot}, i < L.length → v.category = 1 → lh ls nL L → lv_has ls' nL ((i, v) :: (lvOf L).filter (fun q => !(q.1 == i) && !(q.1 + 1 == i && q.2.category == 2))) → lh ls' nL (L.set i (some v)) := fun _ hc hl h' => hl.set hc h'
  unfold px at hp
  split at hp
  · cases hp; exact ⟨fun H locs ls hR hq hl => lv_iconst hx hb hd rfl (kk H locs ls hR hq hl), hn⟩
  · cases hp; exact ⟨fun H locs ls hR hq hl => lv_bipush hx hb hd rfl (kk H locs ls hR hq hl), hn⟩
  · cases hp; exact ⟨fun H locs ls hR hq hl => lv_sipush hx hb hd rfl (kk H locs ls hR hq hl), hn⟩
  · cases hp; exact ⟨fun H locs ls hR hq hl => lv_null hx hb hd (kk H locs ls hR hq hl), hn⟩
  · split at hp
    · next hg => cases hp; exact ⟨fun H locs ls hR hq hl => lv_iload_n hx hb hd rfl (hl.at hg) (kk H locs ls hR hq hl), hn⟩
    · cases hp
  · split at hp
    · next hg => cases hp; exact ⟨fun H locs ls hR hq hl => lv_iload hx hb hd (hl.at hg) (kk H locs ls hR hq hl), hn⟩
    · cases hp
  · split at hp
    · next hg => cases hp; exact ⟨fun H locs ls hR hq hl => lv_aload_n hx hb hd rfl (hl.at hg) (kk H locs ls hR hq hl), hn⟩
    · next hg => cases hp; exact ⟨fun H locs ls hR hq hl => lv_aload_nN hx hb hd rfl (hl.at hg) (kk H locs ls hR hq hl), hn⟩
    · cases hp
  · split at hp
    · next hg => cases hp; exact ⟨fun H locs ls hR hq hl => lv_aload hx hb hd (hl.at hg) (kk H locs ls hR hq hl), hn⟩
    · next hg => cases hp; exact ⟨fun H locs ls hR hq hl => lv_aloadN hx hb hd (hl.at hg) (kk H locs ls hR hq hl), hn⟩
    · cases hp
  · split at hp
    · split at hp
      · next hg => cases hp; exact ⟨fun H locs ls hR hq hl => lv_istore_n hx hb hd rfl hl.has (hn ▸ hg) rfl (fun ls' h' => kk H locs ls' hR hq (stI hg rfl hl h')), by rw [List.length_set]; exact hn⟩
      · cases hp
    · cases hp
  · split at hp
    · split at hp
      · next hg => cases hp; exact ⟨fun H locs ls hR hq hl => lv_istore hx hb hd hl.has (hn ▸ hg) rfl (fun ls' h' => kk H locs ls' hR hq (stI hg rfl hl h')), by rw [List.length_set]; exact hn⟩
      · cases hp
    · cases hp
  · split at hp
    · split at hp
      · next hg => cases hp; exact ⟨fun H locs ls hR hq hl => lv_astore_n hx hb hd rfl hl.has (hn ▸ hg) rfl (fun ls' h' => kk H locs ls' hR hq (stI hg rfl hl h')), by rw [List.length_set]; exact hn⟩
      · cases hp
    · split at hp
      · next hg => cases hp; exact ⟨fun H locs ls hR hq hl => lv_astore_nN hx hb hd rfl hl.has (hn ▸ hg) rfl (fun ls' h' => kk H locs ls' hR hq (stI hg rfl hl h')), by rw [List.length_set]; exact hn⟩
      · cases hp
    · cases hp
  · split at hp
    · split at hp
      · next hg => cases hp; exact ⟨fun H locs ls hR hq hl => lv_astore hx hb hd hl.has (hn ▸ hg) rfl (fun ls' h' => kk H locs ls' hR hq (stI hg rfl hl h')), by rw [List.length_set]; exact hn⟩
      · cases hp
    · split at hp
      · next hg => cases hp; exact ⟨fun H locs ls hR hq hl => lv_astoreN hx hb hd hl.has (hn ▸ hg) rfl (fun ls' h' => kk H locs ls' hR hq (stI hg rfl hl h')), by rw [List.length_set]; exact hn⟩
      · cases hp
    · cases hp
  · split at hp
    · next hg0 =>
      split at hp
      · next hg =>
        cases hp
        refine ⟨fun H locs ls hR hq hl => ?_, by rw [List.length_set]; exact hn⟩
        obtain ⟨j, hj⟩ := List.getElem?_of_mem (lvOf_mem (q := (_, _)).mpr (lget_some hg0))
        exact lv_iinc hx hb hd hl.has hj rfl (hn ▸ hg) rfl (fun ls' h' => kk H locs ls' hR hq (stI hg rfl hl h'))
      · cases hp
    · cases hp
  · split at hp
    · cases hp; exact ⟨fun H locs ls hR hq hl => lv_iadd hx hb hd (kk H locs ls hR hq hl), hn⟩
    · cases hp
  · split at hp
    · cases hp; exact ⟨fun H locs ls hR hq hl => lv_isub hx hb hd (kk H locs ls hR hq hl), hn⟩
    · cases hp
  · split at hp
    · cases hp; exact ⟨fun H locs ls hR hq hl => lv_imul hx hb hd (kk H locs ls hR hq hl), hn⟩
    · cases hp
  · split at hp
    · cases hp; exact ⟨fun H locs ls hR hq hl => lv_iand hx hb hd (kk H locs ls hR hq hl), hn⟩
    · cases hp
  · split at hp
    · cases hp; exact ⟨fun H locs ls hR hq hl => lv_ior hx hb hd (kk H locs ls hR hq hl), hn⟩
    · cases hp
  · split at hp
    · cases hp; exact ⟨fun H locs ls hR hq hl => lv_ixor hx hb hd (kk H locs ls hR hq hl), hn⟩
    · cases hp
  · split at hp
    · cases hp; exact ⟨fun H locs ls hR hq hl => lv_ishl hx hb hd (kk H locs ls hR hq hl), hn⟩
    · cases hp
  · split at hp
    · cases hp; exact ⟨fun H locs ls hR hq hl => lv_ishr hx hb hd (kk H locs ls hR hq hl), hn⟩
    · cases hp
  · split at hp
    · cases hp; exact ⟨fun H locs ls hR hq hl => lv_iushr hx hb hd rfl (kk H locs ls hR hq hl), hn⟩
    · cases hp
  · split at hp
    · cases hp; exact ⟨fun H locs ls hR hq hl => lv_dup hx hb hd rfl (kk H locs ls hR hq hl), hn⟩
    · cases hp; exact ⟨fun H locs ls hR hq hl => lv_dup hx hb hd rfl (kk H locs ls hR hq hl), hn⟩
    · cases hp
  · split at hp
    · cases hp; exact ⟨fun H locs ls hR hq hl => lv_pop hx hb hd rfl (kk H locs ls hR hq hl), hn⟩
    · cases hp; exact ⟨fun H locs ls hR hq hl => lv_pop hx hb hd rfl (kk H locs ls hR hq hl), hn⟩
    · cases hp
  · split at hp
    · cases hp; exact ⟨fun H locs ls hR hq hl => lv_dup2_11 hx hb hd rfl rfl (kk H locs ls hR hq hl), hn⟩
    · cases hp
  · cases hp
/-- how long the locals are behind a run -/
theorem px_len {i : Instr} {z : Nat} {L L' : Lo} {S S' : List Value} (hp : px i L S = some (z, L', S')) : L'.length = L.length := by
  unfold px at hp
  repeat' split at hp
  all_goals first | (cases hp; done) | (cases hp; rfl) | (cases hp; simp)
theorem g_ps (hF : Fx K X cc nL own D mc ms) (kk : G K X nL k n pc L' S' h) : ∀ (is : List (Instr × Nat)) (pc0 : Nat) (L : Lo) (S : List Value), L.length = nL → sgB cc pc0 is = true → pxs is L S = some (L', S') → pc0 + lnI is = pc → G K X nL k n pc0 L S h
  | [], pc0, L, S, hn, hs, hp, he => by
    simp only [pxs, Option.some.injEq, Prod.mk.injEq] at hp
    obtain ⟨rfl, rfl⟩ := hp
    simp only [lnI, Nat.add_zero] at he
    subst he; exact kk
  | (i, m) :: r, pc0, L, S, hn, hs, hp, he => by
    simp only [sgB, Bool.and_eq_true, decide_eq_true_eq] at hs
    simp only [pxs] at hp
    split at hp
    · cases hp
    · next z L1 S1 hq =>
      split at hp
      · next hz =>
        subst hz
        exact (g_px hF hn hs.1 hq (g_ps hF kk r (pc0 + z) L1 S1 ((px_len hq).trans hn) hs.2 hp (by simp only [lnI] at he; omega))).1
      · cases hp
/-- A STRAIGHT RUN: m instructions from place j of the method's table on -/
theorem g_p {t : List (Instr × Nat)} (hF : Fx K X cc nL own D mc ms) (ht : sgB cc 0 t = true) (j m : Nat) {pc0 : Nat} (h0 : lnI (t.take j) = pc0) (hn : L.length = nL) (hp : pxs ((t.drop j).take m) L S = some (L', S')) (he : pc0 + lnI ((t.drop j).take m) = pc) (kk : G K X nL k n pc L' S' h) : G K X nL k n pc0 L S h := by
  have h1 := sgB_drop j 0 t ht
  rw [Nat.zero_add, h0] at h1
  exact g_ps hF kk _ pc0 L S hn (sgB_take m pc0 _ h1) hp he
end PX
end
section
/-! FIELDS, ARRAYS, BRANCHES, RETURNS over the mini heap. -/
theorem inG0 : ∀ w ∈ u_ws RX0 TX0 6, w ∈ gtb := by decide +kernel
theorem inG1 : ∀ w ∈ u_ws RX1 TX1 2, w ∈ gtb := by decide +kernel
theorem inG2 : ∀ w ∈ u_ws RX2 TX2 7, w ∈ gtb := by decide +kernel
theorem inG3 : ∀ w ∈ u_ws RX3 TX3 11, w ∈ gtb := by decide +kernel
theorem inG4 : ∀ w ∈ u_ws RX4 TX4 11, w ∈ gtb := by decide +kernel
theorem inG5 : ∀ w ∈ u_ws RX5 TX5 13, w ∈ gtb := by decide +kernel
theorem inG6 : ∀ w ∈ u_ws RX6 TX6 2, w ∈ gtb := by decide +kernel
theorem inG7 : ∀ w ∈ u_ws RX7 TX7 4, w ∈ gtb := by decide +kernel
theorem inG8 : ∀ w ∈ u_ws RX8 TX8 4, w ∈ gtb := by decide +kernel
theorem inG9 : ∀ w ∈ u_ws RX9 TX9 7, w ∈ gtb := by decide +kernel
theorem inG10 : ∀ w ∈ u_ws RX10 TX10 10, w ∈ gtb := by decide +kernel
theorem inG11 : ∀ w ∈ u_ws RX11 TX11 5, w ∈ gtb := by decide +kernel
theorem inG12 : ∀ w ∈ u_ws RX12 TX12 25, w ∈ gtb := by decide +kernel
def ClsOk (r : vw_C) : Prop := (∀ w ∈ u_ws r.1 r.2.1 r.2.2, w ∈ gtb) ∧ (∃ ty0 : Nat → FieldType, ∀ k, k < r.2.2 → parseFieldDescriptor (r.2.1 k).2.2.1 = some (ty0 k)) ∧ ∀ a, a < r.2.2 → ∀ b, b < r.2.2 → a ≠ b → (r.2.1 a).2.1 ≠ (r.2.1 b).2.1
theorem clsOk : ∀ (ci : Nat) (r : vw_C), vwCl[ci]? = some r → ClsOk r := by
  intro ci r h
  match ci, h with
  | 0, h => cases h; exact ⟨inG0, ⟨tyX0, tyX0_ok⟩, nmX0⟩
  | 1, h => cases h; exact ⟨inG1, ⟨tyX1, tyX1_ok⟩, nmX1⟩
  | 2, h => cases h; exact ⟨inG2, ⟨tyX2, tyX2_ok⟩, nmX2⟩
  | 3, h => cases h; exact ⟨inG3, ⟨tyX3, tyX3_ok⟩, nmX3⟩
  | 4, h => cases h; exact ⟨inG4, ⟨tyX4, tyX4_ok⟩, nmX4⟩
  | 5, h => cases h; exact ⟨inG5, ⟨tyX5, tyX5_ok⟩, nmX5⟩
  | 6, h => cases h; exact ⟨inG6, ⟨tyX6, tyX6_ok⟩, nmX6⟩
  | 7, h => cases h; exact ⟨inG7, ⟨tyX7, tyX7_ok⟩, nmX7⟩
  | 8, h => cases h; exact ⟨inG8, ⟨tyX8, tyX8_ok⟩, nmX8⟩
  | 9, h => cases h; exact ⟨inG9, ⟨tyX9, tyX9_ok⟩, nmX9⟩
  | 10, h => cases h; exact ⟨inG10, ⟨tyX10, tyX10_ok⟩, nmX10⟩
  | 11, h => cases h; exact ⟨inG11, ⟨tyX11, tyX11_ok⟩, nmX11⟩
  | 12, h => cases h; exact ⟨inG12, ⟨tyX12, tyX12_ok⟩, nmX12⟩
  | c + 13, h => simp [vwCl] at h
end
section
def wr (σ : Sig) (a k : Nat) (v : Int32) : Sig := fun b j => if b = a ∧ j = k then v else σ b j
theorem wr_row {σ : Sig} {a k b : Nat} {v : Int32} (h : b ≠ a) : wr σ a k v b = σ b := by funext j; simp [wr, h]
theorem wr_same {σ : Sig} {a k j : Nat} {v : Int32} : wr σ a k v a j = if j = k then v else σ a j := by simp [wr]
theorem cellOk.kept {K : Kt} {τ : Tau} {σ σ' : Sig} {H H' : Heap} {b : Nat} (h : cellOk K τ σ H b) (hH : H'[b]? = H[b]?) (hσ : σ' b = σ b) : cellOk K τ σ' H' b := by
  unfold cellOk at h ⊢
  split at h
  · trivial
  · refine ⟨h.1, ?_⟩
    have h2 := h.2.kept hH
    exact h2.to (fun k _ => by simp only [valOf]; split <;> simp [hσ])
  · rw [hH, hσ]; exact h
  · rw [hH]; exact h
theorem cellOk.tau {K : Kt} {τ τ' : Tau} {σ : Sig} {H : Heap} {b : Nat} (h : cellOk K τ σ H b) (ht : τ' b = τ b) : cellOk K τ' σ H b := by
  unfold cellOk at h ⊢
  rw [ht]; exact h
theorem Rel.cell {K : Kt} {h : Hp} {H : Heap} (hR : Rel K h H) (a : Nat) : cellOk K h.1 h.2.1 H a := hR.2.2.1 a
theorem Rel.obj {K : Kt} {τ : Tau} {σ : Sig} {nx : Nat} {H : Heap} (hR : Rel K (τ, σ, nx) H) {a ci : Nat} {rs : List (Option (Option Nat))} (hs : τ a = some (.inl (ci, rs))) : (∃ r : vw_C, vwCl[ci]? = some r ∧ r.2.2 = rs.length) ∧ t_OB a (kC K ci) rs.length (kD K ci) H (fun k => valOf σ a k (rs.getD k none)) := by
  have := hR.cell a; unfold cellOk at this; simp only [hs] at this; exact this
theorem Rel.arr {K : Kt} {τ : Tau} {σ : Sig} {nx : Nat} {H : Heap} (hR : Rel K (τ, σ, nx) H) {a N : Nat} (hs : τ a = some (.inr (.inl N))) : H[a]? = some (arrV (kI K) N (fun j => .int (σ a j))) := by
  have := hR.cell a; unfold cellOk at this; simp only [hs] at this; exact this
theorem Rel.rar {K : Kt} {τ : Tau} {σ : Sig} {nx : Nat} {H : Heap} (hR : Rel K (τ, σ, nx) H) {a ci N : Nat} {f : Nat → Option Nat} (hs : τ a = some (.inr (.inr (ci, N, f)))) : H[a]? = some (arrV (kR K ci) N (fun j => va_rf (f j))) := by
  have := hR.cell a; unfold cellOk at this; simp only [hs] at this; exact this
/-- a link of a field: class number, place -/
def FL (own : String) (idx ci kf : Nat) (desc : String) (fin : Bool) : Prop := ∃ (C name : String) (T : u_T) (N : Nat), vwCl[ci]? = some (C, T, N) ∧ T kf = (C, name, desc, fin) ∧ kf < N ∧ Cond.fieldLink own idx C name desc ∈ gtb
section HP
variable {K : Kt} {X : Cx} {cc : ByteArray} {nL : Nat} {own : String} {D mc ms k n pc : Nat} {L : Lo} {S : List Value} {τ : Tau} {σ : Sig} {nx : Nat} {desc : String} {fin : Bool}
theorem g_get (hF : Fx K X cc nL own D mc ms) {idx ci kf a : Nat} (hd : decode cc pc = .ok (.getfield idx, 3)) (hf : FL own idx ci kf desc fin) {rs : List (Option (Option Nat))} (hs : τ a = some (.inl (ci, rs))) {v : Option (Option Nat)} (hr : rs[kf]? = some v) (kk : G K X nL k n (pc + 3) L (valOf σ a kf v :: S) (τ, σ, nx)) : G K X nL k n pc L (.ref a :: S) (τ, σ, nx) := by
  intro H locs ls hR hq hl
  obtain ⟨C, name, T, N, hc, hT, hk, hlk⟩ := hf
  obtain ⟨⟨r, hr1, hr2⟩, cell, q1, q2, q3, q4⟩ := hR.obj hs
  cases hc.symm.trans hr1
  have hin : ∀ w ∈ u_ws C T N, w ∈ gtb := (clsOk ci _ hc).1
  have hkn : u_Kn (xs X) C T N (kC K ci) (kD K ci) := hF.kx.1.1 ci _ hc
  obtain ⟨hS, hfc, kC, hkC, hkind⟩ := hkn
  obtain ⟨cf, kf', fi, f, hi, hsl⟩ := hS kf hk
  have e : T kf = (C, name, desc, fin) := hT
  have hi' : (xs X).fieldFound? C name desc = some (cf, kf', fi, f) := by simpa [e] using hi
  refine W.getf hF.ex hF.co hF.ow (hF.ts _ hlk) hi' (u_facts hfc hkC (u_lays hF.ts hin hk) hi).1 q1 (by rw [q3]; exact fun h => by cases h) (v := valOf σ a kf v) ?_ rfl rfl hd (kk H locs ls hR hq hl)
  rw [hsl, q4 kf (hr2 ▸ hk)]
  simp only [List.getD_eq_getElem?_getD, hr, Option.getD_some]
theorem g_getI (hF : Fx K X cc nL own D mc ms) {idx ci kf a : Nat} (hd : decode cc pc = .ok (.getfield idx, 3)) (hf : FL own idx ci kf desc fin) {rs : List (Option (Option Nat))} (hs : τ a = some (.inl (ci, rs))) (hr : rs[kf]? = some none) (kk : G K X nL k n (pc + 3) L (.int (σ a kf) :: S) (τ, σ, nx)) : G K X nL k n pc L (.ref a :: S) (τ, σ, nx) := g_get hF hd hf hs hr kk
theorem g_getR (hF : Fx K X cc nL own D mc ms) {idx ci kf a b : Nat} (hd : decode cc pc = .ok (.getfield idx, 3)) (hf : FL own idx ci kf desc fin) {rs : List (Option (Option Nat))} (hs : τ a = some (.inl (ci, rs))) (hr : rs[kf]? = some (some (some b))) (kk : G K X nL k n (pc + 3) L (.ref b :: S) (τ, σ, nx)) : G K X nL k n pc L (.ref a :: S) (τ, σ, nx) := g_get hF hd hf hs hr kk
theorem g_getN (hF : Fx K X cc nL own D mc ms) {idx ci kf a : Nat} (hd : decode cc pc = .ok (.getfield idx, 3)) (hf : FL own idx ci kf desc fin) {rs : List (Option (Option Nat))} (hs : τ a = some (.inl (ci, rs))) (hr : rs[kf]? = some (some none)) (kk : G K X nL k n (pc + 3) L (.null :: S) (τ, σ, nx)) : G K X nL k n pc L (.ref a :: S) (τ, σ, nx) := g_get hF hd hf hs hr kk
/-- the shape behind a store of a reference -/
def setR (τ : Tau) (a kf : Nat) (r : Option Nat) : Tau := fun b => if b = a then (match τ a with | some (.inl (ci, rs)) => some (.inl (ci, rs.set kf (some r))) | x => x) else τ b
theorem slots_apart (hF : Fx K X cc nL own D mc ms) {ci : Nat} {C : String} {T : u_T} {N : Nat} (hc : vwCl[ci]? = some (C, T, N)) : ∀ x y, x < N → y < N → x ≠ y → (kD K ci) x ≠ (kD K ci) y := by
  obtain ⟨hin, ⟨ty0, hty⟩, hnm⟩ := clsOk ci _ hc
  exact va_apart (own := own) hF.ts hin ty0 hty hnm hF.kx.1 hc
theorem g_put0 (hF : Fx K X cc nL own D mc ms) {idx ci kf a : Nat} (hd : decode cc pc = .ok (.putfield idx, 3)) (hf : FL own idx ci kf desc fin) (hfin : fin = false ∨ (fin = true ∧ (xh X).name = "<init>" ∧ ∃ T N, vwCl[ci]? = some (own, T, N))) {rs : List (Option (Option Nat))} (hs : τ a = some (.inl (ci, rs))) {v : Value} {ty : FieldType} (hty : parseFieldDescriptor desc = some ty) (hnw : narrow ty v = v) (hft : fits ty v = true)
    (kk : ∀ (H H' : Heap) (locs : List Loc) (ls : Array Slot), Rel K (τ, σ, nx) H → (∀ q ∈ locs, kB K ≤ q.base) → lh ls nL L → H'.size = H.size → (∀ q, q ≠ a → H'[q]? = H[q]?) → t_OB a (kC K ci) rs.length (kD K ci) H' (updV (fun k => valOf σ a k (rs.getD k none)) kf v) → Wx X H' locs k n (F0 (xm X) (pc + 3) ls S)) : G K X nL k n pc L (v :: .ref a :: S) (τ, σ, nx) := by
  intro H locs ls hR hq hl
  obtain ⟨C, name, T, N, hc, hT, hk, hlk⟩ := hf
  obtain ⟨⟨r, hr1, hr2⟩, cell, q1, q2, q3, q4⟩ := hR.obj hs
  cases hc.symm.trans hr1
  have hin : ∀ w ∈ u_ws C T N, w ∈ gtb := (clsOk ci _ hc).1
  have hkn : u_Kn (xs X) C T N (kC K ci) (kD K ci) := hF.kx.1.1 ci _ hc
  obtain ⟨hS, hfc, kC, hkC, hkind⟩ := hkn
  obtain ⟨cf, kf', fi, f, hi, hsl⟩ := hS kf hk
  have hi' : (xs X).fieldFound? C name desc = some (cf, kf', fi, f) := by simpa [hT] using hi
  have hst := (u_facts hfc hkC (u_lays hF.ts hin hk) hi).1
  have hap := slots_apart hF hc
  have hN : N = rs.length := hr2
  have ha := (hR.2.2.2.1 a _ hs).1
  have hend : ∀ H' : Heap, H'[a]? = some (cell.setSlot f.slot v) → H'.size = H.size → (∀ q, q ≠ a → H'[q]? = H[q]?) → Wx X H' (locs ++ [⟨a, f.slot⟩]) k n (F0 (xm X) (pc + 3) ls S) := by
    intro H' e1 e2 e3
    rw [hsl] at e1
    refine kk H H' _ ls hR (fun q h => ?_) hl e2 e3 ⟨_, e1, q2, q3, t_set q4 (hN ▸ hap) (hN ▸ hk) v⟩
    rcases List.mem_append.mp h with h | h
    · exact hq q h
    · rw [List.mem_singleton.mp h]; exact ha
  have hlay := hF.ts _ (hin _ (u_in_lay hk))
  rcases hfin with hfin | ⟨hfin, hini, T2, N2, hc2⟩
  · unfold u_lay at hlay
    rw [if_neg (by rw [hT, hfin]; exact fun h => by cases h)] at hlay
    have h6 := u_store (v := v) hfc hkC hkind hlay hi (by rw [hT]; exact hty) hnw hft
    exact W.putK hF.ex hF.co (f := f) ⟨hF.ow, hF.ts _ hlk, ⟨_, _, _, hi'⟩, hst⟩ (by rw [q2]; exact h6) q1 q3 (by rw [hsl]; exact k2_hasslot (q4 kf (hN ▸ hk))) rfl rfl hd hend
  · cases hc.symm.trans hc2
    unfold u_lay at hlay
    rw [if_pos (by rw [hT, hfin])] at hlay
    have h6 := u_fits (v := v) hfc hkC hkind (Or.inr hlay) hi (by rw [hT]; exact hty) hnw hft
    have hcf : (xm X).cls = cf := by
      obtain ⟨_, _, c', _, _, _, -, -, hf', -, -, -, hown2, -⟩ := Cond.laysFinal_spec hlay
      have e1 : c' = cf := by have := hi.symm.trans hf'; simp at this; exact this.1.symm
      rw [hT] at hown2
      rw [← e1]; exact Option.some.inj (hF.ow.symm.trans hown2)
    exact W.putFinK hF.ex hF.co hF.ow (hF.ts _ hlk) hi' hst hcf hini (by rw [q2]; exact h6) q1 q3 (by rw [hsl]; exact k2_hasslot (q4 kf (hN ▸ hk))) rfl rfl hd hend
theorem rel_set {H H' : Heap} {a : Nat} {x : Sh} {τ' : Tau} {σ' : Sig} (hR : Rel K (τ, σ, nx) H) (hs : τ a = some x) (hz : H'.size = H.size) (ho : ∀ q, q ≠ a → H'[q]? = H[q]?) (hτ : ∀ b, b ≠ a → τ' b = τ b) (hσ : ∀ b, b ≠ a → σ' b = σ b) (hc : cellOk K τ' σ' H' a) (hx : ∃ y, τ' a = some y) : Rel K (τ', σ', nx) H' := by
  obtain ⟨h1, h2, h3, h4, h5⟩ := hR
  have ha := h4 a x hs
  refine ⟨hz.trans h1, h2, fun b => ?_, fun b y hb => ?_, fun q hq => ?_⟩
  · by_cases e : b = a
    · subst e; exact hc
    · exact ((h3 b).kept (ho b e) (hσ b e)).tau (hτ b e)
  · by_cases e : b = a
    · subst e; exact ha
    · exact h4 b y ((hτ b e).symm.trans hb)
  · rw [ho q (by have := ha.1; omega)]; exact h5 q hq
theorem g_putI (hF : Fx K X cc nL own D mc ms) {idx ci kf a : Nat} (hd : decode cc pc = .ok (.putfield idx, 3)) (hf : FL own idx ci kf desc fin) (hfin : fin = false ∨ (fin = true ∧ (xh X).name = "<init>" ∧ ∃ T N, vwCl[ci]? = some (own, T, N))) {rs : List (Option (Option Nat))} (hs : τ a = some (.inl (ci, rs))) (hr : rs[kf]? = some none) {v : Int32} (hty : desc = "I" ∨ (desc = "Z" ∧ (v = 0 ∨ v = 1)))
    (kk : G K X nL k n (pc + 3) L S (τ, wr σ a kf v, nx)) : G K X nL k n pc L (.int v :: .ref a :: S) (τ, σ, nx) := by
  have hend : ∀ (H H' : Heap) (locs : List Loc) (ls : Array Slot), Rel K (τ, σ, nx) H → (∀ q ∈ locs, kB K ≤ q.base) → lh ls nL L → H'.size = H.size → (∀ q, q ≠ a → H'[q]? = H[q]?) → t_OB a (kC K ci) rs.length (kD K ci) H' (updV (fun k => valOf σ a k (rs.getD k none)) kf (.int v)) → Wx X H' locs k n (F0 (xm X) (pc + 3) ls S) := by
    intro H H' locs ls hR hq hl hz ho hob
    refine kk H' locs ls (rel_set (τ' := τ) (σ' := wr σ a kf v) hR hs hz ho (fun _ _ => rfl) (fun b hb => wr_row hb) ?_ ⟨_, hs⟩) hq hl
    unfold cellOk
    simp only [hs]
    refine ⟨(hR.obj hs).1, hob.to (fun j hj => ?_)⟩
    by_cases e : j = kf
    · subst e; simp [updV, valOf, List.getD_eq_getElem?_getD, hr, wr]
    · simp only [updV, e, if_false, valOf]; split <;> simp [wr, e]
  rcases hty with rfl | ⟨rfl, hv⟩
  · exact g_put0 hF hd hf hfin hs (ty := .int) rfl rfl rfl hend
  · refine g_put0 hF hd hf hfin hs (ty := .boolean) rfl ?_ ?_ hend
    · rcases hv with rfl | rfl <;> rfl
    · rcases hv with rfl | rfl <;> rfl
theorem g_putR (hF : Fx K X cc nL own D mc ms) {idx ci kf a : Nat} (hd : decode cc pc = .ok (.putfield idx, 3)) (hf : FL own idx ci kf desc fin) (hfin : fin = false ∨ (fin = true ∧ (xh X).name = "<init>" ∧ ∃ T N, vwCl[ci]? = some (own, T, N))) {rs : List (Option (Option Nat))} (hs : τ a = some (.inl (ci, rs))) {r0 r : Option Nat} (hr : rs[kf]? = some (some r0)) (hty : (∃ C, parseFieldDescriptor desc = some (.object C)) ∨ ∃ t, parseFieldDescriptor desc = some (.array t))
    (kk : G K X nL k n (pc + 3) L S (setR τ a kf r, σ, nx)) : G K X nL k n pc L (va_rf r :: .ref a :: S) (τ, σ, nx) := by
  have hkl : kf < rs.length := (List.getElem?_eq_some_iff.mp hr).1
  have hta : setR τ a kf r a = some (.inl (ci, rs.set kf (some r))) := by simp [setR, hs]
  have hend : ∀ (H H' : Heap) (locs : List Loc) (ls : Array Slot), Rel K (τ, σ, nx) H → (∀ q ∈ locs, kB K ≤ q.base) → lh ls nL L → H'.size = H.size → (∀ q, q ≠ a → H'[q]? = H[q]?) → t_OB a (kC K ci) rs.length (kD K ci) H' (updV (fun k => valOf σ a k (rs.getD k none)) kf (va_rf r)) → Wx X H' locs k n (F0 (xm X) (pc + 3) ls S) := by
    intro H H' locs ls hR hq hl hz ho hob
    refine kk H' locs ls (rel_set (τ' := setR τ a kf r) (σ' := σ) hR hs hz ho (fun b hb => by simp [setR, hb]) (fun b hb => rfl) ?_ ⟨_, hta⟩) hq hl
    unfold cellOk
    simp only [hta]
    refine ⟨by rw [List.length_set]; exact (hR.obj hs).1, ?_⟩
    rw [List.length_set]
    refine hob.to (fun j hj => ?_)
    by_cases e : j = kf
    · subst e; simp [updV, valOf, List.getD_eq_getElem?_getD, hkl]
    · simp only [updV, e, if_false, List.getD_eq_getElem?_getD, List.getElem?_set_ne (Ne.symm e)]
  rcases hty with ⟨C, hC⟩ | ⟨t, ht⟩
  · refine g_put0 hF hd hf hfin hs hC ?_ ?_ hend
    · cases r <;> rfl
    · cases r <;> rfl
  · refine g_put0 hF hd hf hfin hs ht ?_ ?_ hend
    · cases r <;> rfl
    · cases r <;> rfl
/-- a place of an int array -/
def ld (N : Nat) (f : Nat → Int32) (i : Int32) : Option Int32 := if i < 0 ∨ N ≤ i.toNatClampNeg then none else some (f i.toNatClampNeg)
theorem ld_some {N : Nat} {f : Nat → Int32} {i v : Int32} (h : ld N f i = some v) : ¬ (i < 0 ∨ N ≤ i.toNatClampNeg) ∧ v = f i.toNatClampNeg := by
  unfold ld at h
  split at h
  · cases h
  · next hc => cases h; exact ⟨hc, rfl⟩
theorem g_ild (hF : Fx K X cc nL own D mc ms) {a N : Nat} {i v : Int32} (hd : decode cc pc = .ok (.iaload, 1)) (hs : τ a = some (.inr (.inl N))) (hv : ld N (σ a) i = some v) (kk : G K X nL k n (pc + 1) L (.int v :: S) (τ, σ, nx)) : G K X nL k n pc L (.int i :: .ref a :: S) (τ, σ, nx) := by
  intro H locs ls hR hq hl
  obtain ⟨hin, rfl⟩ := ld_some hv
  have hlt : i.toNatClampNeg < N := Nat.not_le.mp fun q => hin (Or.inr q)
  exact W.iald (v := .int (σ a i.toNatClampNeg)) hF.ex hF.co (hR.arr hs) ((hF.kx.1.2 0 _ rfl).1 N (fun j => .int (σ a j))) (fun q => by cases q) (by rw [arrV_size]; exact hin) (by rw [arrV_read _ _ hlt]) rfl rfl hd (kk H locs ls hR hq hl)
/-- a store into an int array of N places -/
def st (N : Nat) (σ : Sig) (a : Nat) (i v : Int32) : Option Sig := if i < 0 ∨ N ≤ i.toNatClampNeg then none else some (wr σ a i.toNatClampNeg v)
theorem st_some {N : Nat} {σ σ' : Sig} {a : Nat} {i v : Int32} (h : st N σ a i v = some σ') : ¬ (i < 0 ∨ N ≤ i.toNatClampNeg) ∧ σ' = wr σ a i.toNatClampNeg v := by
  unfold st at h
  split at h
  · cases h
  · next hc => cases h; exact ⟨hc, rfl⟩
theorem g_ist (hF : Fx K X cc nL own D mc ms) {a N : Nat} {i v : Int32} {σ' : Sig} (hd : decode cc pc = .ok (.iastore, 1)) (hs : τ a = some (.inr (.inl N))) (hv : st N σ a i v = some σ') (kk : G K X nL k n (pc + 1) L S (τ, σ', nx)) : G K X nL k n pc L (.int v :: .int i :: .ref a :: S) (τ, σ, nx) := by
  intro H locs ls hR hq hl
  obtain ⟨hin, rfl⟩ := st_some hv
  have hlt : i.toNatClampNeg < N := Nat.not_le.mp fun q => hin (Or.inr q)
  have ha := (hR.2.2.2.1 a _ hs).1
  refine W.iast hF.ex hF.co (hR.arr hs) ((hF.kx.1.2 0 _ rfl).1 N (fun j => .int (σ a j))) (fun q => by cases q) (by rw [arrV_size]; exact hin) rfl rfl hd fun H1 e z oq => ?_
  refine kk H1 _ ls (rel_set (τ' := τ) (σ' := wr σ a i.toNatClampNeg v) hR hs z oq (fun _ _ => rfl) (fun b hb => wr_row hb) ?_ ⟨_, hs⟩) (fun q h => ?_) hl
  · unfold cellOk
    simp only [hs]
    rw [e, arrV_store]
    congr 2
    funext q
    by_cases hqe : q = i.toNatClampNeg
    · subst hqe; simp [updV, wr]
    · simp [updV, wr, hqe]
  · rcases List.mem_append.mp h with h | h
    · exact hq q h
    · rw [List.mem_singleton.mp h]; exact ha
theorem g_alen (hF : Fx K X cc nL own D mc ms) {a N : Nat} {v : Int32} (hd : decode cc pc = .ok (.arraylength, 1)) (hs : τ a = some (.inr (.inl N))) (hv : Int32.ofNat N = v) (kk : G K X nL k n (pc + 1) L (.int v :: S) (τ, σ, nx)) : G K X nL k n pc L (.ref a :: S) (τ, σ, nx) := by
  intro H locs ls hR hq hl
  exact W.alen (n := v) hF.ex hF.co (hR.arr hs) ((hF.kx.1.2 0 _ rfl).1 N (fun j => .int (σ a j))) (by rw [arrV_size]; exact hv) rfl rfl hd (kk H locs ls hR hq hl)
end HP
end
section
/-! BRANCHES, RETURNS, DIVISIONS, CONSTANTS OF THE POOL, SWITCHES. -/
section CT
variable {K : Kt} {X : Cx} {cc : ByteArray} {nL : Nat} {own : String} {D mc ms k n pc : Nat} {L : Lo} {S : List Value} {h : Hp}
theorem g_if_eq (hF : Fx K X cc nL own D mc ms) {x : Int32} {off : Int} {tgt : Nat} (hd : decode cc pc = .ok (.ifCond .eq off, 3)) (ht : (pc : Int) + off = (tgt : Int)) (kt : x = 0 → G K X nL k n tgt L S h) (kf : ¬ x = 0 → G K X nL k n (pc + 3) L S h) : G K X nL k n pc L (.int x :: S) h :=
  fun H locs ls hR hq hl => lv_if_eq hF.ex hF.co hd ht (fun c => kt c H locs ls hR hq hl) (fun c => kf c H locs ls hR hq hl)
theorem g_icmp_eq (hF : Fx K X cc nL own D mc ms) {x y : Int32} {off : Int} {tgt : Nat} (hd : decode cc pc = .ok (.if_icmp .eq off, 3)) (ht : (pc : Int) + off = (tgt : Int)) (kt : x = y → G K X nL k n tgt L S h) (kf : ¬ x = y → G K X nL k n (pc + 3) L S h) : G K X nL k n pc L (.int y :: .int x :: S) h :=
  fun H locs ls hR hq hl => lv_icmp_eq hF.ex hF.co hd ht (fun c => kt c H locs ls hR hq hl) (fun c => kf c H locs ls hR hq hl)
theorem g_if_ne (hF : Fx K X cc nL own D mc ms) {x : Int32} {off : Int} {tgt : Nat} (hd : decode cc pc = .ok (.ifCond .ne off, 3)) (ht : (pc : Int) + off = (tgt : Int)) (kt : ¬ x = 0 → G K X nL k n tgt L S h) (kf : x = 0 → G K X nL k n (pc + 3) L S h) : G K X nL k n pc L (.int x :: S) h :=
  fun H locs ls hR hq hl => lv_if_ne hF.ex hF.co hd ht (fun c => kt c H locs ls hR hq hl) (fun c => kf c H locs ls hR hq hl)
theorem g_icmp_ne (hF : Fx K X cc nL own D mc ms) {x y : Int32} {off : Int} {tgt : Nat} (hd : decode cc pc = .ok (.if_icmp .ne off, 3)) (ht : (pc : Int) + off = (tgt : Int)) (kt : ¬ x = y → G K X nL k n tgt L S h) (kf : x = y → G K X nL k n (pc + 3) L S h) : G K X nL k n pc L (.int y :: .int x :: S) h :=
  fun H locs ls hR hq hl => lv_icmp_ne hF.ex hF.co hd ht (fun c => kt c H locs ls hR hq hl) (fun c => kf c H locs ls hR hq hl)
theorem g_if_lt (hF : Fx K X cc nL own D mc ms) {x : Int32} {off : Int} {tgt : Nat} (hd : decode cc pc = .ok (.ifCond .lt off, 3)) (ht : (pc : Int) + off = (tgt : Int)) (kt : x < 0 → G K X nL k n tgt L S h) (kf : ¬ x < 0 → G K X nL k n (pc + 3) L S h) : G K X nL k n pc L (.int x :: S) h :=
  fun H locs ls hR hq hl => lv_if_lt hF.ex hF.co hd ht (fun c => kt c H locs ls hR hq hl) (fun c => kf c H locs ls hR hq hl)
theorem g_icmp_lt (hF : Fx K X cc nL own D mc ms) {x y : Int32} {off : Int} {tgt : Nat} (hd : decode cc pc = .ok (.if_icmp .lt off, 3)) (ht : (pc : Int) + off = (tgt : Int)) (kt : x < y → G K X nL k n tgt L S h) (kf : ¬ x < y → G K X nL k n (pc + 3) L S h) : G K X nL k n pc L (.int y :: .int x :: S) h :=
  fun H locs ls hR hq hl => lv_icmp_lt hF.ex hF.co hd ht (fun c => kt c H locs ls hR hq hl) (fun c => kf c H locs ls hR hq hl)
theorem g_if_ge (hF : Fx K X cc nL own D mc ms) {x : Int32} {off : Int} {tgt : Nat} (hd : decode cc pc = .ok (.ifCond .ge off, 3)) (ht : (pc : Int) + off = (tgt : Int)) (kt : 0 ≤ x → G K X nL k n tgt L S h) (kf : ¬ 0 ≤ x → G K X nL k n (pc + 3) L S h) : G K X nL k n pc L (.int x :: S) h :=
  fun H locs ls hR hq hl => lv_if_ge hF.ex hF.co hd ht (fun c => kt c H locs ls hR hq hl) (fun c => kf c H locs ls hR hq hl)
theorem g_icmp_ge (hF : Fx K X cc nL own D mc ms) {x y : Int32} {off : Int} {tgt : Nat} (hd : decode cc pc = .ok (.if_icmp .ge off, 3)) (ht : (pc : Int) + off = (tgt : Int)) (kt : y ≤ x → G K X nL k n tgt L S h) (kf : ¬ y ≤ x → G K X nL k n (pc + 3) L S h) : G K X nL k n pc L (.int y :: .int x :: S) h :=
  fun H locs ls hR hq hl => lv_icmp_ge hF.ex hF.co hd ht (fun c => kt c H locs ls hR hq hl) (fun c => kf c H locs ls hR hq hl)
theorem g_if_gt (hF : Fx K X cc nL own D mc ms) {x : Int32} {off : Int} {tgt : Nat} (hd : decode cc pc = .ok (.ifCond .gt off, 3)) (ht : (pc : Int) + off = (tgt : Int)) (kt : 0 < x → G K X nL k n tgt L S h) (kf : ¬ 0 < x → G K X nL k n (pc + 3) L S h) : G K X nL k n pc L (.int x :: S) h :=
  fun H locs ls hR hq hl => lv_if_gt hF.ex hF.co hd ht (fun c => kt c H locs ls hR hq hl) (fun c => kf c H locs ls hR hq hl)
theorem g_icmp_gt (hF : Fx K X cc nL own D mc ms) {x y : Int32} {off : Int} {tgt : Nat} (hd : decode cc pc = .ok (.if_icmp .gt off, 3)) (ht : (pc : Int) + off = (tgt : Int)) (kt : y < x → G K X nL k n tgt L S h) (kf : ¬ y < x → G K X nL k n (pc + 3) L S h) : G K X nL k n pc L (.int y :: .int x :: S) h :=
  fun H locs ls hR hq hl => lv_icmp_gt hF.ex hF.co hd ht (fun c => kt c H locs ls hR hq hl) (fun c => kf c H locs ls hR hq hl)
theorem g_if_le (hF : Fx K X cc nL own D mc ms) {x : Int32} {off : Int} {tgt : Nat} (hd : decode cc pc = .ok (.ifCond .le off, 3)) (ht : (pc : Int) + off = (tgt : Int)) (kt : x ≤ 0 → G K X nL k n tgt L S h) (kf : ¬ x ≤ 0 → G K X nL k n (pc + 3) L S h) : G K X nL k n pc L (.int x :: S) h :=
  fun H locs ls hR hq hl => lv_if_le hF.ex hF.co hd ht (fun c => kt c H locs ls hR hq hl) (fun c => kf c H locs ls hR hq hl)
theorem g_icmp_le (hF : Fx K X cc nL own D mc ms) {x y : Int32} {off : Int} {tgt : Nat} (hd : decode cc pc = .ok (.if_icmp .le off, 3)) (ht : (pc : Int) + off = (tgt : Int)) (kt : x ≤ y → G K X nL k n tgt L S h) (kf : ¬ x ≤ y → G K X nL k n (pc + 3) L S h) : G K X nL k n pc L (.int y :: .int x :: S) h :=
  fun H locs ls hR hq hl => lv_icmp_le hF.ex hF.co hd ht (fun c => kt c H locs ls hR hq hl) (fun c => kf c H locs ls hR hq hl)
theorem g_goto (hF : Fx K X cc nL own D mc ms) {off : Int} {tgt : Nat} (hd : decode cc pc = .ok (.goto off, 3)) (ht : (pc : Int) + off = (tgt : Int)) (kk : G K X nL k n tgt L S h) : G K X nL k n pc L S h :=
  fun H locs ls hR hq hl => lv_goto hF.ex hF.co hd ht (kk H locs ls hR hq hl)
theorem g_idiv (hF : Fx K X cc nL own D mc ms) {x y : Int32} (hd : decode cc pc = .ok (.idiv, 1)) (hne : ¬ y = 0) (kk : G K X nL k n (pc + 1) L (.int (x / y) :: S) h) : G K X nL k n pc L (.int y :: .int x :: S) h :=
  fun H locs ls hR hq hl => lv_idiv hF.ex hF.co hd hne (kk H locs ls hR hq hl)
theorem g_irem (hF : Fx K X cc nL own D mc ms) {x y : Int32} (hd : decode cc pc = .ok (.irem, 1)) (hne : ¬ y = 0) (kk : G K X nL k n (pc + 1) L (.int (x - x / y * y) :: S) h) : G K X nL k n pc L (.int y :: .int x :: S) h :=
  fun H locs ls hR hq hl => lv_irem hF.ex hF.co hd hne (kk H locs ls hR hq hl)
theorem g_ldc (hF : Fx K X cc nL own D mc ms) {idx : Nat} {v : Int32} (hd : decode cc pc = .ok (.ldc idx, 2)) (hw : Cond.constant own idx v ∈ gtb) (kk : G K X nL k n (pc + 2) L (.int v :: S) h) : G K X nL k n pc L S h :=
  fun H locs ls hR hq hl => lv_ldc hF.ex hF.co hF.ow (hF.ts _ hw) hd (kk H locs ls hR hq hl)
theorem g_ldcw (hF : Fx K X cc nL own D mc ms) {idx : Nat} {v : Int32} (hd : decode cc pc = .ok (.ldc_w idx, 3)) (hw : Cond.constant own idx v ∈ gtb) (kk : G K X nL k n (pc + 3) L (.int v :: S) h) : G K X nL k n pc L S h :=
  fun H locs ls hR hq hl => lv_ldcw hF.ex hF.co hF.ow (hF.ts _ hw) hd (kk H locs ls hR hq hl)
theorem g_ifnonnull (hF : Fx K X cc nL own D mc ms) {x : Nat} {off : Int} {tgt : Nat} (hd : decode cc pc = .ok (.ifnonnull off, 3)) (ht : (pc : Int) + off = (tgt : Int)) (kk : G K X nL k n tgt L S h) : G K X nL k n pc L (.ref x :: S) h :=
  fun H locs ls hR hq hl => lv_ifnonnull hF.ex hF.co hd ht (kk H locs ls hR hq hl)
theorem g_ifnonnullN (hF : Fx K X cc nL own D mc ms) {off : Int} (hd : decode cc pc = .ok (.ifnonnull off, 3)) (kk : G K X nL k n (pc + 3) L S h) : G K X nL k n pc L (.null :: S) h :=
  fun H locs ls hR hq hl => lv_ifnonnullN hF.ex hF.co hd (kk H locs ls hR hq hl)
theorem g_ifnull (hF : Fx K X cc nL own D mc ms) {x : Nat} {off : Int} (hd : decode cc pc = .ok (.ifnull off, 3)) (kk : G K X nL k n (pc + 3) L S h) : G K X nL k n pc L (.ref x :: S) h :=
  fun H locs ls hR hq hl => lv_ifnull hF.ex hF.co hd (kk H locs ls hR hq hl)
theorem g_ifnullN (hF : Fx K X cc nL own D mc ms) {off : Int} {tgt : Nat} (hd : decode cc pc = .ok (.ifnull off, 3)) (ht : (pc : Int) + off = (tgt : Int)) (kk : G K X nL k n tgt L S h) : G K X nL k n pc L (.null :: S) h :=
  fun H locs ls hR hq hl => lv_ifnullN hF.ex hF.co hd ht (kk H locs ls hR hq hl)
/-- more room than was used -/
theorem g_widen {k' n' : Nat} (h1 : k ≤ k') (h2 : n ≤ n') (kk : G K X nL k' n' pc L S h) : G K X nL k n pc L S h :=
  fun H locs ls hR hq hl => W.widen h1 h2 (kk H locs ls hR hq hl)
/-- locals that are not looked at any more -/
theorem g_drop {L' : Lo} (hd : ∀ (i : Nat) (v : Value), L'[i]? = some (some v) → L[i]? = some (some v)) (kk : G K X nL k n pc L' S h) : G K X nL k n pc L S h :=
  fun H locs ls hR hq hl => kk H locs ls hR hq ⟨hl.1, hl.2.1, fun i v hv => hl.2.2 i v (hd i v hv)⟩
def lsub : Lo → Lo → Bool
  | [], _ => true
  | none :: L', _ :: L => lsub L' L
  | none :: L', [] => lsub L' []
  | some _ :: _, _ => false
theorem g_iret (hF : Fx K X cc nL own D mc ms) {v : Int32} (hE : En K X (some .int) mc ms (some (.int v)) h) (hd : decode cc pc = .ok (.ireturn, 1)) (h1 : k ≤ mc) (h2 : n ≤ ms) : G K X nL k n pc L [.int v] h := by
  intro H locs ls hR hq hl
  refine W.widen h1 h2 ?_
  rw [hE.1]
  exact W.iret hF.ex hF.co hE.2 (fun t ht _ => ⟨rfl, by rw [ht]; exact hR⟩) hq hd hF.lk
theorem g_zret (hF : Fx K X cc nL own D mc ms) {v : Int32} (hE : En K X (some .boolean) mc ms (some (.int v)) h) (hv : v = 0 ∨ v = 1) (hd : decode cc pc = .ok (.ireturn, 1)) (h1 : k ≤ mc) (h2 : n ≤ ms) : G K X nL k n pc L [.int v] h := by
  intro H locs ls hR hq hl
  refine W.widen h1 h2 ?_
  rw [hE.1]
  exact W.zret hF.ex hF.co hE.2 (by rcases hv with rfl | rfl <;> rfl) (fun t ht _ => ⟨rfl, by rw [ht]; exact hR⟩) hq hd hF.lk
theorem g_vret (hF : Fx K X cc nL own D mc ms) (hE : En K X none mc ms none h) (hd : decode cc pc = .ok (.return_, 1)) (h1 : k ≤ mc) (h2 : n ≤ ms) : G K X nL k n pc L [] h := by
  intro H locs ls hR hq hl
  refine W.widen h1 h2 ?_
  rw [hE.1]
  exact W.vret hF.ex hF.co hE.2 (fun t ht _ => ⟨rfl, by rw [ht]; exact hR⟩) hq hd hF.lk
theorem g_aret (hF : Fx K X cc nL own D mc ms) {r : Option Nat} {rt : FieldType} (hE : En K X (some rt) mc ms (some (va_rf r)) h) (hrt : (∃ c, rt = .object c) ∨ ∃ t, rt = .array t) (hd : decode cc pc = .ok (.areturn, 1)) (h1 : k ≤ mc) (h2 : n ≤ ms) : G K X nL k n pc L [va_rf r] h := by
  intro H locs ls hR hq hl
  refine W.widen h1 h2 ?_
  rw [hE.1]
  exact W.aret hF.ex hF.co hE.2 hrt (by cases r; exact Or.inl rfl; exact Or.inr ⟨_, rfl⟩) (fun t ht _ => ⟨rfl, by rw [ht]; exact hR⟩) hq hd hF.lk
/-- a switch whose places are known one by one -/
theorem g_tsw (hF : Fx K X cc nL own D mc ms) {dflt lo hi : Int} {offs : Array Int} {len : Nat} {x c : Int32} {off : Int} {tgt : Nat} (hd : decode cc pc = .ok (.tableswitch dflt lo hi offs, len)) (hx : x = c) (h1 : ¬ c.toInt < lo) (h2 : ¬ hi < c.toInt) (ho : offs[(c.toInt - lo).toNat]? = some off) (ht : (pc : Int) + off = (tgt : Int)) (kk : G K X nL k n tgt L S h) : G K X nL k n pc L (.int x :: S) h := by
  subst hx
  exact fun H locs ls hR hq hl => lv_tableIn hF.ex hF.co hd h1 h2 ho ht (kk H locs ls hR hq hl)
theorem g_tswD (hF : Fx K X cc nL own D mc ms) {dflt lo hi : Int} {offs : Array Int} {len : Nat} {x : Int32} {tgt : Nat} (hd : decode cc pc = .ok (.tableswitch dflt lo hi offs, len)) (ho : x.toInt < lo ∨ hi < x.toInt) (ht : (pc : Int) + dflt = (tgt : Int)) (kk : G K X nL k n tgt L S h) : G K X nL k n pc L (.int x :: S) h :=
  fun H locs ls hR hq hl => lv_tableOut hF.ex hF.co hd ho ht (kk H locs ls hR hq hl)
/-- none of the numbers lo, lo + 1 .. : outside -/
theorem tsw_out {x : Int32} (lo : Int) : ∀ (m : Nat), (∀ j : Nat, j < m → x.toInt ≠ lo + j) → x.toInt < lo ∨ lo + m ≤ x.toInt := by
  intro m hm
  by_cases h1 : x.toInt < lo
  · exact Or.inl h1
  · refine Or.inr ?_
    by_cases h2 : lo + m ≤ x.toInt
    · exact h2
    · exact absurd (by omega) (hm (x.toInt - lo).toNat (by omega))
end CT
end
section
/-! CALLS. -/
theorem gtb_good {w : Cond} (h : w ∈ gtb) : (w.onTables && w.keeps) = true ∨ ∃ ty, w = .arrayClass ty := good_of_word (List.mem_filter.mp h).2
theorem gtb_of {w : Cond} (h : w ∈ lw_tbl) (hg : goodWord w = true) : w ∈ gtb := List.mem_filter.mpr ⟨h, hg⟩
/-- a place of the tables -/
theorem gtb_at (i : Nat) {w : Cond} (h : tables_1[i]? = some w) (hg : goodWord w = true) : w ∈ gtb := gtb_of (List.mem_append_right _ (List.mem_of_getElem? h)) hg
theorem gtb_t1 (i : Nat) {w : Cond} (h : tables_1_1[i]? = some w) (hg : goodWord w = true) : w ∈ gtb := gtb_of (List.mem_append_right _ (List.mem_append_left _ (List.mem_of_getElem? h))) hg
theorem gtb_t2 (i : Nat) {w : Cond} (h : tables_1_2[i]? = some w) (hg : goodWord w = true) : w ∈ gtb := gtb_of (List.mem_append_right _ (List.mem_append_right _ (List.mem_append_left _ (List.mem_of_getElem? h)))) hg
theorem gtb_t3 (i : Nat) {w : Cond} (h : tables_1_3[i]? = some w) (hg : goodWord w = true) : w ∈ gtb := gtb_of (List.mem_append_right _ (List.mem_append_right _ (List.mem_append_right _ (List.mem_append_left _ (List.mem_of_getElem? h))))) hg
theorem gtb_t4 (i : Nat) {w : Cond} (h : tables_1_4[i]? = some w) (hg : goodWord w = true) : w ∈ gtb := gtb_of (List.mem_append_right _ (List.mem_append_right _ (List.mem_append_right _ (List.mem_append_right _ (List.mem_append_left _ (List.mem_of_getElem? h)))))) hg
theorem gtb_t5 (i : Nat) {w : Cond} (h : tables_1_5[i]? = some w) (hg : goodWord w = true) : w ∈ gtb := gtb_of (List.mem_append_right _ (List.mem_append_right _ (List.mem_append_right _ (List.mem_append_right _ (List.mem_append_right _ (List.mem_append_left _ (List.mem_of_getElem? h))))))) hg
theorem gtb_t6 (i : Nat) {w : Cond} (h : tables_1_6[i]? = some w) (hg : goodWord w = true) : w ∈ gtb := gtb_of (List.mem_append_right _ (List.mem_append_right _ (List.mem_append_right _ (List.mem_append_right _ (List.mem_append_right _ (List.mem_append_right _ (List.mem_append_left _ (List.mem_of_getElem? h)))))))) hg
theorem gtb_t7 (i : Nat) {w : Cond} (h : tables_1_7[i]? = some w) (hg : goodWord w = true) : w ∈ gtb := gtb_of (List.mem_append_right _ (List.mem_append_right _ (List.mem_append_right _ (List.mem_append_right _ (List.mem_append_right _ (List.mem_append_right _ (List.mem_append_right _ (List.mem_of_getElem? h)))))))) hg
theorem gtb_pr (i : Nat) {w : Cond} (h : (k2_sels lw_privs)[i]? = some w) (hg : goodWord w = true) : w ∈ gtb := gtb_of (List.mem_append_left _ (List.mem_of_getElem? h)) hg
theorem pcc_blind (K : Kt) (A : List Value) (h : Hp) : FrameBlind (Pcc K A h) := fun a U g mk q => ⟨q.1, q.2.1, Kx.same (s := U) (U := U.calling g mk a) rfl q.2.2⟩
/-- what is said of a method that is called -/
def MB (y : MethodName) (cc : ByteArray) (nL : Nat) (ret : Option FieldType) (np : Nat) : Prop := Cond.code y cc nL ret ∈ gtb ∧ Cond.initialized y.cls ∈ gtb ∧ (y.cls ≠ "java/lang/invoke/MethodHandle" ∧ y.cls ≠ "java/lang/invoke/VarHandle" ∧ (parseMethodDescriptor y.desc).map (fun d => d.parameters.length) = some np)
def MV (y : MethodName) : Prop := Cond.instanceMethod y ∈ gtb ∧ Cond.selects y.cls y y ∈ gtb
def MS (y : MethodName) : Prop := Cond.static y ∈ gtb
def MI (y : MethodName) : Prop := y.name = "<init>" ∧ Cond.instanceMethod y ∈ gtb
section CA
variable {K : Kt} {X : Cx} {cc : ByteArray} {nL : Nat} {own : String} {D mc ms k n pc : Nat} {L : Lo} {S S0 : List Value} {h h1 : Hp} {τ : Tau} {σ : Sig} {nx : Nat}
variable {y : MethodName} {cc' : ByteArray} {nL' np D' mc' ms' idx : Nat} {ret' : Option FieldType} {As : List Value} {r : Option Value} {b : Nat}
theorem good_ws (hm : Cond.code y cc' nL' ret' ∈ gtb) : GoodIn gtb (Cond.code y cc' nL' ret' :: gtb) := fun w hw => by
  rcases List.mem_cons.mp hw with rfl | hw
  · exact ⟨hm, gtb_good hm⟩
  · exact ⟨hw, gtb_good hw⟩
theorem run_go {a : Array Value} {H : Heap} {locs : List Loc} {ls : Array Slot} (hr : va_Run (xp X) (xl X) (xe X) (xR X) (xs X) (xm X) (xa X) (xb X) (xh X) (xc X) H locs k n mc' ms' (F0 (xm X) pc ls S0) S (Qcc K r h1 a) (kA K)) (hq : ∀ q ∈ locs, kB K ≤ q.base) (hl : lh ls nL L) (kk : G K X nL (k + mc') (n + ms') (pc + 3) L (r.toList ++ S) h1) : Wx X H locs k n (F0 (xm X) pc ls S0) := by
  intro T hT Xs
  obtain ⟨v, st₀, t, T', Lc, h0, X', hL, e1, e2, ⟨hv, hR'⟩, st⟩ := hr T hT Xs
  cases hv
  obtain ⟨t2, a1, b1⟩ := kk T'.heap (locs ++ Lc) ls (by rw [e1]; exact hR') (fun q h => by
    rcases List.mem_append.mp h with h | h
    · exact hq q h
    · exact hL q h) hl T' rfl X'
  exact ⟨t2, st t2 a1, b1⟩
theorem roomF (hF : Fx K X cc nL own D mc ms) (hD : D' + 1 ≤ D) (hnl : nL' ≤ 45) : ({ frames := D', cells := mc', slots := ms', locals := 64 * D' } : Room).frames + 1 ≤ (xR X).frames ∧ 8 + (nL' + 11) + ({ frames := D', cells := mc', slots := ms', locals := 64 * D' } : Room).locals ≤ (xR X).locals := by
  have h1 := hF.fr; have h2 := hF.lo
  constructor
  · show D' + 1 ≤ _; omega
  · show 8 + (nL' + 11) + 64 * D' ≤ _; omega
theorem g_cV (hF : Fx K X cc nL own D mc ms) (hOk : Ok D' mc' ms' y cc' nL' ret' (.ref b :: As) (τ, σ, nx) r h1) (hm : MB y cc' nL' ret' np) (hv : MV y) (hlk : Cond.methodLink own idx y ∈ gtb) (hD : D' + 1 ≤ D) (hnl : nL' ≤ 45) (hd : decode cc pc = .ok (.invokevirtual idx, 3)) {ci : Nat} {rs : List (Option (Option Nat))} {T : u_T} {N : Nat} (hb : τ b = some (.inl (ci, rs))) (hcl : vwCl[ci]? = some (y.cls, T, N)) (hn : As.length = np) (hst : S0 = As.reverse ++ .ref b :: S) (hS : (S.map fun v => v.category).sum ≤ 8) {k1 n1 : Nat} {S1 : List Value} (hk1 : k + mc' = k1) (hn1 : n + ms' = n1) (hc : k1 ≤ mc) (hs : n1 ≤ ms) (hS1 : r.toList ++ S = S1)
    (kk : G K X nL k1 n1 (pc + 3) L S1 h1) : G K X nL k n pc L S0 (τ, σ, nx) := by
  intro H locs ls hR hq hl
  subst hk1; subst hn1; subst hS1
  have h1 := hF.ce; have h2 := hF.sl
  have hcb := callB_of (own := own) (index := idx) (R := xR X) (mc := mc') (ms := ms') (rm := { frames := D', cells := mc', slots := ms', locals := 64 * D' }) np hF.ts (good_ws hm.1) rfl rfl rfl (hF.ts _ hm.2.1) (hF.ts _ hlk) hm.2.2 (roomF hF hD hnl)
  obtain ⟨-, cell, q1, q2, q3, -⟩ := hR.obj hb
  have hfc := (hF.kx.1.1 ci _ hcl).2.1
  exact run_go (va_runV (C := y.cls) (As := As) (rest := S) (b := b) ⟨hF.ex, hF.co, hF.ml, hF.ow, hF.ts⟩ (hOk (xl X) K) ⟨hcb, hF.ts _ hv.1, hF.ts _ hv.2⟩ ⟨pcc_blind K _ _, ⟨cell, q1, by rw [q3]; rfl, by rw [q2]; exact hfc⟩, fun U hU hW => ⟨rfl, by rw [hU]; exact hR, Kx.warm hW hF.kx⟩⟩ rfl hn hl.1 hst (by show 2 * 0 + _ ≤ 8; omega) hd ⟨by omega, by omega⟩) hq hl kk
theorem g_cS (hF : Fx K X cc nL own D mc ms) (hOk : Ok D' mc' ms' y cc' nL' ret' As h r h1) (hm : MB y cc' nL' ret' np) (hv : MS y) (hlk : Cond.methodLink own idx y ∈ gtb) (hD : D' + 1 ≤ D) (hnl : nL' ≤ 45) (hd : decode cc pc = .ok (.invokestatic idx, 3)) (hn : As.length = np) (hst : S0 = As.reverse ++ S) (hS : (S.map fun v => v.category).sum ≤ 8) {k1 n1 : Nat} {S1 : List Value} (hk1 : k + mc' = k1) (hn1 : n + ms' = n1) (hc : k1 ≤ mc) (hs : n1 ≤ ms) (hS1 : r.toList ++ S = S1)
    (kk : G K X nL k1 n1 (pc + 3) L S1 h1) : G K X nL k n pc L S0 h := by
  intro H locs ls hR hq hl
  subst hk1; subst hn1; subst hS1
  have h1 := hF.ce; have h2 := hF.sl
  have hcb := callB_of (own := own) (index := idx) (R := xR X) (mc := mc') (ms := ms') (rm := { frames := D', cells := mc', slots := ms', locals := 64 * D' }) np hF.ts (good_ws hm.1) rfl rfl rfl (hF.ts _ hm.2.1) (hF.ts _ hlk) hm.2.2 (roomF hF hD hnl)
  exact run_go (va_runS (As := As) (rest := S) ⟨hF.ex, hF.co, hF.ml, hF.ow, hF.ts⟩ (hOk (xl X) K) ⟨hcb, hF.ts _ hv⟩ ⟨pcc_blind K _ _, fun U hU hW => ⟨rfl, by rw [hU]; exact hR, Kx.warm hW hF.kx⟩⟩ rfl hn hl.1 hst (by show 2 * 0 + _ ≤ 8; omega) hd ⟨by omega, by omega⟩) hq hl kk
theorem g_cI (hF : Fx K X cc nL own D mc ms) (hOk : Ok D' mc' ms' y cc' nL' none (.ref b :: As) h r h1) (hm : MB y cc' nL' none np) (hv : MI y) (hlk : Cond.methodLink own idx y ∈ gtb) (hD : D' + 1 ≤ D) (hnl : nL' ≤ 45) (hd : decode cc pc = .ok (.invokespecial idx, 3)) (hn : As.length = np) (hst : S0 = As.reverse ++ .ref b :: S) (hS : (S.map fun v => v.category).sum ≤ 8) {k1 n1 : Nat} {S1 : List Value} (hk1 : k + mc' = k1) (hn1 : n + ms' = n1) (hc : k1 ≤ mc) (hs : n1 ≤ ms) (hS1 : r.toList ++ S = S1)
    (kk : G K X nL k1 n1 (pc + 3) L S1 h1) : G K X nL k n pc L S0 h := by
  intro H locs ls hR hq hl
  subst hk1; subst hn1; subst hS1
  have h1 := hF.ce; have h2 := hF.sl
  have hcb := callB_of (own := own) (index := idx) (R := xR X) (mc := mc') (ms := ms') (rm := { frames := D', cells := mc', slots := ms', locals := 64 * D' }) np hF.ts (good_ws hm.1) rfl rfl rfl (hF.ts _ hm.2.1) (hF.ts _ hlk) hm.2.2 (roomF hF hD hnl)
  exact run_go (va_runI (As := As) (rest := S) (b := b) ⟨hF.ex, hF.co, hF.ml, hF.ow, hF.ts⟩ (hOk (xl X) K) ⟨hcb, hv.1, hF.ts _ hv.2⟩ ⟨pcc_blind K _ _, fun U hU hW => ⟨rfl, by rw [hU]; exact hR, Kx.warm hW hF.kx⟩⟩ rfl hn hl.1 hst (by show 2 * 0 + _ ≤ 8; omega) hd ⟨by omega, by omega⟩) hq hl kk
/-- a link to a nest mate's private method -/
def NL (own : String) (idx : Nat) (y : MethodName) : Prop := Cond.methodLinkNest own idx y "SilenceForMoney" ∈ lw_tbl
theorem g_cSN (hF : Fx K X cc nL own D mc ms) (hOk : Ok D' mc' ms' y cc' nL' ret' As h r h1) (hm : MB y cc' nL' ret' np) (hv : MS y) (hlk : NL own idx y) (hD : D' + 1 ≤ D) (hnl : nL' ≤ 45) (hd : decode cc pc = .ok (.invokestatic idx, 3)) (hn : As.length = np) (hst : S0 = As.reverse ++ S) (hS : (S.map fun v => v.category).sum ≤ 8) {k1 n1 : Nat} {S1 : List Value} (hk1 : k + mc' = k1) (hn1 : n + ms' = n1) (hc : k1 ≤ mc) (hs : n1 ≤ ms) (hS1 : r.toList ++ S = S1)
    (kk : G K X nL k1 n1 (pc + 3) L S1 h1) : G K X nL k n pc L S0 h := by
  intro H locs ls hR hq hl
  subst hk1; subst hn1; subst hS1
  have h1 := hF.ce; have h2 := hF.sl
  have hcb := va_cnB (own := own) (index := idx) (R := xR X) (mc := mc') (ms := ms') (rm := { frames := D', cells := mc', slots := ms', locals := 64 * D' }) np hF.ts (good_ws hm.1) rfl rfl rfl (hF.kx.2.1 _ hlk rfl) (hF.ts _ hm.2.1) hm.2.2 (roomF hF hD hnl)
  exact run_go (va_runSN (As := As) (rest := S) ⟨hF.ex, hF.co, hF.ml, hF.ow, hF.ts⟩ (hOk (xl X) K) ⟨hcb, hF.ts _ hv, trivial⟩ ⟨pcc_blind K _ _, fun U hU hW => ⟨rfl, by rw [hU]; exact hR, Kx.warm hW hF.kx⟩⟩ rfl hn hl.1 hst (by show 2 * 0 + _ ≤ 8; omega) hd ⟨by omega, by omega⟩) hq hl kk
theorem g_cIN (hF : Fx K X cc nL own D mc ms) (hOk : Ok D' mc' ms' y cc' nL' none (.ref b :: As) h r h1) (hm : MB y cc' nL' none np) (hv : MI y) (hlk : NL own idx y) (hD : D' + 1 ≤ D) (hnl : nL' ≤ 45) (hd : decode cc pc = .ok (.invokespecial idx, 3)) (hn : As.length = np) (hst : S0 = As.reverse ++ .ref b :: S) (hS : (S.map fun v => v.category).sum ≤ 8) {k1 n1 : Nat} {S1 : List Value} (hk1 : k + mc' = k1) (hn1 : n + ms' = n1) (hc : k1 ≤ mc) (hs : n1 ≤ ms) (hS1 : r.toList ++ S = S1)
    (kk : G K X nL k1 n1 (pc + 3) L S1 h1) : G K X nL k n pc L S0 h := by
  intro H locs ls hR hq hl
  subst hk1; subst hn1; subst hS1
  have h1 := hF.ce; have h2 := hF.sl
  have hcb := va_cnB (own := own) (index := idx) (R := xR X) (mc := mc') (ms := ms') (rm := { frames := D', cells := mc', slots := ms', locals := 64 * D' }) np hF.ts (good_ws hm.1) rfl rfl rfl (hF.kx.2.1 _ hlk rfl) (hF.ts _ hm.2.1) hm.2.2 (roomF hF hD hnl)
  exact run_go (va_runIN (As := As) (rest := S) (b := b) ⟨hF.ex, hF.co, hF.ml, hF.ow, hF.ts⟩ (hOk (xl X) K) ⟨hcb, hv.1, hF.ts _ hv.2⟩ ⟨pcc_blind K _ _, fun U hU hW => ⟨rfl, by rw [hU]; exact hR, Kx.warm hW hF.kx⟩⟩ rfl hn hl.1 hst (by show 2 * 0 + _ ≤ 8; omega) hd ⟨by omega, by omega⟩) hq hl kk
theorem oi_m : Cond.instanceMethod Lib.objectInit ∈ gtb ∧ Cond.code Lib.objectInit ⟨#[0xb1]⟩ 1 none ∈ gtb := by decide +kernel
theorem g_oi (hF : Fx K X cc nL own D mc ms) {a : Nat} (hlk : Cond.methodLink own idx Lib.objectInit ∈ gtb) (hd : decode cc pc = .ok (.invokespecial idx, 3)) (hD : 1 ≤ D) (hS : (S.map fun v => v.category).sum ≤ 8) (kk : G K X nL k n (pc + 3) L S h) : G K X nL k n pc L (.ref a :: S) h := by
  intro H locs ls hR hq hl
  have h1 := hF.fr; have h2 := hF.lo
  exact W.objInit hF.ex hF.co hF.ow (hF.ts _ hlk) (hF.ts _ oi_m.1) (hF.ts _ oi_m.2) rfl (hl.1.trans hF.ml.symm) rfl hd (by omega) (by show 2 * 0 + _ + 12 ≤ _; omega) (kk H locs ls hR hq hl)
end CA
end
section
/-! NEW CELLS, ARRAYS OF REFERENCES, THE COPY, STATICS. -/
def al (τ : Tau) (nx : Nat) (x : Sh) : Tau := fun b => if b = nx then some x else τ b
def zr (σ : Sig) (nx : Nat) : Sig := fun b j => if b = nx then 0 else σ b j
/-- the shape of a new object: int fields, references (none yet) -/
def rs0 (ty : Nat → FieldType) (N : Nat) : List (Option (Option Nat)) := (List.range N).map fun j => match defaultValue (ty j) with | .int _ => none | _ => some none
section AL
variable {K : Kt} {X : Cx} {cc : ByteArray} {nL : Nat} {own : String} {D mc ms k n pc : Nat} {L : Lo} {S : List Value} {τ : Tau} {σ : Sig} {nx : Nat}
theorem rel_new {H H' : Heap} {x : Sh} (hR : Rel K (τ, σ, nx) H) (hz : H'.size = nx + 1) (ho : ∀ q, q < nx → H'[q]? = H[q]?) (hc : cellOk K (al τ nx x) (zr σ nx) H' nx) : Rel K (al τ nx x, zr σ nx, nx + 1) H' := by
  obtain ⟨h1, h2, h3, h4, h5⟩ := hR
  refine ⟨hz, Nat.le_succ_of_le h2, fun b => ?_, fun b y hb => ?_, fun q hq => ?_⟩
  · by_cases e : b = nx
    · subst e; exact hc
    · have ht : al τ nx x b = τ b := by simp [al, e]
      cases hτ : τ b with
      | none => unfold cellOk; simp [ht, hτ]
      | some y =>
        have hlt := (h4 b y hτ).2
        exact ((h3 b).kept (ho b hlt) (by funext j; simp [zr, e])).tau ht
  · by_cases e : b = nx
    · subst e; exact ⟨h2, Nat.lt_succ_self _⟩
    · have hb' : τ b = some y := by have : al τ nx x b = some y := hb; simpa [al, e] using this
      have := h4 b y hb'
      exact ⟨this.1, Nat.lt_succ_of_lt this.2⟩
  · rw [ho q (Nat.lt_of_lt_of_le hq h2)]; exact h5 q hq
theorem g_new (hF : Fx K X cc nL own D mc ms) {idx ci N : Nat} {C : String} {T : u_T} (ty : Nat → FieldType) (hd : decode cc pc = .ok (.new idx, 3)) (hcl : vwCl[ci]? = some (C, T, N)) (hty : ∀ j, j < N → parseFieldDescriptor (T j).2.2.1 = some (ty j)) (hck : Cond.classLink own idx C ∈ gtb) (hit : Cond.instantiable C N ∈ gtb) (hin : Cond.initialized C ∈ gtb) {rs : List (Option (Option Nat))} (hrs : rs.length = N) (hdv : ∀ j, j < N → defaultValue (ty j) = (match rs.getD j none with | none => .int 0 | some x => va_rf x)) (hc : k + 1 ≤ mc) (hs : n + N ≤ ms)
    (kk : G K X nL (k + 1) (n + N) (pc + 3) L (.ref nx :: S) (al τ nx (.inl (ci, rs)), zr σ nx, nx + 1)) : G K X nL k n pc L S (τ, σ, nx) := by
  intro H locs ls hR hq hl
  have h1 := hF.ce; have h2 := hF.sl
  have hin2 : ∀ w ∈ u_ws C T N, w ∈ gtb := (clsOk ci _ hcl).1
  have hkn : u_Kn (xs X) C T N (kC K ci) (kD K ci) := hF.kx.1.1 ci _ hcl
  have hsz : H.size = nx := hR.1
  refine W.newcK (g := F0 (xm X) pc ls S) hF.ex hF.co hF.ow (hF.ts _ hck) (hF.ts _ hit) (hF.ts _ hin) rfl hd (by omega) (by omega) hkn.2.1 hsz fun H1 kC hkC e1 z1 o1 => ?_
  refine kk H1 locs ls (rel_new hR z1 o1 ?_) hq hl
  unfold cellOk
  have e : al τ nx (.inl (ci, rs)) nx = some (.inl (ci, rs)) := by simp [al]
  simp only [e]
  refine ⟨⟨_, hcl, hrs.symm⟩, ?_⟩
  rw [hrs]
  refine (u_born ty hF.ts hin2 hkn hkC e1 hty).to (fun j hj => ?_)
  rw [hdv j hj]
  simp only [valOf]
  split <;> simp_all [zr]
theorem g_newI (hF : Fx K X cc nL own D mc ms) {i : Int32} {N M : Nat} (hd : decode cc pc = .ok (.newarray .int, 2)) (hac : Cond.arrayClass .int ∈ gtb) (hi : ¬ i < 0) (hN : i.toNatClampNeg = N) (hM : N ≤ M) (hb : M ≤ 100000) (hc : k + 1 ≤ mc) (hs : n + M ≤ ms)
    (kk : G K X nL (k + 1) (n + M) (pc + 2) L (.ref nx :: S) (al τ nx (.inr (.inl N)), zr σ nx, nx + 1)) : G K X nL k n pc L (.int i :: S) (τ, σ, nx) := by
  intro H locs ls hR hq hl
  have h1 := hF.ce; have h2 := hF.sl
  have hsz : H.size = nx := hR.1
  refine va_newaK (g := F0 (xm X) pc ls (.int i :: S)) (atype := .int) hF.ex hF.co (hF.ts _ hac) rfl hd rfl hi hN (by show N * 4 ≤ _; omega) (by omega) (by omega) hsz fun H1 cA e1 z1 o1 hAr hNm => ?_
  have hcA : cA = kI K := by
    have h3 : (xs X).vm.findClass ("[" ++ FieldType.int.toString) = some (kI K) := (hF.kx.1.2 0 _ rfl).2
    exact Option.some.inj (hNm.symm.trans h3)
  refine W.widen (Nat.le_refl _) (show n + N ≤ n + M by omega) ?_
  refine kk H1 locs ls (rel_new hR z1 o1 ?_) hq hl
  unfold cellOk
  have e : al τ nx (.inr (.inl N)) nx = some (.inr (.inl N)) := by simp [al]
  simp only [e]
  rw [e1, hcA]
  congr 2
  funext j
  simp [zr, defaultValue, newarray.typeOf]
theorem g_newR (hF : Fx K X cc nL own D mc ms) {idx ci tj N : Nat} {i : Int32} {C : String} (hd : decode cc pc = .ok (.anewarray idx, 3)) (hck : Cond.classLink own idx C ∈ gtb) (hov : va_AO C (xs X)) (htk : (tysK K)[tj]? = some (kR K ci, .object C)) (hi : ¬ i < 0) (hN : i.toNatClampNeg = N) (hb : N ≤ 100000) (hc : k + 1 ≤ mc) (hs : n + N ≤ ms)
    (kk : G K X nL (k + 1) (n + N) (pc + 3) L (.ref nx :: S) (al τ nx (.inr (.inr (ci, N, fun _ => none))), zr σ nx, nx + 1)) : G K X nL k n pc L (.int i :: S) (τ, σ, nx) := by
  intro H locs ls hR hq hl
  subst hN
  have h1 := hF.ce; have h2 := hF.sl
  have hsz : H.size = nx := hR.1
  refine W.anew (g := F0 (xm X) pc ls (.int i :: S)) hF.ex hF.co hF.ow (hF.ts _ hck) hov.use rfl hd rfl hi (by omega) (by omega) (by omega) fun cA kA comp g1 g2 g3 g4 => ?_
  have hcA : cA = kR K ci := by
    obtain ⟨_, _, _, _, _, h4⟩ := (hF.kx.1.2 tj _ htk).2
    exact Option.some.inj (g1.symm.trans h4)
  subst hsz
  refine kk _ locs ls (rel_new hR (by simp) (fun q hlt => by rw [Array.getElem?_push, if_neg (by omega)]) ?_) hq hl
  unfold cellOk
  have e : al τ H.size (.inr (.inr (ci, i.toNatClampNeg, fun _ => none))) H.size = some (.inr (.inr (ci, i.toNatClampNeg, fun _ => none))) := by simp [al]
  simp only [e]
  rw [Array.getElem?_push, if_pos rfl, arrV_new, hcA]
  rfl
/-- a place of an array of references -/
def ldr (N : Nat) (f : Nat → Option Nat) (i : Int32) : Option (Option Nat) := if i < 0 ∨ N ≤ i.toNatClampNeg then none else some (f i.toNatClampNeg)
theorem ldr_some {N : Nat} {f : Nat → Option Nat} {i : Int32} {v : Option Nat} (h : ldr N f i = some v) : ¬ (i < 0 ∨ N ≤ i.toNatClampNeg) ∧ v = f i.toNatClampNeg := by
  unfold ldr at h
  split at h
  · cases h
  · next hc => cases h; exact ⟨hc, rfl⟩
theorem g_rld (hF : Fx K X cc nL own D mc ms) {a ci N tj : Nat} {C : String} {f : Nat → Option Nat} {i : Int32} {v : Option Nat} (hd : decode cc pc = .ok (.aaload, 1)) (hs : τ a = some (.inr (.inr (ci, N, f)))) (htk : (tysK K)[tj]? = some (kR K ci, .object C)) (hv : ldr N f i = some v) (kk : G K X nL k n (pc + 1) L (va_rf v :: S) (τ, σ, nx)) : G K X nL k n pc L (.int i :: .ref a :: S) (τ, σ, nx) := by
  intro H locs ls hR hq hl
  obtain ⟨hin, rfl⟩ := ldr_some hv
  have hlt : i.toNatClampNeg < N := Nat.not_le.mp fun q => hin (Or.inr q)
  exact W.aald (v := va_rf (f i.toNatClampNeg)) (ty := .object C) hF.ex hF.co (hR.rar hs) ((hF.kx.1.2 tj _ htk).1 N (fun j => va_rf (f j))) rfl (fun q => by cases q) (by rw [arrV_size]; exact hin) (by rw [arrV_read _ _ hlt]) rfl rfl hd (kk H locs ls hR hq hl)
/-- a store into an array of references -/
def str (τ : Tau) (a : Nat) (i : Int32) (v : Option Nat) : Option Tau := match τ a with
  | some (.inr (.inr (ci, N, f))) => if i < 0 ∨ N ≤ i.toNatClampNeg then none else some (fun b => if b = a then some (.inr (.inr (ci, N, va_up f i.toNatClampNeg v))) else τ b)
  | _ => none
theorem str_some {τ τ' : Tau} {a ci N : Nat} {f : Nat → Option Nat} {i : Int32} {v : Option Nat} (hs : τ a = some (.inr (.inr (ci, N, f)))) (h : str τ a i v = some τ') : ¬ (i < 0 ∨ N ≤ i.toNatClampNeg) ∧ τ' = fun b => if b = a then some (.inr (.inr (ci, N, va_up f i.toNatClampNeg v))) else τ b := by
  unfold str at h
  simp only [hs] at h
  split at h
  · cases h
  · next hc => cases h; exact ⟨hc, rfl⟩
theorem g_rst (hF : Fx K X cc nL own D mc ms) {a ci N tj v : Nat} {C : String} {T : u_T} {M : Nat} {f : Nat → Option Nat} {i : Int32} {τ' : Tau} {rs : List (Option (Option Nat))} (hd : decode cc pc = .ok (.aastore, 1)) (hs : τ a = some (.inr (.inr (ci, N, f)))) (htk : (tysK K)[tj]? = some (kR K ci, .object C)) (hvs : τ v = some (.inl (ci, rs))) (hcl : vwCl[ci]? = some (C, T, M)) (hv : str τ a i (some v) = some τ') (kk : G K X nL k n (pc + 1) L S (τ', σ, nx)) : G K X nL k n pc L (.ref v :: .int i :: .ref a :: S) (τ, σ, nx) := by
  intro H locs ls hR hq hl
  obtain ⟨hin, rfl⟩ := str_some hs hv
  have hlt : i.toNatClampNeg < N := Nat.not_le.mp fun q => hin (Or.inr q)
  have h0 : ¬ i < 0 := fun q => hin (Or.inl q)
  have ha := (hR.2.2.2.1 a _ hs).1
  obtain ⟨-, cellV, g1, g2, g3, -⟩ := hR.obj hvs
  have hcls : ClassAt (xs X) C (kC K ci) := (hF.kx.1.1 ci _ hcl).2
  obtain ⟨kA, comp, k1, k2, k3, -⟩ := (hF.kx.1.2 tj _ htk).2
  have hcomp : comp = kC K ci := Option.some.inj (k3.symm.trans hcls.1)
  subst hcomp
  obtain ⟨kC', hkC, -⟩ := hcls.2
  refine W.aast hF.ex hF.co (hR.rar hs) (fun q h => by cases h) (fun h => by cases h) k1 k2 rfl hkC ⟨h0, by rw [arrV_size]; exact hlt⟩ g1 (fun q h => by rw [g3] at h; cases h) (by rw [g2]; exact hkC) (by rw [g2]; exact va_assign hcls) rfl rfl hd fun H1 e z oq => ?_
  refine kk H1 _ ls (rel_set (a := a) hR hs z oq (fun b hb => by simp [hb]) (fun b hb => rfl) ?_ ⟨.inr (.inr (ci, N, va_up f i.toNatClampNeg (some v))), by simp⟩) (fun q h => ?_) hl
  · unfold cellOk
    simp only [if_true]
    rw [e, arrV_store]
    congr 2
    funext q
    by_cases hqe : q = i.toNatClampNeg
    · subst hqe; simp [updV, va_up, va_rf]
    · simp [updV, va_up, hqe]
  · rcases List.mem_append.mp h with h | h
    · exact hq q h
    · rw [List.mem_singleton.mp h]; exact ha
theorem g_rstN (hF : Fx K X cc nL own D mc ms) {a ci N tj : Nat} {C : String} {f : Nat → Option Nat} {i : Int32} {τ' : Tau} (hd : decode cc pc = .ok (.aastore, 1)) (hs : τ a = some (.inr (.inr (ci, N, f)))) (htk : (tysK K)[tj]? = some (kR K ci, .object C)) (hv : str τ a i none = some τ') (kk : G K X nL k n (pc + 1) L S (τ', σ, nx)) : G K X nL k n pc L (.null :: .int i :: .ref a :: S) (τ, σ, nx) := by
  intro H locs ls hR hq hl
  obtain ⟨hin, rfl⟩ := str_some hs hv
  have ha := (hR.2.2.2.1 a _ hs).1
  refine va_WaastN (C := C) hF.ex hF.co (hR.rar hs) ((hF.kx.1.2 tj _ htk).1 N (fun j => va_rf (f j))) (fun h => by cases h) (by rw [arrV_size]; exact hin) rfl rfl hd fun H1 e z oq => ?_
  refine kk H1 _ ls (rel_set (a := a) hR hs z oq (fun b hb => by simp [hb]) (fun b hb => rfl) ?_ ⟨.inr (.inr (ci, N, va_up f i.toNatClampNeg none)), by simp⟩) (fun q h => ?_) hl
  · unfold cellOk
    simp only [if_true]
    rw [e, arrV_store]
    congr 2
    funext q
    by_cases hqe : q = i.toNatClampNeg
    · subst hqe; simp [updV, va_up, va_rf]
    · simp [updV, va_up, hqe]
  · rcases List.mem_append.mp h with h | h
    · exact hq q h
    · rw [List.mem_singleton.mp h]; exact ha
theorem g_ralen (hF : Fx K X cc nL own D mc ms) {a ci N tj : Nat} {C : String} {f : Nat → Option Nat} {v : Int32} (hd : decode cc pc = .ok (.arraylength, 1)) (hs : τ a = some (.inr (.inr (ci, N, f)))) (htk : (tysK K)[tj]? = some (kR K ci, .object C)) (hv : Int32.ofNat N = v) (kk : G K X nL k n (pc + 1) L (.int v :: S) (τ, σ, nx)) : G K X nL k n pc L (.ref a :: S) (τ, σ, nx) := by
  intro H locs ls hR hq hl
  exact W.alen (n := v) hF.ex hF.co (hR.rar hs) ((hF.kx.1.2 tj _ htk).1 N (fun j => va_rf (f j))) (by rw [arrV_size]; exact hv) rfl rfl hd (kk H locs ls hR hq hl)
/-- outside arrays: the script, the two tables -/
theorem g_xld (hF : Fx K X cc nL own D mc ms) {a N : Nat} {f : Nat → Int32} {i v : Int32} (hd : decode cc pc = .ok (.iaload, 1)) (hs : kX K a = some (N, f)) (hv : ld N f i = some v) {h : Hp} (kk : G K X nL k n (pc + 1) L (.int v :: S) h) : G K X nL k n pc L (.int i :: .ref a :: S) h := by
  intro H locs ls hR hq hl
  obtain ⟨hin, rfl⟩ := ld_some hv
  have hlt : i.toNatClampNeg < N := Nat.not_le.mp fun q => hin (Or.inr q)
  obtain ⟨cell, c1, c2, c3, c4, c5, c6, c7⟩ := hF.kx.2.2.2.1 a N f hs
  have hb : a < kB K := Nat.not_le.mp c7
  exact W.iald (v := .int (f i.toNatClampNeg)) hF.ex hF.co (by rw [hR.2.2.2.2 a hb]; exact c1) c2 c3 (fun q => hin (q.elim Or.inl (fun z => Or.inr (Nat.le_trans c4 z)))) (c6 _ hlt) rfl rfl hd (kk H locs ls hR hq hl)
theorem g_xlen (hF : Fx K X cc nL own D mc ms) {a N : Nat} {f : Nat → Int32} {v : Int32} (hd : decode cc pc = .ok (.arraylength, 1)) (hs : kX K a = some (N, f)) (hv : Int32.ofNat N = v) {h : Hp} (kk : G K X nL k n (pc + 1) L (.int v :: S) h) : G K X nL k n pc L (.ref a :: S) h := by
  intro H locs ls hR hq hl
  obtain ⟨cell, c1, c2, c3, c4, c5, c6, c7⟩ := hF.kx.2.2.2.1 a N f hs
  have hb : a < kB K := Nat.not_le.mp c7
  exact W.alen (n := v) hF.ex hF.co (by rw [hR.2.2.2.2 a hb]; exact c1) c2 (c5.trans hv) rfl rfl hd (kk H locs ls hR hq hl)
/-- a static that is said -/
theorem g_sta (hF : Fx K X cc nL own D mc ms) {idx : Nat} {C nm de : String} {v : Value} (hd : decode cc pc = .ok (.getstatic idx, 3)) (hlk : Cond.fieldLink own idx C nm de ∈ gtb) (hz : va_Z C nm de v (kA K) (xs X) (kH K)) {h : Hp} (kk : G K X nL k n (pc + 3) L (v :: S) h) : G K X nL k n pc L S h := by
  intro H locs ls hR hq hl
  have hz' : va_Z C nm de v (kA K) (xs X) H := hz.kept (fun a h1 h2 => hR.2.2.2.2 a (Nat.not_le.mp h2))
  obtain ⟨cf, kf, fi, f, a, cell, g1, g2, g3, g4, g5, g6, g7, g8⟩ := hz'
  exact W.gets (g := F0 (xm X) pc ls S) hF.ex hF.co hF.ow (hF.ts _ hlk) g1 g2 g3 g4 g5 (fun e => by rw [e] at g6; cases g6) g7 rfl hd (kk H locs ls hR hq hl)
theorem g_ldcS (hF : Fx K X cc nL own D mc ms) {idx i : Nat} {tx : String} (hd : decode cc pc = .ok (.ldc idx, 2)) (hs : strTab[i]? = some (own, idx, tx)) {h : Hp} (kk : G K X nL k n (pc + 2) L (.ref (kK K i) :: S) h) : G K X nL k n pc L S h :=
  fun H locs ls hR hq hl => va_ldcS hF.ex hF.co hF.ow (hF.kx.2.2.2.2.2.2.2.2.2.1 i _ hs) hd (kk H locs ls hR hq hl)
end AL
end
section
/-! System.arraycopy over int arrays. -/
def cpS (σ : Sig) (a0 a1 sp dp m : Nat) : Sig := fun b j => if b = a1 then va_cpy (σ a0) (σ a1) sp dp m j else σ b j
def cp (n0 n1 : Nat) (σ : Sig) (a0 : Nat) (sp : Int32) (a1 : Nat) (dp m : Int32) : Option Sig := if sp < 0 ∨ dp < 0 ∨ m < 0 ∨ n0 < sp.toNatClampNeg + m.toNatClampNeg ∨ n1 < dp.toNatClampNeg + m.toNatClampNeg then none else some (cpS σ a0 a1 sp.toNatClampNeg dp.toNatClampNeg m.toNatClampNeg)
theorem cp_some {n0 n1 : Nat} {σ σ' : Sig} {a0 a1 : Nat} {sp dp m : Int32} (h : cp n0 n1 σ a0 sp a1 dp m = some σ') : ¬ sp < 0 ∧ ¬ dp < 0 ∧ ¬ m < 0 ∧ sp.toNatClampNeg + m.toNatClampNeg ≤ n0 ∧ dp.toNatClampNeg + m.toNatClampNeg ≤ n1 ∧ σ' = cpS σ a0 a1 sp.toNatClampNeg dp.toNatClampNeg m.toNatClampNeg := by
  unfold cp at h
  split at h
  · cases h
  · next hc =>
    cases h
    refine ⟨fun q => hc (Or.inl q), fun q => hc (Or.inr (Or.inl q)), fun q => hc (Or.inr (Or.inr (Or.inl q))), ?_, ?_, rfl⟩
    · exact Nat.not_lt.mp fun q => hc (Or.inr (Or.inr (Or.inr (Or.inl q))))
    · exact Nat.not_lt.mp fun q => hc (Or.inr (Or.inr (Or.inr (Or.inr q))))
theorem ac_m : Cond.native arraycopyName ∈ gtb ∧ Cond.static arraycopyName ∈ gtb ∧ Cond.initialized "java/lang/System" ∈ gtb := by decide +kernel
theorem ac_w : nativeFrameWords "java/lang/System" "arraycopy" 5 + 11 ≤ 48 := by decide +kernel
theorem nnI (z : Int32) (hz : ¬ z < 0) : z.toInt = (z.toNatClampNeg : Int) := by
  have hz0 : (0 : Int) ≤ z.toInt := by
    have := Int32.not_lt.mp hz
    simpa using Int32.le_iff_toInt_le.mp this
  show z.toInt = ((z.toInt.toNat : Nat) : Int)
  omega
section CP
variable {K : Kt} {X : Cx} {cc : ByteArray} {nL : Nat} {own : String} {D mc ms k n pc : Nat} {L : Lo} {S : List Value} {τ : Tau} {σ σ' : Sig} {nx : Nat}
theorem g_copy (hF : Fx K X cc nL own D mc ms) {idx a0 a1 n0 n1 : Nat} {sp dp m : Int32} (hlk : Cond.methodLink own idx arraycopyName ∈ gtb) (hd : decode cc pc = .ok (.invokestatic idx, 3)) (hs0 : τ a0 = some (.inr (.inl n0))) (hs1 : τ a1 = some (.inr (.inl n1))) (hv : cp n0 n1 σ a0 sp a1 dp m = some σ') (hD : 1 ≤ D) (hS : (S.map fun v => v.category).sum ≤ 8)
    (kk : G K X nL k n (pc + 3) L S (τ, σ', nx)) : G K X nL k n pc L (.int m :: .int dp :: .ref a1 :: .int sp :: .ref a0 :: S) (τ, σ, nx) := by
  intro H locs ls hR hq hl T hT Xs
  obtain ⟨h1, h2, h3, h4, h5, rfl⟩ := cp_some hv
  have hc0 : H[a0]? = some (vp_cell (kI K) (n0, .inl (σ a0))) := hR.arr hs0
  have hc1 : H[a1]? = some (vp_cell (kI K) (n1, .inl (σ a1))) := hR.arr hs1
  obtain ⟨-, k0, hk0, cm0, hkk0⟩ := (hF.kx.1.2 0 _ rfl).1 n0 (fun j => .int (σ a0 j))
  obtain ⟨-, k1, hk1, cm1, hkk1⟩ := (hF.kx.1.2 0 _ rfl).1 n1 (fun j => .int (σ a1 j))
  have hlo := hF.lo; have hfr := hF.fr; have hw := ac_w
  obtain ⟨vm', X', step⟩ := Xs.arraycopy hF.ex hF.ow (hF.ts _ hlk) (hF.ts _ ac_m.1) (hF.ts _ ac_m.2.1) (hF.ts _ ac_m.2.2) (src := a0) (dst := a1) (cs := vp_cell (kI K) (n0, .inl (σ a0))) (cd := vp_cell (kI K) (n1, .inl (σ a1))) (srcPos := sp) (destPos := dp) (n := m) (by rw [hT]; exact hc0) (by rw [hT]; exact hc1)
    (fun _ h => by cases h) (fun _ h => by cases h) (fun h => by cases h) (fun h => by cases h) hk0 hk1 hkk0 hkk1 (by simp [refKind]) h1 h2 h3
    (by rw [nnI sp h1, nnI m h3]; show ¬ _ > ((arrV (kI K) n0 (fun j => .int (σ a0 j))).slots.size : Int); rw [arrV_size]; omega)
    (by rw [nnI dp h2, nnI m h3]; show ¬ _ > ((arrV (kI K) n1 (fun j => .int (σ a1 j))).slots.size : Int); rw [arrV_size]; omega)
    (fun vm₁ _ i hi => by
      have e : (vp_cell (kI K) (n0, .inl (σ a0))).slots.getD (sp.toNatClampNeg + i) .null = .int (σ a0 (sp.toNatClampNeg + i)) := by
        show (arrV (kI K) n0 (fun j => .int (σ a0 j))).slots.getD _ _ = _
        rw [Array.getD_eq_getD_getElem?, arrV_read _ _ (by omega)]
        rfl
      refine ⟨?_, ?_⟩
      · rw [e]; rfl
      · rw [e]; exact trivial)
    (g := F0 (xm X) pc ls (.int m :: .int dp :: .ref a1 :: .int sp :: .ref a0 :: S)) rfl (by rw [hF.ml]; exact hl.1) (rest := S) rfl (by rw [hF.co]; exact hd) (by omega) (by show 2 * 0 + _ + _ ≤ _; omega)
  have e1 : copied (vp_cell (kI K) (n0, .inl (σ a0))) (vp_cell (kI K) (n1, .inl (σ a1))) sp dp m = vp_cell (kI K) (n1, .inl (va_cpy (σ a0) (σ a1) sp.toNatClampNeg dp.toNatClampNeg m.toNatClampNeg)) := va_copied (fun z => .int z) (kI K) (kI K) (σ a0) (σ a1) h4
  rw [e1] at X' step
  have hla : a1 < H.size := (Array.getElem?_eq_some_iff.mp hc1).1
  have ha := (hR.2.2.2.1 a1 _ hs1).1
  have oq : ∀ q : Nat, q ≠ a1 → (H.setIfInBounds a1 (vp_cell (kI K) (n1, .inl (va_cpy (σ a0) (σ a1) sp.toNatClampNeg dp.toNatClampNeg m.toNatClampNeg))))[q]? = H[q]? := fun q hq => by simp [Array.getElem?_setIfInBounds, Ne.symm hq]
  have hR' : Rel K (τ, cpS σ a0 a1 sp.toNatClampNeg dp.toNatClampNeg m.toNatClampNeg, nx) (H.setIfInBounds a1 (vp_cell (kI K) (n1, .inl (va_cpy (σ a0) (σ a1) sp.toNatClampNeg dp.toNatClampNeg m.toNatClampNeg)))) := by
    refine rel_set (τ' := τ) hR hs1 (by simp) oq (fun _ _ => rfl) (fun b hb => by funext j; simp [cpS, hb]) ?_ ⟨_, hs1⟩
    unfold cellOk
    simp only [hs1]
    rw [Array.getElem?_setIfInBounds, if_pos rfl, if_pos hla, vp_cell_i]
    congr 2
    funext j
    simp [cpS]
  have hheap : ((T.setVm vm').setCell a1 (vp_cell (kI K) (n1, .inl (va_cpy (σ a0) (σ a1) sp.toNatClampNeg dp.toNatClampNeg m.toNatClampNeg)))).heap = H.setIfInBounds a1 (vp_cell (kI K) (n1, .inl (va_cpy (σ a0) (σ a1) sp.toNatClampNeg dp.toNatClampNeg m.toNatClampNeg))) := by rw [← hT]; rfl
  obtain ⟨t, b1, b2⟩ := kk _ _ ls hR' (fun q hq2 => by
      rcases List.mem_append.mp hq2 with h | h
      · exact hq q h
      · obtain ⟨z, -, hz⟩ := List.mem_map.mp h
        rw [← hz]
        exact ha) hl _ hheap X'
  exact ⟨t, step t b1, b2⟩
end CP
end
section
/-! WHAT THE FUNCTIONS OF THE METHODS ARE MADE OF. -/
theorem ob {α β : Type} {x : Option α} {f : α → Option β} {r : β} (h : x.bind f = some r) : ∃ v, x = some v ∧ f v = some r := by
  cases x with
  | none => cases h
  | some v => exact ⟨v, rfl, h⟩
theorem oi {α : Type} {c : Prop} [Decidable c] {a b : Option α} {r : α} (h : (if c then a else b) = some r) : (c → a = some r) ∧ (¬ c → b = some r) := by
  split at h
  · next hc => exact ⟨fun _ => h, fun hn => absurd hc hn⟩
  · next hc => exact ⟨fun hp => absurd hp hc, fun _ => h⟩
/-- what must not be -/
theorem on {α : Type} {c : Prop} [Decidable c] {b : Option α} {r : α} (h : (if c then none else b) = some r) : ¬ c ∧ b = some r := by
  split at h
  · cases h
  · next hc => exact ⟨hc, h⟩
/-- what must be -/
theorem oy {α : Type} {c : Prop} [Decidable c] {b : Option α} {r : α} (h : (if c then b else none) = some r) : c ∧ b = some r := by
  split at h
  · next hc => exact ⟨hc, h⟩
  · cases h
/-- a shape that must be -/
noncomputable def chk {α : Type} (p : Prop) (x : Option α) : Option α := @ite _ p (Classical.propDecidable p) x none
theorem oc {α : Type} {p : Prop} {x : Option α} {r : α} (h : chk p x = some r) : p ∧ x = some r := by
  unfold chk at h
  by_cases hp : p
  · rw [if_pos hp] at h; exact ⟨hp, h⟩
  · rw [if_neg hp] at h; cases h
theorem chk_pos {α : Type} {p : Prop} {x : Option α} (h : p) : chk p x = x := by unfold chk; rw [if_pos h]
/-- how often a loop may go round -/
def FU : Nat := 30000
theorem en_i {K : Kt} {X : Cx} {ret : Option FieldType} {mc ms : Nat} {x r : Int32} {h : Hp} (H : some x = some r) (hE : En K X ret mc ms (some (.int r)) h) : En K X ret mc ms (some (.int x)) h := by cases H; exact hE
theorem en_v {K : Kt} {X : Cx} {ret : Option FieldType} {mc ms : Nat} {τ : Tau} {nx : Nat} {s t : Sig} (H : some s = some t) (hE : En K X ret mc ms none (τ, t, nx)) : En K X ret mc ms none (τ, s, nx) := by cases H; exact hE
theorem en_p {K : Kt} {X : Cx} {ret : Option FieldType} {mc ms : Nat} {τ : Tau} {nx : Nat} {x r : Int32} {s t : Sig} (H : some (x, s) = some (r, t)) (hE : En K X ret mc ms (some (.int r)) (τ, t, nx)) : En K X ret mc ms (some (.int x)) (τ, s, nx) := by cases H; exact hE
theorem en_vh {K : Kt} {X : Cx} {ret : Option FieldType} {mc ms : Nat} {s t : Hp} (H : some s = some t) (hE : En K X ret mc ms none t) : En K X ret mc ms none s := by cases H; exact hE
theorem en_ph {K : Kt} {X : Cx} {ret : Option FieldType} {mc ms : Nat} {x r : Int32} {s t : Hp} (H : some (x, s) = some (r, t)) (hE : En K X ret mc ms (some (.int r)) t) : En K X ret mc ms (some (.int x)) s := by cases H; exact hE
theorem en_rh {K : Kt} {X : Cx} {ret : Option FieldType} {mc ms : Nat} {x r : Option Nat} {s t : Hp} (H : some (x, s) = some (r, t)) (hE : En K X ret mc ms (some (va_rf r)) t) : En K X ret mc ms (some (va_rf x)) s := by cases H; exact hE
/-- locals that count no more -/
def mkL : List Bool → Lo → Lo
  | true :: m, x :: L => x :: mkL m L
  | false :: m, _ :: L => none :: mkL m L
  | _, _ => []
theorem mkL_sub : ∀ (m : List Bool) (L : Lo) (i : Nat) (v : Value), (mkL m L)[i]? = some (some v) → L[i]? = some (some v)
  | [], L, i, v, h => by simp [mkL] at h
  | true :: m, [], i, v, h => by simp [mkL] at h
  | false :: m, [], i, v, h => by simp [mkL] at h
  | true :: m, x :: L, 0, v, h => by simpa [mkL] using h
  | false :: m, x :: L, 0, v, h => by simp [mkL] at h
  | true :: m, x :: L, i + 1, v, h => by simp only [mkL, List.getElem?_cons_succ] at h ⊢; exact mkL_sub m L i v h
  | false :: m, x :: L, i + 1, v, h => by simp only [mkL, List.getElem?_cons_succ] at h ⊢; exact mkL_sub m L i v h
theorem g_m {K : Kt} {X : Cx} {nL k n pc : Nat} {L L' : Lo} {S : List Value} {h : Hp} (m : List Bool) (hL : mkL m L = L') (kk : G K X nL k n pc L' S h) : G K X nL k n pc L S h := g_drop (fun i v hv => mkL_sub m L i v (by rw [hL]; exact hv)) kk
theorem al0 {α : Type} {p : α → Prop} : ∀ c ∈ ([] : List α), p c := fun _ h => by cases h
theorem al1 {α : Type} {p : α → Prop} {a : α} {l : List α} (h1 : p a) (h2 : ∀ c ∈ l, p c) : ∀ c ∈ a :: l, p c := List.forall_mem_cons.mpr ⟨h1, h2⟩
theorem tsw_l {x : Int32} (lo hi : Int) (m : Nat) (cs : List Int32) (hc : ∀ c ∈ cs, ¬ x = c) (hm : ∀ j : Nat, j < m → ∃ c ∈ cs, c.toInt = lo + j) (hh : lo + m = hi + 1) : x.toInt < lo ∨ hi < x.toInt := by
  rcases tsw_out (x := x) lo m (fun j hj e => by
    obtain ⟨c, h1, h2⟩ := hm j hj
    exact hc c h1 (Int32.toInt_inj.mp (e.trans h2.symm))) with h | h
  · exact Or.inl h
  · exact Or.inr (by omega)
/-- a store of an int field -/
def pI (σ : Sig) (a k : Nat) (v : Int32) : Option Sig := some (wr σ a k v)
theorem g_pI {K : Kt} {X : Cx} {cc : ByteArray} {nL : Nat} {own : String} {D mc ms k n pc : Nat} {L : Lo} {S : List Value} {τ : Tau} {σ σ' : Sig} {nx : Nat} {fin : Bool} (hF : Fx K X cc nL own D mc ms) {idx ci kf a : Nat} (hd : decode cc pc = .ok (.putfield idx, 3)) (hf : FL own idx ci kf "I" fin) (hfin : fin = false ∨ (fin = true ∧ (xh X).name = "<init>" ∧ ∃ T N, vwCl[ci]? = some (own, T, N))) {rs : List (Option (Option Nat))} (hs : τ a = some (.inl (ci, rs))) (hr : rs[kf]? = some none) {v : Int32} (e : pI σ a kf v = some σ')
    (kk : G K X nL k n (pc + 3) L S (τ, σ', nx)) : G K X nL k n pc L (.int v :: .ref a :: S) (τ, σ, nx) := by
  cases e; exact g_putI hF hd hf hfin hs hr (Or.inl rfl) kk
def pZ (σ : Sig) (a k : Nat) (v : Int32) : Option Sig := if v = 0 ∨ v = 1 then some (wr σ a k v) else none
theorem g_pZ {K : Kt} {X : Cx} {cc : ByteArray} {nL : Nat} {own : String} {D mc ms k n pc : Nat} {L : Lo} {S : List Value} {τ : Tau} {σ σ' : Sig} {nx : Nat} {fin : Bool} (hF : Fx K X cc nL own D mc ms) {idx ci kf a : Nat} (hd : decode cc pc = .ok (.putfield idx, 3)) (hf : FL own idx ci kf "Z" fin) (hfin : fin = false ∨ (fin = true ∧ (xh X).name = "<init>" ∧ ∃ T N, vwCl[ci]? = some (own, T, N))) {rs : List (Option (Option Nat))} (hs : τ a = some (.inl (ci, rs))) (hr : rs[kf]? = some none) {v : Int32} (e : pZ σ a kf v = some σ')
    (kk : G K X nL k n (pc + 3) L S (τ, σ', nx)) : G K X nL k n pc L (.int v :: .ref a :: S) (τ, σ, nx) := by
  obtain ⟨hv, e⟩ := oy e
  cases e; exact g_putI hF hd hf hfin hs hr (Or.inr ⟨rfl, hv⟩) kk
end
