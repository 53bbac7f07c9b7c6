section
-- ===== PART A: goes FIRST, ahead of the names: the tables' words, and 'selects' of the private methods out of them =====
/-- a private method of a class that the tables say can be made, by its rows of tables_1 -/
def lw_okq (q : MethodName × Nat) : Prop := (q.1.cls ≠ "java/lang/invoke/MethodHandle" ∧ q.1.cls ≠ "java/lang/invoke/VarHandle") ∧ Cond.instantiable q.1.cls q.2 ∈ tables_1 ∧ Cond.privateMethod q.1 ∈ tables_1 ∧ Cond.instanceMethod q.1 ∈ tables_1
theorem lw_p0 : lw_okq (⟨"ClaimLadder$Ladder", "findReach", "()V"⟩, 16) := ⟨⟨by decide +kernel, by decide +kernel⟩, List.mem_of_getElem? (i := 111) (by decide +kernel), List.mem_of_getElem? (i := 313) (by decide +kernel), List.mem_of_getElem? (i := 314) (by decide +kernel)⟩
theorem lw_p1 : lw_okq (⟨"ClaimLadder$Ladder", "findRings", "()V"⟩, 16) := ⟨⟨by decide +kernel, by decide +kernel⟩, List.mem_of_getElem? (i := 111) (by decide +kernel), List.mem_of_getElem? (i := 318) (by decide +kernel), List.mem_of_getElem? (i := 319) (by decide +kernel)⟩
theorem lw_p2 : lw_okq (⟨"ClaimLadder$Ladder", "findRungs", "()V"⟩, 16) := ⟨⟨by decide +kernel, by decide +kernel⟩, List.mem_of_getElem? (i := 111) (by decide +kernel), List.mem_of_getElem? (i := 322) (by decide +kernel), List.mem_of_getElem? (i := 323) (by decide +kernel)⟩
theorem lw_p3 : lw_okq (⟨"ClaimLadder$Ladder", "outside", "(I)I"⟩, 16) := ⟨⟨by decide +kernel, by decide +kernel⟩, List.mem_of_getElem? (i := 111) (by decide +kernel), List.mem_of_getElem? (i := 326) (by decide +kernel), List.mem_of_getElem? (i := 327) (by decide +kernel)⟩
theorem lw_p4 : lw_okq (⟨"ClaimLadder$Ladder", "rungAbove", "(I)I"⟩, 16) := ⟨⟨by decide +kernel, by decide +kernel⟩, List.mem_of_getElem? (i := 111) (by decide +kernel), List.mem_of_getElem? (i := 330) (by decide +kernel), List.mem_of_getElem? (i := 331) (by decide +kernel)⟩
theorem lw_p5 : lw_okq (⟨"ClaimLadder$Ladder", "orderRings", "()V"⟩, 16) := ⟨⟨by decide +kernel, by decide +kernel⟩, List.mem_of_getElem? (i := 111) (by decide +kernel), List.mem_of_getElem? (i := 337) (by decide +kernel), List.mem_of_getElem? (i := 338) (by decide +kernel)⟩
theorem lw_p6 : lw_okq (⟨"ClaimLadder$Ladder", "isAlone", "(I)Z"⟩, 16) := ⟨⟨by decide +kernel, by decide +kernel⟩, List.mem_of_getElem? (i := 111) (by decide +kernel), List.mem_of_getElem? (i := 345) (by decide +kernel), List.mem_of_getElem? (i := 346) (by decide +kernel)⟩
theorem lw_p7 : lw_okq (⟨"ClaimLadder$Ladder", "payAlone", "(II)I"⟩, 16) := ⟨⟨by decide +kernel, by decide +kernel⟩, List.mem_of_getElem? (i := 111) (by decide +kernel), List.mem_of_getElem? (i := 349) (by decide +kernel), List.mem_of_getElem? (i := 350) (by decide +kernel)⟩
theorem lw_p8 : lw_okq (⟨"ClaimLadder$Ladder", "isEscaped", "(I)Z"⟩, 16) := ⟨⟨by decide +kernel, by decide +kernel⟩, List.mem_of_getElem? (i := 111) (by decide +kernel), List.mem_of_getElem? (i := 353) (by decide +kernel), List.mem_of_getElem? (i := 354) (by decide +kernel)⟩
theorem lw_p9 : lw_okq (⟨"ClaimLadder$Ladder", "firstPayer", "(I)I"⟩, 16) := ⟨⟨by decide +kernel, by decide +kernel⟩, List.mem_of_getElem? (i := 111) (by decide +kernel), List.mem_of_getElem? (i := 357) (by decide +kernel), List.mem_of_getElem? (i := 358) (by decide +kernel)⟩
theorem lw_p10 : lw_okq (⟨"ClaimLadder$Ladder", "mostOf", "(II)I"⟩, 16) := ⟨⟨by decide +kernel, by decide +kernel⟩, List.mem_of_getElem? (i := 111) (by decide +kernel), List.mem_of_getElem? (i := 361) (by decide +kernel), List.mem_of_getElem? (i := 362) (by decide +kernel)⟩
theorem lw_p11 : lw_okq (⟨"ClaimLadder$Ladder", "shareOf", "(II)I"⟩, 16) := ⟨⟨by decide +kernel, by decide +kernel⟩, List.mem_of_getElem? (i := 111) (by decide +kernel), List.mem_of_getElem? (i := 365) (by decide +kernel), List.mem_of_getElem? (i := 366) (by decide +kernel)⟩
theorem lw_p12 : lw_okq (⟨"ClaimLadder$Ladder", "payByTurns", "(II)I"⟩, 16) := ⟨⟨by decide +kernel, by decide +kernel⟩, List.mem_of_getElem? (i := 111) (by decide +kernel), List.mem_of_getElem? (i := 370) (by decide +kernel), List.mem_of_getElem? (i := 371) (by decide +kernel)⟩
theorem lw_p13 : lw_okq (⟨"ClaimLadder$Ladder", "deal", "(II[I[I)I"⟩, 16) := ⟨⟨by decide +kernel, by decide +kernel⟩, List.mem_of_getElem? (i := 111) (by decide +kernel), List.mem_of_getElem? (i := 374) (by decide +kernel), List.mem_of_getElem? (i := 375) (by decide +kernel)⟩
theorem lw_p14 : lw_okq (⟨"ClaimLadder$Ladder", "openOnes", "(I[I[I)I"⟩, 16) := ⟨⟨by decide +kernel, by decide +kernel⟩, List.mem_of_getElem? (i := 111) (by decide +kernel), List.mem_of_getElem? (i := 378) (by decide +kernel), List.mem_of_getElem? (i := 379) (by decide +kernel)⟩
theorem lw_p15 : lw_okq (⟨"ClaimLadder$Ladder", "leastRoom", "(I[I[I)I"⟩, 16) := ⟨⟨by decide +kernel, by decide +kernel⟩, List.mem_of_getElem? (i := 111) (by decide +kernel), List.mem_of_getElem? (i := 388) (by decide +kernel), List.mem_of_getElem? (i := 389) (by decide +kernel)⟩
def lw_privs_1 : List (MethodName × Nat) := [(⟨"ClaimLadder$Ladder", "findReach", "()V"⟩, 16), (⟨"ClaimLadder$Ladder", "findRings", "()V"⟩, 16), (⟨"ClaimLadder$Ladder", "findRungs", "()V"⟩, 16), (⟨"ClaimLadder$Ladder", "outside", "(I)I"⟩, 16), (⟨"ClaimLadder$Ladder", "rungAbove", "(I)I"⟩, 16), (⟨"ClaimLadder$Ladder", "orderRings", "()V"⟩, 16), (⟨"ClaimLadder$Ladder", "isAlone", "(I)Z"⟩, 16), (⟨"ClaimLadder$Ladder", "payAlone", "(II)I"⟩, 16), (⟨"ClaimLadder$Ladder", "isEscaped", "(I)Z"⟩, 16), (⟨"ClaimLadder$Ladder", "firstPayer", "(I)I"⟩, 16), (⟨"ClaimLadder$Ladder", "mostOf", "(II)I"⟩, 16), (⟨"ClaimLadder$Ladder", "shareOf", "(II)I"⟩, 16), (⟨"ClaimLadder$Ladder", "payByTurns", "(II)I"⟩, 16), (⟨"ClaimLadder$Ladder", "deal", "(II[I[I)I"⟩, 16), (⟨"ClaimLadder$Ladder", "openOnes", "(I[I[I)I"⟩, 16), (⟨"ClaimLadder$Ladder", "leastRoom", "(I[I[I)I"⟩, 16)]
theorem lw_r1 : ∀ q ∈ lw_privs_1, lw_okq q := List.forall_mem_cons.mpr ⟨lw_p0, List.forall_mem_cons.mpr ⟨lw_p1, List.forall_mem_cons.mpr ⟨lw_p2, List.forall_mem_cons.mpr ⟨lw_p3, List.forall_mem_cons.mpr ⟨lw_p4, List.forall_mem_cons.mpr ⟨lw_p5, List.forall_mem_cons.mpr ⟨lw_p6, List.forall_mem_cons.mpr ⟨lw_p7, List.forall_mem_cons.mpr ⟨lw_p8, List.forall_mem_cons.mpr ⟨lw_p9, List.forall_mem_cons.mpr ⟨lw_p10, List.forall_mem_cons.mpr ⟨lw_p11, List.forall_mem_cons.mpr ⟨lw_p12, List.forall_mem_cons.mpr ⟨lw_p13, List.forall_mem_cons.mpr ⟨lw_p14, List.forall_mem_cons.mpr ⟨lw_p15, fun _ h => absurd h List.not_mem_nil⟩⟩⟩⟩⟩⟩⟩⟩⟩⟩⟩⟩⟩⟩⟩⟩
theorem lw_p16 : lw_okq (⟨"ClaimLadder$Script", "takeClause", "(I)Z"⟩, 6) := ⟨⟨by decide +kernel, by decide +kernel⟩, List.mem_of_getElem? (i := 179) (by decide +kernel), List.mem_of_getElem? (i := 409) (by decide +kernel), List.mem_of_getElem? (i := 410) (by decide +kernel)⟩
theorem lw_p17 : lw_okq (⟨"ClaimLadder$Script", "takeNumber", "(II)Z"⟩, 6) := ⟨⟨by decide +kernel, by decide +kernel⟩, List.mem_of_getElem? (i := 179) (by decide +kernel), List.mem_of_getElem? (i := 413) (by decide +kernel), List.mem_of_getElem? (i := 414) (by decide +kernel)⟩
theorem lw_p18 : lw_okq (⟨"ClaimLadder$Script", "takeSign", "(I)Z"⟩, 6) := ⟨⟨by decide +kernel, by decide +kernel⟩, List.mem_of_getElem? (i := 179) (by decide +kernel), List.mem_of_getElem? (i := 417) (by decide +kernel), List.mem_of_getElem? (i := 418) (by decide +kernel)⟩
theorem lw_p19 : lw_okq (⟨"ClaimLadder$Ladder", "lastPayerAhead", "(I)I"⟩, 16) := ⟨⟨by decide +kernel, by decide +kernel⟩, List.mem_of_getElem? (i := 111) (by decide +kernel), List.mem_of_getElem? (i := 474) (by decide +kernel), List.mem_of_getElem? (i := 475) (by decide +kernel)⟩
theorem lw_p20 : lw_okq (⟨"ClaimLadder", "addAmount", "(LClaimLadder$Rows;II)I"⟩, 8) := ⟨⟨by decide +kernel, by decide +kernel⟩, List.mem_of_getElem? (i := 13) (by decide +kernel), List.mem_of_getElem? (i := 507) (by decide +kernel), List.mem_of_getElem? (i := 508) (by decide +kernel)⟩
theorem lw_p21 : lw_okq (⟨"ClaimLadder", "planRefusal", "(II)I"⟩, 8) := ⟨⟨by decide +kernel, by decide +kernel⟩, List.mem_of_getElem? (i := 13) (by decide +kernel), List.mem_of_getElem? (i := 545) (by decide +kernel), List.mem_of_getElem? (i := 546) (by decide +kernel)⟩
theorem lw_p22 : lw_okq (⟨"ClaimLadderModel", "isOne", "(I)Z"⟩, 29) := ⟨⟨by decide +kernel, by decide +kernel⟩, List.mem_of_getElem? (i := 641) (by decide +kernel), List.mem_of_getElem? (i := 748) (by decide +kernel), List.mem_of_getElem? (i := 749) (by decide +kernel)⟩
theorem lw_p23 : lw_okq (⟨"ClaimLadderModel", "pay", "()V"⟩, 29) := ⟨⟨by decide +kernel, by decide +kernel⟩, List.mem_of_getElem? (i := 641) (by decide +kernel), List.mem_of_getElem? (i := 769) (by decide +kernel), List.mem_of_getElem? (i := 770) (by decide +kernel)⟩
theorem lw_p24 : lw_okq (⟨"ClaimLadderModel", "ladder", "()V"⟩, 29) := ⟨⟨by decide +kernel, by decide +kernel⟩, List.mem_of_getElem? (i := 641) (by decide +kernel), List.mem_of_getElem? (i := 773) (by decide +kernel), List.mem_of_getElem? (i := 774) (by decide +kernel)⟩
theorem lw_p25 : lw_okq (⟨"ClaimLadderModel", "reach", "()V"⟩, 29) := ⟨⟨by decide +kernel, by decide +kernel⟩, List.mem_of_getElem? (i := 641) (by decide +kernel), List.mem_of_getElem? (i := 777) (by decide +kernel), List.mem_of_getElem? (i := 778) (by decide +kernel)⟩
theorem lw_p26 : lw_okq (⟨"ClaimLadderModel", "climb", "()V"⟩, 29) := ⟨⟨by decide +kernel, by decide +kernel⟩, List.mem_of_getElem? (i := 641) (by decide +kernel), List.mem_of_getElem? (i := 784) (by decide +kernel), List.mem_of_getElem? (i := 785) (by decide +kernel)⟩
theorem lw_p27 : lw_okq (⟨"ClaimLadderModel", "rise", "(II)V"⟩, 29) := ⟨⟨by decide +kernel, by decide +kernel⟩, List.mem_of_getElem? (i := 641) (by decide +kernel), List.mem_of_getElem? (i := 788) (by decide +kernel), List.mem_of_getElem? (i := 789) (by decide +kernel)⟩
theorem lw_p28 : lw_okq (⟨"ClaimLadderModel", "payRing", "(II)V"⟩, 29) := ⟨⟨by decide +kernel, by decide +kernel⟩, List.mem_of_getElem? (i := 641) (by decide +kernel), List.mem_of_getElem? (i := 792) (by decide +kernel), List.mem_of_getElem? (i := 793) (by decide +kernel)⟩
theorem lw_p29 : lw_okq (⟨"ClaimLadderModel", "most", "(IIZ)I"⟩, 29) := ⟨⟨by decide +kernel, by decide +kernel⟩, List.mem_of_getElem? (i := 641) (by decide +kernel), List.mem_of_getElem? (i := 799) (by decide +kernel), List.mem_of_getElem? (i := 800) (by decide +kernel)⟩
theorem lw_p30 : lw_okq (⟨"ClaimLadderModel", "stead", "(II)I"⟩, 29) := ⟨⟨by decide +kernel, by decide +kernel⟩, List.mem_of_getElem? (i := 641) (by decide +kernel), List.mem_of_getElem? (i := 803) (by decide +kernel), List.mem_of_getElem? (i := 804) (by decide +kernel)⟩
theorem lw_p31 : lw_okq (⟨"ClaimLadderModel", "plain", "(II)I"⟩, 29) := ⟨⟨by decide +kernel, by decide +kernel⟩, List.mem_of_getElem? (i := 641) (by decide +kernel), List.mem_of_getElem? (i := 807) (by decide +kernel), List.mem_of_getElem? (i := 808) (by decide +kernel)⟩
def lw_privs_2 : List (MethodName × Nat) := [(⟨"ClaimLadder$Script", "takeClause", "(I)Z"⟩, 6), (⟨"ClaimLadder$Script", "takeNumber", "(II)Z"⟩, 6), (⟨"ClaimLadder$Script", "takeSign", "(I)Z"⟩, 6), (⟨"ClaimLadder$Ladder", "lastPayerAhead", "(I)I"⟩, 16), (⟨"ClaimLadder", "addAmount", "(LClaimLadder$Rows;II)I"⟩, 8), (⟨"ClaimLadder", "planRefusal", "(II)I"⟩, 8), (⟨"ClaimLadderModel", "isOne", "(I)Z"⟩, 29), (⟨"ClaimLadderModel", "pay", "()V"⟩, 29), (⟨"ClaimLadderModel", "ladder", "()V"⟩, 29), (⟨"ClaimLadderModel", "reach", "()V"⟩, 29), (⟨"ClaimLadderModel", "climb", "()V"⟩, 29), (⟨"ClaimLadderModel", "rise", "(II)V"⟩, 29), (⟨"ClaimLadderModel", "payRing", "(II)V"⟩, 29), (⟨"ClaimLadderModel", "most", "(IIZ)I"⟩, 29), (⟨"ClaimLadderModel", "stead", "(II)I"⟩, 29), (⟨"ClaimLadderModel", "plain", "(II)I"⟩, 29)]
theorem lw_r2 : ∀ q ∈ lw_privs_2, lw_okq q := List.forall_mem_cons.mpr ⟨lw_p16, List.forall_mem_cons.mpr ⟨lw_p17, List.forall_mem_cons.mpr ⟨lw_p18, List.forall_mem_cons.mpr ⟨lw_p19, List.forall_mem_cons.mpr ⟨lw_p20, List.forall_mem_cons.mpr ⟨lw_p21, List.forall_mem_cons.mpr ⟨lw_p22, List.forall_mem_cons.mpr ⟨lw_p23, List.forall_mem_cons.mpr ⟨lw_p24, List.forall_mem_cons.mpr ⟨lw_p25, List.forall_mem_cons.mpr ⟨lw_p26, List.forall_mem_cons.mpr ⟨lw_p27, List.forall_mem_cons.mpr ⟨lw_p28, List.forall_mem_cons.mpr ⟨lw_p29, List.forall_mem_cons.mpr ⟨lw_p30, List.forall_mem_cons.mpr ⟨lw_p31, fun _ h => absurd h List.not_mem_nil⟩⟩⟩⟩⟩⟩⟩⟩⟩⟩⟩⟩⟩⟩⟩⟩
theorem lw_p32 : lw_okq (⟨"ClaimLadderModel", "least", "(II)I"⟩, 29) := ⟨⟨by decide +kernel, by decide +kernel⟩, List.mem_of_getElem? (i := 641) (by decide +kernel), List.mem_of_getElem? (i := 811) (by decide +kernel), List.mem_of_getElem? (i := 812) (by decide +kernel)⟩
theorem lw_p33 : lw_okq (⟨"ClaimLadderModel", "payer", "(I)I"⟩, 29) := ⟨⟨by decide +kernel, by decide +kernel⟩, List.mem_of_getElem? (i := 641) (by decide +kernel), List.mem_of_getElem? (i := 815) (by decide +kernel), List.mem_of_getElem? (i := 816) (by decide +kernel)⟩
theorem lw_p34 : lw_okq (⟨"ClaimLadderModel", "rungAt", "(I)I"⟩, 29) := ⟨⟨by decide +kernel, by decide +kernel⟩, List.mem_of_getElem? (i := 641) (by decide +kernel), List.mem_of_getElem? (i := 819) (by decide +kernel), List.mem_of_getElem? (i := 820) (by decide +kernel)⟩
theorem lw_p35 : lw_okq (⟨"ClaimLadderModel", "clause", "()V"⟩, 29) := ⟨⟨by decide +kernel, by decide +kernel⟩, List.mem_of_getElem? (i := 641) (by decide +kernel), List.mem_of_getElem? (i := 832) (by decide +kernel), List.mem_of_getElem? (i := 833) (by decide +kernel)⟩
theorem lw_p36 : lw_okq (⟨"ClaimLadderModel", "here", "()I"⟩, 29) := ⟨⟨by decide +kernel, by decide +kernel⟩, List.mem_of_getElem? (i := 641) (by decide +kernel), List.mem_of_getElem? (i := 836) (by decide +kernel), List.mem_of_getElem? (i := 837) (by decide +kernel)⟩
theorem lw_p37 : lw_okq (⟨"ClaimLadderModel", "number", "(I)I"⟩, 29) := ⟨⟨by decide +kernel, by decide +kernel⟩, List.mem_of_getElem? (i := 641) (by decide +kernel), List.mem_of_getElem? (i := 840) (by decide +kernel), List.mem_of_getElem? (i := 841) (by decide +kernel)⟩
theorem lw_p38 : lw_okq (⟨"ClaimLadderModel", "comma", "()V"⟩, 29) := ⟨⟨by decide +kernel, by decide +kernel⟩, List.mem_of_getElem? (i := 641) (by decide +kernel), List.mem_of_getElem? (i := 846) (by decide +kernel), List.mem_of_getElem? (i := 847) (by decide +kernel)⟩
theorem lw_p39 : lw_okq (⟨"ClaimLadderModel", "isDone", "(I)Z"⟩, 29) := ⟨⟨by decide +kernel, by decide +kernel⟩, List.mem_of_getElem? (i := 641) (by decide +kernel), List.mem_of_getElem? (i := 850) (by decide +kernel), List.mem_of_getElem? (i := 851) (by decide +kernel)⟩
theorem lw_p40 : lw_okq (⟨"ClaimLadderModel", "severals", "()I"⟩, 29) := ⟨⟨by decide +kernel, by decide +kernel⟩, List.mem_of_getElem? (i := 641) (by decide +kernel), List.mem_of_getElem? (i := 871) (by decide +kernel), List.mem_of_getElem? (i := 872) (by decide +kernel)⟩
theorem lw_p41 : lw_okq (⟨"ClaimLadderModel", "greatestRung", "()I"⟩, 29) := ⟨⟨by decide +kernel, by decide +kernel⟩, List.mem_of_getElem? (i := 641) (by decide +kernel), List.mem_of_getElem? (i := 875) (by decide +kernel), List.mem_of_getElem? (i := 876) (by decide +kernel)⟩
theorem lw_p42 : lw_okq (⟨"ClaimLadderModel", "payers", "()I"⟩, 29) := ⟨⟨by decide +kernel, by decide +kernel⟩, List.mem_of_getElem? (i := 641) (by decide +kernel), List.mem_of_getElem? (i := 879) (by decide +kernel), List.mem_of_getElem? (i := 880) (by decide +kernel)⟩
theorem lw_p43 : lw_okq (⟨"ClaimLadderModel", "references", "()I"⟩, 29) := ⟨⟨by decide +kernel, by decide +kernel⟩, List.mem_of_getElem? (i := 641) (by decide +kernel), List.mem_of_getElem? (i := 883) (by decide +kernel), List.mem_of_getElem? (i := 884) (by decide +kernel)⟩
theorem lw_p44 : lw_okq (⟨"ClaimLadderModel", "tellsWhy", "(I)V"⟩, 29) := ⟨⟨by decide +kernel, by decide +kernel⟩, List.mem_of_getElem? (i := 641) (by decide +kernel), List.mem_of_getElem? (i := 891) (by decide +kernel), List.mem_of_getElem? (i := 892) (by decide +kernel)⟩
theorem lw_p45 : lw_okq (⟨"ClaimLadderModel", "because", "(III)V"⟩, 29) := ⟨⟨by decide +kernel, by decide +kernel⟩, List.mem_of_getElem? (i := 641) (by decide +kernel), List.mem_of_getElem? (i := 895) (by decide +kernel), List.mem_of_getElem? (i := 896) (by decide +kernel)⟩
theorem lw_p46 : lw_okq (⟨"ClaimLadderModel", "lastAhead", "(I)I"⟩, 29) := ⟨⟨by decide +kernel, by decide +kernel⟩, List.mem_of_getElem? (i := 641) (by decide +kernel), List.mem_of_getElem? (i := 899) (by decide +kernel), List.mem_of_getElem? (i := 900) (by decide +kernel)⟩
theorem lw_p47 : lw_okq (⟨"ClaimLadderModel", "paidBy", "(II)I"⟩, 29) := ⟨⟨by decide +kernel, by decide +kernel⟩, List.mem_of_getElem? (i := 641) (by decide +kernel), List.mem_of_getElem? (i := 913) (by decide +kernel), List.mem_of_getElem? (i := 914) (by decide +kernel)⟩
def lw_privs_3 : List (MethodName × Nat) := [(⟨"ClaimLadderModel", "least", "(II)I"⟩, 29), (⟨"ClaimLadderModel", "payer", "(I)I"⟩, 29), (⟨"ClaimLadderModel", "rungAt", "(I)I"⟩, 29), (⟨"ClaimLadderModel", "clause", "()V"⟩, 29), (⟨"ClaimLadderModel", "here", "()I"⟩, 29), (⟨"ClaimLadderModel", "number", "(I)I"⟩, 29), (⟨"ClaimLadderModel", "comma", "()V"⟩, 29), (⟨"ClaimLadderModel", "isDone", "(I)Z"⟩, 29), (⟨"ClaimLadderModel", "severals", "()I"⟩, 29), (⟨"ClaimLadderModel", "greatestRung", "()I"⟩, 29), (⟨"ClaimLadderModel", "payers", "()I"⟩, 29), (⟨"ClaimLadderModel", "references", "()I"⟩, 29), (⟨"ClaimLadderModel", "tellsWhy", "(I)V"⟩, 29), (⟨"ClaimLadderModel", "because", "(III)V"⟩, 29), (⟨"ClaimLadderModel", "lastAhead", "(I)I"⟩, 29), (⟨"ClaimLadderModel", "paidBy", "(II)I"⟩, 29)]
theorem lw_r3 : ∀ q ∈ lw_privs_3, lw_okq q := List.forall_mem_cons.mpr ⟨lw_p32, List.forall_mem_cons.mpr ⟨lw_p33, List.forall_mem_cons.mpr ⟨lw_p34, List.forall_mem_cons.mpr ⟨lw_p35, List.forall_mem_cons.mpr ⟨lw_p36, List.forall_mem_cons.mpr ⟨lw_p37, List.forall_mem_cons.mpr ⟨lw_p38, List.forall_mem_cons.mpr ⟨lw_p39, List.forall_mem_cons.mpr ⟨lw_p40, List.forall_mem_cons.mpr ⟨lw_p41, List.forall_mem_cons.mpr ⟨lw_p42, List.forall_mem_cons.mpr ⟨lw_p43, List.forall_mem_cons.mpr ⟨lw_p44, List.forall_mem_cons.mpr ⟨lw_p45, List.forall_mem_cons.mpr ⟨lw_p46, List.forall_mem_cons.mpr ⟨lw_p47, fun _ h => absurd h List.not_mem_nil⟩⟩⟩⟩⟩⟩⟩⟩⟩⟩⟩⟩⟩⟩⟩⟩
theorem lw_p48 : lw_okq (⟨"ClaimLadderModel", "fitsBy", "(I)Z"⟩, 29) := ⟨⟨by decide +kernel, by decide +kernel⟩, List.mem_of_getElem? (i := 641) (by decide +kernel), List.mem_of_getElem? (i := 929) (by decide +kernel), List.mem_of_getElem? (i := 930) (by decide +kernel)⟩
theorem lw_p49 : lw_okq (⟨"ClaimLadderModel", "goes", "(II)V"⟩, 29) := ⟨⟨by decide +kernel, by decide +kernel⟩, List.mem_of_getElem? (i := 641) (by decide +kernel), List.mem_of_getElem? (i := 957) (by decide +kernel), List.mem_of_getElem? (i := 958) (by decide +kernel)⟩
def lw_privs_4 : List (MethodName × Nat) := [(⟨"ClaimLadderModel", "fitsBy", "(I)Z"⟩, 29), (⟨"ClaimLadderModel", "goes", "(II)V"⟩, 29)]
theorem lw_r4 : ∀ q ∈ lw_privs_4, lw_okq q := List.forall_mem_cons.mpr ⟨lw_p48, List.forall_mem_cons.mpr ⟨lw_p49, fun _ h => absurd h List.not_mem_nil⟩⟩
def lw_privs : List (MethodName × Nat) := lw_privs_1 ++ (lw_privs_2 ++ (lw_privs_3 ++ (lw_privs_4)))
def lw_tbl : List Cond := k2_sels lw_privs ++ tables_1
theorem lw_privs_ok : ∀ q ∈ lw_privs, lw_okq q := by
  show ∀ q ∈ lw_privs_1 ++ (lw_privs_2 ++ (lw_privs_3 ++ (lw_privs_4))), lw_okq q
  exact List.forall_mem_append.mpr ⟨lw_r1, List.forall_mem_append.mpr ⟨lw_r2, List.forall_mem_append.mpr ⟨lw_r3, lw_r4⟩⟩⟩
end
section
theorem goodIn_r {big : List Cond} (ws : List Cond) (ps : List Nat) (hp : ws = ps.filterMap (fun i => big[i]?)) (h : ws.all goodWord = true) : GoodIn big ws := by
  intro w hw
  have h1 := List.all_eq_true.mp h w hw
  rw [hp] at hw
  obtain ⟨i, -, hi⟩ := List.mem_filterMap.mp hw
  have hm : w ∈ big := by first | exact List.mem_of_getElem? hi | exact List.getElem?_mem hi
  exact ⟨hm, good_of_word h1⟩
theorem goodIn_app {big a b : List Cond} (ha : GoodIn big a) (hb : GoodIn big b) : GoodIn big (a ++ b) := fun w h => (List.mem_append.mp h).elim (ha w) (hb w)
theorem goodIn_ca {big a b : List Cond} {c : Cond} (ha : GoodIn big (c :: a)) (hb : GoodIn big b) : GoodIn big (c :: (a ++ b)) := fun w h => (List.mem_cons.mp h).elim (fun e => ha w (List.mem_cons.mpr (Or.inl e))) (fun h => (List.mem_append.mp h).elim (fun h => ha w (List.mem_cons.mpr (Or.inr h))) (hb w))
theorem goodIn_sub {big ws : List Cond} (hm : ∀ w ∈ ws, w ∈ big) (h : ws.all goodWord = true) : GoodIn big ws := fun w hw => ⟨hm w hw, good_of_word (List.all_eq_true.mp h w hw)⟩

def RX0 : String := "ClaimLadder$Ladder"
def TX0 : u_T := fun k => match k with
  | 0 => ("ClaimLadder$Ladder", "setup", "LClaimLadder$Setup;", true)
  | 1 => ("ClaimLadder$Ladder", "reach", "[I", true)
  | 2 => ("ClaimLadder$Ladder", "ringWith", "[I", true)
  | 3 => ("ClaimLadder$Ladder", "rungOf", "[I", true)
  | 4 => ("ClaimLadder$Ladder", "ringOf", "[I", true)
  | 5 => ("ClaimLadder$Ladder", "most", "[I", true)
  | 6 => ("ClaimLadder$Ladder", "paid", "[I", true)
  | 7 => ("ClaimLadder$Ladder", "back", "[I", true)
  | 8 => ("ClaimLadder$Ladder", "ringFirst", "[I", true)
  | 9 => ("ClaimLadder$Ladder", "ringBits", "[I", true)
  | 10 => ("ClaimLadder$Ladder", "ringRung", "[I", true)
  | 11 => ("ClaimLadder$Ladder", "ringLeft", "[I", true)
  | 12 => ("ClaimLadder$Ladder", "ringPaid", "[I", true)
  | 13 => ("ClaimLadder$Ladder", "rings", "I", false)
  | 14 => ("ClaimLadder$Ladder", "paidInAll", "I", false)
  | _ => ("ClaimLadder$Ladder", "over", "I", false)
def tyX0 : Nat → FieldType := fun k => match k with
  | 0 => .object "ClaimLadder$Setup"
  | 1 => .array .int
  | 2 => .array .int
  | 3 => .array .int
  | 4 => .array .int
  | 5 => .array .int
  | 6 => .array .int
  | 7 => .array .int
  | 8 => .array .int
  | 9 => .array .int
  | 10 => .array .int
  | 11 => .array .int
  | 12 => .array .int
  | 13 => .int
  | 14 => .int
  | _ => .int
abbrev wsX00 : List Cond := u_ws RX0 TX0 16
theorem nmX0 : ∀ a, a < 16 → ∀ b, b < 16 → a ≠ b → (TX0 a).2.1 ≠ (TX0 b).2.1 := by decide +kernel
theorem tyX0_ok : ∀ k, k < 16 → parseFieldDescriptor (TX0 k).2.2.1 = some (tyX0 k) := by decide +kernel
abbrev cX0_init : ByteArray := prog_2_method_1_code
def yX0_init : MethodName := ⟨RX0, "<init>", "(LClaimLadder$Setup;)V"⟩
abbrev cX0_settle : ByteArray := prog_2_method_2_code
def yX0_settle : MethodName := ⟨RX0, "settle", "()V"⟩
abbrev cX0_build : ByteArray := prog_2_method_3_code
def yX0_build : MethodName := ⟨RX0, "build", "()V"⟩
abbrev cX0_findReach : ByteArray := prog_2_method_4_code
def yX0_findReach : MethodName := ⟨RX0, "findReach", "()V"⟩
abbrev cX0_findRings : ByteArray := prog_2_method_5_code
def yX0_findRings : MethodName := ⟨RX0, "findRings", "()V"⟩
abbrev cX0_findRungs : ByteArray := prog_2_method_6_code
def yX0_findRungs : MethodName := ⟨RX0, "findRungs", "()V"⟩
abbrev cX0_outside : ByteArray := prog_2_method_7_code
def yX0_outside : MethodName := ⟨RX0, "outside", "(I)I"⟩
abbrev cX0_rungAbove : ByteArray := prog_2_method_8_code
def yX0_rungAbove : MethodName := ⟨RX0, "rungAbove", "(I)I"⟩
abbrev cX0_orderRings : ByteArray := prog_2_method_9_code
def yX0_orderRings : MethodName := ⟨RX0, "orderRings", "()V"⟩
abbrev cX0_payAt : ByteArray := prog_2_method_10_code
def yX0_payAt : MethodName := ⟨RX0, "payAt", "(I)V"⟩
abbrev cX0_payAlone : ByteArray := prog_2_method_11_code
def yX0_payAlone : MethodName := ⟨RX0, "payAlone", "(II)I"⟩
abbrev cX0_payByTurns : ByteArray := prog_2_method_12_code
def yX0_payByTurns : MethodName := ⟨RX0, "payByTurns", "(II)I"⟩
abbrev cX0_isAlone : ByteArray := prog_2_method_13_code
def yX0_isAlone : MethodName := ⟨RX0, "isAlone", "(I)Z"⟩
abbrev cX0_isEscaped : ByteArray := prog_2_method_14_code
def yX0_isEscaped : MethodName := ⟨RX0, "isEscaped", "(I)Z"⟩
abbrev cX0_firstPayer : ByteArray := prog_2_method_15_code
def yX0_firstPayer : MethodName := ⟨RX0, "firstPayer", "(I)I"⟩
abbrev cX0_shareOf : ByteArray := prog_2_method_16_code
def yX0_shareOf : MethodName := ⟨RX0, "shareOf", "(II)I"⟩
abbrev cX0_mostOf : ByteArray := prog_2_method_17_code
def yX0_mostOf : MethodName := ⟨RX0, "mostOf", "(II)I"⟩
abbrev cX0_deal : ByteArray := prog_2_method_18_code
def yX0_deal : MethodName := ⟨RX0, "deal", "(II[I[I)I"⟩
abbrev cX0_openOnes : ByteArray := prog_2_method_19_code
def yX0_openOnes : MethodName := ⟨RX0, "openOnes", "(I[I[I)I"⟩
abbrev cX0_leastRoom : ByteArray := prog_2_method_20_code
def yX0_leastRoom : MethodName := ⟨RX0, "leastRoom", "(I[I[I)I"⟩
abbrev cX0_giveBack : ByteArray := prog_2_method_21_code
def yX0_giveBack : MethodName := ⟨RX0, "giveBack", "(I)V"⟩
abbrev cX0_ringsOfSeveral : ByteArray := prog_2_method_22_code
def yX0_ringsOfSeveral : MethodName := ⟨RX0, "ringsOfSeveral", "()I"⟩
abbrev cX0_greatestRung : ByteArray := prog_2_method_23_code
def yX0_greatestRung : MethodName := ⟨RX0, "greatestRung", "()I"⟩
abbrev cX0_payers : ByteArray := prog_2_method_24_code
def yX0_payers : MethodName := ⟨RX0, "payers", "()I"⟩
abbrev cX0_firstOtherwise : ByteArray := prog_2_method_25_code
def yX0_firstOtherwise : MethodName := ⟨RX0, "firstOtherwise", "(LClaimLadder$Rows;)I"⟩
abbrev cX0_reason : ByteArray := prog_2_method_26_code
def yX0_reason : MethodName := ⟨RX0, "reason", "(I)I"⟩
abbrev cX0_cause : ByteArray := prog_2_method_27_code
def yX0_cause : MethodName := ⟨RX0, "cause", "(II)I"⟩
abbrev cX0_causeBehind : ByteArray := prog_2_method_28_code
def yX0_causeBehind : MethodName := ⟨RX0, "causeBehind", "(II)I"⟩
abbrev cX0_lastPayerAhead : ByteArray := prog_2_method_29_code
def yX0_lastPayerAhead : MethodName := ⟨RX0, "lastPayerAhead", "(I)I"⟩
def RX1 : String := "ClaimLadder$Rows"
def TX1 : u_T := fun k => match k with
  | 0 => ("ClaimLadder$Rows", "most", "I", true)
  | 1 => ("ClaimLadder$Rows", "first", "[I", true)
  | 2 => ("ClaimLadder$Rows", "second", "[I", true)
  | _ => ("ClaimLadder$Rows", "size", "I", false)
def tyX1 : Nat → FieldType := fun k => match k with
  | 0 => .int
  | 1 => .array .int
  | 2 => .array .int
  | _ => .int
abbrev wsX10 : List Cond := u_ws RX1 TX1 4
theorem nmX1 : ∀ a, a < 4 → ∀ b, b < 4 → a ≠ b → (TX1 a).2.1 ≠ (TX1 b).2.1 := by decide +kernel
theorem tyX1_ok : ∀ k, k < 4 → parseFieldDescriptor (TX1 k).2.2.1 = some (tyX1 k) := by decide +kernel
abbrev cX1_init : ByteArray := prog_3_method_1_code
def yX1_init : MethodName := ⟨RX1, "<init>", "(I)V"⟩
abbrev cX1_add : ByteArray := prog_3_method_2_code
def yX1_add : MethodName := ⟨RX1, "add", "(II)I"⟩
abbrev cX1_clear : ByteArray := prog_3_method_3_code
def yX1_clear : MethodName := ⟨RX1, "clear", "()I"⟩
abbrev cX1_copyFrom : ByteArray := prog_3_method_4_code
def yX1_copyFrom : MethodName := ⟨RX1, "copyFrom", "(LClaimLadder$Rows;)V"⟩
def RX2 : String := "ClaimLadder$Script"
def TX2 : u_T := fun k => match k with
  | 0 => ("ClaimLadder$Script", "signs", "[B", true)
  | 1 => ("ClaimLadder$Script", "letters", "[I", true)
  | 2 => ("ClaimLadder$Script", "numbers", "[I", true)
  | 3 => ("ClaimLadder$Script", "length", "I", false)
  | 4 => ("ClaimLadder$Script", "clauses", "I", false)
  | _ => ("ClaimLadder$Script", "at", "I", false)
def tyX2 : Nat → FieldType := fun k => match k with
  | 0 => .array .byte
  | 1 => .array .int
  | 2 => .array .int
  | 3 => .int
  | 4 => .int
  | _ => .int
abbrev wsX20 : List Cond := u_ws RX2 TX2 6
theorem nmX2 : ∀ a, a < 6 → ∀ b, b < 6 → a ≠ b → (TX2 a).2.1 ≠ (TX2 b).2.1 := by decide +kernel
theorem tyX2_ok : ∀ k, k < 6 → parseFieldDescriptor (TX2 k).2.2.1 = some (tyX2 k) := by decide +kernel
abbrev cX2_init : ByteArray := prog_4_method_1_code
def yX2_init : MethodName := ⟨RX2, "<init>", "()V"⟩
abbrev cX2_append : ByteArray := prog_4_method_2_code
def yX2_append : MethodName := ⟨RX2, "append", "(I)I"⟩
abbrev cX2_clear : ByteArray := prog_4_method_3_code
def yX2_clear : MethodName := ⟨RX2, "clear", "()V"⟩
abbrev cX2_parse : ByteArray := prog_4_method_4_code
def yX2_parse : MethodName := ⟨RX2, "parse", "()I"⟩
abbrev cX2_takeClause : ByteArray := prog_4_method_5_code
def yX2_takeClause : MethodName := ⟨RX2, "takeClause", "(I)Z"⟩
abbrev cX2_takeSign : ByteArray := prog_4_method_6_code
def yX2_takeSign : MethodName := ⟨RX2, "takeSign", "(I)Z"⟩
abbrev cX2_takeNumber : ByteArray := prog_4_method_7_code
def yX2_takeNumber : MethodName := ⟨RX2, "takeNumber", "(II)Z"⟩
abbrev cX2_perform : ByteArray := prog_4_method_8_code
def yX2_perform : MethodName := ⟨RX2, "perform", "(ILClaimLadder$Setup;)I"⟩
def RX3 : String := "ClaimLadder$Setup"
def TX3 : u_T := fun k => match k with
  | 0 => ("ClaimLadder$Setup", "kind", "[I", true)
  | 1 => ("ClaimLadder$Setup", "limit", "[I", true)
  | 2 => ("ClaimLadder$Setup", "retention", "[I", true)
  | 3 => ("ClaimLadder$Setup", "quota", "[I", true)
  | 4 => ("ClaimLadder$Setup", "refers", "[I", true)
  | 5 => ("ClaimLadder$Setup", "size", "I", false)
  | _ => ("ClaimLadder$Setup", "lossNow", "I", false)
def tyX3 : Nat → FieldType := fun k => match k with
  | 0 => .array .int
  | 1 => .array .int
  | 2 => .array .int
  | 3 => .array .int
  | 4 => .array .int
  | 5 => .int
  | _ => .int
abbrev wsX30 : List Cond := u_ws RX3 TX3 7
theorem nmX3 : ∀ a, a < 7 → ∀ b, b < 7 → a ≠ b → (TX3 a).2.1 ≠ (TX3 b).2.1 := by decide +kernel
theorem tyX3_ok : ∀ k, k < 7 → parseFieldDescriptor (TX3 k).2.2.1 = some (tyX3 k) := by decide +kernel
abbrev cX3_init : ByteArray := prog_5_method_1_code
def yX3_init : MethodName := ⟨RX3, "<init>", "()V"⟩
abbrev cX3_isContract : ByteArray := prog_5_method_2_code
def yX3_isContract : MethodName := ⟨RX3, "isContract", "(I)Z"⟩
abbrev cX3_addContract : ByteArray := prog_5_method_3_code
def yX3_addContract : MethodName := ⟨RX3, "addContract", "(III)I"⟩
abbrev cX3_isTerm : ByteArray := prog_5_method_4_code
def yX3_isTerm : MethodName := ⟨RX3, "isTerm", "(II)Z"⟩
abbrev cX3_term : ByteArray := prog_5_method_5_code
def yX3_term : MethodName := ⟨RX3, "term", "(II)I"⟩
abbrev cX3_change : ByteArray := prog_5_method_6_code
def yX3_change : MethodName := ⟨RX3, "change", "(III)I"⟩
abbrev cX3_link : ByteArray := prog_5_method_7_code
def yX3_link : MethodName := ⟨RX3, "link", "(IIZ)I"⟩
abbrev cX3_changeLoss : ByteArray := prog_5_method_8_code
def yX3_changeLoss : MethodName := ⟨RX3, "changeLoss", "(I)I"⟩
abbrev cX3_references : ByteArray := prog_5_method_9_code
def yX3_references : MethodName := ⟨RX3, "references", "()I"⟩
abbrev cX3_undergo : ByteArray := prog_5_method_10_code
def yX3_undergo : MethodName := ⟨RX3, "undergo", "(II)V"⟩
abbrev cX3_copyFrom : ByteArray := prog_5_method_11_code
def yX3_copyFrom : MethodName := ⟨RX3, "copyFrom", "(LClaimLadder$Setup;)V"⟩
def RX4 : String := "ClaimLadder$Tape"
def TX4 : u_T := fun k => match k with
  | 0 => ("ClaimLadder$Tape", "items", "[J", true)
  | 1 => ("ClaimLadder$Tape", "sort", "I", false)
  | _ => ("ClaimLadder$Tape", "length", "I", false)
def tyX4 : Nat → FieldType := fun k => match k with
  | 0 => .array .long
  | 1 => .int
  | _ => .int
abbrev wsX40 : List Cond := u_ws RX4 TX4 3
theorem nmX4 : ∀ a, a < 3 → ∀ b, b < 3 → a ≠ b → (TX4 a).2.1 ≠ (TX4 b).2.1 := by decide +kernel
theorem tyX4_ok : ∀ k, k < 3 → parseFieldDescriptor (TX4 k).2.2.1 = some (tyX4 k) := by decide +kernel
abbrev cX4_init : ByteArray := prog_6_method_1_code
def yX4_init : MethodName := ⟨RX4, "<init>", "()V"⟩
abbrev cX4_holds : ByteArray := prog_6_method_2_code
def yX4_holds : MethodName := ⟨RX4, "holds", "()Z"⟩
abbrev cX4_become : ByteArray := prog_6_method_3_code
def yX4_become : MethodName := ⟨RX4, "become", "(II)V"⟩
abbrev cX4_hasPlace : ByteArray := prog_6_method_4_code
def yX4_hasPlace : MethodName := ⟨RX4, "hasPlace", "(I)Z"⟩
abbrev cX4_hasStretch : ByteArray := prog_6_method_5_code
def yX4_hasStretch : MethodName := ⟨RX4, "hasStretch", "(II)Z"⟩
def RX5 : String := "ClaimLadder$Told"
def TX5 : u_T := fun k => match k with
  | 0 => ("ClaimLadder$Told", "setup", "LClaimLadder$Setup;", true)
  | 1 => ("ClaimLadder$Told", "seen", "LClaimLadder$Rows;", true)
  | 2 => ("ClaimLadder$Told", "steps", "LClaimLadder$Rows;", true)
  | _ => ("ClaimLadder$Told", "entries", "LClaimLadder$Rows;", true)
def tyX5 : Nat → FieldType := fun k => match k with
  | 0 => .object "ClaimLadder$Setup"
  | 1 => .object "ClaimLadder$Rows"
  | 2 => .object "ClaimLadder$Rows"
  | _ => .object "ClaimLadder$Rows"
abbrev wsX50 : List Cond := u_ws RX5 TX5 4
theorem nmX5 : ∀ a, a < 4 → ∀ b, b < 4 → a ≠ b → (TX5 a).2.1 ≠ (TX5 b).2.1 := by decide +kernel
theorem tyX5_ok : ∀ k, k < 4 → parseFieldDescriptor (TX5 k).2.2.1 = some (tyX5 k) := by decide +kernel
abbrev cX5_init : ByteArray := prog_7_method_1_code
def yX5_init : MethodName := ⟨RX5, "<init>", "()V"⟩
abbrev cX5_copyFrom : ByteArray := prog_7_method_2_code
def yX5_copyFrom : MethodName := ⟨RX5, "copyFrom", "(LClaimLadder$Told;)V"⟩
def RX6 : String := "ClaimLadder"
def TX6 : u_T := fun k => match k with
  | 0 => ("ClaimLadder", "now", "LClaimLadder$Told;", true)
  | 1 => ("ClaimLadder", "taken", "LClaimLadder$Told;", true)
  | 2 => ("ClaimLadder", "isTaken", "Z", false)
  | 3 => ("ClaimLadder", "ladder", "LClaimLadder$Ladder;", true)
  | 4 => ("ClaimLadder", "trial", "LClaimLadder$Setup;", true)
  | 5 => ("ClaimLadder", "trialLadder", "LClaimLadder$Ladder;", true)
  | 6 => ("ClaimLadder", "script", "LClaimLadder$Script;", true)
  | _ => ("ClaimLadder", "tapes", "[LClaimLadder$Tape;", true)
def tyX6 : Nat → FieldType := fun k => match k with
  | 0 => .object "ClaimLadder$Told"
  | 1 => .object "ClaimLadder$Told"
  | 2 => .boolean
  | 3 => .object "ClaimLadder$Ladder"
  | 4 => .object "ClaimLadder$Setup"
  | 5 => .object "ClaimLadder$Ladder"
  | 6 => .object "ClaimLadder$Script"
  | _ => .array (.object "ClaimLadder$Tape")
abbrev wsX60 : List Cond := u_ws RX6 TX6 8
theorem nmX6 : ∀ a, a < 8 → ∀ b, b < 8 → a ≠ b → (TX6 a).2.1 ≠ (TX6 b).2.1 := by decide +kernel
theorem tyX6_ok : ∀ k, k < 8 → parseFieldDescriptor (TX6 k).2.2.1 = some (tyX6 k) := by decide +kernel
abbrev cX6_init : ByteArray := prog_1_method_1_code
def yX6_init : MethodName := ⟨RX6, "<init>", "()V"⟩
abbrev cX6_contract : ByteArray := prog_1_method_2_code
def yX6_contract : MethodName := ⟨RX6, "contract", "(III)I"⟩
abbrev cX6_renew : ByteArray := prog_1_method_3_code
def yX6_renew : MethodName := ⟨RX6, "renew", "(III)I"⟩
abbrev cX6_refer : ByteArray := prog_1_method_4_code
def yX6_refer : MethodName := ⟨RX6, "refer", "(IIZ)I"⟩
abbrev cX6_loss : ByteArray := prog_1_method_5_code
def yX6_loss : MethodName := ⟨RX6, "loss", "(I)I"⟩
abbrev cX6_of : ByteArray := prog_1_method_6_code
def yX6_of : MethodName := ⟨RX6, "of", "(II)I"⟩
abbrev cX6_feed : ByteArray := prog_1_method_7_code
def yX6_feed : MethodName := ⟨RX6, "feed", "(I)I"⟩
abbrev cX6_read : ByteArray := prog_1_method_8_code
def yX6_read : MethodName := ⟨RX6, "read", "()I"⟩
abbrev cX6_ring : ByteArray := prog_1_method_9_code
def yX6_ring : MethodName := ⟨RX6, "ring", "(II)I"⟩
abbrev cX6_pays : ByteArray := prog_1_method_10_code
def yX6_pays : MethodName := ⟨RX6, "pays", "(I)I"⟩
abbrev cX6_told : ByteArray := prog_1_method_11_code
def yX6_told : MethodName := ⟨RX6, "told", "(I)I"⟩
abbrev cX6_why : ByteArray := prog_1_method_12_code
def yX6_why : MethodName := ⟨RX6, "why", "(II)I"⟩
abbrev cX6_net : ByteArray := prog_1_method_13_code
def yX6_net : MethodName := ⟨RX6, "net", "(II)I"⟩
abbrev cX6_more : ByteArray := prog_1_method_14_code
def yX6_more : MethodName := ⟨RX6, "more", "(I)J"⟩
abbrev cX6_from : ByteArray := prog_1_method_15_code
def yX6_from : MethodName := ⟨RX6, "from", "(I)I"⟩
abbrev cX6_see : ByteArray := prog_1_method_16_code
def yX6_see : MethodName := ⟨RX6, "see", "(II)I"⟩
abbrev cX6_fits : ByteArray := prog_1_method_17_code
def yX6_fits : MethodName := ⟨RX6, "fits", "(I)I"⟩
abbrev cX6_odds : ByteArray := prog_1_method_18_code
def yX6_odds : MethodName := ⟨RX6, "odds", "(II)J"⟩
abbrev cX6_mean : ByteArray := prog_1_method_19_code
def yX6_mean : MethodName := ⟨RX6, "mean", "(I)J"⟩
abbrev cX6_plan : ByteArray := prog_1_method_20_code
def yX6_plan : MethodName := ⟨RX6, "plan", "(II)I"⟩
abbrev cX6_ends : ByteArray := prog_1_method_21_code
def yX6_ends : MethodName := ⟨RX6, "ends", "(I)I"⟩
abbrev cX6_book : ByteArray := prog_1_method_22_code
def yX6_book : MethodName := ⟨RX6, "book", "(II)I"⟩
abbrev cX6_looked : ByteArray := prog_1_method_23_code
def yX6_looked : MethodName := ⟨RX6, "looked", "()I"⟩
abbrev cX6_judge : ByteArray := prog_1_method_24_code
def yX6_judge : MethodName := ⟨RX6, "judge", "(II)I"⟩
abbrev cX6_image : ByteArray := prog_1_method_25_code
def yX6_image : MethodName := ⟨RX6, "image", "()I"⟩
abbrev cX6_undo : ByteArray := prog_1_method_26_code
def yX6_undo : MethodName := ⟨RX6, "undo", "()I"⟩
abbrev cX6_count : ByteArray := prog_1_method_27_code
def yX6_count : MethodName := ⟨RX6, "count", "(I)I"⟩
abbrev cX6_tape : ByteArray := prog_1_method_28_code
def yX6_tape : MethodName := ⟨RX6, "tape", "(III)I"⟩
abbrev cX6_item : ByteArray := prog_1_method_29_code
def yX6_item : MethodName := ⟨RX6, "item", "(IIJ)I"⟩
abbrev cX6_peek : ByteArray := prog_1_method_30_code
def yX6_peek : MethodName := ⟨RX6, "peek", "(II)J"⟩
abbrev cX6_shift : ByteArray := prog_1_method_31_code
def yX6_shift : MethodName := ⟨RX6, "shift", "(IIIII)I"⟩
abbrev cX6_isTape : ByteArray := prog_1_method_32_code
def yX6_isTape : MethodName := ⟨RX6, "isTape", "(I)Z"⟩
abbrev cX6_has : ByteArray := prog_1_method_33_code
def yX6_has : MethodName := ⟨RX6, "has", "(II)Z"⟩
abbrev cX6_narrowed : ByteArray := prog_1_method_34_code
def yX6_narrowed : MethodName := ⟨RX6, "narrowed", "(IJ)J"⟩
abbrev cX6_addAmount : ByteArray := prog_1_method_35_code
def yX6_addAmount : MethodName := ⟨RX6, "addAmount", "(LClaimLadder$Rows;II)I"⟩
abbrev cX6_planRefusal : ByteArray := prog_1_method_36_code
def yX6_planRefusal : MethodName := ⟨RX6, "planRefusal", "(II)I"⟩
abbrev cX6_fractionPart : ByteArray := prog_1_method_37_code
def yX6_fractionPart : MethodName := ⟨RX6, "fractionPart", "(III)J"⟩
abbrev cX6_commonDivisor : ByteArray := prog_1_method_38_code
def yX6_commonDivisor : MethodName := ⟨RX6, "commonDivisor", "(II)I"⟩
def RX7 : String := "ClaimLadderModel"
def TX7 : u_T := fun k => match k with
  | 0 => ("ClaimLadderModel", "thrown", "I", false)
  | 1 => ("ClaimLadderModel", "s", "[I", true)
  | 2 => ("ClaimLadderModel", "kept", "[I", true)
  | 3 => ("ClaimLadderModel", "aside", "[I", true)
  | 4 => ("ClaimLadderModel", "isKept", "Z", false)
  | 5 => ("ClaimLadderModel", "reaches", "[I", true)
  | 6 => ("ClaimLadderModel", "ringOf", "[I", true)
  | 7 => ("ClaimLadderModel", "rungOf", "[I", true)
  | 8 => ("ClaimLadderModel", "rings", "[I", true)
  | 9 => ("ClaimLadderModel", "ringMany", "I", false)
  | 10 => ("ClaimLadderModel", "paid", "[I", true)
  | 11 => ("ClaimLadderModel", "leftOf", "[I", true)
  | 12 => ("ClaimLadderModel", "ringPaid", "[I", true)
  | 13 => ("ClaimLadderModel", "paidAll", "I", false)
  | 14 => ("ClaimLadderModel", "mosts", "[I", true)
  | 15 => ("ClaimLadderModel", "text", "[I", true)
  | 16 => ("ClaimLadderModel", "signs", "I", false)
  | 17 => ("ClaimLadderModel", "at", "I", false)
  | 18 => ("ClaimLadderModel", "isWrong", "Z", false)
  | 19 => ("ClaimLadderModel", "clauses", "I", false)
  | 20 => ("ClaimLadderModel", "letters", "[I", true)
  | 21 => ("ClaimLadderModel", "one", "[I", true)
  | 22 => ("ClaimLadderModel", "two", "[I", true)
  | 23 => ("ClaimLadderModel", "three", "[I", true)
  | 24 => ("ClaimLadderModel", "whys", "[I", true)
  | 25 => ("ClaimLadderModel", "backs", "[I", true)
  | 26 => ("ClaimLadderModel", "sorts", "[I", true)
  | 27 => ("ClaimLadderModel", "sizes", "[I", true)
  | _ => ("ClaimLadderModel", "items", "[J", true)
def tyX7 : Nat → FieldType := fun k => match k with
  | 0 => .int
  | 1 => .array .int
  | 2 => .array .int
  | 3 => .array .int
  | 4 => .boolean
  | 5 => .array .int
  | 6 => .array .int
  | 7 => .array .int
  | 8 => .array .int
  | 9 => .int
  | 10 => .array .int
  | 11 => .array .int
  | 12 => .array .int
  | 13 => .int
  | 14 => .array .int
  | 15 => .array .int
  | 16 => .int
  | 17 => .int
  | 18 => .boolean
  | 19 => .int
  | 20 => .array .int
  | 21 => .array .int
  | 22 => .array .int
  | 23 => .array .int
  | 24 => .array .int
  | 25 => .array .int
  | 26 => .array .int
  | 27 => .array .int
  | _ => .array .long
abbrev wsX70 : List Cond := u_ws RX7 TX7 29
theorem nmX7 : ∀ a, a < 29 → ∀ b, b < 29 → a ≠ b → (TX7 a).2.1 ≠ (TX7 b).2.1 := by decide +kernel
theorem tyX7_ok : ∀ k, k < 29 → parseFieldDescriptor (TX7 k).2.2.1 = some (tyX7 k) := by decide +kernel
abbrev cX7_in : ByteArray := prog_9_method_2_code
def yX7_in : MethodName := ⟨RX7, "in", "(JJJ)Z"⟩
abbrev cX7_init : ByteArray := prog_9_method_3_code
def yX7_init : MethodName := ⟨RX7, "<init>", "()V"⟩
abbrev cX7_copies : ByteArray := prog_9_method_4_code
def yX7_copies : MethodName := ⟨RX7, "copies", "([I[I)V"⟩
abbrev cX7_isOne : ByteArray := prog_9_method_5_code
def yX7_isOne : MethodName := ⟨RX7, "isOne", "(I)Z"⟩
abbrev cX7_bits : ByteArray := prog_9_method_6_code
def yX7_bits : MethodName := ⟨RX7, "bits", "(I)I"⟩
abbrev cX7_has : ByteArray := prog_9_method_7_code
def yX7_has : MethodName := ⟨RX7, "has", "(II)Z"⟩
abbrev cX7_contract : ByteArray := prog_9_method_8_code
def yX7_contract : MethodName := ⟨RX7, "contract", "(III)I"⟩
abbrev cX7_may : ByteArray := prog_9_method_9_code
def yX7_may : MethodName := ⟨RX7, "may", "(II)Z"⟩
abbrev cX7_renew : ByteArray := prog_9_method_10_code
def yX7_renew : MethodName := ⟨RX7, "renew", "(III)I"⟩
abbrev cX7_refer : ByteArray := prog_9_method_11_code
def yX7_refer : MethodName := ⟨RX7, "refer", "(IIZ)I"⟩
abbrev cX7_loss : ByteArray := prog_9_method_12_code
def yX7_loss : MethodName := ⟨RX7, "loss", "(I)I"⟩
abbrev cX7_reach : ByteArray := prog_9_method_13_code
def yX7_reach : MethodName := ⟨RX7, "reach", "()V"⟩
abbrev cX7_climb : ByteArray := prog_9_method_14_code
def yX7_climb : MethodName := ⟨RX7, "climb", "()V"⟩
abbrev cX7_rise : ByteArray := prog_9_method_15_code
def yX7_rise : MethodName := ⟨RX7, "rise", "(II)V"⟩
abbrev cX7_ladder : ByteArray := prog_9_method_16_code
def yX7_ladder : MethodName := ⟨RX7, "ladder", "()V"⟩
abbrev cX7_least : ByteArray := prog_9_method_17_code
def yX7_least : MethodName := ⟨RX7, "least", "(II)I"⟩
abbrev cX7_stead : ByteArray := prog_9_method_18_code
def yX7_stead : MethodName := ⟨RX7, "stead", "(II)I"⟩
abbrev cX7_plain : ByteArray := prog_9_method_19_code
def yX7_plain : MethodName := ⟨RX7, "plain", "(II)I"⟩
abbrev cX7_payer : ByteArray := prog_9_method_20_code
def yX7_payer : MethodName := ⟨RX7, "payer", "(I)I"⟩
abbrev cX7_most : ByteArray := prog_9_method_21_code
def yX7_most : MethodName := ⟨RX7, "most", "(IIZ)I"⟩
abbrev cX7_payRing : ByteArray := prog_9_method_22_code
def yX7_payRing : MethodName := ⟨RX7, "payRing", "(II)V"⟩
abbrev cX7_pay : ByteArray := prog_9_method_23_code
def yX7_pay : MethodName := ⟨RX7, "pay", "()V"⟩
abbrev cX7_rungAt : ByteArray := prog_9_method_24_code
def yX7_rungAt : MethodName := ⟨RX7, "rungAt", "(I)I"⟩
abbrev cX7_of : ByteArray := prog_9_method_25_code
def yX7_of : MethodName := ⟨RX7, "of", "(II)I"⟩
abbrev cX7_feed : ByteArray := prog_9_method_26_code
def yX7_feed : MethodName := ⟨RX7, "feed", "(I)I"⟩
abbrev cX7_here : ByteArray := prog_9_method_27_code
def yX7_here : MethodName := ⟨RX7, "here", "()I"⟩
abbrev cX7_number : ByteArray := prog_9_method_28_code
def yX7_number : MethodName := ⟨RX7, "number", "(I)I"⟩
abbrev cX7_comma : ByteArray := prog_9_method_29_code
def yX7_comma : MethodName := ⟨RX7, "comma", "()V"⟩
abbrev cX7_clause : ByteArray := prog_9_method_30_code
def yX7_clause : MethodName := ⟨RX7, "clause", "()V"⟩
abbrev cX7_isDone : ByteArray := prog_9_method_31_code
def yX7_isDone : MethodName := ⟨RX7, "isDone", "(I)Z"⟩
abbrev cX7_read : ByteArray := prog_9_method_32_code
def yX7_read : MethodName := ⟨RX7, "read", "()I"⟩
abbrev cX7_ring : ByteArray := prog_9_method_33_code
def yX7_ring : MethodName := ⟨RX7, "ring", "(II)I"⟩
abbrev cX7_pays : ByteArray := prog_9_method_34_code
def yX7_pays : MethodName := ⟨RX7, "pays", "(I)I"⟩
abbrev cX7_payers : ByteArray := prog_9_method_35_code
def yX7_payers : MethodName := ⟨RX7, "payers", "()I"⟩
abbrev cX7_severals : ByteArray := prog_9_method_36_code
def yX7_severals : MethodName := ⟨RX7, "severals", "()I"⟩
abbrev cX7_greatestRung : ByteArray := prog_9_method_37_code
def yX7_greatestRung : MethodName := ⟨RX7, "greatestRung", "()I"⟩
abbrev cX7_references : ByteArray := prog_9_method_38_code
def yX7_references : MethodName := ⟨RX7, "references", "()I"⟩
abbrev cX7_told : ByteArray := prog_9_method_39_code
def yX7_told : MethodName := ⟨RX7, "told", "(I)I"⟩
abbrev cX7_because : ByteArray := prog_9_method_40_code
def yX7_because : MethodName := ⟨RX7, "because", "(III)V"⟩
abbrev cX7_lastAhead : ByteArray := prog_9_method_41_code
def yX7_lastAhead : MethodName := ⟨RX7, "lastAhead", "(I)I"⟩
abbrev cX7_tellsWhy : ByteArray := prog_9_method_42_code
def yX7_tellsWhy : MethodName := ⟨RX7, "tellsWhy", "(I)V"⟩
abbrev cX7_why : ByteArray := prog_9_method_43_code
def yX7_why : MethodName := ⟨RX7, "why", "(II)I"⟩
abbrev cX7_net : ByteArray := prog_9_method_44_code
def yX7_net : MethodName := ⟨RX7, "net", "(II)I"⟩
abbrev cX7_paidBy : ByteArray := prog_9_method_45_code
def yX7_paidBy : MethodName := ⟨RX7, "paidBy", "(II)I"⟩
abbrev cX7_more : ByteArray := prog_9_method_46_code
def yX7_more : MethodName := ⟨RX7, "more", "(I)J"⟩
abbrev cX7_from : ByteArray := prog_9_method_47_code
def yX7_from : MethodName := ⟨RX7, "from", "(I)I"⟩
abbrev cX7_see : ByteArray := prog_9_method_48_code
def yX7_see : MethodName := ⟨RX7, "see", "(II)I"⟩
abbrev cX7_fitsBy : ByteArray := prog_9_method_49_code
def yX7_fitsBy : MethodName := ⟨RX7, "fitsBy", "(I)Z"⟩
abbrev cX7_fits : ByteArray := prog_9_method_50_code
def yX7_fits : MethodName := ⟨RX7, "fits", "(I)I"⟩
abbrev cX7_lowest : ByteArray := prog_9_method_51_code
def yX7_lowest : MethodName := ⟨RX7, "lowest", "(JJI)J"⟩
abbrev cX7_odds : ByteArray := prog_9_method_52_code
def yX7_odds : MethodName := ⟨RX7, "odds", "(II)J"⟩
abbrev cX7_mean : ByteArray := prog_9_method_53_code
def yX7_mean : MethodName := ⟨RX7, "mean", "(I)J"⟩
abbrev cX7_plan : ByteArray := prog_9_method_54_code
def yX7_plan : MethodName := ⟨RX7, "plan", "(II)I"⟩
abbrev cX7_goes : ByteArray := prog_9_method_55_code
def yX7_goes : MethodName := ⟨RX7, "goes", "(II)V"⟩
abbrev cX7_ends : ByteArray := prog_9_method_56_code
def yX7_ends : MethodName := ⟨RX7, "ends", "(I)I"⟩
abbrev cX7_book : ByteArray := prog_9_method_57_code
def yX7_book : MethodName := ⟨RX7, "book", "(II)I"⟩
abbrev cX7_looked : ByteArray := prog_9_method_58_code
def yX7_looked : MethodName := ⟨RX7, "looked", "()I"⟩
abbrev cX7_judge : ByteArray := prog_9_method_59_code
def yX7_judge : MethodName := ⟨RX7, "judge", "(II)I"⟩
abbrev cX7_image : ByteArray := prog_9_method_60_code
def yX7_image : MethodName := ⟨RX7, "image", "()I"⟩
abbrev cX7_undo : ByteArray := prog_9_method_61_code
def yX7_undo : MethodName := ⟨RX7, "undo", "()I"⟩
abbrev cX7_count : ByteArray := prog_9_method_62_code
def yX7_count : MethodName := ⟨RX7, "count", "(I)I"⟩
abbrev cX7_isTape : ByteArray := prog_9_method_63_code
def yX7_isTape : MethodName := ⟨RX7, "isTape", "(I)Z"⟩
abbrev cX7_tape : ByteArray := prog_9_method_64_code
def yX7_tape : MethodName := ⟨RX7, "tape", "(III)I"⟩
abbrev cX7_item : ByteArray := prog_9_method_65_code
def yX7_item : MethodName := ⟨RX7, "item", "(IIJ)I"⟩
abbrev cX7_peek : ByteArray := prog_9_method_66_code
def yX7_peek : MethodName := ⟨RX7, "peek", "(II)J"⟩
abbrev cX7_shift : ByteArray := prog_9_method_67_code
def yX7_shift : MethodName := ⟨RX7, "shift", "(IIIII)I"⟩
def RJ6 : String := "java/lang/Integer"
def TJ6 : u_T := fun k => match k with
  | _ => ("", "", "", false)
def tyJ6 : Nat → FieldType := fun k => match k with
  | _ => .int
abbrev wsJ60 : List Cond := u_ws RJ6 TJ6 0
theorem nmJ6 : ∀ a, a < 0 → ∀ b, b < 0 → a ≠ b → (TJ6 a).2.1 ≠ (TJ6 b).2.1 := by decide +kernel
theorem tyJ6_ok : ∀ k, k < 0 → parseFieldDescriptor (TJ6 k).2.2.1 = some (tyJ6 k) := by decide +kernel
abbrev cJ6_bitCount_0f7a4 : ByteArray := prog_10_method_49_code
def yJ6_bitCount_0f7a4 : MethodName := ⟨RJ6, "bitCount", "(I)I"⟩
def RJ9 : String := "java/lang/Math"
def TJ9 : u_T := fun k => match k with
  | _ => ("", "", "", false)
def tyJ9 : Nat → FieldType := fun k => match k with
  | _ => .int
abbrev wsJ90 : List Cond := u_ws RJ9 TJ9 0
theorem nmJ9 : ∀ a, a < 0 → ∀ b, b < 0 → a ≠ b → (TJ9 a).2.1 ≠ (TJ9 b).2.1 := by decide +kernel
theorem tyJ9_ok : ∀ k, k < 0 → parseFieldDescriptor (TJ9 k).2.2.1 = some (tyJ9 k) := by decide +kernel
abbrev cJ9_max_7cf53 : ByteArray := prog_11_method_65_code
def yJ9_max_7cf53 : MethodName := ⟨RJ9, "max", "(II)I"⟩
abbrev cJ9_min_7cf53 : ByteArray := prog_11_method_69_code
def yJ9_min_7cf53 : MethodName := ⟨RJ9, "min", "(II)I"⟩
def RJ10 : String := "java/lang/System"
def TJ10 : u_T := fun k => match k with
  | _ => ("", "", "", false)
def tyJ10 : Nat → FieldType := fun k => match k with
  | _ => .int
abbrev wsJ100 : List Cond := u_ws RJ10 TJ10 0
theorem nmJ10 : ∀ a, a < 0 → ∀ b, b < 0 → a ≠ b → (TJ10 a).2.1 ≠ (TJ10 b).2.1 := by decide +kernel
theorem tyJ10_ok : ∀ k, k < 0 → parseFieldDescriptor (TJ10 k).2.2.1 = some (tyJ10 k) := by decide +kernel
def RL : String := "ClaimLadderLaw"
abbrev cL_law : ByteArray := code
def yL_law : MethodName := ⟨RL, "law", "([I)Z"⟩
def wsL_law_r1 : List Cond := [Cond.classLink RL 7 RX6, Cond.instantiable RX6 8, Cond.initialized RX6, Cond.classLink RL 10 RX7, Cond.instantiable RX7 29, Cond.initialized RX7, Cond.constantLong RL 128 (4294967295), Cond.methodLink RL 9 yX6_init, Cond.instanceMethod yX6_init, Cond.code yX6_init cX6_init 2 none, Cond.methodLink RX6 3 objectInit, Cond.instanceMethod objectInit, Cond.code objectInit ⟨#[0xb1]⟩ 1 none, Cond.classLink RX6 9 RX5, Cond.instantiable RX5 4, Cond.initialized RX5, Cond.fieldLink RX6 12 "ClaimLadder" "now" "LClaimLadder$Told;", Cond.fieldLink RX6 18 "ClaimLadder" "taken" "LClaimLadder$Told;", Cond.fieldLink RX6 21 "ClaimLadder" "isTaken" "Z", Cond.classLink RX6 25 RX0, Cond.instantiable RX0 16, Cond.initialized RX0, Cond.fieldLink RX6 27 "ClaimLadder$Told" "setup" "LClaimLadder$Setup;", Cond.fieldLink RX6 34 "ClaimLadder" "ladder" "LClaimLadder$Ladder;"]
def wsL_law_r2 : List Cond := [Cond.classLink RX6 38 RX3, Cond.instantiable RX3 7, Cond.initialized RX3, Cond.fieldLink RX6 41 "ClaimLadder" "trial" "LClaimLadder$Setup;", Cond.fieldLink RX6 44 "ClaimLadder" "trialLadder" "LClaimLadder$Ladder;", Cond.classLink RX6 47 RX2, Cond.instantiable RX2 6, Cond.initialized RX2, Cond.fieldLink RX6 50 "ClaimLadder" "script" "LClaimLadder$Script;", Cond.classLink RX6 54 RX4, Cond.fieldLink RX6 56 "ClaimLadder" "tapes" "[LClaimLadder$Tape;", Cond.instantiable RX4 3, Cond.initialized RX4, Cond.methodLink RX6 11 yX5_init, Cond.instanceMethod yX5_init, Cond.code yX5_init cX5_init 1 none, Cond.methodLink RX5 3 objectInit, Cond.classLink RX5 9 RX3, Cond.fieldLink RX5 12 "ClaimLadder$Told" "setup" "LClaimLadder$Setup;", Cond.classLink RX5 18 RX1, Cond.instantiable RX1 4, Cond.initialized RX1, Cond.fieldLink RX5 23 "ClaimLadder$Told" "seen" "LClaimLadder$Rows;", Cond.fieldLink RX5 27 "ClaimLadder$Told" "steps" "LClaimLadder$Rows;"]
def wsL_law_r3 : List Cond := [Cond.fieldLink RX5 30 "ClaimLadder$Told" "entries" "LClaimLadder$Rows;", Cond.methodLink RX5 11 yX3_init, Cond.instanceMethod yX3_init, Cond.code yX3_init cX3_init 1 none, Cond.methodLink RX3 3 objectInit, Cond.arrayClass .int, Cond.fieldLink RX3 9 "ClaimLadder$Setup" "kind" "[I", Cond.fieldLink RX3 15 "ClaimLadder$Setup" "limit" "[I", Cond.fieldLink RX3 18 "ClaimLadder$Setup" "retention" "[I", Cond.fieldLink RX3 21 "ClaimLadder$Setup" "quota" "[I", Cond.fieldLink RX3 24 "ClaimLadder$Setup" "refers" "[I", Cond.methodLink RX5 20 yX1_init, Cond.instanceMethod yX1_init, Cond.code yX1_init cX1_init 2 none, Cond.methodLink RX1 3 objectInit, Cond.methodLink RX1 9 Lib.Math.min.name, Cond.static Lib.Math.min.name, Cond.initialized "java/lang/Math", Cond.code Lib.Math.min.name Lib.Math.min.code 2 (some .int), Cond.fieldLink RX1 15 "ClaimLadder$Rows" "most" "I", Cond.fieldLink RX1 21 "ClaimLadder$Rows" "first" "[I", Cond.fieldLink RX1 25 "ClaimLadder$Rows" "second" "[I", Cond.methodLink RX6 31 yX0_init, Cond.instanceMethod yX0_init]
def wsL_law_r4 : List Cond := [Cond.code yX0_init cX0_init 2 none, Cond.methodLink RX0 3 objectInit, Cond.fieldLink RX0 9 "ClaimLadder$Ladder" "setup" "LClaimLadder$Setup;", Cond.fieldLink RX0 15 "ClaimLadder$Ladder" "reach" "[I", Cond.fieldLink RX0 19 "ClaimLadder$Ladder" "ringWith" "[I", Cond.fieldLink RX0 22 "ClaimLadder$Ladder" "rungOf" "[I", Cond.fieldLink RX0 25 "ClaimLadder$Ladder" "ringOf" "[I", Cond.fieldLink RX0 28 "ClaimLadder$Ladder" "most" "[I", Cond.fieldLink RX0 31 "ClaimLadder$Ladder" "paid" "[I", Cond.fieldLink RX0 34 "ClaimLadder$Ladder" "back" "[I", Cond.fieldLink RX0 37 "ClaimLadder$Ladder" "ringFirst" "[I", Cond.fieldLink RX0 40 "ClaimLadder$Ladder" "ringBits" "[I", Cond.fieldLink RX0 43 "ClaimLadder$Ladder" "ringRung" "[I", Cond.fieldLink RX0 46 "ClaimLadder$Ladder" "ringLeft" "[I", Cond.fieldLink RX0 49 "ClaimLadder$Ladder" "ringPaid" "[I", Cond.methodLink RX6 40 yX3_init, Cond.methodLink RX6 49 yX2_init, Cond.instanceMethod yX2_init, Cond.code yX2_init cX2_init 1 none, Cond.methodLink RX2 3 objectInit, Cond.arrayClass .byte, Cond.fieldLink RX2 9 "ClaimLadder$Script" "signs" "[B", Cond.fieldLink RX2 15 "ClaimLadder$Script" "letters" "[I", Cond.fieldLink RX2 19 "ClaimLadder$Script" "numbers" "[I"]
def wsL_law_r5 : List Cond := [Cond.methodLink RX6 60 yX4_init, Cond.instanceMethod yX4_init, Cond.code yX4_init cX4_init 1 none, Cond.methodLink RX4 3 objectInit, Cond.arrayClass .long, Cond.fieldLink RX4 9 "ClaimLadder$Tape" "items" "[J", Cond.fieldLink RX4 15 "ClaimLadder$Tape" "sort" "I", Cond.methodLink RL 12 yX7_init, Cond.instanceMethod yX7_init, Cond.code yX7_init cX7_init 1 none, Cond.methodLink RX7 9 objectInit, Cond.fieldLink RX7 15 "ClaimLadderModel" "s" "[I", Cond.fieldLink RX7 19 "ClaimLadderModel" "kept" "[I", Cond.fieldLink RX7 22 "ClaimLadderModel" "aside" "[I", Cond.fieldLink RX7 25 "ClaimLadderModel" "reaches" "[I", Cond.fieldLink RX7 28 "ClaimLadderModel" "ringOf" "[I", Cond.fieldLink RX7 31 "ClaimLadderModel" "rungOf" "[I", Cond.fieldLink RX7 34 "ClaimLadderModel" "rings" "[I", Cond.fieldLink RX7 37 "ClaimLadderModel" "paid" "[I", Cond.fieldLink RX7 40 "ClaimLadderModel" "leftOf" "[I", Cond.fieldLink RX7 43 "ClaimLadderModel" "ringPaid" "[I", Cond.fieldLink RX7 46 "ClaimLadderModel" "mosts" "[I", Cond.fieldLink RX7 49 "ClaimLadderModel" "text" "[I", Cond.fieldLink RX7 52 "ClaimLadderModel" "letters" "[I"]
def wsL_law_r6 : List Cond := [Cond.fieldLink RX7 55 "ClaimLadderModel" "one" "[I", Cond.fieldLink RX7 58 "ClaimLadderModel" "two" "[I", Cond.fieldLink RX7 61 "ClaimLadderModel" "three" "[I", Cond.fieldLink RX7 64 "ClaimLadderModel" "whys" "[I", Cond.fieldLink RX7 67 "ClaimLadderModel" "backs" "[I", Cond.fieldLink RX7 70 "ClaimLadderModel" "sorts" "[I", Cond.fieldLink RX7 73 "ClaimLadderModel" "sizes" "[I", Cond.fieldLink RX7 76 "ClaimLadderModel" "items" "[J", Cond.methodLink RL 13 yX6_contract, Cond.instanceMethod yX6_contract, Cond.selects RX6 yX6_contract yX6_contract, Cond.code yX6_contract cX6_contract 4 (some .int), Cond.methodLink RX6 61 yX3_addContract, Cond.instanceMethod yX3_addContract, Cond.selects RX3 yX3_addContract yX3_addContract, Cond.code yX3_addContract cX3_addContract 4 (some .int), Cond.fieldLink RX3 27 "ClaimLadder$Setup" "size" "I", Cond.methodLink RX3 31 yX3_isTerm, Cond.static yX3_isTerm, Cond.code yX3_isTerm cX3_isTerm 2 (some .boolean), Cond.methodLink RL 17 yX7_contract, Cond.instanceMethod yX7_contract, Cond.selects RX7 yX7_contract yX7_contract, Cond.code yX7_contract cX7_contract 5 (some .int)]
def wsL_law_r7 : List Cond := [Cond.constantLong RX7 84 (3), Cond.constantLong RX7 86 (99), Cond.constantLong RX7 88 (20), Cond.methodLink RX7 80 yX7_in, Cond.static yX7_in, Cond.code yX7_in cX7_in 6 (some .boolean), Cond.methodLink RL 18 yX6_renew, Cond.instanceMethod yX6_renew, Cond.selects RX6 yX6_renew yX6_renew, Cond.code yX6_renew cX6_renew 4 (some .int), Cond.methodLink RX6 65 yX3_change, Cond.instanceMethod yX3_change, Cond.selects RX3 yX3_change yX3_change, Cond.code yX3_change cX3_change 5 (some .int), Cond.methodLink RX3 39 yX3_term, Cond.instanceMethod yX3_term, Cond.selects RX3 yX3_term yX3_term, Cond.code yX3_term cX3_term 3 (some .int), Cond.methodLink RX3 35 yX3_isContract, Cond.instanceMethod yX3_isContract, Cond.selects RX3 yX3_isContract yX3_isContract, Cond.code yX3_isContract cX3_isContract 2 (some .boolean), Cond.methodLink RL 21 yX7_renew, Cond.instanceMethod yX7_renew]
def wsL_law_r8 : List Cond := [Cond.selects RX7 yX7_renew yX7_renew, Cond.code yX7_renew cX7_renew 6 (some .int), Cond.methodLink RX7 92 yX7_isOne, Cond.instanceMethod yX7_isOne, Cond.selects RX7 yX7_isOne yX7_isOne, Cond.code yX7_isOne cX7_isOne 2 (some .boolean), Cond.methodLink RX7 96 yX7_may, Cond.static yX7_may, Cond.code yX7_may cX7_may 2 (some .boolean), Cond.constantLong RX7 90 (100), Cond.methodLink RL 22 yX6_refer, Cond.instanceMethod yX6_refer, Cond.selects RX6 yX6_refer yX6_refer, Cond.code yX6_refer cX6_refer 4 (some .int), Cond.methodLink RX6 68 yX3_link, Cond.instanceMethod yX3_link, Cond.selects RX3 yX3_link yX3_link, Cond.code yX3_link cX3_link 5 (some .int), Cond.static yX6_has, Cond.code yX6_has cX6_has 2 (some .boolean), Cond.methodLink RL 26 yX7_refer, Cond.instanceMethod yX7_refer, Cond.selects RX7 yX7_refer yX7_refer, Cond.code yX7_refer cX7_refer 5 (some .int)]
def wsL_law_r9 : List Cond := [Cond.methodLink RL 27 yX6_loss, Cond.instanceMethod yX6_loss, Cond.selects RX6 yX6_loss yX6_loss, Cond.code yX6_loss cX6_loss 2 (some .int), Cond.methodLink RX6 72 yX3_changeLoss, Cond.instanceMethod yX3_changeLoss, Cond.selects RX3 yX3_changeLoss yX3_changeLoss, Cond.code yX3_changeLoss cX3_changeLoss 3 (some .int), Cond.fieldLink RX3 46 "ClaimLadder$Setup" "lossNow" "I", Cond.methodLink RL 31 yX7_loss, Cond.instanceMethod yX7_loss, Cond.selects RX7 yX7_loss yX7_loss, Cond.code yX7_loss cX7_loss 3 (some .int), Cond.constantLong RX7 100 (300), Cond.methodLink RL 32 yX6_of, Cond.instanceMethod yX6_of, Cond.selects RX6 yX6_of yX6_of, Cond.code yX6_of cX6_of 3 (some .int), Cond.fieldLink RX6 87 "ClaimLadder$Setup" "refers" "[I", Cond.fieldLink RX6 91 "ClaimLadder$Ladder" "reach" "[I", Cond.fieldLink RX6 94 "ClaimLadder$Ladder" "ringBits" "[I", Cond.fieldLink RX6 97 "ClaimLadder$Ladder" "ringOf" "[I", Cond.fieldLink RX6 100 "ClaimLadder$Ladder" "ringRung" "[I", Cond.fieldLink RX6 103 "ClaimLadder$Ladder" "ringLeft" "[I"]
def wsL_law_r10 : List Cond := [Cond.fieldLink RX6 106 "ClaimLadder$Ladder" "paid" "[I", Cond.methodLink RX6 76 yX3_isContract, Cond.methodLink RX6 80 yX3_term, Cond.methodLink RX6 84 yX0_settle, Cond.instanceMethod yX0_settle, Cond.selects RX0 yX0_settle yX0_settle, Cond.code yX0_settle cX0_settle 1 none, Cond.fieldLink RX0 55 "ClaimLadder$Setup" "lossNow" "I", Cond.methodLink RX0 52 yX0_build, Cond.instanceMethod yX0_build, Cond.selects RX0 yX0_build yX0_build, Cond.code yX0_build cX0_build 1 none, Cond.methodLink RX0 65 yX0_findReach, Cond.instanceMethod yX0_findReach, Cond.selects RX0 yX0_findReach yX0_findReach, Cond.code yX0_findReach cX0_findReach 3 none, Cond.fieldLink RX0 77 "ClaimLadder$Setup" "size" "I", Cond.fieldLink RX0 80 "ClaimLadder$Setup" "refers" "[I", Cond.methodLink RX0 68 yX0_findRings, Cond.instanceMethod yX0_findRings, Cond.selects RX0 yX0_findRings yX0_findRings, Cond.code yX0_findRings cX0_findRings 4 none, Cond.methodLink RX0 71 yX0_findRungs, Cond.instanceMethod yX0_findRungs]
def wsL_law_r11 : List Cond := [Cond.selects RX0 yX0_findRungs yX0_findRungs, Cond.code yX0_findRungs cX0_findRungs 3 none, Cond.methodLink RX0 87 yX0_outside, Cond.instanceMethod yX0_outside, Cond.selects RX0 yX0_outside yX0_outside, Cond.code yX0_outside cX0_outside 4 (some .int), Cond.methodLink RX0 91 yX0_rungAbove, Cond.instanceMethod yX0_rungAbove, Cond.selects RX0 yX0_rungAbove yX0_rungAbove, Cond.code yX0_rungAbove cX0_rungAbove 4 (some .int), Cond.methodLink RX0 94 Lib.Math.max.name, Cond.static Lib.Math.max.name, Cond.code Lib.Math.max.name Lib.Math.max.code 2 (some .int), Cond.methodLink RX0 74 yX0_orderRings, Cond.instanceMethod yX0_orderRings, Cond.selects RX0 yX0_orderRings yX0_orderRings, Cond.code yX0_orderRings cX0_orderRings 4 none, Cond.fieldLink RX0 100 "ClaimLadder$Ladder" "rings" "I", Cond.methodLink RX0 61 yX0_payAt, Cond.instanceMethod yX0_payAt, Cond.selects RX0 yX0_payAt yX0_payAt, Cond.code yX0_payAt cX0_payAt 4 none, Cond.fieldLink RX0 113 "ClaimLadder$Ladder" "paidInAll" "I", Cond.fieldLink RX0 116 "ClaimLadder$Ladder" "over" "I"]
def wsL_law_r12 : List Cond := [Cond.methodLink RX0 103 yX0_isAlone, Cond.instanceMethod yX0_isAlone, Cond.selects RX0 yX0_isAlone yX0_isAlone, Cond.code yX0_isAlone cX0_isAlone 2 (some .boolean), Cond.methodLink RX0 107 yX0_payAlone, Cond.instanceMethod yX0_payAlone, Cond.selects RX0 yX0_payAlone yX0_payAlone, Cond.code yX0_payAlone cX0_payAlone 3 (some .int), Cond.methodLink RX0 119 yX0_isEscaped, Cond.instanceMethod yX0_isEscaped, Cond.selects RX0 yX0_isEscaped yX0_isEscaped, Cond.code yX0_isEscaped cX0_isEscaped 2 (some .boolean), Cond.fieldLink RX0 129 "ClaimLadder$Setup" "kind" "[I", Cond.methodLink RX0 132 yX0_firstPayer, Cond.instanceMethod yX0_firstPayer, Cond.selects RX0 yX0_firstPayer yX0_firstPayer, Cond.code yX0_firstPayer cX0_firstPayer 3 (some .int), Cond.methodLink RX0 122 yX0_mostOf, Cond.instanceMethod yX0_mostOf, Cond.selects RX0 yX0_mostOf yX0_mostOf, Cond.code yX0_mostOf cX0_mostOf 5 (some .int), Cond.fieldLink RX0 141 "ClaimLadder$Setup" "retention" "[I", Cond.fieldLink RX0 144 "ClaimLadder$Setup" "limit" "[I", Cond.methodLink RX0 147 Lib.Math.min.name]
def wsL_law_r13 : List Cond := [Cond.methodLink RX0 138 yX0_shareOf, Cond.instanceMethod yX0_shareOf, Cond.selects RX0 yX0_shareOf yX0_shareOf, Cond.code yX0_shareOf cX0_shareOf 3 (some .int), Cond.fieldLink RX0 135 "ClaimLadder$Setup" "quota" "[I", Cond.methodLink RX0 110 yX0_payByTurns, Cond.instanceMethod yX0_payByTurns, Cond.selects RX0 yX0_payByTurns yX0_payByTurns, Cond.code yX0_payByTurns cX0_payByTurns 4 (some .int), Cond.methodLink RX0 125 yX0_deal, Cond.instanceMethod yX0_deal, Cond.selects RX0 yX0_deal yX0_deal, Cond.code yX0_deal cX0_deal 13 (some .int), Cond.methodLink RX0 150 yX0_openOnes, Cond.instanceMethod yX0_openOnes, Cond.selects RX0 yX0_openOnes yX0_openOnes, Cond.code yX0_openOnes cX0_openOnes 6 (some .int), Cond.methodLink RX0 154 yJ6_bitCount_0f7a4, Cond.static yJ6_bitCount_0f7a4, Cond.initialized RJ6, Cond.code yJ6_bitCount_0f7a4 cJ6_bitCount_0f7a4 1 (some .int), Cond.constant RJ6 265 (1431655765), Cond.constant RJ6 266 (858993459), Cond.constant RJ6 267 (252645135)]
def wsL_law_r14 : List Cond := [Cond.methodLink RX0 159 yX0_leastRoom, Cond.instanceMethod yX0_leastRoom, Cond.selects RX0 yX0_leastRoom yX0_leastRoom, Cond.code yX0_leastRoom cX0_leastRoom 6 (some .int), Cond.constant RX0 162 (2147483647), Cond.methodLink RL 36 yX7_of, Cond.instanceMethod yX7_of, Cond.selects RX7 yX7_of yX7_of, Cond.code yX7_of cX7_of 3 (some .int), Cond.methodLink RX7 148 yX7_pay, Cond.instanceMethod yX7_pay, Cond.selects RX7 yX7_pay yX7_pay, Cond.code yX7_pay cX7_pay 3 none, Cond.fieldLink RX7 142 "ClaimLadderModel" "paidAll" "I", Cond.fieldLink RX7 115 "ClaimLadderModel" "ringMany" "I", Cond.methodLink RX7 139 yX7_ladder, Cond.instanceMethod yX7_ladder, Cond.selects RX7 yX7_ladder yX7_ladder, Cond.code yX7_ladder cX7_ladder 4 none, Cond.methodLink RX7 109 yX7_reach, Cond.instanceMethod yX7_reach, Cond.selects RX7 yX7_reach yX7_reach, Cond.code yX7_reach cX7_reach 4 none, Cond.methodLink RX7 102 yX7_has]
def wsL_law_r15 : List Cond := [Cond.static yX7_has, Cond.code yX7_has cX7_has 2 (some .boolean), Cond.methodLink RX7 112 yX7_climb, Cond.instanceMethod yX7_climb, Cond.selects RX7 yX7_climb yX7_climb, Cond.code yX7_climb cX7_climb 4 none, Cond.methodLink RX7 105 yX7_rise, Cond.instanceMethod yX7_rise, Cond.selects RX7 yX7_rise yX7_rise, Cond.code yX7_rise cX7_rise 4 none, Cond.methodLink RX7 145 yX7_payRing, Cond.instanceMethod yX7_payRing, Cond.selects RX7 yX7_payRing yX7_payRing, Cond.code yX7_payRing cX7_payRing 8 none, Cond.methodLink RX7 132 yX7_bits, Cond.static yX7_bits, Cond.code yX7_bits cX7_bits 3 (some .int), Cond.methodLink RX7 135 yX7_most, Cond.instanceMethod yX7_most, Cond.selects RX7 yX7_most yX7_most, Cond.code yX7_most cX7_most 5 (some .int), Cond.methodLink RX7 122 yX7_stead, Cond.instanceMethod yX7_stead, Cond.selects RX7 yX7_stead yX7_stead]
def wsL_law_r16 : List Cond := [Cond.code yX7_stead cX7_stead 3 (some .int), Cond.methodLink RX7 125 yX7_plain, Cond.instanceMethod yX7_plain, Cond.selects RX7 yX7_plain yX7_plain, Cond.code yX7_plain cX7_plain 4 (some .int), Cond.methodLink RX7 118 yX7_least, Cond.instanceMethod yX7_least, Cond.selects RX7 yX7_least yX7_least, Cond.code yX7_least cX7_least 3 (some .int), Cond.methodLink RX7 128 yX7_payer, Cond.instanceMethod yX7_payer, Cond.selects RX7 yX7_payer yX7_payer, Cond.code yX7_payer cX7_payer 3 (some .int), Cond.methodLink RX7 151 yX7_rungAt, Cond.instanceMethod yX7_rungAt, Cond.selects RX7 yX7_rungAt yX7_rungAt, Cond.code yX7_rungAt cX7_rungAt 3 (some .int), Cond.methodLink RL 37 yX6_feed, Cond.instanceMethod yX6_feed, Cond.selects RX6 yX6_feed yX6_feed, Cond.code yX6_feed cX6_feed 2 (some .int), Cond.methodLink RX6 109 yX2_append, Cond.instanceMethod yX2_append, Cond.selects RX2 yX2_append yX2_append]
def wsL_law_r17 : List Cond := [Cond.code yX2_append cX2_append 2 (some .int), Cond.fieldLink RX2 22 "ClaimLadder$Script" "length" "I", Cond.methodLink RL 40 yX7_feed, Cond.instanceMethod yX7_feed, Cond.selects RX7 yX7_feed yX7_feed, Cond.code yX7_feed cX7_feed 2 (some .int), Cond.constantLong RX7 154 (127), Cond.fieldLink RX7 156 "ClaimLadderModel" "signs" "I", Cond.methodLink RL 41 yX6_read, Cond.instanceMethod yX6_read, Cond.selects RX6 yX6_read yX6_read, Cond.code yX6_read cX6_read 4 (some .int), Cond.fieldLink RX6 119 "ClaimLadder$Script" "clauses" "I", Cond.methodLink RX6 112 yX2_parse, Cond.instanceMethod yX2_parse, Cond.selects RX2 yX2_parse yX2_parse, Cond.code yX2_parse cX2_parse 2 (some .int), Cond.fieldLink RX2 26 "ClaimLadder$Script" "at" "I", Cond.fieldLink RX2 29 "ClaimLadder$Script" "clauses" "I", Cond.methodLink RX2 32 yX2_takeClause, Cond.instanceMethod yX2_takeClause, Cond.selects RX2 yX2_takeClause yX2_takeClause, Cond.code yX2_takeClause cX2_takeClause 4 (some .boolean), Cond.methodLink RX2 39 yX2_takeNumber]
def wsL_law_r18 : List Cond := [Cond.instanceMethod yX2_takeNumber, Cond.selects RX2 yX2_takeNumber yX2_takeNumber, Cond.code yX2_takeNumber cX2_takeNumber 6 (some .boolean), Cond.methodLink RX2 36 yX2_takeSign, Cond.instanceMethod yX2_takeSign, Cond.selects RX2 yX2_takeSign yX2_takeSign, Cond.code yX2_takeSign cX2_takeSign 2 (some .boolean), Cond.methodLink RX6 116 yX2_clear, Cond.instanceMethod yX2_clear, Cond.selects RX2 yX2_clear yX2_clear, Cond.code yX2_clear cX2_clear 1 none, Cond.methodLink RX6 123 yX2_perform, Cond.instanceMethod yX2_perform, Cond.selects RX2 yX2_perform yX2_perform, Cond.code yX2_perform cX2_perform 6 (some .int), Cond.methodLink RX2 43 yX3_addContract, Cond.methodLink RX2 49 yX3_link, Cond.methodLink RX2 53 yX3_change, Cond.methodLink RX2 56 yX3_changeLoss, Cond.methodLink RL 45 yX7_read, Cond.instanceMethod yX7_read, Cond.selects RX7 yX7_read yX7_read, Cond.code yX7_read cX7_read 3 (some .int), Cond.fieldLink RX7 159 "ClaimLadderModel" "at" "I"]
def wsL_law_r19 : List Cond := [Cond.fieldLink RX7 162 "ClaimLadderModel" "isWrong" "Z", Cond.fieldLink RX7 174 "ClaimLadderModel" "clauses" "I", Cond.methodLink RX7 196 yX7_clause, Cond.instanceMethod yX7_clause, Cond.selects RX7 yX7_clause yX7_clause, Cond.code yX7_clause cX7_clause 2 none, Cond.methodLink RX7 166 yX7_here, Cond.instanceMethod yX7_here, Cond.selects RX7 yX7_here yX7_here, Cond.code yX7_here cX7_here 1 (some .int), Cond.methodLink RX7 177 yX7_number, Cond.instanceMethod yX7_number, Cond.selects RX7 yX7_number yX7_number, Cond.code yX7_number cX7_number 4 (some .int), Cond.constantLong RX7 170 (48), Cond.constantLong RX7 172 (57), Cond.methodLink RX7 180 yX7_comma, Cond.instanceMethod yX7_comma, Cond.selects RX7 yX7_comma yX7_comma, Cond.code yX7_comma cX7_comma 1 none, Cond.methodLink RX7 199 yX7_isDone, Cond.instanceMethod yX7_isDone, Cond.selects RX7 yX7_isDone yX7_isDone, Cond.code yX7_isDone cX7_isDone 2 (some .boolean)]
def wsL_law_r20 : List Cond := [Cond.methodLink RX7 183 yX7_contract, Cond.methodLink RX7 187 yX7_refer, Cond.methodLink RX7 190 yX7_renew, Cond.methodLink RX7 193 yX7_loss, Cond.methodLink RL 46 yX6_ring, Cond.instanceMethod yX6_ring, Cond.selects RX6 yX6_ring yX6_ring, Cond.code yX6_ring cX6_ring 3 (some .int), Cond.fieldLink RX6 127 "ClaimLadder$Ladder" "rings" "I", Cond.fieldLink RX6 130 "ClaimLadder$Ladder" "ringPaid" "[I", Cond.methodLink RL 49 yX7_ring, Cond.instanceMethod yX7_ring, Cond.selects RX7 yX7_ring yX7_ring, Cond.code yX7_ring cX7_ring 4 (some .int), Cond.methodLink RL 50 yX6_pays, Cond.instanceMethod yX6_pays, Cond.selects RX6 yX6_pays yX6_pays, Cond.code yX6_pays cX6_pays 2 (some .int), Cond.methodLink RL 53 yX7_pays, Cond.instanceMethod yX7_pays, Cond.selects RX7 yX7_pays yX7_pays, Cond.code yX7_pays cX7_pays 2 (some .int), Cond.methodLink RX7 202 yX7_of, Cond.methodLink RL 54 yX6_told]
def wsL_law_r21 : List Cond := [Cond.instanceMethod yX6_told, Cond.selects RX6 yX6_told yX6_told, Cond.code yX6_told cX6_told 2 (some .int), Cond.fieldLink RX6 133 "ClaimLadder$Setup" "size" "I", Cond.fieldLink RX6 136 "ClaimLadder$Setup" "lossNow" "I", Cond.fieldLink RX6 139 "ClaimLadder$Ladder" "paidInAll" "I", Cond.fieldLink RX6 142 "ClaimLadder$Ladder" "over" "I", Cond.methodLink RX6 145 yX0_ringsOfSeveral, Cond.instanceMethod yX0_ringsOfSeveral, Cond.selects RX0 yX0_ringsOfSeveral yX0_ringsOfSeveral, Cond.code yX0_ringsOfSeveral cX0_ringsOfSeveral 3 (some .int), Cond.methodLink RX6 148 yX0_greatestRung, Cond.instanceMethod yX0_greatestRung, Cond.selects RX0 yX0_greatestRung yX0_greatestRung, Cond.code yX0_greatestRung cX0_greatestRung 1 (some .int), Cond.methodLink RX6 151 yX0_payers, Cond.instanceMethod yX0_payers, Cond.selects RX0 yX0_payers yX0_payers, Cond.code yX0_payers cX0_payers 3 (some .int), Cond.methodLink RX6 154 yX3_references, Cond.instanceMethod yX3_references, Cond.selects RX3 yX3_references yX3_references, Cond.code yX3_references cX3_references 3 (some .int), Cond.methodLink RX3 49 yJ6_bitCount_0f7a4]
def wsL_law_r22 : List Cond := [Cond.methodLink RL 57 yX7_told, Cond.instanceMethod yX7_told, Cond.selects RX7 yX7_told yX7_told, Cond.code yX7_told cX7_told 2 (some .int), Cond.methodLink RX7 205 yX7_severals, Cond.instanceMethod yX7_severals, Cond.selects RX7 yX7_severals yX7_severals, Cond.code yX7_severals cX7_severals 3 (some .int), Cond.methodLink RX7 208 yX7_greatestRung, Cond.instanceMethod yX7_greatestRung, Cond.selects RX7 yX7_greatestRung yX7_greatestRung, Cond.code yX7_greatestRung cX7_greatestRung 3 (some .int), Cond.methodLink RX7 211 yX7_payers, Cond.instanceMethod yX7_payers, Cond.selects RX7 yX7_payers yX7_payers, Cond.code yX7_payers cX7_payers 3 (some .int), Cond.methodLink RX7 214 yX7_references, Cond.instanceMethod yX7_references, Cond.selects RX7 yX7_references yX7_references, Cond.code yX7_references cX7_references 3 (some .int), Cond.methodLink RL 58 yX6_why, Cond.instanceMethod yX6_why, Cond.selects RX6 yX6_why yX6_why, Cond.code yX6_why cX6_why 4 (some .int)]
def wsL_law_r23 : List Cond := [Cond.methodLink RX6 157 yX0_reason, Cond.instanceMethod yX0_reason, Cond.selects RX0 yX0_reason yX0_reason, Cond.code yX0_reason cX0_reason 3 (some .int), Cond.methodLink RX6 160 yX0_cause, Cond.instanceMethod yX0_cause, Cond.selects RX0 yX0_cause yX0_cause, Cond.code yX0_cause cX0_cause 4 (some .int), Cond.methodLink RX0 175 yX0_lastPayerAhead, Cond.instanceMethod yX0_lastPayerAhead, Cond.selects RX0 yX0_lastPayerAhead yX0_lastPayerAhead, Cond.code yX0_lastPayerAhead cX0_lastPayerAhead 4 (some .int), Cond.methodLink RX6 163 yX0_causeBehind, Cond.instanceMethod yX0_causeBehind, Cond.selects RX0 yX0_causeBehind yX0_causeBehind, Cond.code yX0_causeBehind cX0_causeBehind 4 (some .int), Cond.methodLink RX0 178 yX0_cause, Cond.methodLink RX0 169 yX3_isContract, Cond.methodLink RL 61 yX7_why, Cond.instanceMethod yX7_why, Cond.selects RX7 yX7_why yX7_why, Cond.code yX7_why cX7_why 3 (some .int), Cond.methodLink RX7 224 yX7_tellsWhy, Cond.instanceMethod yX7_tellsWhy]
def wsL_law_r24 : List Cond := [Cond.selects RX7 yX7_tellsWhy yX7_tellsWhy, Cond.code yX7_tellsWhy cX7_tellsWhy 6 none, Cond.methodLink RX7 217 yX7_because, Cond.instanceMethod yX7_because, Cond.selects RX7 yX7_because yX7_because, Cond.code yX7_because cX7_because 4 none, Cond.methodLink RX7 221 yX7_lastAhead, Cond.instanceMethod yX7_lastAhead, Cond.selects RX7 yX7_lastAhead yX7_lastAhead, Cond.code yX7_lastAhead cX7_lastAhead 5 (some .int), Cond.methodLink RL 62 yX6_net, Cond.instanceMethod yX6_net, Cond.selects RX6 yX6_net yX6_net, Cond.code yX6_net cX6_net 3 (some .int), Cond.fieldLink RX6 170 "ClaimLadder$Ladder" "back" "[I", Cond.methodLink RX6 166 yX0_giveBack, Cond.instanceMethod yX0_giveBack, Cond.selects RX0 yX0_giveBack yX0_giveBack, Cond.code yX0_giveBack cX0_giveBack 4 none, Cond.methodLink RL 65 yX7_net, Cond.instanceMethod yX7_net, Cond.selects RX7 yX7_net yX7_net, Cond.code yX7_net cX7_net 7 (some .int), Cond.constantLong RX7 228 (999)]
def wsL_law_r25 : List Cond := [Cond.methodLink RL 66 yX6_more, Cond.instanceMethod yX6_more, Cond.selects RX6 yX6_more yX6_more, Cond.code yX6_more cX6_more 4 (some .long), Cond.constantLong RX6 173 (-9223372036854775808), Cond.methodLink RX6 175 yX0_payAt, Cond.methodLink RL 70 yX7_more, Cond.instanceMethod yX7_more, Cond.selects RX7 yX7_more yX7_more, Cond.code yX7_more cX7_more 3 (some .long), Cond.constantLong RX7 230 (-9223372036854775808), Cond.methodLink RX7 232 yX7_paidBy, Cond.instanceMethod yX7_paidBy, Cond.selects RX7 yX7_paidBy yX7_paidBy, Cond.code yX7_paidBy cX7_paidBy 4 (some .int), Cond.methodLink RL 71 yX6_from, Cond.instanceMethod yX6_from, Cond.selects RX6 yX6_from yX6_from, Cond.code yX6_from cX6_from 3 (some .int), Cond.methodLink RX6 178 yX0_build, Cond.methodLink RL 74 yX7_from, Cond.instanceMethod yX7_from, Cond.selects RX7 yX7_from yX7_from, Cond.code yX7_from cX7_from 3 (some .int)]
def wsL_law_r26 : List Cond := [Cond.methodLink RL 75 yX6_see, Cond.instanceMethod yX6_see, Cond.selects RX6 yX6_see yX6_see, Cond.code yX6_see cX6_see 3 (some .int), Cond.fieldLink RX6 181 "ClaimLadder$Told" "seen" "LClaimLadder$Rows;", Cond.methodLink RX6 185 yX6_addAmount, Cond.instanceMethod yX6_addAmount, Cond.selects RX6 yX6_addAmount yX6_addAmount, Cond.code yX6_addAmount cX6_addAmount 4 (some .int), Cond.methodLink RX6 200 yX1_clear, Cond.instanceMethod yX1_clear, Cond.selects RX1 yX1_clear yX1_clear, Cond.code yX1_clear cX1_clear 1 (some .int), Cond.fieldLink RX1 28 "ClaimLadder$Rows" "size" "I", Cond.methodLink RX6 207 yX1_add, Cond.instanceMethod yX1_add, Cond.selects RX1 yX1_add yX1_add, Cond.code yX1_add cX1_add 3 (some .int), Cond.methodLink RL 78 yX7_see, Cond.instanceMethod yX7_see, Cond.selects RX7 yX7_see yX7_see, Cond.code yX7_see cX7_see 3 (some .int), Cond.methodLink RL 79 yX6_fits, Cond.instanceMethod yX6_fits]
def wsL_law_r27 : List Cond := [Cond.selects RX6 yX6_fits yX6_fits, Cond.code yX6_fits cX6_fits 5 (some .int), Cond.methodLink RX6 189 yX0_firstOtherwise, Cond.instanceMethod yX0_firstOtherwise, Cond.selects RX0 yX0_firstOtherwise yX0_firstOtherwise, Cond.code yX0_firstOtherwise cX0_firstOtherwise 4 (some .int), Cond.fieldLink RX0 163 "ClaimLadder$Rows" "size" "I", Cond.fieldLink RX0 166 "ClaimLadder$Rows" "first" "[I", Cond.fieldLink RX0 172 "ClaimLadder$Rows" "second" "[I", Cond.methodLink RL 82 yX7_fits, Cond.instanceMethod yX7_fits, Cond.selects RX7 yX7_fits yX7_fits, Cond.code yX7_fits cX7_fits 5 (some .int), Cond.methodLink RX7 235 yX7_fitsBy, Cond.instanceMethod yX7_fitsBy, Cond.selects RX7 yX7_fitsBy yX7_fitsBy, Cond.code yX7_fitsBy cX7_fitsBy 4 (some .boolean), Cond.methodLink RL 83 yX6_odds, Cond.instanceMethod yX6_odds, Cond.selects RX6 yX6_odds yX6_odds, Cond.code yX6_odds cX6_odds 6 (some .long), Cond.methodLink RX6 193 yX6_fractionPart, Cond.static yX6_fractionPart, Cond.code yX6_fractionPart cX6_fractionPart 5 (some .long)]
def wsL_law_r28 : List Cond := [Cond.methodLink RX6 268 yX6_commonDivisor, Cond.static yX6_commonDivisor, Cond.code yX6_commonDivisor cX6_commonDivisor 6 (some .int), Cond.methodLink RL 87 yX7_odds, Cond.instanceMethod yX7_odds, Cond.selects RX7 yX7_odds yX7_odds, Cond.code yX7_odds cX7_odds 5 (some .long), Cond.constantLong RX7 238 (10), Cond.methodLink RX7 240 yX7_lowest, Cond.static yX7_lowest, Cond.code yX7_lowest cX7_lowest 11 (some .long), Cond.methodLink RL 88 yX6_mean, Cond.instanceMethod yX6_mean, Cond.selects RX6 yX6_mean yX6_mean, Cond.code yX6_mean cX6_mean 2 (some .long), Cond.methodLink RL 91 yX7_mean, Cond.instanceMethod yX7_mean, Cond.selects RX7 yX7_mean yX7_mean, Cond.code yX7_mean cX7_mean 2 (some .long), Cond.methodLink RL 92 yX6_plan, Cond.instanceMethod yX6_plan, Cond.selects RX6 yX6_plan yX6_plan, Cond.code yX6_plan cX6_plan 4 (some .int), Cond.fieldLink RX6 197 "ClaimLadder$Told" "steps" "LClaimLadder$Rows;"]
def wsL_law_r29 : List Cond := [Cond.methodLink RX6 204 yX6_planRefusal, Cond.instanceMethod yX6_planRefusal, Cond.selects RX6 yX6_planRefusal yX6_planRefusal, Cond.code yX6_planRefusal cX6_planRefusal 3 (some .int), Cond.methodLink RL 95 yX7_plan, Cond.instanceMethod yX7_plan, Cond.selects RX7 yX7_plan yX7_plan, Cond.code yX7_plan cX7_plan 3 (some .int), Cond.constantLong RX7 244 (2), Cond.methodLink RL 96 yX6_ends, Cond.instanceMethod yX6_ends, Cond.selects RX6 yX6_ends yX6_ends, Cond.code yX6_ends cX6_ends 3 (some .int), Cond.fieldLink RX6 213 "ClaimLadder$Rows" "size" "I", Cond.fieldLink RX6 214 "ClaimLadder$Rows" "first" "[I", Cond.fieldLink RX6 217 "ClaimLadder$Rows" "second" "[I", Cond.methodLink RX6 210 yX3_copyFrom, Cond.instanceMethod yX3_copyFrom, Cond.selects RX3 yX3_copyFrom yX3_copyFrom, Cond.code yX3_copyFrom cX3_copyFrom 2 none, Cond.methodLink RX3 62 arraycopyName, Cond.native arraycopyName, Cond.static arraycopyName, Cond.initialized "java/lang/System"]
def wsL_law_r30 : List Cond := [Cond.methodLink RX6 220 yX3_undergo, Cond.instanceMethod yX3_undergo, Cond.selects RX3 yX3_undergo yX3_undergo, Cond.code yX3_undergo cX3_undergo 4 none, Cond.methodLink RX3 55 yX3_changeLoss, Cond.methodLink RX3 58 yX3_change, Cond.methodLink RL 99 yX7_ends, Cond.instanceMethod yX7_ends, Cond.selects RX7 yX7_ends yX7_ends, Cond.code yX7_ends cX7_ends 3 (some .int), Cond.methodLink RX7 246 yX7_copies, Cond.static yX7_copies, Cond.code yX7_copies cX7_copies 3 none, Cond.methodLink RX7 250 yX7_goes, Cond.instanceMethod yX7_goes, Cond.selects RX7 yX7_goes yX7_goes, Cond.code yX7_goes cX7_goes 4 none, Cond.methodLink RL 100 yX6_book, Cond.instanceMethod yX6_book, Cond.selects RX6 yX6_book yX6_book, Cond.code yX6_book cX6_book 3 (some .int), Cond.fieldLink RX6 224 "ClaimLadder$Told" "entries" "LClaimLadder$Rows;", Cond.methodLink RL 103 yX7_book, Cond.instanceMethod yX7_book]
def wsL_law_r31 : List Cond := [Cond.selects RX7 yX7_book yX7_book, Cond.code yX7_book cX7_book 3 (some .int), Cond.methodLink RL 104 yX6_looked, Cond.instanceMethod yX6_looked, Cond.selects RX6 yX6_looked yX6_looked, Cond.code yX6_looked cX6_looked 1 (some .int), Cond.methodLink RL 107 yX7_looked, Cond.instanceMethod yX7_looked, Cond.selects RX7 yX7_looked yX7_looked, Cond.code yX7_looked cX7_looked 2 (some .int), Cond.methodLink RL 108 yX6_judge, Cond.instanceMethod yX6_judge, Cond.selects RX6 yX6_judge yX6_judge, Cond.code yX6_judge cX6_judge 6 (some .int), Cond.fieldLink RX6 234 "ClaimLadder$Tape" "sort" "I", Cond.fieldLink RX6 237 "ClaimLadder$Tape" "length" "I", Cond.fieldLink RX6 240 "ClaimLadder$Tape" "items" "[J", Cond.methodLink RX6 227 yX6_isTape, Cond.static yX6_isTape, Cond.code yX6_isTape cX6_isTape 1 (some .boolean), Cond.methodLink RX6 230 yX4_holds, Cond.instanceMethod yX4_holds, Cond.selects RX4 yX4_holds yX4_holds, Cond.code yX4_holds cX4_holds 1 (some .boolean)]
def wsL_law_r32 : List Cond := [Cond.methodLink RL 111 yX7_judge, Cond.instanceMethod yX7_judge, Cond.selects RX7 yX7_judge yX7_judge, Cond.code yX7_judge cX7_judge 6 (some .int), Cond.methodLink RX7 253 yX7_isTape, Cond.static yX7_isTape, Cond.code yX7_isTape cX7_isTape 1 (some .boolean), Cond.constantLong RX7 259 (5), Cond.methodLink RL 112 yX6_image, Cond.instanceMethod yX6_image, Cond.selects RX6 yX6_image yX6_image, Cond.code yX6_image cX6_image 1 (some .int), Cond.methodLink RX6 244 yX5_copyFrom, Cond.instanceMethod yX5_copyFrom, Cond.selects RX5 yX5_copyFrom yX5_copyFrom, Cond.code yX5_copyFrom cX5_copyFrom 2 none, Cond.methodLink RX5 33 yX3_copyFrom, Cond.methodLink RX5 37 yX1_copyFrom, Cond.instanceMethod yX1_copyFrom, Cond.selects RX1 yX1_copyFrom yX1_copyFrom, Cond.code yX1_copyFrom cX1_copyFrom 2 none, Cond.methodLink RX1 31 arraycopyName, Cond.methodLink RL 115 yX7_image, Cond.instanceMethod yX7_image]
def wsL_law_r33 : List Cond := [Cond.selects RX7 yX7_image yX7_image, Cond.code yX7_image cX7_image 1 (some .int), Cond.fieldLink RX7 256 "ClaimLadderModel" "isKept" "Z", Cond.methodLink RL 116 yX6_undo, Cond.instanceMethod yX6_undo, Cond.selects RX6 yX6_undo yX6_undo, Cond.code yX6_undo cX6_undo 1 (some .int), Cond.methodLink RL 119 yX7_undo, Cond.instanceMethod yX7_undo, Cond.selects RX7 yX7_undo yX7_undo, Cond.code yX7_undo cX7_undo 1 (some .int), Cond.methodLink RL 120 yX6_count, Cond.instanceMethod yX6_count, Cond.selects RX6 yX6_count yX6_count, Cond.code yX6_count cX6_count 2 (some .int), Cond.fieldLink RX6 247 "ClaimLadder$Script" "length" "I", Cond.methodLink RL 123 yX7_count, Cond.instanceMethod yX7_count, Cond.selects RX7 yX7_count yX7_count, Cond.code yX7_count cX7_count 2 (some .int), Cond.methodLink RL 124 yX6_tape, Cond.instanceMethod yX6_tape, Cond.selects RX6 yX6_tape yX6_tape, Cond.code yX6_tape cX6_tape 4 (some .int)]
def wsL_law_r34 : List Cond := [Cond.methodLink RX6 248 yX4_become, Cond.instanceMethod yX4_become, Cond.selects RX4 yX4_become yX4_become, Cond.code yX4_become cX4_become 4 none, Cond.methodLink RX4 19 Lib.Math.min.name, Cond.methodLink RX4 25 Lib.Math.max.name, Cond.fieldLink RX4 28 "ClaimLadder$Tape" "length" "I", Cond.methodLink RL 127 yX7_tape, Cond.instanceMethod yX7_tape, Cond.selects RX7 yX7_tape yX7_tape, Cond.code yX7_tape cX7_tape 5 (some .int), Cond.constantLong RX7 261 (-1), Cond.constantLong RX7 263 (4), Cond.methodLink RL 130 yX6_item, Cond.instanceMethod yX6_item, Cond.selects RX6 yX6_item yX6_item, Cond.code yX6_item cX6_item 5 (some .int), Cond.methodLink RX6 251 yX4_hasPlace, Cond.instanceMethod yX4_hasPlace, Cond.selects RX4 yX4_hasPlace yX4_hasPlace, Cond.code yX4_hasPlace cX4_hasPlace 2 (some .boolean), Cond.methodLink RX6 254 yX6_narrowed, Cond.static yX6_narrowed, Cond.code yX6_narrowed cX6_narrowed 3 (some .long)]
def wsL_law_r35 : List Cond := [Cond.methodLink RL 134 yX7_item, Cond.instanceMethod yX7_item, Cond.selects RX7 yX7_item yX7_item, Cond.code yX7_item cX7_item 6 (some .int), Cond.methodLink RL 135 yX6_peek, Cond.instanceMethod yX6_peek, Cond.selects RX6 yX6_peek yX6_peek, Cond.code yX6_peek cX6_peek 3 (some .long), Cond.methodLink RL 138 yX7_peek, Cond.instanceMethod yX7_peek, Cond.selects RX7 yX7_peek yX7_peek, Cond.code yX7_peek cX7_peek 3 (some .long), Cond.methodLink RL 139 yX6_shift, Cond.instanceMethod yX6_shift, Cond.selects RX6 yX6_shift yX6_shift, Cond.code yX6_shift cX6_shift 8 (some .int), Cond.methodLink RX6 262 arraycopyName, Cond.methodLink RX6 258 yX4_hasStretch, Cond.instanceMethod yX4_hasStretch, Cond.selects RX4 yX4_hasStretch yX4_hasStretch, Cond.code yX4_hasStretch cX4_hasStretch 3 (some .boolean), Cond.methodLink RL 143 yX7_shift, Cond.instanceMethod yX7_shift, Cond.selects RX7 yX7_shift yX7_shift]
def wsL_law_r36 : List Cond := [Cond.code yX7_shift cX7_shift 9 (some .int)]
def wsL_law : List Cond := (wsL_law_r1 ++ (wsL_law_r2 ++ (wsL_law_r3 ++ (wsL_law_r4 ++ (wsL_law_r5 ++ (wsL_law_r6 ++ (wsL_law_r7 ++ (wsL_law_r8 ++ (wsL_law_r9 ++ (wsL_law_r10 ++ (wsL_law_r11 ++ (wsL_law_r12 ++ (wsL_law_r13 ++ (wsL_law_r14 ++ (wsL_law_r15 ++ (wsL_law_r16 ++ (wsL_law_r17 ++ (wsL_law_r18 ++ (wsL_law_r19 ++ (wsL_law_r20 ++ (wsL_law_r21 ++ (wsL_law_r22 ++ (wsL_law_r23 ++ (wsL_law_r24 ++ (wsL_law_r25 ++ (wsL_law_r26 ++ (wsL_law_r27 ++ (wsL_law_r28 ++ (wsL_law_r29 ++ (wsL_law_r30 ++ (wsL_law_r31 ++ (wsL_law_r32 ++ (wsL_law_r33 ++ (wsL_law_r34 ++ (wsL_law_r35 ++ wsL_law_r36))))))))))))))))))))))))))))))))))) ++ wsX60 ++ wsX70 ++ wsX50 ++ wsX00 ++ wsX30 ++ wsX20 ++ wsX40 ++ wsX10 ++ ([] : List Cond)
set_option maxRecDepth 20000 in
theorem wsL_law_in : ∀ w ∈ wsL_law, w ∈ lw_tbl := fun w h => (goodIn_p wsL_law [66, 69, 74, 80, 119, 123, 164, 232, 261, 694, 305, 309, 312, 786, 790, 316, 320, 324, 328, 796, 800, 803, 332, 336, 339, 808, 343, 347, 812, 351, 357, 361, 365, 370, 374, 378, 382, 385, 389, 393, 397, 401, 405, 409, 413, 417, 422, 426, 430, 433, 440, 817, 821, 825, 829, 832, 836, 840, 844, 847, 851, 855, 859, 863, 867, 871, 445, 449, 875, 453, 457, 461, 465, 469, 473, 477, 880, 884, 888, 892, 898, 902, 485, 910, 489, 914, 493, 497, 501, 505, 509, 919, 923, 927, 931, 935, 514, 518, 522, 526, 530, 939, 943, 947, 951, 536, 540, 955, 544, 960, 965, 550, 969, 555, 559, 563, 567, 973, 571, 575, 977, 981, 579, 582, 585, 985, 989, 589, 993, 593, 597, 997, 601, 605, 612, 1002, 1005, 1009, 618, 1013, 622, 1017, 626, 629, 633, 1021, 1024, 637, 641, 646, 1029, 651, 1033, 655, 1037, 659, 663, 1041, 669, 673, 676, 1047, 680, 1051, 684, 688, 1055] (by decide +kernel) (by decide +kernel) w h).1
theorem inlX0 : ∀ w ∈ wsX00, w ∈ wsL_law := fun _ h => List.mem_append_left _ (List.mem_append_left _ (List.mem_append_left _ (List.mem_append_left _ (List.mem_append_left _ (List.mem_append_right _ h)))))
theorem inX0 : ∀ w ∈ wsX00, w ∈ lw_tbl := fun w h => wsL_law_in w (inlX0 w h)
theorem inlX1 : ∀ w ∈ wsX10, w ∈ wsL_law := fun _ h => List.mem_append_left _ (List.mem_append_right _ h)
theorem inX1 : ∀ w ∈ wsX10, w ∈ lw_tbl := fun w h => wsL_law_in w (inlX1 w h)
theorem inlX2 : ∀ w ∈ wsX20, w ∈ wsL_law := fun _ h => List.mem_append_left _ (List.mem_append_left _ (List.mem_append_left _ (List.mem_append_right _ h)))
theorem inX2 : ∀ w ∈ wsX20, w ∈ lw_tbl := fun w h => wsL_law_in w (inlX2 w h)
theorem inlX3 : ∀ w ∈ wsX30, w ∈ wsL_law := fun _ h => List.mem_append_left _ (List.mem_append_left _ (List.mem_append_left _ (List.mem_append_left _ (List.mem_append_right _ h))))
theorem inX3 : ∀ w ∈ wsX30, w ∈ lw_tbl := fun w h => wsL_law_in w (inlX3 w h)
theorem inlX4 : ∀ w ∈ wsX40, w ∈ wsL_law := fun _ h => List.mem_append_left _ (List.mem_append_left _ (List.mem_append_right _ h))
theorem inX4 : ∀ w ∈ wsX40, w ∈ lw_tbl := fun w h => wsL_law_in w (inlX4 w h)
theorem inlX5 : ∀ w ∈ wsX50, w ∈ wsL_law := fun _ h => List.mem_append_left _ (List.mem_append_left _ (List.mem_append_left _ (List.mem_append_left _ (List.mem_append_left _ (List.mem_append_left _ (List.mem_append_right _ h))))))
theorem inX5 : ∀ w ∈ wsX50, w ∈ lw_tbl := fun w h => wsL_law_in w (inlX5 w h)
theorem inlX6 : ∀ w ∈ wsX60, w ∈ wsL_law := fun _ h => List.mem_append_left _ (List.mem_append_left _ (List.mem_append_left _ (List.mem_append_left _ (List.mem_append_left _ (List.mem_append_left _ (List.mem_append_left _ (List.mem_append_left _ (List.mem_append_right _ h))))))))
theorem inX6 : ∀ w ∈ wsX60, w ∈ lw_tbl := fun w h => wsL_law_in w (inlX6 w h)
theorem inlX7 : ∀ w ∈ wsX70, w ∈ wsL_law := fun _ h => List.mem_append_left _ (List.mem_append_left _ (List.mem_append_left _ (List.mem_append_left _ (List.mem_append_left _ (List.mem_append_left _ (List.mem_append_left _ (List.mem_append_right _ h)))))))
theorem inX7 : ∀ w ∈ wsX70, w ∈ lw_tbl := fun w h => wsL_law_in w (inlX7 w h)
theorem inJ6 : ∀ w ∈ wsJ60, w ∈ lw_tbl := by decide +kernel
theorem inJ9 : ∀ w ∈ wsJ90, w ∈ lw_tbl := by decide +kernel
theorem inJ10 : ∀ w ∈ wsJ100, w ∈ lw_tbl := by decide +kernel
abbrev vwCl : List vw_C := [(RX0, TX0, 16), (RX1, TX1, 4), (RX2, TX2, 6), (RX3, TX3, 7), (RX4, TX4, 3), (RX5, TX5, 4), (RX6, TX6, 8), (RX7, TX7, 29)]
end
section
theorem dX0_init_0 : decode cX0_init 0 = .ok (.aload_n 0, 1) := by decide +kernel
theorem dX0_init_1 : decode cX0_init 1 = .ok (.invokespecial 3, 3) := by decide +kernel
theorem dX0_init_4 : decode cX0_init 4 = .ok (.aload_n 0, 1) := by decide +kernel
theorem dX0_init_5 : decode cX0_init 5 = .ok (.aload_n 1, 1) := by decide +kernel
theorem dX0_init_6 : decode cX0_init 6 = .ok (.putfield 9, 3) := by decide +kernel
theorem dX0_init_9 : decode cX0_init 9 = .ok (.aload_n 0, 1) := by decide +kernel
theorem dX0_init_10 : decode cX0_init 10 = .ok (.bipush 6, 2) := by decide +kernel
theorem dX0_init_12 : decode cX0_init 12 = .ok (.newarray .int, 2) := by decide +kernel
theorem dX0_init_14 : decode cX0_init 14 = .ok (.putfield 15, 3) := by decide +kernel
theorem dX0_init_17 : decode cX0_init 17 = .ok (.aload_n 0, 1) := by decide +kernel
theorem dX0_init_18 : decode cX0_init 18 = .ok (.bipush 6, 2) := by decide +kernel
theorem dX0_init_20 : decode cX0_init 20 = .ok (.newarray .int, 2) := by decide +kernel
theorem dX0_init_22 : decode cX0_init 22 = .ok (.putfield 19, 3) := by decide +kernel
theorem dX0_init_25 : decode cX0_init 25 = .ok (.aload_n 0, 1) := by decide +kernel
theorem dX0_init_26 : decode cX0_init 26 = .ok (.bipush 6, 2) := by decide +kernel
theorem dX0_init_28 : decode cX0_init 28 = .ok (.newarray .int, 2) := by decide +kernel
theorem dX0_init_30 : decode cX0_init 30 = .ok (.putfield 22, 3) := by decide +kernel
theorem dX0_init_33 : decode cX0_init 33 = .ok (.aload_n 0, 1) := by decide +kernel
theorem dX0_init_34 : decode cX0_init 34 = .ok (.bipush 6, 2) := by decide +kernel
theorem dX0_init_36 : decode cX0_init 36 = .ok (.newarray .int, 2) := by decide +kernel
theorem dX0_init_38 : decode cX0_init 38 = .ok (.putfield 25, 3) := by decide +kernel
theorem dX0_init_41 : decode cX0_init 41 = .ok (.aload_n 0, 1) := by decide +kernel
theorem dX0_init_42 : decode cX0_init 42 = .ok (.bipush 6, 2) := by decide +kernel
theorem dX0_init_44 : decode cX0_init 44 = .ok (.newarray .int, 2) := by decide +kernel
theorem dX0_init_46 : decode cX0_init 46 = .ok (.putfield 28, 3) := by decide +kernel
theorem dX0_init_49 : decode cX0_init 49 = .ok (.aload_n 0, 1) := by decide +kernel
theorem dX0_init_50 : decode cX0_init 50 = .ok (.bipush 6, 2) := by decide +kernel
theorem dX0_init_52 : decode cX0_init 52 = .ok (.newarray .int, 2) := by decide +kernel
theorem dX0_init_54 : decode cX0_init 54 = .ok (.putfield 31, 3) := by decide +kernel
theorem dX0_init_57 : decode cX0_init 57 = .ok (.aload_n 0, 1) := by decide +kernel
theorem dX0_init_58 : decode cX0_init 58 = .ok (.bipush 6, 2) := by decide +kernel
theorem dX0_init_60 : decode cX0_init 60 = .ok (.newarray .int, 2) := by decide +kernel
theorem dX0_init_62 : decode cX0_init 62 = .ok (.putfield 34, 3) := by decide +kernel
theorem dX0_init_65 : decode cX0_init 65 = .ok (.aload_n 0, 1) := by decide +kernel
theorem dX0_init_66 : decode cX0_init 66 = .ok (.bipush 6, 2) := by decide +kernel
theorem dX0_init_68 : decode cX0_init 68 = .ok (.newarray .int, 2) := by decide +kernel
theorem dX0_init_70 : decode cX0_init 70 = .ok (.putfield 37, 3) := by decide +kernel
theorem dX0_init_73 : decode cX0_init 73 = .ok (.aload_n 0, 1) := by decide +kernel
theorem dX0_init_74 : decode cX0_init 74 = .ok (.bipush 6, 2) := by decide +kernel
theorem dX0_init_76 : decode cX0_init 76 = .ok (.newarray .int, 2) := by decide +kernel
theorem dX0_init_78 : decode cX0_init 78 = .ok (.putfield 40, 3) := by decide +kernel
theorem dX0_init_81 : decode cX0_init 81 = .ok (.aload_n 0, 1) := by decide +kernel
theorem dX0_init_82 : decode cX0_init 82 = .ok (.bipush 6, 2) := by decide +kernel
theorem dX0_init_84 : decode cX0_init 84 = .ok (.newarray .int, 2) := by decide +kernel
theorem dX0_init_86 : decode cX0_init 86 = .ok (.putfield 43, 3) := by decide +kernel
theorem dX0_init_89 : decode cX0_init 89 = .ok (.aload_n 0, 1) := by decide +kernel
theorem dX0_init_90 : decode cX0_init 90 = .ok (.bipush 6, 2) := by decide +kernel
theorem dX0_init_92 : decode cX0_init 92 = .ok (.newarray .int, 2) := by decide +kernel
theorem dX0_init_94 : decode cX0_init 94 = .ok (.putfield 46, 3) := by decide +kernel
theorem dX0_init_97 : decode cX0_init 97 = .ok (.aload_n 0, 1) := by decide +kernel
theorem dX0_init_98 : decode cX0_init 98 = .ok (.bipush 6, 2) := by decide +kernel
theorem dX0_init_100 : decode cX0_init 100 = .ok (.newarray .int, 2) := by decide +kernel
theorem dX0_init_102 : decode cX0_init 102 = .ok (.putfield 49, 3) := by decide +kernel
theorem dX0_init_105 : decode cX0_init 105 = .ok (.return_, 1) := by decide +kernel
theorem dX0_settle_0 : decode cX0_settle 0 = .ok (.aload_n 0, 1) := by decide +kernel
theorem dX0_settle_1 : decode cX0_settle 1 = .ok (.invokevirtual 52, 3) := by decide +kernel
theorem dX0_settle_4 : decode cX0_settle 4 = .ok (.aload_n 0, 1) := by decide +kernel
theorem dX0_settle_5 : decode cX0_settle 5 = .ok (.aload_n 0, 1) := by decide +kernel
theorem dX0_settle_6 : decode cX0_settle 6 = .ok (.getfield 9, 3) := by decide +kernel
theorem dX0_settle_9 : decode cX0_settle 9 = .ok (.getfield 55, 3) := by decide +kernel
theorem dX0_settle_12 : decode cX0_settle 12 = .ok (.invokevirtual 61, 3) := by decide +kernel
theorem dX0_settle_15 : decode cX0_settle 15 = .ok (.return_, 1) := by decide +kernel
theorem dX0_build_0 : decode cX0_build 0 = .ok (.aload_n 0, 1) := by decide +kernel
theorem dX0_build_1 : decode cX0_build 1 = .ok (.invokevirtual 65, 3) := by decide +kernel
theorem dX0_build_4 : decode cX0_build 4 = .ok (.aload_n 0, 1) := by decide +kernel
theorem dX0_build_5 : decode cX0_build 5 = .ok (.invokevirtual 68, 3) := by decide +kernel
theorem dX0_build_8 : decode cX0_build 8 = .ok (.aload_n 0, 1) := by decide +kernel
theorem dX0_build_9 : decode cX0_build 9 = .ok (.invokevirtual 71, 3) := by decide +kernel
theorem dX0_build_12 : decode cX0_build 12 = .ok (.aload_n 0, 1) := by decide +kernel
theorem dX0_build_13 : decode cX0_build 13 = .ok (.invokevirtual 74, 3) := by decide +kernel
theorem dX0_build_16 : decode cX0_build 16 = .ok (.return_, 1) := by decide +kernel
theorem dX0_findReach_0 : decode cX0_findReach 0 = .ok (.iconst 0, 1) := by decide +kernel
theorem dX0_findReach_1 : decode cX0_findReach 1 = .ok (.istore_n 1, 1) := by decide +kernel
theorem dX0_findReach_2 : decode cX0_findReach 2 = .ok (.iload_n 1, 1) := by decide +kernel
theorem dX0_findReach_3 : decode cX0_findReach 3 = .ok (.aload_n 0, 1) := by decide +kernel
theorem dX0_findReach_4 : decode cX0_findReach 4 = .ok (.getfield 9, 3) := by decide +kernel
theorem dX0_findReach_7 : decode cX0_findReach 7 = .ok (.getfield 77, 3) := by decide +kernel
theorem dX0_findReach_10 : decode cX0_findReach 10 = .ok (.if_icmp .ge 24, 3) := by decide +kernel
theorem dX0_findReach_13 : decode cX0_findReach 13 = .ok (.aload_n 0, 1) := by decide +kernel
theorem dX0_findReach_14 : decode cX0_findReach 14 = .ok (.getfield 15, 3) := by decide +kernel
theorem dX0_findReach_17 : decode cX0_findReach 17 = .ok (.iload_n 1, 1) := by decide +kernel
theorem dX0_findReach_18 : decode cX0_findReach 18 = .ok (.aload_n 0, 1) := by decide +kernel
theorem dX0_findReach_19 : decode cX0_findReach 19 = .ok (.getfield 9, 3) := by decide +kernel
theorem dX0_findReach_22 : decode cX0_findReach 22 = .ok (.getfield 80, 3) := by decide +kernel
theorem dX0_findReach_25 : decode cX0_findReach 25 = .ok (.iload_n 1, 1) := by decide +kernel
theorem dX0_findReach_26 : decode cX0_findReach 26 = .ok (.iaload, 1) := by decide +kernel
theorem dX0_findReach_27 : decode cX0_findReach 27 = .ok (.iastore, 1) := by decide +kernel
theorem dX0_findReach_28 : decode cX0_findReach 28 = .ok (.iinc 1 1, 3) := by decide +kernel
theorem dX0_findReach_31 : decode cX0_findReach 31 = .ok (.goto (-29), 3) := by decide +kernel
theorem dX0_findReach_34 : decode cX0_findReach 34 = .ok (.iconst 0, 1) := by decide +kernel
theorem dX0_findReach_35 : decode cX0_findReach 35 = .ok (.istore_n 1, 1) := by decide +kernel
theorem dX0_findReach_36 : decode cX0_findReach 36 = .ok (.iload_n 1, 1) := by decide +kernel
theorem dX0_findReach_37 : decode cX0_findReach 37 = .ok (.aload_n 0, 1) := by decide +kernel
theorem dX0_findReach_38 : decode cX0_findReach 38 = .ok (.getfield 9, 3) := by decide +kernel
theorem dX0_findReach_41 : decode cX0_findReach 41 = .ok (.getfield 77, 3) := by decide +kernel
theorem dX0_findReach_44 : decode cX0_findReach 44 = .ok (.if_icmp .ge 56, 3) := by decide +kernel
theorem dX0_findReach_47 : decode cX0_findReach 47 = .ok (.iconst 0, 1) := by decide +kernel
theorem dX0_findReach_48 : decode cX0_findReach 48 = .ok (.istore_n 2, 1) := by decide +kernel
theorem dX0_findReach_49 : decode cX0_findReach 49 = .ok (.iload_n 2, 1) := by decide +kernel
theorem dX0_findReach_50 : decode cX0_findReach 50 = .ok (.aload_n 0, 1) := by decide +kernel
theorem dX0_findReach_51 : decode cX0_findReach 51 = .ok (.getfield 9, 3) := by decide +kernel
theorem dX0_findReach_54 : decode cX0_findReach 54 = .ok (.getfield 77, 3) := by decide +kernel
theorem dX0_findReach_57 : decode cX0_findReach 57 = .ok (.if_icmp .ge 37, 3) := by decide +kernel
theorem dX0_findReach_60 : decode cX0_findReach 60 = .ok (.aload_n 0, 1) := by decide +kernel
theorem dX0_findReach_61 : decode cX0_findReach 61 = .ok (.getfield 15, 3) := by decide +kernel
theorem dX0_findReach_64 : decode cX0_findReach 64 = .ok (.iload_n 2, 1) := by decide +kernel
theorem dX0_findReach_65 : decode cX0_findReach 65 = .ok (.iaload, 1) := by decide +kernel
theorem dX0_findReach_66 : decode cX0_findReach 66 = .ok (.iload_n 1, 1) := by decide +kernel
theorem dX0_findReach_67 : decode cX0_findReach 67 = .ok (.invokestatic 83, 3) := by decide +kernel
theorem dX0_findReach_70 : decode cX0_findReach 70 = .ok (.ifCond .eq 18, 3) := by decide +kernel
theorem dX0_findReach_73 : decode cX0_findReach 73 = .ok (.aload_n 0, 1) := by decide +kernel
theorem dX0_findReach_74 : decode cX0_findReach 74 = .ok (.getfield 15, 3) := by decide +kernel
theorem dX0_findReach_77 : decode cX0_findReach 77 = .ok (.iload_n 2, 1) := by decide +kernel
theorem dX0_findReach_78 : decode cX0_findReach 78 = .ok (.dup2, 1) := by decide +kernel
theorem dX0_findReach_79 : decode cX0_findReach 79 = .ok (.iaload, 1) := by decide +kernel
theorem dX0_findReach_80 : decode cX0_findReach 80 = .ok (.aload_n 0, 1) := by decide +kernel
theorem dX0_findReach_81 : decode cX0_findReach 81 = .ok (.getfield 15, 3) := by decide +kernel
theorem dX0_findReach_84 : decode cX0_findReach 84 = .ok (.iload_n 1, 1) := by decide +kernel
theorem dX0_findReach_85 : decode cX0_findReach 85 = .ok (.iaload, 1) := by decide +kernel
theorem dX0_findReach_86 : decode cX0_findReach 86 = .ok (.ior, 1) := by decide +kernel
theorem dX0_findReach_87 : decode cX0_findReach 87 = .ok (.iastore, 1) := by decide +kernel
theorem dX0_findReach_88 : decode cX0_findReach 88 = .ok (.iinc 2 1, 3) := by decide +kernel
theorem dX0_findReach_91 : decode cX0_findReach 91 = .ok (.goto (-42), 3) := by decide +kernel
theorem dX0_findReach_94 : decode cX0_findReach 94 = .ok (.iinc 1 1, 3) := by decide +kernel
theorem dX0_findReach_97 : decode cX0_findReach 97 = .ok (.goto (-61), 3) := by decide +kernel
theorem dX0_findReach_100 : decode cX0_findReach 100 = .ok (.return_, 1) := by decide +kernel
theorem dX0_findRings_0 : decode cX0_findRings 0 = .ok (.iconst 0, 1) := by decide +kernel
theorem dX0_findRings_1 : decode cX0_findRings 1 = .ok (.istore_n 1, 1) := by decide +kernel
theorem dX0_findRings_2 : decode cX0_findRings 2 = .ok (.iload_n 1, 1) := by decide +kernel
theorem dX0_findRings_3 : decode cX0_findRings 3 = .ok (.aload_n 0, 1) := by decide +kernel
theorem dX0_findRings_4 : decode cX0_findRings 4 = .ok (.getfield 9, 3) := by decide +kernel
theorem dX0_findRings_7 : decode cX0_findRings 7 = .ok (.getfield 77, 3) := by decide +kernel
theorem dX0_findRings_10 : decode cX0_findRings 10 = .ok (.if_icmp .ge 71, 3) := by decide +kernel
theorem dX0_findRings_13 : decode cX0_findRings 13 = .ok (.iconst 1, 1) := by decide +kernel
theorem dX0_findRings_14 : decode cX0_findRings 14 = .ok (.iload_n 1, 1) := by decide +kernel
theorem dX0_findRings_15 : decode cX0_findRings 15 = .ok (.ishl, 1) := by decide +kernel
theorem dX0_findRings_16 : decode cX0_findRings 16 = .ok (.istore_n 2, 1) := by decide +kernel
theorem dX0_findRings_17 : decode cX0_findRings 17 = .ok (.iconst 0, 1) := by decide +kernel
theorem dX0_findRings_18 : decode cX0_findRings 18 = .ok (.istore_n 3, 1) := by decide +kernel
theorem dX0_findRings_19 : decode cX0_findRings 19 = .ok (.iload_n 3, 1) := by decide +kernel
theorem dX0_findRings_20 : decode cX0_findRings 20 = .ok (.aload_n 0, 1) := by decide +kernel
theorem dX0_findRings_21 : decode cX0_findRings 21 = .ok (.getfield 9, 3) := by decide +kernel
theorem dX0_findRings_24 : decode cX0_findRings 24 = .ok (.getfield 77, 3) := by decide +kernel
theorem dX0_findRings_27 : decode cX0_findRings 27 = .ok (.if_icmp .ge 41, 3) := by decide +kernel
theorem dX0_findRings_30 : decode cX0_findRings 30 = .ok (.aload_n 0, 1) := by decide +kernel
theorem dX0_findRings_31 : decode cX0_findRings 31 = .ok (.getfield 15, 3) := by decide +kernel
theorem dX0_findRings_34 : decode cX0_findRings 34 = .ok (.iload_n 1, 1) := by decide +kernel
theorem dX0_findRings_35 : decode cX0_findRings 35 = .ok (.iaload, 1) := by decide +kernel
theorem dX0_findRings_36 : decode cX0_findRings 36 = .ok (.iload_n 3, 1) := by decide +kernel
theorem dX0_findRings_37 : decode cX0_findRings 37 = .ok (.invokestatic 83, 3) := by decide +kernel
theorem dX0_findRings_40 : decode cX0_findRings 40 = .ok (.ifCond .eq 22, 3) := by decide +kernel
theorem dX0_findRings_43 : decode cX0_findRings 43 = .ok (.aload_n 0, 1) := by decide +kernel
theorem dX0_findRings_44 : decode cX0_findRings 44 = .ok (.getfield 15, 3) := by decide +kernel
theorem dX0_findRings_47 : decode cX0_findRings 47 = .ok (.iload_n 3, 1) := by decide +kernel
theorem dX0_findRings_48 : decode cX0_findRings 48 = .ok (.iaload, 1) := by decide +kernel
theorem dX0_findRings_49 : decode cX0_findRings 49 = .ok (.iload_n 1, 1) := by decide +kernel
theorem dX0_findRings_50 : decode cX0_findRings 50 = .ok (.invokestatic 83, 3) := by decide +kernel
theorem dX0_findRings_53 : decode cX0_findRings 53 = .ok (.ifCond .eq 9, 3) := by decide +kernel
theorem dX0_findRings_56 : decode cX0_findRings 56 = .ok (.iload_n 2, 1) := by decide +kernel
theorem dX0_findRings_57 : decode cX0_findRings 57 = .ok (.iconst 1, 1) := by decide +kernel
theorem dX0_findRings_58 : decode cX0_findRings 58 = .ok (.iload_n 3, 1) := by decide +kernel
theorem dX0_findRings_59 : decode cX0_findRings 59 = .ok (.ishl, 1) := by decide +kernel
theorem dX0_findRings_60 : decode cX0_findRings 60 = .ok (.ior, 1) := by decide +kernel
theorem dX0_findRings_61 : decode cX0_findRings 61 = .ok (.istore_n 2, 1) := by decide +kernel
theorem dX0_findRings_62 : decode cX0_findRings 62 = .ok (.iinc 3 1, 3) := by decide +kernel
theorem dX0_findRings_65 : decode cX0_findRings 65 = .ok (.goto (-46), 3) := by decide +kernel
theorem dX0_findRings_68 : decode cX0_findRings 68 = .ok (.aload_n 0, 1) := by decide +kernel
theorem dX0_findRings_69 : decode cX0_findRings 69 = .ok (.getfield 19, 3) := by decide +kernel
theorem dX0_findRings_72 : decode cX0_findRings 72 = .ok (.iload_n 1, 1) := by decide +kernel
theorem dX0_findRings_73 : decode cX0_findRings 73 = .ok (.iload_n 2, 1) := by decide +kernel
theorem dX0_findRings_74 : decode cX0_findRings 74 = .ok (.iastore, 1) := by decide +kernel
theorem dX0_findRings_75 : decode cX0_findRings 75 = .ok (.iinc 1 1, 3) := by decide +kernel
theorem dX0_findRings_78 : decode cX0_findRings 78 = .ok (.goto (-76), 3) := by decide +kernel
theorem dX0_findRings_81 : decode cX0_findRings 81 = .ok (.return_, 1) := by decide +kernel
theorem dX0_findRungs_0 : decode cX0_findRungs 0 = .ok (.iconst 0, 1) := by decide +kernel
theorem dX0_findRungs_1 : decode cX0_findRungs 1 = .ok (.istore_n 1, 1) := by decide +kernel
theorem dX0_findRungs_2 : decode cX0_findRungs 2 = .ok (.iload_n 1, 1) := by decide +kernel
theorem dX0_findRungs_3 : decode cX0_findRungs 3 = .ok (.aload_n 0, 1) := by decide +kernel
theorem dX0_findRungs_4 : decode cX0_findRungs 4 = .ok (.getfield 9, 3) := by decide +kernel
theorem dX0_findRungs_7 : decode cX0_findRungs 7 = .ok (.getfield 77, 3) := by decide +kernel
theorem dX0_findRungs_10 : decode cX0_findRungs 10 = .ok (.if_icmp .ge 16, 3) := by decide +kernel
theorem dX0_findRungs_13 : decode cX0_findRungs 13 = .ok (.aload_n 0, 1) := by decide +kernel
theorem dX0_findRungs_14 : decode cX0_findRungs 14 = .ok (.getfield 22, 3) := by decide +kernel
theorem dX0_findRungs_17 : decode cX0_findRungs 17 = .ok (.iload_n 1, 1) := by decide +kernel
theorem dX0_findRungs_18 : decode cX0_findRungs 18 = .ok (.iconst 0, 1) := by decide +kernel
theorem dX0_findRungs_19 : decode cX0_findRungs 19 = .ok (.iastore, 1) := by decide +kernel
theorem dX0_findRungs_20 : decode cX0_findRungs 20 = .ok (.iinc 1 1, 3) := by decide +kernel
theorem dX0_findRungs_23 : decode cX0_findRungs 23 = .ok (.goto (-21), 3) := by decide +kernel
theorem dX0_findRungs_26 : decode cX0_findRungs 26 = .ok (.iconst 0, 1) := by decide +kernel
theorem dX0_findRungs_27 : decode cX0_findRungs 27 = .ok (.istore_n 1, 1) := by decide +kernel
theorem dX0_findRungs_28 : decode cX0_findRungs 28 = .ok (.iload_n 1, 1) := by decide +kernel
theorem dX0_findRungs_29 : decode cX0_findRungs 29 = .ok (.aload_n 0, 1) := by decide +kernel
theorem dX0_findRungs_30 : decode cX0_findRungs 30 = .ok (.getfield 9, 3) := by decide +kernel
theorem dX0_findRungs_33 : decode cX0_findRungs 33 = .ok (.getfield 77, 3) := by decide +kernel
theorem dX0_findRungs_36 : decode cX0_findRungs 36 = .ok (.if_icmp .ge 48, 3) := by decide +kernel
theorem dX0_findRungs_39 : decode cX0_findRungs 39 = .ok (.iconst 0, 1) := by decide +kernel
theorem dX0_findRungs_40 : decode cX0_findRungs 40 = .ok (.istore_n 2, 1) := by decide +kernel
theorem dX0_findRungs_41 : decode cX0_findRungs 41 = .ok (.iload_n 2, 1) := by decide +kernel
theorem dX0_findRungs_42 : decode cX0_findRungs 42 = .ok (.aload_n 0, 1) := by decide +kernel
theorem dX0_findRungs_43 : decode cX0_findRungs 43 = .ok (.getfield 9, 3) := by decide +kernel
theorem dX0_findRungs_46 : decode cX0_findRungs 46 = .ok (.getfield 77, 3) := by decide +kernel
theorem dX0_findRungs_49 : decode cX0_findRungs 49 = .ok (.if_icmp .ge 29, 3) := by decide +kernel
theorem dX0_findRungs_52 : decode cX0_findRungs 52 = .ok (.aload_n 0, 1) := by decide +kernel
theorem dX0_findRungs_53 : decode cX0_findRungs 53 = .ok (.getfield 22, 3) := by decide +kernel
theorem dX0_findRungs_56 : decode cX0_findRungs 56 = .ok (.iload_n 2, 1) := by decide +kernel
theorem dX0_findRungs_57 : decode cX0_findRungs 57 = .ok (.aload_n 0, 1) := by decide +kernel
theorem dX0_findRungs_58 : decode cX0_findRungs 58 = .ok (.aload_n 0, 1) := by decide +kernel
theorem dX0_findRungs_59 : decode cX0_findRungs 59 = .ok (.aload_n 0, 1) := by decide +kernel
theorem dX0_findRungs_60 : decode cX0_findRungs 60 = .ok (.getfield 19, 3) := by decide +kernel
theorem dX0_findRungs_63 : decode cX0_findRungs 63 = .ok (.iload_n 2, 1) := by decide +kernel
theorem dX0_findRungs_64 : decode cX0_findRungs 64 = .ok (.iaload, 1) := by decide +kernel
theorem dX0_findRungs_65 : decode cX0_findRungs 65 = .ok (.invokevirtual 87, 3) := by decide +kernel
theorem dX0_findRungs_68 : decode cX0_findRungs 68 = .ok (.invokevirtual 91, 3) := by decide +kernel
theorem dX0_findRungs_71 : decode cX0_findRungs 71 = .ok (.iastore, 1) := by decide +kernel
theorem dX0_findRungs_72 : decode cX0_findRungs 72 = .ok (.iinc 2 1, 3) := by decide +kernel
theorem dX0_findRungs_75 : decode cX0_findRungs 75 = .ok (.goto (-34), 3) := by decide +kernel
theorem dX0_findRungs_78 : decode cX0_findRungs 78 = .ok (.iinc 1 1, 3) := by decide +kernel
theorem dX0_findRungs_81 : decode cX0_findRungs 81 = .ok (.goto (-53), 3) := by decide +kernel
theorem dX0_findRungs_84 : decode cX0_findRungs 84 = .ok (.return_, 1) := by decide +kernel
theorem dX0_outside_0 : decode cX0_outside 0 = .ok (.iconst 0, 1) := by decide +kernel
theorem dX0_outside_1 : decode cX0_outside 1 = .ok (.istore_n 2, 1) := by decide +kernel
theorem dX0_outside_2 : decode cX0_outside 2 = .ok (.iconst 0, 1) := by decide +kernel
theorem dX0_outside_3 : decode cX0_outside 3 = .ok (.istore_n 3, 1) := by decide +kernel
theorem dX0_outside_4 : decode cX0_outside 4 = .ok (.iload_n 3, 1) := by decide +kernel
theorem dX0_outside_5 : decode cX0_outside 5 = .ok (.aload_n 0, 1) := by decide +kernel
theorem dX0_outside_6 : decode cX0_outside 6 = .ok (.getfield 9, 3) := by decide +kernel
theorem dX0_outside_9 : decode cX0_outside 9 = .ok (.getfield 77, 3) := by decide +kernel
theorem dX0_outside_12 : decode cX0_outside 12 = .ok (.if_icmp .ge 29, 3) := by decide +kernel
theorem dX0_outside_15 : decode cX0_outside 15 = .ok (.iload_n 1, 1) := by decide +kernel
theorem dX0_outside_16 : decode cX0_outside 16 = .ok (.iload_n 3, 1) := by decide +kernel
theorem dX0_outside_17 : decode cX0_outside 17 = .ok (.invokestatic 83, 3) := by decide +kernel
theorem dX0_outside_20 : decode cX0_outside 20 = .ok (.ifCond .eq 15, 3) := by decide +kernel
theorem dX0_outside_23 : decode cX0_outside 23 = .ok (.iload_n 2, 1) := by decide +kernel
theorem dX0_outside_24 : decode cX0_outside 24 = .ok (.aload_n 0, 1) := by decide +kernel
theorem dX0_outside_25 : decode cX0_outside 25 = .ok (.getfield 9, 3) := by decide +kernel
theorem dX0_outside_28 : decode cX0_outside 28 = .ok (.getfield 80, 3) := by decide +kernel
theorem dX0_outside_31 : decode cX0_outside 31 = .ok (.iload_n 3, 1) := by decide +kernel
theorem dX0_outside_32 : decode cX0_outside 32 = .ok (.iaload, 1) := by decide +kernel
theorem dX0_outside_33 : decode cX0_outside 33 = .ok (.ior, 1) := by decide +kernel
theorem dX0_outside_34 : decode cX0_outside 34 = .ok (.istore_n 2, 1) := by decide +kernel
theorem dX0_outside_35 : decode cX0_outside 35 = .ok (.iinc 3 1, 3) := by decide +kernel
theorem dX0_outside_38 : decode cX0_outside 38 = .ok (.goto (-34), 3) := by decide +kernel
theorem dX0_outside_41 : decode cX0_outside 41 = .ok (.iload_n 2, 1) := by decide +kernel
theorem dX0_outside_42 : decode cX0_outside 42 = .ok (.iload_n 1, 1) := by decide +kernel
theorem dX0_outside_43 : decode cX0_outside 43 = .ok (.iconst (-1), 1) := by decide +kernel
theorem dX0_outside_44 : decode cX0_outside 44 = .ok (.ixor, 1) := by decide +kernel
theorem dX0_outside_45 : decode cX0_outside 45 = .ok (.iand, 1) := by decide +kernel
theorem dX0_outside_46 : decode cX0_outside 46 = .ok (.ireturn, 1) := by decide +kernel
theorem dX0_rungAbove_0 : decode cX0_rungAbove 0 = .ok (.iconst 0, 1) := by decide +kernel
theorem dX0_rungAbove_1 : decode cX0_rungAbove 1 = .ok (.istore_n 2, 1) := by decide +kernel
theorem dX0_rungAbove_2 : decode cX0_rungAbove 2 = .ok (.iconst 0, 1) := by decide +kernel
theorem dX0_rungAbove_3 : decode cX0_rungAbove 3 = .ok (.istore_n 3, 1) := by decide +kernel
theorem dX0_rungAbove_4 : decode cX0_rungAbove 4 = .ok (.iload_n 3, 1) := by decide +kernel
theorem dX0_rungAbove_5 : decode cX0_rungAbove 5 = .ok (.aload_n 0, 1) := by decide +kernel
theorem dX0_rungAbove_6 : decode cX0_rungAbove 6 = .ok (.getfield 9, 3) := by decide +kernel
theorem dX0_rungAbove_9 : decode cX0_rungAbove 9 = .ok (.getfield 77, 3) := by decide +kernel
theorem dX0_rungAbove_12 : decode cX0_rungAbove 12 = .ok (.if_icmp .ge 30, 3) := by decide +kernel
theorem dX0_rungAbove_15 : decode cX0_rungAbove 15 = .ok (.iload_n 1, 1) := by decide +kernel
theorem dX0_rungAbove_16 : decode cX0_rungAbove 16 = .ok (.iload_n 3, 1) := by decide +kernel
theorem dX0_rungAbove_17 : decode cX0_rungAbove 17 = .ok (.invokestatic 83, 3) := by decide +kernel
theorem dX0_rungAbove_20 : decode cX0_rungAbove 20 = .ok (.ifCond .eq 16, 3) := by decide +kernel
theorem dX0_rungAbove_23 : decode cX0_rungAbove 23 = .ok (.iload_n 2, 1) := by decide +kernel
theorem dX0_rungAbove_24 : decode cX0_rungAbove 24 = .ok (.aload_n 0, 1) := by decide +kernel
theorem dX0_rungAbove_25 : decode cX0_rungAbove 25 = .ok (.getfield 22, 3) := by decide +kernel
theorem dX0_rungAbove_28 : decode cX0_rungAbove 28 = .ok (.iload_n 3, 1) := by decide +kernel
theorem dX0_rungAbove_29 : decode cX0_rungAbove 29 = .ok (.iaload, 1) := by decide +kernel
theorem dX0_rungAbove_30 : decode cX0_rungAbove 30 = .ok (.iconst 1, 1) := by decide +kernel
theorem dX0_rungAbove_31 : decode cX0_rungAbove 31 = .ok (.iadd, 1) := by decide +kernel
theorem dX0_rungAbove_32 : decode cX0_rungAbove 32 = .ok (.invokestatic 94, 3) := by decide +kernel
theorem dX0_rungAbove_35 : decode cX0_rungAbove 35 = .ok (.istore_n 2, 1) := by decide +kernel
theorem dX0_rungAbove_36 : decode cX0_rungAbove 36 = .ok (.iinc 3 1, 3) := by decide +kernel
theorem dX0_rungAbove_39 : decode cX0_rungAbove 39 = .ok (.goto (-35), 3) := by decide +kernel
theorem dX0_rungAbove_42 : decode cX0_rungAbove 42 = .ok (.iload_n 2, 1) := by decide +kernel
theorem dX0_rungAbove_43 : decode cX0_rungAbove 43 = .ok (.ireturn, 1) := by decide +kernel
theorem dX0_orderRings_0 : decode cX0_orderRings 0 = .ok (.aload_n 0, 1) := by decide +kernel
theorem dX0_orderRings_1 : decode cX0_orderRings 1 = .ok (.iconst 0, 1) := by decide +kernel
theorem dX0_orderRings_2 : decode cX0_orderRings 2 = .ok (.putfield 100, 3) := by decide +kernel
theorem dX0_orderRings_5 : decode cX0_orderRings 5 = .ok (.iconst 0, 1) := by decide +kernel
theorem dX0_orderRings_6 : decode cX0_orderRings 6 = .ok (.istore_n 1, 1) := by decide +kernel
theorem dX0_orderRings_7 : decode cX0_orderRings 7 = .ok (.iload_n 1, 1) := by decide +kernel
theorem dX0_orderRings_8 : decode cX0_orderRings 8 = .ok (.aload_n 0, 1) := by decide +kernel
theorem dX0_orderRings_9 : decode cX0_orderRings 9 = .ok (.getfield 9, 3) := by decide +kernel
theorem dX0_orderRings_12 : decode cX0_orderRings 12 = .ok (.getfield 77, 3) := by decide +kernel
theorem dX0_orderRings_15 : decode cX0_orderRings 15 = .ok (.if_icmp .ge 117, 3) := by decide +kernel
theorem dX0_orderRings_18 : decode cX0_orderRings 18 = .ok (.iconst 0, 1) := by decide +kernel
theorem dX0_orderRings_19 : decode cX0_orderRings 19 = .ok (.istore_n 2, 1) := by decide +kernel
theorem dX0_orderRings_20 : decode cX0_orderRings 20 = .ok (.iload_n 2, 1) := by decide +kernel
theorem dX0_orderRings_21 : decode cX0_orderRings 21 = .ok (.aload_n 0, 1) := by decide +kernel
theorem dX0_orderRings_22 : decode cX0_orderRings 22 = .ok (.getfield 9, 3) := by decide +kernel
theorem dX0_orderRings_25 : decode cX0_orderRings 25 = .ok (.getfield 77, 3) := by decide +kernel
theorem dX0_orderRings_28 : decode cX0_orderRings 28 = .ok (.if_icmp .ge 98, 3) := by decide +kernel
theorem dX0_orderRings_31 : decode cX0_orderRings 31 = .ok (.aload_n 0, 1) := by decide +kernel
theorem dX0_orderRings_32 : decode cX0_orderRings 32 = .ok (.getfield 19, 3) := by decide +kernel
theorem dX0_orderRings_35 : decode cX0_orderRings 35 = .ok (.iload_n 2, 1) := by decide +kernel
theorem dX0_orderRings_36 : decode cX0_orderRings 36 = .ok (.iaload, 1) := by decide +kernel
theorem dX0_orderRings_37 : decode cX0_orderRings 37 = .ok (.iconst 1, 1) := by decide +kernel
theorem dX0_orderRings_38 : decode cX0_orderRings 38 = .ok (.iload_n 2, 1) := by decide +kernel
theorem dX0_orderRings_39 : decode cX0_orderRings 39 = .ok (.ishl, 1) := by decide +kernel
theorem dX0_orderRings_40 : decode cX0_orderRings 40 = .ok (.iconst 1, 1) := by decide +kernel
theorem dX0_orderRings_41 : decode cX0_orderRings 41 = .ok (.isub, 1) := by decide +kernel
theorem dX0_orderRings_42 : decode cX0_orderRings 42 = .ok (.iand, 1) := by decide +kernel
theorem dX0_orderRings_43 : decode cX0_orderRings 43 = .ok (.ifCond .ne 7, 3) := by decide +kernel
theorem dX0_orderRings_46 : decode cX0_orderRings 46 = .ok (.iconst 1, 1) := by decide +kernel
theorem dX0_orderRings_47 : decode cX0_orderRings 47 = .ok (.goto 4, 3) := by decide +kernel
theorem dX0_orderRings_50 : decode cX0_orderRings 50 = .ok (.iconst 0, 1) := by decide +kernel
theorem dX0_orderRings_51 : decode cX0_orderRings 51 = .ok (.istore_n 3, 1) := by decide +kernel
theorem dX0_orderRings_52 : decode cX0_orderRings 52 = .ok (.iload_n 3, 1) := by decide +kernel
theorem dX0_orderRings_53 : decode cX0_orderRings 53 = .ok (.ifCond .eq 67, 3) := by decide +kernel
theorem dX0_orderRings_56 : decode cX0_orderRings 56 = .ok (.aload_n 0, 1) := by decide +kernel
theorem dX0_orderRings_57 : decode cX0_orderRings 57 = .ok (.getfield 22, 3) := by decide +kernel
theorem dX0_orderRings_60 : decode cX0_orderRings 60 = .ok (.iload_n 2, 1) := by decide +kernel
theorem dX0_orderRings_61 : decode cX0_orderRings 61 = .ok (.iaload, 1) := by decide +kernel
theorem dX0_orderRings_62 : decode cX0_orderRings 62 = .ok (.iload_n 1, 1) := by decide +kernel
theorem dX0_orderRings_63 : decode cX0_orderRings 63 = .ok (.if_icmp .ne 57, 3) := by decide +kernel
theorem dX0_orderRings_66 : decode cX0_orderRings 66 = .ok (.aload_n 0, 1) := by decide +kernel
theorem dX0_orderRings_67 : decode cX0_orderRings 67 = .ok (.getfield 100, 3) := by decide +kernel
theorem dX0_orderRings_70 : decode cX0_orderRings 70 = .ok (.bipush 6, 2) := by decide +kernel
theorem dX0_orderRings_72 : decode cX0_orderRings 72 = .ok (.if_icmp .ge 48, 3) := by decide +kernel
theorem dX0_orderRings_75 : decode cX0_orderRings 75 = .ok (.aload_n 0, 1) := by decide +kernel
theorem dX0_orderRings_76 : decode cX0_orderRings 76 = .ok (.getfield 37, 3) := by decide +kernel
theorem dX0_orderRings_79 : decode cX0_orderRings 79 = .ok (.aload_n 0, 1) := by decide +kernel
theorem dX0_orderRings_80 : decode cX0_orderRings 80 = .ok (.getfield 100, 3) := by decide +kernel
theorem dX0_orderRings_83 : decode cX0_orderRings 83 = .ok (.iload_n 2, 1) := by decide +kernel
theorem dX0_orderRings_84 : decode cX0_orderRings 84 = .ok (.iastore, 1) := by decide +kernel
theorem dX0_orderRings_85 : decode cX0_orderRings 85 = .ok (.aload_n 0, 1) := by decide +kernel
theorem dX0_orderRings_86 : decode cX0_orderRings 86 = .ok (.getfield 40, 3) := by decide +kernel
theorem dX0_orderRings_89 : decode cX0_orderRings 89 = .ok (.aload_n 0, 1) := by decide +kernel
theorem dX0_orderRings_90 : decode cX0_orderRings 90 = .ok (.getfield 100, 3) := by decide +kernel
theorem dX0_orderRings_93 : decode cX0_orderRings 93 = .ok (.aload_n 0, 1) := by decide +kernel
theorem dX0_orderRings_94 : decode cX0_orderRings 94 = .ok (.getfield 19, 3) := by decide +kernel
theorem dX0_orderRings_97 : decode cX0_orderRings 97 = .ok (.iload_n 2, 1) := by decide +kernel
theorem dX0_orderRings_98 : decode cX0_orderRings 98 = .ok (.iaload, 1) := by decide +kernel
theorem dX0_orderRings_99 : decode cX0_orderRings 99 = .ok (.iastore, 1) := by decide +kernel
theorem dX0_orderRings_100 : decode cX0_orderRings 100 = .ok (.aload_n 0, 1) := by decide +kernel
theorem dX0_orderRings_101 : decode cX0_orderRings 101 = .ok (.getfield 43, 3) := by decide +kernel
theorem dX0_orderRings_104 : decode cX0_orderRings 104 = .ok (.aload_n 0, 1) := by decide +kernel
theorem dX0_orderRings_105 : decode cX0_orderRings 105 = .ok (.getfield 100, 3) := by decide +kernel
theorem dX0_orderRings_108 : decode cX0_orderRings 108 = .ok (.iload_n 1, 1) := by decide +kernel
theorem dX0_orderRings_109 : decode cX0_orderRings 109 = .ok (.iastore, 1) := by decide +kernel
theorem dX0_orderRings_110 : decode cX0_orderRings 110 = .ok (.aload_n 0, 1) := by decide +kernel
theorem dX0_orderRings_111 : decode cX0_orderRings 111 = .ok (.dup, 1) := by decide +kernel
theorem dX0_orderRings_112 : decode cX0_orderRings 112 = .ok (.getfield 100, 3) := by decide +kernel
theorem dX0_orderRings_115 : decode cX0_orderRings 115 = .ok (.iconst 1, 1) := by decide +kernel
theorem dX0_orderRings_116 : decode cX0_orderRings 116 = .ok (.iadd, 1) := by decide +kernel
theorem dX0_orderRings_117 : decode cX0_orderRings 117 = .ok (.putfield 100, 3) := by decide +kernel
theorem dX0_orderRings_120 : decode cX0_orderRings 120 = .ok (.iinc 2 1, 3) := by decide +kernel
theorem dX0_orderRings_123 : decode cX0_orderRings 123 = .ok (.goto (-103), 3) := by decide +kernel
theorem dX0_orderRings_126 : decode cX0_orderRings 126 = .ok (.iinc 1 1, 3) := by decide +kernel
theorem dX0_orderRings_129 : decode cX0_orderRings 129 = .ok (.goto (-122), 3) := by decide +kernel
theorem dX0_orderRings_132 : decode cX0_orderRings 132 = .ok (.iconst 0, 1) := by decide +kernel
theorem dX0_orderRings_133 : decode cX0_orderRings 133 = .ok (.istore_n 1, 1) := by decide +kernel
theorem dX0_orderRings_134 : decode cX0_orderRings 134 = .ok (.iload_n 1, 1) := by decide +kernel
theorem dX0_orderRings_135 : decode cX0_orderRings 135 = .ok (.aload_n 0, 1) := by decide +kernel
theorem dX0_orderRings_136 : decode cX0_orderRings 136 = .ok (.getfield 100, 3) := by decide +kernel
theorem dX0_orderRings_139 : decode cX0_orderRings 139 = .ok (.if_icmp .ge 48, 3) := by decide +kernel
theorem dX0_orderRings_142 : decode cX0_orderRings 142 = .ok (.iconst 0, 1) := by decide +kernel
theorem dX0_orderRings_143 : decode cX0_orderRings 143 = .ok (.istore_n 2, 1) := by decide +kernel
theorem dX0_orderRings_144 : decode cX0_orderRings 144 = .ok (.iload_n 2, 1) := by decide +kernel
theorem dX0_orderRings_145 : decode cX0_orderRings 145 = .ok (.aload_n 0, 1) := by decide +kernel
theorem dX0_orderRings_146 : decode cX0_orderRings 146 = .ok (.getfield 9, 3) := by decide +kernel
theorem dX0_orderRings_149 : decode cX0_orderRings 149 = .ok (.getfield 77, 3) := by decide +kernel
theorem dX0_orderRings_152 : decode cX0_orderRings 152 = .ok (.if_icmp .ge 29, 3) := by decide +kernel
theorem dX0_orderRings_155 : decode cX0_orderRings 155 = .ok (.aload_n 0, 1) := by decide +kernel
theorem dX0_orderRings_156 : decode cX0_orderRings 156 = .ok (.getfield 40, 3) := by decide +kernel
theorem dX0_orderRings_159 : decode cX0_orderRings 159 = .ok (.iload_n 1, 1) := by decide +kernel
theorem dX0_orderRings_160 : decode cX0_orderRings 160 = .ok (.iaload, 1) := by decide +kernel
theorem dX0_orderRings_161 : decode cX0_orderRings 161 = .ok (.iload_n 2, 1) := by decide +kernel
theorem dX0_orderRings_162 : decode cX0_orderRings 162 = .ok (.invokestatic 83, 3) := by decide +kernel
theorem dX0_orderRings_165 : decode cX0_orderRings 165 = .ok (.ifCond .eq 10, 3) := by decide +kernel
theorem dX0_orderRings_168 : decode cX0_orderRings 168 = .ok (.aload_n 0, 1) := by decide +kernel
theorem dX0_orderRings_169 : decode cX0_orderRings 169 = .ok (.getfield 25, 3) := by decide +kernel
theorem dX0_orderRings_172 : decode cX0_orderRings 172 = .ok (.iload_n 2, 1) := by decide +kernel
theorem dX0_orderRings_173 : decode cX0_orderRings 173 = .ok (.iload_n 1, 1) := by decide +kernel
theorem dX0_orderRings_174 : decode cX0_orderRings 174 = .ok (.iastore, 1) := by decide +kernel
theorem dX0_orderRings_175 : decode cX0_orderRings 175 = .ok (.iinc 2 1, 3) := by decide +kernel
theorem dX0_orderRings_178 : decode cX0_orderRings 178 = .ok (.goto (-34), 3) := by decide +kernel
theorem dX0_orderRings_181 : decode cX0_orderRings 181 = .ok (.iinc 1 1, 3) := by decide +kernel
theorem dX0_orderRings_184 : decode cX0_orderRings 184 = .ok (.goto (-50), 3) := by decide +kernel
theorem dX0_orderRings_187 : decode cX0_orderRings 187 = .ok (.return_, 1) := by decide +kernel
theorem dX0_payAt_0 : decode cX0_payAt 0 = .ok (.iload_n 1, 1) := by decide +kernel
theorem dX0_payAt_1 : decode cX0_payAt 1 = .ok (.istore_n 2, 1) := by decide +kernel
theorem dX0_payAt_2 : decode cX0_payAt 2 = .ok (.iconst 0, 1) := by decide +kernel
theorem dX0_payAt_3 : decode cX0_payAt 3 = .ok (.istore_n 3, 1) := by decide +kernel
theorem dX0_payAt_4 : decode cX0_payAt 4 = .ok (.iload_n 3, 1) := by decide +kernel
theorem dX0_payAt_5 : decode cX0_payAt 5 = .ok (.aload_n 0, 1) := by decide +kernel
theorem dX0_payAt_6 : decode cX0_payAt 6 = .ok (.getfield 100, 3) := by decide +kernel
theorem dX0_payAt_9 : decode cX0_payAt 9 = .ok (.if_icmp .ge 69, 3) := by decide +kernel
theorem dX0_payAt_12 : decode cX0_payAt 12 = .ok (.aload_n 0, 1) := by decide +kernel
theorem dX0_payAt_13 : decode cX0_payAt 13 = .ok (.getfield 46, 3) := by decide +kernel
theorem dX0_payAt_16 : decode cX0_payAt 16 = .ok (.iload_n 3, 1) := by decide +kernel
theorem dX0_payAt_17 : decode cX0_payAt 17 = .ok (.iload_n 2, 1) := by decide +kernel
theorem dX0_payAt_18 : decode cX0_payAt 18 = .ok (.iastore, 1) := by decide +kernel
theorem dX0_payAt_19 : decode cX0_payAt 19 = .ok (.aload_n 0, 1) := by decide +kernel
theorem dX0_payAt_20 : decode cX0_payAt 20 = .ok (.getfield 49, 3) := by decide +kernel
theorem dX0_payAt_23 : decode cX0_payAt 23 = .ok (.iload_n 3, 1) := by decide +kernel
theorem dX0_payAt_24 : decode cX0_payAt 24 = .ok (.aload_n 0, 1) := by decide +kernel
theorem dX0_payAt_25 : decode cX0_payAt 25 = .ok (.aload_n 0, 1) := by decide +kernel
theorem dX0_payAt_26 : decode cX0_payAt 26 = .ok (.getfield 37, 3) := by decide +kernel
theorem dX0_payAt_29 : decode cX0_payAt 29 = .ok (.iload_n 3, 1) := by decide +kernel
theorem dX0_payAt_30 : decode cX0_payAt 30 = .ok (.iaload, 1) := by decide +kernel
theorem dX0_payAt_31 : decode cX0_payAt 31 = .ok (.invokevirtual 103, 3) := by decide +kernel
theorem dX0_payAt_34 : decode cX0_payAt 34 = .ok (.ifCond .eq 17, 3) := by decide +kernel
theorem dX0_payAt_37 : decode cX0_payAt 37 = .ok (.aload_n 0, 1) := by decide +kernel
theorem dX0_payAt_38 : decode cX0_payAt 38 = .ok (.aload_n 0, 1) := by decide +kernel
theorem dX0_payAt_39 : decode cX0_payAt 39 = .ok (.getfield 37, 3) := by decide +kernel
theorem dX0_payAt_42 : decode cX0_payAt 42 = .ok (.iload_n 3, 1) := by decide +kernel
theorem dX0_payAt_43 : decode cX0_payAt 43 = .ok (.iaload, 1) := by decide +kernel
theorem dX0_payAt_44 : decode cX0_payAt 44 = .ok (.iload_n 2, 1) := by decide +kernel
theorem dX0_payAt_45 : decode cX0_payAt 45 = .ok (.invokevirtual 107, 3) := by decide +kernel
theorem dX0_payAt_48 : decode cX0_payAt 48 = .ok (.goto 14, 3) := by decide +kernel
theorem dX0_payAt_51 : decode cX0_payAt 51 = .ok (.aload_n 0, 1) := by decide +kernel
theorem dX0_payAt_52 : decode cX0_payAt 52 = .ok (.aload_n 0, 1) := by decide +kernel
theorem dX0_payAt_53 : decode cX0_payAt 53 = .ok (.getfield 40, 3) := by decide +kernel
theorem dX0_payAt_56 : decode cX0_payAt 56 = .ok (.iload_n 3, 1) := by decide +kernel
theorem dX0_payAt_57 : decode cX0_payAt 57 = .ok (.iaload, 1) := by decide +kernel
theorem dX0_payAt_58 : decode cX0_payAt 58 = .ok (.iload_n 2, 1) := by decide +kernel
theorem dX0_payAt_59 : decode cX0_payAt 59 = .ok (.invokevirtual 110, 3) := by decide +kernel
theorem dX0_payAt_62 : decode cX0_payAt 62 = .ok (.iastore, 1) := by decide +kernel
theorem dX0_payAt_63 : decode cX0_payAt 63 = .ok (.iload_n 2, 1) := by decide +kernel
theorem dX0_payAt_64 : decode cX0_payAt 64 = .ok (.aload_n 0, 1) := by decide +kernel
theorem dX0_payAt_65 : decode cX0_payAt 65 = .ok (.getfield 49, 3) := by decide +kernel
theorem dX0_payAt_68 : decode cX0_payAt 68 = .ok (.iload_n 3, 1) := by decide +kernel
theorem dX0_payAt_69 : decode cX0_payAt 69 = .ok (.iaload, 1) := by decide +kernel
theorem dX0_payAt_70 : decode cX0_payAt 70 = .ok (.isub, 1) := by decide +kernel
theorem dX0_payAt_71 : decode cX0_payAt 71 = .ok (.istore_n 2, 1) := by decide +kernel
theorem dX0_payAt_72 : decode cX0_payAt 72 = .ok (.iinc 3 1, 3) := by decide +kernel
theorem dX0_payAt_75 : decode cX0_payAt 75 = .ok (.goto (-71), 3) := by decide +kernel
theorem dX0_payAt_78 : decode cX0_payAt 78 = .ok (.aload_n 0, 1) := by decide +kernel
theorem dX0_payAt_79 : decode cX0_payAt 79 = .ok (.iload_n 1, 1) := by decide +kernel
theorem dX0_payAt_80 : decode cX0_payAt 80 = .ok (.iload_n 2, 1) := by decide +kernel
theorem dX0_payAt_81 : decode cX0_payAt 81 = .ok (.isub, 1) := by decide +kernel
theorem dX0_payAt_82 : decode cX0_payAt 82 = .ok (.putfield 113, 3) := by decide +kernel
theorem dX0_payAt_85 : decode cX0_payAt 85 = .ok (.aload_n 0, 1) := by decide +kernel
theorem dX0_payAt_86 : decode cX0_payAt 86 = .ok (.iload_n 2, 1) := by decide +kernel
theorem dX0_payAt_87 : decode cX0_payAt 87 = .ok (.putfield 116, 3) := by decide +kernel
theorem dX0_payAt_90 : decode cX0_payAt 90 = .ok (.return_, 1) := by decide +kernel
theorem dX0_payAlone_0 : decode cX0_payAlone 0 = .ok (.aload_n 0, 1) := by decide +kernel
theorem dX0_payAlone_1 : decode cX0_payAlone 1 = .ok (.getfield 31, 3) := by decide +kernel
theorem dX0_payAlone_4 : decode cX0_payAlone 4 = .ok (.iload_n 1, 1) := by decide +kernel
theorem dX0_payAlone_5 : decode cX0_payAlone 5 = .ok (.aload_n 0, 1) := by decide +kernel
theorem dX0_payAlone_6 : decode cX0_payAlone 6 = .ok (.iload_n 1, 1) := by decide +kernel
theorem dX0_payAlone_7 : decode cX0_payAlone 7 = .ok (.invokevirtual 119, 3) := by decide +kernel
theorem dX0_payAlone_10 : decode cX0_payAlone 10 = .ok (.ifCond .eq 7, 3) := by decide +kernel
theorem dX0_payAlone_13 : decode cX0_payAlone 13 = .ok (.iconst 0, 1) := by decide +kernel
theorem dX0_payAlone_14 : decode cX0_payAlone 14 = .ok (.goto 9, 3) := by decide +kernel
theorem dX0_payAlone_17 : decode cX0_payAlone 17 = .ok (.aload_n 0, 1) := by decide +kernel
theorem dX0_payAlone_18 : decode cX0_payAlone 18 = .ok (.iload_n 1, 1) := by decide +kernel
theorem dX0_payAlone_19 : decode cX0_payAlone 19 = .ok (.iload_n 2, 1) := by decide +kernel
theorem dX0_payAlone_20 : decode cX0_payAlone 20 = .ok (.invokevirtual 122, 3) := by decide +kernel
theorem dX0_payAlone_23 : decode cX0_payAlone 23 = .ok (.iastore, 1) := by decide +kernel
theorem dX0_payAlone_24 : decode cX0_payAlone 24 = .ok (.aload_n 0, 1) := by decide +kernel
theorem dX0_payAlone_25 : decode cX0_payAlone 25 = .ok (.getfield 31, 3) := by decide +kernel
theorem dX0_payAlone_28 : decode cX0_payAlone 28 = .ok (.iload_n 1, 1) := by decide +kernel
theorem dX0_payAlone_29 : decode cX0_payAlone 29 = .ok (.iaload, 1) := by decide +kernel
theorem dX0_payAlone_30 : decode cX0_payAlone 30 = .ok (.ireturn, 1) := by decide +kernel
theorem dX0_payByTurns_0 : decode cX0_payByTurns 0 = .ok (.iconst 0, 1) := by decide +kernel
theorem dX0_payByTurns_1 : decode cX0_payByTurns 1 = .ok (.istore_n 3, 1) := by decide +kernel
theorem dX0_payByTurns_2 : decode cX0_payByTurns 2 = .ok (.iload_n 3, 1) := by decide +kernel
theorem dX0_payByTurns_3 : decode cX0_payByTurns 3 = .ok (.aload_n 0, 1) := by decide +kernel
theorem dX0_payByTurns_4 : decode cX0_payByTurns 4 = .ok (.getfield 9, 3) := by decide +kernel
theorem dX0_payByTurns_7 : decode cX0_payByTurns 7 = .ok (.getfield 77, 3) := by decide +kernel
theorem dX0_payByTurns_10 : decode cX0_payByTurns 10 = .ok (.if_icmp .ge 29, 3) := by decide +kernel
theorem dX0_payByTurns_13 : decode cX0_payByTurns 13 = .ok (.iload_n 1, 1) := by decide +kernel
theorem dX0_payByTurns_14 : decode cX0_payByTurns 14 = .ok (.iload_n 3, 1) := by decide +kernel
theorem dX0_payByTurns_15 : decode cX0_payByTurns 15 = .ok (.invokestatic 83, 3) := by decide +kernel
theorem dX0_payByTurns_18 : decode cX0_payByTurns 18 = .ok (.ifCond .eq 15, 3) := by decide +kernel
theorem dX0_payByTurns_21 : decode cX0_payByTurns 21 = .ok (.aload_n 0, 1) := by decide +kernel
theorem dX0_payByTurns_22 : decode cX0_payByTurns 22 = .ok (.getfield 28, 3) := by decide +kernel
theorem dX0_payByTurns_25 : decode cX0_payByTurns 25 = .ok (.iload_n 3, 1) := by decide +kernel
theorem dX0_payByTurns_26 : decode cX0_payByTurns 26 = .ok (.aload_n 0, 1) := by decide +kernel
theorem dX0_payByTurns_27 : decode cX0_payByTurns 27 = .ok (.iload_n 3, 1) := by decide +kernel
theorem dX0_payByTurns_28 : decode cX0_payByTurns 28 = .ok (.iload_n 2, 1) := by decide +kernel
theorem dX0_payByTurns_29 : decode cX0_payByTurns 29 = .ok (.invokevirtual 122, 3) := by decide +kernel
theorem dX0_payByTurns_32 : decode cX0_payByTurns 32 = .ok (.iastore, 1) := by decide +kernel
theorem dX0_payByTurns_33 : decode cX0_payByTurns 33 = .ok (.iinc 3 1, 3) := by decide +kernel
theorem dX0_payByTurns_36 : decode cX0_payByTurns 36 = .ok (.goto (-34), 3) := by decide +kernel
theorem dX0_payByTurns_39 : decode cX0_payByTurns 39 = .ok (.aload_n 0, 1) := by decide +kernel
theorem dX0_payByTurns_40 : decode cX0_payByTurns 40 = .ok (.iload_n 2, 1) := by decide +kernel
theorem dX0_payByTurns_41 : decode cX0_payByTurns 41 = .ok (.iload_n 1, 1) := by decide +kernel
theorem dX0_payByTurns_42 : decode cX0_payByTurns 42 = .ok (.aload_n 0, 1) := by decide +kernel
theorem dX0_payByTurns_43 : decode cX0_payByTurns 43 = .ok (.getfield 28, 3) := by decide +kernel
theorem dX0_payByTurns_46 : decode cX0_payByTurns 46 = .ok (.aload_n 0, 1) := by decide +kernel
theorem dX0_payByTurns_47 : decode cX0_payByTurns 47 = .ok (.getfield 31, 3) := by decide +kernel
theorem dX0_payByTurns_50 : decode cX0_payByTurns 50 = .ok (.invokevirtual 125, 3) := by decide +kernel
theorem dX0_payByTurns_53 : decode cX0_payByTurns 53 = .ok (.ireturn, 1) := by decide +kernel
theorem dX0_isAlone_0 : decode cX0_isAlone 0 = .ok (.aload_n 0, 1) := by decide +kernel
theorem dX0_isAlone_1 : decode cX0_isAlone 1 = .ok (.getfield 19, 3) := by decide +kernel
theorem dX0_isAlone_4 : decode cX0_isAlone 4 = .ok (.iload_n 1, 1) := by decide +kernel
theorem dX0_isAlone_5 : decode cX0_isAlone 5 = .ok (.iaload, 1) := by decide +kernel
theorem dX0_isAlone_6 : decode cX0_isAlone 6 = .ok (.iconst 1, 1) := by decide +kernel
theorem dX0_isAlone_7 : decode cX0_isAlone 7 = .ok (.iload_n 1, 1) := by decide +kernel
theorem dX0_isAlone_8 : decode cX0_isAlone 8 = .ok (.ishl, 1) := by decide +kernel
theorem dX0_isAlone_9 : decode cX0_isAlone 9 = .ok (.if_icmp .ne 7, 3) := by decide +kernel
theorem dX0_isAlone_12 : decode cX0_isAlone 12 = .ok (.iconst 1, 1) := by decide +kernel
theorem dX0_isAlone_13 : decode cX0_isAlone 13 = .ok (.goto 4, 3) := by decide +kernel
theorem dX0_isAlone_16 : decode cX0_isAlone 16 = .ok (.iconst 0, 1) := by decide +kernel
theorem dX0_isAlone_17 : decode cX0_isAlone 17 = .ok (.ireturn, 1) := by decide +kernel
theorem dX0_isEscaped_0 : decode cX0_isEscaped 0 = .ok (.aload_n 0, 1) := by decide +kernel
theorem dX0_isEscaped_1 : decode cX0_isEscaped 1 = .ok (.getfield 9, 3) := by decide +kernel
theorem dX0_isEscaped_4 : decode cX0_isEscaped 4 = .ok (.getfield 129, 3) := by decide +kernel
theorem dX0_isEscaped_7 : decode cX0_isEscaped 7 = .ok (.iload_n 1, 1) := by decide +kernel
theorem dX0_isEscaped_8 : decode cX0_isEscaped 8 = .ok (.iaload, 1) := by decide +kernel
theorem dX0_isEscaped_9 : decode cX0_isEscaped 9 = .ok (.iconst 2, 1) := by decide +kernel
theorem dX0_isEscaped_10 : decode cX0_isEscaped 10 = .ok (.if_icmp .ne 33, 3) := by decide +kernel
theorem dX0_isEscaped_13 : decode cX0_isEscaped 13 = .ok (.aload_n 0, 1) := by decide +kernel
theorem dX0_isEscaped_14 : decode cX0_isEscaped 14 = .ok (.iload_n 1, 1) := by decide +kernel
theorem dX0_isEscaped_15 : decode cX0_isEscaped 15 = .ok (.invokevirtual 103, 3) := by decide +kernel
theorem dX0_isEscaped_18 : decode cX0_isEscaped 18 = .ok (.ifCond .eq 25, 3) := by decide +kernel
theorem dX0_isEscaped_21 : decode cX0_isEscaped 21 = .ok (.aload_n 0, 1) := by decide +kernel
theorem dX0_isEscaped_22 : decode cX0_isEscaped 22 = .ok (.aload_n 0, 1) := by decide +kernel
theorem dX0_isEscaped_23 : decode cX0_isEscaped 23 = .ok (.getfield 9, 3) := by decide +kernel
theorem dX0_isEscaped_26 : decode cX0_isEscaped 26 = .ok (.getfield 80, 3) := by decide +kernel
theorem dX0_isEscaped_29 : decode cX0_isEscaped 29 = .ok (.iload_n 1, 1) := by decide +kernel
theorem dX0_isEscaped_30 : decode cX0_isEscaped 30 = .ok (.iaload, 1) := by decide +kernel
theorem dX0_isEscaped_31 : decode cX0_isEscaped 31 = .ok (.invokevirtual 132, 3) := by decide +kernel
theorem dX0_isEscaped_34 : decode cX0_isEscaped 34 = .ok (.bipush (-5), 2) := by decide +kernel
theorem dX0_isEscaped_36 : decode cX0_isEscaped 36 = .ok (.if_icmp .eq 7, 3) := by decide +kernel
theorem dX0_isEscaped_39 : decode cX0_isEscaped 39 = .ok (.iconst 1, 1) := by decide +kernel
theorem dX0_isEscaped_40 : decode cX0_isEscaped 40 = .ok (.goto 4, 3) := by decide +kernel
theorem dX0_isEscaped_43 : decode cX0_isEscaped 43 = .ok (.iconst 0, 1) := by decide +kernel
theorem dX0_isEscaped_44 : decode cX0_isEscaped 44 = .ok (.ireturn, 1) := by decide +kernel
theorem dX0_firstPayer_0 : decode cX0_firstPayer 0 = .ok (.iconst 0, 1) := by decide +kernel
theorem dX0_firstPayer_1 : decode cX0_firstPayer 1 = .ok (.istore_n 2, 1) := by decide +kernel
theorem dX0_firstPayer_2 : decode cX0_firstPayer 2 = .ok (.iload_n 2, 1) := by decide +kernel
theorem dX0_firstPayer_3 : decode cX0_firstPayer 3 = .ok (.aload_n 0, 1) := by decide +kernel
theorem dX0_firstPayer_4 : decode cX0_firstPayer 4 = .ok (.getfield 9, 3) := by decide +kernel
theorem dX0_firstPayer_7 : decode cX0_firstPayer 7 = .ok (.getfield 77, 3) := by decide +kernel
theorem dX0_firstPayer_10 : decode cX0_firstPayer 10 = .ok (.if_icmp .ge 28, 3) := by decide +kernel
theorem dX0_firstPayer_13 : decode cX0_firstPayer 13 = .ok (.iload_n 1, 1) := by decide +kernel
theorem dX0_firstPayer_14 : decode cX0_firstPayer 14 = .ok (.iload_n 2, 1) := by decide +kernel
theorem dX0_firstPayer_15 : decode cX0_firstPayer 15 = .ok (.invokestatic 83, 3) := by decide +kernel
theorem dX0_firstPayer_18 : decode cX0_firstPayer 18 = .ok (.ifCond .eq 14, 3) := by decide +kernel
theorem dX0_firstPayer_21 : decode cX0_firstPayer 21 = .ok (.aload_n 0, 1) := by decide +kernel
theorem dX0_firstPayer_22 : decode cX0_firstPayer 22 = .ok (.getfield 31, 3) := by decide +kernel
theorem dX0_firstPayer_25 : decode cX0_firstPayer 25 = .ok (.iload_n 2, 1) := by decide +kernel
theorem dX0_firstPayer_26 : decode cX0_firstPayer 26 = .ok (.iaload, 1) := by decide +kernel
theorem dX0_firstPayer_27 : decode cX0_firstPayer 27 = .ok (.ifCond .le 5, 3) := by decide +kernel
theorem dX0_firstPayer_30 : decode cX0_firstPayer 30 = .ok (.iload_n 2, 1) := by decide +kernel
theorem dX0_firstPayer_31 : decode cX0_firstPayer 31 = .ok (.ireturn, 1) := by decide +kernel
theorem dX0_firstPayer_32 : decode cX0_firstPayer 32 = .ok (.iinc 2 1, 3) := by decide +kernel
theorem dX0_firstPayer_35 : decode cX0_firstPayer 35 = .ok (.goto (-33), 3) := by decide +kernel
theorem dX0_firstPayer_38 : decode cX0_firstPayer 38 = .ok (.bipush (-5), 2) := by decide +kernel
theorem dX0_firstPayer_40 : decode cX0_firstPayer 40 = .ok (.ireturn, 1) := by decide +kernel
theorem dX0_shareOf_0 : decode cX0_shareOf 0 = .ok (.aload_n 0, 1) := by decide +kernel
theorem dX0_shareOf_1 : decode cX0_shareOf 1 = .ok (.getfield 9, 3) := by decide +kernel
theorem dX0_shareOf_4 : decode cX0_shareOf 4 = .ok (.getfield 129, 3) := by decide +kernel
theorem dX0_shareOf_7 : decode cX0_shareOf 7 = .ok (.iload_n 1, 1) := by decide +kernel
theorem dX0_shareOf_8 : decode cX0_shareOf 8 = .ok (.iaload, 1) := by decide +kernel
theorem dX0_shareOf_9 : decode cX0_shareOf 9 = .ok (.iconst 1, 1) := by decide +kernel
theorem dX0_shareOf_10 : decode cX0_shareOf 10 = .ok (.if_icmp .ne 20, 3) := by decide +kernel
theorem dX0_shareOf_13 : decode cX0_shareOf 13 = .ok (.iload_n 2, 1) := by decide +kernel
theorem dX0_shareOf_14 : decode cX0_shareOf 14 = .ok (.aload_n 0, 1) := by decide +kernel
theorem dX0_shareOf_15 : decode cX0_shareOf 15 = .ok (.getfield 9, 3) := by decide +kernel
theorem dX0_shareOf_18 : decode cX0_shareOf 18 = .ok (.getfield 135, 3) := by decide +kernel
theorem dX0_shareOf_21 : decode cX0_shareOf 21 = .ok (.iload_n 1, 1) := by decide +kernel
theorem dX0_shareOf_22 : decode cX0_shareOf 22 = .ok (.iaload, 1) := by decide +kernel
theorem dX0_shareOf_23 : decode cX0_shareOf 23 = .ok (.imul, 1) := by decide +kernel
theorem dX0_shareOf_24 : decode cX0_shareOf 24 = .ok (.bipush 100, 2) := by decide +kernel
theorem dX0_shareOf_26 : decode cX0_shareOf 26 = .ok (.idiv, 1) := by decide +kernel
theorem dX0_shareOf_27 : decode cX0_shareOf 27 = .ok (.goto 4, 3) := by decide +kernel
theorem dX0_shareOf_30 : decode cX0_shareOf 30 = .ok (.iload_n 2, 1) := by decide +kernel
theorem dX0_shareOf_31 : decode cX0_shareOf 31 = .ok (.ireturn, 1) := by decide +kernel
theorem dX0_mostOf_0 : decode cX0_mostOf 0 = .ok (.aload_n 0, 1) := by decide +kernel
theorem dX0_mostOf_1 : decode cX0_mostOf 1 = .ok (.iload_n 1, 1) := by decide +kernel
theorem dX0_mostOf_2 : decode cX0_mostOf 2 = .ok (.iload_n 2, 1) := by decide +kernel
theorem dX0_mostOf_3 : decode cX0_mostOf 3 = .ok (.invokevirtual 138, 3) := by decide +kernel
theorem dX0_mostOf_6 : decode cX0_mostOf 6 = .ok (.istore_n 3, 1) := by decide +kernel
theorem dX0_mostOf_7 : decode cX0_mostOf 7 = .ok (.iload_n 3, 1) := by decide +kernel
theorem dX0_mostOf_8 : decode cX0_mostOf 8 = .ok (.aload_n 0, 1) := by decide +kernel
theorem dX0_mostOf_9 : decode cX0_mostOf 9 = .ok (.getfield 9, 3) := by decide +kernel
theorem dX0_mostOf_12 : decode cX0_mostOf 12 = .ok (.getfield 141, 3) := by decide +kernel
theorem dX0_mostOf_15 : decode cX0_mostOf 15 = .ok (.iload_n 1, 1) := by decide +kernel
theorem dX0_mostOf_16 : decode cX0_mostOf 16 = .ok (.iaload, 1) := by decide +kernel
theorem dX0_mostOf_17 : decode cX0_mostOf 17 = .ok (.if_icmp .gt 5, 3) := by decide +kernel
theorem dX0_mostOf_20 : decode cX0_mostOf 20 = .ok (.iconst 0, 1) := by decide +kernel
theorem dX0_mostOf_21 : decode cX0_mostOf 21 = .ok (.ireturn, 1) := by decide +kernel
theorem dX0_mostOf_22 : decode cX0_mostOf 22 = .ok (.aload_n 0, 1) := by decide +kernel
theorem dX0_mostOf_23 : decode cX0_mostOf 23 = .ok (.getfield 9, 3) := by decide +kernel
theorem dX0_mostOf_26 : decode cX0_mostOf 26 = .ok (.getfield 129, 3) := by decide +kernel
theorem dX0_mostOf_29 : decode cX0_mostOf 29 = .ok (.iload_n 1, 1) := by decide +kernel
theorem dX0_mostOf_30 : decode cX0_mostOf 30 = .ok (.iaload, 1) := by decide +kernel
theorem dX0_mostOf_31 : decode cX0_mostOf 31 = .ok (.iconst 3, 1) := by decide +kernel
theorem dX0_mostOf_32 : decode cX0_mostOf 32 = .ok (.if_icmp .ne 7, 3) := by decide +kernel
theorem dX0_mostOf_35 : decode cX0_mostOf 35 = .ok (.iload_n 2, 1) := by decide +kernel
theorem dX0_mostOf_36 : decode cX0_mostOf 36 = .ok (.goto 14, 3) := by decide +kernel
theorem dX0_mostOf_39 : decode cX0_mostOf 39 = .ok (.iload_n 3, 1) := by decide +kernel
theorem dX0_mostOf_40 : decode cX0_mostOf 40 = .ok (.aload_n 0, 1) := by decide +kernel
theorem dX0_mostOf_41 : decode cX0_mostOf 41 = .ok (.getfield 9, 3) := by decide +kernel
theorem dX0_mostOf_44 : decode cX0_mostOf 44 = .ok (.getfield 141, 3) := by decide +kernel
theorem dX0_mostOf_47 : decode cX0_mostOf 47 = .ok (.iload_n 1, 1) := by decide +kernel
theorem dX0_mostOf_48 : decode cX0_mostOf 48 = .ok (.iaload, 1) := by decide +kernel
theorem dX0_mostOf_49 : decode cX0_mostOf 49 = .ok (.isub, 1) := by decide +kernel
theorem dX0_mostOf_50 : decode cX0_mostOf 50 = .ok (.istore 4, 2) := by decide +kernel
theorem dX0_mostOf_52 : decode cX0_mostOf 52 = .ok (.iload 4, 2) := by decide +kernel
theorem dX0_mostOf_54 : decode cX0_mostOf 54 = .ok (.aload_n 0, 1) := by decide +kernel
theorem dX0_mostOf_55 : decode cX0_mostOf 55 = .ok (.getfield 9, 3) := by decide +kernel
theorem dX0_mostOf_58 : decode cX0_mostOf 58 = .ok (.getfield 144, 3) := by decide +kernel
theorem dX0_mostOf_61 : decode cX0_mostOf 61 = .ok (.iload_n 1, 1) := by decide +kernel
theorem dX0_mostOf_62 : decode cX0_mostOf 62 = .ok (.iaload, 1) := by decide +kernel
theorem dX0_mostOf_63 : decode cX0_mostOf 63 = .ok (.invokestatic 147, 3) := by decide +kernel
theorem dX0_mostOf_66 : decode cX0_mostOf 66 = .ok (.ireturn, 1) := by decide +kernel
theorem dX0_deal_0 : decode cX0_deal 0 = .ok (.iconst 0, 1) := by decide +kernel
theorem dX0_deal_1 : decode cX0_deal 1 = .ok (.istore 5, 2) := by decide +kernel
theorem dX0_deal_3 : decode cX0_deal 3 = .ok (.iload 5, 2) := by decide +kernel
theorem dX0_deal_5 : decode cX0_deal 5 = .ok (.aload_n 0, 1) := by decide +kernel
theorem dX0_deal_6 : decode cX0_deal 6 = .ok (.getfield 9, 3) := by decide +kernel
theorem dX0_deal_9 : decode cX0_deal 9 = .ok (.getfield 77, 3) := by decide +kernel
theorem dX0_deal_12 : decode cX0_deal 12 = .ok (.if_icmp .ge 24, 3) := by decide +kernel
theorem dX0_deal_15 : decode cX0_deal 15 = .ok (.iload_n 2, 1) := by decide +kernel
theorem dX0_deal_16 : decode cX0_deal 16 = .ok (.iload 5, 2) := by decide +kernel
theorem dX0_deal_18 : decode cX0_deal 18 = .ok (.invokestatic 83, 3) := by decide +kernel
theorem dX0_deal_21 : decode cX0_deal 21 = .ok (.ifCond .eq 9, 3) := by decide +kernel
theorem dX0_deal_24 : decode cX0_deal 24 = .ok (.aload 4, 2) := by decide +kernel
theorem dX0_deal_26 : decode cX0_deal 26 = .ok (.iload 5, 2) := by decide +kernel
theorem dX0_deal_28 : decode cX0_deal 28 = .ok (.iconst 0, 1) := by decide +kernel
theorem dX0_deal_29 : decode cX0_deal 29 = .ok (.iastore, 1) := by decide +kernel
theorem dX0_deal_30 : decode cX0_deal 30 = .ok (.iinc 5 1, 3) := by decide +kernel
theorem dX0_deal_33 : decode cX0_deal 33 = .ok (.goto (-30), 3) := by decide +kernel
theorem dX0_deal_36 : decode cX0_deal 36 = .ok (.iload_n 1, 1) := by decide +kernel
theorem dX0_deal_37 : decode cX0_deal 37 = .ok (.istore 5, 2) := by decide +kernel
theorem dX0_deal_39 : decode cX0_deal 39 = .ok (.iconst 0, 1) := by decide +kernel
theorem dX0_deal_40 : decode cX0_deal 40 = .ok (.istore 6, 2) := by decide +kernel
theorem dX0_deal_42 : decode cX0_deal 42 = .ok (.iload 6, 2) := by decide +kernel
theorem dX0_deal_44 : decode cX0_deal 44 = .ok (.bipush 6, 2) := by decide +kernel
theorem dX0_deal_46 : decode cX0_deal 46 = .ok (.if_icmp .ge 167, 3) := by decide +kernel
theorem dX0_deal_49 : decode cX0_deal 49 = .ok (.iload 5, 2) := by decide +kernel
theorem dX0_deal_51 : decode cX0_deal 51 = .ok (.ifCond .le 162, 3) := by decide +kernel
theorem dX0_deal_54 : decode cX0_deal 54 = .ok (.aload_n 0, 1) := by decide +kernel
theorem dX0_deal_55 : decode cX0_deal 55 = .ok (.iload_n 2, 1) := by decide +kernel
theorem dX0_deal_56 : decode cX0_deal 56 = .ok (.aload_n 3, 1) := by decide +kernel
theorem dX0_deal_57 : decode cX0_deal 57 = .ok (.aload 4, 2) := by decide +kernel
theorem dX0_deal_59 : decode cX0_deal 59 = .ok (.invokevirtual 150, 3) := by decide +kernel
theorem dX0_deal_62 : decode cX0_deal 62 = .ok (.istore 7, 2) := by decide +kernel
theorem dX0_deal_64 : decode cX0_deal 64 = .ok (.iload 7, 2) := by decide +kernel
theorem dX0_deal_66 : decode cX0_deal 66 = .ok (.invokestatic 154, 3) := by decide +kernel
theorem dX0_deal_69 : decode cX0_deal 69 = .ok (.istore 8, 2) := by decide +kernel
theorem dX0_deal_71 : decode cX0_deal 71 = .ok (.iload 8, 2) := by decide +kernel
theorem dX0_deal_73 : decode cX0_deal 73 = .ok (.ifCond .ne 6, 3) := by decide +kernel
theorem dX0_deal_76 : decode cX0_deal 76 = .ok (.goto 137, 3) := by decide +kernel
theorem dX0_deal_79 : decode cX0_deal 79 = .ok (.aload_n 0, 1) := by decide +kernel
theorem dX0_deal_80 : decode cX0_deal 80 = .ok (.iload 7, 2) := by decide +kernel
theorem dX0_deal_82 : decode cX0_deal 82 = .ok (.aload_n 3, 1) := by decide +kernel
theorem dX0_deal_83 : decode cX0_deal 83 = .ok (.aload 4, 2) := by decide +kernel
theorem dX0_deal_85 : decode cX0_deal 85 = .ok (.invokevirtual 159, 3) := by decide +kernel
theorem dX0_deal_88 : decode cX0_deal 88 = .ok (.iload 5, 2) := by decide +kernel
theorem dX0_deal_90 : decode cX0_deal 90 = .ok (.iload 8, 2) := by decide +kernel
theorem dX0_deal_92 : decode cX0_deal 92 = .ok (.idiv, 1) := by decide +kernel
theorem dX0_deal_93 : decode cX0_deal 93 = .ok (.invokestatic 147, 3) := by decide +kernel
theorem dX0_deal_96 : decode cX0_deal 96 = .ok (.istore 9, 2) := by decide +kernel
theorem dX0_deal_98 : decode cX0_deal 98 = .ok (.iload 9, 2) := by decide +kernel
theorem dX0_deal_100 : decode cX0_deal 100 = .ok (.iload 5, 2) := by decide +kernel
theorem dX0_deal_102 : decode cX0_deal 102 = .ok (.iload 8, 2) := by decide +kernel
theorem dX0_deal_104 : decode cX0_deal 104 = .ok (.idiv, 1) := by decide +kernel
theorem dX0_deal_105 : decode cX0_deal 105 = .ok (.if_icmp .ne 11, 3) := by decide +kernel
theorem dX0_deal_108 : decode cX0_deal 108 = .ok (.iload 5, 2) := by decide +kernel
theorem dX0_deal_110 : decode cX0_deal 110 = .ok (.iload 8, 2) := by decide +kernel
theorem dX0_deal_112 : decode cX0_deal 112 = .ok (.irem, 1) := by decide +kernel
theorem dX0_deal_113 : decode cX0_deal 113 = .ok (.goto 4, 3) := by decide +kernel
theorem dX0_deal_116 : decode cX0_deal 116 = .ok (.iconst 0, 1) := by decide +kernel
theorem dX0_deal_117 : decode cX0_deal 117 = .ok (.istore 10, 2) := by decide +kernel
theorem dX0_deal_119 : decode cX0_deal 119 = .ok (.iconst 0, 1) := by decide +kernel
theorem dX0_deal_120 : decode cX0_deal 120 = .ok (.istore 11, 2) := by decide +kernel
theorem dX0_deal_122 : decode cX0_deal 122 = .ok (.iload 11, 2) := by decide +kernel
theorem dX0_deal_124 : decode cX0_deal 124 = .ok (.aload_n 0, 1) := by decide +kernel
theorem dX0_deal_125 : decode cX0_deal 125 = .ok (.getfield 9, 3) := by decide +kernel
theorem dX0_deal_128 : decode cX0_deal 128 = .ok (.getfield 77, 3) := by decide +kernel
theorem dX0_deal_131 : decode cX0_deal 131 = .ok (.if_icmp .ge 76, 3) := by decide +kernel
theorem dX0_deal_134 : decode cX0_deal 134 = .ok (.iload 7, 2) := by decide +kernel
theorem dX0_deal_136 : decode cX0_deal 136 = .ok (.iload 11, 2) := by decide +kernel
theorem dX0_deal_138 : decode cX0_deal 138 = .ok (.invokestatic 83, 3) := by decide +kernel
theorem dX0_deal_141 : decode cX0_deal 141 = .ok (.ifCond .eq 60, 3) := by decide +kernel
theorem dX0_deal_144 : decode cX0_deal 144 = .ok (.iload 10, 2) := by decide +kernel
theorem dX0_deal_146 : decode cX0_deal 146 = .ok (.ifCond .le 22, 3) := by decide +kernel
theorem dX0_deal_149 : decode cX0_deal 149 = .ok (.aload 4, 2) := by decide +kernel
theorem dX0_deal_151 : decode cX0_deal 151 = .ok (.iload 11, 2) := by decide +kernel
theorem dX0_deal_153 : decode cX0_deal 153 = .ok (.iaload, 1) := by decide +kernel
theorem dX0_deal_154 : decode cX0_deal 154 = .ok (.iload 9, 2) := by decide +kernel
theorem dX0_deal_156 : decode cX0_deal 156 = .ok (.iadd, 1) := by decide +kernel
theorem dX0_deal_157 : decode cX0_deal 157 = .ok (.aload_n 3, 1) := by decide +kernel
theorem dX0_deal_158 : decode cX0_deal 158 = .ok (.iload 11, 2) := by decide +kernel
theorem dX0_deal_160 : decode cX0_deal 160 = .ok (.iaload, 1) := by decide +kernel
theorem dX0_deal_161 : decode cX0_deal 161 = .ok (.if_icmp .ge 7, 3) := by decide +kernel
theorem dX0_deal_164 : decode cX0_deal 164 = .ok (.iconst 1, 1) := by decide +kernel
theorem dX0_deal_165 : decode cX0_deal 165 = .ok (.goto 4, 3) := by decide +kernel
theorem dX0_deal_168 : decode cX0_deal 168 = .ok (.iconst 0, 1) := by decide +kernel
theorem dX0_deal_169 : decode cX0_deal 169 = .ok (.istore 12, 2) := by decide +kernel
theorem dX0_deal_171 : decode cX0_deal 171 = .ok (.aload 4, 2) := by decide +kernel
theorem dX0_deal_173 : decode cX0_deal 173 = .ok (.iload 11, 2) := by decide +kernel
theorem dX0_deal_175 : decode cX0_deal 175 = .ok (.dup2, 1) := by decide +kernel
theorem dX0_deal_176 : decode cX0_deal 176 = .ok (.iaload, 1) := by decide +kernel
theorem dX0_deal_177 : decode cX0_deal 177 = .ok (.iload 9, 2) := by decide +kernel
theorem dX0_deal_179 : decode cX0_deal 179 = .ok (.iload 12, 2) := by decide +kernel
theorem dX0_deal_181 : decode cX0_deal 181 = .ok (.iadd, 1) := by decide +kernel
theorem dX0_deal_182 : decode cX0_deal 182 = .ok (.iadd, 1) := by decide +kernel
theorem dX0_deal_183 : decode cX0_deal 183 = .ok (.iastore, 1) := by decide +kernel
theorem dX0_deal_184 : decode cX0_deal 184 = .ok (.iload 5, 2) := by decide +kernel
theorem dX0_deal_186 : decode cX0_deal 186 = .ok (.iload 9, 2) := by decide +kernel
theorem dX0_deal_188 : decode cX0_deal 188 = .ok (.iload 12, 2) := by decide +kernel
theorem dX0_deal_190 : decode cX0_deal 190 = .ok (.iadd, 1) := by decide +kernel
theorem dX0_deal_191 : decode cX0_deal 191 = .ok (.isub, 1) := by decide +kernel
theorem dX0_deal_192 : decode cX0_deal 192 = .ok (.istore 5, 2) := by decide +kernel
theorem dX0_deal_194 : decode cX0_deal 194 = .ok (.iload 10, 2) := by decide +kernel
theorem dX0_deal_196 : decode cX0_deal 196 = .ok (.iload 12, 2) := by decide +kernel
theorem dX0_deal_198 : decode cX0_deal 198 = .ok (.isub, 1) := by decide +kernel
theorem dX0_deal_199 : decode cX0_deal 199 = .ok (.istore 10, 2) := by decide +kernel
theorem dX0_deal_201 : decode cX0_deal 201 = .ok (.iinc 11 1, 3) := by decide +kernel
theorem dX0_deal_204 : decode cX0_deal 204 = .ok (.goto (-82), 3) := by decide +kernel
theorem dX0_deal_207 : decode cX0_deal 207 = .ok (.iinc 6 1, 3) := by decide +kernel
theorem dX0_deal_210 : decode cX0_deal 210 = .ok (.goto (-168), 3) := by decide +kernel
theorem dX0_deal_213 : decode cX0_deal 213 = .ok (.iload_n 1, 1) := by decide +kernel
theorem dX0_deal_214 : decode cX0_deal 214 = .ok (.iload 5, 2) := by decide +kernel
theorem dX0_deal_216 : decode cX0_deal 216 = .ok (.isub, 1) := by decide +kernel
theorem dX0_deal_217 : decode cX0_deal 217 = .ok (.ireturn, 1) := by decide +kernel
theorem dX0_openOnes_0 : decode cX0_openOnes 0 = .ok (.iconst 0, 1) := by decide +kernel
theorem dX0_openOnes_1 : decode cX0_openOnes 1 = .ok (.istore 4, 2) := by decide +kernel
theorem dX0_openOnes_3 : decode cX0_openOnes 3 = .ok (.iconst 0, 1) := by decide +kernel
theorem dX0_openOnes_4 : decode cX0_openOnes 4 = .ok (.istore 5, 2) := by decide +kernel
theorem dX0_openOnes_6 : decode cX0_openOnes 6 = .ok (.iload 5, 2) := by decide +kernel
theorem dX0_openOnes_8 : decode cX0_openOnes 8 = .ok (.aload_n 0, 1) := by decide +kernel
theorem dX0_openOnes_9 : decode cX0_openOnes 9 = .ok (.getfield 9, 3) := by decide +kernel
theorem dX0_openOnes_12 : decode cX0_openOnes 12 = .ok (.getfield 77, 3) := by decide +kernel
theorem dX0_openOnes_15 : decode cX0_openOnes 15 = .ok (.if_icmp .ge 38, 3) := by decide +kernel
theorem dX0_openOnes_18 : decode cX0_openOnes 18 = .ok (.iload_n 1, 1) := by decide +kernel
theorem dX0_openOnes_19 : decode cX0_openOnes 19 = .ok (.iload 5, 2) := by decide +kernel
theorem dX0_openOnes_21 : decode cX0_openOnes 21 = .ok (.invokestatic 83, 3) := by decide +kernel
theorem dX0_openOnes_24 : decode cX0_openOnes 24 = .ok (.ifCond .eq 23, 3) := by decide +kernel
theorem dX0_openOnes_27 : decode cX0_openOnes 27 = .ok (.aload_n 3, 1) := by decide +kernel
theorem dX0_openOnes_28 : decode cX0_openOnes 28 = .ok (.iload 5, 2) := by decide +kernel
theorem dX0_openOnes_30 : decode cX0_openOnes 30 = .ok (.iaload, 1) := by decide +kernel
theorem dX0_openOnes_31 : decode cX0_openOnes 31 = .ok (.aload_n 2, 1) := by decide +kernel
theorem dX0_openOnes_32 : decode cX0_openOnes 32 = .ok (.iload 5, 2) := by decide +kernel
theorem dX0_openOnes_34 : decode cX0_openOnes 34 = .ok (.iaload, 1) := by decide +kernel
theorem dX0_openOnes_35 : decode cX0_openOnes 35 = .ok (.if_icmp .ge 12, 3) := by decide +kernel
theorem dX0_openOnes_38 : decode cX0_openOnes 38 = .ok (.iload 4, 2) := by decide +kernel
theorem dX0_openOnes_40 : decode cX0_openOnes 40 = .ok (.iconst 1, 1) := by decide +kernel
theorem dX0_openOnes_41 : decode cX0_openOnes 41 = .ok (.iload 5, 2) := by decide +kernel
theorem dX0_openOnes_43 : decode cX0_openOnes 43 = .ok (.ishl, 1) := by decide +kernel
theorem dX0_openOnes_44 : decode cX0_openOnes 44 = .ok (.ior, 1) := by decide +kernel
theorem dX0_openOnes_45 : decode cX0_openOnes 45 = .ok (.istore 4, 2) := by decide +kernel
theorem dX0_openOnes_47 : decode cX0_openOnes 47 = .ok (.iinc 5 1, 3) := by decide +kernel
theorem dX0_openOnes_50 : decode cX0_openOnes 50 = .ok (.goto (-44), 3) := by decide +kernel
theorem dX0_openOnes_53 : decode cX0_openOnes 53 = .ok (.iload 4, 2) := by decide +kernel
theorem dX0_openOnes_55 : decode cX0_openOnes 55 = .ok (.ireturn, 1) := by decide +kernel
theorem dX0_leastRoom_0 : decode cX0_leastRoom 0 = .ok (.ldc 162, 2) := by decide +kernel
theorem dX0_leastRoom_2 : decode cX0_leastRoom 2 = .ok (.istore 4, 2) := by decide +kernel
theorem dX0_leastRoom_4 : decode cX0_leastRoom 4 = .ok (.iconst 0, 1) := by decide +kernel
theorem dX0_leastRoom_5 : decode cX0_leastRoom 5 = .ok (.istore 5, 2) := by decide +kernel
theorem dX0_leastRoom_7 : decode cX0_leastRoom 7 = .ok (.iload 5, 2) := by decide +kernel
theorem dX0_leastRoom_9 : decode cX0_leastRoom 9 = .ok (.aload_n 0, 1) := by decide +kernel
theorem dX0_leastRoom_10 : decode cX0_leastRoom 10 = .ok (.getfield 9, 3) := by decide +kernel
theorem dX0_leastRoom_13 : decode cX0_leastRoom 13 = .ok (.getfield 77, 3) := by decide +kernel
theorem dX0_leastRoom_16 : decode cX0_leastRoom 16 = .ok (.if_icmp .ge 34, 3) := by decide +kernel
theorem dX0_leastRoom_19 : decode cX0_leastRoom 19 = .ok (.iload_n 1, 1) := by decide +kernel
theorem dX0_leastRoom_20 : decode cX0_leastRoom 20 = .ok (.iload 5, 2) := by decide +kernel
theorem dX0_leastRoom_22 : decode cX0_leastRoom 22 = .ok (.invokestatic 83, 3) := by decide +kernel
theorem dX0_leastRoom_25 : decode cX0_leastRoom 25 = .ok (.ifCond .eq 19, 3) := by decide +kernel
theorem dX0_leastRoom_28 : decode cX0_leastRoom 28 = .ok (.iload 4, 2) := by decide +kernel
theorem dX0_leastRoom_30 : decode cX0_leastRoom 30 = .ok (.aload_n 2, 1) := by decide +kernel
theorem dX0_leastRoom_31 : decode cX0_leastRoom 31 = .ok (.iload 5, 2) := by decide +kernel
theorem dX0_leastRoom_33 : decode cX0_leastRoom 33 = .ok (.iaload, 1) := by decide +kernel
theorem dX0_leastRoom_34 : decode cX0_leastRoom 34 = .ok (.aload_n 3, 1) := by decide +kernel
theorem dX0_leastRoom_35 : decode cX0_leastRoom 35 = .ok (.iload 5, 2) := by decide +kernel
theorem dX0_leastRoom_37 : decode cX0_leastRoom 37 = .ok (.iaload, 1) := by decide +kernel
theorem dX0_leastRoom_38 : decode cX0_leastRoom 38 = .ok (.isub, 1) := by decide +kernel
theorem dX0_leastRoom_39 : decode cX0_leastRoom 39 = .ok (.invokestatic 147, 3) := by decide +kernel
theorem dX0_leastRoom_42 : decode cX0_leastRoom 42 = .ok (.istore 4, 2) := by decide +kernel
theorem dX0_leastRoom_44 : decode cX0_leastRoom 44 = .ok (.iinc 5 1, 3) := by decide +kernel
theorem dX0_leastRoom_47 : decode cX0_leastRoom 47 = .ok (.goto (-40), 3) := by decide +kernel
theorem dX0_leastRoom_50 : decode cX0_leastRoom 50 = .ok (.iload 4, 2) := by decide +kernel
theorem dX0_leastRoom_52 : decode cX0_leastRoom 52 = .ok (.ireturn, 1) := by decide +kernel
theorem dX0_giveBack_0 : decode cX0_giveBack 0 = .ok (.iload_n 1, 1) := by decide +kernel
theorem dX0_giveBack_1 : decode cX0_giveBack 1 = .ok (.istore_n 2, 1) := by decide +kernel
theorem dX0_giveBack_2 : decode cX0_giveBack 2 = .ok (.aload_n 0, 1) := by decide +kernel
theorem dX0_giveBack_3 : decode cX0_giveBack 3 = .ok (.getfield 100, 3) := by decide +kernel
theorem dX0_giveBack_6 : decode cX0_giveBack 6 = .ok (.iconst 1, 1) := by decide +kernel
theorem dX0_giveBack_7 : decode cX0_giveBack 7 = .ok (.isub, 1) := by decide +kernel
theorem dX0_giveBack_8 : decode cX0_giveBack 8 = .ok (.istore_n 3, 1) := by decide +kernel
theorem dX0_giveBack_9 : decode cX0_giveBack 9 = .ok (.iload_n 3, 1) := by decide +kernel
theorem dX0_giveBack_10 : decode cX0_giveBack 10 = .ok (.ifCond .lt 31, 3) := by decide +kernel
theorem dX0_giveBack_13 : decode cX0_giveBack 13 = .ok (.iload_n 2, 1) := by decide +kernel
theorem dX0_giveBack_14 : decode cX0_giveBack 14 = .ok (.aload_n 0, 1) := by decide +kernel
theorem dX0_giveBack_15 : decode cX0_giveBack 15 = .ok (.iload_n 2, 1) := by decide +kernel
theorem dX0_giveBack_16 : decode cX0_giveBack 16 = .ok (.aload_n 0, 1) := by decide +kernel
theorem dX0_giveBack_17 : decode cX0_giveBack 17 = .ok (.getfield 40, 3) := by decide +kernel
theorem dX0_giveBack_20 : decode cX0_giveBack 20 = .ok (.iload_n 3, 1) := by decide +kernel
theorem dX0_giveBack_21 : decode cX0_giveBack 21 = .ok (.iaload, 1) := by decide +kernel
theorem dX0_giveBack_22 : decode cX0_giveBack 22 = .ok (.aload_n 0, 1) := by decide +kernel
theorem dX0_giveBack_23 : decode cX0_giveBack 23 = .ok (.getfield 31, 3) := by decide +kernel
theorem dX0_giveBack_26 : decode cX0_giveBack 26 = .ok (.aload_n 0, 1) := by decide +kernel
theorem dX0_giveBack_27 : decode cX0_giveBack 27 = .ok (.getfield 34, 3) := by decide +kernel
theorem dX0_giveBack_30 : decode cX0_giveBack 30 = .ok (.invokevirtual 125, 3) := by decide +kernel
theorem dX0_giveBack_33 : decode cX0_giveBack 33 = .ok (.isub, 1) := by decide +kernel
theorem dX0_giveBack_34 : decode cX0_giveBack 34 = .ok (.istore_n 2, 1) := by decide +kernel
theorem dX0_giveBack_35 : decode cX0_giveBack 35 = .ok (.iinc 3 (-1), 3) := by decide +kernel
theorem dX0_giveBack_38 : decode cX0_giveBack 38 = .ok (.goto (-29), 3) := by decide +kernel
theorem dX0_giveBack_41 : decode cX0_giveBack 41 = .ok (.return_, 1) := by decide +kernel
theorem dX0_ringsOfSeveral_0 : decode cX0_ringsOfSeveral 0 = .ok (.iconst 0, 1) := by decide +kernel
theorem dX0_ringsOfSeveral_1 : decode cX0_ringsOfSeveral 1 = .ok (.istore_n 1, 1) := by decide +kernel
theorem dX0_ringsOfSeveral_2 : decode cX0_ringsOfSeveral 2 = .ok (.iconst 0, 1) := by decide +kernel
theorem dX0_ringsOfSeveral_3 : decode cX0_ringsOfSeveral 3 = .ok (.istore_n 2, 1) := by decide +kernel
theorem dX0_ringsOfSeveral_4 : decode cX0_ringsOfSeveral 4 = .ok (.iload_n 2, 1) := by decide +kernel
theorem dX0_ringsOfSeveral_5 : decode cX0_ringsOfSeveral 5 = .ok (.aload_n 0, 1) := by decide +kernel
theorem dX0_ringsOfSeveral_6 : decode cX0_ringsOfSeveral 6 = .ok (.getfield 100, 3) := by decide +kernel
theorem dX0_ringsOfSeveral_9 : decode cX0_ringsOfSeveral 9 = .ok (.if_icmp .ge 30, 3) := by decide +kernel
theorem dX0_ringsOfSeveral_12 : decode cX0_ringsOfSeveral 12 = .ok (.iload_n 1, 1) := by decide +kernel
theorem dX0_ringsOfSeveral_13 : decode cX0_ringsOfSeveral 13 = .ok (.aload_n 0, 1) := by decide +kernel
theorem dX0_ringsOfSeveral_14 : decode cX0_ringsOfSeveral 14 = .ok (.getfield 40, 3) := by decide +kernel
theorem dX0_ringsOfSeveral_17 : decode cX0_ringsOfSeveral 17 = .ok (.iload_n 2, 1) := by decide +kernel
theorem dX0_ringsOfSeveral_18 : decode cX0_ringsOfSeveral 18 = .ok (.iaload, 1) := by decide +kernel
theorem dX0_ringsOfSeveral_19 : decode cX0_ringsOfSeveral 19 = .ok (.invokestatic 154, 3) := by decide +kernel
theorem dX0_ringsOfSeveral_22 : decode cX0_ringsOfSeveral 22 = .ok (.iconst 1, 1) := by decide +kernel
theorem dX0_ringsOfSeveral_23 : decode cX0_ringsOfSeveral 23 = .ok (.if_icmp .le 7, 3) := by decide +kernel
theorem dX0_ringsOfSeveral_26 : decode cX0_ringsOfSeveral 26 = .ok (.iconst 1, 1) := by decide +kernel
theorem dX0_ringsOfSeveral_27 : decode cX0_ringsOfSeveral 27 = .ok (.goto 4, 3) := by decide +kernel
theorem dX0_ringsOfSeveral_30 : decode cX0_ringsOfSeveral 30 = .ok (.iconst 0, 1) := by decide +kernel
theorem dX0_ringsOfSeveral_31 : decode cX0_ringsOfSeveral 31 = .ok (.iadd, 1) := by decide +kernel
theorem dX0_ringsOfSeveral_32 : decode cX0_ringsOfSeveral 32 = .ok (.istore_n 1, 1) := by decide +kernel
theorem dX0_ringsOfSeveral_33 : decode cX0_ringsOfSeveral 33 = .ok (.iinc 2 1, 3) := by decide +kernel
theorem dX0_ringsOfSeveral_36 : decode cX0_ringsOfSeveral 36 = .ok (.goto (-32), 3) := by decide +kernel
theorem dX0_ringsOfSeveral_39 : decode cX0_ringsOfSeveral 39 = .ok (.iload_n 1, 1) := by decide +kernel
theorem dX0_ringsOfSeveral_40 : decode cX0_ringsOfSeveral 40 = .ok (.ireturn, 1) := by decide +kernel
theorem dX0_greatestRung_0 : decode cX0_greatestRung 0 = .ok (.aload_n 0, 1) := by decide +kernel
theorem dX0_greatestRung_1 : decode cX0_greatestRung 1 = .ok (.getfield 100, 3) := by decide +kernel
theorem dX0_greatestRung_4 : decode cX0_greatestRung 4 = .ok (.ifCond .ne 8, 3) := by decide +kernel
theorem dX0_greatestRung_7 : decode cX0_greatestRung 7 = .ok (.bipush (-5), 2) := by decide +kernel
theorem dX0_greatestRung_9 : decode cX0_greatestRung 9 = .ok (.goto 14, 3) := by decide +kernel
theorem dX0_greatestRung_12 : decode cX0_greatestRung 12 = .ok (.aload_n 0, 1) := by decide +kernel
theorem dX0_greatestRung_13 : decode cX0_greatestRung 13 = .ok (.getfield 43, 3) := by decide +kernel
theorem dX0_greatestRung_16 : decode cX0_greatestRung 16 = .ok (.aload_n 0, 1) := by decide +kernel
theorem dX0_greatestRung_17 : decode cX0_greatestRung 17 = .ok (.getfield 100, 3) := by decide +kernel
theorem dX0_greatestRung_20 : decode cX0_greatestRung 20 = .ok (.iconst 1, 1) := by decide +kernel
theorem dX0_greatestRung_21 : decode cX0_greatestRung 21 = .ok (.isub, 1) := by decide +kernel
theorem dX0_greatestRung_22 : decode cX0_greatestRung 22 = .ok (.iaload, 1) := by decide +kernel
theorem dX0_greatestRung_23 : decode cX0_greatestRung 23 = .ok (.ireturn, 1) := by decide +kernel
theorem dX0_payers_0 : decode cX0_payers 0 = .ok (.iconst 0, 1) := by decide +kernel
theorem dX0_payers_1 : decode cX0_payers 1 = .ok (.istore_n 1, 1) := by decide +kernel
theorem dX0_payers_2 : decode cX0_payers 2 = .ok (.iconst 0, 1) := by decide +kernel
theorem dX0_payers_3 : decode cX0_payers 3 = .ok (.istore_n 2, 1) := by decide +kernel
theorem dX0_payers_4 : decode cX0_payers 4 = .ok (.iload_n 2, 1) := by decide +kernel
theorem dX0_payers_5 : decode cX0_payers 5 = .ok (.aload_n 0, 1) := by decide +kernel
theorem dX0_payers_6 : decode cX0_payers 6 = .ok (.getfield 9, 3) := by decide +kernel
theorem dX0_payers_9 : decode cX0_payers 9 = .ok (.getfield 77, 3) := by decide +kernel
theorem dX0_payers_12 : decode cX0_payers 12 = .ok (.if_icmp .ge 26, 3) := by decide +kernel
theorem dX0_payers_15 : decode cX0_payers 15 = .ok (.iload_n 1, 1) := by decide +kernel
theorem dX0_payers_16 : decode cX0_payers 16 = .ok (.aload_n 0, 1) := by decide +kernel
theorem dX0_payers_17 : decode cX0_payers 17 = .ok (.getfield 31, 3) := by decide +kernel
theorem dX0_payers_20 : decode cX0_payers 20 = .ok (.iload_n 2, 1) := by decide +kernel
theorem dX0_payers_21 : decode cX0_payers 21 = .ok (.iaload, 1) := by decide +kernel
theorem dX0_payers_22 : decode cX0_payers 22 = .ok (.ifCond .le 7, 3) := by decide +kernel
theorem dX0_payers_25 : decode cX0_payers 25 = .ok (.iconst 1, 1) := by decide +kernel
theorem dX0_payers_26 : decode cX0_payers 26 = .ok (.goto 4, 3) := by decide +kernel
theorem dX0_payers_29 : decode cX0_payers 29 = .ok (.iconst 0, 1) := by decide +kernel
theorem dX0_payers_30 : decode cX0_payers 30 = .ok (.iadd, 1) := by decide +kernel
theorem dX0_payers_31 : decode cX0_payers 31 = .ok (.istore_n 1, 1) := by decide +kernel
theorem dX0_payers_32 : decode cX0_payers 32 = .ok (.iinc 2 1, 3) := by decide +kernel
theorem dX0_payers_35 : decode cX0_payers 35 = .ok (.goto (-31), 3) := by decide +kernel
theorem dX0_payers_38 : decode cX0_payers 38 = .ok (.iload_n 1, 1) := by decide +kernel
theorem dX0_payers_39 : decode cX0_payers 39 = .ok (.ireturn, 1) := by decide +kernel
theorem dX0_firstOtherwise_0 : decode cX0_firstOtherwise 0 = .ok (.iconst 0, 1) := by decide +kernel
theorem dX0_firstOtherwise_1 : decode cX0_firstOtherwise 1 = .ok (.istore_n 2, 1) := by decide +kernel
theorem dX0_firstOtherwise_2 : decode cX0_firstOtherwise 2 = .ok (.iload_n 2, 1) := by decide +kernel
theorem dX0_firstOtherwise_3 : decode cX0_firstOtherwise 3 = .ok (.aload_n 1, 1) := by decide +kernel
theorem dX0_firstOtherwise_4 : decode cX0_firstOtherwise 4 = .ok (.getfield 163, 3) := by decide +kernel
theorem dX0_firstOtherwise_7 : decode cX0_firstOtherwise 7 = .ok (.if_icmp .ge 44, 3) := by decide +kernel
theorem dX0_firstOtherwise_10 : decode cX0_firstOtherwise 10 = .ok (.aload_n 1, 1) := by decide +kernel
theorem dX0_firstOtherwise_11 : decode cX0_firstOtherwise 11 = .ok (.getfield 166, 3) := by decide +kernel
theorem dX0_firstOtherwise_14 : decode cX0_firstOtherwise 14 = .ok (.iload_n 2, 1) := by decide +kernel
theorem dX0_firstOtherwise_15 : decode cX0_firstOtherwise 15 = .ok (.iaload, 1) := by decide +kernel
theorem dX0_firstOtherwise_16 : decode cX0_firstOtherwise 16 = .ok (.istore_n 3, 1) := by decide +kernel
theorem dX0_firstOtherwise_17 : decode cX0_firstOtherwise 17 = .ok (.aload_n 0, 1) := by decide +kernel
theorem dX0_firstOtherwise_18 : decode cX0_firstOtherwise 18 = .ok (.getfield 9, 3) := by decide +kernel
theorem dX0_firstOtherwise_21 : decode cX0_firstOtherwise 21 = .ok (.iload_n 3, 1) := by decide +kernel
theorem dX0_firstOtherwise_22 : decode cX0_firstOtherwise 22 = .ok (.invokevirtual 169, 3) := by decide +kernel
theorem dX0_firstOtherwise_25 : decode cX0_firstOtherwise 25 = .ok (.ifCond .eq 18, 3) := by decide +kernel
theorem dX0_firstOtherwise_28 : decode cX0_firstOtherwise 28 = .ok (.aload_n 0, 1) := by decide +kernel
theorem dX0_firstOtherwise_29 : decode cX0_firstOtherwise 29 = .ok (.getfield 31, 3) := by decide +kernel
theorem dX0_firstOtherwise_32 : decode cX0_firstOtherwise 32 = .ok (.iload_n 3, 1) := by decide +kernel
theorem dX0_firstOtherwise_33 : decode cX0_firstOtherwise 33 = .ok (.iaload, 1) := by decide +kernel
theorem dX0_firstOtherwise_34 : decode cX0_firstOtherwise 34 = .ok (.aload_n 1, 1) := by decide +kernel
theorem dX0_firstOtherwise_35 : decode cX0_firstOtherwise 35 = .ok (.getfield 172, 3) := by decide +kernel
theorem dX0_firstOtherwise_38 : decode cX0_firstOtherwise 38 = .ok (.iload_n 2, 1) := by decide +kernel
theorem dX0_firstOtherwise_39 : decode cX0_firstOtherwise 39 = .ok (.iaload, 1) := by decide +kernel
theorem dX0_firstOtherwise_40 : decode cX0_firstOtherwise 40 = .ok (.if_icmp .eq 5, 3) := by decide +kernel
theorem dX0_firstOtherwise_43 : decode cX0_firstOtherwise 43 = .ok (.iload_n 2, 1) := by decide +kernel
theorem dX0_firstOtherwise_44 : decode cX0_firstOtherwise 44 = .ok (.ireturn, 1) := by decide +kernel
theorem dX0_firstOtherwise_45 : decode cX0_firstOtherwise 45 = .ok (.iinc 2 1, 3) := by decide +kernel
theorem dX0_firstOtherwise_48 : decode cX0_firstOtherwise 48 = .ok (.goto (-46), 3) := by decide +kernel
theorem dX0_firstOtherwise_51 : decode cX0_firstOtherwise 51 = .ok (.bipush (-5), 2) := by decide +kernel
theorem dX0_firstOtherwise_53 : decode cX0_firstOtherwise 53 = .ok (.ireturn, 1) := by decide +kernel
theorem dX0_reason_0 : decode cX0_reason 0 = .ok (.aload_n 0, 1) := by decide +kernel
theorem dX0_reason_1 : decode cX0_reason 1 = .ok (.getfield 46, 3) := by decide +kernel
theorem dX0_reason_4 : decode cX0_reason 4 = .ok (.aload_n 0, 1) := by decide +kernel
theorem dX0_reason_5 : decode cX0_reason 5 = .ok (.getfield 25, 3) := by decide +kernel
theorem dX0_reason_8 : decode cX0_reason 8 = .ok (.iload_n 1, 1) := by decide +kernel
theorem dX0_reason_9 : decode cX0_reason 9 = .ok (.iaload, 1) := by decide +kernel
theorem dX0_reason_10 : decode cX0_reason 10 = .ok (.iaload, 1) := by decide +kernel
theorem dX0_reason_11 : decode cX0_reason 11 = .ok (.istore_n 2, 1) := by decide +kernel
theorem dX0_reason_12 : decode cX0_reason 12 = .ok (.iload_n 2, 1) := by decide +kernel
theorem dX0_reason_13 : decode cX0_reason 13 = .ok (.ifCond .ne 5, 3) := by decide +kernel
theorem dX0_reason_16 : decode cX0_reason 16 = .ok (.iconst 1, 1) := by decide +kernel
theorem dX0_reason_17 : decode cX0_reason 17 = .ok (.ireturn, 1) := by decide +kernel
theorem dX0_reason_18 : decode cX0_reason 18 = .ok (.aload_n 0, 1) := by decide +kernel
theorem dX0_reason_19 : decode cX0_reason 19 = .ok (.getfield 31, 3) := by decide +kernel
theorem dX0_reason_22 : decode cX0_reason 22 = .ok (.iload_n 1, 1) := by decide +kernel
theorem dX0_reason_23 : decode cX0_reason 23 = .ok (.iaload, 1) := by decide +kernel
theorem dX0_reason_24 : decode cX0_reason 24 = .ok (.iload_n 2, 1) := by decide +kernel
theorem dX0_reason_25 : decode cX0_reason 25 = .ok (.if_icmp .lt 5, 3) := by decide +kernel
theorem dX0_reason_28 : decode cX0_reason 28 = .ok (.iconst 0, 1) := by decide +kernel
theorem dX0_reason_29 : decode cX0_reason 29 = .ok (.ireturn, 1) := by decide +kernel
theorem dX0_reason_30 : decode cX0_reason 30 = .ok (.aload_n 0, 1) := by decide +kernel
theorem dX0_reason_31 : decode cX0_reason 31 = .ok (.iload_n 1, 1) := by decide +kernel
theorem dX0_reason_32 : decode cX0_reason 32 = .ok (.invokevirtual 119, 3) := by decide +kernel
theorem dX0_reason_35 : decode cX0_reason 35 = .ok (.ifCond .eq 5, 3) := by decide +kernel
theorem dX0_reason_38 : decode cX0_reason 38 = .ok (.iconst 2, 1) := by decide +kernel
theorem dX0_reason_39 : decode cX0_reason 39 = .ok (.ireturn, 1) := by decide +kernel
theorem dX0_reason_40 : decode cX0_reason 40 = .ok (.aload_n 0, 1) := by decide +kernel
theorem dX0_reason_41 : decode cX0_reason 41 = .ok (.iload_n 1, 1) := by decide +kernel
theorem dX0_reason_42 : decode cX0_reason 42 = .ok (.iload_n 2, 1) := by decide +kernel
theorem dX0_reason_43 : decode cX0_reason 43 = .ok (.invokevirtual 138, 3) := by decide +kernel
theorem dX0_reason_46 : decode cX0_reason 46 = .ok (.aload_n 0, 1) := by decide +kernel
theorem dX0_reason_47 : decode cX0_reason 47 = .ok (.getfield 9, 3) := by decide +kernel
theorem dX0_reason_50 : decode cX0_reason 50 = .ok (.getfield 141, 3) := by decide +kernel
theorem dX0_reason_53 : decode cX0_reason 53 = .ok (.iload_n 1, 1) := by decide +kernel
theorem dX0_reason_54 : decode cX0_reason 54 = .ok (.iaload, 1) := by decide +kernel
theorem dX0_reason_55 : decode cX0_reason 55 = .ok (.if_icmp .gt 5, 3) := by decide +kernel
theorem dX0_reason_58 : decode cX0_reason 58 = .ok (.iconst 3, 1) := by decide +kernel
theorem dX0_reason_59 : decode cX0_reason 59 = .ok (.ireturn, 1) := by decide +kernel
theorem dX0_reason_60 : decode cX0_reason 60 = .ok (.aload_n 0, 1) := by decide +kernel
theorem dX0_reason_61 : decode cX0_reason 61 = .ok (.getfield 31, 3) := by decide +kernel
theorem dX0_reason_64 : decode cX0_reason 64 = .ok (.iload_n 1, 1) := by decide +kernel
theorem dX0_reason_65 : decode cX0_reason 65 = .ok (.iaload, 1) := by decide +kernel
theorem dX0_reason_66 : decode cX0_reason 66 = .ok (.aload_n 0, 1) := by decide +kernel
theorem dX0_reason_67 : decode cX0_reason 67 = .ok (.getfield 9, 3) := by decide +kernel
theorem dX0_reason_70 : decode cX0_reason 70 = .ok (.getfield 144, 3) := by decide +kernel
theorem dX0_reason_73 : decode cX0_reason 73 = .ok (.iload_n 1, 1) := by decide +kernel
theorem dX0_reason_74 : decode cX0_reason 74 = .ok (.iaload, 1) := by decide +kernel
theorem dX0_reason_75 : decode cX0_reason 75 = .ok (.if_icmp .ne 5, 3) := by decide +kernel
theorem dX0_reason_78 : decode cX0_reason 78 = .ok (.iconst 4, 1) := by decide +kernel
theorem dX0_reason_79 : decode cX0_reason 79 = .ok (.ireturn, 1) := by decide +kernel
theorem dX0_reason_80 : decode cX0_reason 80 = .ok (.aload_n 0, 1) := by decide +kernel
theorem dX0_reason_81 : decode cX0_reason 81 = .ok (.iload_n 1, 1) := by decide +kernel
theorem dX0_reason_82 : decode cX0_reason 82 = .ok (.invokevirtual 103, 3) := by decide +kernel
theorem dX0_reason_85 : decode cX0_reason 85 = .ok (.ifCond .eq 8, 3) := by decide +kernel
theorem dX0_reason_88 : decode cX0_reason 88 = .ok (.bipush 6, 2) := by decide +kernel
theorem dX0_reason_90 : decode cX0_reason 90 = .ok (.goto 4, 3) := by decide +kernel
theorem dX0_reason_93 : decode cX0_reason 93 = .ok (.iconst 5, 1) := by decide +kernel
theorem dX0_reason_94 : decode cX0_reason 94 = .ok (.ireturn, 1) := by decide +kernel
theorem dX0_cause_0 : decode cX0_cause 0 = .ok (.aload_n 0, 1) := by decide +kernel
theorem dX0_cause_1 : decode cX0_cause 1 = .ok (.getfield 46, 3) := by decide +kernel
theorem dX0_cause_4 : decode cX0_cause 4 = .ok (.aload_n 0, 1) := by decide +kernel
theorem dX0_cause_5 : decode cX0_cause 5 = .ok (.getfield 25, 3) := by decide +kernel
theorem dX0_cause_8 : decode cX0_cause 8 = .ok (.iload_n 1, 1) := by decide +kernel
theorem dX0_cause_9 : decode cX0_cause 9 = .ok (.iaload, 1) := by decide +kernel
theorem dX0_cause_10 : decode cX0_cause 10 = .ok (.iaload, 1) := by decide +kernel
theorem dX0_cause_11 : decode cX0_cause 11 = .ok (.istore_n 3, 1) := by decide +kernel
theorem dX0_cause_12 : decode cX0_cause 12 = .ok (.iload_n 2, 1) := by decide +kernel
theorem dX0_cause_13 : decode cX0_cause 13 = .ok (.tableswitch 97 1 6 #[39, 50, 64, 71, 81, 88], 39) := by decide +kernel
theorem dX0_cause_52 : decode cX0_cause 52 = .ok (.aload_n 0, 1) := by decide +kernel
theorem dX0_cause_53 : decode cX0_cause 53 = .ok (.aload_n 0, 1) := by decide +kernel
theorem dX0_cause_54 : decode cX0_cause 54 = .ok (.getfield 25, 3) := by decide +kernel
theorem dX0_cause_57 : decode cX0_cause 57 = .ok (.iload_n 1, 1) := by decide +kernel
theorem dX0_cause_58 : decode cX0_cause 58 = .ok (.iaload, 1) := by decide +kernel
theorem dX0_cause_59 : decode cX0_cause 59 = .ok (.invokevirtual 175, 3) := by decide +kernel
theorem dX0_cause_62 : decode cX0_cause 62 = .ok (.ireturn, 1) := by decide +kernel
theorem dX0_cause_63 : decode cX0_cause 63 = .ok (.aload_n 0, 1) := by decide +kernel
theorem dX0_cause_64 : decode cX0_cause 64 = .ok (.aload_n 0, 1) := by decide +kernel
theorem dX0_cause_65 : decode cX0_cause 65 = .ok (.getfield 9, 3) := by decide +kernel
theorem dX0_cause_68 : decode cX0_cause 68 = .ok (.getfield 80, 3) := by decide +kernel
theorem dX0_cause_71 : decode cX0_cause 71 = .ok (.iload_n 1, 1) := by decide +kernel
theorem dX0_cause_72 : decode cX0_cause 72 = .ok (.iaload, 1) := by decide +kernel
theorem dX0_cause_73 : decode cX0_cause 73 = .ok (.invokevirtual 132, 3) := by decide +kernel
theorem dX0_cause_76 : decode cX0_cause 76 = .ok (.ireturn, 1) := by decide +kernel
theorem dX0_cause_77 : decode cX0_cause 77 = .ok (.aload_n 0, 1) := by decide +kernel
theorem dX0_cause_78 : decode cX0_cause 78 = .ok (.iload_n 1, 1) := by decide +kernel
theorem dX0_cause_79 : decode cX0_cause 79 = .ok (.iload_n 3, 1) := by decide +kernel
theorem dX0_cause_80 : decode cX0_cause 80 = .ok (.invokevirtual 138, 3) := by decide +kernel
theorem dX0_cause_83 : decode cX0_cause 83 = .ok (.ireturn, 1) := by decide +kernel
theorem dX0_cause_84 : decode cX0_cause 84 = .ok (.aload_n 0, 1) := by decide +kernel
theorem dX0_cause_85 : decode cX0_cause 85 = .ok (.getfield 9, 3) := by decide +kernel
theorem dX0_cause_88 : decode cX0_cause 88 = .ok (.getfield 144, 3) := by decide +kernel
theorem dX0_cause_91 : decode cX0_cause 91 = .ok (.iload_n 1, 1) := by decide +kernel
theorem dX0_cause_92 : decode cX0_cause 92 = .ok (.iaload, 1) := by decide +kernel
theorem dX0_cause_93 : decode cX0_cause 93 = .ok (.ireturn, 1) := by decide +kernel
theorem dX0_cause_94 : decode cX0_cause 94 = .ok (.aload_n 0, 1) := by decide +kernel
theorem dX0_cause_95 : decode cX0_cause 95 = .ok (.getfield 19, 3) := by decide +kernel
theorem dX0_cause_98 : decode cX0_cause 98 = .ok (.iload_n 1, 1) := by decide +kernel
theorem dX0_cause_99 : decode cX0_cause 99 = .ok (.iaload, 1) := by decide +kernel
theorem dX0_cause_100 : decode cX0_cause 100 = .ok (.ireturn, 1) := by decide +kernel
theorem dX0_cause_101 : decode cX0_cause 101 = .ok (.iload_n 3, 1) := by decide +kernel
theorem dX0_cause_102 : decode cX0_cause 102 = .ok (.aload_n 0, 1) := by decide +kernel
theorem dX0_cause_103 : decode cX0_cause 103 = .ok (.getfield 31, 3) := by decide +kernel
theorem dX0_cause_106 : decode cX0_cause 106 = .ok (.iload_n 1, 1) := by decide +kernel
theorem dX0_cause_107 : decode cX0_cause 107 = .ok (.iaload, 1) := by decide +kernel
theorem dX0_cause_108 : decode cX0_cause 108 = .ok (.isub, 1) := by decide +kernel
theorem dX0_cause_109 : decode cX0_cause 109 = .ok (.ireturn, 1) := by decide +kernel
theorem dX0_cause_110 : decode cX0_cause 110 = .ok (.bipush (-5), 2) := by decide +kernel
theorem dX0_cause_112 : decode cX0_cause 112 = .ok (.ireturn, 1) := by decide +kernel
theorem dX0_causeBehind_0 : decode cX0_causeBehind 0 = .ok (.iload_n 2, 1) := by decide +kernel
theorem dX0_causeBehind_1 : decode cX0_causeBehind 1 = .ok (.tableswitch 86 1 5 #[35, 35, 64, 86, 74], 35) := by decide +kernel
theorem dX0_causeBehind_36 : decode cX0_causeBehind 36 = .ok (.aload_n 0, 1) := by decide +kernel
end
section
theorem dX0_causeBehind_37 : decode cX0_causeBehind 37 = .ok (.iload_n 1, 1) := by decide +kernel
theorem dX0_causeBehind_38 : decode cX0_causeBehind 38 = .ok (.iload_n 2, 1) := by decide +kernel
theorem dX0_causeBehind_39 : decode cX0_causeBehind 39 = .ok (.invokevirtual 178, 3) := by decide +kernel
theorem dX0_causeBehind_42 : decode cX0_causeBehind 42 = .ok (.istore_n 3, 1) := by decide +kernel
theorem dX0_causeBehind_43 : decode cX0_causeBehind 43 = .ok (.aload_n 0, 1) := by decide +kernel
theorem dX0_causeBehind_44 : decode cX0_causeBehind 44 = .ok (.getfield 9, 3) := by decide +kernel
theorem dX0_causeBehind_47 : decode cX0_causeBehind 47 = .ok (.iload_n 3, 1) := by decide +kernel
theorem dX0_causeBehind_48 : decode cX0_causeBehind 48 = .ok (.invokevirtual 169, 3) := by decide +kernel
theorem dX0_causeBehind_51 : decode cX0_causeBehind 51 = .ok (.ifCond .eq 12, 3) := by decide +kernel
theorem dX0_causeBehind_54 : decode cX0_causeBehind 54 = .ok (.aload_n 0, 1) := by decide +kernel
theorem dX0_causeBehind_55 : decode cX0_causeBehind 55 = .ok (.getfield 31, 3) := by decide +kernel
theorem dX0_causeBehind_58 : decode cX0_causeBehind 58 = .ok (.iload_n 3, 1) := by decide +kernel
theorem dX0_causeBehind_59 : decode cX0_causeBehind 59 = .ok (.iaload, 1) := by decide +kernel
theorem dX0_causeBehind_60 : decode cX0_causeBehind 60 = .ok (.goto 4, 3) := by decide +kernel
theorem dX0_causeBehind_63 : decode cX0_causeBehind 63 = .ok (.iconst 0, 1) := by decide +kernel
theorem dX0_causeBehind_64 : decode cX0_causeBehind 64 = .ok (.ireturn, 1) := by decide +kernel
theorem dX0_causeBehind_65 : decode cX0_causeBehind 65 = .ok (.aload_n 0, 1) := by decide +kernel
theorem dX0_causeBehind_66 : decode cX0_causeBehind 66 = .ok (.getfield 9, 3) := by decide +kernel
theorem dX0_causeBehind_69 : decode cX0_causeBehind 69 = .ok (.getfield 141, 3) := by decide +kernel
theorem dX0_causeBehind_72 : decode cX0_causeBehind 72 = .ok (.iload_n 1, 1) := by decide +kernel
theorem dX0_causeBehind_73 : decode cX0_causeBehind 73 = .ok (.iaload, 1) := by decide +kernel
theorem dX0_causeBehind_74 : decode cX0_causeBehind 74 = .ok (.ireturn, 1) := by decide +kernel
theorem dX0_causeBehind_75 : decode cX0_causeBehind 75 = .ok (.aload_n 0, 1) := by decide +kernel
theorem dX0_causeBehind_76 : decode cX0_causeBehind 76 = .ok (.getfield 49, 3) := by decide +kernel
theorem dX0_causeBehind_79 : decode cX0_causeBehind 79 = .ok (.aload_n 0, 1) := by decide +kernel
theorem dX0_causeBehind_80 : decode cX0_causeBehind 80 = .ok (.getfield 25, 3) := by decide +kernel
theorem dX0_causeBehind_83 : decode cX0_causeBehind 83 = .ok (.iload_n 1, 1) := by decide +kernel
theorem dX0_causeBehind_84 : decode cX0_causeBehind 84 = .ok (.iaload, 1) := by decide +kernel
theorem dX0_causeBehind_85 : decode cX0_causeBehind 85 = .ok (.iaload, 1) := by decide +kernel
theorem dX0_causeBehind_86 : decode cX0_causeBehind 86 = .ok (.ireturn, 1) := by decide +kernel
theorem dX0_causeBehind_87 : decode cX0_causeBehind 87 = .ok (.bipush (-5), 2) := by decide +kernel
theorem dX0_causeBehind_89 : decode cX0_causeBehind 89 = .ok (.ireturn, 1) := by decide +kernel
theorem dX0_lastPayerAhead_0 : decode cX0_lastPayerAhead 0 = .ok (.iload_n 1, 1) := by decide +kernel
theorem dX0_lastPayerAhead_1 : decode cX0_lastPayerAhead 1 = .ok (.iconst 1, 1) := by decide +kernel
theorem dX0_lastPayerAhead_2 : decode cX0_lastPayerAhead 2 = .ok (.isub, 1) := by decide +kernel
theorem dX0_lastPayerAhead_3 : decode cX0_lastPayerAhead 3 = .ok (.istore_n 2, 1) := by decide +kernel
theorem dX0_lastPayerAhead_4 : decode cX0_lastPayerAhead 4 = .ok (.iload_n 2, 1) := by decide +kernel
theorem dX0_lastPayerAhead_5 : decode cX0_lastPayerAhead 5 = .ok (.ifCond .lt 53, 3) := by decide +kernel
theorem dX0_lastPayerAhead_8 : decode cX0_lastPayerAhead 8 = .ok (.aload_n 0, 1) := by decide +kernel
theorem dX0_lastPayerAhead_9 : decode cX0_lastPayerAhead 9 = .ok (.getfield 9, 3) := by decide +kernel
theorem dX0_lastPayerAhead_12 : decode cX0_lastPayerAhead 12 = .ok (.getfield 77, 3) := by decide +kernel
theorem dX0_lastPayerAhead_15 : decode cX0_lastPayerAhead 15 = .ok (.iconst 1, 1) := by decide +kernel
theorem dX0_lastPayerAhead_16 : decode cX0_lastPayerAhead 16 = .ok (.isub, 1) := by decide +kernel
theorem dX0_lastPayerAhead_17 : decode cX0_lastPayerAhead 17 = .ok (.istore_n 3, 1) := by decide +kernel
theorem dX0_lastPayerAhead_18 : decode cX0_lastPayerAhead 18 = .ok (.iload_n 3, 1) := by decide +kernel
theorem dX0_lastPayerAhead_19 : decode cX0_lastPayerAhead 19 = .ok (.ifCond .lt 33, 3) := by decide +kernel
theorem dX0_lastPayerAhead_22 : decode cX0_lastPayerAhead 22 = .ok (.aload_n 0, 1) := by decide +kernel
theorem dX0_lastPayerAhead_23 : decode cX0_lastPayerAhead 23 = .ok (.getfield 40, 3) := by decide +kernel
theorem dX0_lastPayerAhead_26 : decode cX0_lastPayerAhead 26 = .ok (.iload_n 2, 1) := by decide +kernel
theorem dX0_lastPayerAhead_27 : decode cX0_lastPayerAhead 27 = .ok (.iaload, 1) := by decide +kernel
theorem dX0_lastPayerAhead_28 : decode cX0_lastPayerAhead 28 = .ok (.iload_n 3, 1) := by decide +kernel
theorem dX0_lastPayerAhead_29 : decode cX0_lastPayerAhead 29 = .ok (.invokestatic 83, 3) := by decide +kernel
theorem dX0_lastPayerAhead_32 : decode cX0_lastPayerAhead 32 = .ok (.ifCond .eq 14, 3) := by decide +kernel
theorem dX0_lastPayerAhead_35 : decode cX0_lastPayerAhead 35 = .ok (.aload_n 0, 1) := by decide +kernel
theorem dX0_lastPayerAhead_36 : decode cX0_lastPayerAhead 36 = .ok (.getfield 31, 3) := by decide +kernel
theorem dX0_lastPayerAhead_39 : decode cX0_lastPayerAhead 39 = .ok (.iload_n 3, 1) := by decide +kernel
theorem dX0_lastPayerAhead_40 : decode cX0_lastPayerAhead 40 = .ok (.iaload, 1) := by decide +kernel
theorem dX0_lastPayerAhead_41 : decode cX0_lastPayerAhead 41 = .ok (.ifCond .le 5, 3) := by decide +kernel
theorem dX0_lastPayerAhead_44 : decode cX0_lastPayerAhead 44 = .ok (.iload_n 3, 1) := by decide +kernel
theorem dX0_lastPayerAhead_45 : decode cX0_lastPayerAhead 45 = .ok (.ireturn, 1) := by decide +kernel
theorem dX0_lastPayerAhead_46 : decode cX0_lastPayerAhead 46 = .ok (.iinc 3 (-1), 3) := by decide +kernel
theorem dX0_lastPayerAhead_49 : decode cX0_lastPayerAhead 49 = .ok (.goto (-31), 3) := by decide +kernel
theorem dX0_lastPayerAhead_52 : decode cX0_lastPayerAhead 52 = .ok (.iinc 2 (-1), 3) := by decide +kernel
theorem dX0_lastPayerAhead_55 : decode cX0_lastPayerAhead 55 = .ok (.goto (-51), 3) := by decide +kernel
theorem dX0_lastPayerAhead_58 : decode cX0_lastPayerAhead 58 = .ok (.bipush 99, 2) := by decide +kernel
theorem dX0_lastPayerAhead_60 : decode cX0_lastPayerAhead 60 = .ok (.ireturn, 1) := by decide +kernel
theorem dX1_init_0 : decode cX1_init 0 = .ok (.aload_n 0, 1) := by decide +kernel
theorem dX1_init_1 : decode cX1_init 1 = .ok (.invokespecial 3, 3) := by decide +kernel
theorem dX1_init_4 : decode cX1_init 4 = .ok (.aload_n 0, 1) := by decide +kernel
theorem dX1_init_5 : decode cX1_init 5 = .ok (.iload_n 1, 1) := by decide +kernel
theorem dX1_init_6 : decode cX1_init 6 = .ok (.bipush 8, 2) := by decide +kernel
theorem dX1_init_8 : decode cX1_init 8 = .ok (.invokestatic 9, 3) := by decide +kernel
theorem dX1_init_11 : decode cX1_init 11 = .ok (.putfield 15, 3) := by decide +kernel
theorem dX1_init_14 : decode cX1_init 14 = .ok (.aload_n 0, 1) := by decide +kernel
theorem dX1_init_15 : decode cX1_init 15 = .ok (.bipush 8, 2) := by decide +kernel
theorem dX1_init_17 : decode cX1_init 17 = .ok (.newarray .int, 2) := by decide +kernel
theorem dX1_init_19 : decode cX1_init 19 = .ok (.putfield 21, 3) := by decide +kernel
theorem dX1_init_22 : decode cX1_init 22 = .ok (.aload_n 0, 1) := by decide +kernel
theorem dX1_init_23 : decode cX1_init 23 = .ok (.bipush 8, 2) := by decide +kernel
theorem dX1_init_25 : decode cX1_init 25 = .ok (.newarray .int, 2) := by decide +kernel
theorem dX1_init_27 : decode cX1_init 27 = .ok (.putfield 25, 3) := by decide +kernel
theorem dX1_init_30 : decode cX1_init 30 = .ok (.return_, 1) := by decide +kernel
theorem dX1_add_0 : decode cX1_add 0 = .ok (.aload_n 0, 1) := by decide +kernel
theorem dX1_add_1 : decode cX1_add 1 = .ok (.getfield 28, 3) := by decide +kernel
theorem dX1_add_4 : decode cX1_add 4 = .ok (.aload_n 0, 1) := by decide +kernel
theorem dX1_add_5 : decode cX1_add 5 = .ok (.getfield 15, 3) := by decide +kernel
theorem dX1_add_8 : decode cX1_add 8 = .ok (.if_icmp .lt 6, 3) := by decide +kernel
theorem dX1_add_11 : decode cX1_add 11 = .ok (.bipush (-4), 2) := by decide +kernel
theorem dX1_add_13 : decode cX1_add 13 = .ok (.ireturn, 1) := by decide +kernel
theorem dX1_add_14 : decode cX1_add 14 = .ok (.aload_n 0, 1) := by decide +kernel
theorem dX1_add_15 : decode cX1_add 15 = .ok (.getfield 21, 3) := by decide +kernel
theorem dX1_add_18 : decode cX1_add 18 = .ok (.aload_n 0, 1) := by decide +kernel
theorem dX1_add_19 : decode cX1_add 19 = .ok (.getfield 28, 3) := by decide +kernel
theorem dX1_add_22 : decode cX1_add 22 = .ok (.iload_n 1, 1) := by decide +kernel
theorem dX1_add_23 : decode cX1_add 23 = .ok (.iastore, 1) := by decide +kernel
theorem dX1_add_24 : decode cX1_add 24 = .ok (.aload_n 0, 1) := by decide +kernel
theorem dX1_add_25 : decode cX1_add 25 = .ok (.getfield 25, 3) := by decide +kernel
theorem dX1_add_28 : decode cX1_add 28 = .ok (.aload_n 0, 1) := by decide +kernel
theorem dX1_add_29 : decode cX1_add 29 = .ok (.getfield 28, 3) := by decide +kernel
theorem dX1_add_32 : decode cX1_add 32 = .ok (.iload_n 2, 1) := by decide +kernel
theorem dX1_add_33 : decode cX1_add 33 = .ok (.iastore, 1) := by decide +kernel
theorem dX1_add_34 : decode cX1_add 34 = .ok (.aload_n 0, 1) := by decide +kernel
theorem dX1_add_35 : decode cX1_add 35 = .ok (.dup, 1) := by decide +kernel
theorem dX1_add_36 : decode cX1_add 36 = .ok (.getfield 28, 3) := by decide +kernel
theorem dX1_add_39 : decode cX1_add 39 = .ok (.iconst 1, 1) := by decide +kernel
theorem dX1_add_40 : decode cX1_add 40 = .ok (.iadd, 1) := by decide +kernel
theorem dX1_add_41 : decode cX1_add 41 = .ok (.putfield 28, 3) := by decide +kernel
theorem dX1_add_44 : decode cX1_add 44 = .ok (.aload_n 0, 1) := by decide +kernel
theorem dX1_add_45 : decode cX1_add 45 = .ok (.getfield 28, 3) := by decide +kernel
theorem dX1_add_48 : decode cX1_add 48 = .ok (.ireturn, 1) := by decide +kernel
theorem dX1_clear_0 : decode cX1_clear 0 = .ok (.aload_n 0, 1) := by decide +kernel
theorem dX1_clear_1 : decode cX1_clear 1 = .ok (.iconst 0, 1) := by decide +kernel
theorem dX1_clear_2 : decode cX1_clear 2 = .ok (.putfield 28, 3) := by decide +kernel
theorem dX1_clear_5 : decode cX1_clear 5 = .ok (.iconst 0, 1) := by decide +kernel
theorem dX1_clear_6 : decode cX1_clear 6 = .ok (.ireturn, 1) := by decide +kernel
theorem dX1_copyFrom_0 : decode cX1_copyFrom 0 = .ok (.aload_n 1, 1) := by decide +kernel
theorem dX1_copyFrom_1 : decode cX1_copyFrom 1 = .ok (.getfield 21, 3) := by decide +kernel
theorem dX1_copyFrom_4 : decode cX1_copyFrom 4 = .ok (.iconst 0, 1) := by decide +kernel
theorem dX1_copyFrom_5 : decode cX1_copyFrom 5 = .ok (.aload_n 0, 1) := by decide +kernel
theorem dX1_copyFrom_6 : decode cX1_copyFrom 6 = .ok (.getfield 21, 3) := by decide +kernel
theorem dX1_copyFrom_9 : decode cX1_copyFrom 9 = .ok (.iconst 0, 1) := by decide +kernel
theorem dX1_copyFrom_10 : decode cX1_copyFrom 10 = .ok (.bipush 8, 2) := by decide +kernel
theorem dX1_copyFrom_12 : decode cX1_copyFrom 12 = .ok (.invokestatic 31, 3) := by decide +kernel
theorem dX1_copyFrom_15 : decode cX1_copyFrom 15 = .ok (.aload_n 1, 1) := by decide +kernel
theorem dX1_copyFrom_16 : decode cX1_copyFrom 16 = .ok (.getfield 25, 3) := by decide +kernel
theorem dX1_copyFrom_19 : decode cX1_copyFrom 19 = .ok (.iconst 0, 1) := by decide +kernel
theorem dX1_copyFrom_20 : decode cX1_copyFrom 20 = .ok (.aload_n 0, 1) := by decide +kernel
theorem dX1_copyFrom_21 : decode cX1_copyFrom 21 = .ok (.getfield 25, 3) := by decide +kernel
theorem dX1_copyFrom_24 : decode cX1_copyFrom 24 = .ok (.iconst 0, 1) := by decide +kernel
theorem dX1_copyFrom_25 : decode cX1_copyFrom 25 = .ok (.bipush 8, 2) := by decide +kernel
theorem dX1_copyFrom_27 : decode cX1_copyFrom 27 = .ok (.invokestatic 31, 3) := by decide +kernel
theorem dX1_copyFrom_30 : decode cX1_copyFrom 30 = .ok (.aload_n 0, 1) := by decide +kernel
theorem dX1_copyFrom_31 : decode cX1_copyFrom 31 = .ok (.aload_n 1, 1) := by decide +kernel
theorem dX1_copyFrom_32 : decode cX1_copyFrom 32 = .ok (.getfield 28, 3) := by decide +kernel
theorem dX1_copyFrom_35 : decode cX1_copyFrom 35 = .ok (.putfield 28, 3) := by decide +kernel
theorem dX1_copyFrom_38 : decode cX1_copyFrom 38 = .ok (.return_, 1) := by decide +kernel
theorem dX2_init_0 : decode cX2_init 0 = .ok (.aload_n 0, 1) := by decide +kernel
theorem dX2_init_1 : decode cX2_init 1 = .ok (.invokespecial 3, 3) := by decide +kernel
theorem dX2_init_4 : decode cX2_init 4 = .ok (.aload_n 0, 1) := by decide +kernel
theorem dX2_init_5 : decode cX2_init 5 = .ok (.bipush 100, 2) := by decide +kernel
theorem dX2_init_7 : decode cX2_init 7 = .ok (.newarray .byte, 2) := by decide +kernel
theorem dX2_init_9 : decode cX2_init 9 = .ok (.putfield 9, 3) := by decide +kernel
theorem dX2_init_12 : decode cX2_init 12 = .ok (.aload_n 0, 1) := by decide +kernel
theorem dX2_init_13 : decode cX2_init 13 = .ok (.bipush 12, 2) := by decide +kernel
theorem dX2_init_15 : decode cX2_init 15 = .ok (.newarray .int, 2) := by decide +kernel
theorem dX2_init_17 : decode cX2_init 17 = .ok (.putfield 15, 3) := by decide +kernel
theorem dX2_init_20 : decode cX2_init 20 = .ok (.aload_n 0, 1) := by decide +kernel
theorem dX2_init_21 : decode cX2_init 21 = .ok (.bipush 36, 2) := by decide +kernel
theorem dX2_init_23 : decode cX2_init 23 = .ok (.newarray .int, 2) := by decide +kernel
theorem dX2_init_25 : decode cX2_init 25 = .ok (.putfield 19, 3) := by decide +kernel
theorem dX2_init_28 : decode cX2_init 28 = .ok (.return_, 1) := by decide +kernel
theorem dX2_append_0 : decode cX2_append 0 = .ok (.iload_n 1, 1) := by decide +kernel
theorem dX2_append_1 : decode cX2_append 1 = .ok (.ifCond .lt 9, 3) := by decide +kernel
theorem dX2_append_4 : decode cX2_append 4 = .ok (.iload_n 1, 1) := by decide +kernel
theorem dX2_append_5 : decode cX2_append 5 = .ok (.bipush 127, 2) := by decide +kernel
theorem dX2_append_7 : decode cX2_append 7 = .ok (.if_icmp .le 6, 3) := by decide +kernel
theorem dX2_append_10 : decode cX2_append 10 = .ok (.bipush (-2), 2) := by decide +kernel
theorem dX2_append_12 : decode cX2_append 12 = .ok (.ireturn, 1) := by decide +kernel
theorem dX2_append_13 : decode cX2_append 13 = .ok (.aload_n 0, 1) := by decide +kernel
theorem dX2_append_14 : decode cX2_append 14 = .ok (.getfield 22, 3) := by decide +kernel
theorem dX2_append_17 : decode cX2_append 17 = .ok (.bipush 100, 2) := by decide +kernel
theorem dX2_append_19 : decode cX2_append 19 = .ok (.if_icmp .lt 6, 3) := by decide +kernel
theorem dX2_append_22 : decode cX2_append 22 = .ok (.bipush (-4), 2) := by decide +kernel
theorem dX2_append_24 : decode cX2_append 24 = .ok (.ireturn, 1) := by decide +kernel
theorem dX2_append_25 : decode cX2_append 25 = .ok (.aload_n 0, 1) := by decide +kernel
theorem dX2_append_26 : decode cX2_append 26 = .ok (.getfield 9, 3) := by decide +kernel
theorem dX2_append_29 : decode cX2_append 29 = .ok (.aload_n 0, 1) := by decide +kernel
theorem dX2_append_30 : decode cX2_append 30 = .ok (.getfield 22, 3) := by decide +kernel
theorem dX2_append_33 : decode cX2_append 33 = .ok (.iload_n 1, 1) := by decide +kernel
theorem dX2_append_34 : decode cX2_append 34 = .ok (.i2b, 1) := by decide +kernel
theorem dX2_append_35 : decode cX2_append 35 = .ok (.bastore, 1) := by decide +kernel
theorem dX2_append_36 : decode cX2_append 36 = .ok (.aload_n 0, 1) := by decide +kernel
theorem dX2_append_37 : decode cX2_append 37 = .ok (.dup, 1) := by decide +kernel
theorem dX2_append_38 : decode cX2_append 38 = .ok (.getfield 22, 3) := by decide +kernel
theorem dX2_append_41 : decode cX2_append 41 = .ok (.iconst 1, 1) := by decide +kernel
theorem dX2_append_42 : decode cX2_append 42 = .ok (.iadd, 1) := by decide +kernel
theorem dX2_append_43 : decode cX2_append 43 = .ok (.putfield 22, 3) := by decide +kernel
theorem dX2_append_46 : decode cX2_append 46 = .ok (.aload_n 0, 1) := by decide +kernel
theorem dX2_append_47 : decode cX2_append 47 = .ok (.getfield 22, 3) := by decide +kernel
theorem dX2_append_50 : decode cX2_append 50 = .ok (.ireturn, 1) := by decide +kernel
theorem dX2_clear_0 : decode cX2_clear 0 = .ok (.aload_n 0, 1) := by decide +kernel
theorem dX2_clear_1 : decode cX2_clear 1 = .ok (.iconst 0, 1) := by decide +kernel
theorem dX2_clear_2 : decode cX2_clear 2 = .ok (.putfield 22, 3) := by decide +kernel
theorem dX2_clear_5 : decode cX2_clear 5 = .ok (.return_, 1) := by decide +kernel
theorem dX2_parse_0 : decode cX2_parse 0 = .ok (.aload_n 0, 1) := by decide +kernel
theorem dX2_parse_1 : decode cX2_parse 1 = .ok (.iconst 0, 1) := by decide +kernel
theorem dX2_parse_2 : decode cX2_parse 2 = .ok (.putfield 26, 3) := by decide +kernel
theorem dX2_parse_5 : decode cX2_parse 5 = .ok (.aload_n 0, 1) := by decide +kernel
theorem dX2_parse_6 : decode cX2_parse 6 = .ok (.iconst 0, 1) := by decide +kernel
theorem dX2_parse_7 : decode cX2_parse 7 = .ok (.putfield 29, 3) := by decide +kernel
theorem dX2_parse_10 : decode cX2_parse 10 = .ok (.iconst 0, 1) := by decide +kernel
theorem dX2_parse_11 : decode cX2_parse 11 = .ok (.istore_n 1, 1) := by decide +kernel
theorem dX2_parse_12 : decode cX2_parse 12 = .ok (.iload_n 1, 1) := by decide +kernel
theorem dX2_parse_13 : decode cX2_parse 13 = .ok (.bipush 12, 2) := by decide +kernel
theorem dX2_parse_15 : decode cX2_parse 15 = .ok (.if_icmp .ge 69, 3) := by decide +kernel
theorem dX2_parse_18 : decode cX2_parse 18 = .ok (.aload_n 0, 1) := by decide +kernel
theorem dX2_parse_19 : decode cX2_parse 19 = .ok (.iload_n 1, 1) := by decide +kernel
theorem dX2_parse_20 : decode cX2_parse 20 = .ok (.invokevirtual 32, 3) := by decide +kernel
theorem dX2_parse_23 : decode cX2_parse 23 = .ok (.ifCond .ne 8, 3) := by decide +kernel
theorem dX2_parse_26 : decode cX2_parse 26 = .ok (.aload_n 0, 1) := by decide +kernel
theorem dX2_parse_27 : decode cX2_parse 27 = .ok (.getfield 26, 3) := by decide +kernel
theorem dX2_parse_30 : decode cX2_parse 30 = .ok (.ireturn, 1) := by decide +kernel
theorem dX2_parse_31 : decode cX2_parse 31 = .ok (.aload_n 0, 1) := by decide +kernel
theorem dX2_parse_32 : decode cX2_parse 32 = .ok (.dup, 1) := by decide +kernel
theorem dX2_parse_33 : decode cX2_parse 33 = .ok (.getfield 29, 3) := by decide +kernel
theorem dX2_parse_36 : decode cX2_parse 36 = .ok (.iconst 1, 1) := by decide +kernel
theorem dX2_parse_37 : decode cX2_parse 37 = .ok (.iadd, 1) := by decide +kernel
theorem dX2_parse_38 : decode cX2_parse 38 = .ok (.putfield 29, 3) := by decide +kernel
theorem dX2_parse_41 : decode cX2_parse 41 = .ok (.aload_n 0, 1) := by decide +kernel
theorem dX2_parse_42 : decode cX2_parse 42 = .ok (.getfield 26, 3) := by decide +kernel
theorem dX2_parse_45 : decode cX2_parse 45 = .ok (.aload_n 0, 1) := by decide +kernel
theorem dX2_parse_46 : decode cX2_parse 46 = .ok (.getfield 22, 3) := by decide +kernel
theorem dX2_parse_49 : decode cX2_parse 49 = .ok (.if_icmp .ne 6, 3) := by decide +kernel
theorem dX2_parse_52 : decode cX2_parse 52 = .ok (.bipush (-5), 2) := by decide +kernel
theorem dX2_parse_54 : decode cX2_parse 54 = .ok (.ireturn, 1) := by decide +kernel
theorem dX2_parse_55 : decode cX2_parse 55 = .ok (.aload_n 0, 1) := by decide +kernel
theorem dX2_parse_56 : decode cX2_parse 56 = .ok (.getfield 29, 3) := by decide +kernel
theorem dX2_parse_59 : decode cX2_parse 59 = .ok (.bipush 12, 2) := by decide +kernel
theorem dX2_parse_61 : decode cX2_parse 61 = .ok (.if_icmp .eq 12, 3) := by decide +kernel
theorem dX2_parse_64 : decode cX2_parse 64 = .ok (.aload_n 0, 1) := by decide +kernel
theorem dX2_parse_65 : decode cX2_parse 65 = .ok (.bipush 59, 2) := by decide +kernel
theorem dX2_parse_67 : decode cX2_parse 67 = .ok (.invokevirtual 36, 3) := by decide +kernel
theorem dX2_parse_70 : decode cX2_parse 70 = .ok (.ifCond .ne 8, 3) := by decide +kernel
theorem dX2_parse_73 : decode cX2_parse 73 = .ok (.aload_n 0, 1) := by decide +kernel
theorem dX2_parse_74 : decode cX2_parse 74 = .ok (.getfield 26, 3) := by decide +kernel
theorem dX2_parse_77 : decode cX2_parse 77 = .ok (.ireturn, 1) := by decide +kernel
theorem dX2_parse_78 : decode cX2_parse 78 = .ok (.iinc 1 1, 3) := by decide +kernel
theorem dX2_parse_81 : decode cX2_parse 81 = .ok (.goto (-69), 3) := by decide +kernel
theorem dX2_parse_84 : decode cX2_parse 84 = .ok (.aload_n 0, 1) := by decide +kernel
theorem dX2_parse_85 : decode cX2_parse 85 = .ok (.getfield 26, 3) := by decide +kernel
theorem dX2_parse_88 : decode cX2_parse 88 = .ok (.ireturn, 1) := by decide +kernel
theorem dX2_takeClause_0 : decode cX2_takeClause 0 = .ok (.aload_n 0, 1) := by decide +kernel
theorem dX2_takeClause_1 : decode cX2_takeClause 1 = .ok (.getfield 26, 3) := by decide +kernel
theorem dX2_takeClause_4 : decode cX2_takeClause 4 = .ok (.aload_n 0, 1) := by decide +kernel
theorem dX2_takeClause_5 : decode cX2_takeClause 5 = .ok (.getfield 22, 3) := by decide +kernel
theorem dX2_takeClause_8 : decode cX2_takeClause 8 = .ok (.if_icmp .ge 15, 3) := by decide +kernel
theorem dX2_takeClause_11 : decode cX2_takeClause 11 = .ok (.aload_n 0, 1) := by decide +kernel
theorem dX2_takeClause_12 : decode cX2_takeClause 12 = .ok (.getfield 9, 3) := by decide +kernel
theorem dX2_takeClause_15 : decode cX2_takeClause 15 = .ok (.aload_n 0, 1) := by decide +kernel
theorem dX2_takeClause_16 : decode cX2_takeClause 16 = .ok (.getfield 26, 3) := by decide +kernel
theorem dX2_takeClause_19 : decode cX2_takeClause 19 = .ok (.baload, 1) := by decide +kernel
theorem dX2_takeClause_20 : decode cX2_takeClause 20 = .ok (.goto 4, 3) := by decide +kernel
theorem dX2_takeClause_23 : decode cX2_takeClause 23 = .ok (.iconst 0, 1) := by decide +kernel
theorem dX2_takeClause_24 : decode cX2_takeClause 24 = .ok (.istore_n 2, 1) := by decide +kernel
theorem dX2_takeClause_25 : decode cX2_takeClause 25 = .ok (.iload_n 1, 1) := by decide +kernel
theorem dX2_takeClause_26 : decode cX2_takeClause 26 = .ok (.iconst 3, 1) := by decide +kernel
theorem dX2_takeClause_27 : decode cX2_takeClause 27 = .ok (.imul, 1) := by decide +kernel
theorem dX2_takeClause_28 : decode cX2_takeClause 28 = .ok (.istore_n 3, 1) := by decide +kernel
theorem dX2_takeClause_29 : decode cX2_takeClause 29 = .ok (.aload_n 0, 1) := by decide +kernel
theorem dX2_takeClause_30 : decode cX2_takeClause 30 = .ok (.getfield 15, 3) := by decide +kernel
theorem dX2_takeClause_33 : decode cX2_takeClause 33 = .ok (.iload_n 1, 1) := by decide +kernel
theorem dX2_takeClause_34 : decode cX2_takeClause 34 = .ok (.iload_n 2, 1) := by decide +kernel
theorem dX2_takeClause_35 : decode cX2_takeClause 35 = .ok (.iastore, 1) := by decide +kernel
theorem dX2_takeClause_36 : decode cX2_takeClause 36 = .ok (.iload_n 2, 1) := by decide +kernel
theorem dX2_takeClause_37 : decode cX2_takeClause 37 = .ok (.lookupswitch 196 #[(99, 51), (108, 179), (110, 107), (113, 143), (114, 107)], 51) := by decide +kernel
theorem dX2_takeClause_88 : decode cX2_takeClause 88 = .ok (.aload_n 0, 1) := by decide +kernel
theorem dX2_takeClause_89 : decode cX2_takeClause 89 = .ok (.dup, 1) := by decide +kernel
theorem dX2_takeClause_90 : decode cX2_takeClause 90 = .ok (.getfield 26, 3) := by decide +kernel
theorem dX2_takeClause_93 : decode cX2_takeClause 93 = .ok (.iconst 1, 1) := by decide +kernel
theorem dX2_takeClause_94 : decode cX2_takeClause 94 = .ok (.iadd, 1) := by decide +kernel
theorem dX2_takeClause_95 : decode cX2_takeClause 95 = .ok (.putfield 26, 3) := by decide +kernel
theorem dX2_takeClause_98 : decode cX2_takeClause 98 = .ok (.aload_n 0, 1) := by decide +kernel
theorem dX2_takeClause_99 : decode cX2_takeClause 99 = .ok (.iload_n 3, 1) := by decide +kernel
theorem dX2_takeClause_100 : decode cX2_takeClause 100 = .ok (.iconst 1, 1) := by decide +kernel
theorem dX2_takeClause_101 : decode cX2_takeClause 101 = .ok (.invokevirtual 39, 3) := by decide +kernel
theorem dX2_takeClause_104 : decode cX2_takeClause 104 = .ok (.ifCond .eq 38, 3) := by decide +kernel
theorem dX2_takeClause_107 : decode cX2_takeClause 107 = .ok (.aload_n 0, 1) := by decide +kernel
theorem dX2_takeClause_108 : decode cX2_takeClause 108 = .ok (.iload_n 3, 1) := by decide +kernel
theorem dX2_takeClause_109 : decode cX2_takeClause 109 = .ok (.iconst 1, 1) := by decide +kernel
theorem dX2_takeClause_110 : decode cX2_takeClause 110 = .ok (.iadd, 1) := by decide +kernel
theorem dX2_takeClause_111 : decode cX2_takeClause 111 = .ok (.iconst 2, 1) := by decide +kernel
theorem dX2_takeClause_112 : decode cX2_takeClause 112 = .ok (.invokevirtual 39, 3) := by decide +kernel
theorem dX2_takeClause_115 : decode cX2_takeClause 115 = .ok (.ifCond .eq 27, 3) := by decide +kernel
theorem dX2_takeClause_118 : decode cX2_takeClause 118 = .ok (.aload_n 0, 1) := by decide +kernel
theorem dX2_takeClause_119 : decode cX2_takeClause 119 = .ok (.bipush 44, 2) := by decide +kernel
theorem dX2_takeClause_121 : decode cX2_takeClause 121 = .ok (.invokevirtual 36, 3) := by decide +kernel
theorem dX2_takeClause_124 : decode cX2_takeClause 124 = .ok (.ifCond .eq 18, 3) := by decide +kernel
theorem dX2_takeClause_127 : decode cX2_takeClause 127 = .ok (.aload_n 0, 1) := by decide +kernel
theorem dX2_takeClause_128 : decode cX2_takeClause 128 = .ok (.iload_n 3, 1) := by decide +kernel
theorem dX2_takeClause_129 : decode cX2_takeClause 129 = .ok (.iconst 2, 1) := by decide +kernel
theorem dX2_takeClause_130 : decode cX2_takeClause 130 = .ok (.iadd, 1) := by decide +kernel
theorem dX2_takeClause_131 : decode cX2_takeClause 131 = .ok (.iconst 2, 1) := by decide +kernel
theorem dX2_takeClause_132 : decode cX2_takeClause 132 = .ok (.invokevirtual 39, 3) := by decide +kernel
theorem dX2_takeClause_135 : decode cX2_takeClause 135 = .ok (.ifCond .eq 7, 3) := by decide +kernel
theorem dX2_takeClause_138 : decode cX2_takeClause 138 = .ok (.iconst 1, 1) := by decide +kernel
theorem dX2_takeClause_139 : decode cX2_takeClause 139 = .ok (.goto 4, 3) := by decide +kernel
theorem dX2_takeClause_142 : decode cX2_takeClause 142 = .ok (.iconst 0, 1) := by decide +kernel
theorem dX2_takeClause_143 : decode cX2_takeClause 143 = .ok (.ireturn, 1) := by decide +kernel
theorem dX2_takeClause_144 : decode cX2_takeClause 144 = .ok (.aload_n 0, 1) := by decide +kernel
theorem dX2_takeClause_145 : decode cX2_takeClause 145 = .ok (.dup, 1) := by decide +kernel
theorem dX2_takeClause_146 : decode cX2_takeClause 146 = .ok (.getfield 26, 3) := by decide +kernel
theorem dX2_takeClause_149 : decode cX2_takeClause 149 = .ok (.iconst 1, 1) := by decide +kernel
theorem dX2_takeClause_150 : decode cX2_takeClause 150 = .ok (.iadd, 1) := by decide +kernel
theorem dX2_takeClause_151 : decode cX2_takeClause 151 = .ok (.putfield 26, 3) := by decide +kernel
theorem dX2_takeClause_154 : decode cX2_takeClause 154 = .ok (.aload_n 0, 1) := by decide +kernel
theorem dX2_takeClause_155 : decode cX2_takeClause 155 = .ok (.iload_n 3, 1) := by decide +kernel
theorem dX2_takeClause_156 : decode cX2_takeClause 156 = .ok (.iconst 1, 1) := by decide +kernel
theorem dX2_takeClause_157 : decode cX2_takeClause 157 = .ok (.invokevirtual 39, 3) := by decide +kernel
theorem dX2_takeClause_160 : decode cX2_takeClause 160 = .ok (.ifCond .eq 18, 3) := by decide +kernel
theorem dX2_takeClause_163 : decode cX2_takeClause 163 = .ok (.aload_n 0, 1) := by decide +kernel
theorem dX2_takeClause_164 : decode cX2_takeClause 164 = .ok (.iload_n 3, 1) := by decide +kernel
theorem dX2_takeClause_165 : decode cX2_takeClause 165 = .ok (.iconst 1, 1) := by decide +kernel
theorem dX2_takeClause_166 : decode cX2_takeClause 166 = .ok (.iadd, 1) := by decide +kernel
theorem dX2_takeClause_167 : decode cX2_takeClause 167 = .ok (.iconst 1, 1) := by decide +kernel
theorem dX2_takeClause_168 : decode cX2_takeClause 168 = .ok (.invokevirtual 39, 3) := by decide +kernel
theorem dX2_takeClause_171 : decode cX2_takeClause 171 = .ok (.ifCond .eq 7, 3) := by decide +kernel
theorem dX2_takeClause_174 : decode cX2_takeClause 174 = .ok (.iconst 1, 1) := by decide +kernel
theorem dX2_takeClause_175 : decode cX2_takeClause 175 = .ok (.goto 4, 3) := by decide +kernel
theorem dX2_takeClause_178 : decode cX2_takeClause 178 = .ok (.iconst 0, 1) := by decide +kernel
theorem dX2_takeClause_179 : decode cX2_takeClause 179 = .ok (.ireturn, 1) := by decide +kernel
theorem dX2_takeClause_180 : decode cX2_takeClause 180 = .ok (.aload_n 0, 1) := by decide +kernel
theorem dX2_takeClause_181 : decode cX2_takeClause 181 = .ok (.dup, 1) := by decide +kernel
theorem dX2_takeClause_182 : decode cX2_takeClause 182 = .ok (.getfield 26, 3) := by decide +kernel
theorem dX2_takeClause_185 : decode cX2_takeClause 185 = .ok (.iconst 1, 1) := by decide +kernel
theorem dX2_takeClause_186 : decode cX2_takeClause 186 = .ok (.iadd, 1) := by decide +kernel
theorem dX2_takeClause_187 : decode cX2_takeClause 187 = .ok (.putfield 26, 3) := by decide +kernel
theorem dX2_takeClause_190 : decode cX2_takeClause 190 = .ok (.aload_n 0, 1) := by decide +kernel
theorem dX2_takeClause_191 : decode cX2_takeClause 191 = .ok (.iload_n 3, 1) := by decide +kernel
theorem dX2_takeClause_192 : decode cX2_takeClause 192 = .ok (.iconst 1, 1) := by decide +kernel
theorem dX2_takeClause_193 : decode cX2_takeClause 193 = .ok (.invokevirtual 39, 3) := by decide +kernel
theorem dX2_takeClause_196 : decode cX2_takeClause 196 = .ok (.ifCond .eq 18, 3) := by decide +kernel
theorem dX2_takeClause_199 : decode cX2_takeClause 199 = .ok (.aload_n 0, 1) := by decide +kernel
theorem dX2_takeClause_200 : decode cX2_takeClause 200 = .ok (.iload_n 3, 1) := by decide +kernel
theorem dX2_takeClause_201 : decode cX2_takeClause 201 = .ok (.iconst 1, 1) := by decide +kernel
theorem dX2_takeClause_202 : decode cX2_takeClause 202 = .ok (.iadd, 1) := by decide +kernel
theorem dX2_takeClause_203 : decode cX2_takeClause 203 = .ok (.iconst 3, 1) := by decide +kernel
theorem dX2_takeClause_204 : decode cX2_takeClause 204 = .ok (.invokevirtual 39, 3) := by decide +kernel
theorem dX2_takeClause_207 : decode cX2_takeClause 207 = .ok (.ifCond .eq 7, 3) := by decide +kernel
theorem dX2_takeClause_210 : decode cX2_takeClause 210 = .ok (.iconst 1, 1) := by decide +kernel
theorem dX2_takeClause_211 : decode cX2_takeClause 211 = .ok (.goto 4, 3) := by decide +kernel
theorem dX2_takeClause_214 : decode cX2_takeClause 214 = .ok (.iconst 0, 1) := by decide +kernel
theorem dX2_takeClause_215 : decode cX2_takeClause 215 = .ok (.ireturn, 1) := by decide +kernel
theorem dX2_takeClause_216 : decode cX2_takeClause 216 = .ok (.aload_n 0, 1) := by decide +kernel
theorem dX2_takeClause_217 : decode cX2_takeClause 217 = .ok (.dup, 1) := by decide +kernel
theorem dX2_takeClause_218 : decode cX2_takeClause 218 = .ok (.getfield 26, 3) := by decide +kernel
theorem dX2_takeClause_221 : decode cX2_takeClause 221 = .ok (.iconst 1, 1) := by decide +kernel
theorem dX2_takeClause_222 : decode cX2_takeClause 222 = .ok (.iadd, 1) := by decide +kernel
theorem dX2_takeClause_223 : decode cX2_takeClause 223 = .ok (.putfield 26, 3) := by decide +kernel
theorem dX2_takeClause_226 : decode cX2_takeClause 226 = .ok (.aload_n 0, 1) := by decide +kernel
theorem dX2_takeClause_227 : decode cX2_takeClause 227 = .ok (.iload_n 3, 1) := by decide +kernel
theorem dX2_takeClause_228 : decode cX2_takeClause 228 = .ok (.iconst 3, 1) := by decide +kernel
theorem dX2_takeClause_229 : decode cX2_takeClause 229 = .ok (.invokevirtual 39, 3) := by decide +kernel
theorem dX2_takeClause_232 : decode cX2_takeClause 232 = .ok (.ireturn, 1) := by decide +kernel
theorem dX2_takeClause_233 : decode cX2_takeClause 233 = .ok (.iconst 0, 1) := by decide +kernel
theorem dX2_takeClause_234 : decode cX2_takeClause 234 = .ok (.ireturn, 1) := by decide +kernel
theorem dX2_takeSign_0 : decode cX2_takeSign 0 = .ok (.aload_n 0, 1) := by decide +kernel
theorem dX2_takeSign_1 : decode cX2_takeSign 1 = .ok (.getfield 26, 3) := by decide +kernel
theorem dX2_takeSign_4 : decode cX2_takeSign 4 = .ok (.aload_n 0, 1) := by decide +kernel
theorem dX2_takeSign_5 : decode cX2_takeSign 5 = .ok (.getfield 22, 3) := by decide +kernel
theorem dX2_takeSign_8 : decode cX2_takeSign 8 = .ok (.if_icmp .ge 28, 3) := by decide +kernel
theorem dX2_takeSign_11 : decode cX2_takeSign 11 = .ok (.aload_n 0, 1) := by decide +kernel
theorem dX2_takeSign_12 : decode cX2_takeSign 12 = .ok (.getfield 9, 3) := by decide +kernel
theorem dX2_takeSign_15 : decode cX2_takeSign 15 = .ok (.aload_n 0, 1) := by decide +kernel
theorem dX2_takeSign_16 : decode cX2_takeSign 16 = .ok (.getfield 26, 3) := by decide +kernel
theorem dX2_takeSign_19 : decode cX2_takeSign 19 = .ok (.baload, 1) := by decide +kernel
theorem dX2_takeSign_20 : decode cX2_takeSign 20 = .ok (.iload_n 1, 1) := by decide +kernel
theorem dX2_takeSign_21 : decode cX2_takeSign 21 = .ok (.if_icmp .ne 15, 3) := by decide +kernel
theorem dX2_takeSign_24 : decode cX2_takeSign 24 = .ok (.aload_n 0, 1) := by decide +kernel
theorem dX2_takeSign_25 : decode cX2_takeSign 25 = .ok (.dup, 1) := by decide +kernel
theorem dX2_takeSign_26 : decode cX2_takeSign 26 = .ok (.getfield 26, 3) := by decide +kernel
theorem dX2_takeSign_29 : decode cX2_takeSign 29 = .ok (.iconst 1, 1) := by decide +kernel
theorem dX2_takeSign_30 : decode cX2_takeSign 30 = .ok (.iadd, 1) := by decide +kernel
theorem dX2_takeSign_31 : decode cX2_takeSign 31 = .ok (.putfield 26, 3) := by decide +kernel
theorem dX2_takeSign_34 : decode cX2_takeSign 34 = .ok (.iconst 1, 1) := by decide +kernel
theorem dX2_takeSign_35 : decode cX2_takeSign 35 = .ok (.ireturn, 1) := by decide +kernel
theorem dX2_takeSign_36 : decode cX2_takeSign 36 = .ok (.iconst 0, 1) := by decide +kernel
theorem dX2_takeSign_37 : decode cX2_takeSign 37 = .ok (.ireturn, 1) := by decide +kernel
theorem dX2_takeNumber_0 : decode cX2_takeNumber 0 = .ok (.iconst 0, 1) := by decide +kernel
theorem dX2_takeNumber_1 : decode cX2_takeNumber 1 = .ok (.istore_n 3, 1) := by decide +kernel
theorem dX2_takeNumber_2 : decode cX2_takeNumber 2 = .ok (.iconst 0, 1) := by decide +kernel
theorem dX2_takeNumber_3 : decode cX2_takeNumber 3 = .ok (.istore 4, 2) := by decide +kernel
theorem dX2_takeNumber_5 : decode cX2_takeNumber 5 = .ok (.iconst 0, 1) := by decide +kernel
theorem dX2_takeNumber_6 : decode cX2_takeNumber 6 = .ok (.istore 5, 2) := by decide +kernel
theorem dX2_takeNumber_8 : decode cX2_takeNumber 8 = .ok (.iload 5, 2) := by decide +kernel
theorem dX2_takeNumber_10 : decode cX2_takeNumber 10 = .ok (.iload_n 2, 1) := by decide +kernel
theorem dX2_takeNumber_11 : decode cX2_takeNumber 11 = .ok (.if_icmp .ge 79, 3) := by decide +kernel
theorem dX2_takeNumber_14 : decode cX2_takeNumber 14 = .ok (.aload_n 0, 1) := by decide +kernel
theorem dX2_takeNumber_15 : decode cX2_takeNumber 15 = .ok (.getfield 26, 3) := by decide +kernel
theorem dX2_takeNumber_18 : decode cX2_takeNumber 18 = .ok (.aload_n 0, 1) := by decide +kernel
theorem dX2_takeNumber_19 : decode cX2_takeNumber 19 = .ok (.getfield 22, 3) := by decide +kernel
theorem dX2_takeNumber_22 : decode cX2_takeNumber 22 = .ok (.if_icmp .ge 68, 3) := by decide +kernel
theorem dX2_takeNumber_25 : decode cX2_takeNumber 25 = .ok (.aload_n 0, 1) := by decide +kernel
theorem dX2_takeNumber_26 : decode cX2_takeNumber 26 = .ok (.getfield 9, 3) := by decide +kernel
theorem dX2_takeNumber_29 : decode cX2_takeNumber 29 = .ok (.aload_n 0, 1) := by decide +kernel
theorem dX2_takeNumber_30 : decode cX2_takeNumber 30 = .ok (.getfield 26, 3) := by decide +kernel
theorem dX2_takeNumber_33 : decode cX2_takeNumber 33 = .ok (.baload, 1) := by decide +kernel
theorem dX2_takeNumber_34 : decode cX2_takeNumber 34 = .ok (.bipush 48, 2) := by decide +kernel
theorem dX2_takeNumber_36 : decode cX2_takeNumber 36 = .ok (.if_icmp .lt 54, 3) := by decide +kernel
theorem dX2_takeNumber_39 : decode cX2_takeNumber 39 = .ok (.aload_n 0, 1) := by decide +kernel
theorem dX2_takeNumber_40 : decode cX2_takeNumber 40 = .ok (.getfield 9, 3) := by decide +kernel
theorem dX2_takeNumber_43 : decode cX2_takeNumber 43 = .ok (.aload_n 0, 1) := by decide +kernel
theorem dX2_takeNumber_44 : decode cX2_takeNumber 44 = .ok (.getfield 26, 3) := by decide +kernel
theorem dX2_takeNumber_47 : decode cX2_takeNumber 47 = .ok (.baload, 1) := by decide +kernel
theorem dX2_takeNumber_48 : decode cX2_takeNumber 48 = .ok (.bipush 57, 2) := by decide +kernel
theorem dX2_takeNumber_50 : decode cX2_takeNumber 50 = .ok (.if_icmp .gt 40, 3) := by decide +kernel
theorem dX2_takeNumber_53 : decode cX2_takeNumber 53 = .ok (.iload_n 3, 1) := by decide +kernel
theorem dX2_takeNumber_54 : decode cX2_takeNumber 54 = .ok (.bipush 10, 2) := by decide +kernel
theorem dX2_takeNumber_56 : decode cX2_takeNumber 56 = .ok (.imul, 1) := by decide +kernel
theorem dX2_takeNumber_57 : decode cX2_takeNumber 57 = .ok (.aload_n 0, 1) := by decide +kernel
theorem dX2_takeNumber_58 : decode cX2_takeNumber 58 = .ok (.getfield 9, 3) := by decide +kernel
theorem dX2_takeNumber_61 : decode cX2_takeNumber 61 = .ok (.aload_n 0, 1) := by decide +kernel
theorem dX2_takeNumber_62 : decode cX2_takeNumber 62 = .ok (.getfield 26, 3) := by decide +kernel
theorem dX2_takeNumber_65 : decode cX2_takeNumber 65 = .ok (.baload, 1) := by decide +kernel
theorem dX2_takeNumber_66 : decode cX2_takeNumber 66 = .ok (.bipush 48, 2) := by decide +kernel
theorem dX2_takeNumber_68 : decode cX2_takeNumber 68 = .ok (.isub, 1) := by decide +kernel
theorem dX2_takeNumber_69 : decode cX2_takeNumber 69 = .ok (.iadd, 1) := by decide +kernel
theorem dX2_takeNumber_70 : decode cX2_takeNumber 70 = .ok (.istore_n 3, 1) := by decide +kernel
theorem dX2_takeNumber_71 : decode cX2_takeNumber 71 = .ok (.aload_n 0, 1) := by decide +kernel
theorem dX2_takeNumber_72 : decode cX2_takeNumber 72 = .ok (.dup, 1) := by decide +kernel
theorem dX2_takeNumber_73 : decode cX2_takeNumber 73 = .ok (.getfield 26, 3) := by decide +kernel
theorem dX2_takeNumber_76 : decode cX2_takeNumber 76 = .ok (.iconst 1, 1) := by decide +kernel
theorem dX2_takeNumber_77 : decode cX2_takeNumber 77 = .ok (.iadd, 1) := by decide +kernel
theorem dX2_takeNumber_78 : decode cX2_takeNumber 78 = .ok (.putfield 26, 3) := by decide +kernel
theorem dX2_takeNumber_81 : decode cX2_takeNumber 81 = .ok (.iinc 4 1, 3) := by decide +kernel
theorem dX2_takeNumber_84 : decode cX2_takeNumber 84 = .ok (.iinc 5 1, 3) := by decide +kernel
theorem dX2_takeNumber_87 : decode cX2_takeNumber 87 = .ok (.goto (-79), 3) := by decide +kernel
theorem dX2_takeNumber_90 : decode cX2_takeNumber 90 = .ok (.iload 4, 2) := by decide +kernel
theorem dX2_takeNumber_92 : decode cX2_takeNumber 92 = .ok (.ifCond .eq 16, 3) := by decide +kernel
theorem dX2_takeNumber_95 : decode cX2_takeNumber 95 = .ok (.iload_n 1, 1) := by decide +kernel
theorem dX2_takeNumber_96 : decode cX2_takeNumber 96 = .ok (.ifCond .lt 12, 3) := by decide +kernel
theorem dX2_takeNumber_99 : decode cX2_takeNumber 99 = .ok (.iload_n 1, 1) := by decide +kernel
theorem dX2_takeNumber_100 : decode cX2_takeNumber 100 = .ok (.aload_n 0, 1) := by decide +kernel
theorem dX2_takeNumber_101 : decode cX2_takeNumber 101 = .ok (.getfield 19, 3) := by decide +kernel
theorem dX2_takeNumber_104 : decode cX2_takeNumber 104 = .ok (.arraylength, 1) := by decide +kernel
theorem dX2_takeNumber_105 : decode cX2_takeNumber 105 = .ok (.if_icmp .lt 5, 3) := by decide +kernel
theorem dX2_takeNumber_108 : decode cX2_takeNumber 108 = .ok (.iconst 0, 1) := by decide +kernel
theorem dX2_takeNumber_109 : decode cX2_takeNumber 109 = .ok (.ireturn, 1) := by decide +kernel
theorem dX2_takeNumber_110 : decode cX2_takeNumber 110 = .ok (.aload_n 0, 1) := by decide +kernel
theorem dX2_takeNumber_111 : decode cX2_takeNumber 111 = .ok (.getfield 19, 3) := by decide +kernel
theorem dX2_takeNumber_114 : decode cX2_takeNumber 114 = .ok (.iload_n 1, 1) := by decide +kernel
theorem dX2_takeNumber_115 : decode cX2_takeNumber 115 = .ok (.iload_n 3, 1) := by decide +kernel
theorem dX2_takeNumber_116 : decode cX2_takeNumber 116 = .ok (.iastore, 1) := by decide +kernel
theorem dX2_takeNumber_117 : decode cX2_takeNumber 117 = .ok (.iconst 1, 1) := by decide +kernel
theorem dX2_takeNumber_118 : decode cX2_takeNumber 118 = .ok (.ireturn, 1) := by decide +kernel
theorem dX2_perform_0 : decode cX2_perform 0 = .ok (.iload_n 1, 1) := by decide +kernel
theorem dX2_perform_1 : decode cX2_perform 1 = .ok (.ifCond .lt 11, 3) := by decide +kernel
theorem dX2_perform_4 : decode cX2_perform 4 = .ok (.iload_n 1, 1) := by decide +kernel
theorem dX2_perform_5 : decode cX2_perform 5 = .ok (.aload_n 0, 1) := by decide +kernel
theorem dX2_perform_6 : decode cX2_perform 6 = .ok (.getfield 29, 3) := by decide +kernel
theorem dX2_perform_9 : decode cX2_perform 9 = .ok (.if_icmp .lt 5, 3) := by decide +kernel
theorem dX2_perform_12 : decode cX2_perform 12 = .ok (.iconst (-1), 1) := by decide +kernel
theorem dX2_perform_13 : decode cX2_perform 13 = .ok (.ireturn, 1) := by decide +kernel
theorem dX2_perform_14 : decode cX2_perform 14 = .ok (.iload_n 1, 1) := by decide +kernel
theorem dX2_perform_15 : decode cX2_perform 15 = .ok (.iconst 3, 1) := by decide +kernel
theorem dX2_perform_16 : decode cX2_perform 16 = .ok (.imul, 1) := by decide +kernel
theorem dX2_perform_17 : decode cX2_perform 17 = .ok (.istore_n 3, 1) := by decide +kernel
theorem dX2_perform_18 : decode cX2_perform 18 = .ok (.aload_n 0, 1) := by decide +kernel
theorem dX2_perform_19 : decode cX2_perform 19 = .ok (.getfield 19, 3) := by decide +kernel
theorem dX2_perform_22 : decode cX2_perform 22 = .ok (.iload_n 3, 1) := by decide +kernel
theorem dX2_perform_23 : decode cX2_perform 23 = .ok (.iaload, 1) := by decide +kernel
theorem dX2_perform_24 : decode cX2_perform 24 = .ok (.istore 4, 2) := by decide +kernel
theorem dX2_perform_26 : decode cX2_perform 26 = .ok (.aload_n 0, 1) := by decide +kernel
theorem dX2_perform_27 : decode cX2_perform 27 = .ok (.getfield 19, 3) := by decide +kernel
theorem dX2_perform_30 : decode cX2_perform 30 = .ok (.iload_n 3, 1) := by decide +kernel
theorem dX2_perform_31 : decode cX2_perform 31 = .ok (.iconst 1, 1) := by decide +kernel
theorem dX2_perform_32 : decode cX2_perform 32 = .ok (.iadd, 1) := by decide +kernel
theorem dX2_perform_33 : decode cX2_perform 33 = .ok (.iaload, 1) := by decide +kernel
theorem dX2_perform_34 : decode cX2_perform 34 = .ok (.istore 5, 2) := by decide +kernel
theorem dX2_perform_36 : decode cX2_perform 36 = .ok (.aload_n 0, 1) := by decide +kernel
theorem dX2_perform_37 : decode cX2_perform 37 = .ok (.getfield 15, 3) := by decide +kernel
theorem dX2_perform_40 : decode cX2_perform 40 = .ok (.iload_n 1, 1) := by decide +kernel
theorem dX2_perform_41 : decode cX2_perform 41 = .ok (.iaload, 1) := by decide +kernel
theorem dX2_perform_42 : decode cX2_perform 42 = .ok (.lookupswitch 104 #[(99, 50), (108, 97), (110, 77), (113, 87), (114, 67)], 50) := by decide +kernel
theorem dX2_perform_92 : decode cX2_perform 92 = .ok (.aload_n 2, 1) := by decide +kernel
theorem dX2_perform_93 : decode cX2_perform 93 = .ok (.iload 4, 2) := by decide +kernel
theorem dX2_perform_95 : decode cX2_perform 95 = .ok (.iload 5, 2) := by decide +kernel
theorem dX2_perform_97 : decode cX2_perform 97 = .ok (.aload_n 0, 1) := by decide +kernel
theorem dX2_perform_98 : decode cX2_perform 98 = .ok (.getfield 19, 3) := by decide +kernel
theorem dX2_perform_101 : decode cX2_perform 101 = .ok (.iload_n 3, 1) := by decide +kernel
theorem dX2_perform_102 : decode cX2_perform 102 = .ok (.iconst 2, 1) := by decide +kernel
theorem dX2_perform_103 : decode cX2_perform 103 = .ok (.iadd, 1) := by decide +kernel
theorem dX2_perform_104 : decode cX2_perform 104 = .ok (.iaload, 1) := by decide +kernel
theorem dX2_perform_105 : decode cX2_perform 105 = .ok (.invokevirtual 43, 3) := by decide +kernel
theorem dX2_perform_108 : decode cX2_perform 108 = .ok (.ireturn, 1) := by decide +kernel
theorem dX2_perform_109 : decode cX2_perform 109 = .ok (.aload_n 2, 1) := by decide +kernel
theorem dX2_perform_110 : decode cX2_perform 110 = .ok (.iload 4, 2) := by decide +kernel
theorem dX2_perform_112 : decode cX2_perform 112 = .ok (.iload 5, 2) := by decide +kernel
theorem dX2_perform_114 : decode cX2_perform 114 = .ok (.iconst 1, 1) := by decide +kernel
theorem dX2_perform_115 : decode cX2_perform 115 = .ok (.invokevirtual 49, 3) := by decide +kernel
theorem dX2_perform_118 : decode cX2_perform 118 = .ok (.ireturn, 1) := by decide +kernel
theorem dX2_perform_119 : decode cX2_perform 119 = .ok (.aload_n 2, 1) := by decide +kernel
theorem dX2_perform_120 : decode cX2_perform 120 = .ok (.iload 4, 2) := by decide +kernel
theorem dX2_perform_122 : decode cX2_perform 122 = .ok (.iload 5, 2) := by decide +kernel
theorem dX2_perform_124 : decode cX2_perform 124 = .ok (.iconst 0, 1) := by decide +kernel
theorem dX2_perform_125 : decode cX2_perform 125 = .ok (.invokevirtual 49, 3) := by decide +kernel
theorem dX2_perform_128 : decode cX2_perform 128 = .ok (.ireturn, 1) := by decide +kernel
theorem dX2_perform_129 : decode cX2_perform 129 = .ok (.aload_n 2, 1) := by decide +kernel
theorem dX2_perform_130 : decode cX2_perform 130 = .ok (.iload 4, 2) := by decide +kernel
theorem dX2_perform_132 : decode cX2_perform 132 = .ok (.iconst 3, 1) := by decide +kernel
theorem dX2_perform_133 : decode cX2_perform 133 = .ok (.iload 5, 2) := by decide +kernel
theorem dX2_perform_135 : decode cX2_perform 135 = .ok (.invokevirtual 53, 3) := by decide +kernel
theorem dX2_perform_138 : decode cX2_perform 138 = .ok (.ireturn, 1) := by decide +kernel
theorem dX2_perform_139 : decode cX2_perform 139 = .ok (.aload_n 2, 1) := by decide +kernel
theorem dX2_perform_140 : decode cX2_perform 140 = .ok (.iload 4, 2) := by decide +kernel
theorem dX2_perform_142 : decode cX2_perform 142 = .ok (.invokevirtual 56, 3) := by decide +kernel
theorem dX2_perform_145 : decode cX2_perform 145 = .ok (.ireturn, 1) := by decide +kernel
theorem dX2_perform_146 : decode cX2_perform 146 = .ok (.iconst (-1), 1) := by decide +kernel
theorem dX2_perform_147 : decode cX2_perform 147 = .ok (.ireturn, 1) := by decide +kernel
theorem dX3_init_0 : decode cX3_init 0 = .ok (.aload_n 0, 1) := by decide +kernel
theorem dX3_init_1 : decode cX3_init 1 = .ok (.invokespecial 3, 3) := by decide +kernel
theorem dX3_init_4 : decode cX3_init 4 = .ok (.aload_n 0, 1) := by decide +kernel
theorem dX3_init_5 : decode cX3_init 5 = .ok (.bipush 6, 2) := by decide +kernel
theorem dX3_init_7 : decode cX3_init 7 = .ok (.newarray .int, 2) := by decide +kernel
theorem dX3_init_9 : decode cX3_init 9 = .ok (.putfield 9, 3) := by decide +kernel
theorem dX3_init_12 : decode cX3_init 12 = .ok (.aload_n 0, 1) := by decide +kernel
theorem dX3_init_13 : decode cX3_init 13 = .ok (.bipush 6, 2) := by decide +kernel
theorem dX3_init_15 : decode cX3_init 15 = .ok (.newarray .int, 2) := by decide +kernel
theorem dX3_init_17 : decode cX3_init 17 = .ok (.putfield 15, 3) := by decide +kernel
theorem dX3_init_20 : decode cX3_init 20 = .ok (.aload_n 0, 1) := by decide +kernel
theorem dX3_init_21 : decode cX3_init 21 = .ok (.bipush 6, 2) := by decide +kernel
theorem dX3_init_23 : decode cX3_init 23 = .ok (.newarray .int, 2) := by decide +kernel
theorem dX3_init_25 : decode cX3_init 25 = .ok (.putfield 18, 3) := by decide +kernel
theorem dX3_init_28 : decode cX3_init 28 = .ok (.aload_n 0, 1) := by decide +kernel
theorem dX3_init_29 : decode cX3_init 29 = .ok (.bipush 6, 2) := by decide +kernel
theorem dX3_init_31 : decode cX3_init 31 = .ok (.newarray .int, 2) := by decide +kernel
theorem dX3_init_33 : decode cX3_init 33 = .ok (.putfield 21, 3) := by decide +kernel
theorem dX3_init_36 : decode cX3_init 36 = .ok (.aload_n 0, 1) := by decide +kernel
theorem dX3_init_37 : decode cX3_init 37 = .ok (.bipush 6, 2) := by decide +kernel
theorem dX3_init_39 : decode cX3_init 39 = .ok (.newarray .int, 2) := by decide +kernel
theorem dX3_init_41 : decode cX3_init 41 = .ok (.putfield 24, 3) := by decide +kernel
theorem dX3_init_44 : decode cX3_init 44 = .ok (.return_, 1) := by decide +kernel
theorem dX3_isContract_0 : decode cX3_isContract 0 = .ok (.iload_n 1, 1) := by decide +kernel
theorem dX3_isContract_1 : decode cX3_isContract 1 = .ok (.ifCond .lt 15, 3) := by decide +kernel
theorem dX3_isContract_4 : decode cX3_isContract 4 = .ok (.iload_n 1, 1) := by decide +kernel
theorem dX3_isContract_5 : decode cX3_isContract 5 = .ok (.aload_n 0, 1) := by decide +kernel
theorem dX3_isContract_6 : decode cX3_isContract 6 = .ok (.getfield 27, 3) := by decide +kernel
theorem dX3_isContract_9 : decode cX3_isContract 9 = .ok (.if_icmp .ge 7, 3) := by decide +kernel
theorem dX3_isContract_12 : decode cX3_isContract 12 = .ok (.iconst 1, 1) := by decide +kernel
theorem dX3_isContract_13 : decode cX3_isContract 13 = .ok (.goto 4, 3) := by decide +kernel
theorem dX3_isContract_16 : decode cX3_isContract 16 = .ok (.iconst 0, 1) := by decide +kernel
theorem dX3_isContract_17 : decode cX3_isContract 17 = .ok (.ireturn, 1) := by decide +kernel
theorem dX3_addContract_0 : decode cX3_addContract 0 = .ok (.iconst 0, 1) := by decide +kernel
theorem dX3_addContract_1 : decode cX3_addContract 1 = .ok (.iload_n 1, 1) := by decide +kernel
theorem dX3_addContract_2 : decode cX3_addContract 2 = .ok (.invokestatic 31, 3) := by decide +kernel
theorem dX3_addContract_5 : decode cX3_addContract 5 = .ok (.ifCond .eq 19, 3) := by decide +kernel
theorem dX3_addContract_8 : decode cX3_addContract 8 = .ok (.iconst 1, 1) := by decide +kernel
theorem dX3_addContract_9 : decode cX3_addContract 9 = .ok (.iload_n 2, 1) := by decide +kernel
theorem dX3_addContract_10 : decode cX3_addContract 10 = .ok (.invokestatic 31, 3) := by decide +kernel
theorem dX3_addContract_13 : decode cX3_addContract 13 = .ok (.ifCond .eq 11, 3) := by decide +kernel
theorem dX3_addContract_16 : decode cX3_addContract 16 = .ok (.iconst 2, 1) := by decide +kernel
theorem dX3_addContract_17 : decode cX3_addContract 17 = .ok (.iload_n 3, 1) := by decide +kernel
theorem dX3_addContract_18 : decode cX3_addContract 18 = .ok (.invokestatic 31, 3) := by decide +kernel
theorem dX3_addContract_21 : decode cX3_addContract 21 = .ok (.ifCond .ne 6, 3) := by decide +kernel
theorem dX3_addContract_24 : decode cX3_addContract 24 = .ok (.bipush (-2), 2) := by decide +kernel
theorem dX3_addContract_26 : decode cX3_addContract 26 = .ok (.ireturn, 1) := by decide +kernel
theorem dX3_addContract_27 : decode cX3_addContract 27 = .ok (.aload_n 0, 1) := by decide +kernel
theorem dX3_addContract_28 : decode cX3_addContract 28 = .ok (.getfield 27, 3) := by decide +kernel
theorem dX3_addContract_31 : decode cX3_addContract 31 = .ok (.bipush 6, 2) := by decide +kernel
theorem dX3_addContract_33 : decode cX3_addContract 33 = .ok (.if_icmp .lt 6, 3) := by decide +kernel
theorem dX3_addContract_36 : decode cX3_addContract 36 = .ok (.bipush (-4), 2) := by decide +kernel
theorem dX3_addContract_38 : decode cX3_addContract 38 = .ok (.ireturn, 1) := by decide +kernel
theorem dX3_addContract_39 : decode cX3_addContract 39 = .ok (.aload_n 0, 1) := by decide +kernel
theorem dX3_addContract_40 : decode cX3_addContract 40 = .ok (.getfield 9, 3) := by decide +kernel
theorem dX3_addContract_43 : decode cX3_addContract 43 = .ok (.aload_n 0, 1) := by decide +kernel
theorem dX3_addContract_44 : decode cX3_addContract 44 = .ok (.getfield 27, 3) := by decide +kernel
theorem dX3_addContract_47 : decode cX3_addContract 47 = .ok (.iload_n 1, 1) := by decide +kernel
theorem dX3_addContract_48 : decode cX3_addContract 48 = .ok (.iastore, 1) := by decide +kernel
theorem dX3_addContract_49 : decode cX3_addContract 49 = .ok (.aload_n 0, 1) := by decide +kernel
theorem dX3_addContract_50 : decode cX3_addContract 50 = .ok (.getfield 15, 3) := by decide +kernel
theorem dX3_addContract_53 : decode cX3_addContract 53 = .ok (.aload_n 0, 1) := by decide +kernel
theorem dX3_addContract_54 : decode cX3_addContract 54 = .ok (.getfield 27, 3) := by decide +kernel
theorem dX3_addContract_57 : decode cX3_addContract 57 = .ok (.iload_n 2, 1) := by decide +kernel
theorem dX3_addContract_58 : decode cX3_addContract 58 = .ok (.iastore, 1) := by decide +kernel
theorem dX3_addContract_59 : decode cX3_addContract 59 = .ok (.aload_n 0, 1) := by decide +kernel
theorem dX3_addContract_60 : decode cX3_addContract 60 = .ok (.getfield 18, 3) := by decide +kernel
theorem dX3_addContract_63 : decode cX3_addContract 63 = .ok (.aload_n 0, 1) := by decide +kernel
theorem dX3_addContract_64 : decode cX3_addContract 64 = .ok (.getfield 27, 3) := by decide +kernel
theorem dX3_addContract_67 : decode cX3_addContract 67 = .ok (.iload_n 3, 1) := by decide +kernel
theorem dX3_addContract_68 : decode cX3_addContract 68 = .ok (.iastore, 1) := by decide +kernel
theorem dX3_addContract_69 : decode cX3_addContract 69 = .ok (.aload_n 0, 1) := by decide +kernel
theorem dX3_addContract_70 : decode cX3_addContract 70 = .ok (.getfield 21, 3) := by decide +kernel
theorem dX3_addContract_73 : decode cX3_addContract 73 = .ok (.aload_n 0, 1) := by decide +kernel
theorem dX3_addContract_74 : decode cX3_addContract 74 = .ok (.getfield 27, 3) := by decide +kernel
theorem dX3_addContract_77 : decode cX3_addContract 77 = .ok (.bipush 100, 2) := by decide +kernel
theorem dX3_addContract_79 : decode cX3_addContract 79 = .ok (.iastore, 1) := by decide +kernel
theorem dX3_addContract_80 : decode cX3_addContract 80 = .ok (.aload_n 0, 1) := by decide +kernel
theorem dX3_addContract_81 : decode cX3_addContract 81 = .ok (.getfield 24, 3) := by decide +kernel
theorem dX3_addContract_84 : decode cX3_addContract 84 = .ok (.aload_n 0, 1) := by decide +kernel
theorem dX3_addContract_85 : decode cX3_addContract 85 = .ok (.getfield 27, 3) := by decide +kernel
theorem dX3_addContract_88 : decode cX3_addContract 88 = .ok (.iconst 0, 1) := by decide +kernel
theorem dX3_addContract_89 : decode cX3_addContract 89 = .ok (.iastore, 1) := by decide +kernel
theorem dX3_addContract_90 : decode cX3_addContract 90 = .ok (.aload_n 0, 1) := by decide +kernel
theorem dX3_addContract_91 : decode cX3_addContract 91 = .ok (.dup, 1) := by decide +kernel
theorem dX3_addContract_92 : decode cX3_addContract 92 = .ok (.getfield 27, 3) := by decide +kernel
theorem dX3_addContract_95 : decode cX3_addContract 95 = .ok (.iconst 1, 1) := by decide +kernel
theorem dX3_addContract_96 : decode cX3_addContract 96 = .ok (.iadd, 1) := by decide +kernel
theorem dX3_addContract_97 : decode cX3_addContract 97 = .ok (.putfield 27, 3) := by decide +kernel
theorem dX3_addContract_100 : decode cX3_addContract 100 = .ok (.aload_n 0, 1) := by decide +kernel
theorem dX3_addContract_101 : decode cX3_addContract 101 = .ok (.getfield 27, 3) := by decide +kernel
theorem dX3_addContract_104 : decode cX3_addContract 104 = .ok (.iconst 1, 1) := by decide +kernel
theorem dX3_addContract_105 : decode cX3_addContract 105 = .ok (.isub, 1) := by decide +kernel
theorem dX3_addContract_106 : decode cX3_addContract 106 = .ok (.ireturn, 1) := by decide +kernel
theorem dX3_isTerm_0 : decode cX3_isTerm 0 = .ok (.iload_n 0, 1) := by decide +kernel
theorem dX3_isTerm_1 : decode cX3_isTerm 1 = .ok (.tableswitch 95 0 3 #[31, 46, 62, 78], 31) := by decide +kernel
theorem dX3_isTerm_32 : decode cX3_isTerm 32 = .ok (.iload_n 1, 1) := by decide +kernel
theorem dX3_isTerm_33 : decode cX3_isTerm 33 = .ok (.ifCond .lt 12, 3) := by decide +kernel
theorem dX3_isTerm_36 : decode cX3_isTerm 36 = .ok (.iload_n 1, 1) := by decide +kernel
theorem dX3_isTerm_37 : decode cX3_isTerm 37 = .ok (.iconst 3, 1) := by decide +kernel
theorem dX3_isTerm_38 : decode cX3_isTerm 38 = .ok (.if_icmp .gt 7, 3) := by decide +kernel
theorem dX3_isTerm_41 : decode cX3_isTerm 41 = .ok (.iconst 1, 1) := by decide +kernel
theorem dX3_isTerm_42 : decode cX3_isTerm 42 = .ok (.goto 4, 3) := by decide +kernel
theorem dX3_isTerm_45 : decode cX3_isTerm 45 = .ok (.iconst 0, 1) := by decide +kernel
theorem dX3_isTerm_46 : decode cX3_isTerm 46 = .ok (.ireturn, 1) := by decide +kernel
theorem dX3_isTerm_47 : decode cX3_isTerm 47 = .ok (.iload_n 1, 1) := by decide +kernel
theorem dX3_isTerm_48 : decode cX3_isTerm 48 = .ok (.ifCond .lt 13, 3) := by decide +kernel
theorem dX3_isTerm_51 : decode cX3_isTerm 51 = .ok (.iload_n 1, 1) := by decide +kernel
theorem dX3_isTerm_52 : decode cX3_isTerm 52 = .ok (.bipush 99, 2) := by decide +kernel
theorem dX3_isTerm_54 : decode cX3_isTerm 54 = .ok (.if_icmp .gt 7, 3) := by decide +kernel
theorem dX3_isTerm_57 : decode cX3_isTerm 57 = .ok (.iconst 1, 1) := by decide +kernel
theorem dX3_isTerm_58 : decode cX3_isTerm 58 = .ok (.goto 4, 3) := by decide +kernel
theorem dX3_isTerm_61 : decode cX3_isTerm 61 = .ok (.iconst 0, 1) := by decide +kernel
theorem dX3_isTerm_62 : decode cX3_isTerm 62 = .ok (.ireturn, 1) := by decide +kernel
theorem dX3_isTerm_63 : decode cX3_isTerm 63 = .ok (.iload_n 1, 1) := by decide +kernel
theorem dX3_isTerm_64 : decode cX3_isTerm 64 = .ok (.ifCond .lt 13, 3) := by decide +kernel
theorem dX3_isTerm_67 : decode cX3_isTerm 67 = .ok (.iload_n 1, 1) := by decide +kernel
theorem dX3_isTerm_68 : decode cX3_isTerm 68 = .ok (.bipush 20, 2) := by decide +kernel
theorem dX3_isTerm_70 : decode cX3_isTerm 70 = .ok (.if_icmp .gt 7, 3) := by decide +kernel
theorem dX3_isTerm_73 : decode cX3_isTerm 73 = .ok (.iconst 1, 1) := by decide +kernel
theorem dX3_isTerm_74 : decode cX3_isTerm 74 = .ok (.goto 4, 3) := by decide +kernel
theorem dX3_isTerm_77 : decode cX3_isTerm 77 = .ok (.iconst 0, 1) := by decide +kernel
theorem dX3_isTerm_78 : decode cX3_isTerm 78 = .ok (.ireturn, 1) := by decide +kernel
theorem dX3_isTerm_79 : decode cX3_isTerm 79 = .ok (.iload_n 1, 1) := by decide +kernel
theorem dX3_isTerm_80 : decode cX3_isTerm 80 = .ok (.iconst 1, 1) := by decide +kernel
theorem dX3_isTerm_81 : decode cX3_isTerm 81 = .ok (.if_icmp .lt 13, 3) := by decide +kernel
theorem dX3_isTerm_84 : decode cX3_isTerm 84 = .ok (.iload_n 1, 1) := by decide +kernel
theorem dX3_isTerm_85 : decode cX3_isTerm 85 = .ok (.bipush 100, 2) := by decide +kernel
theorem dX3_isTerm_87 : decode cX3_isTerm 87 = .ok (.if_icmp .gt 7, 3) := by decide +kernel
theorem dX3_isTerm_90 : decode cX3_isTerm 90 = .ok (.iconst 1, 1) := by decide +kernel
theorem dX3_isTerm_91 : decode cX3_isTerm 91 = .ok (.goto 4, 3) := by decide +kernel
theorem dX3_isTerm_94 : decode cX3_isTerm 94 = .ok (.iconst 0, 1) := by decide +kernel
theorem dX3_isTerm_95 : decode cX3_isTerm 95 = .ok (.ireturn, 1) := by decide +kernel
theorem dX3_isTerm_96 : decode cX3_isTerm 96 = .ok (.iconst 0, 1) := by decide +kernel
theorem dX3_isTerm_97 : decode cX3_isTerm 97 = .ok (.ireturn, 1) := by decide +kernel
theorem dX3_term_0 : decode cX3_term 0 = .ok (.aload_n 0, 1) := by decide +kernel
theorem dX3_term_1 : decode cX3_term 1 = .ok (.iload_n 1, 1) := by decide +kernel
theorem dX3_term_2 : decode cX3_term 2 = .ok (.invokevirtual 35, 3) := by decide +kernel
theorem dX3_term_5 : decode cX3_term 5 = .ok (.ifCond .ne 5, 3) := by decide +kernel
theorem dX3_term_8 : decode cX3_term 8 = .ok (.iconst (-1), 1) := by decide +kernel
theorem dX3_term_9 : decode cX3_term 9 = .ok (.ireturn, 1) := by decide +kernel
theorem dX3_term_10 : decode cX3_term 10 = .ok (.iload_n 2, 1) := by decide +kernel
theorem dX3_term_11 : decode cX3_term 11 = .ok (.tableswitch 57 0 3 #[29, 36, 43, 50], 29) := by decide +kernel
theorem dX3_term_40 : decode cX3_term 40 = .ok (.aload_n 0, 1) := by decide +kernel
theorem dX3_term_41 : decode cX3_term 41 = .ok (.getfield 9, 3) := by decide +kernel
theorem dX3_term_44 : decode cX3_term 44 = .ok (.iload_n 1, 1) := by decide +kernel
theorem dX3_term_45 : decode cX3_term 45 = .ok (.iaload, 1) := by decide +kernel
theorem dX3_term_46 : decode cX3_term 46 = .ok (.ireturn, 1) := by decide +kernel
theorem dX3_term_47 : decode cX3_term 47 = .ok (.aload_n 0, 1) := by decide +kernel
theorem dX3_term_48 : decode cX3_term 48 = .ok (.getfield 15, 3) := by decide +kernel
theorem dX3_term_51 : decode cX3_term 51 = .ok (.iload_n 1, 1) := by decide +kernel
theorem dX3_term_52 : decode cX3_term 52 = .ok (.iaload, 1) := by decide +kernel
theorem dX3_term_53 : decode cX3_term 53 = .ok (.ireturn, 1) := by decide +kernel
theorem dX3_term_54 : decode cX3_term 54 = .ok (.aload_n 0, 1) := by decide +kernel
theorem dX3_term_55 : decode cX3_term 55 = .ok (.getfield 18, 3) := by decide +kernel
theorem dX3_term_58 : decode cX3_term 58 = .ok (.iload_n 1, 1) := by decide +kernel
theorem dX3_term_59 : decode cX3_term 59 = .ok (.iaload, 1) := by decide +kernel
theorem dX3_term_60 : decode cX3_term 60 = .ok (.ireturn, 1) := by decide +kernel
theorem dX3_term_61 : decode cX3_term 61 = .ok (.aload_n 0, 1) := by decide +kernel
theorem dX3_term_62 : decode cX3_term 62 = .ok (.getfield 21, 3) := by decide +kernel
theorem dX3_term_65 : decode cX3_term 65 = .ok (.iload_n 1, 1) := by decide +kernel
theorem dX3_term_66 : decode cX3_term 66 = .ok (.iaload, 1) := by decide +kernel
theorem dX3_term_67 : decode cX3_term 67 = .ok (.ireturn, 1) := by decide +kernel
theorem dX3_term_68 : decode cX3_term 68 = .ok (.iconst (-1), 1) := by decide +kernel
theorem dX3_term_69 : decode cX3_term 69 = .ok (.ireturn, 1) := by decide +kernel
theorem dX3_change_0 : decode cX3_change 0 = .ok (.aload_n 0, 1) := by decide +kernel
theorem dX3_change_1 : decode cX3_change 1 = .ok (.iload_n 1, 1) := by decide +kernel
theorem dX3_change_2 : decode cX3_change 2 = .ok (.iload_n 2, 1) := by decide +kernel
theorem dX3_change_3 : decode cX3_change 3 = .ok (.invokevirtual 39, 3) := by decide +kernel
theorem dX3_change_6 : decode cX3_change 6 = .ok (.istore 4, 2) := by decide +kernel
theorem dX3_change_8 : decode cX3_change 8 = .ok (.iload 4, 2) := by decide +kernel
theorem dX3_change_10 : decode cX3_change 10 = .ok (.iconst (-1), 1) := by decide +kernel
theorem dX3_change_11 : decode cX3_change 11 = .ok (.if_icmp .ne 5, 3) := by decide +kernel
theorem dX3_change_14 : decode cX3_change 14 = .ok (.iconst (-1), 1) := by decide +kernel
theorem dX3_change_15 : decode cX3_change 15 = .ok (.ireturn, 1) := by decide +kernel
theorem dX3_change_16 : decode cX3_change 16 = .ok (.iload_n 2, 1) := by decide +kernel
theorem dX3_change_17 : decode cX3_change 17 = .ok (.iload_n 3, 1) := by decide +kernel
theorem dX3_change_18 : decode cX3_change 18 = .ok (.invokestatic 31, 3) := by decide +kernel
theorem dX3_change_21 : decode cX3_change 21 = .ok (.ifCond .ne 6, 3) := by decide +kernel
theorem dX3_change_24 : decode cX3_change 24 = .ok (.bipush (-2), 2) := by decide +kernel
theorem dX3_change_26 : decode cX3_change 26 = .ok (.ireturn, 1) := by decide +kernel
theorem dX3_change_27 : decode cX3_change 27 = .ok (.iload_n 2, 1) := by decide +kernel
theorem dX3_change_28 : decode cX3_change 28 = .ok (.tableswitch 58 0 2 #[28, 38, 48], 28) := by decide +kernel
theorem dX3_change_56 : decode cX3_change 56 = .ok (.aload_n 0, 1) := by decide +kernel
theorem dX3_change_57 : decode cX3_change 57 = .ok (.getfield 9, 3) := by decide +kernel
theorem dX3_change_60 : decode cX3_change 60 = .ok (.iload_n 1, 1) := by decide +kernel
theorem dX3_change_61 : decode cX3_change 61 = .ok (.iload_n 3, 1) := by decide +kernel
theorem dX3_change_62 : decode cX3_change 62 = .ok (.iastore, 1) := by decide +kernel
theorem dX3_change_63 : decode cX3_change 63 = .ok (.goto 30, 3) := by decide +kernel
theorem dX3_change_66 : decode cX3_change 66 = .ok (.aload_n 0, 1) := by decide +kernel
theorem dX3_change_67 : decode cX3_change 67 = .ok (.getfield 15, 3) := by decide +kernel
theorem dX3_change_70 : decode cX3_change 70 = .ok (.iload_n 1, 1) := by decide +kernel
theorem dX3_change_71 : decode cX3_change 71 = .ok (.iload_n 3, 1) := by decide +kernel
theorem dX3_change_72 : decode cX3_change 72 = .ok (.iastore, 1) := by decide +kernel
theorem dX3_change_73 : decode cX3_change 73 = .ok (.goto 20, 3) := by decide +kernel
theorem dX3_change_76 : decode cX3_change 76 = .ok (.aload_n 0, 1) := by decide +kernel
theorem dX3_change_77 : decode cX3_change 77 = .ok (.getfield 18, 3) := by decide +kernel
theorem dX3_change_80 : decode cX3_change 80 = .ok (.iload_n 1, 1) := by decide +kernel
theorem dX3_change_81 : decode cX3_change 81 = .ok (.iload_n 3, 1) := by decide +kernel
theorem dX3_change_82 : decode cX3_change 82 = .ok (.iastore, 1) := by decide +kernel
theorem dX3_change_83 : decode cX3_change 83 = .ok (.goto 10, 3) := by decide +kernel
theorem dX3_change_86 : decode cX3_change 86 = .ok (.aload_n 0, 1) := by decide +kernel
theorem dX3_change_87 : decode cX3_change 87 = .ok (.getfield 21, 3) := by decide +kernel
theorem dX3_change_90 : decode cX3_change 90 = .ok (.iload_n 1, 1) := by decide +kernel
theorem dX3_change_91 : decode cX3_change 91 = .ok (.iload_n 3, 1) := by decide +kernel
theorem dX3_change_92 : decode cX3_change 92 = .ok (.iastore, 1) := by decide +kernel
theorem dX3_change_93 : decode cX3_change 93 = .ok (.iload 4, 2) := by decide +kernel
theorem dX3_change_95 : decode cX3_change 95 = .ok (.ireturn, 1) := by decide +kernel
theorem dX3_link_0 : decode cX3_link 0 = .ok (.aload_n 0, 1) := by decide +kernel
theorem dX3_link_1 : decode cX3_link 1 = .ok (.iload_n 1, 1) := by decide +kernel
theorem dX3_link_2 : decode cX3_link 2 = .ok (.invokevirtual 35, 3) := by decide +kernel
theorem dX3_link_5 : decode cX3_link 5 = .ok (.ifCond .eq 16, 3) := by decide +kernel
theorem dX3_link_8 : decode cX3_link 8 = .ok (.aload_n 0, 1) := by decide +kernel
theorem dX3_link_9 : decode cX3_link 9 = .ok (.iload_n 2, 1) := by decide +kernel
theorem dX3_link_10 : decode cX3_link 10 = .ok (.invokevirtual 35, 3) := by decide +kernel
theorem dX3_link_13 : decode cX3_link 13 = .ok (.ifCond .eq 8, 3) := by decide +kernel
theorem dX3_link_16 : decode cX3_link 16 = .ok (.iload_n 1, 1) := by decide +kernel
theorem dX3_link_17 : decode cX3_link 17 = .ok (.iload_n 2, 1) := by decide +kernel
theorem dX3_link_18 : decode cX3_link 18 = .ok (.if_icmp .ne 5, 3) := by decide +kernel
theorem dX3_link_21 : decode cX3_link 21 = .ok (.iconst (-1), 1) := by decide +kernel
theorem dX3_link_22 : decode cX3_link 22 = .ok (.ireturn, 1) := by decide +kernel
theorem dX3_link_23 : decode cX3_link 23 = .ok (.aload_n 0, 1) := by decide +kernel
theorem dX3_link_24 : decode cX3_link 24 = .ok (.getfield 24, 3) := by decide +kernel
theorem dX3_link_27 : decode cX3_link 27 = .ok (.iload_n 1, 1) := by decide +kernel
theorem dX3_link_28 : decode cX3_link 28 = .ok (.iaload, 1) := by decide +kernel
theorem dX3_link_29 : decode cX3_link 29 = .ok (.iload_n 2, 1) := by decide +kernel
theorem dX3_link_30 : decode cX3_link 30 = .ok (.invokestatic 43, 3) := by decide +kernel
theorem dX3_link_33 : decode cX3_link 33 = .ok (.ifCond .eq 7, 3) := by decide +kernel
theorem dX3_link_36 : decode cX3_link 36 = .ok (.iconst 1, 1) := by decide +kernel
theorem dX3_link_37 : decode cX3_link 37 = .ok (.goto 4, 3) := by decide +kernel
theorem dX3_link_40 : decode cX3_link 40 = .ok (.iconst 0, 1) := by decide +kernel
theorem dX3_link_41 : decode cX3_link 41 = .ok (.istore 4, 2) := by decide +kernel
theorem dX3_link_43 : decode cX3_link 43 = .ok (.aload_n 0, 1) := by decide +kernel
theorem dX3_link_44 : decode cX3_link 44 = .ok (.getfield 24, 3) := by decide +kernel
theorem dX3_link_47 : decode cX3_link 47 = .ok (.iload_n 1, 1) := by decide +kernel
theorem dX3_link_48 : decode cX3_link 48 = .ok (.iload_n 3, 1) := by decide +kernel
theorem dX3_link_49 : decode cX3_link 49 = .ok (.ifCond .eq 16, 3) := by decide +kernel
theorem dX3_link_52 : decode cX3_link 52 = .ok (.aload_n 0, 1) := by decide +kernel
theorem dX3_link_53 : decode cX3_link 53 = .ok (.getfield 24, 3) := by decide +kernel
theorem dX3_link_56 : decode cX3_link 56 = .ok (.iload_n 1, 1) := by decide +kernel
theorem dX3_link_57 : decode cX3_link 57 = .ok (.iaload, 1) := by decide +kernel
theorem dX3_link_58 : decode cX3_link 58 = .ok (.iconst 1, 1) := by decide +kernel
theorem dX3_link_59 : decode cX3_link 59 = .ok (.iload_n 2, 1) := by decide +kernel
theorem dX3_link_60 : decode cX3_link 60 = .ok (.ishl, 1) := by decide +kernel
theorem dX3_link_61 : decode cX3_link 61 = .ok (.ior, 1) := by decide +kernel
theorem dX3_link_62 : decode cX3_link 62 = .ok (.goto 15, 3) := by decide +kernel
theorem dX3_link_65 : decode cX3_link 65 = .ok (.aload_n 0, 1) := by decide +kernel
theorem dX3_link_66 : decode cX3_link 66 = .ok (.getfield 24, 3) := by decide +kernel
theorem dX3_link_69 : decode cX3_link 69 = .ok (.iload_n 1, 1) := by decide +kernel
theorem dX3_link_70 : decode cX3_link 70 = .ok (.iaload, 1) := by decide +kernel
theorem dX3_link_71 : decode cX3_link 71 = .ok (.iconst 1, 1) := by decide +kernel
theorem dX3_link_72 : decode cX3_link 72 = .ok (.iload_n 2, 1) := by decide +kernel
theorem dX3_link_73 : decode cX3_link 73 = .ok (.ishl, 1) := by decide +kernel
theorem dX3_link_74 : decode cX3_link 74 = .ok (.iconst (-1), 1) := by decide +kernel
theorem dX3_link_75 : decode cX3_link 75 = .ok (.ixor, 1) := by decide +kernel
theorem dX3_link_76 : decode cX3_link 76 = .ok (.iand, 1) := by decide +kernel
theorem dX3_link_77 : decode cX3_link 77 = .ok (.iastore, 1) := by decide +kernel
theorem dX3_link_78 : decode cX3_link 78 = .ok (.iload 4, 2) := by decide +kernel
theorem dX3_link_80 : decode cX3_link 80 = .ok (.ireturn, 1) := by decide +kernel
theorem dX3_changeLoss_0 : decode cX3_changeLoss 0 = .ok (.iload_n 1, 1) := by decide +kernel
theorem dX3_changeLoss_1 : decode cX3_changeLoss 1 = .ok (.ifCond .lt 10, 3) := by decide +kernel
theorem dX3_changeLoss_4 : decode cX3_changeLoss 4 = .ok (.iload_n 1, 1) := by decide +kernel
theorem dX3_changeLoss_5 : decode cX3_changeLoss 5 = .ok (.sipush 300, 3) := by decide +kernel
theorem dX3_changeLoss_8 : decode cX3_changeLoss 8 = .ok (.if_icmp .le 6, 3) := by decide +kernel
theorem dX3_changeLoss_11 : decode cX3_changeLoss 11 = .ok (.bipush (-2), 2) := by decide +kernel
theorem dX3_changeLoss_13 : decode cX3_changeLoss 13 = .ok (.ireturn, 1) := by decide +kernel
theorem dX3_changeLoss_14 : decode cX3_changeLoss 14 = .ok (.aload_n 0, 1) := by decide +kernel
theorem dX3_changeLoss_15 : decode cX3_changeLoss 15 = .ok (.getfield 46, 3) := by decide +kernel
theorem dX3_changeLoss_18 : decode cX3_changeLoss 18 = .ok (.istore_n 2, 1) := by decide +kernel
theorem dX3_changeLoss_19 : decode cX3_changeLoss 19 = .ok (.aload_n 0, 1) := by decide +kernel
theorem dX3_changeLoss_20 : decode cX3_changeLoss 20 = .ok (.iload_n 1, 1) := by decide +kernel
theorem dX3_changeLoss_21 : decode cX3_changeLoss 21 = .ok (.putfield 46, 3) := by decide +kernel
theorem dX3_changeLoss_24 : decode cX3_changeLoss 24 = .ok (.iload_n 2, 1) := by decide +kernel
theorem dX3_changeLoss_25 : decode cX3_changeLoss 25 = .ok (.ireturn, 1) := by decide +kernel
theorem dX3_references_0 : decode cX3_references 0 = .ok (.iconst 0, 1) := by decide +kernel
theorem dX3_references_1 : decode cX3_references 1 = .ok (.istore_n 1, 1) := by decide +kernel
theorem dX3_references_2 : decode cX3_references 2 = .ok (.iconst 0, 1) := by decide +kernel
theorem dX3_references_3 : decode cX3_references 3 = .ok (.istore_n 2, 1) := by decide +kernel
theorem dX3_references_4 : decode cX3_references 4 = .ok (.iload_n 2, 1) := by decide +kernel
theorem dX3_references_5 : decode cX3_references 5 = .ok (.aload_n 0, 1) := by decide +kernel
theorem dX3_references_6 : decode cX3_references 6 = .ok (.getfield 27, 3) := by decide +kernel
theorem dX3_references_9 : decode cX3_references 9 = .ok (.if_icmp .ge 21, 3) := by decide +kernel
theorem dX3_references_12 : decode cX3_references 12 = .ok (.iload_n 1, 1) := by decide +kernel
theorem dX3_references_13 : decode cX3_references 13 = .ok (.aload_n 0, 1) := by decide +kernel
theorem dX3_references_14 : decode cX3_references 14 = .ok (.getfield 24, 3) := by decide +kernel
theorem dX3_references_17 : decode cX3_references 17 = .ok (.iload_n 2, 1) := by decide +kernel
theorem dX3_references_18 : decode cX3_references 18 = .ok (.iaload, 1) := by decide +kernel
theorem dX3_references_19 : decode cX3_references 19 = .ok (.invokestatic 49, 3) := by decide +kernel
theorem dX3_references_22 : decode cX3_references 22 = .ok (.iadd, 1) := by decide +kernel
theorem dX3_references_23 : decode cX3_references 23 = .ok (.istore_n 1, 1) := by decide +kernel
theorem dX3_references_24 : decode cX3_references 24 = .ok (.iinc 2 1, 3) := by decide +kernel
theorem dX3_references_27 : decode cX3_references 27 = .ok (.goto (-23), 3) := by decide +kernel
theorem dX3_references_30 : decode cX3_references 30 = .ok (.iload_n 1, 1) := by decide +kernel
theorem dX3_references_31 : decode cX3_references 31 = .ok (.ireturn, 1) := by decide +kernel
theorem dX3_undergo_0 : decode cX3_undergo 0 = .ok (.iload_n 1, 1) := by decide +kernel
theorem dX3_undergo_1 : decode cX3_undergo 1 = .ok (.ifCond .ne 12, 3) := by decide +kernel
theorem dX3_undergo_4 : decode cX3_undergo 4 = .ok (.aload_n 0, 1) := by decide +kernel
theorem dX3_undergo_5 : decode cX3_undergo 5 = .ok (.iload_n 2, 1) := by decide +kernel
theorem dX3_undergo_6 : decode cX3_undergo 6 = .ok (.invokevirtual 55, 3) := by decide +kernel
theorem dX3_undergo_9 : decode cX3_undergo 9 = .ok (.pop, 1) := by decide +kernel
theorem dX3_undergo_10 : decode cX3_undergo 10 = .ok (.goto 71, 3) := by decide +kernel
theorem dX3_undergo_13 : decode cX3_undergo 13 = .ok (.iload_n 1, 1) := by decide +kernel
theorem dX3_undergo_14 : decode cX3_undergo 14 = .ok (.iconst 1, 1) := by decide +kernel
theorem dX3_undergo_15 : decode cX3_undergo 15 = .ok (.if_icmp .ne 14, 3) := by decide +kernel
theorem dX3_undergo_18 : decode cX3_undergo 18 = .ok (.aload_n 0, 1) := by decide +kernel
theorem dX3_undergo_19 : decode cX3_undergo 19 = .ok (.iload_n 2, 1) := by decide +kernel
theorem dX3_undergo_20 : decode cX3_undergo 20 = .ok (.iconst 1, 1) := by decide +kernel
theorem dX3_undergo_21 : decode cX3_undergo 21 = .ok (.iconst 0, 1) := by decide +kernel
theorem dX3_undergo_22 : decode cX3_undergo 22 = .ok (.invokevirtual 58, 3) := by decide +kernel
theorem dX3_undergo_25 : decode cX3_undergo 25 = .ok (.pop, 1) := by decide +kernel
theorem dX3_undergo_26 : decode cX3_undergo 26 = .ok (.goto 55, 3) := by decide +kernel
theorem dX3_undergo_29 : decode cX3_undergo 29 = .ok (.iload_n 1, 1) := by decide +kernel
theorem dX3_undergo_30 : decode cX3_undergo 30 = .ok (.iconst 2, 1) := by decide +kernel
theorem dX3_undergo_31 : decode cX3_undergo 31 = .ok (.if_icmp .ne 21, 3) := by decide +kernel
theorem dX3_undergo_34 : decode cX3_undergo 34 = .ok (.aload_n 0, 1) := by decide +kernel
theorem dX3_undergo_35 : decode cX3_undergo 35 = .ok (.iload_n 2, 1) := by decide +kernel
theorem dX3_undergo_36 : decode cX3_undergo 36 = .ok (.invokevirtual 35, 3) := by decide +kernel
theorem dX3_undergo_39 : decode cX3_undergo 39 = .ok (.ifCond .eq 13, 3) := by decide +kernel
theorem dX3_undergo_42 : decode cX3_undergo 42 = .ok (.aload_n 0, 1) := by decide +kernel
theorem dX3_undergo_43 : decode cX3_undergo 43 = .ok (.getfield 24, 3) := by decide +kernel
theorem dX3_undergo_46 : decode cX3_undergo 46 = .ok (.iload_n 2, 1) := by decide +kernel
theorem dX3_undergo_47 : decode cX3_undergo 47 = .ok (.iconst 0, 1) := by decide +kernel
theorem dX3_undergo_48 : decode cX3_undergo 48 = .ok (.iastore, 1) := by decide +kernel
theorem dX3_undergo_49 : decode cX3_undergo 49 = .ok (.goto 32, 3) := by decide +kernel
theorem dX3_undergo_52 : decode cX3_undergo 52 = .ok (.iload_n 1, 1) := by decide +kernel
theorem dX3_undergo_53 : decode cX3_undergo 53 = .ok (.iconst 3, 1) := by decide +kernel
theorem dX3_undergo_54 : decode cX3_undergo 54 = .ok (.if_icmp .ne 27, 3) := by decide +kernel
theorem dX3_undergo_57 : decode cX3_undergo 57 = .ok (.iconst 0, 1) := by decide +kernel
theorem dX3_undergo_58 : decode cX3_undergo 58 = .ok (.istore_n 3, 1) := by decide +kernel
theorem dX3_undergo_59 : decode cX3_undergo 59 = .ok (.iload_n 3, 1) := by decide +kernel
theorem dX3_undergo_60 : decode cX3_undergo 60 = .ok (.aload_n 0, 1) := by decide +kernel
theorem dX3_undergo_61 : decode cX3_undergo 61 = .ok (.getfield 27, 3) := by decide +kernel
theorem dX3_undergo_64 : decode cX3_undergo 64 = .ok (.if_icmp .ge 17, 3) := by decide +kernel
theorem dX3_undergo_67 : decode cX3_undergo 67 = .ok (.aload_n 0, 1) := by decide +kernel
theorem dX3_undergo_68 : decode cX3_undergo 68 = .ok (.iload_n 3, 1) := by decide +kernel
theorem dX3_undergo_69 : decode cX3_undergo 69 = .ok (.iconst 2, 1) := by decide +kernel
theorem dX3_undergo_70 : decode cX3_undergo 70 = .ok (.iload_n 2, 1) := by decide +kernel
theorem dX3_undergo_71 : decode cX3_undergo 71 = .ok (.invokevirtual 58, 3) := by decide +kernel
theorem dX3_undergo_74 : decode cX3_undergo 74 = .ok (.pop, 1) := by decide +kernel
theorem dX3_undergo_75 : decode cX3_undergo 75 = .ok (.iinc 3 1, 3) := by decide +kernel
theorem dX3_undergo_78 : decode cX3_undergo 78 = .ok (.goto (-19), 3) := by decide +kernel
theorem dX3_undergo_81 : decode cX3_undergo 81 = .ok (.return_, 1) := by decide +kernel
theorem dX3_copyFrom_0 : decode cX3_copyFrom 0 = .ok (.aload_n 1, 1) := by decide +kernel
theorem dX3_copyFrom_1 : decode cX3_copyFrom 1 = .ok (.getfield 9, 3) := by decide +kernel
theorem dX3_copyFrom_4 : decode cX3_copyFrom 4 = .ok (.iconst 0, 1) := by decide +kernel
theorem dX3_copyFrom_5 : decode cX3_copyFrom 5 = .ok (.aload_n 0, 1) := by decide +kernel
theorem dX3_copyFrom_6 : decode cX3_copyFrom 6 = .ok (.getfield 9, 3) := by decide +kernel
theorem dX3_copyFrom_9 : decode cX3_copyFrom 9 = .ok (.iconst 0, 1) := by decide +kernel
theorem dX3_copyFrom_10 : decode cX3_copyFrom 10 = .ok (.bipush 6, 2) := by decide +kernel
theorem dX3_copyFrom_12 : decode cX3_copyFrom 12 = .ok (.invokestatic 62, 3) := by decide +kernel
theorem dX3_copyFrom_15 : decode cX3_copyFrom 15 = .ok (.aload_n 1, 1) := by decide +kernel
theorem dX3_copyFrom_16 : decode cX3_copyFrom 16 = .ok (.getfield 15, 3) := by decide +kernel
theorem dX3_copyFrom_19 : decode cX3_copyFrom 19 = .ok (.iconst 0, 1) := by decide +kernel
theorem dX3_copyFrom_20 : decode cX3_copyFrom 20 = .ok (.aload_n 0, 1) := by decide +kernel
theorem dX3_copyFrom_21 : decode cX3_copyFrom 21 = .ok (.getfield 15, 3) := by decide +kernel
theorem dX3_copyFrom_24 : decode cX3_copyFrom 24 = .ok (.iconst 0, 1) := by decide +kernel
theorem dX3_copyFrom_25 : decode cX3_copyFrom 25 = .ok (.bipush 6, 2) := by decide +kernel
theorem dX3_copyFrom_27 : decode cX3_copyFrom 27 = .ok (.invokestatic 62, 3) := by decide +kernel
theorem dX3_copyFrom_30 : decode cX3_copyFrom 30 = .ok (.aload_n 1, 1) := by decide +kernel
theorem dX3_copyFrom_31 : decode cX3_copyFrom 31 = .ok (.getfield 18, 3) := by decide +kernel
theorem dX3_copyFrom_34 : decode cX3_copyFrom 34 = .ok (.iconst 0, 1) := by decide +kernel
theorem dX3_copyFrom_35 : decode cX3_copyFrom 35 = .ok (.aload_n 0, 1) := by decide +kernel
theorem dX3_copyFrom_36 : decode cX3_copyFrom 36 = .ok (.getfield 18, 3) := by decide +kernel
theorem dX3_copyFrom_39 : decode cX3_copyFrom 39 = .ok (.iconst 0, 1) := by decide +kernel
theorem dX3_copyFrom_40 : decode cX3_copyFrom 40 = .ok (.bipush 6, 2) := by decide +kernel
theorem dX3_copyFrom_42 : decode cX3_copyFrom 42 = .ok (.invokestatic 62, 3) := by decide +kernel
theorem dX3_copyFrom_45 : decode cX3_copyFrom 45 = .ok (.aload_n 1, 1) := by decide +kernel
theorem dX3_copyFrom_46 : decode cX3_copyFrom 46 = .ok (.getfield 21, 3) := by decide +kernel
theorem dX3_copyFrom_49 : decode cX3_copyFrom 49 = .ok (.iconst 0, 1) := by decide +kernel
theorem dX3_copyFrom_50 : decode cX3_copyFrom 50 = .ok (.aload_n 0, 1) := by decide +kernel
theorem dX3_copyFrom_51 : decode cX3_copyFrom 51 = .ok (.getfield 21, 3) := by decide +kernel
theorem dX3_copyFrom_54 : decode cX3_copyFrom 54 = .ok (.iconst 0, 1) := by decide +kernel
theorem dX3_copyFrom_55 : decode cX3_copyFrom 55 = .ok (.bipush 6, 2) := by decide +kernel
theorem dX3_copyFrom_57 : decode cX3_copyFrom 57 = .ok (.invokestatic 62, 3) := by decide +kernel
theorem dX3_copyFrom_60 : decode cX3_copyFrom 60 = .ok (.aload_n 1, 1) := by decide +kernel
theorem dX3_copyFrom_61 : decode cX3_copyFrom 61 = .ok (.getfield 24, 3) := by decide +kernel
theorem dX3_copyFrom_64 : decode cX3_copyFrom 64 = .ok (.iconst 0, 1) := by decide +kernel
theorem dX3_copyFrom_65 : decode cX3_copyFrom 65 = .ok (.aload_n 0, 1) := by decide +kernel
theorem dX3_copyFrom_66 : decode cX3_copyFrom 66 = .ok (.getfield 24, 3) := by decide +kernel
theorem dX3_copyFrom_69 : decode cX3_copyFrom 69 = .ok (.iconst 0, 1) := by decide +kernel
theorem dX3_copyFrom_70 : decode cX3_copyFrom 70 = .ok (.bipush 6, 2) := by decide +kernel
theorem dX3_copyFrom_72 : decode cX3_copyFrom 72 = .ok (.invokestatic 62, 3) := by decide +kernel
theorem dX3_copyFrom_75 : decode cX3_copyFrom 75 = .ok (.aload_n 0, 1) := by decide +kernel
theorem dX3_copyFrom_76 : decode cX3_copyFrom 76 = .ok (.aload_n 1, 1) := by decide +kernel
theorem dX3_copyFrom_77 : decode cX3_copyFrom 77 = .ok (.getfield 27, 3) := by decide +kernel
theorem dX3_copyFrom_80 : decode cX3_copyFrom 80 = .ok (.putfield 27, 3) := by decide +kernel
theorem dX3_copyFrom_83 : decode cX3_copyFrom 83 = .ok (.aload_n 0, 1) := by decide +kernel
theorem dX3_copyFrom_84 : decode cX3_copyFrom 84 = .ok (.aload_n 1, 1) := by decide +kernel
theorem dX3_copyFrom_85 : decode cX3_copyFrom 85 = .ok (.getfield 46, 3) := by decide +kernel
theorem dX3_copyFrom_88 : decode cX3_copyFrom 88 = .ok (.putfield 46, 3) := by decide +kernel
theorem dX3_copyFrom_91 : decode cX3_copyFrom 91 = .ok (.return_, 1) := by decide +kernel
theorem dX4_init_0 : decode cX4_init 0 = .ok (.aload_n 0, 1) := by decide +kernel
theorem dX4_init_1 : decode cX4_init 1 = .ok (.invokespecial 3, 3) := by decide +kernel
theorem dX4_init_4 : decode cX4_init 4 = .ok (.aload_n 0, 1) := by decide +kernel
theorem dX4_init_5 : decode cX4_init 5 = .ok (.bipush 60, 2) := by decide +kernel
theorem dX4_init_7 : decode cX4_init 7 = .ok (.newarray .long, 2) := by decide +kernel
theorem dX4_init_9 : decode cX4_init 9 = .ok (.putfield 9, 3) := by decide +kernel
theorem dX4_init_12 : decode cX4_init 12 = .ok (.aload_n 0, 1) := by decide +kernel
theorem dX4_init_13 : decode cX4_init 13 = .ok (.iconst (-1), 1) := by decide +kernel
theorem dX4_init_14 : decode cX4_init 14 = .ok (.putfield 15, 3) := by decide +kernel
theorem dX4_init_17 : decode cX4_init 17 = .ok (.return_, 1) := by decide +kernel
theorem dX4_holds_0 : decode cX4_holds 0 = .ok (.aload_n 0, 1) := by decide +kernel
theorem dX4_holds_1 : decode cX4_holds 1 = .ok (.getfield 15, 3) := by decide +kernel
theorem dX4_holds_4 : decode cX4_holds 4 = .ok (.iconst (-1), 1) := by decide +kernel
theorem dX4_holds_5 : decode cX4_holds 5 = .ok (.if_icmp .eq 7, 3) := by decide +kernel
theorem dX4_holds_8 : decode cX4_holds 8 = .ok (.iconst 1, 1) := by decide +kernel
theorem dX4_holds_9 : decode cX4_holds 9 = .ok (.goto 4, 3) := by decide +kernel
theorem dX4_holds_12 : decode cX4_holds 12 = .ok (.iconst 0, 1) := by decide +kernel
theorem dX4_holds_13 : decode cX4_holds 13 = .ok (.ireturn, 1) := by decide +kernel
theorem dX4_become_0 : decode cX4_become 0 = .ok (.aload_n 0, 1) := by decide +kernel
theorem dX4_become_1 : decode cX4_become 1 = .ok (.iload_n 1, 1) := by decide +kernel
theorem dX4_become_2 : decode cX4_become 2 = .ok (.putfield 15, 3) := by decide +kernel
theorem dX4_become_5 : decode cX4_become 5 = .ok (.aload_n 0, 1) := by decide +kernel
theorem dX4_become_6 : decode cX4_become 6 = .ok (.iconst 0, 1) := by decide +kernel
theorem dX4_become_7 : decode cX4_become 7 = .ok (.iload_n 2, 1) := by decide +kernel
theorem dX4_become_8 : decode cX4_become 8 = .ok (.bipush 60, 2) := by decide +kernel
theorem dX4_become_10 : decode cX4_become 10 = .ok (.invokestatic 19, 3) := by decide +kernel
theorem dX4_become_13 : decode cX4_become 13 = .ok (.invokestatic 25, 3) := by decide +kernel
theorem dX4_become_16 : decode cX4_become 16 = .ok (.putfield 28, 3) := by decide +kernel
theorem dX4_become_19 : decode cX4_become 19 = .ok (.iconst 0, 1) := by decide +kernel
theorem dX4_become_20 : decode cX4_become 20 = .ok (.istore_n 3, 1) := by decide +kernel
theorem dX4_become_21 : decode cX4_become 21 = .ok (.iload_n 3, 1) := by decide +kernel
theorem dX4_become_22 : decode cX4_become 22 = .ok (.bipush 60, 2) := by decide +kernel
theorem dX4_become_24 : decode cX4_become 24 = .ok (.if_icmp .ge 16, 3) := by decide +kernel
theorem dX4_become_27 : decode cX4_become 27 = .ok (.aload_n 0, 1) := by decide +kernel
theorem dX4_become_28 : decode cX4_become 28 = .ok (.getfield 9, 3) := by decide +kernel
theorem dX4_become_31 : decode cX4_become 31 = .ok (.iload_n 3, 1) := by decide +kernel
theorem dX4_become_32 : decode cX4_become 32 = .ok (.lconst 0, 1) := by decide +kernel
theorem dX4_become_33 : decode cX4_become 33 = .ok (.lastore, 1) := by decide +kernel
theorem dX4_become_34 : decode cX4_become 34 = .ok (.iinc 3 1, 3) := by decide +kernel
theorem dX4_become_37 : decode cX4_become 37 = .ok (.goto (-16), 3) := by decide +kernel
theorem dX4_become_40 : decode cX4_become 40 = .ok (.return_, 1) := by decide +kernel
theorem dX4_hasPlace_0 : decode cX4_hasPlace 0 = .ok (.iload_n 1, 1) := by decide +kernel
theorem dX4_hasPlace_1 : decode cX4_hasPlace 1 = .ok (.ifCond .lt 15, 3) := by decide +kernel
theorem dX4_hasPlace_4 : decode cX4_hasPlace 4 = .ok (.iload_n 1, 1) := by decide +kernel
theorem dX4_hasPlace_5 : decode cX4_hasPlace 5 = .ok (.aload_n 0, 1) := by decide +kernel
theorem dX4_hasPlace_6 : decode cX4_hasPlace 6 = .ok (.getfield 28, 3) := by decide +kernel
theorem dX4_hasPlace_9 : decode cX4_hasPlace 9 = .ok (.if_icmp .ge 7, 3) := by decide +kernel
theorem dX4_hasPlace_12 : decode cX4_hasPlace 12 = .ok (.iconst 1, 1) := by decide +kernel
theorem dX4_hasPlace_13 : decode cX4_hasPlace 13 = .ok (.goto 4, 3) := by decide +kernel
theorem dX4_hasPlace_16 : decode cX4_hasPlace 16 = .ok (.iconst 0, 1) := by decide +kernel
theorem dX4_hasPlace_17 : decode cX4_hasPlace 17 = .ok (.ireturn, 1) := by decide +kernel
theorem dX4_hasStretch_0 : decode cX4_hasStretch 0 = .ok (.iload_n 1, 1) := by decide +kernel
theorem dX4_hasStretch_1 : decode cX4_hasStretch 1 = .ok (.ifCond .lt 29, 3) := by decide +kernel
theorem dX4_hasStretch_4 : decode cX4_hasStretch 4 = .ok (.iload_n 2, 1) := by decide +kernel
theorem dX4_hasStretch_5 : decode cX4_hasStretch 5 = .ok (.ifCond .lt 25, 3) := by decide +kernel
theorem dX4_hasStretch_8 : decode cX4_hasStretch 8 = .ok (.iload_n 2, 1) := by decide +kernel
theorem dX4_hasStretch_9 : decode cX4_hasStretch 9 = .ok (.aload_n 0, 1) := by decide +kernel
theorem dX4_hasStretch_10 : decode cX4_hasStretch 10 = .ok (.getfield 28, 3) := by decide +kernel
theorem dX4_hasStretch_13 : decode cX4_hasStretch 13 = .ok (.if_icmp .gt 17, 3) := by decide +kernel
theorem dX4_hasStretch_16 : decode cX4_hasStretch 16 = .ok (.iload_n 1, 1) := by decide +kernel
theorem dX4_hasStretch_17 : decode cX4_hasStretch 17 = .ok (.aload_n 0, 1) := by decide +kernel
theorem dX4_hasStretch_18 : decode cX4_hasStretch 18 = .ok (.getfield 28, 3) := by decide +kernel
theorem dX4_hasStretch_21 : decode cX4_hasStretch 21 = .ok (.iload_n 2, 1) := by decide +kernel
theorem dX4_hasStretch_22 : decode cX4_hasStretch 22 = .ok (.isub, 1) := by decide +kernel
theorem dX4_hasStretch_23 : decode cX4_hasStretch 23 = .ok (.if_icmp .gt 7, 3) := by decide +kernel
theorem dX4_hasStretch_26 : decode cX4_hasStretch 26 = .ok (.iconst 1, 1) := by decide +kernel
theorem dX4_hasStretch_27 : decode cX4_hasStretch 27 = .ok (.goto 4, 3) := by decide +kernel
theorem dX4_hasStretch_30 : decode cX4_hasStretch 30 = .ok (.iconst 0, 1) := by decide +kernel
theorem dX4_hasStretch_31 : decode cX4_hasStretch 31 = .ok (.ireturn, 1) := by decide +kernel
theorem dX5_init_0 : decode cX5_init 0 = .ok (.aload_n 0, 1) := by decide +kernel
theorem dX5_init_1 : decode cX5_init 1 = .ok (.invokespecial 3, 3) := by decide +kernel
theorem dX5_init_4 : decode cX5_init 4 = .ok (.aload_n 0, 1) := by decide +kernel
theorem dX5_init_5 : decode cX5_init 5 = .ok (.new 9, 3) := by decide +kernel
theorem dX5_init_8 : decode cX5_init 8 = .ok (.dup, 1) := by decide +kernel
theorem dX5_init_9 : decode cX5_init 9 = .ok (.invokespecial 11, 3) := by decide +kernel
theorem dX5_init_12 : decode cX5_init 12 = .ok (.putfield 12, 3) := by decide +kernel
theorem dX5_init_15 : decode cX5_init 15 = .ok (.aload_n 0, 1) := by decide +kernel
theorem dX5_init_16 : decode cX5_init 16 = .ok (.new 18, 3) := by decide +kernel
theorem dX5_init_19 : decode cX5_init 19 = .ok (.dup, 1) := by decide +kernel
theorem dX5_init_20 : decode cX5_init 20 = .ok (.iconst 5, 1) := by decide +kernel
theorem dX5_init_21 : decode cX5_init 21 = .ok (.invokespecial 20, 3) := by decide +kernel
theorem dX5_init_24 : decode cX5_init 24 = .ok (.putfield 23, 3) := by decide +kernel
theorem dX5_init_27 : decode cX5_init 27 = .ok (.aload_n 0, 1) := by decide +kernel
theorem dX5_init_28 : decode cX5_init 28 = .ok (.new 18, 3) := by decide +kernel
theorem dX5_init_31 : decode cX5_init 31 = .ok (.dup, 1) := by decide +kernel
theorem dX5_init_32 : decode cX5_init 32 = .ok (.bipush 8, 2) := by decide +kernel
theorem dX5_init_34 : decode cX5_init 34 = .ok (.invokespecial 20, 3) := by decide +kernel
theorem dX5_init_37 : decode cX5_init 37 = .ok (.putfield 27, 3) := by decide +kernel
theorem dX5_init_40 : decode cX5_init 40 = .ok (.aload_n 0, 1) := by decide +kernel
theorem dX5_init_41 : decode cX5_init 41 = .ok (.new 18, 3) := by decide +kernel
theorem dX5_init_44 : decode cX5_init 44 = .ok (.dup, 1) := by decide +kernel
theorem dX5_init_45 : decode cX5_init 45 = .ok (.bipush 8, 2) := by decide +kernel
theorem dX5_init_47 : decode cX5_init 47 = .ok (.invokespecial 20, 3) := by decide +kernel
theorem dX5_init_50 : decode cX5_init 50 = .ok (.putfield 30, 3) := by decide +kernel
theorem dX5_init_53 : decode cX5_init 53 = .ok (.return_, 1) := by decide +kernel
theorem dX5_copyFrom_0 : decode cX5_copyFrom 0 = .ok (.aload_n 0, 1) := by decide +kernel
theorem dX5_copyFrom_1 : decode cX5_copyFrom 1 = .ok (.getfield 12, 3) := by decide +kernel
theorem dX5_copyFrom_4 : decode cX5_copyFrom 4 = .ok (.aload_n 1, 1) := by decide +kernel
theorem dX5_copyFrom_5 : decode cX5_copyFrom 5 = .ok (.getfield 12, 3) := by decide +kernel
theorem dX5_copyFrom_8 : decode cX5_copyFrom 8 = .ok (.invokevirtual 33, 3) := by decide +kernel
theorem dX5_copyFrom_11 : decode cX5_copyFrom 11 = .ok (.aload_n 0, 1) := by decide +kernel
theorem dX5_copyFrom_12 : decode cX5_copyFrom 12 = .ok (.getfield 23, 3) := by decide +kernel
theorem dX5_copyFrom_15 : decode cX5_copyFrom 15 = .ok (.aload_n 1, 1) := by decide +kernel
theorem dX5_copyFrom_16 : decode cX5_copyFrom 16 = .ok (.getfield 23, 3) := by decide +kernel
theorem dX5_copyFrom_19 : decode cX5_copyFrom 19 = .ok (.invokevirtual 37, 3) := by decide +kernel
theorem dX5_copyFrom_22 : decode cX5_copyFrom 22 = .ok (.aload_n 0, 1) := by decide +kernel
theorem dX5_copyFrom_23 : decode cX5_copyFrom 23 = .ok (.getfield 27, 3) := by decide +kernel
theorem dX5_copyFrom_26 : decode cX5_copyFrom 26 = .ok (.aload_n 1, 1) := by decide +kernel
theorem dX5_copyFrom_27 : decode cX5_copyFrom 27 = .ok (.getfield 27, 3) := by decide +kernel
theorem dX5_copyFrom_30 : decode cX5_copyFrom 30 = .ok (.invokevirtual 37, 3) := by decide +kernel
theorem dX5_copyFrom_33 : decode cX5_copyFrom 33 = .ok (.aload_n 0, 1) := by decide +kernel
end
section
theorem dX5_copyFrom_34 : decode cX5_copyFrom 34 = .ok (.getfield 30, 3) := by decide +kernel
theorem dX5_copyFrom_37 : decode cX5_copyFrom 37 = .ok (.aload_n 1, 1) := by decide +kernel
theorem dX5_copyFrom_38 : decode cX5_copyFrom 38 = .ok (.getfield 30, 3) := by decide +kernel
theorem dX5_copyFrom_41 : decode cX5_copyFrom 41 = .ok (.invokevirtual 37, 3) := by decide +kernel
theorem dX5_copyFrom_44 : decode cX5_copyFrom 44 = .ok (.return_, 1) := by decide +kernel
theorem dX6_init_0 : decode cX6_init 0 = .ok (.aload_n 0, 1) := by decide +kernel
theorem dX6_init_1 : decode cX6_init 1 = .ok (.invokespecial 3, 3) := by decide +kernel
theorem dX6_init_4 : decode cX6_init 4 = .ok (.aload_n 0, 1) := by decide +kernel
theorem dX6_init_5 : decode cX6_init 5 = .ok (.new 9, 3) := by decide +kernel
theorem dX6_init_8 : decode cX6_init 8 = .ok (.dup, 1) := by decide +kernel
theorem dX6_init_9 : decode cX6_init 9 = .ok (.invokespecial 11, 3) := by decide +kernel
theorem dX6_init_12 : decode cX6_init 12 = .ok (.putfield 12, 3) := by decide +kernel
theorem dX6_init_15 : decode cX6_init 15 = .ok (.aload_n 0, 1) := by decide +kernel
theorem dX6_init_16 : decode cX6_init 16 = .ok (.new 9, 3) := by decide +kernel
theorem dX6_init_19 : decode cX6_init 19 = .ok (.dup, 1) := by decide +kernel
theorem dX6_init_20 : decode cX6_init 20 = .ok (.invokespecial 11, 3) := by decide +kernel
theorem dX6_init_23 : decode cX6_init 23 = .ok (.putfield 18, 3) := by decide +kernel
theorem dX6_init_26 : decode cX6_init 26 = .ok (.aload_n 0, 1) := by decide +kernel
theorem dX6_init_27 : decode cX6_init 27 = .ok (.iconst 0, 1) := by decide +kernel
theorem dX6_init_28 : decode cX6_init 28 = .ok (.putfield 21, 3) := by decide +kernel
theorem dX6_init_31 : decode cX6_init 31 = .ok (.aload_n 0, 1) := by decide +kernel
theorem dX6_init_32 : decode cX6_init 32 = .ok (.new 25, 3) := by decide +kernel
theorem dX6_init_35 : decode cX6_init 35 = .ok (.dup, 1) := by decide +kernel
theorem dX6_init_36 : decode cX6_init 36 = .ok (.aload_n 0, 1) := by decide +kernel
theorem dX6_init_37 : decode cX6_init 37 = .ok (.getfield 12, 3) := by decide +kernel
theorem dX6_init_40 : decode cX6_init 40 = .ok (.getfield 27, 3) := by decide +kernel
theorem dX6_init_43 : decode cX6_init 43 = .ok (.invokespecial 31, 3) := by decide +kernel
theorem dX6_init_46 : decode cX6_init 46 = .ok (.putfield 34, 3) := by decide +kernel
theorem dX6_init_49 : decode cX6_init 49 = .ok (.aload_n 0, 1) := by decide +kernel
theorem dX6_init_50 : decode cX6_init 50 = .ok (.new 38, 3) := by decide +kernel
theorem dX6_init_53 : decode cX6_init 53 = .ok (.dup, 1) := by decide +kernel
theorem dX6_init_54 : decode cX6_init 54 = .ok (.invokespecial 40, 3) := by decide +kernel
theorem dX6_init_57 : decode cX6_init 57 = .ok (.putfield 41, 3) := by decide +kernel
theorem dX6_init_60 : decode cX6_init 60 = .ok (.aload_n 0, 1) := by decide +kernel
theorem dX6_init_61 : decode cX6_init 61 = .ok (.new 25, 3) := by decide +kernel
theorem dX6_init_64 : decode cX6_init 64 = .ok (.dup, 1) := by decide +kernel
theorem dX6_init_65 : decode cX6_init 65 = .ok (.aload_n 0, 1) := by decide +kernel
theorem dX6_init_66 : decode cX6_init 66 = .ok (.getfield 41, 3) := by decide +kernel
theorem dX6_init_69 : decode cX6_init 69 = .ok (.invokespecial 31, 3) := by decide +kernel
theorem dX6_init_72 : decode cX6_init 72 = .ok (.putfield 44, 3) := by decide +kernel
theorem dX6_init_75 : decode cX6_init 75 = .ok (.aload_n 0, 1) := by decide +kernel
theorem dX6_init_76 : decode cX6_init 76 = .ok (.new 47, 3) := by decide +kernel
theorem dX6_init_79 : decode cX6_init 79 = .ok (.dup, 1) := by decide +kernel
theorem dX6_init_80 : decode cX6_init 80 = .ok (.invokespecial 49, 3) := by decide +kernel
theorem dX6_init_83 : decode cX6_init 83 = .ok (.putfield 50, 3) := by decide +kernel
theorem dX6_init_86 : decode cX6_init 86 = .ok (.aload_n 0, 1) := by decide +kernel
theorem dX6_init_87 : decode cX6_init 87 = .ok (.bipush 6, 2) := by decide +kernel
theorem dX6_init_89 : decode cX6_init 89 = .ok (.anewarray 54, 3) := by decide +kernel
theorem dX6_init_92 : decode cX6_init 92 = .ok (.putfield 56, 3) := by decide +kernel
theorem dX6_init_95 : decode cX6_init 95 = .ok (.iconst 0, 1) := by decide +kernel
theorem dX6_init_96 : decode cX6_init 96 = .ok (.istore_n 1, 1) := by decide +kernel
theorem dX6_init_97 : decode cX6_init 97 = .ok (.iload_n 1, 1) := by decide +kernel
theorem dX6_init_98 : decode cX6_init 98 = .ok (.bipush 6, 2) := by decide +kernel
theorem dX6_init_100 : decode cX6_init 100 = .ok (.if_icmp .ge 22, 3) := by decide +kernel
theorem dX6_init_103 : decode cX6_init 103 = .ok (.aload_n 0, 1) := by decide +kernel
theorem dX6_init_104 : decode cX6_init 104 = .ok (.getfield 56, 3) := by decide +kernel
theorem dX6_init_107 : decode cX6_init 107 = .ok (.iload_n 1, 1) := by decide +kernel
theorem dX6_init_108 : decode cX6_init 108 = .ok (.new 54, 3) := by decide +kernel
theorem dX6_init_111 : decode cX6_init 111 = .ok (.dup, 1) := by decide +kernel
theorem dX6_init_112 : decode cX6_init 112 = .ok (.invokespecial 60, 3) := by decide +kernel
theorem dX6_init_115 : decode cX6_init 115 = .ok (.aastore, 1) := by decide +kernel
theorem dX6_init_116 : decode cX6_init 116 = .ok (.iinc 1 1, 3) := by decide +kernel
theorem dX6_init_119 : decode cX6_init 119 = .ok (.goto (-22), 3) := by decide +kernel
theorem dX6_init_122 : decode cX6_init 122 = .ok (.return_, 1) := by decide +kernel
theorem dX6_contract_0 : decode cX6_contract 0 = .ok (.aload_n 0, 1) := by decide +kernel
theorem dX6_contract_1 : decode cX6_contract 1 = .ok (.getfield 12, 3) := by decide +kernel
theorem dX6_contract_4 : decode cX6_contract 4 = .ok (.getfield 27, 3) := by decide +kernel
theorem dX6_contract_7 : decode cX6_contract 7 = .ok (.iload_n 1, 1) := by decide +kernel
theorem dX6_contract_8 : decode cX6_contract 8 = .ok (.iload_n 2, 1) := by decide +kernel
theorem dX6_contract_9 : decode cX6_contract 9 = .ok (.iload_n 3, 1) := by decide +kernel
theorem dX6_contract_10 : decode cX6_contract 10 = .ok (.invokevirtual 61, 3) := by decide +kernel
theorem dX6_contract_13 : decode cX6_contract 13 = .ok (.ireturn, 1) := by decide +kernel
theorem dX6_renew_0 : decode cX6_renew 0 = .ok (.aload_n 0, 1) := by decide +kernel
theorem dX6_renew_1 : decode cX6_renew 1 = .ok (.getfield 12, 3) := by decide +kernel
theorem dX6_renew_4 : decode cX6_renew 4 = .ok (.getfield 27, 3) := by decide +kernel
theorem dX6_renew_7 : decode cX6_renew 7 = .ok (.iload_n 1, 1) := by decide +kernel
theorem dX6_renew_8 : decode cX6_renew 8 = .ok (.iload_n 2, 1) := by decide +kernel
theorem dX6_renew_9 : decode cX6_renew 9 = .ok (.iload_n 3, 1) := by decide +kernel
theorem dX6_renew_10 : decode cX6_renew 10 = .ok (.invokevirtual 65, 3) := by decide +kernel
theorem dX6_renew_13 : decode cX6_renew 13 = .ok (.ireturn, 1) := by decide +kernel
theorem dX6_refer_0 : decode cX6_refer 0 = .ok (.aload_n 0, 1) := by decide +kernel
theorem dX6_refer_1 : decode cX6_refer 1 = .ok (.getfield 12, 3) := by decide +kernel
theorem dX6_refer_4 : decode cX6_refer 4 = .ok (.getfield 27, 3) := by decide +kernel
theorem dX6_refer_7 : decode cX6_refer 7 = .ok (.iload_n 1, 1) := by decide +kernel
theorem dX6_refer_8 : decode cX6_refer 8 = .ok (.iload_n 2, 1) := by decide +kernel
theorem dX6_refer_9 : decode cX6_refer 9 = .ok (.iload_n 3, 1) := by decide +kernel
theorem dX6_refer_10 : decode cX6_refer 10 = .ok (.invokevirtual 68, 3) := by decide +kernel
theorem dX6_refer_13 : decode cX6_refer 13 = .ok (.ireturn, 1) := by decide +kernel
theorem dX6_loss_0 : decode cX6_loss 0 = .ok (.aload_n 0, 1) := by decide +kernel
theorem dX6_loss_1 : decode cX6_loss 1 = .ok (.getfield 12, 3) := by decide +kernel
theorem dX6_loss_4 : decode cX6_loss 4 = .ok (.getfield 27, 3) := by decide +kernel
theorem dX6_loss_7 : decode cX6_loss 7 = .ok (.iload_n 1, 1) := by decide +kernel
theorem dX6_loss_8 : decode cX6_loss 8 = .ok (.invokevirtual 72, 3) := by decide +kernel
theorem dX6_loss_11 : decode cX6_loss 11 = .ok (.ireturn, 1) := by decide +kernel
theorem dX6_of_0 : decode cX6_of 0 = .ok (.aload_n 0, 1) := by decide +kernel
theorem dX6_of_1 : decode cX6_of 1 = .ok (.getfield 12, 3) := by decide +kernel
theorem dX6_of_4 : decode cX6_of 4 = .ok (.getfield 27, 3) := by decide +kernel
theorem dX6_of_7 : decode cX6_of 7 = .ok (.iload_n 1, 1) := by decide +kernel
theorem dX6_of_8 : decode cX6_of 8 = .ok (.invokevirtual 76, 3) := by decide +kernel
theorem dX6_of_11 : decode cX6_of 11 = .ok (.ifCond .ne 5, 3) := by decide +kernel
theorem dX6_of_14 : decode cX6_of 14 = .ok (.iconst (-1), 1) := by decide +kernel
theorem dX6_of_15 : decode cX6_of 15 = .ok (.ireturn, 1) := by decide +kernel
theorem dX6_of_16 : decode cX6_of 16 = .ok (.iload_n 2, 1) := by decide +kernel
theorem dX6_of_17 : decode cX6_of 17 = .ok (.ifCond .lt 21, 3) := by decide +kernel
theorem dX6_of_20 : decode cX6_of 20 = .ok (.iload_n 2, 1) := by decide +kernel
theorem dX6_of_21 : decode cX6_of 21 = .ok (.iconst 3, 1) := by decide +kernel
theorem dX6_of_22 : decode cX6_of 22 = .ok (.if_icmp .gt 16, 3) := by decide +kernel
theorem dX6_of_25 : decode cX6_of 25 = .ok (.aload_n 0, 1) := by decide +kernel
theorem dX6_of_26 : decode cX6_of 26 = .ok (.getfield 12, 3) := by decide +kernel
theorem dX6_of_29 : decode cX6_of 29 = .ok (.getfield 27, 3) := by decide +kernel
theorem dX6_of_32 : decode cX6_of 32 = .ok (.iload_n 1, 1) := by decide +kernel
theorem dX6_of_33 : decode cX6_of 33 = .ok (.iload_n 2, 1) := by decide +kernel
theorem dX6_of_34 : decode cX6_of 34 = .ok (.invokevirtual 80, 3) := by decide +kernel
theorem dX6_of_37 : decode cX6_of 37 = .ok (.ireturn, 1) := by decide +kernel
theorem dX6_of_38 : decode cX6_of 38 = .ok (.aload_n 0, 1) := by decide +kernel
theorem dX6_of_39 : decode cX6_of 39 = .ok (.getfield 34, 3) := by decide +kernel
theorem dX6_of_42 : decode cX6_of 42 = .ok (.invokevirtual 84, 3) := by decide +kernel
theorem dX6_of_45 : decode cX6_of 45 = .ok (.iload_n 2, 1) := by decide +kernel
theorem dX6_of_46 : decode cX6_of 46 = .ok (.tableswitch 131 4 9 #[38, 51, 67, 85, 103, 121], 38) := by decide +kernel
theorem dX6_of_84 : decode cX6_of 84 = .ok (.aload_n 0, 1) := by decide +kernel
theorem dX6_of_85 : decode cX6_of 85 = .ok (.getfield 12, 3) := by decide +kernel
theorem dX6_of_88 : decode cX6_of 88 = .ok (.getfield 27, 3) := by decide +kernel
theorem dX6_of_91 : decode cX6_of 91 = .ok (.getfield 87, 3) := by decide +kernel
theorem dX6_of_94 : decode cX6_of 94 = .ok (.iload_n 1, 1) := by decide +kernel
theorem dX6_of_95 : decode cX6_of 95 = .ok (.iaload, 1) := by decide +kernel
theorem dX6_of_96 : decode cX6_of 96 = .ok (.ireturn, 1) := by decide +kernel
theorem dX6_of_97 : decode cX6_of 97 = .ok (.aload_n 0, 1) := by decide +kernel
theorem dX6_of_98 : decode cX6_of 98 = .ok (.getfield 34, 3) := by decide +kernel
theorem dX6_of_101 : decode cX6_of 101 = .ok (.getfield 91, 3) := by decide +kernel
theorem dX6_of_104 : decode cX6_of 104 = .ok (.iload_n 1, 1) := by decide +kernel
theorem dX6_of_105 : decode cX6_of 105 = .ok (.iaload, 1) := by decide +kernel
theorem dX6_of_106 : decode cX6_of 106 = .ok (.iconst 1, 1) := by decide +kernel
theorem dX6_of_107 : decode cX6_of 107 = .ok (.iload_n 1, 1) := by decide +kernel
theorem dX6_of_108 : decode cX6_of 108 = .ok (.ishl, 1) := by decide +kernel
theorem dX6_of_109 : decode cX6_of 109 = .ok (.iconst (-1), 1) := by decide +kernel
theorem dX6_of_110 : decode cX6_of 110 = .ok (.ixor, 1) := by decide +kernel
theorem dX6_of_111 : decode cX6_of 111 = .ok (.iand, 1) := by decide +kernel
theorem dX6_of_112 : decode cX6_of 112 = .ok (.ireturn, 1) := by decide +kernel
theorem dX6_of_113 : decode cX6_of 113 = .ok (.aload_n 0, 1) := by decide +kernel
theorem dX6_of_114 : decode cX6_of 114 = .ok (.getfield 34, 3) := by decide +kernel
theorem dX6_of_117 : decode cX6_of 117 = .ok (.getfield 94, 3) := by decide +kernel
theorem dX6_of_120 : decode cX6_of 120 = .ok (.aload_n 0, 1) := by decide +kernel
theorem dX6_of_121 : decode cX6_of 121 = .ok (.getfield 34, 3) := by decide +kernel
theorem dX6_of_124 : decode cX6_of 124 = .ok (.getfield 97, 3) := by decide +kernel
theorem dX6_of_127 : decode cX6_of 127 = .ok (.iload_n 1, 1) := by decide +kernel
theorem dX6_of_128 : decode cX6_of 128 = .ok (.iaload, 1) := by decide +kernel
theorem dX6_of_129 : decode cX6_of 129 = .ok (.iaload, 1) := by decide +kernel
theorem dX6_of_130 : decode cX6_of 130 = .ok (.ireturn, 1) := by decide +kernel
theorem dX6_of_131 : decode cX6_of 131 = .ok (.aload_n 0, 1) := by decide +kernel
theorem dX6_of_132 : decode cX6_of 132 = .ok (.getfield 34, 3) := by decide +kernel
theorem dX6_of_135 : decode cX6_of 135 = .ok (.getfield 100, 3) := by decide +kernel
theorem dX6_of_138 : decode cX6_of 138 = .ok (.aload_n 0, 1) := by decide +kernel
theorem dX6_of_139 : decode cX6_of 139 = .ok (.getfield 34, 3) := by decide +kernel
theorem dX6_of_142 : decode cX6_of 142 = .ok (.getfield 97, 3) := by decide +kernel
theorem dX6_of_145 : decode cX6_of 145 = .ok (.iload_n 1, 1) := by decide +kernel
theorem dX6_of_146 : decode cX6_of 146 = .ok (.iaload, 1) := by decide +kernel
theorem dX6_of_147 : decode cX6_of 147 = .ok (.iaload, 1) := by decide +kernel
theorem dX6_of_148 : decode cX6_of 148 = .ok (.ireturn, 1) := by decide +kernel
theorem dX6_of_149 : decode cX6_of 149 = .ok (.aload_n 0, 1) := by decide +kernel
theorem dX6_of_150 : decode cX6_of 150 = .ok (.getfield 34, 3) := by decide +kernel
theorem dX6_of_153 : decode cX6_of 153 = .ok (.getfield 103, 3) := by decide +kernel
theorem dX6_of_156 : decode cX6_of 156 = .ok (.aload_n 0, 1) := by decide +kernel
theorem dX6_of_157 : decode cX6_of 157 = .ok (.getfield 34, 3) := by decide +kernel
theorem dX6_of_160 : decode cX6_of 160 = .ok (.getfield 97, 3) := by decide +kernel
theorem dX6_of_163 : decode cX6_of 163 = .ok (.iload_n 1, 1) := by decide +kernel
theorem dX6_of_164 : decode cX6_of 164 = .ok (.iaload, 1) := by decide +kernel
theorem dX6_of_165 : decode cX6_of 165 = .ok (.iaload, 1) := by decide +kernel
theorem dX6_of_166 : decode cX6_of 166 = .ok (.ireturn, 1) := by decide +kernel
theorem dX6_of_167 : decode cX6_of 167 = .ok (.aload_n 0, 1) := by decide +kernel
theorem dX6_of_168 : decode cX6_of 168 = .ok (.getfield 34, 3) := by decide +kernel
theorem dX6_of_171 : decode cX6_of 171 = .ok (.getfield 106, 3) := by decide +kernel
theorem dX6_of_174 : decode cX6_of 174 = .ok (.iload_n 1, 1) := by decide +kernel
theorem dX6_of_175 : decode cX6_of 175 = .ok (.iaload, 1) := by decide +kernel
theorem dX6_of_176 : decode cX6_of 176 = .ok (.ireturn, 1) := by decide +kernel
theorem dX6_of_177 : decode cX6_of 177 = .ok (.iconst (-1), 1) := by decide +kernel
theorem dX6_of_178 : decode cX6_of 178 = .ok (.ireturn, 1) := by decide +kernel
theorem dX6_feed_0 : decode cX6_feed 0 = .ok (.aload_n 0, 1) := by decide +kernel
theorem dX6_feed_1 : decode cX6_feed 1 = .ok (.getfield 50, 3) := by decide +kernel
theorem dX6_feed_4 : decode cX6_feed 4 = .ok (.iload_n 1, 1) := by decide +kernel
theorem dX6_feed_5 : decode cX6_feed 5 = .ok (.invokevirtual 109, 3) := by decide +kernel
theorem dX6_feed_8 : decode cX6_feed 8 = .ok (.ireturn, 1) := by decide +kernel
theorem dX6_read_0 : decode cX6_read 0 = .ok (.aload_n 0, 1) := by decide +kernel
theorem dX6_read_1 : decode cX6_read 1 = .ok (.getfield 50, 3) := by decide +kernel
theorem dX6_read_4 : decode cX6_read 4 = .ok (.invokevirtual 112, 3) := by decide +kernel
theorem dX6_read_7 : decode cX6_read 7 = .ok (.istore_n 1, 1) := by decide +kernel
theorem dX6_read_8 : decode cX6_read 8 = .ok (.aload_n 0, 1) := by decide +kernel
theorem dX6_read_9 : decode cX6_read 9 = .ok (.getfield 50, 3) := by decide +kernel
theorem dX6_read_12 : decode cX6_read 12 = .ok (.invokevirtual 116, 3) := by decide +kernel
theorem dX6_read_15 : decode cX6_read 15 = .ok (.iload_n 1, 1) := by decide +kernel
theorem dX6_read_16 : decode cX6_read 16 = .ok (.bipush (-5), 2) := by decide +kernel
theorem dX6_read_18 : decode cX6_read 18 = .ok (.if_icmp .eq 8, 3) := by decide +kernel
theorem dX6_read_21 : decode cX6_read 21 = .ok (.bipush (-10), 2) := by decide +kernel
theorem dX6_read_23 : decode cX6_read 23 = .ok (.iload_n 1, 1) := by decide +kernel
theorem dX6_read_24 : decode cX6_read 24 = .ok (.isub, 1) := by decide +kernel
theorem dX6_read_25 : decode cX6_read 25 = .ok (.ireturn, 1) := by decide +kernel
theorem dX6_read_26 : decode cX6_read 26 = .ok (.iconst 0, 1) := by decide +kernel
theorem dX6_read_27 : decode cX6_read 27 = .ok (.istore_n 2, 1) := by decide +kernel
theorem dX6_read_28 : decode cX6_read 28 = .ok (.iconst 0, 1) := by decide +kernel
theorem dX6_read_29 : decode cX6_read 29 = .ok (.istore_n 3, 1) := by decide +kernel
theorem dX6_read_30 : decode cX6_read 30 = .ok (.iload_n 3, 1) := by decide +kernel
theorem dX6_read_31 : decode cX6_read 31 = .ok (.aload_n 0, 1) := by decide +kernel
theorem dX6_read_32 : decode cX6_read 32 = .ok (.getfield 50, 3) := by decide +kernel
theorem dX6_read_35 : decode cX6_read 35 = .ok (.getfield 119, 3) := by decide +kernel
theorem dX6_read_38 : decode cX6_read 38 = .ok (.if_icmp .ge 30, 3) := by decide +kernel
theorem dX6_read_41 : decode cX6_read 41 = .ok (.aload_n 0, 1) := by decide +kernel
theorem dX6_read_42 : decode cX6_read 42 = .ok (.getfield 50, 3) := by decide +kernel
theorem dX6_read_45 : decode cX6_read 45 = .ok (.iload_n 3, 1) := by decide +kernel
theorem dX6_read_46 : decode cX6_read 46 = .ok (.aload_n 0, 1) := by decide +kernel
theorem dX6_read_47 : decode cX6_read 47 = .ok (.getfield 12, 3) := by decide +kernel
theorem dX6_read_50 : decode cX6_read 50 = .ok (.getfield 27, 3) := by decide +kernel
theorem dX6_read_53 : decode cX6_read 53 = .ok (.invokevirtual 123, 3) := by decide +kernel
theorem dX6_read_56 : decode cX6_read 56 = .ok (.ifCond .lt 6, 3) := by decide +kernel
theorem dX6_read_59 : decode cX6_read 59 = .ok (.iinc 2 1, 3) := by decide +kernel
theorem dX6_read_62 : decode cX6_read 62 = .ok (.iinc 3 1, 3) := by decide +kernel
theorem dX6_read_65 : decode cX6_read 65 = .ok (.goto (-35), 3) := by decide +kernel
theorem dX6_read_68 : decode cX6_read 68 = .ok (.iload_n 2, 1) := by decide +kernel
theorem dX6_read_69 : decode cX6_read 69 = .ok (.ireturn, 1) := by decide +kernel
theorem dX6_ring_0 : decode cX6_ring 0 = .ok (.aload_n 0, 1) := by decide +kernel
theorem dX6_ring_1 : decode cX6_ring 1 = .ok (.getfield 34, 3) := by decide +kernel
theorem dX6_ring_4 : decode cX6_ring 4 = .ok (.invokevirtual 84, 3) := by decide +kernel
theorem dX6_ring_7 : decode cX6_ring 7 = .ok (.iload_n 1, 1) := by decide +kernel
theorem dX6_ring_8 : decode cX6_ring 8 = .ok (.ifCond .lt 14, 3) := by decide +kernel
theorem dX6_ring_11 : decode cX6_ring 11 = .ok (.iload_n 1, 1) := by decide +kernel
theorem dX6_ring_12 : decode cX6_ring 12 = .ok (.aload_n 0, 1) := by decide +kernel
theorem dX6_ring_13 : decode cX6_ring 13 = .ok (.getfield 34, 3) := by decide +kernel
theorem dX6_ring_16 : decode cX6_ring 16 = .ok (.getfield 127, 3) := by decide +kernel
theorem dX6_ring_19 : decode cX6_ring 19 = .ok (.if_icmp .lt 5, 3) := by decide +kernel
theorem dX6_ring_22 : decode cX6_ring 22 = .ok (.iconst (-1), 1) := by decide +kernel
theorem dX6_ring_23 : decode cX6_ring 23 = .ok (.ireturn, 1) := by decide +kernel
theorem dX6_ring_24 : decode cX6_ring 24 = .ok (.iload_n 2, 1) := by decide +kernel
theorem dX6_ring_25 : decode cX6_ring 25 = .ok (.tableswitch 71 0 3 #[31, 41, 51, 61], 31) := by decide +kernel
theorem dX6_ring_56 : decode cX6_ring 56 = .ok (.aload_n 0, 1) := by decide +kernel
theorem dX6_ring_57 : decode cX6_ring 57 = .ok (.getfield 34, 3) := by decide +kernel
theorem dX6_ring_60 : decode cX6_ring 60 = .ok (.getfield 94, 3) := by decide +kernel
theorem dX6_ring_63 : decode cX6_ring 63 = .ok (.iload_n 1, 1) := by decide +kernel
theorem dX6_ring_64 : decode cX6_ring 64 = .ok (.iaload, 1) := by decide +kernel
theorem dX6_ring_65 : decode cX6_ring 65 = .ok (.ireturn, 1) := by decide +kernel
theorem dX6_ring_66 : decode cX6_ring 66 = .ok (.aload_n 0, 1) := by decide +kernel
theorem dX6_ring_67 : decode cX6_ring 67 = .ok (.getfield 34, 3) := by decide +kernel
theorem dX6_ring_70 : decode cX6_ring 70 = .ok (.getfield 100, 3) := by decide +kernel
theorem dX6_ring_73 : decode cX6_ring 73 = .ok (.iload_n 1, 1) := by decide +kernel
theorem dX6_ring_74 : decode cX6_ring 74 = .ok (.iaload, 1) := by decide +kernel
theorem dX6_ring_75 : decode cX6_ring 75 = .ok (.ireturn, 1) := by decide +kernel
theorem dX6_ring_76 : decode cX6_ring 76 = .ok (.aload_n 0, 1) := by decide +kernel
theorem dX6_ring_77 : decode cX6_ring 77 = .ok (.getfield 34, 3) := by decide +kernel
theorem dX6_ring_80 : decode cX6_ring 80 = .ok (.getfield 103, 3) := by decide +kernel
theorem dX6_ring_83 : decode cX6_ring 83 = .ok (.iload_n 1, 1) := by decide +kernel
theorem dX6_ring_84 : decode cX6_ring 84 = .ok (.iaload, 1) := by decide +kernel
theorem dX6_ring_85 : decode cX6_ring 85 = .ok (.ireturn, 1) := by decide +kernel
theorem dX6_ring_86 : decode cX6_ring 86 = .ok (.aload_n 0, 1) := by decide +kernel
theorem dX6_ring_87 : decode cX6_ring 87 = .ok (.getfield 34, 3) := by decide +kernel
theorem dX6_ring_90 : decode cX6_ring 90 = .ok (.getfield 130, 3) := by decide +kernel
theorem dX6_ring_93 : decode cX6_ring 93 = .ok (.iload_n 1, 1) := by decide +kernel
theorem dX6_ring_94 : decode cX6_ring 94 = .ok (.iaload, 1) := by decide +kernel
theorem dX6_ring_95 : decode cX6_ring 95 = .ok (.ireturn, 1) := by decide +kernel
theorem dX6_ring_96 : decode cX6_ring 96 = .ok (.iconst (-1), 1) := by decide +kernel
theorem dX6_ring_97 : decode cX6_ring 97 = .ok (.ireturn, 1) := by decide +kernel
theorem dX6_pays_0 : decode cX6_pays 0 = .ok (.aload_n 0, 1) := by decide +kernel
theorem dX6_pays_1 : decode cX6_pays 1 = .ok (.getfield 12, 3) := by decide +kernel
theorem dX6_pays_4 : decode cX6_pays 4 = .ok (.getfield 27, 3) := by decide +kernel
theorem dX6_pays_7 : decode cX6_pays 7 = .ok (.iload_n 1, 1) := by decide +kernel
theorem dX6_pays_8 : decode cX6_pays 8 = .ok (.invokevirtual 76, 3) := by decide +kernel
theorem dX6_pays_11 : decode cX6_pays 11 = .ok (.ifCond .ne 5, 3) := by decide +kernel
theorem dX6_pays_14 : decode cX6_pays 14 = .ok (.iconst (-1), 1) := by decide +kernel
theorem dX6_pays_15 : decode cX6_pays 15 = .ok (.ireturn, 1) := by decide +kernel
theorem dX6_pays_16 : decode cX6_pays 16 = .ok (.aload_n 0, 1) := by decide +kernel
theorem dX6_pays_17 : decode cX6_pays 17 = .ok (.getfield 34, 3) := by decide +kernel
theorem dX6_pays_20 : decode cX6_pays 20 = .ok (.invokevirtual 84, 3) := by decide +kernel
theorem dX6_pays_23 : decode cX6_pays 23 = .ok (.aload_n 0, 1) := by decide +kernel
theorem dX6_pays_24 : decode cX6_pays 24 = .ok (.getfield 34, 3) := by decide +kernel
theorem dX6_pays_27 : decode cX6_pays 27 = .ok (.getfield 106, 3) := by decide +kernel
theorem dX6_pays_30 : decode cX6_pays 30 = .ok (.iload_n 1, 1) := by decide +kernel
theorem dX6_pays_31 : decode cX6_pays 31 = .ok (.iaload, 1) := by decide +kernel
theorem dX6_pays_32 : decode cX6_pays 32 = .ok (.ireturn, 1) := by decide +kernel
theorem dX6_told_0 : decode cX6_told 0 = .ok (.aload_n 0, 1) := by decide +kernel
theorem dX6_told_1 : decode cX6_told 1 = .ok (.getfield 34, 3) := by decide +kernel
theorem dX6_told_4 : decode cX6_told 4 = .ok (.invokevirtual 84, 3) := by decide +kernel
theorem dX6_told_7 : decode cX6_told 7 = .ok (.iload_n 1, 1) := by decide +kernel
theorem dX6_told_8 : decode cX6_told 8 = .ok (.tableswitch 133 0 8 #[52, 63, 74, 82, 90, 98, 106, 114, 122], 52) := by decide +kernel
theorem dX6_told_60 : decode cX6_told 60 = .ok (.aload_n 0, 1) := by decide +kernel
theorem dX6_told_61 : decode cX6_told 61 = .ok (.getfield 12, 3) := by decide +kernel
theorem dX6_told_64 : decode cX6_told 64 = .ok (.getfield 27, 3) := by decide +kernel
theorem dX6_told_67 : decode cX6_told 67 = .ok (.getfield 133, 3) := by decide +kernel
theorem dX6_told_70 : decode cX6_told 70 = .ok (.ireturn, 1) := by decide +kernel
theorem dX6_told_71 : decode cX6_told 71 = .ok (.aload_n 0, 1) := by decide +kernel
theorem dX6_told_72 : decode cX6_told 72 = .ok (.getfield 12, 3) := by decide +kernel
theorem dX6_told_75 : decode cX6_told 75 = .ok (.getfield 27, 3) := by decide +kernel
theorem dX6_told_78 : decode cX6_told 78 = .ok (.getfield 136, 3) := by decide +kernel
theorem dX6_told_81 : decode cX6_told 81 = .ok (.ireturn, 1) := by decide +kernel
theorem dX6_told_82 : decode cX6_told 82 = .ok (.aload_n 0, 1) := by decide +kernel
theorem dX6_told_83 : decode cX6_told 83 = .ok (.getfield 34, 3) := by decide +kernel
theorem dX6_told_86 : decode cX6_told 86 = .ok (.getfield 139, 3) := by decide +kernel
theorem dX6_told_89 : decode cX6_told 89 = .ok (.ireturn, 1) := by decide +kernel
theorem dX6_told_90 : decode cX6_told 90 = .ok (.aload_n 0, 1) := by decide +kernel
theorem dX6_told_91 : decode cX6_told 91 = .ok (.getfield 34, 3) := by decide +kernel
theorem dX6_told_94 : decode cX6_told 94 = .ok (.getfield 142, 3) := by decide +kernel
theorem dX6_told_97 : decode cX6_told 97 = .ok (.ireturn, 1) := by decide +kernel
theorem dX6_told_98 : decode cX6_told 98 = .ok (.aload_n 0, 1) := by decide +kernel
theorem dX6_told_99 : decode cX6_told 99 = .ok (.getfield 34, 3) := by decide +kernel
theorem dX6_told_102 : decode cX6_told 102 = .ok (.getfield 127, 3) := by decide +kernel
theorem dX6_told_105 : decode cX6_told 105 = .ok (.ireturn, 1) := by decide +kernel
theorem dX6_told_106 : decode cX6_told 106 = .ok (.aload_n 0, 1) := by decide +kernel
theorem dX6_told_107 : decode cX6_told 107 = .ok (.getfield 34, 3) := by decide +kernel
theorem dX6_told_110 : decode cX6_told 110 = .ok (.invokevirtual 145, 3) := by decide +kernel
theorem dX6_told_113 : decode cX6_told 113 = .ok (.ireturn, 1) := by decide +kernel
theorem dX6_told_114 : decode cX6_told 114 = .ok (.aload_n 0, 1) := by decide +kernel
theorem dX6_told_115 : decode cX6_told 115 = .ok (.getfield 34, 3) := by decide +kernel
theorem dX6_told_118 : decode cX6_told 118 = .ok (.invokevirtual 148, 3) := by decide +kernel
theorem dX6_told_121 : decode cX6_told 121 = .ok (.ireturn, 1) := by decide +kernel
theorem dX6_told_122 : decode cX6_told 122 = .ok (.aload_n 0, 1) := by decide +kernel
theorem dX6_told_123 : decode cX6_told 123 = .ok (.getfield 34, 3) := by decide +kernel
theorem dX6_told_126 : decode cX6_told 126 = .ok (.invokevirtual 151, 3) := by decide +kernel
theorem dX6_told_129 : decode cX6_told 129 = .ok (.ireturn, 1) := by decide +kernel
theorem dX6_told_130 : decode cX6_told 130 = .ok (.aload_n 0, 1) := by decide +kernel
theorem dX6_told_131 : decode cX6_told 131 = .ok (.getfield 12, 3) := by decide +kernel
theorem dX6_told_134 : decode cX6_told 134 = .ok (.getfield 27, 3) := by decide +kernel
theorem dX6_told_137 : decode cX6_told 137 = .ok (.invokevirtual 154, 3) := by decide +kernel
theorem dX6_told_140 : decode cX6_told 140 = .ok (.ireturn, 1) := by decide +kernel
theorem dX6_told_141 : decode cX6_told 141 = .ok (.iconst (-1), 1) := by decide +kernel
theorem dX6_told_142 : decode cX6_told 142 = .ok (.ireturn, 1) := by decide +kernel
theorem dX6_why_0 : decode cX6_why 0 = .ok (.aload_n 0, 1) := by decide +kernel
theorem dX6_why_1 : decode cX6_why 1 = .ok (.getfield 12, 3) := by decide +kernel
theorem dX6_why_4 : decode cX6_why 4 = .ok (.getfield 27, 3) := by decide +kernel
theorem dX6_why_7 : decode cX6_why 7 = .ok (.iload_n 1, 1) := by decide +kernel
theorem dX6_why_8 : decode cX6_why 8 = .ok (.invokevirtual 76, 3) := by decide +kernel
theorem dX6_why_11 : decode cX6_why 11 = .ok (.ifCond .eq 7, 3) := by decide +kernel
theorem dX6_why_14 : decode cX6_why 14 = .ok (.iload_n 2, 1) := by decide +kernel
theorem dX6_why_15 : decode cX6_why 15 = .ok (.ifCond .ge 5, 3) := by decide +kernel
theorem dX6_why_18 : decode cX6_why 18 = .ok (.iconst (-1), 1) := by decide +kernel
theorem dX6_why_19 : decode cX6_why 19 = .ok (.ireturn, 1) := by decide +kernel
theorem dX6_why_20 : decode cX6_why 20 = .ok (.aload_n 0, 1) := by decide +kernel
theorem dX6_why_21 : decode cX6_why 21 = .ok (.getfield 34, 3) := by decide +kernel
theorem dX6_why_24 : decode cX6_why 24 = .ok (.invokevirtual 84, 3) := by decide +kernel
theorem dX6_why_27 : decode cX6_why 27 = .ok (.aload_n 0, 1) := by decide +kernel
theorem dX6_why_28 : decode cX6_why 28 = .ok (.getfield 34, 3) := by decide +kernel
theorem dX6_why_31 : decode cX6_why 31 = .ok (.iload_n 1, 1) := by decide +kernel
theorem dX6_why_32 : decode cX6_why 32 = .ok (.invokevirtual 157, 3) := by decide +kernel
theorem dX6_why_35 : decode cX6_why 35 = .ok (.istore_n 3, 1) := by decide +kernel
theorem dX6_why_36 : decode cX6_why 36 = .ok (.iload_n 2, 1) := by decide +kernel
theorem dX6_why_37 : decode cX6_why 37 = .ok (.tableswitch 49 0 2 #[27, 29, 39], 27) := by decide +kernel
theorem dX6_why_64 : decode cX6_why 64 = .ok (.iload_n 3, 1) := by decide +kernel
theorem dX6_why_65 : decode cX6_why 65 = .ok (.ireturn, 1) := by decide +kernel
theorem dX6_why_66 : decode cX6_why 66 = .ok (.aload_n 0, 1) := by decide +kernel
theorem dX6_why_67 : decode cX6_why 67 = .ok (.getfield 34, 3) := by decide +kernel
theorem dX6_why_70 : decode cX6_why 70 = .ok (.iload_n 1, 1) := by decide +kernel
theorem dX6_why_71 : decode cX6_why 71 = .ok (.iload_n 3, 1) := by decide +kernel
theorem dX6_why_72 : decode cX6_why 72 = .ok (.invokevirtual 160, 3) := by decide +kernel
theorem dX6_why_75 : decode cX6_why 75 = .ok (.ireturn, 1) := by decide +kernel
theorem dX6_why_76 : decode cX6_why 76 = .ok (.aload_n 0, 1) := by decide +kernel
theorem dX6_why_77 : decode cX6_why 77 = .ok (.getfield 34, 3) := by decide +kernel
theorem dX6_why_80 : decode cX6_why 80 = .ok (.iload_n 1, 1) := by decide +kernel
theorem dX6_why_81 : decode cX6_why 81 = .ok (.iload_n 3, 1) := by decide +kernel
theorem dX6_why_82 : decode cX6_why 82 = .ok (.invokevirtual 163, 3) := by decide +kernel
theorem dX6_why_85 : decode cX6_why 85 = .ok (.ireturn, 1) := by decide +kernel
theorem dX6_why_86 : decode cX6_why 86 = .ok (.bipush (-5), 2) := by decide +kernel
theorem dX6_why_88 : decode cX6_why 88 = .ok (.ireturn, 1) := by decide +kernel
theorem dX6_net_0 : decode cX6_net 0 = .ok (.aload_n 0, 1) := by decide +kernel
theorem dX6_net_1 : decode cX6_net 1 = .ok (.getfield 12, 3) := by decide +kernel
theorem dX6_net_4 : decode cX6_net 4 = .ok (.getfield 27, 3) := by decide +kernel
theorem dX6_net_7 : decode cX6_net 7 = .ok (.iload_n 1, 1) := by decide +kernel
theorem dX6_net_8 : decode cX6_net 8 = .ok (.invokevirtual 76, 3) := by decide +kernel
theorem dX6_net_11 : decode cX6_net 11 = .ok (.ifCond .ne 5, 3) := by decide +kernel
theorem dX6_net_14 : decode cX6_net 14 = .ok (.iconst (-1), 1) := by decide +kernel
theorem dX6_net_15 : decode cX6_net 15 = .ok (.ireturn, 1) := by decide +kernel
theorem dX6_net_16 : decode cX6_net 16 = .ok (.iload_n 2, 1) := by decide +kernel
theorem dX6_net_17 : decode cX6_net 17 = .ok (.ifCond .lt 10, 3) := by decide +kernel
theorem dX6_net_20 : decode cX6_net 20 = .ok (.iload_n 2, 1) := by decide +kernel
theorem dX6_net_21 : decode cX6_net 21 = .ok (.sipush 999, 3) := by decide +kernel
theorem dX6_net_24 : decode cX6_net 24 = .ok (.if_icmp .le 6, 3) := by decide +kernel
theorem dX6_net_27 : decode cX6_net 27 = .ok (.bipush (-2), 2) := by decide +kernel
theorem dX6_net_29 : decode cX6_net 29 = .ok (.ireturn, 1) := by decide +kernel
theorem dX6_net_30 : decode cX6_net 30 = .ok (.aload_n 0, 1) := by decide +kernel
theorem dX6_net_31 : decode cX6_net 31 = .ok (.getfield 34, 3) := by decide +kernel
theorem dX6_net_34 : decode cX6_net 34 = .ok (.invokevirtual 84, 3) := by decide +kernel
theorem dX6_net_37 : decode cX6_net 37 = .ok (.aload_n 0, 1) := by decide +kernel
theorem dX6_net_38 : decode cX6_net 38 = .ok (.getfield 34, 3) := by decide +kernel
theorem dX6_net_41 : decode cX6_net 41 = .ok (.iload_n 2, 1) := by decide +kernel
theorem dX6_net_42 : decode cX6_net 42 = .ok (.invokevirtual 166, 3) := by decide +kernel
theorem dX6_net_45 : decode cX6_net 45 = .ok (.aload_n 0, 1) := by decide +kernel
theorem dX6_net_46 : decode cX6_net 46 = .ok (.getfield 34, 3) := by decide +kernel
theorem dX6_net_49 : decode cX6_net 49 = .ok (.getfield 106, 3) := by decide +kernel
theorem dX6_net_52 : decode cX6_net 52 = .ok (.iload_n 1, 1) := by decide +kernel
theorem dX6_net_53 : decode cX6_net 53 = .ok (.iaload, 1) := by decide +kernel
theorem dX6_net_54 : decode cX6_net 54 = .ok (.aload_n 0, 1) := by decide +kernel
theorem dX6_net_55 : decode cX6_net 55 = .ok (.getfield 34, 3) := by decide +kernel
theorem dX6_net_58 : decode cX6_net 58 = .ok (.getfield 170, 3) := by decide +kernel
theorem dX6_net_61 : decode cX6_net 61 = .ok (.iload_n 1, 1) := by decide +kernel
theorem dX6_net_62 : decode cX6_net 62 = .ok (.iaload, 1) := by decide +kernel
theorem dX6_net_63 : decode cX6_net 63 = .ok (.isub, 1) := by decide +kernel
theorem dX6_net_64 : decode cX6_net 64 = .ok (.ireturn, 1) := by decide +kernel
theorem dX6_more_0 : decode cX6_more 0 = .ok (.aload_n 0, 1) := by decide +kernel
theorem dX6_more_1 : decode cX6_more 1 = .ok (.getfield 12, 3) := by decide +kernel
theorem dX6_more_4 : decode cX6_more 4 = .ok (.getfield 27, 3) := by decide +kernel
theorem dX6_more_7 : decode cX6_more 7 = .ok (.iload_n 1, 1) := by decide +kernel
theorem dX6_more_8 : decode cX6_more 8 = .ok (.invokevirtual 76, 3) := by decide +kernel
theorem dX6_more_11 : decode cX6_more 11 = .ok (.ifCond .ne 7, 3) := by decide +kernel
theorem dX6_more_14 : decode cX6_more 14 = .ok (.ldc2_w 173, 3) := by decide +kernel
theorem dX6_more_17 : decode cX6_more 17 = .ok (.lreturn, 1) := by decide +kernel
theorem dX6_more_18 : decode cX6_more 18 = .ok (.aload_n 0, 1) := by decide +kernel
theorem dX6_more_19 : decode cX6_more 19 = .ok (.getfield 34, 3) := by decide +kernel
theorem dX6_more_22 : decode cX6_more 22 = .ok (.invokevirtual 84, 3) := by decide +kernel
theorem dX6_more_25 : decode cX6_more 25 = .ok (.aload_n 0, 1) := by decide +kernel
theorem dX6_more_26 : decode cX6_more 26 = .ok (.getfield 34, 3) := by decide +kernel
theorem dX6_more_29 : decode cX6_more 29 = .ok (.getfield 106, 3) := by decide +kernel
theorem dX6_more_32 : decode cX6_more 32 = .ok (.iload_n 1, 1) := by decide +kernel
theorem dX6_more_33 : decode cX6_more 33 = .ok (.iaload, 1) := by decide +kernel
theorem dX6_more_34 : decode cX6_more 34 = .ok (.i2l, 1) := by decide +kernel
theorem dX6_more_35 : decode cX6_more 35 = .ok (.lstore_n 2, 1) := by decide +kernel
theorem dX6_more_36 : decode cX6_more 36 = .ok (.aload_n 0, 1) := by decide +kernel
theorem dX6_more_37 : decode cX6_more 37 = .ok (.getfield 34, 3) := by decide +kernel
theorem dX6_more_40 : decode cX6_more 40 = .ok (.aload_n 0, 1) := by decide +kernel
theorem dX6_more_41 : decode cX6_more 41 = .ok (.getfield 12, 3) := by decide +kernel
theorem dX6_more_44 : decode cX6_more 44 = .ok (.getfield 27, 3) := by decide +kernel
theorem dX6_more_47 : decode cX6_more 47 = .ok (.getfield 136, 3) := by decide +kernel
theorem dX6_more_50 : decode cX6_more 50 = .ok (.iconst 1, 1) := by decide +kernel
theorem dX6_more_51 : decode cX6_more 51 = .ok (.iadd, 1) := by decide +kernel
theorem dX6_more_52 : decode cX6_more 52 = .ok (.invokevirtual 175, 3) := by decide +kernel
theorem dX6_more_55 : decode cX6_more 55 = .ok (.aload_n 0, 1) := by decide +kernel
theorem dX6_more_56 : decode cX6_more 56 = .ok (.getfield 34, 3) := by decide +kernel
theorem dX6_more_59 : decode cX6_more 59 = .ok (.getfield 106, 3) := by decide +kernel
theorem dX6_more_62 : decode cX6_more 62 = .ok (.iload_n 1, 1) := by decide +kernel
theorem dX6_more_63 : decode cX6_more 63 = .ok (.iaload, 1) := by decide +kernel
theorem dX6_more_64 : decode cX6_more 64 = .ok (.i2l, 1) := by decide +kernel
theorem dX6_more_65 : decode cX6_more 65 = .ok (.lload_n 2, 1) := by decide +kernel
theorem dX6_more_66 : decode cX6_more 66 = .ok (.lsub, 1) := by decide +kernel
theorem dX6_more_67 : decode cX6_more 67 = .ok (.lreturn, 1) := by decide +kernel
theorem dX6_from_0 : decode cX6_from 0 = .ok (.aload_n 0, 1) := by decide +kernel
theorem dX6_from_1 : decode cX6_from 1 = .ok (.getfield 12, 3) := by decide +kernel
theorem dX6_from_4 : decode cX6_from 4 = .ok (.getfield 27, 3) := by decide +kernel
theorem dX6_from_7 : decode cX6_from 7 = .ok (.iload_n 1, 1) := by decide +kernel
theorem dX6_from_8 : decode cX6_from 8 = .ok (.invokevirtual 76, 3) := by decide +kernel
theorem dX6_from_11 : decode cX6_from 11 = .ok (.ifCond .ne 5, 3) := by decide +kernel
theorem dX6_from_14 : decode cX6_from 14 = .ok (.iconst (-1), 1) := by decide +kernel
theorem dX6_from_15 : decode cX6_from 15 = .ok (.ireturn, 1) := by decide +kernel
theorem dX6_from_16 : decode cX6_from 16 = .ok (.aload_n 0, 1) := by decide +kernel
theorem dX6_from_17 : decode cX6_from 17 = .ok (.getfield 34, 3) := by decide +kernel
theorem dX6_from_20 : decode cX6_from 20 = .ok (.invokevirtual 178, 3) := by decide +kernel
theorem dX6_from_23 : decode cX6_from 23 = .ok (.iconst 0, 1) := by decide +kernel
theorem dX6_from_24 : decode cX6_from 24 = .ok (.istore_n 2, 1) := by decide +kernel
theorem dX6_from_25 : decode cX6_from 25 = .ok (.iload_n 2, 1) := by decide +kernel
theorem dX6_from_26 : decode cX6_from 26 = .ok (.sipush 300, 3) := by decide +kernel
theorem dX6_from_29 : decode cX6_from 29 = .ok (.if_icmp .gt 31, 3) := by decide +kernel
theorem dX6_from_32 : decode cX6_from 32 = .ok (.aload_n 0, 1) := by decide +kernel
theorem dX6_from_33 : decode cX6_from 33 = .ok (.getfield 34, 3) := by decide +kernel
theorem dX6_from_36 : decode cX6_from 36 = .ok (.iload_n 2, 1) := by decide +kernel
theorem dX6_from_37 : decode cX6_from 37 = .ok (.invokevirtual 175, 3) := by decide +kernel
theorem dX6_from_40 : decode cX6_from 40 = .ok (.aload_n 0, 1) := by decide +kernel
theorem dX6_from_41 : decode cX6_from 41 = .ok (.getfield 34, 3) := by decide +kernel
theorem dX6_from_44 : decode cX6_from 44 = .ok (.getfield 106, 3) := by decide +kernel
theorem dX6_from_47 : decode cX6_from 47 = .ok (.iload_n 1, 1) := by decide +kernel
theorem dX6_from_48 : decode cX6_from 48 = .ok (.iaload, 1) := by decide +kernel
theorem dX6_from_49 : decode cX6_from 49 = .ok (.ifCond .le 5, 3) := by decide +kernel
theorem dX6_from_52 : decode cX6_from 52 = .ok (.iload_n 2, 1) := by decide +kernel
theorem dX6_from_53 : decode cX6_from 53 = .ok (.ireturn, 1) := by decide +kernel
theorem dX6_from_54 : decode cX6_from 54 = .ok (.iinc 2 1, 3) := by decide +kernel
theorem dX6_from_57 : decode cX6_from 57 = .ok (.goto (-32), 3) := by decide +kernel
theorem dX6_from_60 : decode cX6_from 60 = .ok (.bipush (-5), 2) := by decide +kernel
theorem dX6_from_62 : decode cX6_from 62 = .ok (.ireturn, 1) := by decide +kernel
theorem dX6_see_0 : decode cX6_see 0 = .ok (.aload_n 0, 1) := by decide +kernel
theorem dX6_see_1 : decode cX6_see 1 = .ok (.aload_n 0, 1) := by decide +kernel
theorem dX6_see_2 : decode cX6_see 2 = .ok (.getfield 12, 3) := by decide +kernel
theorem dX6_see_5 : decode cX6_see 5 = .ok (.getfield 181, 3) := by decide +kernel
theorem dX6_see_8 : decode cX6_see 8 = .ok (.iload_n 1, 1) := by decide +kernel
theorem dX6_see_9 : decode cX6_see 9 = .ok (.iload_n 2, 1) := by decide +kernel
theorem dX6_see_10 : decode cX6_see 10 = .ok (.invokevirtual 185, 3) := by decide +kernel
theorem dX6_see_13 : decode cX6_see 13 = .ok (.ireturn, 1) := by decide +kernel
theorem dX6_fits_0 : decode cX6_fits 0 = .ok (.iload_n 1, 1) := by decide +kernel
theorem dX6_fits_1 : decode cX6_fits 1 = .ok (.ifCond .eq 10, 3) := by decide +kernel
theorem dX6_fits_4 : decode cX6_fits 4 = .ok (.iload_n 1, 1) := by decide +kernel
theorem dX6_fits_5 : decode cX6_fits 5 = .ok (.iconst 1, 1) := by decide +kernel
theorem dX6_fits_6 : decode cX6_fits 6 = .ok (.if_icmp .eq 5, 3) := by decide +kernel
theorem dX6_fits_9 : decode cX6_fits 9 = .ok (.iconst (-1), 1) := by decide +kernel
theorem dX6_fits_10 : decode cX6_fits 10 = .ok (.ireturn, 1) := by decide +kernel
theorem dX6_fits_11 : decode cX6_fits 11 = .ok (.aload_n 0, 1) := by decide +kernel
theorem dX6_fits_12 : decode cX6_fits 12 = .ok (.getfield 34, 3) := by decide +kernel
theorem dX6_fits_15 : decode cX6_fits 15 = .ok (.invokevirtual 178, 3) := by decide +kernel
theorem dX6_fits_18 : decode cX6_fits 18 = .ok (.iconst 0, 1) := by decide +kernel
theorem dX6_fits_19 : decode cX6_fits 19 = .ok (.istore_n 2, 1) := by decide +kernel
theorem dX6_fits_20 : decode cX6_fits 20 = .ok (.bipush (-5), 2) := by decide +kernel
theorem dX6_fits_22 : decode cX6_fits 22 = .ok (.istore_n 3, 1) := by decide +kernel
theorem dX6_fits_23 : decode cX6_fits 23 = .ok (.iconst 0, 1) := by decide +kernel
theorem dX6_fits_24 : decode cX6_fits 24 = .ok (.istore 4, 2) := by decide +kernel
theorem dX6_fits_26 : decode cX6_fits 26 = .ok (.iload 4, 2) := by decide +kernel
theorem dX6_fits_28 : decode cX6_fits 28 = .ok (.sipush 300, 3) := by decide +kernel
theorem dX6_fits_31 : decode cX6_fits 31 = .ok (.if_icmp .gt 51, 3) := by decide +kernel
theorem dX6_fits_34 : decode cX6_fits 34 = .ok (.aload_n 0, 1) := by decide +kernel
theorem dX6_fits_35 : decode cX6_fits 35 = .ok (.getfield 34, 3) := by decide +kernel
theorem dX6_fits_38 : decode cX6_fits 38 = .ok (.iload 4, 2) := by decide +kernel
theorem dX6_fits_40 : decode cX6_fits 40 = .ok (.invokevirtual 175, 3) := by decide +kernel
theorem dX6_fits_43 : decode cX6_fits 43 = .ok (.aload_n 0, 1) := by decide +kernel
theorem dX6_fits_44 : decode cX6_fits 44 = .ok (.getfield 34, 3) := by decide +kernel
theorem dX6_fits_47 : decode cX6_fits 47 = .ok (.aload_n 0, 1) := by decide +kernel
theorem dX6_fits_48 : decode cX6_fits 48 = .ok (.getfield 12, 3) := by decide +kernel
theorem dX6_fits_51 : decode cX6_fits 51 = .ok (.getfield 181, 3) := by decide +kernel
theorem dX6_fits_54 : decode cX6_fits 54 = .ok (.invokevirtual 189, 3) := by decide +kernel
theorem dX6_fits_57 : decode cX6_fits 57 = .ok (.bipush (-5), 2) := by decide +kernel
theorem dX6_fits_59 : decode cX6_fits 59 = .ok (.if_icmp .ne 17, 3) := by decide +kernel
theorem dX6_fits_62 : decode cX6_fits 62 = .ok (.iload_n 2, 1) := by decide +kernel
theorem dX6_fits_63 : decode cX6_fits 63 = .ok (.ifCond .ne 8, 3) := by decide +kernel
theorem dX6_fits_66 : decode cX6_fits 66 = .ok (.iload 4, 2) := by decide +kernel
theorem dX6_fits_68 : decode cX6_fits 68 = .ok (.goto 4, 3) := by decide +kernel
theorem dX6_fits_71 : decode cX6_fits 71 = .ok (.iload_n 3, 1) := by decide +kernel
theorem dX6_fits_72 : decode cX6_fits 72 = .ok (.istore_n 3, 1) := by decide +kernel
theorem dX6_fits_73 : decode cX6_fits 73 = .ok (.iinc 2 1, 3) := by decide +kernel
theorem dX6_fits_76 : decode cX6_fits 76 = .ok (.iinc 4 1, 3) := by decide +kernel
theorem dX6_fits_79 : decode cX6_fits 79 = .ok (.goto (-53), 3) := by decide +kernel
theorem dX6_fits_82 : decode cX6_fits 82 = .ok (.iload_n 1, 1) := by decide +kernel
theorem dX6_fits_83 : decode cX6_fits 83 = .ok (.ifCond .ne 7, 3) := by decide +kernel
theorem dX6_fits_86 : decode cX6_fits 86 = .ok (.iload_n 2, 1) := by decide +kernel
theorem dX6_fits_87 : decode cX6_fits 87 = .ok (.goto 4, 3) := by decide +kernel
theorem dX6_fits_90 : decode cX6_fits 90 = .ok (.iload_n 3, 1) := by decide +kernel
theorem dX6_fits_91 : decode cX6_fits 91 = .ok (.ireturn, 1) := by decide +kernel
theorem dX6_odds_0 : decode cX6_odds 0 = .ok (.aload_n 0, 1) := by decide +kernel
theorem dX6_odds_1 : decode cX6_odds 1 = .ok (.getfield 12, 3) := by decide +kernel
theorem dX6_odds_4 : decode cX6_odds 4 = .ok (.getfield 27, 3) := by decide +kernel
theorem dX6_odds_7 : decode cX6_odds 7 = .ok (.iload_n 1, 1) := by decide +kernel
theorem dX6_odds_8 : decode cX6_odds 8 = .ok (.invokevirtual 76, 3) := by decide +kernel
theorem dX6_odds_11 : decode cX6_odds 11 = .ok (.ifCond .ne 7, 3) := by decide +kernel
theorem dX6_odds_14 : decode cX6_odds 14 = .ok (.ldc2_w 173, 3) := by decide +kernel
theorem dX6_odds_17 : decode cX6_odds 17 = .ok (.lreturn, 1) := by decide +kernel
theorem dX6_odds_18 : decode cX6_odds 18 = .ok (.aload_n 0, 1) := by decide +kernel
theorem dX6_odds_19 : decode cX6_odds 19 = .ok (.getfield 34, 3) := by decide +kernel
theorem dX6_odds_22 : decode cX6_odds 22 = .ok (.invokevirtual 178, 3) := by decide +kernel
theorem dX6_odds_25 : decode cX6_odds 25 = .ok (.iconst 0, 1) := by decide +kernel
theorem dX6_odds_26 : decode cX6_odds 26 = .ok (.istore_n 3, 1) := by decide +kernel
theorem dX6_odds_27 : decode cX6_odds 27 = .ok (.iconst 0, 1) := by decide +kernel
theorem dX6_odds_28 : decode cX6_odds 28 = .ok (.istore 4, 2) := by decide +kernel
theorem dX6_odds_30 : decode cX6_odds 30 = .ok (.bipush 10, 2) := by decide +kernel
theorem dX6_odds_32 : decode cX6_odds 32 = .ok (.istore 5, 2) := by decide +kernel
theorem dX6_odds_34 : decode cX6_odds 34 = .ok (.iload 5, 2) := by decide +kernel
theorem dX6_odds_36 : decode cX6_odds 36 = .ok (.bipush 100, 2) := by decide +kernel
theorem dX6_odds_38 : decode cX6_odds 38 = .ok (.if_icmp .gt 43, 3) := by decide +kernel
theorem dX6_odds_41 : decode cX6_odds 41 = .ok (.aload_n 0, 1) := by decide +kernel
theorem dX6_odds_42 : decode cX6_odds 42 = .ok (.getfield 34, 3) := by decide +kernel
theorem dX6_odds_45 : decode cX6_odds 45 = .ok (.iload 5, 2) := by decide +kernel
theorem dX6_odds_47 : decode cX6_odds 47 = .ok (.invokevirtual 175, 3) := by decide +kernel
theorem dX6_odds_50 : decode cX6_odds 50 = .ok (.iinc 3 1, 3) := by decide +kernel
theorem dX6_odds_53 : decode cX6_odds 53 = .ok (.iload 4, 2) := by decide +kernel
theorem dX6_odds_55 : decode cX6_odds 55 = .ok (.aload_n 0, 1) := by decide +kernel
theorem dX6_odds_56 : decode cX6_odds 56 = .ok (.getfield 34, 3) := by decide +kernel
theorem dX6_odds_59 : decode cX6_odds 59 = .ok (.getfield 106, 3) := by decide +kernel
theorem dX6_odds_62 : decode cX6_odds 62 = .ok (.iload_n 1, 1) := by decide +kernel
theorem dX6_odds_63 : decode cX6_odds 63 = .ok (.iaload, 1) := by decide +kernel
theorem dX6_odds_64 : decode cX6_odds 64 = .ok (.ifCond .le 7, 3) := by decide +kernel
theorem dX6_odds_67 : decode cX6_odds 67 = .ok (.iconst 1, 1) := by decide +kernel
theorem dX6_odds_68 : decode cX6_odds 68 = .ok (.goto 4, 3) := by decide +kernel
theorem dX6_odds_71 : decode cX6_odds 71 = .ok (.iconst 0, 1) := by decide +kernel
theorem dX6_odds_72 : decode cX6_odds 72 = .ok (.iadd, 1) := by decide +kernel
theorem dX6_odds_73 : decode cX6_odds 73 = .ok (.istore 4, 2) := by decide +kernel
theorem dX6_odds_75 : decode cX6_odds 75 = .ok (.iinc 5 10, 3) := by decide +kernel
theorem dX6_odds_78 : decode cX6_odds 78 = .ok (.goto (-44), 3) := by decide +kernel
theorem dX6_odds_81 : decode cX6_odds 81 = .ok (.iload 4, 2) := by decide +kernel
theorem dX6_odds_83 : decode cX6_odds 83 = .ok (.iload_n 3, 1) := by decide +kernel
theorem dX6_odds_84 : decode cX6_odds 84 = .ok (.iload_n 2, 1) := by decide +kernel
theorem dX6_odds_85 : decode cX6_odds 85 = .ok (.invokestatic 193, 3) := by decide +kernel
theorem dX6_odds_88 : decode cX6_odds 88 = .ok (.lreturn, 1) := by decide +kernel
theorem dX6_mean_0 : decode cX6_mean 0 = .ok (.aload_n 0, 1) := by decide +kernel
theorem dX6_mean_1 : decode cX6_mean 1 = .ok (.getfield 34, 3) := by decide +kernel
theorem dX6_mean_4 : decode cX6_mean 4 = .ok (.invokevirtual 84, 3) := by decide +kernel
theorem dX6_mean_7 : decode cX6_mean 7 = .ok (.aload_n 0, 1) := by decide +kernel
theorem dX6_mean_8 : decode cX6_mean 8 = .ok (.getfield 34, 3) := by decide +kernel
theorem dX6_mean_11 : decode cX6_mean 11 = .ok (.getfield 139, 3) := by decide +kernel
theorem dX6_mean_14 : decode cX6_mean 14 = .ok (.aload_n 0, 1) := by decide +kernel
theorem dX6_mean_15 : decode cX6_mean 15 = .ok (.getfield 34, 3) := by decide +kernel
theorem dX6_mean_18 : decode cX6_mean 18 = .ok (.invokevirtual 151, 3) := by decide +kernel
theorem dX6_mean_21 : decode cX6_mean 21 = .ok (.iload_n 1, 1) := by decide +kernel
theorem dX6_mean_22 : decode cX6_mean 22 = .ok (.invokestatic 193, 3) := by decide +kernel
theorem dX6_mean_25 : decode cX6_mean 25 = .ok (.lreturn, 1) := by decide +kernel
theorem dX6_plan_0 : decode cX6_plan 0 = .ok (.iload_n 1, 1) := by decide +kernel
theorem dX6_plan_1 : decode cX6_plan 1 = .ok (.iconst (-1), 1) := by decide +kernel
theorem dX6_plan_2 : decode cX6_plan 2 = .ok (.if_icmp .ne 14, 3) := by decide +kernel
theorem dX6_plan_5 : decode cX6_plan 5 = .ok (.aload_n 0, 1) := by decide +kernel
theorem dX6_plan_6 : decode cX6_plan 6 = .ok (.getfield 12, 3) := by decide +kernel
theorem dX6_plan_9 : decode cX6_plan 9 = .ok (.getfield 197, 3) := by decide +kernel
theorem dX6_plan_12 : decode cX6_plan 12 = .ok (.invokevirtual 200, 3) := by decide +kernel
theorem dX6_plan_15 : decode cX6_plan 15 = .ok (.ireturn, 1) := by decide +kernel
theorem dX6_plan_16 : decode cX6_plan 16 = .ok (.aload_n 0, 1) := by decide +kernel
theorem dX6_plan_17 : decode cX6_plan 17 = .ok (.iload_n 1, 1) := by decide +kernel
theorem dX6_plan_18 : decode cX6_plan 18 = .ok (.iload_n 2, 1) := by decide +kernel
theorem dX6_plan_19 : decode cX6_plan 19 = .ok (.invokevirtual 204, 3) := by decide +kernel
theorem dX6_plan_22 : decode cX6_plan 22 = .ok (.istore_n 3, 1) := by decide +kernel
theorem dX6_plan_23 : decode cX6_plan 23 = .ok (.iload_n 3, 1) := by decide +kernel
theorem dX6_plan_24 : decode cX6_plan 24 = .ok (.ifCond .ge 5, 3) := by decide +kernel
theorem dX6_plan_27 : decode cX6_plan 27 = .ok (.iload_n 3, 1) := by decide +kernel
theorem dX6_plan_28 : decode cX6_plan 28 = .ok (.ireturn, 1) := by decide +kernel
theorem dX6_plan_29 : decode cX6_plan 29 = .ok (.aload_n 0, 1) := by decide +kernel
theorem dX6_plan_30 : decode cX6_plan 30 = .ok (.getfield 12, 3) := by decide +kernel
theorem dX6_plan_33 : decode cX6_plan 33 = .ok (.getfield 197, 3) := by decide +kernel
theorem dX6_plan_36 : decode cX6_plan 36 = .ok (.iload_n 1, 1) := by decide +kernel
theorem dX6_plan_37 : decode cX6_plan 37 = .ok (.iload_n 2, 1) := by decide +kernel
theorem dX6_plan_38 : decode cX6_plan 38 = .ok (.invokevirtual 207, 3) := by decide +kernel
theorem dX6_plan_41 : decode cX6_plan 41 = .ok (.ireturn, 1) := by decide +kernel
theorem dX6_ends_0 : decode cX6_ends 0 = .ok (.aload_n 0, 1) := by decide +kernel
theorem dX6_ends_1 : decode cX6_ends 1 = .ok (.getfield 41, 3) := by decide +kernel
theorem dX6_ends_4 : decode cX6_ends 4 = .ok (.aload_n 0, 1) := by decide +kernel
theorem dX6_ends_5 : decode cX6_ends 5 = .ok (.getfield 12, 3) := by decide +kernel
theorem dX6_ends_8 : decode cX6_ends 8 = .ok (.getfield 27, 3) := by decide +kernel
theorem dX6_ends_11 : decode cX6_ends 11 = .ok (.invokevirtual 210, 3) := by decide +kernel
theorem dX6_ends_14 : decode cX6_ends 14 = .ok (.iconst 0, 1) := by decide +kernel
theorem dX6_ends_15 : decode cX6_ends 15 = .ok (.istore_n 2, 1) := by decide +kernel
theorem dX6_ends_16 : decode cX6_ends 16 = .ok (.iload_n 2, 1) := by decide +kernel
theorem dX6_ends_17 : decode cX6_ends 17 = .ok (.aload_n 0, 1) := by decide +kernel
theorem dX6_ends_18 : decode cX6_ends 18 = .ok (.getfield 12, 3) := by decide +kernel
theorem dX6_ends_21 : decode cX6_ends 21 = .ok (.getfield 197, 3) := by decide +kernel
theorem dX6_ends_24 : decode cX6_ends 24 = .ok (.getfield 213, 3) := by decide +kernel
theorem dX6_ends_27 : decode cX6_ends 27 = .ok (.if_icmp .ge 40, 3) := by decide +kernel
theorem dX6_ends_30 : decode cX6_ends 30 = .ok (.aload_n 0, 1) := by decide +kernel
theorem dX6_ends_31 : decode cX6_ends 31 = .ok (.getfield 41, 3) := by decide +kernel
theorem dX6_ends_34 : decode cX6_ends 34 = .ok (.aload_n 0, 1) := by decide +kernel
theorem dX6_ends_35 : decode cX6_ends 35 = .ok (.getfield 12, 3) := by decide +kernel
theorem dX6_ends_38 : decode cX6_ends 38 = .ok (.getfield 197, 3) := by decide +kernel
theorem dX6_ends_41 : decode cX6_ends 41 = .ok (.getfield 214, 3) := by decide +kernel
theorem dX6_ends_44 : decode cX6_ends 44 = .ok (.iload_n 2, 1) := by decide +kernel
theorem dX6_ends_45 : decode cX6_ends 45 = .ok (.iaload, 1) := by decide +kernel
theorem dX6_ends_46 : decode cX6_ends 46 = .ok (.aload_n 0, 1) := by decide +kernel
theorem dX6_ends_47 : decode cX6_ends 47 = .ok (.getfield 12, 3) := by decide +kernel
theorem dX6_ends_50 : decode cX6_ends 50 = .ok (.getfield 197, 3) := by decide +kernel
theorem dX6_ends_53 : decode cX6_ends 53 = .ok (.getfield 217, 3) := by decide +kernel
theorem dX6_ends_56 : decode cX6_ends 56 = .ok (.iload_n 2, 1) := by decide +kernel
theorem dX6_ends_57 : decode cX6_ends 57 = .ok (.iaload, 1) := by decide +kernel
theorem dX6_ends_58 : decode cX6_ends 58 = .ok (.invokevirtual 220, 3) := by decide +kernel
theorem dX6_ends_61 : decode cX6_ends 61 = .ok (.iinc 2 1, 3) := by decide +kernel
theorem dX6_ends_64 : decode cX6_ends 64 = .ok (.goto (-48), 3) := by decide +kernel
theorem dX6_ends_67 : decode cX6_ends 67 = .ok (.aload_n 0, 1) := by decide +kernel
theorem dX6_ends_68 : decode cX6_ends 68 = .ok (.getfield 44, 3) := by decide +kernel
theorem dX6_ends_71 : decode cX6_ends 71 = .ok (.invokevirtual 84, 3) := by decide +kernel
theorem dX6_ends_74 : decode cX6_ends 74 = .ok (.iload_n 1, 1) := by decide +kernel
theorem dX6_ends_75 : decode cX6_ends 75 = .ok (.tableswitch 49 0 2 #[25, 33, 41], 25) := by decide +kernel
theorem dX6_ends_100 : decode cX6_ends 100 = .ok (.aload_n 0, 1) := by decide +kernel
theorem dX6_ends_101 : decode cX6_ends 101 = .ok (.getfield 44, 3) := by decide +kernel
theorem dX6_ends_104 : decode cX6_ends 104 = .ok (.getfield 139, 3) := by decide +kernel
theorem dX6_ends_107 : decode cX6_ends 107 = .ok (.ireturn, 1) := by decide +kernel
theorem dX6_ends_108 : decode cX6_ends 108 = .ok (.aload_n 0, 1) := by decide +kernel
theorem dX6_ends_109 : decode cX6_ends 109 = .ok (.getfield 44, 3) := by decide +kernel
theorem dX6_ends_112 : decode cX6_ends 112 = .ok (.getfield 142, 3) := by decide +kernel
theorem dX6_ends_115 : decode cX6_ends 115 = .ok (.ireturn, 1) := by decide +kernel
theorem dX6_ends_116 : decode cX6_ends 116 = .ok (.aload_n 0, 1) := by decide +kernel
theorem dX6_ends_117 : decode cX6_ends 117 = .ok (.getfield 44, 3) := by decide +kernel
theorem dX6_ends_120 : decode cX6_ends 120 = .ok (.getfield 127, 3) := by decide +kernel
theorem dX6_ends_123 : decode cX6_ends 123 = .ok (.ireturn, 1) := by decide +kernel
theorem dX6_ends_124 : decode cX6_ends 124 = .ok (.iconst (-1), 1) := by decide +kernel
theorem dX6_ends_125 : decode cX6_ends 125 = .ok (.ireturn, 1) := by decide +kernel
theorem dX6_book_0 : decode cX6_book 0 = .ok (.aload_n 0, 1) := by decide +kernel
theorem dX6_book_1 : decode cX6_book 1 = .ok (.aload_n 0, 1) := by decide +kernel
theorem dX6_book_2 : decode cX6_book 2 = .ok (.getfield 12, 3) := by decide +kernel
theorem dX6_book_5 : decode cX6_book 5 = .ok (.getfield 224, 3) := by decide +kernel
theorem dX6_book_8 : decode cX6_book 8 = .ok (.iload_n 1, 1) := by decide +kernel
theorem dX6_book_9 : decode cX6_book 9 = .ok (.iload_n 2, 1) := by decide +kernel
theorem dX6_book_10 : decode cX6_book 10 = .ok (.invokevirtual 185, 3) := by decide +kernel
theorem dX6_book_13 : decode cX6_book 13 = .ok (.ireturn, 1) := by decide +kernel
theorem dX6_looked_0 : decode cX6_looked 0 = .ok (.aload_n 0, 1) := by decide +kernel
theorem dX6_looked_1 : decode cX6_looked 1 = .ok (.getfield 34, 3) := by decide +kernel
theorem dX6_looked_4 : decode cX6_looked 4 = .ok (.invokevirtual 84, 3) := by decide +kernel
theorem dX6_looked_7 : decode cX6_looked 7 = .ok (.aload_n 0, 1) := by decide +kernel
theorem dX6_looked_8 : decode cX6_looked 8 = .ok (.getfield 34, 3) := by decide +kernel
theorem dX6_looked_11 : decode cX6_looked 11 = .ok (.aload_n 0, 1) := by decide +kernel
theorem dX6_looked_12 : decode cX6_looked 12 = .ok (.getfield 12, 3) := by decide +kernel
theorem dX6_looked_15 : decode cX6_looked 15 = .ok (.getfield 224, 3) := by decide +kernel
theorem dX6_looked_18 : decode cX6_looked 18 = .ok (.invokevirtual 189, 3) := by decide +kernel
theorem dX6_looked_21 : decode cX6_looked 21 = .ok (.ireturn, 1) := by decide +kernel
theorem dX6_judge_0 : decode cX6_judge 0 = .ok (.iload_n 1, 1) := by decide +kernel
theorem dX6_judge_1 : decode cX6_judge 1 = .ok (.invokestatic 227, 3) := by decide +kernel
theorem dX6_judge_4 : decode cX6_judge 4 = .ok (.ifCond .ne 5, 3) := by decide +kernel
theorem dX6_judge_7 : decode cX6_judge 7 = .ok (.iconst (-1), 1) := by decide +kernel
theorem dX6_judge_8 : decode cX6_judge 8 = .ok (.ireturn, 1) := by decide +kernel
theorem dX6_judge_9 : decode cX6_judge 9 = .ok (.aload_n 0, 1) := by decide +kernel
theorem dX6_judge_10 : decode cX6_judge 10 = .ok (.getfield 56, 3) := by decide +kernel
theorem dX6_judge_13 : decode cX6_judge 13 = .ok (.iload_n 1, 1) := by decide +kernel
theorem dX6_judge_14 : decode cX6_judge 14 = .ok (.aaload, 1) := by decide +kernel
theorem dX6_judge_15 : decode cX6_judge 15 = .ok (.astore_n 3, 1) := by decide +kernel
theorem dX6_judge_16 : decode cX6_judge 16 = .ok (.aload_n 3, 1) := by decide +kernel
theorem dX6_judge_17 : decode cX6_judge 17 = .ok (.invokevirtual 230, 3) := by decide +kernel
theorem dX6_judge_20 : decode cX6_judge 20 = .ok (.ifCond .eq 14, 3) := by decide +kernel
theorem dX6_judge_23 : decode cX6_judge 23 = .ok (.aload_n 3, 1) := by decide +kernel
theorem dX6_judge_24 : decode cX6_judge 24 = .ok (.getfield 234, 3) := by decide +kernel
theorem dX6_judge_27 : decode cX6_judge 27 = .ok (.iconst 3, 1) := by decide +kernel
theorem dX6_judge_28 : decode cX6_judge 28 = .ok (.if_icmp .eq 6, 3) := by decide +kernel
theorem dX6_judge_31 : decode cX6_judge 31 = .ok (.bipush (-12), 2) := by decide +kernel
theorem dX6_judge_33 : decode cX6_judge 33 = .ok (.ireturn, 1) := by decide +kernel
theorem dX6_judge_34 : decode cX6_judge 34 = .ok (.aload_n 0, 1) := by decide +kernel
theorem dX6_judge_35 : decode cX6_judge 35 = .ok (.getfield 12, 3) := by decide +kernel
theorem dX6_judge_38 : decode cX6_judge 38 = .ok (.getfield 27, 3) := by decide +kernel
theorem dX6_judge_41 : decode cX6_judge 41 = .ok (.getfield 133, 3) := by decide +kernel
theorem dX6_judge_44 : decode cX6_judge 44 = .ok (.istore 4, 2) := by decide +kernel
theorem dX6_judge_46 : decode cX6_judge 46 = .ok (.iload 4, 2) := by decide +kernel
theorem dX6_judge_48 : decode cX6_judge 48 = .ok (.ifCond .ne 6, 3) := by decide +kernel
theorem dX6_judge_51 : decode cX6_judge 51 = .ok (.bipush (-5), 2) := by decide +kernel
theorem dX6_judge_53 : decode cX6_judge 53 = .ok (.ireturn, 1) := by decide +kernel
theorem dX6_judge_54 : decode cX6_judge 54 = .ok (.aload_n 3, 1) := by decide +kernel
theorem dX6_judge_55 : decode cX6_judge 55 = .ok (.invokevirtual 230, 3) := by decide +kernel
theorem dX6_judge_58 : decode cX6_judge 58 = .ok (.ifCond .eq 7, 3) := by decide +kernel
theorem dX6_judge_61 : decode cX6_judge 61 = .ok (.iload_n 2, 1) := by decide +kernel
theorem dX6_judge_62 : decode cX6_judge 62 = .ok (.ifCond .ge 6, 3) := by decide +kernel
theorem dX6_judge_65 : decode cX6_judge 65 = .ok (.bipush 100, 2) := by decide +kernel
theorem dX6_judge_67 : decode cX6_judge 67 = .ok (.ireturn, 1) := by decide +kernel
theorem dX6_judge_68 : decode cX6_judge 68 = .ok (.aload_n 0, 1) := by decide +kernel
theorem dX6_judge_69 : decode cX6_judge 69 = .ok (.getfield 34, 3) := by decide +kernel
theorem dX6_judge_72 : decode cX6_judge 72 = .ok (.invokevirtual 84, 3) := by decide +kernel
theorem dX6_judge_75 : decode cX6_judge 75 = .ok (.iconst 0, 1) := by decide +kernel
theorem dX6_judge_76 : decode cX6_judge 76 = .ok (.istore 5, 2) := by decide +kernel
theorem dX6_judge_78 : decode cX6_judge 78 = .ok (.iload 5, 2) := by decide +kernel
theorem dX6_judge_80 : decode cX6_judge 80 = .ok (.iload 4, 2) := by decide +kernel
theorem dX6_judge_82 : decode cX6_judge 82 = .ok (.if_icmp .ge 53, 3) := by decide +kernel
theorem dX6_judge_85 : decode cX6_judge 85 = .ok (.iload_n 2, 1) := by decide +kernel
theorem dX6_judge_86 : decode cX6_judge 86 = .ok (.aload_n 3, 1) := by decide +kernel
theorem dX6_judge_87 : decode cX6_judge 87 = .ok (.getfield 237, 3) := by decide +kernel
theorem dX6_judge_90 : decode cX6_judge 90 = .ok (.iload 5, 2) := by decide +kernel
theorem dX6_judge_92 : decode cX6_judge 92 = .ok (.isub, 1) := by decide +kernel
theorem dX6_judge_93 : decode cX6_judge 93 = .ok (.if_icmp .lt 9, 3) := by decide +kernel
theorem dX6_judge_96 : decode cX6_judge 96 = .ok (.bipush 100, 2) := by decide +kernel
theorem dX6_judge_98 : decode cX6_judge 98 = .ok (.iload 5, 2) := by decide +kernel
theorem dX6_judge_100 : decode cX6_judge 100 = .ok (.iadd, 1) := by decide +kernel
theorem dX6_judge_101 : decode cX6_judge 101 = .ok (.ireturn, 1) := by decide +kernel
theorem dX6_judge_102 : decode cX6_judge 102 = .ok (.aload_n 3, 1) := by decide +kernel
theorem dX6_judge_103 : decode cX6_judge 103 = .ok (.getfield 240, 3) := by decide +kernel
theorem dX6_judge_106 : decode cX6_judge 106 = .ok (.iload_n 2, 1) := by decide +kernel
theorem dX6_judge_107 : decode cX6_judge 107 = .ok (.iload 5, 2) := by decide +kernel
theorem dX6_judge_109 : decode cX6_judge 109 = .ok (.iadd, 1) := by decide +kernel
theorem dX6_judge_110 : decode cX6_judge 110 = .ok (.laload, 1) := by decide +kernel
theorem dX6_judge_111 : decode cX6_judge 111 = .ok (.aload_n 0, 1) := by decide +kernel
theorem dX6_judge_112 : decode cX6_judge 112 = .ok (.getfield 34, 3) := by decide +kernel
theorem dX6_judge_115 : decode cX6_judge 115 = .ok (.getfield 106, 3) := by decide +kernel
theorem dX6_judge_118 : decode cX6_judge 118 = .ok (.iload 5, 2) := by decide +kernel
theorem dX6_judge_120 : decode cX6_judge 120 = .ok (.iaload, 1) := by decide +kernel
theorem dX6_judge_121 : decode cX6_judge 121 = .ok (.i2l, 1) := by decide +kernel
theorem dX6_judge_122 : decode cX6_judge 122 = .ok (.lcmp, 1) := by decide +kernel
theorem dX6_judge_123 : decode cX6_judge 123 = .ok (.ifCond .eq 6, 3) := by decide +kernel
theorem dX6_judge_126 : decode cX6_judge 126 = .ok (.iload 5, 2) := by decide +kernel
theorem dX6_judge_128 : decode cX6_judge 128 = .ok (.ireturn, 1) := by decide +kernel
theorem dX6_judge_129 : decode cX6_judge 129 = .ok (.iinc 5 1, 3) := by decide +kernel
theorem dX6_judge_132 : decode cX6_judge 132 = .ok (.goto (-54), 3) := by decide +kernel
theorem dX6_judge_135 : decode cX6_judge 135 = .ok (.bipush (-5), 2) := by decide +kernel
theorem dX6_judge_137 : decode cX6_judge 137 = .ok (.ireturn, 1) := by decide +kernel
theorem dX6_image_0 : decode cX6_image 0 = .ok (.aload_n 0, 1) := by decide +kernel
theorem dX6_image_1 : decode cX6_image 1 = .ok (.getfield 18, 3) := by decide +kernel
theorem dX6_image_4 : decode cX6_image 4 = .ok (.aload_n 0, 1) := by decide +kernel
theorem dX6_image_5 : decode cX6_image 5 = .ok (.getfield 12, 3) := by decide +kernel
theorem dX6_image_8 : decode cX6_image 8 = .ok (.invokevirtual 244, 3) := by decide +kernel
theorem dX6_image_11 : decode cX6_image 11 = .ok (.aload_n 0, 1) := by decide +kernel
theorem dX6_image_12 : decode cX6_image 12 = .ok (.iconst 1, 1) := by decide +kernel
theorem dX6_image_13 : decode cX6_image 13 = .ok (.putfield 21, 3) := by decide +kernel
theorem dX6_image_16 : decode cX6_image 16 = .ok (.aload_n 0, 1) := by decide +kernel
theorem dX6_image_17 : decode cX6_image 17 = .ok (.getfield 12, 3) := by decide +kernel
theorem dX6_image_20 : decode cX6_image 20 = .ok (.getfield 27, 3) := by decide +kernel
theorem dX6_image_23 : decode cX6_image 23 = .ok (.getfield 133, 3) := by decide +kernel
theorem dX6_image_26 : decode cX6_image 26 = .ok (.ireturn, 1) := by decide +kernel
theorem dX6_undo_0 : decode cX6_undo 0 = .ok (.aload_n 0, 1) := by decide +kernel
theorem dX6_undo_1 : decode cX6_undo 1 = .ok (.getfield 21, 3) := by decide +kernel
theorem dX6_undo_4 : decode cX6_undo 4 = .ok (.ifCond .ne 6, 3) := by decide +kernel
theorem dX6_undo_7 : decode cX6_undo 7 = .ok (.bipush (-3), 2) := by decide +kernel
theorem dX6_undo_9 : decode cX6_undo 9 = .ok (.ireturn, 1) := by decide +kernel
theorem dX6_undo_10 : decode cX6_undo 10 = .ok (.aload_n 0, 1) := by decide +kernel
theorem dX6_undo_11 : decode cX6_undo 11 = .ok (.getfield 12, 3) := by decide +kernel
theorem dX6_undo_14 : decode cX6_undo 14 = .ok (.aload_n 0, 1) := by decide +kernel
theorem dX6_undo_15 : decode cX6_undo 15 = .ok (.getfield 18, 3) := by decide +kernel
theorem dX6_undo_18 : decode cX6_undo 18 = .ok (.invokevirtual 244, 3) := by decide +kernel
theorem dX6_undo_21 : decode cX6_undo 21 = .ok (.aload_n 0, 1) := by decide +kernel
theorem dX6_undo_22 : decode cX6_undo 22 = .ok (.getfield 12, 3) := by decide +kernel
theorem dX6_undo_25 : decode cX6_undo 25 = .ok (.getfield 27, 3) := by decide +kernel
theorem dX6_undo_28 : decode cX6_undo 28 = .ok (.getfield 133, 3) := by decide +kernel
theorem dX6_undo_31 : decode cX6_undo 31 = .ok (.ireturn, 1) := by decide +kernel
theorem dX6_count_0 : decode cX6_count 0 = .ok (.iload_n 1, 1) := by decide +kernel
theorem dX6_count_1 : decode cX6_count 1 = .ok (.tableswitch 72 0 3 #[31, 42, 53, 64], 31) := by decide +kernel
theorem dX6_count_32 : decode cX6_count 32 = .ok (.aload_n 0, 1) := by decide +kernel
theorem dX6_count_33 : decode cX6_count 33 = .ok (.getfield 12, 3) := by decide +kernel
theorem dX6_count_36 : decode cX6_count 36 = .ok (.getfield 181, 3) := by decide +kernel
theorem dX6_count_39 : decode cX6_count 39 = .ok (.getfield 213, 3) := by decide +kernel
theorem dX6_count_42 : decode cX6_count 42 = .ok (.ireturn, 1) := by decide +kernel
theorem dX6_count_43 : decode cX6_count 43 = .ok (.aload_n 0, 1) := by decide +kernel
theorem dX6_count_44 : decode cX6_count 44 = .ok (.getfield 12, 3) := by decide +kernel
theorem dX6_count_47 : decode cX6_count 47 = .ok (.getfield 197, 3) := by decide +kernel
theorem dX6_count_50 : decode cX6_count 50 = .ok (.getfield 213, 3) := by decide +kernel
theorem dX6_count_53 : decode cX6_count 53 = .ok (.ireturn, 1) := by decide +kernel
theorem dX6_count_54 : decode cX6_count 54 = .ok (.aload_n 0, 1) := by decide +kernel
theorem dX6_count_55 : decode cX6_count 55 = .ok (.getfield 12, 3) := by decide +kernel
theorem dX6_count_58 : decode cX6_count 58 = .ok (.getfield 224, 3) := by decide +kernel
theorem dX6_count_61 : decode cX6_count 61 = .ok (.getfield 213, 3) := by decide +kernel
theorem dX6_count_64 : decode cX6_count 64 = .ok (.ireturn, 1) := by decide +kernel
theorem dX6_count_65 : decode cX6_count 65 = .ok (.aload_n 0, 1) := by decide +kernel
theorem dX6_count_66 : decode cX6_count 66 = .ok (.getfield 50, 3) := by decide +kernel
theorem dX6_count_69 : decode cX6_count 69 = .ok (.getfield 247, 3) := by decide +kernel
theorem dX6_count_72 : decode cX6_count 72 = .ok (.ireturn, 1) := by decide +kernel
theorem dX6_count_73 : decode cX6_count 73 = .ok (.bipush (-2), 2) := by decide +kernel
theorem dX6_count_75 : decode cX6_count 75 = .ok (.ireturn, 1) := by decide +kernel
theorem dX6_tape_0 : decode cX6_tape 0 = .ok (.iload_n 1, 1) := by decide +kernel
theorem dX6_tape_1 : decode cX6_tape 1 = .ok (.invokestatic 227, 3) := by decide +kernel
theorem dX6_tape_4 : decode cX6_tape 4 = .ok (.ifCond .ne 5, 3) := by decide +kernel
theorem dX6_tape_7 : decode cX6_tape 7 = .ok (.iconst (-1), 1) := by decide +kernel
theorem dX6_tape_8 : decode cX6_tape 8 = .ok (.ireturn, 1) := by decide +kernel
theorem dX6_tape_9 : decode cX6_tape 9 = .ok (.iload_n 2, 1) := by decide +kernel
theorem dX6_tape_10 : decode cX6_tape 10 = .ok (.iconst (-1), 1) := by decide +kernel
theorem dX6_tape_11 : decode cX6_tape 11 = .ok (.if_icmp .lt 8, 3) := by decide +kernel
theorem dX6_tape_14 : decode cX6_tape 14 = .ok (.iload_n 2, 1) := by decide +kernel
theorem dX6_tape_15 : decode cX6_tape 15 = .ok (.iconst 4, 1) := by decide +kernel
theorem dX6_tape_16 : decode cX6_tape 16 = .ok (.if_icmp .le 6, 3) := by decide +kernel
theorem dX6_tape_19 : decode cX6_tape 19 = .ok (.bipush (-2), 2) := by decide +kernel
theorem dX6_tape_21 : decode cX6_tape 21 = .ok (.ireturn, 1) := by decide +kernel
theorem dX6_tape_22 : decode cX6_tape 22 = .ok (.iload_n 2, 1) := by decide +kernel
theorem dX6_tape_23 : decode cX6_tape 23 = .ok (.iconst (-1), 1) := by decide +kernel
theorem dX6_tape_24 : decode cX6_tape 24 = .ok (.if_icmp .ne 16, 3) := by decide +kernel
theorem dX6_tape_27 : decode cX6_tape 27 = .ok (.aload_n 0, 1) := by decide +kernel
theorem dX6_tape_28 : decode cX6_tape 28 = .ok (.getfield 56, 3) := by decide +kernel
theorem dX6_tape_31 : decode cX6_tape 31 = .ok (.iload_n 1, 1) := by decide +kernel
theorem dX6_tape_32 : decode cX6_tape 32 = .ok (.aaload, 1) := by decide +kernel
theorem dX6_tape_33 : decode cX6_tape 33 = .ok (.iconst (-1), 1) := by decide +kernel
theorem dX6_tape_34 : decode cX6_tape 34 = .ok (.iconst 0, 1) := by decide +kernel
theorem dX6_tape_35 : decode cX6_tape 35 = .ok (.invokevirtual 248, 3) := by decide +kernel
theorem dX6_tape_38 : decode cX6_tape 38 = .ok (.iconst 1, 1) := by decide +kernel
theorem dX6_tape_39 : decode cX6_tape 39 = .ok (.ireturn, 1) := by decide +kernel
theorem dX6_tape_40 : decode cX6_tape 40 = .ok (.iload_n 3, 1) := by decide +kernel
theorem dX6_tape_41 : decode cX6_tape 41 = .ok (.bipush 60, 2) := by decide +kernel
theorem dX6_tape_43 : decode cX6_tape 43 = .ok (.if_icmp .le 6, 3) := by decide +kernel
theorem dX6_tape_46 : decode cX6_tape 46 = .ok (.bipush (-2), 2) := by decide +kernel
theorem dX6_tape_48 : decode cX6_tape 48 = .ok (.ireturn, 1) := by decide +kernel
theorem dX6_tape_49 : decode cX6_tape 49 = .ok (.iload_n 3, 1) := by decide +kernel
theorem dX6_tape_50 : decode cX6_tape 50 = .ok (.ifCond .ge 6, 3) := by decide +kernel
theorem dX6_tape_53 : decode cX6_tape 53 = .ok (.bipush (-14), 2) := by decide +kernel
theorem dX6_tape_55 : decode cX6_tape 55 = .ok (.ireturn, 1) := by decide +kernel
theorem dX6_tape_56 : decode cX6_tape 56 = .ok (.aload_n 0, 1) := by decide +kernel
theorem dX6_tape_57 : decode cX6_tape 57 = .ok (.getfield 56, 3) := by decide +kernel
theorem dX6_tape_60 : decode cX6_tape 60 = .ok (.iload_n 1, 1) := by decide +kernel
theorem dX6_tape_61 : decode cX6_tape 61 = .ok (.aaload, 1) := by decide +kernel
theorem dX6_tape_62 : decode cX6_tape 62 = .ok (.iload_n 2, 1) := by decide +kernel
theorem dX6_tape_63 : decode cX6_tape 63 = .ok (.iload_n 3, 1) := by decide +kernel
theorem dX6_tape_64 : decode cX6_tape 64 = .ok (.invokevirtual 248, 3) := by decide +kernel
theorem dX6_tape_67 : decode cX6_tape 67 = .ok (.iconst 1, 1) := by decide +kernel
theorem dX6_tape_68 : decode cX6_tape 68 = .ok (.ireturn, 1) := by decide +kernel
theorem dX6_item_0 : decode cX6_item 0 = .ok (.iload_n 1, 1) := by decide +kernel
theorem dX6_item_1 : decode cX6_item 1 = .ok (.invokestatic 227, 3) := by decide +kernel
theorem dX6_item_4 : decode cX6_item 4 = .ok (.ifCond .ne 5, 3) := by decide +kernel
theorem dX6_item_7 : decode cX6_item 7 = .ok (.iconst (-1), 1) := by decide +kernel
theorem dX6_item_8 : decode cX6_item 8 = .ok (.ireturn, 1) := by decide +kernel
theorem dX6_item_9 : decode cX6_item 9 = .ok (.aload_n 0, 1) := by decide +kernel
theorem dX6_item_10 : decode cX6_item 10 = .ok (.getfield 56, 3) := by decide +kernel
theorem dX6_item_13 : decode cX6_item 13 = .ok (.iload_n 1, 1) := by decide +kernel
theorem dX6_item_14 : decode cX6_item 14 = .ok (.aaload, 1) := by decide +kernel
theorem dX6_item_15 : decode cX6_item 15 = .ok (.invokevirtual 230, 3) := by decide +kernel
theorem dX6_item_18 : decode cX6_item 18 = .ok (.ifCond .ne 6, 3) := by decide +kernel
theorem dX6_item_21 : decode cX6_item 21 = .ok (.bipush (-11), 2) := by decide +kernel
theorem dX6_item_23 : decode cX6_item 23 = .ok (.ireturn, 1) := by decide +kernel
theorem dX6_item_24 : decode cX6_item 24 = .ok (.aload_n 0, 1) := by decide +kernel
theorem dX6_item_25 : decode cX6_item 25 = .ok (.getfield 56, 3) := by decide +kernel
theorem dX6_item_28 : decode cX6_item 28 = .ok (.iload_n 1, 1) := by decide +kernel
theorem dX6_item_29 : decode cX6_item 29 = .ok (.aaload, 1) := by decide +kernel
theorem dX6_item_30 : decode cX6_item 30 = .ok (.iload_n 2, 1) := by decide +kernel
theorem dX6_item_31 : decode cX6_item 31 = .ok (.invokevirtual 251, 3) := by decide +kernel
theorem dX6_item_34 : decode cX6_item 34 = .ok (.ifCond .ne 6, 3) := by decide +kernel
theorem dX6_item_37 : decode cX6_item 37 = .ok (.bipush (-13), 2) := by decide +kernel
theorem dX6_item_39 : decode cX6_item 39 = .ok (.ireturn, 1) := by decide +kernel
theorem dX6_item_40 : decode cX6_item 40 = .ok (.aload_n 0, 1) := by decide +kernel
theorem dX6_item_41 : decode cX6_item 41 = .ok (.getfield 56, 3) := by decide +kernel
theorem dX6_item_44 : decode cX6_item 44 = .ok (.iload_n 1, 1) := by decide +kernel
theorem dX6_item_45 : decode cX6_item 45 = .ok (.aaload, 1) := by decide +kernel
theorem dX6_item_46 : decode cX6_item 46 = .ok (.getfield 240, 3) := by decide +kernel
theorem dX6_item_49 : decode cX6_item 49 = .ok (.iload_n 2, 1) := by decide +kernel
theorem dX6_item_50 : decode cX6_item 50 = .ok (.aload_n 0, 1) := by decide +kernel
theorem dX6_item_51 : decode cX6_item 51 = .ok (.getfield 56, 3) := by decide +kernel
theorem dX6_item_54 : decode cX6_item 54 = .ok (.iload_n 1, 1) := by decide +kernel
theorem dX6_item_55 : decode cX6_item 55 = .ok (.aaload, 1) := by decide +kernel
theorem dX6_item_56 : decode cX6_item 56 = .ok (.getfield 234, 3) := by decide +kernel
theorem dX6_item_59 : decode cX6_item 59 = .ok (.lload_n 3, 1) := by decide +kernel
theorem dX6_item_60 : decode cX6_item 60 = .ok (.invokestatic 254, 3) := by decide +kernel
theorem dX6_item_63 : decode cX6_item 63 = .ok (.lastore, 1) := by decide +kernel
theorem dX6_item_64 : decode cX6_item 64 = .ok (.iconst 1, 1) := by decide +kernel
theorem dX6_item_65 : decode cX6_item 65 = .ok (.ireturn, 1) := by decide +kernel
theorem dX6_peek_0 : decode cX6_peek 0 = .ok (.iload_n 1, 1) := by decide +kernel
theorem dX6_peek_1 : decode cX6_peek 1 = .ok (.invokestatic 227, 3) := by decide +kernel
theorem dX6_peek_4 : decode cX6_peek 4 = .ok (.ifCond .eq 16, 3) := by decide +kernel
theorem dX6_peek_7 : decode cX6_peek 7 = .ok (.aload_n 0, 1) := by decide +kernel
theorem dX6_peek_8 : decode cX6_peek 8 = .ok (.getfield 56, 3) := by decide +kernel
theorem dX6_peek_11 : decode cX6_peek 11 = .ok (.iload_n 1, 1) := by decide +kernel
theorem dX6_peek_12 : decode cX6_peek 12 = .ok (.aaload, 1) := by decide +kernel
theorem dX6_peek_13 : decode cX6_peek 13 = .ok (.iload_n 2, 1) := by decide +kernel
theorem dX6_peek_14 : decode cX6_peek 14 = .ok (.invokevirtual 251, 3) := by decide +kernel
theorem dX6_peek_17 : decode cX6_peek 17 = .ok (.ifCond .ne 7, 3) := by decide +kernel
theorem dX6_peek_20 : decode cX6_peek 20 = .ok (.ldc2_w 173, 3) := by decide +kernel
theorem dX6_peek_23 : decode cX6_peek 23 = .ok (.lreturn, 1) := by decide +kernel
theorem dX6_peek_24 : decode cX6_peek 24 = .ok (.aload_n 0, 1) := by decide +kernel
theorem dX6_peek_25 : decode cX6_peek 25 = .ok (.getfield 56, 3) := by decide +kernel
theorem dX6_peek_28 : decode cX6_peek 28 = .ok (.iload_n 1, 1) := by decide +kernel
theorem dX6_peek_29 : decode cX6_peek 29 = .ok (.aaload, 1) := by decide +kernel
theorem dX6_peek_30 : decode cX6_peek 30 = .ok (.getfield 240, 3) := by decide +kernel
theorem dX6_peek_33 : decode cX6_peek 33 = .ok (.iload_n 2, 1) := by decide +kernel
theorem dX6_peek_34 : decode cX6_peek 34 = .ok (.laload, 1) := by decide +kernel
theorem dX6_peek_35 : decode cX6_peek 35 = .ok (.lreturn, 1) := by decide +kernel
theorem dX6_shift_0 : decode cX6_shift 0 = .ok (.iload_n 1, 1) := by decide +kernel
theorem dX6_shift_1 : decode cX6_shift 1 = .ok (.invokestatic 227, 3) := by decide +kernel
theorem dX6_shift_4 : decode cX6_shift 4 = .ok (.ifCond .eq 10, 3) := by decide +kernel
theorem dX6_shift_7 : decode cX6_shift 7 = .ok (.iload_n 3, 1) := by decide +kernel
theorem dX6_shift_8 : decode cX6_shift 8 = .ok (.invokestatic 227, 3) := by decide +kernel
theorem dX6_shift_11 : decode cX6_shift 11 = .ok (.ifCond .ne 5, 3) := by decide +kernel
theorem dX6_shift_14 : decode cX6_shift 14 = .ok (.iconst (-1), 1) := by decide +kernel
theorem dX6_shift_15 : decode cX6_shift 15 = .ok (.ireturn, 1) := by decide +kernel
theorem dX6_shift_16 : decode cX6_shift 16 = .ok (.aload_n 0, 1) := by decide +kernel
theorem dX6_shift_17 : decode cX6_shift 17 = .ok (.getfield 56, 3) := by decide +kernel
theorem dX6_shift_20 : decode cX6_shift 20 = .ok (.iload_n 1, 1) := by decide +kernel
theorem dX6_shift_21 : decode cX6_shift 21 = .ok (.aaload, 1) := by decide +kernel
theorem dX6_shift_22 : decode cX6_shift 22 = .ok (.astore 6, 2) := by decide +kernel
theorem dX6_shift_24 : decode cX6_shift 24 = .ok (.aload_n 0, 1) := by decide +kernel
theorem dX6_shift_25 : decode cX6_shift 25 = .ok (.getfield 56, 3) := by decide +kernel
theorem dX6_shift_28 : decode cX6_shift 28 = .ok (.iload_n 3, 1) := by decide +kernel
theorem dX6_shift_29 : decode cX6_shift 29 = .ok (.aaload, 1) := by decide +kernel
theorem dX6_shift_30 : decode cX6_shift 30 = .ok (.astore 7, 2) := by decide +kernel
theorem dX6_shift_32 : decode cX6_shift 32 = .ok (.aload 6, 2) := by decide +kernel
theorem dX6_shift_34 : decode cX6_shift 34 = .ok (.invokevirtual 230, 3) := by decide +kernel
theorem dX6_shift_37 : decode cX6_shift 37 = .ok (.ifCond .eq 11, 3) := by decide +kernel
theorem dX6_shift_40 : decode cX6_shift 40 = .ok (.aload 7, 2) := by decide +kernel
theorem dX6_shift_42 : decode cX6_shift 42 = .ok (.invokevirtual 230, 3) := by decide +kernel
theorem dX6_shift_45 : decode cX6_shift 45 = .ok (.ifCond .ne 6, 3) := by decide +kernel
theorem dX6_shift_48 : decode cX6_shift 48 = .ok (.bipush (-11), 2) := by decide +kernel
theorem dX6_shift_50 : decode cX6_shift 50 = .ok (.ireturn, 1) := by decide +kernel
theorem dX6_shift_51 : decode cX6_shift 51 = .ok (.aload 6, 2) := by decide +kernel
theorem dX6_shift_53 : decode cX6_shift 53 = .ok (.getfield 234, 3) := by decide +kernel
theorem dX6_shift_56 : decode cX6_shift 56 = .ok (.aload 7, 2) := by decide +kernel
theorem dX6_shift_58 : decode cX6_shift 58 = .ok (.getfield 234, 3) := by decide +kernel
theorem dX6_shift_61 : decode cX6_shift 61 = .ok (.if_icmp .eq 6, 3) := by decide +kernel
theorem dX6_shift_64 : decode cX6_shift 64 = .ok (.bipush (-12), 2) := by decide +kernel
theorem dX6_shift_66 : decode cX6_shift 66 = .ok (.ireturn, 1) := by decide +kernel
theorem dX6_shift_67 : decode cX6_shift 67 = .ok (.aload 6, 2) := by decide +kernel
theorem dX6_shift_69 : decode cX6_shift 69 = .ok (.iload_n 2, 1) := by decide +kernel
theorem dX6_shift_70 : decode cX6_shift 70 = .ok (.iload 5, 2) := by decide +kernel
theorem dX6_shift_72 : decode cX6_shift 72 = .ok (.invokevirtual 258, 3) := by decide +kernel
theorem dX6_shift_75 : decode cX6_shift 75 = .ok (.ifCond .eq 15, 3) := by decide +kernel
theorem dX6_shift_78 : decode cX6_shift 78 = .ok (.aload 7, 2) := by decide +kernel
theorem dX6_shift_80 : decode cX6_shift 80 = .ok (.iload 4, 2) := by decide +kernel
theorem dX6_shift_82 : decode cX6_shift 82 = .ok (.iload 5, 2) := by decide +kernel
theorem dX6_shift_84 : decode cX6_shift 84 = .ok (.invokevirtual 258, 3) := by decide +kernel
theorem dX6_shift_87 : decode cX6_shift 87 = .ok (.ifCond .ne 6, 3) := by decide +kernel
theorem dX6_shift_90 : decode cX6_shift 90 = .ok (.bipush (-13), 2) := by decide +kernel
theorem dX6_shift_92 : decode cX6_shift 92 = .ok (.ireturn, 1) := by decide +kernel
theorem dX6_shift_93 : decode cX6_shift 93 = .ok (.aload 6, 2) := by decide +kernel
theorem dX6_shift_95 : decode cX6_shift 95 = .ok (.getfield 240, 3) := by decide +kernel
theorem dX6_shift_98 : decode cX6_shift 98 = .ok (.iload_n 2, 1) := by decide +kernel
theorem dX6_shift_99 : decode cX6_shift 99 = .ok (.aload 7, 2) := by decide +kernel
theorem dX6_shift_101 : decode cX6_shift 101 = .ok (.getfield 240, 3) := by decide +kernel
theorem dX6_shift_104 : decode cX6_shift 104 = .ok (.iload 4, 2) := by decide +kernel
theorem dX6_shift_106 : decode cX6_shift 106 = .ok (.iload 5, 2) := by decide +kernel
theorem dX6_shift_108 : decode cX6_shift 108 = .ok (.invokestatic 262, 3) := by decide +kernel
theorem dX6_shift_111 : decode cX6_shift 111 = .ok (.iload 5, 2) := by decide +kernel
theorem dX6_shift_113 : decode cX6_shift 113 = .ok (.ireturn, 1) := by decide +kernel
theorem dX6_isTape_0 : decode cX6_isTape 0 = .ok (.iload_n 0, 1) := by decide +kernel
theorem dX6_isTape_1 : decode cX6_isTape 1 = .ok (.ifCond .lt 13, 3) := by decide +kernel
theorem dX6_isTape_4 : decode cX6_isTape 4 = .ok (.iload_n 0, 1) := by decide +kernel
theorem dX6_isTape_5 : decode cX6_isTape 5 = .ok (.bipush 6, 2) := by decide +kernel
theorem dX6_isTape_7 : decode cX6_isTape 7 = .ok (.if_icmp .ge 7, 3) := by decide +kernel
theorem dX6_isTape_10 : decode cX6_isTape 10 = .ok (.iconst 1, 1) := by decide +kernel
theorem dX6_isTape_11 : decode cX6_isTape 11 = .ok (.goto 4, 3) := by decide +kernel
theorem dX6_isTape_14 : decode cX6_isTape 14 = .ok (.iconst 0, 1) := by decide +kernel
theorem dX6_isTape_15 : decode cX6_isTape 15 = .ok (.ireturn, 1) := by decide +kernel
theorem dX6_has_0 : decode cX6_has 0 = .ok (.iload_n 0, 1) := by decide +kernel
theorem dX6_has_1 : decode cX6_has 1 = .ok (.iload_n 1, 1) := by decide +kernel
theorem dX6_has_2 : decode cX6_has 2 = .ok (.ishr, 1) := by decide +kernel
theorem dX6_has_3 : decode cX6_has 3 = .ok (.iconst 1, 1) := by decide +kernel
theorem dX6_has_4 : decode cX6_has 4 = .ok (.iand, 1) := by decide +kernel
theorem dX6_has_5 : decode cX6_has 5 = .ok (.ifCond .eq 7, 3) := by decide +kernel
theorem dX6_has_8 : decode cX6_has 8 = .ok (.iconst 1, 1) := by decide +kernel
theorem dX6_has_9 : decode cX6_has 9 = .ok (.goto 4, 3) := by decide +kernel
theorem dX6_has_12 : decode cX6_has 12 = .ok (.iconst 0, 1) := by decide +kernel
theorem dX6_has_13 : decode cX6_has 13 = .ok (.ireturn, 1) := by decide +kernel
theorem dX6_narrowed_0 : decode cX6_narrowed 0 = .ok (.iload_n 0, 1) := by decide +kernel
theorem dX6_narrowed_1 : decode cX6_narrowed 1 = .ok (.tableswitch 61 0 4 #[35, 40, 45, 61, 49], 35) := by decide +kernel
theorem dX6_narrowed_36 : decode cX6_narrowed 36 = .ok (.lload_n 1, 1) := by decide +kernel
theorem dX6_narrowed_37 : decode cX6_narrowed 37 = .ok (.l2i, 1) := by decide +kernel
theorem dX6_narrowed_38 : decode cX6_narrowed 38 = .ok (.i2b, 1) := by decide +kernel
theorem dX6_narrowed_39 : decode cX6_narrowed 39 = .ok (.i2l, 1) := by decide +kernel
theorem dX6_narrowed_40 : decode cX6_narrowed 40 = .ok (.lreturn, 1) := by decide +kernel
theorem dX6_narrowed_41 : decode cX6_narrowed 41 = .ok (.lload_n 1, 1) := by decide +kernel
theorem dX6_narrowed_42 : decode cX6_narrowed 42 = .ok (.l2i, 1) := by decide +kernel
theorem dX6_narrowed_43 : decode cX6_narrowed 43 = .ok (.i2s, 1) := by decide +kernel
theorem dX6_narrowed_44 : decode cX6_narrowed 44 = .ok (.i2l, 1) := by decide +kernel
theorem dX6_narrowed_45 : decode cX6_narrowed 45 = .ok (.lreturn, 1) := by decide +kernel
theorem dX6_narrowed_46 : decode cX6_narrowed 46 = .ok (.lload_n 1, 1) := by decide +kernel
theorem dX6_narrowed_47 : decode cX6_narrowed 47 = .ok (.l2i, 1) := by decide +kernel
theorem dX6_narrowed_48 : decode cX6_narrowed 48 = .ok (.i2l, 1) := by decide +kernel
theorem dX6_narrowed_49 : decode cX6_narrowed 49 = .ok (.lreturn, 1) := by decide +kernel
theorem dX6_narrowed_50 : decode cX6_narrowed 50 = .ok (.lload_n 1, 1) := by decide +kernel
theorem dX6_narrowed_51 : decode cX6_narrowed 51 = .ok (.lconst 0, 1) := by decide +kernel
theorem dX6_narrowed_52 : decode cX6_narrowed 52 = .ok (.lcmp, 1) := by decide +kernel
theorem dX6_narrowed_53 : decode cX6_narrowed 53 = .ok (.ifCond .eq 7, 3) := by decide +kernel
theorem dX6_narrowed_56 : decode cX6_narrowed 56 = .ok (.lconst 1, 1) := by decide +kernel
theorem dX6_narrowed_57 : decode cX6_narrowed 57 = .ok (.goto 4, 3) := by decide +kernel
theorem dX6_narrowed_60 : decode cX6_narrowed 60 = .ok (.lconst 0, 1) := by decide +kernel
theorem dX6_narrowed_61 : decode cX6_narrowed 61 = .ok (.lreturn, 1) := by decide +kernel
theorem dX6_narrowed_62 : decode cX6_narrowed 62 = .ok (.lload_n 1, 1) := by decide +kernel
theorem dX6_narrowed_63 : decode cX6_narrowed 63 = .ok (.lreturn, 1) := by decide +kernel
theorem dX6_addAmount_0 : decode cX6_addAmount 0 = .ok (.iload_n 2, 1) := by decide +kernel
theorem dX6_addAmount_1 : decode cX6_addAmount 1 = .ok (.iconst (-1), 1) := by decide +kernel
theorem dX6_addAmount_2 : decode cX6_addAmount 2 = .ok (.if_icmp .ne 8, 3) := by decide +kernel
theorem dX6_addAmount_5 : decode cX6_addAmount 5 = .ok (.aload_n 1, 1) := by decide +kernel
theorem dX6_addAmount_6 : decode cX6_addAmount 6 = .ok (.invokevirtual 200, 3) := by decide +kernel
theorem dX6_addAmount_9 : decode cX6_addAmount 9 = .ok (.ireturn, 1) := by decide +kernel
theorem dX6_addAmount_10 : decode cX6_addAmount 10 = .ok (.aload_n 0, 1) := by decide +kernel
theorem dX6_addAmount_11 : decode cX6_addAmount 11 = .ok (.getfield 12, 3) := by decide +kernel
theorem dX6_addAmount_14 : decode cX6_addAmount 14 = .ok (.getfield 27, 3) := by decide +kernel
theorem dX6_addAmount_17 : decode cX6_addAmount 17 = .ok (.iload_n 2, 1) := by decide +kernel
theorem dX6_addAmount_18 : decode cX6_addAmount 18 = .ok (.invokevirtual 76, 3) := by decide +kernel
theorem dX6_addAmount_21 : decode cX6_addAmount 21 = .ok (.ifCond .ne 5, 3) := by decide +kernel
theorem dX6_addAmount_24 : decode cX6_addAmount 24 = .ok (.iconst (-1), 1) := by decide +kernel
theorem dX6_addAmount_25 : decode cX6_addAmount 25 = .ok (.ireturn, 1) := by decide +kernel
theorem dX6_addAmount_26 : decode cX6_addAmount 26 = .ok (.iload_n 3, 1) := by decide +kernel
end
section
theorem dX6_addAmount_27 : decode cX6_addAmount 27 = .ok (.ifCond .lt 9, 3) := by decide +kernel
theorem dX6_addAmount_30 : decode cX6_addAmount 30 = .ok (.iload_n 3, 1) := by decide +kernel
theorem dX6_addAmount_31 : decode cX6_addAmount 31 = .ok (.bipush 99, 2) := by decide +kernel
theorem dX6_addAmount_33 : decode cX6_addAmount 33 = .ok (.if_icmp .le 6, 3) := by decide +kernel
theorem dX6_addAmount_36 : decode cX6_addAmount 36 = .ok (.bipush (-2), 2) := by decide +kernel
theorem dX6_addAmount_38 : decode cX6_addAmount 38 = .ok (.ireturn, 1) := by decide +kernel
theorem dX6_addAmount_39 : decode cX6_addAmount 39 = .ok (.aload_n 1, 1) := by decide +kernel
theorem dX6_addAmount_40 : decode cX6_addAmount 40 = .ok (.iload_n 2, 1) := by decide +kernel
theorem dX6_addAmount_41 : decode cX6_addAmount 41 = .ok (.iload_n 3, 1) := by decide +kernel
theorem dX6_addAmount_42 : decode cX6_addAmount 42 = .ok (.invokevirtual 207, 3) := by decide +kernel
theorem dX6_addAmount_45 : decode cX6_addAmount 45 = .ok (.ireturn, 1) := by decide +kernel
theorem dX6_planRefusal_0 : decode cX6_planRefusal 0 = .ok (.iload_n 1, 1) := by decide +kernel
theorem dX6_planRefusal_1 : decode cX6_planRefusal 1 = .ok (.tableswitch 86 0 3 #[31, 49, 49, 69], 31) := by decide +kernel
theorem dX6_planRefusal_32 : decode cX6_planRefusal 32 = .ok (.iload_n 2, 1) := by decide +kernel
theorem dX6_planRefusal_33 : decode cX6_planRefusal 33 = .ok (.ifCond .lt 10, 3) := by decide +kernel
theorem dX6_planRefusal_36 : decode cX6_planRefusal 36 = .ok (.iload_n 2, 1) := by decide +kernel
theorem dX6_planRefusal_37 : decode cX6_planRefusal 37 = .ok (.sipush 300, 3) := by decide +kernel
theorem dX6_planRefusal_40 : decode cX6_planRefusal 40 = .ok (.if_icmp .le 8, 3) := by decide +kernel
theorem dX6_planRefusal_43 : decode cX6_planRefusal 43 = .ok (.bipush (-2), 2) := by decide +kernel
theorem dX6_planRefusal_45 : decode cX6_planRefusal 45 = .ok (.goto 4, 3) := by decide +kernel
theorem dX6_planRefusal_48 : decode cX6_planRefusal 48 = .ok (.iconst 0, 1) := by decide +kernel
theorem dX6_planRefusal_49 : decode cX6_planRefusal 49 = .ok (.ireturn, 1) := by decide +kernel
theorem dX6_planRefusal_50 : decode cX6_planRefusal 50 = .ok (.aload_n 0, 1) := by decide +kernel
theorem dX6_planRefusal_51 : decode cX6_planRefusal 51 = .ok (.getfield 12, 3) := by decide +kernel
theorem dX6_planRefusal_54 : decode cX6_planRefusal 54 = .ok (.getfield 27, 3) := by decide +kernel
theorem dX6_planRefusal_57 : decode cX6_planRefusal 57 = .ok (.iload_n 2, 1) := by decide +kernel
theorem dX6_planRefusal_58 : decode cX6_planRefusal 58 = .ok (.invokevirtual 76, 3) := by decide +kernel
theorem dX6_planRefusal_61 : decode cX6_planRefusal 61 = .ok (.ifCond .eq 7, 3) := by decide +kernel
theorem dX6_planRefusal_64 : decode cX6_planRefusal 64 = .ok (.iconst 0, 1) := by decide +kernel
theorem dX6_planRefusal_65 : decode cX6_planRefusal 65 = .ok (.goto 4, 3) := by decide +kernel
theorem dX6_planRefusal_68 : decode cX6_planRefusal 68 = .ok (.iconst (-1), 1) := by decide +kernel
theorem dX6_planRefusal_69 : decode cX6_planRefusal 69 = .ok (.ireturn, 1) := by decide +kernel
theorem dX6_planRefusal_70 : decode cX6_planRefusal 70 = .ok (.iload_n 2, 1) := by decide +kernel
theorem dX6_planRefusal_71 : decode cX6_planRefusal 71 = .ok (.ifCond .lt 9, 3) := by decide +kernel
theorem dX6_planRefusal_74 : decode cX6_planRefusal 74 = .ok (.iload_n 2, 1) := by decide +kernel
theorem dX6_planRefusal_75 : decode cX6_planRefusal 75 = .ok (.bipush 20, 2) := by decide +kernel
theorem dX6_planRefusal_77 : decode cX6_planRefusal 77 = .ok (.if_icmp .le 8, 3) := by decide +kernel
theorem dX6_planRefusal_80 : decode cX6_planRefusal 80 = .ok (.bipush (-2), 2) := by decide +kernel
theorem dX6_planRefusal_82 : decode cX6_planRefusal 82 = .ok (.goto 4, 3) := by decide +kernel
theorem dX6_planRefusal_85 : decode cX6_planRefusal 85 = .ok (.iconst 0, 1) := by decide +kernel
theorem dX6_planRefusal_86 : decode cX6_planRefusal 86 = .ok (.ireturn, 1) := by decide +kernel
theorem dX6_planRefusal_87 : decode cX6_planRefusal 87 = .ok (.iconst (-1), 1) := by decide +kernel
theorem dX6_planRefusal_88 : decode cX6_planRefusal 88 = .ok (.ireturn, 1) := by decide +kernel
theorem dX6_fractionPart_0 : decode cX6_fractionPart 0 = .ok (.iload_n 1, 1) := by decide +kernel
theorem dX6_fractionPart_1 : decode cX6_fractionPart 1 = .ok (.ifCond .le 12, 3) := by decide +kernel
theorem dX6_fractionPart_4 : decode cX6_fractionPart 4 = .ok (.iload_n 2, 1) := by decide +kernel
theorem dX6_fractionPart_5 : decode cX6_fractionPart 5 = .ok (.ifCond .lt 8, 3) := by decide +kernel
theorem dX6_fractionPart_8 : decode cX6_fractionPart 8 = .ok (.iload_n 2, 1) := by decide +kernel
theorem dX6_fractionPart_9 : decode cX6_fractionPart 9 = .ok (.iconst 1, 1) := by decide +kernel
theorem dX6_fractionPart_10 : decode cX6_fractionPart 10 = .ok (.if_icmp .le 7, 3) := by decide +kernel
theorem dX6_fractionPart_13 : decode cX6_fractionPart 13 = .ok (.ldc2_w 173, 3) := by decide +kernel
theorem dX6_fractionPart_16 : decode cX6_fractionPart 16 = .ok (.lreturn, 1) := by decide +kernel
theorem dX6_fractionPart_17 : decode cX6_fractionPart 17 = .ok (.iload_n 0, 1) := by decide +kernel
theorem dX6_fractionPart_18 : decode cX6_fractionPart 18 = .ok (.iload_n 1, 1) := by decide +kernel
theorem dX6_fractionPart_19 : decode cX6_fractionPart 19 = .ok (.invokestatic 268, 3) := by decide +kernel
theorem dX6_fractionPart_22 : decode cX6_fractionPart 22 = .ok (.istore_n 3, 1) := by decide +kernel
theorem dX6_fractionPart_23 : decode cX6_fractionPart 23 = .ok (.iload_n 2, 1) := by decide +kernel
theorem dX6_fractionPart_24 : decode cX6_fractionPart 24 = .ok (.ifCond .ne 7, 3) := by decide +kernel
theorem dX6_fractionPart_27 : decode cX6_fractionPart 27 = .ok (.iload_n 0, 1) := by decide +kernel
theorem dX6_fractionPart_28 : decode cX6_fractionPart 28 = .ok (.goto 4, 3) := by decide +kernel
theorem dX6_fractionPart_31 : decode cX6_fractionPart 31 = .ok (.iload_n 1, 1) := by decide +kernel
theorem dX6_fractionPart_32 : decode cX6_fractionPart 32 = .ok (.istore 4, 2) := by decide +kernel
theorem dX6_fractionPart_34 : decode cX6_fractionPart 34 = .ok (.iload_n 3, 1) := by decide +kernel
theorem dX6_fractionPart_35 : decode cX6_fractionPart 35 = .ok (.ifCond .gt 9, 3) := by decide +kernel
theorem dX6_fractionPart_38 : decode cX6_fractionPart 38 = .ok (.ldc2_w 173, 3) := by decide +kernel
theorem dX6_fractionPart_41 : decode cX6_fractionPart 41 = .ok (.goto 8, 3) := by decide +kernel
theorem dX6_fractionPart_44 : decode cX6_fractionPart 44 = .ok (.iload 4, 2) := by decide +kernel
theorem dX6_fractionPart_46 : decode cX6_fractionPart 46 = .ok (.iload_n 3, 1) := by decide +kernel
theorem dX6_fractionPart_47 : decode cX6_fractionPart 47 = .ok (.idiv, 1) := by decide +kernel
theorem dX6_fractionPart_48 : decode cX6_fractionPart 48 = .ok (.i2l, 1) := by decide +kernel
theorem dX6_fractionPart_49 : decode cX6_fractionPart 49 = .ok (.lreturn, 1) := by decide +kernel
theorem dX6_commonDivisor_0 : decode cX6_commonDivisor 0 = .ok (.iload_n 0, 1) := by decide +kernel
theorem dX6_commonDivisor_1 : decode cX6_commonDivisor 1 = .ok (.istore_n 2, 1) := by decide +kernel
theorem dX6_commonDivisor_2 : decode cX6_commonDivisor 2 = .ok (.iload_n 1, 1) := by decide +kernel
theorem dX6_commonDivisor_3 : decode cX6_commonDivisor 3 = .ok (.istore_n 3, 1) := by decide +kernel
theorem dX6_commonDivisor_4 : decode cX6_commonDivisor 4 = .ok (.iconst 0, 1) := by decide +kernel
theorem dX6_commonDivisor_5 : decode cX6_commonDivisor 5 = .ok (.istore 4, 2) := by decide +kernel
theorem dX6_commonDivisor_7 : decode cX6_commonDivisor 7 = .ok (.iload 4, 2) := by decide +kernel
theorem dX6_commonDivisor_9 : decode cX6_commonDivisor 9 = .ok (.bipush 100, 2) := by decide +kernel
theorem dX6_commonDivisor_11 : decode cX6_commonDivisor 11 = .ok (.if_icmp .ge 23, 3) := by decide +kernel
theorem dX6_commonDivisor_14 : decode cX6_commonDivisor 14 = .ok (.iload_n 3, 1) := by decide +kernel
theorem dX6_commonDivisor_15 : decode cX6_commonDivisor 15 = .ok (.ifCond .eq 19, 3) := by decide +kernel
theorem dX6_commonDivisor_18 : decode cX6_commonDivisor 18 = .ok (.iload_n 2, 1) := by decide +kernel
theorem dX6_commonDivisor_19 : decode cX6_commonDivisor 19 = .ok (.iload_n 3, 1) := by decide +kernel
theorem dX6_commonDivisor_20 : decode cX6_commonDivisor 20 = .ok (.irem, 1) := by decide +kernel
theorem dX6_commonDivisor_21 : decode cX6_commonDivisor 21 = .ok (.istore 5, 2) := by decide +kernel
theorem dX6_commonDivisor_23 : decode cX6_commonDivisor 23 = .ok (.iload_n 3, 1) := by decide +kernel
theorem dX6_commonDivisor_24 : decode cX6_commonDivisor 24 = .ok (.istore_n 2, 1) := by decide +kernel
theorem dX6_commonDivisor_25 : decode cX6_commonDivisor 25 = .ok (.iload 5, 2) := by decide +kernel
theorem dX6_commonDivisor_27 : decode cX6_commonDivisor 27 = .ok (.istore_n 3, 1) := by decide +kernel
theorem dX6_commonDivisor_28 : decode cX6_commonDivisor 28 = .ok (.iinc 4 1, 3) := by decide +kernel
theorem dX6_commonDivisor_31 : decode cX6_commonDivisor 31 = .ok (.goto (-24), 3) := by decide +kernel
theorem dX6_commonDivisor_34 : decode cX6_commonDivisor 34 = .ok (.iload_n 2, 1) := by decide +kernel
theorem dX6_commonDivisor_35 : decode cX6_commonDivisor 35 = .ok (.ireturn, 1) := by decide +kernel
theorem dX7_in_0 : decode cX7_in 0 = .ok (.lload_n 0, 1) := by decide +kernel
theorem dX7_in_1 : decode cX7_in 1 = .ok (.lload_n 2, 1) := by decide +kernel
theorem dX7_in_2 : decode cX7_in 2 = .ok (.lcmp, 1) := by decide +kernel
theorem dX7_in_3 : decode cX7_in 3 = .ok (.ifCond .lt 14, 3) := by decide +kernel
theorem dX7_in_6 : decode cX7_in 6 = .ok (.lload_n 0, 1) := by decide +kernel
theorem dX7_in_7 : decode cX7_in 7 = .ok (.lload 4, 2) := by decide +kernel
theorem dX7_in_9 : decode cX7_in 9 = .ok (.lcmp, 1) := by decide +kernel
theorem dX7_in_10 : decode cX7_in 10 = .ok (.ifCond .gt 7, 3) := by decide +kernel
theorem dX7_in_13 : decode cX7_in 13 = .ok (.iconst 1, 1) := by decide +kernel
theorem dX7_in_14 : decode cX7_in 14 = .ok (.goto 4, 3) := by decide +kernel
theorem dX7_in_17 : decode cX7_in 17 = .ok (.iconst 0, 1) := by decide +kernel
theorem dX7_in_18 : decode cX7_in 18 = .ok (.ireturn, 1) := by decide +kernel
theorem dX7_init_0 : decode cX7_init 0 = .ok (.aload_n 0, 1) := by decide +kernel
theorem dX7_init_1 : decode cX7_init 1 = .ok (.invokespecial 9, 3) := by decide +kernel
theorem dX7_init_4 : decode cX7_init 4 = .ok (.aload_n 0, 1) := by decide +kernel
theorem dX7_init_5 : decode cX7_init 5 = .ok (.bipush 85, 2) := by decide +kernel
theorem dX7_init_7 : decode cX7_init 7 = .ok (.newarray .int, 2) := by decide +kernel
theorem dX7_init_9 : decode cX7_init 9 = .ok (.putfield 15, 3) := by decide +kernel
theorem dX7_init_12 : decode cX7_init 12 = .ok (.aload_n 0, 1) := by decide +kernel
theorem dX7_init_13 : decode cX7_init 13 = .ok (.bipush 85, 2) := by decide +kernel
theorem dX7_init_15 : decode cX7_init 15 = .ok (.newarray .int, 2) := by decide +kernel
theorem dX7_init_17 : decode cX7_init 17 = .ok (.putfield 19, 3) := by decide +kernel
theorem dX7_init_20 : decode cX7_init 20 = .ok (.aload_n 0, 1) := by decide +kernel
theorem dX7_init_21 : decode cX7_init 21 = .ok (.bipush 85, 2) := by decide +kernel
theorem dX7_init_23 : decode cX7_init 23 = .ok (.newarray .int, 2) := by decide +kernel
theorem dX7_init_25 : decode cX7_init 25 = .ok (.putfield 22, 3) := by decide +kernel
theorem dX7_init_28 : decode cX7_init 28 = .ok (.aload_n 0, 1) := by decide +kernel
theorem dX7_init_29 : decode cX7_init 29 = .ok (.bipush 6, 2) := by decide +kernel
theorem dX7_init_31 : decode cX7_init 31 = .ok (.newarray .int, 2) := by decide +kernel
theorem dX7_init_33 : decode cX7_init 33 = .ok (.putfield 25, 3) := by decide +kernel
theorem dX7_init_36 : decode cX7_init 36 = .ok (.aload_n 0, 1) := by decide +kernel
theorem dX7_init_37 : decode cX7_init 37 = .ok (.bipush 6, 2) := by decide +kernel
theorem dX7_init_39 : decode cX7_init 39 = .ok (.newarray .int, 2) := by decide +kernel
theorem dX7_init_41 : decode cX7_init 41 = .ok (.putfield 28, 3) := by decide +kernel
theorem dX7_init_44 : decode cX7_init 44 = .ok (.aload_n 0, 1) := by decide +kernel
theorem dX7_init_45 : decode cX7_init 45 = .ok (.bipush 6, 2) := by decide +kernel
theorem dX7_init_47 : decode cX7_init 47 = .ok (.newarray .int, 2) := by decide +kernel
theorem dX7_init_49 : decode cX7_init 49 = .ok (.putfield 31, 3) := by decide +kernel
theorem dX7_init_52 : decode cX7_init 52 = .ok (.aload_n 0, 1) := by decide +kernel
theorem dX7_init_53 : decode cX7_init 53 = .ok (.bipush 6, 2) := by decide +kernel
theorem dX7_init_55 : decode cX7_init 55 = .ok (.newarray .int, 2) := by decide +kernel
theorem dX7_init_57 : decode cX7_init 57 = .ok (.putfield 34, 3) := by decide +kernel
theorem dX7_init_60 : decode cX7_init 60 = .ok (.aload_n 0, 1) := by decide +kernel
theorem dX7_init_61 : decode cX7_init 61 = .ok (.bipush 6, 2) := by decide +kernel
theorem dX7_init_63 : decode cX7_init 63 = .ok (.newarray .int, 2) := by decide +kernel
theorem dX7_init_65 : decode cX7_init 65 = .ok (.putfield 37, 3) := by decide +kernel
theorem dX7_init_68 : decode cX7_init 68 = .ok (.aload_n 0, 1) := by decide +kernel
theorem dX7_init_69 : decode cX7_init 69 = .ok (.bipush 6, 2) := by decide +kernel
theorem dX7_init_71 : decode cX7_init 71 = .ok (.newarray .int, 2) := by decide +kernel
theorem dX7_init_73 : decode cX7_init 73 = .ok (.putfield 40, 3) := by decide +kernel
theorem dX7_init_76 : decode cX7_init 76 = .ok (.aload_n 0, 1) := by decide +kernel
theorem dX7_init_77 : decode cX7_init 77 = .ok (.bipush 6, 2) := by decide +kernel
theorem dX7_init_79 : decode cX7_init 79 = .ok (.newarray .int, 2) := by decide +kernel
theorem dX7_init_81 : decode cX7_init 81 = .ok (.putfield 43, 3) := by decide +kernel
theorem dX7_init_84 : decode cX7_init 84 = .ok (.aload_n 0, 1) := by decide +kernel
theorem dX7_init_85 : decode cX7_init 85 = .ok (.bipush 6, 2) := by decide +kernel
theorem dX7_init_87 : decode cX7_init 87 = .ok (.newarray .int, 2) := by decide +kernel
theorem dX7_init_89 : decode cX7_init 89 = .ok (.putfield 46, 3) := by decide +kernel
theorem dX7_init_92 : decode cX7_init 92 = .ok (.aload_n 0, 1) := by decide +kernel
theorem dX7_init_93 : decode cX7_init 93 = .ok (.bipush 100, 2) := by decide +kernel
theorem dX7_init_95 : decode cX7_init 95 = .ok (.newarray .int, 2) := by decide +kernel
theorem dX7_init_97 : decode cX7_init 97 = .ok (.putfield 49, 3) := by decide +kernel
theorem dX7_init_100 : decode cX7_init 100 = .ok (.aload_n 0, 1) := by decide +kernel
theorem dX7_init_101 : decode cX7_init 101 = .ok (.bipush 12, 2) := by decide +kernel
theorem dX7_init_103 : decode cX7_init 103 = .ok (.newarray .int, 2) := by decide +kernel
theorem dX7_init_105 : decode cX7_init 105 = .ok (.putfield 52, 3) := by decide +kernel
theorem dX7_init_108 : decode cX7_init 108 = .ok (.aload_n 0, 1) := by decide +kernel
theorem dX7_init_109 : decode cX7_init 109 = .ok (.bipush 12, 2) := by decide +kernel
theorem dX7_init_111 : decode cX7_init 111 = .ok (.newarray .int, 2) := by decide +kernel
theorem dX7_init_113 : decode cX7_init 113 = .ok (.putfield 55, 3) := by decide +kernel
theorem dX7_init_116 : decode cX7_init 116 = .ok (.aload_n 0, 1) := by decide +kernel
theorem dX7_init_117 : decode cX7_init 117 = .ok (.bipush 12, 2) := by decide +kernel
theorem dX7_init_119 : decode cX7_init 119 = .ok (.newarray .int, 2) := by decide +kernel
theorem dX7_init_121 : decode cX7_init 121 = .ok (.putfield 58, 3) := by decide +kernel
theorem dX7_init_124 : decode cX7_init 124 = .ok (.aload_n 0, 1) := by decide +kernel
theorem dX7_init_125 : decode cX7_init 125 = .ok (.bipush 12, 2) := by decide +kernel
theorem dX7_init_127 : decode cX7_init 127 = .ok (.newarray .int, 2) := by decide +kernel
theorem dX7_init_129 : decode cX7_init 129 = .ok (.putfield 61, 3) := by decide +kernel
theorem dX7_init_132 : decode cX7_init 132 = .ok (.aload_n 0, 1) := by decide +kernel
theorem dX7_init_133 : decode cX7_init 133 = .ok (.iconst 3, 1) := by decide +kernel
theorem dX7_init_134 : decode cX7_init 134 = .ok (.newarray .int, 2) := by decide +kernel
theorem dX7_init_136 : decode cX7_init 136 = .ok (.putfield 64, 3) := by decide +kernel
theorem dX7_init_139 : decode cX7_init 139 = .ok (.aload_n 0, 1) := by decide +kernel
theorem dX7_init_140 : decode cX7_init 140 = .ok (.bipush 6, 2) := by decide +kernel
theorem dX7_init_142 : decode cX7_init 142 = .ok (.newarray .int, 2) := by decide +kernel
theorem dX7_init_144 : decode cX7_init 144 = .ok (.putfield 67, 3) := by decide +kernel
theorem dX7_init_147 : decode cX7_init 147 = .ok (.aload_n 0, 1) := by decide +kernel
theorem dX7_init_148 : decode cX7_init 148 = .ok (.bipush 6, 2) := by decide +kernel
theorem dX7_init_150 : decode cX7_init 150 = .ok (.newarray .int, 2) := by decide +kernel
theorem dX7_init_152 : decode cX7_init 152 = .ok (.dup, 1) := by decide +kernel
theorem dX7_init_153 : decode cX7_init 153 = .ok (.iconst 0, 1) := by decide +kernel
theorem dX7_init_154 : decode cX7_init 154 = .ok (.iconst (-1), 1) := by decide +kernel
theorem dX7_init_155 : decode cX7_init 155 = .ok (.iastore, 1) := by decide +kernel
theorem dX7_init_156 : decode cX7_init 156 = .ok (.dup, 1) := by decide +kernel
theorem dX7_init_157 : decode cX7_init 157 = .ok (.iconst 1, 1) := by decide +kernel
theorem dX7_init_158 : decode cX7_init 158 = .ok (.iconst (-1), 1) := by decide +kernel
theorem dX7_init_159 : decode cX7_init 159 = .ok (.iastore, 1) := by decide +kernel
theorem dX7_init_160 : decode cX7_init 160 = .ok (.dup, 1) := by decide +kernel
theorem dX7_init_161 : decode cX7_init 161 = .ok (.iconst 2, 1) := by decide +kernel
theorem dX7_init_162 : decode cX7_init 162 = .ok (.iconst (-1), 1) := by decide +kernel
theorem dX7_init_163 : decode cX7_init 163 = .ok (.iastore, 1) := by decide +kernel
theorem dX7_init_164 : decode cX7_init 164 = .ok (.dup, 1) := by decide +kernel
theorem dX7_init_165 : decode cX7_init 165 = .ok (.iconst 3, 1) := by decide +kernel
theorem dX7_init_166 : decode cX7_init 166 = .ok (.iconst (-1), 1) := by decide +kernel
theorem dX7_init_167 : decode cX7_init 167 = .ok (.iastore, 1) := by decide +kernel
theorem dX7_init_168 : decode cX7_init 168 = .ok (.dup, 1) := by decide +kernel
theorem dX7_init_169 : decode cX7_init 169 = .ok (.iconst 4, 1) := by decide +kernel
theorem dX7_init_170 : decode cX7_init 170 = .ok (.iconst (-1), 1) := by decide +kernel
theorem dX7_init_171 : decode cX7_init 171 = .ok (.iastore, 1) := by decide +kernel
theorem dX7_init_172 : decode cX7_init 172 = .ok (.dup, 1) := by decide +kernel
theorem dX7_init_173 : decode cX7_init 173 = .ok (.iconst 5, 1) := by decide +kernel
theorem dX7_init_174 : decode cX7_init 174 = .ok (.iconst (-1), 1) := by decide +kernel
theorem dX7_init_175 : decode cX7_init 175 = .ok (.iastore, 1) := by decide +kernel
theorem dX7_init_176 : decode cX7_init 176 = .ok (.putfield 70, 3) := by decide +kernel
theorem dX7_init_179 : decode cX7_init 179 = .ok (.aload_n 0, 1) := by decide +kernel
theorem dX7_init_180 : decode cX7_init 180 = .ok (.bipush 6, 2) := by decide +kernel
theorem dX7_init_182 : decode cX7_init 182 = .ok (.newarray .int, 2) := by decide +kernel
theorem dX7_init_184 : decode cX7_init 184 = .ok (.putfield 73, 3) := by decide +kernel
theorem dX7_init_187 : decode cX7_init 187 = .ok (.aload_n 0, 1) := by decide +kernel
theorem dX7_init_188 : decode cX7_init 188 = .ok (.sipush 360, 3) := by decide +kernel
theorem dX7_init_191 : decode cX7_init 191 = .ok (.newarray .long, 2) := by decide +kernel
theorem dX7_init_193 : decode cX7_init 193 = .ok (.putfield 76, 3) := by decide +kernel
theorem dX7_init_196 : decode cX7_init 196 = .ok (.return_, 1) := by decide +kernel
theorem dX7_copies_0 : decode cX7_copies 0 = .ok (.iconst 0, 1) := by decide +kernel
theorem dX7_copies_1 : decode cX7_copies 1 = .ok (.istore_n 2, 1) := by decide +kernel
theorem dX7_copies_2 : decode cX7_copies 2 = .ok (.iload_n 2, 1) := by decide +kernel
theorem dX7_copies_3 : decode cX7_copies 3 = .ok (.bipush 85, 2) := by decide +kernel
theorem dX7_copies_5 : decode cX7_copies 5 = .ok (.if_icmp .ge 15, 3) := by decide +kernel
theorem dX7_copies_8 : decode cX7_copies 8 = .ok (.aload_n 1, 1) := by decide +kernel
theorem dX7_copies_9 : decode cX7_copies 9 = .ok (.iload_n 2, 1) := by decide +kernel
theorem dX7_copies_10 : decode cX7_copies 10 = .ok (.aload_n 0, 1) := by decide +kernel
theorem dX7_copies_11 : decode cX7_copies 11 = .ok (.iload_n 2, 1) := by decide +kernel
theorem dX7_copies_12 : decode cX7_copies 12 = .ok (.iaload, 1) := by decide +kernel
theorem dX7_copies_13 : decode cX7_copies 13 = .ok (.iastore, 1) := by decide +kernel
theorem dX7_copies_14 : decode cX7_copies 14 = .ok (.iinc 2 1, 3) := by decide +kernel
theorem dX7_copies_17 : decode cX7_copies 17 = .ok (.goto (-15), 3) := by decide +kernel
theorem dX7_copies_20 : decode cX7_copies 20 = .ok (.return_, 1) := by decide +kernel
theorem dX7_isOne_0 : decode cX7_isOne 0 = .ok (.iload_n 1, 1) := by decide +kernel
theorem dX7_isOne_1 : decode cX7_isOne 1 = .ok (.i2l, 1) := by decide +kernel
theorem dX7_isOne_2 : decode cX7_isOne 2 = .ok (.lconst 0, 1) := by decide +kernel
theorem dX7_isOne_3 : decode cX7_isOne 3 = .ok (.aload_n 0, 1) := by decide +kernel
theorem dX7_isOne_4 : decode cX7_isOne 4 = .ok (.getfield 15, 3) := by decide +kernel
theorem dX7_isOne_7 : decode cX7_isOne 7 = .ok (.iconst 0, 1) := by decide +kernel
theorem dX7_isOne_8 : decode cX7_isOne 8 = .ok (.iaload, 1) := by decide +kernel
theorem dX7_isOne_9 : decode cX7_isOne 9 = .ok (.iconst 1, 1) := by decide +kernel
theorem dX7_isOne_10 : decode cX7_isOne 10 = .ok (.isub, 1) := by decide +kernel
theorem dX7_isOne_11 : decode cX7_isOne 11 = .ok (.i2l, 1) := by decide +kernel
theorem dX7_isOne_12 : decode cX7_isOne 12 = .ok (.invokestatic 80, 3) := by decide +kernel
theorem dX7_isOne_15 : decode cX7_isOne 15 = .ok (.ireturn, 1) := by decide +kernel
theorem dX7_bits_0 : decode cX7_bits 0 = .ok (.iconst 0, 1) := by decide +kernel
theorem dX7_bits_1 : decode cX7_bits 1 = .ok (.istore_n 1, 1) := by decide +kernel
theorem dX7_bits_2 : decode cX7_bits 2 = .ok (.iload_n 0, 1) := by decide +kernel
theorem dX7_bits_3 : decode cX7_bits 3 = .ok (.istore_n 2, 1) := by decide +kernel
theorem dX7_bits_4 : decode cX7_bits 4 = .ok (.iload_n 2, 1) := by decide +kernel
theorem dX7_bits_5 : decode cX7_bits 5 = .ok (.ifCond .eq 15, 3) := by decide +kernel
theorem dX7_bits_8 : decode cX7_bits 8 = .ok (.iinc 1 1, 3) := by decide +kernel
theorem dX7_bits_11 : decode cX7_bits 11 = .ok (.iload_n 2, 1) := by decide +kernel
theorem dX7_bits_12 : decode cX7_bits 12 = .ok (.iload_n 2, 1) := by decide +kernel
theorem dX7_bits_13 : decode cX7_bits 13 = .ok (.iconst 1, 1) := by decide +kernel
theorem dX7_bits_14 : decode cX7_bits 14 = .ok (.isub, 1) := by decide +kernel
theorem dX7_bits_15 : decode cX7_bits 15 = .ok (.iand, 1) := by decide +kernel
theorem dX7_bits_16 : decode cX7_bits 16 = .ok (.istore_n 2, 1) := by decide +kernel
theorem dX7_bits_17 : decode cX7_bits 17 = .ok (.goto (-13), 3) := by decide +kernel
theorem dX7_bits_20 : decode cX7_bits 20 = .ok (.iload_n 1, 1) := by decide +kernel
theorem dX7_bits_21 : decode cX7_bits 21 = .ok (.ireturn, 1) := by decide +kernel
theorem dX7_has_0 : decode cX7_has 0 = .ok (.iload_n 0, 1) := by decide +kernel
theorem dX7_has_1 : decode cX7_has 1 = .ok (.iload_n 1, 1) := by decide +kernel
theorem dX7_has_2 : decode cX7_has 2 = .ok (.ishr, 1) := by decide +kernel
theorem dX7_has_3 : decode cX7_has 3 = .ok (.iconst 1, 1) := by decide +kernel
theorem dX7_has_4 : decode cX7_has 4 = .ok (.iand, 1) := by decide +kernel
theorem dX7_has_5 : decode cX7_has 5 = .ok (.iconst 1, 1) := by decide +kernel
theorem dX7_has_6 : decode cX7_has 6 = .ok (.if_icmp .ne 7, 3) := by decide +kernel
theorem dX7_has_9 : decode cX7_has 9 = .ok (.iconst 1, 1) := by decide +kernel
theorem dX7_has_10 : decode cX7_has 10 = .ok (.goto 4, 3) := by decide +kernel
theorem dX7_has_13 : decode cX7_has 13 = .ok (.iconst 0, 1) := by decide +kernel
theorem dX7_has_14 : decode cX7_has 14 = .ok (.ireturn, 1) := by decide +kernel
theorem dX7_contract_0 : decode cX7_contract 0 = .ok (.iload_n 1, 1) := by decide +kernel
theorem dX7_contract_1 : decode cX7_contract 1 = .ok (.i2l, 1) := by decide +kernel
theorem dX7_contract_2 : decode cX7_contract 2 = .ok (.lconst 0, 1) := by decide +kernel
theorem dX7_contract_3 : decode cX7_contract 3 = .ok (.ldc2_w 84, 3) := by decide +kernel
theorem dX7_contract_6 : decode cX7_contract 6 = .ok (.invokestatic 80, 3) := by decide +kernel
theorem dX7_contract_9 : decode cX7_contract 9 = .ok (.ifCond .eq 27, 3) := by decide +kernel
theorem dX7_contract_12 : decode cX7_contract 12 = .ok (.iload_n 2, 1) := by decide +kernel
theorem dX7_contract_13 : decode cX7_contract 13 = .ok (.i2l, 1) := by decide +kernel
theorem dX7_contract_14 : decode cX7_contract 14 = .ok (.lconst 0, 1) := by decide +kernel
theorem dX7_contract_15 : decode cX7_contract 15 = .ok (.ldc2_w 86, 3) := by decide +kernel
theorem dX7_contract_18 : decode cX7_contract 18 = .ok (.invokestatic 80, 3) := by decide +kernel
theorem dX7_contract_21 : decode cX7_contract 21 = .ok (.ifCond .eq 15, 3) := by decide +kernel
theorem dX7_contract_24 : decode cX7_contract 24 = .ok (.iload_n 3, 1) := by decide +kernel
theorem dX7_contract_25 : decode cX7_contract 25 = .ok (.i2l, 1) := by decide +kernel
theorem dX7_contract_26 : decode cX7_contract 26 = .ok (.lconst 0, 1) := by decide +kernel
theorem dX7_contract_27 : decode cX7_contract 27 = .ok (.ldc2_w 88, 3) := by decide +kernel
theorem dX7_contract_30 : decode cX7_contract 30 = .ok (.invokestatic 80, 3) := by decide +kernel
theorem dX7_contract_33 : decode cX7_contract 33 = .ok (.ifCond .ne 6, 3) := by decide +kernel
theorem dX7_contract_36 : decode cX7_contract 36 = .ok (.bipush (-2), 2) := by decide +kernel
theorem dX7_contract_38 : decode cX7_contract 38 = .ok (.ireturn, 1) := by decide +kernel
theorem dX7_contract_39 : decode cX7_contract 39 = .ok (.aload_n 0, 1) := by decide +kernel
theorem dX7_contract_40 : decode cX7_contract 40 = .ok (.getfield 15, 3) := by decide +kernel
theorem dX7_contract_43 : decode cX7_contract 43 = .ok (.iconst 0, 1) := by decide +kernel
theorem dX7_contract_44 : decode cX7_contract 44 = .ok (.iaload, 1) := by decide +kernel
theorem dX7_contract_45 : decode cX7_contract 45 = .ok (.bipush 6, 2) := by decide +kernel
theorem dX7_contract_47 : decode cX7_contract 47 = .ok (.if_icmp .ne 6, 3) := by decide +kernel
theorem dX7_contract_50 : decode cX7_contract 50 = .ok (.bipush (-4), 2) := by decide +kernel
theorem dX7_contract_52 : decode cX7_contract 52 = .ok (.ireturn, 1) := by decide +kernel
theorem dX7_contract_53 : decode cX7_contract 53 = .ok (.aload_n 0, 1) := by decide +kernel
theorem dX7_contract_54 : decode cX7_contract 54 = .ok (.getfield 15, 3) := by decide +kernel
theorem dX7_contract_57 : decode cX7_contract 57 = .ok (.iconst 0, 1) := by decide +kernel
theorem dX7_contract_58 : decode cX7_contract 58 = .ok (.iaload, 1) := by decide +kernel
theorem dX7_contract_59 : decode cX7_contract 59 = .ok (.istore 4, 2) := by decide +kernel
theorem dX7_contract_61 : decode cX7_contract 61 = .ok (.aload_n 0, 1) := by decide +kernel
theorem dX7_contract_62 : decode cX7_contract 62 = .ok (.getfield 15, 3) := by decide +kernel
theorem dX7_contract_65 : decode cX7_contract 65 = .ok (.iconst 5, 1) := by decide +kernel
theorem dX7_contract_66 : decode cX7_contract 66 = .ok (.iload 4, 2) := by decide +kernel
theorem dX7_contract_68 : decode cX7_contract 68 = .ok (.iadd, 1) := by decide +kernel
theorem dX7_contract_69 : decode cX7_contract 69 = .ok (.iload_n 1, 1) := by decide +kernel
theorem dX7_contract_70 : decode cX7_contract 70 = .ok (.iastore, 1) := by decide +kernel
theorem dX7_contract_71 : decode cX7_contract 71 = .ok (.aload_n 0, 1) := by decide +kernel
theorem dX7_contract_72 : decode cX7_contract 72 = .ok (.getfield 15, 3) := by decide +kernel
theorem dX7_contract_75 : decode cX7_contract 75 = .ok (.bipush 11, 2) := by decide +kernel
theorem dX7_contract_77 : decode cX7_contract 77 = .ok (.iload 4, 2) := by decide +kernel
theorem dX7_contract_79 : decode cX7_contract 79 = .ok (.iadd, 1) := by decide +kernel
theorem dX7_contract_80 : decode cX7_contract 80 = .ok (.iload_n 2, 1) := by decide +kernel
theorem dX7_contract_81 : decode cX7_contract 81 = .ok (.iastore, 1) := by decide +kernel
theorem dX7_contract_82 : decode cX7_contract 82 = .ok (.aload_n 0, 1) := by decide +kernel
theorem dX7_contract_83 : decode cX7_contract 83 = .ok (.getfield 15, 3) := by decide +kernel
theorem dX7_contract_86 : decode cX7_contract 86 = .ok (.bipush 17, 2) := by decide +kernel
theorem dX7_contract_88 : decode cX7_contract 88 = .ok (.iload 4, 2) := by decide +kernel
theorem dX7_contract_90 : decode cX7_contract 90 = .ok (.iadd, 1) := by decide +kernel
theorem dX7_contract_91 : decode cX7_contract 91 = .ok (.iload_n 3, 1) := by decide +kernel
theorem dX7_contract_92 : decode cX7_contract 92 = .ok (.iastore, 1) := by decide +kernel
theorem dX7_contract_93 : decode cX7_contract 93 = .ok (.aload_n 0, 1) := by decide +kernel
theorem dX7_contract_94 : decode cX7_contract 94 = .ok (.getfield 15, 3) := by decide +kernel
theorem dX7_contract_97 : decode cX7_contract 97 = .ok (.bipush 23, 2) := by decide +kernel
theorem dX7_contract_99 : decode cX7_contract 99 = .ok (.iload 4, 2) := by decide +kernel
theorem dX7_contract_101 : decode cX7_contract 101 = .ok (.iadd, 1) := by decide +kernel
theorem dX7_contract_102 : decode cX7_contract 102 = .ok (.bipush 100, 2) := by decide +kernel
theorem dX7_contract_104 : decode cX7_contract 104 = .ok (.iastore, 1) := by decide +kernel
theorem dX7_contract_105 : decode cX7_contract 105 = .ok (.aload_n 0, 1) := by decide +kernel
theorem dX7_contract_106 : decode cX7_contract 106 = .ok (.getfield 15, 3) := by decide +kernel
theorem dX7_contract_109 : decode cX7_contract 109 = .ok (.bipush 29, 2) := by decide +kernel
theorem dX7_contract_111 : decode cX7_contract 111 = .ok (.iload 4, 2) := by decide +kernel
theorem dX7_contract_113 : decode cX7_contract 113 = .ok (.iadd, 1) := by decide +kernel
theorem dX7_contract_114 : decode cX7_contract 114 = .ok (.iconst 0, 1) := by decide +kernel
theorem dX7_contract_115 : decode cX7_contract 115 = .ok (.iastore, 1) := by decide +kernel
theorem dX7_contract_116 : decode cX7_contract 116 = .ok (.aload_n 0, 1) := by decide +kernel
theorem dX7_contract_117 : decode cX7_contract 117 = .ok (.getfield 15, 3) := by decide +kernel
theorem dX7_contract_120 : decode cX7_contract 120 = .ok (.iconst 0, 1) := by decide +kernel
theorem dX7_contract_121 : decode cX7_contract 121 = .ok (.dup2, 1) := by decide +kernel
theorem dX7_contract_122 : decode cX7_contract 122 = .ok (.iaload, 1) := by decide +kernel
theorem dX7_contract_123 : decode cX7_contract 123 = .ok (.iconst 1, 1) := by decide +kernel
theorem dX7_contract_124 : decode cX7_contract 124 = .ok (.iadd, 1) := by decide +kernel
theorem dX7_contract_125 : decode cX7_contract 125 = .ok (.iastore, 1) := by decide +kernel
theorem dX7_contract_126 : decode cX7_contract 126 = .ok (.iload 4, 2) := by decide +kernel
theorem dX7_contract_128 : decode cX7_contract 128 = .ok (.ireturn, 1) := by decide +kernel
theorem dX7_may_0 : decode cX7_may 0 = .ok (.iload_n 0, 1) := by decide +kernel
theorem dX7_may_1 : decode cX7_may 1 = .ok (.ifCond .ne 13, 3) := by decide +kernel
theorem dX7_may_4 : decode cX7_may 4 = .ok (.iload_n 1, 1) := by decide +kernel
theorem dX7_may_5 : decode cX7_may 5 = .ok (.i2l, 1) := by decide +kernel
theorem dX7_may_6 : decode cX7_may 6 = .ok (.lconst 0, 1) := by decide +kernel
theorem dX7_may_7 : decode cX7_may 7 = .ok (.ldc2_w 84, 3) := by decide +kernel
theorem dX7_may_10 : decode cX7_may 10 = .ok (.invokestatic 80, 3) := by decide +kernel
theorem dX7_may_13 : decode cX7_may 13 = .ok (.ireturn, 1) := by decide +kernel
theorem dX7_may_14 : decode cX7_may 14 = .ok (.iload_n 0, 1) := by decide +kernel
theorem dX7_may_15 : decode cX7_may 15 = .ok (.iconst 1, 1) := by decide +kernel
theorem dX7_may_16 : decode cX7_may 16 = .ok (.if_icmp .ne 13, 3) := by decide +kernel
theorem dX7_may_19 : decode cX7_may 19 = .ok (.iload_n 1, 1) := by decide +kernel
theorem dX7_may_20 : decode cX7_may 20 = .ok (.i2l, 1) := by decide +kernel
theorem dX7_may_21 : decode cX7_may 21 = .ok (.lconst 0, 1) := by decide +kernel
theorem dX7_may_22 : decode cX7_may 22 = .ok (.ldc2_w 86, 3) := by decide +kernel
theorem dX7_may_25 : decode cX7_may 25 = .ok (.invokestatic 80, 3) := by decide +kernel
theorem dX7_may_28 : decode cX7_may 28 = .ok (.ireturn, 1) := by decide +kernel
theorem dX7_may_29 : decode cX7_may 29 = .ok (.iload_n 0, 1) := by decide +kernel
theorem dX7_may_30 : decode cX7_may 30 = .ok (.iconst 2, 1) := by decide +kernel
theorem dX7_may_31 : decode cX7_may 31 = .ok (.if_icmp .ne 15, 3) := by decide +kernel
theorem dX7_may_34 : decode cX7_may 34 = .ok (.iload_n 1, 1) := by decide +kernel
theorem dX7_may_35 : decode cX7_may 35 = .ok (.i2l, 1) := by decide +kernel
theorem dX7_may_36 : decode cX7_may 36 = .ok (.lconst 0, 1) := by decide +kernel
theorem dX7_may_37 : decode cX7_may 37 = .ok (.ldc2_w 88, 3) := by decide +kernel
theorem dX7_may_40 : decode cX7_may 40 = .ok (.invokestatic 80, 3) := by decide +kernel
theorem dX7_may_43 : decode cX7_may 43 = .ok (.goto 12, 3) := by decide +kernel
theorem dX7_may_46 : decode cX7_may 46 = .ok (.iload_n 1, 1) := by decide +kernel
theorem dX7_may_47 : decode cX7_may 47 = .ok (.i2l, 1) := by decide +kernel
theorem dX7_may_48 : decode cX7_may 48 = .ok (.lconst 1, 1) := by decide +kernel
theorem dX7_may_49 : decode cX7_may 49 = .ok (.ldc2_w 90, 3) := by decide +kernel
theorem dX7_may_52 : decode cX7_may 52 = .ok (.invokestatic 80, 3) := by decide +kernel
theorem dX7_may_55 : decode cX7_may 55 = .ok (.ireturn, 1) := by decide +kernel
theorem dX7_renew_0 : decode cX7_renew 0 = .ok (.aload_n 0, 1) := by decide +kernel
theorem dX7_renew_1 : decode cX7_renew 1 = .ok (.iload_n 1, 1) := by decide +kernel
theorem dX7_renew_2 : decode cX7_renew 2 = .ok (.invokevirtual 92, 3) := by decide +kernel
theorem dX7_renew_5 : decode cX7_renew 5 = .ok (.ifCond .eq 15, 3) := by decide +kernel
theorem dX7_renew_8 : decode cX7_renew 8 = .ok (.iload_n 2, 1) := by decide +kernel
theorem dX7_renew_9 : decode cX7_renew 9 = .ok (.i2l, 1) := by decide +kernel
theorem dX7_renew_10 : decode cX7_renew 10 = .ok (.lconst 0, 1) := by decide +kernel
theorem dX7_renew_11 : decode cX7_renew 11 = .ok (.ldc2_w 84, 3) := by decide +kernel
theorem dX7_renew_14 : decode cX7_renew 14 = .ok (.invokestatic 80, 3) := by decide +kernel
theorem dX7_renew_17 : decode cX7_renew 17 = .ok (.ifCond .ne 5, 3) := by decide +kernel
theorem dX7_renew_20 : decode cX7_renew 20 = .ok (.iconst (-1), 1) := by decide +kernel
theorem dX7_renew_21 : decode cX7_renew 21 = .ok (.ireturn, 1) := by decide +kernel
theorem dX7_renew_22 : decode cX7_renew 22 = .ok (.iload_n 2, 1) := by decide +kernel
theorem dX7_renew_23 : decode cX7_renew 23 = .ok (.iload_n 3, 1) := by decide +kernel
theorem dX7_renew_24 : decode cX7_renew 24 = .ok (.invokestatic 96, 3) := by decide +kernel
theorem dX7_renew_27 : decode cX7_renew 27 = .ok (.ifCond .ne 6, 3) := by decide +kernel
theorem dX7_renew_30 : decode cX7_renew 30 = .ok (.bipush (-2), 2) := by decide +kernel
theorem dX7_renew_32 : decode cX7_renew 32 = .ok (.ireturn, 1) := by decide +kernel
theorem dX7_renew_33 : decode cX7_renew 33 = .ok (.iload_n 2, 1) := by decide +kernel
theorem dX7_renew_34 : decode cX7_renew 34 = .ok (.ifCond .ne 7, 3) := by decide +kernel
theorem dX7_renew_37 : decode cX7_renew 37 = .ok (.iconst 5, 1) := by decide +kernel
theorem dX7_renew_38 : decode cX7_renew 38 = .ok (.goto 25, 3) := by decide +kernel
theorem dX7_renew_41 : decode cX7_renew 41 = .ok (.iload_n 2, 1) := by decide +kernel
theorem dX7_renew_42 : decode cX7_renew 42 = .ok (.iconst 1, 1) := by decide +kernel
theorem dX7_renew_43 : decode cX7_renew 43 = .ok (.if_icmp .ne 8, 3) := by decide +kernel
theorem dX7_renew_46 : decode cX7_renew 46 = .ok (.bipush 11, 2) := by decide +kernel
theorem dX7_renew_48 : decode cX7_renew 48 = .ok (.goto 15, 3) := by decide +kernel
theorem dX7_renew_51 : decode cX7_renew 51 = .ok (.iload_n 2, 1) := by decide +kernel
theorem dX7_renew_52 : decode cX7_renew 52 = .ok (.iconst 2, 1) := by decide +kernel
theorem dX7_renew_53 : decode cX7_renew 53 = .ok (.if_icmp .ne 8, 3) := by decide +kernel
theorem dX7_renew_56 : decode cX7_renew 56 = .ok (.bipush 17, 2) := by decide +kernel
theorem dX7_renew_58 : decode cX7_renew 58 = .ok (.goto 5, 3) := by decide +kernel
theorem dX7_renew_61 : decode cX7_renew 61 = .ok (.bipush 23, 2) := by decide +kernel
theorem dX7_renew_63 : decode cX7_renew 63 = .ok (.iload_n 1, 1) := by decide +kernel
theorem dX7_renew_64 : decode cX7_renew 64 = .ok (.iadd, 1) := by decide +kernel
theorem dX7_renew_65 : decode cX7_renew 65 = .ok (.istore 4, 2) := by decide +kernel
theorem dX7_renew_67 : decode cX7_renew 67 = .ok (.aload_n 0, 1) := by decide +kernel
theorem dX7_renew_68 : decode cX7_renew 68 = .ok (.getfield 15, 3) := by decide +kernel
theorem dX7_renew_71 : decode cX7_renew 71 = .ok (.iload 4, 2) := by decide +kernel
theorem dX7_renew_73 : decode cX7_renew 73 = .ok (.iaload, 1) := by decide +kernel
theorem dX7_renew_74 : decode cX7_renew 74 = .ok (.istore 5, 2) := by decide +kernel
theorem dX7_renew_76 : decode cX7_renew 76 = .ok (.aload_n 0, 1) := by decide +kernel
theorem dX7_renew_77 : decode cX7_renew 77 = .ok (.getfield 15, 3) := by decide +kernel
theorem dX7_renew_80 : decode cX7_renew 80 = .ok (.iload 4, 2) := by decide +kernel
theorem dX7_renew_82 : decode cX7_renew 82 = .ok (.iload_n 3, 1) := by decide +kernel
theorem dX7_renew_83 : decode cX7_renew 83 = .ok (.iastore, 1) := by decide +kernel
theorem dX7_renew_84 : decode cX7_renew 84 = .ok (.iload 5, 2) := by decide +kernel
theorem dX7_renew_86 : decode cX7_renew 86 = .ok (.ireturn, 1) := by decide +kernel
theorem dX7_refer_0 : decode cX7_refer 0 = .ok (.aload_n 0, 1) := by decide +kernel
theorem dX7_refer_1 : decode cX7_refer 1 = .ok (.iload_n 1, 1) := by decide +kernel
theorem dX7_refer_2 : decode cX7_refer 2 = .ok (.invokevirtual 92, 3) := by decide +kernel
theorem dX7_refer_5 : decode cX7_refer 5 = .ok (.ifCond .eq 16, 3) := by decide +kernel
theorem dX7_refer_8 : decode cX7_refer 8 = .ok (.aload_n 0, 1) := by decide +kernel
theorem dX7_refer_9 : decode cX7_refer 9 = .ok (.iload_n 2, 1) := by decide +kernel
theorem dX7_refer_10 : decode cX7_refer 10 = .ok (.invokevirtual 92, 3) := by decide +kernel
theorem dX7_refer_13 : decode cX7_refer 13 = .ok (.ifCond .eq 8, 3) := by decide +kernel
theorem dX7_refer_16 : decode cX7_refer 16 = .ok (.iload_n 1, 1) := by decide +kernel
theorem dX7_refer_17 : decode cX7_refer 17 = .ok (.iload_n 2, 1) := by decide +kernel
theorem dX7_refer_18 : decode cX7_refer 18 = .ok (.if_icmp .ne 5, 3) := by decide +kernel
theorem dX7_refer_21 : decode cX7_refer 21 = .ok (.iconst (-1), 1) := by decide +kernel
theorem dX7_refer_22 : decode cX7_refer 22 = .ok (.ireturn, 1) := by decide +kernel
theorem dX7_refer_23 : decode cX7_refer 23 = .ok (.aload_n 0, 1) := by decide +kernel
theorem dX7_refer_24 : decode cX7_refer 24 = .ok (.getfield 15, 3) := by decide +kernel
theorem dX7_refer_27 : decode cX7_refer 27 = .ok (.bipush 29, 2) := by decide +kernel
theorem dX7_refer_29 : decode cX7_refer 29 = .ok (.iload_n 1, 1) := by decide +kernel
theorem dX7_refer_30 : decode cX7_refer 30 = .ok (.iadd, 1) := by decide +kernel
theorem dX7_refer_31 : decode cX7_refer 31 = .ok (.iaload, 1) := by decide +kernel
theorem dX7_refer_32 : decode cX7_refer 32 = .ok (.iload_n 2, 1) := by decide +kernel
theorem dX7_refer_33 : decode cX7_refer 33 = .ok (.ishr, 1) := by decide +kernel
theorem dX7_refer_34 : decode cX7_refer 34 = .ok (.iconst 1, 1) := by decide +kernel
theorem dX7_refer_35 : decode cX7_refer 35 = .ok (.iand, 1) := by decide +kernel
theorem dX7_refer_36 : decode cX7_refer 36 = .ok (.istore 4, 2) := by decide +kernel
theorem dX7_refer_38 : decode cX7_refer 38 = .ok (.aload_n 0, 1) := by decide +kernel
theorem dX7_refer_39 : decode cX7_refer 39 = .ok (.getfield 15, 3) := by decide +kernel
theorem dX7_refer_42 : decode cX7_refer 42 = .ok (.bipush 29, 2) := by decide +kernel
theorem dX7_refer_44 : decode cX7_refer 44 = .ok (.iload_n 1, 1) := by decide +kernel
theorem dX7_refer_45 : decode cX7_refer 45 = .ok (.iadd, 1) := by decide +kernel
theorem dX7_refer_46 : decode cX7_refer 46 = .ok (.aload_n 0, 1) := by decide +kernel
theorem dX7_refer_47 : decode cX7_refer 47 = .ok (.getfield 15, 3) := by decide +kernel
theorem dX7_refer_50 : decode cX7_refer 50 = .ok (.bipush 29, 2) := by decide +kernel
theorem dX7_refer_52 : decode cX7_refer 52 = .ok (.iload_n 1, 1) := by decide +kernel
theorem dX7_refer_53 : decode cX7_refer 53 = .ok (.iadd, 1) := by decide +kernel
theorem dX7_refer_54 : decode cX7_refer 54 = .ok (.iaload, 1) := by decide +kernel
theorem dX7_refer_55 : decode cX7_refer 55 = .ok (.iconst 1, 1) := by decide +kernel
theorem dX7_refer_56 : decode cX7_refer 56 = .ok (.iload_n 2, 1) := by decide +kernel
theorem dX7_refer_57 : decode cX7_refer 57 = .ok (.ishl, 1) := by decide +kernel
theorem dX7_refer_58 : decode cX7_refer 58 = .ok (.iconst (-1), 1) := by decide +kernel
theorem dX7_refer_59 : decode cX7_refer 59 = .ok (.ixor, 1) := by decide +kernel
theorem dX7_refer_60 : decode cX7_refer 60 = .ok (.iand, 1) := by decide +kernel
theorem dX7_refer_61 : decode cX7_refer 61 = .ok (.iload_n 3, 1) := by decide +kernel
theorem dX7_refer_62 : decode cX7_refer 62 = .ok (.ifCond .eq 9, 3) := by decide +kernel
theorem dX7_refer_65 : decode cX7_refer 65 = .ok (.iconst 1, 1) := by decide +kernel
theorem dX7_refer_66 : decode cX7_refer 66 = .ok (.iload_n 2, 1) := by decide +kernel
theorem dX7_refer_67 : decode cX7_refer 67 = .ok (.ishl, 1) := by decide +kernel
theorem dX7_refer_68 : decode cX7_refer 68 = .ok (.goto 4, 3) := by decide +kernel
theorem dX7_refer_71 : decode cX7_refer 71 = .ok (.iconst 0, 1) := by decide +kernel
theorem dX7_refer_72 : decode cX7_refer 72 = .ok (.ior, 1) := by decide +kernel
theorem dX7_refer_73 : decode cX7_refer 73 = .ok (.iastore, 1) := by decide +kernel
theorem dX7_refer_74 : decode cX7_refer 74 = .ok (.iload 4, 2) := by decide +kernel
theorem dX7_refer_76 : decode cX7_refer 76 = .ok (.ireturn, 1) := by decide +kernel
theorem dX7_loss_0 : decode cX7_loss 0 = .ok (.iload_n 1, 1) := by decide +kernel
theorem dX7_loss_1 : decode cX7_loss 1 = .ok (.i2l, 1) := by decide +kernel
theorem dX7_loss_2 : decode cX7_loss 2 = .ok (.lconst 0, 1) := by decide +kernel
theorem dX7_loss_3 : decode cX7_loss 3 = .ok (.ldc2_w 100, 3) := by decide +kernel
theorem dX7_loss_6 : decode cX7_loss 6 = .ok (.invokestatic 80, 3) := by decide +kernel
theorem dX7_loss_9 : decode cX7_loss 9 = .ok (.ifCond .ne 6, 3) := by decide +kernel
theorem dX7_loss_12 : decode cX7_loss 12 = .ok (.bipush (-2), 2) := by decide +kernel
theorem dX7_loss_14 : decode cX7_loss 14 = .ok (.ireturn, 1) := by decide +kernel
theorem dX7_loss_15 : decode cX7_loss 15 = .ok (.aload_n 0, 1) := by decide +kernel
theorem dX7_loss_16 : decode cX7_loss 16 = .ok (.getfield 15, 3) := by decide +kernel
theorem dX7_loss_19 : decode cX7_loss 19 = .ok (.iconst 1, 1) := by decide +kernel
theorem dX7_loss_20 : decode cX7_loss 20 = .ok (.iaload, 1) := by decide +kernel
theorem dX7_loss_21 : decode cX7_loss 21 = .ok (.istore_n 2, 1) := by decide +kernel
theorem dX7_loss_22 : decode cX7_loss 22 = .ok (.aload_n 0, 1) := by decide +kernel
theorem dX7_loss_23 : decode cX7_loss 23 = .ok (.getfield 15, 3) := by decide +kernel
theorem dX7_loss_26 : decode cX7_loss 26 = .ok (.iconst 1, 1) := by decide +kernel
theorem dX7_loss_27 : decode cX7_loss 27 = .ok (.iload_n 1, 1) := by decide +kernel
theorem dX7_loss_28 : decode cX7_loss 28 = .ok (.iastore, 1) := by decide +kernel
theorem dX7_loss_29 : decode cX7_loss 29 = .ok (.iload_n 2, 1) := by decide +kernel
theorem dX7_loss_30 : decode cX7_loss 30 = .ok (.ireturn, 1) := by decide +kernel
theorem dX7_reach_0 : decode cX7_reach 0 = .ok (.iconst 0, 1) := by decide +kernel
theorem dX7_reach_1 : decode cX7_reach 1 = .ok (.istore_n 1, 1) := by decide +kernel
theorem dX7_reach_2 : decode cX7_reach 2 = .ok (.iload_n 1, 1) := by decide +kernel
theorem dX7_reach_3 : decode cX7_reach 3 = .ok (.aload_n 0, 1) := by decide +kernel
theorem dX7_reach_4 : decode cX7_reach 4 = .ok (.getfield 15, 3) := by decide +kernel
theorem dX7_reach_7 : decode cX7_reach 7 = .ok (.iconst 0, 1) := by decide +kernel
theorem dX7_reach_8 : decode cX7_reach 8 = .ok (.iaload, 1) := by decide +kernel
theorem dX7_reach_9 : decode cX7_reach 9 = .ok (.if_icmp .ge 24, 3) := by decide +kernel
theorem dX7_reach_12 : decode cX7_reach 12 = .ok (.aload_n 0, 1) := by decide +kernel
theorem dX7_reach_13 : decode cX7_reach 13 = .ok (.getfield 25, 3) := by decide +kernel
theorem dX7_reach_16 : decode cX7_reach 16 = .ok (.iload_n 1, 1) := by decide +kernel
theorem dX7_reach_17 : decode cX7_reach 17 = .ok (.aload_n 0, 1) := by decide +kernel
theorem dX7_reach_18 : decode cX7_reach 18 = .ok (.getfield 15, 3) := by decide +kernel
theorem dX7_reach_21 : decode cX7_reach 21 = .ok (.bipush 29, 2) := by decide +kernel
theorem dX7_reach_23 : decode cX7_reach 23 = .ok (.iload_n 1, 1) := by decide +kernel
theorem dX7_reach_24 : decode cX7_reach 24 = .ok (.iadd, 1) := by decide +kernel
theorem dX7_reach_25 : decode cX7_reach 25 = .ok (.iaload, 1) := by decide +kernel
theorem dX7_reach_26 : decode cX7_reach 26 = .ok (.iastore, 1) := by decide +kernel
theorem dX7_reach_27 : decode cX7_reach 27 = .ok (.iinc 1 1, 3) := by decide +kernel
theorem dX7_reach_30 : decode cX7_reach 30 = .ok (.goto (-28), 3) := by decide +kernel
theorem dX7_reach_33 : decode cX7_reach 33 = .ok (.iconst 0, 1) := by decide +kernel
theorem dX7_reach_34 : decode cX7_reach 34 = .ok (.istore_n 1, 1) := by decide +kernel
theorem dX7_reach_35 : decode cX7_reach 35 = .ok (.iload_n 1, 1) := by decide +kernel
theorem dX7_reach_36 : decode cX7_reach 36 = .ok (.bipush 6, 2) := by decide +kernel
theorem dX7_reach_38 : decode cX7_reach 38 = .ok (.if_icmp .ge 77, 3) := by decide +kernel
theorem dX7_reach_41 : decode cX7_reach 41 = .ok (.iconst 0, 1) := by decide +kernel
theorem dX7_reach_42 : decode cX7_reach 42 = .ok (.istore_n 2, 1) := by decide +kernel
theorem dX7_reach_43 : decode cX7_reach 43 = .ok (.iload_n 2, 1) := by decide +kernel
theorem dX7_reach_44 : decode cX7_reach 44 = .ok (.aload_n 0, 1) := by decide +kernel
theorem dX7_reach_45 : decode cX7_reach 45 = .ok (.getfield 15, 3) := by decide +kernel
theorem dX7_reach_48 : decode cX7_reach 48 = .ok (.iconst 0, 1) := by decide +kernel
theorem dX7_reach_49 : decode cX7_reach 49 = .ok (.iaload, 1) := by decide +kernel
theorem dX7_reach_50 : decode cX7_reach 50 = .ok (.if_icmp .ge 59, 3) := by decide +kernel
theorem dX7_reach_53 : decode cX7_reach 53 = .ok (.iconst 0, 1) := by decide +kernel
theorem dX7_reach_54 : decode cX7_reach 54 = .ok (.istore_n 3, 1) := by decide +kernel
theorem dX7_reach_55 : decode cX7_reach 55 = .ok (.iload_n 3, 1) := by decide +kernel
theorem dX7_reach_56 : decode cX7_reach 56 = .ok (.aload_n 0, 1) := by decide +kernel
theorem dX7_reach_57 : decode cX7_reach 57 = .ok (.getfield 15, 3) := by decide +kernel
theorem dX7_reach_60 : decode cX7_reach 60 = .ok (.iconst 0, 1) := by decide +kernel
theorem dX7_reach_61 : decode cX7_reach 61 = .ok (.iaload, 1) := by decide +kernel
theorem dX7_reach_62 : decode cX7_reach 62 = .ok (.if_icmp .ge 41, 3) := by decide +kernel
theorem dX7_reach_65 : decode cX7_reach 65 = .ok (.aload_n 0, 1) := by decide +kernel
theorem dX7_reach_66 : decode cX7_reach 66 = .ok (.getfield 25, 3) := by decide +kernel
theorem dX7_reach_69 : decode cX7_reach 69 = .ok (.iload_n 2, 1) := by decide +kernel
theorem dX7_reach_70 : decode cX7_reach 70 = .ok (.dup2, 1) := by decide +kernel
theorem dX7_reach_71 : decode cX7_reach 71 = .ok (.iaload, 1) := by decide +kernel
theorem dX7_reach_72 : decode cX7_reach 72 = .ok (.aload_n 0, 1) := by decide +kernel
theorem dX7_reach_73 : decode cX7_reach 73 = .ok (.getfield 25, 3) := by decide +kernel
theorem dX7_reach_76 : decode cX7_reach 76 = .ok (.iload_n 2, 1) := by decide +kernel
theorem dX7_reach_77 : decode cX7_reach 77 = .ok (.iaload, 1) := by decide +kernel
theorem dX7_reach_78 : decode cX7_reach 78 = .ok (.iload_n 3, 1) := by decide +kernel
theorem dX7_reach_79 : decode cX7_reach 79 = .ok (.invokestatic 102, 3) := by decide +kernel
theorem dX7_reach_82 : decode cX7_reach 82 = .ok (.ifCond .eq 12, 3) := by decide +kernel
theorem dX7_reach_85 : decode cX7_reach 85 = .ok (.aload_n 0, 1) := by decide +kernel
theorem dX7_reach_86 : decode cX7_reach 86 = .ok (.getfield 25, 3) := by decide +kernel
theorem dX7_reach_89 : decode cX7_reach 89 = .ok (.iload_n 3, 1) := by decide +kernel
theorem dX7_reach_90 : decode cX7_reach 90 = .ok (.iaload, 1) := by decide +kernel
theorem dX7_reach_91 : decode cX7_reach 91 = .ok (.goto 4, 3) := by decide +kernel
theorem dX7_reach_94 : decode cX7_reach 94 = .ok (.iconst 0, 1) := by decide +kernel
theorem dX7_reach_95 : decode cX7_reach 95 = .ok (.ior, 1) := by decide +kernel
theorem dX7_reach_96 : decode cX7_reach 96 = .ok (.iastore, 1) := by decide +kernel
theorem dX7_reach_97 : decode cX7_reach 97 = .ok (.iinc 3 1, 3) := by decide +kernel
theorem dX7_reach_100 : decode cX7_reach 100 = .ok (.goto (-45), 3) := by decide +kernel
theorem dX7_reach_103 : decode cX7_reach 103 = .ok (.iinc 2 1, 3) := by decide +kernel
theorem dX7_reach_106 : decode cX7_reach 106 = .ok (.goto (-63), 3) := by decide +kernel
theorem dX7_reach_109 : decode cX7_reach 109 = .ok (.iinc 1 1, 3) := by decide +kernel
theorem dX7_reach_112 : decode cX7_reach 112 = .ok (.goto (-77), 3) := by decide +kernel
theorem dX7_reach_115 : decode cX7_reach 115 = .ok (.iconst 0, 1) := by decide +kernel
theorem dX7_reach_116 : decode cX7_reach 116 = .ok (.istore_n 1, 1) := by decide +kernel
theorem dX7_reach_117 : decode cX7_reach 117 = .ok (.iload_n 1, 1) := by decide +kernel
theorem dX7_reach_118 : decode cX7_reach 118 = .ok (.aload_n 0, 1) := by decide +kernel
theorem dX7_reach_119 : decode cX7_reach 119 = .ok (.getfield 15, 3) := by decide +kernel
theorem dX7_reach_122 : decode cX7_reach 122 = .ok (.iconst 0, 1) := by decide +kernel
theorem dX7_reach_123 : decode cX7_reach 123 = .ok (.iaload, 1) := by decide +kernel
theorem dX7_reach_124 : decode cX7_reach 124 = .ok (.if_icmp .ge 74, 3) := by decide +kernel
theorem dX7_reach_127 : decode cX7_reach 127 = .ok (.aload_n 0, 1) := by decide +kernel
theorem dX7_reach_128 : decode cX7_reach 128 = .ok (.getfield 28, 3) := by decide +kernel
theorem dX7_reach_131 : decode cX7_reach 131 = .ok (.iload_n 1, 1) := by decide +kernel
theorem dX7_reach_132 : decode cX7_reach 132 = .ok (.iconst 1, 1) := by decide +kernel
theorem dX7_reach_133 : decode cX7_reach 133 = .ok (.iload_n 1, 1) := by decide +kernel
theorem dX7_reach_134 : decode cX7_reach 134 = .ok (.ishl, 1) := by decide +kernel
theorem dX7_reach_135 : decode cX7_reach 135 = .ok (.iastore, 1) := by decide +kernel
theorem dX7_reach_136 : decode cX7_reach 136 = .ok (.iconst 0, 1) := by decide +kernel
theorem dX7_reach_137 : decode cX7_reach 137 = .ok (.istore_n 2, 1) := by decide +kernel
theorem dX7_reach_138 : decode cX7_reach 138 = .ok (.iload_n 2, 1) := by decide +kernel
theorem dX7_reach_139 : decode cX7_reach 139 = .ok (.aload_n 0, 1) := by decide +kernel
theorem dX7_reach_140 : decode cX7_reach 140 = .ok (.getfield 15, 3) := by decide +kernel
theorem dX7_reach_143 : decode cX7_reach 143 = .ok (.iconst 0, 1) := by decide +kernel
theorem dX7_reach_144 : decode cX7_reach 144 = .ok (.iaload, 1) := by decide +kernel
theorem dX7_reach_145 : decode cX7_reach 145 = .ok (.if_icmp .ge 47, 3) := by decide +kernel
theorem dX7_reach_148 : decode cX7_reach 148 = .ok (.aload_n 0, 1) := by decide +kernel
theorem dX7_reach_149 : decode cX7_reach 149 = .ok (.getfield 25, 3) := by decide +kernel
theorem dX7_reach_152 : decode cX7_reach 152 = .ok (.iload_n 1, 1) := by decide +kernel
theorem dX7_reach_153 : decode cX7_reach 153 = .ok (.iaload, 1) := by decide +kernel
theorem dX7_reach_154 : decode cX7_reach 154 = .ok (.iload_n 2, 1) := by decide +kernel
theorem dX7_reach_155 : decode cX7_reach 155 = .ok (.invokestatic 102, 3) := by decide +kernel
theorem dX7_reach_158 : decode cX7_reach 158 = .ok (.ifCond .eq 28, 3) := by decide +kernel
theorem dX7_reach_161 : decode cX7_reach 161 = .ok (.aload_n 0, 1) := by decide +kernel
theorem dX7_reach_162 : decode cX7_reach 162 = .ok (.getfield 25, 3) := by decide +kernel
theorem dX7_reach_165 : decode cX7_reach 165 = .ok (.iload_n 2, 1) := by decide +kernel
theorem dX7_reach_166 : decode cX7_reach 166 = .ok (.iaload, 1) := by decide +kernel
theorem dX7_reach_167 : decode cX7_reach 167 = .ok (.iload_n 1, 1) := by decide +kernel
theorem dX7_reach_168 : decode cX7_reach 168 = .ok (.invokestatic 102, 3) := by decide +kernel
theorem dX7_reach_171 : decode cX7_reach 171 = .ok (.ifCond .eq 15, 3) := by decide +kernel
theorem dX7_reach_174 : decode cX7_reach 174 = .ok (.aload_n 0, 1) := by decide +kernel
theorem dX7_reach_175 : decode cX7_reach 175 = .ok (.getfield 28, 3) := by decide +kernel
theorem dX7_reach_178 : decode cX7_reach 178 = .ok (.iload_n 1, 1) := by decide +kernel
theorem dX7_reach_179 : decode cX7_reach 179 = .ok (.dup2, 1) := by decide +kernel
theorem dX7_reach_180 : decode cX7_reach 180 = .ok (.iaload, 1) := by decide +kernel
theorem dX7_reach_181 : decode cX7_reach 181 = .ok (.iconst 1, 1) := by decide +kernel
theorem dX7_reach_182 : decode cX7_reach 182 = .ok (.iload_n 2, 1) := by decide +kernel
theorem dX7_reach_183 : decode cX7_reach 183 = .ok (.ishl, 1) := by decide +kernel
theorem dX7_reach_184 : decode cX7_reach 184 = .ok (.ior, 1) := by decide +kernel
theorem dX7_reach_185 : decode cX7_reach 185 = .ok (.iastore, 1) := by decide +kernel
theorem dX7_reach_186 : decode cX7_reach 186 = .ok (.iinc 2 1, 3) := by decide +kernel
theorem dX7_reach_189 : decode cX7_reach 189 = .ok (.goto (-51), 3) := by decide +kernel
theorem dX7_reach_192 : decode cX7_reach 192 = .ok (.iinc 1 1, 3) := by decide +kernel
theorem dX7_reach_195 : decode cX7_reach 195 = .ok (.goto (-78), 3) := by decide +kernel
theorem dX7_reach_198 : decode cX7_reach 198 = .ok (.return_, 1) := by decide +kernel
theorem dX7_climb_0 : decode cX7_climb 0 = .ok (.iconst 0, 1) := by decide +kernel
theorem dX7_climb_1 : decode cX7_climb 1 = .ok (.istore_n 1, 1) := by decide +kernel
theorem dX7_climb_2 : decode cX7_climb 2 = .ok (.iload_n 1, 1) := by decide +kernel
theorem dX7_climb_3 : decode cX7_climb 3 = .ok (.aload_n 0, 1) := by decide +kernel
theorem dX7_climb_4 : decode cX7_climb 4 = .ok (.getfield 15, 3) := by decide +kernel
theorem dX7_climb_7 : decode cX7_climb 7 = .ok (.iconst 0, 1) := by decide +kernel
theorem dX7_climb_8 : decode cX7_climb 8 = .ok (.iaload, 1) := by decide +kernel
theorem dX7_climb_9 : decode cX7_climb 9 = .ok (.if_icmp .ge 16, 3) := by decide +kernel
theorem dX7_climb_12 : decode cX7_climb 12 = .ok (.aload_n 0, 1) := by decide +kernel
theorem dX7_climb_13 : decode cX7_climb 13 = .ok (.getfield 31, 3) := by decide +kernel
theorem dX7_climb_16 : decode cX7_climb 16 = .ok (.iload_n 1, 1) := by decide +kernel
theorem dX7_climb_17 : decode cX7_climb 17 = .ok (.iconst 0, 1) := by decide +kernel
theorem dX7_climb_18 : decode cX7_climb 18 = .ok (.iastore, 1) := by decide +kernel
theorem dX7_climb_19 : decode cX7_climb 19 = .ok (.iinc 1 1, 3) := by decide +kernel
theorem dX7_climb_22 : decode cX7_climb 22 = .ok (.goto (-20), 3) := by decide +kernel
theorem dX7_climb_25 : decode cX7_climb 25 = .ok (.iconst 0, 1) := by decide +kernel
theorem dX7_climb_26 : decode cX7_climb 26 = .ok (.istore_n 1, 1) := by decide +kernel
theorem dX7_climb_27 : decode cX7_climb 27 = .ok (.iload_n 1, 1) := by decide +kernel
theorem dX7_climb_28 : decode cX7_climb 28 = .ok (.bipush 6, 2) := by decide +kernel
theorem dX7_climb_30 : decode cX7_climb 30 = .ok (.if_icmp .gt 51, 3) := by decide +kernel
theorem dX7_climb_33 : decode cX7_climb 33 = .ok (.iconst 0, 1) := by decide +kernel
theorem dX7_climb_34 : decode cX7_climb 34 = .ok (.istore_n 2, 1) := by decide +kernel
theorem dX7_climb_35 : decode cX7_climb 35 = .ok (.iload_n 2, 1) := by decide +kernel
theorem dX7_climb_36 : decode cX7_climb 36 = .ok (.aload_n 0, 1) := by decide +kernel
theorem dX7_climb_37 : decode cX7_climb 37 = .ok (.getfield 15, 3) := by decide +kernel
theorem dX7_climb_40 : decode cX7_climb 40 = .ok (.iconst 0, 1) := by decide +kernel
theorem dX7_climb_41 : decode cX7_climb 41 = .ok (.iaload, 1) := by decide +kernel
theorem dX7_climb_42 : decode cX7_climb 42 = .ok (.if_icmp .ge 33, 3) := by decide +kernel
theorem dX7_climb_45 : decode cX7_climb 45 = .ok (.iconst 0, 1) := by decide +kernel
theorem dX7_climb_46 : decode cX7_climb 46 = .ok (.istore_n 3, 1) := by decide +kernel
theorem dX7_climb_47 : decode cX7_climb 47 = .ok (.iload_n 3, 1) := by decide +kernel
theorem dX7_climb_48 : decode cX7_climb 48 = .ok (.aload_n 0, 1) := by decide +kernel
theorem dX7_climb_49 : decode cX7_climb 49 = .ok (.getfield 15, 3) := by decide +kernel
theorem dX7_climb_52 : decode cX7_climb 52 = .ok (.iconst 0, 1) := by decide +kernel
theorem dX7_climb_53 : decode cX7_climb 53 = .ok (.iaload, 1) := by decide +kernel
theorem dX7_climb_54 : decode cX7_climb 54 = .ok (.if_icmp .ge 15, 3) := by decide +kernel
theorem dX7_climb_57 : decode cX7_climb 57 = .ok (.aload_n 0, 1) := by decide +kernel
theorem dX7_climb_58 : decode cX7_climb 58 = .ok (.iload_n 2, 1) := by decide +kernel
theorem dX7_climb_59 : decode cX7_climb 59 = .ok (.iload_n 3, 1) := by decide +kernel
theorem dX7_climb_60 : decode cX7_climb 60 = .ok (.invokevirtual 105, 3) := by decide +kernel
theorem dX7_climb_63 : decode cX7_climb 63 = .ok (.iinc 3 1, 3) := by decide +kernel
theorem dX7_climb_66 : decode cX7_climb 66 = .ok (.goto (-19), 3) := by decide +kernel
theorem dX7_climb_69 : decode cX7_climb 69 = .ok (.iinc 2 1, 3) := by decide +kernel
theorem dX7_climb_72 : decode cX7_climb 72 = .ok (.goto (-37), 3) := by decide +kernel
theorem dX7_climb_75 : decode cX7_climb 75 = .ok (.iinc 1 1, 3) := by decide +kernel
theorem dX7_climb_78 : decode cX7_climb 78 = .ok (.goto (-51), 3) := by decide +kernel
theorem dX7_climb_81 : decode cX7_climb 81 = .ok (.return_, 1) := by decide +kernel
theorem dX7_rise_0 : decode cX7_rise 0 = .ok (.aload_n 0, 1) := by decide +kernel
theorem dX7_rise_1 : decode cX7_rise 1 = .ok (.getfield 15, 3) := by decide +kernel
theorem dX7_rise_4 : decode cX7_rise 4 = .ok (.bipush 29, 2) := by decide +kernel
theorem dX7_rise_6 : decode cX7_rise 6 = .ok (.iload_n 1, 1) := by decide +kernel
theorem dX7_rise_7 : decode cX7_rise 7 = .ok (.iadd, 1) := by decide +kernel
theorem dX7_rise_8 : decode cX7_rise 8 = .ok (.iaload, 1) := by decide +kernel
theorem dX7_rise_9 : decode cX7_rise 9 = .ok (.iload_n 2, 1) := by decide +kernel
theorem dX7_rise_10 : decode cX7_rise 10 = .ok (.invokestatic 102, 3) := by decide +kernel
theorem dX7_rise_13 : decode cX7_rise 13 = .ok (.ifCond .eq 31, 3) := by decide +kernel
theorem dX7_rise_16 : decode cX7_rise 16 = .ok (.aload_n 0, 1) := by decide +kernel
theorem dX7_rise_17 : decode cX7_rise 17 = .ok (.getfield 28, 3) := by decide +kernel
theorem dX7_rise_20 : decode cX7_rise 20 = .ok (.iload_n 1, 1) := by decide +kernel
theorem dX7_rise_21 : decode cX7_rise 21 = .ok (.iaload, 1) := by decide +kernel
theorem dX7_rise_22 : decode cX7_rise 22 = .ok (.iload_n 2, 1) := by decide +kernel
theorem dX7_rise_23 : decode cX7_rise 23 = .ok (.invokestatic 102, 3) := by decide +kernel
theorem dX7_rise_26 : decode cX7_rise 26 = .ok (.ifCond .ne 18, 3) := by decide +kernel
theorem dX7_rise_29 : decode cX7_rise 29 = .ok (.aload_n 0, 1) := by decide +kernel
theorem dX7_rise_30 : decode cX7_rise 30 = .ok (.getfield 31, 3) := by decide +kernel
theorem dX7_rise_33 : decode cX7_rise 33 = .ok (.iload_n 1, 1) := by decide +kernel
theorem dX7_rise_34 : decode cX7_rise 34 = .ok (.iaload, 1) := by decide +kernel
theorem dX7_rise_35 : decode cX7_rise 35 = .ok (.aload_n 0, 1) := by decide +kernel
theorem dX7_rise_36 : decode cX7_rise 36 = .ok (.getfield 31, 3) := by decide +kernel
theorem dX7_rise_39 : decode cX7_rise 39 = .ok (.iload_n 2, 1) := by decide +kernel
theorem dX7_rise_40 : decode cX7_rise 40 = .ok (.iaload, 1) := by decide +kernel
theorem dX7_rise_41 : decode cX7_rise 41 = .ok (.if_icmp .le 4, 3) := by decide +kernel
theorem dX7_rise_44 : decode cX7_rise 44 = .ok (.return_, 1) := by decide +kernel
theorem dX7_rise_45 : decode cX7_rise 45 = .ok (.iconst 0, 1) := by decide +kernel
theorem dX7_rise_46 : decode cX7_rise 46 = .ok (.istore_n 3, 1) := by decide +kernel
theorem dX7_rise_47 : decode cX7_rise 47 = .ok (.iload_n 3, 1) := by decide +kernel
theorem dX7_rise_48 : decode cX7_rise 48 = .ok (.aload_n 0, 1) := by decide +kernel
theorem dX7_rise_49 : decode cX7_rise 49 = .ok (.getfield 15, 3) := by decide +kernel
theorem dX7_rise_52 : decode cX7_rise 52 = .ok (.iconst 0, 1) := by decide +kernel
theorem dX7_rise_53 : decode cX7_rise 53 = .ok (.iaload, 1) := by decide +kernel
theorem dX7_rise_54 : decode cX7_rise 54 = .ok (.if_icmp .ge 36, 3) := by decide +kernel
theorem dX7_rise_57 : decode cX7_rise 57 = .ok (.aload_n 0, 1) := by decide +kernel
theorem dX7_rise_58 : decode cX7_rise 58 = .ok (.getfield 28, 3) := by decide +kernel
theorem dX7_rise_61 : decode cX7_rise 61 = .ok (.iload_n 1, 1) := by decide +kernel
theorem dX7_rise_62 : decode cX7_rise 62 = .ok (.iaload, 1) := by decide +kernel
theorem dX7_rise_63 : decode cX7_rise 63 = .ok (.iload_n 3, 1) := by decide +kernel
theorem dX7_rise_64 : decode cX7_rise 64 = .ok (.invokestatic 102, 3) := by decide +kernel
theorem dX7_rise_67 : decode cX7_rise 67 = .ok (.ifCond .eq 17, 3) := by decide +kernel
theorem dX7_rise_70 : decode cX7_rise 70 = .ok (.aload_n 0, 1) := by decide +kernel
theorem dX7_rise_71 : decode cX7_rise 71 = .ok (.getfield 31, 3) := by decide +kernel
theorem dX7_rise_74 : decode cX7_rise 74 = .ok (.iload_n 3, 1) := by decide +kernel
theorem dX7_rise_75 : decode cX7_rise 75 = .ok (.aload_n 0, 1) := by decide +kernel
theorem dX7_rise_76 : decode cX7_rise 76 = .ok (.getfield 31, 3) := by decide +kernel
theorem dX7_rise_79 : decode cX7_rise 79 = .ok (.iload_n 2, 1) := by decide +kernel
theorem dX7_rise_80 : decode cX7_rise 80 = .ok (.iaload, 1) := by decide +kernel
theorem dX7_rise_81 : decode cX7_rise 81 = .ok (.iconst 1, 1) := by decide +kernel
theorem dX7_rise_82 : decode cX7_rise 82 = .ok (.iadd, 1) := by decide +kernel
theorem dX7_rise_83 : decode cX7_rise 83 = .ok (.iastore, 1) := by decide +kernel
theorem dX7_rise_84 : decode cX7_rise 84 = .ok (.iinc 3 1, 3) := by decide +kernel
theorem dX7_rise_87 : decode cX7_rise 87 = .ok (.goto (-40), 3) := by decide +kernel
theorem dX7_rise_90 : decode cX7_rise 90 = .ok (.return_, 1) := by decide +kernel
theorem dX7_ladder_0 : decode cX7_ladder 0 = .ok (.aload_n 0, 1) := by decide +kernel
theorem dX7_ladder_1 : decode cX7_ladder 1 = .ok (.invokevirtual 109, 3) := by decide +kernel
theorem dX7_ladder_4 : decode cX7_ladder 4 = .ok (.aload_n 0, 1) := by decide +kernel
theorem dX7_ladder_5 : decode cX7_ladder 5 = .ok (.invokevirtual 112, 3) := by decide +kernel
theorem dX7_ladder_8 : decode cX7_ladder 8 = .ok (.aload_n 0, 1) := by decide +kernel
theorem dX7_ladder_9 : decode cX7_ladder 9 = .ok (.iconst 0, 1) := by decide +kernel
theorem dX7_ladder_10 : decode cX7_ladder 10 = .ok (.putfield 115, 3) := by decide +kernel
theorem dX7_ladder_13 : decode cX7_ladder 13 = .ok (.iconst 0, 1) := by decide +kernel
theorem dX7_ladder_14 : decode cX7_ladder 14 = .ok (.istore_n 1, 1) := by decide +kernel
theorem dX7_ladder_15 : decode cX7_ladder 15 = .ok (.iload_n 1, 1) := by decide +kernel
theorem dX7_ladder_16 : decode cX7_ladder 16 = .ok (.bipush 6, 2) := by decide +kernel
theorem dX7_ladder_18 : decode cX7_ladder 18 = .ok (.if_icmp .ge 90, 3) := by decide +kernel
theorem dX7_ladder_21 : decode cX7_ladder 21 = .ok (.iconst 0, 1) := by decide +kernel
theorem dX7_ladder_22 : decode cX7_ladder 22 = .ok (.istore_n 2, 1) := by decide +kernel
theorem dX7_ladder_23 : decode cX7_ladder 23 = .ok (.iload_n 2, 1) := by decide +kernel
theorem dX7_ladder_24 : decode cX7_ladder 24 = .ok (.aload_n 0, 1) := by decide +kernel
theorem dX7_ladder_25 : decode cX7_ladder 25 = .ok (.getfield 15, 3) := by decide +kernel
theorem dX7_ladder_28 : decode cX7_ladder 28 = .ok (.iconst 0, 1) := by decide +kernel
theorem dX7_ladder_29 : decode cX7_ladder 29 = .ok (.iaload, 1) := by decide +kernel
theorem dX7_ladder_30 : decode cX7_ladder 30 = .ok (.if_icmp .ge 72, 3) := by decide +kernel
theorem dX7_ladder_33 : decode cX7_ladder 33 = .ok (.aload_n 0, 1) := by decide +kernel
theorem dX7_ladder_34 : decode cX7_ladder 34 = .ok (.getfield 28, 3) := by decide +kernel
theorem dX7_ladder_37 : decode cX7_ladder 37 = .ok (.iload_n 2, 1) := by decide +kernel
theorem dX7_ladder_38 : decode cX7_ladder 38 = .ok (.iaload, 1) := by decide +kernel
theorem dX7_ladder_39 : decode cX7_ladder 39 = .ok (.iconst 1, 1) := by decide +kernel
theorem dX7_ladder_40 : decode cX7_ladder 40 = .ok (.iload_n 2, 1) := by decide +kernel
theorem dX7_ladder_41 : decode cX7_ladder 41 = .ok (.ishl, 1) := by decide +kernel
theorem dX7_ladder_42 : decode cX7_ladder 42 = .ok (.iconst 1, 1) := by decide +kernel
theorem dX7_ladder_43 : decode cX7_ladder 43 = .ok (.isub, 1) := by decide +kernel
theorem dX7_ladder_44 : decode cX7_ladder 44 = .ok (.iand, 1) := by decide +kernel
theorem dX7_ladder_45 : decode cX7_ladder 45 = .ok (.ifCond .ne 7, 3) := by decide +kernel
theorem dX7_ladder_48 : decode cX7_ladder 48 = .ok (.iconst 1, 1) := by decide +kernel
theorem dX7_ladder_49 : decode cX7_ladder 49 = .ok (.goto 4, 3) := by decide +kernel
theorem dX7_ladder_52 : decode cX7_ladder 52 = .ok (.iconst 0, 1) := by decide +kernel
theorem dX7_ladder_53 : decode cX7_ladder 53 = .ok (.istore_n 3, 1) := by decide +kernel
theorem dX7_ladder_54 : decode cX7_ladder 54 = .ok (.aload_n 0, 1) := by decide +kernel
theorem dX7_ladder_55 : decode cX7_ladder 55 = .ok (.getfield 31, 3) := by decide +kernel
theorem dX7_ladder_58 : decode cX7_ladder 58 = .ok (.iload_n 2, 1) := by decide +kernel
theorem dX7_ladder_59 : decode cX7_ladder 59 = .ok (.iaload, 1) := by decide +kernel
theorem dX7_ladder_60 : decode cX7_ladder 60 = .ok (.iload_n 1, 1) := by decide +kernel
theorem dX7_ladder_61 : decode cX7_ladder 61 = .ok (.if_icmp .ne 35, 3) := by decide +kernel
theorem dX7_ladder_64 : decode cX7_ladder 64 = .ok (.iload_n 3, 1) := by decide +kernel
theorem dX7_ladder_65 : decode cX7_ladder 65 = .ok (.ifCond .ne 6, 3) := by decide +kernel
theorem dX7_ladder_68 : decode cX7_ladder 68 = .ok (.goto 28, 3) := by decide +kernel
theorem dX7_ladder_71 : decode cX7_ladder 71 = .ok (.aload_n 0, 1) := by decide +kernel
theorem dX7_ladder_72 : decode cX7_ladder 72 = .ok (.getfield 34, 3) := by decide +kernel
theorem dX7_ladder_75 : decode cX7_ladder 75 = .ok (.aload_n 0, 1) := by decide +kernel
theorem dX7_ladder_76 : decode cX7_ladder 76 = .ok (.getfield 115, 3) := by decide +kernel
theorem dX7_ladder_79 : decode cX7_ladder 79 = .ok (.aload_n 0, 1) := by decide +kernel
theorem dX7_ladder_80 : decode cX7_ladder 80 = .ok (.getfield 28, 3) := by decide +kernel
theorem dX7_ladder_83 : decode cX7_ladder 83 = .ok (.iload_n 2, 1) := by decide +kernel
theorem dX7_ladder_84 : decode cX7_ladder 84 = .ok (.iaload, 1) := by decide +kernel
theorem dX7_ladder_85 : decode cX7_ladder 85 = .ok (.iastore, 1) := by decide +kernel
theorem dX7_ladder_86 : decode cX7_ladder 86 = .ok (.aload_n 0, 1) := by decide +kernel
theorem dX7_ladder_87 : decode cX7_ladder 87 = .ok (.dup, 1) := by decide +kernel
theorem dX7_ladder_88 : decode cX7_ladder 88 = .ok (.getfield 115, 3) := by decide +kernel
theorem dX7_ladder_91 : decode cX7_ladder 91 = .ok (.iconst 1, 1) := by decide +kernel
theorem dX7_ladder_92 : decode cX7_ladder 92 = .ok (.iadd, 1) := by decide +kernel
theorem dX7_ladder_93 : decode cX7_ladder 93 = .ok (.putfield 115, 3) := by decide +kernel
theorem dX7_ladder_96 : decode cX7_ladder 96 = .ok (.iinc 2 1, 3) := by decide +kernel
theorem dX7_ladder_99 : decode cX7_ladder 99 = .ok (.goto (-76), 3) := by decide +kernel
theorem dX7_ladder_102 : decode cX7_ladder 102 = .ok (.iinc 1 1, 3) := by decide +kernel
theorem dX7_ladder_105 : decode cX7_ladder 105 = .ok (.goto (-90), 3) := by decide +kernel
theorem dX7_ladder_108 : decode cX7_ladder 108 = .ok (.return_, 1) := by decide +kernel
theorem dX7_least_0 : decode cX7_least 0 = .ok (.iload_n 1, 1) := by decide +kernel
theorem dX7_least_1 : decode cX7_least 1 = .ok (.iload_n 2, 1) := by decide +kernel
theorem dX7_least_2 : decode cX7_least 2 = .ok (.if_icmp .ge 7, 3) := by decide +kernel
theorem dX7_least_5 : decode cX7_least 5 = .ok (.iload_n 1, 1) := by decide +kernel
theorem dX7_least_6 : decode cX7_least 6 = .ok (.goto 4, 3) := by decide +kernel
theorem dX7_least_9 : decode cX7_least 9 = .ok (.iload_n 2, 1) := by decide +kernel
theorem dX7_least_10 : decode cX7_least 10 = .ok (.ireturn, 1) := by decide +kernel
theorem dX7_stead_0 : decode cX7_stead 0 = .ok (.aload_n 0, 1) := by decide +kernel
theorem dX7_stead_1 : decode cX7_stead 1 = .ok (.getfield 15, 3) := by decide +kernel
theorem dX7_stead_4 : decode cX7_stead 4 = .ok (.iconst 5, 1) := by decide +kernel
theorem dX7_stead_5 : decode cX7_stead 5 = .ok (.iload_n 1, 1) := by decide +kernel
theorem dX7_stead_6 : decode cX7_stead 6 = .ok (.iadd, 1) := by decide +kernel
theorem dX7_stead_7 : decode cX7_stead 7 = .ok (.iaload, 1) := by decide +kernel
theorem dX7_stead_8 : decode cX7_stead 8 = .ok (.iconst 1, 1) := by decide +kernel
theorem dX7_stead_9 : decode cX7_stead 9 = .ok (.if_icmp .ne 20, 3) := by decide +kernel
theorem dX7_stead_12 : decode cX7_stead 12 = .ok (.iload_n 2, 1) := by decide +kernel
theorem dX7_stead_13 : decode cX7_stead 13 = .ok (.aload_n 0, 1) := by decide +kernel
theorem dX7_stead_14 : decode cX7_stead 14 = .ok (.getfield 15, 3) := by decide +kernel
theorem dX7_stead_17 : decode cX7_stead 17 = .ok (.bipush 23, 2) := by decide +kernel
theorem dX7_stead_19 : decode cX7_stead 19 = .ok (.iload_n 1, 1) := by decide +kernel
theorem dX7_stead_20 : decode cX7_stead 20 = .ok (.iadd, 1) := by decide +kernel
theorem dX7_stead_21 : decode cX7_stead 21 = .ok (.iaload, 1) := by decide +kernel
theorem dX7_stead_22 : decode cX7_stead 22 = .ok (.imul, 1) := by decide +kernel
theorem dX7_stead_23 : decode cX7_stead 23 = .ok (.bipush 100, 2) := by decide +kernel
theorem dX7_stead_25 : decode cX7_stead 25 = .ok (.idiv, 1) := by decide +kernel
theorem dX7_stead_26 : decode cX7_stead 26 = .ok (.goto 4, 3) := by decide +kernel
theorem dX7_stead_29 : decode cX7_stead 29 = .ok (.iload_n 2, 1) := by decide +kernel
theorem dX7_stead_30 : decode cX7_stead 30 = .ok (.ireturn, 1) := by decide +kernel
theorem dX7_plain_0 : decode cX7_plain 0 = .ok (.iload_n 2, 1) := by decide +kernel
theorem dX7_plain_1 : decode cX7_plain 1 = .ok (.aload_n 0, 1) := by decide +kernel
theorem dX7_plain_2 : decode cX7_plain 2 = .ok (.getfield 15, 3) := by decide +kernel
theorem dX7_plain_5 : decode cX7_plain 5 = .ok (.bipush 17, 2) := by decide +kernel
theorem dX7_plain_7 : decode cX7_plain 7 = .ok (.iload_n 1, 1) := by decide +kernel
theorem dX7_plain_8 : decode cX7_plain 8 = .ok (.iadd, 1) := by decide +kernel
theorem dX7_plain_9 : decode cX7_plain 9 = .ok (.iaload, 1) := by decide +kernel
theorem dX7_plain_10 : decode cX7_plain 10 = .ok (.isub, 1) := by decide +kernel
theorem dX7_plain_11 : decode cX7_plain 11 = .ok (.istore_n 3, 1) := by decide +kernel
theorem dX7_plain_12 : decode cX7_plain 12 = .ok (.iload_n 3, 1) := by decide +kernel
theorem dX7_plain_13 : decode cX7_plain 13 = .ok (.ifCond .ge 7, 3) := by decide +kernel
theorem dX7_plain_16 : decode cX7_plain 16 = .ok (.iconst 0, 1) := by decide +kernel
theorem dX7_plain_17 : decode cX7_plain 17 = .ok (.goto 17, 3) := by decide +kernel
theorem dX7_plain_20 : decode cX7_plain 20 = .ok (.aload_n 0, 1) := by decide +kernel
theorem dX7_plain_21 : decode cX7_plain 21 = .ok (.iload_n 3, 1) := by decide +kernel
theorem dX7_plain_22 : decode cX7_plain 22 = .ok (.aload_n 0, 1) := by decide +kernel
theorem dX7_plain_23 : decode cX7_plain 23 = .ok (.getfield 15, 3) := by decide +kernel
theorem dX7_plain_26 : decode cX7_plain 26 = .ok (.bipush 11, 2) := by decide +kernel
theorem dX7_plain_28 : decode cX7_plain 28 = .ok (.iload_n 1, 1) := by decide +kernel
theorem dX7_plain_29 : decode cX7_plain 29 = .ok (.iadd, 1) := by decide +kernel
theorem dX7_plain_30 : decode cX7_plain 30 = .ok (.iaload, 1) := by decide +kernel
theorem dX7_plain_31 : decode cX7_plain 31 = .ok (.invokevirtual 118, 3) := by decide +kernel
theorem dX7_plain_34 : decode cX7_plain 34 = .ok (.ireturn, 1) := by decide +kernel
theorem dX7_payer_0 : decode cX7_payer 0 = .ok (.iconst 0, 1) := by decide +kernel
theorem dX7_payer_1 : decode cX7_payer 1 = .ok (.istore_n 2, 1) := by decide +kernel
theorem dX7_payer_2 : decode cX7_payer 2 = .ok (.iload_n 2, 1) := by decide +kernel
theorem dX7_payer_3 : decode cX7_payer 3 = .ok (.aload_n 0, 1) := by decide +kernel
theorem dX7_payer_4 : decode cX7_payer 4 = .ok (.getfield 15, 3) := by decide +kernel
theorem dX7_payer_7 : decode cX7_payer 7 = .ok (.iconst 0, 1) := by decide +kernel
theorem dX7_payer_8 : decode cX7_payer 8 = .ok (.iaload, 1) := by decide +kernel
theorem dX7_payer_9 : decode cX7_payer 9 = .ok (.if_icmp .ge 36, 3) := by decide +kernel
theorem dX7_payer_12 : decode cX7_payer 12 = .ok (.aload_n 0, 1) := by decide +kernel
theorem dX7_payer_13 : decode cX7_payer 13 = .ok (.getfield 15, 3) := by decide +kernel
theorem dX7_payer_16 : decode cX7_payer 16 = .ok (.bipush 29, 2) := by decide +kernel
theorem dX7_payer_18 : decode cX7_payer 18 = .ok (.iload_n 1, 1) := by decide +kernel
theorem dX7_payer_19 : decode cX7_payer 19 = .ok (.iadd, 1) := by decide +kernel
theorem dX7_payer_20 : decode cX7_payer 20 = .ok (.iaload, 1) := by decide +kernel
theorem dX7_payer_21 : decode cX7_payer 21 = .ok (.iload_n 2, 1) := by decide +kernel
theorem dX7_payer_22 : decode cX7_payer 22 = .ok (.invokestatic 102, 3) := by decide +kernel
theorem dX7_payer_25 : decode cX7_payer 25 = .ok (.ifCond .eq 14, 3) := by decide +kernel
theorem dX7_payer_28 : decode cX7_payer 28 = .ok (.aload_n 0, 1) := by decide +kernel
theorem dX7_payer_29 : decode cX7_payer 29 = .ok (.getfield 37, 3) := by decide +kernel
theorem dX7_payer_32 : decode cX7_payer 32 = .ok (.iload_n 2, 1) := by decide +kernel
theorem dX7_payer_33 : decode cX7_payer 33 = .ok (.iaload, 1) := by decide +kernel
theorem dX7_payer_34 : decode cX7_payer 34 = .ok (.ifCond .le 5, 3) := by decide +kernel
theorem dX7_payer_37 : decode cX7_payer 37 = .ok (.iload_n 2, 1) := by decide +kernel
theorem dX7_payer_38 : decode cX7_payer 38 = .ok (.ireturn, 1) := by decide +kernel
theorem dX7_payer_39 : decode cX7_payer 39 = .ok (.iinc 2 1, 3) := by decide +kernel
theorem dX7_payer_42 : decode cX7_payer 42 = .ok (.goto (-40), 3) := by decide +kernel
theorem dX7_payer_45 : decode cX7_payer 45 = .ok (.iconst (-1), 1) := by decide +kernel
theorem dX7_payer_46 : decode cX7_payer 46 = .ok (.ireturn, 1) := by decide +kernel
theorem dX7_most_0 : decode cX7_most 0 = .ok (.aload_n 0, 1) := by decide +kernel
theorem dX7_most_1 : decode cX7_most 1 = .ok (.iload_n 1, 1) := by decide +kernel
theorem dX7_most_2 : decode cX7_most 2 = .ok (.aload_n 0, 1) := by decide +kernel
theorem dX7_most_3 : decode cX7_most 3 = .ok (.iload_n 1, 1) := by decide +kernel
theorem dX7_most_4 : decode cX7_most 4 = .ok (.iload_n 2, 1) := by decide +kernel
theorem dX7_most_5 : decode cX7_most 5 = .ok (.invokevirtual 122, 3) := by decide +kernel
theorem dX7_most_8 : decode cX7_most 8 = .ok (.invokevirtual 125, 3) := by decide +kernel
theorem dX7_most_11 : decode cX7_most 11 = .ok (.istore 4, 2) := by decide +kernel
theorem dX7_most_13 : decode cX7_most 13 = .ok (.aload_n 0, 1) := by decide +kernel
theorem dX7_most_14 : decode cX7_most 14 = .ok (.getfield 15, 3) := by decide +kernel
theorem dX7_most_17 : decode cX7_most 17 = .ok (.iconst 5, 1) := by decide +kernel
theorem dX7_most_18 : decode cX7_most 18 = .ok (.iload_n 1, 1) := by decide +kernel
theorem dX7_most_19 : decode cX7_most 19 = .ok (.iadd, 1) := by decide +kernel
theorem dX7_most_20 : decode cX7_most 20 = .ok (.iaload, 1) := by decide +kernel
theorem dX7_most_21 : decode cX7_most 21 = .ok (.iconst 3, 1) := by decide +kernel
theorem dX7_most_22 : decode cX7_most 22 = .ok (.if_icmp .ne 27, 3) := by decide +kernel
theorem dX7_most_25 : decode cX7_most 25 = .ok (.iload 4, 2) := by decide +kernel
theorem dX7_most_27 : decode cX7_most 27 = .ok (.ifCond .le 20, 3) := by decide +kernel
theorem dX7_most_30 : decode cX7_most 30 = .ok (.aload_n 0, 1) := by decide +kernel
theorem dX7_most_31 : decode cX7_most 31 = .ok (.iload_n 2, 1) := by decide +kernel
theorem dX7_most_32 : decode cX7_most 32 = .ok (.aload_n 0, 1) := by decide +kernel
theorem dX7_most_33 : decode cX7_most 33 = .ok (.getfield 15, 3) := by decide +kernel
theorem dX7_most_36 : decode cX7_most 36 = .ok (.bipush 11, 2) := by decide +kernel
theorem dX7_most_38 : decode cX7_most 38 = .ok (.iload_n 1, 1) := by decide +kernel
theorem dX7_most_39 : decode cX7_most 39 = .ok (.iadd, 1) := by decide +kernel
theorem dX7_most_40 : decode cX7_most 40 = .ok (.iaload, 1) := by decide +kernel
theorem dX7_most_41 : decode cX7_most 41 = .ok (.invokevirtual 118, 3) := by decide +kernel
theorem dX7_most_44 : decode cX7_most 44 = .ok (.goto 4, 3) := by decide +kernel
theorem dX7_most_47 : decode cX7_most 47 = .ok (.iconst 0, 1) := by decide +kernel
theorem dX7_most_48 : decode cX7_most 48 = .ok (.ireturn, 1) := by decide +kernel
theorem dX7_most_49 : decode cX7_most 49 = .ok (.iload_n 3, 1) := by decide +kernel
theorem dX7_most_50 : decode cX7_most 50 = .ok (.ifCond .eq 28, 3) := by decide +kernel
theorem dX7_most_53 : decode cX7_most 53 = .ok (.aload_n 0, 1) := by decide +kernel
theorem dX7_most_54 : decode cX7_most 54 = .ok (.getfield 15, 3) := by decide +kernel
theorem dX7_most_57 : decode cX7_most 57 = .ok (.iconst 5, 1) := by decide +kernel
theorem dX7_most_58 : decode cX7_most 58 = .ok (.iload_n 1, 1) := by decide +kernel
theorem dX7_most_59 : decode cX7_most 59 = .ok (.iadd, 1) := by decide +kernel
theorem dX7_most_60 : decode cX7_most 60 = .ok (.iaload, 1) := by decide +kernel
theorem dX7_most_61 : decode cX7_most 61 = .ok (.iconst 2, 1) := by decide +kernel
theorem dX7_most_62 : decode cX7_most 62 = .ok (.if_icmp .ne 16, 3) := by decide +kernel
theorem dX7_most_65 : decode cX7_most 65 = .ok (.aload_n 0, 1) := by decide +kernel
theorem dX7_most_66 : decode cX7_most 66 = .ok (.iload_n 1, 1) := by decide +kernel
theorem dX7_most_67 : decode cX7_most 67 = .ok (.invokevirtual 128, 3) := by decide +kernel
theorem dX7_most_70 : decode cX7_most 70 = .ok (.iconst (-1), 1) := by decide +kernel
theorem dX7_most_71 : decode cX7_most 71 = .ok (.if_icmp .eq 7, 3) := by decide +kernel
theorem dX7_most_74 : decode cX7_most 74 = .ok (.iconst 0, 1) := by decide +kernel
theorem dX7_most_75 : decode cX7_most 75 = .ok (.goto 5, 3) := by decide +kernel
theorem dX7_most_78 : decode cX7_most 78 = .ok (.iload 4, 2) := by decide +kernel
theorem dX7_most_80 : decode cX7_most 80 = .ok (.ireturn, 1) := by decide +kernel
theorem dX7_payRing_0 : decode cX7_payRing 0 = .ok (.aload_n 0, 1) := by decide +kernel
theorem dX7_payRing_1 : decode cX7_payRing 1 = .ok (.getfield 34, 3) := by decide +kernel
theorem dX7_payRing_4 : decode cX7_payRing 4 = .ok (.iload_n 1, 1) := by decide +kernel
theorem dX7_payRing_5 : decode cX7_payRing 5 = .ok (.iaload, 1) := by decide +kernel
theorem dX7_payRing_6 : decode cX7_payRing 6 = .ok (.istore_n 3, 1) := by decide +kernel
theorem dX7_payRing_7 : decode cX7_payRing 7 = .ok (.iload_n 3, 1) := by decide +kernel
theorem dX7_payRing_8 : decode cX7_payRing 8 = .ok (.invokestatic 132, 3) := by decide +kernel
theorem dX7_payRing_11 : decode cX7_payRing 11 = .ok (.iconst 1, 1) := by decide +kernel
theorem dX7_payRing_12 : decode cX7_payRing 12 = .ok (.if_icmp .ne 7, 3) := by decide +kernel
theorem dX7_payRing_15 : decode cX7_payRing 15 = .ok (.iconst 1, 1) := by decide +kernel
theorem dX7_payRing_16 : decode cX7_payRing 16 = .ok (.goto 4, 3) := by decide +kernel
theorem dX7_payRing_19 : decode cX7_payRing 19 = .ok (.iconst 0, 1) := by decide +kernel
theorem dX7_payRing_20 : decode cX7_payRing 20 = .ok (.istore 4, 2) := by decide +kernel
theorem dX7_payRing_22 : decode cX7_payRing 22 = .ok (.iconst 0, 1) := by decide +kernel
theorem dX7_payRing_23 : decode cX7_payRing 23 = .ok (.istore 5, 2) := by decide +kernel
theorem dX7_payRing_25 : decode cX7_payRing 25 = .ok (.iload 5, 2) := by decide +kernel
theorem dX7_payRing_27 : decode cX7_payRing 27 = .ok (.aload_n 0, 1) := by decide +kernel
theorem dX7_payRing_28 : decode cX7_payRing 28 = .ok (.getfield 15, 3) := by decide +kernel
theorem dX7_payRing_31 : decode cX7_payRing 31 = .ok (.iconst 0, 1) := by decide +kernel
theorem dX7_payRing_32 : decode cX7_payRing 32 = .ok (.iaload, 1) := by decide +kernel
theorem dX7_payRing_33 : decode cX7_payRing 33 = .ok (.if_icmp .ge 60, 3) := by decide +kernel
theorem dX7_payRing_36 : decode cX7_payRing 36 = .ok (.iload_n 3, 1) := by decide +kernel
theorem dX7_payRing_37 : decode cX7_payRing 37 = .ok (.iload 5, 2) := by decide +kernel
theorem dX7_payRing_39 : decode cX7_payRing 39 = .ok (.invokestatic 102, 3) := by decide +kernel
theorem dX7_payRing_42 : decode cX7_payRing 42 = .ok (.ifCond .ne 6, 3) := by decide +kernel
theorem dX7_payRing_45 : decode cX7_payRing 45 = .ok (.goto 42, 3) := by decide +kernel
theorem dX7_payRing_48 : decode cX7_payRing 48 = .ok (.aload_n 0, 1) := by decide +kernel
theorem dX7_payRing_49 : decode cX7_payRing 49 = .ok (.getfield 46, 3) := by decide +kernel
theorem dX7_payRing_52 : decode cX7_payRing 52 = .ok (.iload 5, 2) := by decide +kernel
theorem dX7_payRing_54 : decode cX7_payRing 54 = .ok (.aload_n 0, 1) := by decide +kernel
theorem dX7_payRing_55 : decode cX7_payRing 55 = .ok (.iload 5, 2) := by decide +kernel
theorem dX7_payRing_57 : decode cX7_payRing 57 = .ok (.iload_n 2, 1) := by decide +kernel
theorem dX7_payRing_58 : decode cX7_payRing 58 = .ok (.iload 4, 2) := by decide +kernel
theorem dX7_payRing_60 : decode cX7_payRing 60 = .ok (.invokevirtual 135, 3) := by decide +kernel
theorem dX7_payRing_63 : decode cX7_payRing 63 = .ok (.iastore, 1) := by decide +kernel
theorem dX7_payRing_64 : decode cX7_payRing 64 = .ok (.aload_n 0, 1) := by decide +kernel
theorem dX7_payRing_65 : decode cX7_payRing 65 = .ok (.getfield 37, 3) := by decide +kernel
theorem dX7_payRing_68 : decode cX7_payRing 68 = .ok (.iload 5, 2) := by decide +kernel
theorem dX7_payRing_70 : decode cX7_payRing 70 = .ok (.iload 4, 2) := by decide +kernel
theorem dX7_payRing_72 : decode cX7_payRing 72 = .ok (.ifCond .eq 13, 3) := by decide +kernel
theorem dX7_payRing_75 : decode cX7_payRing 75 = .ok (.aload_n 0, 1) := by decide +kernel
theorem dX7_payRing_76 : decode cX7_payRing 76 = .ok (.getfield 46, 3) := by decide +kernel
theorem dX7_payRing_79 : decode cX7_payRing 79 = .ok (.iload 5, 2) := by decide +kernel
theorem dX7_payRing_81 : decode cX7_payRing 81 = .ok (.iaload, 1) := by decide +kernel
theorem dX7_payRing_82 : decode cX7_payRing 82 = .ok (.goto 4, 3) := by decide +kernel
theorem dX7_payRing_85 : decode cX7_payRing 85 = .ok (.iconst 0, 1) := by decide +kernel
theorem dX7_payRing_86 : decode cX7_payRing 86 = .ok (.iastore, 1) := by decide +kernel
theorem dX7_payRing_87 : decode cX7_payRing 87 = .ok (.iinc 5 1, 3) := by decide +kernel
theorem dX7_payRing_90 : decode cX7_payRing 90 = .ok (.goto (-65), 3) := by decide +kernel
theorem dX7_payRing_93 : decode cX7_payRing 93 = .ok (.iload 4, 2) := by decide +kernel
theorem dX7_payRing_95 : decode cX7_payRing 95 = .ok (.ifCond .eq 7, 3) := by decide +kernel
theorem dX7_payRing_98 : decode cX7_payRing 98 = .ok (.iconst 0, 1) := by decide +kernel
theorem dX7_payRing_99 : decode cX7_payRing 99 = .ok (.goto 4, 3) := by decide +kernel
theorem dX7_payRing_102 : decode cX7_payRing 102 = .ok (.iload_n 2, 1) := by decide +kernel
theorem dX7_payRing_103 : decode cX7_payRing 103 = .ok (.istore 5, 2) := by decide +kernel
theorem dX7_payRing_105 : decode cX7_payRing 105 = .ok (.iload 5, 2) := by decide +kernel
theorem dX7_payRing_107 : decode cX7_payRing 107 = .ok (.ifCond .le 7, 3) := by decide +kernel
theorem dX7_payRing_110 : decode cX7_payRing 110 = .ok (.iconst 1, 1) := by decide +kernel
theorem dX7_payRing_111 : decode cX7_payRing 111 = .ok (.goto 4, 3) := by decide +kernel
theorem dX7_payRing_114 : decode cX7_payRing 114 = .ok (.iconst 0, 1) := by decide +kernel
theorem dX7_payRing_115 : decode cX7_payRing 115 = .ok (.istore 6, 2) := by decide +kernel
theorem dX7_payRing_117 : decode cX7_payRing 117 = .ok (.iload 6, 2) := by decide +kernel
theorem dX7_payRing_119 : decode cX7_payRing 119 = .ok (.ifCond .eq 80, 3) := by decide +kernel
theorem dX7_payRing_122 : decode cX7_payRing 122 = .ok (.iconst 0, 1) := by decide +kernel
theorem dX7_payRing_123 : decode cX7_payRing 123 = .ok (.istore 6, 2) := by decide +kernel
theorem dX7_payRing_125 : decode cX7_payRing 125 = .ok (.iconst 0, 1) := by decide +kernel
theorem dX7_payRing_126 : decode cX7_payRing 126 = .ok (.istore 7, 2) := by decide +kernel
theorem dX7_payRing_128 : decode cX7_payRing 128 = .ok (.iload 7, 2) := by decide +kernel
theorem dX7_payRing_130 : decode cX7_payRing 130 = .ok (.aload_n 0, 1) := by decide +kernel
theorem dX7_payRing_131 : decode cX7_payRing 131 = .ok (.getfield 15, 3) := by decide +kernel
theorem dX7_payRing_134 : decode cX7_payRing 134 = .ok (.iconst 0, 1) := by decide +kernel
theorem dX7_payRing_135 : decode cX7_payRing 135 = .ok (.iaload, 1) := by decide +kernel
theorem dX7_payRing_136 : decode cX7_payRing 136 = .ok (.if_icmp .ge 60, 3) := by decide +kernel
theorem dX7_payRing_139 : decode cX7_payRing 139 = .ok (.iload 5, 2) := by decide +kernel
theorem dX7_payRing_141 : decode cX7_payRing 141 = .ok (.ifCond .eq 49, 3) := by decide +kernel
theorem dX7_payRing_144 : decode cX7_payRing 144 = .ok (.iload_n 3, 1) := by decide +kernel
theorem dX7_payRing_145 : decode cX7_payRing 145 = .ok (.iload 7, 2) := by decide +kernel
theorem dX7_payRing_147 : decode cX7_payRing 147 = .ok (.invokestatic 102, 3) := by decide +kernel
theorem dX7_payRing_150 : decode cX7_payRing 150 = .ok (.ifCond .eq 40, 3) := by decide +kernel
theorem dX7_payRing_153 : decode cX7_payRing 153 = .ok (.aload_n 0, 1) := by decide +kernel
theorem dX7_payRing_154 : decode cX7_payRing 154 = .ok (.getfield 37, 3) := by decide +kernel
theorem dX7_payRing_157 : decode cX7_payRing 157 = .ok (.iload 7, 2) := by decide +kernel
theorem dX7_payRing_159 : decode cX7_payRing 159 = .ok (.iaload, 1) := by decide +kernel
theorem dX7_payRing_160 : decode cX7_payRing 160 = .ok (.aload_n 0, 1) := by decide +kernel
theorem dX7_payRing_161 : decode cX7_payRing 161 = .ok (.getfield 46, 3) := by decide +kernel
theorem dX7_payRing_164 : decode cX7_payRing 164 = .ok (.iload 7, 2) := by decide +kernel
theorem dX7_payRing_166 : decode cX7_payRing 166 = .ok (.iaload, 1) := by decide +kernel
theorem dX7_payRing_167 : decode cX7_payRing 167 = .ok (.if_icmp .ne 6, 3) := by decide +kernel
end
section
theorem dX7_payRing_170 : decode cX7_payRing 170 = .ok (.goto 20, 3) := by decide +kernel
theorem dX7_payRing_173 : decode cX7_payRing 173 = .ok (.aload_n 0, 1) := by decide +kernel
theorem dX7_payRing_174 : decode cX7_payRing 174 = .ok (.getfield 37, 3) := by decide +kernel
theorem dX7_payRing_177 : decode cX7_payRing 177 = .ok (.iload 7, 2) := by decide +kernel
theorem dX7_payRing_179 : decode cX7_payRing 179 = .ok (.dup2, 1) := by decide +kernel
theorem dX7_payRing_180 : decode cX7_payRing 180 = .ok (.iaload, 1) := by decide +kernel
theorem dX7_payRing_181 : decode cX7_payRing 181 = .ok (.iconst 1, 1) := by decide +kernel
theorem dX7_payRing_182 : decode cX7_payRing 182 = .ok (.iadd, 1) := by decide +kernel
theorem dX7_payRing_183 : decode cX7_payRing 183 = .ok (.iastore, 1) := by decide +kernel
theorem dX7_payRing_184 : decode cX7_payRing 184 = .ok (.iinc 5 (-1), 3) := by decide +kernel
theorem dX7_payRing_187 : decode cX7_payRing 187 = .ok (.iconst 1, 1) := by decide +kernel
theorem dX7_payRing_188 : decode cX7_payRing 188 = .ok (.istore 6, 2) := by decide +kernel
theorem dX7_payRing_190 : decode cX7_payRing 190 = .ok (.iinc 7 1, 3) := by decide +kernel
theorem dX7_payRing_193 : decode cX7_payRing 193 = .ok (.goto (-65), 3) := by decide +kernel
theorem dX7_payRing_196 : decode cX7_payRing 196 = .ok (.goto (-79), 3) := by decide +kernel
theorem dX7_payRing_199 : decode cX7_payRing 199 = .ok (.return_, 1) := by decide +kernel
theorem dX7_pay_0 : decode cX7_pay 0 = .ok (.aload_n 0, 1) := by decide +kernel
theorem dX7_pay_1 : decode cX7_pay 1 = .ok (.invokevirtual 139, 3) := by decide +kernel
theorem dX7_pay_4 : decode cX7_pay 4 = .ok (.aload_n 0, 1) := by decide +kernel
theorem dX7_pay_5 : decode cX7_pay 5 = .ok (.iconst 0, 1) := by decide +kernel
theorem dX7_pay_6 : decode cX7_pay 6 = .ok (.putfield 142, 3) := by decide +kernel
theorem dX7_pay_9 : decode cX7_pay 9 = .ok (.iconst 0, 1) := by decide +kernel
theorem dX7_pay_10 : decode cX7_pay 10 = .ok (.istore_n 1, 1) := by decide +kernel
theorem dX7_pay_11 : decode cX7_pay 11 = .ok (.iload_n 1, 1) := by decide +kernel
theorem dX7_pay_12 : decode cX7_pay 12 = .ok (.bipush 6, 2) := by decide +kernel
theorem dX7_pay_14 : decode cX7_pay 14 = .ok (.if_icmp .ge 16, 3) := by decide +kernel
theorem dX7_pay_17 : decode cX7_pay 17 = .ok (.aload_n 0, 1) := by decide +kernel
theorem dX7_pay_18 : decode cX7_pay 18 = .ok (.getfield 37, 3) := by decide +kernel
theorem dX7_pay_21 : decode cX7_pay 21 = .ok (.iload_n 1, 1) := by decide +kernel
theorem dX7_pay_22 : decode cX7_pay 22 = .ok (.iconst 0, 1) := by decide +kernel
theorem dX7_pay_23 : decode cX7_pay 23 = .ok (.iastore, 1) := by decide +kernel
theorem dX7_pay_24 : decode cX7_pay 24 = .ok (.iinc 1 1, 3) := by decide +kernel
theorem dX7_pay_27 : decode cX7_pay 27 = .ok (.goto (-16), 3) := by decide +kernel
theorem dX7_pay_30 : decode cX7_pay 30 = .ok (.iconst 0, 1) := by decide +kernel
theorem dX7_pay_31 : decode cX7_pay 31 = .ok (.istore_n 1, 1) := by decide +kernel
theorem dX7_pay_32 : decode cX7_pay 32 = .ok (.iload_n 1, 1) := by decide +kernel
theorem dX7_pay_33 : decode cX7_pay 33 = .ok (.aload_n 0, 1) := by decide +kernel
theorem dX7_pay_34 : decode cX7_pay 34 = .ok (.getfield 115, 3) := by decide +kernel
theorem dX7_pay_37 : decode cX7_pay 37 = .ok (.if_icmp .ge 109, 3) := by decide +kernel
theorem dX7_pay_40 : decode cX7_pay 40 = .ok (.aload_n 0, 1) := by decide +kernel
theorem dX7_pay_41 : decode cX7_pay 41 = .ok (.getfield 40, 3) := by decide +kernel
theorem dX7_pay_44 : decode cX7_pay 44 = .ok (.iload_n 1, 1) := by decide +kernel
theorem dX7_pay_45 : decode cX7_pay 45 = .ok (.aload_n 0, 1) := by decide +kernel
theorem dX7_pay_46 : decode cX7_pay 46 = .ok (.getfield 15, 3) := by decide +kernel
theorem dX7_pay_49 : decode cX7_pay 49 = .ok (.iconst 1, 1) := by decide +kernel
theorem dX7_pay_50 : decode cX7_pay 50 = .ok (.iaload, 1) := by decide +kernel
theorem dX7_pay_51 : decode cX7_pay 51 = .ok (.aload_n 0, 1) := by decide +kernel
theorem dX7_pay_52 : decode cX7_pay 52 = .ok (.getfield 142, 3) := by decide +kernel
theorem dX7_pay_55 : decode cX7_pay 55 = .ok (.isub, 1) := by decide +kernel
theorem dX7_pay_56 : decode cX7_pay 56 = .ok (.iastore, 1) := by decide +kernel
theorem dX7_pay_57 : decode cX7_pay 57 = .ok (.aload_n 0, 1) := by decide +kernel
theorem dX7_pay_58 : decode cX7_pay 58 = .ok (.iload_n 1, 1) := by decide +kernel
theorem dX7_pay_59 : decode cX7_pay 59 = .ok (.aload_n 0, 1) := by decide +kernel
theorem dX7_pay_60 : decode cX7_pay 60 = .ok (.getfield 40, 3) := by decide +kernel
theorem dX7_pay_63 : decode cX7_pay 63 = .ok (.iload_n 1, 1) := by decide +kernel
theorem dX7_pay_64 : decode cX7_pay 64 = .ok (.iaload, 1) := by decide +kernel
theorem dX7_pay_65 : decode cX7_pay 65 = .ok (.invokevirtual 145, 3) := by decide +kernel
theorem dX7_pay_68 : decode cX7_pay 68 = .ok (.aload_n 0, 1) := by decide +kernel
theorem dX7_pay_69 : decode cX7_pay 69 = .ok (.getfield 43, 3) := by decide +kernel
theorem dX7_pay_72 : decode cX7_pay 72 = .ok (.iload_n 1, 1) := by decide +kernel
theorem dX7_pay_73 : decode cX7_pay 73 = .ok (.iconst 0, 1) := by decide +kernel
theorem dX7_pay_74 : decode cX7_pay 74 = .ok (.iastore, 1) := by decide +kernel
theorem dX7_pay_75 : decode cX7_pay 75 = .ok (.iconst 0, 1) := by decide +kernel
theorem dX7_pay_76 : decode cX7_pay 76 = .ok (.istore_n 2, 1) := by decide +kernel
theorem dX7_pay_77 : decode cX7_pay 77 = .ok (.iload_n 2, 1) := by decide +kernel
theorem dX7_pay_78 : decode cX7_pay 78 = .ok (.aload_n 0, 1) := by decide +kernel
theorem dX7_pay_79 : decode cX7_pay 79 = .ok (.getfield 15, 3) := by decide +kernel
theorem dX7_pay_82 : decode cX7_pay 82 = .ok (.iconst 0, 1) := by decide +kernel
theorem dX7_pay_83 : decode cX7_pay 83 = .ok (.iaload, 1) := by decide +kernel
theorem dX7_pay_84 : decode cX7_pay 84 = .ok (.if_icmp .ge 41, 3) := by decide +kernel
theorem dX7_pay_87 : decode cX7_pay 87 = .ok (.aload_n 0, 1) := by decide +kernel
theorem dX7_pay_88 : decode cX7_pay 88 = .ok (.getfield 43, 3) := by decide +kernel
theorem dX7_pay_91 : decode cX7_pay 91 = .ok (.iload_n 1, 1) := by decide +kernel
theorem dX7_pay_92 : decode cX7_pay 92 = .ok (.dup2, 1) := by decide +kernel
theorem dX7_pay_93 : decode cX7_pay 93 = .ok (.iaload, 1) := by decide +kernel
theorem dX7_pay_94 : decode cX7_pay 94 = .ok (.aload_n 0, 1) := by decide +kernel
theorem dX7_pay_95 : decode cX7_pay 95 = .ok (.getfield 34, 3) := by decide +kernel
theorem dX7_pay_98 : decode cX7_pay 98 = .ok (.iload_n 1, 1) := by decide +kernel
theorem dX7_pay_99 : decode cX7_pay 99 = .ok (.iaload, 1) := by decide +kernel
theorem dX7_pay_100 : decode cX7_pay 100 = .ok (.iload_n 2, 1) := by decide +kernel
theorem dX7_pay_101 : decode cX7_pay 101 = .ok (.invokestatic 102, 3) := by decide +kernel
theorem dX7_pay_104 : decode cX7_pay 104 = .ok (.ifCond .eq 12, 3) := by decide +kernel
theorem dX7_pay_107 : decode cX7_pay 107 = .ok (.aload_n 0, 1) := by decide +kernel
theorem dX7_pay_108 : decode cX7_pay 108 = .ok (.getfield 37, 3) := by decide +kernel
theorem dX7_pay_111 : decode cX7_pay 111 = .ok (.iload_n 2, 1) := by decide +kernel
theorem dX7_pay_112 : decode cX7_pay 112 = .ok (.iaload, 1) := by decide +kernel
theorem dX7_pay_113 : decode cX7_pay 113 = .ok (.goto 4, 3) := by decide +kernel
theorem dX7_pay_116 : decode cX7_pay 116 = .ok (.iconst 0, 1) := by decide +kernel
theorem dX7_pay_117 : decode cX7_pay 117 = .ok (.iadd, 1) := by decide +kernel
theorem dX7_pay_118 : decode cX7_pay 118 = .ok (.iastore, 1) := by decide +kernel
theorem dX7_pay_119 : decode cX7_pay 119 = .ok (.iinc 2 1, 3) := by decide +kernel
theorem dX7_pay_122 : decode cX7_pay 122 = .ok (.goto (-45), 3) := by decide +kernel
theorem dX7_pay_125 : decode cX7_pay 125 = .ok (.aload_n 0, 1) := by decide +kernel
theorem dX7_pay_126 : decode cX7_pay 126 = .ok (.dup, 1) := by decide +kernel
theorem dX7_pay_127 : decode cX7_pay 127 = .ok (.getfield 142, 3) := by decide +kernel
theorem dX7_pay_130 : decode cX7_pay 130 = .ok (.aload_n 0, 1) := by decide +kernel
theorem dX7_pay_131 : decode cX7_pay 131 = .ok (.getfield 43, 3) := by decide +kernel
theorem dX7_pay_134 : decode cX7_pay 134 = .ok (.iload_n 1, 1) := by decide +kernel
theorem dX7_pay_135 : decode cX7_pay 135 = .ok (.iaload, 1) := by decide +kernel
theorem dX7_pay_136 : decode cX7_pay 136 = .ok (.iadd, 1) := by decide +kernel
theorem dX7_pay_137 : decode cX7_pay 137 = .ok (.putfield 142, 3) := by decide +kernel
theorem dX7_pay_140 : decode cX7_pay 140 = .ok (.iinc 1 1, 3) := by decide +kernel
theorem dX7_pay_143 : decode cX7_pay 143 = .ok (.goto (-111), 3) := by decide +kernel
theorem dX7_pay_146 : decode cX7_pay 146 = .ok (.return_, 1) := by decide +kernel
theorem dX7_rungAt_0 : decode cX7_rungAt 0 = .ok (.iconst 0, 1) := by decide +kernel
theorem dX7_rungAt_1 : decode cX7_rungAt 1 = .ok (.istore_n 2, 1) := by decide +kernel
theorem dX7_rungAt_2 : decode cX7_rungAt 2 = .ok (.iload_n 2, 1) := by decide +kernel
theorem dX7_rungAt_3 : decode cX7_rungAt 3 = .ok (.aload_n 0, 1) := by decide +kernel
theorem dX7_rungAt_4 : decode cX7_rungAt 4 = .ok (.getfield 115, 3) := by decide +kernel
theorem dX7_rungAt_7 : decode cX7_rungAt 7 = .ok (.if_icmp .ge 24, 3) := by decide +kernel
theorem dX7_rungAt_10 : decode cX7_rungAt 10 = .ok (.aload_n 0, 1) := by decide +kernel
theorem dX7_rungAt_11 : decode cX7_rungAt 11 = .ok (.getfield 34, 3) := by decide +kernel
theorem dX7_rungAt_14 : decode cX7_rungAt 14 = .ok (.iload_n 2, 1) := by decide +kernel
theorem dX7_rungAt_15 : decode cX7_rungAt 15 = .ok (.iaload, 1) := by decide +kernel
theorem dX7_rungAt_16 : decode cX7_rungAt 16 = .ok (.iload_n 1, 1) := by decide +kernel
theorem dX7_rungAt_17 : decode cX7_rungAt 17 = .ok (.invokestatic 102, 3) := by decide +kernel
theorem dX7_rungAt_20 : decode cX7_rungAt 20 = .ok (.ifCond .eq 5, 3) := by decide +kernel
theorem dX7_rungAt_23 : decode cX7_rungAt 23 = .ok (.iload_n 2, 1) := by decide +kernel
theorem dX7_rungAt_24 : decode cX7_rungAt 24 = .ok (.ireturn, 1) := by decide +kernel
theorem dX7_rungAt_25 : decode cX7_rungAt 25 = .ok (.iinc 2 1, 3) := by decide +kernel
theorem dX7_rungAt_28 : decode cX7_rungAt 28 = .ok (.goto (-26), 3) := by decide +kernel
theorem dX7_rungAt_31 : decode cX7_rungAt 31 = .ok (.iconst (-1), 1) := by decide +kernel
theorem dX7_rungAt_32 : decode cX7_rungAt 32 = .ok (.ireturn, 1) := by decide +kernel
theorem dX7_of_0 : decode cX7_of 0 = .ok (.aload_n 0, 1) := by decide +kernel
theorem dX7_of_1 : decode cX7_of 1 = .ok (.iload_n 1, 1) := by decide +kernel
theorem dX7_of_2 : decode cX7_of 2 = .ok (.invokevirtual 92, 3) := by decide +kernel
theorem dX7_of_5 : decode cX7_of 5 = .ok (.ifCond .ne 5, 3) := by decide +kernel
theorem dX7_of_8 : decode cX7_of 8 = .ok (.iconst (-1), 1) := by decide +kernel
theorem dX7_of_9 : decode cX7_of 9 = .ok (.ireturn, 1) := by decide +kernel
theorem dX7_of_10 : decode cX7_of 10 = .ok (.aload_n 0, 1) := by decide +kernel
theorem dX7_of_11 : decode cX7_of 11 = .ok (.invokevirtual 148, 3) := by decide +kernel
theorem dX7_of_14 : decode cX7_of 14 = .ok (.iload_n 2, 1) := by decide +kernel
theorem dX7_of_15 : decode cX7_of 15 = .ok (.tableswitch 147 0 9 #[53, 62, 72, 82, 92, 102, 115, 122, 129, 140], 53) := by decide +kernel
theorem dX7_of_68 : decode cX7_of 68 = .ok (.aload_n 0, 1) := by decide +kernel
theorem dX7_of_69 : decode cX7_of 69 = .ok (.getfield 15, 3) := by decide +kernel
theorem dX7_of_72 : decode cX7_of 72 = .ok (.iconst 5, 1) := by decide +kernel
theorem dX7_of_73 : decode cX7_of 73 = .ok (.iload_n 1, 1) := by decide +kernel
theorem dX7_of_74 : decode cX7_of 74 = .ok (.iadd, 1) := by decide +kernel
theorem dX7_of_75 : decode cX7_of 75 = .ok (.iaload, 1) := by decide +kernel
theorem dX7_of_76 : decode cX7_of 76 = .ok (.ireturn, 1) := by decide +kernel
theorem dX7_of_77 : decode cX7_of 77 = .ok (.aload_n 0, 1) := by decide +kernel
theorem dX7_of_78 : decode cX7_of 78 = .ok (.getfield 15, 3) := by decide +kernel
theorem dX7_of_81 : decode cX7_of 81 = .ok (.bipush 11, 2) := by decide +kernel
theorem dX7_of_83 : decode cX7_of 83 = .ok (.iload_n 1, 1) := by decide +kernel
theorem dX7_of_84 : decode cX7_of 84 = .ok (.iadd, 1) := by decide +kernel
theorem dX7_of_85 : decode cX7_of 85 = .ok (.iaload, 1) := by decide +kernel
theorem dX7_of_86 : decode cX7_of 86 = .ok (.ireturn, 1) := by decide +kernel
theorem dX7_of_87 : decode cX7_of 87 = .ok (.aload_n 0, 1) := by decide +kernel
theorem dX7_of_88 : decode cX7_of 88 = .ok (.getfield 15, 3) := by decide +kernel
theorem dX7_of_91 : decode cX7_of 91 = .ok (.bipush 17, 2) := by decide +kernel
theorem dX7_of_93 : decode cX7_of 93 = .ok (.iload_n 1, 1) := by decide +kernel
theorem dX7_of_94 : decode cX7_of 94 = .ok (.iadd, 1) := by decide +kernel
theorem dX7_of_95 : decode cX7_of 95 = .ok (.iaload, 1) := by decide +kernel
theorem dX7_of_96 : decode cX7_of 96 = .ok (.ireturn, 1) := by decide +kernel
theorem dX7_of_97 : decode cX7_of 97 = .ok (.aload_n 0, 1) := by decide +kernel
theorem dX7_of_98 : decode cX7_of 98 = .ok (.getfield 15, 3) := by decide +kernel
theorem dX7_of_101 : decode cX7_of 101 = .ok (.bipush 23, 2) := by decide +kernel
theorem dX7_of_103 : decode cX7_of 103 = .ok (.iload_n 1, 1) := by decide +kernel
theorem dX7_of_104 : decode cX7_of 104 = .ok (.iadd, 1) := by decide +kernel
theorem dX7_of_105 : decode cX7_of 105 = .ok (.iaload, 1) := by decide +kernel
theorem dX7_of_106 : decode cX7_of 106 = .ok (.ireturn, 1) := by decide +kernel
theorem dX7_of_107 : decode cX7_of 107 = .ok (.aload_n 0, 1) := by decide +kernel
theorem dX7_of_108 : decode cX7_of 108 = .ok (.getfield 15, 3) := by decide +kernel
theorem dX7_of_111 : decode cX7_of 111 = .ok (.bipush 29, 2) := by decide +kernel
theorem dX7_of_113 : decode cX7_of 113 = .ok (.iload_n 1, 1) := by decide +kernel
theorem dX7_of_114 : decode cX7_of 114 = .ok (.iadd, 1) := by decide +kernel
theorem dX7_of_115 : decode cX7_of 115 = .ok (.iaload, 1) := by decide +kernel
theorem dX7_of_116 : decode cX7_of 116 = .ok (.ireturn, 1) := by decide +kernel
theorem dX7_of_117 : decode cX7_of 117 = .ok (.aload_n 0, 1) := by decide +kernel
theorem dX7_of_118 : decode cX7_of 118 = .ok (.getfield 25, 3) := by decide +kernel
theorem dX7_of_121 : decode cX7_of 121 = .ok (.iload_n 1, 1) := by decide +kernel
theorem dX7_of_122 : decode cX7_of 122 = .ok (.iaload, 1) := by decide +kernel
theorem dX7_of_123 : decode cX7_of 123 = .ok (.iconst 1, 1) := by decide +kernel
theorem dX7_of_124 : decode cX7_of 124 = .ok (.iload_n 1, 1) := by decide +kernel
theorem dX7_of_125 : decode cX7_of 125 = .ok (.ishl, 1) := by decide +kernel
theorem dX7_of_126 : decode cX7_of 126 = .ok (.iconst (-1), 1) := by decide +kernel
theorem dX7_of_127 : decode cX7_of 127 = .ok (.ixor, 1) := by decide +kernel
theorem dX7_of_128 : decode cX7_of 128 = .ok (.iand, 1) := by decide +kernel
theorem dX7_of_129 : decode cX7_of 129 = .ok (.ireturn, 1) := by decide +kernel
theorem dX7_of_130 : decode cX7_of 130 = .ok (.aload_n 0, 1) := by decide +kernel
theorem dX7_of_131 : decode cX7_of 131 = .ok (.getfield 28, 3) := by decide +kernel
theorem dX7_of_134 : decode cX7_of 134 = .ok (.iload_n 1, 1) := by decide +kernel
theorem dX7_of_135 : decode cX7_of 135 = .ok (.iaload, 1) := by decide +kernel
theorem dX7_of_136 : decode cX7_of 136 = .ok (.ireturn, 1) := by decide +kernel
theorem dX7_of_137 : decode cX7_of 137 = .ok (.aload_n 0, 1) := by decide +kernel
theorem dX7_of_138 : decode cX7_of 138 = .ok (.getfield 31, 3) := by decide +kernel
theorem dX7_of_141 : decode cX7_of 141 = .ok (.iload_n 1, 1) := by decide +kernel
theorem dX7_of_142 : decode cX7_of 142 = .ok (.iaload, 1) := by decide +kernel
theorem dX7_of_143 : decode cX7_of 143 = .ok (.ireturn, 1) := by decide +kernel
theorem dX7_of_144 : decode cX7_of 144 = .ok (.aload_n 0, 1) := by decide +kernel
theorem dX7_of_145 : decode cX7_of 145 = .ok (.getfield 40, 3) := by decide +kernel
theorem dX7_of_148 : decode cX7_of 148 = .ok (.aload_n 0, 1) := by decide +kernel
theorem dX7_of_149 : decode cX7_of 149 = .ok (.iload_n 1, 1) := by decide +kernel
theorem dX7_of_150 : decode cX7_of 150 = .ok (.invokevirtual 151, 3) := by decide +kernel
theorem dX7_of_153 : decode cX7_of 153 = .ok (.iaload, 1) := by decide +kernel
theorem dX7_of_154 : decode cX7_of 154 = .ok (.ireturn, 1) := by decide +kernel
theorem dX7_of_155 : decode cX7_of 155 = .ok (.aload_n 0, 1) := by decide +kernel
theorem dX7_of_156 : decode cX7_of 156 = .ok (.getfield 37, 3) := by decide +kernel
theorem dX7_of_159 : decode cX7_of 159 = .ok (.iload_n 1, 1) := by decide +kernel
theorem dX7_of_160 : decode cX7_of 160 = .ok (.iaload, 1) := by decide +kernel
theorem dX7_of_161 : decode cX7_of 161 = .ok (.ireturn, 1) := by decide +kernel
theorem dX7_of_162 : decode cX7_of 162 = .ok (.iconst (-1), 1) := by decide +kernel
theorem dX7_of_163 : decode cX7_of 163 = .ok (.ireturn, 1) := by decide +kernel
theorem dX7_feed_0 : decode cX7_feed 0 = .ok (.iload_n 1, 1) := by decide +kernel
theorem dX7_feed_1 : decode cX7_feed 1 = .ok (.i2l, 1) := by decide +kernel
theorem dX7_feed_2 : decode cX7_feed 2 = .ok (.lconst 0, 1) := by decide +kernel
theorem dX7_feed_3 : decode cX7_feed 3 = .ok (.ldc2_w 154, 3) := by decide +kernel
theorem dX7_feed_6 : decode cX7_feed 6 = .ok (.invokestatic 80, 3) := by decide +kernel
theorem dX7_feed_9 : decode cX7_feed 9 = .ok (.ifCond .ne 6, 3) := by decide +kernel
theorem dX7_feed_12 : decode cX7_feed 12 = .ok (.bipush (-2), 2) := by decide +kernel
theorem dX7_feed_14 : decode cX7_feed 14 = .ok (.ireturn, 1) := by decide +kernel
theorem dX7_feed_15 : decode cX7_feed 15 = .ok (.aload_n 0, 1) := by decide +kernel
theorem dX7_feed_16 : decode cX7_feed 16 = .ok (.getfield 156, 3) := by decide +kernel
theorem dX7_feed_19 : decode cX7_feed 19 = .ok (.bipush 100, 2) := by decide +kernel
theorem dX7_feed_21 : decode cX7_feed 21 = .ok (.if_icmp .ne 6, 3) := by decide +kernel
theorem dX7_feed_24 : decode cX7_feed 24 = .ok (.bipush (-4), 2) := by decide +kernel
theorem dX7_feed_26 : decode cX7_feed 26 = .ok (.ireturn, 1) := by decide +kernel
theorem dX7_feed_27 : decode cX7_feed 27 = .ok (.aload_n 0, 1) := by decide +kernel
theorem dX7_feed_28 : decode cX7_feed 28 = .ok (.getfield 49, 3) := by decide +kernel
theorem dX7_feed_31 : decode cX7_feed 31 = .ok (.aload_n 0, 1) := by decide +kernel
theorem dX7_feed_32 : decode cX7_feed 32 = .ok (.getfield 156, 3) := by decide +kernel
theorem dX7_feed_35 : decode cX7_feed 35 = .ok (.iload_n 1, 1) := by decide +kernel
theorem dX7_feed_36 : decode cX7_feed 36 = .ok (.iastore, 1) := by decide +kernel
theorem dX7_feed_37 : decode cX7_feed 37 = .ok (.aload_n 0, 1) := by decide +kernel
theorem dX7_feed_38 : decode cX7_feed 38 = .ok (.dup, 1) := by decide +kernel
theorem dX7_feed_39 : decode cX7_feed 39 = .ok (.getfield 156, 3) := by decide +kernel
theorem dX7_feed_42 : decode cX7_feed 42 = .ok (.iconst 1, 1) := by decide +kernel
theorem dX7_feed_43 : decode cX7_feed 43 = .ok (.iadd, 1) := by decide +kernel
theorem dX7_feed_44 : decode cX7_feed 44 = .ok (.putfield 156, 3) := by decide +kernel
theorem dX7_feed_47 : decode cX7_feed 47 = .ok (.aload_n 0, 1) := by decide +kernel
theorem dX7_feed_48 : decode cX7_feed 48 = .ok (.getfield 156, 3) := by decide +kernel
theorem dX7_feed_51 : decode cX7_feed 51 = .ok (.ireturn, 1) := by decide +kernel
theorem dX7_here_0 : decode cX7_here 0 = .ok (.aload_n 0, 1) := by decide +kernel
theorem dX7_here_1 : decode cX7_here 1 = .ok (.getfield 159, 3) := by decide +kernel
theorem dX7_here_4 : decode cX7_here 4 = .ok (.aload_n 0, 1) := by decide +kernel
theorem dX7_here_5 : decode cX7_here 5 = .ok (.getfield 156, 3) := by decide +kernel
theorem dX7_here_8 : decode cX7_here 8 = .ok (.if_icmp .ge 15, 3) := by decide +kernel
theorem dX7_here_11 : decode cX7_here 11 = .ok (.aload_n 0, 1) := by decide +kernel
theorem dX7_here_12 : decode cX7_here 12 = .ok (.getfield 49, 3) := by decide +kernel
theorem dX7_here_15 : decode cX7_here 15 = .ok (.aload_n 0, 1) := by decide +kernel
theorem dX7_here_16 : decode cX7_here 16 = .ok (.getfield 159, 3) := by decide +kernel
theorem dX7_here_19 : decode cX7_here 19 = .ok (.iaload, 1) := by decide +kernel
theorem dX7_here_20 : decode cX7_here 20 = .ok (.goto 4, 3) := by decide +kernel
theorem dX7_here_23 : decode cX7_here 23 = .ok (.iconst (-1), 1) := by decide +kernel
theorem dX7_here_24 : decode cX7_here 24 = .ok (.ireturn, 1) := by decide +kernel
theorem dX7_number_0 : decode cX7_number 0 = .ok (.iconst 0, 1) := by decide +kernel
theorem dX7_number_1 : decode cX7_number 1 = .ok (.istore_n 2, 1) := by decide +kernel
theorem dX7_number_2 : decode cX7_number 2 = .ok (.iconst 0, 1) := by decide +kernel
theorem dX7_number_3 : decode cX7_number 3 = .ok (.istore_n 3, 1) := by decide +kernel
theorem dX7_number_4 : decode cX7_number 4 = .ok (.aload_n 0, 1) := by decide +kernel
theorem dX7_number_5 : decode cX7_number 5 = .ok (.getfield 162, 3) := by decide +kernel
theorem dX7_number_8 : decode cX7_number 8 = .ok (.ifCond .ne 59, 3) := by decide +kernel
theorem dX7_number_11 : decode cX7_number 11 = .ok (.iload_n 3, 1) := by decide +kernel
theorem dX7_number_12 : decode cX7_number 12 = .ok (.iload_n 1, 1) := by decide +kernel
theorem dX7_number_13 : decode cX7_number 13 = .ok (.if_icmp .ge 54, 3) := by decide +kernel
theorem dX7_number_16 : decode cX7_number 16 = .ok (.aload_n 0, 1) := by decide +kernel
theorem dX7_number_17 : decode cX7_number 17 = .ok (.invokevirtual 166, 3) := by decide +kernel
theorem dX7_number_20 : decode cX7_number 20 = .ok (.i2l, 1) := by decide +kernel
theorem dX7_number_21 : decode cX7_number 21 = .ok (.ldc2_w 170, 3) := by decide +kernel
theorem dX7_number_24 : decode cX7_number 24 = .ok (.ldc2_w 172, 3) := by decide +kernel
theorem dX7_number_27 : decode cX7_number 27 = .ok (.invokestatic 80, 3) := by decide +kernel
theorem dX7_number_30 : decode cX7_number 30 = .ok (.ifCond .eq 37, 3) := by decide +kernel
theorem dX7_number_33 : decode cX7_number 33 = .ok (.bipush 10, 2) := by decide +kernel
theorem dX7_number_35 : decode cX7_number 35 = .ok (.iload_n 2, 1) := by decide +kernel
theorem dX7_number_36 : decode cX7_number 36 = .ok (.imul, 1) := by decide +kernel
theorem dX7_number_37 : decode cX7_number 37 = .ok (.aload_n 0, 1) := by decide +kernel
theorem dX7_number_38 : decode cX7_number 38 = .ok (.getfield 49, 3) := by decide +kernel
theorem dX7_number_41 : decode cX7_number 41 = .ok (.aload_n 0, 1) := by decide +kernel
theorem dX7_number_42 : decode cX7_number 42 = .ok (.getfield 159, 3) := by decide +kernel
theorem dX7_number_45 : decode cX7_number 45 = .ok (.iaload, 1) := by decide +kernel
theorem dX7_number_46 : decode cX7_number 46 = .ok (.iadd, 1) := by decide +kernel
theorem dX7_number_47 : decode cX7_number 47 = .ok (.bipush 48, 2) := by decide +kernel
theorem dX7_number_49 : decode cX7_number 49 = .ok (.isub, 1) := by decide +kernel
theorem dX7_number_50 : decode cX7_number 50 = .ok (.istore_n 2, 1) := by decide +kernel
theorem dX7_number_51 : decode cX7_number 51 = .ok (.aload_n 0, 1) := by decide +kernel
theorem dX7_number_52 : decode cX7_number 52 = .ok (.dup, 1) := by decide +kernel
theorem dX7_number_53 : decode cX7_number 53 = .ok (.getfield 159, 3) := by decide +kernel
theorem dX7_number_56 : decode cX7_number 56 = .ok (.iconst 1, 1) := by decide +kernel
theorem dX7_number_57 : decode cX7_number 57 = .ok (.iadd, 1) := by decide +kernel
theorem dX7_number_58 : decode cX7_number 58 = .ok (.putfield 159, 3) := by decide +kernel
theorem dX7_number_61 : decode cX7_number 61 = .ok (.iinc 3 1, 3) := by decide +kernel
theorem dX7_number_64 : decode cX7_number 64 = .ok (.goto (-60), 3) := by decide +kernel
theorem dX7_number_67 : decode cX7_number 67 = .ok (.aload_n 0, 1) := by decide +kernel
theorem dX7_number_68 : decode cX7_number 68 = .ok (.aload_n 0, 1) := by decide +kernel
theorem dX7_number_69 : decode cX7_number 69 = .ok (.getfield 162, 3) := by decide +kernel
theorem dX7_number_72 : decode cX7_number 72 = .ok (.ifCond .ne 7, 3) := by decide +kernel
theorem dX7_number_75 : decode cX7_number 75 = .ok (.iload_n 3, 1) := by decide +kernel
theorem dX7_number_76 : decode cX7_number 76 = .ok (.ifCond .ne 7, 3) := by decide +kernel
theorem dX7_number_79 : decode cX7_number 79 = .ok (.iconst 1, 1) := by decide +kernel
theorem dX7_number_80 : decode cX7_number 80 = .ok (.goto 4, 3) := by decide +kernel
theorem dX7_number_83 : decode cX7_number 83 = .ok (.iconst 0, 1) := by decide +kernel
theorem dX7_number_84 : decode cX7_number 84 = .ok (.putfield 162, 3) := by decide +kernel
theorem dX7_number_87 : decode cX7_number 87 = .ok (.iload_n 2, 1) := by decide +kernel
theorem dX7_number_88 : decode cX7_number 88 = .ok (.ireturn, 1) := by decide +kernel
theorem dX7_comma_0 : decode cX7_comma 0 = .ok (.aload_n 0, 1) := by decide +kernel
theorem dX7_comma_1 : decode cX7_comma 1 = .ok (.getfield 162, 3) := by decide +kernel
theorem dX7_comma_4 : decode cX7_comma 4 = .ok (.ifCond .ne 12, 3) := by decide +kernel
theorem dX7_comma_7 : decode cX7_comma 7 = .ok (.aload_n 0, 1) := by decide +kernel
theorem dX7_comma_8 : decode cX7_comma 8 = .ok (.invokevirtual 166, 3) := by decide +kernel
theorem dX7_comma_11 : decode cX7_comma 11 = .ok (.bipush 44, 2) := by decide +kernel
theorem dX7_comma_13 : decode cX7_comma 13 = .ok (.if_icmp .eq 9, 3) := by decide +kernel
theorem dX7_comma_16 : decode cX7_comma 16 = .ok (.aload_n 0, 1) := by decide +kernel
theorem dX7_comma_17 : decode cX7_comma 17 = .ok (.iconst 1, 1) := by decide +kernel
theorem dX7_comma_18 : decode cX7_comma 18 = .ok (.putfield 162, 3) := by decide +kernel
theorem dX7_comma_21 : decode cX7_comma 21 = .ok (.return_, 1) := by decide +kernel
theorem dX7_comma_22 : decode cX7_comma 22 = .ok (.aload_n 0, 1) := by decide +kernel
theorem dX7_comma_23 : decode cX7_comma 23 = .ok (.dup, 1) := by decide +kernel
theorem dX7_comma_24 : decode cX7_comma 24 = .ok (.getfield 159, 3) := by decide +kernel
theorem dX7_comma_27 : decode cX7_comma 27 = .ok (.iconst 1, 1) := by decide +kernel
theorem dX7_comma_28 : decode cX7_comma 28 = .ok (.iadd, 1) := by decide +kernel
theorem dX7_comma_29 : decode cX7_comma 29 = .ok (.putfield 159, 3) := by decide +kernel
theorem dX7_comma_32 : decode cX7_comma 32 = .ok (.return_, 1) := by decide +kernel
theorem dX7_clause_0 : decode cX7_clause 0 = .ok (.aload_n 0, 1) := by decide +kernel
theorem dX7_clause_1 : decode cX7_clause 1 = .ok (.invokevirtual 166, 3) := by decide +kernel
theorem dX7_clause_4 : decode cX7_clause 4 = .ok (.istore_n 1, 1) := by decide +kernel
theorem dX7_clause_5 : decode cX7_clause 5 = .ok (.aload_n 0, 1) := by decide +kernel
theorem dX7_clause_6 : decode cX7_clause 6 = .ok (.getfield 174, 3) := by decide +kernel
theorem dX7_clause_9 : decode cX7_clause 9 = .ok (.bipush 12, 2) := by decide +kernel
theorem dX7_clause_11 : decode cX7_clause 11 = .ok (.if_icmp .eq 33, 3) := by decide +kernel
theorem dX7_clause_14 : decode cX7_clause 14 = .ok (.iload_n 1, 1) := by decide +kernel
theorem dX7_clause_15 : decode cX7_clause 15 = .ok (.bipush 99, 2) := by decide +kernel
theorem dX7_clause_17 : decode cX7_clause 17 = .ok (.if_icmp .eq 33, 3) := by decide +kernel
theorem dX7_clause_20 : decode cX7_clause 20 = .ok (.iload_n 1, 1) := by decide +kernel
theorem dX7_clause_21 : decode cX7_clause 21 = .ok (.bipush 114, 2) := by decide +kernel
theorem dX7_clause_23 : decode cX7_clause 23 = .ok (.if_icmp .eq 27, 3) := by decide +kernel
theorem dX7_clause_26 : decode cX7_clause 26 = .ok (.iload_n 1, 1) := by decide +kernel
theorem dX7_clause_27 : decode cX7_clause 27 = .ok (.bipush 110, 2) := by decide +kernel
theorem dX7_clause_29 : decode cX7_clause 29 = .ok (.if_icmp .eq 21, 3) := by decide +kernel
theorem dX7_clause_32 : decode cX7_clause 32 = .ok (.iload_n 1, 1) := by decide +kernel
theorem dX7_clause_33 : decode cX7_clause 33 = .ok (.bipush 113, 2) := by decide +kernel
theorem dX7_clause_35 : decode cX7_clause 35 = .ok (.if_icmp .eq 15, 3) := by decide +kernel
theorem dX7_clause_38 : decode cX7_clause 38 = .ok (.iload_n 1, 1) := by decide +kernel
theorem dX7_clause_39 : decode cX7_clause 39 = .ok (.bipush 108, 2) := by decide +kernel
theorem dX7_clause_41 : decode cX7_clause 41 = .ok (.if_icmp .eq 9, 3) := by decide +kernel
theorem dX7_clause_44 : decode cX7_clause 44 = .ok (.aload_n 0, 1) := by decide +kernel
theorem dX7_clause_45 : decode cX7_clause 45 = .ok (.iconst 1, 1) := by decide +kernel
theorem dX7_clause_46 : decode cX7_clause 46 = .ok (.putfield 162, 3) := by decide +kernel
theorem dX7_clause_49 : decode cX7_clause 49 = .ok (.return_, 1) := by decide +kernel
theorem dX7_clause_50 : decode cX7_clause 50 = .ok (.aload_n 0, 1) := by decide +kernel
theorem dX7_clause_51 : decode cX7_clause 51 = .ok (.dup, 1) := by decide +kernel
theorem dX7_clause_52 : decode cX7_clause 52 = .ok (.getfield 159, 3) := by decide +kernel
theorem dX7_clause_55 : decode cX7_clause 55 = .ok (.iconst 1, 1) := by decide +kernel
theorem dX7_clause_56 : decode cX7_clause 56 = .ok (.iadd, 1) := by decide +kernel
theorem dX7_clause_57 : decode cX7_clause 57 = .ok (.putfield 159, 3) := by decide +kernel
theorem dX7_clause_60 : decode cX7_clause 60 = .ok (.aload_n 0, 1) := by decide +kernel
theorem dX7_clause_61 : decode cX7_clause 61 = .ok (.getfield 52, 3) := by decide +kernel
theorem dX7_clause_64 : decode cX7_clause 64 = .ok (.aload_n 0, 1) := by decide +kernel
theorem dX7_clause_65 : decode cX7_clause 65 = .ok (.getfield 174, 3) := by decide +kernel
theorem dX7_clause_68 : decode cX7_clause 68 = .ok (.iload_n 1, 1) := by decide +kernel
theorem dX7_clause_69 : decode cX7_clause 69 = .ok (.iastore, 1) := by decide +kernel
theorem dX7_clause_70 : decode cX7_clause 70 = .ok (.aload_n 0, 1) := by decide +kernel
theorem dX7_clause_71 : decode cX7_clause 71 = .ok (.getfield 55, 3) := by decide +kernel
theorem dX7_clause_74 : decode cX7_clause 74 = .ok (.aload_n 0, 1) := by decide +kernel
theorem dX7_clause_75 : decode cX7_clause 75 = .ok (.getfield 174, 3) := by decide +kernel
theorem dX7_clause_78 : decode cX7_clause 78 = .ok (.aload_n 0, 1) := by decide +kernel
theorem dX7_clause_79 : decode cX7_clause 79 = .ok (.iload_n 1, 1) := by decide +kernel
theorem dX7_clause_80 : decode cX7_clause 80 = .ok (.bipush 108, 2) := by decide +kernel
theorem dX7_clause_82 : decode cX7_clause 82 = .ok (.if_icmp .ne 7, 3) := by decide +kernel
theorem dX7_clause_85 : decode cX7_clause 85 = .ok (.iconst 3, 1) := by decide +kernel
theorem dX7_clause_86 : decode cX7_clause 86 = .ok (.goto 4, 3) := by decide +kernel
theorem dX7_clause_89 : decode cX7_clause 89 = .ok (.iconst 1, 1) := by decide +kernel
theorem dX7_clause_90 : decode cX7_clause 90 = .ok (.invokevirtual 177, 3) := by decide +kernel
theorem dX7_clause_93 : decode cX7_clause 93 = .ok (.iastore, 1) := by decide +kernel
theorem dX7_clause_94 : decode cX7_clause 94 = .ok (.aload_n 0, 1) := by decide +kernel
theorem dX7_clause_95 : decode cX7_clause 95 = .ok (.getfield 58, 3) := by decide +kernel
theorem dX7_clause_98 : decode cX7_clause 98 = .ok (.aload_n 0, 1) := by decide +kernel
theorem dX7_clause_99 : decode cX7_clause 99 = .ok (.getfield 174, 3) := by decide +kernel
theorem dX7_clause_102 : decode cX7_clause 102 = .ok (.iload_n 1, 1) := by decide +kernel
theorem dX7_clause_103 : decode cX7_clause 103 = .ok (.bipush 108, 2) := by decide +kernel
theorem dX7_clause_105 : decode cX7_clause 105 = .ok (.if_icmp .ne 7, 3) := by decide +kernel
theorem dX7_clause_108 : decode cX7_clause 108 = .ok (.iconst 0, 1) := by decide +kernel
theorem dX7_clause_109 : decode cX7_clause 109 = .ok (.goto 28, 3) := by decide +kernel
theorem dX7_clause_112 : decode cX7_clause 112 = .ok (.aload_n 0, 1) := by decide +kernel
theorem dX7_clause_113 : decode cX7_clause 113 = .ok (.iload_n 1, 1) := by decide +kernel
theorem dX7_clause_114 : decode cX7_clause 114 = .ok (.bipush 99, 2) := by decide +kernel
theorem dX7_clause_116 : decode cX7_clause 116 = .ok (.if_icmp .ne 7, 3) := by decide +kernel
theorem dX7_clause_119 : decode cX7_clause 119 = .ok (.iconst 2, 1) := by decide +kernel
theorem dX7_clause_120 : decode cX7_clause 120 = .ok (.goto 14, 3) := by decide +kernel
theorem dX7_clause_123 : decode cX7_clause 123 = .ok (.iload_n 1, 1) := by decide +kernel
theorem dX7_clause_124 : decode cX7_clause 124 = .ok (.bipush 113, 2) := by decide +kernel
theorem dX7_clause_126 : decode cX7_clause 126 = .ok (.if_icmp .ne 7, 3) := by decide +kernel
theorem dX7_clause_129 : decode cX7_clause 129 = .ok (.iconst 3, 1) := by decide +kernel
theorem dX7_clause_130 : decode cX7_clause 130 = .ok (.goto 4, 3) := by decide +kernel
theorem dX7_clause_133 : decode cX7_clause 133 = .ok (.iconst 1, 1) := by decide +kernel
theorem dX7_clause_134 : decode cX7_clause 134 = .ok (.invokevirtual 177, 3) := by decide +kernel
theorem dX7_clause_137 : decode cX7_clause 137 = .ok (.iastore, 1) := by decide +kernel
theorem dX7_clause_138 : decode cX7_clause 138 = .ok (.iload_n 1, 1) := by decide +kernel
theorem dX7_clause_139 : decode cX7_clause 139 = .ok (.bipush 99, 2) := by decide +kernel
theorem dX7_clause_141 : decode cX7_clause 141 = .ok (.if_icmp .ne 7, 3) := by decide +kernel
theorem dX7_clause_144 : decode cX7_clause 144 = .ok (.aload_n 0, 1) := by decide +kernel
theorem dX7_clause_145 : decode cX7_clause 145 = .ok (.invokevirtual 180, 3) := by decide +kernel
theorem dX7_clause_148 : decode cX7_clause 148 = .ok (.aload_n 0, 1) := by decide +kernel
theorem dX7_clause_149 : decode cX7_clause 149 = .ok (.getfield 61, 3) := by decide +kernel
theorem dX7_clause_152 : decode cX7_clause 152 = .ok (.aload_n 0, 1) := by decide +kernel
theorem dX7_clause_153 : decode cX7_clause 153 = .ok (.getfield 174, 3) := by decide +kernel
theorem dX7_clause_156 : decode cX7_clause 156 = .ok (.iload_n 1, 1) := by decide +kernel
theorem dX7_clause_157 : decode cX7_clause 157 = .ok (.bipush 99, 2) := by decide +kernel
theorem dX7_clause_159 : decode cX7_clause 159 = .ok (.if_icmp .ne 11, 3) := by decide +kernel
theorem dX7_clause_162 : decode cX7_clause 162 = .ok (.aload_n 0, 1) := by decide +kernel
theorem dX7_clause_163 : decode cX7_clause 163 = .ok (.iconst 2, 1) := by decide +kernel
theorem dX7_clause_164 : decode cX7_clause 164 = .ok (.invokevirtual 177, 3) := by decide +kernel
theorem dX7_clause_167 : decode cX7_clause 167 = .ok (.goto 4, 3) := by decide +kernel
theorem dX7_clause_170 : decode cX7_clause 170 = .ok (.iconst 0, 1) := by decide +kernel
theorem dX7_clause_171 : decode cX7_clause 171 = .ok (.iastore, 1) := by decide +kernel
theorem dX7_clause_172 : decode cX7_clause 172 = .ok (.aload_n 0, 1) := by decide +kernel
theorem dX7_clause_173 : decode cX7_clause 173 = .ok (.dup, 1) := by decide +kernel
theorem dX7_clause_174 : decode cX7_clause 174 = .ok (.getfield 174, 3) := by decide +kernel
theorem dX7_clause_177 : decode cX7_clause 177 = .ok (.iconst 1, 1) := by decide +kernel
theorem dX7_clause_178 : decode cX7_clause 178 = .ok (.iadd, 1) := by decide +kernel
theorem dX7_clause_179 : decode cX7_clause 179 = .ok (.putfield 174, 3) := by decide +kernel
theorem dX7_clause_182 : decode cX7_clause 182 = .ok (.return_, 1) := by decide +kernel
theorem dX7_isDone_0 : decode cX7_isDone 0 = .ok (.aload_n 0, 1) := by decide +kernel
theorem dX7_isDone_1 : decode cX7_isDone 1 = .ok (.getfield 52, 3) := by decide +kernel
theorem dX7_isDone_4 : decode cX7_isDone 4 = .ok (.iload_n 1, 1) := by decide +kernel
theorem dX7_isDone_5 : decode cX7_isDone 5 = .ok (.iaload, 1) := by decide +kernel
theorem dX7_isDone_6 : decode cX7_isDone 6 = .ok (.lookupswitch 151 #[(99, 42), (110, 99), (113, 125), (114, 73)], 42) := by decide +kernel
theorem dX7_isDone_48 : decode cX7_isDone 48 = .ok (.aload_n 0, 1) := by decide +kernel
theorem dX7_isDone_49 : decode cX7_isDone 49 = .ok (.aload_n 0, 1) := by decide +kernel
theorem dX7_isDone_50 : decode cX7_isDone 50 = .ok (.getfield 55, 3) := by decide +kernel
theorem dX7_isDone_53 : decode cX7_isDone 53 = .ok (.iload_n 1, 1) := by decide +kernel
theorem dX7_isDone_54 : decode cX7_isDone 54 = .ok (.iaload, 1) := by decide +kernel
theorem dX7_isDone_55 : decode cX7_isDone 55 = .ok (.aload_n 0, 1) := by decide +kernel
theorem dX7_isDone_56 : decode cX7_isDone 56 = .ok (.getfield 58, 3) := by decide +kernel
theorem dX7_isDone_59 : decode cX7_isDone 59 = .ok (.iload_n 1, 1) := by decide +kernel
theorem dX7_isDone_60 : decode cX7_isDone 60 = .ok (.iaload, 1) := by decide +kernel
theorem dX7_isDone_61 : decode cX7_isDone 61 = .ok (.aload_n 0, 1) := by decide +kernel
theorem dX7_isDone_62 : decode cX7_isDone 62 = .ok (.getfield 61, 3) := by decide +kernel
theorem dX7_isDone_65 : decode cX7_isDone 65 = .ok (.iload_n 1, 1) := by decide +kernel
theorem dX7_isDone_66 : decode cX7_isDone 66 = .ok (.iaload, 1) := by decide +kernel
theorem dX7_isDone_67 : decode cX7_isDone 67 = .ok (.invokevirtual 183, 3) := by decide +kernel
theorem dX7_isDone_70 : decode cX7_isDone 70 = .ok (.ifCond .lt 7, 3) := by decide +kernel
theorem dX7_isDone_73 : decode cX7_isDone 73 = .ok (.iconst 1, 1) := by decide +kernel
theorem dX7_isDone_74 : decode cX7_isDone 74 = .ok (.goto 4, 3) := by decide +kernel
theorem dX7_isDone_77 : decode cX7_isDone 77 = .ok (.iconst 0, 1) := by decide +kernel
theorem dX7_isDone_78 : decode cX7_isDone 78 = .ok (.ireturn, 1) := by decide +kernel
theorem dX7_isDone_79 : decode cX7_isDone 79 = .ok (.aload_n 0, 1) := by decide +kernel
theorem dX7_isDone_80 : decode cX7_isDone 80 = .ok (.aload_n 0, 1) := by decide +kernel
theorem dX7_isDone_81 : decode cX7_isDone 81 = .ok (.getfield 55, 3) := by decide +kernel
theorem dX7_isDone_84 : decode cX7_isDone 84 = .ok (.iload_n 1, 1) := by decide +kernel
theorem dX7_isDone_85 : decode cX7_isDone 85 = .ok (.iaload, 1) := by decide +kernel
theorem dX7_isDone_86 : decode cX7_isDone 86 = .ok (.aload_n 0, 1) := by decide +kernel
theorem dX7_isDone_87 : decode cX7_isDone 87 = .ok (.getfield 58, 3) := by decide +kernel
theorem dX7_isDone_90 : decode cX7_isDone 90 = .ok (.iload_n 1, 1) := by decide +kernel
theorem dX7_isDone_91 : decode cX7_isDone 91 = .ok (.iaload, 1) := by decide +kernel
theorem dX7_isDone_92 : decode cX7_isDone 92 = .ok (.iconst 1, 1) := by decide +kernel
theorem dX7_isDone_93 : decode cX7_isDone 93 = .ok (.invokevirtual 187, 3) := by decide +kernel
theorem dX7_isDone_96 : decode cX7_isDone 96 = .ok (.ifCond .lt 7, 3) := by decide +kernel
theorem dX7_isDone_99 : decode cX7_isDone 99 = .ok (.iconst 1, 1) := by decide +kernel
theorem dX7_isDone_100 : decode cX7_isDone 100 = .ok (.goto 4, 3) := by decide +kernel
theorem dX7_isDone_103 : decode cX7_isDone 103 = .ok (.iconst 0, 1) := by decide +kernel
theorem dX7_isDone_104 : decode cX7_isDone 104 = .ok (.ireturn, 1) := by decide +kernel
theorem dX7_isDone_105 : decode cX7_isDone 105 = .ok (.aload_n 0, 1) := by decide +kernel
theorem dX7_isDone_106 : decode cX7_isDone 106 = .ok (.aload_n 0, 1) := by decide +kernel
theorem dX7_isDone_107 : decode cX7_isDone 107 = .ok (.getfield 55, 3) := by decide +kernel
theorem dX7_isDone_110 : decode cX7_isDone 110 = .ok (.iload_n 1, 1) := by decide +kernel
theorem dX7_isDone_111 : decode cX7_isDone 111 = .ok (.iaload, 1) := by decide +kernel
theorem dX7_isDone_112 : decode cX7_isDone 112 = .ok (.aload_n 0, 1) := by decide +kernel
theorem dX7_isDone_113 : decode cX7_isDone 113 = .ok (.getfield 58, 3) := by decide +kernel
theorem dX7_isDone_116 : decode cX7_isDone 116 = .ok (.iload_n 1, 1) := by decide +kernel
theorem dX7_isDone_117 : decode cX7_isDone 117 = .ok (.iaload, 1) := by decide +kernel
theorem dX7_isDone_118 : decode cX7_isDone 118 = .ok (.iconst 0, 1) := by decide +kernel
theorem dX7_isDone_119 : decode cX7_isDone 119 = .ok (.invokevirtual 187, 3) := by decide +kernel
theorem dX7_isDone_122 : decode cX7_isDone 122 = .ok (.ifCond .lt 7, 3) := by decide +kernel
theorem dX7_isDone_125 : decode cX7_isDone 125 = .ok (.iconst 1, 1) := by decide +kernel
theorem dX7_isDone_126 : decode cX7_isDone 126 = .ok (.goto 4, 3) := by decide +kernel
theorem dX7_isDone_129 : decode cX7_isDone 129 = .ok (.iconst 0, 1) := by decide +kernel
theorem dX7_isDone_130 : decode cX7_isDone 130 = .ok (.ireturn, 1) := by decide +kernel
theorem dX7_isDone_131 : decode cX7_isDone 131 = .ok (.aload_n 0, 1) := by decide +kernel
theorem dX7_isDone_132 : decode cX7_isDone 132 = .ok (.aload_n 0, 1) := by decide +kernel
theorem dX7_isDone_133 : decode cX7_isDone 133 = .ok (.getfield 55, 3) := by decide +kernel
theorem dX7_isDone_136 : decode cX7_isDone 136 = .ok (.iload_n 1, 1) := by decide +kernel
theorem dX7_isDone_137 : decode cX7_isDone 137 = .ok (.iaload, 1) := by decide +kernel
theorem dX7_isDone_138 : decode cX7_isDone 138 = .ok (.iconst 3, 1) := by decide +kernel
theorem dX7_isDone_139 : decode cX7_isDone 139 = .ok (.aload_n 0, 1) := by decide +kernel
theorem dX7_isDone_140 : decode cX7_isDone 140 = .ok (.getfield 58, 3) := by decide +kernel
theorem dX7_isDone_143 : decode cX7_isDone 143 = .ok (.iload_n 1, 1) := by decide +kernel
theorem dX7_isDone_144 : decode cX7_isDone 144 = .ok (.iaload, 1) := by decide +kernel
theorem dX7_isDone_145 : decode cX7_isDone 145 = .ok (.invokevirtual 190, 3) := by decide +kernel
theorem dX7_isDone_148 : decode cX7_isDone 148 = .ok (.ifCond .lt 7, 3) := by decide +kernel
theorem dX7_isDone_151 : decode cX7_isDone 151 = .ok (.iconst 1, 1) := by decide +kernel
theorem dX7_isDone_152 : decode cX7_isDone 152 = .ok (.goto 4, 3) := by decide +kernel
theorem dX7_isDone_155 : decode cX7_isDone 155 = .ok (.iconst 0, 1) := by decide +kernel
theorem dX7_isDone_156 : decode cX7_isDone 156 = .ok (.ireturn, 1) := by decide +kernel
theorem dX7_isDone_157 : decode cX7_isDone 157 = .ok (.aload_n 0, 1) := by decide +kernel
theorem dX7_isDone_158 : decode cX7_isDone 158 = .ok (.aload_n 0, 1) := by decide +kernel
theorem dX7_isDone_159 : decode cX7_isDone 159 = .ok (.getfield 55, 3) := by decide +kernel
theorem dX7_isDone_162 : decode cX7_isDone 162 = .ok (.iload_n 1, 1) := by decide +kernel
theorem dX7_isDone_163 : decode cX7_isDone 163 = .ok (.iaload, 1) := by decide +kernel
theorem dX7_isDone_164 : decode cX7_isDone 164 = .ok (.invokevirtual 193, 3) := by decide +kernel
theorem dX7_isDone_167 : decode cX7_isDone 167 = .ok (.ifCond .lt 7, 3) := by decide +kernel
theorem dX7_isDone_170 : decode cX7_isDone 170 = .ok (.iconst 1, 1) := by decide +kernel
theorem dX7_isDone_171 : decode cX7_isDone 171 = .ok (.goto 4, 3) := by decide +kernel
theorem dX7_isDone_174 : decode cX7_isDone 174 = .ok (.iconst 0, 1) := by decide +kernel
theorem dX7_isDone_175 : decode cX7_isDone 175 = .ok (.ireturn, 1) := by decide +kernel
theorem dX7_read_0 : decode cX7_read 0 = .ok (.aload_n 0, 1) := by decide +kernel
theorem dX7_read_1 : decode cX7_read 1 = .ok (.iconst 0, 1) := by decide +kernel
theorem dX7_read_2 : decode cX7_read 2 = .ok (.putfield 159, 3) := by decide +kernel
theorem dX7_read_5 : decode cX7_read 5 = .ok (.aload_n 0, 1) := by decide +kernel
theorem dX7_read_6 : decode cX7_read 6 = .ok (.iconst 0, 1) := by decide +kernel
theorem dX7_read_7 : decode cX7_read 7 = .ok (.putfield 162, 3) := by decide +kernel
theorem dX7_read_10 : decode cX7_read 10 = .ok (.aload_n 0, 1) := by decide +kernel
theorem dX7_read_11 : decode cX7_read 11 = .ok (.iconst 0, 1) := by decide +kernel
theorem dX7_read_12 : decode cX7_read 12 = .ok (.putfield 174, 3) := by decide +kernel
theorem dX7_read_15 : decode cX7_read 15 = .ok (.aload_n 0, 1) := by decide +kernel
theorem dX7_read_16 : decode cX7_read 16 = .ok (.invokevirtual 196, 3) := by decide +kernel
theorem dX7_read_19 : decode cX7_read 19 = .ok (.aload_n 0, 1) := by decide +kernel
theorem dX7_read_20 : decode cX7_read 20 = .ok (.getfield 162, 3) := by decide +kernel
theorem dX7_read_23 : decode cX7_read 23 = .ok (.ifCond .ne 38, 3) := by decide +kernel
theorem dX7_read_26 : decode cX7_read 26 = .ok (.aload_n 0, 1) := by decide +kernel
theorem dX7_read_27 : decode cX7_read 27 = .ok (.invokevirtual 166, 3) := by decide +kernel
theorem dX7_read_30 : decode cX7_read 30 = .ok (.bipush 59, 2) := by decide +kernel
theorem dX7_read_32 : decode cX7_read 32 = .ok (.if_icmp .ne 29, 3) := by decide +kernel
theorem dX7_read_35 : decode cX7_read 35 = .ok (.aload_n 0, 1) := by decide +kernel
theorem dX7_read_36 : decode cX7_read 36 = .ok (.getfield 174, 3) := by decide +kernel
theorem dX7_read_39 : decode cX7_read 39 = .ok (.bipush 12, 2) := by decide +kernel
theorem dX7_read_41 : decode cX7_read 41 = .ok (.if_icmp .ge 20, 3) := by decide +kernel
theorem dX7_read_44 : decode cX7_read 44 = .ok (.aload_n 0, 1) := by decide +kernel
theorem dX7_read_45 : decode cX7_read 45 = .ok (.dup, 1) := by decide +kernel
theorem dX7_read_46 : decode cX7_read 46 = .ok (.getfield 159, 3) := by decide +kernel
theorem dX7_read_49 : decode cX7_read 49 = .ok (.iconst 1, 1) := by decide +kernel
theorem dX7_read_50 : decode cX7_read 50 = .ok (.iadd, 1) := by decide +kernel
theorem dX7_read_51 : decode cX7_read 51 = .ok (.putfield 159, 3) := by decide +kernel
theorem dX7_read_54 : decode cX7_read 54 = .ok (.aload_n 0, 1) := by decide +kernel
theorem dX7_read_55 : decode cX7_read 55 = .ok (.invokevirtual 196, 3) := by decide +kernel
theorem dX7_read_58 : decode cX7_read 58 = .ok (.goto (-39), 3) := by decide +kernel
theorem dX7_read_61 : decode cX7_read 61 = .ok (.aload_n 0, 1) := by decide +kernel
theorem dX7_read_62 : decode cX7_read 62 = .ok (.aload_n 0, 1) := by decide +kernel
theorem dX7_read_63 : decode cX7_read 63 = .ok (.getfield 162, 3) := by decide +kernel
theorem dX7_read_66 : decode cX7_read 66 = .ok (.ifCond .ne 14, 3) := by decide +kernel
theorem dX7_read_69 : decode cX7_read 69 = .ok (.aload_n 0, 1) := by decide +kernel
theorem dX7_read_70 : decode cX7_read 70 = .ok (.getfield 159, 3) := by decide +kernel
theorem dX7_read_73 : decode cX7_read 73 = .ok (.aload_n 0, 1) := by decide +kernel
theorem dX7_read_74 : decode cX7_read 74 = .ok (.getfield 156, 3) := by decide +kernel
theorem dX7_read_77 : decode cX7_read 77 = .ok (.if_icmp .ge 7, 3) := by decide +kernel
theorem dX7_read_80 : decode cX7_read 80 = .ok (.iconst 1, 1) := by decide +kernel
theorem dX7_read_81 : decode cX7_read 81 = .ok (.goto 4, 3) := by decide +kernel
theorem dX7_read_84 : decode cX7_read 84 = .ok (.iconst 0, 1) := by decide +kernel
theorem dX7_read_85 : decode cX7_read 85 = .ok (.putfield 162, 3) := by decide +kernel
theorem dX7_read_88 : decode cX7_read 88 = .ok (.aload_n 0, 1) := by decide +kernel
theorem dX7_read_89 : decode cX7_read 89 = .ok (.iconst 0, 1) := by decide +kernel
theorem dX7_read_90 : decode cX7_read 90 = .ok (.putfield 156, 3) := by decide +kernel
theorem dX7_read_93 : decode cX7_read 93 = .ok (.aload_n 0, 1) := by decide +kernel
theorem dX7_read_94 : decode cX7_read 94 = .ok (.getfield 162, 3) := by decide +kernel
theorem dX7_read_97 : decode cX7_read 97 = .ok (.ifCond .eq 11, 3) := by decide +kernel
theorem dX7_read_100 : decode cX7_read 100 = .ok (.bipush (-10), 2) := by decide +kernel
theorem dX7_read_102 : decode cX7_read 102 = .ok (.aload_n 0, 1) := by decide +kernel
theorem dX7_read_103 : decode cX7_read 103 = .ok (.getfield 159, 3) := by decide +kernel
theorem dX7_read_106 : decode cX7_read 106 = .ok (.isub, 1) := by decide +kernel
theorem dX7_read_107 : decode cX7_read 107 = .ok (.ireturn, 1) := by decide +kernel
theorem dX7_read_108 : decode cX7_read 108 = .ok (.iconst 0, 1) := by decide +kernel
theorem dX7_read_109 : decode cX7_read 109 = .ok (.istore_n 1, 1) := by decide +kernel
theorem dX7_read_110 : decode cX7_read 110 = .ok (.iconst 0, 1) := by decide +kernel
theorem dX7_read_111 : decode cX7_read 111 = .ok (.istore_n 2, 1) := by decide +kernel
theorem dX7_read_112 : decode cX7_read 112 = .ok (.iload_n 2, 1) := by decide +kernel
theorem dX7_read_113 : decode cX7_read 113 = .ok (.aload_n 0, 1) := by decide +kernel
theorem dX7_read_114 : decode cX7_read 114 = .ok (.getfield 174, 3) := by decide +kernel
theorem dX7_read_117 : decode cX7_read 117 = .ok (.if_icmp .ge 20, 3) := by decide +kernel
theorem dX7_read_120 : decode cX7_read 120 = .ok (.aload_n 0, 1) := by decide +kernel
theorem dX7_read_121 : decode cX7_read 121 = .ok (.iload_n 2, 1) := by decide +kernel
theorem dX7_read_122 : decode cX7_read 122 = .ok (.invokevirtual 199, 3) := by decide +kernel
theorem dX7_read_125 : decode cX7_read 125 = .ok (.ifCond .eq 6, 3) := by decide +kernel
theorem dX7_read_128 : decode cX7_read 128 = .ok (.iinc 1 1, 3) := by decide +kernel
theorem dX7_read_131 : decode cX7_read 131 = .ok (.iinc 2 1, 3) := by decide +kernel
theorem dX7_read_134 : decode cX7_read 134 = .ok (.goto (-22), 3) := by decide +kernel
theorem dX7_read_137 : decode cX7_read 137 = .ok (.iload_n 1, 1) := by decide +kernel
theorem dX7_read_138 : decode cX7_read 138 = .ok (.ireturn, 1) := by decide +kernel
theorem dX7_ring_0 : decode cX7_ring 0 = .ok (.aload_n 0, 1) := by decide +kernel
theorem dX7_ring_1 : decode cX7_ring 1 = .ok (.invokevirtual 148, 3) := by decide +kernel
theorem dX7_ring_4 : decode cX7_ring 4 = .ok (.iload_n 1, 1) := by decide +kernel
theorem dX7_ring_5 : decode cX7_ring 5 = .ok (.i2l, 1) := by decide +kernel
theorem dX7_ring_6 : decode cX7_ring 6 = .ok (.lconst 0, 1) := by decide +kernel
theorem dX7_ring_7 : decode cX7_ring 7 = .ok (.aload_n 0, 1) := by decide +kernel
theorem dX7_ring_8 : decode cX7_ring 8 = .ok (.getfield 115, 3) := by decide +kernel
theorem dX7_ring_11 : decode cX7_ring 11 = .ok (.iconst 1, 1) := by decide +kernel
theorem dX7_ring_12 : decode cX7_ring 12 = .ok (.isub, 1) := by decide +kernel
theorem dX7_ring_13 : decode cX7_ring 13 = .ok (.i2l, 1) := by decide +kernel
theorem dX7_ring_14 : decode cX7_ring 14 = .ok (.invokestatic 80, 3) := by decide +kernel
theorem dX7_ring_17 : decode cX7_ring 17 = .ok (.ifCond .eq 15, 3) := by decide +kernel
theorem dX7_ring_20 : decode cX7_ring 20 = .ok (.iload_n 2, 1) := by decide +kernel
theorem dX7_ring_21 : decode cX7_ring 21 = .ok (.i2l, 1) := by decide +kernel
theorem dX7_ring_22 : decode cX7_ring 22 = .ok (.lconst 0, 1) := by decide +kernel
theorem dX7_ring_23 : decode cX7_ring 23 = .ok (.ldc2_w 84, 3) := by decide +kernel
theorem dX7_ring_26 : decode cX7_ring 26 = .ok (.invokestatic 80, 3) := by decide +kernel
theorem dX7_ring_29 : decode cX7_ring 29 = .ok (.ifCond .ne 5, 3) := by decide +kernel
theorem dX7_ring_32 : decode cX7_ring 32 = .ok (.iconst (-1), 1) := by decide +kernel
theorem dX7_ring_33 : decode cX7_ring 33 = .ok (.ireturn, 1) := by decide +kernel
theorem dX7_ring_34 : decode cX7_ring 34 = .ok (.iload_n 2, 1) := by decide +kernel
theorem dX7_ring_35 : decode cX7_ring 35 = .ok (.ifCond .ne 10, 3) := by decide +kernel
theorem dX7_ring_38 : decode cX7_ring 38 = .ok (.aload_n 0, 1) := by decide +kernel
theorem dX7_ring_39 : decode cX7_ring 39 = .ok (.getfield 34, 3) := by decide +kernel
theorem dX7_ring_42 : decode cX7_ring 42 = .ok (.iload_n 1, 1) := by decide +kernel
theorem dX7_ring_43 : decode cX7_ring 43 = .ok (.iaload, 1) := by decide +kernel
theorem dX7_ring_44 : decode cX7_ring 44 = .ok (.ireturn, 1) := by decide +kernel
theorem dX7_ring_45 : decode cX7_ring 45 = .ok (.iload_n 2, 1) := by decide +kernel
theorem dX7_ring_46 : decode cX7_ring 46 = .ok (.iconst 1, 1) := by decide +kernel
theorem dX7_ring_47 : decode cX7_ring 47 = .ok (.if_icmp .le 24, 3) := by decide +kernel
theorem dX7_ring_50 : decode cX7_ring 50 = .ok (.iload_n 2, 1) := by decide +kernel
theorem dX7_ring_51 : decode cX7_ring 51 = .ok (.iconst 2, 1) := by decide +kernel
theorem dX7_ring_52 : decode cX7_ring 52 = .ok (.if_icmp .ne 12, 3) := by decide +kernel
theorem dX7_ring_55 : decode cX7_ring 55 = .ok (.aload_n 0, 1) := by decide +kernel
theorem dX7_ring_56 : decode cX7_ring 56 = .ok (.getfield 40, 3) := by decide +kernel
theorem dX7_ring_59 : decode cX7_ring 59 = .ok (.iload_n 1, 1) := by decide +kernel
theorem dX7_ring_60 : decode cX7_ring 60 = .ok (.iaload, 1) := by decide +kernel
theorem dX7_ring_61 : decode cX7_ring 61 = .ok (.goto 9, 3) := by decide +kernel
theorem dX7_ring_64 : decode cX7_ring 64 = .ok (.aload_n 0, 1) := by decide +kernel
theorem dX7_ring_65 : decode cX7_ring 65 = .ok (.getfield 43, 3) := by decide +kernel
theorem dX7_ring_68 : decode cX7_ring 68 = .ok (.iload_n 1, 1) := by decide +kernel
theorem dX7_ring_69 : decode cX7_ring 69 = .ok (.iaload, 1) := by decide +kernel
theorem dX7_ring_70 : decode cX7_ring 70 = .ok (.ireturn, 1) := by decide +kernel
theorem dX7_ring_71 : decode cX7_ring 71 = .ok (.iconst 0, 1) := by decide +kernel
theorem dX7_ring_72 : decode cX7_ring 72 = .ok (.istore_n 3, 1) := by decide +kernel
theorem dX7_ring_73 : decode cX7_ring 73 = .ok (.iload_n 3, 1) := by decide +kernel
theorem dX7_ring_74 : decode cX7_ring 74 = .ok (.aload_n 0, 1) := by decide +kernel
theorem dX7_ring_75 : decode cX7_ring 75 = .ok (.getfield 15, 3) := by decide +kernel
theorem dX7_ring_78 : decode cX7_ring 78 = .ok (.iconst 0, 1) := by decide +kernel
theorem dX7_ring_79 : decode cX7_ring 79 = .ok (.iaload, 1) := by decide +kernel
theorem dX7_ring_80 : decode cX7_ring 80 = .ok (.if_icmp .ge 29, 3) := by decide +kernel
theorem dX7_ring_83 : decode cX7_ring 83 = .ok (.aload_n 0, 1) := by decide +kernel
theorem dX7_ring_84 : decode cX7_ring 84 = .ok (.getfield 34, 3) := by decide +kernel
theorem dX7_ring_87 : decode cX7_ring 87 = .ok (.iload_n 1, 1) := by decide +kernel
theorem dX7_ring_88 : decode cX7_ring 88 = .ok (.iaload, 1) := by decide +kernel
theorem dX7_ring_89 : decode cX7_ring 89 = .ok (.iload_n 3, 1) := by decide +kernel
theorem dX7_ring_90 : decode cX7_ring 90 = .ok (.invokestatic 102, 3) := by decide +kernel
theorem dX7_ring_93 : decode cX7_ring 93 = .ok (.ifCond .eq 10, 3) := by decide +kernel
theorem dX7_ring_96 : decode cX7_ring 96 = .ok (.aload_n 0, 1) := by decide +kernel
theorem dX7_ring_97 : decode cX7_ring 97 = .ok (.getfield 31, 3) := by decide +kernel
theorem dX7_ring_100 : decode cX7_ring 100 = .ok (.iload_n 3, 1) := by decide +kernel
theorem dX7_ring_101 : decode cX7_ring 101 = .ok (.iaload, 1) := by decide +kernel
theorem dX7_ring_102 : decode cX7_ring 102 = .ok (.ireturn, 1) := by decide +kernel
theorem dX7_ring_103 : decode cX7_ring 103 = .ok (.iinc 3 1, 3) := by decide +kernel
theorem dX7_ring_106 : decode cX7_ring 106 = .ok (.goto (-33), 3) := by decide +kernel
theorem dX7_ring_109 : decode cX7_ring 109 = .ok (.iconst (-1), 1) := by decide +kernel
theorem dX7_ring_110 : decode cX7_ring 110 = .ok (.ireturn, 1) := by decide +kernel
theorem dX7_pays_0 : decode cX7_pays 0 = .ok (.aload_n 0, 1) := by decide +kernel
theorem dX7_pays_1 : decode cX7_pays 1 = .ok (.iload_n 1, 1) := by decide +kernel
theorem dX7_pays_2 : decode cX7_pays 2 = .ok (.bipush 9, 2) := by decide +kernel
theorem dX7_pays_4 : decode cX7_pays 4 = .ok (.invokevirtual 202, 3) := by decide +kernel
theorem dX7_pays_7 : decode cX7_pays 7 = .ok (.ireturn, 1) := by decide +kernel
theorem dX7_payers_0 : decode cX7_payers 0 = .ok (.iconst 0, 1) := by decide +kernel
theorem dX7_payers_1 : decode cX7_payers 1 = .ok (.istore_n 1, 1) := by decide +kernel
theorem dX7_payers_2 : decode cX7_payers 2 = .ok (.iconst 0, 1) := by decide +kernel
theorem dX7_payers_3 : decode cX7_payers 3 = .ok (.istore_n 2, 1) := by decide +kernel
theorem dX7_payers_4 : decode cX7_payers 4 = .ok (.iload_n 2, 1) := by decide +kernel
theorem dX7_payers_5 : decode cX7_payers 5 = .ok (.aload_n 0, 1) := by decide +kernel
theorem dX7_payers_6 : decode cX7_payers 6 = .ok (.getfield 15, 3) := by decide +kernel
theorem dX7_payers_9 : decode cX7_payers 9 = .ok (.iconst 0, 1) := by decide +kernel
theorem dX7_payers_10 : decode cX7_payers 10 = .ok (.iaload, 1) := by decide +kernel
theorem dX7_payers_11 : decode cX7_payers 11 = .ok (.if_icmp .ge 21, 3) := by decide +kernel
theorem dX7_payers_14 : decode cX7_payers 14 = .ok (.aload_n 0, 1) := by decide +kernel
theorem dX7_payers_15 : decode cX7_payers 15 = .ok (.getfield 37, 3) := by decide +kernel
theorem dX7_payers_18 : decode cX7_payers 18 = .ok (.iload_n 2, 1) := by decide +kernel
theorem dX7_payers_19 : decode cX7_payers 19 = .ok (.iaload, 1) := by decide +kernel
theorem dX7_payers_20 : decode cX7_payers 20 = .ok (.ifCond .le 6, 3) := by decide +kernel
theorem dX7_payers_23 : decode cX7_payers 23 = .ok (.iinc 1 1, 3) := by decide +kernel
theorem dX7_payers_26 : decode cX7_payers 26 = .ok (.iinc 2 1, 3) := by decide +kernel
theorem dX7_payers_29 : decode cX7_payers 29 = .ok (.goto (-25), 3) := by decide +kernel
theorem dX7_payers_32 : decode cX7_payers 32 = .ok (.iload_n 1, 1) := by decide +kernel
theorem dX7_payers_33 : decode cX7_payers 33 = .ok (.ireturn, 1) := by decide +kernel
theorem dX7_severals_0 : decode cX7_severals 0 = .ok (.iconst 0, 1) := by decide +kernel
theorem dX7_severals_1 : decode cX7_severals 1 = .ok (.istore_n 1, 1) := by decide +kernel
theorem dX7_severals_2 : decode cX7_severals 2 = .ok (.iconst 0, 1) := by decide +kernel
theorem dX7_severals_3 : decode cX7_severals 3 = .ok (.istore_n 2, 1) := by decide +kernel
theorem dX7_severals_4 : decode cX7_severals 4 = .ok (.iload_n 2, 1) := by decide +kernel
theorem dX7_severals_5 : decode cX7_severals 5 = .ok (.aload_n 0, 1) := by decide +kernel
theorem dX7_severals_6 : decode cX7_severals 6 = .ok (.getfield 115, 3) := by decide +kernel
theorem dX7_severals_9 : decode cX7_severals 9 = .ok (.if_icmp .ge 25, 3) := by decide +kernel
theorem dX7_severals_12 : decode cX7_severals 12 = .ok (.aload_n 0, 1) := by decide +kernel
theorem dX7_severals_13 : decode cX7_severals 13 = .ok (.getfield 34, 3) := by decide +kernel
theorem dX7_severals_16 : decode cX7_severals 16 = .ok (.iload_n 2, 1) := by decide +kernel
theorem dX7_severals_17 : decode cX7_severals 17 = .ok (.iaload, 1) := by decide +kernel
theorem dX7_severals_18 : decode cX7_severals 18 = .ok (.invokestatic 132, 3) := by decide +kernel
theorem dX7_severals_21 : decode cX7_severals 21 = .ok (.iconst 1, 1) := by decide +kernel
theorem dX7_severals_22 : decode cX7_severals 22 = .ok (.if_icmp .le 6, 3) := by decide +kernel
theorem dX7_severals_25 : decode cX7_severals 25 = .ok (.iinc 1 1, 3) := by decide +kernel
theorem dX7_severals_28 : decode cX7_severals 28 = .ok (.iinc 2 1, 3) := by decide +kernel
theorem dX7_severals_31 : decode cX7_severals 31 = .ok (.goto (-27), 3) := by decide +kernel
theorem dX7_severals_34 : decode cX7_severals 34 = .ok (.iload_n 1, 1) := by decide +kernel
theorem dX7_severals_35 : decode cX7_severals 35 = .ok (.ireturn, 1) := by decide +kernel
theorem dX7_greatestRung_0 : decode cX7_greatestRung 0 = .ok (.bipush (-5), 2) := by decide +kernel
theorem dX7_greatestRung_2 : decode cX7_greatestRung 2 = .ok (.istore_n 1, 1) := by decide +kernel
theorem dX7_greatestRung_3 : decode cX7_greatestRung 3 = .ok (.iconst 0, 1) := by decide +kernel
theorem dX7_greatestRung_4 : decode cX7_greatestRung 4 = .ok (.istore_n 2, 1) := by decide +kernel
theorem dX7_greatestRung_5 : decode cX7_greatestRung 5 = .ok (.iload_n 2, 1) := by decide +kernel
theorem dX7_greatestRung_6 : decode cX7_greatestRung 6 = .ok (.aload_n 0, 1) := by decide +kernel
theorem dX7_greatestRung_7 : decode cX7_greatestRung 7 = .ok (.getfield 15, 3) := by decide +kernel
theorem dX7_greatestRung_10 : decode cX7_greatestRung 10 = .ok (.iconst 0, 1) := by decide +kernel
theorem dX7_greatestRung_11 : decode cX7_greatestRung 11 = .ok (.iaload, 1) := by decide +kernel
theorem dX7_greatestRung_12 : decode cX7_greatestRung 12 = .ok (.if_icmp .ge 30, 3) := by decide +kernel
theorem dX7_greatestRung_15 : decode cX7_greatestRung 15 = .ok (.aload_n 0, 1) := by decide +kernel
theorem dX7_greatestRung_16 : decode cX7_greatestRung 16 = .ok (.getfield 31, 3) := by decide +kernel
theorem dX7_greatestRung_19 : decode cX7_greatestRung 19 = .ok (.iload_n 2, 1) := by decide +kernel
theorem dX7_greatestRung_20 : decode cX7_greatestRung 20 = .ok (.iaload, 1) := by decide +kernel
theorem dX7_greatestRung_21 : decode cX7_greatestRung 21 = .ok (.iload_n 1, 1) := by decide +kernel
theorem dX7_greatestRung_22 : decode cX7_greatestRung 22 = .ok (.if_icmp .le 12, 3) := by decide +kernel
theorem dX7_greatestRung_25 : decode cX7_greatestRung 25 = .ok (.aload_n 0, 1) := by decide +kernel
theorem dX7_greatestRung_26 : decode cX7_greatestRung 26 = .ok (.getfield 31, 3) := by decide +kernel
theorem dX7_greatestRung_29 : decode cX7_greatestRung 29 = .ok (.iload_n 2, 1) := by decide +kernel
theorem dX7_greatestRung_30 : decode cX7_greatestRung 30 = .ok (.iaload, 1) := by decide +kernel
theorem dX7_greatestRung_31 : decode cX7_greatestRung 31 = .ok (.goto 4, 3) := by decide +kernel
theorem dX7_greatestRung_34 : decode cX7_greatestRung 34 = .ok (.iload_n 1, 1) := by decide +kernel
theorem dX7_greatestRung_35 : decode cX7_greatestRung 35 = .ok (.istore_n 1, 1) := by decide +kernel
theorem dX7_greatestRung_36 : decode cX7_greatestRung 36 = .ok (.iinc 2 1, 3) := by decide +kernel
theorem dX7_greatestRung_39 : decode cX7_greatestRung 39 = .ok (.goto (-34), 3) := by decide +kernel
theorem dX7_greatestRung_42 : decode cX7_greatestRung 42 = .ok (.iload_n 1, 1) := by decide +kernel
theorem dX7_greatestRung_43 : decode cX7_greatestRung 43 = .ok (.ireturn, 1) := by decide +kernel
theorem dX7_references_0 : decode cX7_references 0 = .ok (.iconst 0, 1) := by decide +kernel
theorem dX7_references_1 : decode cX7_references 1 = .ok (.istore_n 1, 1) := by decide +kernel
theorem dX7_references_2 : decode cX7_references 2 = .ok (.iconst 0, 1) := by decide +kernel
theorem dX7_references_3 : decode cX7_references 3 = .ok (.istore_n 2, 1) := by decide +kernel
theorem dX7_references_4 : decode cX7_references 4 = .ok (.iload_n 2, 1) := by decide +kernel
theorem dX7_references_5 : decode cX7_references 5 = .ok (.aload_n 0, 1) := by decide +kernel
theorem dX7_references_6 : decode cX7_references 6 = .ok (.getfield 15, 3) := by decide +kernel
theorem dX7_references_9 : decode cX7_references 9 = .ok (.iconst 0, 1) := by decide +kernel
theorem dX7_references_10 : decode cX7_references 10 = .ok (.iaload, 1) := by decide +kernel
theorem dX7_references_11 : decode cX7_references 11 = .ok (.if_icmp .ge 24, 3) := by decide +kernel
theorem dX7_references_14 : decode cX7_references 14 = .ok (.iload_n 1, 1) := by decide +kernel
theorem dX7_references_15 : decode cX7_references 15 = .ok (.aload_n 0, 1) := by decide +kernel
theorem dX7_references_16 : decode cX7_references 16 = .ok (.getfield 15, 3) := by decide +kernel
theorem dX7_references_19 : decode cX7_references 19 = .ok (.bipush 29, 2) := by decide +kernel
theorem dX7_references_21 : decode cX7_references 21 = .ok (.iload_n 2, 1) := by decide +kernel
theorem dX7_references_22 : decode cX7_references 22 = .ok (.iadd, 1) := by decide +kernel
theorem dX7_references_23 : decode cX7_references 23 = .ok (.iaload, 1) := by decide +kernel
theorem dX7_references_24 : decode cX7_references 24 = .ok (.invokestatic 132, 3) := by decide +kernel
theorem dX7_references_27 : decode cX7_references 27 = .ok (.iadd, 1) := by decide +kernel
theorem dX7_references_28 : decode cX7_references 28 = .ok (.istore_n 1, 1) := by decide +kernel
theorem dX7_references_29 : decode cX7_references 29 = .ok (.iinc 2 1, 3) := by decide +kernel
theorem dX7_references_32 : decode cX7_references 32 = .ok (.goto (-28), 3) := by decide +kernel
theorem dX7_references_35 : decode cX7_references 35 = .ok (.iload_n 1, 1) := by decide +kernel
theorem dX7_references_36 : decode cX7_references 36 = .ok (.ireturn, 1) := by decide +kernel
theorem dX7_told_0 : decode cX7_told 0 = .ok (.aload_n 0, 1) := by decide +kernel
theorem dX7_told_1 : decode cX7_told 1 = .ok (.invokevirtual 148, 3) := by decide +kernel
theorem dX7_told_4 : decode cX7_told 4 = .ok (.iload_n 1, 1) := by decide +kernel
theorem dX7_told_5 : decode cX7_told 5 = .ok (.tableswitch 107 0 8 #[51, 58, 65, 70, 82, 87, 92, 97, 102], 51) := by decide +kernel
theorem dX7_told_56 : decode cX7_told 56 = .ok (.aload_n 0, 1) := by decide +kernel
theorem dX7_told_57 : decode cX7_told 57 = .ok (.getfield 15, 3) := by decide +kernel
theorem dX7_told_60 : decode cX7_told 60 = .ok (.iconst 0, 1) := by decide +kernel
theorem dX7_told_61 : decode cX7_told 61 = .ok (.iaload, 1) := by decide +kernel
theorem dX7_told_62 : decode cX7_told 62 = .ok (.ireturn, 1) := by decide +kernel
theorem dX7_told_63 : decode cX7_told 63 = .ok (.aload_n 0, 1) := by decide +kernel
theorem dX7_told_64 : decode cX7_told 64 = .ok (.getfield 15, 3) := by decide +kernel
theorem dX7_told_67 : decode cX7_told 67 = .ok (.iconst 1, 1) := by decide +kernel
theorem dX7_told_68 : decode cX7_told 68 = .ok (.iaload, 1) := by decide +kernel
theorem dX7_told_69 : decode cX7_told 69 = .ok (.ireturn, 1) := by decide +kernel
theorem dX7_told_70 : decode cX7_told 70 = .ok (.aload_n 0, 1) := by decide +kernel
theorem dX7_told_71 : decode cX7_told 71 = .ok (.getfield 142, 3) := by decide +kernel
theorem dX7_told_74 : decode cX7_told 74 = .ok (.ireturn, 1) := by decide +kernel
theorem dX7_told_75 : decode cX7_told 75 = .ok (.aload_n 0, 1) := by decide +kernel
theorem dX7_told_76 : decode cX7_told 76 = .ok (.getfield 15, 3) := by decide +kernel
theorem dX7_told_79 : decode cX7_told 79 = .ok (.iconst 1, 1) := by decide +kernel
theorem dX7_told_80 : decode cX7_told 80 = .ok (.iaload, 1) := by decide +kernel
theorem dX7_told_81 : decode cX7_told 81 = .ok (.aload_n 0, 1) := by decide +kernel
theorem dX7_told_82 : decode cX7_told 82 = .ok (.getfield 142, 3) := by decide +kernel
theorem dX7_told_85 : decode cX7_told 85 = .ok (.isub, 1) := by decide +kernel
theorem dX7_told_86 : decode cX7_told 86 = .ok (.ireturn, 1) := by decide +kernel
theorem dX7_told_87 : decode cX7_told 87 = .ok (.aload_n 0, 1) := by decide +kernel
theorem dX7_told_88 : decode cX7_told 88 = .ok (.getfield 115, 3) := by decide +kernel
theorem dX7_told_91 : decode cX7_told 91 = .ok (.ireturn, 1) := by decide +kernel
theorem dX7_told_92 : decode cX7_told 92 = .ok (.aload_n 0, 1) := by decide +kernel
theorem dX7_told_93 : decode cX7_told 93 = .ok (.invokevirtual 205, 3) := by decide +kernel
theorem dX7_told_96 : decode cX7_told 96 = .ok (.ireturn, 1) := by decide +kernel
theorem dX7_told_97 : decode cX7_told 97 = .ok (.aload_n 0, 1) := by decide +kernel
theorem dX7_told_98 : decode cX7_told 98 = .ok (.invokevirtual 208, 3) := by decide +kernel
theorem dX7_told_101 : decode cX7_told 101 = .ok (.ireturn, 1) := by decide +kernel
theorem dX7_told_102 : decode cX7_told 102 = .ok (.aload_n 0, 1) := by decide +kernel
theorem dX7_told_103 : decode cX7_told 103 = .ok (.invokevirtual 211, 3) := by decide +kernel
theorem dX7_told_106 : decode cX7_told 106 = .ok (.ireturn, 1) := by decide +kernel
theorem dX7_told_107 : decode cX7_told 107 = .ok (.aload_n 0, 1) := by decide +kernel
theorem dX7_told_108 : decode cX7_told 108 = .ok (.invokevirtual 214, 3) := by decide +kernel
theorem dX7_told_111 : decode cX7_told 111 = .ok (.ireturn, 1) := by decide +kernel
theorem dX7_told_112 : decode cX7_told 112 = .ok (.iconst (-1), 1) := by decide +kernel
theorem dX7_told_113 : decode cX7_told 113 = .ok (.ireturn, 1) := by decide +kernel
theorem dX7_because_0 : decode cX7_because 0 = .ok (.aload_n 0, 1) := by decide +kernel
theorem dX7_because_1 : decode cX7_because 1 = .ok (.getfield 64, 3) := by decide +kernel
theorem dX7_because_4 : decode cX7_because 4 = .ok (.iconst 0, 1) := by decide +kernel
theorem dX7_because_5 : decode cX7_because 5 = .ok (.iload_n 1, 1) := by decide +kernel
theorem dX7_because_6 : decode cX7_because 6 = .ok (.iastore, 1) := by decide +kernel
theorem dX7_because_7 : decode cX7_because 7 = .ok (.aload_n 0, 1) := by decide +kernel
theorem dX7_because_8 : decode cX7_because 8 = .ok (.getfield 64, 3) := by decide +kernel
theorem dX7_because_11 : decode cX7_because 11 = .ok (.iconst 1, 1) := by decide +kernel
theorem dX7_because_12 : decode cX7_because 12 = .ok (.iload_n 2, 1) := by decide +kernel
theorem dX7_because_13 : decode cX7_because 13 = .ok (.iastore, 1) := by decide +kernel
theorem dX7_because_14 : decode cX7_because 14 = .ok (.aload_n 0, 1) := by decide +kernel
theorem dX7_because_15 : decode cX7_because 15 = .ok (.getfield 64, 3) := by decide +kernel
theorem dX7_because_18 : decode cX7_because 18 = .ok (.iconst 2, 1) := by decide +kernel
theorem dX7_because_19 : decode cX7_because 19 = .ok (.iload_n 3, 1) := by decide +kernel
theorem dX7_because_20 : decode cX7_because 20 = .ok (.iastore, 1) := by decide +kernel
theorem dX7_because_21 : decode cX7_because 21 = .ok (.return_, 1) := by decide +kernel
theorem dX7_lastAhead_0 : decode cX7_lastAhead 0 = .ok (.iconst (-1), 1) := by decide +kernel
theorem dX7_lastAhead_1 : decode cX7_lastAhead 1 = .ok (.istore_n 2, 1) := by decide +kernel
theorem dX7_lastAhead_2 : decode cX7_lastAhead 2 = .ok (.iconst 0, 1) := by decide +kernel
theorem dX7_lastAhead_3 : decode cX7_lastAhead 3 = .ok (.istore_n 3, 1) := by decide +kernel
theorem dX7_lastAhead_4 : decode cX7_lastAhead 4 = .ok (.iload_n 3, 1) := by decide +kernel
theorem dX7_lastAhead_5 : decode cX7_lastAhead 5 = .ok (.iload_n 1, 1) := by decide +kernel
theorem dX7_lastAhead_6 : decode cX7_lastAhead 6 = .ok (.if_icmp .ge 56, 3) := by decide +kernel
theorem dX7_lastAhead_9 : decode cX7_lastAhead 9 = .ok (.iconst 0, 1) := by decide +kernel
theorem dX7_lastAhead_10 : decode cX7_lastAhead 10 = .ok (.istore 4, 2) := by decide +kernel
theorem dX7_lastAhead_12 : decode cX7_lastAhead 12 = .ok (.iload 4, 2) := by decide +kernel
theorem dX7_lastAhead_14 : decode cX7_lastAhead 14 = .ok (.aload_n 0, 1) := by decide +kernel
theorem dX7_lastAhead_15 : decode cX7_lastAhead 15 = .ok (.getfield 15, 3) := by decide +kernel
theorem dX7_lastAhead_18 : decode cX7_lastAhead 18 = .ok (.iconst 0, 1) := by decide +kernel
theorem dX7_lastAhead_19 : decode cX7_lastAhead 19 = .ok (.iaload, 1) := by decide +kernel
theorem dX7_lastAhead_20 : decode cX7_lastAhead 20 = .ok (.if_icmp .ge 36, 3) := by decide +kernel
theorem dX7_lastAhead_23 : decode cX7_lastAhead 23 = .ok (.aload_n 0, 1) := by decide +kernel
theorem dX7_lastAhead_24 : decode cX7_lastAhead 24 = .ok (.getfield 34, 3) := by decide +kernel
theorem dX7_lastAhead_27 : decode cX7_lastAhead 27 = .ok (.iload_n 3, 1) := by decide +kernel
theorem dX7_lastAhead_28 : decode cX7_lastAhead 28 = .ok (.iaload, 1) := by decide +kernel
theorem dX7_lastAhead_29 : decode cX7_lastAhead 29 = .ok (.iload 4, 2) := by decide +kernel
theorem dX7_lastAhead_31 : decode cX7_lastAhead 31 = .ok (.invokestatic 102, 3) := by decide +kernel
theorem dX7_lastAhead_34 : decode cX7_lastAhead 34 = .ok (.ifCond .eq 16, 3) := by decide +kernel
theorem dX7_lastAhead_37 : decode cX7_lastAhead 37 = .ok (.aload_n 0, 1) := by decide +kernel
theorem dX7_lastAhead_38 : decode cX7_lastAhead 38 = .ok (.getfield 37, 3) := by decide +kernel
theorem dX7_lastAhead_41 : decode cX7_lastAhead 41 = .ok (.iload 4, 2) := by decide +kernel
theorem dX7_lastAhead_43 : decode cX7_lastAhead 43 = .ok (.iaload, 1) := by decide +kernel
theorem dX7_lastAhead_44 : decode cX7_lastAhead 44 = .ok (.ifCond .le 6, 3) := by decide +kernel
theorem dX7_lastAhead_47 : decode cX7_lastAhead 47 = .ok (.iload 4, 2) := by decide +kernel
theorem dX7_lastAhead_49 : decode cX7_lastAhead 49 = .ok (.istore_n 2, 1) := by decide +kernel
theorem dX7_lastAhead_50 : decode cX7_lastAhead 50 = .ok (.iinc 4 1, 3) := by decide +kernel
theorem dX7_lastAhead_53 : decode cX7_lastAhead 53 = .ok (.goto (-41), 3) := by decide +kernel
theorem dX7_lastAhead_56 : decode cX7_lastAhead 56 = .ok (.iinc 3 1, 3) := by decide +kernel
theorem dX7_lastAhead_59 : decode cX7_lastAhead 59 = .ok (.goto (-55), 3) := by decide +kernel
theorem dX7_lastAhead_62 : decode cX7_lastAhead 62 = .ok (.iload_n 2, 1) := by decide +kernel
theorem dX7_lastAhead_63 : decode cX7_lastAhead 63 = .ok (.ireturn, 1) := by decide +kernel
theorem dX7_tellsWhy_0 : decode cX7_tellsWhy 0 = .ok (.aload_n 0, 1) := by decide +kernel
theorem dX7_tellsWhy_1 : decode cX7_tellsWhy 1 = .ok (.iload_n 1, 1) := by decide +kernel
theorem dX7_tellsWhy_2 : decode cX7_tellsWhy 2 = .ok (.invokevirtual 151, 3) := by decide +kernel
theorem dX7_tellsWhy_5 : decode cX7_tellsWhy 5 = .ok (.istore_n 2, 1) := by decide +kernel
theorem dX7_tellsWhy_6 : decode cX7_tellsWhy 6 = .ok (.aload_n 0, 1) := by decide +kernel
theorem dX7_tellsWhy_7 : decode cX7_tellsWhy 7 = .ok (.getfield 40, 3) := by decide +kernel
theorem dX7_tellsWhy_10 : decode cX7_tellsWhy 10 = .ok (.iload_n 2, 1) := by decide +kernel
theorem dX7_tellsWhy_11 : decode cX7_tellsWhy 11 = .ok (.iaload, 1) := by decide +kernel
theorem dX7_tellsWhy_12 : decode cX7_tellsWhy 12 = .ok (.istore_n 3, 1) := by decide +kernel
theorem dX7_tellsWhy_13 : decode cX7_tellsWhy 13 = .ok (.aload_n 0, 1) := by decide +kernel
theorem dX7_tellsWhy_14 : decode cX7_tellsWhy 14 = .ok (.getfield 34, 3) := by decide +kernel
theorem dX7_tellsWhy_17 : decode cX7_tellsWhy 17 = .ok (.iload_n 2, 1) := by decide +kernel
theorem dX7_tellsWhy_18 : decode cX7_tellsWhy 18 = .ok (.iaload, 1) := by decide +kernel
theorem dX7_tellsWhy_19 : decode cX7_tellsWhy 19 = .ok (.invokestatic 132, 3) := by decide +kernel
theorem dX7_tellsWhy_22 : decode cX7_tellsWhy 22 = .ok (.iconst 1, 1) := by decide +kernel
theorem dX7_tellsWhy_23 : decode cX7_tellsWhy 23 = .ok (.if_icmp .ne 7, 3) := by decide +kernel
theorem dX7_tellsWhy_26 : decode cX7_tellsWhy 26 = .ok (.iconst 1, 1) := by decide +kernel
theorem dX7_tellsWhy_27 : decode cX7_tellsWhy 27 = .ok (.goto 4, 3) := by decide +kernel
theorem dX7_tellsWhy_30 : decode cX7_tellsWhy 30 = .ok (.iconst 0, 1) := by decide +kernel
theorem dX7_tellsWhy_31 : decode cX7_tellsWhy 31 = .ok (.istore 4, 2) := by decide +kernel
theorem dX7_tellsWhy_33 : decode cX7_tellsWhy 33 = .ok (.aload_n 0, 1) := by decide +kernel
theorem dX7_tellsWhy_34 : decode cX7_tellsWhy 34 = .ok (.iconst 0, 1) := by decide +kernel
theorem dX7_tellsWhy_35 : decode cX7_tellsWhy 35 = .ok (.bipush (-5), 2) := by decide +kernel
theorem dX7_tellsWhy_37 : decode cX7_tellsWhy 37 = .ok (.bipush (-5), 2) := by decide +kernel
theorem dX7_tellsWhy_39 : decode cX7_tellsWhy 39 = .ok (.invokevirtual 217, 3) := by decide +kernel
theorem dX7_tellsWhy_42 : decode cX7_tellsWhy 42 = .ok (.iload_n 3, 1) := by decide +kernel
theorem dX7_tellsWhy_43 : decode cX7_tellsWhy 43 = .ok (.ifCond .ne 58, 3) := by decide +kernel
theorem dX7_tellsWhy_46 : decode cX7_tellsWhy 46 = .ok (.aload_n 0, 1) := by decide +kernel
theorem dX7_tellsWhy_47 : decode cX7_tellsWhy 47 = .ok (.iload_n 2, 1) := by decide +kernel
theorem dX7_tellsWhy_48 : decode cX7_tellsWhy 48 = .ok (.invokevirtual 221, 3) := by decide +kernel
theorem dX7_tellsWhy_51 : decode cX7_tellsWhy 51 = .ok (.istore 5, 2) := by decide +kernel
theorem dX7_tellsWhy_53 : decode cX7_tellsWhy 53 = .ok (.aload_n 0, 1) := by decide +kernel
theorem dX7_tellsWhy_54 : decode cX7_tellsWhy 54 = .ok (.iconst 1, 1) := by decide +kernel
theorem dX7_tellsWhy_55 : decode cX7_tellsWhy 55 = .ok (.aload_n 0, 1) := by decide +kernel
theorem dX7_tellsWhy_56 : decode cX7_tellsWhy 56 = .ok (.getfield 15, 3) := by decide +kernel
theorem dX7_tellsWhy_59 : decode cX7_tellsWhy 59 = .ok (.iconst 1, 1) := by decide +kernel
theorem dX7_tellsWhy_60 : decode cX7_tellsWhy 60 = .ok (.iaload, 1) := by decide +kernel
theorem dX7_tellsWhy_61 : decode cX7_tellsWhy 61 = .ok (.ifCond .ne 8, 3) := by decide +kernel
theorem dX7_tellsWhy_64 : decode cX7_tellsWhy 64 = .ok (.bipush 99, 2) := by decide +kernel
theorem dX7_tellsWhy_66 : decode cX7_tellsWhy 66 = .ok (.goto 5, 3) := by decide +kernel
theorem dX7_tellsWhy_69 : decode cX7_tellsWhy 69 = .ok (.iload 5, 2) := by decide +kernel
theorem dX7_tellsWhy_71 : decode cX7_tellsWhy 71 = .ok (.aload_n 0, 1) := by decide +kernel
theorem dX7_tellsWhy_72 : decode cX7_tellsWhy 72 = .ok (.getfield 15, 3) := by decide +kernel
theorem dX7_tellsWhy_75 : decode cX7_tellsWhy 75 = .ok (.iconst 1, 1) := by decide +kernel
theorem dX7_tellsWhy_76 : decode cX7_tellsWhy 76 = .ok (.iaload, 1) := by decide +kernel
theorem dX7_tellsWhy_77 : decode cX7_tellsWhy 77 = .ok (.ifCond .eq 9, 3) := by decide +kernel
theorem dX7_tellsWhy_80 : decode cX7_tellsWhy 80 = .ok (.iload 5, 2) := by decide +kernel
theorem dX7_tellsWhy_82 : decode cX7_tellsWhy 82 = .ok (.iconst (-1), 1) := by decide +kernel
theorem dX7_tellsWhy_83 : decode cX7_tellsWhy 83 = .ok (.if_icmp .ne 7, 3) := by decide +kernel
theorem dX7_tellsWhy_86 : decode cX7_tellsWhy 86 = .ok (.iconst 0, 1) := by decide +kernel
theorem dX7_tellsWhy_87 : decode cX7_tellsWhy 87 = .ok (.goto 10, 3) := by decide +kernel
theorem dX7_tellsWhy_90 : decode cX7_tellsWhy 90 = .ok (.aload_n 0, 1) := by decide +kernel
theorem dX7_tellsWhy_91 : decode cX7_tellsWhy 91 = .ok (.getfield 37, 3) := by decide +kernel
theorem dX7_tellsWhy_94 : decode cX7_tellsWhy 94 = .ok (.iload 5, 2) := by decide +kernel
theorem dX7_tellsWhy_96 : decode cX7_tellsWhy 96 = .ok (.iaload, 1) := by decide +kernel
theorem dX7_tellsWhy_97 : decode cX7_tellsWhy 97 = .ok (.invokevirtual 217, 3) := by decide +kernel
theorem dX7_tellsWhy_100 : decode cX7_tellsWhy 100 = .ok (.return_, 1) := by decide +kernel
theorem dX7_tellsWhy_101 : decode cX7_tellsWhy 101 = .ok (.aload_n 0, 1) := by decide +kernel
theorem dX7_tellsWhy_102 : decode cX7_tellsWhy 102 = .ok (.getfield 37, 3) := by decide +kernel
theorem dX7_tellsWhy_105 : decode cX7_tellsWhy 105 = .ok (.iload_n 1, 1) := by decide +kernel
theorem dX7_tellsWhy_106 : decode cX7_tellsWhy 106 = .ok (.iaload, 1) := by decide +kernel
theorem dX7_tellsWhy_107 : decode cX7_tellsWhy 107 = .ok (.iload_n 3, 1) := by decide +kernel
theorem dX7_tellsWhy_108 : decode cX7_tellsWhy 108 = .ok (.if_icmp .lt 4, 3) := by decide +kernel
theorem dX7_tellsWhy_111 : decode cX7_tellsWhy 111 = .ok (.return_, 1) := by decide +kernel
theorem dX7_tellsWhy_112 : decode cX7_tellsWhy 112 = .ok (.aload_n 0, 1) := by decide +kernel
theorem dX7_tellsWhy_113 : decode cX7_tellsWhy 113 = .ok (.getfield 15, 3) := by decide +kernel
theorem dX7_tellsWhy_116 : decode cX7_tellsWhy 116 = .ok (.iconst 5, 1) := by decide +kernel
theorem dX7_tellsWhy_117 : decode cX7_tellsWhy 117 = .ok (.iload_n 1, 1) := by decide +kernel
theorem dX7_tellsWhy_118 : decode cX7_tellsWhy 118 = .ok (.iadd, 1) := by decide +kernel
theorem dX7_tellsWhy_119 : decode cX7_tellsWhy 119 = .ok (.iaload, 1) := by decide +kernel
theorem dX7_tellsWhy_120 : decode cX7_tellsWhy 120 = .ok (.iconst 2, 1) := by decide +kernel
theorem dX7_tellsWhy_121 : decode cX7_tellsWhy 121 = .ok (.if_icmp .ne 40, 3) := by decide +kernel
theorem dX7_tellsWhy_124 : decode cX7_tellsWhy 124 = .ok (.iload 4, 2) := by decide +kernel
theorem dX7_tellsWhy_126 : decode cX7_tellsWhy 126 = .ok (.ifCond .eq 35, 3) := by decide +kernel
theorem dX7_tellsWhy_129 : decode cX7_tellsWhy 129 = .ok (.aload_n 0, 1) := by decide +kernel
theorem dX7_tellsWhy_130 : decode cX7_tellsWhy 130 = .ok (.iload_n 1, 1) := by decide +kernel
theorem dX7_tellsWhy_131 : decode cX7_tellsWhy 131 = .ok (.invokevirtual 128, 3) := by decide +kernel
theorem dX7_tellsWhy_134 : decode cX7_tellsWhy 134 = .ok (.iconst (-1), 1) := by decide +kernel
theorem dX7_tellsWhy_135 : decode cX7_tellsWhy 135 = .ok (.if_icmp .eq 26, 3) := by decide +kernel
theorem dX7_tellsWhy_138 : decode cX7_tellsWhy 138 = .ok (.aload_n 0, 1) := by decide +kernel
theorem dX7_tellsWhy_139 : decode cX7_tellsWhy 139 = .ok (.iconst 2, 1) := by decide +kernel
theorem dX7_tellsWhy_140 : decode cX7_tellsWhy 140 = .ok (.aload_n 0, 1) := by decide +kernel
theorem dX7_tellsWhy_141 : decode cX7_tellsWhy 141 = .ok (.iload_n 1, 1) := by decide +kernel
theorem dX7_tellsWhy_142 : decode cX7_tellsWhy 142 = .ok (.invokevirtual 128, 3) := by decide +kernel
theorem dX7_tellsWhy_145 : decode cX7_tellsWhy 145 = .ok (.aload_n 0, 1) := by decide +kernel
theorem dX7_tellsWhy_146 : decode cX7_tellsWhy 146 = .ok (.getfield 37, 3) := by decide +kernel
theorem dX7_tellsWhy_149 : decode cX7_tellsWhy 149 = .ok (.aload_n 0, 1) := by decide +kernel
theorem dX7_tellsWhy_150 : decode cX7_tellsWhy 150 = .ok (.iload_n 1, 1) := by decide +kernel
theorem dX7_tellsWhy_151 : decode cX7_tellsWhy 151 = .ok (.invokevirtual 128, 3) := by decide +kernel
theorem dX7_tellsWhy_154 : decode cX7_tellsWhy 154 = .ok (.iaload, 1) := by decide +kernel
theorem dX7_tellsWhy_155 : decode cX7_tellsWhy 155 = .ok (.invokevirtual 217, 3) := by decide +kernel
theorem dX7_tellsWhy_158 : decode cX7_tellsWhy 158 = .ok (.goto 122, 3) := by decide +kernel
theorem dX7_tellsWhy_161 : decode cX7_tellsWhy 161 = .ok (.aload_n 0, 1) := by decide +kernel
theorem dX7_tellsWhy_162 : decode cX7_tellsWhy 162 = .ok (.iload_n 1, 1) := by decide +kernel
theorem dX7_tellsWhy_163 : decode cX7_tellsWhy 163 = .ok (.iload_n 3, 1) := by decide +kernel
theorem dX7_tellsWhy_164 : decode cX7_tellsWhy 164 = .ok (.invokevirtual 122, 3) := by decide +kernel
theorem dX7_tellsWhy_167 : decode cX7_tellsWhy 167 = .ok (.aload_n 0, 1) := by decide +kernel
theorem dX7_tellsWhy_168 : decode cX7_tellsWhy 168 = .ok (.getfield 15, 3) := by decide +kernel
theorem dX7_tellsWhy_171 : decode cX7_tellsWhy 171 = .ok (.bipush 17, 2) := by decide +kernel
theorem dX7_tellsWhy_173 : decode cX7_tellsWhy 173 = .ok (.iload_n 1, 1) := by decide +kernel
theorem dX7_tellsWhy_174 : decode cX7_tellsWhy 174 = .ok (.iadd, 1) := by decide +kernel
theorem dX7_tellsWhy_175 : decode cX7_tellsWhy 175 = .ok (.iaload, 1) := by decide +kernel
theorem dX7_tellsWhy_176 : decode cX7_tellsWhy 176 = .ok (.if_icmp .gt 26, 3) := by decide +kernel
theorem dX7_tellsWhy_179 : decode cX7_tellsWhy 179 = .ok (.aload_n 0, 1) := by decide +kernel
theorem dX7_tellsWhy_180 : decode cX7_tellsWhy 180 = .ok (.iconst 3, 1) := by decide +kernel
theorem dX7_tellsWhy_181 : decode cX7_tellsWhy 181 = .ok (.aload_n 0, 1) := by decide +kernel
theorem dX7_tellsWhy_182 : decode cX7_tellsWhy 182 = .ok (.iload_n 1, 1) := by decide +kernel
theorem dX7_tellsWhy_183 : decode cX7_tellsWhy 183 = .ok (.iload_n 3, 1) := by decide +kernel
theorem dX7_tellsWhy_184 : decode cX7_tellsWhy 184 = .ok (.invokevirtual 122, 3) := by decide +kernel
theorem dX7_tellsWhy_187 : decode cX7_tellsWhy 187 = .ok (.aload_n 0, 1) := by decide +kernel
theorem dX7_tellsWhy_188 : decode cX7_tellsWhy 188 = .ok (.getfield 15, 3) := by decide +kernel
theorem dX7_tellsWhy_191 : decode cX7_tellsWhy 191 = .ok (.bipush 17, 2) := by decide +kernel
theorem dX7_tellsWhy_193 : decode cX7_tellsWhy 193 = .ok (.iload_n 1, 1) := by decide +kernel
theorem dX7_tellsWhy_194 : decode cX7_tellsWhy 194 = .ok (.iadd, 1) := by decide +kernel
theorem dX7_tellsWhy_195 : decode cX7_tellsWhy 195 = .ok (.iaload, 1) := by decide +kernel
theorem dX7_tellsWhy_196 : decode cX7_tellsWhy 196 = .ok (.invokevirtual 217, 3) := by decide +kernel
theorem dX7_tellsWhy_199 : decode cX7_tellsWhy 199 = .ok (.goto 81, 3) := by decide +kernel
theorem dX7_tellsWhy_202 : decode cX7_tellsWhy 202 = .ok (.aload_n 0, 1) := by decide +kernel
theorem dX7_tellsWhy_203 : decode cX7_tellsWhy 203 = .ok (.getfield 37, 3) := by decide +kernel
theorem dX7_tellsWhy_206 : decode cX7_tellsWhy 206 = .ok (.iload_n 1, 1) := by decide +kernel
theorem dX7_tellsWhy_207 : decode cX7_tellsWhy 207 = .ok (.iaload, 1) := by decide +kernel
theorem dX7_tellsWhy_208 : decode cX7_tellsWhy 208 = .ok (.aload_n 0, 1) := by decide +kernel
theorem dX7_tellsWhy_209 : decode cX7_tellsWhy 209 = .ok (.getfield 15, 3) := by decide +kernel
theorem dX7_tellsWhy_212 : decode cX7_tellsWhy 212 = .ok (.bipush 11, 2) := by decide +kernel
theorem dX7_tellsWhy_214 : decode cX7_tellsWhy 214 = .ok (.iload_n 1, 1) := by decide +kernel
theorem dX7_tellsWhy_215 : decode cX7_tellsWhy 215 = .ok (.iadd, 1) := by decide +kernel
theorem dX7_tellsWhy_216 : decode cX7_tellsWhy 216 = .ok (.iaload, 1) := by decide +kernel
theorem dX7_tellsWhy_217 : decode cX7_tellsWhy 217 = .ok (.if_icmp .ne 22, 3) := by decide +kernel
theorem dX7_tellsWhy_220 : decode cX7_tellsWhy 220 = .ok (.aload_n 0, 1) := by decide +kernel
theorem dX7_tellsWhy_221 : decode cX7_tellsWhy 221 = .ok (.iconst 4, 1) := by decide +kernel
theorem dX7_tellsWhy_222 : decode cX7_tellsWhy 222 = .ok (.aload_n 0, 1) := by decide +kernel
theorem dX7_tellsWhy_223 : decode cX7_tellsWhy 223 = .ok (.getfield 15, 3) := by decide +kernel
theorem dX7_tellsWhy_226 : decode cX7_tellsWhy 226 = .ok (.bipush 11, 2) := by decide +kernel
theorem dX7_tellsWhy_228 : decode cX7_tellsWhy 228 = .ok (.iload_n 1, 1) := by decide +kernel
theorem dX7_tellsWhy_229 : decode cX7_tellsWhy 229 = .ok (.iadd, 1) := by decide +kernel
theorem dX7_tellsWhy_230 : decode cX7_tellsWhy 230 = .ok (.iaload, 1) := by decide +kernel
theorem dX7_tellsWhy_231 : decode cX7_tellsWhy 231 = .ok (.bipush (-5), 2) := by decide +kernel
theorem dX7_tellsWhy_233 : decode cX7_tellsWhy 233 = .ok (.invokevirtual 217, 3) := by decide +kernel
theorem dX7_tellsWhy_236 : decode cX7_tellsWhy 236 = .ok (.goto 44, 3) := by decide +kernel
theorem dX7_tellsWhy_239 : decode cX7_tellsWhy 239 = .ok (.iload 4, 2) := by decide +kernel
theorem dX7_tellsWhy_241 : decode cX7_tellsWhy 241 = .ok (.ifCond .ne 23, 3) := by decide +kernel
theorem dX7_tellsWhy_244 : decode cX7_tellsWhy 244 = .ok (.aload_n 0, 1) := by decide +kernel
theorem dX7_tellsWhy_245 : decode cX7_tellsWhy 245 = .ok (.iconst 5, 1) := by decide +kernel
theorem dX7_tellsWhy_246 : decode cX7_tellsWhy 246 = .ok (.aload_n 0, 1) := by decide +kernel
theorem dX7_tellsWhy_247 : decode cX7_tellsWhy 247 = .ok (.getfield 34, 3) := by decide +kernel
theorem dX7_tellsWhy_250 : decode cX7_tellsWhy 250 = .ok (.iload_n 2, 1) := by decide +kernel
theorem dX7_tellsWhy_251 : decode cX7_tellsWhy 251 = .ok (.iaload, 1) := by decide +kernel
theorem dX7_tellsWhy_252 : decode cX7_tellsWhy 252 = .ok (.aload_n 0, 1) := by decide +kernel
theorem dX7_tellsWhy_253 : decode cX7_tellsWhy 253 = .ok (.getfield 43, 3) := by decide +kernel
theorem dX7_tellsWhy_256 : decode cX7_tellsWhy 256 = .ok (.iload_n 2, 1) := by decide +kernel
theorem dX7_tellsWhy_257 : decode cX7_tellsWhy 257 = .ok (.iaload, 1) := by decide +kernel
theorem dX7_tellsWhy_258 : decode cX7_tellsWhy 258 = .ok (.invokevirtual 217, 3) := by decide +kernel
theorem dX7_tellsWhy_261 : decode cX7_tellsWhy 261 = .ok (.goto 19, 3) := by decide +kernel
theorem dX7_tellsWhy_264 : decode cX7_tellsWhy 264 = .ok (.aload_n 0, 1) := by decide +kernel
theorem dX7_tellsWhy_265 : decode cX7_tellsWhy 265 = .ok (.bipush 6, 2) := by decide +kernel
theorem dX7_tellsWhy_267 : decode cX7_tellsWhy 267 = .ok (.iload_n 3, 1) := by decide +kernel
theorem dX7_tellsWhy_268 : decode cX7_tellsWhy 268 = .ok (.aload_n 0, 1) := by decide +kernel
theorem dX7_tellsWhy_269 : decode cX7_tellsWhy 269 = .ok (.getfield 37, 3) := by decide +kernel
theorem dX7_tellsWhy_272 : decode cX7_tellsWhy 272 = .ok (.iload_n 1, 1) := by decide +kernel
theorem dX7_tellsWhy_273 : decode cX7_tellsWhy 273 = .ok (.iaload, 1) := by decide +kernel
theorem dX7_tellsWhy_274 : decode cX7_tellsWhy 274 = .ok (.isub, 1) := by decide +kernel
theorem dX7_tellsWhy_275 : decode cX7_tellsWhy 275 = .ok (.bipush (-5), 2) := by decide +kernel
theorem dX7_tellsWhy_277 : decode cX7_tellsWhy 277 = .ok (.invokevirtual 217, 3) := by decide +kernel
theorem dX7_tellsWhy_280 : decode cX7_tellsWhy 280 = .ok (.return_, 1) := by decide +kernel
theorem dX7_why_0 : decode cX7_why 0 = .ok (.aload_n 0, 1) := by decide +kernel
theorem dX7_why_1 : decode cX7_why 1 = .ok (.iload_n 1, 1) := by decide +kernel
theorem dX7_why_2 : decode cX7_why 2 = .ok (.invokevirtual 92, 3) := by decide +kernel
theorem dX7_why_5 : decode cX7_why 5 = .ok (.ifCond .eq 7, 3) := by decide +kernel
theorem dX7_why_8 : decode cX7_why 8 = .ok (.iload_n 2, 1) := by decide +kernel
theorem dX7_why_9 : decode cX7_why 9 = .ok (.ifCond .ge 5, 3) := by decide +kernel
theorem dX7_why_12 : decode cX7_why 12 = .ok (.iconst (-1), 1) := by decide +kernel
theorem dX7_why_13 : decode cX7_why 13 = .ok (.ireturn, 1) := by decide +kernel
theorem dX7_why_14 : decode cX7_why 14 = .ok (.aload_n 0, 1) := by decide +kernel
theorem dX7_why_15 : decode cX7_why 15 = .ok (.invokevirtual 148, 3) := by decide +kernel
theorem dX7_why_18 : decode cX7_why 18 = .ok (.aload_n 0, 1) := by decide +kernel
theorem dX7_why_19 : decode cX7_why 19 = .ok (.iload_n 1, 1) := by decide +kernel
theorem dX7_why_20 : decode cX7_why 20 = .ok (.invokevirtual 224, 3) := by decide +kernel
theorem dX7_why_23 : decode cX7_why 23 = .ok (.iload_n 2, 1) := by decide +kernel
end
section
theorem dX7_why_24 : decode cX7_why 24 = .ok (.iconst 3, 1) := by decide +kernel
theorem dX7_why_25 : decode cX7_why 25 = .ok (.if_icmp .ge 12, 3) := by decide +kernel
theorem dX7_why_28 : decode cX7_why 28 = .ok (.aload_n 0, 1) := by decide +kernel
theorem dX7_why_29 : decode cX7_why 29 = .ok (.getfield 64, 3) := by decide +kernel
theorem dX7_why_32 : decode cX7_why 32 = .ok (.iload_n 2, 1) := by decide +kernel
theorem dX7_why_33 : decode cX7_why 33 = .ok (.iaload, 1) := by decide +kernel
theorem dX7_why_34 : decode cX7_why 34 = .ok (.goto 5, 3) := by decide +kernel
theorem dX7_why_37 : decode cX7_why 37 = .ok (.bipush (-5), 2) := by decide +kernel
theorem dX7_why_39 : decode cX7_why 39 = .ok (.ireturn, 1) := by decide +kernel
theorem dX7_net_0 : decode cX7_net 0 = .ok (.aload_n 0, 1) := by decide +kernel
theorem dX7_net_1 : decode cX7_net 1 = .ok (.iload_n 1, 1) := by decide +kernel
theorem dX7_net_2 : decode cX7_net 2 = .ok (.invokevirtual 92, 3) := by decide +kernel
theorem dX7_net_5 : decode cX7_net 5 = .ok (.ifCond .ne 5, 3) := by decide +kernel
theorem dX7_net_8 : decode cX7_net 8 = .ok (.iconst (-1), 1) := by decide +kernel
theorem dX7_net_9 : decode cX7_net 9 = .ok (.ireturn, 1) := by decide +kernel
theorem dX7_net_10 : decode cX7_net 10 = .ok (.iload_n 2, 1) := by decide +kernel
theorem dX7_net_11 : decode cX7_net 11 = .ok (.i2l, 1) := by decide +kernel
theorem dX7_net_12 : decode cX7_net 12 = .ok (.lconst 0, 1) := by decide +kernel
theorem dX7_net_13 : decode cX7_net 13 = .ok (.ldc2_w 228, 3) := by decide +kernel
theorem dX7_net_16 : decode cX7_net 16 = .ok (.invokestatic 80, 3) := by decide +kernel
theorem dX7_net_19 : decode cX7_net 19 = .ok (.ifCond .ne 6, 3) := by decide +kernel
theorem dX7_net_22 : decode cX7_net 22 = .ok (.bipush (-2), 2) := by decide +kernel
theorem dX7_net_24 : decode cX7_net 24 = .ok (.ireturn, 1) := by decide +kernel
theorem dX7_net_25 : decode cX7_net 25 = .ok (.aload_n 0, 1) := by decide +kernel
theorem dX7_net_26 : decode cX7_net 26 = .ok (.invokevirtual 148, 3) := by decide +kernel
theorem dX7_net_29 : decode cX7_net 29 = .ok (.iload_n 2, 1) := by decide +kernel
theorem dX7_net_30 : decode cX7_net 30 = .ok (.istore_n 3, 1) := by decide +kernel
theorem dX7_net_31 : decode cX7_net 31 = .ok (.iconst 0, 1) := by decide +kernel
theorem dX7_net_32 : decode cX7_net 32 = .ok (.istore 4, 2) := by decide +kernel
theorem dX7_net_34 : decode cX7_net 34 = .ok (.iload 4, 2) := by decide +kernel
theorem dX7_net_36 : decode cX7_net 36 = .ok (.bipush 6, 2) := by decide +kernel
theorem dX7_net_38 : decode cX7_net 38 = .ok (.if_icmp .ge 17, 3) := by decide +kernel
theorem dX7_net_41 : decode cX7_net 41 = .ok (.aload_n 0, 1) := by decide +kernel
theorem dX7_net_42 : decode cX7_net 42 = .ok (.getfield 67, 3) := by decide +kernel
theorem dX7_net_45 : decode cX7_net 45 = .ok (.iload 4, 2) := by decide +kernel
theorem dX7_net_47 : decode cX7_net 47 = .ok (.iconst 0, 1) := by decide +kernel
theorem dX7_net_48 : decode cX7_net 48 = .ok (.iastore, 1) := by decide +kernel
theorem dX7_net_49 : decode cX7_net 49 = .ok (.iinc 4 1, 3) := by decide +kernel
theorem dX7_net_52 : decode cX7_net 52 = .ok (.goto (-18), 3) := by decide +kernel
theorem dX7_net_55 : decode cX7_net 55 = .ok (.aload_n 0, 1) := by decide +kernel
theorem dX7_net_56 : decode cX7_net 56 = .ok (.getfield 115, 3) := by decide +kernel
theorem dX7_net_59 : decode cX7_net 59 = .ok (.iconst 1, 1) := by decide +kernel
theorem dX7_net_60 : decode cX7_net 60 = .ok (.isub, 1) := by decide +kernel
theorem dX7_net_61 : decode cX7_net 61 = .ok (.istore 4, 2) := by decide +kernel
theorem dX7_net_63 : decode cX7_net 63 = .ok (.iload 4, 2) := by decide +kernel
theorem dX7_net_65 : decode cX7_net 65 = .ok (.ifCond .lt 99, 3) := by decide +kernel
theorem dX7_net_68 : decode cX7_net 68 = .ok (.iconst 1, 1) := by decide +kernel
theorem dX7_net_69 : decode cX7_net 69 = .ok (.istore 5, 2) := by decide +kernel
theorem dX7_net_71 : decode cX7_net 71 = .ok (.iload 5, 2) := by decide +kernel
theorem dX7_net_73 : decode cX7_net 73 = .ok (.ifCond .eq 85, 3) := by decide +kernel
theorem dX7_net_76 : decode cX7_net 76 = .ok (.iconst 0, 1) := by decide +kernel
theorem dX7_net_77 : decode cX7_net 77 = .ok (.istore 5, 2) := by decide +kernel
theorem dX7_net_79 : decode cX7_net 79 = .ok (.iconst 0, 1) := by decide +kernel
theorem dX7_net_80 : decode cX7_net 80 = .ok (.istore 6, 2) := by decide +kernel
theorem dX7_net_82 : decode cX7_net 82 = .ok (.iload 6, 2) := by decide +kernel
theorem dX7_net_84 : decode cX7_net 84 = .ok (.aload_n 0, 1) := by decide +kernel
theorem dX7_net_85 : decode cX7_net 85 = .ok (.getfield 15, 3) := by decide +kernel
theorem dX7_net_88 : decode cX7_net 88 = .ok (.iconst 0, 1) := by decide +kernel
theorem dX7_net_89 : decode cX7_net 89 = .ok (.iaload, 1) := by decide +kernel
theorem dX7_net_90 : decode cX7_net 90 = .ok (.if_icmp .ge 65, 3) := by decide +kernel
theorem dX7_net_93 : decode cX7_net 93 = .ok (.iload_n 3, 1) := by decide +kernel
theorem dX7_net_94 : decode cX7_net 94 = .ok (.ifCond .eq 55, 3) := by decide +kernel
theorem dX7_net_97 : decode cX7_net 97 = .ok (.aload_n 0, 1) := by decide +kernel
theorem dX7_net_98 : decode cX7_net 98 = .ok (.getfield 34, 3) := by decide +kernel
theorem dX7_net_101 : decode cX7_net 101 = .ok (.iload 4, 2) := by decide +kernel
theorem dX7_net_103 : decode cX7_net 103 = .ok (.iaload, 1) := by decide +kernel
theorem dX7_net_104 : decode cX7_net 104 = .ok (.iload 6, 2) := by decide +kernel
theorem dX7_net_106 : decode cX7_net 106 = .ok (.invokestatic 102, 3) := by decide +kernel
theorem dX7_net_109 : decode cX7_net 109 = .ok (.ifCond .eq 40, 3) := by decide +kernel
theorem dX7_net_112 : decode cX7_net 112 = .ok (.aload_n 0, 1) := by decide +kernel
theorem dX7_net_113 : decode cX7_net 113 = .ok (.getfield 67, 3) := by decide +kernel
theorem dX7_net_116 : decode cX7_net 116 = .ok (.iload 6, 2) := by decide +kernel
theorem dX7_net_118 : decode cX7_net 118 = .ok (.iaload, 1) := by decide +kernel
theorem dX7_net_119 : decode cX7_net 119 = .ok (.aload_n 0, 1) := by decide +kernel
theorem dX7_net_120 : decode cX7_net 120 = .ok (.getfield 37, 3) := by decide +kernel
theorem dX7_net_123 : decode cX7_net 123 = .ok (.iload 6, 2) := by decide +kernel
theorem dX7_net_125 : decode cX7_net 125 = .ok (.iaload, 1) := by decide +kernel
theorem dX7_net_126 : decode cX7_net 126 = .ok (.if_icmp .ne 6, 3) := by decide +kernel
theorem dX7_net_129 : decode cX7_net 129 = .ok (.goto 20, 3) := by decide +kernel
theorem dX7_net_132 : decode cX7_net 132 = .ok (.aload_n 0, 1) := by decide +kernel
theorem dX7_net_133 : decode cX7_net 133 = .ok (.getfield 67, 3) := by decide +kernel
theorem dX7_net_136 : decode cX7_net 136 = .ok (.iload 6, 2) := by decide +kernel
theorem dX7_net_138 : decode cX7_net 138 = .ok (.dup2, 1) := by decide +kernel
theorem dX7_net_139 : decode cX7_net 139 = .ok (.iaload, 1) := by decide +kernel
theorem dX7_net_140 : decode cX7_net 140 = .ok (.iconst 1, 1) := by decide +kernel
theorem dX7_net_141 : decode cX7_net 141 = .ok (.iadd, 1) := by decide +kernel
theorem dX7_net_142 : decode cX7_net 142 = .ok (.iastore, 1) := by decide +kernel
theorem dX7_net_143 : decode cX7_net 143 = .ok (.iinc 3 (-1), 3) := by decide +kernel
theorem dX7_net_146 : decode cX7_net 146 = .ok (.iconst 1, 1) := by decide +kernel
theorem dX7_net_147 : decode cX7_net 147 = .ok (.istore 5, 2) := by decide +kernel
theorem dX7_net_149 : decode cX7_net 149 = .ok (.iinc 6 1, 3) := by decide +kernel
theorem dX7_net_152 : decode cX7_net 152 = .ok (.goto (-70), 3) := by decide +kernel
theorem dX7_net_155 : decode cX7_net 155 = .ok (.goto (-84), 3) := by decide +kernel
theorem dX7_net_158 : decode cX7_net 158 = .ok (.iinc 4 (-1), 3) := by decide +kernel
theorem dX7_net_161 : decode cX7_net 161 = .ok (.goto (-98), 3) := by decide +kernel
theorem dX7_net_164 : decode cX7_net 164 = .ok (.aload_n 0, 1) := by decide +kernel
theorem dX7_net_165 : decode cX7_net 165 = .ok (.getfield 37, 3) := by decide +kernel
theorem dX7_net_168 : decode cX7_net 168 = .ok (.iload_n 1, 1) := by decide +kernel
theorem dX7_net_169 : decode cX7_net 169 = .ok (.iaload, 1) := by decide +kernel
theorem dX7_net_170 : decode cX7_net 170 = .ok (.aload_n 0, 1) := by decide +kernel
theorem dX7_net_171 : decode cX7_net 171 = .ok (.getfield 67, 3) := by decide +kernel
theorem dX7_net_174 : decode cX7_net 174 = .ok (.iload_n 1, 1) := by decide +kernel
theorem dX7_net_175 : decode cX7_net 175 = .ok (.iaload, 1) := by decide +kernel
theorem dX7_net_176 : decode cX7_net 176 = .ok (.isub, 1) := by decide +kernel
theorem dX7_net_177 : decode cX7_net 177 = .ok (.ireturn, 1) := by decide +kernel
theorem dX7_paidBy_0 : decode cX7_paidBy 0 = .ok (.aload_n 0, 1) := by decide +kernel
theorem dX7_paidBy_1 : decode cX7_paidBy 1 = .ok (.getfield 15, 3) := by decide +kernel
theorem dX7_paidBy_4 : decode cX7_paidBy 4 = .ok (.iconst 1, 1) := by decide +kernel
theorem dX7_paidBy_5 : decode cX7_paidBy 5 = .ok (.iaload, 1) := by decide +kernel
theorem dX7_paidBy_6 : decode cX7_paidBy 6 = .ok (.istore_n 3, 1) := by decide +kernel
theorem dX7_paidBy_7 : decode cX7_paidBy 7 = .ok (.aload_n 0, 1) := by decide +kernel
theorem dX7_paidBy_8 : decode cX7_paidBy 8 = .ok (.getfield 15, 3) := by decide +kernel
theorem dX7_paidBy_11 : decode cX7_paidBy 11 = .ok (.iconst 1, 1) := by decide +kernel
theorem dX7_paidBy_12 : decode cX7_paidBy 12 = .ok (.iload_n 2, 1) := by decide +kernel
theorem dX7_paidBy_13 : decode cX7_paidBy 13 = .ok (.iastore, 1) := by decide +kernel
theorem dX7_paidBy_14 : decode cX7_paidBy 14 = .ok (.aload_n 0, 1) := by decide +kernel
theorem dX7_paidBy_15 : decode cX7_paidBy 15 = .ok (.invokevirtual 148, 3) := by decide +kernel
theorem dX7_paidBy_18 : decode cX7_paidBy 18 = .ok (.aload_n 0, 1) := by decide +kernel
theorem dX7_paidBy_19 : decode cX7_paidBy 19 = .ok (.getfield 15, 3) := by decide +kernel
theorem dX7_paidBy_22 : decode cX7_paidBy 22 = .ok (.iconst 1, 1) := by decide +kernel
theorem dX7_paidBy_23 : decode cX7_paidBy 23 = .ok (.iload_n 3, 1) := by decide +kernel
theorem dX7_paidBy_24 : decode cX7_paidBy 24 = .ok (.iastore, 1) := by decide +kernel
theorem dX7_paidBy_25 : decode cX7_paidBy 25 = .ok (.aload_n 0, 1) := by decide +kernel
theorem dX7_paidBy_26 : decode cX7_paidBy 26 = .ok (.getfield 37, 3) := by decide +kernel
theorem dX7_paidBy_29 : decode cX7_paidBy 29 = .ok (.iload_n 1, 1) := by decide +kernel
theorem dX7_paidBy_30 : decode cX7_paidBy 30 = .ok (.iaload, 1) := by decide +kernel
theorem dX7_paidBy_31 : decode cX7_paidBy 31 = .ok (.ireturn, 1) := by decide +kernel
theorem dX7_more_0 : decode cX7_more 0 = .ok (.aload_n 0, 1) := by decide +kernel
theorem dX7_more_1 : decode cX7_more 1 = .ok (.iload_n 1, 1) := by decide +kernel
theorem dX7_more_2 : decode cX7_more 2 = .ok (.invokevirtual 92, 3) := by decide +kernel
theorem dX7_more_5 : decode cX7_more 5 = .ok (.ifCond .ne 7, 3) := by decide +kernel
theorem dX7_more_8 : decode cX7_more 8 = .ok (.ldc2_w 230, 3) := by decide +kernel
theorem dX7_more_11 : decode cX7_more 11 = .ok (.lreturn, 1) := by decide +kernel
theorem dX7_more_12 : decode cX7_more 12 = .ok (.aload_n 0, 1) := by decide +kernel
theorem dX7_more_13 : decode cX7_more 13 = .ok (.iload_n 1, 1) := by decide +kernel
theorem dX7_more_14 : decode cX7_more 14 = .ok (.aload_n 0, 1) := by decide +kernel
theorem dX7_more_15 : decode cX7_more 15 = .ok (.getfield 15, 3) := by decide +kernel
theorem dX7_more_18 : decode cX7_more 18 = .ok (.iconst 1, 1) := by decide +kernel
theorem dX7_more_19 : decode cX7_more 19 = .ok (.iaload, 1) := by decide +kernel
theorem dX7_more_20 : decode cX7_more 20 = .ok (.iconst 1, 1) := by decide +kernel
theorem dX7_more_21 : decode cX7_more 21 = .ok (.iadd, 1) := by decide +kernel
theorem dX7_more_22 : decode cX7_more 22 = .ok (.invokevirtual 232, 3) := by decide +kernel
theorem dX7_more_25 : decode cX7_more 25 = .ok (.istore_n 2, 1) := by decide +kernel
theorem dX7_more_26 : decode cX7_more 26 = .ok (.iload_n 2, 1) := by decide +kernel
theorem dX7_more_27 : decode cX7_more 27 = .ok (.i2l, 1) := by decide +kernel
theorem dX7_more_28 : decode cX7_more 28 = .ok (.aload_n 0, 1) := by decide +kernel
theorem dX7_more_29 : decode cX7_more 29 = .ok (.iload_n 1, 1) := by decide +kernel
theorem dX7_more_30 : decode cX7_more 30 = .ok (.aload_n 0, 1) := by decide +kernel
theorem dX7_more_31 : decode cX7_more 31 = .ok (.getfield 15, 3) := by decide +kernel
theorem dX7_more_34 : decode cX7_more 34 = .ok (.iconst 1, 1) := by decide +kernel
theorem dX7_more_35 : decode cX7_more 35 = .ok (.iaload, 1) := by decide +kernel
theorem dX7_more_36 : decode cX7_more 36 = .ok (.invokevirtual 232, 3) := by decide +kernel
theorem dX7_more_39 : decode cX7_more 39 = .ok (.i2l, 1) := by decide +kernel
theorem dX7_more_40 : decode cX7_more 40 = .ok (.lsub, 1) := by decide +kernel
theorem dX7_more_41 : decode cX7_more 41 = .ok (.lreturn, 1) := by decide +kernel
theorem dX7_from_0 : decode cX7_from 0 = .ok (.aload_n 0, 1) := by decide +kernel
theorem dX7_from_1 : decode cX7_from 1 = .ok (.iload_n 1, 1) := by decide +kernel
theorem dX7_from_2 : decode cX7_from 2 = .ok (.invokevirtual 92, 3) := by decide +kernel
theorem dX7_from_5 : decode cX7_from 5 = .ok (.ifCond .ne 5, 3) := by decide +kernel
theorem dX7_from_8 : decode cX7_from 8 = .ok (.iconst (-1), 1) := by decide +kernel
theorem dX7_from_9 : decode cX7_from 9 = .ok (.ireturn, 1) := by decide +kernel
theorem dX7_from_10 : decode cX7_from 10 = .ok (.iconst 0, 1) := by decide +kernel
theorem dX7_from_11 : decode cX7_from 11 = .ok (.istore_n 2, 1) := by decide +kernel
theorem dX7_from_12 : decode cX7_from 12 = .ok (.iload_n 2, 1) := by decide +kernel
theorem dX7_from_13 : decode cX7_from 13 = .ok (.sipush 300, 3) := by decide +kernel
theorem dX7_from_16 : decode cX7_from 16 = .ok (.if_icmp .gt 20, 3) := by decide +kernel
theorem dX7_from_19 : decode cX7_from 19 = .ok (.aload_n 0, 1) := by decide +kernel
theorem dX7_from_20 : decode cX7_from 20 = .ok (.iload_n 1, 1) := by decide +kernel
theorem dX7_from_21 : decode cX7_from 21 = .ok (.iload_n 2, 1) := by decide +kernel
theorem dX7_from_22 : decode cX7_from 22 = .ok (.invokevirtual 232, 3) := by decide +kernel
theorem dX7_from_25 : decode cX7_from 25 = .ok (.ifCond .le 5, 3) := by decide +kernel
theorem dX7_from_28 : decode cX7_from 28 = .ok (.iload_n 2, 1) := by decide +kernel
theorem dX7_from_29 : decode cX7_from 29 = .ok (.ireturn, 1) := by decide +kernel
theorem dX7_from_30 : decode cX7_from 30 = .ok (.iinc 2 1, 3) := by decide +kernel
theorem dX7_from_33 : decode cX7_from 33 = .ok (.goto (-21), 3) := by decide +kernel
theorem dX7_from_36 : decode cX7_from 36 = .ok (.bipush (-5), 2) := by decide +kernel
theorem dX7_from_38 : decode cX7_from 38 = .ok (.ireturn, 1) := by decide +kernel
theorem dX7_see_0 : decode cX7_see 0 = .ok (.iload_n 1, 1) := by decide +kernel
theorem dX7_see_1 : decode cX7_see 1 = .ok (.iconst (-1), 1) := by decide +kernel
theorem dX7_see_2 : decode cX7_see 2 = .ok (.if_icmp .ne 12, 3) := by decide +kernel
theorem dX7_see_5 : decode cX7_see 5 = .ok (.aload_n 0, 1) := by decide +kernel
theorem dX7_see_6 : decode cX7_see 6 = .ok (.getfield 15, 3) := by decide +kernel
theorem dX7_see_9 : decode cX7_see 9 = .ok (.iconst 2, 1) := by decide +kernel
theorem dX7_see_10 : decode cX7_see 10 = .ok (.iconst 0, 1) := by decide +kernel
theorem dX7_see_11 : decode cX7_see 11 = .ok (.iastore, 1) := by decide +kernel
theorem dX7_see_12 : decode cX7_see 12 = .ok (.iconst 0, 1) := by decide +kernel
theorem dX7_see_13 : decode cX7_see 13 = .ok (.ireturn, 1) := by decide +kernel
theorem dX7_see_14 : decode cX7_see 14 = .ok (.aload_n 0, 1) := by decide +kernel
theorem dX7_see_15 : decode cX7_see 15 = .ok (.iload_n 1, 1) := by decide +kernel
theorem dX7_see_16 : decode cX7_see 16 = .ok (.invokevirtual 92, 3) := by decide +kernel
theorem dX7_see_19 : decode cX7_see 19 = .ok (.ifCond .ne 5, 3) := by decide +kernel
theorem dX7_see_22 : decode cX7_see 22 = .ok (.iconst (-1), 1) := by decide +kernel
theorem dX7_see_23 : decode cX7_see 23 = .ok (.ireturn, 1) := by decide +kernel
theorem dX7_see_24 : decode cX7_see 24 = .ok (.iload_n 2, 1) := by decide +kernel
theorem dX7_see_25 : decode cX7_see 25 = .ok (.i2l, 1) := by decide +kernel
theorem dX7_see_26 : decode cX7_see 26 = .ok (.lconst 0, 1) := by decide +kernel
theorem dX7_see_27 : decode cX7_see 27 = .ok (.ldc2_w 86, 3) := by decide +kernel
theorem dX7_see_30 : decode cX7_see 30 = .ok (.invokestatic 80, 3) := by decide +kernel
theorem dX7_see_33 : decode cX7_see 33 = .ok (.ifCond .ne 6, 3) := by decide +kernel
theorem dX7_see_36 : decode cX7_see 36 = .ok (.bipush (-2), 2) := by decide +kernel
theorem dX7_see_38 : decode cX7_see 38 = .ok (.ireturn, 1) := by decide +kernel
theorem dX7_see_39 : decode cX7_see 39 = .ok (.aload_n 0, 1) := by decide +kernel
theorem dX7_see_40 : decode cX7_see 40 = .ok (.getfield 15, 3) := by decide +kernel
theorem dX7_see_43 : decode cX7_see 43 = .ok (.iconst 2, 1) := by decide +kernel
theorem dX7_see_44 : decode cX7_see 44 = .ok (.iaload, 1) := by decide +kernel
theorem dX7_see_45 : decode cX7_see 45 = .ok (.iconst 5, 1) := by decide +kernel
theorem dX7_see_46 : decode cX7_see 46 = .ok (.if_icmp .ne 6, 3) := by decide +kernel
theorem dX7_see_49 : decode cX7_see 49 = .ok (.bipush (-4), 2) := by decide +kernel
theorem dX7_see_51 : decode cX7_see 51 = .ok (.ireturn, 1) := by decide +kernel
theorem dX7_see_52 : decode cX7_see 52 = .ok (.aload_n 0, 1) := by decide +kernel
theorem dX7_see_53 : decode cX7_see 53 = .ok (.getfield 15, 3) := by decide +kernel
theorem dX7_see_56 : decode cX7_see 56 = .ok (.bipush 35, 2) := by decide +kernel
theorem dX7_see_58 : decode cX7_see 58 = .ok (.aload_n 0, 1) := by decide +kernel
theorem dX7_see_59 : decode cX7_see 59 = .ok (.getfield 15, 3) := by decide +kernel
theorem dX7_see_62 : decode cX7_see 62 = .ok (.iconst 2, 1) := by decide +kernel
theorem dX7_see_63 : decode cX7_see 63 = .ok (.iaload, 1) := by decide +kernel
theorem dX7_see_64 : decode cX7_see 64 = .ok (.iadd, 1) := by decide +kernel
theorem dX7_see_65 : decode cX7_see 65 = .ok (.iload_n 1, 1) := by decide +kernel
theorem dX7_see_66 : decode cX7_see 66 = .ok (.iastore, 1) := by decide +kernel
theorem dX7_see_67 : decode cX7_see 67 = .ok (.aload_n 0, 1) := by decide +kernel
theorem dX7_see_68 : decode cX7_see 68 = .ok (.getfield 15, 3) := by decide +kernel
theorem dX7_see_71 : decode cX7_see 71 = .ok (.bipush 40, 2) := by decide +kernel
theorem dX7_see_73 : decode cX7_see 73 = .ok (.aload_n 0, 1) := by decide +kernel
theorem dX7_see_74 : decode cX7_see 74 = .ok (.getfield 15, 3) := by decide +kernel
theorem dX7_see_77 : decode cX7_see 77 = .ok (.iconst 2, 1) := by decide +kernel
theorem dX7_see_78 : decode cX7_see 78 = .ok (.iaload, 1) := by decide +kernel
theorem dX7_see_79 : decode cX7_see 79 = .ok (.iadd, 1) := by decide +kernel
theorem dX7_see_80 : decode cX7_see 80 = .ok (.iload_n 2, 1) := by decide +kernel
theorem dX7_see_81 : decode cX7_see 81 = .ok (.iastore, 1) := by decide +kernel
theorem dX7_see_82 : decode cX7_see 82 = .ok (.aload_n 0, 1) := by decide +kernel
theorem dX7_see_83 : decode cX7_see 83 = .ok (.getfield 15, 3) := by decide +kernel
theorem dX7_see_86 : decode cX7_see 86 = .ok (.iconst 2, 1) := by decide +kernel
theorem dX7_see_87 : decode cX7_see 87 = .ok (.dup2, 1) := by decide +kernel
theorem dX7_see_88 : decode cX7_see 88 = .ok (.iaload, 1) := by decide +kernel
theorem dX7_see_89 : decode cX7_see 89 = .ok (.iconst 1, 1) := by decide +kernel
theorem dX7_see_90 : decode cX7_see 90 = .ok (.iadd, 1) := by decide +kernel
theorem dX7_see_91 : decode cX7_see 91 = .ok (.iastore, 1) := by decide +kernel
theorem dX7_see_92 : decode cX7_see 92 = .ok (.aload_n 0, 1) := by decide +kernel
theorem dX7_see_93 : decode cX7_see 93 = .ok (.getfield 15, 3) := by decide +kernel
theorem dX7_see_96 : decode cX7_see 96 = .ok (.iconst 2, 1) := by decide +kernel
theorem dX7_see_97 : decode cX7_see 97 = .ok (.iaload, 1) := by decide +kernel
theorem dX7_see_98 : decode cX7_see 98 = .ok (.ireturn, 1) := by decide +kernel
theorem dX7_fitsBy_0 : decode cX7_fitsBy 0 = .ok (.aload_n 0, 1) := by decide +kernel
theorem dX7_fitsBy_1 : decode cX7_fitsBy 1 = .ok (.getfield 15, 3) := by decide +kernel
theorem dX7_fitsBy_4 : decode cX7_fitsBy 4 = .ok (.iconst 1, 1) := by decide +kernel
theorem dX7_fitsBy_5 : decode cX7_fitsBy 5 = .ok (.iaload, 1) := by decide +kernel
theorem dX7_fitsBy_6 : decode cX7_fitsBy 6 = .ok (.istore_n 2, 1) := by decide +kernel
theorem dX7_fitsBy_7 : decode cX7_fitsBy 7 = .ok (.aload_n 0, 1) := by decide +kernel
theorem dX7_fitsBy_8 : decode cX7_fitsBy 8 = .ok (.getfield 15, 3) := by decide +kernel
theorem dX7_fitsBy_11 : decode cX7_fitsBy 11 = .ok (.iconst 1, 1) := by decide +kernel
theorem dX7_fitsBy_12 : decode cX7_fitsBy 12 = .ok (.iload_n 1, 1) := by decide +kernel
theorem dX7_fitsBy_13 : decode cX7_fitsBy 13 = .ok (.iastore, 1) := by decide +kernel
theorem dX7_fitsBy_14 : decode cX7_fitsBy 14 = .ok (.aload_n 0, 1) := by decide +kernel
theorem dX7_fitsBy_15 : decode cX7_fitsBy 15 = .ok (.invokevirtual 148, 3) := by decide +kernel
theorem dX7_fitsBy_18 : decode cX7_fitsBy 18 = .ok (.aload_n 0, 1) := by decide +kernel
theorem dX7_fitsBy_19 : decode cX7_fitsBy 19 = .ok (.getfield 15, 3) := by decide +kernel
theorem dX7_fitsBy_22 : decode cX7_fitsBy 22 = .ok (.iconst 1, 1) := by decide +kernel
theorem dX7_fitsBy_23 : decode cX7_fitsBy 23 = .ok (.iload_n 2, 1) := by decide +kernel
theorem dX7_fitsBy_24 : decode cX7_fitsBy 24 = .ok (.iastore, 1) := by decide +kernel
theorem dX7_fitsBy_25 : decode cX7_fitsBy 25 = .ok (.iconst 0, 1) := by decide +kernel
theorem dX7_fitsBy_26 : decode cX7_fitsBy 26 = .ok (.istore_n 3, 1) := by decide +kernel
theorem dX7_fitsBy_27 : decode cX7_fitsBy 27 = .ok (.iload_n 3, 1) := by decide +kernel
theorem dX7_fitsBy_28 : decode cX7_fitsBy 28 = .ok (.aload_n 0, 1) := by decide +kernel
theorem dX7_fitsBy_29 : decode cX7_fitsBy 29 = .ok (.getfield 15, 3) := by decide +kernel
theorem dX7_fitsBy_32 : decode cX7_fitsBy 32 = .ok (.iconst 2, 1) := by decide +kernel
theorem dX7_fitsBy_33 : decode cX7_fitsBy 33 = .ok (.iaload, 1) := by decide +kernel
theorem dX7_fitsBy_34 : decode cX7_fitsBy 34 = .ok (.if_icmp .ge 37, 3) := by decide +kernel
theorem dX7_fitsBy_37 : decode cX7_fitsBy 37 = .ok (.aload_n 0, 1) := by decide +kernel
theorem dX7_fitsBy_38 : decode cX7_fitsBy 38 = .ok (.getfield 37, 3) := by decide +kernel
theorem dX7_fitsBy_41 : decode cX7_fitsBy 41 = .ok (.aload_n 0, 1) := by decide +kernel
theorem dX7_fitsBy_42 : decode cX7_fitsBy 42 = .ok (.getfield 15, 3) := by decide +kernel
theorem dX7_fitsBy_45 : decode cX7_fitsBy 45 = .ok (.bipush 35, 2) := by decide +kernel
theorem dX7_fitsBy_47 : decode cX7_fitsBy 47 = .ok (.iload_n 3, 1) := by decide +kernel
theorem dX7_fitsBy_48 : decode cX7_fitsBy 48 = .ok (.iadd, 1) := by decide +kernel
theorem dX7_fitsBy_49 : decode cX7_fitsBy 49 = .ok (.iaload, 1) := by decide +kernel
theorem dX7_fitsBy_50 : decode cX7_fitsBy 50 = .ok (.iaload, 1) := by decide +kernel
theorem dX7_fitsBy_51 : decode cX7_fitsBy 51 = .ok (.aload_n 0, 1) := by decide +kernel
theorem dX7_fitsBy_52 : decode cX7_fitsBy 52 = .ok (.getfield 15, 3) := by decide +kernel
theorem dX7_fitsBy_55 : decode cX7_fitsBy 55 = .ok (.bipush 40, 2) := by decide +kernel
theorem dX7_fitsBy_57 : decode cX7_fitsBy 57 = .ok (.iload_n 3, 1) := by decide +kernel
theorem dX7_fitsBy_58 : decode cX7_fitsBy 58 = .ok (.iadd, 1) := by decide +kernel
theorem dX7_fitsBy_59 : decode cX7_fitsBy 59 = .ok (.iaload, 1) := by decide +kernel
theorem dX7_fitsBy_60 : decode cX7_fitsBy 60 = .ok (.if_icmp .eq 5, 3) := by decide +kernel
theorem dX7_fitsBy_63 : decode cX7_fitsBy 63 = .ok (.iconst 0, 1) := by decide +kernel
theorem dX7_fitsBy_64 : decode cX7_fitsBy 64 = .ok (.ireturn, 1) := by decide +kernel
theorem dX7_fitsBy_65 : decode cX7_fitsBy 65 = .ok (.iinc 3 1, 3) := by decide +kernel
theorem dX7_fitsBy_68 : decode cX7_fitsBy 68 = .ok (.goto (-41), 3) := by decide +kernel
theorem dX7_fitsBy_71 : decode cX7_fitsBy 71 = .ok (.iconst 1, 1) := by decide +kernel
theorem dX7_fitsBy_72 : decode cX7_fitsBy 72 = .ok (.ireturn, 1) := by decide +kernel
theorem dX7_fits_0 : decode cX7_fits 0 = .ok (.iload_n 1, 1) := by decide +kernel
theorem dX7_fits_1 : decode cX7_fits 1 = .ok (.i2l, 1) := by decide +kernel
theorem dX7_fits_2 : decode cX7_fits 2 = .ok (.lconst 0, 1) := by decide +kernel
theorem dX7_fits_3 : decode cX7_fits 3 = .ok (.lconst 1, 1) := by decide +kernel
theorem dX7_fits_4 : decode cX7_fits 4 = .ok (.invokestatic 80, 3) := by decide +kernel
theorem dX7_fits_7 : decode cX7_fits 7 = .ok (.ifCond .ne 5, 3) := by decide +kernel
theorem dX7_fits_10 : decode cX7_fits 10 = .ok (.iconst (-1), 1) := by decide +kernel
theorem dX7_fits_11 : decode cX7_fits 11 = .ok (.ireturn, 1) := by decide +kernel
theorem dX7_fits_12 : decode cX7_fits 12 = .ok (.iconst 0, 1) := by decide +kernel
theorem dX7_fits_13 : decode cX7_fits 13 = .ok (.istore_n 2, 1) := by decide +kernel
theorem dX7_fits_14 : decode cX7_fits 14 = .ok (.bipush (-5), 2) := by decide +kernel
theorem dX7_fits_16 : decode cX7_fits 16 = .ok (.istore_n 3, 1) := by decide +kernel
theorem dX7_fits_17 : decode cX7_fits 17 = .ok (.iconst 0, 1) := by decide +kernel
theorem dX7_fits_18 : decode cX7_fits 18 = .ok (.istore 4, 2) := by decide +kernel
theorem dX7_fits_20 : decode cX7_fits 20 = .ok (.iload 4, 2) := by decide +kernel
theorem dX7_fits_22 : decode cX7_fits 22 = .ok (.sipush 300, 3) := by decide +kernel
theorem dX7_fits_25 : decode cX7_fits 25 = .ok (.if_icmp .gt 31, 3) := by decide +kernel
theorem dX7_fits_28 : decode cX7_fits 28 = .ok (.aload_n 0, 1) := by decide +kernel
theorem dX7_fits_29 : decode cX7_fits 29 = .ok (.iload 4, 2) := by decide +kernel
theorem dX7_fits_31 : decode cX7_fits 31 = .ok (.invokevirtual 235, 3) := by decide +kernel
theorem dX7_fits_34 : decode cX7_fits 34 = .ok (.ifCond .ne 6, 3) := by decide +kernel
theorem dX7_fits_37 : decode cX7_fits 37 = .ok (.goto 13, 3) := by decide +kernel
theorem dX7_fits_40 : decode cX7_fits 40 = .ok (.iload_n 2, 1) := by decide +kernel
theorem dX7_fits_41 : decode cX7_fits 41 = .ok (.ifCond .ne 6, 3) := by decide +kernel
theorem dX7_fits_44 : decode cX7_fits 44 = .ok (.iload 4, 2) := by decide +kernel
theorem dX7_fits_46 : decode cX7_fits 46 = .ok (.istore_n 3, 1) := by decide +kernel
theorem dX7_fits_47 : decode cX7_fits 47 = .ok (.iinc 2 1, 3) := by decide +kernel
theorem dX7_fits_50 : decode cX7_fits 50 = .ok (.iinc 4 1, 3) := by decide +kernel
theorem dX7_fits_53 : decode cX7_fits 53 = .ok (.goto (-33), 3) := by decide +kernel
theorem dX7_fits_56 : decode cX7_fits 56 = .ok (.iload_n 1, 1) := by decide +kernel
theorem dX7_fits_57 : decode cX7_fits 57 = .ok (.ifCond .ne 7, 3) := by decide +kernel
theorem dX7_fits_60 : decode cX7_fits 60 = .ok (.iload_n 2, 1) := by decide +kernel
theorem dX7_fits_61 : decode cX7_fits 61 = .ok (.goto 4, 3) := by decide +kernel
theorem dX7_fits_64 : decode cX7_fits 64 = .ok (.iload_n 3, 1) := by decide +kernel
theorem dX7_fits_65 : decode cX7_fits 65 = .ok (.ireturn, 1) := by decide +kernel
theorem dX7_lowest_0 : decode cX7_lowest 0 = .ok (.lload_n 0, 1) := by decide +kernel
theorem dX7_lowest_1 : decode cX7_lowest 1 = .ok (.lstore 5, 2) := by decide +kernel
theorem dX7_lowest_3 : decode cX7_lowest 3 = .ok (.lload_n 2, 1) := by decide +kernel
theorem dX7_lowest_4 : decode cX7_lowest 4 = .ok (.lstore 7, 2) := by decide +kernel
theorem dX7_lowest_6 : decode cX7_lowest 6 = .ok (.lload 7, 2) := by decide +kernel
theorem dX7_lowest_8 : decode cX7_lowest 8 = .ok (.lconst 0, 1) := by decide +kernel
theorem dX7_lowest_9 : decode cX7_lowest 9 = .ok (.lcmp, 1) := by decide +kernel
theorem dX7_lowest_10 : decode cX7_lowest 10 = .ok (.ifCond .eq 21, 3) := by decide +kernel
theorem dX7_lowest_13 : decode cX7_lowest 13 = .ok (.lload 5, 2) := by decide +kernel
theorem dX7_lowest_15 : decode cX7_lowest 15 = .ok (.lload 7, 2) := by decide +kernel
theorem dX7_lowest_17 : decode cX7_lowest 17 = .ok (.lrem, 1) := by decide +kernel
theorem dX7_lowest_18 : decode cX7_lowest 18 = .ok (.lstore 9, 2) := by decide +kernel
theorem dX7_lowest_20 : decode cX7_lowest 20 = .ok (.lload 7, 2) := by decide +kernel
theorem dX7_lowest_22 : decode cX7_lowest 22 = .ok (.lstore 5, 2) := by decide +kernel
theorem dX7_lowest_24 : decode cX7_lowest 24 = .ok (.lload 9, 2) := by decide +kernel
theorem dX7_lowest_26 : decode cX7_lowest 26 = .ok (.lstore 7, 2) := by decide +kernel
theorem dX7_lowest_28 : decode cX7_lowest 28 = .ok (.goto (-22), 3) := by decide +kernel
theorem dX7_lowest_31 : decode cX7_lowest 31 = .ok (.iload 4, 2) := by decide +kernel
theorem dX7_lowest_33 : decode cX7_lowest 33 = .ok (.ifCond .ne 10, 3) := by decide +kernel
theorem dX7_lowest_36 : decode cX7_lowest 36 = .ok (.lload_n 0, 1) := by decide +kernel
theorem dX7_lowest_37 : decode cX7_lowest 37 = .ok (.lload 5, 2) := by decide +kernel
theorem dX7_lowest_39 : decode cX7_lowest 39 = .ok (.ldiv, 1) := by decide +kernel
theorem dX7_lowest_40 : decode cX7_lowest 40 = .ok (.goto 7, 3) := by decide +kernel
theorem dX7_lowest_43 : decode cX7_lowest 43 = .ok (.lload_n 2, 1) := by decide +kernel
theorem dX7_lowest_44 : decode cX7_lowest 44 = .ok (.lload 5, 2) := by decide +kernel
theorem dX7_lowest_46 : decode cX7_lowest 46 = .ok (.ldiv, 1) := by decide +kernel
theorem dX7_lowest_47 : decode cX7_lowest 47 = .ok (.lreturn, 1) := by decide +kernel
theorem dX7_odds_0 : decode cX7_odds 0 = .ok (.aload_n 0, 1) := by decide +kernel
theorem dX7_odds_1 : decode cX7_odds 1 = .ok (.iload_n 1, 1) := by decide +kernel
theorem dX7_odds_2 : decode cX7_odds 2 = .ok (.invokevirtual 92, 3) := by decide +kernel
theorem dX7_odds_5 : decode cX7_odds 5 = .ok (.ifCond .eq 13, 3) := by decide +kernel
theorem dX7_odds_8 : decode cX7_odds 8 = .ok (.iload_n 2, 1) := by decide +kernel
theorem dX7_odds_9 : decode cX7_odds 9 = .ok (.i2l, 1) := by decide +kernel
theorem dX7_odds_10 : decode cX7_odds 10 = .ok (.lconst 0, 1) := by decide +kernel
theorem dX7_odds_11 : decode cX7_odds 11 = .ok (.lconst 1, 1) := by decide +kernel
theorem dX7_odds_12 : decode cX7_odds 12 = .ok (.invokestatic 80, 3) := by decide +kernel
theorem dX7_odds_15 : decode cX7_odds 15 = .ok (.ifCond .ne 7, 3) := by decide +kernel
theorem dX7_odds_18 : decode cX7_odds 18 = .ok (.ldc2_w 230, 3) := by decide +kernel
theorem dX7_odds_21 : decode cX7_odds 21 = .ok (.lreturn, 1) := by decide +kernel
theorem dX7_odds_22 : decode cX7_odds 22 = .ok (.iconst 0, 1) := by decide +kernel
theorem dX7_odds_23 : decode cX7_odds 23 = .ok (.istore_n 3, 1) := by decide +kernel
theorem dX7_odds_24 : decode cX7_odds 24 = .ok (.iconst 1, 1) := by decide +kernel
theorem dX7_odds_25 : decode cX7_odds 25 = .ok (.istore 4, 2) := by decide +kernel
theorem dX7_odds_27 : decode cX7_odds 27 = .ok (.iload 4, 2) := by decide +kernel
theorem dX7_odds_29 : decode cX7_odds 29 = .ok (.bipush 10, 2) := by decide +kernel
theorem dX7_odds_31 : decode cX7_odds 31 = .ok (.if_icmp .gt 25, 3) := by decide +kernel
theorem dX7_odds_34 : decode cX7_odds 34 = .ok (.aload_n 0, 1) := by decide +kernel
theorem dX7_odds_35 : decode cX7_odds 35 = .ok (.iload_n 1, 1) := by decide +kernel
theorem dX7_odds_36 : decode cX7_odds 36 = .ok (.bipush 10, 2) := by decide +kernel
theorem dX7_odds_38 : decode cX7_odds 38 = .ok (.iload 4, 2) := by decide +kernel
theorem dX7_odds_40 : decode cX7_odds 40 = .ok (.imul, 1) := by decide +kernel
theorem dX7_odds_41 : decode cX7_odds 41 = .ok (.invokevirtual 232, 3) := by decide +kernel
theorem dX7_odds_44 : decode cX7_odds 44 = .ok (.ifCond .le 6, 3) := by decide +kernel
theorem dX7_odds_47 : decode cX7_odds 47 = .ok (.iinc 3 1, 3) := by decide +kernel
theorem dX7_odds_50 : decode cX7_odds 50 = .ok (.iinc 4 1, 3) := by decide +kernel
theorem dX7_odds_53 : decode cX7_odds 53 = .ok (.goto (-26), 3) := by decide +kernel
theorem dX7_odds_56 : decode cX7_odds 56 = .ok (.iload_n 3, 1) := by decide +kernel
theorem dX7_odds_57 : decode cX7_odds 57 = .ok (.i2l, 1) := by decide +kernel
theorem dX7_odds_58 : decode cX7_odds 58 = .ok (.ldc2_w 238, 3) := by decide +kernel
theorem dX7_odds_61 : decode cX7_odds 61 = .ok (.iload_n 2, 1) := by decide +kernel
theorem dX7_odds_62 : decode cX7_odds 62 = .ok (.invokestatic 240, 3) := by decide +kernel
theorem dX7_odds_65 : decode cX7_odds 65 = .ok (.lreturn, 1) := by decide +kernel
theorem dX7_mean_0 : decode cX7_mean 0 = .ok (.iload_n 1, 1) := by decide +kernel
theorem dX7_mean_1 : decode cX7_mean 1 = .ok (.i2l, 1) := by decide +kernel
theorem dX7_mean_2 : decode cX7_mean 2 = .ok (.lconst 0, 1) := by decide +kernel
theorem dX7_mean_3 : decode cX7_mean 3 = .ok (.lconst 1, 1) := by decide +kernel
theorem dX7_mean_4 : decode cX7_mean 4 = .ok (.invokestatic 80, 3) := by decide +kernel
theorem dX7_mean_7 : decode cX7_mean 7 = .ok (.ifCond .ne 7, 3) := by decide +kernel
theorem dX7_mean_10 : decode cX7_mean 10 = .ok (.ldc2_w 230, 3) := by decide +kernel
theorem dX7_mean_13 : decode cX7_mean 13 = .ok (.lreturn, 1) := by decide +kernel
theorem dX7_mean_14 : decode cX7_mean 14 = .ok (.aload_n 0, 1) := by decide +kernel
theorem dX7_mean_15 : decode cX7_mean 15 = .ok (.invokevirtual 148, 3) := by decide +kernel
theorem dX7_mean_18 : decode cX7_mean 18 = .ok (.aload_n 0, 1) := by decide +kernel
theorem dX7_mean_19 : decode cX7_mean 19 = .ok (.invokevirtual 211, 3) := by decide +kernel
theorem dX7_mean_22 : decode cX7_mean 22 = .ok (.ifCond .ne 9, 3) := by decide +kernel
theorem dX7_mean_25 : decode cX7_mean 25 = .ok (.ldc2_w 230, 3) := by decide +kernel
theorem dX7_mean_28 : decode cX7_mean 28 = .ok (.goto 17, 3) := by decide +kernel
theorem dX7_mean_31 : decode cX7_mean 31 = .ok (.aload_n 0, 1) := by decide +kernel
theorem dX7_mean_32 : decode cX7_mean 32 = .ok (.getfield 142, 3) := by decide +kernel
theorem dX7_mean_35 : decode cX7_mean 35 = .ok (.i2l, 1) := by decide +kernel
theorem dX7_mean_36 : decode cX7_mean 36 = .ok (.aload_n 0, 1) := by decide +kernel
theorem dX7_mean_37 : decode cX7_mean 37 = .ok (.invokevirtual 211, 3) := by decide +kernel
theorem dX7_mean_40 : decode cX7_mean 40 = .ok (.i2l, 1) := by decide +kernel
theorem dX7_mean_41 : decode cX7_mean 41 = .ok (.iload_n 1, 1) := by decide +kernel
theorem dX7_mean_42 : decode cX7_mean 42 = .ok (.invokestatic 240, 3) := by decide +kernel
theorem dX7_mean_45 : decode cX7_mean 45 = .ok (.lreturn, 1) := by decide +kernel
theorem dX7_plan_0 : decode cX7_plan 0 = .ok (.iload_n 1, 1) := by decide +kernel
theorem dX7_plan_1 : decode cX7_plan 1 = .ok (.iconst (-1), 1) := by decide +kernel
theorem dX7_plan_2 : decode cX7_plan 2 = .ok (.if_icmp .ne 12, 3) := by decide +kernel
theorem dX7_plan_5 : decode cX7_plan 5 = .ok (.aload_n 0, 1) := by decide +kernel
theorem dX7_plan_6 : decode cX7_plan 6 = .ok (.getfield 15, 3) := by decide +kernel
theorem dX7_plan_9 : decode cX7_plan 9 = .ok (.iconst 3, 1) := by decide +kernel
theorem dX7_plan_10 : decode cX7_plan 10 = .ok (.iconst 0, 1) := by decide +kernel
theorem dX7_plan_11 : decode cX7_plan 11 = .ok (.iastore, 1) := by decide +kernel
theorem dX7_plan_12 : decode cX7_plan 12 = .ok (.iconst 0, 1) := by decide +kernel
theorem dX7_plan_13 : decode cX7_plan 13 = .ok (.ireturn, 1) := by decide +kernel
theorem dX7_plan_14 : decode cX7_plan 14 = .ok (.iload_n 1, 1) := by decide +kernel
theorem dX7_plan_15 : decode cX7_plan 15 = .ok (.i2l, 1) := by decide +kernel
theorem dX7_plan_16 : decode cX7_plan 16 = .ok (.lconst 0, 1) := by decide +kernel
theorem dX7_plan_17 : decode cX7_plan 17 = .ok (.ldc2_w 84, 3) := by decide +kernel
theorem dX7_plan_20 : decode cX7_plan 20 = .ok (.invokestatic 80, 3) := by decide +kernel
theorem dX7_plan_23 : decode cX7_plan 23 = .ok (.ifCond .eq 23, 3) := by decide +kernel
theorem dX7_plan_26 : decode cX7_plan 26 = .ok (.iload_n 1, 1) := by decide +kernel
theorem dX7_plan_27 : decode cX7_plan 27 = .ok (.i2l, 1) := by decide +kernel
theorem dX7_plan_28 : decode cX7_plan 28 = .ok (.lconst 1, 1) := by decide +kernel
theorem dX7_plan_29 : decode cX7_plan 29 = .ok (.ldc2_w 244, 3) := by decide +kernel
theorem dX7_plan_32 : decode cX7_plan 32 = .ok (.invokestatic 80, 3) := by decide +kernel
theorem dX7_plan_35 : decode cX7_plan 35 = .ok (.ifCond .eq 13, 3) := by decide +kernel
theorem dX7_plan_38 : decode cX7_plan 38 = .ok (.aload_n 0, 1) := by decide +kernel
theorem dX7_plan_39 : decode cX7_plan 39 = .ok (.iload_n 2, 1) := by decide +kernel
theorem dX7_plan_40 : decode cX7_plan 40 = .ok (.invokevirtual 92, 3) := by decide +kernel
theorem dX7_plan_43 : decode cX7_plan 43 = .ok (.ifCond .ne 5, 3) := by decide +kernel
theorem dX7_plan_46 : decode cX7_plan 46 = .ok (.iconst (-1), 1) := by decide +kernel
theorem dX7_plan_47 : decode cX7_plan 47 = .ok (.ireturn, 1) := by decide +kernel
theorem dX7_plan_48 : decode cX7_plan 48 = .ok (.iload_n 1, 1) := by decide +kernel
theorem dX7_plan_49 : decode cX7_plan 49 = .ok (.ifCond .ne 15, 3) := by decide +kernel
theorem dX7_plan_52 : decode cX7_plan 52 = .ok (.iload_n 2, 1) := by decide +kernel
theorem dX7_plan_53 : decode cX7_plan 53 = .ok (.i2l, 1) := by decide +kernel
theorem dX7_plan_54 : decode cX7_plan 54 = .ok (.lconst 0, 1) := by decide +kernel
theorem dX7_plan_55 : decode cX7_plan 55 = .ok (.ldc2_w 100, 3) := by decide +kernel
theorem dX7_plan_58 : decode cX7_plan 58 = .ok (.invokestatic 80, 3) := by decide +kernel
theorem dX7_plan_61 : decode cX7_plan 61 = .ok (.ifCond .eq 20, 3) := by decide +kernel
theorem dX7_plan_64 : decode cX7_plan 64 = .ok (.iload_n 1, 1) := by decide +kernel
theorem dX7_plan_65 : decode cX7_plan 65 = .ok (.iconst 3, 1) := by decide +kernel
theorem dX7_plan_66 : decode cX7_plan 66 = .ok (.if_icmp .ne 18, 3) := by decide +kernel
theorem dX7_plan_69 : decode cX7_plan 69 = .ok (.iload_n 2, 1) := by decide +kernel
theorem dX7_plan_70 : decode cX7_plan 70 = .ok (.i2l, 1) := by decide +kernel
theorem dX7_plan_71 : decode cX7_plan 71 = .ok (.lconst 0, 1) := by decide +kernel
theorem dX7_plan_72 : decode cX7_plan 72 = .ok (.ldc2_w 88, 3) := by decide +kernel
theorem dX7_plan_75 : decode cX7_plan 75 = .ok (.invokestatic 80, 3) := by decide +kernel
theorem dX7_plan_78 : decode cX7_plan 78 = .ok (.ifCond .ne 6, 3) := by decide +kernel
theorem dX7_plan_81 : decode cX7_plan 81 = .ok (.bipush (-2), 2) := by decide +kernel
theorem dX7_plan_83 : decode cX7_plan 83 = .ok (.ireturn, 1) := by decide +kernel
theorem dX7_plan_84 : decode cX7_plan 84 = .ok (.aload_n 0, 1) := by decide +kernel
theorem dX7_plan_85 : decode cX7_plan 85 = .ok (.getfield 15, 3) := by decide +kernel
theorem dX7_plan_88 : decode cX7_plan 88 = .ok (.iconst 3, 1) := by decide +kernel
theorem dX7_plan_89 : decode cX7_plan 89 = .ok (.iaload, 1) := by decide +kernel
theorem dX7_plan_90 : decode cX7_plan 90 = .ok (.bipush 8, 2) := by decide +kernel
theorem dX7_plan_92 : decode cX7_plan 92 = .ok (.if_icmp .ne 6, 3) := by decide +kernel
theorem dX7_plan_95 : decode cX7_plan 95 = .ok (.bipush (-4), 2) := by decide +kernel
theorem dX7_plan_97 : decode cX7_plan 97 = .ok (.ireturn, 1) := by decide +kernel
theorem dX7_plan_98 : decode cX7_plan 98 = .ok (.aload_n 0, 1) := by decide +kernel
theorem dX7_plan_99 : decode cX7_plan 99 = .ok (.getfield 15, 3) := by decide +kernel
theorem dX7_plan_102 : decode cX7_plan 102 = .ok (.bipush 45, 2) := by decide +kernel
theorem dX7_plan_104 : decode cX7_plan 104 = .ok (.aload_n 0, 1) := by decide +kernel
theorem dX7_plan_105 : decode cX7_plan 105 = .ok (.getfield 15, 3) := by decide +kernel
theorem dX7_plan_108 : decode cX7_plan 108 = .ok (.iconst 3, 1) := by decide +kernel
theorem dX7_plan_109 : decode cX7_plan 109 = .ok (.iaload, 1) := by decide +kernel
theorem dX7_plan_110 : decode cX7_plan 110 = .ok (.iadd, 1) := by decide +kernel
theorem dX7_plan_111 : decode cX7_plan 111 = .ok (.iload_n 1, 1) := by decide +kernel
theorem dX7_plan_112 : decode cX7_plan 112 = .ok (.iastore, 1) := by decide +kernel
theorem dX7_plan_113 : decode cX7_plan 113 = .ok (.aload_n 0, 1) := by decide +kernel
theorem dX7_plan_114 : decode cX7_plan 114 = .ok (.getfield 15, 3) := by decide +kernel
theorem dX7_plan_117 : decode cX7_plan 117 = .ok (.bipush 53, 2) := by decide +kernel
theorem dX7_plan_119 : decode cX7_plan 119 = .ok (.aload_n 0, 1) := by decide +kernel
theorem dX7_plan_120 : decode cX7_plan 120 = .ok (.getfield 15, 3) := by decide +kernel
theorem dX7_plan_123 : decode cX7_plan 123 = .ok (.iconst 3, 1) := by decide +kernel
theorem dX7_plan_124 : decode cX7_plan 124 = .ok (.iaload, 1) := by decide +kernel
theorem dX7_plan_125 : decode cX7_plan 125 = .ok (.iadd, 1) := by decide +kernel
theorem dX7_plan_126 : decode cX7_plan 126 = .ok (.iload_n 2, 1) := by decide +kernel
theorem dX7_plan_127 : decode cX7_plan 127 = .ok (.iastore, 1) := by decide +kernel
theorem dX7_plan_128 : decode cX7_plan 128 = .ok (.aload_n 0, 1) := by decide +kernel
theorem dX7_plan_129 : decode cX7_plan 129 = .ok (.getfield 15, 3) := by decide +kernel
theorem dX7_plan_132 : decode cX7_plan 132 = .ok (.iconst 3, 1) := by decide +kernel
theorem dX7_plan_133 : decode cX7_plan 133 = .ok (.dup2, 1) := by decide +kernel
theorem dX7_plan_134 : decode cX7_plan 134 = .ok (.iaload, 1) := by decide +kernel
theorem dX7_plan_135 : decode cX7_plan 135 = .ok (.iconst 1, 1) := by decide +kernel
theorem dX7_plan_136 : decode cX7_plan 136 = .ok (.iadd, 1) := by decide +kernel
theorem dX7_plan_137 : decode cX7_plan 137 = .ok (.iastore, 1) := by decide +kernel
theorem dX7_plan_138 : decode cX7_plan 138 = .ok (.aload_n 0, 1) := by decide +kernel
theorem dX7_plan_139 : decode cX7_plan 139 = .ok (.getfield 15, 3) := by decide +kernel
theorem dX7_plan_142 : decode cX7_plan 142 = .ok (.iconst 3, 1) := by decide +kernel
theorem dX7_plan_143 : decode cX7_plan 143 = .ok (.iaload, 1) := by decide +kernel
theorem dX7_plan_144 : decode cX7_plan 144 = .ok (.ireturn, 1) := by decide +kernel
theorem dX7_goes_0 : decode cX7_goes 0 = .ok (.iload_n 1, 1) := by decide +kernel
theorem dX7_goes_1 : decode cX7_goes 1 = .ok (.ifCond .ne 13, 3) := by decide +kernel
theorem dX7_goes_4 : decode cX7_goes 4 = .ok (.aload_n 0, 1) := by decide +kernel
theorem dX7_goes_5 : decode cX7_goes 5 = .ok (.getfield 15, 3) := by decide +kernel
theorem dX7_goes_8 : decode cX7_goes 8 = .ok (.iconst 1, 1) := by decide +kernel
theorem dX7_goes_9 : decode cX7_goes 9 = .ok (.iload_n 2, 1) := by decide +kernel
theorem dX7_goes_10 : decode cX7_goes 10 = .ok (.iastore, 1) := by decide +kernel
theorem dX7_goes_11 : decode cX7_goes 11 = .ok (.goto 59, 3) := by decide +kernel
theorem dX7_goes_14 : decode cX7_goes 14 = .ok (.iload_n 1, 1) := by decide +kernel
theorem dX7_goes_15 : decode cX7_goes 15 = .ok (.iconst 3, 1) := by decide +kernel
theorem dX7_goes_16 : decode cX7_goes 16 = .ok (.if_icmp .ge 26, 3) := by decide +kernel
theorem dX7_goes_19 : decode cX7_goes 19 = .ok (.aload_n 0, 1) := by decide +kernel
theorem dX7_goes_20 : decode cX7_goes 20 = .ok (.getfield 15, 3) := by decide +kernel
theorem dX7_goes_23 : decode cX7_goes 23 = .ok (.iload_n 1, 1) := by decide +kernel
theorem dX7_goes_24 : decode cX7_goes 24 = .ok (.iconst 1, 1) := by decide +kernel
theorem dX7_goes_25 : decode cX7_goes 25 = .ok (.if_icmp .ne 8, 3) := by decide +kernel
theorem dX7_goes_28 : decode cX7_goes 28 = .ok (.bipush 11, 2) := by decide +kernel
theorem dX7_goes_30 : decode cX7_goes 30 = .ok (.goto 5, 3) := by decide +kernel
theorem dX7_goes_33 : decode cX7_goes 33 = .ok (.bipush 29, 2) := by decide +kernel
theorem dX7_goes_35 : decode cX7_goes 35 = .ok (.iload_n 2, 1) := by decide +kernel
theorem dX7_goes_36 : decode cX7_goes 36 = .ok (.iadd, 1) := by decide +kernel
theorem dX7_goes_37 : decode cX7_goes 37 = .ok (.iconst 0, 1) := by decide +kernel
theorem dX7_goes_38 : decode cX7_goes 38 = .ok (.iastore, 1) := by decide +kernel
theorem dX7_goes_39 : decode cX7_goes 39 = .ok (.goto 31, 3) := by decide +kernel
theorem dX7_goes_42 : decode cX7_goes 42 = .ok (.iconst 0, 1) := by decide +kernel
theorem dX7_goes_43 : decode cX7_goes 43 = .ok (.istore_n 3, 1) := by decide +kernel
theorem dX7_goes_44 : decode cX7_goes 44 = .ok (.iload_n 3, 1) := by decide +kernel
theorem dX7_goes_45 : decode cX7_goes 45 = .ok (.aload_n 0, 1) := by decide +kernel
theorem dX7_goes_46 : decode cX7_goes 46 = .ok (.getfield 15, 3) := by decide +kernel
theorem dX7_goes_49 : decode cX7_goes 49 = .ok (.iconst 0, 1) := by decide +kernel
theorem dX7_goes_50 : decode cX7_goes 50 = .ok (.iaload, 1) := by decide +kernel
theorem dX7_goes_51 : decode cX7_goes 51 = .ok (.if_icmp .ge 19, 3) := by decide +kernel
theorem dX7_goes_54 : decode cX7_goes 54 = .ok (.aload_n 0, 1) := by decide +kernel
theorem dX7_goes_55 : decode cX7_goes 55 = .ok (.getfield 15, 3) := by decide +kernel
theorem dX7_goes_58 : decode cX7_goes 58 = .ok (.bipush 17, 2) := by decide +kernel
theorem dX7_goes_60 : decode cX7_goes 60 = .ok (.iload_n 3, 1) := by decide +kernel
theorem dX7_goes_61 : decode cX7_goes 61 = .ok (.iadd, 1) := by decide +kernel
theorem dX7_goes_62 : decode cX7_goes 62 = .ok (.iload_n 2, 1) := by decide +kernel
theorem dX7_goes_63 : decode cX7_goes 63 = .ok (.iastore, 1) := by decide +kernel
theorem dX7_goes_64 : decode cX7_goes 64 = .ok (.iinc 3 1, 3) := by decide +kernel
theorem dX7_goes_67 : decode cX7_goes 67 = .ok (.goto (-23), 3) := by decide +kernel
theorem dX7_goes_70 : decode cX7_goes 70 = .ok (.return_, 1) := by decide +kernel
theorem dX7_ends_0 : decode cX7_ends 0 = .ok (.iload_n 1, 1) := by decide +kernel
theorem dX7_ends_1 : decode cX7_ends 1 = .ok (.i2l, 1) := by decide +kernel
theorem dX7_ends_2 : decode cX7_ends 2 = .ok (.lconst 0, 1) := by decide +kernel
theorem dX7_ends_3 : decode cX7_ends 3 = .ok (.ldc2_w 244, 3) := by decide +kernel
theorem dX7_ends_6 : decode cX7_ends 6 = .ok (.invokestatic 80, 3) := by decide +kernel
theorem dX7_ends_9 : decode cX7_ends 9 = .ok (.ifCond .ne 5, 3) := by decide +kernel
theorem dX7_ends_12 : decode cX7_ends 12 = .ok (.iconst (-1), 1) := by decide +kernel
theorem dX7_ends_13 : decode cX7_ends 13 = .ok (.ireturn, 1) := by decide +kernel
theorem dX7_ends_14 : decode cX7_ends 14 = .ok (.aload_n 0, 1) := by decide +kernel
theorem dX7_ends_15 : decode cX7_ends 15 = .ok (.getfield 15, 3) := by decide +kernel
theorem dX7_ends_18 : decode cX7_ends 18 = .ok (.aload_n 0, 1) := by decide +kernel
theorem dX7_ends_19 : decode cX7_ends 19 = .ok (.getfield 22, 3) := by decide +kernel
theorem dX7_ends_22 : decode cX7_ends 22 = .ok (.invokestatic 246, 3) := by decide +kernel
theorem dX7_ends_25 : decode cX7_ends 25 = .ok (.iconst 0, 1) := by decide +kernel
theorem dX7_ends_26 : decode cX7_ends 26 = .ok (.istore_n 2, 1) := by decide +kernel
theorem dX7_ends_27 : decode cX7_ends 27 = .ok (.iload_n 2, 1) := by decide +kernel
theorem dX7_ends_28 : decode cX7_ends 28 = .ok (.aload_n 0, 1) := by decide +kernel
theorem dX7_ends_29 : decode cX7_ends 29 = .ok (.getfield 22, 3) := by decide +kernel
theorem dX7_ends_32 : decode cX7_ends 32 = .ok (.iconst 3, 1) := by decide +kernel
theorem dX7_ends_33 : decode cX7_ends 33 = .ok (.iaload, 1) := by decide +kernel
theorem dX7_ends_34 : decode cX7_ends 34 = .ok (.if_icmp .ge 31, 3) := by decide +kernel
theorem dX7_ends_37 : decode cX7_ends 37 = .ok (.aload_n 0, 1) := by decide +kernel
theorem dX7_ends_38 : decode cX7_ends 38 = .ok (.aload_n 0, 1) := by decide +kernel
theorem dX7_ends_39 : decode cX7_ends 39 = .ok (.getfield 22, 3) := by decide +kernel
theorem dX7_ends_42 : decode cX7_ends 42 = .ok (.bipush 45, 2) := by decide +kernel
theorem dX7_ends_44 : decode cX7_ends 44 = .ok (.iload_n 2, 1) := by decide +kernel
theorem dX7_ends_45 : decode cX7_ends 45 = .ok (.iadd, 1) := by decide +kernel
theorem dX7_ends_46 : decode cX7_ends 46 = .ok (.iaload, 1) := by decide +kernel
theorem dX7_ends_47 : decode cX7_ends 47 = .ok (.aload_n 0, 1) := by decide +kernel
theorem dX7_ends_48 : decode cX7_ends 48 = .ok (.getfield 22, 3) := by decide +kernel
theorem dX7_ends_51 : decode cX7_ends 51 = .ok (.bipush 53, 2) := by decide +kernel
theorem dX7_ends_53 : decode cX7_ends 53 = .ok (.iload_n 2, 1) := by decide +kernel
theorem dX7_ends_54 : decode cX7_ends 54 = .ok (.iadd, 1) := by decide +kernel
theorem dX7_ends_55 : decode cX7_ends 55 = .ok (.iaload, 1) := by decide +kernel
theorem dX7_ends_56 : decode cX7_ends 56 = .ok (.invokevirtual 250, 3) := by decide +kernel
theorem dX7_ends_59 : decode cX7_ends 59 = .ok (.iinc 2 1, 3) := by decide +kernel
theorem dX7_ends_62 : decode cX7_ends 62 = .ok (.goto (-35), 3) := by decide +kernel
theorem dX7_ends_65 : decode cX7_ends 65 = .ok (.aload_n 0, 1) := by decide +kernel
theorem dX7_ends_66 : decode cX7_ends 66 = .ok (.invokevirtual 148, 3) := by decide +kernel
theorem dX7_ends_69 : decode cX7_ends 69 = .ok (.iload_n 1, 1) := by decide +kernel
theorem dX7_ends_70 : decode cX7_ends 70 = .ok (.ifCond .ne 10, 3) := by decide +kernel
theorem dX7_ends_73 : decode cX7_ends 73 = .ok (.aload_n 0, 1) := by decide +kernel
theorem dX7_ends_74 : decode cX7_ends 74 = .ok (.getfield 142, 3) := by decide +kernel
theorem dX7_ends_77 : decode cX7_ends 77 = .ok (.goto 26, 3) := by decide +kernel
theorem dX7_ends_80 : decode cX7_ends 80 = .ok (.iload_n 1, 1) := by decide +kernel
theorem dX7_ends_81 : decode cX7_ends 81 = .ok (.iconst 1, 1) := by decide +kernel
theorem dX7_ends_82 : decode cX7_ends 82 = .ok (.if_icmp .ne 17, 3) := by decide +kernel
theorem dX7_ends_85 : decode cX7_ends 85 = .ok (.aload_n 0, 1) := by decide +kernel
theorem dX7_ends_86 : decode cX7_ends 86 = .ok (.getfield 15, 3) := by decide +kernel
theorem dX7_ends_89 : decode cX7_ends 89 = .ok (.iconst 1, 1) := by decide +kernel
theorem dX7_ends_90 : decode cX7_ends 90 = .ok (.iaload, 1) := by decide +kernel
theorem dX7_ends_91 : decode cX7_ends 91 = .ok (.aload_n 0, 1) := by decide +kernel
theorem dX7_ends_92 : decode cX7_ends 92 = .ok (.getfield 142, 3) := by decide +kernel
theorem dX7_ends_95 : decode cX7_ends 95 = .ok (.isub, 1) := by decide +kernel
theorem dX7_ends_96 : decode cX7_ends 96 = .ok (.goto 7, 3) := by decide +kernel
theorem dX7_ends_99 : decode cX7_ends 99 = .ok (.aload_n 0, 1) := by decide +kernel
theorem dX7_ends_100 : decode cX7_ends 100 = .ok (.getfield 115, 3) := by decide +kernel
theorem dX7_ends_103 : decode cX7_ends 103 = .ok (.istore_n 2, 1) := by decide +kernel
theorem dX7_ends_104 : decode cX7_ends 104 = .ok (.aload_n 0, 1) := by decide +kernel
theorem dX7_ends_105 : decode cX7_ends 105 = .ok (.getfield 22, 3) := by decide +kernel
theorem dX7_ends_108 : decode cX7_ends 108 = .ok (.aload_n 0, 1) := by decide +kernel
theorem dX7_ends_109 : decode cX7_ends 109 = .ok (.getfield 15, 3) := by decide +kernel
theorem dX7_ends_112 : decode cX7_ends 112 = .ok (.invokestatic 246, 3) := by decide +kernel
theorem dX7_ends_115 : decode cX7_ends 115 = .ok (.iload_n 2, 1) := by decide +kernel
theorem dX7_ends_116 : decode cX7_ends 116 = .ok (.ireturn, 1) := by decide +kernel
theorem dX7_book_0 : decode cX7_book 0 = .ok (.iload_n 1, 1) := by decide +kernel
theorem dX7_book_1 : decode cX7_book 1 = .ok (.iconst (-1), 1) := by decide +kernel
theorem dX7_book_2 : decode cX7_book 2 = .ok (.if_icmp .ne 12, 3) := by decide +kernel
theorem dX7_book_5 : decode cX7_book 5 = .ok (.aload_n 0, 1) := by decide +kernel
theorem dX7_book_6 : decode cX7_book 6 = .ok (.getfield 15, 3) := by decide +kernel
theorem dX7_book_9 : decode cX7_book 9 = .ok (.iconst 4, 1) := by decide +kernel
theorem dX7_book_10 : decode cX7_book 10 = .ok (.iconst 0, 1) := by decide +kernel
theorem dX7_book_11 : decode cX7_book 11 = .ok (.iastore, 1) := by decide +kernel
theorem dX7_book_12 : decode cX7_book 12 = .ok (.iconst 0, 1) := by decide +kernel
theorem dX7_book_13 : decode cX7_book 13 = .ok (.ireturn, 1) := by decide +kernel
theorem dX7_book_14 : decode cX7_book 14 = .ok (.aload_n 0, 1) := by decide +kernel
theorem dX7_book_15 : decode cX7_book 15 = .ok (.iload_n 1, 1) := by decide +kernel
theorem dX7_book_16 : decode cX7_book 16 = .ok (.invokevirtual 92, 3) := by decide +kernel
theorem dX7_book_19 : decode cX7_book 19 = .ok (.ifCond .ne 5, 3) := by decide +kernel
theorem dX7_book_22 : decode cX7_book 22 = .ok (.iconst (-1), 1) := by decide +kernel
theorem dX7_book_23 : decode cX7_book 23 = .ok (.ireturn, 1) := by decide +kernel
theorem dX7_book_24 : decode cX7_book 24 = .ok (.iload_n 2, 1) := by decide +kernel
theorem dX7_book_25 : decode cX7_book 25 = .ok (.i2l, 1) := by decide +kernel
theorem dX7_book_26 : decode cX7_book 26 = .ok (.lconst 0, 1) := by decide +kernel
theorem dX7_book_27 : decode cX7_book 27 = .ok (.ldc2_w 86, 3) := by decide +kernel
theorem dX7_book_30 : decode cX7_book 30 = .ok (.invokestatic 80, 3) := by decide +kernel
theorem dX7_book_33 : decode cX7_book 33 = .ok (.ifCond .ne 6, 3) := by decide +kernel
theorem dX7_book_36 : decode cX7_book 36 = .ok (.bipush (-2), 2) := by decide +kernel
theorem dX7_book_38 : decode cX7_book 38 = .ok (.ireturn, 1) := by decide +kernel
theorem dX7_book_39 : decode cX7_book 39 = .ok (.aload_n 0, 1) := by decide +kernel
theorem dX7_book_40 : decode cX7_book 40 = .ok (.getfield 15, 3) := by decide +kernel
theorem dX7_book_43 : decode cX7_book 43 = .ok (.iconst 4, 1) := by decide +kernel
theorem dX7_book_44 : decode cX7_book 44 = .ok (.iaload, 1) := by decide +kernel
theorem dX7_book_45 : decode cX7_book 45 = .ok (.bipush 8, 2) := by decide +kernel
theorem dX7_book_47 : decode cX7_book 47 = .ok (.if_icmp .ne 6, 3) := by decide +kernel
theorem dX7_book_50 : decode cX7_book 50 = .ok (.bipush (-4), 2) := by decide +kernel
theorem dX7_book_52 : decode cX7_book 52 = .ok (.ireturn, 1) := by decide +kernel
theorem dX7_book_53 : decode cX7_book 53 = .ok (.aload_n 0, 1) := by decide +kernel
theorem dX7_book_54 : decode cX7_book 54 = .ok (.getfield 15, 3) := by decide +kernel
theorem dX7_book_57 : decode cX7_book 57 = .ok (.bipush 61, 2) := by decide +kernel
theorem dX7_book_59 : decode cX7_book 59 = .ok (.aload_n 0, 1) := by decide +kernel
theorem dX7_book_60 : decode cX7_book 60 = .ok (.getfield 15, 3) := by decide +kernel
theorem dX7_book_63 : decode cX7_book 63 = .ok (.iconst 4, 1) := by decide +kernel
theorem dX7_book_64 : decode cX7_book 64 = .ok (.iaload, 1) := by decide +kernel
theorem dX7_book_65 : decode cX7_book 65 = .ok (.iadd, 1) := by decide +kernel
theorem dX7_book_66 : decode cX7_book 66 = .ok (.iload_n 1, 1) := by decide +kernel
theorem dX7_book_67 : decode cX7_book 67 = .ok (.iastore, 1) := by decide +kernel
theorem dX7_book_68 : decode cX7_book 68 = .ok (.aload_n 0, 1) := by decide +kernel
theorem dX7_book_69 : decode cX7_book 69 = .ok (.getfield 15, 3) := by decide +kernel
theorem dX7_book_72 : decode cX7_book 72 = .ok (.bipush 69, 2) := by decide +kernel
theorem dX7_book_74 : decode cX7_book 74 = .ok (.aload_n 0, 1) := by decide +kernel
theorem dX7_book_75 : decode cX7_book 75 = .ok (.getfield 15, 3) := by decide +kernel
theorem dX7_book_78 : decode cX7_book 78 = .ok (.iconst 4, 1) := by decide +kernel
theorem dX7_book_79 : decode cX7_book 79 = .ok (.iaload, 1) := by decide +kernel
theorem dX7_book_80 : decode cX7_book 80 = .ok (.iadd, 1) := by decide +kernel
theorem dX7_book_81 : decode cX7_book 81 = .ok (.iload_n 2, 1) := by decide +kernel
theorem dX7_book_82 : decode cX7_book 82 = .ok (.iastore, 1) := by decide +kernel
theorem dX7_book_83 : decode cX7_book 83 = .ok (.aload_n 0, 1) := by decide +kernel
theorem dX7_book_84 : decode cX7_book 84 = .ok (.getfield 15, 3) := by decide +kernel
theorem dX7_book_87 : decode cX7_book 87 = .ok (.iconst 4, 1) := by decide +kernel
theorem dX7_book_88 : decode cX7_book 88 = .ok (.dup2, 1) := by decide +kernel
theorem dX7_book_89 : decode cX7_book 89 = .ok (.iaload, 1) := by decide +kernel
theorem dX7_book_90 : decode cX7_book 90 = .ok (.iconst 1, 1) := by decide +kernel
theorem dX7_book_91 : decode cX7_book 91 = .ok (.iadd, 1) := by decide +kernel
theorem dX7_book_92 : decode cX7_book 92 = .ok (.iastore, 1) := by decide +kernel
theorem dX7_book_93 : decode cX7_book 93 = .ok (.aload_n 0, 1) := by decide +kernel
theorem dX7_book_94 : decode cX7_book 94 = .ok (.getfield 15, 3) := by decide +kernel
theorem dX7_book_97 : decode cX7_book 97 = .ok (.iconst 4, 1) := by decide +kernel
theorem dX7_book_98 : decode cX7_book 98 = .ok (.iaload, 1) := by decide +kernel
theorem dX7_book_99 : decode cX7_book 99 = .ok (.ireturn, 1) := by decide +kernel
theorem dX7_looked_0 : decode cX7_looked 0 = .ok (.aload_n 0, 1) := by decide +kernel
theorem dX7_looked_1 : decode cX7_looked 1 = .ok (.invokevirtual 148, 3) := by decide +kernel
theorem dX7_looked_4 : decode cX7_looked 4 = .ok (.iconst 0, 1) := by decide +kernel
theorem dX7_looked_5 : decode cX7_looked 5 = .ok (.istore_n 1, 1) := by decide +kernel
theorem dX7_looked_6 : decode cX7_looked 6 = .ok (.iload_n 1, 1) := by decide +kernel
theorem dX7_looked_7 : decode cX7_looked 7 = .ok (.aload_n 0, 1) := by decide +kernel
theorem dX7_looked_8 : decode cX7_looked 8 = .ok (.getfield 15, 3) := by decide +kernel
theorem dX7_looked_11 : decode cX7_looked 11 = .ok (.iconst 4, 1) := by decide +kernel
theorem dX7_looked_12 : decode cX7_looked 12 = .ok (.iaload, 1) := by decide +kernel
theorem dX7_looked_13 : decode cX7_looked 13 = .ok (.if_icmp .ge 37, 3) := by decide +kernel
theorem dX7_looked_16 : decode cX7_looked 16 = .ok (.aload_n 0, 1) := by decide +kernel
theorem dX7_looked_17 : decode cX7_looked 17 = .ok (.getfield 37, 3) := by decide +kernel
theorem dX7_looked_20 : decode cX7_looked 20 = .ok (.aload_n 0, 1) := by decide +kernel
theorem dX7_looked_21 : decode cX7_looked 21 = .ok (.getfield 15, 3) := by decide +kernel
theorem dX7_looked_24 : decode cX7_looked 24 = .ok (.bipush 61, 2) := by decide +kernel
theorem dX7_looked_26 : decode cX7_looked 26 = .ok (.iload_n 1, 1) := by decide +kernel
theorem dX7_looked_27 : decode cX7_looked 27 = .ok (.iadd, 1) := by decide +kernel
theorem dX7_looked_28 : decode cX7_looked 28 = .ok (.iaload, 1) := by decide +kernel
theorem dX7_looked_29 : decode cX7_looked 29 = .ok (.iaload, 1) := by decide +kernel
theorem dX7_looked_30 : decode cX7_looked 30 = .ok (.aload_n 0, 1) := by decide +kernel
theorem dX7_looked_31 : decode cX7_looked 31 = .ok (.getfield 15, 3) := by decide +kernel
theorem dX7_looked_34 : decode cX7_looked 34 = .ok (.bipush 69, 2) := by decide +kernel
theorem dX7_looked_36 : decode cX7_looked 36 = .ok (.iload_n 1, 1) := by decide +kernel
theorem dX7_looked_37 : decode cX7_looked 37 = .ok (.iadd, 1) := by decide +kernel
theorem dX7_looked_38 : decode cX7_looked 38 = .ok (.iaload, 1) := by decide +kernel
theorem dX7_looked_39 : decode cX7_looked 39 = .ok (.if_icmp .eq 5, 3) := by decide +kernel
theorem dX7_looked_42 : decode cX7_looked 42 = .ok (.iload_n 1, 1) := by decide +kernel
theorem dX7_looked_43 : decode cX7_looked 43 = .ok (.ireturn, 1) := by decide +kernel
theorem dX7_looked_44 : decode cX7_looked 44 = .ok (.iinc 1 1, 3) := by decide +kernel
theorem dX7_looked_47 : decode cX7_looked 47 = .ok (.goto (-41), 3) := by decide +kernel
theorem dX7_looked_50 : decode cX7_looked 50 = .ok (.bipush (-5), 2) := by decide +kernel
theorem dX7_looked_52 : decode cX7_looked 52 = .ok (.ireturn, 1) := by decide +kernel
theorem dX7_judge_0 : decode cX7_judge 0 = .ok (.iload_n 1, 1) := by decide +kernel
theorem dX7_judge_1 : decode cX7_judge 1 = .ok (.invokestatic 253, 3) := by decide +kernel
theorem dX7_judge_4 : decode cX7_judge 4 = .ok (.ifCond .ne 5, 3) := by decide +kernel
theorem dX7_judge_7 : decode cX7_judge 7 = .ok (.iconst (-1), 1) := by decide +kernel
theorem dX7_judge_8 : decode cX7_judge 8 = .ok (.ireturn, 1) := by decide +kernel
theorem dX7_judge_9 : decode cX7_judge 9 = .ok (.aload_n 0, 1) := by decide +kernel
theorem dX7_judge_10 : decode cX7_judge 10 = .ok (.getfield 70, 3) := by decide +kernel
theorem dX7_judge_13 : decode cX7_judge 13 = .ok (.iload_n 1, 1) := by decide +kernel
theorem dX7_judge_14 : decode cX7_judge 14 = .ok (.iaload, 1) := by decide +kernel
theorem dX7_judge_15 : decode cX7_judge 15 = .ok (.iconst (-1), 1) := by decide +kernel
theorem dX7_judge_16 : decode cX7_judge 16 = .ok (.if_icmp .eq 16, 3) := by decide +kernel
theorem dX7_judge_19 : decode cX7_judge 19 = .ok (.aload_n 0, 1) := by decide +kernel
theorem dX7_judge_20 : decode cX7_judge 20 = .ok (.getfield 70, 3) := by decide +kernel
theorem dX7_judge_23 : decode cX7_judge 23 = .ok (.iload_n 1, 1) := by decide +kernel
theorem dX7_judge_24 : decode cX7_judge 24 = .ok (.iaload, 1) := by decide +kernel
theorem dX7_judge_25 : decode cX7_judge 25 = .ok (.iconst 3, 1) := by decide +kernel
theorem dX7_judge_26 : decode cX7_judge 26 = .ok (.if_icmp .eq 6, 3) := by decide +kernel
theorem dX7_judge_29 : decode cX7_judge 29 = .ok (.bipush (-12), 2) := by decide +kernel
theorem dX7_judge_31 : decode cX7_judge 31 = .ok (.ireturn, 1) := by decide +kernel
theorem dX7_judge_32 : decode cX7_judge 32 = .ok (.aload_n 0, 1) := by decide +kernel
theorem dX7_judge_33 : decode cX7_judge 33 = .ok (.invokevirtual 148, 3) := by decide +kernel
theorem dX7_judge_36 : decode cX7_judge 36 = .ok (.iconst 0, 1) := by decide +kernel
theorem dX7_judge_37 : decode cX7_judge 37 = .ok (.istore_n 3, 1) := by decide +kernel
theorem dX7_judge_38 : decode cX7_judge 38 = .ok (.iload_n 3, 1) := by decide +kernel
theorem dX7_judge_39 : decode cX7_judge 39 = .ok (.aload_n 0, 1) := by decide +kernel
theorem dX7_judge_40 : decode cX7_judge 40 = .ok (.getfield 15, 3) := by decide +kernel
theorem dX7_judge_43 : decode cX7_judge 43 = .ok (.iconst 0, 1) := by decide +kernel
theorem dX7_judge_44 : decode cX7_judge 44 = .ok (.iaload, 1) := by decide +kernel
theorem dX7_judge_45 : decode cX7_judge 45 = .ok (.if_icmp .ge 77, 3) := by decide +kernel
theorem dX7_judge_48 : decode cX7_judge 48 = .ok (.iload_n 2, 1) := by decide +kernel
theorem dX7_judge_49 : decode cX7_judge 49 = .ok (.i2l, 1) := by decide +kernel
theorem dX7_judge_50 : decode cX7_judge 50 = .ok (.iload_n 3, 1) := by decide +kernel
theorem dX7_judge_51 : decode cX7_judge 51 = .ok (.i2l, 1) := by decide +kernel
theorem dX7_judge_52 : decode cX7_judge 52 = .ok (.ladd, 1) := by decide +kernel
theorem dX7_judge_53 : decode cX7_judge 53 = .ok (.lstore 4, 2) := by decide +kernel
theorem dX7_judge_55 : decode cX7_judge 55 = .ok (.aload_n 0, 1) := by decide +kernel
theorem dX7_judge_56 : decode cX7_judge 56 = .ok (.getfield 70, 3) := by decide +kernel
theorem dX7_judge_59 : decode cX7_judge 59 = .ok (.iload_n 1, 1) := by decide +kernel
theorem dX7_judge_60 : decode cX7_judge 60 = .ok (.iaload, 1) := by decide +kernel
theorem dX7_judge_61 : decode cX7_judge 61 = .ok (.iconst (-1), 1) := by decide +kernel
theorem dX7_judge_62 : decode cX7_judge 62 = .ok (.if_icmp .eq 23, 3) := by decide +kernel
theorem dX7_judge_65 : decode cX7_judge 65 = .ok (.lload 4, 2) := by decide +kernel
theorem dX7_judge_67 : decode cX7_judge 67 = .ok (.lconst 0, 1) := by decide +kernel
theorem dX7_judge_68 : decode cX7_judge 68 = .ok (.lcmp, 1) := by decide +kernel
theorem dX7_judge_69 : decode cX7_judge 69 = .ok (.ifCond .lt 16, 3) := by decide +kernel
theorem dX7_judge_72 : decode cX7_judge 72 = .ok (.lload 4, 2) := by decide +kernel
theorem dX7_judge_74 : decode cX7_judge 74 = .ok (.aload_n 0, 1) := by decide +kernel
theorem dX7_judge_75 : decode cX7_judge 75 = .ok (.getfield 73, 3) := by decide +kernel
theorem dX7_judge_78 : decode cX7_judge 78 = .ok (.iload_n 1, 1) := by decide +kernel
theorem dX7_judge_79 : decode cX7_judge 79 = .ok (.iaload, 1) := by decide +kernel
theorem dX7_judge_80 : decode cX7_judge 80 = .ok (.i2l, 1) := by decide +kernel
theorem dX7_judge_81 : decode cX7_judge 81 = .ok (.lcmp, 1) := by decide +kernel
theorem dX7_judge_82 : decode cX7_judge 82 = .ok (.ifCond .lt 8, 3) := by decide +kernel
theorem dX7_judge_85 : decode cX7_judge 85 = .ok (.bipush 100, 2) := by decide +kernel
theorem dX7_judge_87 : decode cX7_judge 87 = .ok (.iload_n 3, 1) := by decide +kernel
theorem dX7_judge_88 : decode cX7_judge 88 = .ok (.iadd, 1) := by decide +kernel
theorem dX7_judge_89 : decode cX7_judge 89 = .ok (.ireturn, 1) := by decide +kernel
theorem dX7_judge_90 : decode cX7_judge 90 = .ok (.aload_n 0, 1) := by decide +kernel
theorem dX7_judge_91 : decode cX7_judge 91 = .ok (.getfield 76, 3) := by decide +kernel
theorem dX7_judge_94 : decode cX7_judge 94 = .ok (.bipush 60, 2) := by decide +kernel
theorem dX7_judge_96 : decode cX7_judge 96 = .ok (.iload_n 1, 1) := by decide +kernel
theorem dX7_judge_97 : decode cX7_judge 97 = .ok (.imul, 1) := by decide +kernel
theorem dX7_judge_98 : decode cX7_judge 98 = .ok (.lload 4, 2) := by decide +kernel
theorem dX7_judge_100 : decode cX7_judge 100 = .ok (.l2i, 1) := by decide +kernel
theorem dX7_judge_101 : decode cX7_judge 101 = .ok (.iadd, 1) := by decide +kernel
theorem dX7_judge_102 : decode cX7_judge 102 = .ok (.laload, 1) := by decide +kernel
theorem dX7_judge_103 : decode cX7_judge 103 = .ok (.aload_n 0, 1) := by decide +kernel
theorem dX7_judge_104 : decode cX7_judge 104 = .ok (.getfield 37, 3) := by decide +kernel
theorem dX7_judge_107 : decode cX7_judge 107 = .ok (.iload_n 3, 1) := by decide +kernel
theorem dX7_judge_108 : decode cX7_judge 108 = .ok (.iaload, 1) := by decide +kernel
theorem dX7_judge_109 : decode cX7_judge 109 = .ok (.i2l, 1) := by decide +kernel
theorem dX7_judge_110 : decode cX7_judge 110 = .ok (.lcmp, 1) := by decide +kernel
theorem dX7_judge_111 : decode cX7_judge 111 = .ok (.ifCond .eq 5, 3) := by decide +kernel
theorem dX7_judge_114 : decode cX7_judge 114 = .ok (.iload_n 3, 1) := by decide +kernel
theorem dX7_judge_115 : decode cX7_judge 115 = .ok (.ireturn, 1) := by decide +kernel
theorem dX7_judge_116 : decode cX7_judge 116 = .ok (.iinc 3 1, 3) := by decide +kernel
theorem dX7_judge_119 : decode cX7_judge 119 = .ok (.goto (-81), 3) := by decide +kernel
theorem dX7_judge_122 : decode cX7_judge 122 = .ok (.bipush (-5), 2) := by decide +kernel
theorem dX7_judge_124 : decode cX7_judge 124 = .ok (.ireturn, 1) := by decide +kernel
theorem dX7_image_0 : decode cX7_image 0 = .ok (.aload_n 0, 1) := by decide +kernel
theorem dX7_image_1 : decode cX7_image 1 = .ok (.getfield 15, 3) := by decide +kernel
theorem dX7_image_4 : decode cX7_image 4 = .ok (.aload_n 0, 1) := by decide +kernel
theorem dX7_image_5 : decode cX7_image 5 = .ok (.getfield 19, 3) := by decide +kernel
theorem dX7_image_8 : decode cX7_image 8 = .ok (.invokestatic 246, 3) := by decide +kernel
theorem dX7_image_11 : decode cX7_image 11 = .ok (.aload_n 0, 1) := by decide +kernel
theorem dX7_image_12 : decode cX7_image 12 = .ok (.iconst 1, 1) := by decide +kernel
theorem dX7_image_13 : decode cX7_image 13 = .ok (.putfield 256, 3) := by decide +kernel
theorem dX7_image_16 : decode cX7_image 16 = .ok (.aload_n 0, 1) := by decide +kernel
theorem dX7_image_17 : decode cX7_image 17 = .ok (.getfield 15, 3) := by decide +kernel
theorem dX7_image_20 : decode cX7_image 20 = .ok (.iconst 0, 1) := by decide +kernel
theorem dX7_image_21 : decode cX7_image 21 = .ok (.iaload, 1) := by decide +kernel
theorem dX7_image_22 : decode cX7_image 22 = .ok (.ireturn, 1) := by decide +kernel
theorem dX7_undo_0 : decode cX7_undo 0 = .ok (.aload_n 0, 1) := by decide +kernel
theorem dX7_undo_1 : decode cX7_undo 1 = .ok (.getfield 256, 3) := by decide +kernel
theorem dX7_undo_4 : decode cX7_undo 4 = .ok (.ifCond .ne 6, 3) := by decide +kernel
theorem dX7_undo_7 : decode cX7_undo 7 = .ok (.bipush (-3), 2) := by decide +kernel
theorem dX7_undo_9 : decode cX7_undo 9 = .ok (.ireturn, 1) := by decide +kernel
theorem dX7_undo_10 : decode cX7_undo 10 = .ok (.aload_n 0, 1) := by decide +kernel
theorem dX7_undo_11 : decode cX7_undo 11 = .ok (.getfield 19, 3) := by decide +kernel
theorem dX7_undo_14 : decode cX7_undo 14 = .ok (.aload_n 0, 1) := by decide +kernel
theorem dX7_undo_15 : decode cX7_undo 15 = .ok (.getfield 15, 3) := by decide +kernel
theorem dX7_undo_18 : decode cX7_undo 18 = .ok (.invokestatic 246, 3) := by decide +kernel
theorem dX7_undo_21 : decode cX7_undo 21 = .ok (.aload_n 0, 1) := by decide +kernel
theorem dX7_undo_22 : decode cX7_undo 22 = .ok (.getfield 15, 3) := by decide +kernel
theorem dX7_undo_25 : decode cX7_undo 25 = .ok (.iconst 0, 1) := by decide +kernel
theorem dX7_undo_26 : decode cX7_undo 26 = .ok (.iaload, 1) := by decide +kernel
theorem dX7_undo_27 : decode cX7_undo 27 = .ok (.ireturn, 1) := by decide +kernel
theorem dX7_count_0 : decode cX7_count 0 = .ok (.iload_n 1, 1) := by decide +kernel
theorem dX7_count_1 : decode cX7_count 1 = .ok (.tableswitch 57 0 3 #[31, 38, 45, 52], 31) := by decide +kernel
theorem dX7_count_32 : decode cX7_count 32 = .ok (.aload_n 0, 1) := by decide +kernel
theorem dX7_count_33 : decode cX7_count 33 = .ok (.getfield 15, 3) := by decide +kernel
theorem dX7_count_36 : decode cX7_count 36 = .ok (.iconst 2, 1) := by decide +kernel
theorem dX7_count_37 : decode cX7_count 37 = .ok (.iaload, 1) := by decide +kernel
theorem dX7_count_38 : decode cX7_count 38 = .ok (.ireturn, 1) := by decide +kernel
theorem dX7_count_39 : decode cX7_count 39 = .ok (.aload_n 0, 1) := by decide +kernel
theorem dX7_count_40 : decode cX7_count 40 = .ok (.getfield 15, 3) := by decide +kernel
theorem dX7_count_43 : decode cX7_count 43 = .ok (.iconst 3, 1) := by decide +kernel
theorem dX7_count_44 : decode cX7_count 44 = .ok (.iaload, 1) := by decide +kernel
theorem dX7_count_45 : decode cX7_count 45 = .ok (.ireturn, 1) := by decide +kernel
theorem dX7_count_46 : decode cX7_count 46 = .ok (.aload_n 0, 1) := by decide +kernel
theorem dX7_count_47 : decode cX7_count 47 = .ok (.getfield 15, 3) := by decide +kernel
theorem dX7_count_50 : decode cX7_count 50 = .ok (.iconst 4, 1) := by decide +kernel
theorem dX7_count_51 : decode cX7_count 51 = .ok (.iaload, 1) := by decide +kernel
theorem dX7_count_52 : decode cX7_count 52 = .ok (.ireturn, 1) := by decide +kernel
theorem dX7_count_53 : decode cX7_count 53 = .ok (.aload_n 0, 1) := by decide +kernel
theorem dX7_count_54 : decode cX7_count 54 = .ok (.getfield 156, 3) := by decide +kernel
theorem dX7_count_57 : decode cX7_count 57 = .ok (.ireturn, 1) := by decide +kernel
theorem dX7_count_58 : decode cX7_count 58 = .ok (.bipush (-2), 2) := by decide +kernel
theorem dX7_count_60 : decode cX7_count 60 = .ok (.ireturn, 1) := by decide +kernel
theorem dX7_isTape_0 : decode cX7_isTape 0 = .ok (.iload_n 0, 1) := by decide +kernel
theorem dX7_isTape_1 : decode cX7_isTape 1 = .ok (.i2l, 1) := by decide +kernel
theorem dX7_isTape_2 : decode cX7_isTape 2 = .ok (.lconst 0, 1) := by decide +kernel
theorem dX7_isTape_3 : decode cX7_isTape 3 = .ok (.ldc2_w 259, 3) := by decide +kernel
theorem dX7_isTape_6 : decode cX7_isTape 6 = .ok (.invokestatic 80, 3) := by decide +kernel
theorem dX7_isTape_9 : decode cX7_isTape 9 = .ok (.ireturn, 1) := by decide +kernel
theorem dX7_tape_0 : decode cX7_tape 0 = .ok (.iload_n 1, 1) := by decide +kernel
theorem dX7_tape_1 : decode cX7_tape 1 = .ok (.invokestatic 253, 3) := by decide +kernel
theorem dX7_tape_4 : decode cX7_tape 4 = .ok (.ifCond .ne 5, 3) := by decide +kernel
theorem dX7_tape_7 : decode cX7_tape 7 = .ok (.iconst (-1), 1) := by decide +kernel
theorem dX7_tape_8 : decode cX7_tape 8 = .ok (.ireturn, 1) := by decide +kernel
theorem dX7_tape_9 : decode cX7_tape 9 = .ok (.iload_n 2, 1) := by decide +kernel
theorem dX7_tape_10 : decode cX7_tape 10 = .ok (.i2l, 1) := by decide +kernel
theorem dX7_tape_11 : decode cX7_tape 11 = .ok (.ldc2_w 261, 3) := by decide +kernel
theorem dX7_tape_14 : decode cX7_tape 14 = .ok (.ldc2_w 263, 3) := by decide +kernel
theorem dX7_tape_17 : decode cX7_tape 17 = .ok (.invokestatic 80, 3) := by decide +kernel
theorem dX7_tape_20 : decode cX7_tape 20 = .ok (.ifCond .eq 14, 3) := by decide +kernel
theorem dX7_tape_23 : decode cX7_tape 23 = .ok (.iload_n 2, 1) := by decide +kernel
theorem dX7_tape_24 : decode cX7_tape 24 = .ok (.iconst (-1), 1) := by decide +kernel
theorem dX7_tape_25 : decode cX7_tape 25 = .ok (.if_icmp .eq 12, 3) := by decide +kernel
theorem dX7_tape_28 : decode cX7_tape 28 = .ok (.iload_n 3, 1) := by decide +kernel
theorem dX7_tape_29 : decode cX7_tape 29 = .ok (.bipush 60, 2) := by decide +kernel
theorem dX7_tape_31 : decode cX7_tape 31 = .ok (.if_icmp .le 6, 3) := by decide +kernel
theorem dX7_tape_34 : decode cX7_tape 34 = .ok (.bipush (-2), 2) := by decide +kernel
theorem dX7_tape_36 : decode cX7_tape 36 = .ok (.ireturn, 1) := by decide +kernel
theorem dX7_tape_37 : decode cX7_tape 37 = .ok (.iload_n 2, 1) := by decide +kernel
theorem dX7_tape_38 : decode cX7_tape 38 = .ok (.iconst (-1), 1) := by decide +kernel
theorem dX7_tape_39 : decode cX7_tape 39 = .ok (.if_icmp .eq 10, 3) := by decide +kernel
theorem dX7_tape_42 : decode cX7_tape 42 = .ok (.iload_n 3, 1) := by decide +kernel
theorem dX7_tape_43 : decode cX7_tape 43 = .ok (.ifCond .ge 6, 3) := by decide +kernel
theorem dX7_tape_46 : decode cX7_tape 46 = .ok (.bipush (-14), 2) := by decide +kernel
theorem dX7_tape_48 : decode cX7_tape 48 = .ok (.ireturn, 1) := by decide +kernel
theorem dX7_tape_49 : decode cX7_tape 49 = .ok (.aload_n 0, 1) := by decide +kernel
theorem dX7_tape_50 : decode cX7_tape 50 = .ok (.getfield 70, 3) := by decide +kernel
theorem dX7_tape_53 : decode cX7_tape 53 = .ok (.iload_n 1, 1) := by decide +kernel
theorem dX7_tape_54 : decode cX7_tape 54 = .ok (.iload_n 2, 1) := by decide +kernel
theorem dX7_tape_55 : decode cX7_tape 55 = .ok (.iastore, 1) := by decide +kernel
theorem dX7_tape_56 : decode cX7_tape 56 = .ok (.aload_n 0, 1) := by decide +kernel
theorem dX7_tape_57 : decode cX7_tape 57 = .ok (.getfield 73, 3) := by decide +kernel
theorem dX7_tape_60 : decode cX7_tape 60 = .ok (.iload_n 1, 1) := by decide +kernel
theorem dX7_tape_61 : decode cX7_tape 61 = .ok (.iload_n 2, 1) := by decide +kernel
theorem dX7_tape_62 : decode cX7_tape 62 = .ok (.iconst (-1), 1) := by decide +kernel
theorem dX7_tape_63 : decode cX7_tape 63 = .ok (.if_icmp .ne 7, 3) := by decide +kernel
theorem dX7_tape_66 : decode cX7_tape 66 = .ok (.iconst 0, 1) := by decide +kernel
theorem dX7_tape_67 : decode cX7_tape 67 = .ok (.goto 4, 3) := by decide +kernel
theorem dX7_tape_70 : decode cX7_tape 70 = .ok (.iload_n 3, 1) := by decide +kernel
theorem dX7_tape_71 : decode cX7_tape 71 = .ok (.iastore, 1) := by decide +kernel
theorem dX7_tape_72 : decode cX7_tape 72 = .ok (.iconst 0, 1) := by decide +kernel
theorem dX7_tape_73 : decode cX7_tape 73 = .ok (.istore 4, 2) := by decide +kernel
theorem dX7_tape_75 : decode cX7_tape 75 = .ok (.iload 4, 2) := by decide +kernel
theorem dX7_tape_77 : decode cX7_tape 77 = .ok (.bipush 60, 2) := by decide +kernel
theorem dX7_tape_79 : decode cX7_tape 79 = .ok (.if_icmp .ge 22, 3) := by decide +kernel
theorem dX7_tape_82 : decode cX7_tape 82 = .ok (.aload_n 0, 1) := by decide +kernel
theorem dX7_tape_83 : decode cX7_tape 83 = .ok (.getfield 76, 3) := by decide +kernel
theorem dX7_tape_86 : decode cX7_tape 86 = .ok (.bipush 60, 2) := by decide +kernel
theorem dX7_tape_88 : decode cX7_tape 88 = .ok (.iload_n 1, 1) := by decide +kernel
theorem dX7_tape_89 : decode cX7_tape 89 = .ok (.imul, 1) := by decide +kernel
theorem dX7_tape_90 : decode cX7_tape 90 = .ok (.iload 4, 2) := by decide +kernel
theorem dX7_tape_92 : decode cX7_tape 92 = .ok (.iadd, 1) := by decide +kernel
theorem dX7_tape_93 : decode cX7_tape 93 = .ok (.lconst 0, 1) := by decide +kernel
theorem dX7_tape_94 : decode cX7_tape 94 = .ok (.lastore, 1) := by decide +kernel
theorem dX7_tape_95 : decode cX7_tape 95 = .ok (.iinc 4 1, 3) := by decide +kernel
theorem dX7_tape_98 : decode cX7_tape 98 = .ok (.goto (-23), 3) := by decide +kernel
theorem dX7_tape_101 : decode cX7_tape 101 = .ok (.iconst 1, 1) := by decide +kernel
theorem dX7_tape_102 : decode cX7_tape 102 = .ok (.ireturn, 1) := by decide +kernel
theorem dX7_item_0 : decode cX7_item 0 = .ok (.iload_n 1, 1) := by decide +kernel
theorem dX7_item_1 : decode cX7_item 1 = .ok (.invokestatic 253, 3) := by decide +kernel
theorem dX7_item_4 : decode cX7_item 4 = .ok (.ifCond .ne 5, 3) := by decide +kernel
theorem dX7_item_7 : decode cX7_item 7 = .ok (.iconst (-1), 1) := by decide +kernel
theorem dX7_item_8 : decode cX7_item 8 = .ok (.ireturn, 1) := by decide +kernel
theorem dX7_item_9 : decode cX7_item 9 = .ok (.aload_n 0, 1) := by decide +kernel
theorem dX7_item_10 : decode cX7_item 10 = .ok (.getfield 70, 3) := by decide +kernel
theorem dX7_item_13 : decode cX7_item 13 = .ok (.iload_n 1, 1) := by decide +kernel
theorem dX7_item_14 : decode cX7_item 14 = .ok (.iaload, 1) := by decide +kernel
theorem dX7_item_15 : decode cX7_item 15 = .ok (.iconst (-1), 1) := by decide +kernel
theorem dX7_item_16 : decode cX7_item 16 = .ok (.if_icmp .ne 6, 3) := by decide +kernel
theorem dX7_item_19 : decode cX7_item 19 = .ok (.bipush (-11), 2) := by decide +kernel
theorem dX7_item_21 : decode cX7_item 21 = .ok (.ireturn, 1) := by decide +kernel
theorem dX7_item_22 : decode cX7_item 22 = .ok (.iload_n 2, 1) := by decide +kernel
theorem dX7_item_23 : decode cX7_item 23 = .ok (.i2l, 1) := by decide +kernel
theorem dX7_item_24 : decode cX7_item 24 = .ok (.lconst 0, 1) := by decide +kernel
theorem dX7_item_25 : decode cX7_item 25 = .ok (.aload_n 0, 1) := by decide +kernel
theorem dX7_item_26 : decode cX7_item 26 = .ok (.getfield 73, 3) := by decide +kernel
theorem dX7_item_29 : decode cX7_item 29 = .ok (.iload_n 1, 1) := by decide +kernel
theorem dX7_item_30 : decode cX7_item 30 = .ok (.iaload, 1) := by decide +kernel
theorem dX7_item_31 : decode cX7_item 31 = .ok (.iconst 1, 1) := by decide +kernel
theorem dX7_item_32 : decode cX7_item 32 = .ok (.isub, 1) := by decide +kernel
theorem dX7_item_33 : decode cX7_item 33 = .ok (.i2l, 1) := by decide +kernel
theorem dX7_item_34 : decode cX7_item 34 = .ok (.invokestatic 80, 3) := by decide +kernel
theorem dX7_item_37 : decode cX7_item 37 = .ok (.ifCond .ne 6, 3) := by decide +kernel
theorem dX7_item_40 : decode cX7_item 40 = .ok (.bipush (-13), 2) := by decide +kernel
theorem dX7_item_42 : decode cX7_item 42 = .ok (.ireturn, 1) := by decide +kernel
theorem dX7_item_43 : decode cX7_item 43 = .ok (.aload_n 0, 1) := by decide +kernel
theorem dX7_item_44 : decode cX7_item 44 = .ok (.getfield 70, 3) := by decide +kernel
theorem dX7_item_47 : decode cX7_item 47 = .ok (.iload_n 1, 1) := by decide +kernel
theorem dX7_item_48 : decode cX7_item 48 = .ok (.iaload, 1) := by decide +kernel
theorem dX7_item_49 : decode cX7_item 49 = .ok (.istore 5, 2) := by decide +kernel
theorem dX7_item_51 : decode cX7_item 51 = .ok (.aload_n 0, 1) := by decide +kernel
theorem dX7_item_52 : decode cX7_item 52 = .ok (.getfield 76, 3) := by decide +kernel
theorem dX7_item_55 : decode cX7_item 55 = .ok (.bipush 60, 2) := by decide +kernel
theorem dX7_item_57 : decode cX7_item 57 = .ok (.iload_n 1, 1) := by decide +kernel
theorem dX7_item_58 : decode cX7_item 58 = .ok (.imul, 1) := by decide +kernel
theorem dX7_item_59 : decode cX7_item 59 = .ok (.iload_n 2, 1) := by decide +kernel
theorem dX7_item_60 : decode cX7_item 60 = .ok (.iadd, 1) := by decide +kernel
theorem dX7_item_61 : decode cX7_item 61 = .ok (.iload 5, 2) := by decide +kernel
theorem dX7_item_63 : decode cX7_item 63 = .ok (.ifCond .ne 10, 3) := by decide +kernel
theorem dX7_item_66 : decode cX7_item 66 = .ok (.lload_n 3, 1) := by decide +kernel
theorem dX7_item_67 : decode cX7_item 67 = .ok (.l2i, 1) := by decide +kernel
theorem dX7_item_68 : decode cX7_item 68 = .ok (.i2b, 1) := by decide +kernel
theorem dX7_item_69 : decode cX7_item 69 = .ok (.i2l, 1) := by decide +kernel
theorem dX7_item_70 : decode cX7_item 70 = .ok (.goto 49, 3) := by decide +kernel
theorem dX7_item_73 : decode cX7_item 73 = .ok (.iload 5, 2) := by decide +kernel
theorem dX7_item_75 : decode cX7_item 75 = .ok (.iconst 1, 1) := by decide +kernel
theorem dX7_item_76 : decode cX7_item 76 = .ok (.if_icmp .ne 10, 3) := by decide +kernel
theorem dX7_item_79 : decode cX7_item 79 = .ok (.lload_n 3, 1) := by decide +kernel
theorem dX7_item_80 : decode cX7_item 80 = .ok (.l2i, 1) := by decide +kernel
theorem dX7_item_81 : decode cX7_item 81 = .ok (.i2s, 1) := by decide +kernel
theorem dX7_item_82 : decode cX7_item 82 = .ok (.i2l, 1) := by decide +kernel
theorem dX7_item_83 : decode cX7_item 83 = .ok (.goto 36, 3) := by decide +kernel
theorem dX7_item_86 : decode cX7_item 86 = .ok (.iload 5, 2) := by decide +kernel
theorem dX7_item_88 : decode cX7_item 88 = .ok (.iconst 2, 1) := by decide +kernel
theorem dX7_item_89 : decode cX7_item 89 = .ok (.if_icmp .ne 9, 3) := by decide +kernel
theorem dX7_item_92 : decode cX7_item 92 = .ok (.lload_n 3, 1) := by decide +kernel
theorem dX7_item_93 : decode cX7_item 93 = .ok (.l2i, 1) := by decide +kernel
theorem dX7_item_94 : decode cX7_item 94 = .ok (.i2l, 1) := by decide +kernel
theorem dX7_item_95 : decode cX7_item 95 = .ok (.goto 24, 3) := by decide +kernel
theorem dX7_item_98 : decode cX7_item 98 = .ok (.iload 5, 2) := by decide +kernel
theorem dX7_item_100 : decode cX7_item 100 = .ok (.iconst 3, 1) := by decide +kernel
theorem dX7_item_101 : decode cX7_item 101 = .ok (.if_icmp .ne 7, 3) := by decide +kernel
theorem dX7_item_104 : decode cX7_item 104 = .ok (.lload_n 3, 1) := by decide +kernel
theorem dX7_item_105 : decode cX7_item 105 = .ok (.goto 14, 3) := by decide +kernel
theorem dX7_item_108 : decode cX7_item 108 = .ok (.lload_n 3, 1) := by decide +kernel
theorem dX7_item_109 : decode cX7_item 109 = .ok (.lconst 0, 1) := by decide +kernel
theorem dX7_item_110 : decode cX7_item 110 = .ok (.lcmp, 1) := by decide +kernel
theorem dX7_item_111 : decode cX7_item 111 = .ok (.ifCond .eq 7, 3) := by decide +kernel
theorem dX7_item_114 : decode cX7_item 114 = .ok (.lconst 1, 1) := by decide +kernel
theorem dX7_item_115 : decode cX7_item 115 = .ok (.goto 4, 3) := by decide +kernel
theorem dX7_item_118 : decode cX7_item 118 = .ok (.lconst 0, 1) := by decide +kernel
theorem dX7_item_119 : decode cX7_item 119 = .ok (.lastore, 1) := by decide +kernel
theorem dX7_item_120 : decode cX7_item 120 = .ok (.iconst 1, 1) := by decide +kernel
theorem dX7_item_121 : decode cX7_item 121 = .ok (.ireturn, 1) := by decide +kernel
theorem dX7_peek_0 : decode cX7_peek 0 = .ok (.iload_n 1, 1) := by decide +kernel
theorem dX7_peek_1 : decode cX7_peek 1 = .ok (.invokestatic 253, 3) := by decide +kernel
theorem dX7_peek_4 : decode cX7_peek 4 = .ok (.ifCond .eq 45, 3) := by decide +kernel
theorem dX7_peek_7 : decode cX7_peek 7 = .ok (.aload_n 0, 1) := by decide +kernel
theorem dX7_peek_8 : decode cX7_peek 8 = .ok (.getfield 70, 3) := by decide +kernel
theorem dX7_peek_11 : decode cX7_peek 11 = .ok (.iload_n 1, 1) := by decide +kernel
theorem dX7_peek_12 : decode cX7_peek 12 = .ok (.iaload, 1) := by decide +kernel
theorem dX7_peek_13 : decode cX7_peek 13 = .ok (.iconst (-1), 1) := by decide +kernel
theorem dX7_peek_14 : decode cX7_peek 14 = .ok (.if_icmp .eq 35, 3) := by decide +kernel
theorem dX7_peek_17 : decode cX7_peek 17 = .ok (.iload_n 2, 1) := by decide +kernel
theorem dX7_peek_18 : decode cX7_peek 18 = .ok (.i2l, 1) := by decide +kernel
theorem dX7_peek_19 : decode cX7_peek 19 = .ok (.lconst 0, 1) := by decide +kernel
theorem dX7_peek_20 : decode cX7_peek 20 = .ok (.aload_n 0, 1) := by decide +kernel
theorem dX7_peek_21 : decode cX7_peek 21 = .ok (.getfield 73, 3) := by decide +kernel
theorem dX7_peek_24 : decode cX7_peek 24 = .ok (.iload_n 1, 1) := by decide +kernel
theorem dX7_peek_25 : decode cX7_peek 25 = .ok (.iaload, 1) := by decide +kernel
theorem dX7_peek_26 : decode cX7_peek 26 = .ok (.iconst 1, 1) := by decide +kernel
theorem dX7_peek_27 : decode cX7_peek 27 = .ok (.isub, 1) := by decide +kernel
theorem dX7_peek_28 : decode cX7_peek 28 = .ok (.i2l, 1) := by decide +kernel
theorem dX7_peek_29 : decode cX7_peek 29 = .ok (.invokestatic 80, 3) := by decide +kernel
theorem dX7_peek_32 : decode cX7_peek 32 = .ok (.ifCond .eq 17, 3) := by decide +kernel
theorem dX7_peek_35 : decode cX7_peek 35 = .ok (.aload_n 0, 1) := by decide +kernel
theorem dX7_peek_36 : decode cX7_peek 36 = .ok (.getfield 76, 3) := by decide +kernel
theorem dX7_peek_39 : decode cX7_peek 39 = .ok (.bipush 60, 2) := by decide +kernel
theorem dX7_peek_41 : decode cX7_peek 41 = .ok (.iload_n 1, 1) := by decide +kernel
theorem dX7_peek_42 : decode cX7_peek 42 = .ok (.imul, 1) := by decide +kernel
theorem dX7_peek_43 : decode cX7_peek 43 = .ok (.iload_n 2, 1) := by decide +kernel
theorem dX7_peek_44 : decode cX7_peek 44 = .ok (.iadd, 1) := by decide +kernel
end
section
theorem dX7_peek_45 : decode cX7_peek 45 = .ok (.laload, 1) := by decide +kernel
theorem dX7_peek_46 : decode cX7_peek 46 = .ok (.goto 6, 3) := by decide +kernel
theorem dX7_peek_49 : decode cX7_peek 49 = .ok (.ldc2_w 230, 3) := by decide +kernel
theorem dX7_peek_52 : decode cX7_peek 52 = .ok (.lreturn, 1) := by decide +kernel
theorem dX7_shift_0 : decode cX7_shift 0 = .ok (.iload_n 1, 1) := by decide +kernel
theorem dX7_shift_1 : decode cX7_shift 1 = .ok (.invokestatic 253, 3) := by decide +kernel
theorem dX7_shift_4 : decode cX7_shift 4 = .ok (.ifCond .eq 10, 3) := by decide +kernel
theorem dX7_shift_7 : decode cX7_shift 7 = .ok (.iload_n 3, 1) := by decide +kernel
theorem dX7_shift_8 : decode cX7_shift 8 = .ok (.invokestatic 253, 3) := by decide +kernel
theorem dX7_shift_11 : decode cX7_shift 11 = .ok (.ifCond .ne 5, 3) := by decide +kernel
theorem dX7_shift_14 : decode cX7_shift 14 = .ok (.iconst (-1), 1) := by decide +kernel
theorem dX7_shift_15 : decode cX7_shift 15 = .ok (.ireturn, 1) := by decide +kernel
theorem dX7_shift_16 : decode cX7_shift 16 = .ok (.aload_n 0, 1) := by decide +kernel
theorem dX7_shift_17 : decode cX7_shift 17 = .ok (.getfield 70, 3) := by decide +kernel
theorem dX7_shift_20 : decode cX7_shift 20 = .ok (.iload_n 1, 1) := by decide +kernel
theorem dX7_shift_21 : decode cX7_shift 21 = .ok (.iaload, 1) := by decide +kernel
theorem dX7_shift_22 : decode cX7_shift 22 = .ok (.iconst (-1), 1) := by decide +kernel
theorem dX7_shift_23 : decode cX7_shift 23 = .ok (.if_icmp .eq 13, 3) := by decide +kernel
theorem dX7_shift_26 : decode cX7_shift 26 = .ok (.aload_n 0, 1) := by decide +kernel
theorem dX7_shift_27 : decode cX7_shift 27 = .ok (.getfield 70, 3) := by decide +kernel
theorem dX7_shift_30 : decode cX7_shift 30 = .ok (.iload_n 3, 1) := by decide +kernel
theorem dX7_shift_31 : decode cX7_shift 31 = .ok (.iaload, 1) := by decide +kernel
theorem dX7_shift_32 : decode cX7_shift 32 = .ok (.iconst (-1), 1) := by decide +kernel
theorem dX7_shift_33 : decode cX7_shift 33 = .ok (.if_icmp .ne 6, 3) := by decide +kernel
theorem dX7_shift_36 : decode cX7_shift 36 = .ok (.bipush (-11), 2) := by decide +kernel
theorem dX7_shift_38 : decode cX7_shift 38 = .ok (.ireturn, 1) := by decide +kernel
theorem dX7_shift_39 : decode cX7_shift 39 = .ok (.aload_n 0, 1) := by decide +kernel
theorem dX7_shift_40 : decode cX7_shift 40 = .ok (.getfield 70, 3) := by decide +kernel
theorem dX7_shift_43 : decode cX7_shift 43 = .ok (.iload_n 1, 1) := by decide +kernel
theorem dX7_shift_44 : decode cX7_shift 44 = .ok (.iaload, 1) := by decide +kernel
theorem dX7_shift_45 : decode cX7_shift 45 = .ok (.aload_n 0, 1) := by decide +kernel
theorem dX7_shift_46 : decode cX7_shift 46 = .ok (.getfield 70, 3) := by decide +kernel
theorem dX7_shift_49 : decode cX7_shift 49 = .ok (.iload_n 3, 1) := by decide +kernel
theorem dX7_shift_50 : decode cX7_shift 50 = .ok (.iaload, 1) := by decide +kernel
theorem dX7_shift_51 : decode cX7_shift 51 = .ok (.if_icmp .eq 6, 3) := by decide +kernel
theorem dX7_shift_54 : decode cX7_shift 54 = .ok (.bipush (-12), 2) := by decide +kernel
theorem dX7_shift_56 : decode cX7_shift 56 = .ok (.ireturn, 1) := by decide +kernel
theorem dX7_shift_57 : decode cX7_shift 57 = .ok (.iload 5, 2) := by decide +kernel
theorem dX7_shift_59 : decode cX7_shift 59 = .ok (.ifCond .lt 39, 3) := by decide +kernel
theorem dX7_shift_62 : decode cX7_shift 62 = .ok (.iload_n 2, 1) := by decide +kernel
theorem dX7_shift_63 : decode cX7_shift 63 = .ok (.ifCond .lt 35, 3) := by decide +kernel
theorem dX7_shift_66 : decode cX7_shift 66 = .ok (.iload 4, 2) := by decide +kernel
theorem dX7_shift_68 : decode cX7_shift 68 = .ok (.ifCond .lt 30, 3) := by decide +kernel
theorem dX7_shift_71 : decode cX7_shift 71 = .ok (.iload_n 2, 1) := by decide +kernel
theorem dX7_shift_72 : decode cX7_shift 72 = .ok (.aload_n 0, 1) := by decide +kernel
theorem dX7_shift_73 : decode cX7_shift 73 = .ok (.getfield 73, 3) := by decide +kernel
theorem dX7_shift_76 : decode cX7_shift 76 = .ok (.iload_n 1, 1) := by decide +kernel
theorem dX7_shift_77 : decode cX7_shift 77 = .ok (.iaload, 1) := by decide +kernel
theorem dX7_shift_78 : decode cX7_shift 78 = .ok (.iload 5, 2) := by decide +kernel
theorem dX7_shift_80 : decode cX7_shift 80 = .ok (.isub, 1) := by decide +kernel
theorem dX7_shift_81 : decode cX7_shift 81 = .ok (.if_icmp .gt 17, 3) := by decide +kernel
theorem dX7_shift_84 : decode cX7_shift 84 = .ok (.iload 4, 2) := by decide +kernel
theorem dX7_shift_86 : decode cX7_shift 86 = .ok (.aload_n 0, 1) := by decide +kernel
theorem dX7_shift_87 : decode cX7_shift 87 = .ok (.getfield 73, 3) := by decide +kernel
theorem dX7_shift_90 : decode cX7_shift 90 = .ok (.iload_n 3, 1) := by decide +kernel
theorem dX7_shift_91 : decode cX7_shift 91 = .ok (.iaload, 1) := by decide +kernel
theorem dX7_shift_92 : decode cX7_shift 92 = .ok (.iload 5, 2) := by decide +kernel
theorem dX7_shift_94 : decode cX7_shift 94 = .ok (.isub, 1) := by decide +kernel
theorem dX7_shift_95 : decode cX7_shift 95 = .ok (.if_icmp .le 6, 3) := by decide +kernel
theorem dX7_shift_98 : decode cX7_shift 98 = .ok (.bipush (-13), 2) := by decide +kernel
theorem dX7_shift_100 : decode cX7_shift 100 = .ok (.ireturn, 1) := by decide +kernel
theorem dX7_shift_101 : decode cX7_shift 101 = .ok (.iload_n 1, 1) := by decide +kernel
theorem dX7_shift_102 : decode cX7_shift 102 = .ok (.iload_n 3, 1) := by decide +kernel
theorem dX7_shift_103 : decode cX7_shift 103 = .ok (.if_icmp .ne 13, 3) := by decide +kernel
theorem dX7_shift_106 : decode cX7_shift 106 = .ok (.iload_n 2, 1) := by decide +kernel
theorem dX7_shift_107 : decode cX7_shift 107 = .ok (.iload 4, 2) := by decide +kernel
theorem dX7_shift_109 : decode cX7_shift 109 = .ok (.if_icmp .ge 7, 3) := by decide +kernel
theorem dX7_shift_112 : decode cX7_shift 112 = .ok (.iconst 1, 1) := by decide +kernel
theorem dX7_shift_113 : decode cX7_shift 113 = .ok (.goto 4, 3) := by decide +kernel
theorem dX7_shift_116 : decode cX7_shift 116 = .ok (.iconst 0, 1) := by decide +kernel
theorem dX7_shift_117 : decode cX7_shift 117 = .ok (.istore 6, 2) := by decide +kernel
theorem dX7_shift_119 : decode cX7_shift 119 = .ok (.iconst 0, 1) := by decide +kernel
theorem dX7_shift_120 : decode cX7_shift 120 = .ok (.istore 7, 2) := by decide +kernel
theorem dX7_shift_122 : decode cX7_shift 122 = .ok (.iload 7, 2) := by decide +kernel
theorem dX7_shift_124 : decode cX7_shift 124 = .ok (.iload 5, 2) := by decide +kernel
theorem dX7_shift_126 : decode cX7_shift 126 = .ok (.if_icmp .ge 57, 3) := by decide +kernel
theorem dX7_shift_129 : decode cX7_shift 129 = .ok (.iload 6, 2) := by decide +kernel
theorem dX7_shift_131 : decode cX7_shift 131 = .ok (.ifCond .eq 13, 3) := by decide +kernel
theorem dX7_shift_134 : decode cX7_shift 134 = .ok (.iload 5, 2) := by decide +kernel
theorem dX7_shift_136 : decode cX7_shift 136 = .ok (.iconst 1, 1) := by decide +kernel
theorem dX7_shift_137 : decode cX7_shift 137 = .ok (.isub, 1) := by decide +kernel
theorem dX7_shift_138 : decode cX7_shift 138 = .ok (.iload 7, 2) := by decide +kernel
theorem dX7_shift_140 : decode cX7_shift 140 = .ok (.isub, 1) := by decide +kernel
theorem dX7_shift_141 : decode cX7_shift 141 = .ok (.goto 5, 3) := by decide +kernel
theorem dX7_shift_144 : decode cX7_shift 144 = .ok (.iload 7, 2) := by decide +kernel
theorem dX7_shift_146 : decode cX7_shift 146 = .ok (.istore 8, 2) := by decide +kernel
theorem dX7_shift_148 : decode cX7_shift 148 = .ok (.aload_n 0, 1) := by decide +kernel
theorem dX7_shift_149 : decode cX7_shift 149 = .ok (.getfield 76, 3) := by decide +kernel
theorem dX7_shift_152 : decode cX7_shift 152 = .ok (.bipush 60, 2) := by decide +kernel
theorem dX7_shift_154 : decode cX7_shift 154 = .ok (.iload_n 3, 1) := by decide +kernel
theorem dX7_shift_155 : decode cX7_shift 155 = .ok (.imul, 1) := by decide +kernel
theorem dX7_shift_156 : decode cX7_shift 156 = .ok (.iload 4, 2) := by decide +kernel
theorem dX7_shift_158 : decode cX7_shift 158 = .ok (.iadd, 1) := by decide +kernel
theorem dX7_shift_159 : decode cX7_shift 159 = .ok (.iload 8, 2) := by decide +kernel
theorem dX7_shift_161 : decode cX7_shift 161 = .ok (.iadd, 1) := by decide +kernel
theorem dX7_shift_162 : decode cX7_shift 162 = .ok (.aload_n 0, 1) := by decide +kernel
theorem dX7_shift_163 : decode cX7_shift 163 = .ok (.getfield 76, 3) := by decide +kernel
theorem dX7_shift_166 : decode cX7_shift 166 = .ok (.bipush 60, 2) := by decide +kernel
theorem dX7_shift_168 : decode cX7_shift 168 = .ok (.iload_n 1, 1) := by decide +kernel
theorem dX7_shift_169 : decode cX7_shift 169 = .ok (.imul, 1) := by decide +kernel
theorem dX7_shift_170 : decode cX7_shift 170 = .ok (.iload_n 2, 1) := by decide +kernel
theorem dX7_shift_171 : decode cX7_shift 171 = .ok (.iadd, 1) := by decide +kernel
theorem dX7_shift_172 : decode cX7_shift 172 = .ok (.iload 8, 2) := by decide +kernel
theorem dX7_shift_174 : decode cX7_shift 174 = .ok (.iadd, 1) := by decide +kernel
theorem dX7_shift_175 : decode cX7_shift 175 = .ok (.laload, 1) := by decide +kernel
theorem dX7_shift_176 : decode cX7_shift 176 = .ok (.lastore, 1) := by decide +kernel
theorem dX7_shift_177 : decode cX7_shift 177 = .ok (.iinc 7 1, 3) := by decide +kernel
theorem dX7_shift_180 : decode cX7_shift 180 = .ok (.goto (-58), 3) := by decide +kernel
theorem dX7_shift_183 : decode cX7_shift 183 = .ok (.iload 5, 2) := by decide +kernel
theorem dX7_shift_185 : decode cX7_shift 185 = .ok (.ireturn, 1) := by decide +kernel
theorem dJ6_bitCount_0f7a4_0 : decode cJ6_bitCount_0f7a4 0 = .ok (.iload_n 0, 1) := by decide +kernel
theorem dJ6_bitCount_0f7a4_1 : decode cJ6_bitCount_0f7a4 1 = .ok (.iload_n 0, 1) := by decide +kernel
theorem dJ6_bitCount_0f7a4_2 : decode cJ6_bitCount_0f7a4 2 = .ok (.iconst 1, 1) := by decide +kernel
theorem dJ6_bitCount_0f7a4_3 : decode cJ6_bitCount_0f7a4 3 = .ok (.iushr, 1) := by decide +kernel
theorem dJ6_bitCount_0f7a4_4 : decode cJ6_bitCount_0f7a4 4 = .ok (.ldc_w 265, 3) := by decide +kernel
theorem dJ6_bitCount_0f7a4_7 : decode cJ6_bitCount_0f7a4 7 = .ok (.iand, 1) := by decide +kernel
theorem dJ6_bitCount_0f7a4_8 : decode cJ6_bitCount_0f7a4 8 = .ok (.isub, 1) := by decide +kernel
theorem dJ6_bitCount_0f7a4_9 : decode cJ6_bitCount_0f7a4 9 = .ok (.istore_n 0, 1) := by decide +kernel
theorem dJ6_bitCount_0f7a4_10 : decode cJ6_bitCount_0f7a4 10 = .ok (.iload_n 0, 1) := by decide +kernel
theorem dJ6_bitCount_0f7a4_11 : decode cJ6_bitCount_0f7a4 11 = .ok (.ldc_w 266, 3) := by decide +kernel
theorem dJ6_bitCount_0f7a4_14 : decode cJ6_bitCount_0f7a4 14 = .ok (.iand, 1) := by decide +kernel
theorem dJ6_bitCount_0f7a4_15 : decode cJ6_bitCount_0f7a4 15 = .ok (.iload_n 0, 1) := by decide +kernel
theorem dJ6_bitCount_0f7a4_16 : decode cJ6_bitCount_0f7a4 16 = .ok (.iconst 2, 1) := by decide +kernel
theorem dJ6_bitCount_0f7a4_17 : decode cJ6_bitCount_0f7a4 17 = .ok (.iushr, 1) := by decide +kernel
theorem dJ6_bitCount_0f7a4_18 : decode cJ6_bitCount_0f7a4 18 = .ok (.ldc_w 266, 3) := by decide +kernel
theorem dJ6_bitCount_0f7a4_21 : decode cJ6_bitCount_0f7a4 21 = .ok (.iand, 1) := by decide +kernel
theorem dJ6_bitCount_0f7a4_22 : decode cJ6_bitCount_0f7a4 22 = .ok (.iadd, 1) := by decide +kernel
theorem dJ6_bitCount_0f7a4_23 : decode cJ6_bitCount_0f7a4 23 = .ok (.istore_n 0, 1) := by decide +kernel
theorem dJ6_bitCount_0f7a4_24 : decode cJ6_bitCount_0f7a4 24 = .ok (.iload_n 0, 1) := by decide +kernel
theorem dJ6_bitCount_0f7a4_25 : decode cJ6_bitCount_0f7a4 25 = .ok (.iload_n 0, 1) := by decide +kernel
theorem dJ6_bitCount_0f7a4_26 : decode cJ6_bitCount_0f7a4 26 = .ok (.iconst 4, 1) := by decide +kernel
theorem dJ6_bitCount_0f7a4_27 : decode cJ6_bitCount_0f7a4 27 = .ok (.iushr, 1) := by decide +kernel
theorem dJ6_bitCount_0f7a4_28 : decode cJ6_bitCount_0f7a4 28 = .ok (.iadd, 1) := by decide +kernel
theorem dJ6_bitCount_0f7a4_29 : decode cJ6_bitCount_0f7a4 29 = .ok (.ldc_w 267, 3) := by decide +kernel
theorem dJ6_bitCount_0f7a4_32 : decode cJ6_bitCount_0f7a4 32 = .ok (.iand, 1) := by decide +kernel
theorem dJ6_bitCount_0f7a4_33 : decode cJ6_bitCount_0f7a4 33 = .ok (.istore_n 0, 1) := by decide +kernel
theorem dJ6_bitCount_0f7a4_34 : decode cJ6_bitCount_0f7a4 34 = .ok (.iload_n 0, 1) := by decide +kernel
theorem dJ6_bitCount_0f7a4_35 : decode cJ6_bitCount_0f7a4 35 = .ok (.iload_n 0, 1) := by decide +kernel
theorem dJ6_bitCount_0f7a4_36 : decode cJ6_bitCount_0f7a4 36 = .ok (.bipush 8, 2) := by decide +kernel
theorem dJ6_bitCount_0f7a4_38 : decode cJ6_bitCount_0f7a4 38 = .ok (.iushr, 1) := by decide +kernel
theorem dJ6_bitCount_0f7a4_39 : decode cJ6_bitCount_0f7a4 39 = .ok (.iadd, 1) := by decide +kernel
theorem dJ6_bitCount_0f7a4_40 : decode cJ6_bitCount_0f7a4 40 = .ok (.istore_n 0, 1) := by decide +kernel
theorem dJ6_bitCount_0f7a4_41 : decode cJ6_bitCount_0f7a4 41 = .ok (.iload_n 0, 1) := by decide +kernel
theorem dJ6_bitCount_0f7a4_42 : decode cJ6_bitCount_0f7a4 42 = .ok (.iload_n 0, 1) := by decide +kernel
theorem dJ6_bitCount_0f7a4_43 : decode cJ6_bitCount_0f7a4 43 = .ok (.bipush 16, 2) := by decide +kernel
theorem dJ6_bitCount_0f7a4_45 : decode cJ6_bitCount_0f7a4 45 = .ok (.iushr, 1) := by decide +kernel
theorem dJ6_bitCount_0f7a4_46 : decode cJ6_bitCount_0f7a4 46 = .ok (.iadd, 1) := by decide +kernel
theorem dJ6_bitCount_0f7a4_47 : decode cJ6_bitCount_0f7a4 47 = .ok (.istore_n 0, 1) := by decide +kernel
theorem dJ6_bitCount_0f7a4_48 : decode cJ6_bitCount_0f7a4 48 = .ok (.iload_n 0, 1) := by decide +kernel
theorem dJ6_bitCount_0f7a4_49 : decode cJ6_bitCount_0f7a4 49 = .ok (.bipush 63, 2) := by decide +kernel
theorem dJ6_bitCount_0f7a4_51 : decode cJ6_bitCount_0f7a4 51 = .ok (.iand, 1) := by decide +kernel
theorem dJ6_bitCount_0f7a4_52 : decode cJ6_bitCount_0f7a4 52 = .ok (.ireturn, 1) := by decide +kernel
theorem dJ9_max_7cf53_0 : decode cJ9_max_7cf53 0 = .ok (.iload_n 0, 1) := by decide +kernel
theorem dJ9_max_7cf53_1 : decode cJ9_max_7cf53 1 = .ok (.iload_n 1, 1) := by decide +kernel
theorem dJ9_max_7cf53_2 : decode cJ9_max_7cf53 2 = .ok (.if_icmp .lt 7, 3) := by decide +kernel
theorem dJ9_max_7cf53_5 : decode cJ9_max_7cf53 5 = .ok (.iload_n 0, 1) := by decide +kernel
theorem dJ9_max_7cf53_6 : decode cJ9_max_7cf53 6 = .ok (.goto 4, 3) := by decide +kernel
theorem dJ9_max_7cf53_9 : decode cJ9_max_7cf53 9 = .ok (.iload_n 1, 1) := by decide +kernel
theorem dJ9_max_7cf53_10 : decode cJ9_max_7cf53 10 = .ok (.ireturn, 1) := by decide +kernel
theorem dJ9_min_7cf53_0 : decode cJ9_min_7cf53 0 = .ok (.iload_n 0, 1) := by decide +kernel
theorem dJ9_min_7cf53_1 : decode cJ9_min_7cf53 1 = .ok (.iload_n 1, 1) := by decide +kernel
theorem dJ9_min_7cf53_2 : decode cJ9_min_7cf53 2 = .ok (.if_icmp .gt 7, 3) := by decide +kernel
theorem dJ9_min_7cf53_5 : decode cJ9_min_7cf53 5 = .ok (.iload_n 0, 1) := by decide +kernel
theorem dJ9_min_7cf53_6 : decode cJ9_min_7cf53 6 = .ok (.goto 4, 3) := by decide +kernel
theorem dJ9_min_7cf53_9 : decode cJ9_min_7cf53 9 = .ok (.iload_n 1, 1) := by decide +kernel
theorem dJ9_min_7cf53_10 : decode cJ9_min_7cf53 10 = .ok (.ireturn, 1) := by decide +kernel
end
section
theorem dL_law_0 : decode cL_law 0 = .ok (.new 7, 3) := by decide +kernel
theorem dL_law_3 : decode cL_law 3 = .ok (.dup, 1) := by decide +kernel
theorem dL_law_4 : decode cL_law 4 = .ok (.invokespecial 9, 3) := by decide +kernel
theorem dL_law_7 : decode cL_law 7 = .ok (.astore_n 1, 1) := by decide +kernel
theorem dL_law_8 : decode cL_law 8 = .ok (.new 10, 3) := by decide +kernel
theorem dL_law_11 : decode cL_law 11 = .ok (.dup, 1) := by decide +kernel
theorem dL_law_12 : decode cL_law 12 = .ok (.invokespecial 12, 3) := by decide +kernel
theorem dL_law_15 : decode cL_law 15 = .ok (.astore_n 2, 1) := by decide +kernel
theorem dL_law_16 : decode cL_law 16 = .ok (.iconst 0, 1) := by decide +kernel
theorem dL_law_17 : decode cL_law 17 = .ok (.istore_n 3, 1) := by decide +kernel
theorem dL_law_18 : decode cL_law 18 = .ok (.iload_n 3, 1) := by decide +kernel
theorem dL_law_19 : decode cL_law 19 = .ok (.aload_n 0, 1) := by decide +kernel
theorem dL_law_20 : decode cL_law 20 = .ok (.arraylength, 1) := by decide +kernel
theorem dL_law_21 : decode cL_law 21 = .ok (.bipush 6, 2) := by decide +kernel
theorem dL_law_23 : decode cL_law 23 = .ok (.isub, 1) := by decide +kernel
theorem dL_law_24 : decode cL_law 24 = .ok (.if_icmp .gt 1090, 3) := by decide +kernel
theorem dL_law_27 : decode cL_law 27 = .ok (.aload_n 0, 1) := by decide +kernel
theorem dL_law_28 : decode cL_law 28 = .ok (.iload_n 3, 1) := by decide +kernel
theorem dL_law_29 : decode cL_law 29 = .ok (.iaload, 1) := by decide +kernel
theorem dL_law_30 : decode cL_law 30 = .ok (.bipush 31, 2) := by decide +kernel
theorem dL_law_32 : decode cL_law 32 = .ok (.iand, 1) := by decide +kernel
theorem dL_law_33 : decode cL_law 33 = .ok (.tableswitch 1075 0 29 #[135, 178, 221, 280, 303, 336, 359, 372, 405, 428, 451, 484, 517, 541, 564, 597, 620, 654, 678, 711, 734, 767, 780, 813, 826, 839, 862, 905, 978, 1012], 135) := by decide +kernel
theorem dL_law_168 : decode cL_law 168 = .ok (.aload_n 1, 1) := by decide +kernel
theorem dL_law_169 : decode cL_law 169 = .ok (.aload_n 0, 1) := by decide +kernel
theorem dL_law_170 : decode cL_law 170 = .ok (.iload_n 3, 1) := by decide +kernel
theorem dL_law_171 : decode cL_law 171 = .ok (.iconst 1, 1) := by decide +kernel
theorem dL_law_172 : decode cL_law 172 = .ok (.iadd, 1) := by decide +kernel
theorem dL_law_173 : decode cL_law 173 = .ok (.iaload, 1) := by decide +kernel
theorem dL_law_174 : decode cL_law 174 = .ok (.aload_n 0, 1) := by decide +kernel
theorem dL_law_175 : decode cL_law 175 = .ok (.iload_n 3, 1) := by decide +kernel
theorem dL_law_176 : decode cL_law 176 = .ok (.iconst 2, 1) := by decide +kernel
theorem dL_law_177 : decode cL_law 177 = .ok (.iadd, 1) := by decide +kernel
theorem dL_law_178 : decode cL_law 178 = .ok (.iaload, 1) := by decide +kernel
theorem dL_law_179 : decode cL_law 179 = .ok (.aload_n 0, 1) := by decide +kernel
theorem dL_law_180 : decode cL_law 180 = .ok (.iload_n 3, 1) := by decide +kernel
theorem dL_law_181 : decode cL_law 181 = .ok (.iconst 3, 1) := by decide +kernel
theorem dL_law_182 : decode cL_law 182 = .ok (.iadd, 1) := by decide +kernel
theorem dL_law_183 : decode cL_law 183 = .ok (.iaload, 1) := by decide +kernel
theorem dL_law_184 : decode cL_law 184 = .ok (.invokevirtual 13, 3) := by decide +kernel
theorem dL_law_187 : decode cL_law 187 = .ok (.aload_n 2, 1) := by decide +kernel
theorem dL_law_188 : decode cL_law 188 = .ok (.aload_n 0, 1) := by decide +kernel
theorem dL_law_189 : decode cL_law 189 = .ok (.iload_n 3, 1) := by decide +kernel
theorem dL_law_190 : decode cL_law 190 = .ok (.iconst 1, 1) := by decide +kernel
theorem dL_law_191 : decode cL_law 191 = .ok (.iadd, 1) := by decide +kernel
theorem dL_law_192 : decode cL_law 192 = .ok (.iaload, 1) := by decide +kernel
theorem dL_law_193 : decode cL_law 193 = .ok (.aload_n 0, 1) := by decide +kernel
theorem dL_law_194 : decode cL_law 194 = .ok (.iload_n 3, 1) := by decide +kernel
theorem dL_law_195 : decode cL_law 195 = .ok (.iconst 2, 1) := by decide +kernel
theorem dL_law_196 : decode cL_law 196 = .ok (.iadd, 1) := by decide +kernel
theorem dL_law_197 : decode cL_law 197 = .ok (.iaload, 1) := by decide +kernel
theorem dL_law_198 : decode cL_law 198 = .ok (.aload_n 0, 1) := by decide +kernel
theorem dL_law_199 : decode cL_law 199 = .ok (.iload_n 3, 1) := by decide +kernel
theorem dL_law_200 : decode cL_law 200 = .ok (.iconst 3, 1) := by decide +kernel
theorem dL_law_201 : decode cL_law 201 = .ok (.iadd, 1) := by decide +kernel
theorem dL_law_202 : decode cL_law 202 = .ok (.iaload, 1) := by decide +kernel
theorem dL_law_203 : decode cL_law 203 = .ok (.invokevirtual 17, 3) := by decide +kernel
theorem dL_law_206 : decode cL_law 206 = .ok (.if_icmp .eq 902, 3) := by decide +kernel
theorem dL_law_209 : decode cL_law 209 = .ok (.iconst 0, 1) := by decide +kernel
theorem dL_law_210 : decode cL_law 210 = .ok (.ireturn, 1) := by decide +kernel
theorem dL_law_211 : decode cL_law 211 = .ok (.aload_n 1, 1) := by decide +kernel
theorem dL_law_212 : decode cL_law 212 = .ok (.aload_n 0, 1) := by decide +kernel
theorem dL_law_213 : decode cL_law 213 = .ok (.iload_n 3, 1) := by decide +kernel
theorem dL_law_214 : decode cL_law 214 = .ok (.iconst 1, 1) := by decide +kernel
theorem dL_law_215 : decode cL_law 215 = .ok (.iadd, 1) := by decide +kernel
theorem dL_law_216 : decode cL_law 216 = .ok (.iaload, 1) := by decide +kernel
theorem dL_law_217 : decode cL_law 217 = .ok (.aload_n 0, 1) := by decide +kernel
theorem dL_law_218 : decode cL_law 218 = .ok (.iload_n 3, 1) := by decide +kernel
theorem dL_law_219 : decode cL_law 219 = .ok (.iconst 2, 1) := by decide +kernel
theorem dL_law_220 : decode cL_law 220 = .ok (.iadd, 1) := by decide +kernel
theorem dL_law_221 : decode cL_law 221 = .ok (.iaload, 1) := by decide +kernel
theorem dL_law_222 : decode cL_law 222 = .ok (.aload_n 0, 1) := by decide +kernel
theorem dL_law_223 : decode cL_law 223 = .ok (.iload_n 3, 1) := by decide +kernel
theorem dL_law_224 : decode cL_law 224 = .ok (.iconst 3, 1) := by decide +kernel
theorem dL_law_225 : decode cL_law 225 = .ok (.iadd, 1) := by decide +kernel
theorem dL_law_226 : decode cL_law 226 = .ok (.iaload, 1) := by decide +kernel
theorem dL_law_227 : decode cL_law 227 = .ok (.invokevirtual 18, 3) := by decide +kernel
theorem dL_law_230 : decode cL_law 230 = .ok (.aload_n 2, 1) := by decide +kernel
theorem dL_law_231 : decode cL_law 231 = .ok (.aload_n 0, 1) := by decide +kernel
theorem dL_law_232 : decode cL_law 232 = .ok (.iload_n 3, 1) := by decide +kernel
theorem dL_law_233 : decode cL_law 233 = .ok (.iconst 1, 1) := by decide +kernel
theorem dL_law_234 : decode cL_law 234 = .ok (.iadd, 1) := by decide +kernel
theorem dL_law_235 : decode cL_law 235 = .ok (.iaload, 1) := by decide +kernel
theorem dL_law_236 : decode cL_law 236 = .ok (.aload_n 0, 1) := by decide +kernel
theorem dL_law_237 : decode cL_law 237 = .ok (.iload_n 3, 1) := by decide +kernel
theorem dL_law_238 : decode cL_law 238 = .ok (.iconst 2, 1) := by decide +kernel
theorem dL_law_239 : decode cL_law 239 = .ok (.iadd, 1) := by decide +kernel
theorem dL_law_240 : decode cL_law 240 = .ok (.iaload, 1) := by decide +kernel
theorem dL_law_241 : decode cL_law 241 = .ok (.aload_n 0, 1) := by decide +kernel
theorem dL_law_242 : decode cL_law 242 = .ok (.iload_n 3, 1) := by decide +kernel
theorem dL_law_243 : decode cL_law 243 = .ok (.iconst 3, 1) := by decide +kernel
theorem dL_law_244 : decode cL_law 244 = .ok (.iadd, 1) := by decide +kernel
theorem dL_law_245 : decode cL_law 245 = .ok (.iaload, 1) := by decide +kernel
theorem dL_law_246 : decode cL_law 246 = .ok (.invokevirtual 21, 3) := by decide +kernel
theorem dL_law_249 : decode cL_law 249 = .ok (.if_icmp .eq 859, 3) := by decide +kernel
theorem dL_law_252 : decode cL_law 252 = .ok (.iconst 0, 1) := by decide +kernel
theorem dL_law_253 : decode cL_law 253 = .ok (.ireturn, 1) := by decide +kernel
theorem dL_law_254 : decode cL_law 254 = .ok (.aload_n 1, 1) := by decide +kernel
theorem dL_law_255 : decode cL_law 255 = .ok (.aload_n 0, 1) := by decide +kernel
theorem dL_law_256 : decode cL_law 256 = .ok (.iload_n 3, 1) := by decide +kernel
theorem dL_law_257 : decode cL_law 257 = .ok (.iconst 1, 1) := by decide +kernel
theorem dL_law_258 : decode cL_law 258 = .ok (.iadd, 1) := by decide +kernel
theorem dL_law_259 : decode cL_law 259 = .ok (.iaload, 1) := by decide +kernel
theorem dL_law_260 : decode cL_law 260 = .ok (.aload_n 0, 1) := by decide +kernel
theorem dL_law_261 : decode cL_law 261 = .ok (.iload_n 3, 1) := by decide +kernel
theorem dL_law_262 : decode cL_law 262 = .ok (.iconst 2, 1) := by decide +kernel
theorem dL_law_263 : decode cL_law 263 = .ok (.iadd, 1) := by decide +kernel
theorem dL_law_264 : decode cL_law 264 = .ok (.iaload, 1) := by decide +kernel
theorem dL_law_265 : decode cL_law 265 = .ok (.aload_n 0, 1) := by decide +kernel
theorem dL_law_266 : decode cL_law 266 = .ok (.iload_n 3, 1) := by decide +kernel
theorem dL_law_267 : decode cL_law 267 = .ok (.iconst 3, 1) := by decide +kernel
theorem dL_law_268 : decode cL_law 268 = .ok (.iadd, 1) := by decide +kernel
theorem dL_law_269 : decode cL_law 269 = .ok (.iaload, 1) := by decide +kernel
theorem dL_law_270 : decode cL_law 270 = .ok (.ifCond .eq 7, 3) := by decide +kernel
theorem dL_law_273 : decode cL_law 273 = .ok (.iconst 1, 1) := by decide +kernel
theorem dL_law_274 : decode cL_law 274 = .ok (.goto 4, 3) := by decide +kernel
theorem dL_law_277 : decode cL_law 277 = .ok (.iconst 0, 1) := by decide +kernel
theorem dL_law_278 : decode cL_law 278 = .ok (.invokevirtual 22, 3) := by decide +kernel
theorem dL_law_281 : decode cL_law 281 = .ok (.aload_n 2, 1) := by decide +kernel
theorem dL_law_282 : decode cL_law 282 = .ok (.aload_n 0, 1) := by decide +kernel
theorem dL_law_283 : decode cL_law 283 = .ok (.iload_n 3, 1) := by decide +kernel
theorem dL_law_284 : decode cL_law 284 = .ok (.iconst 1, 1) := by decide +kernel
theorem dL_law_285 : decode cL_law 285 = .ok (.iadd, 1) := by decide +kernel
theorem dL_law_286 : decode cL_law 286 = .ok (.iaload, 1) := by decide +kernel
theorem dL_law_287 : decode cL_law 287 = .ok (.aload_n 0, 1) := by decide +kernel
theorem dL_law_288 : decode cL_law 288 = .ok (.iload_n 3, 1) := by decide +kernel
theorem dL_law_289 : decode cL_law 289 = .ok (.iconst 2, 1) := by decide +kernel
theorem dL_law_290 : decode cL_law 290 = .ok (.iadd, 1) := by decide +kernel
theorem dL_law_291 : decode cL_law 291 = .ok (.iaload, 1) := by decide +kernel
theorem dL_law_292 : decode cL_law 292 = .ok (.aload_n 0, 1) := by decide +kernel
theorem dL_law_293 : decode cL_law 293 = .ok (.iload_n 3, 1) := by decide +kernel
theorem dL_law_294 : decode cL_law 294 = .ok (.iconst 3, 1) := by decide +kernel
theorem dL_law_295 : decode cL_law 295 = .ok (.iadd, 1) := by decide +kernel
theorem dL_law_296 : decode cL_law 296 = .ok (.iaload, 1) := by decide +kernel
theorem dL_law_297 : decode cL_law 297 = .ok (.ifCond .eq 7, 3) := by decide +kernel
theorem dL_law_300 : decode cL_law 300 = .ok (.iconst 1, 1) := by decide +kernel
theorem dL_law_301 : decode cL_law 301 = .ok (.goto 4, 3) := by decide +kernel
theorem dL_law_304 : decode cL_law 304 = .ok (.iconst 0, 1) := by decide +kernel
theorem dL_law_305 : decode cL_law 305 = .ok (.invokevirtual 26, 3) := by decide +kernel
theorem dL_law_308 : decode cL_law 308 = .ok (.if_icmp .eq 800, 3) := by decide +kernel
theorem dL_law_311 : decode cL_law 311 = .ok (.iconst 0, 1) := by decide +kernel
theorem dL_law_312 : decode cL_law 312 = .ok (.ireturn, 1) := by decide +kernel
theorem dL_law_313 : decode cL_law 313 = .ok (.aload_n 1, 1) := by decide +kernel
theorem dL_law_314 : decode cL_law 314 = .ok (.aload_n 0, 1) := by decide +kernel
theorem dL_law_315 : decode cL_law 315 = .ok (.iload_n 3, 1) := by decide +kernel
theorem dL_law_316 : decode cL_law 316 = .ok (.iconst 1, 1) := by decide +kernel
theorem dL_law_317 : decode cL_law 317 = .ok (.iadd, 1) := by decide +kernel
theorem dL_law_318 : decode cL_law 318 = .ok (.iaload, 1) := by decide +kernel
theorem dL_law_319 : decode cL_law 319 = .ok (.invokevirtual 27, 3) := by decide +kernel
theorem dL_law_322 : decode cL_law 322 = .ok (.aload_n 2, 1) := by decide +kernel
theorem dL_law_323 : decode cL_law 323 = .ok (.aload_n 0, 1) := by decide +kernel
theorem dL_law_324 : decode cL_law 324 = .ok (.iload_n 3, 1) := by decide +kernel
theorem dL_law_325 : decode cL_law 325 = .ok (.iconst 1, 1) := by decide +kernel
theorem dL_law_326 : decode cL_law 326 = .ok (.iadd, 1) := by decide +kernel
theorem dL_law_327 : decode cL_law 327 = .ok (.iaload, 1) := by decide +kernel
theorem dL_law_328 : decode cL_law 328 = .ok (.invokevirtual 31, 3) := by decide +kernel
theorem dL_law_331 : decode cL_law 331 = .ok (.if_icmp .eq 777, 3) := by decide +kernel
theorem dL_law_334 : decode cL_law 334 = .ok (.iconst 0, 1) := by decide +kernel
theorem dL_law_335 : decode cL_law 335 = .ok (.ireturn, 1) := by decide +kernel
theorem dL_law_336 : decode cL_law 336 = .ok (.aload_n 1, 1) := by decide +kernel
theorem dL_law_337 : decode cL_law 337 = .ok (.aload_n 0, 1) := by decide +kernel
theorem dL_law_338 : decode cL_law 338 = .ok (.iload_n 3, 1) := by decide +kernel
theorem dL_law_339 : decode cL_law 339 = .ok (.iconst 1, 1) := by decide +kernel
theorem dL_law_340 : decode cL_law 340 = .ok (.iadd, 1) := by decide +kernel
theorem dL_law_341 : decode cL_law 341 = .ok (.iaload, 1) := by decide +kernel
theorem dL_law_342 : decode cL_law 342 = .ok (.aload_n 0, 1) := by decide +kernel
theorem dL_law_343 : decode cL_law 343 = .ok (.iload_n 3, 1) := by decide +kernel
theorem dL_law_344 : decode cL_law 344 = .ok (.iconst 2, 1) := by decide +kernel
theorem dL_law_345 : decode cL_law 345 = .ok (.iadd, 1) := by decide +kernel
theorem dL_law_346 : decode cL_law 346 = .ok (.iaload, 1) := by decide +kernel
theorem dL_law_347 : decode cL_law 347 = .ok (.invokevirtual 32, 3) := by decide +kernel
theorem dL_law_350 : decode cL_law 350 = .ok (.aload_n 2, 1) := by decide +kernel
theorem dL_law_351 : decode cL_law 351 = .ok (.aload_n 0, 1) := by decide +kernel
theorem dL_law_352 : decode cL_law 352 = .ok (.iload_n 3, 1) := by decide +kernel
theorem dL_law_353 : decode cL_law 353 = .ok (.iconst 1, 1) := by decide +kernel
theorem dL_law_354 : decode cL_law 354 = .ok (.iadd, 1) := by decide +kernel
theorem dL_law_355 : decode cL_law 355 = .ok (.iaload, 1) := by decide +kernel
theorem dL_law_356 : decode cL_law 356 = .ok (.aload_n 0, 1) := by decide +kernel
theorem dL_law_357 : decode cL_law 357 = .ok (.iload_n 3, 1) := by decide +kernel
theorem dL_law_358 : decode cL_law 358 = .ok (.iconst 2, 1) := by decide +kernel
theorem dL_law_359 : decode cL_law 359 = .ok (.iadd, 1) := by decide +kernel
theorem dL_law_360 : decode cL_law 360 = .ok (.iaload, 1) := by decide +kernel
theorem dL_law_361 : decode cL_law 361 = .ok (.invokevirtual 36, 3) := by decide +kernel
theorem dL_law_364 : decode cL_law 364 = .ok (.if_icmp .eq 744, 3) := by decide +kernel
theorem dL_law_367 : decode cL_law 367 = .ok (.iconst 0, 1) := by decide +kernel
theorem dL_law_368 : decode cL_law 368 = .ok (.ireturn, 1) := by decide +kernel
theorem dL_law_369 : decode cL_law 369 = .ok (.aload_n 1, 1) := by decide +kernel
theorem dL_law_370 : decode cL_law 370 = .ok (.aload_n 0, 1) := by decide +kernel
theorem dL_law_371 : decode cL_law 371 = .ok (.iload_n 3, 1) := by decide +kernel
theorem dL_law_372 : decode cL_law 372 = .ok (.iconst 1, 1) := by decide +kernel
theorem dL_law_373 : decode cL_law 373 = .ok (.iadd, 1) := by decide +kernel
theorem dL_law_374 : decode cL_law 374 = .ok (.iaload, 1) := by decide +kernel
theorem dL_law_375 : decode cL_law 375 = .ok (.invokevirtual 37, 3) := by decide +kernel
theorem dL_law_378 : decode cL_law 378 = .ok (.aload_n 2, 1) := by decide +kernel
theorem dL_law_379 : decode cL_law 379 = .ok (.aload_n 0, 1) := by decide +kernel
theorem dL_law_380 : decode cL_law 380 = .ok (.iload_n 3, 1) := by decide +kernel
theorem dL_law_381 : decode cL_law 381 = .ok (.iconst 1, 1) := by decide +kernel
theorem dL_law_382 : decode cL_law 382 = .ok (.iadd, 1) := by decide +kernel
theorem dL_law_383 : decode cL_law 383 = .ok (.iaload, 1) := by decide +kernel
theorem dL_law_384 : decode cL_law 384 = .ok (.invokevirtual 40, 3) := by decide +kernel
theorem dL_law_387 : decode cL_law 387 = .ok (.if_icmp .eq 721, 3) := by decide +kernel
theorem dL_law_390 : decode cL_law 390 = .ok (.iconst 0, 1) := by decide +kernel
theorem dL_law_391 : decode cL_law 391 = .ok (.ireturn, 1) := by decide +kernel
theorem dL_law_392 : decode cL_law 392 = .ok (.aload_n 1, 1) := by decide +kernel
theorem dL_law_393 : decode cL_law 393 = .ok (.invokevirtual 41, 3) := by decide +kernel
theorem dL_law_396 : decode cL_law 396 = .ok (.aload_n 2, 1) := by decide +kernel
theorem dL_law_397 : decode cL_law 397 = .ok (.invokevirtual 45, 3) := by decide +kernel
theorem dL_law_400 : decode cL_law 400 = .ok (.if_icmp .eq 708, 3) := by decide +kernel
theorem dL_law_403 : decode cL_law 403 = .ok (.iconst 0, 1) := by decide +kernel
theorem dL_law_404 : decode cL_law 404 = .ok (.ireturn, 1) := by decide +kernel
theorem dL_law_405 : decode cL_law 405 = .ok (.aload_n 1, 1) := by decide +kernel
theorem dL_law_406 : decode cL_law 406 = .ok (.aload_n 0, 1) := by decide +kernel
theorem dL_law_407 : decode cL_law 407 = .ok (.iload_n 3, 1) := by decide +kernel
theorem dL_law_408 : decode cL_law 408 = .ok (.iconst 1, 1) := by decide +kernel
theorem dL_law_409 : decode cL_law 409 = .ok (.iadd, 1) := by decide +kernel
theorem dL_law_410 : decode cL_law 410 = .ok (.iaload, 1) := by decide +kernel
theorem dL_law_411 : decode cL_law 411 = .ok (.aload_n 0, 1) := by decide +kernel
theorem dL_law_412 : decode cL_law 412 = .ok (.iload_n 3, 1) := by decide +kernel
theorem dL_law_413 : decode cL_law 413 = .ok (.iconst 2, 1) := by decide +kernel
theorem dL_law_414 : decode cL_law 414 = .ok (.iadd, 1) := by decide +kernel
theorem dL_law_415 : decode cL_law 415 = .ok (.iaload, 1) := by decide +kernel
theorem dL_law_416 : decode cL_law 416 = .ok (.invokevirtual 46, 3) := by decide +kernel
theorem dL_law_419 : decode cL_law 419 = .ok (.aload_n 2, 1) := by decide +kernel
theorem dL_law_420 : decode cL_law 420 = .ok (.aload_n 0, 1) := by decide +kernel
theorem dL_law_421 : decode cL_law 421 = .ok (.iload_n 3, 1) := by decide +kernel
theorem dL_law_422 : decode cL_law 422 = .ok (.iconst 1, 1) := by decide +kernel
theorem dL_law_423 : decode cL_law 423 = .ok (.iadd, 1) := by decide +kernel
theorem dL_law_424 : decode cL_law 424 = .ok (.iaload, 1) := by decide +kernel
theorem dL_law_425 : decode cL_law 425 = .ok (.aload_n 0, 1) := by decide +kernel
theorem dL_law_426 : decode cL_law 426 = .ok (.iload_n 3, 1) := by decide +kernel
theorem dL_law_427 : decode cL_law 427 = .ok (.iconst 2, 1) := by decide +kernel
theorem dL_law_428 : decode cL_law 428 = .ok (.iadd, 1) := by decide +kernel
theorem dL_law_429 : decode cL_law 429 = .ok (.iaload, 1) := by decide +kernel
theorem dL_law_430 : decode cL_law 430 = .ok (.invokevirtual 49, 3) := by decide +kernel
theorem dL_law_433 : decode cL_law 433 = .ok (.if_icmp .eq 675, 3) := by decide +kernel
theorem dL_law_436 : decode cL_law 436 = .ok (.iconst 0, 1) := by decide +kernel
theorem dL_law_437 : decode cL_law 437 = .ok (.ireturn, 1) := by decide +kernel
theorem dL_law_438 : decode cL_law 438 = .ok (.aload_n 1, 1) := by decide +kernel
theorem dL_law_439 : decode cL_law 439 = .ok (.aload_n 0, 1) := by decide +kernel
theorem dL_law_440 : decode cL_law 440 = .ok (.iload_n 3, 1) := by decide +kernel
theorem dL_law_441 : decode cL_law 441 = .ok (.iconst 1, 1) := by decide +kernel
theorem dL_law_442 : decode cL_law 442 = .ok (.iadd, 1) := by decide +kernel
theorem dL_law_443 : decode cL_law 443 = .ok (.iaload, 1) := by decide +kernel
theorem dL_law_444 : decode cL_law 444 = .ok (.invokevirtual 50, 3) := by decide +kernel
theorem dL_law_447 : decode cL_law 447 = .ok (.aload_n 2, 1) := by decide +kernel
theorem dL_law_448 : decode cL_law 448 = .ok (.aload_n 0, 1) := by decide +kernel
theorem dL_law_449 : decode cL_law 449 = .ok (.iload_n 3, 1) := by decide +kernel
theorem dL_law_450 : decode cL_law 450 = .ok (.iconst 1, 1) := by decide +kernel
theorem dL_law_451 : decode cL_law 451 = .ok (.iadd, 1) := by decide +kernel
theorem dL_law_452 : decode cL_law 452 = .ok (.iaload, 1) := by decide +kernel
theorem dL_law_453 : decode cL_law 453 = .ok (.invokevirtual 53, 3) := by decide +kernel
theorem dL_law_456 : decode cL_law 456 = .ok (.if_icmp .eq 652, 3) := by decide +kernel
theorem dL_law_459 : decode cL_law 459 = .ok (.iconst 0, 1) := by decide +kernel
theorem dL_law_460 : decode cL_law 460 = .ok (.ireturn, 1) := by decide +kernel
theorem dL_law_461 : decode cL_law 461 = .ok (.aload_n 1, 1) := by decide +kernel
theorem dL_law_462 : decode cL_law 462 = .ok (.aload_n 0, 1) := by decide +kernel
theorem dL_law_463 : decode cL_law 463 = .ok (.iload_n 3, 1) := by decide +kernel
theorem dL_law_464 : decode cL_law 464 = .ok (.iconst 1, 1) := by decide +kernel
theorem dL_law_465 : decode cL_law 465 = .ok (.iadd, 1) := by decide +kernel
theorem dL_law_466 : decode cL_law 466 = .ok (.iaload, 1) := by decide +kernel
theorem dL_law_467 : decode cL_law 467 = .ok (.invokevirtual 54, 3) := by decide +kernel
theorem dL_law_470 : decode cL_law 470 = .ok (.aload_n 2, 1) := by decide +kernel
theorem dL_law_471 : decode cL_law 471 = .ok (.aload_n 0, 1) := by decide +kernel
theorem dL_law_472 : decode cL_law 472 = .ok (.iload_n 3, 1) := by decide +kernel
theorem dL_law_473 : decode cL_law 473 = .ok (.iconst 1, 1) := by decide +kernel
theorem dL_law_474 : decode cL_law 474 = .ok (.iadd, 1) := by decide +kernel
theorem dL_law_475 : decode cL_law 475 = .ok (.iaload, 1) := by decide +kernel
theorem dL_law_476 : decode cL_law 476 = .ok (.invokevirtual 57, 3) := by decide +kernel
theorem dL_law_479 : decode cL_law 479 = .ok (.if_icmp .eq 629, 3) := by decide +kernel
theorem dL_law_482 : decode cL_law 482 = .ok (.iconst 0, 1) := by decide +kernel
theorem dL_law_483 : decode cL_law 483 = .ok (.ireturn, 1) := by decide +kernel
theorem dL_law_484 : decode cL_law 484 = .ok (.aload_n 1, 1) := by decide +kernel
theorem dL_law_485 : decode cL_law 485 = .ok (.aload_n 0, 1) := by decide +kernel
theorem dL_law_486 : decode cL_law 486 = .ok (.iload_n 3, 1) := by decide +kernel
theorem dL_law_487 : decode cL_law 487 = .ok (.iconst 1, 1) := by decide +kernel
theorem dL_law_488 : decode cL_law 488 = .ok (.iadd, 1) := by decide +kernel
theorem dL_law_489 : decode cL_law 489 = .ok (.iaload, 1) := by decide +kernel
theorem dL_law_490 : decode cL_law 490 = .ok (.aload_n 0, 1) := by decide +kernel
theorem dL_law_491 : decode cL_law 491 = .ok (.iload_n 3, 1) := by decide +kernel
theorem dL_law_492 : decode cL_law 492 = .ok (.iconst 2, 1) := by decide +kernel
theorem dL_law_493 : decode cL_law 493 = .ok (.iadd, 1) := by decide +kernel
theorem dL_law_494 : decode cL_law 494 = .ok (.iaload, 1) := by decide +kernel
theorem dL_law_495 : decode cL_law 495 = .ok (.invokevirtual 58, 3) := by decide +kernel
theorem dL_law_498 : decode cL_law 498 = .ok (.aload_n 2, 1) := by decide +kernel
theorem dL_law_499 : decode cL_law 499 = .ok (.aload_n 0, 1) := by decide +kernel
theorem dL_law_500 : decode cL_law 500 = .ok (.iload_n 3, 1) := by decide +kernel
theorem dL_law_501 : decode cL_law 501 = .ok (.iconst 1, 1) := by decide +kernel
theorem dL_law_502 : decode cL_law 502 = .ok (.iadd, 1) := by decide +kernel
theorem dL_law_503 : decode cL_law 503 = .ok (.iaload, 1) := by decide +kernel
theorem dL_law_504 : decode cL_law 504 = .ok (.aload_n 0, 1) := by decide +kernel
theorem dL_law_505 : decode cL_law 505 = .ok (.iload_n 3, 1) := by decide +kernel
theorem dL_law_506 : decode cL_law 506 = .ok (.iconst 2, 1) := by decide +kernel
theorem dL_law_507 : decode cL_law 507 = .ok (.iadd, 1) := by decide +kernel
theorem dL_law_508 : decode cL_law 508 = .ok (.iaload, 1) := by decide +kernel
theorem dL_law_509 : decode cL_law 509 = .ok (.invokevirtual 61, 3) := by decide +kernel
theorem dL_law_512 : decode cL_law 512 = .ok (.if_icmp .eq 596, 3) := by decide +kernel
theorem dL_law_515 : decode cL_law 515 = .ok (.iconst 0, 1) := by decide +kernel
theorem dL_law_516 : decode cL_law 516 = .ok (.ireturn, 1) := by decide +kernel
theorem dL_law_517 : decode cL_law 517 = .ok (.aload_n 1, 1) := by decide +kernel
theorem dL_law_518 : decode cL_law 518 = .ok (.aload_n 0, 1) := by decide +kernel
theorem dL_law_519 : decode cL_law 519 = .ok (.iload_n 3, 1) := by decide +kernel
theorem dL_law_520 : decode cL_law 520 = .ok (.iconst 1, 1) := by decide +kernel
theorem dL_law_521 : decode cL_law 521 = .ok (.iadd, 1) := by decide +kernel
theorem dL_law_522 : decode cL_law 522 = .ok (.iaload, 1) := by decide +kernel
theorem dL_law_523 : decode cL_law 523 = .ok (.aload_n 0, 1) := by decide +kernel
theorem dL_law_524 : decode cL_law 524 = .ok (.iload_n 3, 1) := by decide +kernel
theorem dL_law_525 : decode cL_law 525 = .ok (.iconst 2, 1) := by decide +kernel
theorem dL_law_526 : decode cL_law 526 = .ok (.iadd, 1) := by decide +kernel
theorem dL_law_527 : decode cL_law 527 = .ok (.iaload, 1) := by decide +kernel
theorem dL_law_528 : decode cL_law 528 = .ok (.invokevirtual 62, 3) := by decide +kernel
theorem dL_law_531 : decode cL_law 531 = .ok (.aload_n 2, 1) := by decide +kernel
theorem dL_law_532 : decode cL_law 532 = .ok (.aload_n 0, 1) := by decide +kernel
theorem dL_law_533 : decode cL_law 533 = .ok (.iload_n 3, 1) := by decide +kernel
theorem dL_law_534 : decode cL_law 534 = .ok (.iconst 1, 1) := by decide +kernel
theorem dL_law_535 : decode cL_law 535 = .ok (.iadd, 1) := by decide +kernel
theorem dL_law_536 : decode cL_law 536 = .ok (.iaload, 1) := by decide +kernel
theorem dL_law_537 : decode cL_law 537 = .ok (.aload_n 0, 1) := by decide +kernel
theorem dL_law_538 : decode cL_law 538 = .ok (.iload_n 3, 1) := by decide +kernel
theorem dL_law_539 : decode cL_law 539 = .ok (.iconst 2, 1) := by decide +kernel
theorem dL_law_540 : decode cL_law 540 = .ok (.iadd, 1) := by decide +kernel
theorem dL_law_541 : decode cL_law 541 = .ok (.iaload, 1) := by decide +kernel
theorem dL_law_542 : decode cL_law 542 = .ok (.invokevirtual 65, 3) := by decide +kernel
theorem dL_law_545 : decode cL_law 545 = .ok (.if_icmp .eq 563, 3) := by decide +kernel
theorem dL_law_548 : decode cL_law 548 = .ok (.iconst 0, 1) := by decide +kernel
theorem dL_law_549 : decode cL_law 549 = .ok (.ireturn, 1) := by decide +kernel
theorem dL_law_550 : decode cL_law 550 = .ok (.aload_n 1, 1) := by decide +kernel
theorem dL_law_551 : decode cL_law 551 = .ok (.aload_n 0, 1) := by decide +kernel
theorem dL_law_552 : decode cL_law 552 = .ok (.iload_n 3, 1) := by decide +kernel
theorem dL_law_553 : decode cL_law 553 = .ok (.iconst 1, 1) := by decide +kernel
theorem dL_law_554 : decode cL_law 554 = .ok (.iadd, 1) := by decide +kernel
theorem dL_law_555 : decode cL_law 555 = .ok (.iaload, 1) := by decide +kernel
theorem dL_law_556 : decode cL_law 556 = .ok (.invokevirtual 66, 3) := by decide +kernel
theorem dL_law_559 : decode cL_law 559 = .ok (.aload_n 2, 1) := by decide +kernel
theorem dL_law_560 : decode cL_law 560 = .ok (.aload_n 0, 1) := by decide +kernel
theorem dL_law_561 : decode cL_law 561 = .ok (.iload_n 3, 1) := by decide +kernel
theorem dL_law_562 : decode cL_law 562 = .ok (.iconst 1, 1) := by decide +kernel
theorem dL_law_563 : decode cL_law 563 = .ok (.iadd, 1) := by decide +kernel
theorem dL_law_564 : decode cL_law 564 = .ok (.iaload, 1) := by decide +kernel
theorem dL_law_565 : decode cL_law 565 = .ok (.invokevirtual 70, 3) := by decide +kernel
theorem dL_law_568 : decode cL_law 568 = .ok (.lcmp, 1) := by decide +kernel
theorem dL_law_569 : decode cL_law 569 = .ok (.ifCond .eq 539, 3) := by decide +kernel
theorem dL_law_572 : decode cL_law 572 = .ok (.iconst 0, 1) := by decide +kernel
theorem dL_law_573 : decode cL_law 573 = .ok (.ireturn, 1) := by decide +kernel
theorem dL_law_574 : decode cL_law 574 = .ok (.aload_n 1, 1) := by decide +kernel
theorem dL_law_575 : decode cL_law 575 = .ok (.aload_n 0, 1) := by decide +kernel
theorem dL_law_576 : decode cL_law 576 = .ok (.iload_n 3, 1) := by decide +kernel
theorem dL_law_577 : decode cL_law 577 = .ok (.iconst 1, 1) := by decide +kernel
theorem dL_law_578 : decode cL_law 578 = .ok (.iadd, 1) := by decide +kernel
theorem dL_law_579 : decode cL_law 579 = .ok (.iaload, 1) := by decide +kernel
theorem dL_law_580 : decode cL_law 580 = .ok (.invokevirtual 71, 3) := by decide +kernel
theorem dL_law_583 : decode cL_law 583 = .ok (.aload_n 2, 1) := by decide +kernel
theorem dL_law_584 : decode cL_law 584 = .ok (.aload_n 0, 1) := by decide +kernel
theorem dL_law_585 : decode cL_law 585 = .ok (.iload_n 3, 1) := by decide +kernel
theorem dL_law_586 : decode cL_law 586 = .ok (.iconst 1, 1) := by decide +kernel
theorem dL_law_587 : decode cL_law 587 = .ok (.iadd, 1) := by decide +kernel
theorem dL_law_588 : decode cL_law 588 = .ok (.iaload, 1) := by decide +kernel
theorem dL_law_589 : decode cL_law 589 = .ok (.invokevirtual 74, 3) := by decide +kernel
theorem dL_law_592 : decode cL_law 592 = .ok (.if_icmp .eq 516, 3) := by decide +kernel
theorem dL_law_595 : decode cL_law 595 = .ok (.iconst 0, 1) := by decide +kernel
theorem dL_law_596 : decode cL_law 596 = .ok (.ireturn, 1) := by decide +kernel
theorem dL_law_597 : decode cL_law 597 = .ok (.aload_n 1, 1) := by decide +kernel
theorem dL_law_598 : decode cL_law 598 = .ok (.aload_n 0, 1) := by decide +kernel
theorem dL_law_599 : decode cL_law 599 = .ok (.iload_n 3, 1) := by decide +kernel
theorem dL_law_600 : decode cL_law 600 = .ok (.iconst 1, 1) := by decide +kernel
theorem dL_law_601 : decode cL_law 601 = .ok (.iadd, 1) := by decide +kernel
theorem dL_law_602 : decode cL_law 602 = .ok (.iaload, 1) := by decide +kernel
theorem dL_law_603 : decode cL_law 603 = .ok (.aload_n 0, 1) := by decide +kernel
theorem dL_law_604 : decode cL_law 604 = .ok (.iload_n 3, 1) := by decide +kernel
theorem dL_law_605 : decode cL_law 605 = .ok (.iconst 2, 1) := by decide +kernel
theorem dL_law_606 : decode cL_law 606 = .ok (.iadd, 1) := by decide +kernel
theorem dL_law_607 : decode cL_law 607 = .ok (.iaload, 1) := by decide +kernel
theorem dL_law_608 : decode cL_law 608 = .ok (.invokevirtual 75, 3) := by decide +kernel
theorem dL_law_611 : decode cL_law 611 = .ok (.aload_n 2, 1) := by decide +kernel
theorem dL_law_612 : decode cL_law 612 = .ok (.aload_n 0, 1) := by decide +kernel
theorem dL_law_613 : decode cL_law 613 = .ok (.iload_n 3, 1) := by decide +kernel
theorem dL_law_614 : decode cL_law 614 = .ok (.iconst 1, 1) := by decide +kernel
theorem dL_law_615 : decode cL_law 615 = .ok (.iadd, 1) := by decide +kernel
theorem dL_law_616 : decode cL_law 616 = .ok (.iaload, 1) := by decide +kernel
theorem dL_law_617 : decode cL_law 617 = .ok (.aload_n 0, 1) := by decide +kernel
theorem dL_law_618 : decode cL_law 618 = .ok (.iload_n 3, 1) := by decide +kernel
theorem dL_law_619 : decode cL_law 619 = .ok (.iconst 2, 1) := by decide +kernel
theorem dL_law_620 : decode cL_law 620 = .ok (.iadd, 1) := by decide +kernel
theorem dL_law_621 : decode cL_law 621 = .ok (.iaload, 1) := by decide +kernel
theorem dL_law_622 : decode cL_law 622 = .ok (.invokevirtual 78, 3) := by decide +kernel
theorem dL_law_625 : decode cL_law 625 = .ok (.if_icmp .eq 483, 3) := by decide +kernel
theorem dL_law_628 : decode cL_law 628 = .ok (.iconst 0, 1) := by decide +kernel
theorem dL_law_629 : decode cL_law 629 = .ok (.ireturn, 1) := by decide +kernel
theorem dL_law_630 : decode cL_law 630 = .ok (.aload_n 1, 1) := by decide +kernel
theorem dL_law_631 : decode cL_law 631 = .ok (.aload_n 0, 1) := by decide +kernel
theorem dL_law_632 : decode cL_law 632 = .ok (.iload_n 3, 1) := by decide +kernel
theorem dL_law_633 : decode cL_law 633 = .ok (.iconst 1, 1) := by decide +kernel
theorem dL_law_634 : decode cL_law 634 = .ok (.iadd, 1) := by decide +kernel
theorem dL_law_635 : decode cL_law 635 = .ok (.iaload, 1) := by decide +kernel
theorem dL_law_636 : decode cL_law 636 = .ok (.invokevirtual 79, 3) := by decide +kernel
theorem dL_law_639 : decode cL_law 639 = .ok (.aload_n 2, 1) := by decide +kernel
theorem dL_law_640 : decode cL_law 640 = .ok (.aload_n 0, 1) := by decide +kernel
theorem dL_law_641 : decode cL_law 641 = .ok (.iload_n 3, 1) := by decide +kernel
theorem dL_law_642 : decode cL_law 642 = .ok (.iconst 1, 1) := by decide +kernel
theorem dL_law_643 : decode cL_law 643 = .ok (.iadd, 1) := by decide +kernel
theorem dL_law_644 : decode cL_law 644 = .ok (.iaload, 1) := by decide +kernel
theorem dL_law_645 : decode cL_law 645 = .ok (.invokevirtual 82, 3) := by decide +kernel
theorem dL_law_648 : decode cL_law 648 = .ok (.if_icmp .eq 460, 3) := by decide +kernel
theorem dL_law_651 : decode cL_law 651 = .ok (.iconst 0, 1) := by decide +kernel
theorem dL_law_652 : decode cL_law 652 = .ok (.ireturn, 1) := by decide +kernel
theorem dL_law_653 : decode cL_law 653 = .ok (.aload_n 1, 1) := by decide +kernel
theorem dL_law_654 : decode cL_law 654 = .ok (.aload_n 0, 1) := by decide +kernel
theorem dL_law_655 : decode cL_law 655 = .ok (.iload_n 3, 1) := by decide +kernel
theorem dL_law_656 : decode cL_law 656 = .ok (.iconst 1, 1) := by decide +kernel
theorem dL_law_657 : decode cL_law 657 = .ok (.iadd, 1) := by decide +kernel
theorem dL_law_658 : decode cL_law 658 = .ok (.iaload, 1) := by decide +kernel
theorem dL_law_659 : decode cL_law 659 = .ok (.aload_n 0, 1) := by decide +kernel
theorem dL_law_660 : decode cL_law 660 = .ok (.iload_n 3, 1) := by decide +kernel
theorem dL_law_661 : decode cL_law 661 = .ok (.iconst 2, 1) := by decide +kernel
theorem dL_law_662 : decode cL_law 662 = .ok (.iadd, 1) := by decide +kernel
theorem dL_law_663 : decode cL_law 663 = .ok (.iaload, 1) := by decide +kernel
theorem dL_law_664 : decode cL_law 664 = .ok (.invokevirtual 83, 3) := by decide +kernel
theorem dL_law_667 : decode cL_law 667 = .ok (.aload_n 2, 1) := by decide +kernel
theorem dL_law_668 : decode cL_law 668 = .ok (.aload_n 0, 1) := by decide +kernel
theorem dL_law_669 : decode cL_law 669 = .ok (.iload_n 3, 1) := by decide +kernel
theorem dL_law_670 : decode cL_law 670 = .ok (.iconst 1, 1) := by decide +kernel
theorem dL_law_671 : decode cL_law 671 = .ok (.iadd, 1) := by decide +kernel
theorem dL_law_672 : decode cL_law 672 = .ok (.iaload, 1) := by decide +kernel
theorem dL_law_673 : decode cL_law 673 = .ok (.aload_n 0, 1) := by decide +kernel
theorem dL_law_674 : decode cL_law 674 = .ok (.iload_n 3, 1) := by decide +kernel
theorem dL_law_675 : decode cL_law 675 = .ok (.iconst 2, 1) := by decide +kernel
theorem dL_law_676 : decode cL_law 676 = .ok (.iadd, 1) := by decide +kernel
theorem dL_law_677 : decode cL_law 677 = .ok (.iaload, 1) := by decide +kernel
theorem dL_law_678 : decode cL_law 678 = .ok (.invokevirtual 87, 3) := by decide +kernel
theorem dL_law_681 : decode cL_law 681 = .ok (.lcmp, 1) := by decide +kernel
theorem dL_law_682 : decode cL_law 682 = .ok (.ifCond .eq 426, 3) := by decide +kernel
theorem dL_law_685 : decode cL_law 685 = .ok (.iconst 0, 1) := by decide +kernel
theorem dL_law_686 : decode cL_law 686 = .ok (.ireturn, 1) := by decide +kernel
theorem dL_law_687 : decode cL_law 687 = .ok (.aload_n 1, 1) := by decide +kernel
theorem dL_law_688 : decode cL_law 688 = .ok (.aload_n 0, 1) := by decide +kernel
theorem dL_law_689 : decode cL_law 689 = .ok (.iload_n 3, 1) := by decide +kernel
theorem dL_law_690 : decode cL_law 690 = .ok (.iconst 1, 1) := by decide +kernel
theorem dL_law_691 : decode cL_law 691 = .ok (.iadd, 1) := by decide +kernel
theorem dL_law_692 : decode cL_law 692 = .ok (.iaload, 1) := by decide +kernel
theorem dL_law_693 : decode cL_law 693 = .ok (.invokevirtual 88, 3) := by decide +kernel
theorem dL_law_696 : decode cL_law 696 = .ok (.aload_n 2, 1) := by decide +kernel
theorem dL_law_697 : decode cL_law 697 = .ok (.aload_n 0, 1) := by decide +kernel
theorem dL_law_698 : decode cL_law 698 = .ok (.iload_n 3, 1) := by decide +kernel
theorem dL_law_699 : decode cL_law 699 = .ok (.iconst 1, 1) := by decide +kernel
theorem dL_law_700 : decode cL_law 700 = .ok (.iadd, 1) := by decide +kernel
theorem dL_law_701 : decode cL_law 701 = .ok (.iaload, 1) := by decide +kernel
theorem dL_law_702 : decode cL_law 702 = .ok (.invokevirtual 91, 3) := by decide +kernel
theorem dL_law_705 : decode cL_law 705 = .ok (.lcmp, 1) := by decide +kernel
theorem dL_law_706 : decode cL_law 706 = .ok (.ifCond .eq 402, 3) := by decide +kernel
theorem dL_law_709 : decode cL_law 709 = .ok (.iconst 0, 1) := by decide +kernel
theorem dL_law_710 : decode cL_law 710 = .ok (.ireturn, 1) := by decide +kernel
theorem dL_law_711 : decode cL_law 711 = .ok (.aload_n 1, 1) := by decide +kernel
theorem dL_law_712 : decode cL_law 712 = .ok (.aload_n 0, 1) := by decide +kernel
theorem dL_law_713 : decode cL_law 713 = .ok (.iload_n 3, 1) := by decide +kernel
theorem dL_law_714 : decode cL_law 714 = .ok (.iconst 1, 1) := by decide +kernel
theorem dL_law_715 : decode cL_law 715 = .ok (.iadd, 1) := by decide +kernel
theorem dL_law_716 : decode cL_law 716 = .ok (.iaload, 1) := by decide +kernel
theorem dL_law_717 : decode cL_law 717 = .ok (.aload_n 0, 1) := by decide +kernel
theorem dL_law_718 : decode cL_law 718 = .ok (.iload_n 3, 1) := by decide +kernel
theorem dL_law_719 : decode cL_law 719 = .ok (.iconst 2, 1) := by decide +kernel
theorem dL_law_720 : decode cL_law 720 = .ok (.iadd, 1) := by decide +kernel
theorem dL_law_721 : decode cL_law 721 = .ok (.iaload, 1) := by decide +kernel
theorem dL_law_722 : decode cL_law 722 = .ok (.invokevirtual 92, 3) := by decide +kernel
theorem dL_law_725 : decode cL_law 725 = .ok (.aload_n 2, 1) := by decide +kernel
theorem dL_law_726 : decode cL_law 726 = .ok (.aload_n 0, 1) := by decide +kernel
theorem dL_law_727 : decode cL_law 727 = .ok (.iload_n 3, 1) := by decide +kernel
theorem dL_law_728 : decode cL_law 728 = .ok (.iconst 1, 1) := by decide +kernel
theorem dL_law_729 : decode cL_law 729 = .ok (.iadd, 1) := by decide +kernel
theorem dL_law_730 : decode cL_law 730 = .ok (.iaload, 1) := by decide +kernel
theorem dL_law_731 : decode cL_law 731 = .ok (.aload_n 0, 1) := by decide +kernel
theorem dL_law_732 : decode cL_law 732 = .ok (.iload_n 3, 1) := by decide +kernel
theorem dL_law_733 : decode cL_law 733 = .ok (.iconst 2, 1) := by decide +kernel
theorem dL_law_734 : decode cL_law 734 = .ok (.iadd, 1) := by decide +kernel
theorem dL_law_735 : decode cL_law 735 = .ok (.iaload, 1) := by decide +kernel
theorem dL_law_736 : decode cL_law 736 = .ok (.invokevirtual 95, 3) := by decide +kernel
theorem dL_law_739 : decode cL_law 739 = .ok (.if_icmp .eq 369, 3) := by decide +kernel
theorem dL_law_742 : decode cL_law 742 = .ok (.iconst 0, 1) := by decide +kernel
theorem dL_law_743 : decode cL_law 743 = .ok (.ireturn, 1) := by decide +kernel
theorem dL_law_744 : decode cL_law 744 = .ok (.aload_n 1, 1) := by decide +kernel
theorem dL_law_745 : decode cL_law 745 = .ok (.aload_n 0, 1) := by decide +kernel
theorem dL_law_746 : decode cL_law 746 = .ok (.iload_n 3, 1) := by decide +kernel
theorem dL_law_747 : decode cL_law 747 = .ok (.iconst 1, 1) := by decide +kernel
theorem dL_law_748 : decode cL_law 748 = .ok (.iadd, 1) := by decide +kernel
theorem dL_law_749 : decode cL_law 749 = .ok (.iaload, 1) := by decide +kernel
theorem dL_law_750 : decode cL_law 750 = .ok (.invokevirtual 96, 3) := by decide +kernel
theorem dL_law_753 : decode cL_law 753 = .ok (.aload_n 2, 1) := by decide +kernel
theorem dL_law_754 : decode cL_law 754 = .ok (.aload_n 0, 1) := by decide +kernel
theorem dL_law_755 : decode cL_law 755 = .ok (.iload_n 3, 1) := by decide +kernel
theorem dL_law_756 : decode cL_law 756 = .ok (.iconst 1, 1) := by decide +kernel
theorem dL_law_757 : decode cL_law 757 = .ok (.iadd, 1) := by decide +kernel
theorem dL_law_758 : decode cL_law 758 = .ok (.iaload, 1) := by decide +kernel
theorem dL_law_759 : decode cL_law 759 = .ok (.invokevirtual 99, 3) := by decide +kernel
theorem dL_law_762 : decode cL_law 762 = .ok (.if_icmp .eq 346, 3) := by decide +kernel
theorem dL_law_765 : decode cL_law 765 = .ok (.iconst 0, 1) := by decide +kernel
theorem dL_law_766 : decode cL_law 766 = .ok (.ireturn, 1) := by decide +kernel
theorem dL_law_767 : decode cL_law 767 = .ok (.aload_n 1, 1) := by decide +kernel
theorem dL_law_768 : decode cL_law 768 = .ok (.aload_n 0, 1) := by decide +kernel
theorem dL_law_769 : decode cL_law 769 = .ok (.iload_n 3, 1) := by decide +kernel
theorem dL_law_770 : decode cL_law 770 = .ok (.iconst 1, 1) := by decide +kernel
theorem dL_law_771 : decode cL_law 771 = .ok (.iadd, 1) := by decide +kernel
theorem dL_law_772 : decode cL_law 772 = .ok (.iaload, 1) := by decide +kernel
theorem dL_law_773 : decode cL_law 773 = .ok (.aload_n 0, 1) := by decide +kernel
theorem dL_law_774 : decode cL_law 774 = .ok (.iload_n 3, 1) := by decide +kernel
theorem dL_law_775 : decode cL_law 775 = .ok (.iconst 2, 1) := by decide +kernel
theorem dL_law_776 : decode cL_law 776 = .ok (.iadd, 1) := by decide +kernel
theorem dL_law_777 : decode cL_law 777 = .ok (.iaload, 1) := by decide +kernel
theorem dL_law_778 : decode cL_law 778 = .ok (.invokevirtual 100, 3) := by decide +kernel
theorem dL_law_781 : decode cL_law 781 = .ok (.aload_n 2, 1) := by decide +kernel
theorem dL_law_782 : decode cL_law 782 = .ok (.aload_n 0, 1) := by decide +kernel
theorem dL_law_783 : decode cL_law 783 = .ok (.iload_n 3, 1) := by decide +kernel
theorem dL_law_784 : decode cL_law 784 = .ok (.iconst 1, 1) := by decide +kernel
theorem dL_law_785 : decode cL_law 785 = .ok (.iadd, 1) := by decide +kernel
theorem dL_law_786 : decode cL_law 786 = .ok (.iaload, 1) := by decide +kernel
theorem dL_law_787 : decode cL_law 787 = .ok (.aload_n 0, 1) := by decide +kernel
theorem dL_law_788 : decode cL_law 788 = .ok (.iload_n 3, 1) := by decide +kernel
theorem dL_law_789 : decode cL_law 789 = .ok (.iconst 2, 1) := by decide +kernel
theorem dL_law_790 : decode cL_law 790 = .ok (.iadd, 1) := by decide +kernel
theorem dL_law_791 : decode cL_law 791 = .ok (.iaload, 1) := by decide +kernel
theorem dL_law_792 : decode cL_law 792 = .ok (.invokevirtual 103, 3) := by decide +kernel
theorem dL_law_795 : decode cL_law 795 = .ok (.if_icmp .eq 313, 3) := by decide +kernel
theorem dL_law_798 : decode cL_law 798 = .ok (.iconst 0, 1) := by decide +kernel
theorem dL_law_799 : decode cL_law 799 = .ok (.ireturn, 1) := by decide +kernel
theorem dL_law_800 : decode cL_law 800 = .ok (.aload_n 1, 1) := by decide +kernel
theorem dL_law_801 : decode cL_law 801 = .ok (.invokevirtual 104, 3) := by decide +kernel
theorem dL_law_804 : decode cL_law 804 = .ok (.aload_n 2, 1) := by decide +kernel
theorem dL_law_805 : decode cL_law 805 = .ok (.invokevirtual 107, 3) := by decide +kernel
theorem dL_law_808 : decode cL_law 808 = .ok (.if_icmp .eq 300, 3) := by decide +kernel
theorem dL_law_811 : decode cL_law 811 = .ok (.iconst 0, 1) := by decide +kernel
theorem dL_law_812 : decode cL_law 812 = .ok (.ireturn, 1) := by decide +kernel
theorem dL_law_813 : decode cL_law 813 = .ok (.aload_n 1, 1) := by decide +kernel
theorem dL_law_814 : decode cL_law 814 = .ok (.aload_n 0, 1) := by decide +kernel
theorem dL_law_815 : decode cL_law 815 = .ok (.iload_n 3, 1) := by decide +kernel
theorem dL_law_816 : decode cL_law 816 = .ok (.iconst 1, 1) := by decide +kernel
theorem dL_law_817 : decode cL_law 817 = .ok (.iadd, 1) := by decide +kernel
theorem dL_law_818 : decode cL_law 818 = .ok (.iaload, 1) := by decide +kernel
theorem dL_law_819 : decode cL_law 819 = .ok (.aload_n 0, 1) := by decide +kernel
theorem dL_law_820 : decode cL_law 820 = .ok (.iload_n 3, 1) := by decide +kernel
theorem dL_law_821 : decode cL_law 821 = .ok (.iconst 2, 1) := by decide +kernel
theorem dL_law_822 : decode cL_law 822 = .ok (.iadd, 1) := by decide +kernel
theorem dL_law_823 : decode cL_law 823 = .ok (.iaload, 1) := by decide +kernel
theorem dL_law_824 : decode cL_law 824 = .ok (.invokevirtual 108, 3) := by decide +kernel
theorem dL_law_827 : decode cL_law 827 = .ok (.aload_n 2, 1) := by decide +kernel
theorem dL_law_828 : decode cL_law 828 = .ok (.aload_n 0, 1) := by decide +kernel
theorem dL_law_829 : decode cL_law 829 = .ok (.iload_n 3, 1) := by decide +kernel
theorem dL_law_830 : decode cL_law 830 = .ok (.iconst 1, 1) := by decide +kernel
theorem dL_law_831 : decode cL_law 831 = .ok (.iadd, 1) := by decide +kernel
theorem dL_law_832 : decode cL_law 832 = .ok (.iaload, 1) := by decide +kernel
theorem dL_law_833 : decode cL_law 833 = .ok (.aload_n 0, 1) := by decide +kernel
theorem dL_law_834 : decode cL_law 834 = .ok (.iload_n 3, 1) := by decide +kernel
theorem dL_law_835 : decode cL_law 835 = .ok (.iconst 2, 1) := by decide +kernel
theorem dL_law_836 : decode cL_law 836 = .ok (.iadd, 1) := by decide +kernel
theorem dL_law_837 : decode cL_law 837 = .ok (.iaload, 1) := by decide +kernel
theorem dL_law_838 : decode cL_law 838 = .ok (.invokevirtual 111, 3) := by decide +kernel
theorem dL_law_841 : decode cL_law 841 = .ok (.if_icmp .eq 267, 3) := by decide +kernel
theorem dL_law_844 : decode cL_law 844 = .ok (.iconst 0, 1) := by decide +kernel
theorem dL_law_845 : decode cL_law 845 = .ok (.ireturn, 1) := by decide +kernel
theorem dL_law_846 : decode cL_law 846 = .ok (.aload_n 1, 1) := by decide +kernel
theorem dL_law_847 : decode cL_law 847 = .ok (.invokevirtual 112, 3) := by decide +kernel
theorem dL_law_850 : decode cL_law 850 = .ok (.aload_n 2, 1) := by decide +kernel
theorem dL_law_851 : decode cL_law 851 = .ok (.invokevirtual 115, 3) := by decide +kernel
theorem dL_law_854 : decode cL_law 854 = .ok (.if_icmp .eq 254, 3) := by decide +kernel
theorem dL_law_857 : decode cL_law 857 = .ok (.iconst 0, 1) := by decide +kernel
theorem dL_law_858 : decode cL_law 858 = .ok (.ireturn, 1) := by decide +kernel
theorem dL_law_859 : decode cL_law 859 = .ok (.aload_n 1, 1) := by decide +kernel
theorem dL_law_860 : decode cL_law 860 = .ok (.invokevirtual 116, 3) := by decide +kernel
theorem dL_law_863 : decode cL_law 863 = .ok (.aload_n 2, 1) := by decide +kernel
theorem dL_law_864 : decode cL_law 864 = .ok (.invokevirtual 119, 3) := by decide +kernel
theorem dL_law_867 : decode cL_law 867 = .ok (.if_icmp .eq 241, 3) := by decide +kernel
theorem dL_law_870 : decode cL_law 870 = .ok (.iconst 0, 1) := by decide +kernel
theorem dL_law_871 : decode cL_law 871 = .ok (.ireturn, 1) := by decide +kernel
theorem dL_law_872 : decode cL_law 872 = .ok (.aload_n 1, 1) := by decide +kernel
theorem dL_law_873 : decode cL_law 873 = .ok (.aload_n 0, 1) := by decide +kernel
theorem dL_law_874 : decode cL_law 874 = .ok (.iload_n 3, 1) := by decide +kernel
theorem dL_law_875 : decode cL_law 875 = .ok (.iconst 1, 1) := by decide +kernel
theorem dL_law_876 : decode cL_law 876 = .ok (.iadd, 1) := by decide +kernel
theorem dL_law_877 : decode cL_law 877 = .ok (.iaload, 1) := by decide +kernel
theorem dL_law_878 : decode cL_law 878 = .ok (.invokevirtual 120, 3) := by decide +kernel
theorem dL_law_881 : decode cL_law 881 = .ok (.aload_n 2, 1) := by decide +kernel
theorem dL_law_882 : decode cL_law 882 = .ok (.aload_n 0, 1) := by decide +kernel
theorem dL_law_883 : decode cL_law 883 = .ok (.iload_n 3, 1) := by decide +kernel
theorem dL_law_884 : decode cL_law 884 = .ok (.iconst 1, 1) := by decide +kernel
theorem dL_law_885 : decode cL_law 885 = .ok (.iadd, 1) := by decide +kernel
theorem dL_law_886 : decode cL_law 886 = .ok (.iaload, 1) := by decide +kernel
theorem dL_law_887 : decode cL_law 887 = .ok (.invokevirtual 123, 3) := by decide +kernel
theorem dL_law_890 : decode cL_law 890 = .ok (.if_icmp .eq 218, 3) := by decide +kernel
theorem dL_law_893 : decode cL_law 893 = .ok (.iconst 0, 1) := by decide +kernel
theorem dL_law_894 : decode cL_law 894 = .ok (.ireturn, 1) := by decide +kernel
theorem dL_law_895 : decode cL_law 895 = .ok (.aload_n 1, 1) := by decide +kernel
theorem dL_law_896 : decode cL_law 896 = .ok (.aload_n 0, 1) := by decide +kernel
theorem dL_law_897 : decode cL_law 897 = .ok (.iload_n 3, 1) := by decide +kernel
theorem dL_law_898 : decode cL_law 898 = .ok (.iconst 1, 1) := by decide +kernel
theorem dL_law_899 : decode cL_law 899 = .ok (.iadd, 1) := by decide +kernel
theorem dL_law_900 : decode cL_law 900 = .ok (.iaload, 1) := by decide +kernel
theorem dL_law_901 : decode cL_law 901 = .ok (.aload_n 0, 1) := by decide +kernel
theorem dL_law_902 : decode cL_law 902 = .ok (.iload_n 3, 1) := by decide +kernel
theorem dL_law_903 : decode cL_law 903 = .ok (.iconst 2, 1) := by decide +kernel
theorem dL_law_904 : decode cL_law 904 = .ok (.iadd, 1) := by decide +kernel
theorem dL_law_905 : decode cL_law 905 = .ok (.iaload, 1) := by decide +kernel
theorem dL_law_906 : decode cL_law 906 = .ok (.aload_n 0, 1) := by decide +kernel
theorem dL_law_907 : decode cL_law 907 = .ok (.iload_n 3, 1) := by decide +kernel
theorem dL_law_908 : decode cL_law 908 = .ok (.iconst 3, 1) := by decide +kernel
theorem dL_law_909 : decode cL_law 909 = .ok (.iadd, 1) := by decide +kernel
theorem dL_law_910 : decode cL_law 910 = .ok (.iaload, 1) := by decide +kernel
theorem dL_law_911 : decode cL_law 911 = .ok (.invokevirtual 124, 3) := by decide +kernel
theorem dL_law_914 : decode cL_law 914 = .ok (.aload_n 2, 1) := by decide +kernel
theorem dL_law_915 : decode cL_law 915 = .ok (.aload_n 0, 1) := by decide +kernel
theorem dL_law_916 : decode cL_law 916 = .ok (.iload_n 3, 1) := by decide +kernel
theorem dL_law_917 : decode cL_law 917 = .ok (.iconst 1, 1) := by decide +kernel
theorem dL_law_918 : decode cL_law 918 = .ok (.iadd, 1) := by decide +kernel
theorem dL_law_919 : decode cL_law 919 = .ok (.iaload, 1) := by decide +kernel
theorem dL_law_920 : decode cL_law 920 = .ok (.aload_n 0, 1) := by decide +kernel
theorem dL_law_921 : decode cL_law 921 = .ok (.iload_n 3, 1) := by decide +kernel
theorem dL_law_922 : decode cL_law 922 = .ok (.iconst 2, 1) := by decide +kernel
theorem dL_law_923 : decode cL_law 923 = .ok (.iadd, 1) := by decide +kernel
theorem dL_law_924 : decode cL_law 924 = .ok (.iaload, 1) := by decide +kernel
theorem dL_law_925 : decode cL_law 925 = .ok (.aload_n 0, 1) := by decide +kernel
theorem dL_law_926 : decode cL_law 926 = .ok (.iload_n 3, 1) := by decide +kernel
theorem dL_law_927 : decode cL_law 927 = .ok (.iconst 3, 1) := by decide +kernel
theorem dL_law_928 : decode cL_law 928 = .ok (.iadd, 1) := by decide +kernel
theorem dL_law_929 : decode cL_law 929 = .ok (.iaload, 1) := by decide +kernel
theorem dL_law_930 : decode cL_law 930 = .ok (.invokevirtual 127, 3) := by decide +kernel
theorem dL_law_933 : decode cL_law 933 = .ok (.if_icmp .eq 175, 3) := by decide +kernel
theorem dL_law_936 : decode cL_law 936 = .ok (.iconst 0, 1) := by decide +kernel
theorem dL_law_937 : decode cL_law 937 = .ok (.ireturn, 1) := by decide +kernel
theorem dL_law_938 : decode cL_law 938 = .ok (.aload_n 1, 1) := by decide +kernel
theorem dL_law_939 : decode cL_law 939 = .ok (.aload_n 0, 1) := by decide +kernel
theorem dL_law_940 : decode cL_law 940 = .ok (.iload_n 3, 1) := by decide +kernel
theorem dL_law_941 : decode cL_law 941 = .ok (.iconst 1, 1) := by decide +kernel
theorem dL_law_942 : decode cL_law 942 = .ok (.iadd, 1) := by decide +kernel
theorem dL_law_943 : decode cL_law 943 = .ok (.iaload, 1) := by decide +kernel
theorem dL_law_944 : decode cL_law 944 = .ok (.aload_n 0, 1) := by decide +kernel
theorem dL_law_945 : decode cL_law 945 = .ok (.iload_n 3, 1) := by decide +kernel
theorem dL_law_946 : decode cL_law 946 = .ok (.iconst 2, 1) := by decide +kernel
theorem dL_law_947 : decode cL_law 947 = .ok (.iadd, 1) := by decide +kernel
theorem dL_law_948 : decode cL_law 948 = .ok (.iaload, 1) := by decide +kernel
theorem dL_law_949 : decode cL_law 949 = .ok (.aload_n 0, 1) := by decide +kernel
theorem dL_law_950 : decode cL_law 950 = .ok (.iload_n 3, 1) := by decide +kernel
theorem dL_law_951 : decode cL_law 951 = .ok (.iconst 3, 1) := by decide +kernel
theorem dL_law_952 : decode cL_law 952 = .ok (.iadd, 1) := by decide +kernel
theorem dL_law_953 : decode cL_law 953 = .ok (.iaload, 1) := by decide +kernel
theorem dL_law_954 : decode cL_law 954 = .ok (.i2l, 1) := by decide +kernel
theorem dL_law_955 : decode cL_law 955 = .ok (.bipush 32, 2) := by decide +kernel
theorem dL_law_957 : decode cL_law 957 = .ok (.lshl, 1) := by decide +kernel
theorem dL_law_958 : decode cL_law 958 = .ok (.aload_n 0, 1) := by decide +kernel
theorem dL_law_959 : decode cL_law 959 = .ok (.iload_n 3, 1) := by decide +kernel
theorem dL_law_960 : decode cL_law 960 = .ok (.iconst 4, 1) := by decide +kernel
theorem dL_law_961 : decode cL_law 961 = .ok (.iadd, 1) := by decide +kernel
theorem dL_law_962 : decode cL_law 962 = .ok (.iaload, 1) := by decide +kernel
theorem dL_law_963 : decode cL_law 963 = .ok (.i2l, 1) := by decide +kernel
theorem dL_law_964 : decode cL_law 964 = .ok (.ldc2_w 128, 3) := by decide +kernel
theorem dL_law_967 : decode cL_law 967 = .ok (.land, 1) := by decide +kernel
theorem dL_law_968 : decode cL_law 968 = .ok (.lor, 1) := by decide +kernel
theorem dL_law_969 : decode cL_law 969 = .ok (.invokevirtual 130, 3) := by decide +kernel
theorem dL_law_972 : decode cL_law 972 = .ok (.aload_n 2, 1) := by decide +kernel
theorem dL_law_973 : decode cL_law 973 = .ok (.aload_n 0, 1) := by decide +kernel
theorem dL_law_974 : decode cL_law 974 = .ok (.iload_n 3, 1) := by decide +kernel
theorem dL_law_975 : decode cL_law 975 = .ok (.iconst 1, 1) := by decide +kernel
theorem dL_law_976 : decode cL_law 976 = .ok (.iadd, 1) := by decide +kernel
theorem dL_law_977 : decode cL_law 977 = .ok (.iaload, 1) := by decide +kernel
theorem dL_law_978 : decode cL_law 978 = .ok (.aload_n 0, 1) := by decide +kernel
theorem dL_law_979 : decode cL_law 979 = .ok (.iload_n 3, 1) := by decide +kernel
theorem dL_law_980 : decode cL_law 980 = .ok (.iconst 2, 1) := by decide +kernel
theorem dL_law_981 : decode cL_law 981 = .ok (.iadd, 1) := by decide +kernel
theorem dL_law_982 : decode cL_law 982 = .ok (.iaload, 1) := by decide +kernel
theorem dL_law_983 : decode cL_law 983 = .ok (.aload_n 0, 1) := by decide +kernel
theorem dL_law_984 : decode cL_law 984 = .ok (.iload_n 3, 1) := by decide +kernel
theorem dL_law_985 : decode cL_law 985 = .ok (.iconst 3, 1) := by decide +kernel
theorem dL_law_986 : decode cL_law 986 = .ok (.iadd, 1) := by decide +kernel
theorem dL_law_987 : decode cL_law 987 = .ok (.iaload, 1) := by decide +kernel
theorem dL_law_988 : decode cL_law 988 = .ok (.i2l, 1) := by decide +kernel
theorem dL_law_989 : decode cL_law 989 = .ok (.bipush 32, 2) := by decide +kernel
theorem dL_law_991 : decode cL_law 991 = .ok (.lshl, 1) := by decide +kernel
theorem dL_law_992 : decode cL_law 992 = .ok (.aload_n 0, 1) := by decide +kernel
theorem dL_law_993 : decode cL_law 993 = .ok (.iload_n 3, 1) := by decide +kernel
theorem dL_law_994 : decode cL_law 994 = .ok (.iconst 4, 1) := by decide +kernel
theorem dL_law_995 : decode cL_law 995 = .ok (.iadd, 1) := by decide +kernel
theorem dL_law_996 : decode cL_law 996 = .ok (.iaload, 1) := by decide +kernel
theorem dL_law_997 : decode cL_law 997 = .ok (.i2l, 1) := by decide +kernel
theorem dL_law_998 : decode cL_law 998 = .ok (.ldc2_w 128, 3) := by decide +kernel
theorem dL_law_1001 : decode cL_law 1001 = .ok (.land, 1) := by decide +kernel
theorem dL_law_1002 : decode cL_law 1002 = .ok (.lor, 1) := by decide +kernel
theorem dL_law_1003 : decode cL_law 1003 = .ok (.invokevirtual 134, 3) := by decide +kernel
theorem dL_law_1006 : decode cL_law 1006 = .ok (.if_icmp .eq 102, 3) := by decide +kernel
theorem dL_law_1009 : decode cL_law 1009 = .ok (.iconst 0, 1) := by decide +kernel
theorem dL_law_1010 : decode cL_law 1010 = .ok (.ireturn, 1) := by decide +kernel
theorem dL_law_1011 : decode cL_law 1011 = .ok (.aload_n 1, 1) := by decide +kernel
theorem dL_law_1012 : decode cL_law 1012 = .ok (.aload_n 0, 1) := by decide +kernel
theorem dL_law_1013 : decode cL_law 1013 = .ok (.iload_n 3, 1) := by decide +kernel
theorem dL_law_1014 : decode cL_law 1014 = .ok (.iconst 1, 1) := by decide +kernel
theorem dL_law_1015 : decode cL_law 1015 = .ok (.iadd, 1) := by decide +kernel
theorem dL_law_1016 : decode cL_law 1016 = .ok (.iaload, 1) := by decide +kernel
theorem dL_law_1017 : decode cL_law 1017 = .ok (.aload_n 0, 1) := by decide +kernel
theorem dL_law_1018 : decode cL_law 1018 = .ok (.iload_n 3, 1) := by decide +kernel
theorem dL_law_1019 : decode cL_law 1019 = .ok (.iconst 2, 1) := by decide +kernel
theorem dL_law_1020 : decode cL_law 1020 = .ok (.iadd, 1) := by decide +kernel
theorem dL_law_1021 : decode cL_law 1021 = .ok (.iaload, 1) := by decide +kernel
theorem dL_law_1022 : decode cL_law 1022 = .ok (.invokevirtual 135, 3) := by decide +kernel
theorem dL_law_1025 : decode cL_law 1025 = .ok (.aload_n 2, 1) := by decide +kernel
theorem dL_law_1026 : decode cL_law 1026 = .ok (.aload_n 0, 1) := by decide +kernel
theorem dL_law_1027 : decode cL_law 1027 = .ok (.iload_n 3, 1) := by decide +kernel
theorem dL_law_1028 : decode cL_law 1028 = .ok (.iconst 1, 1) := by decide +kernel
theorem dL_law_1029 : decode cL_law 1029 = .ok (.iadd, 1) := by decide +kernel
theorem dL_law_1030 : decode cL_law 1030 = .ok (.iaload, 1) := by decide +kernel
theorem dL_law_1031 : decode cL_law 1031 = .ok (.aload_n 0, 1) := by decide +kernel
theorem dL_law_1032 : decode cL_law 1032 = .ok (.iload_n 3, 1) := by decide +kernel
theorem dL_law_1033 : decode cL_law 1033 = .ok (.iconst 2, 1) := by decide +kernel
theorem dL_law_1034 : decode cL_law 1034 = .ok (.iadd, 1) := by decide +kernel
theorem dL_law_1035 : decode cL_law 1035 = .ok (.iaload, 1) := by decide +kernel
theorem dL_law_1036 : decode cL_law 1036 = .ok (.invokevirtual 138, 3) := by decide +kernel
theorem dL_law_1039 : decode cL_law 1039 = .ok (.lcmp, 1) := by decide +kernel
theorem dL_law_1040 : decode cL_law 1040 = .ok (.ifCond .eq 68, 3) := by decide +kernel
theorem dL_law_1043 : decode cL_law 1043 = .ok (.iconst 0, 1) := by decide +kernel
theorem dL_law_1044 : decode cL_law 1044 = .ok (.ireturn, 1) := by decide +kernel
theorem dL_law_1045 : decode cL_law 1045 = .ok (.aload_n 1, 1) := by decide +kernel
theorem dL_law_1046 : decode cL_law 1046 = .ok (.aload_n 0, 1) := by decide +kernel
theorem dL_law_1047 : decode cL_law 1047 = .ok (.iload_n 3, 1) := by decide +kernel
theorem dL_law_1048 : decode cL_law 1048 = .ok (.iconst 1, 1) := by decide +kernel
theorem dL_law_1049 : decode cL_law 1049 = .ok (.iadd, 1) := by decide +kernel
theorem dL_law_1050 : decode cL_law 1050 = .ok (.iaload, 1) := by decide +kernel
theorem dL_law_1051 : decode cL_law 1051 = .ok (.aload_n 0, 1) := by decide +kernel
theorem dL_law_1052 : decode cL_law 1052 = .ok (.iload_n 3, 1) := by decide +kernel
theorem dL_law_1053 : decode cL_law 1053 = .ok (.iconst 2, 1) := by decide +kernel
theorem dL_law_1054 : decode cL_law 1054 = .ok (.iadd, 1) := by decide +kernel
theorem dL_law_1055 : decode cL_law 1055 = .ok (.iaload, 1) := by decide +kernel
theorem dL_law_1056 : decode cL_law 1056 = .ok (.aload_n 0, 1) := by decide +kernel
theorem dL_law_1057 : decode cL_law 1057 = .ok (.iload_n 3, 1) := by decide +kernel
theorem dL_law_1058 : decode cL_law 1058 = .ok (.iconst 3, 1) := by decide +kernel
theorem dL_law_1059 : decode cL_law 1059 = .ok (.iadd, 1) := by decide +kernel
theorem dL_law_1060 : decode cL_law 1060 = .ok (.iaload, 1) := by decide +kernel
theorem dL_law_1061 : decode cL_law 1061 = .ok (.aload_n 0, 1) := by decide +kernel
theorem dL_law_1062 : decode cL_law 1062 = .ok (.iload_n 3, 1) := by decide +kernel
theorem dL_law_1063 : decode cL_law 1063 = .ok (.iconst 4, 1) := by decide +kernel
theorem dL_law_1064 : decode cL_law 1064 = .ok (.iadd, 1) := by decide +kernel
theorem dL_law_1065 : decode cL_law 1065 = .ok (.iaload, 1) := by decide +kernel
theorem dL_law_1066 : decode cL_law 1066 = .ok (.aload_n 0, 1) := by decide +kernel
theorem dL_law_1067 : decode cL_law 1067 = .ok (.iload_n 3, 1) := by decide +kernel
theorem dL_law_1068 : decode cL_law 1068 = .ok (.iconst 5, 1) := by decide +kernel
theorem dL_law_1069 : decode cL_law 1069 = .ok (.iadd, 1) := by decide +kernel
theorem dL_law_1070 : decode cL_law 1070 = .ok (.iaload, 1) := by decide +kernel
theorem dL_law_1071 : decode cL_law 1071 = .ok (.invokevirtual 139, 3) := by decide +kernel
theorem dL_law_1074 : decode cL_law 1074 = .ok (.aload_n 2, 1) := by decide +kernel
theorem dL_law_1075 : decode cL_law 1075 = .ok (.aload_n 0, 1) := by decide +kernel
theorem dL_law_1076 : decode cL_law 1076 = .ok (.iload_n 3, 1) := by decide +kernel
theorem dL_law_1077 : decode cL_law 1077 = .ok (.iconst 1, 1) := by decide +kernel
theorem dL_law_1078 : decode cL_law 1078 = .ok (.iadd, 1) := by decide +kernel
theorem dL_law_1079 : decode cL_law 1079 = .ok (.iaload, 1) := by decide +kernel
theorem dL_law_1080 : decode cL_law 1080 = .ok (.aload_n 0, 1) := by decide +kernel
theorem dL_law_1081 : decode cL_law 1081 = .ok (.iload_n 3, 1) := by decide +kernel
theorem dL_law_1082 : decode cL_law 1082 = .ok (.iconst 2, 1) := by decide +kernel
theorem dL_law_1083 : decode cL_law 1083 = .ok (.iadd, 1) := by decide +kernel
theorem dL_law_1084 : decode cL_law 1084 = .ok (.iaload, 1) := by decide +kernel
theorem dL_law_1085 : decode cL_law 1085 = .ok (.aload_n 0, 1) := by decide +kernel
theorem dL_law_1086 : decode cL_law 1086 = .ok (.iload_n 3, 1) := by decide +kernel
theorem dL_law_1087 : decode cL_law 1087 = .ok (.iconst 3, 1) := by decide +kernel
theorem dL_law_1088 : decode cL_law 1088 = .ok (.iadd, 1) := by decide +kernel
theorem dL_law_1089 : decode cL_law 1089 = .ok (.iaload, 1) := by decide +kernel
theorem dL_law_1090 : decode cL_law 1090 = .ok (.aload_n 0, 1) := by decide +kernel
theorem dL_law_1091 : decode cL_law 1091 = .ok (.iload_n 3, 1) := by decide +kernel
theorem dL_law_1092 : decode cL_law 1092 = .ok (.iconst 4, 1) := by decide +kernel
theorem dL_law_1093 : decode cL_law 1093 = .ok (.iadd, 1) := by decide +kernel
theorem dL_law_1094 : decode cL_law 1094 = .ok (.iaload, 1) := by decide +kernel
theorem dL_law_1095 : decode cL_law 1095 = .ok (.aload_n 0, 1) := by decide +kernel
theorem dL_law_1096 : decode cL_law 1096 = .ok (.iload_n 3, 1) := by decide +kernel
theorem dL_law_1097 : decode cL_law 1097 = .ok (.iconst 5, 1) := by decide +kernel
theorem dL_law_1098 : decode cL_law 1098 = .ok (.iadd, 1) := by decide +kernel
theorem dL_law_1099 : decode cL_law 1099 = .ok (.iaload, 1) := by decide +kernel
theorem dL_law_1100 : decode cL_law 1100 = .ok (.invokevirtual 143, 3) := by decide +kernel
theorem dL_law_1103 : decode cL_law 1103 = .ok (.if_icmp .eq 5, 3) := by decide +kernel
theorem dL_law_1106 : decode cL_law 1106 = .ok (.iconst 0, 1) := by decide +kernel
theorem dL_law_1107 : decode cL_law 1107 = .ok (.ireturn, 1) := by decide +kernel
theorem dL_law_1108 : decode cL_law 1108 = .ok (.iinc 3 6, 3) := by decide +kernel
theorem dL_law_1111 : decode cL_law 1111 = .ok (.goto (-1093), 3) := by decide +kernel
theorem dL_law_1114 : decode cL_law 1114 = .ok (.iconst 1, 1) := by decide +kernel
theorem dL_law_1115 : decode cL_law 1115 = .ok (.ireturn, 1) := by decide +kernel
end
