section
-- ===== PART A: goes FIRST, ahead of the names: the tables' words, and 'selects' of the private methods out of them =====
/-- a private method of a class that the tables say can be made, by its rows of tables_1 -/
def lw_okq (q : MethodName × Nat) : Prop := (q.1.cls ≠ "java/lang/invoke/MethodHandle" ∧ q.1.cls ≠ "java/lang/invoke/VarHandle") ∧ Cond.instantiable q.1.cls q.2 ∈ tables_1 ∧ Cond.privateMethod q.1 ∈ tables_1 ∧ Cond.instanceMethod q.1 ∈ tables_1
theorem lw_p0 : lw_okq (⟨"java/util/ArrayList", "add", "(Ljava/lang/Object;[Ljava/lang/Object;I)V"⟩, 3) := ⟨⟨by decide +kernel, by decide +kernel⟩, List.mem_of_getElem? (i := 91) (by decide +kernel), List.mem_of_getElem? (i := 164) (by decide +kernel), List.mem_of_getElem? (i := 165) (by decide +kernel)⟩
theorem lw_p1 : lw_okq (⟨"java/util/ArrayList", "grow", "()[Ljava/lang/Object;"⟩, 3) := ⟨⟨by decide +kernel, by decide +kernel⟩, List.mem_of_getElem? (i := 91) (by decide +kernel), List.mem_of_getElem? (i := 168) (by decide +kernel), List.mem_of_getElem? (i := 169) (by decide +kernel)⟩
theorem lw_p2 : lw_okq (⟨"java/util/ArrayList", "grow", "(I)[Ljava/lang/Object;"⟩, 3) := ⟨⟨by decide +kernel, by decide +kernel⟩, List.mem_of_getElem? (i := 91) (by decide +kernel), List.mem_of_getElem? (i := 172) (by decide +kernel), List.mem_of_getElem? (i := 173) (by decide +kernel)⟩
theorem lw_p3 : lw_okq (⟨"RatchetGroup$Member", "dropStaleKeys", "(LRatchetGroup$Tree;)V"⟩, 8) := ⟨⟨by decide +kernel, by decide +kernel⟩, List.mem_of_getElem? (i := 119) (by decide +kernel), List.mem_of_getElem? (i := 338) (by decide +kernel), List.mem_of_getElem? (i := 339) (by decide +kernel)⟩
theorem lw_p4 : lw_okq (⟨"RatchetGroup$Member", "takeKey", "(LRatchetGroup$Tree;I)V"⟩, 8) := ⟨⟨by decide +kernel, by decide +kernel⟩, List.mem_of_getElem? (i := 119) (by decide +kernel), List.mem_of_getElem? (i := 349) (by decide +kernel), List.mem_of_getElem? (i := 350) (by decide +kernel)⟩
theorem lw_p5 : lw_okq (⟨"RatchetGroup$Member", "takeCountingKeys", "(LRatchetGroup$Epoch;)V"⟩, 8) := ⟨⟨by decide +kernel, by decide +kernel⟩, List.mem_of_getElem? (i := 119) (by decide +kernel), List.mem_of_getElem? (i := 353) (by decide +kernel), List.mem_of_getElem? (i := 354) (by decide +kernel)⟩
theorem lw_p6 : lw_okq (⟨"RatchetGroup", "isMember", "(I)Z"⟩, 7) := ⟨⟨by decide +kernel, by decide +kernel⟩, List.mem_of_getElem? (i := 28) (by decide +kernel), List.mem_of_getElem? (i := 386) (by decide +kernel), List.mem_of_getElem? (i := 387) (by decide +kernel)⟩
theorem lw_p7 : lw_okq (⟨"RatchetGroup", "gather", "(LRatchetGroup$Member;)I"⟩, 7) := ⟨⟨by decide +kernel, by decide +kernel⟩, List.mem_of_getElem? (i := 28) (by decide +kernel), List.mem_of_getElem? (i := 408) (by decide +kernel), List.mem_of_getElem? (i := 409) (by decide +kernel)⟩
theorem lw_p8 : lw_okq (⟨"RatchetGroup", "isEpoch", "(I)Z"⟩, 7) := ⟨⟨by decide +kernel, by decide +kernel⟩, List.mem_of_getElem? (i := 28) (by decide +kernel), List.mem_of_getElem? (i := 412) (by decide +kernel), List.mem_of_getElem? (i := 413) (by decide +kernel)⟩
theorem lw_p9 : lw_okq (⟨"RatchetGroup$Tree", "resolutionFrom", "(II)I"⟩, 5) := ⟨⟨by decide +kernel, by decide +kernel⟩, List.mem_of_getElem? (i := 227) (by decide +kernel), List.mem_of_getElem? (i := 445) (by decide +kernel), List.mem_of_getElem? (i := 446) (by decide +kernel)⟩
theorem lw_p10 : lw_okq (⟨"RatchetGroup", "memberNumbered", "(I)LRatchetGroup$Member;"⟩, 7) := ⟨⟨by decide +kernel, by decide +kernel⟩, List.mem_of_getElem? (i := 28) (by decide +kernel), List.mem_of_getElem? (i := 496) (by decide +kernel), List.mem_of_getElem? (i := 497) (by decide +kernel)⟩
theorem lw_p11 : lw_okq (⟨"java/lang/Throwable", "fillInStackTrace", "(I)Ljava/lang/Throwable;"⟩, 6) := ⟨⟨by decide +kernel, by decide +kernel⟩, List.mem_of_getElem? (i := 537) (by decide +kernel), List.mem_of_getElem? (i := 535) (by decide +kernel), List.mem_of_getElem? (i := 536) (by decide +kernel)⟩
theorem lw_p12 : lw_okq (⟨"RatchetGroup", "refuseUnlessMayPropose", "(LRatchetGroup$Member;)V"⟩, 7) := ⟨⟨by decide +kernel, by decide +kernel⟩, List.mem_of_getElem? (i := 28) (by decide +kernel), List.mem_of_getElem? (i := 621) (by decide +kernel), List.mem_of_getElem? (i := 622) (by decide +kernel)⟩
theorem lw_p13 : lw_okq (⟨"RatchetGroup", "applyRemovals", "(LRatchetGroup$Epoch;)V"⟩, 7) := ⟨⟨by decide +kernel, by decide +kernel⟩, List.mem_of_getElem? (i := 28) (by decide +kernel), List.mem_of_getElem? (i := 701) (by decide +kernel), List.mem_of_getElem? (i := 702) (by decide +kernel)⟩
theorem lw_p14 : lw_okq (⟨"RatchetGroup", "removeLeaf", "(LRatchetGroup$Epoch;I)V"⟩, 7) := ⟨⟨by decide +kernel, by decide +kernel⟩, List.mem_of_getElem? (i := 28) (by decide +kernel), List.mem_of_getElem? (i := 705) (by decide +kernel), List.mem_of_getElem? (i := 706) (by decide +kernel)⟩
theorem lw_p15 : lw_okq (⟨"RatchetGroup$Tree", "blankWithPath", "(I)V"⟩, 5) := ⟨⟨by decide +kernel, by decide +kernel⟩, List.mem_of_getElem? (i := 227) (by decide +kernel), List.mem_of_getElem? (i := 714) (by decide +kernel), List.mem_of_getElem? (i := 715) (by decide +kernel)⟩
def lw_privs_1 : List (MethodName × Nat) := [(⟨"java/util/ArrayList", "add", "(Ljava/lang/Object;[Ljava/lang/Object;I)V"⟩, 3), (⟨"java/util/ArrayList", "grow", "()[Ljava/lang/Object;"⟩, 3), (⟨"java/util/ArrayList", "grow", "(I)[Ljava/lang/Object;"⟩, 3), (⟨"RatchetGroup$Member", "dropStaleKeys", "(LRatchetGroup$Tree;)V"⟩, 8), (⟨"RatchetGroup$Member", "takeKey", "(LRatchetGroup$Tree;I)V"⟩, 8), (⟨"RatchetGroup$Member", "takeCountingKeys", "(LRatchetGroup$Epoch;)V"⟩, 8), (⟨"RatchetGroup", "isMember", "(I)Z"⟩, 7), (⟨"RatchetGroup", "gather", "(LRatchetGroup$Member;)I"⟩, 7), (⟨"RatchetGroup", "isEpoch", "(I)Z"⟩, 7), (⟨"RatchetGroup$Tree", "resolutionFrom", "(II)I"⟩, 5), (⟨"RatchetGroup", "memberNumbered", "(I)LRatchetGroup$Member;"⟩, 7), (⟨"java/lang/Throwable", "fillInStackTrace", "(I)Ljava/lang/Throwable;"⟩, 6), (⟨"RatchetGroup", "refuseUnlessMayPropose", "(LRatchetGroup$Member;)V"⟩, 7), (⟨"RatchetGroup", "applyRemovals", "(LRatchetGroup$Epoch;)V"⟩, 7), (⟨"RatchetGroup", "removeLeaf", "(LRatchetGroup$Epoch;I)V"⟩, 7), (⟨"RatchetGroup$Tree", "blankWithPath", "(I)V"⟩, 5)]
theorem lw_r1 : ∀ q ∈ lw_privs_1, lw_okq q := List.forall_mem_cons.mpr ⟨lw_p0, List.forall_mem_cons.mpr ⟨lw_p1, List.forall_mem_cons.mpr ⟨lw_p2, List.forall_mem_cons.mpr ⟨lw_p3, List.forall_mem_cons.mpr ⟨lw_p4, List.forall_mem_cons.mpr ⟨lw_p5, List.forall_mem_cons.mpr ⟨lw_p6, List.forall_mem_cons.mpr ⟨lw_p7, List.forall_mem_cons.mpr ⟨lw_p8, List.forall_mem_cons.mpr ⟨lw_p9, List.forall_mem_cons.mpr ⟨lw_p10, List.forall_mem_cons.mpr ⟨lw_p11, List.forall_mem_cons.mpr ⟨lw_p12, List.forall_mem_cons.mpr ⟨lw_p13, List.forall_mem_cons.mpr ⟨lw_p14, List.forall_mem_cons.mpr ⟨lw_p15, fun _ h => absurd h List.not_mem_nil⟩⟩⟩⟩⟩⟩⟩⟩⟩⟩⟩⟩⟩⟩⟩⟩
theorem lw_p16 : lw_okq (⟨"RatchetGroup$Tree", "isRightHalfBlank", "()Z"⟩, 5) := ⟨⟨by decide +kernel, by decide +kernel⟩, List.mem_of_getElem? (i := 227) (by decide +kernel), List.mem_of_getElem? (i := 730) (by decide +kernel), List.mem_of_getElem? (i := 731) (by decide +kernel)⟩
theorem lw_p17 : lw_okq (⟨"RatchetGroup", "applyRenewals", "(LRatchetGroup$Epoch;)V"⟩, 7) := ⟨⟨by decide +kernel, by decide +kernel⟩, List.mem_of_getElem? (i := 28) (by decide +kernel), List.mem_of_getElem? (i := 738) (by decide +kernel), List.mem_of_getElem? (i := 739) (by decide +kernel)⟩
theorem lw_p18 : lw_okq (⟨"RatchetGroup", "applyAdditions", "(LRatchetGroup$Epoch;)V"⟩, 7) := ⟨⟨by decide +kernel, by decide +kernel⟩, List.mem_of_getElem? (i := 28) (by decide +kernel), List.mem_of_getElem? (i := 751) (by decide +kernel), List.mem_of_getElem? (i := 752) (by decide +kernel)⟩
theorem lw_p19 : lw_okq (⟨"RatchetGroup", "addLeaf", "(LRatchetGroup$Epoch;LRatchetGroup$KeyPackage;)V"⟩, 7) := ⟨⟨by decide +kernel, by decide +kernel⟩, List.mem_of_getElem? (i := 28) (by decide +kernel), List.mem_of_getElem? (i := 755) (by decide +kernel), List.mem_of_getElem? (i := 756) (by decide +kernel)⟩
theorem lw_p20 : lw_okq (⟨"RatchetGroup$Epoch", "nodeBesidePath", "(I)I"⟩, 10) := ⟨⟨by decide +kernel, by decide +kernel⟩, List.mem_of_getElem? (i := 221) (by decide +kernel), List.mem_of_getElem? (i := 782) (by decide +kernel), List.mem_of_getElem? (i := 783) (by decide +kernel)⟩
theorem lw_p21 : lw_okq (⟨"RatchetGroup$Epoch", "encryptPathSecret", "(LRatchetGroup$Secrets;I)V"⟩, 10) := ⟨⟨by decide +kernel, by decide +kernel⟩, List.mem_of_getElem? (i := 221) (by decide +kernel), List.mem_of_getElem? (i := 803) (by decide +kernel), List.mem_of_getElem? (i := 804) (by decide +kernel)⟩
theorem lw_p22 : lw_okq (⟨"RatchetGroup", "welcomeAdded", "(LRatchetGroup$Epoch;I)V"⟩, 7) := ⟨⟨by decide +kernel, by decide +kernel⟩, List.mem_of_getElem? (i := 28) (by decide +kernel), List.mem_of_getElem? (i := 823) (by decide +kernel), List.mem_of_getElem? (i := 824) (by decide +kernel)⟩
theorem lw_p23 : lw_okq (⟨"RatchetGroup$Secrets", "followWays", "(I)V"⟩, 10) := ⟨⟨by decide +kernel, by decide +kernel⟩, List.mem_of_getElem? (i := 36) (by decide +kernel), List.mem_of_getElem? (i := 841) (by decide +kernel), List.mem_of_getElem? (i := 842) (by decide +kernel)⟩
theorem lw_p24 : lw_okq (⟨"RatchetGroup", "joinEarliest", "(LRatchetGroup$Member;)V"⟩, 7) := ⟨⟨by decide +kernel, by decide +kernel⟩, List.mem_of_getElem? (i := 28) (by decide +kernel), List.mem_of_getElem? (i := 852) (by decide +kernel), List.mem_of_getElem? (i := 853) (by decide +kernel)⟩
theorem lw_p25 : lw_okq (⟨"RatchetGroup", "moveOn", "(LRatchetGroup$Member;)V"⟩, 7) := ⟨⟨by decide +kernel, by decide +kernel⟩, List.mem_of_getElem? (i := 28) (by decide +kernel), List.mem_of_getElem? (i := 857) (by decide +kernel), List.mem_of_getElem? (i := 858) (by decide +kernel)⟩
theorem lw_p26 : lw_okq (⟨"RatchetGroup$Member", "holdsOneOf", "(ILRatchetGroup$Tree;)Z"⟩, 8) := ⟨⟨by decide +kernel, by decide +kernel⟩, List.mem_of_getElem? (i := 119) (by decide +kernel), List.mem_of_getElem? (i := 869) (by decide +kernel), List.mem_of_getElem? (i := 870) (by decide +kernel)⟩
theorem lw_p27 : lw_okq (⟨"RatchetGroupModel", "make", "(III)I"⟩, 52) := ⟨⟨by decide +kernel, by decide +kernel⟩, List.mem_of_getElem? (i := 881) (by decide +kernel), List.mem_of_getElem? (i := 887) (by decide +kernel), List.mem_of_getElem? (i := 888) (by decide +kernel)⟩
theorem lw_p28 : lw_okq (⟨"RatchetGroupModel", "leave", "(I)V"⟩, 52) := ⟨⟨by decide +kernel, by decide +kernel⟩, List.mem_of_getElem? (i := 881) (by decide +kernel), List.mem_of_getElem? (i := 891) (by decide +kernel), List.mem_of_getElem? (i := 892) (by decide +kernel)⟩
theorem lw_p29 : lw_okq (⟨"RatchetGroupModel", "isAsked", "(IZ)Z"⟩, 52) := ⟨⟨by decide +kernel, by decide +kernel⟩, List.mem_of_getElem? (i := 881) (by decide +kernel), List.mem_of_getElem? (i := 1068) (by decide +kernel), List.mem_of_getElem? (i := 1069) (by decide +kernel)⟩
theorem lw_p30 : lw_okq (⟨"RatchetGroupModel", "isLatest", "(I)Z"⟩, 52) := ⟨⟨by decide +kernel, by decide +kernel⟩, List.mem_of_getElem? (i := 881) (by decide +kernel), List.mem_of_getElem? (i := 1072) (by decide +kernel), List.mem_of_getElem? (i := 1073) (by decide +kernel)⟩
theorem lw_p31 : lw_okq (⟨"RatchetGroupModel", "propose", "(III)I"⟩, 52) := ⟨⟨by decide +kernel, by decide +kernel⟩, List.mem_of_getElem? (i := 881) (by decide +kernel), List.mem_of_getElem? (i := 1076) (by decide +kernel), List.mem_of_getElem? (i := 1077) (by decide +kernel)⟩
def lw_privs_2 : List (MethodName × Nat) := [(⟨"RatchetGroup$Tree", "isRightHalfBlank", "()Z"⟩, 5), (⟨"RatchetGroup", "applyRenewals", "(LRatchetGroup$Epoch;)V"⟩, 7), (⟨"RatchetGroup", "applyAdditions", "(LRatchetGroup$Epoch;)V"⟩, 7), (⟨"RatchetGroup", "addLeaf", "(LRatchetGroup$Epoch;LRatchetGroup$KeyPackage;)V"⟩, 7), (⟨"RatchetGroup$Epoch", "nodeBesidePath", "(I)I"⟩, 10), (⟨"RatchetGroup$Epoch", "encryptPathSecret", "(LRatchetGroup$Secrets;I)V"⟩, 10), (⟨"RatchetGroup", "welcomeAdded", "(LRatchetGroup$Epoch;I)V"⟩, 7), (⟨"RatchetGroup$Secrets", "followWays", "(I)V"⟩, 10), (⟨"RatchetGroup", "joinEarliest", "(LRatchetGroup$Member;)V"⟩, 7), (⟨"RatchetGroup", "moveOn", "(LRatchetGroup$Member;)V"⟩, 7), (⟨"RatchetGroup$Member", "holdsOneOf", "(ILRatchetGroup$Tree;)Z"⟩, 8), (⟨"RatchetGroupModel", "make", "(III)I"⟩, 52), (⟨"RatchetGroupModel", "leave", "(I)V"⟩, 52), (⟨"RatchetGroupModel", "isAsked", "(IZ)Z"⟩, 52), (⟨"RatchetGroupModel", "isLatest", "(I)Z"⟩, 52), (⟨"RatchetGroupModel", "propose", "(III)I"⟩, 52)]
theorem lw_r2 : ∀ q ∈ lw_privs_2, lw_okq q := List.forall_mem_cons.mpr ⟨lw_p16, List.forall_mem_cons.mpr ⟨lw_p17, List.forall_mem_cons.mpr ⟨lw_p18, List.forall_mem_cons.mpr ⟨lw_p19, List.forall_mem_cons.mpr ⟨lw_p20, List.forall_mem_cons.mpr ⟨lw_p21, List.forall_mem_cons.mpr ⟨lw_p22, List.forall_mem_cons.mpr ⟨lw_p23, List.forall_mem_cons.mpr ⟨lw_p24, List.forall_mem_cons.mpr ⟨lw_p25, List.forall_mem_cons.mpr ⟨lw_p26, List.forall_mem_cons.mpr ⟨lw_p27, List.forall_mem_cons.mpr ⟨lw_p28, List.forall_mem_cons.mpr ⟨lw_p29, List.forall_mem_cons.mpr ⟨lw_p30, List.forall_mem_cons.mpr ⟨lw_p31, fun _ h => absurd h List.not_mem_nil⟩⟩⟩⟩⟩⟩⟩⟩⟩⟩⟩⟩⟩⟩⟩⟩
theorem lw_p32 : lw_okq (⟨"RatchetGroupModel", "change", "(IZ)V"⟩, 52) := ⟨⟨by decide +kernel, by decide +kernel⟩, List.mem_of_getElem? (i := 881) (by decide +kernel), List.mem_of_getElem? (i := 1092) (by decide +kernel), List.mem_of_getElem? (i := 1093) (by decide +kernel)⟩
theorem lw_p33 : lw_okq (⟨"RatchetGroupModel", "copyTree", "(II)V"⟩, 52) := ⟨⟨by decide +kernel, by decide +kernel⟩, List.mem_of_getElem? (i := 881) (by decide +kernel), List.mem_of_getElem? (i := 1096) (by decide +kernel), List.mem_of_getElem? (i := 1097) (by decide +kernel)⟩
theorem lw_p34 : lw_okq (⟨"RatchetGroupModel", "width", "(I)I"⟩, 52) := ⟨⟨by decide +kernel, by decide +kernel⟩, List.mem_of_getElem? (i := 881) (by decide +kernel), List.mem_of_getElem? (i := 1100) (by decide +kernel), List.mem_of_getElem? (i := 1101) (by decide +kernel)⟩
theorem lw_p35 : lw_okq (⟨"RatchetGroupModel", "findRemoves", "(II)V"⟩, 52) := ⟨⟨by decide +kernel, by decide +kernel⟩, List.mem_of_getElem? (i := 881) (by decide +kernel), List.mem_of_getElem? (i := 1104) (by decide +kernel), List.mem_of_getElem? (i := 1105) (by decide +kernel)⟩
theorem lw_p36 : lw_okq (⟨"RatchetGroupModel", "findUpdates", "(II)V"⟩, 52) := ⟨⟨by decide +kernel, by decide +kernel⟩, List.mem_of_getElem? (i := 881) (by decide +kernel), List.mem_of_getElem? (i := 1108) (by decide +kernel), List.mem_of_getElem? (i := 1109) (by decide +kernel)⟩
theorem lw_p37 : lw_okq (⟨"RatchetGroupModel", "doRemoves", "(I)V"⟩, 52) := ⟨⟨by decide +kernel, by decide +kernel⟩, List.mem_of_getElem? (i := 881) (by decide +kernel), List.mem_of_getElem? (i := 1112) (by decide +kernel), List.mem_of_getElem? (i := 1113) (by decide +kernel)⟩
theorem lw_p38 : lw_okq (⟨"RatchetGroupModel", "blank", "(II)V"⟩, 52) := ⟨⟨by decide +kernel, by decide +kernel⟩, List.mem_of_getElem? (i := 881) (by decide +kernel), List.mem_of_getElem? (i := 1116) (by decide +kernel), List.mem_of_getElem? (i := 1117) (by decide +kernel)⟩
theorem lw_p39 : lw_okq (⟨"RatchetGroupModel", "blankPath", "(II)V"⟩, 52) := ⟨⟨by decide +kernel, by decide +kernel⟩, List.mem_of_getElem? (i := 881) (by decide +kernel), List.mem_of_getElem? (i := 1120) (by decide +kernel), List.mem_of_getElem? (i := 1121) (by decide +kernel)⟩
theorem lw_p40 : lw_okq (⟨"RatchetGroupModel", "isRightBlank", "(I)Z"⟩, 52) := ⟨⟨by decide +kernel, by decide +kernel⟩, List.mem_of_getElem? (i := 881) (by decide +kernel), List.mem_of_getElem? (i := 1127) (by decide +kernel), List.mem_of_getElem? (i := 1128) (by decide +kernel)⟩
theorem lw_p41 : lw_okq (⟨"RatchetGroupModel", "doUpdates", "(I)V"⟩, 52) := ⟨⟨by decide +kernel, by decide +kernel⟩, List.mem_of_getElem? (i := 881) (by decide +kernel), List.mem_of_getElem? (i := 1131) (by decide +kernel), List.mem_of_getElem? (i := 1132) (by decide +kernel)⟩
theorem lw_p42 : lw_okq (⟨"RatchetGroupModel", "set", "(III)V"⟩, 52) := ⟨⟨by decide +kernel, by decide +kernel⟩, List.mem_of_getElem? (i := 881) (by decide +kernel), List.mem_of_getElem? (i := 1135) (by decide +kernel), List.mem_of_getElem? (i := 1136) (by decide +kernel)⟩
theorem lw_p43 : lw_okq (⟨"RatchetGroupModel", "doAdds", "(I)V"⟩, 52) := ⟨⟨by decide +kernel, by decide +kernel⟩, List.mem_of_getElem? (i := 881) (by decide +kernel), List.mem_of_getElem? (i := 1139) (by decide +kernel), List.mem_of_getElem? (i := 1140) (by decide +kernel)⟩
theorem lw_p44 : lw_okq (⟨"RatchetGroupModel", "mayAdd", "(II)Z"⟩, 52) := ⟨⟨by decide +kernel, by decide +kernel⟩, List.mem_of_getElem? (i := 881) (by decide +kernel), List.mem_of_getElem? (i := 1143) (by decide +kernel), List.mem_of_getElem? (i := 1144) (by decide +kernel)⟩
theorem lw_p45 : lw_okq (⟨"RatchetGroupModel", "leafOf", "(II)I"⟩, 52) := ⟨⟨by decide +kernel, by decide +kernel⟩, List.mem_of_getElem? (i := 881) (by decide +kernel), List.mem_of_getElem? (i := 1147) (by decide +kernel), List.mem_of_getElem? (i := 1148) (by decide +kernel)⟩
theorem lw_p46 : lw_okq (⟨"RatchetGroupModel", "freeLeaf", "(I)I"⟩, 52) := ⟨⟨by decide +kernel, by decide +kernel⟩, List.mem_of_getElem? (i := 881) (by decide +kernel), List.mem_of_getElem? (i := 1151) (by decide +kernel), List.mem_of_getElem? (i := 1152) (by decide +kernel)⟩
theorem lw_p47 : lw_okq (⟨"RatchetGroupModel", "renew", "(II)I"⟩, 52) := ⟨⟨by decide +kernel, by decide +kernel⟩, List.mem_of_getElem? (i := 881) (by decide +kernel), List.mem_of_getElem? (i := 1155) (by decide +kernel), List.mem_of_getElem? (i := 1156) (by decide +kernel)⟩
def lw_privs_3 : List (MethodName × Nat) := [(⟨"RatchetGroupModel", "change", "(IZ)V"⟩, 52), (⟨"RatchetGroupModel", "copyTree", "(II)V"⟩, 52), (⟨"RatchetGroupModel", "width", "(I)I"⟩, 52), (⟨"RatchetGroupModel", "findRemoves", "(II)V"⟩, 52), (⟨"RatchetGroupModel", "findUpdates", "(II)V"⟩, 52), (⟨"RatchetGroupModel", "doRemoves", "(I)V"⟩, 52), (⟨"RatchetGroupModel", "blank", "(II)V"⟩, 52), (⟨"RatchetGroupModel", "blankPath", "(II)V"⟩, 52), (⟨"RatchetGroupModel", "isRightBlank", "(I)Z"⟩, 52), (⟨"RatchetGroupModel", "doUpdates", "(I)V"⟩, 52), (⟨"RatchetGroupModel", "set", "(III)V"⟩, 52), (⟨"RatchetGroupModel", "doAdds", "(I)V"⟩, 52), (⟨"RatchetGroupModel", "mayAdd", "(II)Z"⟩, 52), (⟨"RatchetGroupModel", "leafOf", "(II)I"⟩, 52), (⟨"RatchetGroupModel", "freeLeaf", "(I)I"⟩, 52), (⟨"RatchetGroupModel", "renew", "(II)I"⟩, 52)]
theorem lw_r3 : ∀ q ∈ lw_privs_3, lw_okq q := List.forall_mem_cons.mpr ⟨lw_p32, List.forall_mem_cons.mpr ⟨lw_p33, List.forall_mem_cons.mpr ⟨lw_p34, List.forall_mem_cons.mpr ⟨lw_p35, List.forall_mem_cons.mpr ⟨lw_p36, List.forall_mem_cons.mpr ⟨lw_p37, List.forall_mem_cons.mpr ⟨lw_p38, List.forall_mem_cons.mpr ⟨lw_p39, List.forall_mem_cons.mpr ⟨lw_p40, List.forall_mem_cons.mpr ⟨lw_p41, List.forall_mem_cons.mpr ⟨lw_p42, List.forall_mem_cons.mpr ⟨lw_p43, List.forall_mem_cons.mpr ⟨lw_p44, List.forall_mem_cons.mpr ⟨lw_p45, List.forall_mem_cons.mpr ⟨lw_p46, List.forall_mem_cons.mpr ⟨lw_p47, fun _ h => absurd h List.not_mem_nil⟩⟩⟩⟩⟩⟩⟩⟩⟩⟩⟩⟩⟩⟩⟩⟩
theorem lw_p48 : lw_okq (⟨"RatchetGroupModel", "resolve", "(II)V"⟩, 52) := ⟨⟨by decide +kernel, by decide +kernel⟩, List.mem_of_getElem? (i := 881) (by decide +kernel), List.mem_of_getElem? (i := 1159) (by decide +kernel), List.mem_of_getElem? (i := 1160) (by decide +kernel)⟩
theorem lw_p49 : lw_okq (⟨"RatchetGroupModel", "of", "(III)I"⟩, 52) := ⟨⟨by decide +kernel, by decide +kernel⟩, List.mem_of_getElem? (i := 881) (by decide +kernel), List.mem_of_getElem? (i := 1166) (by decide +kernel), List.mem_of_getElem? (i := 1167) (by decide +kernel)⟩
theorem lw_p50 : lw_okq (⟨"RatchetGroupModel", "encrypt", "(III)V"⟩, 52) := ⟨⟨by decide +kernel, by decide +kernel⟩, List.mem_of_getElem? (i := 881) (by decide +kernel), List.mem_of_getElem? (i := 1170) (by decide +kernel), List.mem_of_getElem? (i := 1171) (by decide +kernel)⟩
theorem lw_p51 : lw_okq (⟨"RatchetGroupModel", "welcome", "(II)V"⟩, 52) := ⟨⟨by decide +kernel, by decide +kernel⟩, List.mem_of_getElem? (i := 881) (by decide +kernel), List.mem_of_getElem? (i := 1174) (by decide +kernel), List.mem_of_getElem? (i := 1175) (by decide +kernel)⟩
theorem lw_p52 : lw_okq (⟨"RatchetGroupModel", "meeting", "(II)I"⟩, 52) := ⟨⟨by decide +kernel, by decide +kernel⟩, List.mem_of_getElem? (i := 881) (by decide +kernel), List.mem_of_getElem? (i := 1178) (by decide +kernel), List.mem_of_getElem? (i := 1179) (by decide +kernel)⟩
theorem lw_p53 : lw_okq (⟨"RatchetGroupModel", "advance", "(IIZ)V"⟩, 52) := ⟨⟨by decide +kernel, by decide +kernel⟩, List.mem_of_getElem? (i := 881) (by decide +kernel), List.mem_of_getElem? (i := 1182) (by decide +kernel), List.mem_of_getElem? (i := 1183) (by decide +kernel)⟩
theorem lw_p54 : lw_okq (⟨"RatchetGroupModel", "keep", "(II)V"⟩, 52) := ⟨⟨by decide +kernel, by decide +kernel⟩, List.mem_of_getElem? (i := 881) (by decide +kernel), List.mem_of_getElem? (i := 1186) (by decide +kernel), List.mem_of_getElem? (i := 1187) (by decide +kernel)⟩
theorem lw_p55 : lw_okq (⟨"RatchetGroupModel", "tell", "(III)V"⟩, 52) := ⟨⟨by decide +kernel, by decide +kernel⟩, List.mem_of_getElem? (i := 881) (by decide +kernel), List.mem_of_getElem? (i := 1190) (by decide +kernel), List.mem_of_getElem? (i := 1191) (by decide +kernel)⟩
theorem lw_p56 : lw_okq (⟨"RatchetGroupModel", "nextPackage", "(I)I"⟩, 52) := ⟨⟨by decide +kernel, by decide +kernel⟩, List.mem_of_getElem? (i := 881) (by decide +kernel), List.mem_of_getElem? (i := 1198) (by decide +kernel), List.mem_of_getElem? (i := 1199) (by decide +kernel)⟩
theorem lw_p57 : lw_okq (⟨"RatchetGroupModel", "join", "(II)V"⟩, 52) := ⟨⟨by decide +kernel, by decide +kernel⟩, List.mem_of_getElem? (i := 881) (by decide +kernel), List.mem_of_getElem? (i := 1202) (by decide +kernel), List.mem_of_getElem? (i := 1203) (by decide +kernel)⟩
theorem lw_p58 : lw_okq (⟨"RatchetGroupModel", "follow", "(I)V"⟩, 52) := ⟨⟨by decide +kernel, by decide +kernel⟩, List.mem_of_getElem? (i := 881) (by decide +kernel), List.mem_of_getElem? (i := 1206) (by decide +kernel), List.mem_of_getElem? (i := 1207) (by decide +kernel)⟩
theorem lw_p59 : lw_okq (⟨"RatchetGroupModel", "gather", "(I)V"⟩, 52) := ⟨⟨by decide +kernel, by decide +kernel⟩, List.mem_of_getElem? (i := 881) (by decide +kernel), List.mem_of_getElem? (i := 1210) (by decide +kernel), List.mem_of_getElem? (i := 1211) (by decide +kernel)⟩
theorem lw_p60 : lw_okq (⟨"RatchetGroupModel", "hold", "(I)V"⟩, 52) := ⟨⟨by decide +kernel, by decide +kernel⟩, List.mem_of_getElem? (i := 881) (by decide +kernel), List.mem_of_getElem? (i := 1214) (by decide +kernel), List.mem_of_getElem? (i := 1215) (by decide +kernel)⟩
theorem lw_p61 : lw_okq (⟨"RatchetGroupModel", "isHeld", "(I)Z"⟩, 52) := ⟨⟨by decide +kernel, by decide +kernel⟩, List.mem_of_getElem? (i := 881) (by decide +kernel), List.mem_of_getElem? (i := 1218) (by decide +kernel), List.mem_of_getElem? (i := 1219) (by decide +kernel)⟩
theorem lw_p62 : lw_okq (⟨"RatchetGroupModel", "intrude", "()V"⟩, 52) := ⟨⟨by decide +kernel, by decide +kernel⟩, List.mem_of_getElem? (i := 881) (by decide +kernel), List.mem_of_getElem? (i := 1258) (by decide +kernel), List.mem_of_getElem? (i := 1259) (by decide +kernel)⟩
theorem lw_p63 : lw_okq (⟨"RatchetGroupModel", "follows", "(I)Z"⟩, 52) := ⟨⟨by decide +kernel, by decide +kernel⟩, List.mem_of_getElem? (i := 881) (by decide +kernel), List.mem_of_getElem? (i := 1262) (by decide +kernel), List.mem_of_getElem? (i := 1263) (by decide +kernel)⟩
def lw_privs_4 : List (MethodName × Nat) := [(⟨"RatchetGroupModel", "resolve", "(II)V"⟩, 52), (⟨"RatchetGroupModel", "of", "(III)I"⟩, 52), (⟨"RatchetGroupModel", "encrypt", "(III)V"⟩, 52), (⟨"RatchetGroupModel", "welcome", "(II)V"⟩, 52), (⟨"RatchetGroupModel", "meeting", "(II)I"⟩, 52), (⟨"RatchetGroupModel", "advance", "(IIZ)V"⟩, 52), (⟨"RatchetGroupModel", "keep", "(II)V"⟩, 52), (⟨"RatchetGroupModel", "tell", "(III)V"⟩, 52), (⟨"RatchetGroupModel", "nextPackage", "(I)I"⟩, 52), (⟨"RatchetGroupModel", "join", "(II)V"⟩, 52), (⟨"RatchetGroupModel", "follow", "(I)V"⟩, 52), (⟨"RatchetGroupModel", "gather", "(I)V"⟩, 52), (⟨"RatchetGroupModel", "hold", "(I)V"⟩, 52), (⟨"RatchetGroupModel", "isHeld", "(I)Z"⟩, 52), (⟨"RatchetGroupModel", "intrude", "()V"⟩, 52), (⟨"RatchetGroupModel", "follows", "(I)Z"⟩, 52)]
theorem lw_r4 : ∀ q ∈ lw_privs_4, lw_okq q := List.forall_mem_cons.mpr ⟨lw_p48, List.forall_mem_cons.mpr ⟨lw_p49, List.forall_mem_cons.mpr ⟨lw_p50, List.forall_mem_cons.mpr ⟨lw_p51, List.forall_mem_cons.mpr ⟨lw_p52, List.forall_mem_cons.mpr ⟨lw_p53, List.forall_mem_cons.mpr ⟨lw_p54, List.forall_mem_cons.mpr ⟨lw_p55, List.forall_mem_cons.mpr ⟨lw_p56, List.forall_mem_cons.mpr ⟨lw_p57, List.forall_mem_cons.mpr ⟨lw_p58, List.forall_mem_cons.mpr ⟨lw_p59, List.forall_mem_cons.mpr ⟨lw_p60, List.forall_mem_cons.mpr ⟨lw_p61, List.forall_mem_cons.mpr ⟨lw_p62, List.forall_mem_cons.mpr ⟨lw_p63, fun _ h => absurd h List.not_mem_nil⟩⟩⟩⟩⟩⟩⟩⟩⟩⟩⟩⟩⟩⟩⟩⟩
def lw_privs : List (MethodName × Nat) := lw_privs_1 ++ (lw_privs_2 ++ (lw_privs_3 ++ (lw_privs_4)))
def lw_tbl : List Cond := k2_sels lw_privs ++ tables_1
theorem lw_privs_ok : ∀ q ∈ lw_privs, lw_okq q := by
  show ∀ q ∈ lw_privs_1 ++ (lw_privs_2 ++ (lw_privs_3 ++ (lw_privs_4))), lw_okq q
  exact List.forall_mem_append.mpr ⟨lw_r1, List.forall_mem_append.mpr ⟨lw_r2, List.forall_mem_append.mpr ⟨lw_r3, lw_r4⟩⟩⟩
-- ===== end of PART A; then your names; then what follows =====
/-- the words that every contract takes along: those that stay true in every state of a run -/
def q_T : List Cond := lw_tbl.filter goodWord
theorem q_T_in {w : Cond} (i : Nat) (h : tables_1[i]? = some w) (hg : goodWord w = true) : w ∈ q_T := List.mem_filter.mpr ⟨List.mem_append_right _ (List.mem_of_getElem? h), hg⟩
theorem q_T_sel {w : Cond} (i : Nat) (h : (k2_sels lw_privs)[i]? = some w) (hg : goodWord w = true) : w ∈ q_T := List.mem_filter.mpr ⟨List.mem_append_left _ (List.mem_of_getElem? h), hg⟩
theorem q_T_good {w : Cond} (h : w ∈ q_T) : (w.onTables && w.keeps) = true ∨ ∃ ty, w = .arrayClass ty := good_of_word (List.mem_filter.mp h).2
theorem q_T_tbl {w : Cond} (h : w ∈ q_T) : w ∈ lw_tbl := (List.mem_filter.mp h).1
end
section
/-! names: by program (wip/gen_names.py) out of the words of the claim -/
theorem q_T_ws (ws : List Cond) (ps : List Nat) (h : ws = ps.filterMap (fun i => tables_1[i]?)) (hg : ws.all goodWord = true) : ∀ w ∈ ws, w ∈ q_T := by
  intro w hw
  have h1 := List.all_eq_true.mp hg w hw
  rw [h] at hw
  obtain ⟨i, -, hi⟩ := List.mem_filterMap.mp hw
  exact q_T_in i hi h1
def R_RG : String := "RatchetGroup"
def F_RG : u_T := fun k => match k with
  | 0 => ("RatchetGroup", "secrets", "LRatchetGroup$Secrets;", true)
  | 1 => ("RatchetGroup", "members", "Ljava/util/ArrayList;", true)
  | 2 => ("RatchetGroup", "packages", "Ljava/util/ArrayList;", true)
  | 3 => ("RatchetGroup", "proposals", "Ljava/util/ArrayList;", true)
  | 4 => ("RatchetGroup", "epochs", "Ljava/util/ArrayList;", true)
  | 5 => ("RatchetGroup", "held", "LRatchetGroup$Row;", true)
  | _ => ("RatchetGroup", "latest", "LRatchetGroup$Epoch;", false)
def t_RG : Nat → FieldType := fun k => match k with
  | 0 => .object "RatchetGroup$Secrets"
  | 1 => .object "java/util/ArrayList"
  | 2 => .object "java/util/ArrayList"
  | 3 => .object "java/util/ArrayList"
  | 4 => .object "java/util/ArrayList"
  | 5 => .object "RatchetGroup$Row"
  | _ => .object "RatchetGroup$Epoch"
theorem n_RG : ∀ a, a < 7 → ∀ b, b < 7 → a ≠ b → (F_RG a).2.1 ≠ (F_RG b).2.1 := by decide +kernel
theorem t_RG_ok : ∀ k, k < 7 → parseFieldDescriptor (F_RG k).2.2.1 = some (t_RG k) := by decide +kernel
set_option maxRecDepth 20000 in
theorem i_RG : ∀ w ∈ u_ws R_RG F_RG 7, w ∈ q_T := q_T_ws _ [366, 368, 370, 372, 374, 376, 378] (by decide +kernel) (by decide +kernel)
theorem in_RG : Cond.instantiable R_RG 7 ∈ q_T := q_T_in 28 (by decide +kernel) rfl
theorem iz_RG : Cond.initialized R_RG ∈ q_T := q_T_in 1 (by decide +kernel) rfl
def R_Sec : String := "RatchetGroup$Secrets"
def F_Sec : u_T := fun k => match k with
  | 0 => ("RatchetGroup$Secrets", "told", "LRatchetGroup$Row;", true)
  | 1 => ("RatchetGroup$Secrets", "firstWay", "LRatchetGroup$Row;", true)
  | 2 => ("RatchetGroup$Secrets", "nextWay", "LRatchetGroup$Row;", true)
  | 3 => ("RatchetGroup$Secrets", "wayTo", "LRatchetGroup$Row;", true)
  | 4 => ("RatchetGroup$Secrets", "wayWith", "LRatchetGroup$Row;", true)
  | 5 => ("RatchetGroup$Secrets", "inOrder", "LRatchetGroup$Row;", true)
  | 6 => ("RatchetGroup$Secrets", "count", "I", false)
  | 7 => ("RatchetGroup$Secrets", "ways", "I", false)
  | 8 => ("RatchetGroup$Secrets", "toldCount", "I", false)
  | _ => ("RatchetGroup$Secrets", "followed", "I", false)
def t_Sec : Nat → FieldType := fun k => match k with
  | 0 => .object "RatchetGroup$Row"
  | 1 => .object "RatchetGroup$Row"
  | 2 => .object "RatchetGroup$Row"
  | 3 => .object "RatchetGroup$Row"
  | 4 => .object "RatchetGroup$Row"
  | 5 => .object "RatchetGroup$Row"
  | 6 => .int
  | 7 => .int
  | 8 => .int
  | _ => .int
theorem n_Sec : ∀ a, a < 10 → ∀ b, b < 10 → a ≠ b → (F_Sec a).2.1 ≠ (F_Sec b).2.1 := by decide +kernel
theorem t_Sec_ok : ∀ k, k < 10 → parseFieldDescriptor (F_Sec k).2.2.1 = some (t_Sec k) := by decide +kernel
set_option maxRecDepth 20000 in
theorem i_Sec : ∀ w ∈ u_ws R_Sec F_Sec 10, w ∈ q_T := q_T_ws _ [69, 71, 73, 75, 77, 79, 81, 83, 85, 87] (by decide +kernel) (by decide +kernel)
theorem in_Sec : Cond.instantiable R_Sec 10 ∈ q_T := q_T_in 36 (by decide +kernel) rfl
theorem iz_Sec : Cond.initialized R_Sec ∈ q_T := q_T_in 2 (by decide +kernel) rfl
def R_Row : String := "RatchetGroup$Row"
def F_Row : u_T := fun k => match k with
  | _ => ("RatchetGroup$Row", "cells", "[I", true)
def t_Row : Nat → FieldType := fun k => match k with
  | _ => .array .int
theorem n_Row : ∀ a, a < 1 → ∀ b, b < 1 → a ≠ b → (F_Row a).2.1 ≠ (F_Row b).2.1 := by decide +kernel
theorem t_Row_ok : ∀ k, k < 1 → parseFieldDescriptor (F_Row k).2.2.1 = some (t_Row k) := by decide +kernel
set_option maxRecDepth 20000 in
theorem i_Row : ∀ w ∈ u_ws R_Row F_Row 1, w ∈ q_T := q_T_ws _ [51] (by decide +kernel) (by decide +kernel)
theorem in_Row : Cond.instantiable R_Row 1 ∈ q_T := q_T_in 42 (by decide +kernel) rfl
theorem iz_Row : Cond.initialized R_Row ∈ q_T := q_T_in 3 (by decide +kernel) rfl
def R_AL : String := "java/util/ArrayList"
def F_AL : u_T := fun k => match k with
  | 0 => ("java/util/ArrayList", "elementData", "[Ljava/lang/Object;", false)
  | 1 => ("java/util/ArrayList", "size", "I", false)
  | _ => ("java/util/AbstractList", "modCount", "I", false)
def t_AL : Nat → FieldType := fun k => match k with
  | 0 => .array (.object "java/lang/Object")
  | 1 => .int
  | _ => .int
theorem n_AL : ∀ a, a < 3 → ∀ b, b < 3 → a ≠ b → (F_AL a).2.1 ≠ (F_AL b).2.1 := by decide +kernel
theorem t_AL_ok : ∀ k, k < 3 → parseFieldDescriptor (F_AL k).2.2.1 = some (t_AL k) := by decide +kernel
set_option maxRecDepth 20000 in
theorem i_AL : ∀ w ∈ u_ws R_AL F_AL 3, w ∈ q_T := q_T_ws _ [109, 111, 113] (by decide +kernel) (by decide +kernel)
theorem in_AL : Cond.instantiable R_AL 3 ∈ q_T := q_T_in 91 (by decide +kernel) rfl
theorem iz_AL : Cond.initialized R_AL ∈ q_T := q_T_in 7 (by decide +kernel) rfl
def R_Mem : String := "RatchetGroup$Member"
def F_Mem : u_T := fun k => match k with
  | 0 => ("RatchetGroup$Member", "number", "I", true)
  | 1 => ("RatchetGroup$Member", "keys", "LRatchetGroup$Row;", true)
  | 2 => ("RatchetGroup$Member", "updates", "LRatchetGroup$Row;", true)
  | 3 => ("RatchetGroup$Member", "updateCount", "I", false)
  | 4 => ("RatchetGroup$Member", "epoch", "I", false)
  | 5 => ("RatchetGroup$Member", "leaf", "I", false)
  | 6 => ("RatchetGroup$Member", "hasSecret", "Z", false)
  | _ => ("RatchetGroup$Member", "stuck", "I", false)
def t_Mem : Nat → FieldType := fun k => match k with
  | 0 => .int
  | 1 => .object "RatchetGroup$Row"
  | 2 => .object "RatchetGroup$Row"
  | 3 => .int
  | 4 => .int
  | 5 => .int
  | 6 => .boolean
  | _ => .int
theorem n_Mem : ∀ a, a < 8 → ∀ b, b < 8 → a ≠ b → (F_Mem a).2.1 ≠ (F_Mem b).2.1 := by decide +kernel
theorem t_Mem_ok : ∀ k, k < 8 → parseFieldDescriptor (F_Mem k).2.2.1 = some (t_Mem k) := by decide +kernel
set_option maxRecDepth 20000 in
theorem i_Mem : ∀ w ∈ u_ws R_Mem F_Mem 8, w ∈ q_T := q_T_ws _ [142, 144, 146, 148, 150, 152, 154, 156] (by decide +kernel) (by decide +kernel)
theorem in_Mem : Cond.instantiable R_Mem 8 ∈ q_T := q_T_in 119 (by decide +kernel) rfl
theorem iz_Mem : Cond.initialized R_Mem ∈ q_T := q_T_in 8 (by decide +kernel) rfl
def R_Ep : String := "RatchetGroup$Epoch"
def F_Ep : u_T := fun k => match k with
  | 0 => ("RatchetGroup$Epoch", "number", "I", true)
  | 1 => ("RatchetGroup$Epoch", "committerLeaf", "I", true)
  | 2 => ("RatchetGroup$Epoch", "tree", "LRatchetGroup$Tree;", true)
  | 3 => ("RatchetGroup$Epoch", "pathSecrets", "LRatchetGroup$Row;", true)
  | 4 => ("RatchetGroup$Epoch", "secret", "I", false)
  | 5 => ("RatchetGroup$Epoch", "counting", "I", false)
  | 6 => ("RatchetGroup$Epoch", "removed", "I", false)
  | 7 => ("RatchetGroup$Epoch", "updated", "I", false)
  | 8 => ("RatchetGroup$Epoch", "added", "I", false)
  | _ => ("RatchetGroup$Epoch", "encrypted", "I", false)
def t_Ep : Nat → FieldType := fun k => match k with
  | 0 => .int
  | 1 => .int
  | 2 => .object "RatchetGroup$Tree"
  | 3 => .object "RatchetGroup$Row"
  | 4 => .int
  | 5 => .int
  | 6 => .int
  | 7 => .int
  | 8 => .int
  | _ => .int
theorem n_Ep : ∀ a, a < 10 → ∀ b, b < 10 → a ≠ b → (F_Ep a).2.1 ≠ (F_Ep b).2.1 := by decide +kernel
theorem t_Ep_ok : ∀ k, k < 10 → parseFieldDescriptor (F_Ep k).2.2.1 = some (t_Ep k) := by decide +kernel
set_option maxRecDepth 20000 in
theorem i_Ep : ∀ w ∈ u_ws R_Ep F_Ep 10, w ∈ q_T := q_T_ws _ [284, 286, 288, 290, 292, 294, 296, 298, 300, 302] (by decide +kernel) (by decide +kernel)
theorem in_Ep : Cond.instantiable R_Ep 10 ∈ q_T := q_T_in 221 (by decide +kernel) rfl
theorem iz_Ep : Cond.initialized R_Ep ∈ q_T := q_T_in 12 (by decide +kernel) rfl
def R_Tr : String := "RatchetGroup$Tree"
def F_Tr : u_T := fun k => match k with
  | 0 => ("RatchetGroup$Tree", "keys", "LRatchetGroup$Row;", true)
  | 1 => ("RatchetGroup$Tree", "unmerged", "LRatchetGroup$Row;", true)
  | 2 => ("RatchetGroup$Tree", "since", "LRatchetGroup$Row;", true)
  | 3 => ("RatchetGroup$Tree", "dwellers", "LRatchetGroup$Row;", true)
  | _ => ("RatchetGroup$Tree", "depth", "I", false)
def t_Tr : Nat → FieldType := fun k => match k with
  | 0 => .object "RatchetGroup$Row"
  | 1 => .object "RatchetGroup$Row"
  | 2 => .object "RatchetGroup$Row"
  | 3 => .object "RatchetGroup$Row"
  | _ => .int
theorem n_Tr : ∀ a, a < 5 → ∀ b, b < 5 → a ≠ b → (F_Tr a).2.1 ≠ (F_Tr b).2.1 := by decide +kernel
theorem t_Tr_ok : ∀ k, k < 5 → parseFieldDescriptor (F_Tr k).2.2.1 = some (t_Tr k) := by decide +kernel
set_option maxRecDepth 20000 in
theorem i_Tr : ∀ w ∈ u_ws R_Tr F_Tr 5, w ∈ q_T := q_T_ws _ [247, 249, 251, 253, 255] (by decide +kernel) (by decide +kernel)
theorem in_Tr : Cond.instantiable R_Tr 5 ∈ q_T := q_T_in 227 (by decide +kernel) rfl
theorem iz_Tr : Cond.initialized R_Tr ∈ q_T := q_T_in 13 (by decide +kernel) rfl
def R_KP : String := "RatchetGroup$KeyPackage"
def F_KP : u_T := fun k => match k with
  | 0 => ("RatchetGroup$KeyPackage", "owner", "LRatchetGroup$Member;", true)
  | 1 => ("RatchetGroup$KeyPackage", "firstKey", "I", true)
  | 2 => ("RatchetGroup$KeyPackage", "leafKey", "I", true)
  | 3 => ("RatchetGroup$KeyPackage", "epoch", "I", false)
  | 4 => ("RatchetGroup$KeyPackage", "leaf", "I", false)
  | _ => ("RatchetGroup$KeyPackage", "joined", "Z", false)
def t_KP : Nat → FieldType := fun k => match k with
  | 0 => .object "RatchetGroup$Member"
  | 1 => .int
  | 2 => .int
  | 3 => .int
  | 4 => .int
  | _ => .boolean
theorem n_KP : ∀ a, a < 6 → ∀ b, b < 6 → a ≠ b → (F_KP a).2.1 ≠ (F_KP b).2.1 := by decide +kernel
theorem t_KP_ok : ∀ k, k < 6 → parseFieldDescriptor (F_KP k).2.2.1 = some (t_KP k) := by decide +kernel
set_option maxRecDepth 20000 in
theorem i_KP : ∀ w ∈ u_ws R_KP F_KP 6, w ∈ q_T := q_T_ws _ [599, 601, 603, 605, 607, 609] (by decide +kernel) (by decide +kernel)
theorem in_KP : Cond.instantiable R_KP 6 ∈ q_T := q_T_in 582 (by decide +kernel) rfl
theorem iz_KP : Cond.initialized R_KP ∈ q_T := q_T_in 22 (by decide +kernel) rfl
def R_Ad : String := "RatchetGroup$Addition"
def F_Ad : u_T := fun k => match k with
  | _ => ("RatchetGroup$Addition", "offered", "LRatchetGroup$KeyPackage;", true)
def t_Ad : Nat → FieldType := fun k => match k with
  | _ => .object "RatchetGroup$KeyPackage"
theorem n_Ad : ∀ a, a < 1 → ∀ b, b < 1 → a ≠ b → (F_Ad a).2.1 ≠ (F_Ad b).2.1 := by decide +kernel
theorem t_Ad_ok : ∀ k, k < 1 → parseFieldDescriptor (F_Ad k).2.2.1 = some (t_Ad k) := by decide +kernel
set_option maxRecDepth 20000 in
theorem i_Ad : ∀ w ∈ u_ws R_Ad F_Ad 1, w ∈ q_T := q_T_ws _ [634] (by decide +kernel) (by decide +kernel)
theorem in_Ad : Cond.instantiable R_Ad 1 ∈ q_T := q_T_in 627 (by decide +kernel) rfl
theorem iz_Ad : Cond.initialized R_Ad ∈ q_T := q_T_in 23 (by decide +kernel) rfl
def R_Re : String := "RatchetGroup$Removal"
def F_Re : u_T := fun k => match k with
  | _ => ("RatchetGroup$Removal", "leaf", "I", true)
def t_Re : Nat → FieldType := fun k => match k with
  | _ => .int
theorem n_Re : ∀ a, a < 1 → ∀ b, b < 1 → a ≠ b → (F_Re a).2.1 ≠ (F_Re b).2.1 := by decide +kernel
theorem t_Re_ok : ∀ k, k < 1 → parseFieldDescriptor (F_Re k).2.2.1 = some (t_Re k) := by decide +kernel
set_option maxRecDepth 20000 in
theorem i_Re : ∀ w ∈ u_ws R_Re F_Re 1, w ∈ q_T := q_T_ws _ [653] (by decide +kernel) (by decide +kernel)
theorem in_Re : Cond.instantiable R_Re 1 ∈ q_T := q_T_in 646 (by decide +kernel) rfl
theorem iz_Re : Cond.initialized R_Re ∈ q_T := q_T_in 24 (by decide +kernel) rfl
def R_Rn : String := "RatchetGroup$Renewal"
def F_Rn : u_T := fun k => match k with
  | 0 => ("RatchetGroup$Renewal", "leaf", "I", true)
  | _ => ("RatchetGroup$Renewal", "key", "I", true)
def t_Rn : Nat → FieldType := fun k => match k with
  | 0 => .int
  | _ => .int
theorem n_Rn : ∀ a, a < 2 → ∀ b, b < 2 → a ≠ b → (F_Rn a).2.1 ≠ (F_Rn b).2.1 := by decide +kernel
theorem t_Rn_ok : ∀ k, k < 2 → parseFieldDescriptor (F_Rn k).2.2.1 = some (t_Rn k) := by decide +kernel
set_option maxRecDepth 20000 in
theorem i_Rn : ∀ w ∈ u_ws R_Rn F_Rn 2, w ∈ q_T := q_T_ws _ [678, 680] (by decide +kernel) (by decide +kernel)
theorem in_Rn : Cond.instantiable R_Rn 2 ∈ q_T := q_T_in 668 (by decide +kernel) rfl
theorem iz_Rn : Cond.initialized R_Rn ∈ q_T := q_T_in 25 (by decide +kernel) rfl
def R_Mo : String := "RatchetGroupModel"
def F_Mo : u_T := fun k => match k with
  | 0 => ("RatchetGroupModel", "thrown", "I", false)
  | 1 => ("RatchetGroupModel", "secrets", "I", false)
  | 2 => ("RatchetGroupModel", "kinds", "[I", true)
  | 3 => ("RatchetGroupModel", "firsts", "[I", true)
  | 4 => ("RatchetGroupModel", "seconds", "[I", true)
  | 5 => ("RatchetGroupModel", "taken", "[Z", true)
  | 6 => ("RatchetGroupModel", "known", "[Z", true)
  | 7 => ("RatchetGroupModel", "encrypted", "I", false)
  | 8 => ("RatchetGroupModel", "encryptedFor", "[I", true)
  | 9 => ("RatchetGroupModel", "encryptedWhat", "[I", true)
  | 10 => ("RatchetGroupModel", "encryptedIn", "[I", true)
  | 11 => ("RatchetGroupModel", "encryptedAt", "[I", true)
  | 12 => ("RatchetGroupModel", "epochs", "I", false)
  | 13 => ("RatchetGroupModel", "depth", "[I", true)
  | 14 => ("RatchetGroupModel", "secret", "[I", true)
  | 15 => ("RatchetGroupModel", "committer", "[I", true)
  | 16 => ("RatchetGroupModel", "counting", "[I", true)
  | 17 => ("RatchetGroupModel", "removed", "[I", true)
  | 18 => ("RatchetGroupModel", "updated", "[I", true)
  | 19 => ("RatchetGroupModel", "added", "[I", true)
  | 20 => ("RatchetGroupModel", "sent", "[I", true)
  | 21 => ("RatchetGroupModel", "withPath", "[Z", true)
  | 22 => ("RatchetGroupModel", "keys", "[I", true)
  | 23 => ("RatchetGroupModel", "unmerged", "[I", true)
  | 24 => ("RatchetGroupModel", "since", "[I", true)
  | 25 => ("RatchetGroupModel", "paths", "[I", true)
  | 26 => ("RatchetGroupModel", "owners", "[I", true)
  | 27 => ("RatchetGroupModel", "at", "[I", true)
  | 28 => ("RatchetGroupModel", "leaf", "[I", true)
  | 29 => ("RatchetGroupModel", "leafKey", "[I", true)
  | 30 => ("RatchetGroupModel", "stuck", "[I", true)
  | 31 => ("RatchetGroupModel", "updates", "[I", true)
  | 32 => ("RatchetGroupModel", "has", "[Z", true)
  | 33 => ("RatchetGroupModel", "nodeKeys", "[I", true)
  | 34 => ("RatchetGroupModel", "updateKeys", "[I", true)
  | 35 => ("RatchetGroupModel", "packages", "I", false)
  | 36 => ("RatchetGroupModel", "packageOf", "[I", true)
  | 37 => ("RatchetGroupModel", "firstKey", "[I", true)
  | 38 => ("RatchetGroupModel", "secondKey", "[I", true)
  | 39 => ("RatchetGroupModel", "usedIn", "[I", true)
  | 40 => ("RatchetGroupModel", "usedAt", "[I", true)
  | 41 => ("RatchetGroupModel", "joined", "[Z", true)
  | 42 => ("RatchetGroupModel", "waiting", "I", false)
  | 43 => ("RatchetGroupModel", "proposed", "[I", true)
  | 44 => ("RatchetGroupModel", "proposer", "[I", true)
  | 45 => ("RatchetGroupModel", "proposal", "[I", true)
  | 46 => ("RatchetGroupModel", "held", "I", false)
  | 47 => ("RatchetGroupModel", "holding", "[I", true)
  | 48 => ("RatchetGroupModel", "resolved", "I", false)
  | 49 => ("RatchetGroupModel", "resolution", "[I", true)
  | 50 => ("RatchetGroupModel", "open", "[I", true)
  | _ => ("RatchetGroupModel", "newKeys", "[I", true)
def t_Mo : Nat → FieldType := fun k => match k with
  | 0 => .int
  | 1 => .int
  | 2 => .array .int
  | 3 => .array .int
  | 4 => .array .int
  | 5 => .array .boolean
  | 6 => .array .boolean
  | 7 => .int
  | 8 => .array .int
  | 9 => .array .int
  | 10 => .array .int
  | 11 => .array .int
  | 12 => .int
  | 13 => .array .int
  | 14 => .array .int
  | 15 => .array .int
  | 16 => .array .int
  | 17 => .array .int
  | 18 => .array .int
  | 19 => .array .int
  | 20 => .array .int
  | 21 => .array .boolean
  | 22 => .array .int
  | 23 => .array .int
  | 24 => .array .int
  | 25 => .array .int
  | 26 => .array .int
  | 27 => .array .int
  | 28 => .array .int
  | 29 => .array .int
  | 30 => .array .int
  | 31 => .array .int
  | 32 => .array .boolean
  | 33 => .array .int
  | 34 => .array .int
  | 35 => .int
  | 36 => .array .int
  | 37 => .array .int
  | 38 => .array .int
  | 39 => .array .int
  | 40 => .array .int
  | 41 => .array .boolean
  | 42 => .int
  | 43 => .array .int
  | 44 => .array .int
  | 45 => .array .int
  | 46 => .int
  | 47 => .array .int
  | 48 => .int
  | 49 => .array .int
  | 50 => .array .int
  | _ => .array .int
theorem n_Mo : ∀ a, a < 52 → ∀ b, b < 52 → a ≠ b → (F_Mo a).2.1 ≠ (F_Mo b).2.1 := by decide +kernel
theorem t_Mo_ok : ∀ k, k < 52 → parseFieldDescriptor (F_Mo k).2.2.1 = some (t_Mo k) := by decide +kernel
set_option maxRecDepth 20000 in
theorem i_Mo : ∀ w ∈ u_ws R_Mo F_Mo 52, w ∈ q_T := q_T_ws _ [946, 948, 950, 952, 954, 956, 958, 960, 962, 964, 966, 968, 970, 972, 974, 976, 978, 980, 982, 984, 986, 988, 990, 992, 994, 996, 998, 1000, 1002, 1004, 1006, 1008, 1010, 1012, 1014, 1016, 1018, 1020, 1022, 1024, 1026, 1028, 1030, 1032, 1034, 1036, 1038, 1040, 1042, 1044, 1046, 1048] (by decide +kernel) (by decide +kernel)
theorem in_Mo : Cond.instantiable R_Mo 52 ∈ q_T := q_T_in 881 (by decide +kernel) rfl
theorem iz_Mo : Cond.initialized R_Mo ∈ q_T := q_T_in 14 (by decide +kernel) rfl
abbrev q_cl : List vw_C := [(R_RG, F_RG, 7), (R_Sec, F_Sec, 10), (R_Row, F_Row, 1), (R_AL, F_AL, 3), (R_Mem, F_Mem, 8), (R_Ep, F_Ep, 10), (R_Tr, F_Tr, 5), (R_KP, F_KP, 6), (R_Ad, F_Ad, 1), (R_Re, F_Re, 1), (R_Rn, F_Rn, 2), (R_Mo, F_Mo, 52)]
def y_RG_init : MethodName := ⟨"RatchetGroup", "<init>", "()V"⟩
abbrev b_RG_init : ByteArray := prog_1_method_1_code
theorem w_RG_init : Cond.code y_RG_init b_RG_init 3 none ∈ q_T := q_T_in 31 (by decide +kernel) rfl
def y_Obj_init : MethodName := ⟨"java/lang/Object", "<init>", "()V"⟩
abbrev b_Obj_init : ByteArray := object_method_1_code
theorem w_Obj_init : Cond.code y_Obj_init b_Obj_init 1 none ∈ q_T := q_T_in 34 (by decide +kernel) rfl
def y_Sec_init : MethodName := ⟨"RatchetGroup$Secrets", "<init>", "()V"⟩
abbrev b_Sec_init : ByteArray := prog_10_method_1_code
theorem w_Sec_init : Cond.code y_Sec_init b_Sec_init 1 none ∈ q_T := q_T_in 39 (by decide +kernel) rfl
def y_Row_init : MethodName := ⟨"RatchetGroup$Row", "<init>", "(II)V"⟩
abbrev b_Row_init : ByteArray := prog_9_method_1_code
theorem w_Row_init : Cond.code y_Row_init b_Row_init 3 none ∈ q_T := q_T_in 45 (by decide +kernel) rfl
def y_Arr_fill : MethodName := ⟨"java/util/Arrays", "fill", "([II)V"⟩
abbrev b_Arr_fill : ByteArray := prog_29_method_103_code
theorem w_Arr_fill : Cond.code y_Arr_fill b_Arr_fill 4 none ∈ q_T := q_T_in 49 (by decide +kernel) rfl
def y_Row_put : MethodName := ⟨"RatchetGroup$Row", "put", "(II)V"⟩
abbrev b_Row_put : ByteArray := prog_9_method_3_code
theorem w_Row_put : Cond.code y_Row_put b_Row_put 3 none ∈ q_T := q_T_in 58 (by decide +kernel) rfl
def y_AL_init : MethodName := ⟨"java/util/ArrayList", "<init>", "()V"⟩
abbrev b_AL_init : ByteArray := prog_28_method_2_code
theorem w_AL_init : Cond.code y_AL_init b_AL_init 1 none ∈ q_T := q_T_in 94 (by decide +kernel) rfl
def y_ALs_init : MethodName := ⟨"java/util/AbstractList", "<init>", "()V"⟩
abbrev b_ALs_init : ByteArray := prog_27_method_1_code
theorem w_ALs_init : Cond.code y_ALs_init b_ALs_init 1 none ∈ q_T := q_T_in 97 (by decide +kernel) rfl
def y_AC_init : MethodName := ⟨"java/util/AbstractCollection", "<init>", "()V"⟩
abbrev b_AC_init : ByteArray := prog_26_method_1_code
theorem w_AC_init : Cond.code y_AC_init b_AC_init 1 none ∈ q_T := q_T_in 100 (by decide +kernel) rfl
def y_Mem_init : MethodName := ⟨"RatchetGroup$Member", "<init>", "(I)V"⟩
abbrev b_Mem_init : ByteArray := prog_5_method_1_code
theorem w_Mem_init : Cond.code y_Mem_init b_Mem_init 2 none ∈ q_T := q_T_in 122 (by decide +kernel) rfl
def y_AL_add1 : MethodName := ⟨"java/util/ArrayList", "add", "(Ljava/lang/Object;)Z"⟩
abbrev b_AL_add1 : ByteArray := prog_28_method_25_code
theorem w_AL_add1 : Cond.code y_AL_add1 b_AL_add1 2 (some .boolean) ∈ q_T := q_T_in 162 (by decide +kernel) rfl
def y_AL_add2 : MethodName := ⟨"java/util/ArrayList", "add", "(Ljava/lang/Object;[Ljava/lang/Object;I)V"⟩
abbrev b_AL_add2 : ByteArray := prog_28_method_24_code
theorem w_AL_add2 : Cond.code y_AL_add2 b_AL_add2 4 none ∈ q_T := q_T_in 166 (by decide +kernel) rfl
def y_AL_grow1 : MethodName := ⟨"java/util/ArrayList", "grow", "()[Ljava/lang/Object;"⟩
abbrev b_AL_grow1 : ByteArray := prog_28_method_7_code
theorem w_AL_grow1 : Cond.code y_AL_grow1 b_AL_grow1 1 (some (.array (.object "java/lang/Object"))) ∈ q_T := q_T_in 170 (by decide +kernel) rfl
def y_AL_grow2 : MethodName := ⟨"java/util/ArrayList", "grow", "(I)[Ljava/lang/Object;"⟩
abbrev b_AL_grow2 : ByteArray := prog_28_method_6_code
theorem w_AL_grow2 : Cond.code y_AL_grow2 b_AL_grow2 4 (some (.array (.object "java/lang/Object"))) ∈ q_T := q_T_in 174 (by decide +kernel) rfl
def y_ASup_newLength : MethodName := ⟨"jdk/internal/util/ArraysSupport", "newLength", "(III)I"⟩
abbrev b_ASup_newLength : ByteArray := prog_35_method_27_code
theorem w_ASup_newLength : Cond.code y_ASup_newLength b_ASup_newLength 4 (some .int) ∈ q_T := q_T_in 177 (by decide +kernel) rfl
def y_Math_max : MethodName := ⟨"java/lang/Math", "max", "(II)I"⟩
abbrev b_Math_max : ByteArray := prog_21_method_65_code
theorem w_Math_max : Cond.code y_Math_max b_Math_max 2 (some .int) ∈ q_T := q_T_in 180 (by decide +kernel) rfl
def y_ASup_hugeLength : MethodName := ⟨"jdk/internal/util/ArraysSupport", "hugeLength", "(II)I"⟩
abbrev b_ASup_hugeLength : ByteArray := prog_35_method_28_code
theorem w_ASup_hugeLength : Cond.code y_ASup_hugeLength b_ASup_hugeLength 3 (some .int) ∈ q_T := q_T_in 184 (by decide +kernel) rfl
def y_Arr_copyOf1 : MethodName := ⟨"java/util/Arrays", "copyOf", "([Ljava/lang/Object;I)[Ljava/lang/Object;"⟩
abbrev b_Arr_copyOf1 : ByteArray := prog_29_method_119_code
theorem w_Arr_copyOf1 : Cond.code y_Arr_copyOf1 b_Arr_copyOf1 2 (some (.array (.object "java/lang/Object"))) ∈ q_T := q_T_in 187 (by decide +kernel) rfl
def y_Arr_copyOf2 : MethodName := ⟨"java/util/Arrays", "copyOf", "([Ljava/lang/Object;ILjava/lang/Class;)[Ljava/lang/Object;"⟩
abbrev b_Arr_copyOf2 : ByteArray := prog_29_method_120_code
theorem w_Arr_copyOf2 : Cond.code y_Arr_copyOf2 b_Arr_copyOf2 4 (some (.array (.object "java/lang/Object"))) ∈ q_T := q_T_in 208 (by decide +kernel) rfl
def y_Math_min : MethodName := ⟨"java/lang/Math", "min", "(II)I"⟩
abbrev b_Math_min : ByteArray := prog_21_method_69_code
theorem w_Math_min : Cond.code y_Math_min b_Math_min 2 (some .int) ∈ q_T := q_T_in 214 (by decide +kernel) rfl
def y_Ep_init : MethodName := ⟨"RatchetGroup$Epoch", "<init>", "(II)V"⟩
abbrev b_Ep_init : ByteArray := prog_3_method_1_code
theorem w_Ep_init : Cond.code y_Ep_init b_Ep_init 3 none ∈ q_T := q_T_in 224 (by decide +kernel) rfl
def y_Tr_init : MethodName := ⟨"RatchetGroup$Tree", "<init>", "()V"⟩
abbrev b_Tr_init : ByteArray := prog_11_method_1_code
theorem w_Tr_init : Cond.code y_Tr_init b_Tr_init 1 none ∈ q_T := q_T_in 230 (by decide +kernel) rfl
def y_Sec_fresh : MethodName := ⟨"RatchetGroup$Secrets", "fresh", "()I"⟩
abbrev b_Sec_fresh : ByteArray := prog_10_method_2_code
theorem w_Sec_fresh : Cond.code y_Sec_fresh b_Sec_fresh 1 (some .int) ∈ q_T := q_T_in 308 (by decide +kernel) rfl
def y_Tr_seat : MethodName := ⟨"RatchetGroup$Tree", "seat", "(IIII)V"⟩
abbrev b_Tr_seat : ByteArray := prog_11_method_17_code
theorem w_Tr_seat : Cond.code y_Tr_seat b_Tr_seat 7 none ∈ q_T := q_T_in 312 (by decide +kernel) rfl
def y_Tr_nodeOver : MethodName := ⟨"RatchetGroup$Tree", "nodeOver", "(II)I"⟩
abbrev b_Tr_nodeOver : ByteArray := prog_11_method_2_code
theorem w_Tr_nodeOver : Cond.code y_Tr_nodeOver b_Tr_nodeOver 2 (some .int) ∈ q_T := q_T_in 316 (by decide +kernel) rfl
def y_Tr_give : MethodName := ⟨"RatchetGroup$Tree", "give", "(III)V"⟩
abbrev b_Tr_give : ByteArray := prog_11_method_8_code
theorem w_Tr_give : Cond.code y_Tr_give b_Tr_give 4 none ∈ q_T := q_T_in 320 (by decide +kernel) rfl
def y_Tr_isBlank : MethodName := ⟨"RatchetGroup$Tree", "isBlank", "(I)Z"⟩
abbrev b_Tr_isBlank : ByteArray := prog_11_method_7_code
theorem w_Tr_isBlank : Cond.code y_Tr_isBlank b_Tr_isBlank 2 (some .boolean) ∈ q_T := q_T_in 324 (by decide +kernel) rfl
def y_Row_get : MethodName := ⟨"RatchetGroup$Row", "get", "(I)I"⟩
abbrev b_Row_get : ByteArray := prog_9_method_2_code
theorem w_Row_get : Cond.code y_Row_get b_Row_get 2 (some .int) ∈ q_T := q_T_in 328 (by decide +kernel) rfl
def y_Mem_enter : MethodName := ⟨"RatchetGroup$Member", "enter", "(LRatchetGroup$Epoch;I)V"⟩
abbrev b_Mem_enter : ByteArray := prog_5_method_5_code
theorem w_Mem_enter : Cond.code y_Mem_enter b_Mem_enter 3 none ∈ q_T := q_T_in 332 (by decide +kernel) rfl
def y_Mem_lead : MethodName := ⟨"RatchetGroup$Member", "lead", "(LRatchetGroup$Epoch;)V"⟩
abbrev b_Mem_lead : ByteArray := prog_5_method_6_code
theorem w_Mem_lead : Cond.code y_Mem_lead b_Mem_lead 2 none ∈ q_T := q_T_in 336 (by decide +kernel) rfl
def y_Mem_dropStaleKeys : MethodName := ⟨"RatchetGroup$Member", "dropStaleKeys", "(LRatchetGroup$Tree;)V"⟩
abbrev b_Mem_dropStaleKeys : ByteArray := prog_5_method_9_code
theorem w_Mem_dropStaleKeys : Cond.code y_Mem_dropStaleKeys b_Mem_dropStaleKeys 3 none ∈ q_T := q_T_in 340 (by decide +kernel) rfl
def y_Mem_holdsKeyIn : MethodName := ⟨"RatchetGroup$Member", "holdsKeyIn", "(LRatchetGroup$Tree;I)Z"⟩
abbrev b_Mem_holdsKeyIn : ByteArray := prog_5_method_3_code
theorem w_Mem_holdsKeyIn : Cond.code y_Mem_holdsKeyIn b_Mem_holdsKeyIn 4 (some .boolean) ∈ q_T := q_T_in 344 (by decide +kernel) rfl
def y_Mem_takeKey : MethodName := ⟨"RatchetGroup$Member", "takeKey", "(LRatchetGroup$Tree;I)V"⟩
abbrev b_Mem_takeKey : ByteArray := prog_5_method_11_code
theorem w_Mem_takeKey : Cond.code y_Mem_takeKey b_Mem_takeKey 3 none ∈ q_T := q_T_in 351 (by decide +kernel) rfl
def y_Mem_takeCountingKeys : MethodName := ⟨"RatchetGroup$Member", "takeCountingKeys", "(LRatchetGroup$Epoch;)V"⟩
abbrev b_Mem_takeCountingKeys : ByteArray := prog_5_method_10_code
theorem w_Mem_takeCountingKeys : Cond.code y_Mem_takeCountingKeys b_Mem_takeCountingKeys 4 none ∈ q_T := q_T_in 355 (by decide +kernel) rfl
def y_RG_isIn : MethodName := ⟨"RatchetGroup", "isIn", "(II)Z"⟩
abbrev b_RG_isIn : ByteArray := prog_1_method_32_code
theorem w_RG_isIn : Cond.code y_RG_isIn b_RG_isIn 2 (some .boolean) ∈ q_T := q_T_in 358 (by decide +kernel) rfl
def y_RG_member : MethodName := ⟨"RatchetGroup", "member", "(II)I"⟩
abbrev b_RG_member : ByteArray := prog_1_method_9_code
theorem w_RG_member : Cond.code y_RG_member b_RG_member 4 (some .int) ∈ q_T := q_T_in 384 (by decide +kernel) rfl
def y_RG_isMember : MethodName := ⟨"RatchetGroup", "isMember", "(I)Z"⟩
abbrev b_RG_isMember : ByteArray := prog_1_method_19_code
theorem w_RG_isMember : Cond.code y_RG_isMember b_RG_isMember 2 (some .boolean) ∈ q_T := q_T_in 388 (by decide +kernel) rfl
def y_AL_size : MethodName := ⟨"java/util/ArrayList", "size", "()I"⟩
abbrev b_AL_size : ByteArray := prog_28_method_8_code
theorem w_AL_size : Cond.code y_AL_size b_AL_size 1 (some .int) ∈ q_T := q_T_in 392 (by decide +kernel) rfl
def y_AL_get : MethodName := ⟨"java/util/ArrayList", "get", "(I)Ljava/lang/Object;"⟩
abbrev b_AL_get : ByteArray := prog_28_method_20_code
theorem w_AL_get : Cond.code y_AL_get b_AL_get 2 (some (.object "java/lang/Object")) ∈ q_T := q_T_in 396 (by decide +kernel) rfl
def y_Objs_checkIndex : MethodName := ⟨"java/util/Objects", "checkIndex", "(II)I"⟩
abbrev b_Objs_checkIndex : ByteArray := prog_32_method_17_code
theorem w_Objs_checkIndex : Cond.code y_Objs_checkIndex b_Objs_checkIndex 2 (some .int) ∈ q_T := q_T_in 399 (by decide +kernel) rfl
def y_Prec_checkIndex : MethodName := ⟨"jdk/internal/util/Preconditions", "checkIndex", "(IILjava/util/function/BiFunction;)I"⟩
abbrev b_Prec_checkIndex : ByteArray := prog_36_method_11_code
theorem w_Prec_checkIndex : Cond.code y_Prec_checkIndex b_Prec_checkIndex 3 (some .int) ∈ q_T := q_T_in 402 (by decide +kernel) rfl
def y_AL_elementData : MethodName := ⟨"java/util/ArrayList", "elementData", "(I)Ljava/lang/Object;"⟩
abbrev b_AL_elementData : ByteArray := prog_28_method_18_code
theorem w_AL_elementData : Cond.code y_AL_elementData b_AL_elementData 2 (some (.object "java/lang/Object")) ∈ q_T := q_T_in 406 (by decide +kernel) rfl
def y_RG_gather : MethodName := ⟨"RatchetGroup", "gather", "(LRatchetGroup$Member;)I"⟩
abbrev b_RG_gather : ByteArray := prog_1_method_31_code
theorem w_RG_gather : Cond.code y_RG_gather b_RG_gather 5 (some .int) ∈ q_T := q_T_in 410 (by decide +kernel) rfl
def y_RG_isEpoch : MethodName := ⟨"RatchetGroup", "isEpoch", "(I)Z"⟩
abbrev b_RG_isEpoch : ByteArray := prog_1_method_20_code
theorem w_RG_isEpoch : Cond.code y_RG_isEpoch b_RG_isEpoch 2 (some .boolean) ∈ q_T := q_T_in 414 (by decide +kernel) rfl
def y_RG_holds : MethodName := ⟨"RatchetGroup", "holds", "(II)Z"⟩
abbrev b_RG_holds : ByteArray := prog_1_method_10_code
theorem w_RG_holds : Cond.code y_RG_holds b_RG_holds 4 (some .boolean) ∈ q_T := q_T_in 421 (by decide +kernel) rfl
def y_RG_has : MethodName := ⟨"RatchetGroup", "has", "(I)Z"⟩
abbrev b_RG_has : ByteArray := prog_1_method_11_code
theorem w_RG_has : Cond.code y_RG_has b_RG_has 2 (some .boolean) ∈ q_T := q_T_in 426 (by decide +kernel) rfl
def y_RG_node : MethodName := ⟨"RatchetGroup", "node", "(III)I"⟩
abbrev b_RG_node : ByteArray := prog_1_method_12_code
theorem w_RG_node : Cond.code y_RG_node b_RG_node 5 (some .int) ∈ q_T := q_T_in 430 (by decide +kernel) rfl
def y_Tr_isThere : MethodName := ⟨"RatchetGroup$Tree", "isThere", "(I)Z"⟩
abbrev b_Tr_isThere : ByteArray := prog_11_method_6_code
theorem w_Tr_isThere : Cond.code y_Tr_isThere b_Tr_isThere 2 (some .boolean) ∈ q_T := q_T_in 434 (by decide +kernel) rfl
def y_Tr_resolution : MethodName := ⟨"RatchetGroup$Tree", "resolution", "(I)I"⟩
abbrev b_Tr_resolution : ByteArray := prog_11_method_18_code
theorem w_Tr_resolution : Cond.code y_Tr_resolution b_Tr_resolution 2 (some .int) ∈ q_T := q_T_in 439 (by decide +kernel) rfl
def y_Tr_heightOf : MethodName := ⟨"RatchetGroup$Tree", "heightOf", "(I)I"⟩
abbrev b_Tr_heightOf : ByteArray := prog_11_method_3_code
theorem w_Tr_heightOf : Cond.code y_Tr_heightOf b_Tr_heightOf 2 (some .int) ∈ q_T := q_T_in 442 (by decide +kernel) rfl
def y_Tr_resolutionFrom : MethodName := ⟨"RatchetGroup$Tree", "resolutionFrom", "(II)I"⟩
abbrev b_Tr_resolutionFrom : ByteArray := prog_11_method_19_code
theorem w_Tr_resolutionFrom : Cond.code y_Tr_resolutionFrom b_Tr_resolutionFrom 5 (some .int) ∈ q_T := q_T_in 447 (by decide +kernel) rfl
def y_Tr_nodesOfLeaves : MethodName := ⟨"RatchetGroup$Tree", "nodesOfLeaves", "(I)I"⟩
abbrev b_Tr_nodesOfLeaves : ByteArray := prog_11_method_4_code
theorem w_Tr_nodesOfLeaves : Cond.code y_Tr_nodesOfLeaves b_Tr_nodesOfLeaves 3 (some .int) ∈ q_T := q_T_in 450 (by decide +kernel) rfl
def y_Int_bitCount : MethodName := ⟨"java/lang/Integer", "bitCount", "(I)I"⟩
abbrev b_Int_bitCount : ByteArray := prog_19_method_49_code
theorem w_Int_bitCount : Cond.code y_Int_bitCount b_Int_bitCount 1 (some .int) ∈ q_T := q_T_in 453 (by decide +kernel) rfl
def y_RG_epoch : MethodName := ⟨"RatchetGroup", "epoch", "(II)I"⟩
abbrev b_RG_epoch : ByteArray := prog_1_method_13_code
theorem w_RG_epoch : Cond.code y_RG_epoch b_RG_epoch 4 (some .int) ∈ q_T := q_T_in 460 (by decide +kernel) rfl
def y_RG_epochs : MethodName := ⟨"RatchetGroup", "epochs", "()I"⟩
abbrev b_RG_epochs : ByteArray := prog_1_method_14_code
theorem w_RG_epochs : Cond.code y_RG_epochs b_RG_epochs 1 (some .int) ∈ q_T := q_T_in 464 (by decide +kernel) rfl
def y_RG_waiting : MethodName := ⟨"RatchetGroup", "waiting", "()I"⟩
abbrev b_RG_waiting : ByteArray := prog_1_method_15_code
theorem w_RG_waiting : Cond.code y_RG_waiting b_RG_waiting 1 (some .int) ∈ q_T := q_T_in 468 (by decide +kernel) rfl
def y_RG_isKnown : MethodName := ⟨"RatchetGroup", "isKnown", "(I)Z"⟩
abbrev b_RG_isKnown : ByteArray := prog_1_method_16_code
theorem w_RG_isKnown : Cond.code y_RG_isKnown b_RG_isKnown 2 (some .boolean) ∈ q_T := q_T_in 472 (by decide +kernel) rfl
def y_Sec_isTold : MethodName := ⟨"RatchetGroup$Secrets", "isTold", "(I)Z"⟩
abbrev b_Sec_isTold : ByteArray := prog_10_method_5_code
theorem w_Sec_isTold : Cond.code y_Sec_isTold b_Sec_isTold 2 (some .boolean) ∈ q_T := q_T_in 476 (by decide +kernel) rfl
def y_RG_isOpen : MethodName := ⟨"RatchetGroup", "isOpen", "(II)Z"⟩
abbrev b_RG_isOpen : ByteArray := prog_1_method_17_code
theorem w_RG_isOpen : Cond.code y_RG_isOpen b_RG_isOpen 3 (some .boolean) ∈ q_T := q_T_in 481 (by decide +kernel) rfl
def y_RG_known : MethodName := ⟨"RatchetGroup", "known", "()I"⟩
abbrev b_RG_known : ByteArray := prog_1_method_18_code
theorem w_RG_known : Cond.code y_RG_known b_RG_known 3 (some .int) ∈ q_T := q_T_in 485 (by decide +kernel) rfl
def y_Law_offer : MethodName := ⟨"RatchetGroupLaw", "offer", "(LRatchetGroup;I[J)I"⟩
abbrev b_Law_offer : ByteArray := method_3_code
theorem w_Law_offer : Cond.codeWith y_Law_offer b_Law_offer 4 (some .int) [(0 , 9 , 12 , 13), (0 , 9 , 15 , 15)] ∈ q_T := q_T_in 488 (by decide +kernel) rfl
def y_RG_offer : MethodName := ⟨"RatchetGroup", "offer", "(I)I"⟩
abbrev b_RG_offer : ByteArray := prog_1_method_2_code
theorem w_RG_offer : Cond.code y_RG_offer b_RG_offer 4 (some .int) ∈ q_T := q_T_in 494 (by decide +kernel) rfl
def y_RG_memberNumbered : MethodName := ⟨"RatchetGroup", "memberNumbered", "(I)LRatchetGroup$Member;"⟩
abbrev b_RG_memberNumbered : ByteArray := prog_1_method_21_code
theorem w_RG_memberNumbered : Cond.code y_RG_memberNumbered b_RG_memberNumbered 2 (some (.object "RatchetGroup$Member")) ∈ q_T := q_T_in 498 (by decide +kernel) rfl
def y_KP_init : MethodName := ⟨"RatchetGroup$KeyPackage", "<init>", "(LRatchetGroup$Member;II)V"⟩
abbrev b_KP_init : ByteArray := prog_4_method_1_code
theorem w_KP_init : Cond.code y_KP_init b_KP_init 4 none ∈ q_T := q_T_in 585 (by decide +kernel) rfl
def y_Law_add : MethodName := ⟨"RatchetGroupLaw", "add", "(LRatchetGroup;II[J)I"⟩
abbrev b_Law_add : ByteArray := method_4_code
theorem w_Law_add : Cond.codeWith y_Law_add b_Law_add 5 (some .int) [(0 , 10 , 13 , 13), (0 , 10 , 17 , 15)] ∈ q_T := q_T_in 614 (by decide +kernel) rfl
def y_RG_add : MethodName := ⟨"RatchetGroup", "add", "(II)I"⟩
abbrev b_RG_add : ByteArray := prog_1_method_3_code
theorem w_RG_add : Cond.code y_RG_add b_RG_add 4 (some .int) ∈ q_T := q_T_in 618 (by decide +kernel) rfl
def y_RG_refuseUnlessMayPropose : MethodName := ⟨"RatchetGroup", "refuseUnlessMayPropose", "(LRatchetGroup$Member;)V"⟩
abbrev b_RG_refuseUnlessMayPropose : ByteArray := prog_1_method_22_code
theorem w_RG_refuseUnlessMayPropose : Cond.code y_RG_refuseUnlessMayPropose b_RG_refuseUnlessMayPropose 2 none ∈ q_T := q_T_in 623 (by decide +kernel) rfl
def y_Ad_init : MethodName := ⟨"RatchetGroup$Addition", "<init>", "(LRatchetGroup$KeyPackage;)V"⟩
abbrev b_Ad_init : ByteArray := prog_2_method_1_code
theorem w_Ad_init : Cond.code y_Ad_init b_Ad_init 2 none ∈ q_T := q_T_in 630 (by decide +kernel) rfl
def y_Law_remove : MethodName := ⟨"RatchetGroupLaw", "remove", "(LRatchetGroup;II[J)I"⟩
abbrev b_Law_remove : ByteArray := method_5_code
theorem w_Law_remove : Cond.codeWith y_Law_remove b_Law_remove 5 (some .int) [(0 , 10 , 13 , 13), (0 , 10 , 17 , 15)] ∈ q_T := q_T_in 639 (by decide +kernel) rfl
def y_RG_remove : MethodName := ⟨"RatchetGroup", "remove", "(II)I"⟩
abbrev b_RG_remove : ByteArray := prog_1_method_4_code
theorem w_RG_remove : Cond.code y_RG_remove b_RG_remove 4 (some .int) ∈ q_T := q_T_in 643 (by decide +kernel) rfl
def y_Re_init : MethodName := ⟨"RatchetGroup$Removal", "<init>", "(I)V"⟩
abbrev b_Re_init : ByteArray := prog_7_method_1_code
theorem w_Re_init : Cond.code y_Re_init b_Re_init 2 none ∈ q_T := q_T_in 649 (by decide +kernel) rfl
def y_Law_update : MethodName := ⟨"RatchetGroupLaw", "update", "(LRatchetGroup;I[J)I"⟩
abbrev b_Law_update : ByteArray := method_6_code
theorem w_Law_update : Cond.codeWith y_Law_update b_Law_update 4 (some .int) [(0 , 9 , 12 , 13), (0 , 9 , 15 , 15)] ∈ q_T := q_T_in 658 (by decide +kernel) rfl
def y_RG_update : MethodName := ⟨"RatchetGroup", "update", "(I)I"⟩
abbrev b_RG_update : ByteArray := prog_1_method_5_code
theorem w_RG_update : Cond.code y_RG_update b_RG_update 4 (some .int) ∈ q_T := q_T_in 662 (by decide +kernel) rfl
def y_Mem_keepUpdate : MethodName := ⟨"RatchetGroup$Member", "keepUpdate", "(I)V"⟩
abbrev b_Mem_keepUpdate : ByteArray := prog_5_method_2_code
theorem w_Mem_keepUpdate : Cond.code y_Mem_keepUpdate b_Mem_keepUpdate 2 none ∈ q_T := q_T_in 666 (by decide +kernel) rfl
def y_Rn_init : MethodName := ⟨"RatchetGroup$Renewal", "<init>", "(II)V"⟩
abbrev b_Rn_init : ByteArray := prog_8_method_1_code
theorem w_Rn_init : Cond.code y_Rn_init b_Rn_init 3 none ∈ q_T := q_T_in 671 (by decide +kernel) rfl
def y_Law_commit : MethodName := ⟨"RatchetGroupLaw", "commit", "(LRatchetGroup;IZ[J)I"⟩
abbrev b_Law_commit : ByteArray := method_7_code
theorem w_Law_commit : Cond.codeWith y_Law_commit b_Law_commit 5 (some .int) [(0 , 10 , 13 , 13), (0 , 10 , 17 , 15)] ∈ q_T := q_T_in 685 (by decide +kernel) rfl
def y_RG_commit : MethodName := ⟨"RatchetGroup", "commit", "(IZ)I"⟩
abbrev b_RG_commit : ByteArray := prog_1_method_6_code
theorem w_RG_commit : Cond.code y_RG_commit b_RG_commit 7 (some .int) ∈ q_T := q_T_in 689 (by decide +kernel) rfl
def y_Tr_copy : MethodName := ⟨"RatchetGroup$Tree", "copy", "(LRatchetGroup$Tree;)V"⟩
abbrev b_Tr_copy : ByteArray := prog_11_method_5_code
theorem w_Tr_copy : Cond.code y_Tr_copy b_Tr_copy 2 none ∈ q_T := q_T_in 694 (by decide +kernel) rfl
def y_Row_copy : MethodName := ⟨"RatchetGroup$Row", "copy", "(LRatchetGroup$Row;)V"⟩
abbrev b_Row_copy : ByteArray := prog_9_method_5_code
theorem w_Row_copy : Cond.code y_Row_copy b_Row_copy 3 none ∈ q_T := q_T_in 698 (by decide +kernel) rfl
def y_RG_applyRemovals : MethodName := ⟨"RatchetGroup", "applyRemovals", "(LRatchetGroup$Epoch;)V"⟩
abbrev b_RG_applyRemovals : ByteArray := prog_1_method_23_code
theorem w_RG_applyRemovals : Cond.code y_RG_applyRemovals b_RG_applyRemovals 5 none ∈ q_T := q_T_in 703 (by decide +kernel) rfl
def y_RG_removeLeaf : MethodName := ⟨"RatchetGroup", "removeLeaf", "(LRatchetGroup$Epoch;I)V"⟩
abbrev b_RG_removeLeaf : ByteArray := prog_1_method_24_code
theorem w_RG_removeLeaf : Cond.code y_RG_removeLeaf b_RG_removeLeaf 5 none ∈ q_T := q_T_in 707 (by decide +kernel) rfl
def y_Tr_vacate : MethodName := ⟨"RatchetGroup$Tree", "vacate", "(I)V"⟩
abbrev b_Tr_vacate : ByteArray := prog_11_method_10_code
theorem w_Tr_vacate : Cond.code y_Tr_vacate b_Tr_vacate 2 none ∈ q_T := q_T_in 712 (by decide +kernel) rfl
def y_Tr_blankWithPath : MethodName := ⟨"RatchetGroup$Tree", "blankWithPath", "(I)V"⟩
abbrev b_Tr_blankWithPath : ByteArray := prog_11_method_12_code
theorem w_Tr_blankWithPath : Cond.code y_Tr_blankWithPath b_Tr_blankWithPath 3 none ∈ q_T := q_T_in 716 (by decide +kernel) rfl
def y_Mem_leave : MethodName := ⟨"RatchetGroup$Member", "leave", "()V"⟩
abbrev b_Mem_leave : ByteArray := prog_5_method_4_code
theorem w_Mem_leave : Cond.code y_Mem_leave b_Mem_leave 1 none ∈ q_T := q_T_in 720 (by decide +kernel) rfl
def y_Row_fill : MethodName := ⟨"RatchetGroup$Row", "fill", "(I)V"⟩
abbrev b_Row_fill : ByteArray := prog_9_method_4_code
theorem w_Row_fill : Cond.code y_Row_fill b_Row_fill 2 none ∈ q_T := q_T_in 724 (by decide +kernel) rfl
def y_Tr_shrink : MethodName := ⟨"RatchetGroup$Tree", "shrink", "()V"⟩
abbrev b_Tr_shrink : ByteArray := prog_11_method_13_code
theorem w_Tr_shrink : Cond.code y_Tr_shrink b_Tr_shrink 1 none ∈ q_T := q_T_in 728 (by decide +kernel) rfl
def y_Tr_isRightHalfBlank : MethodName := ⟨"RatchetGroup$Tree", "isRightHalfBlank", "()Z"⟩
abbrev b_Tr_isRightHalfBlank : ByteArray := prog_11_method_14_code
theorem w_Tr_isRightHalfBlank : Cond.code y_Tr_isRightHalfBlank b_Tr_isRightHalfBlank 2 (some .boolean) ∈ q_T := q_T_in 732 (by decide +kernel) rfl
def y_Tr_blank : MethodName := ⟨"RatchetGroup$Tree", "blank", "(I)V"⟩
abbrev b_Tr_blank : ByteArray := prog_11_method_9_code
theorem w_Tr_blank : Cond.code y_Tr_blank b_Tr_blank 2 none ∈ q_T := q_T_in 736 (by decide +kernel) rfl
def y_RG_applyRenewals : MethodName := ⟨"RatchetGroup", "applyRenewals", "(LRatchetGroup$Epoch;)V"⟩
abbrev b_RG_applyRenewals : ByteArray := prog_1_method_25_code
theorem w_RG_applyRenewals : Cond.code y_RG_applyRenewals b_RG_applyRenewals 5 none ∈ q_T := q_T_in 740 (by decide +kernel) rfl
def y_Ep_lets : MethodName := ⟨"RatchetGroup$Epoch", "lets", "(LRatchetGroup$Renewal;)Z"⟩
abbrev b_Ep_lets : ByteArray := prog_3_method_2_code
theorem w_Ep_lets : Cond.code y_Ep_lets b_Ep_lets 2 (some .boolean) ∈ q_T := q_T_in 744 (by decide +kernel) rfl
def y_Tr_renew : MethodName := ⟨"RatchetGroup$Tree", "renew", "(III)V"⟩
abbrev b_Tr_renew : ByteArray := prog_11_method_11_code
theorem w_Tr_renew : Cond.code y_Tr_renew b_Tr_renew 4 none ∈ q_T := q_T_in 749 (by decide +kernel) rfl
def y_RG_applyAdditions : MethodName := ⟨"RatchetGroup", "applyAdditions", "(LRatchetGroup$Epoch;)V"⟩
abbrev b_RG_applyAdditions : ByteArray := prog_1_method_26_code
theorem w_RG_applyAdditions : Cond.code y_RG_applyAdditions b_RG_applyAdditions 5 none ∈ q_T := q_T_in 753 (by decide +kernel) rfl
def y_RG_addLeaf : MethodName := ⟨"RatchetGroup", "addLeaf", "(LRatchetGroup$Epoch;LRatchetGroup$KeyPackage;)V"⟩
abbrev b_RG_addLeaf : ByteArray := prog_1_method_27_code
theorem w_RG_addLeaf : Cond.code y_RG_addLeaf b_RG_addLeaf 5 none ∈ q_T := q_T_in 757 (by decide +kernel) rfl
def y_KP_isUsed : MethodName := ⟨"RatchetGroup$KeyPackage", "isUsed", "()Z"⟩
abbrev b_KP_isUsed : ByteArray := prog_4_method_2_code
theorem w_KP_isUsed : Cond.code y_KP_isUsed b_KP_isUsed 1 (some .boolean) ∈ q_T := q_T_in 761 (by decide +kernel) rfl
def y_Tr_seats : MethodName := ⟨"RatchetGroup$Tree", "seats", "(I)Z"⟩
abbrev b_Tr_seats : ByteArray := prog_11_method_15_code
theorem w_Tr_seats : Cond.code y_Tr_seats b_Tr_seats 3 (some .boolean) ∈ q_T := q_T_in 765 (by decide +kernel) rfl
def y_Tr_lowestFreeLeaf : MethodName := ⟨"RatchetGroup$Tree", "lowestFreeLeaf", "()I"⟩
abbrev b_Tr_lowestFreeLeaf : ByteArray := prog_11_method_16_code
theorem w_Tr_lowestFreeLeaf : Cond.code y_Tr_lowestFreeLeaf b_Tr_lowestFreeLeaf 2 (some .int) ∈ q_T := q_T_in 769 (by decide +kernel) rfl
def y_Ep_needsPath : MethodName := ⟨"RatchetGroup$Epoch", "needsPath", "(Z)Z"⟩
abbrev b_Ep_needsPath : ByteArray := prog_3_method_3_code
theorem w_Ep_needsPath : Cond.code y_Ep_needsPath b_Ep_needsPath 2 (some .boolean) ∈ q_T := q_T_in 773 (by decide +kernel) rfl
def y_Ep_layPath : MethodName := ⟨"RatchetGroup$Epoch", "layPath", "(LRatchetGroup$Secrets;)I"⟩
abbrev b_Ep_layPath : ByteArray := prog_3_method_4_code
theorem w_Ep_layPath : Cond.code y_Ep_layPath b_Ep_layPath 5 (some .int) ∈ q_T := q_T_in 777 (by decide +kernel) rfl
def y_Ep_nodeBesidePath : MethodName := ⟨"RatchetGroup$Epoch", "nodeBesidePath", "(I)I"⟩
abbrev b_Ep_nodeBesidePath : ByteArray := prog_3_method_8_code
theorem w_Ep_nodeBesidePath : Cond.code y_Ep_nodeBesidePath b_Ep_nodeBesidePath 3 (some .int) ∈ q_T := q_T_in 784 (by decide +kernel) rfl
def y_Sec_derivedFrom : MethodName := ⟨"RatchetGroup$Secrets", "derivedFrom", "(I)I"⟩
abbrev b_Sec_derivedFrom : ByteArray := prog_10_method_3_code
theorem w_Sec_derivedFrom : Cond.code y_Sec_derivedFrom b_Sec_derivedFrom 3 (some .int) ∈ q_T := q_T_in 790 (by decide +kernel) rfl
def y_Sec_openWay : MethodName := ⟨"RatchetGroup$Secrets", "openWay", "(III)V"⟩
abbrev b_Sec_openWay : ByteArray := prog_10_method_8_code
theorem w_Sec_openWay : Cond.code y_Sec_openWay b_Sec_openWay 4 none ∈ q_T := q_T_in 795 (by decide +kernel) rfl
def y_Sec_tell : MethodName := ⟨"RatchetGroup$Secrets", "tell", "(I)V"⟩
abbrev b_Sec_tell : ByteArray := prog_10_method_6_code
theorem w_Sec_tell : Cond.code y_Sec_tell b_Sec_tell 2 none ∈ q_T := q_T_in 800 (by decide +kernel) rfl
def y_Ep_encryptPathSecret : MethodName := ⟨"RatchetGroup$Epoch", "encryptPathSecret", "(LRatchetGroup$Secrets;I)V"⟩
abbrev b_Ep_encryptPathSecret : ByteArray := prog_3_method_5_code
theorem w_Ep_encryptPathSecret : Cond.code y_Ep_encryptPathSecret b_Ep_encryptPathSecret 5 none ∈ q_T := q_T_in 805 (by decide +kernel) rfl
def y_Ep_readersOf : MethodName := ⟨"RatchetGroup$Epoch", "readersOf", "(I)I"⟩
abbrev b_Ep_readersOf : ByteArray := prog_3_method_7_code
theorem w_Ep_readersOf : Cond.code y_Ep_readersOf b_Ep_readersOf 2 (some .int) ∈ q_T := q_T_in 809 (by decide +kernel) rfl
def y_Ep_encrypt : MethodName := ⟨"RatchetGroup$Epoch", "encrypt", "(LRatchetGroup$Secrets;II)V"⟩
abbrev b_Ep_encrypt : ByteArray := prog_3_method_6_code
theorem w_Ep_encrypt : Cond.code y_Ep_encrypt b_Ep_encrypt 4 none ∈ q_T := q_T_in 815 (by decide +kernel) rfl
def y_Sec_joinerOf : MethodName := ⟨"RatchetGroup$Secrets", "joinerOf", "(II)I"⟩
abbrev b_Sec_joinerOf : ByteArray := prog_10_method_4_code
theorem w_Sec_joinerOf : Cond.code y_Sec_joinerOf b_Sec_joinerOf 4 (some .int) ∈ q_T := q_T_in 821 (by decide +kernel) rfl
def y_RG_welcomeAdded : MethodName := ⟨"RatchetGroup", "welcomeAdded", "(LRatchetGroup$Epoch;I)V"⟩
abbrev b_RG_welcomeAdded : ByteArray := prog_1_method_28_code
theorem w_RG_welcomeAdded : Cond.code y_RG_welcomeAdded b_RG_welcomeAdded 6 none ∈ q_T := q_T_in 825 (by decide +kernel) rfl
def y_Ep_lowestCountingOver : MethodName := ⟨"RatchetGroup$Epoch", "lowestCountingOver", "(I)I"⟩
abbrev b_Ep_lowestCountingOver : ByteArray := prog_3_method_9_code
theorem w_Ep_lowestCountingOver : Cond.code y_Ep_lowestCountingOver b_Ep_lowestCountingOver 3 (some .int) ∈ q_T := q_T_in 830 (by decide +kernel) rfl
def y_AL_clear : MethodName := ⟨"java/util/ArrayList", "clear", "()V"⟩
abbrev b_AL_clear : ByteArray := prog_28_method_40_code
theorem w_AL_clear : Cond.code y_AL_clear b_AL_clear 4 none ∈ q_T := q_T_in 834 (by decide +kernel) rfl
def y_Sec_settle : MethodName := ⟨"RatchetGroup$Secrets", "settle", "()V"⟩
abbrev b_Sec_settle : ByteArray := prog_10_method_7_code
theorem w_Sec_settle : Cond.code y_Sec_settle b_Sec_settle 1 none ∈ q_T := q_T_in 839 (by decide +kernel) rfl
def y_Sec_followWays : MethodName := ⟨"RatchetGroup$Secrets", "followWays", "(I)V"⟩
abbrev b_Sec_followWays : ByteArray := prog_10_method_9_code
theorem w_Sec_followWays : Cond.code y_Sec_followWays b_Sec_followWays 4 none ∈ q_T := q_T_in 843 (by decide +kernel) rfl
def y_Law_come : MethodName := ⟨"RatchetGroupLaw", "come", "(LRatchetGroup;I[J)I"⟩
abbrev b_Law_come : ByteArray := method_8_code
theorem w_Law_come : Cond.codeWith y_Law_come b_Law_come 4 (some .int) [(0 , 9 , 12 , 13), (0 , 9 , 15 , 15)] ∈ q_T := q_T_in 846 (by decide +kernel) rfl
def y_RG_come : MethodName := ⟨"RatchetGroup", "come", "(I)I"⟩
abbrev b_RG_come : ByteArray := prog_1_method_7_code
theorem w_RG_come : Cond.code y_RG_come b_RG_come 3 (some .int) ∈ q_T := q_T_in 850 (by decide +kernel) rfl
def y_RG_joinEarliest : MethodName := ⟨"RatchetGroup", "joinEarliest", "(LRatchetGroup$Member;)V"⟩
abbrev b_RG_joinEarliest : ByteArray := prog_1_method_29_code
theorem w_RG_joinEarliest : Cond.code y_RG_joinEarliest b_RG_joinEarliest 6 none ∈ q_T := q_T_in 854 (by decide +kernel) rfl
def y_RG_moveOn : MethodName := ⟨"RatchetGroup", "moveOn", "(LRatchetGroup$Member;)V"⟩
abbrev b_RG_moveOn : ByteArray := prog_1_method_30_code
theorem w_RG_moveOn : Cond.code y_RG_moveOn b_RG_moveOn 4 none ∈ q_T := q_T_in 859 (by decide +kernel) rfl
def y_Mem_follow : MethodName := ⟨"RatchetGroup$Member", "follow", "(LRatchetGroup$Epoch;)V"⟩
abbrev b_Mem_follow : ByteArray := prog_5_method_7_code
theorem w_Mem_follow : Cond.code y_Mem_follow b_Mem_follow 3 none ∈ q_T := q_T_in 865 (by decide +kernel) rfl
def y_Mem_holdsOneOf : MethodName := ⟨"RatchetGroup$Member", "holdsOneOf", "(ILRatchetGroup$Tree;)Z"⟩
abbrev b_Mem_holdsOneOf : ByteArray := prog_5_method_8_code
theorem w_Mem_holdsOneOf : Cond.code y_Mem_holdsOneOf b_Mem_holdsOneOf 4 (some .boolean) ∈ q_T := q_T_in 871 (by decide +kernel) rfl
def y_Law_compromise : MethodName := ⟨"RatchetGroupLaw", "compromise", "(LRatchetGroup;I[J)I"⟩
abbrev b_Law_compromise : ByteArray := method_9_code
theorem w_Law_compromise : Cond.codeWith y_Law_compromise b_Law_compromise 4 (some .int) [(0 , 9 , 12 , 13)] ∈ q_T := q_T_in 874 (by decide +kernel) rfl
def y_RG_compromise : MethodName := ⟨"RatchetGroup", "compromise", "(I)I"⟩
abbrev b_RG_compromise : ByteArray := prog_1_method_8_code
theorem w_RG_compromise : Cond.code y_RG_compromise b_RG_compromise 4 (some .int) ∈ q_T := q_T_in 878 (by decide +kernel) rfl
def y_Mo_init : MethodName := ⟨"RatchetGroupModel", "<init>", "()V"⟩
abbrev b_Mo_init : ByteArray := prog_13_method_1_code
theorem w_Mo_init : Cond.code y_Mo_init b_Mo_init 2 none ∈ q_T := q_T_in 884 (by decide +kernel) rfl
def y_Mo_make : MethodName := ⟨"RatchetGroupModel", "make", "(III)I"⟩
abbrev b_Mo_make : ByteArray := prog_13_method_4_code
theorem w_Mo_make : Cond.code y_Mo_make b_Mo_make 4 (some .int) ∈ q_T := q_T_in 889 (by decide +kernel) rfl
def y_Mo_leave : MethodName := ⟨"RatchetGroupModel", "leave", "(I)V"⟩
abbrev b_Mo_leave : ByteArray := prog_13_method_18_code
theorem w_Mo_leave : Cond.code y_Mo_leave b_Mo_leave 3 none ∈ q_T := q_T_in 893 (by decide +kernel) rfl
def y_Mo_thrown : MethodName := ⟨"RatchetGroupModel", "thrown", "()I"⟩
abbrev b_Mo_thrown : ByteArray := prog_13_method_2_code
theorem w_Mo_thrown : Cond.code y_Mo_thrown b_Mo_thrown 1 (some .int) ∈ q_T := q_T_in 1055 (by decide +kernel) rfl
def y_Mo_offer : MethodName := ⟨"RatchetGroupModel", "offer", "(I)I"⟩
abbrev b_Mo_offer : ByteArray := prog_13_method_40_code
theorem w_Mo_offer : Cond.code y_Mo_offer b_Mo_offer 2 (some .int) ∈ q_T := q_T_in 1059 (by decide +kernel) rfl
def y_Mo_in : MethodName := ⟨"RatchetGroupModel", "in", "(II)Z"⟩
abbrev b_Mo_in : ByteArray := prog_13_method_3_code
theorem w_Mo_in : Cond.code y_Mo_in b_Mo_in 2 (some .boolean) ∈ q_T := q_T_in 1062 (by decide +kernel) rfl
def y_Mo_add : MethodName := ⟨"RatchetGroupModel", "add", "(II)I"⟩
abbrev b_Mo_add : ByteArray := prog_13_method_41_code
theorem w_Mo_add : Cond.code y_Mo_add b_Mo_add 3 (some .int) ∈ q_T := q_T_in 1066 (by decide +kernel) rfl
def y_Mo_isAsked : MethodName := ⟨"RatchetGroupModel", "isAsked", "(IZ)Z"⟩
abbrev b_Mo_isAsked : ByteArray := prog_13_method_38_code
theorem w_Mo_isAsked : Cond.code y_Mo_isAsked b_Mo_isAsked 3 (some .boolean) ∈ q_T := q_T_in 1070 (by decide +kernel) rfl
def y_Mo_isLatest : MethodName := ⟨"RatchetGroupModel", "isLatest", "(I)Z"⟩
abbrev b_Mo_isLatest : ByteArray := prog_13_method_22_code
theorem w_Mo_isLatest : Cond.code y_Mo_isLatest b_Mo_isLatest 2 (some .boolean) ∈ q_T := q_T_in 1074 (by decide +kernel) rfl
def y_Mo_propose : MethodName := ⟨"RatchetGroupModel", "propose", "(III)I"⟩
abbrev b_Mo_propose : ByteArray := prog_13_method_39_code
theorem w_Mo_propose : Cond.code y_Mo_propose b_Mo_propose 4 (some .int) ∈ q_T := q_T_in 1078 (by decide +kernel) rfl
def y_Mo_remove : MethodName := ⟨"RatchetGroupModel", "remove", "(II)I"⟩
abbrev b_Mo_remove : ByteArray := prog_13_method_42_code
theorem w_Mo_remove : Cond.code y_Mo_remove b_Mo_remove 3 (some .int) ∈ q_T := q_T_in 1082 (by decide +kernel) rfl
def y_Mo_update : MethodName := ⟨"RatchetGroupModel", "update", "(I)I"⟩
abbrev b_Mo_update : ByteArray := prog_13_method_43_code
theorem w_Mo_update : Cond.code y_Mo_update b_Mo_update 3 (some .int) ∈ q_T := q_T_in 1086 (by decide +kernel) rfl
def y_Mo_commit : MethodName := ⟨"RatchetGroupModel", "commit", "(IZ)I"⟩
abbrev b_Mo_commit : ByteArray := prog_13_method_44_code
theorem w_Mo_commit : Cond.code y_Mo_commit b_Mo_commit 3 (some .int) ∈ q_T := q_T_in 1090 (by decide +kernel) rfl
def y_Mo_change : MethodName := ⟨"RatchetGroupModel", "change", "(IZ)V"⟩
abbrev b_Mo_change : ByteArray := prog_13_method_37_code
theorem w_Mo_change : Cond.code y_Mo_change b_Mo_change 8 none ∈ q_T := q_T_in 1094 (by decide +kernel) rfl
def y_Mo_copyTree : MethodName := ⟨"RatchetGroupModel", "copyTree", "(II)V"⟩
abbrev b_Mo_copyTree : ByteArray := prog_13_method_23_code
theorem w_Mo_copyTree : Cond.code y_Mo_copyTree b_Mo_copyTree 4 none ∈ q_T := q_T_in 1098 (by decide +kernel) rfl
def y_Mo_width : MethodName := ⟨"RatchetGroupModel", "width", "(I)I"⟩
abbrev b_Mo_width : ByteArray := prog_13_method_11_code
theorem w_Mo_width : Cond.code y_Mo_width b_Mo_width 2 (some .int) ∈ q_T := q_T_in 1102 (by decide +kernel) rfl
def y_Mo_findRemoves : MethodName := ⟨"RatchetGroupModel", "findRemoves", "(II)V"⟩
abbrev b_Mo_findRemoves : ByteArray := prog_13_method_24_code
theorem w_Mo_findRemoves : Cond.code y_Mo_findRemoves b_Mo_findRemoves 5 none ∈ q_T := q_T_in 1106 (by decide +kernel) rfl
def y_Mo_findUpdates : MethodName := ⟨"RatchetGroupModel", "findUpdates", "(II)V"⟩
abbrev b_Mo_findUpdates : ByteArray := prog_13_method_25_code
theorem w_Mo_findUpdates : Cond.code y_Mo_findUpdates b_Mo_findUpdates 5 none ∈ q_T := q_T_in 1110 (by decide +kernel) rfl
def y_Mo_doRemoves : MethodName := ⟨"RatchetGroupModel", "doRemoves", "(I)V"⟩
abbrev b_Mo_doRemoves : ByteArray := prog_13_method_26_code
theorem w_Mo_doRemoves : Cond.code y_Mo_doRemoves b_Mo_doRemoves 3 none ∈ q_T := q_T_in 1114 (by decide +kernel) rfl
def y_Mo_blank : MethodName := ⟨"RatchetGroupModel", "blank", "(II)V"⟩
abbrev b_Mo_blank : ByteArray := prog_13_method_12_code
theorem w_Mo_blank : Cond.code y_Mo_blank b_Mo_blank 3 none ∈ q_T := q_T_in 1118 (by decide +kernel) rfl
def y_Mo_blankPath : MethodName := ⟨"RatchetGroupModel", "blankPath", "(II)V"⟩
abbrev b_Mo_blankPath : ByteArray := prog_13_method_13_code
theorem w_Mo_blankPath : Cond.code y_Mo_blankPath b_Mo_blankPath 4 none ∈ q_T := q_T_in 1122 (by decide +kernel) rfl
def y_Mo_above : MethodName := ⟨"RatchetGroupModel", "above", "(II)I"⟩
abbrev b_Mo_above : ByteArray := prog_13_method_9_code
theorem w_Mo_above : Cond.code y_Mo_above b_Mo_above 2 (some .int) ∈ q_T := q_T_in 1125 (by decide +kernel) rfl
def y_Mo_isRightBlank : MethodName := ⟨"RatchetGroupModel", "isRightBlank", "(I)Z"⟩
abbrev b_Mo_isRightBlank : ByteArray := prog_13_method_16_code
theorem w_Mo_isRightBlank : Cond.code y_Mo_isRightBlank b_Mo_isRightBlank 4 (some .boolean) ∈ q_T := q_T_in 1129 (by decide +kernel) rfl
def y_Mo_doUpdates : MethodName := ⟨"RatchetGroupModel", "doUpdates", "(I)V"⟩
abbrev b_Mo_doUpdates : ByteArray := prog_13_method_27_code
theorem w_Mo_doUpdates : Cond.code y_Mo_doUpdates b_Mo_doUpdates 3 none ∈ q_T := q_T_in 1133 (by decide +kernel) rfl
def y_Mo_set : MethodName := ⟨"RatchetGroupModel", "set", "(III)V"⟩
abbrev b_Mo_set : ByteArray := prog_13_method_14_code
theorem w_Mo_set : Cond.code y_Mo_set b_Mo_set 4 none ∈ q_T := q_T_in 1137 (by decide +kernel) rfl
def y_Mo_doAdds : MethodName := ⟨"RatchetGroupModel", "doAdds", "(I)V"⟩
abbrev b_Mo_doAdds : ByteArray := prog_13_method_30_code
theorem w_Mo_doAdds : Cond.code y_Mo_doAdds b_Mo_doAdds 6 none ∈ q_T := q_T_in 1141 (by decide +kernel) rfl
def y_Mo_mayAdd : MethodName := ⟨"RatchetGroupModel", "mayAdd", "(II)Z"⟩
abbrev b_Mo_mayAdd : ByteArray := prog_13_method_28_code
theorem w_Mo_mayAdd : Cond.code y_Mo_mayAdd b_Mo_mayAdd 4 (some .boolean) ∈ q_T := q_T_in 1145 (by decide +kernel) rfl
def y_Mo_leafOf : MethodName := ⟨"RatchetGroupModel", "leafOf", "(II)I"⟩
abbrev b_Mo_leafOf : ByteArray := prog_13_method_17_code
theorem w_Mo_leafOf : Cond.code y_Mo_leafOf b_Mo_leafOf 4 (some .int) ∈ q_T := q_T_in 1149 (by decide +kernel) rfl
def y_Mo_freeLeaf : MethodName := ⟨"RatchetGroupModel", "freeLeaf", "(I)I"⟩
abbrev b_Mo_freeLeaf : ByteArray := prog_13_method_29_code
theorem w_Mo_freeLeaf : Cond.code y_Mo_freeLeaf b_Mo_freeLeaf 3 (some .int) ∈ q_T := q_T_in 1153 (by decide +kernel) rfl
def y_Mo_renew : MethodName := ⟨"RatchetGroupModel", "renew", "(II)I"⟩
abbrev b_Mo_renew : ByteArray := prog_13_method_31_code
theorem w_Mo_renew : Cond.code y_Mo_renew b_Mo_renew 8 (some .int) ∈ q_T := q_T_in 1157 (by decide +kernel) rfl
def y_Mo_resolve : MethodName := ⟨"RatchetGroupModel", "resolve", "(II)V"⟩
abbrev b_Mo_resolve : ByteArray := prog_13_method_15_code
theorem w_Mo_resolve : Cond.code y_Mo_resolve b_Mo_resolve 7 none ∈ q_T := q_T_in 1161 (by decide +kernel) rfl
def y_Mo_height : MethodName := ⟨"RatchetGroupModel", "height", "(I)I"⟩
abbrev b_Mo_height : ByteArray := prog_13_method_10_code
theorem w_Mo_height : Cond.code y_Mo_height b_Mo_height 2 (some .int) ∈ q_T := q_T_in 1164 (by decide +kernel) rfl
def y_Mo_of : MethodName := ⟨"RatchetGroupModel", "of", "(III)I"⟩
abbrev b_Mo_of : ByteArray := prog_13_method_5_code
theorem w_Mo_of : Cond.code y_Mo_of b_Mo_of 5 (some .int) ∈ q_T := q_T_in 1168 (by decide +kernel) rfl
def y_Mo_encrypt : MethodName := ⟨"RatchetGroupModel", "encrypt", "(III)V"⟩
abbrev b_Mo_encrypt : ByteArray := prog_13_method_6_code
theorem w_Mo_encrypt : Cond.code y_Mo_encrypt b_Mo_encrypt 4 none ∈ q_T := q_T_in 1172 (by decide +kernel) rfl
def y_Mo_welcome : MethodName := ⟨"RatchetGroupModel", "welcome", "(II)V"⟩
abbrev b_Mo_welcome : ByteArray := prog_13_method_33_code
theorem w_Mo_welcome : Cond.code y_Mo_welcome b_Mo_welcome 5 none ∈ q_T := q_T_in 1176 (by decide +kernel) rfl
def y_Mo_meeting : MethodName := ⟨"RatchetGroupModel", "meeting", "(II)I"⟩
abbrev b_Mo_meeting : ByteArray := prog_13_method_32_code
theorem w_Mo_meeting : Cond.code y_Mo_meeting b_Mo_meeting 4 (some .int) ∈ q_T := q_T_in 1180 (by decide +kernel) rfl
def y_Mo_advance : MethodName := ⟨"RatchetGroupModel", "advance", "(IIZ)V"⟩
abbrev b_Mo_advance : ByteArray := prog_13_method_36_code
theorem w_Mo_advance : Cond.code y_Mo_advance b_Mo_advance 4 none ∈ q_T := q_T_in 1184 (by decide +kernel) rfl
def y_Mo_keep : MethodName := ⟨"RatchetGroupModel", "keep", "(II)V"⟩
abbrev b_Mo_keep : ByteArray := prog_13_method_34_code
theorem w_Mo_keep : Cond.code y_Mo_keep b_Mo_keep 6 none ∈ q_T := q_T_in 1188 (by decide +kernel) rfl
def y_Mo_tell : MethodName := ⟨"RatchetGroupModel", "tell", "(III)V"⟩
abbrev b_Mo_tell : ByteArray := prog_13_method_35_code
theorem w_Mo_tell : Cond.code y_Mo_tell b_Mo_tell 6 none ∈ q_T := q_T_in 1192 (by decide +kernel) rfl
def y_Mo_come : MethodName := ⟨"RatchetGroupModel", "come", "(I)I"⟩
abbrev b_Mo_come : ByteArray := prog_13_method_48_code
theorem w_Mo_come : Cond.code y_Mo_come b_Mo_come 4 (some .int) ∈ q_T := q_T_in 1196 (by decide +kernel) rfl
def y_Mo_nextPackage : MethodName := ⟨"RatchetGroupModel", "nextPackage", "(I)I"⟩
abbrev b_Mo_nextPackage : ByteArray := prog_13_method_45_code
theorem w_Mo_nextPackage : Cond.code y_Mo_nextPackage b_Mo_nextPackage 4 (some .int) ∈ q_T := q_T_in 1200 (by decide +kernel) rfl
def y_Mo_join : MethodName := ⟨"RatchetGroupModel", "join", "(II)V"⟩
abbrev b_Mo_join : ByteArray := prog_13_method_46_code
theorem w_Mo_join : Cond.code y_Mo_join b_Mo_join 5 none ∈ q_T := q_T_in 1204 (by decide +kernel) rfl
def y_Mo_follow : MethodName := ⟨"RatchetGroupModel", "follow", "(I)V"⟩
abbrev b_Mo_follow : ByteArray := prog_13_method_47_code
theorem w_Mo_follow : Cond.code y_Mo_follow b_Mo_follow 6 none ∈ q_T := q_T_in 1208 (by decide +kernel) rfl
def y_Mo_gather : MethodName := ⟨"RatchetGroupModel", "gather", "(I)V"⟩
abbrev b_Mo_gather : ByteArray := prog_13_method_20_code
theorem w_Mo_gather : Cond.code y_Mo_gather b_Mo_gather 3 none ∈ q_T := q_T_in 1212 (by decide +kernel) rfl
def y_Mo_hold : MethodName := ⟨"RatchetGroupModel", "hold", "(I)V"⟩
abbrev b_Mo_hold : ByteArray := prog_13_method_19_code
theorem w_Mo_hold : Cond.code y_Mo_hold b_Mo_hold 3 none ∈ q_T := q_T_in 1216 (by decide +kernel) rfl
def y_Mo_isHeld : MethodName := ⟨"RatchetGroupModel", "isHeld", "(I)Z"⟩
abbrev b_Mo_isHeld : ByteArray := prog_13_method_21_code
theorem w_Mo_isHeld : Cond.code y_Mo_isHeld b_Mo_isHeld 3 (some .boolean) ∈ q_T := q_T_in 1220 (by decide +kernel) rfl
def y_Mo_compromise : MethodName := ⟨"RatchetGroupModel", "compromise", "(I)I"⟩
abbrev b_Mo_compromise : ByteArray := prog_13_method_49_code
theorem w_Mo_compromise : Cond.code y_Mo_compromise b_Mo_compromise 3 (some .int) ∈ q_T := q_T_in 1224 (by decide +kernel) rfl
def y_Mo_member : MethodName := ⟨"RatchetGroupModel", "member", "(II)I"⟩
abbrev b_Mo_member : ByteArray := prog_13_method_50_code
theorem w_Mo_member : Cond.code y_Mo_member b_Mo_member 3 (some .int) ∈ q_T := q_T_in 1228 (by decide +kernel) rfl
def y_Mo_holds : MethodName := ⟨"RatchetGroupModel", "holds", "(II)Z"⟩
abbrev b_Mo_holds : ByteArray := prog_13_method_51_code
theorem w_Mo_holds : Cond.code y_Mo_holds b_Mo_holds 4 (some .boolean) ∈ q_T := q_T_in 1232 (by decide +kernel) rfl
def y_Mo_has : MethodName := ⟨"RatchetGroupModel", "has", "(I)Z"⟩
abbrev b_Mo_has : ByteArray := prog_13_method_52_code
theorem w_Mo_has : Cond.code y_Mo_has b_Mo_has 2 (some .boolean) ∈ q_T := q_T_in 1236 (by decide +kernel) rfl
def y_Mo_node : MethodName := ⟨"RatchetGroupModel", "node", "(III)I"⟩
abbrev b_Mo_node : ByteArray := prog_13_method_53_code
theorem w_Mo_node : Cond.code y_Mo_node b_Mo_node 5 (some .int) ∈ q_T := q_T_in 1240 (by decide +kernel) rfl
def y_Mo_epoch : MethodName := ⟨"RatchetGroupModel", "epoch", "(II)I"⟩
abbrev b_Mo_epoch : ByteArray := prog_13_method_54_code
theorem w_Mo_epoch : Cond.code y_Mo_epoch b_Mo_epoch 3 (some .int) ∈ q_T := q_T_in 1244 (by decide +kernel) rfl
def y_Mo_epochs : MethodName := ⟨"RatchetGroupModel", "epochs", "()I"⟩
abbrev b_Mo_epochs : ByteArray := prog_13_method_55_code
theorem w_Mo_epochs : Cond.code y_Mo_epochs b_Mo_epochs 1 (some .int) ∈ q_T := q_T_in 1248 (by decide +kernel) rfl
def y_Mo_waiting : MethodName := ⟨"RatchetGroupModel", "waiting", "()I"⟩
abbrev b_Mo_waiting : ByteArray := prog_13_method_56_code
theorem w_Mo_waiting : Cond.code y_Mo_waiting b_Mo_waiting 1 (some .int) ∈ q_T := q_T_in 1252 (by decide +kernel) rfl
def y_Mo_isKnown : MethodName := ⟨"RatchetGroupModel", "isKnown", "(I)Z"⟩
abbrev b_Mo_isKnown : ByteArray := prog_13_method_57_code
theorem w_Mo_isKnown : Cond.code y_Mo_isKnown b_Mo_isKnown 2 (some .boolean) ∈ q_T := q_T_in 1256 (by decide +kernel) rfl
def y_Mo_intrude : MethodName := ⟨"RatchetGroupModel", "intrude", "()V"⟩
abbrev b_Mo_intrude : ByteArray := prog_13_method_8_code
theorem w_Mo_intrude : Cond.code y_Mo_intrude b_Mo_intrude 3 none ∈ q_T := q_T_in 1260 (by decide +kernel) rfl
def y_Mo_follows : MethodName := ⟨"RatchetGroupModel", "follows", "(I)Z"⟩
abbrev b_Mo_follows : ByteArray := prog_13_method_7_code
theorem w_Mo_follows : Cond.code y_Mo_follows b_Mo_follows 2 (some .boolean) ∈ q_T := q_T_in 1264 (by decide +kernel) rfl
def y_Mo_isOpen : MethodName := ⟨"RatchetGroupModel", "isOpen", "(II)Z"⟩
abbrev b_Mo_isOpen : ByteArray := prog_13_method_58_code
theorem w_Mo_isOpen : Cond.code y_Mo_isOpen b_Mo_isOpen 3 (some .boolean) ∈ q_T := q_T_in 1268 (by decide +kernel) rfl
def y_Mo_known : MethodName := ⟨"RatchetGroupModel", "known", "()I"⟩
abbrev b_Mo_known : ByteArray := prog_13_method_59_code
theorem w_Mo_known : Cond.code y_Mo_known b_Mo_known 3 (some .int) ∈ q_T := q_T_in 1272 (by decide +kernel) rfl
end
section
/-! ===== views of the heap: an address has an object (class number, fields) or an array (number of its class, contents) ===== -/
abbrev q_O : Type := (Nat × List Value) ⊕ (Nat × vp_A)
abbrev q_H : Type := Nat → Option q_O
/-- the ghosts of one run of the law: class ids and slots; array classes; where the run's own cells begin; the heap below that; addresses of constants -/
abbrev q_G : Type := va_G × (Nat → ClassId) × Nat × Heap × (Nat → Nat)
abbrev q_dA (g : q_G) : Nat → ClassId := g.2.1
abbrev q_bs (g : q_G) : Nat := g.2.2.1
abbrev q_Hb (g : q_G) : Heap := g.2.2.2.1
abbrev q_ad (g : q_G) : Nat → Nat := g.2.2.2.2
def q_up (h : q_H) (a : Nat) (o : q_O) : q_H := fun b => if b = a then some o else h b
theorem q_up_s (h : q_H) (a : Nat) (o : q_O) : q_up h a o a = some o := if_pos rfl
theorem q_up_n {h : q_H} {a b : Nat} {o : q_O} (e : b ≠ a) : q_up h a o b = h b := if_neg e
theorem q_up_u (h : q_H) (a : Nat) (o o' : q_O) : q_up (q_up h a o) a o' = q_up h a o' := by
  funext b
  unfold q_up
  by_cases e : b = a
  · rw [if_pos e, if_pos e]
  · rw [if_neg e, if_neg e, if_neg e]
theorem q_up_c {h : q_H} {a b : Nat} {o o' : q_O} (e : a ≠ b) : q_up (q_up h a o) b o' = q_up (q_up h b o') a o := by
  funext c
  unfold q_up
  by_cases e1 : c = b
  · rw [if_pos e1, if_neg (fun z => e (z.symm.trans e1)), if_pos e1]
  · rw [if_neg e1]
    by_cases e2 : c = a
    · rw [if_pos e2, if_pos e2]
    · rw [if_neg e2, if_neg e2, if_neg e1]
def q_E (g : q_G) (o : q_O) : va_E := match o with
  | .inl x => .inr x
  | .inr x => .inl (q_dA g x.1, x.2)
def q_HR (g : q_G) (h : q_H) (H : Heap) : Prop := q_bs g ≤ H.size ∧ (∀ q : Nat, q < q_bs g → H[q]? = (q_Hb g)[q]?) ∧ ∀ (a : Nat) (o : q_O), h a = some o → q_bs g ≤ a ∧ va_at g.1 q_cl (a, q_E g o) H
abbrev q_tys (g : q_G) : List (ClassId × FieldType) := [(q_dA g 0, .int), (q_dA g 1, .boolean), (q_dA g 2, .object "java/lang/Object"), (q_dA g 3, .long)]
def q_ncs : List (String × String) := [("RatchetGroup$Addition", "RatchetGroup$Removal"), ("RatchetGroup$Renewal", "RatchetGroup$Removal"), ("RatchetGroup$Addition", "RatchetGroup$Renewal"), ("RatchetGroup$Removal", "RatchetGroup$Renewal"), ("RatchetGroup$Removal", "RatchetGroup$Addition"), ("RatchetGroup$Renewal", "RatchetGroup$Addition"), ("java/lang/IllegalStateException", "java/lang/IndexOutOfBoundsException")]
/-- words that stay true, but not by the kit's own rule -/
def q_isX : Cond → Bool
  | .declares _ => true
  | .castable _ _ => true
  | .methodLinkNest _ _ _ _ => true
  | _ => false
def q_X : List Cond := tables_1.filter q_isX
theorem q_X_in {w : Cond} (i : Nat) (h : tables_1[i]? = some w) (hg : q_isX w = true) : w ∈ q_X := List.mem_filter.mpr ⟨List.mem_of_getElem? h, hg⟩
theorem q_X_on {w : Cond} (h : q_isX w = true) : w.onTables = true := by
  cases w <;> first | rfl | (simp [q_isX] at h)
theorem q_X_warm {w : Cond} {s U : State} (hg : q_isX w = true) (hW : s.WarmedH U.vm) (h : va_Nw w s) : va_Nw w U := by
  cases w <;> first | exact va_Nw.warmD hW h | exact va_Nw.warmC hW h | exact va_Nw.warmM hW h | (simp [q_isX] at hg)
def q_strs : List (Nat × String) := [(263, "no such member"), (91, "there are 60 packages"), (103, "no such package"), (137, "the member is not in the latest epoch"), (265, "20 proposals wait"), (119, "no such leaf"), (139, "there are 60 epochs"), (338, "the member is in no epoch and was not added"), (340, "the member is in the latest epoch")]
/-- what the tables and the constants are: the same in every state of a run -/
def q_K (g : q_G) (U : State) : Prop := va_K g.1 q_cl (q_tys g) U ∧
  va_Z "java/util/ArrayList" "DEFAULTCAPACITY_EMPTY_ELEMENTDATA" "[Ljava/lang/Object;" (.ref (q_ad g 0)) (fun q => q_bs g ≤ q) U (q_Hb g) ∧
  (∃ cell : Cell, (q_Hb g)[q_ad g 0]? = some cell ∧ U.isArrayOf cell (.object "java/lang/Object") ∧ cell.vm ≠ .unknown ∧ cell.slots.size = 0 ∧ cell.cls = q_dA g 2) ∧
  (∀ q ∈ q_ncs, va_Nc q.1 q.2 U) ∧
  va_Zq "java/lang/Throwable" "UNASSIGNED_STACK" "[Ljava/lang/StackTraceElement;" (fun q => q_bs g ≤ q) U (q_Hb g) ∧
  va_Zq "java/lang/Throwable" "SUPPRESSED_SENTINEL" "Ljava/util/List;" (fun q => q_bs g ≤ q) U (q_Hb g) ∧
  va_Mi "[Ljava/lang/Object;" (q_ad g 1) U ∧ (∀ q ∈ q_strs, ∃ a, vk_R "RatchetGroup" q.1 q.2 a U) ∧ (q_Hb g).size = q_bs g ∧ (∀ w ∈ q_X, va_Nw w U) ∧
  (Cond.laysStatic "java/lang/Throwable" "UNASSIGNED_STACK" "[Ljava/lang/StackTraceElement;").before #[] ({ U with heap := q_Hb g } : State) = true ∧
  (Cond.laysStatic "java/lang/Throwable" "SUPPRESSED_SENTINEL" "Ljava/util/List;").before #[] ({ U with heap := q_Hb g } : State) = true ∧
  va_AO "java/lang/Object" U
theorem q_K.cl {g : q_G} {U : State} (h : q_K g U) : va_K g.1 q_cl (q_tys g) U := h.1
theorem q_K.st {g : q_G} {U : State} (h : q_K g U) : va_Z "java/util/ArrayList" "DEFAULTCAPACITY_EMPTY_ELEMENTDATA" "[Ljava/lang/Object;" (.ref (q_ad g 0)) (fun q => q_bs g ≤ q) U (q_Hb g) := h.2.1
theorem q_K.em {g : q_G} {U : State} (h : q_K g U) : ∃ cell : Cell, (q_Hb g)[q_ad g 0]? = some cell ∧ U.isArrayOf cell (.object "java/lang/Object") ∧ cell.vm ≠ .unknown ∧ cell.slots.size = 0 ∧ cell.cls = q_dA g 2 := h.2.2.1
theorem q_K.nc {g : q_G} {U : State} (h : q_K g U) : ∀ q ∈ q_ncs, va_Nc q.1 q.2 U := h.2.2.2.1
theorem q_K.u1 {g : q_G} {U : State} (h : q_K g U) : va_Zq "java/lang/Throwable" "UNASSIGNED_STACK" "[Ljava/lang/StackTraceElement;" (fun q => q_bs g ≤ q) U (q_Hb g) := h.2.2.2.2.1
theorem q_K.u2 {g : q_G} {U : State} (h : q_K g U) : va_Zq "java/lang/Throwable" "SUPPRESSED_SENTINEL" "Ljava/util/List;" (fun q => q_bs g ≤ q) U (q_Hb g) := h.2.2.2.2.2.1
theorem q_K.mi {g : q_G} {U : State} (h : q_K g U) : va_Mi "[Ljava/lang/Object;" (q_ad g 1) U := h.2.2.2.2.2.2.1
theorem q_K.sr {g : q_G} {U : State} (h : q_K g U) : ∀ q ∈ q_strs, ∃ a, vk_R "RatchetGroup" q.1 q.2 a U := h.2.2.2.2.2.2.2.1
theorem q_K.sz {g : q_G} {U : State} (h : q_K g U) : (q_Hb g).size = q_bs g := h.2.2.2.2.2.2.2.2.1
theorem q_K.xw {g : q_G} {U : State} (h : q_K g U) : ∀ w ∈ q_X, va_Nw w U := h.2.2.2.2.2.2.2.2.2.1
theorem q_K.l1 {g : q_G} {U : State} (h : q_K g U) : (Cond.laysStatic "java/lang/Throwable" "UNASSIGNED_STACK" "[Ljava/lang/StackTraceElement;").before #[] ({ U with heap := q_Hb g } : State) = true := h.2.2.2.2.2.2.2.2.2.2.1
theorem q_K.l2 {g : q_G} {U : State} (h : q_K g U) : (Cond.laysStatic "java/lang/Throwable" "SUPPRESSED_SENTINEL" "Ljava/util/List;").before #[] ({ U with heap := q_Hb g } : State) = true := h.2.2.2.2.2.2.2.2.2.2.2.1
theorem q_K.ao {g : q_G} {U : State} (h : q_K g U) : va_AO "java/lang/Object" U := h.2.2.2.2.2.2.2.2.2.2.2.2
/-- locals: what is known of them, none of it a long -/
def q_LR (ls : List (Option Value)) (la : Array Slot) : Prop := la.size = ls.length ∧ lv_wf la ∧ ∀ (i : Nat) (v : Value), ls[i]? = some (some v) → v.category = 1 ∧ la[i]? = some (.val v)
def q_al (ls : List (Option Value)) : List (Nat × Value) := (List.range ls.length).filterMap (fun j => match ls[j]? with
  | some (some v) => some (j, v)
  | _ => none)
theorem q_al_mem {ls : List (Option Value)} {i : Nat} {v : Value} : (i, v) ∈ q_al ls ↔ ls[i]? = some (some v) := by
  unfold q_al
  rw [List.mem_filterMap]
  constructor
  · rintro ⟨j, -, hj⟩
    cases e : ls[j]? with
    | none => rw [e] at hj; cases hj
    | some w =>
      rw [e] at hj
      cases w with
      | none => cases hj
      | some u =>
        simp only [Option.some.injEq, Prod.mk.injEq] at hj
        obtain ⟨rfl, rfl⟩ := hj
        exact e
  · intro h
    refine ⟨i, List.mem_range.mpr (List.getElem?_eq_some_iff.mp h).1, ?_⟩
    rw [h]
theorem q_LR.has {ls : List (Option Value)} {la : Array Slot} (h : q_LR ls la) : lv_has la ls.length (q_al ls) := ⟨h.1, h.2.1, fun q hq => (h.2.2 q.1 q.2 (q_al_mem.mp hq)).2⟩
theorem q_LR.at {ls : List (Option Value)} {la : Array Slot} (h : q_LR ls la) {i : Nat} {v : Value} (hi : ls[i]? = some (some v)) : la[i]? = some (.val v) := (h.2.2 i v hi).2
theorem q_LR.store {ls : List (Option Value)} {la la' : Array Slot} {i : Nat} {v : Value} (h : q_LR ls la) (hc : v.category = 1) (h' : lv_has la' ls.length ((i, v) :: (q_al ls).filter (fun q => !(q.1 == i) && !(q.1 + 1 == i && q.2.category == 2)))) : q_LR (ls.set i (some v)) la' := by
  refine ⟨by rw [h'.1, List.length_set], h'.2.1, fun j w hj => ?_⟩
  by_cases e : i = j
  · subst e
    have hw : w = v := by
      rw [List.getElem?_set] at hj
      simp only [if_true] at hj
      split at hj
      · simp only [Option.some.injEq] at hj
        exact hj.symm
      · cases hj
    subst hw
    exact ⟨hc, h'.2.2 (i, w) List.mem_cons_self⟩
  · rw [List.getElem?_set_ne e] at hj
    have hc1 := (h.2.2 j w hj).1
    refine ⟨hc1, h'.2.2 (j, w) (List.mem_cons_of_mem _ (List.mem_filter.mpr ⟨q_al_mem.mpr hj, ?_⟩))⟩
    have e1 : (j == i) = false := by simp only [beq_eq_false_iff_ne]; exact fun z => e z.symm
    have e2 : (w.category == 2) = false := by rw [hc1]; rfl
    rw [e1, e2]
    simp
/-! ===== the judgement ===== -/
abbrev q_Z : Type := Program × Launch × Env × Room × State × MethodId × Array Value × List Frame × Method × Code
abbrev zp (Z : q_Z) : Program := Z.1
abbrev zl (Z : q_Z) : Launch := Z.2.1
abbrev ze (Z : q_Z) : Env := Z.2.2.1
abbrev zR (Z : q_Z) : Room := Z.2.2.2.1
abbrev zs (Z : q_Z) : State := Z.2.2.2.2.1
abbrev zm (Z : q_Z) : MethodId := Z.2.2.2.2.2.1
abbrev za (Z : q_Z) : Array Value := Z.2.2.2.2.2.2.1
abbrev zb (Z : q_Z) : List Frame := Z.2.2.2.2.2.2.2.1
abbrev zM (Z : q_Z) : Method := Z.2.2.2.2.2.2.2.2.1
abbrev zc (Z : q_Z) : Code := Z.2.2.2.2.2.2.2.2.2
/-- an ending: a value or none that is returned, or the number of the class of what is thrown -/
abbrev q_R : Type := Option Value ⊕ Nat
def q_xn (k : Nat) : String := if k = 0 then "java/lang/IndexOutOfBoundsException" else "java/lang/IllegalStateException"
def q_Res (r : q_R) (oc : Outcome) (t : State) : Prop := match r with
  | .inl v => oc = .returned v
  | .inr k => ∃ (x : Addr) (cell : Cell), oc = .threw x ∧ t.heap[x]? = some cell ∧ t.vm.findClass (q_xn k) = some cell.cls ∧ cell.vm = .none
/-- what stands at a method's end, and what it has changed -/
def q_Qc (g : q_G) (h : q_H) (sz mc ms : Nat) (A : Nat → Prop) (post : q_R → q_H → Prop) (st : State) (oc : Outcome) (t : State) : Prop :=
  (∃ (r : q_R) (h' : q_H), q_Res r oc t ∧ post r h' ∧ q_HR g h' t.heap ∧ ∀ (a : Nat) (o : q_O), h' a = some o → A a) ∧ va_F A st t ∧ st.WarmedH t.vm ∧ ∃ L, st.sameButNew ({ t with vm := st.vm } : State) L mc ms ∧ ∀ q ∈ L, A q.base
def q_Q (g : q_G) (Z : q_Z) (A : Nat → Prop) (post : q_R → q_H → Prop) : State → Prop := fun t => ∃ oc, t.status = .running ∧ Ended t (zb Z) oc ∧ q_Qc g (fun _ => none) 0 (zR Z).cells (zR Z).slots A post (zs Z) oc t
def GW (g : q_G) (Z : q_Z) (A : Nat → Prop) (post : q_R → q_H → Prop) (rc rs : Nat) (h : q_H) (pc : Nat) (ls : List (Option Value)) (st : List Value) : Prop :=
  ∀ (H : Heap) (locs : List Loc) (la : Array Slot) (n k : Nat), q_HR g h H → (∀ (a : Nat) (o : q_O), h a = some o → A a) → va_S A (zs Z).heap H locs → q_LR ls la → n + rc ≤ (zR Z).cells → k + rs ≤ (zR Z).slots →
    W (zp Z) (zl Z) (ze Z) (zR Z) (zs Z) (zm Z) (za Z) (zb Z) (zM Z) (zc Z) H locs n k (q_Q g Z A post) (F0 (zm Z) pc la st)
/-- what a walk may lean on: the method's class own, its bytes cc, locals nL, answer's type ret, room for d frames below it -/
def q_ok (g : q_G) (Z : q_Z) (A : Nat → Prop) (own name : String) (cc : ByteArray) (nL : Nat) (ret : Option FieldType) (d : Nat) : Prop :=
  (zp Z).tables.exec = Jvm.exec ∧ (zc Z).code = cc ∧ (zc Z).maxLocals = nL ∧ (zs Z).vm.findClass own = some (zm Z).cls ∧ (∀ w ∈ q_T, w.before (za Z) (zs Z) = true) ∧ q_K g (zs Z) ∧ (∀ q : Nat, (zs Z).heap.size ≤ q → A q) ∧ (zM Z).locks = false ∧ (zM Z).sig.returnType = ret ∧ (zM Z).name = name ∧ d ≤ (zR Z).frames ∧ 64 * d ≤ (zR Z).locals ∧ (zM Z).code = some (zc Z) ∧ (∀ e, (zl Z).admits e → e.platform.stackTraces = false) ∧ q_bs g ≤ (zs Z).heap.size ∧ (∀ q : Nat, A q → q_bs g ≤ q) ∧ (∀ x ∈ (zc Z).exceptionTable.toList, ∀ q, covers x q = false) ∧ (∀ (q : Nat) (cell : Cell), A q → (zs Z).heap[q]? = some cell → cell.vm.isStatics = false)
section GWR
variable {g : q_G} {Z : q_Z} {A : Nat → Prop} {post : q_R → q_H → Prop} {rc rs : Nat} {h : q_H} {pc pc' : Nat} {ls : List (Option Value)} {st : List Value} {own name : String} {cc : ByteArray} {nL d : Nat} {ret : Option FieldType}
theorem g_top {v w : Value} (e : v = w) (kk : GW g Z A post rc rs h pc ls (w :: st)) : GW g Z A post rc rs h pc ls (v :: st) := by rw [e]; exact kk
theorem g_less {rc' rs' : Nat} (h1 : rc' ≤ rc) (h2 : rs' ≤ rs) (kk : GW g Z A post rc' rs' h pc ls st) : GW g Z A post rc rs h pc ls st := fun H locs la n k hH hD hS hL hn hk => kk H locs la n k hH hD hS hL (by omega) (by omega)
theorem g_heap {h' : q_H} (e : h = h') (kk : GW g Z A post rc rs h' pc ls st) : GW g Z A post rc rs h pc ls st := by rw [e]; exact kk
theorem g_forget {ls' : List (Option Value)} (hl : ls'.length = ls.length) (hs : ∀ (i : Nat) (v : Value), ls'[i]? = some (some v) → ls[i]? = some (some v)) (kk : GW g Z A post rc rs h pc ls' st) : GW g Z A post rc rs h pc ls st :=
  fun H locs la n k hH hD hS hL hn hk => kk H locs la n k hH hD hS ⟨by rw [hl]; exact hL.1, hL.2.1, fun i v hi => hL.2.2 i v (hs i v hi)⟩ hn hk
theorem g_iconst (ok : q_ok g Z A own name cc nL ret d) {i : Int} {v : Int32} (hd : decode cc pc = .ok (.iconst i, 1)) (hp : pc + 1 = pc') (hv : Int32.ofInt i = v) (kk : GW g Z A post rc rs h pc' ls (.int v :: st)) : GW g Z A post rc rs h pc ls (st) := by
  obtain ⟨hx, hb, -⟩ := ok
  subst hp
  exact fun H locs la n k hH hD hS hL hn hk => lv_iconst hx hb hd hv (kk H locs la n k hH hD hS hL hn hk)
theorem g_bipush (ok : q_ok g Z A own name cc nL ret d) {i : Int} {v : Int32} (hd : decode cc pc = .ok (.bipush i, 2)) (hp : pc + 2 = pc') (hv : (Int8.ofInt i).toInt32 = v) (kk : GW g Z A post rc rs h pc' ls (.int v :: st)) : GW g Z A post rc rs h pc ls (st) := by
  obtain ⟨hx, hb, -⟩ := ok
  subst hp
  exact fun H locs la n k hH hD hS hL hn hk => lv_bipush hx hb hd hv (kk H locs la n k hH hD hS hL hn hk)
theorem g_sipush (ok : q_ok g Z A own name cc nL ret d) {i : Int} {v : Int32} (hd : decode cc pc = .ok (.sipush i, 3)) (hp : pc + 3 = pc') (hv : (Int16.ofInt i).toInt32 = v) (kk : GW g Z A post rc rs h pc' ls (.int v :: st)) : GW g Z A post rc rs h pc ls (st) := by
  obtain ⟨hx, hb, -⟩ := ok
  subst hp
  exact fun H locs la n k hH hD hS hL hn hk => lv_sipush hx hb hd hv (kk H locs la n k hH hD hS hL hn hk)
theorem g_null (ok : q_ok g Z A own name cc nL ret d) (hd : decode cc pc = .ok (.aconst_null, 1)) (hp : pc + 1 = pc') (kk : GW g Z A post rc rs h pc' ls (.null :: st)) : GW g Z A post rc rs h pc ls (st) := by
  obtain ⟨hx, hb, -⟩ := ok
  subst hp
  exact fun H locs la n k hH hD hS hL hn hk => lv_null hx hb hd (kk H locs la n k hH hD hS hL hn hk)
theorem g_iload_n (ok : q_ok g Z A own name cc nL ret d) {j : Fin 4} {i : Nat} {x : Int32} (hd : decode cc pc = .ok (.iload_n j, 1)) (hp : pc + 1 = pc') (hi : (j : Nat) = i) (hl : ls[i]? = some (some (.int x))) (kk : GW g Z A post rc rs h pc' ls (.int x :: st)) : GW g Z A post rc rs h pc ls (st) := by
  obtain ⟨hx, hb, -⟩ := ok
  subst hp
  exact fun H locs la n k hH hD hS hL hn hk => lv_iload_n hx hb hd hi (hL.at hl) (kk H locs la n k hH hD hS hL hn hk)
theorem g_iload (ok : q_ok g Z A own name cc nL ret d) {i : Nat} {x : Int32} (hd : decode cc pc = .ok (.iload i, 2)) (hp : pc + 2 = pc') (hl : ls[i]? = some (some (.int x))) (kk : GW g Z A post rc rs h pc' ls (.int x :: st)) : GW g Z A post rc rs h pc ls (st) := by
  obtain ⟨hx, hb, -⟩ := ok
  subst hp
  exact fun H locs la n k hH hD hS hL hn hk => lv_iload hx hb hd (hL.at hl) (kk H locs la n k hH hD hS hL hn hk)
theorem g_aload_n (ok : q_ok g Z A own name cc nL ret d) {j : Fin 4} {i : Nat} {x : Nat} (hd : decode cc pc = .ok (.aload_n j, 1)) (hp : pc + 1 = pc') (hi : (j : Nat) = i) (hl : ls[i]? = some (some (.ref x))) (kk : GW g Z A post rc rs h pc' ls (.ref x :: st)) : GW g Z A post rc rs h pc ls (st) := by
  obtain ⟨hx, hb, -⟩ := ok
  subst hp
  exact fun H locs la n k hH hD hS hL hn hk => lv_aload_n hx hb hd hi (hL.at hl) (kk H locs la n k hH hD hS hL hn hk)
theorem g_aload (ok : q_ok g Z A own name cc nL ret d) {i : Nat} {x : Nat} (hd : decode cc pc = .ok (.aload i, 2)) (hp : pc + 2 = pc') (hl : ls[i]? = some (some (.ref x))) (kk : GW g Z A post rc rs h pc' ls (.ref x :: st)) : GW g Z A post rc rs h pc ls (st) := by
  obtain ⟨hx, hb, -⟩ := ok
  subst hp
  exact fun H locs la n k hH hD hS hL hn hk => lv_aload hx hb hd (hL.at hl) (kk H locs la n k hH hD hS hL hn hk)
theorem g_aload_nN (ok : q_ok g Z A own name cc nL ret d) {j : Fin 4} {i : Nat} (hd : decode cc pc = .ok (.aload_n j, 1)) (hp : pc + 1 = pc') (hi : (j : Nat) = i) (hl : ls[i]? = some (some .null)) (kk : GW g Z A post rc rs h pc' ls (.null :: st)) : GW g Z A post rc rs h pc ls (st) := by
  obtain ⟨hx, hb, -⟩ := ok
  subst hp
  exact fun H locs la n k hH hD hS hL hn hk => lv_aload_nN hx hb hd hi (hL.at hl) (kk H locs la n k hH hD hS hL hn hk)
theorem g_aloadN (ok : q_ok g Z A own name cc nL ret d) {i : Nat} (hd : decode cc pc = .ok (.aload i, 2)) (hp : pc + 2 = pc') (hl : ls[i]? = some (some .null)) (kk : GW g Z A post rc rs h pc' ls (.null :: st)) : GW g Z A post rc rs h pc ls (st) := by
  obtain ⟨hx, hb, -⟩ := ok
  subst hp
  exact fun H locs la n k hH hD hS hL hn hk => lv_aloadN hx hb hd (hL.at hl) (kk H locs la n k hH hD hS hL hn hk)
theorem g_iadd (ok : q_ok g Z A own name cc nL ret d) {x y : Int32} (hd : decode cc pc = .ok (.iadd, 1)) (hp : pc + 1 = pc') (kk : GW g Z A post rc rs h pc' ls (.int (x + y) :: st)) : GW g Z A post rc rs h pc ls (.int y :: .int x :: st) := by
  obtain ⟨hx, hb, -⟩ := ok
  subst hp
  exact fun H locs la n k hH hD hS hL hn hk => lv_iadd hx hb hd (kk H locs la n k hH hD hS hL hn hk)
theorem g_isub (ok : q_ok g Z A own name cc nL ret d) {x y : Int32} (hd : decode cc pc = .ok (.isub, 1)) (hp : pc + 1 = pc') (kk : GW g Z A post rc rs h pc' ls (.int (x - y) :: st)) : GW g Z A post rc rs h pc ls (.int y :: .int x :: st) := by
  obtain ⟨hx, hb, -⟩ := ok
  subst hp
  exact fun H locs la n k hH hD hS hL hn hk => lv_isub hx hb hd (kk H locs la n k hH hD hS hL hn hk)
theorem g_imul (ok : q_ok g Z A own name cc nL ret d) {x y : Int32} (hd : decode cc pc = .ok (.imul, 1)) (hp : pc + 1 = pc') (kk : GW g Z A post rc rs h pc' ls (.int (x * y) :: st)) : GW g Z A post rc rs h pc ls (.int y :: .int x :: st) := by
  obtain ⟨hx, hb, -⟩ := ok
  subst hp
  exact fun H locs la n k hH hD hS hL hn hk => lv_imul hx hb hd (kk H locs la n k hH hD hS hL hn hk)
theorem g_iand (ok : q_ok g Z A own name cc nL ret d) {x y : Int32} (hd : decode cc pc = .ok (.iand, 1)) (hp : pc + 1 = pc') (kk : GW g Z A post rc rs h pc' ls (.int (x &&& y) :: st)) : GW g Z A post rc rs h pc ls (.int y :: .int x :: st) := by
  obtain ⟨hx, hb, -⟩ := ok
  subst hp
  exact fun H locs la n k hH hD hS hL hn hk => lv_iand hx hb hd (kk H locs la n k hH hD hS hL hn hk)
theorem g_ior (ok : q_ok g Z A own name cc nL ret d) {x y : Int32} (hd : decode cc pc = .ok (.ior, 1)) (hp : pc + 1 = pc') (kk : GW g Z A post rc rs h pc' ls (.int (x ||| y) :: st)) : GW g Z A post rc rs h pc ls (.int y :: .int x :: st) := by
  obtain ⟨hx, hb, -⟩ := ok
  subst hp
  exact fun H locs la n k hH hD hS hL hn hk => lv_ior hx hb hd (kk H locs la n k hH hD hS hL hn hk)
theorem g_ixor (ok : q_ok g Z A own name cc nL ret d) {x y : Int32} (hd : decode cc pc = .ok (.ixor, 1)) (hp : pc + 1 = pc') (kk : GW g Z A post rc rs h pc' ls (.int (x ^^^ y) :: st)) : GW g Z A post rc rs h pc ls (.int y :: .int x :: st) := by
  obtain ⟨hx, hb, -⟩ := ok
  subst hp
  exact fun H locs la n k hH hD hS hL hn hk => lv_ixor hx hb hd (kk H locs la n k hH hD hS hL hn hk)
theorem g_ishl (ok : q_ok g Z A own name cc nL ret d) {x y : Int32} (hd : decode cc pc = .ok (.ishl, 1)) (hp : pc + 1 = pc') (kk : GW g Z A post rc rs h pc' ls (.int (x <<< (y &&& 31)) :: st)) : GW g Z A post rc rs h pc ls (.int y :: .int x :: st) := by
  obtain ⟨hx, hb, -⟩ := ok
  subst hp
  exact fun H locs la n k hH hD hS hL hn hk => lv_ishl hx hb hd (kk H locs la n k hH hD hS hL hn hk)
theorem g_ishr (ok : q_ok g Z A own name cc nL ret d) {x y : Int32} (hd : decode cc pc = .ok (.ishr, 1)) (hp : pc + 1 = pc') (kk : GW g Z A post rc rs h pc' ls (.int (x >>> (y &&& 31)) :: st)) : GW g Z A post rc rs h pc ls (.int y :: .int x :: st) := by
  obtain ⟨hx, hb, -⟩ := ok
  subst hp
  exact fun H locs la n k hH hD hS hL hn hk => lv_ishr hx hb hd (kk H locs la n k hH hD hS hL hn hk)
theorem g_idiv (ok : q_ok g Z A own name cc nL ret d) {x y : Int32} (hd : decode cc pc = .ok (.idiv, 1)) (hp : pc + 1 = pc') (hne : ¬ y = 0) (kk : GW g Z A post rc rs h pc' ls (.int (x / y) :: st)) : GW g Z A post rc rs h pc ls (.int y :: .int x :: st) := by
  obtain ⟨hx, hb, -⟩ := ok
  subst hp
  exact fun H locs la n k hH hD hS hL hn hk => lv_idiv hx hb hd hne (kk H locs la n k hH hD hS hL hn hk)
theorem g_irem (ok : q_ok g Z A own name cc nL ret d) {x y : Int32} (hd : decode cc pc = .ok (.irem, 1)) (hp : pc + 1 = pc') (hne : ¬ y = 0) (kk : GW g Z A post rc rs h pc' ls (.int (x - x / y * y) :: st)) : GW g Z A post rc rs h pc ls (.int y :: .int x :: st) := by
  obtain ⟨hx, hb, -⟩ := ok
  subst hp
  exact fun H locs la n k hH hD hS hL hn hk => lv_irem hx hb hd hne (kk H locs la n k hH hD hS hL hn hk)
theorem g_ineg (ok : q_ok g Z A own name cc nL ret d) {x : Int32} (hd : decode cc pc = .ok (.ineg, 1)) (hp : pc + 1 = pc') (kk : GW g Z A post rc rs h pc' ls (.int (-x) :: st)) : GW g Z A post rc rs h pc ls (.int x :: st) := by
  obtain ⟨hx, hb, -⟩ := ok
  subst hp
  exact fun H locs la n k hH hD hS hL hn hk => lv_ineg hx hb hd (kk H locs la n k hH hD hS hL hn hk)
theorem g_iushr (ok : q_ok g Z A own name cc nL ret d) {x y v : Int32} (hd : decode cc pc = .ok (.iushr, 1)) (hp : pc + 1 = pc') (hv : (x.toUInt32 >>> (y.toUInt32 &&& Int32.toUInt32 31)).toInt32 = v) (kk : GW g Z A post rc rs h pc' ls (.int v :: st)) : GW g Z A post rc rs h pc ls (.int y :: .int x :: st) := by
  obtain ⟨hx, hb, -⟩ := ok
  subst hp
  exact fun H locs la n k hH hD hS hL hn hk => lv_iushr hx hb hd hv (kk H locs la n k hH hD hS hL hn hk)
theorem g_i2l (ok : q_ok g Z A own name cc nL ret d) {x : Int32} {v : Int64} (hd : decode cc pc = .ok (.i2l, 1)) (hp : pc + 1 = pc') (hv : x.toInt64 = v) (kk : GW g Z A post rc rs h pc' ls (.long v :: st)) : GW g Z A post rc rs h pc ls (.int x :: st) := by
  obtain ⟨hx, hb, -⟩ := ok
  subst hp
  exact fun H locs la n k hH hD hS hL hn hk => lv_i2l hx hb hd hv (kk H locs la n k hH hD hS hL hn hk)
theorem g_dup (ok : q_ok g Z A own name cc nL ret d) {va : Value} (hd : decode cc pc = .ok (.dup, 1)) (hp : pc + 1 = pc') (hva : va.category = 1) (kk : GW g Z A post rc rs h pc' ls (va :: va :: st)) : GW g Z A post rc rs h pc ls (va :: st) := by
  obtain ⟨hx, hb, -⟩ := ok
  subst hp
  exact fun H locs la n k hH hD hS hL hn hk => lv_dup hx hb hd hva (kk H locs la n k hH hD hS hL hn hk)
theorem g_pop (ok : q_ok g Z A own name cc nL ret d) {va : Value} (hd : decode cc pc = .ok (.pop, 1)) (hp : pc + 1 = pc') (hva : va.category = 1) (kk : GW g Z A post rc rs h pc' ls (st)) : GW g Z A post rc rs h pc ls (va :: st) := by
  obtain ⟨hx, hb, -⟩ := ok
  subst hp
  exact fun H locs la n k hH hD hS hL hn hk => lv_pop hx hb hd hva (kk H locs la n k hH hD hS hL hn hk)
theorem g_dup_x1 (ok : q_ok g Z A own name cc nL ret d) {va vb : Value} (hd : decode cc pc = .ok (.dup_x1, 1)) (hp : pc + 1 = pc') (hva : va.category = 1) (hvb : vb.category = 1) (kk : GW g Z A post rc rs h pc' ls (va :: vb :: va :: st)) : GW g Z A post rc rs h pc ls (va :: vb :: st) := by
  obtain ⟨hx, hb, -⟩ := ok
  subst hp
  exact fun H locs la n k hH hD hS hL hn hk => lv_dup_x1 hx hb hd hva hvb (kk H locs la n k hH hD hS hL hn hk)
theorem g_dup2 (ok : q_ok g Z A own name cc nL ret d) {va vb : Value} (hd : decode cc pc = .ok (.dup2, 1)) (hp : pc + 1 = pc') (hva : va.category = 1) (hvb : vb.category = 1) (kk : GW g Z A post rc rs h pc' ls (va :: vb :: va :: vb :: st)) : GW g Z A post rc rs h pc ls (va :: vb :: st) := by
  obtain ⟨hx, hb, -⟩ := ok
  subst hp
  exact fun H locs la n k hH hD hS hL hn hk => lv_dup2_11 hx hb hd hva hvb (kk H locs la n k hH hD hS hL hn hk)
theorem g_istore_n (ok : q_ok g Z A own name cc nL ret d) {j : Fin 4} {i : Nat} {x : Int32} (hd : decode cc pc = .ok (.istore_n j, 1)) (hp : pc + 1 = pc') (hi : (j : Nat) = i) (hi2 : i < ls.length) {ls' : List (Option Value)} (hls : ls.set i (some (.int x)) = ls') (kk : GW g Z A post rc rs h pc' ls' st) : GW g Z A post rc rs h pc ls (.int x :: st) := by
  obtain ⟨hx, hb, -⟩ := ok
  subst hp
  subst hls
  exact fun H locs la n k hH hD hS hL hn hk => lv_istore_n hx hb hd hi hL.has hi2 rfl (fun la' hl' => kk H locs la' n k hH hD hS (hL.store rfl hl') hn hk)
theorem g_istore (ok : q_ok g Z A own name cc nL ret d) {i : Nat} {x : Int32} (hd : decode cc pc = .ok (.istore i, 2)) (hp : pc + 2 = pc') (hi2 : i < ls.length) {ls' : List (Option Value)} (hls : ls.set i (some (.int x)) = ls') (kk : GW g Z A post rc rs h pc' ls' st) : GW g Z A post rc rs h pc ls (.int x :: st) := by
  obtain ⟨hx, hb, -⟩ := ok
  subst hp
  subst hls
  exact fun H locs la n k hH hD hS hL hn hk => lv_istore hx hb hd hL.has hi2 rfl (fun la' hl' => kk H locs la' n k hH hD hS (hL.store rfl hl') hn hk)
theorem g_astore_n (ok : q_ok g Z A own name cc nL ret d) {j : Fin 4} {i : Nat} {x : Nat} (hd : decode cc pc = .ok (.astore_n j, 1)) (hp : pc + 1 = pc') (hi : (j : Nat) = i) (hi2 : i < ls.length) {ls' : List (Option Value)} (hls : ls.set i (some (.ref x)) = ls') (kk : GW g Z A post rc rs h pc' ls' st) : GW g Z A post rc rs h pc ls (.ref x :: st) := by
  obtain ⟨hx, hb, -⟩ := ok
  subst hp
  subst hls
  exact fun H locs la n k hH hD hS hL hn hk => lv_astore_n hx hb hd hi hL.has hi2 rfl (fun la' hl' => kk H locs la' n k hH hD hS (hL.store rfl hl') hn hk)
theorem g_astore (ok : q_ok g Z A own name cc nL ret d) {i : Nat} {x : Nat} (hd : decode cc pc = .ok (.astore i, 2)) (hp : pc + 2 = pc') (hi2 : i < ls.length) {ls' : List (Option Value)} (hls : ls.set i (some (.ref x)) = ls') (kk : GW g Z A post rc rs h pc' ls' st) : GW g Z A post rc rs h pc ls (.ref x :: st) := by
  obtain ⟨hx, hb, -⟩ := ok
  subst hp
  subst hls
  exact fun H locs la n k hH hD hS hL hn hk => lv_astore hx hb hd hL.has hi2 rfl (fun la' hl' => kk H locs la' n k hH hD hS (hL.store rfl hl') hn hk)
theorem g_astore_nN (ok : q_ok g Z A own name cc nL ret d) {j : Fin 4} {i : Nat} (hd : decode cc pc = .ok (.astore_n j, 1)) (hp : pc + 1 = pc') (hi : (j : Nat) = i) (hi2 : i < ls.length) {ls' : List (Option Value)} (hls : ls.set i (some (.null)) = ls') (kk : GW g Z A post rc rs h pc' ls' st) : GW g Z A post rc rs h pc ls (.null :: st) := by
  obtain ⟨hx, hb, -⟩ := ok
  subst hp
  subst hls
  exact fun H locs la n k hH hD hS hL hn hk => lv_astore_nN hx hb hd hi hL.has hi2 rfl (fun la' hl' => kk H locs la' n k hH hD hS (hL.store rfl hl') hn hk)
theorem g_astoreN (ok : q_ok g Z A own name cc nL ret d) {i : Nat} (hd : decode cc pc = .ok (.astore i, 2)) (hp : pc + 2 = pc') (hi2 : i < ls.length) {ls' : List (Option Value)} (hls : ls.set i (some (.null)) = ls') (kk : GW g Z A post rc rs h pc' ls' st) : GW g Z A post rc rs h pc ls (.null :: st) := by
  obtain ⟨hx, hb, -⟩ := ok
  subst hp
  subst hls
  exact fun H locs la n k hH hD hS hL hn hk => lv_astoreN hx hb hd hL.has hi2 rfl (fun la' hl' => kk H locs la' n k hH hD hS (hL.store rfl hl') hn hk)
theorem q_al_at {ls : List (Option Value)} {i : Nat} {v : Value} (h : ls[i]? = some (some v)) : ∃ k : Nat, (q_al ls)[k]? = some (i, v) := List.getElem?_of_mem (q_al_mem.mpr h)
theorem g_iinc (ok : q_ok g Z A own name cc nL ret d) {i : Nat} {c : Int} {x v : Int32} (hd : decode cc pc = .ok (.iinc i c, 3)) (hp : pc + 3 = pc') (hl : ls[i]? = some (some (.int x))) (hv : x + Int32.ofInt c = v) {ls' : List (Option Value)} (hls : ls.set i (some (.int v)) = ls') (kk : GW g Z A post rc rs h pc' ls' st) : GW g Z A post rc rs h pc ls st := by
  obtain ⟨hx, hb, -⟩ := ok
  subst hp
  subst hls
  obtain ⟨k0, hk0⟩ := q_al_at hl
  exact fun H locs la n k hH hD hS hL hn hk => lv_iinc hx hb hd hL.has hk0 hv (List.getElem?_eq_some_iff.mp hl).1 rfl (fun la' hl' => kk H locs la' n k hH hD hS (hL.store rfl hl') hn hk)
theorem g_goto (ok : q_ok g Z A own name cc nL ret d) {off : Int} (hd : decode cc pc = .ok (.goto off, 3)) (hp : (pc : Int) + off = (pc' : Int)) (kk : GW g Z A post rc rs h pc' ls st) : GW g Z A post rc rs h pc ls st := by
  obtain ⟨hx, hb, -⟩ := ok
  exact fun H locs la n k hH hD hS hL hn hk => lv_goto hx hb hd hp (kk H locs la n k hH hD hS hL hn hk)
theorem g_if_eq (ok : q_ok g Z A own name cc nL ret d) {x : Int32} {off : Int} {tgt : Nat} (hd : decode cc pc = .ok (.ifCond .eq off, 3)) (ht : (pc : Int) + off = (tgt : Int)) (hp : pc + 3 = pc') (kt : x = 0 → GW g Z A post rc rs h tgt ls st) (kf : ¬ x = 0 → GW g Z A post rc rs h pc' ls st) : GW g Z A post rc rs h pc ls (.int x :: st) := by
  obtain ⟨hx, hb, -⟩ := ok
  subst hp
  exact fun H locs la n k hH hD hS hL hn hk => lv_if_eq hx hb hd ht (fun z => kt z H locs la n k hH hD hS hL hn hk) (fun z => kf z H locs la n k hH hD hS hL hn hk)
theorem g_icmp_eq (ok : q_ok g Z A own name cc nL ret d) {x y : Int32} {off : Int} {tgt : Nat} (hd : decode cc pc = .ok (.if_icmp .eq off, 3)) (ht : (pc : Int) + off = (tgt : Int)) (hp : pc + 3 = pc') (kt : x = y → GW g Z A post rc rs h tgt ls st) (kf : ¬ x = y → GW g Z A post rc rs h pc' ls st) : GW g Z A post rc rs h pc ls (.int y :: .int x :: st) := by
  obtain ⟨hx, hb, -⟩ := ok
  subst hp
  exact fun H locs la n k hH hD hS hL hn hk => lv_icmp_eq hx hb hd ht (fun z => kt z H locs la n k hH hD hS hL hn hk) (fun z => kf z H locs la n k hH hD hS hL hn hk)
theorem g_if_ne (ok : q_ok g Z A own name cc nL ret d) {x : Int32} {off : Int} {tgt : Nat} (hd : decode cc pc = .ok (.ifCond .ne off, 3)) (ht : (pc : Int) + off = (tgt : Int)) (hp : pc + 3 = pc') (kt : ¬ x = 0 → GW g Z A post rc rs h tgt ls st) (kf : x = 0 → GW g Z A post rc rs h pc' ls st) : GW g Z A post rc rs h pc ls (.int x :: st) := by
  obtain ⟨hx, hb, -⟩ := ok
  subst hp
  exact fun H locs la n k hH hD hS hL hn hk => lv_if_ne hx hb hd ht (fun z => kt z H locs la n k hH hD hS hL hn hk) (fun z => kf z H locs la n k hH hD hS hL hn hk)
theorem g_icmp_ne (ok : q_ok g Z A own name cc nL ret d) {x y : Int32} {off : Int} {tgt : Nat} (hd : decode cc pc = .ok (.if_icmp .ne off, 3)) (ht : (pc : Int) + off = (tgt : Int)) (hp : pc + 3 = pc') (kt : ¬ x = y → GW g Z A post rc rs h tgt ls st) (kf : x = y → GW g Z A post rc rs h pc' ls st) : GW g Z A post rc rs h pc ls (.int y :: .int x :: st) := by
  obtain ⟨hx, hb, -⟩ := ok
  subst hp
  exact fun H locs la n k hH hD hS hL hn hk => lv_icmp_ne hx hb hd ht (fun z => kt z H locs la n k hH hD hS hL hn hk) (fun z => kf z H locs la n k hH hD hS hL hn hk)
theorem g_if_lt (ok : q_ok g Z A own name cc nL ret d) {x : Int32} {off : Int} {tgt : Nat} (hd : decode cc pc = .ok (.ifCond .lt off, 3)) (ht : (pc : Int) + off = (tgt : Int)) (hp : pc + 3 = pc') (kt : x < 0 → GW g Z A post rc rs h tgt ls st) (kf : ¬ x < 0 → GW g Z A post rc rs h pc' ls st) : GW g Z A post rc rs h pc ls (.int x :: st) := by
  obtain ⟨hx, hb, -⟩ := ok
  subst hp
  exact fun H locs la n k hH hD hS hL hn hk => lv_if_lt hx hb hd ht (fun z => kt z H locs la n k hH hD hS hL hn hk) (fun z => kf z H locs la n k hH hD hS hL hn hk)
theorem g_icmp_lt (ok : q_ok g Z A own name cc nL ret d) {x y : Int32} {off : Int} {tgt : Nat} (hd : decode cc pc = .ok (.if_icmp .lt off, 3)) (ht : (pc : Int) + off = (tgt : Int)) (hp : pc + 3 = pc') (kt : x < y → GW g Z A post rc rs h tgt ls st) (kf : ¬ x < y → GW g Z A post rc rs h pc' ls st) : GW g Z A post rc rs h pc ls (.int y :: .int x :: st) := by
  obtain ⟨hx, hb, -⟩ := ok
  subst hp
  exact fun H locs la n k hH hD hS hL hn hk => lv_icmp_lt hx hb hd ht (fun z => kt z H locs la n k hH hD hS hL hn hk) (fun z => kf z H locs la n k hH hD hS hL hn hk)
theorem g_if_ge (ok : q_ok g Z A own name cc nL ret d) {x : Int32} {off : Int} {tgt : Nat} (hd : decode cc pc = .ok (.ifCond .ge off, 3)) (ht : (pc : Int) + off = (tgt : Int)) (hp : pc + 3 = pc') (kt : 0 ≤ x → GW g Z A post rc rs h tgt ls st) (kf : ¬ 0 ≤ x → GW g Z A post rc rs h pc' ls st) : GW g Z A post rc rs h pc ls (.int x :: st) := by
  obtain ⟨hx, hb, -⟩ := ok
  subst hp
  exact fun H locs la n k hH hD hS hL hn hk => lv_if_ge hx hb hd ht (fun z => kt z H locs la n k hH hD hS hL hn hk) (fun z => kf z H locs la n k hH hD hS hL hn hk)
theorem g_icmp_ge (ok : q_ok g Z A own name cc nL ret d) {x y : Int32} {off : Int} {tgt : Nat} (hd : decode cc pc = .ok (.if_icmp .ge off, 3)) (ht : (pc : Int) + off = (tgt : Int)) (hp : pc + 3 = pc') (kt : y ≤ x → GW g Z A post rc rs h tgt ls st) (kf : ¬ y ≤ x → GW g Z A post rc rs h pc' ls st) : GW g Z A post rc rs h pc ls (.int y :: .int x :: st) := by
  obtain ⟨hx, hb, -⟩ := ok
  subst hp
  exact fun H locs la n k hH hD hS hL hn hk => lv_icmp_ge hx hb hd ht (fun z => kt z H locs la n k hH hD hS hL hn hk) (fun z => kf z H locs la n k hH hD hS hL hn hk)
theorem g_if_gt (ok : q_ok g Z A own name cc nL ret d) {x : Int32} {off : Int} {tgt : Nat} (hd : decode cc pc = .ok (.ifCond .gt off, 3)) (ht : (pc : Int) + off = (tgt : Int)) (hp : pc + 3 = pc') (kt : 0 < x → GW g Z A post rc rs h tgt ls st) (kf : ¬ 0 < x → GW g Z A post rc rs h pc' ls st) : GW g Z A post rc rs h pc ls (.int x :: st) := by
  obtain ⟨hx, hb, -⟩ := ok
  subst hp
  exact fun H locs la n k hH hD hS hL hn hk => lv_if_gt hx hb hd ht (fun z => kt z H locs la n k hH hD hS hL hn hk) (fun z => kf z H locs la n k hH hD hS hL hn hk)
theorem g_icmp_gt (ok : q_ok g Z A own name cc nL ret d) {x y : Int32} {off : Int} {tgt : Nat} (hd : decode cc pc = .ok (.if_icmp .gt off, 3)) (ht : (pc : Int) + off = (tgt : Int)) (hp : pc + 3 = pc') (kt : y < x → GW g Z A post rc rs h tgt ls st) (kf : ¬ y < x → GW g Z A post rc rs h pc' ls st) : GW g Z A post rc rs h pc ls (.int y :: .int x :: st) := by
  obtain ⟨hx, hb, -⟩ := ok
  subst hp
  exact fun H locs la n k hH hD hS hL hn hk => lv_icmp_gt hx hb hd ht (fun z => kt z H locs la n k hH hD hS hL hn hk) (fun z => kf z H locs la n k hH hD hS hL hn hk)
theorem g_if_le (ok : q_ok g Z A own name cc nL ret d) {x : Int32} {off : Int} {tgt : Nat} (hd : decode cc pc = .ok (.ifCond .le off, 3)) (ht : (pc : Int) + off = (tgt : Int)) (hp : pc + 3 = pc') (kt : x ≤ 0 → GW g Z A post rc rs h tgt ls st) (kf : ¬ x ≤ 0 → GW g Z A post rc rs h pc' ls st) : GW g Z A post rc rs h pc ls (.int x :: st) := by
  obtain ⟨hx, hb, -⟩ := ok
  subst hp
  exact fun H locs la n k hH hD hS hL hn hk => lv_if_le hx hb hd ht (fun z => kt z H locs la n k hH hD hS hL hn hk) (fun z => kf z H locs la n k hH hD hS hL hn hk)
theorem g_icmp_le (ok : q_ok g Z A own name cc nL ret d) {x y : Int32} {off : Int} {tgt : Nat} (hd : decode cc pc = .ok (.if_icmp .le off, 3)) (ht : (pc : Int) + off = (tgt : Int)) (hp : pc + 3 = pc') (kt : x ≤ y → GW g Z A post rc rs h tgt ls st) (kf : ¬ x ≤ y → GW g Z A post rc rs h pc' ls st) : GW g Z A post rc rs h pc ls (.int y :: .int x :: st) := by
  obtain ⟨hx, hb, -⟩ := ok
  subst hp
  exact fun H locs la n k hH hD hS hL hn hk => lv_icmp_le hx hb hd ht (fun z => kt z H locs la n k hH hD hS hL hn hk) (fun z => kf z H locs la n k hH hD hS hL hn hk)
theorem g_acmp_eq (ok : q_ok g Z A own name cc nL ret d) {rx ry : Option Nat} {off : Int} {tgt : Nat} (hd : decode cc pc = .ok (.if_acmp .eq off, 3)) (ht : (pc : Int) + off = (tgt : Int)) (hp : pc + 3 = pc') (kt : rx = ry → GW g Z A post rc rs h tgt ls st) (kf : ¬ rx = ry → GW g Z A post rc rs h pc' ls st) : GW g Z A post rc rs h pc ls (va_rf ry :: va_rf rx :: st) := by
  obtain ⟨hx, hb, -⟩ := ok
  subst hp
  exact fun H locs la n k hH hD hS hL hn hk => lv_acmp_eq hx hb hd ht (fun z => kt z H locs la n k hH hD hS hL hn hk) (fun z => kf z H locs la n k hH hD hS hL hn hk)
theorem g_acmp_ne (ok : q_ok g Z A own name cc nL ret d) {rx ry : Option Nat} {off : Int} {tgt : Nat} (hd : decode cc pc = .ok (.if_acmp .ne off, 3)) (ht : (pc : Int) + off = (tgt : Int)) (hp : pc + 3 = pc') (kt : ¬ rx = ry → GW g Z A post rc rs h tgt ls st) (kf : rx = ry → GW g Z A post rc rs h pc' ls st) : GW g Z A post rc rs h pc ls (va_rf ry :: va_rf rx :: st) := by
  obtain ⟨hx, hb, -⟩ := ok
  subst hp
  exact fun H locs la n k hH hD hS hL hn hk => lv_acmp_ne hx hb hd ht (fun z => kt z H locs la n k hH hD hS hL hn hk) (fun z => kf z H locs la n k hH hD hS hL hn hk)
theorem g_ifnull (ok : q_ok g Z A own name cc nL ret d) {x : Nat} {off : Int} (hd : decode cc pc = .ok (.ifnull off, 3)) (hp : pc + 3 = pc') (kk : GW g Z A post rc rs h pc' ls st) : GW g Z A post rc rs h pc ls (.ref x :: st) := by
  obtain ⟨hx, hb, -⟩ := ok
  subst hp
  exact fun H locs la n k hH hD hS hL hn hk => lv_ifnull hx hb hd (kk H locs la n k hH hD hS hL hn hk)
theorem g_ifnullN (ok : q_ok g Z A own name cc nL ret d) {off : Int} {tgt : Nat} (hd : decode cc pc = .ok (.ifnull off, 3)) (ht : (pc : Int) + off = (tgt : Int)) (kk : GW g Z A post rc rs h tgt ls st) : GW g Z A post rc rs h pc ls (.null :: st) := by
  obtain ⟨hx, hb, -⟩ := ok
  exact fun H locs la n k hH hD hS hL hn hk => lv_ifnullN hx hb hd ht (kk H locs la n k hH hD hS hL hn hk)
theorem g_tableOut (ok : q_ok g Z A own name cc nL ret d) {dflt lo hi : Int} {offs : Array Int} {len : Nat} {x : Int32} {tgt : Nat} (hd : decode cc pc = .ok (.tableswitch dflt lo hi offs, len)) (ho : x.toInt < lo ∨ hi < x.toInt) (ht : (pc : Int) + dflt = (tgt : Int)) (kk : GW g Z A post rc rs h tgt ls st) : GW g Z A post rc rs h pc ls (.int x :: st) := by
  obtain ⟨hx, hb, -⟩ := ok
  exact fun H locs la n k hH hD hS hL hn hk => lv_tableOut hx hb hd ho ht (kk H locs la n k hH hD hS hL hn hk)
theorem g_tableIn (ok : q_ok g Z A own name cc nL ret d) {dflt lo hi : Int} {offs : Array Int} {len : Nat} {x : Int32} {off : Int} {tgt : Nat} (hd : decode cc pc = .ok (.tableswitch dflt lo hi offs, len)) (h1 : ¬ x.toInt < lo) (h2 : ¬ hi < x.toInt) (ho : offs[(x.toInt - lo).toNat]? = some off) (ht : (pc : Int) + off = (tgt : Int)) (kk : GW g Z A post rc rs h tgt ls st) : GW g Z A post rc rs h pc ls (.int x :: st) := by
  obtain ⟨hx, hb, -⟩ := ok
  exact fun H locs la n k hH hD hS hL hn hk => lv_tableIn hx hb hd h1 h2 ho ht (kk H locs la n k hH hD hS hL hn hk)
theorem g_ldc (ok : q_ok g Z A own name cc nL ret d) {index : Nat} {v : Int32} (hd : decode cc pc = .ok (.ldc index, 2)) (hp : pc + 2 = pc') (hw : Cond.constant own index v ∈ q_T) (kk : GW g Z A post rc rs h pc' ls (.int v :: st)) : GW g Z A post rc rs h pc ls st := by
  obtain ⟨hx, hb, hml, hown, hts, -⟩ := ok
  subst hp
  exact fun H locs la n k hH hD hS hL hn hk => lv_ldc hx hb hown (hts _ hw) hd (kk H locs la n k hH hD hS hL hn hk)
/-! ===== ends ===== -/
theorem wq_mono {p : Program} {l : Launch} {e : Env} {R : Room} {s : State} {m : MethodId} {args : Array Value} {below : List Frame} {meth : Method} {c : Code} {H : Heap} {locs : List Loc} {n k : Nat} {Q Q' : State → Prop} {f : JFrame} (hq : ∀ t, Q t → Q' t) (w : W p l e R s m args below meth c H locs n k Q f) : W p l e R s m args below meth c H locs n k Q' f := fun T hT X => by
  obtain ⟨t, a, b⟩ := w T hT X
  exact ⟨t, a, hq t b⟩
theorem q_fin {H : Heap} {locs : List Loc} {n k : Nat} {v : Option Value} (hq : post (.inl v) h) (hH : q_HR g h H) (hD : ∀ (a : Nat) (o : q_O), h a = some o → A a) (hS : va_S A (zs Z).heap H locs) (hn : n + rc ≤ (zR Z).cells) (hk : k + rs ≤ (zR Z).slots) (t : State) (hm : MQ (zb Z) (fun _ _ o t => o = .returned v ∧ t.heap = H) (za Z) (zs Z) n k A t) : q_Q g Z A post t := by
  obtain ⟨o, h1, h2, ⟨rfl, e2⟩, L, ⟨-, hW, hfr⟩, hL⟩ := hm
  refine ⟨_, h1, h2, ⟨.inl v, h, rfl, hq, by rw [e2]; exact hH, hD⟩, hS.F e2, hW, L, hfr.mono (by omega) (by omega), hL⟩
theorem g_iret (ok : q_ok g Z A own name cc nL ret d) {v : Int32} {ty : FieldType} (hd : decode cc pc = .ok (.ireturn, 1)) (hr : ret = some ty) (hv : narrow ty (.int v) = .int v) (hq : post (.inl (some (.int v))) h) : GW g Z A post rc rs h pc ls [.int v] := by
  obtain ⟨hx, hb, -, -, -, -, -, hlk, hrt, -⟩ := ok
  intro H locs la n k hH hD hS hL hn hk
  exact wq_mono (q_fin hq hH hD hS hn hk) (W.zret hx hb (hrt.trans hr) hv (fun t ht _ => ⟨rfl, ht⟩) hS.2.2 hd hlk)
theorem g_vret (ok : q_ok g Z A own name cc nL ret d) (hd : decode cc pc = .ok (.return_, 1)) (hr : ret = none) (hq : post (.inl none) h) : GW g Z A post rc rs h pc ls [] := by
  obtain ⟨hx, hb, -, -, -, -, -, hlk, hrt, -⟩ := ok
  intro H locs la n k hH hD hS hL hn hk
  exact wq_mono (q_fin hq hH hD hS hn hk) (W.vret hx hb (hrt.trans hr) (fun t ht _ => ⟨rfl, ht⟩) hS.2.2 hd hlk)
theorem g_aret (ok : q_ok g Z A own name cc nL ret d) {v : Value} {ty : FieldType} (hd : decode cc pc = .ok (.areturn, 1)) (hr : ret = some ty) (hty : (∃ n, ty = .object n) ∨ ∃ t, ty = .array t) (hv : v = .null ∨ ∃ a, v = .ref a) (hq : post (.inl (some v)) h) : GW g Z A post rc rs h pc ls [v] := by
  obtain ⟨hx, hb, -, -, -, -, -, hlk, hrt, -⟩ := ok
  intro H locs la n k hH hD hS hL hn hk
  exact wq_mono (q_fin hq hH hD hS hn hk) (W.aret hx hb (hrt.trans hr) hty hv (fun t ht _ => ⟨rfl, ht⟩) hS.2.2 hd hlk)
end GWR
end
section
/-! ===== rows that read and write the view ===== -/
theorem q_HR.set {g : q_G} {h : q_H} {H H' : Heap} {a : Nat} {o o' : q_O} (hH : q_HR g h H) (ha : h a = some o) (hz : H'.size = H.size) (ho : ∀ q : Nat, q ≠ a → H'[q]? = H[q]?) (h1 : va_at g.1 q_cl (a, q_E g o') H') : q_HR g (q_up h a o') H' := by
  obtain ⟨h1b, h2b, h3b⟩ := hH
  have hba := (h3b a o ha).1
  refine ⟨by rw [hz]; exact h1b, fun q hq => ?_, fun b x hb => ?_⟩
  · rw [ho q (fun e => by omega)]
    exact h2b q hq
  · by_cases e : b = a
    · subst e
      rw [q_up_s] at hb
      cases hb
      exact ⟨hba, h1⟩
    · rw [q_up_n e] at hb
      obtain ⟨u1, u2⟩ := h3b b x hb
      exact ⟨u1, u2.kept (ho b e)⟩
theorem q_HR.push {g : q_G} {h : q_H} {H H' : Heap} {o : q_O} (hH : q_HR g h H) (ho : ∀ q : Nat, q < H.size → H'[q]? = H[q]?) (hz : H'.size = H.size + 1) (h1 : va_at g.1 q_cl (H.size, q_E g o) H') : q_HR g (q_up h H.size o) H' := by
  obtain ⟨h1b, h2b, h3b⟩ := hH
  refine ⟨by omega, fun q hq => ?_, fun b x hb => ?_⟩
  · rw [ho q (by omega)]
    exact h2b q hq
  · by_cases e : b = H.size
    · subst e
      rw [q_up_s] at hb
      cases hb
      exact ⟨h1b, h1⟩
    · rw [q_up_n e] at hb
      obtain ⟨u1, u2⟩ := h3b b x hb
      exact ⟨u1, u2.kept (ho b u2.lt)⟩
theorem q_HR.fresh {g : q_G} {h : q_H} {H : Heap} (hH : q_HR g h H) : h H.size = none := by
  cases e : h H.size with
  | none => rfl
  | some o => exact absurd (hH.2.2 _ _ e).2.lt (Nat.lt_irrefl _)
theorem q_HR.one {g : q_G} {h : q_H} {H : Heap} {a : Nat} {o : q_O} (hH : q_HR g h H) (ha : h a = some o) : va_P g.1 q_cl [(a, q_E g o)] H := by
  intro k q hq
  have hz : k < 1 := (List.getElem?_eq_some_iff.mp hq).1
  rw [show k = 0 by omega] at hq
  cases hq
  exact (hH.2.2 a o ha).2
theorem q_S.put {A : Nat → Prop} {H0 H H1 : Heap} {locs : List Loc} {a k : Nat} (h : va_S A H0 H locs) (z : H1.size = H.size) (oq : ∀ q : Nat, q ≠ a → H1[q]? = H[q]?) (ha : A a) : va_S A H0 H1 (locs ++ [⟨a, k⟩]) := va_S.put h z oq ha
theorem q_S.push {A : Nat → Prop} {H0 H H1 : Heap} {locs : List Loc} (hS : va_S A H0 H locs) (o1 : ∀ q : Nat, q < H.size → H1[q]? = H[q]?) (z : H1.size = H.size + 1) : va_S A H0 H1 locs := ⟨Nat.le_trans hS.1 (by omega), fun x h1 h2 => (o1 x (Nat.lt_of_lt_of_le h1 hS.1)).trans (hS.2.1 x h1 h2), hS.2.2⟩
theorem q_dom_up {A : Nat → Prop} {h : q_H} {a : Nat} {o : q_O} (hD : ∀ (b : Nat) (x : q_O), h b = some x → A b) (ha : A a) : ∀ (b : Nat) (x : q_O), q_up h a o b = some x → A b := by
  intro b x hb
  by_cases e : b = a
  · rw [e]; exact ha
  · rw [q_up_n e] at hb; exact hD b x hb
/-- the entry 'index' of own names field k of class ci: its type t, final or not -/
def q_FL (own : String) (index ci k : Nat) (t : FieldType) (fin : Bool) : Prop := ∃ (C : String) (T : u_T) (N : Nat) (ref : String) (ty : Nat → FieldType), q_cl[ci]? = some (C, T, N) ∧ (∀ w ∈ u_ws C T N, w ∈ q_T) ∧ k < N ∧ Cond.fieldLink own index ref (T k).2.1 (T k).2.2.1 ∈ q_T ∧ (ref = (T k).1 ∨ Cond.sameField ref (T k).1 (T k).2.1 (T k).2.2.1 ∈ q_T) ∧ (∀ k, k < N → parseFieldDescriptor (T k).2.2.1 = some (ty k)) ∧ (∀ a, a < N → ∀ b, b < N → a ≠ b → (T a).2.1 ≠ (T b).2.1) ∧ parseFieldDescriptor (T k).2.2.1 = some t ∧ (T k).2.2.2 = fin ∧ (fin = true → (T k).1 = own)
/-- the entry 'index' of own names class ci, which has N fields, fs when it is new -/
def q_NL (own : String) (index ci N : Nat) (fs : List Value) : Prop := ∃ (C : String) (T : u_T) (ty : Nat → FieldType), q_cl[ci]? = some (C, T, N) ∧ (∀ w ∈ u_ws C T N, w ∈ q_T) ∧ Cond.classLink own index C ∈ q_T ∧ Cond.instantiable C N ∈ q_T ∧ Cond.initialized C ∈ q_T ∧ (∀ k, k < N → parseFieldDescriptor (T k).2.2.1 = some (ty k)) ∧ (∀ j, j < N → defaultValue (ty j) = vp_V fs j)
section GWH
variable {g : q_G} {Z : q_Z} {A : Nat → Prop} {post : q_R → q_H → Prop} {rc rs : Nat} {h : q_H} {pc pc' : Nat} {ls : List (Option Value)} {st : List Value} {own name : String} {cc : ByteArray} {nL d : Nat} {ret : Option FieldType}
theorem g_get (ok : q_ok g Z A own name cc nL ret d) {index ci k a : Nat} {t : FieldType} {fin : Bool} {fs : List Value} {v : Value} (hd : decode cc pc = .ok (.getfield index, 3)) (hp : pc + 3 = pc') (hf : q_FL own index ci k t fin) (ha : h a = some (.inl (ci, fs))) (hv : fs[k]? = some v) (kk : GW g Z A post rc rs h pc' ls (v :: st)) : GW g Z A post rc rs h pc ls (.ref a :: st) := by
  obtain ⟨hx, hb, hml, hown, hts, hK, -⟩ := ok
  obtain ⟨C, T, N, ref, ty, hc, hin, hk, hw, hsm, -⟩ := hf
  subst hp
  intro H locs la n k' hH hD hS hL hn hk'
  refine va_get hx hb hts hin hown hK.1 (hH.one ha) 0 rfl hc k hk (hts _ hw) ?_ hv hd (kk H locs la n k' hH hD hS hL hn hk')
  intro x hx'
  rcases hsm with e | e
  · rw [e]; exact hx'
  · exact u_same (hts _ e) x hx'
theorem g_put (ok : q_ok g Z A own name cc nL ret d) {index ci k a : Nat} {t : FieldType} {fin : Bool} {fs : List Value} {v : Value} (hd : decode cc pc = .ok (.putfield index, 3)) (hp : pc + 3 = pc') (hf : q_FL own index ci k t fin) (hfn : fin = false ∨ name = "<init>") (ha : h a = some (.inl (ci, fs))) (hl : k < fs.length) (hnr : narrow t v = v) (hfit : fits t v = true) (kk : GW g Z A post rc rs (q_up h a (.inl (ci, fs.set k v))) pc' ls st) : GW g Z A post rc rs h pc ls (v :: .ref a :: st) := by
  obtain ⟨hx, hb, hml, hown, hts, hK, -, -, -, hnm, -⟩ := ok
  obtain ⟨C, T, N, ref, ty0, hc, hin, hk, hw, hsm, hty, hap0, hdt, hfin, hdecl⟩ := hf
  subst hp
  intro H locs la n k' hH hD hS hL hn hk'
  have hsame : ∀ x, (zs Z).fieldFound? (T k).1 (T k).2.1 (T k).2.2.1 = some x → (zs Z).fieldFound? ref (T k).2.1 (T k).2.2.1 = some x := by
    intro x hx'
    rcases hsm with e | e
    · rw [e]; exact hx'
    · exact u_same (hts _ e) x hx'
  have hap := va_apart (own := own) hts hin ty0 hty hap0 hK.1 hc
  obtain ⟨r, h1, cell, q1, q2, q3, q4⟩ := (hH.2.2 a _ ha).2
  have hr : r = (C, T, N) := Option.some.inj (h1.symm.trans hc)
  subst hr
  obtain ⟨hSl, hfc, kC, hkC, hkind⟩ := hK.1.1 ci _ hc
  obtain ⟨cf, kf, fi, f, hi, hsl⟩ := hSl k hk
  have hlay := hts _ (hin _ (u_in_lay hk))
  have hst := (u_facts hfc hkC (u_lays hts hin hk) hi).1
  have done : ∀ H' : Heap, H'[a]? = some (cell.setSlot f.slot v) → H'.size = H.size → (∀ q : Nat, q ≠ a → H'[q]? = H[q]?) → W (zp Z) (zl Z) (ze Z) (zR Z) (zs Z) (zm Z) (za Z) (zb Z) (zM Z) (zc Z) H' (locs ++ [⟨a, f.slot⟩]) n k' (q_Q g Z A post) (F0 (zm Z) (pc + 3) la st) := by
    intro H' e1 e2 e3
    rw [hsl] at e1
    refine kk H' _ la n k' (hH.set ha e2 e3 ?_) (q_dom_up hD (hD a _ ha)) (hS.put e2 e3 (hD a _ ha)) hL hn hk'
    exact ⟨_, hc, t_OB.to (V := updV (vp_V fs) k v) ⟨_, e1, q2, q3, t_set q4 hap hk v⟩ (fun j _ => vp_updV_set hl v j)⟩
  unfold u_lay at hlay
  cases hfe : fin with
  | false =>
    rw [if_neg (by rw [hfin, hfe]; decide)] at hlay
    have h6 := u_store hfc hkC hkind hlay hi hdt hnr hfit
    exact W.putK hx hb (f := f) ⟨hown, hts _ hw, ⟨_, _, _, hsame _ hi⟩, hst⟩ (by rw [q2]; exact h6) q1 q3 (by rw [hsl]; exact k2_hasslot (q4 k hk)) rfl rfl hd done
  | true =>
    rw [if_pos (by rw [hfin, hfe])] at hlay
    have hin2 : (zM Z).name = "<init>" := by
      rcases hfn with e | e
      · rw [hfe] at e; cases e
      · rw [hnm, e]
    have hcf : (zm Z).cls = cf := by
      obtain ⟨_, _, c', _, _, _, -, -, hf', -, -, -, hown2, -⟩ := Cond.laysFinal_spec hlay
      have e1 : c' = cf := by have := hi.symm.trans hf'; simp at this; exact this.1.symm
      rw [hdecl hfe] at hown2
      rw [← e1]; exact Option.some.inj (hown.symm.trans hown2)
    have h6 := u_fits hfc hkC hkind (Or.inr hlay) hi hdt hnr hfit
    exact W.putFinK hx hb hown (hts _ hw) (hsame _ hi) hst hcf hin2 (by rw [q2]; exact h6) q1 q3 (by rw [hsl]; exact k2_hasslot (q4 k hk)) rfl rfl hd done
theorem g_iald (ok : q_ok g Z A own name cc nL ret d) {a N j : Nat} {f : Nat → Int32} (hd : decode cc pc = .ok (.iaload, 1)) (hp : pc + 1 = pc') (ha : h a = some (.inr (0, N, .inl f))) (hj : j < N) (hN : N < 2 ^ 31) (kk : GW g Z A post rc rs h pc' ls (.int (f j) :: st)) : GW g Z A post rc rs h pc ls (.int (nI j) :: .ref a :: st) := by
  obtain ⟨hx, hb, hml, hown, hts, hK, -⟩ := ok
  subst hp
  intro H locs la n k hH hD hS hL hn hk
  refine va_iald hx hb hK.1 (hH.one ha) 0 0 rfl rfl (vp_in_nI hj hN) hd ?_
  rw [nI_clamp (by omega)]
  exact kk H locs la n k hH hD hS hL hn hk
theorem g_zald (ok : q_ok g Z A own name cc nL ret d) {a N j : Nat} {f : Nat → Int32} (hd : decode cc pc = .ok (.baload, 1)) (hp : pc + 1 = pc') (ha : h a = some (.inr (1, N, .inl f))) (hj : j < N) (hN : N < 2 ^ 31) (kk : GW g Z A post rc rs h pc' ls (.int (f j) :: st)) : GW g Z A post rc rs h pc ls (.int (nI j) :: .ref a :: st) := by
  obtain ⟨hx, hb, hml, hown, hts, hK, -⟩ := ok
  subst hp
  intro H locs la n k hH hD hS hL hn hk
  refine va_zald hx hb hK.1 (hH.one ha) 0 1 rfl rfl (vp_in_nI hj hN) hd ?_
  rw [nI_clamp (by omega)]
  exact kk H locs la n k hH hD hS hL hn hk
theorem g_aald (ok : q_ok g Z A own name cc nL ret d) {a N j : Nat} {f : Nat → Option Nat} (hd : decode cc pc = .ok (.aaload, 1)) (hp : pc + 1 = pc') (ha : h a = some (.inr (2, N, .inr (.inr (.inr (.inr f)))))) (hj : j < N) (hN : N < 2 ^ 31) (kk : GW g Z A post rc rs h pc' ls (va_rf (f j) :: st)) : GW g Z A post rc rs h pc ls (.int (nI j) :: .ref a :: st) := by
  obtain ⟨hx, hb, hml, hown, hts, hK, -⟩ := ok
  subst hp
  intro H locs la n k hH hD hS hL hn hk
  refine va_aldq hx hb hK.1 (hH.one ha) 0 2 (C := "java/lang/Object") rfl rfl (vp_in_nI hj hN) hd ?_
  rw [nI_clamp (by omega)]
  exact kk H locs la n k hH hD hS hL hn hk
theorem g_alen (ok : q_ok g Z A own name cc nL ret d) {a i : Nat} {x : vp_A} {ty : FieldType} (hd : decode cc pc = .ok (.arraylength, 1)) (hp : pc + 1 = pc') (ha : h a = some (.inr (i, x))) (hi : (q_tys g)[i]? = some (q_dA g i, ty)) (kk : GW g Z A post rc rs h pc' ls (.int (nI x.1) :: st)) : GW g Z A post rc rs h pc ls (.ref a :: st) := by
  obtain ⟨hx, hb, hml, hown, hts, hK, -⟩ := ok
  subst hp
  intro H locs la n k hH hD hS hL hn hk
  exact va_alen hx hb hK.1 (hH.one ha) 0 i rfl hi rfl hd (kk H locs la n k hH hD hS hL hn hk)
theorem g_iast (ok : q_ok g Z A own name cc nL ret d) {a N j : Nat} {f : Nat → Int32} {x : Int32} (hd : decode cc pc = .ok (.iastore, 1)) (hp : pc + 1 = pc') (ha : h a = some (.inr (0, N, .inl f))) (hj : j < N) (hN : N < 2 ^ 31) (kk : GW g Z A post rc rs (q_up h a (.inr (0, N, .inl (upd f j x)))) pc' ls st) : GW g Z A post rc rs h pc ls (.int x :: .int (nI j) :: .ref a :: st) := by
  obtain ⟨hx, hb, hml, hown, hts, hK, -⟩ := ok
  subst hp
  intro H locs la n k hH hD hS hL hn hk
  refine W.iast hx hb ((hH.2.2 a _ ha).2) ((hK.1.2 0 _ rfl).1 N (fun j => .int (f j))) (fun q => by cases q) (by show ¬ (nI j < 0 ∨ (arrV _ _ _).slots.size ≤ _); rw [arrV_size]; exact vp_in_nI hj hN) rfl rfl hd fun H1 e z oq => ?_
  refine kk H1 _ la n k (hH.set ha z oq ?_) (q_dom_up hD (hD a _ ha)) (hS.put z oq (hD a _ ha)) hL hn hk
  show H1[a]? = some (vp_cell _ _)
  rw [e, nI_clamp (by omega)]
  show some ((vp_cell _ _).setSlot _ _) = _
  rw [vp_cell_i, vp_cell_i, arrV_store]
  congr 2
  funext q
  by_cases hq : q = j
  · subst hq
    simp [updV, upd]
  · simp [updV, upd, hq]
theorem g_zast (ok : q_ok g Z A own name cc nL ret d) {a N j : Nat} {f : Nat → Int32} {x : Int32} (hd : decode cc pc = .ok (.bastore, 1)) (hp : pc + 1 = pc') (ha : h a = some (.inr (1, N, .inl f))) (hj : j < N) (hN : N < 2 ^ 31) (hx01 : narrow .boolean (.int x) = .int x) (kk : GW g Z A post rc rs (q_up h a (.inr (1, N, .inl (upd f j x)))) pc' ls st) : GW g Z A post rc rs h pc ls (.int x :: .int (nI j) :: .ref a :: st) := by
  obtain ⟨hx, hb, hml, hown, hts, hK, -⟩ := ok
  subst hp
  intro H locs la n k hH hD hS hL hn hk
  refine W.zast hx hb ((hH.2.2 a _ ha).2) ((hK.1.2 1 _ rfl).1 N (fun j => .int (f j))) (fun q => by cases q) (by show ¬ (nI j < 0 ∨ (arrV _ _ _).slots.size ≤ _); rw [arrV_size]; exact vp_in_nI hj hN) rfl rfl hd fun H1 e z oq => ?_
  refine kk H1 _ la n k (hH.set ha z oq ?_) (q_dom_up hD (hD a _ ha)) (hS.put z oq (hD a _ ha)) hL hn hk
  show H1[a]? = some (vp_cell _ _)
  rw [e, nI_clamp (by omega), hx01]
  show some ((vp_cell _ _).setSlot _ _) = _
  rw [vp_cell_i, vp_cell_i, arrV_store]
  congr 2
  funext q
  by_cases hq : q = j
  · subst hq
    simp [updV, upd]
  · simp [updV, upd, hq]
theorem g_new (ok : q_ok g Z A own name cc nL ret d) {index ci N : Nat} {fs : List Value} (hd : decode cc pc = .ok (.new index, 3)) (hp : pc + 3 = pc') (hf : q_NL own index ci N fs) {rc' rs' : Nat} (hc1 : rc' + 1 ≤ rc) (hs1 : rs' + N ≤ rs) (kk : ∀ q : Nat, h q = none → q_bs g ≤ q → GW g Z A post rc' rs' (q_up h q (.inl (ci, fs))) pc' ls (.ref q :: st)) : GW g Z A post rc rs h pc ls st := by
  obtain ⟨hx, hb, hml, hown, hts, hK, hA, -⟩ := ok
  obtain ⟨C, T, ty, hc, hin, hcl, hinst, hini, hty, hfs⟩ := hf
  subst hp
  intro H locs la n k hH hD hS hL hn hk
  have hKn := hK.1.1 ci _ hc
  refine W.newcK hx hb hown (hts _ hcl) (hts _ hinst) (hts _ hini) rfl hd (by omega) (by omega) hKn.2.1 rfl fun H1 kC hkC e1 z1 o1 => ?_
  refine kk H.size hH.fresh hH.1 H1 locs la (n + 1) (k + N) (hH.push o1 z1 ?_) (q_dom_up hD (hA _ hS.1)) (q_S.push hS o1 z1) hL (by omega) (by omega)
  exact ⟨_, hc, (u_born ty hts hin hKn hkC e1 hty).to hfs⟩
theorem g_newa (ok : q_ok g Z A own name cc nL ret d) {at' : ArrayType} {i N : Nat} {ty : FieldType} (hd : decode cc pc = .ok (.newarray at', 2)) (hp : pc + 2 = pc') (hty : newarray.typeOf at' = ty) (hi : (i = 0 ∧ ty = .int) ∨ (i = 1 ∧ ty = .boolean)) (hN : N * 4 ≤ 536870912) {rc' rs' : Nat} (hc1 : rc' + 1 ≤ rc) (hs1 : rs' + N ≤ rs) (kk : ∀ q : Nat, h q = none → q_bs g ≤ q → GW g Z A post rc' rs' (q_up h q (.inr (i, N, .inl (fun _ => 0)))) pc' ls (.ref q :: st)) : GW g Z A post rc rs h pc ls (.int (nI N) :: st) := by
  obtain ⟨hx, hb, hml, hown, hts, hK, hA, -⟩ := ok
  subst hp
  subst hty
  intro H locs la n k hH hD hS hL hn hk
  have hw : Cond.arrayClass (newarray.typeOf at') ∈ q_T := by
    rcases hi with ⟨-, e⟩ | ⟨-, e⟩
    · rw [e]; exact q_T_in 54 (by decide +kernel) rfl
    · rw [e]; exact q_T_in 1051 (by decide +kernel) rfl
  have hcb : N * componentBytes (newarray.typeOf at') ≤ 536870912 := by
    rcases hi with ⟨-, e⟩ | ⟨-, e⟩
    · rw [e]; exact hN
    · rw [e]; show N * 1 ≤ _; omega
  refine va_newaK hx hb (hts _ hw) rfl hd rfl (nI_pos (by omega)) (nI_clamp (by omega)) hcb (by omega) (by omega) rfl fun H1 cA e1 z1 o1 hAr hNm => ?_
  refine kk H.size hH.fresh hH.1 H1 locs la (n + 1) (k + N) (hH.push o1 z1 ?_) (q_dom_up hD (hA _ hS.1)) (q_S.push hS o1 z1) hL (by omega) (by omega)
  have hcA : cA = q_dA g i := by
    rcases hi with ⟨rfl, e⟩ | ⟨rfl, e⟩
    · have h1 := (hK.1.2 0 _ rfl).2
      rw [e] at hNm
      exact Option.some.inj (hNm.symm.trans h1)
    · have h1 := (hK.1.2 1 _ rfl).2
      rw [e] at hNm
      exact Option.some.inj (hNm.symm.trans h1)
  subst hcA
  show H1[H.size]? = some (vp_cell _ _)
  rw [vp_cell_i, e1]
  rcases hi with ⟨rfl, e⟩ | ⟨rfl, e⟩ <;> rw [e] <;> rfl
end GWH
end
section
/-! ===== contracts over views, and calls of them ===== -/
theorem q_lays_same {C n d : String} {A A' : Array Value} {s t : State} {H : Heap} (h : (Cond.laysStatic C n d).before A (({ s with heap := H } : State).setVm t.vm) = true) : (Cond.laysStatic C n d).before A' ({ t with heap := H } : State) = true := by
  obtain ⟨c, k, i, f, a, cell, hc, hi, hst, ha, hcell, hs, hcls, hlt, hty⟩ := Cond.laysStatic_spec h
  exact Cond.laysStatic_of (s := ({ t with heap := H } : State)) hc hi hst ha hcell hs hcls hlt hty
theorem q_K.moved {g : q_G} {u U : State} (hW : u.WarmedH U.vm) (h : q_K g u) : q_K g U := by
  have hvm := hW.alike
  obtain ⟨h1, h2, ⟨cell, h3, h4, h5⟩, h6, h7, h8, h9, h10, h11, h12, h13, h14, h15⟩ := h
  refine ⟨h1.moved hvm, h2.moved hvm, ⟨cell, h3, State.isArrayOf_alike hvm h4, h5⟩, fun q hq => (h6 q hq).moved hvm, h7.moved hvm, h8.moved hvm, h9.moved hvm, fun q hq => by
    obtain ⟨a, ha⟩ := h10 q hq
    exact ⟨a, ha.warm hW⟩, h11, fun w hw => q_X_warm (List.mem_filter.mp hw).2 hW (h12 w hw), ?_, ?_, h15.moved hvm⟩
  · exact Cond.laysStatic_setVm (s := ({ u with heap := q_Hb g } : State)) hvm h13 |> q_lays_same
  · exact Cond.laysStatic_setVm (s := ({ u with heap := q_Hb g } : State)) hvm h14 |> q_lays_same
def q_A (h : q_H) (sz : Nat) : Nat → Prop := fun q => (∃ o, h q = some o) ∨ sz ≤ q
abbrev q_rm (d mc ms : Nat) : Room := { frames := d, cells := mc, slots := ms, locals := 64 * d }
def q_Pc (g : q_G) (av : List Value) (h : q_H) (sz : Nat) : Array Value → State → Prop := fun v U => v = av.toArray ∧ U.heap.size = sz ∧ q_HR g h U.heap ∧ q_K g U
/-- the contract of y over the view h: d frames deep, at most mc cells of ms slots made -/
def MG (g : q_G) (y : MethodName) (cc : ByteArray) (nL : Nat) (ret : Option FieldType) (d mc ms : Nat) (av : List Value) (h : q_H) (post : q_R → q_H → Prop) : Prop :=
  ∀ l : Launch, (∀ e, l.admits e → e.platform.stackTraces = false) → ∀ sz : Nat, MetFree l y (headSpec (Cond.code y cc nL ret :: q_T) (q_rm d mc ms)) (q_Pc g av h sz) (fun _ _ _ _ _ => True) (fun _ st oc t => q_Qc g h sz mc ms (q_A h sz) post st oc t)
theorem MG.mono {g : q_G} {y : MethodName} {cc : ByteArray} {nL : Nat} {ret : Option FieldType} {d mc ms : Nat} {av : List Value} {h : q_H} {post post' : q_R → q_H → Prop} (hM : MG g y cc nL ret d mc ms av h post) (hp : ∀ r h', post r h' → post' r h') : MG g y cc nL ret d mc ms av h post' := by
  intro l hl sz p e ha hc hk s m args below hf happ hP hK
  obtain ⟨n, o, h1, h2, h3, ⟨r, h', a1, a2, a3⟩, h5⟩ := hM l hl sz p e ha hc hk s m args below hf happ hP hK
  exact ⟨n, o, h1, h2, h3, ⟨r, h', a1, hp r h' a2, a3⟩, h5⟩
theorem q_entry_at {vs : List Value} {n i : Nat} {x : Slot} (h : (vs.map Slot.val ++ List.replicate n Slot.unset).toArray[i]? = some x) : (∃ v, vs[i]? = some v ∧ x = .val v) ∨ x = .unset := by
  rw [List.getElem?_toArray] at h
  by_cases hi : i < vs.length
  · rw [List.getElem?_append_left (by rw [List.length_map]; exact hi), List.getElem?_map] at h
    cases e : vs[i]? with
    | none => rw [e] at h; cases h
    | some v =>
      rw [e] at h
      exact Or.inl ⟨v, rfl, (Option.some.inj h).symm⟩
  · rw [List.getElem?_append_right (by rw [List.length_map]; omega)] at h
    exact Or.inr (List.eq_of_mem_replicate (List.mem_of_getElem? h))
theorem q_LR_entry (vs : List Value) (n : Nat) (hc : ∀ v ∈ vs, v.category = 1) (hn : vs.length ≤ n) : q_LR (vs.map some ++ List.replicate (n - vs.length) none) ((vs.map Slot.val ++ List.replicate (n - vs.length) Slot.unset).toArray) := by
  refine ⟨by simp, ⟨fun i v hi hc2 => ?_, fun i hi => ?_⟩, fun i v hi => ?_⟩
  · rcases q_entry_at hi with ⟨w, h1, h2⟩ | h2
    · cases h2
      rw [hc _ (List.mem_of_getElem? h1)] at hc2
      cases hc2
    · cases h2
  · rcases q_entry_at hi with ⟨w, h1, h2⟩ | h2 <;> cases h2
  · by_cases hl : i < vs.length
    · rw [List.getElem?_append_left (by rw [List.length_map]; exact hl), List.getElem?_map] at hi
      cases e : vs[i]? with
      | none => rw [e] at hi; cases hi
      | some w =>
        rw [e] at hi
        have hw : w = v := Option.some.inj (Option.some.inj hi)
        subst hw
        refine ⟨hc _ (List.mem_of_getElem? e), ?_⟩
        rw [List.getElem?_toArray, List.getElem?_append_left (by rw [List.length_map]; exact hl), List.getElem?_map, e]
        rfl
    · rw [List.getElem?_append_right (by rw [List.length_map]; omega)] at hi
      cases List.eq_of_mem_replicate (List.mem_of_getElem? hi)
theorem MG.of {g : q_G} {y : MethodName} {cc : ByteArray} {nL : Nat} {ret : Option FieldType} {d mc ms : Nat} {av : List Value} {h : q_H} {post : q_R → q_H → Prop} (hy : plainName y.cls = true) (hcat : ∀ v ∈ av, v.category = 1) (hlen : av.length ≤ nL)
    (body : ∀ (Z : q_Z) (A : Nat → Prop), q_ok g Z A y.cls y.name cc nL ret d → GW g Z A post mc ms h 0 (av.map some ++ List.replicate (nL - av.length) none) []) : MG g y cc nL ret d mc ms av h post := by
  intro l hl sz
  refine MetFree.of_bodyS (code := cc) (maxLocals := nL) (ret := ret) hy ?_ ?_
  · intro args s m hpre hn
    obtain ⟨meth, c, h1, h2, h3, h4, h5, h6, -, -⟩ := Cond.code_spec hn (atoms_spec (ws := Cond.code y cc nL ret :: q_T) hpre _ List.mem_cons_self)
    exact ⟨meth, c, h1, h2, h3, h4, h5, h6⟩
  · intro p e s m args below meth c s₁ B hml hP _
    obtain ⟨rfl, hsz, hH, hK⟩ := hP
    have hts0 := atoms_spec (ws := Cond.code y cc nL ret :: q_T) B.pre
    have hts : ∀ w ∈ q_T, w.before av.toArray s = true := fun w hw => hts0 w (List.mem_cons_of_mem _ hw)
    have X := Stand.of_body B
    have hnh : ∀ x ∈ c.exceptionTable.toList, ∀ q, covers x q = false := by
      obtain ⟨meth', c', g1, g2, g3, g4, g5, g6, g7, g8⟩ := Cond.code_spec B.named (hts0 _ List.mem_cons_self)
      cases B.method.symm.trans g1
      cases X.code.symm.trans g2
      intro x hx
      simp_all
    have hok : q_ok g (p, l, e, q_rm d mc ms, s, m, av.toArray, below, meth, c) (q_A h sz) y.cls y.name cc nL ret d := by
      refine ⟨B.exec, B.bytes, hml, findClass_of_methodNamed B.named, hts, hK, fun q hq => Or.inr (by rw [← hsz]; exact hq), B.notSynchronized, B.returns, (name_of_methodNamed B.named B.method).1, Nat.le_refl _, Nat.le_refl _, X.code, hl, hH.1, fun q hq => ?_, hnh, fun q cell hq hc => ?_⟩
      · rcases hq with ⟨o, ho⟩ | hq
        · exact (hH.2.2 q o ho).1
        · have := hH.1
          omega
      · rcases hq with ⟨o, ho⟩ | hq
        · have h1 := (hH.2.2 q o ho).2
          cases o with
          | inl x =>
            obtain ⟨r, -, cell', g1, -, g3, -⟩ := h1
            cases hc.symm.trans g1
            rw [g3]; rfl
          | inr x =>
            have g1 : s.heap[q]? = some (vp_cell (q_dA g x.1) x.2) := h1
            cases hc.symm.trans g1
            obtain ⟨i, n, f | f | f | f | f⟩ := x <;> rfl
        · have := (Array.getElem?_eq_some_iff.mp hc).1
          rw [hsz] at this
          omega
    have hh0 : s₁.heap = s.heap := by rw [B.state]; rfl
    have K := body _ _ hok s.heap [] _ 0 0 hH (fun a o ha => Or.inl ⟨o, ha⟩) va_S.rf (q_LR_entry av nL hcat hlen) (by simp) (by simp)
    obtain ⟨t, a1, oc, b1, b2, b3⟩ := K s₁ hh0 X
    refine ⟨t, oc, ?_, b1, b2, b3⟩
    rw [entry_eq m av hcat nL]
    exact a1
end
section
/-! ===== a callee's contract, at the call: it comes back, or throws ===== -/
theorem q_S_call {A Ay : Nat → Prop} {H0 H H1 : Heap} {locs L : List Loc} (hS : va_S A H0 H locs) (hAy : ∀ q, Ay q → A q) (hz : H.size ≤ H1.size) (hk : ∀ q : Nat, q < H.size → ¬ Ay q → H1[q]? = H[q]?) (hL : ∀ q ∈ L, Ay q.base) : va_S A H0 H1 (locs ++ L) :=
  ⟨Nat.le_trans hS.1 hz, fun q h1 h2 => (hk q (Nat.lt_of_lt_of_le h1 hS.1) (fun z => h2 (hAy q z))).trans (hS.2.1 q h1 h2), fun q hq => by
    rcases List.mem_append.mp hq with h | h
    · exact hS.2.2 q h
    · exact hAy _ (hL q h)⟩
theorem q_A_in {A : Nat → Prop} {h : q_H} {H0 H : Heap} {locs : List Loc} (hD : ∀ (a : Nat) (o : q_O), h a = some o → A a) (hA : ∀ q : Nat, H0.size ≤ q → A q) (hS : va_S A H0 H locs) : ∀ q, q_A h H.size q → A q := fun q hq => by
  rcases hq with ⟨o, ho⟩ | hq
  · exact hD q o ho
  · exact hA q (Nat.le_trans hS.1 hq)
/-- what a call leaves behind: a state T' under the caller's frame, with the callee's end -/
def q_Back (p : Program) (l : Launch) (e : Env) (R : Room) (s : State) (m : MethodId) (args : Array Value) (below : List Frame) (meth : Method) (c : Code) (T : State) (locs : List Loc) (n k : Nat) (g : q_G) (Ay : Nat → Prop) (post : q_R → q_H → Prop) (S0 : State) (f : JFrame) : Prop :=
  ∃ (r : q_R) (h' : q_H) (T' : State) (L : List Loc), Stand p l e R s m args below meth c T' (locs ++ L) n k ∧ (∀ q ∈ L, Ay q.base) ∧ post r h' ∧ q_HR g h' T'.heap ∧ (∀ (a : Nat) (o : q_O), h' a = some o → Ay a) ∧ T.heap.size ≤ T'.heap.size ∧ (∀ q : Nat, q < T.heap.size → ¬ Ay q → T'.heap[q]? = T.heap[q]?) ∧
    match r with
    | .inl v => ∀ target, Steps p.tables e below (T'.setTop { f with pc := f.pc + 3, stack := v.toList ++ f.stack }) target → Steps p.tables e below S0 target
    | .inr kx => ∃ (x : Addr) (cell : Cell), T'.heap[x]? = some cell ∧ T'.vm.findClass (q_xn kx) = some cell.cls ∧ cell.vm = .none ∧ ∀ target, Steps p.tables e below ((T'.setTop f).pushFrame (.throwing x)) target → Steps p.tables e below S0 target
theorem q_call {p : Program} {l : Launch} {e : Env} {R : Room} {s : State} {m : MethodId} {args : Array Value} {below : List Frame} {meth : Method} {c : Code} {T : State} {locs : List Loc} {n k : Nat} {g : q_G} {y : MethodName} {cy : ByteArray} {ny : Nat} {ry : Option FieldType} {dy mc ms : Nat} {av : List Value} {h : q_H} {post : q_R → q_H → Prop}
    (X : Stand p l e R s m args below meth c T locs n k) (hM : MG g y cy ny ry dy mc ms av h post) (htr : ∀ e, l.admits e → e.platform.stackTraces = false)
    {f : JFrame} (hg : f.method = m) (hsize : f.locals.size = c.maxLocals) {ig : Instr} (hdg : decode c.code f.pc = .ok (ig, 3)) (hst : 2 * f.monitorRoom + (f.stack.map fun v => v.category).sum ≤ 8) {mk : MethodId} (hn : T.methodNamed? y = some mk)
    (hfr : dy + 1 ≤ R.frames) (hlo : 8 + (ny + 11) + 64 * dy ≤ R.locals) (hc1 : n + mc ≤ R.cells) (hs1 : k + ms ≤ R.slots) (hts : ∀ w ∈ q_T, w.before args s = true) (hcw : Cond.code y cy ny ry ∈ q_T) (hini : (Cond.initialized y.cls).before args s = true) (hK : q_K g s) (hH : q_HR g h T.heap) :
    q_Back p l e R s m args below meth c T locs (n + mc) (k + ms) g (q_A h T.heap.size) post (doInvoke e (T.setTop f) [] mk av.toArray).1 f := by
  have hat : At T f.method c below := by rw [hg]; exact X.here
  have hwd : ∀ w ∈ q_T, ∀ a' : Array Value, w.before a' T = true := fun w hw a' => word_at X.warmed (q_T_good hw) (hts w hw)
  obtain ⟨methY, cY, hmY, hcY, -, hlY, -⟩ := Cond.code_spec hn (hwd _ hcw av.toArray)
  obtain ⟨kY, hkY, -⟩ := className_of_methodNamed hn
  have hinitY : kY.init = .initialized := Cond.initialized_spec (findClass_of_methodNamed hn) hkY (word_at (a' := av.toArray) X.warmed (Or.inl (by first | rfl | simp [Cond.onTables, Cond.keeps, Cond.steady])) hini)
  have hpre : (headSpec (Cond.code y cy ny ry :: q_T) (q_rm dy mc ms)).pre.before av.toArray T = true := by
    refine atoms_intro fun w hw => ?_
    rcases List.mem_cons.mp hw with rfl | hw
    · exact hwd _ hcw _
    · exact hwd _ hw _
  have happ : (headSpec (Cond.code y cy ny ry :: q_T) (q_rm dy mc ms)).appliesLoose y e.platform (T.calling f mk av.toArray) = true :=
    Spec.appliesLoose_calling (g := f) hat hdg hn hkY hinitY
      (X.room_calling (g := f) (R' := q_rm dy mc ms) hsize hmY hcY hfr (by rw [hlY]; show _ + (64 * dy) ≤ _; omega) hc1 hs1) hpre
  obtain ⟨mid, hmid⟩ := hat.above
  have hfr2 : (T.setTop f).frames = (.java f :: mid) ++ below := by rw [State.frames_setTop' f hat.top, hmid]; rfl
  have hPc : q_Pc g av h T.heap.size av.toArray (T.calling f mk av.toArray) := ⟨rfl, rfl, hH, q_K.moved (u := s) X.warmed hK⟩
  obtain ⟨o, s₂, hsteps, -, hend, hq⟩ := Steps.callFree (hM l htr T.heap.size) p X.admits X.cas X.clock (acts := []) hfr2 happ hPc trivial
  rw [State.frames_setTop' f hat.top, X.tail] at hend
  have hq' : q_Qc g h T.heap.size mc ms (q_A h T.heap.size) post (T.calling f mk av.toArray) o s₂ := hq
  obtain ⟨⟨r, h', hres, hpost, hHR, hdom⟩, hF, hW₂, L, hsame, hL⟩ := hq'
  cases r with
  | inl v =>
    cases hres
    obtain ⟨T', X', -, -, ht⟩ := X.outOf hg hdg hend hW₂ hsame
    have hheap : s₂.heap = T'.heap := by rw [ht]; rfl
    refine ⟨.inl v, h', T', L, X', hL, hpost, by rw [← hheap]; exact hHR, hdom, by rw [← hheap]; exact hF.1, fun q h1 h2 => by rw [← hheap]; exact hF.2 q h1 h2, fun target hs => ?_⟩
    refine hsteps.trans ?_
    rw [ht]
    exact hs
  | inr kx =>
    obtain ⟨x, cell, rfl, hx1, hx2, hx3⟩ := hres
    obtain ⟨T', X', -, -, ht⟩ := X.outOfThrown hg hend hW₂ hsame
    have hheap : s₂.heap = T'.heap := by rw [ht]; rfl
    have hvm : s₂.vm = T'.vm := by rw [ht]; rfl
    refine ⟨.inr kx, h', T', L, X', hL, hpost, by rw [← hheap]; exact hHR, hdom, by rw [← hheap]; exact hF.1, fun q h1 h2 => by rw [← hheap]; exact hF.2 q h1 h2, x, cell, by rw [← hheap]; exact hx1, by rw [← hvm]; exact hx2, hx3, fun target hs => ?_⟩
    refine hsteps.trans ?_
    rw [ht]
    exact hs
end
section
/-! ===== the rows of calls ===== -/
def q_CS (own : String) (index : Nat) (y : MethodName) (cy : ByteArray) (ny : Nat) (ry : Option FieldType) (na : Nat) : Prop := Cond.methodLink own index y ∈ q_T ∧ Cond.static y ∈ q_T ∧ Cond.initialized y.cls ∈ q_T ∧ Cond.code y cy ny ry ∈ q_T ∧ (y.cls ≠ "java/lang/invoke/MethodHandle" ∧ y.cls ≠ "java/lang/invoke/VarHandle") ∧ (parseMethodDescriptor y.desc).map (fun d => d.parameters.length) = some na ∧ ny ≤ 45
def q_CSN (own : String) (index : Nat) (y : MethodName) (host : String) (cy : ByteArray) (ny : Nat) (ry : Option FieldType) (na : Nat) : Prop := Cond.methodLinkNest own index y host ∈ q_X ∧ Cond.static y ∈ q_T ∧ Cond.initialized y.cls ∈ q_T ∧ Cond.code y cy ny ry ∈ q_T ∧ (y.cls ≠ "java/lang/invoke/MethodHandle" ∧ y.cls ≠ "java/lang/invoke/VarHandle") ∧ (parseMethodDescriptor y.desc).map (fun d => d.parameters.length) = some na ∧ ny ≤ 45
def q_CV (own : String) (index : Nat) (y : MethodName) (cy : ByteArray) (ny : Nat) (ry : Option FieldType) (na ci : Nat) : Prop := Cond.methodLink own index y ∈ q_T ∧ Cond.instanceMethod y ∈ q_T ∧ Cond.selects y.cls y y ∈ q_T ∧ Cond.initialized y.cls ∈ q_T ∧ Cond.code y cy ny ry ∈ q_T ∧ (y.cls ≠ "java/lang/invoke/MethodHandle" ∧ y.cls ≠ "java/lang/invoke/VarHandle") ∧ (parseMethodDescriptor y.desc).map (fun d => d.parameters.length) = some na ∧ ny ≤ 45 ∧ ∃ (T : u_T) (N : Nat), q_cl[ci]? = some (y.cls, T, N)
def q_CI (own : String) (index : Nat) (y : MethodName) (cy : ByteArray) (ny : Nat) (na : Nat) : Prop := Cond.methodLink own index y ∈ q_T ∧ Cond.instanceMethod y ∈ q_T ∧ y.name = "<init>" ∧ Cond.initialized y.cls ∈ q_T ∧ Cond.code y cy ny none ∈ q_T ∧ (y.cls ≠ "java/lang/invoke/MethodHandle" ∧ y.cls ≠ "java/lang/invoke/VarHandle") ∧ (parseMethodDescriptor y.desc).map (fun d => d.parameters.length) = some na ∧ ny ≤ 45
def q_CIN (own : String) (index : Nat) (y : MethodName) (host : String) (cy : ByteArray) (ny : Nat) (na : Nat) : Prop := Cond.methodLinkNest own index y host ∈ q_X ∧ Cond.instanceMethod y ∈ q_T ∧ y.name = "<init>" ∧ Cond.initialized y.cls ∈ q_T ∧ Cond.code y cy ny none ∈ q_T ∧ (y.cls ≠ "java/lang/invoke/MethodHandle" ∧ y.cls ≠ "java/lang/invoke/VarHandle") ∧ (parseMethodDescriptor y.desc).map (fun d => d.parameters.length) = some na ∧ ny ≤ 45
theorem q_plen {y : MethodName} {na : Nat} (h : (parseMethodDescriptor y.desc).map (fun d => d.parameters.length) = some na) : ∀ sig, parseMethodDescriptor y.desc = some sig → na = sig.parameters.length := fun sig e => by
  rw [e] at h
  exact (Option.some.inj h).symm
section GWC
variable {g : q_G} {Z : q_Z} {A : Nat → Prop} {post postc : q_R → q_H → Prop} {rc rs rc' rs' : Nat} {h : q_H} {pc pc' : Nat} {ls : List (Option Value)} {st rest : List Value} {own name : String} {cc : ByteArray} {nL d : Nat} {ret : Option FieldType}
theorem q_use (ok : q_ok g Z A own name cc nL ret d) {T1 : State} {locs : List Loc} {n k : Nat} {S0 : State} {la : Array Slot} (B : q_Back (zp Z) (zl Z) (ze Z) (zR Z) (zs Z) (zm Z) (za Z) (zb Z) (zM Z) (zc Z) T1 locs n k g (q_A h T1.heap.size) postc S0 (F0 (zm Z) pc la rest)) (hD : ∀ (a : Nat) (o : q_O), h a = some o → A a) (hS : va_S A (zs Z).heap T1.heap locs) (hL : q_LR ls la) (hn : n + rc' ≤ (zR Z).cells) (hk : k + rs' ≤ (zR Z).slots)
    (kr : ∀ v h', postc (.inl v) h' → GW g Z A post rc' rs' h' (pc + 3) ls (v.toList ++ rest)) (kx : ∀ i h', postc (.inr i) h' → post (.inr i) h') : ∃ t, Steps (zp Z).tables (ze Z) (zb Z) S0 t ∧ q_Q g Z A post t := by
  obtain ⟨hx, hb, hml, hown, hts, hK, hA, hlk, hrt, hnm, hfr, hlo, hcode, htr, hbs, hAb, hnh, hns⟩ := ok
  obtain ⟨r, h', T', L, X', hLy, hpost, hHR, hdom, hz, hkeep, hr⟩ := B
  have hAy := q_A_in hD hA hS
  have hS' := q_S_call hS hAy hz hkeep hLy
  cases r with
  | inl v =>
    obtain ⟨t, a1, b1⟩ := kr v h' hpost T'.heap (locs ++ L) la n k hHR (fun a o ha => hAy a (hdom a o ha)) hS' hL hn hk T' rfl X'
    exact ⟨t, hr t a1, b1⟩
  | inr kx' =>
    obtain ⟨x, cell, c1, c2, c3, hr⟩ := hr
    obtain ⟨w1, w2, w3, w4, w5⟩ := X'.leaveThrown x (g := F0 (zm Z) pc la rest) rfl rfl rfl (fun y hy => hnh y hy _) (hlocks := hlk)
    refine ⟨_, hr _ w1, .threw x, w2, w3, ⟨.inr kx', h', ⟨x, cell, rfl, c1, c2, c3⟩, kx kx' h' hpost, hHR, fun a o ha => hAy a (hdom a o ha)⟩, ?_, w4, locs ++ L, w5.mono (by omega) (by omega), hS'.2.2⟩
    exact va_S.F (t := T'.setFrames (.throwing x :: zb Z)) hS' rfl
theorem g_callS (ok : q_ok g Z A own name cc nL ret d) {index : Nat} {y : MethodName} {cy : ByteArray} {ny : Nat} {ry : Option FieldType} {dy mc ms na : Nat} {av : List Value} (hd : decode cc pc = .ok (.invokestatic index, 3)) (hp : pc + 3 = pc') (hcs : q_CS own index y cy ny ry na) (hM : MG g y cy ny ry dy mc ms av h postc) (hav : av.length = na) (hst : st = av.reverse ++ rest) (hrest : (rest.map fun v => v.category).sum ≤ 8) (hdy : dy + 1 ≤ d) (hlen : ls.length = nL) (hc1 : rc' + mc ≤ rc) (hs1 : rs' + ms ≤ rs)
    (kr : ∀ v h', postc (.inl v) h' → GW g Z A post rc' rs' h' pc' ls (v.toList ++ rest)) (kx : ∀ i h', postc (.inr i) h' → post (.inr i) h') : GW g Z A post rc rs h pc ls st := by
  have ok' := ok
  obtain ⟨hx, hb, hml, hown, hts, hK, hA, hlk, hrt, hnm, hfr, hlo, hcode, htr, hbs, hAb, hnh, hns⟩ := ok
  obtain ⟨hl, hs, hi, hw, hy, hpl, hny⟩ := hcs
  subst hp
  subst hst
  intro H locs la n k hH hD hS hL hn hk T hT X
  subst hT
  obtain ⟨mk, hnamed⟩ := Cond.code_named (hts _ hw)
  obtain ⟨methM, cM, hmethM, -, -, -, -, -, -, hsigM⟩ := Cond.code_spec hnamed (hts _ hw)
  have hstatic : methM.isStatic = true := Cond.static_spec hnamed hmethM (hts _ hs)
  obtain ⟨kP, hkP, -⟩ := className_of_methodNamed hnamed
  have hinitP : kP.init = .initialized := Cond.initialized_spec (findClass_of_methodNamed hnamed) hkP (hts _ hi)
  obtain ⟨vm₁, X₁, hstep₁⟩ := X.invokestatic hx hown (hts _ hl) hnamed hmethM hstatic hkP hinitP hy (g := F0 (zm Z) pc la (av.reverse ++ rest)) rfl (argsL := av) (rest := rest) (hav.trans (q_plen hpl _ hsigM)) rfl (by rw [hb]; exact hd)
  have B := q_call X₁ hM htr (f := F0 (zm Z) pc la rest) rfl (by show la.size = _; rw [hL.1, hlen, hml]) (by rw [hb]; exact hd) (lv_room hrest) (X₁.named hnamed) (by omega) (by omega) (by omega) (by omega) hts hw (hts _ hi) hK hH
  obtain ⟨t, a1, b1⟩ := q_use (rc' := rc') (rs' := rs') ok' B hD hS hL (by omega) (by omega) kr kx
  exact ⟨t, hstep₁ _ fun acts => by rw [doInvoke_state]; exact a1, b1⟩
theorem g_callSN (ok : q_ok g Z A own name cc nL ret d) {index : Nat} {y : MethodName} {host : String} {cy : ByteArray} {ny : Nat} {ry : Option FieldType} {dy mc ms na : Nat} {av : List Value} (hd : decode cc pc = .ok (.invokestatic index, 3)) (hp : pc + 3 = pc') (hcs : q_CSN own index y host cy ny ry na) (hM : MG g y cy ny ry dy mc ms av h postc) (hav : av.length = na) (hst : st = av.reverse ++ rest) (hrest : (rest.map fun v => v.category).sum ≤ 8) (hdy : dy + 1 ≤ d) (hlen : ls.length = nL) (hc1 : rc' + mc ≤ rc) (hs1 : rs' + ms ≤ rs)
    (kr : ∀ v h', postc (.inl v) h' → GW g Z A post rc' rs' h' pc' ls (v.toList ++ rest)) (kx : ∀ i h', postc (.inr i) h' → post (.inr i) h') : GW g Z A post rc rs h pc ls st := by
  have ok' := ok
  obtain ⟨hx, hb, hml, hown, hts, hK, hA, hlk, hrt, hnm, hfr, hlo, hcode, htr, hbs, hAb, hnh, hns⟩ := ok
  obtain ⟨hl, hs, hi, hw, hy, hpl, hny⟩ := hcs
  subst hp
  subst hst
  intro H locs la n k hH hD hS hL hn hk T hT X
  subst hT
  obtain ⟨mk, hnamed⟩ := Cond.code_named (hts _ hw)
  obtain ⟨methM, cM, hmethM, -, -, -, -, -, -, hsigM⟩ := Cond.code_spec hnamed (hts _ hw)
  have hstatic : methM.isStatic = true := Cond.static_spec hnamed hmethM (hts _ hs)
  obtain ⟨kP, hkP, -⟩ := className_of_methodNamed hnamed
  have hinitP : kP.init = .initialized := Cond.initialized_spec (findClass_of_methodNamed hnamed) hkP (hts _ hi)
  obtain ⟨vm₁, X₁, hstep₁⟩ := X.invokestaticNest hx hown (va_Nw.use rfl (hK.xw _ hl)) hnamed hmethM hstatic hkP hinitP hy (g := F0 (zm Z) pc la (av.reverse ++ rest)) rfl (argsL := av) (rest := rest) (hav.trans (q_plen hpl _ hsigM)) rfl (by rw [hb]; exact hd)
  have B := q_call X₁ hM htr (f := F0 (zm Z) pc la rest) rfl (by show la.size = _; rw [hL.1, hlen, hml]) (by rw [hb]; exact hd) (lv_room hrest) (X₁.named hnamed) (by omega) (by omega) (by omega) (by omega) hts hw (hts _ hi) hK hH
  obtain ⟨t, a1, b1⟩ := q_use (rc' := rc') (rs' := rs') ok' B hD hS hL (by omega) (by omega) kr kx
  exact ⟨t, hstep₁ _ fun acts => by rw [doInvoke_state]; exact a1, b1⟩
theorem g_callI (ok : q_ok g Z A own name cc nL ret d) {index : Nat} {y : MethodName} {cy : ByteArray} {ny : Nat} {dy mc ms na b : Nat} {av : List Value} (hd : decode cc pc = .ok (.invokespecial index, 3)) (hp : pc + 3 = pc') (hcs : q_CI own index y cy ny na) (hM : MG g y cy ny none dy mc ms (.ref b :: av) h postc) (hav : av.length = na) (hst : st = av.reverse ++ .ref b :: rest) (hrest : (rest.map fun v => v.category).sum ≤ 8) (hdy : dy + 1 ≤ d) (hlen : ls.length = nL) (hc1 : rc' + mc ≤ rc) (hs1 : rs' + ms ≤ rs)
    (kr : ∀ v h', postc (.inl v) h' → GW g Z A post rc' rs' h' pc' ls (v.toList ++ rest)) (kx : ∀ i h', postc (.inr i) h' → post (.inr i) h') : GW g Z A post rc rs h pc ls st := by
  have ok' := ok
  obtain ⟨hx, hb, hml, hown, hts, hK, hA, hlk, hrt, hnm, hfr, hlo, hcode, htr, hbs, hAb, hnh, hns⟩ := ok
  obtain ⟨hl, hin, hy1, hi, hw, hy, hpl, hny⟩ := hcs
  subst hp
  subst hst
  intro H locs la n k hH hD hS hL hn hk T hT X
  subst hT
  have hpf : (ze Z).platform.magicAccessors = ({} : Platform).magicAccessors := by rw [X.admits.platform]
  obtain ⟨mk, methM, cM, kP, vm₁, hnamed, hmethM, hcodeM, -, hlocalsM, -, hkP, -, hW₁, hstep₁⟩ := Steps.initColdArgs (e := ze Z) X.here hx X.warmed hpf hown hy1 hy (hts _ hl) (hts _ hin) (hts _ hw) (f := F0 (zm Z) pc la (av.reverse ++ .ref b :: rest)) rfl (argsL := av) (rest := rest) (fun sig e => hav.trans (q_plen hpl sig e)) rfl (by rw [hb]; exact hd)
  have X₁ := X.noted hW₁
  have B := q_call X₁ hM htr (f := F0 (zm Z) pc la rest) rfl (by show la.size = _; rw [hL.1, hlen, hml]) (by rw [hb]; exact hd) (lv_room hrest) (X₁.named hnamed) (by omega) (by omega) (by omega) (by omega) hts hw (hts _ hi) hK hH
  obtain ⟨t, a1, b1⟩ := q_use (rc' := rc') (rs' := rs') ok' B hD hS hL (by omega) (by omega) kr kx
  exact ⟨t, hstep₁ _ fun acts => by rw [doInvoke_state]; exact a1, b1⟩
theorem g_callIN (ok : q_ok g Z A own name cc nL ret d) {index : Nat} {y : MethodName} {host : String} {cy : ByteArray} {ny : Nat} {dy mc ms na b : Nat} {av : List Value} (hd : decode cc pc = .ok (.invokespecial index, 3)) (hp : pc + 3 = pc') (hcs : q_CIN own index y host cy ny na) (hM : MG g y cy ny none dy mc ms (.ref b :: av) h postc) (hav : av.length = na) (hst : st = av.reverse ++ .ref b :: rest) (hrest : (rest.map fun v => v.category).sum ≤ 8) (hdy : dy + 1 ≤ d) (hlen : ls.length = nL) (hc1 : rc' + mc ≤ rc) (hs1 : rs' + ms ≤ rs)
    (kr : ∀ v h', postc (.inl v) h' → GW g Z A post rc' rs' h' pc' ls (v.toList ++ rest)) (kx : ∀ i h', postc (.inr i) h' → post (.inr i) h') : GW g Z A post rc rs h pc ls st := by
  have ok' := ok
  obtain ⟨hx, hb, hml, hown, hts, hK, hA, hlk, hrt, hnm, hfr, hlo, hcode, htr, hbs, hAb, hnh, hns⟩ := ok
  obtain ⟨hl, hin, hy1, hi, hw, hy, hpl, hny⟩ := hcs
  subst hp
  subst hst
  intro H locs la n k hH hD hS hL hn hk T hT X
  subst hT
  have hpf : (ze Z).platform.magicAccessors = ({} : Platform).magicAccessors := by rw [X.admits.platform]
  obtain ⟨mk, methM, cM, kP, vm₁, hnamed, hmethM, hcodeM, -, hlocalsM, -, hkP, -, hW₁, hstep₁⟩ := Steps.initColdArgsNest (e := ze Z) X.here hx X.warmed hpf hown hy1 hy (va_Nw.use rfl (hK.xw _ hl)) (hts _ hin) (hts _ hw) (f := F0 (zm Z) pc la (av.reverse ++ .ref b :: rest)) rfl (argsL := av) (rest := rest) (fun sig e => hav.trans (q_plen hpl sig e)) rfl (by rw [hb]; exact hd)
  have X₁ := X.noted hW₁
  have B := q_call X₁ hM htr (f := F0 (zm Z) pc la rest) rfl (by show la.size = _; rw [hL.1, hlen, hml]) (by rw [hb]; exact hd) (lv_room hrest) (X₁.named hnamed) (by omega) (by omega) (by omega) (by omega) hts hw (hts _ hi) hK hH
  obtain ⟨t, a1, b1⟩ := q_use (rc' := rc') (rs' := rs') ok' B hD hS hL (by omega) (by omega) kr kx
  exact ⟨t, hstep₁ _ fun acts => by rw [doInvoke_state]; exact a1, b1⟩
theorem g_callV (ok : q_ok g Z A own name cc nL ret d) {index : Nat} {y : MethodName} {cy : ByteArray} {ny : Nat} {ry : Option FieldType} {dy mc ms na ci b : Nat} {fs av : List Value} (hd : decode cc pc = .ok (.invokevirtual index, 3)) (hp : pc + 3 = pc') (hcs : q_CV own index y cy ny ry na ci) (hM : MG g y cy ny ry dy mc ms (.ref b :: av) h postc) (hb0 : h b = some (.inl (ci, fs))) (hav : av.length = na) (hst : st = av.reverse ++ .ref b :: rest) (hrest : (rest.map fun v => v.category).sum ≤ 8) (hdy : dy + 1 ≤ d) (hlen : ls.length = nL) (hc1 : rc' + mc ≤ rc) (hs1 : rs' + ms ≤ rs)
    (kr : ∀ v h', postc (.inl v) h' → GW g Z A post rc' rs' h' pc' ls (v.toList ++ rest)) (kx : ∀ i h', postc (.inr i) h' → post (.inr i) h') : GW g Z A post rc rs h pc ls st := by
  have ok' := ok
  obtain ⟨hx, hb, hml, hown, hts, hK, hA, hlk, hrt, hnm, hfr, hlo, hcode, htr, hbs, hAb, hnh, hns⟩ := ok
  obtain ⟨hl, hin, hsel, hi, hw, hy, hpl, hny, T0, N0, hci⟩ := hcs
  subst hp
  subst hst
  intro H locs la n k hH hD hS hL hn hk T hT X
  subst hT
  obtain ⟨cellB, hcB, hobj, hcls⟩ := va_recv hK.1 (hH.one hb0) hci (q0 := 0) rfl
  obtain ⟨mk, methM, hnamed, hmethM, hstM, habM⟩ := Cond.instanceMethod_spec (hts _ hin)
  obtain ⟨methM', cM, hmethM', -, -, -, -, -, -, hsigM⟩ := Cond.code_spec hnamed (hts _ hw)
  cases hmethM.symm.trans hmethM'
  obtain ⟨c2, r2, m2, q1, q2, q3, q4, kP, hkP, hkPi⟩ := Cond.selects_spec (hts _ hsel)
  cases hcls.symm.trans q1
  cases (State.methodFound?_of_named hnamed hy).symm.trans q2
  cases hnamed.symm.trans q3
  have hselP : selectMethod (ze Z).platform (zs Z).vm cellB.cls mk = .method mk := by rw [Launch.admits_selectMethod X.admits]; exact q4
  obtain ⟨vm₁, X₁, hstep₁⟩ := X.invokevirtual hx hown (hts _ hl) hnamed hmethM hstM hkP hkPi hy (a := b) (cell := cellB) hcB
    (fun z h => by rw [h] at hobj; cases hobj) hselP hmethM habM hkP hkPi (g := F0 (zm Z) pc la (av.reverse ++ .ref b :: rest)) rfl (argsL := av) (rest := rest) (hav.trans (q_plen hpl _ hsigM)) rfl (by rw [hb]; exact hd)
  have B := q_call X₁ hM htr (f := F0 (zm Z) pc la rest) rfl (by show la.size = _; rw [hL.1, hlen, hml]) (by rw [hb]; exact hd) (lv_room hrest) (X₁.named hnamed) (by omega) (by omega) (by omega) (by omega) hts hw (hts _ hi) hK hH
  obtain ⟨t, a1, b1⟩ := q_use (rc' := rc') (rs' := rs') ok' B hD hS hL (by omega) (by omega) kr kx
  exact ⟨t, hstep₁ _ fun acts => by rw [doInvoke_state]; exact a1, b1⟩
theorem g_objInit (ok : q_ok g Z A own name cc nL ret d) {index b : Nat} (hd : decode cc pc = .ok (.invokespecial index, 3)) (hp : pc + 3 = pc') (hl : Cond.methodLink own index Lib.objectInit ∈ q_T) (hrest : (st.map fun v => v.category).sum ≤ 8) (hd1 : 1 ≤ d) (hlen : ls.length = nL) (kk : GW g Z A post rc rs h pc' ls st) : GW g Z A post rc rs h pc ls (.ref b :: st) := by
  obtain ⟨hx, hb, hml, hown, hts, hK, hA, hlk, hrt, hnm, hfr, hlo, -⟩ := ok
  subst hp
  intro H locs la n k hH hD hS hL hn hk
  have hr : 2 * (F0 (zm Z) pc la (.ref b :: st)).monitorRoom + (st.map fun v => v.category).sum ≤ 8 := lv_room hrest
  exact W.objInit hx hb hown (hts _ hl) (hts _ (q_T_in 33 (by decide +kernel) rfl)) (hts _ (q_T_in 34 (by decide +kernel) rfl)) rfl (by show la.size = _; rw [hL.1, hlen, hml]) rfl hd (by omega) (by omega) (kk H locs la n k hH hD hS hL hn hk)
end GWC
end
section
/-! ===== a method that throws: new E("text") and athrow ===== -/
/-- the walk seen from here on: as if the method had been entered with the heap that stands now -/
theorem q_rebase {p : Program} {l : Launch} {e : Env} {R : Room} {s : State} {m : MethodId} {args : Array Value} {below : List Frame} {meth : Method} {c : Code} {T : State} {locs : List Loc} {n k : Nat}
    (X : Stand p l e R s m args below meth c T locs n k) (hn : n ≤ R.cells) (hk : k ≤ R.slots) : Stand p l e { R with cells := R.cells - n, slots := R.slots - k } ({ s with heap := T.heap, slotsUsed := T.slotsUsed, vm := T.vm } : State) m args below meth c T [] 0 0 := by
  have hal := X.warmed.alike
  have hmeth : T.vm.method? m = some meth := X.method'
  refine ⟨X.admits, X.cas, X.clock, X.frames, ?_, ?_, hmeth, X.code, X.here, X.tail, State.WarmedH.refl _, X.limits, X.bytes, ?_⟩
  · have hr := X.room
    have h1 := X.heapSize
    have h2 := X.used
    have h3 := X.book
    simp only [State.hasRoom, Bool.and_eq_true, decide_eq_true_eq] at hr ⊢
    have hloc : State.localsInUse ({ s with heap := T.heap, slotsUsed := T.slotsUsed, vm := T.vm } : State) = s.localsInUse := by
      unfold State.localsInUse
      rw [show State.frames ({ s with heap := T.heap, slotsUsed := T.slotsUsed, vm := T.vm } : State) = s.frames from rfl, X.frames]
      show _ + ((((T.vm.method? m).bind (·.code)).map (·.maxLocals)).getD 0 + 11) = _ + ((((s.vm.method? m).bind (·.code)).map (·.maxLocals)).getD 0 + 11)
      rw [hmeth, X.method]
    rw [hloc]
    refine ⟨⟨⟨hr.1.1.1, ?_⟩, ?_⟩, h3⟩
    · have := hr.1.1.2
      show T.heap.size + (R.cells - n) ≤ _
      omega
    · have := hr.1.2
      show T.slotsUsed + (R.slots - k) ≤ _
      omega
  · have hh := X.hears
    cases below with
    | nil =>
      show (T.vm.method? m).any (·.sig.returnType.isNone) = true
      have hh' : (s.vm.method? m).any (·.sig.returnType.isNone) = true := hh
      rw [hmeth, ← X.method]; exact hh'
    | cons f r =>
      cases f with
      | java g0 =>
        have hh' : ((s.code? g0.method).bind fun c => (decode c.code g0.pc).toOption).isSome = true := hh
        show ((State.code? ({ s with heap := T.heap, slotsUsed := T.slotsUsed, vm := T.vm } : State) g0.method).bind fun c => (decode c.code g0.pc).toOption).isSome = true
        rw [State.code?_eq] at hh' ⊢
        show (((T.vm.method? g0.method).bind _).bind _).isSome = true
        rw [hal.method?]; exact hh'
      | native _ => rfl
      | proc _ => rfl
      | _ =>
        show (T.vm.method? m).any (·.sig.returnType.isNone) = true
        have hh' : (s.vm.method? m).any (·.sig.returnType.isNone) = true := hh
        rw [hmeth, ← X.method]; exact hh'
  · have hs := X.same
    have h1 : T.setVm s.vm = { s.setFrames T.frames with heap := T.heap, slotsUsed := T.slotsUsed } := hs.1
    have hdr : T.heap.toList.drop T.heap.size = [] := List.drop_eq_nil_of_le (by simp)
    refine ⟨?_, Nat.le_refl _, Nat.le_refl _, ?_, ?_, ?_⟩
    · show T = _
      have h2 : T = (T.setVm s.vm).setVm T.vm := rfl
      rw [h1] at h2
      exact h2
    · show T.slotsUsed = T.slotsUsed + ((T.heap.toList.drop T.heap.size).map (·.slots.size)).sum
      rw [hdr]; rfl
    · show ((T.heap.toList.drop T.heap.size).map (·.slots.size)).sum ≤ 0
      rw [hdr]; exact Nat.le_refl _
    · intro a cl hc
      exact ⟨cl, hc, rfl, rfl, fun _ _ => rfl⟩
def q_chain : List String := ["java/lang/RuntimeException", "java/lang/Exception"]
def q_isr1 : Cond := .isRef (.static "java/lang/Throwable" "UNASSIGNED_STACK" "[Ljava/lang/StackTraceElement;")
def q_isr2 : Cond := .isRef (.static "java/lang/Throwable" "SUPPRESSED_SENTINEL" "Ljava/util/List;")
def q_ls1 : Cond := .laysStatic "java/lang/Throwable" "UNASSIGNED_STACK" "[Ljava/lang/StackTraceElement;"
def q_ls2 : Cond := .laysStatic "java/lang/Throwable" "SUPPRESSED_SENTINEL" "Ljava/util/List;"
theorem q_own0 : ∀ a ∈ Bundle.ownAtoms "RatchetGroup" 105 (q_xn 0) q_chain, (a ∈ tables_1 ∧ (goodWord a = true ∨ q_isX a = true)) ∨ a = q_isr1 ∨ a = q_isr2 ∨ a = q_ls1 ∨ a = q_ls2 := by decide +kernel
theorem q_own1 : ∀ a ∈ Bundle.ownAtoms "RatchetGroup" 93 (q_xn 1) q_chain, (a ∈ tables_1 ∧ (goodWord a = true ∨ q_isX a = true)) ∨ a = q_isr1 ∨ a = q_isr2 ∨ a = q_ls1 ∨ a = q_ls2 := by decide +kernel
theorem q_isRef {C n d : String} {P : Nat → Prop} {U : State} {H : Heap} {args : Array Value} (h : va_Zq C n d P U H) (hH : ∀ (a : Nat) (cell : Cell), H[a]? = some cell → ¬ P a → U.heap[a]? = some cell) : (Cond.isRef (.static C n d)).before args U = true := by
  have go : ∀ v : Value, va_Z C n d v P U H → (v = .null ∨ ∃ t, v = .ref t) → (Cond.isRef (.static C n d)).before args U = true := by
    intro v hz hv
    obtain ⟨cf, kf, fi, f, a, cell, h1, h2, h3, h4, h5, h6, h7, h8⟩ := hz
    have he : (Term.static C n d).eval args U none [] U = cell.slots[f.slot]? := by
      simp [Term.eval, State.fieldNamed?, h1, h2, h4, hH a cell h5 h8, h6]
    simp only [Cond.before, Cond.holds, Cond.value]
    rw [he, h7]
    rcases hv with rfl | ⟨t, rfl⟩ <;> rfl
  rcases h with h | ⟨t, h⟩
  · exact go _ h (Or.inl rfl)
  · exact go _ h (Or.inr ⟨t, rfl⟩)
end
section
/-! ===== the row of 'throw new E("text")' ===== -/
theorem q_ldcwS {p : Program} {l : Launch} {e : Env} {R : Room} {s : State} {m : MethodId} {args : Array Value} {below : List Frame} {meth : Method} {c : Code} {T : State} {locs : List Loc} {cells slots : Nat}
    (X : Stand p l e R s m args below meth c T locs cells slots) (hexec : p.tables.exec = Jvm.exec) {own text : String} {index : Nat} {a : Addr} (hown : s.vm.findClass own = some m.cls)
    (hconst : (Cond.stringRef own index text).before args s = true) (hev : (Term.string own index).eval args s none [] s = some (.ref a)) {g : JFrame} (hg : g.method = m) (hdg : decode c.code g.pc = .ok (.ldc_w index, 3)) :
    ∀ target, Steps p.tables e below (T.setTop { g with pc := g.pc + 3, stack := .ref a :: g.stack }) target → Steps p.tables e below (T.setTop g) target := by
  obtain ⟨k, cf, i, a', hk, hcf, hcp, -, hr, hev'⟩ := Cond.stringRef_spec hown hconst
  cases hev.symm.trans hev'
  obtain ⟨k', hk', he⟩ := X.warmed.alike.2.2 _ _ hk
  have hr' : k'.resolved[index]? = some (some (.string a)) := by
    rcases X.warmed.entry hk hk' index with h | ⟨h, -⟩
    · rw [h]; exact hr
    · rw [hr] at h; cases h
  intro target hrest
  subst hg
  jvm_step X.here [hexec, hdg, ldc_w.wp_string (e := e) (s := T) (f := g) X.here.top hk' (by rw [he]; exact hcf) hcp hr']
  exact hrest
theorem q_atoms {g : q_G} {U : State} {args : Array Value} {ic kx : Nat} (hkx : (kx = 0 ∧ ic = 105) ∨ (kx = 1 ∧ ic = 93)) (hts : ∀ w ∈ q_T, w.before args U = true) (hK : q_K g U) (hH : ∀ q : Nat, q < q_bs g → U.heap[q]? = (q_Hb g)[q]?) : ∀ a ∈ Bundle.ownAtoms "RatchetGroup" ic (q_xn kx) q_chain, a.before args U = true := by
  have hlt : ∀ (a : Nat) (cell : Cell), (q_Hb g)[a]? = some cell → U.heap[a]? = some cell := fun a cell h => by
    have h1 := (Array.getElem?_eq_some_iff.mp h).1
    rw [hH a (by rw [← hK.sz]; exact h1)]
    exact h
  have hls : ∀ {C n d : String}, (Cond.laysStatic C n d).before #[] ({ U with heap := q_Hb g } : State) = true → (Cond.laysStatic C n d).before args U = true := by
    intro C n d h
    obtain ⟨c, k, i, f, a, cell, hc, hi, hst, ha, hcell, hs, hcls, hl, hty⟩ := Cond.laysStatic_spec h
    exact Cond.laysStatic_of (s := U) hc hi hst ha (hlt a cell hcell) hs hcls hl hty
  have go : ∀ a, ((a ∈ tables_1 ∧ (goodWord a = true ∨ q_isX a = true)) ∨ a = q_isr1 ∨ a = q_isr2 ∨ a = q_ls1 ∨ a = q_ls2) → a.before args U = true := by
    intro a ha
    rcases ha with ⟨h1, h2 | h2⟩ | rfl | rfl | rfl | rfl
    · exact hts a (List.mem_filter.mpr ⟨List.mem_append_right _ h1, h2⟩)
    · exact va_Nw.use (q_X_on h2) (hK.xw a (List.mem_filter.mpr ⟨h1, h2⟩))
    · exact q_isRef hK.u1 (fun a cell h _ => hlt a cell h)
    · exact q_isRef hK.u2 (fun a cell h _ => hlt a cell h)
    · exact hls hK.l1
    · exact hls hK.l2
  intro a ha
  rcases hkx with ⟨rfl, rfl⟩ | ⟨rfl, rfl⟩
  · exact go a (q_own0 a ha)
  · exact go a (q_own1 a ha)
set_option maxHeartbeats 1000000 in
theorem g_throw {g : q_G} {Z : q_Z} {A : Nat → Prop} {post : q_R → q_H → Prop} {rc rs : Nat} {h : q_H} {pc : Nat} {ls : List (Option Value)} {st : List Value} {name : String} {cc : ByteArray} {nL d : Nat} {ret : Option FieldType}
    (ok : q_ok g Z A "RatchetGroup" name cc nL ret d) {kx index ic sx lw : Nat} {tx : String} (hkx : (kx = 0 ∧ index = 101 ∧ ic = 105) ∨ (kx = 1 ∧ index = 89 ∧ ic = 93)) (hstr : (sx, tx) ∈ q_strs)
    (hd1 : decode cc pc = .ok (.new index, 3)) (hd2 : decode cc (pc + 3) = .ok (.dup, 1)) (hd3 : (decode cc (pc + 3 + 1) = .ok (.ldc sx, 2) ∧ lw = 2) ∨ (decode cc (pc + 3 + 1) = .ok (.ldc_w sx, 3) ∧ lw = 3)) (hd4 : decode cc (pc + 3 + 1 + lw) = .ok (.invokespecial ic, 3)) (hd5 : decode cc (pc + 3 + 1 + lw + 3) = .ok (.athrow, 1))
    (hst : (st.map fun v => v.category).sum ≤ 8) (hd : 6 ≤ d) (hlen : ls.length = nL) (hc1 : 1 ≤ rc) (hs1 : 6 ≤ rs) (hq : post (.inr kx) h) : GW g Z A post rc rs h pc ls st := by
  obtain ⟨hx, hb, hml, hown, hts, hK, hA, hlk, hrt, hnm, hfr, hlo, hcode, htr, hbs, hAb, hnh, hns⟩ := ok
  intro H locs la n k' hH hD hS hL hn hk T hT X
  subst hT
  have X0 := q_rebase X (by omega) (by omega)
  have hW : (zs Z).WarmedH T.vm := X.warmed
  generalize hs0 : ({ zs Z with heap := T.heap, slotsUsed := T.slotsUsed, vm := T.vm } : State) = s0 at X0
  have hvm0 : s0.vm = T.vm := by rw [← hs0]
  have hheap0 : s0.heap = T.heap := by rw [← hs0]
  have hW0 : (zs Z).WarmedH s0.vm := by rw [hvm0]; exact hW
  have hts0 : ∀ w ∈ q_T, w.before (za Z) s0 = true := fun w hw => word_at hW0 (q_T_good hw) (hts w hw)
  have hK0 : q_K g s0 := q_K.moved hW0 hK
  have hown0 : s0.vm.findClass "RatchetGroup" = some (zm Z).cls := by rw [hvm0, hW.alike.findClass]; exact hown
  have hat := q_atoms (g := g) (U := s0) (args := za Z) (ic := ic) (kx := kx) (by rcases hkx with ⟨a, -, b⟩ | ⟨a, -, b⟩; exact Or.inl ⟨a, b⟩; exact Or.inr ⟨a, b⟩) hts0 hK0 (fun q hq => by rw [hheap0]; exact hH.2.1 q hq)
  have hfit : Bundle.fit (q_xn kx) = true := by rcases hkx with ⟨rfl, -, -⟩ | ⟨rfl, -, -⟩ <;> decide +kernel
  have hcl : (Cond.classLink "RatchetGroup" index (q_xn kx)).before (za Z) s0 = true := by
    rcases hkx with ⟨rfl, rfl, -⟩ | ⟨rfl, rfl, -⟩
    · exact hts0 _ (q_T_in 499 (by decide +kernel) rfl)
    · exact hts0 _ (q_T_in 566 (by decide +kernel) rfl)
  have hinst : (Cond.instantiable (q_xn kx) 6).before (za Z) s0 = true := by
    rcases hkx with ⟨rfl, rfl, -⟩ | ⟨rfl, rfl, -⟩
    · exact hts0 _ (q_T_in 500 (by decide +kernel) rfl)
    · exact hts0 _ (q_T_in 567 (by decide +kernel) rfl)
  have hini : (Cond.initialized (q_xn kx)).before (za Z) s0 = true := by
    rcases hkx with ⟨rfl, rfl, -⟩ | ⟨rfl, rfl, -⟩
    · exact hts0 _ (q_T_in 18 (by decide +kernel) rfl)
    · exact hts0 _ (q_T_in 21 (by decide +kernel) rfl)
  obtain ⟨cX, kX, hfX, hkX, -⟩ := Cond.instantiable_spec hinst
  obtain ⟨sa, hsa⟩ := hK0.sr _ hstr
  have Wn : W (zp Z) (zl Z) (ze Z) { zR Z with cells := (zR Z).cells - n, slots := (zR Z).slots - k' } s0 (zm Z) (za Z) (zb Z) (zM Z) (zc Z) T.heap [] 0 0 (fun t => ∃ (x : Addr) (ce : Cell), t.status = .running ∧ Ended t (zb Z) (.threw x) ∧ s0.WarmedH t.vm ∧ s0.sameButNew ({ t with vm := s0.vm } : State) [] 1 6 ∧ t.heap[x]? = some ce ∧ Bundle.OwnCell (za Z) s0 (q_xn kx) x (.ref sa) ce) (F0 (zm Z) pc la st) := by
    refine W.newcK hx hb hown0 hcl hinst hini rfl hd1 (by show 0 + 1 ≤ _ - _; omega) (by show 0 + 6 ≤ _ - _; omega) hfX rfl fun H1 kC hkC e1 z1 o1 => ?_
    cases hkX.symm.trans hkC
    refine lv_dup hx hb hd2 rfl ?_
    intro T1 hT1 X1
    have hstep : ∀ target, Steps (zp Z).tables (ze Z) (zb Z) (T1.setTop (F0 (zm Z) (pc + 3 + 1 + lw) la (.ref sa :: .ref T.heap.size :: .ref T.heap.size :: st))) target → Steps (zp Z).tables (ze Z) (zb Z) (T1.setTop (F0 (zm Z) (pc + 3 + 1) la (.ref T.heap.size :: .ref T.heap.size :: st))) target := by
      rcases hd3 with ⟨h3, rfl⟩ | ⟨h3, rfl⟩
      · exact X1.ldcString hx hown0 (text := tx) (a := sa) hsa.1 hsa.2 (g := F0 (zm Z) (pc + 3 + 1) la (.ref T.heap.size :: .ref T.heap.size :: st)) rfl (by rw [hb]; exact h3)
      · exact q_ldcwS X1 hx hown0 (text := tx) (a := sa) hsa.1 hsa.2 (g := F0 (zm Z) (pc + 3 + 1) la (.ref T.heap.size :: .ref T.heap.size :: st)) rfl (by rw [hb]; exact h3)
    have hmr : 2 * (F0 (zm Z) (pc + 3 + 1 + lw) la (.ref sa :: .ref T.heap.size :: .ref T.heap.size :: st)).monitorRoom + (st.map fun v => v.category).sum ≤ 8 := lv_room hst
    obtain ⟨U, u1, u2, u3, u4, u5, ce, u6, u7⟩ := X1.ctorThrowS hx (htr _ X1.admits) (cls := q_xn kx) (names := q_chain) (ic := ic) hown0 hfit (by decide +kernel) hat (fun x hx' => by cases hx') hfX hkX (a := T.heap.size) (by rw [hT1]; exact e1) (by rw [hheap0]; exact Nat.le_refl _) (msg := .ref sa) rfl
      (g := F0 (zm Z) (pc + 3 + 1 + lw) la (.ref sa :: .ref T.heap.size :: .ref T.heap.size :: st)) rfl (by show la.size = _; rw [hL.1, hlen, hml]) rfl rfl (rest := st) rfl (by rw [hb]; exact hd4) (by rw [hb]; exact hd5) (fun x hx' => hnh x hx' _) (by show 2 + 3 < _; have := hfr; show 2 + 3 < (zR Z).frames; omega) (by simp only [List.map_cons, List.sum_cons, Value.category] at hmr ⊢; show _ ≤ (zR Z).locals; have h2 : q_chain.length = 2 := rfl; rw [h2]; omega) (hlocks := hlk)
    exact ⟨U, hstep U u1, T.heap.size, ce, u2, u3, u4, u5, u6, u7⟩
  obtain ⟨t, st1, x, ce, t1, t2, t3, t4, t5, t6⟩ := Wn T rfl X0
  have hold : ∀ q : Nat, q < T.heap.size → t.heap[q]? = T.heap[q]? := by
    intro q hq
    have hc : T.heap[q]? = some (T.heap[q]'hq) := Array.getElem?_eq_some_iff.mpr ⟨hq, rfl⟩
    obtain ⟨c', g1, g2, g3, g4⟩ := t4.2.2.2.2.2 q (T.heap[q]'hq) (by rw [hheap0]; exact hc)
    have g1' : t.heap[q]? = some c' := g1
    rw [g1', hc, g2]
    congr 1
    have : c'.slots = (T.heap[q]'hq).slots := by
      apply Array.ext_getElem?
      intro i
      exact g4 i (by simp)
    rw [this]
  have hge : T.heap.size ≤ t.heap.size := by
    have := t4.2.1
    rw [hheap0] at this
    exact this
  have hHt : q_HR g h t.heap := ⟨Nat.le_trans hH.1 hge, fun q hq => by rw [hold q (Nat.lt_of_lt_of_le hq hH.1)]; exact hH.2.1 q hq, fun a o ha => ⟨(hH.2.2 a o ha).1, (hH.2.2 a o ha).2.kept (hold a (hH.2.2 a o ha).2.lt)⟩⟩
  have hsame : (zs Z).sameButNew ({ t with vm := (zs Z).vm } : State) locs (n + 1) (k' + 6) := by
    subst hs0
    obtain ⟨g₀, hfrT⟩ := X.frames_eq
    obtain ⟨th, hth, -⟩ := State.frames_cons hfrT
    have hcur : (zs Z).cur < (zs Z).threads.size := X.cur
    have hB : T.sameButNew ({ T with heap := t.heap, slotsUsed := t.slotsUsed } : State) [] 1 6 := by
      refine ⟨?_, t4.2⟩
      show ({ T with heap := t.heap, slotsUsed := t.slotsUsed } : State) = { T.setFrames T.frames with heap := t.heap, slotsUsed := t.slotsUsed }
      rw [State.setFrames_self hth]
    have h3 := (X.same.trans (hB.setVm (zs Z).vm)).setFrames t.frames hcur
    rw [List.append_nil] at h3
    have e1 : T.setVm (zs Z).vm = { (zs Z).setFrames T.frames with heap := T.heap, slotsUsed := T.slotsUsed } := X.same.1
    have e2 : ({ t with vm := T.vm } : State) = { (({ zs Z with heap := T.heap, slotsUsed := T.slotsUsed, vm := T.vm } : State).setFrames t.frames) with heap := t.heap, slotsUsed := t.slotsUsed } := t4.1
    have e3 : ((({ T with heap := t.heap, slotsUsed := t.slotsUsed } : State).setVm (zs Z).vm).setFrames t.frames) = ({ t with vm := (zs Z).vm } : State) := by
      have e4 : ({ t with vm := (zs Z).vm } : State) = { (zs Z).setFrames t.frames with heap := t.heap, slotsUsed := t.slotsUsed } := congrArg (fun u : State => ({ u with vm := (zs Z).vm } : State)) e2
      rw [e4]
      have e5 : (({ T with heap := t.heap, slotsUsed := t.slotsUsed } : State).setVm (zs Z).vm) = { (zs Z).setFrames T.frames with heap := t.heap, slotsUsed := t.slotsUsed } := congrArg (fun u : State => ({ u with heap := t.heap, slotsUsed := t.slotsUsed } : State)) e1
      rw [e5]
      have e6 := State.setFrames_setFrames (zs Z) T.frames t.frames
      exact congrArg (fun u : State => ({ u with heap := t.heap, slotsUsed := t.slotsUsed } : State)) e6
    rw [e3] at h3
    exact h3
  have hWt : (zs Z).WarmedH t.vm := State.WarmedH.trans hW0 t3
  refine ⟨t, st1, .threw x, t1, t2, ⟨.inr kx, h, ⟨x, ce, rfl, t5, ?_, t6.vm⟩, hq, hHt, hD⟩, ?_, hWt, locs, hsame.mono (by omega) (by omega), hS.2.2⟩
  · rw [t3.alike.findClass]
    exact t6.cls
  · exact ⟨Nat.le_trans hS.1 hge, fun q h1 h2 => (hold q (Nat.lt_of_lt_of_le h1 hS.1)).trans (hS.2.1 q h1 h2)⟩
end
section
/-! ===== casts, reference arrays, the library's constants and natives ===== -/
theorem q_recv {g : q_G} {U : State} {h : q_H} {H : Heap} {a ci : Nat} {fs : List Value} {C : String} {T : u_T} {N : Nat} (hK : q_K g U) (hH : q_HR g h H) (hci : q_cl[ci]? = some (C, T, N)) (ha : h a = some (.inl (ci, fs))) : ∃ cell : Cell, H[a]? = some cell ∧ cell.vm.isStatics = false ∧ U.vm.findClass C = some cell.cls := va_recv hK.cl (hH.one ha) hci (q0 := 0) rfl
def q_Ty (ci : Nat) (C : String) : Prop := ∃ (T : u_T) (N : Nat), q_cl[ci]? = some (C, T, N)
section GWD
variable {g : q_G} {Z : q_Z} {A : Nat → Prop} {post : q_R → q_H → Prop} {rc rs : Nat} {h : q_H} {pc pc' : Nat} {ls : List (Option Value)} {st : List Value} {own name : String} {cc : ByteArray} {nL d : Nat} {ret : Option FieldType}
theorem g_castY (ok : q_ok g Z A own name cc nL ret d) {index a ci : Nat} {C nm : String} {fs : List Value} (hd : decode cc pc = .ok (.checkcast index, 3)) (hp : pc + 3 = pc') (hl : Cond.classLink own index nm ∈ q_T) (hc : Cond.castable C nm ∈ q_X) (hci : q_Ty ci C) (ha : h a = some (.inl (ci, fs))) (kk : GW g Z A post rc rs h pc' ls (.ref a :: st)) : GW g Z A post rc rs h pc ls (.ref a :: st) := by
  obtain ⟨hx, hb, hml, hown, hts, hK, -⟩ := ok
  obtain ⟨T, N, hci⟩ := hci
  subst hp
  intro H locs la n k hH hD hS hL hn hk
  exact va_castY hx hb hown (hts _ hl) (hK.xw _ hc) (q_recv hK hH hci ha) hd (kk H locs la n k hH hD hS hL hn hk)
theorem g_instY (ok : q_ok g Z A own name cc nL ret d) {index a ci : Nat} {C nm : String} {fs : List Value} (hd : decode cc pc = .ok (.instanceof index, 3)) (hp : pc + 3 = pc') (hl : Cond.classLink own index nm ∈ q_T) (hc : Cond.castable C nm ∈ q_X) (hci : q_Ty ci C) (ha : h a = some (.inl (ci, fs))) (kk : GW g Z A post rc rs h pc' ls (.int 1 :: st)) : GW g Z A post rc rs h pc ls (.ref a :: st) := by
  obtain ⟨hx, hb, hml, hown, hts, hK, -⟩ := ok
  obtain ⟨T, N, hci⟩ := hci
  subst hp
  intro H locs la n k hH hD hS hL hn hk
  exact va_instY hx hb hown (hts _ hl) (hK.xw _ hc) (q_recv hK hH hci ha) hd (kk H locs la n k hH hD hS hL hn hk)
theorem g_instN (ok : q_ok g Z A own name cc nL ret d) {index a ci : Nat} {C nm : String} {fs : List Value} (hd : decode cc pc = .ok (.instanceof index, 3)) (hp : pc + 3 = pc') (hl : Cond.classLink own index nm ∈ q_T) (hc : (C, nm) ∈ q_ncs) (hci : q_Ty ci C) (ha : h a = some (.inl (ci, fs))) (kk : GW g Z A post rc rs h pc' ls (.int 0 :: st)) : GW g Z A post rc rs h pc ls (.ref a :: st) := by
  obtain ⟨hx, hb, hml, hown, hts, hK, -⟩ := ok
  obtain ⟨T, N, hci⟩ := hci
  subst hp
  intro H locs la n k hH hD hS hL hn hk
  exact va_instNo hx hb hown (hts _ hl) (hK.nc _ hc) (q_recv hK hH hci ha) hd (kk H locs la n k hH hD hS hL hn hk)
theorem q_any {g : q_G} {U : State} {h : q_H} {H : Heap} {a ci : Nat} {fs : List Value} {C : String} (hK : q_K g U) (hH : q_HR g h H) (hci : q_Ty ci C) (hc : Cond.castable C "java/lang/Object" ∈ q_X) (ha : h a = some (.inl (ci, fs))) : va_Any "java/lang/Object" U H a := by
  obtain ⟨T, N, hci⟩ := hci
  refine va_rAny hK.cl (hH.one ha) (q0 := 0) rfl hci (fun comp c0 h1 h2 => ?_)
  obtain ⟨c1, t1, f1, f2, f3⟩ := Cond.castable_spec (args := #[]) (first := U) (o := none) (idx := []) (hK.xw _ hc)
  cases f1.symm.trans h2
  cases f2.symm.trans h1
  exact f3
theorem g_aast (ok : q_ok g Z A own name cc nL ret d) {a N j v ci : Nat} {f : Nat → Option Nat} {fs : List Value} {C : String} (hd : decode cc pc = .ok (.aastore, 1)) (hp : pc + 1 = pc') (ha : h a = some (.inr (2, N, .inr (.inr (.inr (.inr f)))))) (hj : j < N) (hN : N < 2 ^ 31) (hci : q_Ty ci C) (hc : Cond.castable C "java/lang/Object" ∈ q_X) (hv : h v = some (.inl (ci, fs))) (kk : GW g Z A post rc rs (q_up h a (.inr (2, N, .inr (.inr (.inr (.inr (va_up f j (some v)))))))) pc' ls st) : GW g Z A post rc rs h pc ls (.ref v :: .int (nI j) :: .ref a :: st) := by
  obtain ⟨hx, hb, hml, hown, hts, hK, -⟩ := ok
  subst hp
  intro H locs la n k hH hD hS hL hn hk
  obtain ⟨cellV, g1, g3, ⟨kC, hkC⟩, hasg⟩ := q_any hK hH hci hc hv
  obtain ⟨kA, comp, k1, k2, k3, -⟩ := (hK.cl.2 2 _ rfl).2
  obtain ⟨kE, hkE, -⟩ := Vm.findClass_spec k3
  refine W.aast hx hb ((hH.2.2 a _ ha).2) (fun q h => by cases h) (fun h => by cases h) k1 k2 rfl hkE ⟨nI_pos (by omega), by show _ < (arrV _ _ _).slots.size; rw [arrV_size, nI_clamp (by omega)]; exact hj⟩ g1 (fun q h => by rw [h] at g3; cases g3) hkC (hasg _ k3) rfl rfl hd fun H1 e z oq => ?_
  refine kk H1 _ la n k (hH.set ha z oq ?_) (q_dom_up hD (hD a _ ha)) (hS.put z oq (hD a _ ha)) hL hn hk
  show H1[a]? = some (vp_cell _ _)
  rw [e, nI_clamp (by omega)]
  show some ((vp_cell _ _).setSlot _ _) = _
  rw [vp_cell_q, vp_cell_q, arrV_store]
  congr 2
  funext q
  by_cases hq : q = j
  · subst hq
    simp [updV, va_up, va_rf]
  · simp [updV, va_up, hq]
theorem g_aastN (ok : q_ok g Z A own name cc nL ret d) {a N j : Nat} {f : Nat → Option Nat} (hd : decode cc pc = .ok (.aastore, 1)) (hp : pc + 1 = pc') (ha : h a = some (.inr (2, N, .inr (.inr (.inr (.inr f)))))) (hj : j < N) (hN : N < 2 ^ 31) (kk : GW g Z A post rc rs (q_up h a (.inr (2, N, .inr (.inr (.inr (.inr (va_up f j none))))))) pc' ls st) : GW g Z A post rc rs h pc ls (.null :: .int (nI j) :: .ref a :: st) := by
  obtain ⟨hx, hb, hml, hown, hts, hK, -⟩ := ok
  subst hp
  intro H locs la n k hH hD hS hL hn hk
  refine va_WaastN (C := "java/lang/Object") hx hb ((hH.2.2 a _ ha).2) ((hK.cl.2 2 _ rfl).1 N (fun j => va_rf (f j))) (fun h => by cases h) (by show ¬ (nI j < 0 ∨ (arrV _ _ _).slots.size ≤ _); rw [arrV_size]; exact vp_in_nI hj hN) rfl rfl hd fun H1 e z oq => ?_
  refine kk H1 _ la n k (hH.set ha z oq ?_) (q_dom_up hD (hD a _ ha)) (hS.put z oq (hD a _ ha)) hL hn hk
  show H1[a]? = some (vp_cell _ _)
  rw [e, nI_clamp (by omega)]
  show some ((vp_cell _ _).setSlot _ _) = _
  rw [vp_cell_q, vp_cell_q, arrV_store]
  congr 2
  funext q
  by_cases hq : q = j
  · subst hq
    simp [updV, va_up, va_rf]
  · simp [updV, va_up, hq]
theorem g_anew (ok : q_ok g Z A own name cc nL ret d) {index N : Nat} (hd : decode cc pc = .ok (.anewarray index, 3)) (hp : pc + 3 = pc') (hl : Cond.classLink own index "java/lang/Object" ∈ q_T) (hN : N * 4 ≤ 536870912) {rc' rs' : Nat} (hc1 : rc' + 1 ≤ rc) (hs1 : rs' + N ≤ rs) (kk : ∀ q : Nat, h q = none → q_bs g ≤ q → GW g Z A post rc' rs' (q_up h q (.inr (2, N, .inr (.inr (.inr (.inr (fun _ => none))))))) pc' ls (.ref q :: st)) : GW g Z A post rc rs h pc ls (.int (nI N) :: st) := by
  obtain ⟨hx, hb, hml, hown, hts, hK, hA, -⟩ := ok
  subst hp
  intro H locs la n k hH hD hS hL hn hk
  have hcl : (nI N).toNatClampNeg = N := nI_clamp (by omega)
  refine W.anew hx hb hown (hts _ hl) (va_AO.use hK.ao) rfl hd rfl (nI_pos (by omega)) (by rw [hcl]; exact hN) (by omega) (by rw [hcl]; omega) fun cA kA comp f1 f2 f3 f4 => ?_
  rw [hcl]
  generalize hH1 : H.push ({ cls := cA, slots := Array.replicate N .null, vm := .none } : Cell) = H1
  have z1 : H1.size = H.size + 1 := by rw [← hH1, Array.size_push]
  have e1 : H1[H.size]? = some (arrV cA N (fun _ => .null)) := by rw [← hH1, Array.getElem?_push_size, ← arrV_new]
  have o1 : ∀ q : Nat, q < H.size → H1[q]? = H[q]? := fun q hq => by rw [← hH1, Array.getElem?_push, if_neg (Nat.ne_of_lt hq)]
  refine kk H.size hH.fresh hH.1 H1 locs la (n + 1) (k + N) (hH.push o1 z1 ?_) (q_dom_up hD (hA _ hS.1)) (q_S.push hS o1 z1) hL (by omega) (by omega)
  have hcA : cA = q_dA g 2 := by
    obtain ⟨kA', comp', g1, g2, g3, g4⟩ := (hK.cl.2 2 _ rfl).2
    exact Option.some.inj (f1.symm.trans g4)
  subst hcA
  show H1[H.size]? = some (vp_cell _ _)
  rw [vp_cell_q]
  exact e1
theorem g_getE (ok : q_ok g Z A own name cc nL ret d) {index : Nat} (hd : decode cc pc = .ok (.getstatic index, 3)) (hp : pc + 3 = pc') (hl : Cond.fieldLink own index "java/util/ArrayList" "DEFAULTCAPACITY_EMPTY_ELEMENTDATA" "[Ljava/lang/Object;" ∈ q_T) (kk : GW g Z A post rc rs h pc' ls (.ref (q_ad g 0) :: st)) : GW g Z A post rc rs h pc ls st := by
  obtain ⟨hx, hb, hml, hown, hts, hK, -⟩ := ok
  subst hp
  intro H locs la n k hH hD hS hL hn hk
  obtain ⟨cf, kf, fi, f, a, cell, h1, h2, h3, h4, h5, h6, h7, h8⟩ := hK.st
  have hlt : a < q_bs g := by rw [← hK.sz]; exact (Array.getElem?_eq_some_iff.mp h5).1
  exact W.gets hx hb hown (hts _ hl) h1 h2 h3 h4 (by rw [hH.2.1 a hlt]; exact h5) (fun e => by rw [e] at h6; cases h6) h7 rfl hd (kk H locs la n k hH hD hS hL hn hk)
theorem g_alenE (ok : q_ok g Z A own name cc nL ret d) (hd : decode cc pc = .ok (.arraylength, 1)) (hp : pc + 1 = pc') (kk : GW g Z A post rc rs h pc' ls (.int (nI 0) :: st)) : GW g Z A post rc rs h pc ls (.ref (q_ad g 0) :: st) := by
  obtain ⟨hx, hb, hml, hown, hts, hK, -⟩ := ok
  subst hp
  intro H locs la n k hH hD hS hL hn hk
  obtain ⟨cell, h1, h2, h3, h4, h5⟩ := hK.em
  have hlt : q_ad g 0 < q_bs g := by rw [← hK.sz]; exact (Array.getElem?_eq_some_iff.mp h1).1
  exact W.alen hx hb (by rw [hH.2.1 _ hlt]; exact h1) h2 (by rw [h4]; rfl) rfl rfl hd (kk H locs la n k hH hD hS hL hn hk)
theorem g_ldcM (ok : q_ok g Z A own name cc nL ret d) {index : Nat} (hd : decode cc pc = .ok (.ldc index, 2)) (hp : pc + 2 = pc') (hl : Cond.classLink own index "[Ljava/lang/Object;" ∈ q_T) (kk : GW g Z A post rc rs h pc' ls (.ref (q_ad g 1) :: st)) : GW g Z A post rc rs h pc ls st := by
  obtain ⟨hx, hb, hml, hown, hts, hK, -⟩ := ok
  subst hp
  exact fun H locs la n k hH hD hS hL hn hk => va_ldcM hx hb hown (hts _ hl) hK.mi hd (kk H locs la n k hH hD hS hL hn hk)
end GWD
end
section
/-! ===== getClass() of an array of objects, System.arraycopy between two of them ===== -/
def q_obj (h : q_H) (y : Nat) : Prop := ∃ (ci : Nat) (C : String) (fs : List Value), h y = some (.inl (ci, fs)) ∧ q_Ty ci C ∧ Cond.castable C "java/lang/Object" ∈ q_X
section GWN
variable {g : q_G} {Z : q_Z} {A : Nat → Prop} {post : q_R → q_H → Prop} {rc rs : Nat} {h : q_H} {pc pc' : Nat} {ls : List (Option Value)} {st : List Value} {own name : String} {cc : ByteArray} {nL d : Nat} {ret : Option FieldType}
theorem g_getC (ok : q_ok g Z A own name cc nL ret d) {index a : Nat} {x : vp_A} (hd : decode cc pc = .ok (.invokevirtual index, 3)) (hp : pc + 3 = pc') (hl : Cond.methodLink own index ⟨"java/lang/Object", "getClass", "()Ljava/lang/Class;"⟩ ∈ q_T) (ha : h a = some (.inr (2, x))) (hrest : (st.map fun v => v.category).sum ≤ 8) (hd1 : 1 ≤ d) (hlen : ls.length = nL) (kk : GW g Z A post rc rs h pc' ls (.ref (q_ad g 1) :: st)) : GW g Z A post rc rs h pc ls (.ref a :: st) := by
  obtain ⟨hx, hb, hml, hown, hts, hK, hA, hlk, hrt, hnm, hfr, hlo, -⟩ := ok
  subst hp
  intro H locs la n k hH hD hS hL hn hk
  have hcell : H[a]? = some (vp_cell (q_dA g 2) x) := (hH.2.2 a _ ha).2
  obtain ⟨kA, comp, g1, g2, g3, g4⟩ := (hK.cl.2 2 _ rfl).2
  refine va_getC hx hb (by rw [hml, hL.1, hlen]) (C := "[Ljava/lang/Object;") hown (hts _ hl) (va_Nw.use rfl (hK.xw _ (q_X_in 1283 (by decide +kernel) rfl))) (hts _ (q_T_in 1282 (by decide +kernel) rfl)) (hts _ (q_T_in 189 (by decide +kernel) rfl)) (hts _ (q_T_in 205 (by decide +kernel) rfl)) hK.mi ⟨_, hcell, ?_, ?_⟩ (by omega) (by omega) hd (kk H locs la n k hH hD hS hL hn hk)
  · obtain ⟨m, f | f | f | f | f⟩ := x <;> rfl
  · have e : (vp_cell (q_dA g 2) x).cls = q_dA g 2 := by obtain ⟨m, f | f | f | f | f⟩ := x <;> rfl
    rw [e]
    exact g4
theorem g_copyq (ok : q_ok g Z A own name cc nL ret d) {index a0 a n0 n1 cn : Nat} {f f1 : Nat → Option Nat} (hd : decode cc pc = .ok (.invokestatic index, 3)) (hp : pc + 3 = pc') (hl : Cond.methodLink own index arraycopyName ∈ q_T) (ha0 : h a0 = some (.inr (2, n0, .inr (.inr (.inr (.inr f)))))) (ha : h a = some (.inr (2, n1, .inr (.inr (.inr (.inr f1)))))) (h4 : cn ≤ n0) (h5 : cn ≤ n1) (hcn : cn < 2 ^ 31) (hel : ∀ (i y : Nat), i < cn → f i = some y → q_obj h y) (hrest : (st.map fun v => v.category).sum ≤ 8) (hd1 : 1 ≤ d) (hlen : ls.length = nL)
    (kk : GW g Z A post rc rs (q_up h a (.inr (2, n1, .inr (.inr (.inr (.inr (va_cpy f f1 0 0 cn))))))) pc' ls st) : GW g Z A post rc rs h pc ls (.int (nI cn) :: .int 0 :: .ref a :: .int 0 :: .ref a0 :: st) := by
  obtain ⟨hx, hb, hml, hown, hts, hK, hA, hlk, hrt, hnm, hfr, hlo, -⟩ := ok
  subst hp
  intro H locs la n k hH hD hS hL hn hk T hT X
  have hc0 : H[a0]? = some (vp_cell (q_dA g 2) (n0, .inr (.inr (.inr (.inr f))))) := (hH.2.2 a0 _ ha0).2
  have hc1 : H[a]? = some (vp_cell (q_dA g 2) (n1, .inr (.inr (.inr (.inr f1))))) := (hH.2.2 a _ ha).2
  obtain ⟨-, k0, hk0, cm0, hkk0⟩ := (hK.cl.2 2 _ rfl).1 n0 (fun j => va_rf (f j))
  obtain ⟨-, k1, hk1, cm1, hkk1⟩ := (hK.cl.2 2 _ rfl).1 n1 (fun j => va_rf (f1 j))
  have ecl : (nI cn).toNatClampNeg = cn := nI_clamp hcn
  have eti : (nI cn).toInt = (cn : Int) := nI_toInt hcn
  have h9 : nativeFrameWords "java/lang/System" "arraycopy" 5 + 11 ≤ 40 := by decide +kernel
  have hrm : 2 * (F0 (zm Z) pc la (.int (nI cn) :: .int 0 :: .ref a :: .int 0 :: .ref a0 :: st)).monitorRoom + (st.map fun v => v.category).sum ≤ 8 := lv_room hrest
  obtain ⟨vm', X', step⟩ := X.arraycopy hx hown (hts _ hl) (hts _ (q_T_in 217 (by decide +kernel) rfl)) (hts _ (q_T_in 216 (by decide +kernel) rfl)) (hts _ (q_T_in 11 (by decide +kernel) rfl)) (src := a0) (dst := a) (cs := vp_cell (q_dA g 2) (n0, .inr (.inr (.inr (.inr f))))) (cd := vp_cell (q_dA g 2) (n1, .inr (.inr (.inr (.inr f1))))) (srcPos := 0) (destPos := 0) (n := nI cn) (by rw [hT]; exact hc0) (by rw [hT]; exact hc1)
    (fun _ h => by cases h) (fun _ h => by cases h) (fun h => by cases h) (fun h => by cases h) hk0 hk1 hkk0 hkk1 rfl (by decide) (by decide) (nI_pos hcn)
    (by rw [eti]; show ¬ (0 : Int) + _ > ((arrV (q_dA g 2) n0 (fun j => va_rf (f j))).slots.size : Int); rw [arrV_size]; omega)
    (by rw [eti]; show ¬ (0 : Int) + _ > ((arrV (q_dA g 2) n1 (fun j => va_rf (f1 j))).slots.size : Int); rw [arrV_size]; omega)
    (fun vm₁ hal i hi => by
      have hi' : i < cn := by rw [ecl] at hi; exact hi
      have e0 : (0 : Int32).toNatClampNeg + i = i := by rw [show (0 : Int32).toNatClampNeg = 0 from rfl]; omega
      have e : (vp_cell (q_dA g 2) (n0, .inr (.inr (.inr (.inr f))))).slots.getD ((0 : Int32).toNatClampNeg + i) .null = va_rf (f i) := by
        show (arrV (q_dA g 2) n0 (fun j => va_rf (f j))).slots.getD _ _ = _
        rw [e0, Array.getD_eq_getD_getElem?, arrV_read _ _ (by omega)]
        rfl
      rw [e]
      cases hy : f i with
      | none => exact ⟨rfl, trivial⟩
      | some y =>
        obtain ⟨ci, C, fs, q1, q2, q3⟩ := hel i y hi' hy
        obtain ⟨cellV, g1, g2, ⟨kC, hkC⟩, hasg⟩ := q_any hK hH q2 q3 q1
        obtain ⟨kA, comp, r1, r2, r3, -⟩ := (hK.cl.2 2 _ rfl).2
        cases hk1.symm.trans r1
        cases hkk1.symm.trans r2
        obtain ⟨kE, hkE, -⟩ := Vm.findClass_spec r3
        obtain ⟨kC', hkC', -⟩ := hal.2.2 _ _ hkC
        obtain ⟨kE', hkE', -⟩ := hal.2.2 _ _ hkE
        refine ⟨rfl, cellV, (show T.heap[y]? = some cellV by rw [hT]; exact g1), (fun q h => by rw [h] at g2; cases g2), ⟨kC', hkC'⟩, ?_, ?_⟩
        · exact ⟨kE', hkE'⟩
        · show vm₁.assignable _ _ = true
          rw [hal.assignable]
          exact hasg _ r3)
    (g := F0 (zm Z) pc la (.int (nI cn) :: .int 0 :: .ref a :: .int 0 :: .ref a0 :: st)) rfl (by show la.size = _; rw [hL.1, hlen, hml]) (rest := st) rfl (by rw [hb]; exact hd) (by omega) (by omega)
  have e1 : copied (vp_cell (q_dA g 2) (n0, .inr (.inr (.inr (.inr f))))) (vp_cell (q_dA g 2) (n1, .inr (.inr (.inr (.inr f1))))) 0 0 (nI cn) = vp_cell (q_dA g 2) (n1, .inr (.inr (.inr (.inr (va_cpy f f1 0 0 cn))))) := by
    rw [vp_cell_q, vp_cell_q, vp_cell_q]
    show (arrV (q_dA g 2) n1 (fun j => va_rf (f1 j))).storeRun (0 : Int32).toNatClampNeg ((arrV (q_dA g 2) n0 (fun j => va_rf (f j))).stretch (0 : Int32).toNatClampNeg (nI cn).toNatClampNeg) = _
    rw [ecl]
    exact va_copied (fun z => va_rf z) (q_dA g 2) (q_dA g 2) f f1 (sp := 0) (dp := 0) (n := cn) (by omega)
  rw [e1] at X' step
  have hlt : a < H.size := (Array.getElem?_eq_some_iff.mp hc1).1
  generalize hH1 : H.setIfInBounds a (vp_cell (q_dA g 2) (n1, .inr (.inr (.inr (.inr (va_cpy f f1 0 0 cn)))))) = H1
  have oq : ∀ q : Nat, q ≠ a → H1[q]? = H[q]? := fun q hq => by rw [← hH1]; simp [Array.getElem?_setIfInBounds, Ne.symm hq]
  have hz : H1.size = H.size := by rw [← hH1]; simp
  have hc1' : H1[a]? = some (vp_cell (q_dA g 2) (n1, .inr (.inr (.inr (.inr (va_cpy f f1 0 0 cn)))))) := by rw [← hH1]; simp [Array.getElem?_setIfInBounds, hlt]
  obtain ⟨t, a1, b1⟩ := kk H1 _ la n k (hH.set ha hz oq hc1') (q_dom_up hD (hD a _ ha)) ⟨by rw [hz]; exact hS.1, fun q g1 g2 => by
      rw [oq q (fun e => g2 (by rw [e]; exact hD a _ ha))]
      exact hS.2.1 q g1 g2, fun q hq => by
      rcases List.mem_append.mp hq with h | h
      · exact hS.2.2 q h
      · obtain ⟨z, -, hz⟩ := List.mem_map.mp h
        rw [← hz]
        exact hD a _ ha⟩ hL hn hk _ (by rw [← hH1, ← hT]; rfl) X'
  exact ⟨t, step t a1, b1⟩
end GWN
end
