section
-- ===== PART A: goes FIRST, ahead of the names: the tables' words, and 'selects' of the private methods out of them =====
/-- a private method of a class that the tables say can be made, by its rows of tables_1 -/
def lw_okq (q : MethodName × Nat) : Prop := (q.1.cls ≠ "java/lang/invoke/MethodHandle" ∧ q.1.cls ≠ "java/lang/invoke/VarHandle") ∧ Cond.instantiable q.1.cls q.2 ∈ tables_1 ∧ Cond.privateMethod q.1 ∈ tables_1 ∧ Cond.instanceMethod q.1 ∈ tables_1
theorem lw_p0 : lw_okq (⟨"java/util/ArrayList", "add", "(Ljava/lang/Object;[Ljava/lang/Object;I)V"⟩, 3) := ⟨⟨by decide +kernel, by decide +kernel⟩, List.mem_of_getElem? (i := 91) (by decide +kernel), List.mem_of_getElem? (i := 164) (by decide +kernel), List.mem_of_getElem? (i := 165) (by decide +kernel)⟩
theorem lw_p1 : lw_okq (⟨"java/util/ArrayList", "grow", "()[Ljava/lang/Object;"⟩, 3) := ⟨⟨by decide +kernel, by decide +kernel⟩, List.mem_of_getElem? (i := 91) (by decide +kernel), List.mem_of_getElem? (i := 168) (by decide +kernel), List.mem_of_getElem? (i := 169) (by decide +kernel)⟩
theorem lw_p2 : lw_okq (⟨"java/util/ArrayList", "grow", "(I)[Ljava/lang/Object;"⟩, 3) := ⟨⟨by decide +kernel, by decide +kernel⟩, List.mem_of_getElem? (i := 91) (by decide +kernel), List.mem_of_getElem? (i := 172) (by decide +kernel), List.mem_of_getElem? (i := 173) (by decide +kernel)⟩
theorem lw_p3 : lw_okq (⟨"RatchetGroup$Member", "dropStaleKeys", "(LRatchetGroup$Tree;)V"⟩, 8) := ⟨⟨by decide +kernel, by decide +kernel⟩, List.mem_of_getElem? (i := 119) (by decide +kernel), List.mem_of_getElem? (i := 338) (by decide +kernel), List.mem_of_getElem? (i := 339) (by decide +kernel)⟩
theorem lw_p4 : lw_okq (⟨"RatchetGroup$Member", "takeKey", "(LRatchetGroup$Tree;I)V"⟩, 8) := ⟨⟨by decide +kernel, by decide +kernel⟩, List.mem_of_getElem? (i := 119) (by decide +kernel), List.mem_of_getElem? (i := 349) (by decide +kernel), List.mem_of_getElem? (i := 350) (by decide +kernel)⟩
theorem lw_p5 : lw_okq (⟨"RatchetGroup$Member", "takeCountingKeys", "(LRatchetGroup$Epoch;)V"⟩, 8) := ⟨⟨by decide +kernel, by decide +kernel⟩, List.mem_of_getElem? (i := 119) (by decide +kernel), List.mem_of_getElem? (i := 353) (by decide +kernel), List.mem_of_getElem? (i := 354) (by decide +kernel)⟩
theorem lw_p6 : lw_okq (⟨"RatchetGroup", "isMember", "(I)Z"⟩, 7) := ⟨⟨by decide +kernel, by decide +kernel⟩, List.mem_of_getElem? (i := 28) (by decide +kernel), List.mem_of_getElem? (i := 386) (by decide +kernel), List.mem_of_getElem? (i := 387) (by decide +kernel)⟩
theorem lw_p7 : lw_okq (⟨"RatchetGroup", "gather", "(LRatchetGroup$Member;)I"⟩, 7) := ⟨⟨by decide +kernel, by decide +kernel⟩, List.mem_of_getElem? (i := 28) (by decide +kernel), List.mem_of_getElem? (i := 408) (by decide +kernel), List.mem_of_getElem? (i := 409) (by decide +kernel)⟩
theorem lw_p8 : lw_okq (⟨"RatchetGroup", "isEpoch", "(I)Z"⟩, 7) := ⟨⟨by decide +kernel, by decide +kernel⟩, List.mem_of_getElem? (i := 28) (by decide +kernel), List.mem_of_getElem? (i := 412) (by decide +kernel), List.mem_of_getElem? (i := 413) (by decide +kernel)⟩
theorem lw_p9 : lw_okq (⟨"RatchetGroup$Tree", "resolutionFrom", "(II)I"⟩, 5) := ⟨⟨by decide +kernel, by decide +kernel⟩, List.mem_of_getElem? (i := 227) (by decide +kernel), List.mem_of_getElem? (i := 445) (by decide +kernel), List.mem_of_getElem? (i := 446) (by decide +kernel)⟩
theorem lw_p10 : lw_okq (⟨"RatchetGroup", "memberNumbered", "(I)LRatchetGroup$Member;"⟩, 7) := ⟨⟨by decide +kernel, by decide +kernel⟩, List.mem_of_getElem? (i := 28) (by decide +kernel), List.mem_of_getElem? (i := 496) (by decide +kernel), List.mem_of_getElem? (i := 497) (by decide +kernel)⟩
theorem lw_p11 : lw_okq (⟨"java/lang/Throwable", "fillInStackTrace", "(I)Ljava/lang/Throwable;"⟩, 6) := ⟨⟨by decide +kernel, by decide +kernel⟩, List.mem_of_getElem? (i := 537) (by decide +kernel), List.mem_of_getElem? (i := 535) (by decide +kernel), List.mem_of_getElem? (i := 536) (by decide +kernel)⟩
theorem lw_p12 : lw_okq (⟨"RatchetGroup", "refuseUnlessMayPropose", "(LRatchetGroup$Member;)V"⟩, 7) := ⟨⟨by decide +kernel, by decide +kernel⟩, List.mem_of_getElem? (i := 28) (by decide +kernel), List.mem_of_getElem? (i := 621) (by decide +kernel), List.mem_of_getElem? (i := 622) (by decide +kernel)⟩
theorem lw_p13 : lw_okq (⟨"RatchetGroup", "applyRemovals", "(LRatchetGroup$Epoch;)V"⟩, 7) := ⟨⟨by decide +kernel, by decide +kernel⟩, List.mem_of_getElem? (i := 28) (by decide +kernel), List.mem_of_getElem? (i := 701) (by decide +kernel), List.mem_of_getElem? (i := 702) (by decide +kernel)⟩
theorem lw_p14 : lw_okq (⟨"RatchetGroup", "removeLeaf", "(LRatchetGroup$Epoch;I)V"⟩, 7) := ⟨⟨by decide +kernel, by decide +kernel⟩, List.mem_of_getElem? (i := 28) (by decide +kernel), List.mem_of_getElem? (i := 705) (by decide +kernel), List.mem_of_getElem? (i := 706) (by decide +kernel)⟩
theorem lw_p15 : lw_okq (⟨"RatchetGroup$Tree", "blankWithPath", "(I)V"⟩, 5) := ⟨⟨by decide +kernel, by decide +kernel⟩, List.mem_of_getElem? (i := 227) (by decide +kernel), List.mem_of_getElem? (i := 714) (by decide +kernel), List.mem_of_getElem? (i := 715) (by decide +kernel)⟩
def lw_privs_1 : List (MethodName × Nat) := [(⟨"java/util/ArrayList", "add", "(Ljava/lang/Object;[Ljava/lang/Object;I)V"⟩, 3), (⟨"java/util/ArrayList", "grow", "()[Ljava/lang/Object;"⟩, 3), (⟨"java/util/ArrayList", "grow", "(I)[Ljava/lang/Object;"⟩, 3), (⟨"RatchetGroup$Member", "dropStaleKeys", "(LRatchetGroup$Tree;)V"⟩, 8), (⟨"RatchetGroup$Member", "takeKey", "(LRatchetGroup$Tree;I)V"⟩, 8), (⟨"RatchetGroup$Member", "takeCountingKeys", "(LRatchetGroup$Epoch;)V"⟩, 8), (⟨"RatchetGroup", "isMember", "(I)Z"⟩, 7), (⟨"RatchetGroup", "gather", "(LRatchetGroup$Member;)I"⟩, 7), (⟨"RatchetGroup", "isEpoch", "(I)Z"⟩, 7), (⟨"RatchetGroup$Tree", "resolutionFrom", "(II)I"⟩, 5), (⟨"RatchetGroup", "memberNumbered", "(I)LRatchetGroup$Member;"⟩, 7), (⟨"java/lang/Throwable", "fillInStackTrace", "(I)Ljava/lang/Throwable;"⟩, 6), (⟨"RatchetGroup", "refuseUnlessMayPropose", "(LRatchetGroup$Member;)V"⟩, 7), (⟨"RatchetGroup", "applyRemovals", "(LRatchetGroup$Epoch;)V"⟩, 7), (⟨"RatchetGroup", "removeLeaf", "(LRatchetGroup$Epoch;I)V"⟩, 7), (⟨"RatchetGroup$Tree", "blankWithPath", "(I)V"⟩, 5)]
theorem lw_r1 : ∀ q ∈ lw_privs_1, lw_okq q := List.forall_mem_cons.mpr ⟨lw_p0, List.forall_mem_cons.mpr ⟨lw_p1, List.forall_mem_cons.mpr ⟨lw_p2, List.forall_mem_cons.mpr ⟨lw_p3, List.forall_mem_cons.mpr ⟨lw_p4, List.forall_mem_cons.mpr ⟨lw_p5, List.forall_mem_cons.mpr ⟨lw_p6, List.forall_mem_cons.mpr ⟨lw_p7, List.forall_mem_cons.mpr ⟨lw_p8, List.forall_mem_cons.mpr ⟨lw_p9, List.forall_mem_cons.mpr ⟨lw_p10, List.forall_mem_cons.mpr ⟨lw_p11, List.forall_mem_cons.mpr ⟨lw_p12, List.forall_mem_cons.mpr ⟨lw_p13, List.forall_mem_cons.mpr ⟨lw_p14, List.forall_mem_cons.mpr ⟨lw_p15, fun _ h => absurd h List.not_mem_nil⟩⟩⟩⟩⟩⟩⟩⟩⟩⟩⟩⟩⟩⟩⟩⟩
theorem lw_p16 : lw_okq (⟨"RatchetGroup$Tree", "isRightHalfBlank", "()Z"⟩, 5) := ⟨⟨by decide +kernel, by decide +kernel⟩, List.mem_of_getElem? (i := 227) (by decide +kernel), List.mem_of_getElem? (i := 730) (by decide +kernel), List.mem_of_getElem? (i := 731) (by decide +kernel)⟩
theorem lw_p17 : lw_okq (⟨"RatchetGroup", "applyRenewals", "(LRatchetGroup$Epoch;)V"⟩, 7) := ⟨⟨by decide +kernel, by decide +kernel⟩, List.mem_of_getElem? (i := 28) (by decide +kernel), List.mem_of_getElem? (i := 738) (by decide +kernel), List.mem_of_getElem? (i := 739) (by decide +kernel)⟩
theorem lw_p18 : lw_okq (⟨"RatchetGroup", "applyAdditions", "(LRatchetGroup$Epoch;)V"⟩, 7) := ⟨⟨by decide +kernel, by decide +kernel⟩, List.mem_of_getElem? (i := 28) (by decide +kernel), List.mem_of_getElem? (i := 751) (by decide +kernel), List.mem_of_getElem? (i := 752) (by decide +kernel)⟩
theorem lw_p19 : lw_okq (⟨"RatchetGroup", "addLeaf", "(LRatchetGroup$Epoch;LRatchetGroup$KeyPackage;)V"⟩, 7) := ⟨⟨by decide +kernel, by decide +kernel⟩, List.mem_of_getElem? (i := 28) (by decide +kernel), List.mem_of_getElem? (i := 755) (by decide +kernel), List.mem_of_getElem? (i := 756) (by decide +kernel)⟩
theorem lw_p20 : lw_okq (⟨"RatchetGroup$Epoch", "nodeBesidePath", "(I)I"⟩, 10) := ⟨⟨by decide +kernel, by decide +kernel⟩, List.mem_of_getElem? (i := 221) (by decide +kernel), List.mem_of_getElem? (i := 782) (by decide +kernel), List.mem_of_getElem? (i := 783) (by decide +kernel)⟩
theorem lw_p21 : lw_okq (⟨"RatchetGroup$Epoch", "encryptPathSecret", "(LRatchetGroup$Secrets;I)V"⟩, 10) := ⟨⟨by decide +kernel, by decide +kernel⟩, List.mem_of_getElem? (i := 221) (by decide +kernel), List.mem_of_getElem? (i := 803) (by decide +kernel), List.mem_of_getElem? (i := 804) (by decide +kernel)⟩
theorem lw_p22 : lw_okq (⟨"RatchetGroup", "welcomeAdded", "(LRatchetGroup$Epoch;I)V"⟩, 7) := ⟨⟨by decide +kernel, by decide +kernel⟩, List.mem_of_getElem? (i := 28) (by decide +kernel), List.mem_of_getElem? (i := 823) (by decide +kernel), List.mem_of_getElem? (i := 824) (by decide +kernel)⟩
theorem lw_p23 : lw_okq (⟨"RatchetGroup$Secrets", "followWays", "(I)V"⟩, 10) := ⟨⟨by decide +kernel, by decide +kernel⟩, List.mem_of_getElem? (i := 36) (by decide +kernel), List.mem_of_getElem? (i := 841) (by decide +kernel), List.mem_of_getElem? (i := 842) (by decide +kernel)⟩
theorem lw_p24 : lw_okq (⟨"RatchetGroup", "joinEarliest", "(LRatchetGroup$Member;)V"⟩, 7) := ⟨⟨by decide +kernel, by decide +kernel⟩, List.mem_of_getElem? (i := 28) (by decide +kernel), List.mem_of_getElem? (i := 852) (by decide +kernel), List.mem_of_getElem? (i := 853) (by decide +kernel)⟩
theorem lw_p25 : lw_okq (⟨"RatchetGroup", "moveOn", "(LRatchetGroup$Member;)V"⟩, 7) := ⟨⟨by decide +kernel, by decide +kernel⟩, List.mem_of_getElem? (i := 28) (by decide +kernel), List.mem_of_getElem? (i := 857) (by decide +kernel), List.mem_of_getElem? (i := 858) (by decide +kernel)⟩
theorem lw_p26 : lw_okq (⟨"RatchetGroup$Member", "holdsOneOf", "(ILRatchetGroup$Tree;)Z"⟩, 8) := ⟨⟨by decide +kernel, by decide +kernel⟩, List.mem_of_getElem? (i := 119) (by decide +kernel), List.mem_of_getElem? (i := 869) (by decide +kernel), List.mem_of_getElem? (i := 870) (by decide +kernel)⟩
theorem lw_p27 : lw_okq (⟨"RatchetGroupModel", "make", "(III)I"⟩, 52) := ⟨⟨by decide +kernel, by decide +kernel⟩, List.mem_of_getElem? (i := 881) (by decide +kernel), List.mem_of_getElem? (i := 887) (by decide +kernel), List.mem_of_getElem? (i := 888) (by decide +kernel)⟩
theorem lw_p28 : lw_okq (⟨"RatchetGroupModel", "leave", "(I)V"⟩, 52) := ⟨⟨by decide +kernel, by decide +kernel⟩, List.mem_of_getElem? (i := 881) (by decide +kernel), List.mem_of_getElem? (i := 891) (by decide +kernel), List.mem_of_getElem? (i := 892) (by decide +kernel)⟩
theorem lw_p29 : lw_okq (⟨"RatchetGroupModel", "isAsked", "(IZ)Z"⟩, 52) := ⟨⟨by decide +kernel, by decide +kernel⟩, List.mem_of_getElem? (i := 881) (by decide +kernel), List.mem_of_getElem? (i := 1068) (by decide +kernel), List.mem_of_getElem? (i := 1069) (by decide +kernel)⟩
theorem lw_p30 : lw_okq (⟨"RatchetGroupModel", "isLatest", "(I)Z"⟩, 52) := ⟨⟨by decide +kernel, by decide +kernel⟩, List.mem_of_getElem? (i := 881) (by decide +kernel), List.mem_of_getElem? (i := 1072) (by decide +kernel), List.mem_of_getElem? (i := 1073) (by decide +kernel)⟩
theorem lw_p31 : lw_okq (⟨"RatchetGroupModel", "propose", "(III)I"⟩, 52) := ⟨⟨by decide +kernel, by decide +kernel⟩, List.mem_of_getElem? (i := 881) (by decide +kernel), List.mem_of_getElem? (i := 1076) (by decide +kernel), List.mem_of_getElem? (i := 1077) (by decide +kernel)⟩
def lw_privs_2 : List (MethodName × Nat) := [(⟨"RatchetGroup$Tree", "isRightHalfBlank", "()Z"⟩, 5), (⟨"RatchetGroup", "applyRenewals", "(LRatchetGroup$Epoch;)V"⟩, 7), (⟨"RatchetGroup", "applyAdditions", "(LRatchetGroup$Epoch;)V"⟩, 7), (⟨"RatchetGroup", "addLeaf", "(LRatchetGroup$Epoch;LRatchetGroup$KeyPackage;)V"⟩, 7), (⟨"RatchetGroup$Epoch", "nodeBesidePath", "(I)I"⟩, 10), (⟨"RatchetGroup$Epoch", "encryptPathSecret", "(LRatchetGroup$Secrets;I)V"⟩, 10), (⟨"RatchetGroup", "welcomeAdded", "(LRatchetGroup$Epoch;I)V"⟩, 7), (⟨"RatchetGroup$Secrets", "followWays", "(I)V"⟩, 10), (⟨"RatchetGroup", "joinEarliest", "(LRatchetGroup$Member;)V"⟩, 7), (⟨"RatchetGroup", "moveOn", "(LRatchetGroup$Member;)V"⟩, 7), (⟨"RatchetGroup$Member", "holdsOneOf", "(ILRatchetGroup$Tree;)Z"⟩, 8), (⟨"RatchetGroupModel", "make", "(III)I"⟩, 52), (⟨"RatchetGroupModel", "leave", "(I)V"⟩, 52), (⟨"RatchetGroupModel", "isAsked", "(IZ)Z"⟩, 52), (⟨"RatchetGroupModel", "isLatest", "(I)Z"⟩, 52), (⟨"RatchetGroupModel", "propose", "(III)I"⟩, 52)]
theorem lw_r2 : ∀ q ∈ lw_privs_2, lw_okq q := List.forall_mem_cons.mpr ⟨lw_p16, List.forall_mem_cons.mpr ⟨lw_p17, List.forall_mem_cons.mpr ⟨lw_p18, List.forall_mem_cons.mpr ⟨lw_p19, List.forall_mem_cons.mpr ⟨lw_p20, List.forall_mem_cons.mpr ⟨lw_p21, List.forall_mem_cons.mpr ⟨lw_p22, List.forall_mem_cons.mpr ⟨lw_p23, List.forall_mem_cons.mpr ⟨lw_p24, List.forall_mem_cons.mpr ⟨lw_p25, List.forall_mem_cons.mpr ⟨lw_p26, List.forall_mem_cons.mpr ⟨lw_p27, List.forall_mem_cons.mpr ⟨lw_p28, List.forall_mem_cons.mpr ⟨lw_p29, List.forall_mem_cons.mpr ⟨lw_p30, List.forall_mem_cons.mpr ⟨lw_p31, fun _ h => absurd h List.not_mem_nil⟩⟩⟩⟩⟩⟩⟩⟩⟩⟩⟩⟩⟩⟩⟩⟩
theorem lw_p32 : lw_okq (⟨"RatchetGroupModel", "change", "(IZ)V"⟩, 52) := ⟨⟨by decide +kernel, by decide +kernel⟩, List.mem_of_getElem? (i := 881) (by decide +kernel), List.mem_of_getElem? (i := 1092) (by decide +kernel), List.mem_of_getElem? (i := 1093) (by decide +kernel)⟩
theorem lw_p33 : lw_okq (⟨"RatchetGroupModel", "copyTree", "(II)V"⟩, 52) := ⟨⟨by decide +kernel, by decide +kernel⟩, List.mem_of_getElem? (i := 881) (by decide +kernel), List.mem_of_getElem? (i := 1096) (by decide +kernel), List.mem_of_getElem? (i := 1097) (by decide +kernel)⟩
theorem lw_p34 : lw_okq (⟨"RatchetGroupModel", "width", "(I)I"⟩, 52) := ⟨⟨by decide +kernel, by decide +kernel⟩, List.mem_of_getElem? (i := 881) (by decide +kernel), List.mem_of_getElem? (i := 1100) (by decide +kernel), List.mem_of_getElem? (i := 1101) (by decide +kernel)⟩
theorem lw_p35 : lw_okq (⟨"RatchetGroupModel", "findRemoves", "(II)V"⟩, 52) := ⟨⟨by decide +kernel, by decide +kernel⟩, List.mem_of_getElem? (i := 881) (by decide +kernel), List.mem_of_getElem? (i := 1104) (by decide +kernel), List.mem_of_getElem? (i := 1105) (by decide +kernel)⟩
theorem lw_p36 : lw_okq (⟨"RatchetGroupModel", "findUpdates", "(II)V"⟩, 52) := ⟨⟨by decide +kernel, by decide +kernel⟩, List.mem_of_getElem? (i := 881) (by decide +kernel), List.mem_of_getElem? (i := 1108) (by decide +kernel), List.mem_of_getElem? (i := 1109) (by decide +kernel)⟩
theorem lw_p37 : lw_okq (⟨"RatchetGroupModel", "doRemoves", "(I)V"⟩, 52) := ⟨⟨by decide +kernel, by decide +kernel⟩, List.mem_of_getElem? (i := 881) (by decide +kernel), List.mem_of_getElem? (i := 1112) (by decide +kernel), List.mem_of_getElem? (i := 1113) (by decide +kernel)⟩
theorem lw_p38 : lw_okq (⟨"RatchetGroupModel", "blank", "(II)V"⟩, 52) := ⟨⟨by decide +kernel, by decide +kernel⟩, List.mem_of_getElem? (i := 881) (by decide +kernel), List.mem_of_getElem? (i := 1116) (by decide +kernel), List.mem_of_getElem? (i := 1117) (by decide +kernel)⟩
theorem lw_p39 : lw_okq (⟨"RatchetGroupModel", "blankPath", "(II)V"⟩, 52) := ⟨⟨by decide +kernel, by decide +kernel⟩, List.mem_of_getElem? (i := 881) (by decide +kernel), List.mem_of_getElem? (i := 1120) (by decide +kernel), List.mem_of_getElem? (i := 1121) (by decide +kernel)⟩
theorem lw_p40 : lw_okq (⟨"RatchetGroupModel", "isRightBlank", "(I)Z"⟩, 52) := ⟨⟨by decide +kernel, by decide +kernel⟩, List.mem_of_getElem? (i := 881) (by decide +kernel), List.mem_of_getElem? (i := 1127) (by decide +kernel), List.mem_of_getElem? (i := 1128) (by decide +kernel)⟩
theorem lw_p41 : lw_okq (⟨"RatchetGroupModel", "doUpdates", "(I)V"⟩, 52) := ⟨⟨by decide +kernel, by decide +kernel⟩, List.mem_of_getElem? (i := 881) (by decide +kernel), List.mem_of_getElem? (i := 1131) (by decide +kernel), List.mem_of_getElem? (i := 1132) (by decide +kernel)⟩
theorem lw_p42 : lw_okq (⟨"RatchetGroupModel", "set", "(III)V"⟩, 52) := ⟨⟨by decide +kernel, by decide +kernel⟩, List.mem_of_getElem? (i := 881) (by decide +kernel), List.mem_of_getElem? (i := 1135) (by decide +kernel), List.mem_of_getElem? (i := 1136) (by decide +kernel)⟩
theorem lw_p43 : lw_okq (⟨"RatchetGroupModel", "doAdds", "(I)V"⟩, 52) := ⟨⟨by decide +kernel, by decide +kernel⟩, List.mem_of_getElem? (i := 881) (by decide +kernel), List.mem_of_getElem? (i := 1139) (by decide +kernel), List.mem_of_getElem? (i := 1140) (by decide +kernel)⟩
theorem lw_p44 : lw_okq (⟨"RatchetGroupModel", "mayAdd", "(II)Z"⟩, 52) := ⟨⟨by decide +kernel, by decide +kernel⟩, List.mem_of_getElem? (i := 881) (by decide +kernel), List.mem_of_getElem? (i := 1143) (by decide +kernel), List.mem_of_getElem? (i := 1144) (by decide +kernel)⟩
theorem lw_p45 : lw_okq (⟨"RatchetGroupModel", "leafOf", "(II)I"⟩, 52) := ⟨⟨by decide +kernel, by decide +kernel⟩, List.mem_of_getElem? (i := 881) (by decide +kernel), List.mem_of_getElem? (i := 1147) (by decide +kernel), List.mem_of_getElem? (i := 1148) (by decide +kernel)⟩
theorem lw_p46 : lw_okq (⟨"RatchetGroupModel", "freeLeaf", "(I)I"⟩, 52) := ⟨⟨by decide +kernel, by decide +kernel⟩, List.mem_of_getElem? (i := 881) (by decide +kernel), List.mem_of_getElem? (i := 1151) (by decide +kernel), List.mem_of_getElem? (i := 1152) (by decide +kernel)⟩
theorem lw_p47 : lw_okq (⟨"RatchetGroupModel", "renew", "(II)I"⟩, 52) := ⟨⟨by decide +kernel, by decide +kernel⟩, List.mem_of_getElem? (i := 881) (by decide +kernel), List.mem_of_getElem? (i := 1155) (by decide +kernel), List.mem_of_getElem? (i := 1156) (by decide +kernel)⟩
def lw_privs_3 : List (MethodName × Nat) := [(⟨"RatchetGroupModel", "change", "(IZ)V"⟩, 52), (⟨"RatchetGroupModel", "copyTree", "(II)V"⟩, 52), (⟨"RatchetGroupModel", "width", "(I)I"⟩, 52), (⟨"RatchetGroupModel", "findRemoves", "(II)V"⟩, 52), (⟨"RatchetGroupModel", "findUpdates", "(II)V"⟩, 52), (⟨"RatchetGroupModel", "doRemoves", "(I)V"⟩, 52), (⟨"RatchetGroupModel", "blank", "(II)V"⟩, 52), (⟨"RatchetGroupModel", "blankPath", "(II)V"⟩, 52), (⟨"RatchetGroupModel", "isRightBlank", "(I)Z"⟩, 52), (⟨"RatchetGroupModel", "doUpdates", "(I)V"⟩, 52), (⟨"RatchetGroupModel", "set", "(III)V"⟩, 52), (⟨"RatchetGroupModel", "doAdds", "(I)V"⟩, 52), (⟨"RatchetGroupModel", "mayAdd", "(II)Z"⟩, 52), (⟨"RatchetGroupModel", "leafOf", "(II)I"⟩, 52), (⟨"RatchetGroupModel", "freeLeaf", "(I)I"⟩, 52), (⟨"RatchetGroupModel", "renew", "(II)I"⟩, 52)]
theorem lw_r3 : ∀ q ∈ lw_privs_3, lw_okq q := List.forall_mem_cons.mpr ⟨lw_p32, List.forall_mem_cons.mpr ⟨lw_p33, List.forall_mem_cons.mpr ⟨lw_p34, List.forall_mem_cons.mpr ⟨lw_p35, List.forall_mem_cons.mpr ⟨lw_p36, List.forall_mem_cons.mpr ⟨lw_p37, List.forall_mem_cons.mpr ⟨lw_p38, List.forall_mem_cons.mpr ⟨lw_p39, List.forall_mem_cons.mpr ⟨lw_p40, List.forall_mem_cons.mpr ⟨lw_p41, List.forall_mem_cons.mpr ⟨lw_p42, List.forall_mem_cons.mpr ⟨lw_p43, List.forall_mem_cons.mpr ⟨lw_p44, List.forall_mem_cons.mpr ⟨lw_p45, List.forall_mem_cons.mpr ⟨lw_p46, List.forall_mem_cons.mpr ⟨lw_p47, fun _ h => absurd h List.not_mem_nil⟩⟩⟩⟩⟩⟩⟩⟩⟩⟩⟩⟩⟩⟩⟩⟩
theorem lw_p48 : lw_okq (⟨"RatchetGroupModel", "resolve", "(II)V"⟩, 52) := ⟨⟨by decide +kernel, by decide +kernel⟩, List.mem_of_getElem? (i := 881) (by decide +kernel), List.mem_of_getElem? (i := 1159) (by decide +kernel), List.mem_of_getElem? (i := 1160) (by decide +kernel)⟩
theorem lw_p49 : lw_okq (⟨"RatchetGroupModel", "of", "(III)I"⟩, 52) := ⟨⟨by decide +kernel, by decide +kernel⟩, List.mem_of_getElem? (i := 881) (by decide +kernel), List.mem_of_getElem? (i := 1166) (by decide +kernel), List.mem_of_getElem? (i := 1167) (by decide +kernel)⟩
theorem lw_p50 : lw_okq (⟨"RatchetGroupModel", "encrypt", "(III)V"⟩, 52) := ⟨⟨by decide +kernel, by decide +kernel⟩, List.mem_of_getElem? (i := 881) (by decide +kernel), List.mem_of_getElem? (i := 1170) (by decide +kernel), List.mem_of_getElem? (i := 1171) (by decide +kernel)⟩
theorem lw_p51 : lw_okq (⟨"RatchetGroupModel", "welcome", "(II)V"⟩, 52) := ⟨⟨by decide +kernel, by decide +kernel⟩, List.mem_of_getElem? (i := 881) (by decide +kernel), List.mem_of_getElem? (i := 1174) (by decide +kernel), List.mem_of_getElem? (i := 1175) (by decide +kernel)⟩
theorem lw_p52 : lw_okq (⟨"RatchetGroupModel", "meeting", "(II)I"⟩, 52) := ⟨⟨by decide +kernel, by decide +kernel⟩, List.mem_of_getElem? (i := 881) (by decide +kernel), List.mem_of_getElem? (i := 1178) (by decide +kernel), List.mem_of_getElem? (i := 1179) (by decide +kernel)⟩
theorem lw_p53 : lw_okq (⟨"RatchetGroupModel", "advance", "(IIZ)V"⟩, 52) := ⟨⟨by decide +kernel, by decide +kernel⟩, List.mem_of_getElem? (i := 881) (by decide +kernel), List.mem_of_getElem? (i := 1182) (by decide +kernel), List.mem_of_getElem? (i := 1183) (by decide +kernel)⟩
theorem lw_p54 : lw_okq (⟨"RatchetGroupModel", "keep", "(II)V"⟩, 52) := ⟨⟨by decide +kernel, by decide +kernel⟩, List.mem_of_getElem? (i := 881) (by decide +kernel), List.mem_of_getElem? (i := 1186) (by decide +kernel), List.mem_of_getElem? (i := 1187) (by decide +kernel)⟩
theorem lw_p55 : lw_okq (⟨"RatchetGroupModel", "tell", "(III)V"⟩, 52) := ⟨⟨by decide +kernel, by decide +kernel⟩, List.mem_of_getElem? (i := 881) (by decide +kernel), List.mem_of_getElem? (i := 1190) (by decide +kernel), List.mem_of_getElem? (i := 1191) (by decide +kernel)⟩
theorem lw_p56 : lw_okq (⟨"RatchetGroupModel", "nextPackage", "(I)I"⟩, 52) := ⟨⟨by decide +kernel, by decide +kernel⟩, List.mem_of_getElem? (i := 881) (by decide +kernel), List.mem_of_getElem? (i := 1198) (by decide +kernel), List.mem_of_getElem? (i := 1199) (by decide +kernel)⟩
theorem lw_p57 : lw_okq (⟨"RatchetGroupModel", "join", "(II)V"⟩, 52) := ⟨⟨by decide +kernel, by decide +kernel⟩, List.mem_of_getElem? (i := 881) (by decide +kernel), List.mem_of_getElem? (i := 1202) (by decide +kernel), List.mem_of_getElem? (i := 1203) (by decide +kernel)⟩
theorem lw_p58 : lw_okq (⟨"RatchetGroupModel", "follow", "(I)V"⟩, 52) := ⟨⟨by decide +kernel, by decide +kernel⟩, List.mem_of_getElem? (i := 881) (by decide +kernel), List.mem_of_getElem? (i := 1206) (by decide +kernel), List.mem_of_getElem? (i := 1207) (by decide +kernel)⟩
theorem lw_p59 : lw_okq (⟨"RatchetGroupModel", "gather", "(I)V"⟩, 52) := ⟨⟨by decide +kernel, by decide +kernel⟩, List.mem_of_getElem? (i := 881) (by decide +kernel), List.mem_of_getElem? (i := 1210) (by decide +kernel), List.mem_of_getElem? (i := 1211) (by decide +kernel)⟩
theorem lw_p60 : lw_okq (⟨"RatchetGroupModel", "hold", "(I)V"⟩, 52) := ⟨⟨by decide +kernel, by decide +kernel⟩, List.mem_of_getElem? (i := 881) (by decide +kernel), List.mem_of_getElem? (i := 1214) (by decide +kernel), List.mem_of_getElem? (i := 1215) (by decide +kernel)⟩
theorem lw_p61 : lw_okq (⟨"RatchetGroupModel", "isHeld", "(I)Z"⟩, 52) := ⟨⟨by decide +kernel, by decide +kernel⟩, List.mem_of_getElem? (i := 881) (by decide +kernel), List.mem_of_getElem? (i := 1218) (by decide +kernel), List.mem_of_getElem? (i := 1219) (by decide +kernel)⟩
theorem lw_p62 : lw_okq (⟨"RatchetGroupModel", "intrude", "()V"⟩, 52) := ⟨⟨by decide +kernel, by decide +kernel⟩, List.mem_of_getElem? (i := 881) (by decide +kernel), List.mem_of_getElem? (i := 1258) (by decide +kernel), List.mem_of_getElem? (i := 1259) (by decide +kernel)⟩
theorem lw_p63 : lw_okq (⟨"RatchetGroupModel", "follows", "(I)Z"⟩, 52) := ⟨⟨by decide +kernel, by decide +kernel⟩, List.mem_of_getElem? (i := 881) (by decide +kernel), List.mem_of_getElem? (i := 1262) (by decide +kernel), List.mem_of_getElem? (i := 1263) (by decide +kernel)⟩
def lw_privs_4 : List (MethodName × Nat) := [(⟨"RatchetGroupModel", "resolve", "(II)V"⟩, 52), (⟨"RatchetGroupModel", "of", "(III)I"⟩, 52), (⟨"RatchetGroupModel", "encrypt", "(III)V"⟩, 52), (⟨"RatchetGroupModel", "welcome", "(II)V"⟩, 52), (⟨"RatchetGroupModel", "meeting", "(II)I"⟩, 52), (⟨"RatchetGroupModel", "advance", "(IIZ)V"⟩, 52), (⟨"RatchetGroupModel", "keep", "(II)V"⟩, 52), (⟨"RatchetGroupModel", "tell", "(III)V"⟩, 52), (⟨"RatchetGroupModel", "nextPackage", "(I)I"⟩, 52), (⟨"RatchetGroupModel", "join", "(II)V"⟩, 52), (⟨"RatchetGroupModel", "follow", "(I)V"⟩, 52), (⟨"RatchetGroupModel", "gather", "(I)V"⟩, 52), (⟨"RatchetGroupModel", "hold", "(I)V"⟩, 52), (⟨"RatchetGroupModel", "isHeld", "(I)Z"⟩, 52), (⟨"RatchetGroupModel", "intrude", "()V"⟩, 52), (⟨"RatchetGroupModel", "follows", "(I)Z"⟩, 52)]
theorem lw_r4 : ∀ q ∈ lw_privs_4, lw_okq q := List.forall_mem_cons.mpr ⟨lw_p48, List.forall_mem_cons.mpr ⟨lw_p49, List.forall_mem_cons.mpr ⟨lw_p50, List.forall_mem_cons.mpr ⟨lw_p51, List.forall_mem_cons.mpr ⟨lw_p52, List.forall_mem_cons.mpr ⟨lw_p53, List.forall_mem_cons.mpr ⟨lw_p54, List.forall_mem_cons.mpr ⟨lw_p55, List.forall_mem_cons.mpr ⟨lw_p56, List.forall_mem_cons.mpr ⟨lw_p57, List.forall_mem_cons.mpr ⟨lw_p58, List.forall_mem_cons.mpr ⟨lw_p59, List.forall_mem_cons.mpr ⟨lw_p60, List.forall_mem_cons.mpr ⟨lw_p61, List.forall_mem_cons.mpr ⟨lw_p62, List.forall_mem_cons.mpr ⟨lw_p63, fun _ h => absurd h List.not_mem_nil⟩⟩⟩⟩⟩⟩⟩⟩⟩⟩⟩⟩⟩⟩⟩⟩
def lw_privs : List (MethodName × Nat) := lw_privs_1 ++ (lw_privs_2 ++ (lw_privs_3 ++ (lw_privs_4)))
def lw_tbl : List Cond := k2_sels lw_privs ++ tables_1
theorem lw_privs_ok : ∀ q ∈ lw_privs, lw_okq q := by
  show ∀ q ∈ lw_privs_1 ++ (lw_privs_2 ++ (lw_privs_3 ++ (lw_privs_4))), lw_okq q
  exact List.forall_mem_append.mpr ⟨lw_r1, List.forall_mem_append.mpr ⟨lw_r2, List.forall_mem_append.mpr ⟨lw_r3, lw_r4⟩⟩⟩
-- ===== end of PART A; then your names; then what follows =====
/-- the words that every contract takes along: those that stay true in every state of a run -/
def q_T : List Cond := lw_tbl.filter goodWord
theorem q_T_in {w : Cond} (i : Nat) (h : tables_1[i]? = some w) (hg : goodWord w = true) : w ∈ q_T := List.mem_filter.mpr ⟨List.mem_append_right _ (List.mem_of_getElem? h), hg⟩
theorem q_T_sel {w : Cond} (i : Nat) (h : (k2_sels lw_privs)[i]? = some w) (hg : goodWord w = true) : w ∈ q_T := List.mem_filter.mpr ⟨List.mem_append_left _ (List.mem_of_getElem? h), hg⟩
theorem q_T_good {w : Cond} (h : w ∈ q_T) : (w.onTables && w.keeps) = true ∨ ∃ ty, w = .arrayClass ty := good_of_word (List.mem_filter.mp h).2
theorem q_T_tbl {w : Cond} (h : w ∈ q_T) : w ∈ lw_tbl := (List.mem_filter.mp h).1
end
section
/-! names: by program (wip/gen_names.py) out of the words of the claim -/
theorem q_T_ws (ws : List Cond) (ps : List Nat) (h : ws = ps.filterMap (fun i => tables_1[i]?)) (hg : ws.all goodWord = true) : ∀ w ∈ ws, w ∈ q_T := by
  intro w hw
  have h1 := List.all_eq_true.mp hg w hw
  rw [h] at hw
  obtain ⟨i, -, hi⟩ := List.mem_filterMap.mp hw
  exact q_T_in i hi h1
def R_RG : String := "RatchetGroup"
def F_RG : u_T := fun k => match k with
  | 0 => ("RatchetGroup", "secrets", "LRatchetGroup$Secrets;", true)
  | 1 => ("RatchetGroup", "members", "Ljava/util/ArrayList;", true)
  | 2 => ("RatchetGroup", "packages", "Ljava/util/ArrayList;", true)
  | 3 => ("RatchetGroup", "proposals", "Ljava/util/ArrayList;", true)
  | 4 => ("RatchetGroup", "epochs", "Ljava/util/ArrayList;", true)
  | 5 => ("RatchetGroup", "held", "LRatchetGroup$Row;", true)
  | _ => ("RatchetGroup", "latest", "LRatchetGroup$Epoch;", false)
def t_RG : Nat → FieldType := fun k => match k with
  | 0 => .object "RatchetGroup$Secrets"
  | 1 => .object "java/util/ArrayList"
  | 2 => .object "java/util/ArrayList"
  | 3 => .object "java/util/ArrayList"
  | 4 => .object "java/util/ArrayList"
  | 5 => .object "RatchetGroup$Row"
  | _ => .object "RatchetGroup$Epoch"
theorem n_RG : ∀ a, a < 7 → ∀ b, b < 7 → a ≠ b → (F_RG a).2.1 ≠ (F_RG b).2.1 := by decide +kernel
theorem t_RG_ok : ∀ k, k < 7 → parseFieldDescriptor (F_RG k).2.2.1 = some (t_RG k) := by decide +kernel
set_option maxRecDepth 20000 in
theorem i_RG : ∀ w ∈ u_ws R_RG F_RG 7, w ∈ q_T := q_T_ws _ [366, 368, 370, 372, 374, 376, 378] (by decide +kernel) (by decide +kernel)
theorem in_RG : Cond.instantiable R_RG 7 ∈ q_T := q_T_in 28 (by decide +kernel) rfl
theorem iz_RG : Cond.initialized R_RG ∈ q_T := q_T_in 1 (by decide +kernel) rfl
def R_Sec : String := "RatchetGroup$Secrets"
def F_Sec : u_T := fun k => match k with
  | 0 => ("RatchetGroup$Secrets", "told", "LRatchetGroup$Row;", true)
  | 1 => ("RatchetGroup$Secrets", "firstWay", "LRatchetGroup$Row;", true)
  | 2 => ("RatchetGroup$Secrets", "nextWay", "LRatchetGroup$Row;", true)
  | 3 => ("RatchetGroup$Secrets", "wayTo", "LRatchetGroup$Row;", true)
  | 4 => ("RatchetGroup$Secrets", "wayWith", "LRatchetGroup$Row;", true)
  | 5 => ("RatchetGroup$Secrets", "inOrder", "LRatchetGroup$Row;", true)
  | 6 => ("RatchetGroup$Secrets", "count", "I", false)
  | 7 => ("RatchetGroup$Secrets", "ways", "I", false)
  | 8 => ("RatchetGroup$Secrets", "toldCount", "I", false)
  | _ => ("RatchetGroup$Secrets", "followed", "I", false)
def t_Sec : Nat → FieldType := fun k => match k with
  | 0 => .object "RatchetGroup$Row"
  | 1 => .object "RatchetGroup$Row"
  | 2 => .object "RatchetGroup$Row"
  | 3 => .object "RatchetGroup$Row"
  | 4 => .object "RatchetGroup$Row"
  | 5 => .object "RatchetGroup$Row"
  | 6 => .int
  | 7 => .int
  | 8 => .int
  | _ => .int
theorem n_Sec : ∀ a, a < 10 → ∀ b, b < 10 → a ≠ b → (F_Sec a).2.1 ≠ (F_Sec b).2.1 := by decide +kernel
theorem t_Sec_ok : ∀ k, k < 10 → parseFieldDescriptor (F_Sec k).2.2.1 = some (t_Sec k) := by decide +kernel
set_option maxRecDepth 20000 in
theorem i_Sec : ∀ w ∈ u_ws R_Sec F_Sec 10, w ∈ q_T := q_T_ws _ [69, 71, 73, 75, 77, 79, 81, 83, 85, 87] (by decide +kernel) (by decide +kernel)
theorem in_Sec : Cond.instantiable R_Sec 10 ∈ q_T := q_T_in 36 (by decide +kernel) rfl
theorem iz_Sec : Cond.initialized R_Sec ∈ q_T := q_T_in 2 (by decide +kernel) rfl
def R_Row : String := "RatchetGroup$Row"
def F_Row : u_T := fun k => match k with
  | _ => ("RatchetGroup$Row", "cells", "[I", true)
def t_Row : Nat → FieldType := fun k => match k with
  | _ => .array .int
theorem n_Row : ∀ a, a < 1 → ∀ b, b < 1 → a ≠ b → (F_Row a).2.1 ≠ (F_Row b).2.1 := by decide +kernel
theorem t_Row_ok : ∀ k, k < 1 → parseFieldDescriptor (F_Row k).2.2.1 = some (t_Row k) := by decide +kernel
set_option maxRecDepth 20000 in
theorem i_Row : ∀ w ∈ u_ws R_Row F_Row 1, w ∈ q_T := q_T_ws _ [51] (by decide +kernel) (by decide +kernel)
theorem in_Row : Cond.instantiable R_Row 1 ∈ q_T := q_T_in 42 (by decide +kernel) rfl
theorem iz_Row : Cond.initialized R_Row ∈ q_T := q_T_in 3 (by decide +kernel) rfl
def R_AL : String := "java/util/ArrayList"
def F_AL : u_T := fun k => match k with
  | 0 => ("java/util/ArrayList", "elementData", "[Ljava/lang/Object;", false)
  | 1 => ("java/util/ArrayList", "size", "I", false)
  | _ => ("java/util/AbstractList", "modCount", "I", false)
def t_AL : Nat → FieldType := fun k => match k with
  | 0 => .array (.object "java/lang/Object")
  | 1 => .int
  | _ => .int
theorem n_AL : ∀ a, a < 3 → ∀ b, b < 3 → a ≠ b → (F_AL a).2.1 ≠ (F_AL b).2.1 := by decide +kernel
theorem t_AL_ok : ∀ k, k < 3 → parseFieldDescriptor (F_AL k).2.2.1 = some (t_AL k) := by decide +kernel
set_option maxRecDepth 20000 in
theorem i_AL : ∀ w ∈ u_ws R_AL F_AL 3, w ∈ q_T := q_T_ws _ [109, 111, 113] (by decide +kernel) (by decide +kernel)
theorem in_AL : Cond.instantiable R_AL 3 ∈ q_T := q_T_in 91 (by decide +kernel) rfl
theorem iz_AL : Cond.initialized R_AL ∈ q_T := q_T_in 7 (by decide +kernel) rfl
def R_Mem : String := "RatchetGroup$Member"
def F_Mem : u_T := fun k => match k with
  | 0 => ("RatchetGroup$Member", "number", "I", true)
  | 1 => ("RatchetGroup$Member", "keys", "LRatchetGroup$Row;", true)
  | 2 => ("RatchetGroup$Member", "updates", "LRatchetGroup$Row;", true)
  | 3 => ("RatchetGroup$Member", "updateCount", "I", false)
  | 4 => ("RatchetGroup$Member", "epoch", "I", false)
  | 5 => ("RatchetGroup$Member", "leaf", "I", false)
  | 6 => ("RatchetGroup$Member", "hasSecret", "Z", false)
  | _ => ("RatchetGroup$Member", "stuck", "I", false)
def t_Mem : Nat → FieldType := fun k => match k with
  | 0 => .int
  | 1 => .object "RatchetGroup$Row"
  | 2 => .object "RatchetGroup$Row"
  | 3 => .int
  | 4 => .int
  | 5 => .int
  | 6 => .boolean
  | _ => .int
theorem n_Mem : ∀ a, a < 8 → ∀ b, b < 8 → a ≠ b → (F_Mem a).2.1 ≠ (F_Mem b).2.1 := by decide +kernel
theorem t_Mem_ok : ∀ k, k < 8 → parseFieldDescriptor (F_Mem k).2.2.1 = some (t_Mem k) := by decide +kernel
set_option maxRecDepth 20000 in
theorem i_Mem : ∀ w ∈ u_ws R_Mem F_Mem 8, w ∈ q_T := q_T_ws _ [142, 144, 146, 148, 150, 152, 154, 156] (by decide +kernel) (by decide +kernel)
theorem in_Mem : Cond.instantiable R_Mem 8 ∈ q_T := q_T_in 119 (by decide +kernel) rfl
theorem iz_Mem : Cond.initialized R_Mem ∈ q_T := q_T_in 8 (by decide +kernel) rfl
def R_Ep : String := "RatchetGroup$Epoch"
def F_Ep : u_T := fun k => match k with
  | 0 => ("RatchetGroup$Epoch", "number", "I", true)
  | 1 => ("RatchetGroup$Epoch", "committerLeaf", "I", true)
  | 2 => ("RatchetGroup$Epoch", "tree", "LRatchetGroup$Tree;", true)
  | 3 => ("RatchetGroup$Epoch", "pathSecrets", "LRatchetGroup$Row;", true)
  | 4 => ("RatchetGroup$Epoch", "secret", "I", false)
  | 5 => ("RatchetGroup$Epoch", "counting", "I", false)
  | 6 => ("RatchetGroup$Epoch", "removed", "I", false)
  | 7 => ("RatchetGroup$Epoch", "updated", "I", false)
  | 8 => ("RatchetGroup$Epoch", "added", "I", false)
  | _ => ("RatchetGroup$Epoch", "encrypted", "I", false)
def t_Ep : Nat → FieldType := fun k => match k with
  | 0 => .int
  | 1 => .int
  | 2 => .object "RatchetGroup$Tree"
  | 3 => .object "RatchetGroup$Row"
  | 4 => .int
  | 5 => .int
  | 6 => .int
  | 7 => .int
  | 8 => .int
  | _ => .int
theorem n_Ep : ∀ a, a < 10 → ∀ b, b < 10 → a ≠ b → (F_Ep a).2.1 ≠ (F_Ep b).2.1 := by decide +kernel
theorem t_Ep_ok : ∀ k, k < 10 → parseFieldDescriptor (F_Ep k).2.2.1 = some (t_Ep k) := by decide +kernel
set_option maxRecDepth 20000 in
theorem i_Ep : ∀ w ∈ u_ws R_Ep F_Ep 10, w ∈ q_T := q_T_ws _ [284, 286, 288, 290, 292, 294, 296, 298, 300, 302] (by decide +kernel) (by decide +kernel)
theorem in_Ep : Cond.instantiable R_Ep 10 ∈ q_T := q_T_in 221 (by decide +kernel) rfl
theorem iz_Ep : Cond.initialized R_Ep ∈ q_T := q_T_in 12 (by decide +kernel) rfl
def R_Tr : String := "RatchetGroup$Tree"
def F_Tr : u_T := fun k => match k with
  | 0 => ("RatchetGroup$Tree", "keys", "LRatchetGroup$Row;", true)
  | 1 => ("RatchetGroup$Tree", "unmerged", "LRatchetGroup$Row;", true)
  | 2 => ("RatchetGroup$Tree", "since", "LRatchetGroup$Row;", true)
  | 3 => ("RatchetGroup$Tree", "dwellers", "LRatchetGroup$Row;", true)
  | _ => ("RatchetGroup$Tree", "depth", "I", false)
def t_Tr : Nat → FieldType := fun k => match k with
  | 0 => .object "RatchetGroup$Row"
  | 1 => .object "RatchetGroup$Row"
  | 2 => .object "RatchetGroup$Row"
  | 3 => .object "RatchetGroup$Row"
  | _ => .int
theorem n_Tr : ∀ a, a < 5 → ∀ b, b < 5 → a ≠ b → (F_Tr a).2.1 ≠ (F_Tr b).2.1 := by decide +kernel
theorem t_Tr_ok : ∀ k, k < 5 → parseFieldDescriptor (F_Tr k).2.2.1 = some (t_Tr k) := by decide +kernel
set_option maxRecDepth 20000 in
theorem i_Tr : ∀ w ∈ u_ws R_Tr F_Tr 5, w ∈ q_T := q_T_ws _ [247, 249, 251, 253, 255] (by decide +kernel) (by decide +kernel)
theorem in_Tr : Cond.instantiable R_Tr 5 ∈ q_T := q_T_in 227 (by decide +kernel) rfl
theorem iz_Tr : Cond.initialized R_Tr ∈ q_T := q_T_in 13 (by decide +kernel) rfl
def R_KP : String := "RatchetGroup$KeyPackage"
def F_KP : u_T := fun k => match k with
  | 0 => ("RatchetGroup$KeyPackage", "owner", "LRatchetGroup$Member;", true)
  | 1 => ("RatchetGroup$KeyPackage", "firstKey", "I", true)
  | 2 => ("RatchetGroup$KeyPackage", "leafKey", "I", true)
  | 3 => ("RatchetGroup$KeyPackage", "epoch", "I", false)
  | 4 => ("RatchetGroup$KeyPackage", "leaf", "I", false)
  | _ => ("RatchetGroup$KeyPackage", "joined", "Z", false)
def t_KP : Nat → FieldType := fun k => match k with
  | 0 => .object "RatchetGroup$Member"
  | 1 => .int
  | 2 => .int
  | 3 => .int
  | 4 => .int
  | _ => .boolean
theorem n_KP : ∀ a, a < 6 → ∀ b, b < 6 → a ≠ b → (F_KP a).2.1 ≠ (F_KP b).2.1 := by decide +kernel
theorem t_KP_ok : ∀ k, k < 6 → parseFieldDescriptor (F_KP k).2.2.1 = some (t_KP k) := by decide +kernel
set_option maxRecDepth 20000 in
theorem i_KP : ∀ w ∈ u_ws R_KP F_KP 6, w ∈ q_T := q_T_ws _ [599, 601, 603, 605, 607, 609] (by decide +kernel) (by decide +kernel)
theorem in_KP : Cond.instantiable R_KP 6 ∈ q_T := q_T_in 582 (by decide +kernel) rfl
theorem iz_KP : Cond.initialized R_KP ∈ q_T := q_T_in 22 (by decide +kernel) rfl
def R_Ad : String := "RatchetGroup$Addition"
def F_Ad : u_T := fun k => match k with
  | _ => ("RatchetGroup$Addition", "offered", "LRatchetGroup$KeyPackage;", true)
def t_Ad : Nat → FieldType := fun k => match k with
  | _ => .object "RatchetGroup$KeyPackage"
theorem n_Ad : ∀ a, a < 1 → ∀ b, b < 1 → a ≠ b → (F_Ad a).2.1 ≠ (F_Ad b).2.1 := by decide +kernel
theorem t_Ad_ok : ∀ k, k < 1 → parseFieldDescriptor (F_Ad k).2.2.1 = some (t_Ad k) := by decide +kernel
set_option maxRecDepth 20000 in
theorem i_Ad : ∀ w ∈ u_ws R_Ad F_Ad 1, w ∈ q_T := q_T_ws _ [634] (by decide +kernel) (by decide +kernel)
theorem in_Ad : Cond.instantiable R_Ad 1 ∈ q_T := q_T_in 627 (by decide +kernel) rfl
theorem iz_Ad : Cond.initialized R_Ad ∈ q_T := q_T_in 23 (by decide +kernel) rfl
def R_Re : String := "RatchetGroup$Removal"
def F_Re : u_T := fun k => match k with
  | _ => ("RatchetGroup$Removal", "leaf", "I", true)
def t_Re : Nat → FieldType := fun k => match k with
  | _ => .int
theorem n_Re : ∀ a, a < 1 → ∀ b, b < 1 → a ≠ b → (F_Re a).2.1 ≠ (F_Re b).2.1 := by decide +kernel
theorem t_Re_ok : ∀ k, k < 1 → parseFieldDescriptor (F_Re k).2.2.1 = some (t_Re k) := by decide +kernel
set_option maxRecDepth 20000 in
theorem i_Re : ∀ w ∈ u_ws R_Re F_Re 1, w ∈ q_T := q_T_ws _ [653] (by decide +kernel) (by decide +kernel)
theorem in_Re : Cond.instantiable R_Re 1 ∈ q_T := q_T_in 646 (by decide +kernel) rfl
theorem iz_Re : Cond.initialized R_Re ∈ q_T := q_T_in 24 (by decide +kernel) rfl
def R_Rn : String := "RatchetGroup$Renewal"
def F_Rn : u_T := fun k => match k with
  | 0 => ("RatchetGroup$Renewal", "leaf", "I", true)
  | _ => ("RatchetGroup$Renewal", "key", "I", true)
def t_Rn : Nat → FieldType := fun k => match k with
  | 0 => .int
  | _ => .int
theorem n_Rn : ∀ a, a < 2 → ∀ b, b < 2 → a ≠ b → (F_Rn a).2.1 ≠ (F_Rn b).2.1 := by decide +kernel
theorem t_Rn_ok : ∀ k, k < 2 → parseFieldDescriptor (F_Rn k).2.2.1 = some (t_Rn k) := by decide +kernel
set_option maxRecDepth 20000 in
theorem i_Rn : ∀ w ∈ u_ws R_Rn F_Rn 2, w ∈ q_T := q_T_ws _ [678, 680] (by decide +kernel) (by decide +kernel)
theorem in_Rn : Cond.instantiable R_Rn 2 ∈ q_T := q_T_in 668 (by decide +kernel) rfl
theorem iz_Rn : Cond.initialized R_Rn ∈ q_T := q_T_in 25 (by decide +kernel) rfl
def R_Mo : String := "RatchetGroupModel"
def F_Mo : u_T := fun k => match k with
  | 0 => ("RatchetGroupModel", "thrown", "I", false)
  | 1 => ("RatchetGroupModel", "secrets", "I", false)
  | 2 => ("RatchetGroupModel", "kinds", "[I", true)
  | 3 => ("RatchetGroupModel", "firsts", "[I", true)
  | 4 => ("RatchetGroupModel", "seconds", "[I", true)
  | 5 => ("RatchetGroupModel", "taken", "[Z", true)
  | 6 => ("RatchetGroupModel", "known", "[Z", true)
  | 7 => ("RatchetGroupModel", "encrypted", "I", false)
  | 8 => ("RatchetGroupModel", "encryptedFor", "[I", true)
  | 9 => ("RatchetGroupModel", "encryptedWhat", "[I", true)
  | 10 => ("RatchetGroupModel", "encryptedIn", "[I", true)
  | 11 => ("RatchetGroupModel", "encryptedAt", "[I", true)
  | 12 => ("RatchetGroupModel", "epochs", "I", false)
  | 13 => ("RatchetGroupModel", "depth", "[I", true)
  | 14 => ("RatchetGroupModel", "secret", "[I", true)
  | 15 => ("RatchetGroupModel", "committer", "[I", true)
  | 16 => ("RatchetGroupModel", "counting", "[I", true)
  | 17 => ("RatchetGroupModel", "removed", "[I", true)
  | 18 => ("RatchetGroupModel", "updated", "[I", true)
  | 19 => ("RatchetGroupModel", "added", "[I", true)
  | 20 => ("RatchetGroupModel", "sent", "[I", true)
  | 21 => ("RatchetGroupModel", "withPath", "[Z", true)
  | 22 => ("RatchetGroupModel", "keys", "[I", true)
  | 23 => ("RatchetGroupModel", "unmerged", "[I", true)
  | 24 => ("RatchetGroupModel", "since", "[I", true)
  | 25 => ("RatchetGroupModel", "paths", "[I", true)
  | 26 => ("RatchetGroupModel", "owners", "[I", true)
  | 27 => ("RatchetGroupModel", "at", "[I", true)
  | 28 => ("RatchetGroupModel", "leaf", "[I", true)
  | 29 => ("RatchetGroupModel", "leafKey", "[I", true)
  | 30 => ("RatchetGroupModel", "stuck", "[I", true)
  | 31 => ("RatchetGroupModel", "updates", "[I", true)
  | 32 => ("RatchetGroupModel", "has", "[Z", true)
  | 33 => ("RatchetGroupModel", "nodeKeys", "[I", true)
  | 34 => ("RatchetGroupModel", "updateKeys", "[I", true)
  | 35 => ("RatchetGroupModel", "packages", "I", false)
  | 36 => ("RatchetGroupModel", "packageOf", "[I", true)
  | 37 => ("RatchetGroupModel", "firstKey", "[I", true)
  | 38 => ("RatchetGroupModel", "secondKey", "[I", true)
  | 39 => ("RatchetGroupModel", "usedIn", "[I", true)
  | 40 => ("RatchetGroupModel", "usedAt", "[I", true)
  | 41 => ("RatchetGroupModel", "joined", "[Z", true)
  | 42 => ("RatchetGroupModel", "waiting", "I", false)
  | 43 => ("RatchetGroupModel", "proposed", "[I", true)
  | 44 => ("RatchetGroupModel", "proposer", "[I", true)
  | 45 => ("RatchetGroupModel", "proposal", "[I", true)
  | 46 => ("RatchetGroupModel", "held", "I", false)
  | 47 => ("RatchetGroupModel", "holding", "[I", true)
  | 48 => ("RatchetGroupModel", "resolved", "I", false)
  | 49 => ("RatchetGroupModel", "resolution", "[I", true)
  | 50 => ("RatchetGroupModel", "open", "[I", true)
  | _ => ("RatchetGroupModel", "newKeys", "[I", true)
def t_Mo : Nat → FieldType := fun k => match k with
  | 0 => .int
  | 1 => .int
  | 2 => .array .int
  | 3 => .array .int
  | 4 => .array .int
  | 5 => .array .boolean
  | 6 => .array .boolean
  | 7 => .int
  | 8 => .array .int
  | 9 => .array .int
  | 10 => .array .int
  | 11 => .array .int
  | 12 => .int
  | 13 => .array .int
  | 14 => .array .int
  | 15 => .array .int
  | 16 => .array .int
  | 17 => .array .int
  | 18 => .array .int
  | 19 => .array .int
  | 20 => .array .int
  | 21 => .array .boolean
  | 22 => .array .int
  | 23 => .array .int
  | 24 => .array .int
  | 25 => .array .int
  | 26 => .array .int
  | 27 => .array .int
  | 28 => .array .int
  | 29 => .array .int
  | 30 => .array .int
  | 31 => .array .int
  | 32 => .array .boolean
  | 33 => .array .int
  | 34 => .array .int
  | 35 => .int
  | 36 => .array .int
  | 37 => .array .int
  | 38 => .array .int
  | 39 => .array .int
  | 40 => .array .int
  | 41 => .array .boolean
  | 42 => .int
  | 43 => .array .int
  | 44 => .array .int
  | 45 => .array .int
  | 46 => .int
  | 47 => .array .int
  | 48 => .int
  | 49 => .array .int
  | 50 => .array .int
  | _ => .array .int
theorem n_Mo : ∀ a, a < 52 → ∀ b, b < 52 → a ≠ b → (F_Mo a).2.1 ≠ (F_Mo b).2.1 := by decide +kernel
theorem t_Mo_ok : ∀ k, k < 52 → parseFieldDescriptor (F_Mo k).2.2.1 = some (t_Mo k) := by decide +kernel
set_option maxRecDepth 20000 in
theorem i_Mo : ∀ w ∈ u_ws R_Mo F_Mo 52, w ∈ q_T := q_T_ws _ [946, 948, 950, 952, 954, 956, 958, 960, 962, 964, 966, 968, 970, 972, 974, 976, 978, 980, 982, 984, 986, 988, 990, 992, 994, 996, 998, 1000, 1002, 1004, 1006, 1008, 1010, 1012, 1014, 1016, 1018, 1020, 1022, 1024, 1026, 1028, 1030, 1032, 1034, 1036, 1038, 1040, 1042, 1044, 1046, 1048] (by decide +kernel) (by decide +kernel)
theorem in_Mo : Cond.instantiable R_Mo 52 ∈ q_T := q_T_in 881 (by decide +kernel) rfl
theorem iz_Mo : Cond.initialized R_Mo ∈ q_T := q_T_in 14 (by decide +kernel) rfl
abbrev q_cl : List vw_C := [(R_RG, F_RG, 7), (R_Sec, F_Sec, 10), (R_Row, F_Row, 1), (R_AL, F_AL, 3), (R_Mem, F_Mem, 8), (R_Ep, F_Ep, 10), (R_Tr, F_Tr, 5), (R_KP, F_KP, 6), (R_Ad, F_Ad, 1), (R_Re, F_Re, 1), (R_Rn, F_Rn, 2), (R_Mo, F_Mo, 52)]
def y_RG_init : MethodName := ⟨"RatchetGroup", "<init>", "()V"⟩
abbrev b_RG_init : ByteArray := prog_1_method_1_code
theorem w_RG_init : Cond.code y_RG_init b_RG_init 3 none ∈ q_T := q_T_in 31 (by decide +kernel) rfl
def y_Obj_init : MethodName := ⟨"java/lang/Object", "<init>", "()V"⟩
abbrev b_Obj_init : ByteArray := object_method_1_code
theorem w_Obj_init : Cond.code y_Obj_init b_Obj_init 1 none ∈ q_T := q_T_in 34 (by decide +kernel) rfl
def y_Sec_init : MethodName := ⟨"RatchetGroup$Secrets", "<init>", "()V"⟩
abbrev b_Sec_init : ByteArray := prog_10_method_1_code
theorem w_Sec_init : Cond.code y_Sec_init b_Sec_init 1 none ∈ q_T := q_T_in 39 (by decide +kernel) rfl
def y_Row_init : MethodName := ⟨"RatchetGroup$Row", "<init>", "(II)V"⟩
abbrev b_Row_init : ByteArray := prog_9_method_1_code
theorem w_Row_init : Cond.code y_Row_init b_Row_init 3 none ∈ q_T := q_T_in 45 (by decide +kernel) rfl
def y_Arr_fill : MethodName := ⟨"java/util/Arrays", "fill", "([II)V"⟩
abbrev b_Arr_fill : ByteArray := prog_29_method_103_code
theorem w_Arr_fill : Cond.code y_Arr_fill b_Arr_fill 4 none ∈ q_T := q_T_in 49 (by decide +kernel) rfl
def y_Row_put : MethodName := ⟨"RatchetGroup$Row", "put", "(II)V"⟩
abbrev b_Row_put : ByteArray := prog_9_method_3_code
theorem w_Row_put : Cond.code y_Row_put b_Row_put 3 none ∈ q_T := q_T_in 58 (by decide +kernel) rfl
def y_AL_init : MethodName := ⟨"java/util/ArrayList", "<init>", "()V"⟩
abbrev b_AL_init : ByteArray := prog_28_method_2_code
theorem w_AL_init : Cond.code y_AL_init b_AL_init 1 none ∈ q_T := q_T_in 94 (by decide +kernel) rfl
def y_ALs_init : MethodName := ⟨"java/util/AbstractList", "<init>", "()V"⟩
abbrev b_ALs_init : ByteArray := prog_27_method_1_code
theorem w_ALs_init : Cond.code y_ALs_init b_ALs_init 1 none ∈ q_T := q_T_in 97 (by decide +kernel) rfl
def y_AC_init : MethodName := ⟨"java/util/AbstractCollection", "<init>", "()V"⟩
abbrev b_AC_init : ByteArray := prog_26_method_1_code
theorem w_AC_init : Cond.code y_AC_init b_AC_init 1 none ∈ q_T := q_T_in 100 (by decide +kernel) rfl
def y_Mem_init : MethodName := ⟨"RatchetGroup$Member", "<init>", "(I)V"⟩
abbrev b_Mem_init : ByteArray := prog_5_method_1_code
theorem w_Mem_init : Cond.code y_Mem_init b_Mem_init 2 none ∈ q_T := q_T_in 122 (by decide +kernel) rfl
def y_AL_add1 : MethodName := ⟨"java/util/ArrayList", "add", "(Ljava/lang/Object;)Z"⟩
abbrev b_AL_add1 : ByteArray := prog_28_method_25_code
theorem w_AL_add1 : Cond.code y_AL_add1 b_AL_add1 2 (some .boolean) ∈ q_T := q_T_in 162 (by decide +kernel) rfl
def y_AL_add2 : MethodName := ⟨"java/util/ArrayList", "add", "(Ljava/lang/Object;[Ljava/lang/Object;I)V"⟩
abbrev b_AL_add2 : ByteArray := prog_28_method_24_code
theorem w_AL_add2 : Cond.code y_AL_add2 b_AL_add2 4 none ∈ q_T := q_T_in 166 (by decide +kernel) rfl
def y_AL_grow1 : MethodName := ⟨"java/util/ArrayList", "grow", "()[Ljava/lang/Object;"⟩
abbrev b_AL_grow1 : ByteArray := prog_28_method_7_code
theorem w_AL_grow1 : Cond.code y_AL_grow1 b_AL_grow1 1 (some (.array (.object "java/lang/Object"))) ∈ q_T := q_T_in 170 (by decide +kernel) rfl
def y_AL_grow2 : MethodName := ⟨"java/util/ArrayList", "grow", "(I)[Ljava/lang/Object;"⟩
abbrev b_AL_grow2 : ByteArray := prog_28_method_6_code
theorem w_AL_grow2 : Cond.code y_AL_grow2 b_AL_grow2 4 (some (.array (.object "java/lang/Object"))) ∈ q_T := q_T_in 174 (by decide +kernel) rfl
def y_ASup_newLength : MethodName := ⟨"jdk/internal/util/ArraysSupport", "newLength", "(III)I"⟩
abbrev b_ASup_newLength : ByteArray := prog_35_method_27_code
theorem w_ASup_newLength : Cond.code y_ASup_newLength b_ASup_newLength 4 (some .int) ∈ q_T := q_T_in 177 (by decide +kernel) rfl
def y_Math_max : MethodName := ⟨"java/lang/Math", "max", "(II)I"⟩
abbrev b_Math_max : ByteArray := prog_21_method_65_code
theorem w_Math_max : Cond.code y_Math_max b_Math_max 2 (some .int) ∈ q_T := q_T_in 180 (by decide +kernel) rfl
def y_ASup_hugeLength : MethodName := ⟨"jdk/internal/util/ArraysSupport", "hugeLength", "(II)I"⟩
abbrev b_ASup_hugeLength : ByteArray := prog_35_method_28_code
theorem w_ASup_hugeLength : Cond.code y_ASup_hugeLength b_ASup_hugeLength 3 (some .int) ∈ q_T := q_T_in 184 (by decide +kernel) rfl
def y_Arr_copyOf1 : MethodName := ⟨"java/util/Arrays", "copyOf", "([Ljava/lang/Object;I)[Ljava/lang/Object;"⟩
abbrev b_Arr_copyOf1 : ByteArray := prog_29_method_119_code
theorem w_Arr_copyOf1 : Cond.code y_Arr_copyOf1 b_Arr_copyOf1 2 (some (.array (.object "java/lang/Object"))) ∈ q_T := q_T_in 187 (by decide +kernel) rfl
def y_Arr_copyOf2 : MethodName := ⟨"java/util/Arrays", "copyOf", "([Ljava/lang/Object;ILjava/lang/Class;)[Ljava/lang/Object;"⟩
abbrev b_Arr_copyOf2 : ByteArray := prog_29_method_120_code
theorem w_Arr_copyOf2 : Cond.code y_Arr_copyOf2 b_Arr_copyOf2 4 (some (.array (.object "java/lang/Object"))) ∈ q_T := q_T_in 208 (by decide +kernel) rfl
def y_Math_min : MethodName := ⟨"java/lang/Math", "min", "(II)I"⟩
abbrev b_Math_min : ByteArray := prog_21_method_69_code
theorem w_Math_min : Cond.code y_Math_min b_Math_min 2 (some .int) ∈ q_T := q_T_in 214 (by decide +kernel) rfl
def y_Ep_init : MethodName := ⟨"RatchetGroup$Epoch", "<init>", "(II)V"⟩
abbrev b_Ep_init : ByteArray := prog_3_method_1_code
theorem w_Ep_init : Cond.code y_Ep_init b_Ep_init 3 none ∈ q_T := q_T_in 224 (by decide +kernel) rfl
def y_Tr_init : MethodName := ⟨"RatchetGroup$Tree", "<init>", "()V"⟩
abbrev b_Tr_init : ByteArray := prog_11_method_1_code
theorem w_Tr_init : Cond.code y_Tr_init b_Tr_init 1 none ∈ q_T := q_T_in 230 (by decide +kernel) rfl
def y_Sec_fresh : MethodName := ⟨"RatchetGroup$Secrets", "fresh", "()I"⟩
abbrev b_Sec_fresh : ByteArray := prog_10_method_2_code
theorem w_Sec_fresh : Cond.code y_Sec_fresh b_Sec_fresh 1 (some .int) ∈ q_T := q_T_in 308 (by decide +kernel) rfl
def y_Tr_seat : MethodName := ⟨"RatchetGroup$Tree", "seat", "(IIII)V"⟩
abbrev b_Tr_seat : ByteArray := prog_11_method_17_code
theorem w_Tr_seat : Cond.code y_Tr_seat b_Tr_seat 7 none ∈ q_T := q_T_in 312 (by decide +kernel) rfl
def y_Tr_nodeOver : MethodName := ⟨"RatchetGroup$Tree", "nodeOver", "(II)I"⟩
abbrev b_Tr_nodeOver : ByteArray := prog_11_method_2_code
theorem w_Tr_nodeOver : Cond.code y_Tr_nodeOver b_Tr_nodeOver 2 (some .int) ∈ q_T := q_T_in 316 (by decide +kernel) rfl
def y_Tr_give : MethodName := ⟨"RatchetGroup$Tree", "give", "(III)V"⟩
abbrev b_Tr_give : ByteArray := prog_11_method_8_code
theorem w_Tr_give : Cond.code y_Tr_give b_Tr_give 4 none ∈ q_T := q_T_in 320 (by decide +kernel) rfl
def y_Tr_isBlank : MethodName := ⟨"RatchetGroup$Tree", "isBlank", "(I)Z"⟩
abbrev b_Tr_isBlank : ByteArray := prog_11_method_7_code
theorem w_Tr_isBlank : Cond.code y_Tr_isBlank b_Tr_isBlank 2 (some .boolean) ∈ q_T := q_T_in 324 (by decide +kernel) rfl
def y_Row_get : MethodName := ⟨"RatchetGroup$Row", "get", "(I)I"⟩
abbrev b_Row_get : ByteArray := prog_9_method_2_code
theorem w_Row_get : Cond.code y_Row_get b_Row_get 2 (some .int) ∈ q_T := q_T_in 328 (by decide +kernel) rfl
def y_Mem_enter : MethodName := ⟨"RatchetGroup$Member", "enter", "(LRatchetGroup$Epoch;I)V"⟩
abbrev b_Mem_enter : ByteArray := prog_5_method_5_code
theorem w_Mem_enter : Cond.code y_Mem_enter b_Mem_enter 3 none ∈ q_T := q_T_in 332 (by decide +kernel) rfl
def y_Mem_lead : MethodName := ⟨"RatchetGroup$Member", "lead", "(LRatchetGroup$Epoch;)V"⟩
abbrev b_Mem_lead : ByteArray := prog_5_method_6_code
theorem w_Mem_lead : Cond.code y_Mem_lead b_Mem_lead 2 none ∈ q_T := q_T_in 336 (by decide +kernel) rfl
def y_Mem_dropStaleKeys : MethodName := ⟨"RatchetGroup$Member", "dropStaleKeys", "(LRatchetGroup$Tree;)V"⟩
abbrev b_Mem_dropStaleKeys : ByteArray := prog_5_method_9_code
theorem w_Mem_dropStaleKeys : Cond.code y_Mem_dropStaleKeys b_Mem_dropStaleKeys 3 none ∈ q_T := q_T_in 340 (by decide +kernel) rfl
def y_Mem_holdsKeyIn : MethodName := ⟨"RatchetGroup$Member", "holdsKeyIn", "(LRatchetGroup$Tree;I)Z"⟩
abbrev b_Mem_holdsKeyIn : ByteArray := prog_5_method_3_code
theorem w_Mem_holdsKeyIn : Cond.code y_Mem_holdsKeyIn b_Mem_holdsKeyIn 4 (some .boolean) ∈ q_T := q_T_in 344 (by decide +kernel) rfl
def y_Mem_takeKey : MethodName := ⟨"RatchetGroup$Member", "takeKey", "(LRatchetGroup$Tree;I)V"⟩
abbrev b_Mem_takeKey : ByteArray := prog_5_method_11_code
theorem w_Mem_takeKey : Cond.code y_Mem_takeKey b_Mem_takeKey 3 none ∈ q_T := q_T_in 351 (by decide +kernel) rfl
def y_Mem_takeCountingKeys : MethodName := ⟨"RatchetGroup$Member", "takeCountingKeys", "(LRatchetGroup$Epoch;)V"⟩
abbrev b_Mem_takeCountingKeys : ByteArray := prog_5_method_10_code
theorem w_Mem_takeCountingKeys : Cond.code y_Mem_takeCountingKeys b_Mem_takeCountingKeys 4 none ∈ q_T := q_T_in 355 (by decide +kernel) rfl
def y_RG_isIn : MethodName := ⟨"RatchetGroup", "isIn", "(II)Z"⟩
abbrev b_RG_isIn : ByteArray := prog_1_method_32_code
theorem w_RG_isIn : Cond.code y_RG_isIn b_RG_isIn 2 (some .boolean) ∈ q_T := q_T_in 358 (by decide +kernel) rfl
def y_RG_member : MethodName := ⟨"RatchetGroup", "member", "(II)I"⟩
abbrev b_RG_member : ByteArray := prog_1_method_9_code
theorem w_RG_member : Cond.code y_RG_member b_RG_member 4 (some .int) ∈ q_T := q_T_in 384 (by decide +kernel) rfl
def y_RG_isMember : MethodName := ⟨"RatchetGroup", "isMember", "(I)Z"⟩
abbrev b_RG_isMember : ByteArray := prog_1_method_19_code
theorem w_RG_isMember : Cond.code y_RG_isMember b_RG_isMember 2 (some .boolean) ∈ q_T := q_T_in 388 (by decide +kernel) rfl
def y_AL_size : MethodName := ⟨"java/util/ArrayList", "size", "()I"⟩
abbrev b_AL_size : ByteArray := prog_28_method_8_code
theorem w_AL_size : Cond.code y_AL_size b_AL_size 1 (some .int) ∈ q_T := q_T_in 392 (by decide +kernel) rfl
def y_AL_get : MethodName := ⟨"java/util/ArrayList", "get", "(I)Ljava/lang/Object;"⟩
abbrev b_AL_get : ByteArray := prog_28_method_20_code
theorem w_AL_get : Cond.code y_AL_get b_AL_get 2 (some (.object "java/lang/Object")) ∈ q_T := q_T_in 396 (by decide +kernel) rfl
def y_Objs_checkIndex : MethodName := ⟨"java/util/Objects", "checkIndex", "(II)I"⟩
abbrev b_Objs_checkIndex : ByteArray := prog_32_method_17_code
theorem w_Objs_checkIndex : Cond.code y_Objs_checkIndex b_Objs_checkIndex 2 (some .int) ∈ q_T := q_T_in 399 (by decide +kernel) rfl
def y_Prec_checkIndex : MethodName := ⟨"jdk/internal/util/Preconditions", "checkIndex", "(IILjava/util/function/BiFunction;)I"⟩
abbrev b_Prec_checkIndex : ByteArray := prog_36_method_11_code
theorem w_Prec_checkIndex : Cond.code y_Prec_checkIndex b_Prec_checkIndex 3 (some .int) ∈ q_T := q_T_in 402 (by decide +kernel) rfl
def y_AL_elementData : MethodName := ⟨"java/util/ArrayList", "elementData", "(I)Ljava/lang/Object;"⟩
abbrev b_AL_elementData : ByteArray := prog_28_method_18_code
theorem w_AL_elementData : Cond.code y_AL_elementData b_AL_elementData 2 (some (.object "java/lang/Object")) ∈ q_T := q_T_in 406 (by decide +kernel) rfl
def y_RG_gather : MethodName := ⟨"RatchetGroup", "gather", "(LRatchetGroup$Member;)I"⟩
abbrev b_RG_gather : ByteArray := prog_1_method_31_code
theorem w_RG_gather : Cond.code y_RG_gather b_RG_gather 5 (some .int) ∈ q_T := q_T_in 410 (by decide +kernel) rfl
def y_RG_isEpoch : MethodName := ⟨"RatchetGroup", "isEpoch", "(I)Z"⟩
abbrev b_RG_isEpoch : ByteArray := prog_1_method_20_code
theorem w_RG_isEpoch : Cond.code y_RG_isEpoch b_RG_isEpoch 2 (some .boolean) ∈ q_T := q_T_in 414 (by decide +kernel) rfl
def y_RG_holds : MethodName := ⟨"RatchetGroup", "holds", "(II)Z"⟩
abbrev b_RG_holds : ByteArray := prog_1_method_10_code
theorem w_RG_holds : Cond.code y_RG_holds b_RG_holds 4 (some .boolean) ∈ q_T := q_T_in 421 (by decide +kernel) rfl
def y_RG_has : MethodName := ⟨"RatchetGroup", "has", "(I)Z"⟩
abbrev b_RG_has : ByteArray := prog_1_method_11_code
theorem w_RG_has : Cond.code y_RG_has b_RG_has 2 (some .boolean) ∈ q_T := q_T_in 426 (by decide +kernel) rfl
def y_RG_node : MethodName := ⟨"RatchetGroup", "node", "(III)I"⟩
abbrev b_RG_node : ByteArray := prog_1_method_12_code
theorem w_RG_node : Cond.code y_RG_node b_RG_node 5 (some .int) ∈ q_T := q_T_in 430 (by decide +kernel) rfl
def y_Tr_isThere : MethodName := ⟨"RatchetGroup$Tree", "isThere", "(I)Z"⟩
abbrev b_Tr_isThere : ByteArray := prog_11_method_6_code
theorem w_Tr_isThere : Cond.code y_Tr_isThere b_Tr_isThere 2 (some .boolean) ∈ q_T := q_T_in 434 (by decide +kernel) rfl
def y_Tr_resolution : MethodName := ⟨"RatchetGroup$Tree", "resolution", "(I)I"⟩
abbrev b_Tr_resolution : ByteArray := prog_11_method_18_code
theorem w_Tr_resolution : Cond.code y_Tr_resolution b_Tr_resolution 2 (some .int) ∈ q_T := q_T_in 439 (by decide +kernel) rfl
def y_Tr_heightOf : MethodName := ⟨"RatchetGroup$Tree", "heightOf", "(I)I"⟩
abbrev b_Tr_heightOf : ByteArray := prog_11_method_3_code
theorem w_Tr_heightOf : Cond.code y_Tr_heightOf b_Tr_heightOf 2 (some .int) ∈ q_T := q_T_in 442 (by decide +kernel) rfl
def y_Tr_resolutionFrom : MethodName := ⟨"RatchetGroup$Tree", "resolutionFrom", "(II)I"⟩
abbrev b_Tr_resolutionFrom : ByteArray := prog_11_method_19_code
theorem w_Tr_resolutionFrom : Cond.code y_Tr_resolutionFrom b_Tr_resolutionFrom 5 (some .int) ∈ q_T := q_T_in 447 (by decide +kernel) rfl
def y_Tr_nodesOfLeaves : MethodName := ⟨"RatchetGroup$Tree", "nodesOfLeaves", "(I)I"⟩
abbrev b_Tr_nodesOfLeaves : ByteArray := prog_11_method_4_code
theorem w_Tr_nodesOfLeaves : Cond.code y_Tr_nodesOfLeaves b_Tr_nodesOfLeaves 3 (some .int) ∈ q_T := q_T_in 450 (by decide +kernel) rfl
def y_Int_bitCount : MethodName := ⟨"java/lang/Integer", "bitCount", "(I)I"⟩
abbrev b_Int_bitCount : ByteArray := prog_19_method_49_code
theorem w_Int_bitCount : Cond.code y_Int_bitCount b_Int_bitCount 1 (some .int) ∈ q_T := q_T_in 453 (by decide +kernel) rfl
def y_RG_epoch : MethodName := ⟨"RatchetGroup", "epoch", "(II)I"⟩
abbrev b_RG_epoch : ByteArray := prog_1_method_13_code
theorem w_RG_epoch : Cond.code y_RG_epoch b_RG_epoch 4 (some .int) ∈ q_T := q_T_in 460 (by decide +kernel) rfl
def y_RG_epochs : MethodName := ⟨"RatchetGroup", "epochs", "()I"⟩
abbrev b_RG_epochs : ByteArray := prog_1_method_14_code
theorem w_RG_epochs : Cond.code y_RG_epochs b_RG_epochs 1 (some .int) ∈ q_T := q_T_in 464 (by decide +kernel) rfl
def y_RG_waiting : MethodName := ⟨"RatchetGroup", "waiting", "()I"⟩
abbrev b_RG_waiting : ByteArray := prog_1_method_15_code
theorem w_RG_waiting : Cond.code y_RG_waiting b_RG_waiting 1 (some .int) ∈ q_T := q_T_in 468 (by decide +kernel) rfl
def y_RG_isKnown : MethodName := ⟨"RatchetGroup", "isKnown", "(I)Z"⟩
abbrev b_RG_isKnown : ByteArray := prog_1_method_16_code
theorem w_RG_isKnown : Cond.code y_RG_isKnown b_RG_isKnown 2 (some .boolean) ∈ q_T := q_T_in 472 (by decide +kernel) rfl
def y_Sec_isTold : MethodName := ⟨"RatchetGroup$Secrets", "isTold", "(I)Z"⟩
abbrev b_Sec_isTold : ByteArray := prog_10_method_5_code
theorem w_Sec_isTold : Cond.code y_Sec_isTold b_Sec_isTold 2 (some .boolean) ∈ q_T := q_T_in 476 (by decide +kernel) rfl
def y_RG_isOpen : MethodName := ⟨"RatchetGroup", "isOpen", "(II)Z"⟩
abbrev b_RG_isOpen : ByteArray := prog_1_method_17_code
theorem w_RG_isOpen : Cond.code y_RG_isOpen b_RG_isOpen 3 (some .boolean) ∈ q_T := q_T_in 481 (by decide +kernel) rfl
def y_RG_known : MethodName := ⟨"RatchetGroup", "known", "()I"⟩
abbrev b_RG_known : ByteArray := prog_1_method_18_code
theorem w_RG_known : Cond.code y_RG_known b_RG_known 3 (some .int) ∈ q_T := q_T_in 485 (by decide +kernel) rfl
def y_Law_offer : MethodName := ⟨"RatchetGroupLaw", "offer", "(LRatchetGroup;I[J)I"⟩
abbrev b_Law_offer : ByteArray := method_3_code
theorem w_Law_offer : Cond.codeWith y_Law_offer b_Law_offer 4 (some .int) [(0 , 9 , 12 , 13), (0 , 9 , 15 , 15)] ∈ q_T := q_T_in 488 (by decide +kernel) rfl
def y_RG_offer : MethodName := ⟨"RatchetGroup", "offer", "(I)I"⟩
abbrev b_RG_offer : ByteArray := prog_1_method_2_code
theorem w_RG_offer : Cond.code y_RG_offer b_RG_offer 4 (some .int) ∈ q_T := q_T_in 494 (by decide +kernel) rfl
def y_RG_memberNumbered : MethodName := ⟨"RatchetGroup", "memberNumbered", "(I)LRatchetGroup$Member;"⟩
abbrev b_RG_memberNumbered : ByteArray := prog_1_method_21_code
theorem w_RG_memberNumbered : Cond.code y_RG_memberNumbered b_RG_memberNumbered 2 (some (.object "RatchetGroup$Member")) ∈ q_T := q_T_in 498 (by decide +kernel) rfl
def y_KP_init : MethodName := ⟨"RatchetGroup$KeyPackage", "<init>", "(LRatchetGroup$Member;II)V"⟩
abbrev b_KP_init : ByteArray := prog_4_method_1_code
theorem w_KP_init : Cond.code y_KP_init b_KP_init 4 none ∈ q_T := q_T_in 585 (by decide +kernel) rfl
def y_Law_add : MethodName := ⟨"RatchetGroupLaw", "add", "(LRatchetGroup;II[J)I"⟩
abbrev b_Law_add : ByteArray := method_4_code
theorem w_Law_add : Cond.codeWith y_Law_add b_Law_add 5 (some .int) [(0 , 10 , 13 , 13), (0 , 10 , 17 , 15)] ∈ q_T := q_T_in 614 (by decide +kernel) rfl
def y_RG_add : MethodName := ⟨"RatchetGroup", "add", "(II)I"⟩
abbrev b_RG_add : ByteArray := prog_1_method_3_code
theorem w_RG_add : Cond.code y_RG_add b_RG_add 4 (some .int) ∈ q_T := q_T_in 618 (by decide +kernel) rfl
def y_RG_refuseUnlessMayPropose : MethodName := ⟨"RatchetGroup", "refuseUnlessMayPropose", "(LRatchetGroup$Member;)V"⟩
abbrev b_RG_refuseUnlessMayPropose : ByteArray := prog_1_method_22_code
theorem w_RG_refuseUnlessMayPropose : Cond.code y_RG_refuseUnlessMayPropose b_RG_refuseUnlessMayPropose 2 none ∈ q_T := q_T_in 623 (by decide +kernel) rfl
def y_Ad_init : MethodName := ⟨"RatchetGroup$Addition", "<init>", "(LRatchetGroup$KeyPackage;)V"⟩
abbrev b_Ad_init : ByteArray := prog_2_method_1_code
theorem w_Ad_init : Cond.code y_Ad_init b_Ad_init 2 none ∈ q_T := q_T_in 630 (by decide +kernel) rfl
def y_Law_remove : MethodName := ⟨"RatchetGroupLaw", "remove", "(LRatchetGroup;II[J)I"⟩
abbrev b_Law_remove : ByteArray := method_5_code
theorem w_Law_remove : Cond.codeWith y_Law_remove b_Law_remove 5 (some .int) [(0 , 10 , 13 , 13), (0 , 10 , 17 , 15)] ∈ q_T := q_T_in 639 (by decide +kernel) rfl
def y_RG_remove : MethodName := ⟨"RatchetGroup", "remove", "(II)I"⟩
abbrev b_RG_remove : ByteArray := prog_1_method_4_code
theorem w_RG_remove : Cond.code y_RG_remove b_RG_remove 4 (some .int) ∈ q_T := q_T_in 643 (by decide +kernel) rfl
def y_Re_init : MethodName := ⟨"RatchetGroup$Removal", "<init>", "(I)V"⟩
abbrev b_Re_init : ByteArray := prog_7_method_1_code
theorem w_Re_init : Cond.code y_Re_init b_Re_init 2 none ∈ q_T := q_T_in 649 (by decide +kernel) rfl
def y_Law_update : MethodName := ⟨"RatchetGroupLaw", "update", "(LRatchetGroup;I[J)I"⟩
abbrev b_Law_update : ByteArray := method_6_code
theorem w_Law_update : Cond.codeWith y_Law_update b_Law_update 4 (some .int) [(0 , 9 , 12 , 13), (0 , 9 , 15 , 15)] ∈ q_T := q_T_in 658 (by decide +kernel) rfl
def y_RG_update : MethodName := ⟨"RatchetGroup", "update", "(I)I"⟩
abbrev b_RG_update : ByteArray := prog_1_method_5_code
theorem w_RG_update : Cond.code y_RG_update b_RG_update 4 (some .int) ∈ q_T := q_T_in 662 (by decide +kernel) rfl
def y_Mem_keepUpdate : MethodName := ⟨"RatchetGroup$Member", "keepUpdate", "(I)V"⟩
abbrev b_Mem_keepUpdate : ByteArray := prog_5_method_2_code
theorem w_Mem_keepUpdate : Cond.code y_Mem_keepUpdate b_Mem_keepUpdate 2 none ∈ q_T := q_T_in 666 (by decide +kernel) rfl
def y_Rn_init : MethodName := ⟨"RatchetGroup$Renewal", "<init>", "(II)V"⟩
abbrev b_Rn_init : ByteArray := prog_8_method_1_code
theorem w_Rn_init : Cond.code y_Rn_init b_Rn_init 3 none ∈ q_T := q_T_in 671 (by decide +kernel) rfl
def y_Law_commit : MethodName := ⟨"RatchetGroupLaw", "commit", "(LRatchetGroup;IZ[J)I"⟩
abbrev b_Law_commit : ByteArray := method_7_code
theorem w_Law_commit : Cond.codeWith y_Law_commit b_Law_commit 5 (some .int) [(0 , 10 , 13 , 13), (0 , 10 , 17 , 15)] ∈ q_T := q_T_in 685 (by decide +kernel) rfl
def y_RG_commit : MethodName := ⟨"RatchetGroup", "commit", "(IZ)I"⟩
abbrev b_RG_commit : ByteArray := prog_1_method_6_code
theorem w_RG_commit : Cond.code y_RG_commit b_RG_commit 7 (some .int) ∈ q_T := q_T_in 689 (by decide +kernel) rfl
def y_Tr_copy : MethodName := ⟨"RatchetGroup$Tree", "copy", "(LRatchetGroup$Tree;)V"⟩
abbrev b_Tr_copy : ByteArray := prog_11_method_5_code
theorem w_Tr_copy : Cond.code y_Tr_copy b_Tr_copy 2 none ∈ q_T := q_T_in 694 (by decide +kernel) rfl
def y_Row_copy : MethodName := ⟨"RatchetGroup$Row", "copy", "(LRatchetGroup$Row;)V"⟩
abbrev b_Row_copy : ByteArray := prog_9_method_5_code
theorem w_Row_copy : Cond.code y_Row_copy b_Row_copy 3 none ∈ q_T := q_T_in 698 (by decide +kernel) rfl
def y_RG_applyRemovals : MethodName := ⟨"RatchetGroup", "applyRemovals", "(LRatchetGroup$Epoch;)V"⟩
abbrev b_RG_applyRemovals : ByteArray := prog_1_method_23_code
theorem w_RG_applyRemovals : Cond.code y_RG_applyRemovals b_RG_applyRemovals 5 none ∈ q_T := q_T_in 703 (by decide +kernel) rfl
def y_RG_removeLeaf : MethodName := ⟨"RatchetGroup", "removeLeaf", "(LRatchetGroup$Epoch;I)V"⟩
abbrev b_RG_removeLeaf : ByteArray := prog_1_method_24_code
theorem w_RG_removeLeaf : Cond.code y_RG_removeLeaf b_RG_removeLeaf 5 none ∈ q_T := q_T_in 707 (by decide +kernel) rfl
def y_Tr_vacate : MethodName := ⟨"RatchetGroup$Tree", "vacate", "(I)V"⟩
abbrev b_Tr_vacate : ByteArray := prog_11_method_10_code
theorem w_Tr_vacate : Cond.code y_Tr_vacate b_Tr_vacate 2 none ∈ q_T := q_T_in 712 (by decide +kernel) rfl
def y_Tr_blankWithPath : MethodName := ⟨"RatchetGroup$Tree", "blankWithPath", "(I)V"⟩
abbrev b_Tr_blankWithPath : ByteArray := prog_11_method_12_code
theorem w_Tr_blankWithPath : Cond.code y_Tr_blankWithPath b_Tr_blankWithPath 3 none ∈ q_T := q_T_in 716 (by decide +kernel) rfl
def y_Mem_leave : MethodName := ⟨"RatchetGroup$Member", "leave", "()V"⟩
abbrev b_Mem_leave : ByteArray := prog_5_method_4_code
theorem w_Mem_leave : Cond.code y_Mem_leave b_Mem_leave 1 none ∈ q_T := q_T_in 720 (by decide +kernel) rfl
def y_Row_fill : MethodName := ⟨"RatchetGroup$Row", "fill", "(I)V"⟩
abbrev b_Row_fill : ByteArray := prog_9_method_4_code
theorem w_Row_fill : Cond.code y_Row_fill b_Row_fill 2 none ∈ q_T := q_T_in 724 (by decide +kernel) rfl
def y_Tr_shrink : MethodName := ⟨"RatchetGroup$Tree", "shrink", "()V"⟩
abbrev b_Tr_shrink : ByteArray := prog_11_method_13_code
theorem w_Tr_shrink : Cond.code y_Tr_shrink b_Tr_shrink 1 none ∈ q_T := q_T_in 728 (by decide +kernel) rfl
def y_Tr_isRightHalfBlank : MethodName := ⟨"RatchetGroup$Tree", "isRightHalfBlank", "()Z"⟩
abbrev b_Tr_isRightHalfBlank : ByteArray := prog_11_method_14_code
theorem w_Tr_isRightHalfBlank : Cond.code y_Tr_isRightHalfBlank b_Tr_isRightHalfBlank 2 (some .boolean) ∈ q_T := q_T_in 732 (by decide +kernel) rfl
def y_Tr_blank : MethodName := ⟨"RatchetGroup$Tree", "blank", "(I)V"⟩
abbrev b_Tr_blank : ByteArray := prog_11_method_9_code
theorem w_Tr_blank : Cond.code y_Tr_blank b_Tr_blank 2 none ∈ q_T := q_T_in 736 (by decide +kernel) rfl
def y_RG_applyRenewals : MethodName := ⟨"RatchetGroup", "applyRenewals", "(LRatchetGroup$Epoch;)V"⟩
abbrev b_RG_applyRenewals : ByteArray := prog_1_method_25_code
theorem w_RG_applyRenewals : Cond.code y_RG_applyRenewals b_RG_applyRenewals 5 none ∈ q_T := q_T_in 740 (by decide +kernel) rfl
def y_Ep_lets : MethodName := ⟨"RatchetGroup$Epoch", "lets", "(LRatchetGroup$Renewal;)Z"⟩
abbrev b_Ep_lets : ByteArray := prog_3_method_2_code
theorem w_Ep_lets : Cond.code y_Ep_lets b_Ep_lets 2 (some .boolean) ∈ q_T := q_T_in 744 (by decide +kernel) rfl
def y_Tr_renew : MethodName := ⟨"RatchetGroup$Tree", "renew", "(III)V"⟩
abbrev b_Tr_renew : ByteArray := prog_11_method_11_code
theorem w_Tr_renew : Cond.code y_Tr_renew b_Tr_renew 4 none ∈ q_T := q_T_in 749 (by decide +kernel) rfl
def y_RG_applyAdditions : MethodName := ⟨"RatchetGroup", "applyAdditions", "(LRatchetGroup$Epoch;)V"⟩
abbrev b_RG_applyAdditions : ByteArray := prog_1_method_26_code
theorem w_RG_applyAdditions : Cond.code y_RG_applyAdditions b_RG_applyAdditions 5 none ∈ q_T := q_T_in 753 (by decide +kernel) rfl
def y_RG_addLeaf : MethodName := ⟨"RatchetGroup", "addLeaf", "(LRatchetGroup$Epoch;LRatchetGroup$KeyPackage;)V"⟩
abbrev b_RG_addLeaf : ByteArray := prog_1_method_27_code
theorem w_RG_addLeaf : Cond.code y_RG_addLeaf b_RG_addLeaf 5 none ∈ q_T := q_T_in 757 (by decide +kernel) rfl
def y_KP_isUsed : MethodName := ⟨"RatchetGroup$KeyPackage", "isUsed", "()Z"⟩
abbrev b_KP_isUsed : ByteArray := prog_4_method_2_code
theorem w_KP_isUsed : Cond.code y_KP_isUsed b_KP_isUsed 1 (some .boolean) ∈ q_T := q_T_in 761 (by decide +kernel) rfl
def y_Tr_seats : MethodName := ⟨"RatchetGroup$Tree", "seats", "(I)Z"⟩
abbrev b_Tr_seats : ByteArray := prog_11_method_15_code
theorem w_Tr_seats : Cond.code y_Tr_seats b_Tr_seats 3 (some .boolean) ∈ q_T := q_T_in 765 (by decide +kernel) rfl
def y_Tr_lowestFreeLeaf : MethodName := ⟨"RatchetGroup$Tree", "lowestFreeLeaf", "()I"⟩
abbrev b_Tr_lowestFreeLeaf : ByteArray := prog_11_method_16_code
theorem w_Tr_lowestFreeLeaf : Cond.code y_Tr_lowestFreeLeaf b_Tr_lowestFreeLeaf 2 (some .int) ∈ q_T := q_T_in 769 (by decide +kernel) rfl
def y_Ep_needsPath : MethodName := ⟨"RatchetGroup$Epoch", "needsPath", "(Z)Z"⟩
abbrev b_Ep_needsPath : ByteArray := prog_3_method_3_code
theorem w_Ep_needsPath : Cond.code y_Ep_needsPath b_Ep_needsPath 2 (some .boolean) ∈ q_T := q_T_in 773 (by decide +kernel) rfl
def y_Ep_layPath : MethodName := ⟨"RatchetGroup$Epoch", "layPath", "(LRatchetGroup$Secrets;)I"⟩
abbrev b_Ep_layPath : ByteArray := prog_3_method_4_code
theorem w_Ep_layPath : Cond.code y_Ep_layPath b_Ep_layPath 5 (some .int) ∈ q_T := q_T_in 777 (by decide +kernel) rfl
def y_Ep_nodeBesidePath : MethodName := ⟨"RatchetGroup$Epoch", "nodeBesidePath", "(I)I"⟩
abbrev b_Ep_nodeBesidePath : ByteArray := prog_3_method_8_code
theorem w_Ep_nodeBesidePath : Cond.code y_Ep_nodeBesidePath b_Ep_nodeBesidePath 3 (some .int) ∈ q_T := q_T_in 784 (by decide +kernel) rfl
def y_Sec_derivedFrom : MethodName := ⟨"RatchetGroup$Secrets", "derivedFrom", "(I)I"⟩
abbrev b_Sec_derivedFrom : ByteArray := prog_10_method_3_code
theorem w_Sec_derivedFrom : Cond.code y_Sec_derivedFrom b_Sec_derivedFrom 3 (some .int) ∈ q_T := q_T_in 790 (by decide +kernel) rfl
def y_Sec_openWay : MethodName := ⟨"RatchetGroup$Secrets", "openWay", "(III)V"⟩
abbrev b_Sec_openWay : ByteArray := prog_10_method_8_code
theorem w_Sec_openWay : Cond.code y_Sec_openWay b_Sec_openWay 4 none ∈ q_T := q_T_in 795 (by decide +kernel) rfl
def y_Sec_tell : MethodName := ⟨"RatchetGroup$Secrets", "tell", "(I)V"⟩
abbrev b_Sec_tell : ByteArray := prog_10_method_6_code
theorem w_Sec_tell : Cond.code y_Sec_tell b_Sec_tell 2 none ∈ q_T := q_T_in 800 (by decide +kernel) rfl
def y_Ep_encryptPathSecret : MethodName := ⟨"RatchetGroup$Epoch", "encryptPathSecret", "(LRatchetGroup$Secrets;I)V"⟩
abbrev b_Ep_encryptPathSecret : ByteArray := prog_3_method_5_code
theorem w_Ep_encryptPathSecret : Cond.code y_Ep_encryptPathSecret b_Ep_encryptPathSecret 5 none ∈ q_T := q_T_in 805 (by decide +kernel) rfl
def y_Ep_readersOf : MethodName := ⟨"RatchetGroup$Epoch", "readersOf", "(I)I"⟩
abbrev b_Ep_readersOf : ByteArray := prog_3_method_7_code
theorem w_Ep_readersOf : Cond.code y_Ep_readersOf b_Ep_readersOf 2 (some .int) ∈ q_T := q_T_in 809 (by decide +kernel) rfl
def y_Ep_encrypt : MethodName := ⟨"RatchetGroup$Epoch", "encrypt", "(LRatchetGroup$Secrets;II)V"⟩
abbrev b_Ep_encrypt : ByteArray := prog_3_method_6_code
theorem w_Ep_encrypt : Cond.code y_Ep_encrypt b_Ep_encrypt 4 none ∈ q_T := q_T_in 815 (by decide +kernel) rfl
def y_Sec_joinerOf : MethodName := ⟨"RatchetGroup$Secrets", "joinerOf", "(II)I"⟩
abbrev b_Sec_joinerOf : ByteArray := prog_10_method_4_code
theorem w_Sec_joinerOf : Cond.code y_Sec_joinerOf b_Sec_joinerOf 4 (some .int) ∈ q_T := q_T_in 821 (by decide +kernel) rfl
def y_RG_welcomeAdded : MethodName := ⟨"RatchetGroup", "welcomeAdded", "(LRatchetGroup$Epoch;I)V"⟩
abbrev b_RG_welcomeAdded : ByteArray := prog_1_method_28_code
theorem w_RG_welcomeAdded : Cond.code y_RG_welcomeAdded b_RG_welcomeAdded 6 none ∈ q_T := q_T_in 825 (by decide +kernel) rfl
def y_Ep_lowestCountingOver : MethodName := ⟨"RatchetGroup$Epoch", "lowestCountingOver", "(I)I"⟩
abbrev b_Ep_lowestCountingOver : ByteArray := prog_3_method_9_code
theorem w_Ep_lowestCountingOver : Cond.code y_Ep_lowestCountingOver b_Ep_lowestCountingOver 3 (some .int) ∈ q_T := q_T_in 830 (by decide +kernel) rfl
def y_AL_clear : MethodName := ⟨"java/util/ArrayList", "clear", "()V"⟩
abbrev b_AL_clear : ByteArray := prog_28_method_40_code
theorem w_AL_clear : Cond.code y_AL_clear b_AL_clear 4 none ∈ q_T := q_T_in 834 (by decide +kernel) rfl
def y_Sec_settle : MethodName := ⟨"RatchetGroup$Secrets", "settle", "()V"⟩
abbrev b_Sec_settle : ByteArray := prog_10_method_7_code
theorem w_Sec_settle : Cond.code y_Sec_settle b_Sec_settle 1 none ∈ q_T := q_T_in 839 (by decide +kernel) rfl
def y_Sec_followWays : MethodName := ⟨"RatchetGroup$Secrets", "followWays", "(I)V"⟩
abbrev b_Sec_followWays : ByteArray := prog_10_method_9_code
theorem w_Sec_followWays : Cond.code y_Sec_followWays b_Sec_followWays 4 none ∈ q_T := q_T_in 843 (by decide +kernel) rfl
def y_Law_come : MethodName := ⟨"RatchetGroupLaw", "come", "(LRatchetGroup;I[J)I"⟩
abbrev b_Law_come : ByteArray := method_8_code
theorem w_Law_come : Cond.codeWith y_Law_come b_Law_come 4 (some .int) [(0 , 9 , 12 , 13), (0 , 9 , 15 , 15)] ∈ q_T := q_T_in 846 (by decide +kernel) rfl
def y_RG_come : MethodName := ⟨"RatchetGroup", "come", "(I)I"⟩
abbrev b_RG_come : ByteArray := prog_1_method_7_code
theorem w_RG_come : Cond.code y_RG_come b_RG_come 3 (some .int) ∈ q_T := q_T_in 850 (by decide +kernel) rfl
def y_RG_joinEarliest : MethodName := ⟨"RatchetGroup", "joinEarliest", "(LRatchetGroup$Member;)V"⟩
abbrev b_RG_joinEarliest : ByteArray := prog_1_method_29_code
theorem w_RG_joinEarliest : Cond.code y_RG_joinEarliest b_RG_joinEarliest 6 none ∈ q_T := q_T_in 854 (by decide +kernel) rfl
def y_RG_moveOn : MethodName := ⟨"RatchetGroup", "moveOn", "(LRatchetGroup$Member;)V"⟩
abbrev b_RG_moveOn : ByteArray := prog_1_method_30_code
theorem w_RG_moveOn : Cond.code y_RG_moveOn b_RG_moveOn 4 none ∈ q_T := q_T_in 859 (by decide +kernel) rfl
def y_Mem_follow : MethodName := ⟨"RatchetGroup$Member", "follow", "(LRatchetGroup$Epoch;)V"⟩
abbrev b_Mem_follow : ByteArray := prog_5_method_7_code
theorem w_Mem_follow : Cond.code y_Mem_follow b_Mem_follow 3 none ∈ q_T := q_T_in 865 (by decide +kernel) rfl
def y_Mem_holdsOneOf : MethodName := ⟨"RatchetGroup$Member", "holdsOneOf", "(ILRatchetGroup$Tree;)Z"⟩
abbrev b_Mem_holdsOneOf : ByteArray := prog_5_method_8_code
theorem w_Mem_holdsOneOf : Cond.code y_Mem_holdsOneOf b_Mem_holdsOneOf 4 (some .boolean) ∈ q_T := q_T_in 871 (by decide +kernel) rfl
def y_Law_compromise : MethodName := ⟨"RatchetGroupLaw", "compromise", "(LRatchetGroup;I[J)I"⟩
abbrev b_Law_compromise : ByteArray := method_9_code
theorem w_Law_compromise : Cond.codeWith y_Law_compromise b_Law_compromise 4 (some .int) [(0 , 9 , 12 , 13)] ∈ q_T := q_T_in 874 (by decide +kernel) rfl
def y_RG_compromise : MethodName := ⟨"RatchetGroup", "compromise", "(I)I"⟩
abbrev b_RG_compromise : ByteArray := prog_1_method_8_code
theorem w_RG_compromise : Cond.code y_RG_compromise b_RG_compromise 4 (some .int) ∈ q_T := q_T_in 878 (by decide +kernel) rfl
def y_Mo_init : MethodName := ⟨"RatchetGroupModel", "<init>", "()V"⟩
abbrev b_Mo_init : ByteArray := prog_13_method_1_code
theorem w_Mo_init : Cond.code y_Mo_init b_Mo_init 2 none ∈ q_T := q_T_in 884 (by decide +kernel) rfl
def y_Mo_make : MethodName := ⟨"RatchetGroupModel", "make", "(III)I"⟩
abbrev b_Mo_make : ByteArray := prog_13_method_4_code
theorem w_Mo_make : Cond.code y_Mo_make b_Mo_make 4 (some .int) ∈ q_T := q_T_in 889 (by decide +kernel) rfl
def y_Mo_leave : MethodName := ⟨"RatchetGroupModel", "leave", "(I)V"⟩
abbrev b_Mo_leave : ByteArray := prog_13_method_18_code
theorem w_Mo_leave : Cond.code y_Mo_leave b_Mo_leave 3 none ∈ q_T := q_T_in 893 (by decide +kernel) rfl
def y_Mo_thrown : MethodName := ⟨"RatchetGroupModel", "thrown", "()I"⟩
abbrev b_Mo_thrown : ByteArray := prog_13_method_2_code
theorem w_Mo_thrown : Cond.code y_Mo_thrown b_Mo_thrown 1 (some .int) ∈ q_T := q_T_in 1055 (by decide +kernel) rfl
def y_Mo_offer : MethodName := ⟨"RatchetGroupModel", "offer", "(I)I"⟩
abbrev b_Mo_offer : ByteArray := prog_13_method_40_code
theorem w_Mo_offer : Cond.code y_Mo_offer b_Mo_offer 2 (some .int) ∈ q_T := q_T_in 1059 (by decide +kernel) rfl
def y_Mo_in : MethodName := ⟨"RatchetGroupModel", "in", "(II)Z"⟩
abbrev b_Mo_in : ByteArray := prog_13_method_3_code
theorem w_Mo_in : Cond.code y_Mo_in b_Mo_in 2 (some .boolean) ∈ q_T := q_T_in 1062 (by decide +kernel) rfl
def y_Mo_add : MethodName := ⟨"RatchetGroupModel", "add", "(II)I"⟩
abbrev b_Mo_add : ByteArray := prog_13_method_41_code
theorem w_Mo_add : Cond.code y_Mo_add b_Mo_add 3 (some .int) ∈ q_T := q_T_in 1066 (by decide +kernel) rfl
def y_Mo_isAsked : MethodName := ⟨"RatchetGroupModel", "isAsked", "(IZ)Z"⟩
abbrev b_Mo_isAsked : ByteArray := prog_13_method_38_code
theorem w_Mo_isAsked : Cond.code y_Mo_isAsked b_Mo_isAsked 3 (some .boolean) ∈ q_T := q_T_in 1070 (by decide +kernel) rfl
def y_Mo_isLatest : MethodName := ⟨"RatchetGroupModel", "isLatest", "(I)Z"⟩
abbrev b_Mo_isLatest : ByteArray := prog_13_method_22_code
theorem w_Mo_isLatest : Cond.code y_Mo_isLatest b_Mo_isLatest 2 (some .boolean) ∈ q_T := q_T_in 1074 (by decide +kernel) rfl
def y_Mo_propose : MethodName := ⟨"RatchetGroupModel", "propose", "(III)I"⟩
abbrev b_Mo_propose : ByteArray := prog_13_method_39_code
theorem w_Mo_propose : Cond.code y_Mo_propose b_Mo_propose 4 (some .int) ∈ q_T := q_T_in 1078 (by decide +kernel) rfl
def y_Mo_remove : MethodName := ⟨"RatchetGroupModel", "remove", "(II)I"⟩
abbrev b_Mo_remove : ByteArray := prog_13_method_42_code
theorem w_Mo_remove : Cond.code y_Mo_remove b_Mo_remove 3 (some .int) ∈ q_T := q_T_in 1082 (by decide +kernel) rfl
def y_Mo_update : MethodName := ⟨"RatchetGroupModel", "update", "(I)I"⟩
abbrev b_Mo_update : ByteArray := prog_13_method_43_code
theorem w_Mo_update : Cond.code y_Mo_update b_Mo_update 3 (some .int) ∈ q_T := q_T_in 1086 (by decide +kernel) rfl
def y_Mo_commit : MethodName := ⟨"RatchetGroupModel", "commit", "(IZ)I"⟩
abbrev b_Mo_commit : ByteArray := prog_13_method_44_code
theorem w_Mo_commit : Cond.code y_Mo_commit b_Mo_commit 3 (some .int) ∈ q_T := q_T_in 1090 (by decide +kernel) rfl
def y_Mo_change : MethodName := ⟨"RatchetGroupModel", "change", "(IZ)V"⟩
abbrev b_Mo_change : ByteArray := prog_13_method_37_code
theorem w_Mo_change : Cond.code y_Mo_change b_Mo_change 8 none ∈ q_T := q_T_in 1094 (by decide +kernel) rfl
def y_Mo_copyTree : MethodName := ⟨"RatchetGroupModel", "copyTree", "(II)V"⟩
abbrev b_Mo_copyTree : ByteArray := prog_13_method_23_code
theorem w_Mo_copyTree : Cond.code y_Mo_copyTree b_Mo_copyTree 4 none ∈ q_T := q_T_in 1098 (by decide +kernel) rfl
def y_Mo_width : MethodName := ⟨"RatchetGroupModel", "width", "(I)I"⟩
abbrev b_Mo_width : ByteArray := prog_13_method_11_code
theorem w_Mo_width : Cond.code y_Mo_width b_Mo_width 2 (some .int) ∈ q_T := q_T_in 1102 (by decide +kernel) rfl
def y_Mo_findRemoves : MethodName := ⟨"RatchetGroupModel", "findRemoves", "(II)V"⟩
abbrev b_Mo_findRemoves : ByteArray := prog_13_method_24_code
theorem w_Mo_findRemoves : Cond.code y_Mo_findRemoves b_Mo_findRemoves 5 none ∈ q_T := q_T_in 1106 (by decide +kernel) rfl
def y_Mo_findUpdates : MethodName := ⟨"RatchetGroupModel", "findUpdates", "(II)V"⟩
abbrev b_Mo_findUpdates : ByteArray := prog_13_method_25_code
theorem w_Mo_findUpdates : Cond.code y_Mo_findUpdates b_Mo_findUpdates 5 none ∈ q_T := q_T_in 1110 (by decide +kernel) rfl
def y_Mo_doRemoves : MethodName := ⟨"RatchetGroupModel", "doRemoves", "(I)V"⟩
abbrev b_Mo_doRemoves : ByteArray := prog_13_method_26_code
theorem w_Mo_doRemoves : Cond.code y_Mo_doRemoves b_Mo_doRemoves 3 none ∈ q_T := q_T_in 1114 (by decide +kernel) rfl
def y_Mo_blank : MethodName := ⟨"RatchetGroupModel", "blank", "(II)V"⟩
abbrev b_Mo_blank : ByteArray := prog_13_method_12_code
theorem w_Mo_blank : Cond.code y_Mo_blank b_Mo_blank 3 none ∈ q_T := q_T_in 1118 (by decide +kernel) rfl
def y_Mo_blankPath : MethodName := ⟨"RatchetGroupModel", "blankPath", "(II)V"⟩
abbrev b_Mo_blankPath : ByteArray := prog_13_method_13_code
theorem w_Mo_blankPath : Cond.code y_Mo_blankPath b_Mo_blankPath 4 none ∈ q_T := q_T_in 1122 (by decide +kernel) rfl
def y_Mo_above : MethodName := ⟨"RatchetGroupModel", "above", "(II)I"⟩
abbrev b_Mo_above : ByteArray := prog_13_method_9_code
theorem w_Mo_above : Cond.code y_Mo_above b_Mo_above 2 (some .int) ∈ q_T := q_T_in 1125 (by decide +kernel) rfl
def y_Mo_isRightBlank : MethodName := ⟨"RatchetGroupModel", "isRightBlank", "(I)Z"⟩
abbrev b_Mo_isRightBlank : ByteArray := prog_13_method_16_code
theorem w_Mo_isRightBlank : Cond.code y_Mo_isRightBlank b_Mo_isRightBlank 4 (some .boolean) ∈ q_T := q_T_in 1129 (by decide +kernel) rfl
def y_Mo_doUpdates : MethodName := ⟨"RatchetGroupModel", "doUpdates", "(I)V"⟩
abbrev b_Mo_doUpdates : ByteArray := prog_13_method_27_code
theorem w_Mo_doUpdates : Cond.code y_Mo_doUpdates b_Mo_doUpdates 3 none ∈ q_T := q_T_in 1133 (by decide +kernel) rfl
def y_Mo_set : MethodName := ⟨"RatchetGroupModel", "set", "(III)V"⟩
abbrev b_Mo_set : ByteArray := prog_13_method_14_code
theorem w_Mo_set : Cond.code y_Mo_set b_Mo_set 4 none ∈ q_T := q_T_in 1137 (by decide +kernel) rfl
def y_Mo_doAdds : MethodName := ⟨"RatchetGroupModel", "doAdds", "(I)V"⟩
abbrev b_Mo_doAdds : ByteArray := prog_13_method_30_code
theorem w_Mo_doAdds : Cond.code y_Mo_doAdds b_Mo_doAdds 6 none ∈ q_T := q_T_in 1141 (by decide +kernel) rfl
def y_Mo_mayAdd : MethodName := ⟨"RatchetGroupModel", "mayAdd", "(II)Z"⟩
abbrev b_Mo_mayAdd : ByteArray := prog_13_method_28_code
theorem w_Mo_mayAdd : Cond.code y_Mo_mayAdd b_Mo_mayAdd 4 (some .boolean) ∈ q_T := q_T_in 1145 (by decide +kernel) rfl
def y_Mo_leafOf : MethodName := ⟨"RatchetGroupModel", "leafOf", "(II)I"⟩
abbrev b_Mo_leafOf : ByteArray := prog_13_method_17_code
theorem w_Mo_leafOf : Cond.code y_Mo_leafOf b_Mo_leafOf 4 (some .int) ∈ q_T := q_T_in 1149 (by decide +kernel) rfl
def y_Mo_freeLeaf : MethodName := ⟨"RatchetGroupModel", "freeLeaf", "(I)I"⟩
abbrev b_Mo_freeLeaf : ByteArray := prog_13_method_29_code
theorem w_Mo_freeLeaf : Cond.code y_Mo_freeLeaf b_Mo_freeLeaf 3 (some .int) ∈ q_T := q_T_in 1153 (by decide +kernel) rfl
def y_Mo_renew : MethodName := ⟨"RatchetGroupModel", "renew", "(II)I"⟩
abbrev b_Mo_renew : ByteArray := prog_13_method_31_code
theorem w_Mo_renew : Cond.code y_Mo_renew b_Mo_renew 8 (some .int) ∈ q_T := q_T_in 1157 (by decide +kernel) rfl
def y_Mo_resolve : MethodName := ⟨"RatchetGroupModel", "resolve", "(II)V"⟩
abbrev b_Mo_resolve : ByteArray := prog_13_method_15_code
theorem w_Mo_resolve : Cond.code y_Mo_resolve b_Mo_resolve 7 none ∈ q_T := q_T_in 1161 (by decide +kernel) rfl
def y_Mo_height : MethodName := ⟨"RatchetGroupModel", "height", "(I)I"⟩
abbrev b_Mo_height : ByteArray := prog_13_method_10_code
theorem w_Mo_height : Cond.code y_Mo_height b_Mo_height 2 (some .int) ∈ q_T := q_T_in 1164 (by decide +kernel) rfl
def y_Mo_of : MethodName := ⟨"RatchetGroupModel", "of", "(III)I"⟩
abbrev b_Mo_of : ByteArray := prog_13_method_5_code
theorem w_Mo_of : Cond.code y_Mo_of b_Mo_of 5 (some .int) ∈ q_T := q_T_in 1168 (by decide +kernel) rfl
def y_Mo_encrypt : MethodName := ⟨"RatchetGroupModel", "encrypt", "(III)V"⟩
abbrev b_Mo_encrypt : ByteArray := prog_13_method_6_code
theorem w_Mo_encrypt : Cond.code y_Mo_encrypt b_Mo_encrypt 4 none ∈ q_T := q_T_in 1172 (by decide +kernel) rfl
def y_Mo_welcome : MethodName := ⟨"RatchetGroupModel", "welcome", "(II)V"⟩
abbrev b_Mo_welcome : ByteArray := prog_13_method_33_code
theorem w_Mo_welcome : Cond.code y_Mo_welcome b_Mo_welcome 5 none ∈ q_T := q_T_in 1176 (by decide +kernel) rfl
def y_Mo_meeting : MethodName := ⟨"RatchetGroupModel", "meeting", "(II)I"⟩
abbrev b_Mo_meeting : ByteArray := prog_13_method_32_code
theorem w_Mo_meeting : Cond.code y_Mo_meeting b_Mo_meeting 4 (some .int) ∈ q_T := q_T_in 1180 (by decide +kernel) rfl
def y_Mo_advance : MethodName := ⟨"RatchetGroupModel", "advance", "(IIZ)V"⟩
abbrev b_Mo_advance : ByteArray := prog_13_method_36_code
theorem w_Mo_advance : Cond.code y_Mo_advance b_Mo_advance 4 none ∈ q_T := q_T_in 1184 (by decide +kernel) rfl
def y_Mo_keep : MethodName := ⟨"RatchetGroupModel", "keep", "(II)V"⟩
abbrev b_Mo_keep : ByteArray := prog_13_method_34_code
theorem w_Mo_keep : Cond.code y_Mo_keep b_Mo_keep 6 none ∈ q_T := q_T_in 1188 (by decide +kernel) rfl
def y_Mo_tell : MethodName := ⟨"RatchetGroupModel", "tell", "(III)V"⟩
abbrev b_Mo_tell : ByteArray := prog_13_method_35_code
theorem w_Mo_tell : Cond.code y_Mo_tell b_Mo_tell 6 none ∈ q_T := q_T_in 1192 (by decide +kernel) rfl
def y_Mo_come : MethodName := ⟨"RatchetGroupModel", "come", "(I)I"⟩
abbrev b_Mo_come : ByteArray := prog_13_method_48_code
theorem w_Mo_come : Cond.code y_Mo_come b_Mo_come 4 (some .int) ∈ q_T := q_T_in 1196 (by decide +kernel) rfl
def y_Mo_nextPackage : MethodName := ⟨"RatchetGroupModel", "nextPackage", "(I)I"⟩
abbrev b_Mo_nextPackage : ByteArray := prog_13_method_45_code
theorem w_Mo_nextPackage : Cond.code y_Mo_nextPackage b_Mo_nextPackage 4 (some .int) ∈ q_T := q_T_in 1200 (by decide +kernel) rfl
def y_Mo_join : MethodName := ⟨"RatchetGroupModel", "join", "(II)V"⟩
abbrev b_Mo_join : ByteArray := prog_13_method_46_code
theorem w_Mo_join : Cond.code y_Mo_join b_Mo_join 5 none ∈ q_T := q_T_in 1204 (by decide +kernel) rfl
def y_Mo_follow : MethodName := ⟨"RatchetGroupModel", "follow", "(I)V"⟩
abbrev b_Mo_follow : ByteArray := prog_13_method_47_code
theorem w_Mo_follow : Cond.code y_Mo_follow b_Mo_follow 6 none ∈ q_T := q_T_in 1208 (by decide +kernel) rfl
def y_Mo_gather : MethodName := ⟨"RatchetGroupModel", "gather", "(I)V"⟩
abbrev b_Mo_gather : ByteArray := prog_13_method_20_code
theorem w_Mo_gather : Cond.code y_Mo_gather b_Mo_gather 3 none ∈ q_T := q_T_in 1212 (by decide +kernel) rfl
def y_Mo_hold : MethodName := ⟨"RatchetGroupModel", "hold", "(I)V"⟩
abbrev b_Mo_hold : ByteArray := prog_13_method_19_code
theorem w_Mo_hold : Cond.code y_Mo_hold b_Mo_hold 3 none ∈ q_T := q_T_in 1216 (by decide +kernel) rfl
def y_Mo_isHeld : MethodName := ⟨"RatchetGroupModel", "isHeld", "(I)Z"⟩
abbrev b_Mo_isHeld : ByteArray := prog_13_method_21_code
theorem w_Mo_isHeld : Cond.code y_Mo_isHeld b_Mo_isHeld 3 (some .boolean) ∈ q_T := q_T_in 1220 (by decide +kernel) rfl
def y_Mo_compromise : MethodName := ⟨"RatchetGroupModel", "compromise", "(I)I"⟩
abbrev b_Mo_compromise : ByteArray := prog_13_method_49_code
theorem w_Mo_compromise : Cond.code y_Mo_compromise b_Mo_compromise 3 (some .int) ∈ q_T := q_T_in 1224 (by decide +kernel) rfl
def y_Mo_member : MethodName := ⟨"RatchetGroupModel", "member", "(II)I"⟩
abbrev b_Mo_member : ByteArray := prog_13_method_50_code
theorem w_Mo_member : Cond.code y_Mo_member b_Mo_member 3 (some .int) ∈ q_T := q_T_in 1228 (by decide +kernel) rfl
def y_Mo_holds : MethodName := ⟨"RatchetGroupModel", "holds", "(II)Z"⟩
abbrev b_Mo_holds : ByteArray := prog_13_method_51_code
theorem w_Mo_holds : Cond.code y_Mo_holds b_Mo_holds 4 (some .boolean) ∈ q_T := q_T_in 1232 (by decide +kernel) rfl
def y_Mo_has : MethodName := ⟨"RatchetGroupModel", "has", "(I)Z"⟩
abbrev b_Mo_has : ByteArray := prog_13_method_52_code
theorem w_Mo_has : Cond.code y_Mo_has b_Mo_has 2 (some .boolean) ∈ q_T := q_T_in 1236 (by decide +kernel) rfl
def y_Mo_node : MethodName := ⟨"RatchetGroupModel", "node", "(III)I"⟩
abbrev b_Mo_node : ByteArray := prog_13_method_53_code
theorem w_Mo_node : Cond.code y_Mo_node b_Mo_node 5 (some .int) ∈ q_T := q_T_in 1240 (by decide +kernel) rfl
def y_Mo_epoch : MethodName := ⟨"RatchetGroupModel", "epoch", "(II)I"⟩
abbrev b_Mo_epoch : ByteArray := prog_13_method_54_code
theorem w_Mo_epoch : Cond.code y_Mo_epoch b_Mo_epoch 3 (some .int) ∈ q_T := q_T_in 1244 (by decide +kernel) rfl
def y_Mo_epochs : MethodName := ⟨"RatchetGroupModel", "epochs", "()I"⟩
abbrev b_Mo_epochs : ByteArray := prog_13_method_55_code
theorem w_Mo_epochs : Cond.code y_Mo_epochs b_Mo_epochs 1 (some .int) ∈ q_T := q_T_in 1248 (by decide +kernel) rfl
def y_Mo_waiting : MethodName := ⟨"RatchetGroupModel", "waiting", "()I"⟩
abbrev b_Mo_waiting : ByteArray := prog_13_method_56_code
theorem w_Mo_waiting : Cond.code y_Mo_waiting b_Mo_waiting 1 (some .int) ∈ q_T := q_T_in 1252 (by decide +kernel) rfl
def y_Mo_isKnown : MethodName := ⟨"RatchetGroupModel", "isKnown", "(I)Z"⟩
abbrev b_Mo_isKnown : ByteArray := prog_13_method_57_code
theorem w_Mo_isKnown : Cond.code y_Mo_isKnown b_Mo_isKnown 2 (some .boolean) ∈ q_T := q_T_in 1256 (by decide +kernel) rfl
def y_Mo_intrude : MethodName := ⟨"RatchetGroupModel", "intrude", "()V"⟩
abbrev b_Mo_intrude : ByteArray := prog_13_method_8_code
theorem w_Mo_intrude : Cond.code y_Mo_intrude b_Mo_intrude 3 none ∈ q_T := q_T_in 1260 (by decide +kernel) rfl
def y_Mo_follows : MethodName := ⟨"RatchetGroupModel", "follows", "(I)Z"⟩
abbrev b_Mo_follows : ByteArray := prog_13_method_7_code
theorem w_Mo_follows : Cond.code y_Mo_follows b_Mo_follows 2 (some .boolean) ∈ q_T := q_T_in 1264 (by decide +kernel) rfl
def y_Mo_isOpen : MethodName := ⟨"RatchetGroupModel", "isOpen", "(II)Z"⟩
abbrev b_Mo_isOpen : ByteArray := prog_13_method_58_code
theorem w_Mo_isOpen : Cond.code y_Mo_isOpen b_Mo_isOpen 3 (some .boolean) ∈ q_T := q_T_in 1268 (by decide +kernel) rfl
def y_Mo_known : MethodName := ⟨"RatchetGroupModel", "known", "()I"⟩
abbrev b_Mo_known : ByteArray := prog_13_method_59_code
theorem w_Mo_known : Cond.code y_Mo_known b_Mo_known 3 (some .int) ∈ q_T := q_T_in 1272 (by decide +kernel) rfl
end
section
/-! ===== views of the heap: an address has an object (class number, fields) or an array (number of its class, contents) ===== -/
abbrev q_O : Type := (Nat × List Value) ⊕ (Nat × vp_A)
abbrev q_H : Type := Nat → Option q_O
/-- the ghosts of one run of the law: class ids and slots; array classes; where the run's own cells begin; the heap below that; addresses of constants -/
abbrev q_G : Type := va_G × (Nat → ClassId) × Nat × Heap × (Nat → Nat)
abbrev q_dA (g : q_G) : Nat → ClassId := g.2.1
abbrev q_bs (g : q_G) : Nat := g.2.2.1
abbrev q_Hb (g : q_G) : Heap := g.2.2.2.1
abbrev q_ad (g : q_G) : Nat → Nat := g.2.2.2.2
def q_up (h : q_H) (a : Nat) (o : q_O) : q_H := fun b => if b = a then some o else h b
theorem q_up_s (h : q_H) (a : Nat) (o : q_O) : q_up h a o a = some o := if_pos rfl
theorem q_up_n {h : q_H} {a b : Nat} {o : q_O} (e : b ≠ a) : q_up h a o b = h b := if_neg e
theorem q_up_u (h : q_H) (a : Nat) (o o' : q_O) : q_up (q_up h a o) a o' = q_up h a o' := by
  funext b
  unfold q_up
  by_cases e : b = a
  · rw [if_pos e, if_pos e]
  · rw [if_neg e, if_neg e, if_neg e]
theorem q_up_c {h : q_H} {a b : Nat} {o o' : q_O} (e : a ≠ b) : q_up (q_up h a o) b o' = q_up (q_up h b o') a o := by
  funext c
  unfold q_up
  by_cases e1 : c = b
  · rw [if_pos e1, if_neg (fun z => e (z.symm.trans e1)), if_pos e1]
  · rw [if_neg e1]
    by_cases e2 : c = a
    · rw [if_pos e2, if_pos e2]
    · rw [if_neg e2, if_neg e2, if_neg e1]
def q_E (g : q_G) (o : q_O) : va_E := match o with
  | .inl x => .inr x
  | .inr x => .inl (q_dA g x.1, x.2)
def q_HR (g : q_G) (h : q_H) (H : Heap) : Prop := q_bs g ≤ H.size ∧ (∀ q : Nat, q < q_bs g → H[q]? = (q_Hb g)[q]?) ∧ ∀ (a : Nat) (o : q_O), h a = some o → q_bs g ≤ a ∧ va_at g.1 q_cl (a, q_E g o) H
abbrev q_tys (g : q_G) : List (ClassId × FieldType) := [(q_dA g 0, .int), (q_dA g 1, .boolean), (q_dA g 2, .object "java/lang/Object"), (q_dA g 3, .long)]
def q_ncs : List (String × String) := [("RatchetGroup$Addition", "RatchetGroup$Removal"), ("RatchetGroup$Renewal", "RatchetGroup$Removal"), ("RatchetGroup$Addition", "RatchetGroup$Renewal"), ("RatchetGroup$Removal", "RatchetGroup$Renewal"), ("RatchetGroup$Removal", "RatchetGroup$Addition"), ("RatchetGroup$Renewal", "RatchetGroup$Addition"), ("java/lang/IllegalStateException", "java/lang/IndexOutOfBoundsException")]
/-- words that stay true, but not by the kit's own rule -/
def q_isX : Cond → Bool
  | .declares _ => true
  | .castable _ _ => true
  | .methodLinkNest _ _ _ _ => true
  | _ => false
def q_X : List Cond := tables_1.filter q_isX
theorem q_X_in {w : Cond} (i : Nat) (h : tables_1[i]? = some w) (hg : q_isX w = true) : w ∈ q_X := List.mem_filter.mpr ⟨List.mem_of_getElem? h, hg⟩
theorem q_X_on {w : Cond} (h : q_isX w = true) : w.onTables = true := by
  cases w <;> first | rfl | (simp [q_isX] at h)
theorem q_X_warm {w : Cond} {s U : State} (hg : q_isX w = true) (hW : s.WarmedH U.vm) (h : va_Nw w s) : va_Nw w U := by
  cases w <;> first | exact va_Nw.warmD hW h | exact va_Nw.warmC hW h | exact va_Nw.warmM hW h | (simp [q_isX] at hg)
def q_strs : List (Nat × String) := [(263, "no such member"), (91, "there are 60 packages"), (103, "no such package"), (137, "the member is not in the latest epoch"), (265, "20 proposals wait"), (119, "no such leaf"), (139, "there are 60 epochs"), (338, "the member is in no epoch and was not added"), (340, "the member is in the latest epoch")]
/-- what the tables and the constants are: the same in every state of a run -/
def q_K (g : q_G) (U : State) : Prop := va_K g.1 q_cl (q_tys g) U ∧
  va_Z "java/util/ArrayList" "DEFAULTCAPACITY_EMPTY_ELEMENTDATA" "[Ljava/lang/Object;" (.ref (q_ad g 0)) (fun q => q_bs g ≤ q) U (q_Hb g) ∧
  (∃ cell : Cell, (q_Hb g)[q_ad g 0]? = some cell ∧ U.isArrayOf cell (.object "java/lang/Object") ∧ cell.vm ≠ .unknown ∧ cell.slots.size = 0 ∧ cell.cls = q_dA g 2) ∧
  (∀ q ∈ q_ncs, va_Nc q.1 q.2 U) ∧
  va_Zq "java/lang/Throwable" "UNASSIGNED_STACK" "[Ljava/lang/StackTraceElement;" (fun q => q_bs g ≤ q) U (q_Hb g) ∧
  va_Zq "java/lang/Throwable" "SUPPRESSED_SENTINEL" "Ljava/util/List;" (fun q => q_bs g ≤ q) U (q_Hb g) ∧
  va_Mi "[Ljava/lang/Object;" (q_ad g 1) U ∧ (∀ q ∈ q_strs, ∃ a, vk_R "RatchetGroup" q.1 q.2 a U) ∧ (q_Hb g).size = q_bs g ∧ (∀ w ∈ q_X, va_Nw w U) ∧
  (Cond.laysStatic "java/lang/Throwable" "UNASSIGNED_STACK" "[Ljava/lang/StackTraceElement;").before #[] ({ U with heap := q_Hb g } : State) = true ∧
  (Cond.laysStatic "java/lang/Throwable" "SUPPRESSED_SENTINEL" "Ljava/util/List;").before #[] ({ U with heap := q_Hb g } : State) = true ∧
  va_AO "java/lang/Object" U
theorem q_K.cl {g : q_G} {U : State} (h : q_K g U) : va_K g.1 q_cl (q_tys g) U := h.1
theorem q_K.st {g : q_G} {U : State} (h : q_K g U) : va_Z "java/util/ArrayList" "DEFAULTCAPACITY_EMPTY_ELEMENTDATA" "[Ljava/lang/Object;" (.ref (q_ad g 0)) (fun q => q_bs g ≤ q) U (q_Hb g) := h.2.1
theorem q_K.em {g : q_G} {U : State} (h : q_K g U) : ∃ cell : Cell, (q_Hb g)[q_ad g 0]? = some cell ∧ U.isArrayOf cell (.object "java/lang/Object") ∧ cell.vm ≠ .unknown ∧ cell.slots.size = 0 ∧ cell.cls = q_dA g 2 := h.2.2.1
theorem q_K.nc {g : q_G} {U : State} (h : q_K g U) : ∀ q ∈ q_ncs, va_Nc q.1 q.2 U := h.2.2.2.1
theorem q_K.u1 {g : q_G} {U : State} (h : q_K g U) : va_Zq "java/lang/Throwable" "UNASSIGNED_STACK" "[Ljava/lang/StackTraceElement;" (fun q => q_bs g ≤ q) U (q_Hb g) := h.2.2.2.2.1
theorem q_K.u2 {g : q_G} {U : State} (h : q_K g U) : va_Zq "java/lang/Throwable" "SUPPRESSED_SENTINEL" "Ljava/util/List;" (fun q => q_bs g ≤ q) U (q_Hb g) := h.2.2.2.2.2.1
theorem q_K.mi {g : q_G} {U : State} (h : q_K g U) : va_Mi "[Ljava/lang/Object;" (q_ad g 1) U := h.2.2.2.2.2.2.1
theorem q_K.sr {g : q_G} {U : State} (h : q_K g U) : ∀ q ∈ q_strs, ∃ a, vk_R "RatchetGroup" q.1 q.2 a U := h.2.2.2.2.2.2.2.1
theorem q_K.sz {g : q_G} {U : State} (h : q_K g U) : (q_Hb g).size = q_bs g := h.2.2.2.2.2.2.2.2.1
theorem q_K.xw {g : q_G} {U : State} (h : q_K g U) : ∀ w ∈ q_X, va_Nw w U := h.2.2.2.2.2.2.2.2.2.1
theorem q_K.l1 {g : q_G} {U : State} (h : q_K g U) : (Cond.laysStatic "java/lang/Throwable" "UNASSIGNED_STACK" "[Ljava/lang/StackTraceElement;").before #[] ({ U with heap := q_Hb g } : State) = true := h.2.2.2.2.2.2.2.2.2.2.1
theorem q_K.l2 {g : q_G} {U : State} (h : q_K g U) : (Cond.laysStatic "java/lang/Throwable" "SUPPRESSED_SENTINEL" "Ljava/util/List;").before #[] ({ U with heap := q_Hb g } : State) = true := h.2.2.2.2.2.2.2.2.2.2.2.1
theorem q_K.ao {g : q_G} {U : State} (h : q_K g U) : va_AO "java/lang/Object" U := h.2.2.2.2.2.2.2.2.2.2.2.2
/-- locals: what is known of them, none of it a long -/
def q_LR (ls : List (Option Value)) (la : Array Slot) : Prop := la.size = ls.length ∧ lv_wf la ∧ ∀ (i : Nat) (v : Value), ls[i]? = some (some v) → v.category = 1 ∧ la[i]? = some (.val v)
def q_al (ls : List (Option Value)) : List (Nat × Value) := (List.range ls.length).filterMap (fun j => match ls[j]? with
  | some (some v) => some (j, v)
  | _ => none)
theorem q_al_mem {ls : List (Option Value)} {i : Nat} {v : Value} : (i, v) ∈ q_al ls ↔ ls[i]? = some (some v) := by
  unfold q_al
  rw [List.mem_filterMap]
  constructor
  · rintro ⟨j, -, hj⟩
    cases e : ls[j]? with
    | none => rw [e] at hj; cases hj
    | some w =>
      rw [e] at hj
      cases w with
      | none => cases hj
      | some u =>
        simp only [Option.some.injEq, Prod.mk.injEq] at hj
        obtain ⟨rfl, rfl⟩ := hj
        exact e
  · intro h
    refine ⟨i, List.mem_range.mpr (List.getElem?_eq_some_iff.mp h).1, ?_⟩
    rw [h]
theorem q_LR.has {ls : List (Option Value)} {la : Array Slot} (h : q_LR ls la) : lv_has la ls.length (q_al ls) := ⟨h.1, h.2.1, fun q hq => (h.2.2 q.1 q.2 (q_al_mem.mp hq)).2⟩
theorem q_LR.at {ls : List (Option Value)} {la : Array Slot} (h : q_LR ls la) {i : Nat} {v : Value} (hi : ls[i]? = some (some v)) : la[i]? = some (.val v) := (h.2.2 i v hi).2
theorem q_LR.store {ls : List (Option Value)} {la la' : Array Slot} {i : Nat} {v : Value} (h : q_LR ls la) (hc : v.category = 1) (h' : lv_has la' ls.length ((i, v) :: (q_al ls).filter (fun q => !(q.1 == i) && !(q.1 + 1 == i && q.2.category == 2)))) : q_LR (ls.set i (some v)) la' := by
  refine ⟨by rw [h'.1, List.length_set], h'.2.1, fun j w hj => ?_⟩
  by_cases e : i = j
  · subst e
    have hw : w = v := by
      rw [List.getElem?_set] at hj
      simp only [if_true] at hj
      split at hj
      · simp only [Option.some.injEq] at hj
        exact hj.symm
      · cases hj
    subst hw
    exact ⟨hc, h'.2.2 (i, w) List.mem_cons_self⟩
  · rw [List.getElem?_set_ne e] at hj
    have hc1 := (h.2.2 j w hj).1
    refine ⟨hc1, h'.2.2 (j, w) (List.mem_cons_of_mem _ (List.mem_filter.mpr ⟨q_al_mem.mpr hj, ?_⟩))⟩
    have e1 : (j == i) = false := by simp only [beq_eq_false_iff_ne]; exact fun z => e z.symm
    have e2 : (w.category == 2) = false := by rw [hc1]; rfl
    rw [e1, e2]
    simp
/-! ===== the judgement ===== -/
abbrev q_Z : Type := Program × Launch × Env × Room × State × MethodId × Array Value × List Frame × Method × Code
abbrev zp (Z : q_Z) : Program := Z.1
abbrev zl (Z : q_Z) : Launch := Z.2.1
abbrev ze (Z : q_Z) : Env := Z.2.2.1
abbrev zR (Z : q_Z) : Room := Z.2.2.2.1
abbrev zs (Z : q_Z) : State := Z.2.2.2.2.1
abbrev zm (Z : q_Z) : MethodId := Z.2.2.2.2.2.1
abbrev za (Z : q_Z) : Array Value := Z.2.2.2.2.2.2.1
abbrev zb (Z : q_Z) : List Frame := Z.2.2.2.2.2.2.2.1
abbrev zM (Z : q_Z) : Method := Z.2.2.2.2.2.2.2.2.1
abbrev zc (Z : q_Z) : Code := Z.2.2.2.2.2.2.2.2.2
/-- an ending: a value or none that is returned, or the number of the class of what is thrown -/
abbrev q_R : Type := Option Value ⊕ Nat
def q_xn (k : Nat) : String := if k = 0 then "java/lang/IndexOutOfBoundsException" else "java/lang/IllegalStateException"
def q_Res (r : q_R) (oc : Outcome) (t : State) : Prop := match r with
  | .inl v => oc = .returned v
  | .inr k => ∃ (x : Addr) (cell : Cell), oc = .threw x ∧ t.heap[x]? = some cell ∧ t.vm.findClass (q_xn k) = some cell.cls ∧ cell.vm = .none
/-- what stands at a method's end, and what it has changed -/
def q_Qc (g : q_G) (h : q_H) (sz mc ms : Nat) (A : Nat → Prop) (post : q_R → q_H → Prop) (st : State) (oc : Outcome) (t : State) : Prop :=
  (∃ (r : q_R) (h' : q_H), q_Res r oc t ∧ post r h' ∧ q_HR g h' t.heap ∧ ∀ (a : Nat) (o : q_O), h' a = some o → A a) ∧ va_F A st t ∧ st.WarmedH t.vm ∧ ∃ L, st.sameButNew ({ t with vm := st.vm } : State) L mc ms ∧ ∀ q ∈ L, A q.base
def q_Q (g : q_G) (Z : q_Z) (A : Nat → Prop) (post : q_R → q_H → Prop) : State → Prop := fun t => ∃ oc, t.status = .running ∧ Ended t (zb Z) oc ∧ q_Qc g (fun _ => none) 0 (zR Z).cells (zR Z).slots A post (zs Z) oc t
def GW (g : q_G) (Z : q_Z) (A : Nat → Prop) (post : q_R → q_H → Prop) (rc rs : Nat) (h : q_H) (pc : Nat) (ls : List (Option Value)) (st : List Value) : Prop :=
  ∀ (H : Heap) (locs : List Loc) (la : Array Slot) (n k : Nat), q_HR g h H → (∀ (a : Nat) (o : q_O), h a = some o → A a) → va_S A (zs Z).heap H locs → q_LR ls la → n + rc ≤ (zR Z).cells → k + rs ≤ (zR Z).slots →
    W (zp Z) (zl Z) (ze Z) (zR Z) (zs Z) (zm Z) (za Z) (zb Z) (zM Z) (zc Z) H locs n k (q_Q g Z A post) (F0 (zm Z) pc la st)
/-- what a walk may lean on: the method's class own, its bytes cc, locals nL, answer's type ret, room for d frames below it -/
def q_ok (g : q_G) (Z : q_Z) (A : Nat → Prop) (own name : String) (cc : ByteArray) (nL : Nat) (ret : Option FieldType) (d : Nat) : Prop :=
  (zp Z).tables.exec = Jvm.exec ∧ (zc Z).code = cc ∧ (zc Z).maxLocals = nL ∧ (zs Z).vm.findClass own = some (zm Z).cls ∧ (∀ w ∈ q_T, w.before (za Z) (zs Z) = true) ∧ q_K g (zs Z) ∧ (∀ q : Nat, (zs Z).heap.size ≤ q → A q) ∧ (zM Z).locks = false ∧ (zM Z).sig.returnType = ret ∧ (zM Z).name = name ∧ d ≤ (zR Z).frames ∧ 64 * d ≤ (zR Z).locals ∧ (zM Z).code = some (zc Z) ∧ (∀ e, (zl Z).admits e → e.platform.stackTraces = false) ∧ q_bs g ≤ (zs Z).heap.size ∧ (∀ q : Nat, A q → q_bs g ≤ q) ∧ (∀ x ∈ (zc Z).exceptionTable.toList, ∀ q, covers x q = false) ∧ (∀ (q : Nat) (cell : Cell), A q → (zs Z).heap[q]? = some cell → cell.vm.isStatics = false)
section GWR
variable {g : q_G} {Z : q_Z} {A : Nat → Prop} {post : q_R → q_H → Prop} {rc rs : Nat} {h : q_H} {pc pc' : Nat} {ls : List (Option Value)} {st : List Value} {own name : String} {cc : ByteArray} {nL d : Nat} {ret : Option FieldType}
theorem g_top {v w : Value} (e : v = w) (kk : GW g Z A post rc rs h pc ls (w :: st)) : GW g Z A post rc rs h pc ls (v :: st) := by rw [e]; exact kk
theorem g_less {rc' rs' : Nat} (h1 : rc' ≤ rc) (h2 : rs' ≤ rs) (kk : GW g Z A post rc' rs' h pc ls st) : GW g Z A post rc rs h pc ls st := fun H locs la n k hH hD hS hL hn hk => kk H locs la n k hH hD hS hL (by omega) (by omega)
theorem g_heap {h' : q_H} (e : h = h') (kk : GW g Z A post rc rs h' pc ls st) : GW g Z A post rc rs h pc ls st := by rw [e]; exact kk
theorem g_forget {ls' : List (Option Value)} (hl : ls'.length = ls.length) (hs : ∀ (i : Nat) (v : Value), ls'[i]? = some (some v) → ls[i]? = some (some v)) (kk : GW g Z A post rc rs h pc ls' st) : GW g Z A post rc rs h pc ls st :=
  fun H locs la n k hH hD hS hL hn hk => kk H locs la n k hH hD hS ⟨by rw [hl]; exact hL.1, hL.2.1, fun i v hi => hL.2.2 i v (hs i v hi)⟩ hn hk
theorem g_iconst (ok : q_ok g Z A own name cc nL ret d) {i : Int} {v : Int32} (hd : decode cc pc = .ok (.iconst i, 1)) (hp : pc + 1 = pc') (hv : Int32.ofInt i = v) (kk : GW g Z A post rc rs h pc' ls (.int v :: st)) : GW g Z A post rc rs h pc ls (st) := by
  obtain ⟨hx, hb, -⟩ := ok
  subst hp
  exact fun H locs la n k hH hD hS hL hn hk => lv_iconst hx hb hd hv (kk H locs la n k hH hD hS hL hn hk)
theorem g_bipush (ok : q_ok g Z A own name cc nL ret d) {i : Int} {v : Int32} (hd : decode cc pc = .ok (.bipush i, 2)) (hp : pc + 2 = pc') (hv : (Int8.ofInt i).toInt32 = v) (kk : GW g Z A post rc rs h pc' ls (.int v :: st)) : GW g Z A post rc rs h pc ls (st) := by
  obtain ⟨hx, hb, -⟩ := ok
  subst hp
  exact fun H locs la n k hH hD hS hL hn hk => lv_bipush hx hb hd hv (kk H locs la n k hH hD hS hL hn hk)
theorem g_sipush (ok : q_ok g Z A own name cc nL ret d) {i : Int} {v : Int32} (hd : decode cc pc = .ok (.sipush i, 3)) (hp : pc + 3 = pc') (hv : (Int16.ofInt i).toInt32 = v) (kk : GW g Z A post rc rs h pc' ls (.int v :: st)) : GW g Z A post rc rs h pc ls (st) := by
  obtain ⟨hx, hb, -⟩ := ok
  subst hp
  exact fun H locs la n k hH hD hS hL hn hk => lv_sipush hx hb hd hv (kk H locs la n k hH hD hS hL hn hk)
theorem g_null (ok : q_ok g Z A own name cc nL ret d) (hd : decode cc pc = .ok (.aconst_null, 1)) (hp : pc + 1 = pc') (kk : GW g Z A post rc rs h pc' ls (.null :: st)) : GW g Z A post rc rs h pc ls (st) := by
  obtain ⟨hx, hb, -⟩ := ok
  subst hp
  exact fun H locs la n k hH hD hS hL hn hk => lv_null hx hb hd (kk H locs la n k hH hD hS hL hn hk)
theorem g_iload_n (ok : q_ok g Z A own name cc nL ret d) {j : Fin 4} {i : Nat} {x : Int32} (hd : decode cc pc = .ok (.iload_n j, 1)) (hp : pc + 1 = pc') (hi : (j : Nat) = i) (hl : ls[i]? = some (some (.int x))) (kk : GW g Z A post rc rs h pc' ls (.int x :: st)) : GW g Z A post rc rs h pc ls (st) := by
  obtain ⟨hx, hb, -⟩ := ok
  subst hp
  exact fun H locs la n k hH hD hS hL hn hk => lv_iload_n hx hb hd hi (hL.at hl) (kk H locs la n k hH hD hS hL hn hk)
theorem g_iload (ok : q_ok g Z A own name cc nL ret d) {i : Nat} {x : Int32} (hd : decode cc pc = .ok (.iload i, 2)) (hp : pc + 2 = pc') (hl : ls[i]? = some (some (.int x))) (kk : GW g Z A post rc rs h pc' ls (.int x :: st)) : GW g Z A post rc rs h pc ls (st) := by
  obtain ⟨hx, hb, -⟩ := ok
  subst hp
  exact fun H locs la n k hH hD hS hL hn hk => lv_iload hx hb hd (hL.at hl) (kk H locs la n k hH hD hS hL hn hk)
theorem g_aload_n (ok : q_ok g Z A own name cc nL ret d) {j : Fin 4} {i : Nat} {x : Nat} (hd : decode cc pc = .ok (.aload_n j, 1)) (hp : pc + 1 = pc') (hi : (j : Nat) = i) (hl : ls[i]? = some (some (.ref x))) (kk : GW g Z A post rc rs h pc' ls (.ref x :: st)) : GW g Z A post rc rs h pc ls (st) := by
  obtain ⟨hx, hb, -⟩ := ok
  subst hp
  exact fun H locs la n k hH hD hS hL hn hk => lv_aload_n hx hb hd hi (hL.at hl) (kk H locs la n k hH hD hS hL hn hk)
theorem g_aload (ok : q_ok g Z A own name cc nL ret d) {i : Nat} {x : Nat} (hd : decode cc pc = .ok (.aload i, 2)) (hp : pc + 2 = pc') (hl : ls[i]? = some (some (.ref x))) (kk : GW g Z A post rc rs h pc' ls (.ref x :: st)) : GW g Z A post rc rs h pc ls (st) := by
  obtain ⟨hx, hb, -⟩ := ok
  subst hp
  exact fun H locs la n k hH hD hS hL hn hk => lv_aload hx hb hd (hL.at hl) (kk H locs la n k hH hD hS hL hn hk)
theorem g_aload_nN (ok : q_ok g Z A own name cc nL ret d) {j : Fin 4} {i : Nat} (hd : decode cc pc = .ok (.aload_n j, 1)) (hp : pc + 1 = pc') (hi : (j : Nat) = i) (hl : ls[i]? = some (some .null)) (kk : GW g Z A post rc rs h pc' ls (.null :: st)) : GW g Z A post rc rs h pc ls (st) := by
  obtain ⟨hx, hb, -⟩ := ok
  subst hp
  exact fun H locs la n k hH hD hS hL hn hk => lv_aload_nN hx hb hd hi (hL.at hl) (kk H locs la n k hH hD hS hL hn hk)
theorem g_aloadN (ok : q_ok g Z A own name cc nL ret d) {i : Nat} (hd : decode cc pc = .ok (.aload i, 2)) (hp : pc + 2 = pc') (hl : ls[i]? = some (some .null)) (kk : GW g Z A post rc rs h pc' ls (.null :: st)) : GW g Z A post rc rs h pc ls (st) := by
  obtain ⟨hx, hb, -⟩ := ok
  subst hp
  exact fun H locs la n k hH hD hS hL hn hk => lv_aloadN hx hb hd (hL.at hl) (kk H locs la n k hH hD hS hL hn hk)
theorem g_iadd (ok : q_ok g Z A own name cc nL ret d) {x y : Int32} (hd : decode cc pc = .ok (.iadd, 1)) (hp : pc + 1 = pc') (kk : GW g Z A post rc rs h pc' ls (.int (x + y) :: st)) : GW g Z A post rc rs h pc ls (.int y :: .int x :: st) := by
  obtain ⟨hx, hb, -⟩ := ok
  subst hp
  exact fun H locs la n k hH hD hS hL hn hk => lv_iadd hx hb hd (kk H locs la n k hH hD hS hL hn hk)
theorem g_isub (ok : q_ok g Z A own name cc nL ret d) {x y : Int32} (hd : decode cc pc = .ok (.isub, 1)) (hp : pc + 1 = pc') (kk : GW g Z A post rc rs h pc' ls (.int (x - y) :: st)) : GW g Z A post rc rs h pc ls (.int y :: .int x :: st) := by
  obtain ⟨hx, hb, -⟩ := ok
  subst hp
  exact fun H locs la n k hH hD hS hL hn hk => lv_isub hx hb hd (kk H locs la n k hH hD hS hL hn hk)
theorem g_imul (ok : q_ok g Z A own name cc nL ret d) {x y : Int32} (hd : decode cc pc = .ok (.imul, 1)) (hp : pc + 1 = pc') (kk : GW g Z A post rc rs h pc' ls (.int (x * y) :: st)) : GW g Z A post rc rs h pc ls (.int y :: .int x :: st) := by
  obtain ⟨hx, hb, -⟩ := ok
  subst hp
  exact fun H locs la n k hH hD hS hL hn hk => lv_imul hx hb hd (kk H locs la n k hH hD hS hL hn hk)
theorem g_iand (ok : q_ok g Z A own name cc nL ret d) {x y : Int32} (hd : decode cc pc = .ok (.iand, 1)) (hp : pc + 1 = pc') (kk : GW g Z A post rc rs h pc' ls (.int (x &&& y) :: st)) : GW g Z A post rc rs h pc ls (.int y :: .int x :: st) := by
  obtain ⟨hx, hb, -⟩ := ok
  subst hp
  exact fun H locs la n k hH hD hS hL hn hk => lv_iand hx hb hd (kk H locs la n k hH hD hS hL hn hk)
theorem g_ior (ok : q_ok g Z A own name cc nL ret d) {x y : Int32} (hd : decode cc pc = .ok (.ior, 1)) (hp : pc + 1 = pc') (kk : GW g Z A post rc rs h pc' ls (.int (x ||| y) :: st)) : GW g Z A post rc rs h pc ls (.int y :: .int x :: st) := by
  obtain ⟨hx, hb, -⟩ := ok
  subst hp
  exact fun H locs la n k hH hD hS hL hn hk => lv_ior hx hb hd (kk H locs la n k hH hD hS hL hn hk)
theorem g_ixor (ok : q_ok g Z A own name cc nL ret d) {x y : Int32} (hd : decode cc pc = .ok (.ixor, 1)) (hp : pc + 1 = pc') (kk : GW g Z A post rc rs h pc' ls (.int (x ^^^ y) :: st)) : GW g Z A post rc rs h pc ls (.int y :: .int x :: st) := by
  obtain ⟨hx, hb, -⟩ := ok
  subst hp
  exact fun H locs la n k hH hD hS hL hn hk => lv_ixor hx hb hd (kk H locs la n k hH hD hS hL hn hk)
theorem g_ishl (ok : q_ok g Z A own name cc nL ret d) {x y : Int32} (hd : decode cc pc = .ok (.ishl, 1)) (hp : pc + 1 = pc') (kk : GW g Z A post rc rs h pc' ls (.int (x <<< (y &&& 31)) :: st)) : GW g Z A post rc rs h pc ls (.int y :: .int x :: st) := by
  obtain ⟨hx, hb, -⟩ := ok
  subst hp
  exact fun H locs la n k hH hD hS hL hn hk => lv_ishl hx hb hd (kk H locs la n k hH hD hS hL hn hk)
theorem g_ishr (ok : q_ok g Z A own name cc nL ret d) {x y : Int32} (hd : decode cc pc = .ok (.ishr, 1)) (hp : pc + 1 = pc') (kk : GW g Z A post rc rs h pc' ls (.int (x >>> (y &&& 31)) :: st)) : GW g Z A post rc rs h pc ls (.int y :: .int x :: st) := by
  obtain ⟨hx, hb, -⟩ := ok
  subst hp
  exact fun H locs la n k hH hD hS hL hn hk => lv_ishr hx hb hd (kk H locs la n k hH hD hS hL hn hk)
theorem g_idiv (ok : q_ok g Z A own name cc nL ret d) {x y : Int32} (hd : decode cc pc = .ok (.idiv, 1)) (hp : pc + 1 = pc') (hne : ¬ y = 0) (kk : GW g Z A post rc rs h pc' ls (.int (x / y) :: st)) : GW g Z A post rc rs h pc ls (.int y :: .int x :: st) := by
  obtain ⟨hx, hb, -⟩ := ok
  subst hp
  exact fun H locs la n k hH hD hS hL hn hk => lv_idiv hx hb hd hne (kk H locs la n k hH hD hS hL hn hk)
theorem g_irem (ok : q_ok g Z A own name cc nL ret d) {x y : Int32} (hd : decode cc pc = .ok (.irem, 1)) (hp : pc + 1 = pc') (hne : ¬ y = 0) (kk : GW g Z A post rc rs h pc' ls (.int (x - x / y * y) :: st)) : GW g Z A post rc rs h pc ls (.int y :: .int x :: st) := by
  obtain ⟨hx, hb, -⟩ := ok
  subst hp
  exact fun H locs la n k hH hD hS hL hn hk => lv_irem hx hb hd hne (kk H locs la n k hH hD hS hL hn hk)
theorem g_ineg (ok : q_ok g Z A own name cc nL ret d) {x : Int32} (hd : decode cc pc = .ok (.ineg, 1)) (hp : pc + 1 = pc') (kk : GW g Z A post rc rs h pc' ls (.int (-x) :: st)) : GW g Z A post rc rs h pc ls (.int x :: st) := by
  obtain ⟨hx, hb, -⟩ := ok
  subst hp
  exact fun H locs la n k hH hD hS hL hn hk => lv_ineg hx hb hd (kk H locs la n k hH hD hS hL hn hk)
theorem g_iushr (ok : q_ok g Z A own name cc nL ret d) {x y v : Int32} (hd : decode cc pc = .ok (.iushr, 1)) (hp : pc + 1 = pc') (hv : (x.toUInt32 >>> (y.toUInt32 &&& Int32.toUInt32 31)).toInt32 = v) (kk : GW g Z A post rc rs h pc' ls (.int v :: st)) : GW g Z A post rc rs h pc ls (.int y :: .int x :: st) := by
  obtain ⟨hx, hb, -⟩ := ok
  subst hp
  exact fun H locs la n k hH hD hS hL hn hk => lv_iushr hx hb hd hv (kk H locs la n k hH hD hS hL hn hk)
theorem g_i2l (ok : q_ok g Z A own name cc nL ret d) {x : Int32} {v : Int64} (hd : decode cc pc = .ok (.i2l, 1)) (hp : pc + 1 = pc') (hv : x.toInt64 = v) (kk : GW g Z A post rc rs h pc' ls (.long v :: st)) : GW g Z A post rc rs h pc ls (.int x :: st) := by
  obtain ⟨hx, hb, -⟩ := ok
  subst hp
  exact fun H locs la n k hH hD hS hL hn hk => lv_i2l hx hb hd hv (kk H locs la n k hH hD hS hL hn hk)
theorem g_dup (ok : q_ok g Z A own name cc nL ret d) {va : Value} (hd : decode cc pc = .ok (.dup, 1)) (hp : pc + 1 = pc') (hva : va.category = 1) (kk : GW g Z A post rc rs h pc' ls (va :: va :: st)) : GW g Z A post rc rs h pc ls (va :: st) := by
  obtain ⟨hx, hb, -⟩ := ok
  subst hp
  exact fun H locs la n k hH hD hS hL hn hk => lv_dup hx hb hd hva (kk H locs la n k hH hD hS hL hn hk)
theorem g_pop (ok : q_ok g Z A own name cc nL ret d) {va : Value} (hd : decode cc pc = .ok (.pop, 1)) (hp : pc + 1 = pc') (hva : va.category = 1) (kk : GW g Z A post rc rs h pc' ls (st)) : GW g Z A post rc rs h pc ls (va :: st) := by
  obtain ⟨hx, hb, -⟩ := ok
  subst hp
  exact fun H locs la n k hH hD hS hL hn hk => lv_pop hx hb hd hva (kk H locs la n k hH hD hS hL hn hk)
theorem g_dup_x1 (ok : q_ok g Z A own name cc nL ret d) {va vb : Value} (hd : decode cc pc = .ok (.dup_x1, 1)) (hp : pc + 1 = pc') (hva : va.category = 1) (hvb : vb.category = 1) (kk : GW g Z A post rc rs h pc' ls (va :: vb :: va :: st)) : GW g Z A post rc rs h pc ls (va :: vb :: st) := by
  obtain ⟨hx, hb, -⟩ := ok
  subst hp
  exact fun H locs la n k hH hD hS hL hn hk => lv_dup_x1 hx hb hd hva hvb (kk H locs la n k hH hD hS hL hn hk)
theorem g_dup2 (ok : q_ok g Z A own name cc nL ret d) {va vb : Value} (hd : decode cc pc = .ok (.dup2, 1)) (hp : pc + 1 = pc') (hva : va.category = 1) (hvb : vb.category = 1) (kk : GW g Z A post rc rs h pc' ls (va :: vb :: va :: vb :: st)) : GW g Z A post rc rs h pc ls (va :: vb :: st) := by
  obtain ⟨hx, hb, -⟩ := ok
  subst hp
  exact fun H locs la n k hH hD hS hL hn hk => lv_dup2_11 hx hb hd hva hvb (kk H locs la n k hH hD hS hL hn hk)
theorem g_istore_n (ok : q_ok g Z A own name cc nL ret d) {j : Fin 4} {i : Nat} {x : Int32} (hd : decode cc pc = .ok (.istore_n j, 1)) (hp : pc + 1 = pc') (hi : (j : Nat) = i) (hi2 : i < ls.length) {ls' : List (Option Value)} (hls : ls.set i (some (.int x)) = ls') (kk : GW g Z A post rc rs h pc' ls' st) : GW g Z A post rc rs h pc ls (.int x :: st) := by
  obtain ⟨hx, hb, -⟩ := ok
  subst hp
  subst hls
  exact fun H locs la n k hH hD hS hL hn hk => lv_istore_n hx hb hd hi hL.has hi2 rfl (fun la' hl' => kk H locs la' n k hH hD hS (hL.store rfl hl') hn hk)
theorem g_istore (ok : q_ok g Z A own name cc nL ret d) {i : Nat} {x : Int32} (hd : decode cc pc = .ok (.istore i, 2)) (hp : pc + 2 = pc') (hi2 : i < ls.length) {ls' : List (Option Value)} (hls : ls.set i (some (.int x)) = ls') (kk : GW g Z A post rc rs h pc' ls' st) : GW g Z A post rc rs h pc ls (.int x :: st) := by
  obtain ⟨hx, hb, -⟩ := ok
  subst hp
  subst hls
  exact fun H locs la n k hH hD hS hL hn hk => lv_istore hx hb hd hL.has hi2 rfl (fun la' hl' => kk H locs la' n k hH hD hS (hL.store rfl hl') hn hk)
theorem g_astore_n (ok : q_ok g Z A own name cc nL ret d) {j : Fin 4} {i : Nat} {x : Nat} (hd : decode cc pc = .ok (.astore_n j, 1)) (hp : pc + 1 = pc') (hi : (j : Nat) = i) (hi2 : i < ls.length) {ls' : List (Option Value)} (hls : ls.set i (some (.ref x)) = ls') (kk : GW g Z A post rc rs h pc' ls' st) : GW g Z A post rc rs h pc ls (.ref x :: st) := by
  obtain ⟨hx, hb, -⟩ := ok
  subst hp
  subst hls
  exact fun H locs la n k hH hD hS hL hn hk => lv_astore_n hx hb hd hi hL.has hi2 rfl (fun la' hl' => kk H locs la' n k hH hD hS (hL.store rfl hl') hn hk)
theorem g_astore (ok : q_ok g Z A own name cc nL ret d) {i : Nat} {x : Nat} (hd : decode cc pc = .ok (.astore i, 2)) (hp : pc + 2 = pc') (hi2 : i < ls.length) {ls' : List (Option Value)} (hls : ls.set i (some (.ref x)) = ls') (kk : GW g Z A post rc rs h pc' ls' st) : GW g Z A post rc rs h pc ls (.ref x :: st) := by
  obtain ⟨hx, hb, -⟩ := ok
  subst hp
  subst hls
  exact fun H locs la n k hH hD hS hL hn hk => lv_astore hx hb hd hL.has hi2 rfl (fun la' hl' => kk H locs la' n k hH hD hS (hL.store rfl hl') hn hk)
theorem g_astore_nN (ok : q_ok g Z A own name cc nL ret d) {j : Fin 4} {i : Nat} (hd : decode cc pc = .ok (.astore_n j, 1)) (hp : pc + 1 = pc') (hi : (j : Nat) = i) (hi2 : i < ls.length) {ls' : List (Option Value)} (hls : ls.set i (some (.null)) = ls') (kk : GW g Z A post rc rs h pc' ls' st) : GW g Z A post rc rs h pc ls (.null :: st) := by
  obtain ⟨hx, hb, -⟩ := ok
  subst hp
  subst hls
  exact fun H locs la n k hH hD hS hL hn hk => lv_astore_nN hx hb hd hi hL.has hi2 rfl (fun la' hl' => kk H locs la' n k hH hD hS (hL.store rfl hl') hn hk)
theorem g_astoreN (ok : q_ok g Z A own name cc nL ret d) {i : Nat} (hd : decode cc pc = .ok (.astore i, 2)) (hp : pc + 2 = pc') (hi2 : i < ls.length) {ls' : List (Option Value)} (hls : ls.set i (some (.null)) = ls') (kk : GW g Z A post rc rs h pc' ls' st) : GW g Z A post rc rs h pc ls (.null :: st) := by
  obtain ⟨hx, hb, -⟩ := ok
  subst hp
  subst hls
  exact fun H locs la n k hH hD hS hL hn hk => lv_astoreN hx hb hd hL.has hi2 rfl (fun la' hl' => kk H locs la' n k hH hD hS (hL.store rfl hl') hn hk)
theorem q_al_at {ls : List (Option Value)} {i : Nat} {v : Value} (h : ls[i]? = some (some v)) : ∃ k : Nat, (q_al ls)[k]? = some (i, v) := List.getElem?_of_mem (q_al_mem.mpr h)
theorem g_iinc (ok : q_ok g Z A own name cc nL ret d) {i : Nat} {c : Int} {x v : Int32} (hd : decode cc pc = .ok (.iinc i c, 3)) (hp : pc + 3 = pc') (hl : ls[i]? = some (some (.int x))) (hv : x + Int32.ofInt c = v) {ls' : List (Option Value)} (hls : ls.set i (some (.int v)) = ls') (kk : GW g Z A post rc rs h pc' ls' st) : GW g Z A post rc rs h pc ls st := by
  obtain ⟨hx, hb, -⟩ := ok
  subst hp
  subst hls
  obtain ⟨k0, hk0⟩ := q_al_at hl
  exact fun H locs la n k hH hD hS hL hn hk => lv_iinc hx hb hd hL.has hk0 hv (List.getElem?_eq_some_iff.mp hl).1 rfl (fun la' hl' => kk H locs la' n k hH hD hS (hL.store rfl hl') hn hk)
theorem g_goto (ok : q_ok g Z A own name cc nL ret d) {off : Int} (hd : decode cc pc = .ok (.goto off, 3)) (hp : (pc : Int) + off = (pc' : Int)) (kk : GW g Z A post rc rs h pc' ls st) : GW g Z A post rc rs h pc ls st := by
  obtain ⟨hx, hb, -⟩ := ok
  exact fun H locs la n k hH hD hS hL hn hk => lv_goto hx hb hd hp (kk H locs la n k hH hD hS hL hn hk)
theorem g_if_eq (ok : q_ok g Z A own name cc nL ret d) {x : Int32} {off : Int} {tgt : Nat} (hd : decode cc pc = .ok (.ifCond .eq off, 3)) (ht : (pc : Int) + off = (tgt : Int)) (hp : pc + 3 = pc') (kt : x = 0 → GW g Z A post rc rs h tgt ls st) (kf : ¬ x = 0 → GW g Z A post rc rs h pc' ls st) : GW g Z A post rc rs h pc ls (.int x :: st) := by
  obtain ⟨hx, hb, -⟩ := ok
  subst hp
  exact fun H locs la n k hH hD hS hL hn hk => lv_if_eq hx hb hd ht (fun z => kt z H locs la n k hH hD hS hL hn hk) (fun z => kf z H locs la n k hH hD hS hL hn hk)
theorem g_icmp_eq (ok : q_ok g Z A own name cc nL ret d) {x y : Int32} {off : Int} {tgt : Nat} (hd : decode cc pc = .ok (.if_icmp .eq off, 3)) (ht : (pc : Int) + off = (tgt : Int)) (hp : pc + 3 = pc') (kt : x = y → GW g Z A post rc rs h tgt ls st) (kf : ¬ x = y → GW g Z A post rc rs h pc' ls st) : GW g Z A post rc rs h pc ls (.int y :: .int x :: st) := by
  obtain ⟨hx, hb, -⟩ := ok
  subst hp
  exact fun H locs la n k hH hD hS hL hn hk => lv_icmp_eq hx hb hd ht (fun z => kt z H locs la n k hH hD hS hL hn hk) (fun z => kf z H locs la n k hH hD hS hL hn hk)
theorem g_if_ne (ok : q_ok g Z A own name cc nL ret d) {x : Int32} {off : Int} {tgt : Nat} (hd : decode cc pc = .ok (.ifCond .ne off, 3)) (ht : (pc : Int) + off = (tgt : Int)) (hp : pc + 3 = pc') (kt : ¬ x = 0 → GW g Z A post rc rs h tgt ls st) (kf : x = 0 → GW g Z A post rc rs h pc' ls st) : GW g Z A post rc rs h pc ls (.int x :: st) := by
  obtain ⟨hx, hb, -⟩ := ok
  subst hp
  exact fun H locs la n k hH hD hS hL hn hk => lv_if_ne hx hb hd ht (fun z => kt z H locs la n k hH hD hS hL hn hk) (fun z => kf z H locs la n k hH hD hS hL hn hk)
theorem g_icmp_ne (ok : q_ok g Z A own name cc nL ret d) {x y : Int32} {off : Int} {tgt : Nat} (hd : decode cc pc = .ok (.if_icmp .ne off, 3)) (ht : (pc : Int) + off = (tgt : Int)) (hp : pc + 3 = pc') (kt : ¬ x = y → GW g Z A post rc rs h tgt ls st) (kf : x = y → GW g Z A post rc rs h pc' ls st) : GW g Z A post rc rs h pc ls (.int y :: .int x :: st) := by
  obtain ⟨hx, hb, -⟩ := ok
  subst hp
  exact fun H locs la n k hH hD hS hL hn hk => lv_icmp_ne hx hb hd ht (fun z => kt z H locs la n k hH hD hS hL hn hk) (fun z => kf z H locs la n k hH hD hS hL hn hk)
theorem g_if_lt (ok : q_ok g Z A own name cc nL ret d) {x : Int32} {off : Int} {tgt : Nat} (hd : decode cc pc = .ok (.ifCond .lt off, 3)) (ht : (pc : Int) + off = (tgt : Int)) (hp : pc + 3 = pc') (kt : x < 0 → GW g Z A post rc rs h tgt ls st) (kf : ¬ x < 0 → GW g Z A post rc rs h pc' ls st) : GW g Z A post rc rs h pc ls (.int x :: st) := by
  obtain ⟨hx, hb, -⟩ := ok
  subst hp
  exact fun H locs la n k hH hD hS hL hn hk => lv_if_lt hx hb hd ht (fun z => kt z H locs la n k hH hD hS hL hn hk) (fun z => kf z H locs la n k hH hD hS hL hn hk)
theorem g_icmp_lt (ok : q_ok g Z A own name cc nL ret d) {x y : Int32} {off : Int} {tgt : Nat} (hd : decode cc pc = .ok (.if_icmp .lt off, 3)) (ht : (pc : Int) + off = (tgt : Int)) (hp : pc + 3 = pc') (kt : x < y → GW g Z A post rc rs h tgt ls st) (kf : ¬ x < y → GW g Z A post rc rs h pc' ls st) : GW g Z A post rc rs h pc ls (.int y :: .int x :: st) := by
  obtain ⟨hx, hb, -⟩ := ok
  subst hp
  exact fun H locs la n k hH hD hS hL hn hk => lv_icmp_lt hx hb hd ht (fun z => kt z H locs la n k hH hD hS hL hn hk) (fun z => kf z H locs la n k hH hD hS hL hn hk)
theorem g_if_ge (ok : q_ok g Z A own name cc nL ret d) {x : Int32} {off : Int} {tgt : Nat} (hd : decode cc pc = .ok (.ifCond .ge off, 3)) (ht : (pc : Int) + off = (tgt : Int)) (hp : pc + 3 = pc') (kt : 0 ≤ x → GW g Z A post rc rs h tgt ls st) (kf : ¬ 0 ≤ x → GW g Z A post rc rs h pc' ls st) : GW g Z A post rc rs h pc ls (.int x :: st) := by
  obtain ⟨hx, hb, -⟩ := ok
  subst hp
  exact fun H locs la n k hH hD hS hL hn hk => lv_if_ge hx hb hd ht (fun z => kt z H locs la n k hH hD hS hL hn hk) (fun z => kf z H locs la n k hH hD hS hL hn hk)
theorem g_icmp_ge (ok : q_ok g Z A own name cc nL ret d) {x y : Int32} {off : Int} {tgt : Nat} (hd : decode cc pc = .ok (.if_icmp .ge off, 3)) (ht : (pc : Int) + off = (tgt : Int)) (hp : pc + 3 = pc') (kt : y ≤ x → GW g Z A post rc rs h tgt ls st) (kf : ¬ y ≤ x → GW g Z A post rc rs h pc' ls st) : GW g Z A post rc rs h pc ls (.int y :: .int x :: st) := by
  obtain ⟨hx, hb, -⟩ := ok
  subst hp
  exact fun H locs la n k hH hD hS hL hn hk => lv_icmp_ge hx hb hd ht (fun z => kt z H locs la n k hH hD hS hL hn hk) (fun z => kf z H locs la n k hH hD hS hL hn hk)
theorem g_if_gt (ok : q_ok g Z A own name cc nL ret d) {x : Int32} {off : Int} {tgt : Nat} (hd : decode cc pc = .ok (.ifCond .gt off, 3)) (ht : (pc : Int) + off = (tgt : Int)) (hp : pc + 3 = pc') (kt : 0 < x → GW g Z A post rc rs h tgt ls st) (kf : ¬ 0 < x → GW g Z A post rc rs h pc' ls st) : GW g Z A post rc rs h pc ls (.int x :: st) := by
  obtain ⟨hx, hb, -⟩ := ok
  subst hp
  exact fun H locs la n k hH hD hS hL hn hk => lv_if_gt hx hb hd ht (fun z => kt z H locs la n k hH hD hS hL hn hk) (fun z => kf z H locs la n k hH hD hS hL hn hk)
theorem g_icmp_gt (ok : q_ok g Z A own name cc nL ret d) {x y : Int32} {off : Int} {tgt : Nat} (hd : decode cc pc = .ok (.if_icmp .gt off, 3)) (ht : (pc : Int) + off = (tgt : Int)) (hp : pc + 3 = pc') (kt : y < x → GW g Z A post rc rs h tgt ls st) (kf : ¬ y < x → GW g Z A post rc rs h pc' ls st) : GW g Z A post rc rs h pc ls (.int y :: .int x :: st) := by
  obtain ⟨hx, hb, -⟩ := ok
  subst hp
  exact fun H locs la n k hH hD hS hL hn hk => lv_icmp_gt hx hb hd ht (fun z => kt z H locs la n k hH hD hS hL hn hk) (fun z => kf z H locs la n k hH hD hS hL hn hk)
theorem g_if_le (ok : q_ok g Z A own name cc nL ret d) {x : Int32} {off : Int} {tgt : Nat} (hd : decode cc pc = .ok (.ifCond .le off, 3)) (ht : (pc : Int) + off = (tgt : Int)) (hp : pc + 3 = pc') (kt : x ≤ 0 → GW g Z A post rc rs h tgt ls st) (kf : ¬ x ≤ 0 → GW g Z A post rc rs h pc' ls st) : GW g Z A post rc rs h pc ls (.int x :: st) := by
  obtain ⟨hx, hb, -⟩ := ok
  subst hp
  exact fun H locs la n k hH hD hS hL hn hk => lv_if_le hx hb hd ht (fun z => kt z H locs la n k hH hD hS hL hn hk) (fun z => kf z H locs la n k hH hD hS hL hn hk)
theorem g_icmp_le (ok : q_ok g Z A own name cc nL ret d) {x y : Int32} {off : Int} {tgt : Nat} (hd : decode cc pc = .ok (.if_icmp .le off, 3)) (ht : (pc : Int) + off = (tgt : Int)) (hp : pc + 3 = pc') (kt : x ≤ y → GW g Z A post rc rs h tgt ls st) (kf : ¬ x ≤ y → GW g Z A post rc rs h pc' ls st) : GW g Z A post rc rs h pc ls (.int y :: .int x :: st) := by
  obtain ⟨hx, hb, -⟩ := ok
  subst hp
  exact fun H locs la n k hH hD hS hL hn hk => lv_icmp_le hx hb hd ht (fun z => kt z H locs la n k hH hD hS hL hn hk) (fun z => kf z H locs la n k hH hD hS hL hn hk)
theorem g_acmp_eq (ok : q_ok g Z A own name cc nL ret d) {rx ry : Option Nat} {off : Int} {tgt : Nat} (hd : decode cc pc = .ok (.if_acmp .eq off, 3)) (ht : (pc : Int) + off = (tgt : Int)) (hp : pc + 3 = pc') (kt : rx = ry → GW g Z A post rc rs h tgt ls st) (kf : ¬ rx = ry → GW g Z A post rc rs h pc' ls st) : GW g Z A post rc rs h pc ls (va_rf ry :: va_rf rx :: st) := by
  obtain ⟨hx, hb, -⟩ := ok
  subst hp
  exact fun H locs la n k hH hD hS hL hn hk => lv_acmp_eq hx hb hd ht (fun z => kt z H locs la n k hH hD hS hL hn hk) (fun z => kf z H locs la n k hH hD hS hL hn hk)
theorem g_acmp_ne (ok : q_ok g Z A own name cc nL ret d) {rx ry : Option Nat} {off : Int} {tgt : Nat} (hd : decode cc pc = .ok (.if_acmp .ne off, 3)) (ht : (pc : Int) + off = (tgt : Int)) (hp : pc + 3 = pc') (kt : ¬ rx = ry → GW g Z A post rc rs h tgt ls st) (kf : rx = ry → GW g Z A post rc rs h pc' ls st) : GW g Z A post rc rs h pc ls (va_rf ry :: va_rf rx :: st) := by
  obtain ⟨hx, hb, -⟩ := ok
  subst hp
  exact fun H locs la n k hH hD hS hL hn hk => lv_acmp_ne hx hb hd ht (fun z => kt z H locs la n k hH hD hS hL hn hk) (fun z => kf z H locs la n k hH hD hS hL hn hk)
theorem g_ifnull (ok : q_ok g Z A own name cc nL ret d) {x : Nat} {off : Int} (hd : decode cc pc = .ok (.ifnull off, 3)) (hp : pc + 3 = pc') (kk : GW g Z A post rc rs h pc' ls st) : GW g Z A post rc rs h pc ls (.ref x :: st) := by
  obtain ⟨hx, hb, -⟩ := ok
  subst hp
  exact fun H locs la n k hH hD hS hL hn hk => lv_ifnull hx hb hd (kk H locs la n k hH hD hS hL hn hk)
theorem g_ifnullN (ok : q_ok g Z A own name cc nL ret d) {off : Int} {tgt : Nat} (hd : decode cc pc = .ok (.ifnull off, 3)) (ht : (pc : Int) + off = (tgt : Int)) (kk : GW g Z A post rc rs h tgt ls st) : GW g Z A post rc rs h pc ls (.null :: st) := by
  obtain ⟨hx, hb, -⟩ := ok
  exact fun H locs la n k hH hD hS hL hn hk => lv_ifnullN hx hb hd ht (kk H locs la n k hH hD hS hL hn hk)
theorem g_tableOut (ok : q_ok g Z A own name cc nL ret d) {dflt lo hi : Int} {offs : Array Int} {len : Nat} {x : Int32} {tgt : Nat} (hd : decode cc pc = .ok (.tableswitch dflt lo hi offs, len)) (ho : x.toInt < lo ∨ hi < x.toInt) (ht : (pc : Int) + dflt = (tgt : Int)) (kk : GW g Z A post rc rs h tgt ls st) : GW g Z A post rc rs h pc ls (.int x :: st) := by
  obtain ⟨hx, hb, -⟩ := ok
  exact fun H locs la n k hH hD hS hL hn hk => lv_tableOut hx hb hd ho ht (kk H locs la n k hH hD hS hL hn hk)
theorem g_tableIn (ok : q_ok g Z A own name cc nL ret d) {dflt lo hi : Int} {offs : Array Int} {len : Nat} {x : Int32} {off : Int} {tgt : Nat} (hd : decode cc pc = .ok (.tableswitch dflt lo hi offs, len)) (h1 : ¬ x.toInt < lo) (h2 : ¬ hi < x.toInt) (ho : offs[(x.toInt - lo).toNat]? = some off) (ht : (pc : Int) + off = (tgt : Int)) (kk : GW g Z A post rc rs h tgt ls st) : GW g Z A post rc rs h pc ls (.int x :: st) := by
  obtain ⟨hx, hb, -⟩ := ok
  exact fun H locs la n k hH hD hS hL hn hk => lv_tableIn hx hb hd h1 h2 ho ht (kk H locs la n k hH hD hS hL hn hk)
theorem g_ldc (ok : q_ok g Z A own name cc nL ret d) {index : Nat} {v : Int32} (hd : decode cc pc = .ok (.ldc index, 2)) (hp : pc + 2 = pc') (hw : Cond.constant own index v ∈ q_T) (kk : GW g Z A post rc rs h pc' ls (.int v :: st)) : GW g Z A post rc rs h pc ls st := by
  obtain ⟨hx, hb, hml, hown, hts, -⟩ := ok
  subst hp
  exact fun H locs la n k hH hD hS hL hn hk => lv_ldc hx hb hown (hts _ hw) hd (kk H locs la n k hH hD hS hL hn hk)
/-! ===== ends ===== -/
theorem wq_mono {p : Program} {l : Launch} {e : Env} {R : Room} {s : State} {m : MethodId} {args : Array Value} {below : List Frame} {meth : Method} {c : Code} {H : Heap} {locs : List Loc} {n k : Nat} {Q Q' : State → Prop} {f : JFrame} (hq : ∀ t, Q t → Q' t) (w : W p l e R s m args below meth c H locs n k Q f) : W p l e R s m args below meth c H locs n k Q' f := fun T hT X => by
  obtain ⟨t, a, b⟩ := w T hT X
  exact ⟨t, a, hq t b⟩
theorem q_fin {H : Heap} {locs : List Loc} {n k : Nat} {v : Option Value} (hq : post (.inl v) h) (hH : q_HR g h H) (hD : ∀ (a : Nat) (o : q_O), h a = some o → A a) (hS : va_S A (zs Z).heap H locs) (hn : n + rc ≤ (zR Z).cells) (hk : k + rs ≤ (zR Z).slots) (t : State) (hm : MQ (zb Z) (fun _ _ o t => o = .returned v ∧ t.heap = H) (za Z) (zs Z) n k A t) : q_Q g Z A post t := by
  obtain ⟨o, h1, h2, ⟨rfl, e2⟩, L, ⟨-, hW, hfr⟩, hL⟩ := hm
  refine ⟨_, h1, h2, ⟨.inl v, h, rfl, hq, by rw [e2]; exact hH, hD⟩, hS.F e2, hW, L, hfr.mono (by omega) (by omega), hL⟩
theorem g_iret (ok : q_ok g Z A own name cc nL ret d) {v : Int32} {ty : FieldType} (hd : decode cc pc = .ok (.ireturn, 1)) (hr : ret = some ty) (hv : narrow ty (.int v) = .int v) (hq : post (.inl (some (.int v))) h) : GW g Z A post rc rs h pc ls [.int v] := by
  obtain ⟨hx, hb, -, -, -, -, -, hlk, hrt, -⟩ := ok
  intro H locs la n k hH hD hS hL hn hk
  exact wq_mono (q_fin hq hH hD hS hn hk) (W.zret hx hb (hrt.trans hr) hv (fun t ht _ => ⟨rfl, ht⟩) hS.2.2 hd hlk)
theorem g_vret (ok : q_ok g Z A own name cc nL ret d) (hd : decode cc pc = .ok (.return_, 1)) (hr : ret = none) (hq : post (.inl none) h) : GW g Z A post rc rs h pc ls [] := by
  obtain ⟨hx, hb, -, -, -, -, -, hlk, hrt, -⟩ := ok
  intro H locs la n k hH hD hS hL hn hk
  exact wq_mono (q_fin hq hH hD hS hn hk) (W.vret hx hb (hrt.trans hr) (fun t ht _ => ⟨rfl, ht⟩) hS.2.2 hd hlk)
theorem g_aret (ok : q_ok g Z A own name cc nL ret d) {v : Value} {ty : FieldType} (hd : decode cc pc = .ok (.areturn, 1)) (hr : ret = some ty) (hty : (∃ n, ty = .object n) ∨ ∃ t, ty = .array t) (hv : v = .null ∨ ∃ a, v = .ref a) (hq : post (.inl (some v)) h) : GW g Z A post rc rs h pc ls [v] := by
  obtain ⟨hx, hb, -, -, -, -, -, hlk, hrt, -⟩ := ok
  intro H locs la n k hH hD hS hL hn hk
  exact wq_mono (q_fin hq hH hD hS hn hk) (W.aret hx hb (hrt.trans hr) hty hv (fun t ht _ => ⟨rfl, ht⟩) hS.2.2 hd hlk)
end GWR
end
section
/-! ===== rows that read and write the view ===== -/
theorem q_HR.set {g : q_G} {h : q_H} {H H' : Heap} {a : Nat} {o o' : q_O} (hH : q_HR g h H) (ha : h a = some o) (hz : H'.size = H.size) (ho : ∀ q : Nat, q ≠ a → H'[q]? = H[q]?) (h1 : va_at g.1 q_cl (a, q_E g o') H') : q_HR g (q_up h a o') H' := by
  obtain ⟨h1b, h2b, h3b⟩ := hH
  have hba := (h3b a o ha).1
  refine ⟨by rw [hz]; exact h1b, fun q hq => ?_, fun b x hb => ?_⟩
  · rw [ho q (fun e => by omega)]
    exact h2b q hq
  · by_cases e : b = a
    · subst e
      rw [q_up_s] at hb
      cases hb
      exact ⟨hba, h1⟩
    · rw [q_up_n e] at hb
      obtain ⟨u1, u2⟩ := h3b b x hb
      exact ⟨u1, u2.kept (ho b e)⟩
theorem q_HR.push {g : q_G} {h : q_H} {H H' : Heap} {o : q_O} (hH : q_HR g h H) (ho : ∀ q : Nat, q < H.size → H'[q]? = H[q]?) (hz : H'.size = H.size + 1) (h1 : va_at g.1 q_cl (H.size, q_E g o) H') : q_HR g (q_up h H.size o) H' := by
  obtain ⟨h1b, h2b, h3b⟩ := hH
  refine ⟨by omega, fun q hq => ?_, fun b x hb => ?_⟩
  · rw [ho q (by omega)]
    exact h2b q hq
  · by_cases e : b = H.size
    · subst e
      rw [q_up_s] at hb
      cases hb
      exact ⟨h1b, h1⟩
    · rw [q_up_n e] at hb
      obtain ⟨u1, u2⟩ := h3b b x hb
      exact ⟨u1, u2.kept (ho b u2.lt)⟩
theorem q_HR.fresh {g : q_G} {h : q_H} {H : Heap} (hH : q_HR g h H) : h H.size = none := by
  cases e : h H.size with
  | none => rfl
  | some o => exact absurd (hH.2.2 _ _ e).2.lt (Nat.lt_irrefl _)
theorem q_HR.one {g : q_G} {h : q_H} {H : Heap} {a : Nat} {o : q_O} (hH : q_HR g h H) (ha : h a = some o) : va_P g.1 q_cl [(a, q_E g o)] H := by
  intro k q hq
  have hz : k < 1 := (List.getElem?_eq_some_iff.mp hq).1
  rw [show k = 0 by omega] at hq
  cases hq
  exact (hH.2.2 a o ha).2
theorem q_S.put {A : Nat → Prop} {H0 H H1 : Heap} {locs : List Loc} {a k : Nat} (h : va_S A H0 H locs) (z : H1.size = H.size) (oq : ∀ q : Nat, q ≠ a → H1[q]? = H[q]?) (ha : A a) : va_S A H0 H1 (locs ++ [⟨a, k⟩]) := va_S.put h z oq ha
theorem q_S.push {A : Nat → Prop} {H0 H H1 : Heap} {locs : List Loc} (hS : va_S A H0 H locs) (o1 : ∀ q : Nat, q < H.size → H1[q]? = H[q]?) (z : H1.size = H.size + 1) : va_S A H0 H1 locs := ⟨Nat.le_trans hS.1 (by omega), fun x h1 h2 => (o1 x (Nat.lt_of_lt_of_le h1 hS.1)).trans (hS.2.1 x h1 h2), hS.2.2⟩
theorem q_dom_up {A : Nat → Prop} {h : q_H} {a : Nat} {o : q_O} (hD : ∀ (b : Nat) (x : q_O), h b = some x → A b) (ha : A a) : ∀ (b : Nat) (x : q_O), q_up h a o b = some x → A b := by
  intro b x hb
  by_cases e : b = a
  · rw [e]; exact ha
  · rw [q_up_n e] at hb; exact hD b x hb
/-- the entry 'index' of own names field k of class ci: its type t, final or not -/
def q_FL (own : String) (index ci k : Nat) (t : FieldType) (fin : Bool) : Prop := ∃ (C : String) (T : u_T) (N : Nat) (ref : String) (ty : Nat → FieldType), q_cl[ci]? = some (C, T, N) ∧ (∀ w ∈ u_ws C T N, w ∈ q_T) ∧ k < N ∧ Cond.fieldLink own index ref (T k).2.1 (T k).2.2.1 ∈ q_T ∧ (ref = (T k).1 ∨ Cond.sameField ref (T k).1 (T k).2.1 (T k).2.2.1 ∈ q_T) ∧ (∀ k, k < N → parseFieldDescriptor (T k).2.2.1 = some (ty k)) ∧ (∀ a, a < N → ∀ b, b < N → a ≠ b → (T a).2.1 ≠ (T b).2.1) ∧ parseFieldDescriptor (T k).2.2.1 = some t ∧ (T k).2.2.2 = fin ∧ (fin = true → (T k).1 = own)
/-- the entry 'index' of own names class ci, which has N fields, fs when it is new -/
def q_NL (own : String) (index ci N : Nat) (fs : List Value) : Prop := ∃ (C : String) (T : u_T) (ty : Nat → FieldType), q_cl[ci]? = some (C, T, N) ∧ (∀ w ∈ u_ws C T N, w ∈ q_T) ∧ Cond.classLink own index C ∈ q_T ∧ Cond.instantiable C N ∈ q_T ∧ Cond.initialized C ∈ q_T ∧ (∀ k, k < N → parseFieldDescriptor (T k).2.2.1 = some (ty k)) ∧ (∀ j, j < N → defaultValue (ty j) = vp_V fs j)
section GWH
variable {g : q_G} {Z : q_Z} {A : Nat → Prop} {post : q_R → q_H → Prop} {rc rs : Nat} {h : q_H} {pc pc' : Nat} {ls : List (Option Value)} {st : List Value} {own name : String} {cc : ByteArray} {nL d : Nat} {ret : Option FieldType}
theorem g_get (ok : q_ok g Z A own name cc nL ret d) {index ci k a : Nat} {t : FieldType} {fin : Bool} {fs : List Value} {v : Value} (hd : decode cc pc = .ok (.getfield index, 3)) (hp : pc + 3 = pc') (hf : q_FL own index ci k t fin) (ha : h a = some (.inl (ci, fs))) (hv : fs[k]? = some v) (kk : GW g Z A post rc rs h pc' ls (v :: st)) : GW g Z A post rc rs h pc ls (.ref a :: st) := by
  obtain ⟨hx, hb, hml, hown, hts, hK, -⟩ := ok
  obtain ⟨C, T, N, ref, ty, hc, hin, hk, hw, hsm, -⟩ := hf
  subst hp
  intro H locs la n k' hH hD hS hL hn hk'
  refine va_get hx hb hts hin hown hK.1 (hH.one ha) 0 rfl hc k hk (hts _ hw) ?_ hv hd (kk H locs la n k' hH hD hS hL hn hk')
  intro x hx'
  rcases hsm with e | e
  · rw [e]; exact hx'
  · exact u_same (hts _ e) x hx'
theorem g_put (ok : q_ok g Z A own name cc nL ret d) {index ci k a : Nat} {t : FieldType} {fin : Bool} {fs : List Value} {v : Value} (hd : decode cc pc = .ok (.putfield index, 3)) (hp : pc + 3 = pc') (hf : q_FL own index ci k t fin) (hfn : fin = false ∨ name = "<init>") (ha : h a = some (.inl (ci, fs))) (hl : k < fs.length) (hnr : narrow t v = v) (hfit : fits t v = true) (kk : GW g Z A post rc rs (q_up h a (.inl (ci, fs.set k v))) pc' ls st) : GW g Z A post rc rs h pc ls (v :: .ref a :: st) := by
  obtain ⟨hx, hb, hml, hown, hts, hK, -, -, -, hnm, -⟩ := ok
  obtain ⟨C, T, N, ref, ty0, hc, hin, hk, hw, hsm, hty, hap0, hdt, hfin, hdecl⟩ := hf
  subst hp
  intro H locs la n k' hH hD hS hL hn hk'
  have hsame : ∀ x, (zs Z).fieldFound? (T k).1 (T k).2.1 (T k).2.2.1 = some x → (zs Z).fieldFound? ref (T k).2.1 (T k).2.2.1 = some x := by
    intro x hx'
    rcases hsm with e | e
    · rw [e]; exact hx'
    · exact u_same (hts _ e) x hx'
  have hap := va_apart (own := own) hts hin ty0 hty hap0 hK.1 hc
  obtain ⟨r, h1, cell, q1, q2, q3, q4⟩ := (hH.2.2 a _ ha).2
  have hr : r = (C, T, N) := Option.some.inj (h1.symm.trans hc)
  subst hr
  obtain ⟨hSl, hfc, kC, hkC, hkind⟩ := hK.1.1 ci _ hc
  obtain ⟨cf, kf, fi, f, hi, hsl⟩ := hSl k hk
  have hlay := hts _ (hin _ (u_in_lay hk))
  have hst := (u_facts hfc hkC (u_lays hts hin hk) hi).1
  have done : ∀ H' : Heap, H'[a]? = some (cell.setSlot f.slot v) → H'.size = H.size → (∀ q : Nat, q ≠ a → H'[q]? = H[q]?) → W (zp Z) (zl Z) (ze Z) (zR Z) (zs Z) (zm Z) (za Z) (zb Z) (zM Z) (zc Z) H' (locs ++ [⟨a, f.slot⟩]) n k' (q_Q g Z A post) (F0 (zm Z) (pc + 3) la st) := by
    intro H' e1 e2 e3
    rw [hsl] at e1
    refine kk H' _ la n k' (hH.set ha e2 e3 ?_) (q_dom_up hD (hD a _ ha)) (hS.put e2 e3 (hD a _ ha)) hL hn hk'
    exact ⟨_, hc, t_OB.to (V := updV (vp_V fs) k v) ⟨_, e1, q2, q3, t_set q4 hap hk v⟩ (fun j _ => vp_updV_set hl v j)⟩
  unfold u_lay at hlay
  cases hfe : fin with
  | false =>
    rw [if_neg (by rw [hfin, hfe]; decide)] at hlay
    have h6 := u_store hfc hkC hkind hlay hi hdt hnr hfit
    exact W.putK hx hb (f := f) ⟨hown, hts _ hw, ⟨_, _, _, hsame _ hi⟩, hst⟩ (by rw [q2]; exact h6) q1 q3 (by rw [hsl]; exact k2_hasslot (q4 k hk)) rfl rfl hd done
  | true =>
    rw [if_pos (by rw [hfin, hfe])] at hlay
    have hin2 : (zM Z).name = "<init>" := by
      rcases hfn with e | e
      · rw [hfe] at e; cases e
      · rw [hnm, e]
    have hcf : (zm Z).cls = cf := by
      obtain ⟨_, _, c', _, _, _, -, -, hf', -, -, -, hown2, -⟩ := Cond.laysFinal_spec hlay
      have e1 : c' = cf := by have := hi.symm.trans hf'; simp at this; exact this.1.symm
      rw [hdecl hfe] at hown2
      rw [← e1]; exact Option.some.inj (hown.symm.trans hown2)
    have h6 := u_fits hfc hkC hkind (Or.inr hlay) hi hdt hnr hfit
    exact W.putFinK hx hb hown (hts _ hw) (hsame _ hi) hst hcf hin2 (by rw [q2]; exact h6) q1 q3 (by rw [hsl]; exact k2_hasslot (q4 k hk)) rfl rfl hd done
theorem g_iald (ok : q_ok g Z A own name cc nL ret d) {a N j : Nat} {f : Nat → Int32} (hd : decode cc pc = .ok (.iaload, 1)) (hp : pc + 1 = pc') (ha : h a = some (.inr (0, N, .inl f))) (hj : j < N) (hN : N < 2 ^ 31) (kk : GW g Z A post rc rs h pc' ls (.int (f j) :: st)) : GW g Z A post rc rs h pc ls (.int (nI j) :: .ref a :: st) := by
  obtain ⟨hx, hb, hml, hown, hts, hK, -⟩ := ok
  subst hp
  intro H locs la n k hH hD hS hL hn hk
  refine va_iald hx hb hK.1 (hH.one ha) 0 0 rfl rfl (vp_in_nI hj hN) hd ?_
  rw [nI_clamp (by omega)]
  exact kk H locs la n k hH hD hS hL hn hk
theorem g_zald (ok : q_ok g Z A own name cc nL ret d) {a N j : Nat} {f : Nat → Int32} (hd : decode cc pc = .ok (.baload, 1)) (hp : pc + 1 = pc') (ha : h a = some (.inr (1, N, .inl f))) (hj : j < N) (hN : N < 2 ^ 31) (kk : GW g Z A post rc rs h pc' ls (.int (f j) :: st)) : GW g Z A post rc rs h pc ls (.int (nI j) :: .ref a :: st) := by
  obtain ⟨hx, hb, hml, hown, hts, hK, -⟩ := ok
  subst hp
  intro H locs la n k hH hD hS hL hn hk
  refine va_zald hx hb hK.1 (hH.one ha) 0 1 rfl rfl (vp_in_nI hj hN) hd ?_
  rw [nI_clamp (by omega)]
  exact kk H locs la n k hH hD hS hL hn hk
theorem g_aald (ok : q_ok g Z A own name cc nL ret d) {a N j : Nat} {f : Nat → Option Nat} (hd : decode cc pc = .ok (.aaload, 1)) (hp : pc + 1 = pc') (ha : h a = some (.inr (2, N, .inr (.inr (.inr (.inr f)))))) (hj : j < N) (hN : N < 2 ^ 31) (kk : GW g Z A post rc rs h pc' ls (va_rf (f j) :: st)) : GW g Z A post rc rs h pc ls (.int (nI j) :: .ref a :: st) := by
  obtain ⟨hx, hb, hml, hown, hts, hK, -⟩ := ok
  subst hp
  intro H locs la n k hH hD hS hL hn hk
  refine va_aldq hx hb hK.1 (hH.one ha) 0 2 (C := "java/lang/Object") rfl rfl (vp_in_nI hj hN) hd ?_
  rw [nI_clamp (by omega)]
  exact kk H locs la n k hH hD hS hL hn hk
theorem g_alen (ok : q_ok g Z A own name cc nL ret d) {a i : Nat} {x : vp_A} {ty : FieldType} (hd : decode cc pc = .ok (.arraylength, 1)) (hp : pc + 1 = pc') (ha : h a = some (.inr (i, x))) (hi : (q_tys g)[i]? = some (q_dA g i, ty)) (kk : GW g Z A post rc rs h pc' ls (.int (nI x.1) :: st)) : GW g Z A post rc rs h pc ls (.ref a :: st) := by
  obtain ⟨hx, hb, hml, hown, hts, hK, -⟩ := ok
  subst hp
  intro H locs la n k hH hD hS hL hn hk
  exact va_alen hx hb hK.1 (hH.one ha) 0 i rfl hi rfl hd (kk H locs la n k hH hD hS hL hn hk)
theorem g_iast (ok : q_ok g Z A own name cc nL ret d) {a N j : Nat} {f : Nat → Int32} {x : Int32} (hd : decode cc pc = .ok (.iastore, 1)) (hp : pc + 1 = pc') (ha : h a = some (.inr (0, N, .inl f))) (hj : j < N) (hN : N < 2 ^ 31) (kk : GW g Z A post rc rs (q_up h a (.inr (0, N, .inl (upd f j x)))) pc' ls st) : GW g Z A post rc rs h pc ls (.int x :: .int (nI j) :: .ref a :: st) := by
  obtain ⟨hx, hb, hml, hown, hts, hK, -⟩ := ok
  subst hp
  intro H locs la n k hH hD hS hL hn hk
  refine W.iast hx hb ((hH.2.2 a _ ha).2) ((hK.1.2 0 _ rfl).1 N (fun j => .int (f j))) (fun q => by cases q) (by show ¬ (nI j < 0 ∨ (arrV _ _ _).slots.size ≤ _); rw [arrV_size]; exact vp_in_nI hj hN) rfl rfl hd fun H1 e z oq => ?_
  refine kk H1 _ la n k (hH.set ha z oq ?_) (q_dom_up hD (hD a _ ha)) (hS.put z oq (hD a _ ha)) hL hn hk
  show H1[a]? = some (vp_cell _ _)
  rw [e, nI_clamp (by omega)]
  show some ((vp_cell _ _).setSlot _ _) = _
  rw [vp_cell_i, vp_cell_i, arrV_store]
  congr 2
  funext q
  by_cases hq : q = j
  · subst hq
    simp [updV, upd]
  · simp [updV, upd, hq]
theorem g_zast (ok : q_ok g Z A own name cc nL ret d) {a N j : Nat} {f : Nat → Int32} {x : Int32} (hd : decode cc pc = .ok (.bastore, 1)) (hp : pc + 1 = pc') (ha : h a = some (.inr (1, N, .inl f))) (hj : j < N) (hN : N < 2 ^ 31) (hx01 : narrow .boolean (.int x) = .int x) (kk : GW g Z A post rc rs (q_up h a (.inr (1, N, .inl (upd f j x)))) pc' ls st) : GW g Z A post rc rs h pc ls (.int x :: .int (nI j) :: .ref a :: st) := by
  obtain ⟨hx, hb, hml, hown, hts, hK, -⟩ := ok
  subst hp
  intro H locs la n k hH hD hS hL hn hk
  refine W.zast hx hb ((hH.2.2 a _ ha).2) ((hK.1.2 1 _ rfl).1 N (fun j => .int (f j))) (fun q => by cases q) (by show ¬ (nI j < 0 ∨ (arrV _ _ _).slots.size ≤ _); rw [arrV_size]; exact vp_in_nI hj hN) rfl rfl hd fun H1 e z oq => ?_
  refine kk H1 _ la n k (hH.set ha z oq ?_) (q_dom_up hD (hD a _ ha)) (hS.put z oq (hD a _ ha)) hL hn hk
  show H1[a]? = some (vp_cell _ _)
  rw [e, nI_clamp (by omega), hx01]
  show some ((vp_cell _ _).setSlot _ _) = _
  rw [vp_cell_i, vp_cell_i, arrV_store]
  congr 2
  funext q
  by_cases hq : q = j
  · subst hq
    simp [updV, upd]
  · simp [updV, upd, hq]
theorem g_new (ok : q_ok g Z A own name cc nL ret d) {index ci N : Nat} {fs : List Value} (hd : decode cc pc = .ok (.new index, 3)) (hp : pc + 3 = pc') (hf : q_NL own index ci N fs) {rc' rs' : Nat} (hc1 : rc' + 1 ≤ rc) (hs1 : rs' + N ≤ rs) (kk : ∀ q : Nat, h q = none → q_bs g ≤ q → GW g Z A post rc' rs' (q_up h q (.inl (ci, fs))) pc' ls (.ref q :: st)) : GW g Z A post rc rs h pc ls st := by
  obtain ⟨hx, hb, hml, hown, hts, hK, hA, -⟩ := ok
  obtain ⟨C, T, ty, hc, hin, hcl, hinst, hini, hty, hfs⟩ := hf
  subst hp
  intro H locs la n k hH hD hS hL hn hk
  have hKn := hK.1.1 ci _ hc
  refine W.newcK hx hb hown (hts _ hcl) (hts _ hinst) (hts _ hini) rfl hd (by omega) (by omega) hKn.2.1 rfl fun H1 kC hkC e1 z1 o1 => ?_
  refine kk H.size hH.fresh hH.1 H1 locs la (n + 1) (k + N) (hH.push o1 z1 ?_) (q_dom_up hD (hA _ hS.1)) (q_S.push hS o1 z1) hL (by omega) (by omega)
  exact ⟨_, hc, (u_born ty hts hin hKn hkC e1 hty).to hfs⟩
theorem g_newa (ok : q_ok g Z A own name cc nL ret d) {at' : ArrayType} {i N : Nat} {ty : FieldType} (hd : decode cc pc = .ok (.newarray at', 2)) (hp : pc + 2 = pc') (hty : newarray.typeOf at' = ty) (hi : (i = 0 ∧ ty = .int) ∨ (i = 1 ∧ ty = .boolean)) (hN : N * 4 ≤ 536870912) {rc' rs' : Nat} (hc1 : rc' + 1 ≤ rc) (hs1 : rs' + N ≤ rs) (kk : ∀ q : Nat, h q = none → q_bs g ≤ q → GW g Z A post rc' rs' (q_up h q (.inr (i, N, .inl (fun _ => 0)))) pc' ls (.ref q :: st)) : GW g Z A post rc rs h pc ls (.int (nI N) :: st) := by
  obtain ⟨hx, hb, hml, hown, hts, hK, hA, -⟩ := ok
  subst hp
  subst hty
  intro H locs la n k hH hD hS hL hn hk
  have hw : Cond.arrayClass (newarray.typeOf at') ∈ q_T := by
    rcases hi with ⟨-, e⟩ | ⟨-, e⟩
    · rw [e]; exact q_T_in 54 (by decide +kernel) rfl
    · rw [e]; exact q_T_in 1051 (by decide +kernel) rfl
  have hcb : N * componentBytes (newarray.typeOf at') ≤ 536870912 := by
    rcases hi with ⟨-, e⟩ | ⟨-, e⟩
    · rw [e]; exact hN
    · rw [e]; show N * 1 ≤ _; omega
  refine va_newaK hx hb (hts _ hw) rfl hd rfl (nI_pos (by omega)) (nI_clamp (by omega)) hcb (by omega) (by omega) rfl fun H1 cA e1 z1 o1 hAr hNm => ?_
  refine kk H.size hH.fresh hH.1 H1 locs la (n + 1) (k + N) (hH.push o1 z1 ?_) (q_dom_up hD (hA _ hS.1)) (q_S.push hS o1 z1) hL (by omega) (by omega)
  have hcA : cA = q_dA g i := by
    rcases hi with ⟨rfl, e⟩ | ⟨rfl, e⟩
    · have h1 := (hK.1.2 0 _ rfl).2
      rw [e] at hNm
      exact Option.some.inj (hNm.symm.trans h1)
    · have h1 := (hK.1.2 1 _ rfl).2
      rw [e] at hNm
      exact Option.some.inj (hNm.symm.trans h1)
  subst hcA
  show H1[H.size]? = some (vp_cell _ _)
  rw [vp_cell_i, e1]
  rcases hi with ⟨rfl, e⟩ | ⟨rfl, e⟩ <;> rw [e] <;> rfl
end GWH
end
section
/-! ===== contracts over views, and calls of them ===== -/
theorem q_lays_same {C n d : String} {A A' : Array Value} {s t : State} {H : Heap} (h : (Cond.laysStatic C n d).before A (({ s with heap := H } : State).setVm t.vm) = true) : (Cond.laysStatic C n d).before A' ({ t with heap := H } : State) = true := by
  obtain ⟨c, k, i, f, a, cell, hc, hi, hst, ha, hcell, hs, hcls, hlt, hty⟩ := Cond.laysStatic_spec h
  exact Cond.laysStatic_of (s := ({ t with heap := H } : State)) hc hi hst ha hcell hs hcls hlt hty
theorem q_K.moved {g : q_G} {u U : State} (hW : u.WarmedH U.vm) (h : q_K g u) : q_K g U := by
  have hvm := hW.alike
  obtain ⟨h1, h2, ⟨cell, h3, h4, h5⟩, h6, h7, h8, h9, h10, h11, h12, h13, h14, h15⟩ := h
  refine ⟨h1.moved hvm, h2.moved hvm, ⟨cell, h3, State.isArrayOf_alike hvm h4, h5⟩, fun q hq => (h6 q hq).moved hvm, h7.moved hvm, h8.moved hvm, h9.moved hvm, fun q hq => by
    obtain ⟨a, ha⟩ := h10 q hq
    exact ⟨a, ha.warm hW⟩, h11, fun w hw => q_X_warm (List.mem_filter.mp hw).2 hW (h12 w hw), ?_, ?_, h15.moved hvm⟩
  · exact Cond.laysStatic_setVm (s := ({ u with heap := q_Hb g } : State)) hvm h13 |> q_lays_same
  · exact Cond.laysStatic_setVm (s := ({ u with heap := q_Hb g } : State)) hvm h14 |> q_lays_same
def q_A (h : q_H) (sz : Nat) : Nat → Prop := fun q => (∃ o, h q = some o) ∨ sz ≤ q
abbrev q_rm (d mc ms : Nat) : Room := { frames := d, cells := mc, slots := ms, locals := 64 * d }
def q_Pc (g : q_G) (av : List Value) (h : q_H) (sz : Nat) : Array Value → State → Prop := fun v U => v = av.toArray ∧ U.heap.size = sz ∧ q_HR g h U.heap ∧ q_K g U
/-- the contract of y over the view h: d frames deep, at most mc cells of ms slots made -/
def MG (g : q_G) (y : MethodName) (cc : ByteArray) (nL : Nat) (ret : Option FieldType) (d mc ms : Nat) (av : List Value) (h : q_H) (post : q_R → q_H → Prop) : Prop :=
  ∀ l : Launch, (∀ e, l.admits e → e.platform.stackTraces = false) → ∀ sz : Nat, MetFree l y (headSpec (Cond.code y cc nL ret :: q_T) (q_rm d mc ms)) (q_Pc g av h sz) (fun _ _ _ _ _ => True) (fun _ st oc t => q_Qc g h sz mc ms (q_A h sz) post st oc t)
theorem MG.mono {g : q_G} {y : MethodName} {cc : ByteArray} {nL : Nat} {ret : Option FieldType} {d mc ms : Nat} {av : List Value} {h : q_H} {post post' : q_R → q_H → Prop} (hM : MG g y cc nL ret d mc ms av h post) (hp : ∀ r h', post r h' → post' r h') : MG g y cc nL ret d mc ms av h post' := by
  intro l hl sz p e ha hc hk s m args below hf happ hP hK
  obtain ⟨n, o, h1, h2, h3, ⟨r, h', a1, a2, a3⟩, h5⟩ := hM l hl sz p e ha hc hk s m args below hf happ hP hK
  exact ⟨n, o, h1, h2, h3, ⟨r, h', a1, hp r h' a2, a3⟩, h5⟩
theorem q_entry_at {vs : List Value} {n i : Nat} {x : Slot} (h : (vs.map Slot.val ++ List.replicate n Slot.unset).toArray[i]? = some x) : (∃ v, vs[i]? = some v ∧ x = .val v) ∨ x = .unset := by
  rw [List.getElem?_toArray] at h
  by_cases hi : i < vs.length
  · rw [List.getElem?_append_left (by rw [List.length_map]; exact hi), List.getElem?_map] at h
    cases e : vs[i]? with
    | none => rw [e] at h; cases h
    | some v =>
      rw [e] at h
      exact Or.inl ⟨v, rfl, (Option.some.inj h).symm⟩
  · rw [List.getElem?_append_right (by rw [List.length_map]; omega)] at h
    exact Or.inr (List.eq_of_mem_replicate (List.mem_of_getElem? h))
theorem q_LR_entry (vs : List Value) (n : Nat) (hc : ∀ v ∈ vs, v.category = 1) (hn : vs.length ≤ n) : q_LR (vs.map some ++ List.replicate (n - vs.length) none) ((vs.map Slot.val ++ List.replicate (n - vs.length) Slot.unset).toArray) := by
  refine ⟨by simp, ⟨fun i v hi hc2 => ?_, fun i hi => ?_⟩, fun i v hi => ?_⟩
  · rcases q_entry_at hi with ⟨w, h1, h2⟩ | h2
    · cases h2
      rw [hc _ (List.mem_of_getElem? h1)] at hc2
      cases hc2
    · cases h2
  · rcases q_entry_at hi with ⟨w, h1, h2⟩ | h2 <;> cases h2
  · by_cases hl : i < vs.length
    · rw [List.getElem?_append_left (by rw [List.length_map]; exact hl), List.getElem?_map] at hi
      cases e : vs[i]? with
      | none => rw [e] at hi; cases hi
      | some w =>
        rw [e] at hi
        have hw : w = v := Option.some.inj (Option.some.inj hi)
        subst hw
        refine ⟨hc _ (List.mem_of_getElem? e), ?_⟩
        rw [List.getElem?_toArray, List.getElem?_append_left (by rw [List.length_map]; exact hl), List.getElem?_map, e]
        rfl
    · rw [List.getElem?_append_right (by rw [List.length_map]; omega)] at hi
      cases List.eq_of_mem_replicate (List.mem_of_getElem? hi)
theorem MG.of {g : q_G} {y : MethodName} {cc : ByteArray} {nL : Nat} {ret : Option FieldType} {d mc ms : Nat} {av : List Value} {h : q_H} {post : q_R → q_H → Prop} (hy : plainFor y = true) (hcat : ∀ v ∈ av, v.category = 1) (hlen : av.length ≤ nL)
    (body : ∀ (Z : q_Z) (A : Nat → Prop), q_ok g Z A y.cls y.name cc nL ret d → GW g Z A post mc ms h 0 (av.map some ++ List.replicate (nL - av.length) none) []) : MG g y cc nL ret d mc ms av h post := by
  intro l hl sz
  refine MetFree.of_bodySF (code := cc) (maxLocals := nL) (ret := ret) hy ?_ ?_
  · intro args s m hpre hn
    obtain ⟨meth, c, h1, h2, h3, h4, h5, h6, -, -⟩ := Cond.code_spec hn (atoms_spec (ws := Cond.code y cc nL ret :: q_T) hpre _ List.mem_cons_self)
    exact ⟨meth, c, h1, h2, h3, h4, h5, h6⟩
  · intro p e s m args below meth c s₁ B hml hP _
    obtain ⟨rfl, hsz, hH, hK⟩ := hP
    have hts0 := atoms_spec (ws := Cond.code y cc nL ret :: q_T) B.pre
    have hts : ∀ w ∈ q_T, w.before av.toArray s = true := fun w hw => hts0 w (List.mem_cons_of_mem _ hw)
    have X := Stand.of_body B
    have hnh : ∀ x ∈ c.exceptionTable.toList, ∀ q, covers x q = false := by
      obtain ⟨meth', c', g1, g2, g3, g4, g5, g6, g7, g8⟩ := Cond.code_spec B.named (hts0 _ List.mem_cons_self)
      cases B.method.symm.trans g1
      cases X.code.symm.trans g2
      intro x hx
      simp_all
    have hok : q_ok g (p, l, e, q_rm d mc ms, s, m, av.toArray, below, meth, c) (q_A h sz) y.cls y.name cc nL ret d := by
      refine ⟨B.exec, B.bytes, hml, findClass_of_methodNamed B.named, hts, hK, fun q hq => Or.inr (by rw [← hsz]; exact hq), B.notSynchronized, B.returns, (name_of_methodNamed B.named B.method).1, Nat.le_refl _, Nat.le_refl _, X.code, hl, hH.1, fun q hq => ?_, hnh, fun q cell hq hc => ?_⟩
      · rcases hq with ⟨o, ho⟩ | hq
        · exact (hH.2.2 q o ho).1
        · have := hH.1
          omega
      · rcases hq with ⟨o, ho⟩ | hq
        · have h1 := (hH.2.2 q o ho).2
          cases o with
          | inl x =>
            obtain ⟨r, -, cell', g1, -, g3, -⟩ := h1
            cases hc.symm.trans g1
            rw [g3]; rfl
          | inr x =>
            have g1 : s.heap[q]? = some (vp_cell (q_dA g x.1) x.2) := h1
            cases hc.symm.trans g1
            obtain ⟨i, n, f | f | f | f | f⟩ := x <;> rfl
        · have := (Array.getElem?_eq_some_iff.mp hc).1
          rw [hsz] at this
          omega
    have hh0 : s₁.heap = s.heap := by rw [B.state]; rfl
    have K := body _ _ hok s.heap [] _ 0 0 hH (fun a o ha => Or.inl ⟨o, ha⟩) va_S.rf (q_LR_entry av nL hcat hlen) (by simp) (by simp)
    obtain ⟨t, a1, oc, b1, b2, b3⟩ := K s₁ hh0 X
    refine ⟨t, oc, ?_, b1, b2, b3⟩
    rw [entry_eq m av hcat nL]
    exact a1
end
section
/-! ===== a callee's contract, at the call: it comes back, or throws ===== -/
theorem q_S_call {A Ay : Nat → Prop} {H0 H H1 : Heap} {locs L : List Loc} (hS : va_S A H0 H locs) (hAy : ∀ q, Ay q → A q) (hz : H.size ≤ H1.size) (hk : ∀ q : Nat, q < H.size → ¬ Ay q → H1[q]? = H[q]?) (hL : ∀ q ∈ L, Ay q.base) : va_S A H0 H1 (locs ++ L) :=
  ⟨Nat.le_trans hS.1 hz, fun q h1 h2 => (hk q (Nat.lt_of_lt_of_le h1 hS.1) (fun z => h2 (hAy q z))).trans (hS.2.1 q h1 h2), fun q hq => by
    rcases List.mem_append.mp hq with h | h
    · exact hS.2.2 q h
    · exact hAy _ (hL q h)⟩
theorem q_A_in {A : Nat → Prop} {h : q_H} {H0 H : Heap} {locs : List Loc} (hD : ∀ (a : Nat) (o : q_O), h a = some o → A a) (hA : ∀ q : Nat, H0.size ≤ q → A q) (hS : va_S A H0 H locs) : ∀ q, q_A h H.size q → A q := fun q hq => by
  rcases hq with ⟨o, ho⟩ | hq
  · exact hD q o ho
  · exact hA q (Nat.le_trans hS.1 hq)
/-- what a call leaves behind: a state T' under the caller's frame, with the callee's end -/
def q_Back (p : Program) (l : Launch) (e : Env) (R : Room) (s : State) (m : MethodId) (args : Array Value) (below : List Frame) (meth : Method) (c : Code) (T : State) (locs : List Loc) (n k : Nat) (g : q_G) (Ay : Nat → Prop) (post : q_R → q_H → Prop) (S0 : State) (f : JFrame) : Prop :=
  ∃ (r : q_R) (h' : q_H) (T' : State) (L : List Loc), Stand p l e R s m args below meth c T' (locs ++ L) n k ∧ (∀ q ∈ L, Ay q.base) ∧ post r h' ∧ q_HR g h' T'.heap ∧ (∀ (a : Nat) (o : q_O), h' a = some o → Ay a) ∧ T.heap.size ≤ T'.heap.size ∧ (∀ q : Nat, q < T.heap.size → ¬ Ay q → T'.heap[q]? = T.heap[q]?) ∧
    match r with
    | .inl v => ∀ target, Steps p.tables e below (T'.setTop { f with pc := f.pc + 3, stack := v.toList ++ f.stack }) target → Steps p.tables e below S0 target
    | .inr kx => ∃ (x : Addr) (cell : Cell), T'.heap[x]? = some cell ∧ T'.vm.findClass (q_xn kx) = some cell.cls ∧ cell.vm = .none ∧ ∀ target, Steps p.tables e below ((T'.setTop f).pushFrame (.throwing x)) target → Steps p.tables e below S0 target
theorem q_call {p : Program} {l : Launch} {e : Env} {R : Room} {s : State} {m : MethodId} {args : Array Value} {below : List Frame} {meth : Method} {c : Code} {T : State} {locs : List Loc} {n k : Nat} {g : q_G} {y : MethodName} {cy : ByteArray} {ny : Nat} {ry : Option FieldType} {dy mc ms : Nat} {av : List Value} {h : q_H} {post : q_R → q_H → Prop}
    (X : Stand p l e R s m args below meth c T locs n k) (hM : MG g y cy ny ry dy mc ms av h post) (htr : ∀ e, l.admits e → e.platform.stackTraces = false)
    {f : JFrame} (hg : f.method = m) (hsize : f.locals.size = c.maxLocals) {ig : Instr} (hdg : decode c.code f.pc = .ok (ig, 3)) (hst : 2 * f.monitorRoom + (f.stack.map fun v => v.category).sum ≤ 8) {mk : MethodId} (hn : T.methodNamed? y = some mk)
    (hfr : dy + 1 ≤ R.frames) (hlo : 8 + (ny + 11) + 64 * dy ≤ R.locals) (hc1 : n + mc ≤ R.cells) (hs1 : k + ms ≤ R.slots) (hts : ∀ w ∈ q_T, w.before args s = true) (hcw : Cond.code y cy ny ry ∈ q_T) (hini : (Cond.initialized y.cls).before args s = true) (hK : q_K g s) (hH : q_HR g h T.heap) :
    q_Back p l e R s m args below meth c T locs (n + mc) (k + ms) g (q_A h T.heap.size) post (doInvoke e (T.setTop f) [] mk av.toArray).1 f := by
  have hat : At T f.method c below := by rw [hg]; exact X.here
  have hwd : ∀ w ∈ q_T, ∀ a' : Array Value, w.before a' T = true := fun w hw a' => word_at X.warmed (q_T_good hw) (hts w hw)
  obtain ⟨methY, cY, hmY, hcY, -, hlY, -⟩ := Cond.code_spec hn (hwd _ hcw av.toArray)
  obtain ⟨kY, hkY, -⟩ := className_of_methodNamed hn
  have hinitY : kY.init = .initialized := Cond.initialized_spec (findClass_of_methodNamed hn) hkY (word_at (a' := av.toArray) X.warmed (Or.inl (by first | rfl | simp [Cond.onTables, Cond.keeps, Cond.steady])) hini)
  have hpre : (headSpec (Cond.code y cy ny ry :: q_T) (q_rm dy mc ms)).pre.before av.toArray T = true := by
    refine atoms_intro fun w hw => ?_
    rcases List.mem_cons.mp hw with rfl | hw
    · exact hwd _ hcw _
    · exact hwd _ hw _
  have happ : (headSpec (Cond.code y cy ny ry :: q_T) (q_rm dy mc ms)).appliesLoose y e.platform (T.calling f mk av.toArray) = true :=
    Spec.appliesLoose_calling (g := f) hat hdg hn hkY hinitY
      (X.room_calling (g := f) (R' := q_rm dy mc ms) hsize hmY hcY hfr (by rw [hlY]; show _ + (64 * dy) ≤ _; omega) hc1 hs1) hpre
  obtain ⟨mid, hmid⟩ := hat.above
  have hfr2 : (T.setTop f).frames = (.java f :: mid) ++ below := by rw [State.frames_setTop' f hat.top, hmid]; rfl
  have hPc : q_Pc g av h T.heap.size av.toArray (T.calling f mk av.toArray) := ⟨rfl, rfl, hH, q_K.moved (u := s) X.warmed hK⟩
  obtain ⟨o, s₂, hsteps, -, hend, hq⟩ := Steps.callFree (hM l htr T.heap.size) p X.admits X.cas X.clock (acts := []) hfr2 happ hPc trivial
  rw [State.frames_setTop' f hat.top, X.tail] at hend
  have hq' : q_Qc g h T.heap.size mc ms (q_A h T.heap.size) post (T.calling f mk av.toArray) o s₂ := hq
  obtain ⟨⟨r, h', hres, hpost, hHR, hdom⟩, hF, hW₂, L, hsame, hL⟩ := hq'
  cases r with
  | inl v =>
    cases hres
    obtain ⟨T', X', -, -, ht⟩ := X.outOf hg hdg hend hW₂ hsame
    have hheap : s₂.heap = T'.heap := by rw [ht]; rfl
    refine ⟨.inl v, h', T', L, X', hL, hpost, by rw [← hheap]; exact hHR, hdom, by rw [← hheap]; exact hF.1, fun q h1 h2 => by rw [← hheap]; exact hF.2 q h1 h2, fun target hs => ?_⟩
    refine hsteps.trans ?_
    rw [ht]
    exact hs
  | inr kx =>
    obtain ⟨x, cell, rfl, hx1, hx2, hx3⟩ := hres
    obtain ⟨T', X', -, -, ht⟩ := X.outOfThrown hg hend hW₂ hsame
    have hheap : s₂.heap = T'.heap := by rw [ht]; rfl
    have hvm : s₂.vm = T'.vm := by rw [ht]; rfl
    refine ⟨.inr kx, h', T', L, X', hL, hpost, by rw [← hheap]; exact hHR, hdom, by rw [← hheap]; exact hF.1, fun q h1 h2 => by rw [← hheap]; exact hF.2 q h1 h2, x, cell, by rw [← hheap]; exact hx1, by rw [← hvm]; exact hx2, hx3, fun target hs => ?_⟩
    refine hsteps.trans ?_
    rw [ht]
    exact hs
end
section
/-! ===== the rows of calls ===== -/
def q_CS (own : String) (index : Nat) (y : MethodName) (cy : ByteArray) (ny : Nat) (ry : Option FieldType) (na : Nat) : Prop := Cond.methodLink own index y ∈ q_T ∧ Cond.static y ∈ q_T ∧ Cond.initialized y.cls ∈ q_T ∧ Cond.code y cy ny ry ∈ q_T ∧ (y.cls ≠ "java/lang/invoke/MethodHandle" ∧ y.cls ≠ "java/lang/invoke/VarHandle") ∧ (parseMethodDescriptor y.desc).map (fun d => d.parameters.length) = some na ∧ ny ≤ 45
def q_CSN (own : String) (index : Nat) (y : MethodName) (host : String) (cy : ByteArray) (ny : Nat) (ry : Option FieldType) (na : Nat) : Prop := Cond.methodLinkNest own index y host ∈ q_X ∧ Cond.static y ∈ q_T ∧ Cond.initialized y.cls ∈ q_T ∧ Cond.code y cy ny ry ∈ q_T ∧ (y.cls ≠ "java/lang/invoke/MethodHandle" ∧ y.cls ≠ "java/lang/invoke/VarHandle") ∧ (parseMethodDescriptor y.desc).map (fun d => d.parameters.length) = some na ∧ ny ≤ 45
def q_CV (own : String) (index : Nat) (y : MethodName) (cy : ByteArray) (ny : Nat) (ry : Option FieldType) (na ci : Nat) : Prop := Cond.methodLink own index y ∈ q_T ∧ Cond.instanceMethod y ∈ q_T ∧ Cond.selects y.cls y y ∈ q_T ∧ Cond.initialized y.cls ∈ q_T ∧ Cond.code y cy ny ry ∈ q_T ∧ (y.cls ≠ "java/lang/invoke/MethodHandle" ∧ y.cls ≠ "java/lang/invoke/VarHandle") ∧ (parseMethodDescriptor y.desc).map (fun d => d.parameters.length) = some na ∧ ny ≤ 45 ∧ ∃ (T : u_T) (N : Nat), q_cl[ci]? = some (y.cls, T, N)
def q_CI (own : String) (index : Nat) (y : MethodName) (cy : ByteArray) (ny : Nat) (na : Nat) : Prop := Cond.methodLink own index y ∈ q_T ∧ Cond.instanceMethod y ∈ q_T ∧ y.name = "<init>" ∧ Cond.initialized y.cls ∈ q_T ∧ Cond.code y cy ny none ∈ q_T ∧ (y.cls ≠ "java/lang/invoke/MethodHandle" ∧ y.cls ≠ "java/lang/invoke/VarHandle") ∧ (parseMethodDescriptor y.desc).map (fun d => d.parameters.length) = some na ∧ ny ≤ 45
def q_CIN (own : String) (index : Nat) (y : MethodName) (host : String) (cy : ByteArray) (ny : Nat) (na : Nat) : Prop := Cond.methodLinkNest own index y host ∈ q_X ∧ Cond.instanceMethod y ∈ q_T ∧ y.name = "<init>" ∧ Cond.initialized y.cls ∈ q_T ∧ Cond.code y cy ny none ∈ q_T ∧ (y.cls ≠ "java/lang/invoke/MethodHandle" ∧ y.cls ≠ "java/lang/invoke/VarHandle") ∧ (parseMethodDescriptor y.desc).map (fun d => d.parameters.length) = some na ∧ ny ≤ 45
theorem q_plen {y : MethodName} {na : Nat} (h : (parseMethodDescriptor y.desc).map (fun d => d.parameters.length) = some na) : ∀ sig, parseMethodDescriptor y.desc = some sig → na = sig.parameters.length := fun sig e => by
  rw [e] at h
  exact (Option.some.inj h).symm
section GWC
variable {g : q_G} {Z : q_Z} {A : Nat → Prop} {post postc : q_R → q_H → Prop} {rc rs rc' rs' : Nat} {h : q_H} {pc pc' : Nat} {ls : List (Option Value)} {st rest : List Value} {own name : String} {cc : ByteArray} {nL d : Nat} {ret : Option FieldType}
theorem q_use (ok : q_ok g Z A own name cc nL ret d) {T1 : State} {locs : List Loc} {n k : Nat} {S0 : State} {la : Array Slot} (B : q_Back (zp Z) (zl Z) (ze Z) (zR Z) (zs Z) (zm Z) (za Z) (zb Z) (zM Z) (zc Z) T1 locs n k g (q_A h T1.heap.size) postc S0 (F0 (zm Z) pc la rest)) (hD : ∀ (a : Nat) (o : q_O), h a = some o → A a) (hS : va_S A (zs Z).heap T1.heap locs) (hL : q_LR ls la) (hn : n + rc' ≤ (zR Z).cells) (hk : k + rs' ≤ (zR Z).slots)
    (kr : ∀ v h', postc (.inl v) h' → GW g Z A post rc' rs' h' (pc + 3) ls (v.toList ++ rest)) (kx : ∀ i h', postc (.inr i) h' → post (.inr i) h') : ∃ t, Steps (zp Z).tables (ze Z) (zb Z) S0 t ∧ q_Q g Z A post t := by
  obtain ⟨hx, hb, hml, hown, hts, hK, hA, hlk, hrt, hnm, hfr, hlo, hcode, htr, hbs, hAb, hnh, hns⟩ := ok
  obtain ⟨r, h', T', L, X', hLy, hpost, hHR, hdom, hz, hkeep, hr⟩ := B
  have hAy := q_A_in hD hA hS
  have hS' := q_S_call hS hAy hz hkeep hLy
  cases r with
  | inl v =>
    obtain ⟨t, a1, b1⟩ := kr v h' hpost T'.heap (locs ++ L) la n k hHR (fun a o ha => hAy a (hdom a o ha)) hS' hL hn hk T' rfl X'
    exact ⟨t, hr t a1, b1⟩
  | inr kx' =>
    obtain ⟨x, cell, c1, c2, c3, hr⟩ := hr
    obtain ⟨w1, w2, w3, w4, w5⟩ := X'.leaveThrown x (g := F0 (zm Z) pc la rest) rfl rfl rfl (fun y hy => hnh y hy _) (hlocks := hlk)
    refine ⟨_, hr _ w1, .threw x, w2, w3, ⟨.inr kx', h', ⟨x, cell, rfl, c1, c2, c3⟩, kx kx' h' hpost, hHR, fun a o ha => hAy a (hdom a o ha)⟩, ?_, w4, locs ++ L, w5.mono (by omega) (by omega), hS'.2.2⟩
    exact va_S.F (t := T'.setFrames (.throwing x :: zb Z)) hS' rfl
theorem g_callS (ok : q_ok g Z A own name cc nL ret d) {index : Nat} {y : MethodName} {cy : ByteArray} {ny : Nat} {ry : Option FieldType} {dy mc ms na : Nat} {av : List Value} (hd : decode cc pc = .ok (.invokestatic index, 3)) (hp : pc + 3 = pc') (hcs : q_CS own index y cy ny ry na) (hM : MG g y cy ny ry dy mc ms av h postc) (hav : av.length = na) (hst : st = av.reverse ++ rest) (hrest : (rest.map fun v => v.category).sum ≤ 8) (hdy : dy + 1 ≤ d) (hlen : ls.length = nL) (hc1 : rc' + mc ≤ rc) (hs1 : rs' + ms ≤ rs)
    (kr : ∀ v h', postc (.inl v) h' → GW g Z A post rc' rs' h' pc' ls (v.toList ++ rest)) (kx : ∀ i h', postc (.inr i) h' → post (.inr i) h') : GW g Z A post rc rs h pc ls st := by
  have ok' := ok
  obtain ⟨hx, hb, hml, hown, hts, hK, hA, hlk, hrt, hnm, hfr, hlo, hcode, htr, hbs, hAb, hnh, hns⟩ := ok
  obtain ⟨hl, hs, hi, hw, hy, hpl, hny⟩ := hcs
  subst hp
  subst hst
  intro H locs la n k hH hD hS hL hn hk T hT X
  subst hT
  obtain ⟨mk, hnamed⟩ := Cond.code_named (hts _ hw)
  obtain ⟨methM, cM, hmethM, -, -, -, -, -, -, hsigM⟩ := Cond.code_spec hnamed (hts _ hw)
  have hstatic : methM.isStatic = true := Cond.static_spec hnamed hmethM (hts _ hs)
  obtain ⟨kP, hkP, -⟩ := className_of_methodNamed hnamed
  have hinitP : kP.init = .initialized := Cond.initialized_spec (findClass_of_methodNamed hnamed) hkP (hts _ hi)
  obtain ⟨vm₁, X₁, hstep₁⟩ := X.invokestatic hx hown (hts _ hl) hnamed hmethM hstatic hkP hinitP hy (g := F0 (zm Z) pc la (av.reverse ++ rest)) rfl (argsL := av) (rest := rest) (hav.trans (q_plen hpl _ hsigM)) rfl (by rw [hb]; exact hd)
  have B := q_call X₁ hM htr (f := F0 (zm Z) pc la rest) rfl (by show la.size = _; rw [hL.1, hlen, hml]) (by rw [hb]; exact hd) (lv_room hrest) (X₁.named hnamed) (by omega) (by omega) (by omega) (by omega) hts hw (hts _ hi) hK hH
  obtain ⟨t, a1, b1⟩ := q_use (rc' := rc') (rs' := rs') ok' B hD hS hL (by omega) (by omega) kr kx
  exact ⟨t, hstep₁ _ fun acts => by rw [doInvoke_state]; exact a1, b1⟩
theorem g_callSN (ok : q_ok g Z A own name cc nL ret d) {index : Nat} {y : MethodName} {host : String} {cy : ByteArray} {ny : Nat} {ry : Option FieldType} {dy mc ms na : Nat} {av : List Value} (hd : decode cc pc = .ok (.invokestatic index, 3)) (hp : pc + 3 = pc') (hcs : q_CSN own index y host cy ny ry na) (hM : MG g y cy ny ry dy mc ms av h postc) (hav : av.length = na) (hst : st = av.reverse ++ rest) (hrest : (rest.map fun v => v.category).sum ≤ 8) (hdy : dy + 1 ≤ d) (hlen : ls.length = nL) (hc1 : rc' + mc ≤ rc) (hs1 : rs' + ms ≤ rs)
    (kr : ∀ v h', postc (.inl v) h' → GW g Z A post rc' rs' h' pc' ls (v.toList ++ rest)) (kx : ∀ i h', postc (.inr i) h' → post (.inr i) h') : GW g Z A post rc rs h pc ls st := by
  have ok' := ok
  obtain ⟨hx, hb, hml, hown, hts, hK, hA, hlk, hrt, hnm, hfr, hlo, hcode, htr, hbs, hAb, hnh, hns⟩ := ok
  obtain ⟨hl, hs, hi, hw, hy, hpl, hny⟩ := hcs
  subst hp
  subst hst
  intro H locs la n k hH hD hS hL hn hk T hT X
  subst hT
  obtain ⟨mk, hnamed⟩ := Cond.code_named (hts _ hw)
  obtain ⟨methM, cM, hmethM, -, -, -, -, -, -, hsigM⟩ := Cond.code_spec hnamed (hts _ hw)
  have hstatic : methM.isStatic = true := Cond.static_spec hnamed hmethM (hts _ hs)
  obtain ⟨kP, hkP, -⟩ := className_of_methodNamed hnamed
  have hinitP : kP.init = .initialized := Cond.initialized_spec (findClass_of_methodNamed hnamed) hkP (hts _ hi)
  obtain ⟨vm₁, X₁, hstep₁⟩ := X.invokestaticNest hx hown (va_Nw.use rfl (hK.xw _ hl)) hnamed hmethM hstatic hkP hinitP hy (g := F0 (zm Z) pc la (av.reverse ++ rest)) rfl (argsL := av) (rest := rest) (hav.trans (q_plen hpl _ hsigM)) rfl (by rw [hb]; exact hd)
  have B := q_call X₁ hM htr (f := F0 (zm Z) pc la rest) rfl (by show la.size = _; rw [hL.1, hlen, hml]) (by rw [hb]; exact hd) (lv_room hrest) (X₁.named hnamed) (by omega) (by omega) (by omega) (by omega) hts hw (hts _ hi) hK hH
  obtain ⟨t, a1, b1⟩ := q_use (rc' := rc') (rs' := rs') ok' B hD hS hL (by omega) (by omega) kr kx
  exact ⟨t, hstep₁ _ fun acts => by rw [doInvoke_state]; exact a1, b1⟩
theorem g_callI (ok : q_ok g Z A own name cc nL ret d) {index : Nat} {y : MethodName} {cy : ByteArray} {ny : Nat} {dy mc ms na b : Nat} {av : List Value} (hd : decode cc pc = .ok (.invokespecial index, 3)) (hp : pc + 3 = pc') (hcs : q_CI own index y cy ny na) (hM : MG g y cy ny none dy mc ms (.ref b :: av) h postc) (hav : av.length = na) (hst : st = av.reverse ++ .ref b :: rest) (hrest : (rest.map fun v => v.category).sum ≤ 8) (hdy : dy + 1 ≤ d) (hlen : ls.length = nL) (hc1 : rc' + mc ≤ rc) (hs1 : rs' + ms ≤ rs)
    (kr : ∀ v h', postc (.inl v) h' → GW g Z A post rc' rs' h' pc' ls (v.toList ++ rest)) (kx : ∀ i h', postc (.inr i) h' → post (.inr i) h') : GW g Z A post rc rs h pc ls st := by
  have ok' := ok
  obtain ⟨hx, hb, hml, hown, hts, hK, hA, hlk, hrt, hnm, hfr, hlo, hcode, htr, hbs, hAb, hnh, hns⟩ := ok
  obtain ⟨hl, hin, hy1, hi, hw, hy, hpl, hny⟩ := hcs
  subst hp
  subst hst
  intro H locs la n k hH hD hS hL hn hk T hT X
  subst hT
  have hpf : (ze Z).platform.magicAccessors = ({} : Platform).magicAccessors := by rw [X.admits.platform]
  obtain ⟨mk, methM, cM, kP, vm₁, hnamed, hmethM, hcodeM, -, hlocalsM, -, hkP, -, hW₁, hstep₁⟩ := Steps.initColdArgs (e := ze Z) X.here hx X.warmed hpf hown hy1 hy (hts _ hl) (hts _ hin) (hts _ hw) (f := F0 (zm Z) pc la (av.reverse ++ .ref b :: rest)) rfl (argsL := av) (rest := rest) (fun sig e => hav.trans (q_plen hpl sig e)) rfl (by rw [hb]; exact hd)
  have X₁ := X.noted hW₁
  have B := q_call X₁ hM htr (f := F0 (zm Z) pc la rest) rfl (by show la.size = _; rw [hL.1, hlen, hml]) (by rw [hb]; exact hd) (lv_room hrest) (X₁.named hnamed) (by omega) (by omega) (by omega) (by omega) hts hw (hts _ hi) hK hH
  obtain ⟨t, a1, b1⟩ := q_use (rc' := rc') (rs' := rs') ok' B hD hS hL (by omega) (by omega) kr kx
  exact ⟨t, hstep₁ _ fun acts => by rw [doInvoke_state]; exact a1, b1⟩
theorem g_callIN (ok : q_ok g Z A own name cc nL ret d) {index : Nat} {y : MethodName} {host : String} {cy : ByteArray} {ny : Nat} {dy mc ms na b : Nat} {av : List Value} (hd : decode cc pc = .ok (.invokespecial index, 3)) (hp : pc + 3 = pc') (hcs : q_CIN own index y host cy ny na) (hM : MG g y cy ny none dy mc ms (.ref b :: av) h postc) (hav : av.length = na) (hst : st = av.reverse ++ .ref b :: rest) (hrest : (rest.map fun v => v.category).sum ≤ 8) (hdy : dy + 1 ≤ d) (hlen : ls.length = nL) (hc1 : rc' + mc ≤ rc) (hs1 : rs' + ms ≤ rs)
    (kr : ∀ v h', postc (.inl v) h' → GW g Z A post rc' rs' h' pc' ls (v.toList ++ rest)) (kx : ∀ i h', postc (.inr i) h' → post (.inr i) h') : GW g Z A post rc rs h pc ls st := by
  have ok' := ok
  obtain ⟨hx, hb, hml, hown, hts, hK, hA, hlk, hrt, hnm, hfr, hlo, hcode, htr, hbs, hAb, hnh, hns⟩ := ok
  obtain ⟨hl, hin, hy1, hi, hw, hy, hpl, hny⟩ := hcs
  subst hp
  subst hst
  intro H locs la n k hH hD hS hL hn hk T hT X
  subst hT
  have hpf : (ze Z).platform.magicAccessors = ({} : Platform).magicAccessors := by rw [X.admits.platform]
  obtain ⟨mk, methM, cM, kP, vm₁, hnamed, hmethM, hcodeM, -, hlocalsM, -, hkP, -, hW₁, hstep₁⟩ := Steps.initColdArgsNest (e := ze Z) X.here hx X.warmed hpf hown hy1 hy (va_Nw.use rfl (hK.xw _ hl)) (hts _ hin) (hts _ hw) (f := F0 (zm Z) pc la (av.reverse ++ .ref b :: rest)) rfl (argsL := av) (rest := rest) (fun sig e => hav.trans (q_plen hpl sig e)) rfl (by rw [hb]; exact hd)
  have X₁ := X.noted hW₁
  have B := q_call X₁ hM htr (f := F0 (zm Z) pc la rest) rfl (by show la.size = _; rw [hL.1, hlen, hml]) (by rw [hb]; exact hd) (lv_room hrest) (X₁.named hnamed) (by omega) (by omega) (by omega) (by omega) hts hw (hts _ hi) hK hH
  obtain ⟨t, a1, b1⟩ := q_use (rc' := rc') (rs' := rs') ok' B hD hS hL (by omega) (by omega) kr kx
  exact ⟨t, hstep₁ _ fun acts => by rw [doInvoke_state]; exact a1, b1⟩
theorem g_callV (ok : q_ok g Z A own name cc nL ret d) {index : Nat} {y : MethodName} {cy : ByteArray} {ny : Nat} {ry : Option FieldType} {dy mc ms na ci b : Nat} {fs av : List Value} (hd : decode cc pc = .ok (.invokevirtual index, 3)) (hp : pc + 3 = pc') (hcs : q_CV own index y cy ny ry na ci) (hM : MG g y cy ny ry dy mc ms (.ref b :: av) h postc) (hb0 : h b = some (.inl (ci, fs))) (hav : av.length = na) (hst : st = av.reverse ++ .ref b :: rest) (hrest : (rest.map fun v => v.category).sum ≤ 8) (hdy : dy + 1 ≤ d) (hlen : ls.length = nL) (hc1 : rc' + mc ≤ rc) (hs1 : rs' + ms ≤ rs)
    (kr : ∀ v h', postc (.inl v) h' → GW g Z A post rc' rs' h' pc' ls (v.toList ++ rest)) (kx : ∀ i h', postc (.inr i) h' → post (.inr i) h') : GW g Z A post rc rs h pc ls st := by
  have ok' := ok
  obtain ⟨hx, hb, hml, hown, hts, hK, hA, hlk, hrt, hnm, hfr, hlo, hcode, htr, hbs, hAb, hnh, hns⟩ := ok
  obtain ⟨hl, hin, hsel, hi, hw, hy, hpl, hny, T0, N0, hci⟩ := hcs
  subst hp
  subst hst
  intro H locs la n k hH hD hS hL hn hk T hT X
  subst hT
  obtain ⟨cellB, hcB, hobj, hcls⟩ := va_recv hK.1 (hH.one hb0) hci (q0 := 0) rfl
  obtain ⟨mk, methM, hnamed, hmethM, hstM, habM⟩ := Cond.instanceMethod_spec (hts _ hin)
  obtain ⟨methM', cM, hmethM', -, -, -, -, -, -, hsigM⟩ := Cond.code_spec hnamed (hts _ hw)
  cases hmethM.symm.trans hmethM'
  obtain ⟨c2, r2, m2, q1, q2, q3, q4, kP, hkP, hkPi⟩ := Cond.selects_spec (hts _ hsel)
  cases hcls.symm.trans q1
  cases (State.methodFound?_of_named hnamed hy).symm.trans q2
  cases hnamed.symm.trans q3
  have hselP : selectMethod (ze Z).platform (zs Z).vm cellB.cls mk = .method mk := by rw [Launch.admits_selectMethod X.admits]; exact q4
  obtain ⟨vm₁, X₁, hstep₁⟩ := X.invokevirtual hx hown (hts _ hl) hnamed hmethM hstM hkP hkPi hy (a := b) (cell := cellB) hcB
    (fun z h => by rw [h] at hobj; cases hobj) hselP hmethM habM hkP hkPi (g := F0 (zm Z) pc la (av.reverse ++ .ref b :: rest)) rfl (argsL := av) (rest := rest) (hav.trans (q_plen hpl _ hsigM)) rfl (by rw [hb]; exact hd)
  have B := q_call X₁ hM htr (f := F0 (zm Z) pc la rest) rfl (by show la.size = _; rw [hL.1, hlen, hml]) (by rw [hb]; exact hd) (lv_room hrest) (X₁.named hnamed) (by omega) (by omega) (by omega) (by omega) hts hw (hts _ hi) hK hH
  obtain ⟨t, a1, b1⟩ := q_use (rc' := rc') (rs' := rs') ok' B hD hS hL (by omega) (by omega) kr kx
  exact ⟨t, hstep₁ _ fun acts => by rw [doInvoke_state]; exact a1, b1⟩
theorem g_objInit (ok : q_ok g Z A own name cc nL ret d) {index b : Nat} (hd : decode cc pc = .ok (.invokespecial index, 3)) (hp : pc + 3 = pc') (hl : Cond.methodLink own index Lib.objectInit ∈ q_T) (hrest : (st.map fun v => v.category).sum ≤ 8) (hd1 : 1 ≤ d) (hlen : ls.length = nL) (kk : GW g Z A post rc rs h pc' ls st) : GW g Z A post rc rs h pc ls (.ref b :: st) := by
  obtain ⟨hx, hb, hml, hown, hts, hK, hA, hlk, hrt, hnm, hfr, hlo, -⟩ := ok
  subst hp
  intro H locs la n k hH hD hS hL hn hk
  have hr : 2 * (F0 (zm Z) pc la (.ref b :: st)).monitorRoom + (st.map fun v => v.category).sum ≤ 8 := lv_room hrest
  exact W.objInit hx hb hown (hts _ hl) (hts _ (q_T_in 33 (by decide +kernel) rfl)) (hts _ (q_T_in 34 (by decide +kernel) rfl)) rfl (by show la.size = _; rw [hL.1, hlen, hml]) rfl hd (by omega) (by omega) (kk H locs la n k hH hD hS hL hn hk)
end GWC
end
section
/-! ===== a method that throws: new E("text") and athrow ===== -/
/-- the walk seen from here on: as if the method had been entered with the heap that stands now -/
theorem q_rebase {p : Program} {l : Launch} {e : Env} {R : Room} {s : State} {m : MethodId} {args : Array Value} {below : List Frame} {meth : Method} {c : Code} {T : State} {locs : List Loc} {n k : Nat}
    (X : Stand p l e R s m args below meth c T locs n k) (hn : n ≤ R.cells) (hk : k ≤ R.slots) : Stand p l e { R with cells := R.cells - n, slots := R.slots - k } ({ s with heap := T.heap, slotsUsed := T.slotsUsed, vm := T.vm } : State) m args below meth c T [] 0 0 := by
  have hal := X.warmed.alike
  have hmeth : T.vm.method? m = some meth := X.method'
  refine ⟨X.admits, X.cas, X.clock, X.frames, ?_, ?_, hmeth, X.code, X.here, X.tail, State.WarmedH.refl _, X.limits, X.bytes, ?_⟩
  · have hr := X.room
    have h1 := X.heapSize
    have h2 := X.used
    have h3 := X.book
    simp only [State.hasRoom, Bool.and_eq_true, decide_eq_true_eq] at hr ⊢
    have hloc : State.localsInUse ({ s with heap := T.heap, slotsUsed := T.slotsUsed, vm := T.vm } : State) = s.localsInUse := by
      unfold State.localsInUse
      rw [show State.frames ({ s with heap := T.heap, slotsUsed := T.slotsUsed, vm := T.vm } : State) = s.frames from rfl, X.frames]
      show _ + ((((T.vm.method? m).bind (·.code)).map (·.maxLocals)).getD 0 + 11) = _ + ((((s.vm.method? m).bind (·.code)).map (·.maxLocals)).getD 0 + 11)
      rw [hmeth, X.method]
    rw [hloc]
    refine ⟨⟨⟨hr.1.1.1, ?_⟩, ?_⟩, h3⟩
    · have := hr.1.1.2
      show T.heap.size + (R.cells - n) ≤ _
      omega
    · have := hr.1.2
      show T.slotsUsed + (R.slots - k) ≤ _
      omega
  · have hh := X.hears
    cases below with
    | nil =>
      show (T.vm.method? m).any (·.sig.returnType.isNone) = true
      have hh' : (s.vm.method? m).any (·.sig.returnType.isNone) = true := hh
      rw [hmeth, ← X.method]; exact hh'
    | cons f r =>
      cases f with
      | java g0 =>
        have hh' : ((s.code? g0.method).bind fun c => (decode c.code g0.pc).toOption).isSome = true := hh
        show ((State.code? ({ s with heap := T.heap, slotsUsed := T.slotsUsed, vm := T.vm } : State) g0.method).bind fun c => (decode c.code g0.pc).toOption).isSome = true
        rw [State.code?_eq] at hh' ⊢
        show (((T.vm.method? g0.method).bind _).bind _).isSome = true
        rw [hal.method?]; exact hh'
      | native _ => rfl
      | proc _ => rfl
      | _ =>
        show (T.vm.method? m).any (·.sig.returnType.isNone) = true
        have hh' : (s.vm.method? m).any (·.sig.returnType.isNone) = true := hh
        rw [hmeth, ← X.method]; exact hh'
  · have hs := X.same
    have h1 : T.setVm s.vm = { s.setFrames T.frames with heap := T.heap, slotsUsed := T.slotsUsed } := hs.1
    have hdr : T.heap.toList.drop T.heap.size = [] := List.drop_eq_nil_of_le (by simp)
    refine ⟨?_, Nat.le_refl _, Nat.le_refl _, ?_, ?_, ?_⟩
    · show T = _
      have h2 : T = (T.setVm s.vm).setVm T.vm := rfl
      rw [h1] at h2
      exact h2
    · show T.slotsUsed = T.slotsUsed + ((T.heap.toList.drop T.heap.size).map (·.slots.size)).sum
      rw [hdr]; rfl
    · show ((T.heap.toList.drop T.heap.size).map (·.slots.size)).sum ≤ 0
      rw [hdr]; exact Nat.le_refl _
    · intro a cl hc
      exact ⟨cl, hc, rfl, rfl, fun _ _ => rfl⟩
def q_chain : List String := ["java/lang/RuntimeException", "java/lang/Exception"]
def q_isr1 : Cond := .isRef (.static "java/lang/Throwable" "UNASSIGNED_STACK" "[Ljava/lang/StackTraceElement;")
def q_isr2 : Cond := .isRef (.static "java/lang/Throwable" "SUPPRESSED_SENTINEL" "Ljava/util/List;")
def q_ls1 : Cond := .laysStatic "java/lang/Throwable" "UNASSIGNED_STACK" "[Ljava/lang/StackTraceElement;"
def q_ls2 : Cond := .laysStatic "java/lang/Throwable" "SUPPRESSED_SENTINEL" "Ljava/util/List;"
theorem q_own0 : ∀ a ∈ Bundle.ownAtoms "RatchetGroup" 105 (q_xn 0) q_chain, (a ∈ tables_1 ∧ (goodWord a = true ∨ q_isX a = true)) ∨ a = q_isr1 ∨ a = q_isr2 ∨ a = q_ls1 ∨ a = q_ls2 := by decide +kernel
theorem q_own1 : ∀ a ∈ Bundle.ownAtoms "RatchetGroup" 93 (q_xn 1) q_chain, (a ∈ tables_1 ∧ (goodWord a = true ∨ q_isX a = true)) ∨ a = q_isr1 ∨ a = q_isr2 ∨ a = q_ls1 ∨ a = q_ls2 := by decide +kernel
theorem q_isRef {C n d : String} {P : Nat → Prop} {U : State} {H : Heap} {args : Array Value} (h : va_Zq C n d P U H) (hH : ∀ (a : Nat) (cell : Cell), H[a]? = some cell → ¬ P a → U.heap[a]? = some cell) : (Cond.isRef (.static C n d)).before args U = true := by
  have go : ∀ v : Value, va_Z C n d v P U H → (v = .null ∨ ∃ t, v = .ref t) → (Cond.isRef (.static C n d)).before args U = true := by
    intro v hz hv
    obtain ⟨cf, kf, fi, f, a, cell, h1, h2, h3, h4, h5, h6, h7, h8⟩ := hz
    have he : (Term.static C n d).eval args U none [] U = cell.slots[f.slot]? := by
      simp [Term.eval, State.fieldNamed?, h1, h2, h4, hH a cell h5 h8, h6]
    simp only [Cond.before, Cond.holds, Cond.value]
    rw [he, h7]
    rcases hv with rfl | ⟨t, rfl⟩ <;> rfl
  rcases h with h | ⟨t, h⟩
  · exact go _ h (Or.inl rfl)
  · exact go _ h (Or.inr ⟨t, rfl⟩)
end
section
/-! ===== the row of 'throw new E("text")' ===== -/
theorem q_ldcwS {p : Program} {l : Launch} {e : Env} {R : Room} {s : State} {m : MethodId} {args : Array Value} {below : List Frame} {meth : Method} {c : Code} {T : State} {locs : List Loc} {cells slots : Nat}
    (X : Stand p l e R s m args below meth c T locs cells slots) (hexec : p.tables.exec = Jvm.exec) {own text : String} {index : Nat} {a : Addr} (hown : s.vm.findClass own = some m.cls)
    (hconst : (Cond.stringRef own index text).before args s = true) (hev : (Term.string own index).eval args s none [] s = some (.ref a)) {g : JFrame} (hg : g.method = m) (hdg : decode c.code g.pc = .ok (.ldc_w index, 3)) :
    ∀ target, Steps p.tables e below (T.setTop { g with pc := g.pc + 3, stack := .ref a :: g.stack }) target → Steps p.tables e below (T.setTop g) target := by
  obtain ⟨k, cf, i, a', hk, hcf, hcp, -, hr, hev'⟩ := Cond.stringRef_spec hown hconst
  cases hev.symm.trans hev'
  obtain ⟨k', hk', he⟩ := X.warmed.alike.2.2 _ _ hk
  have hr' : k'.resolved[index]? = some (some (.string a)) := by
    rcases X.warmed.entry hk hk' index with h | ⟨h, -⟩
    · rw [h]; exact hr
    · rw [hr] at h; cases h
  intro target hrest
  subst hg
  jvm_step X.here [hexec, hdg, ldc_w.wp_string (e := e) (s := T) (f := g) X.here.top hk' (by rw [he]; exact hcf) hcp hr']
  exact hrest
theorem q_atoms {g : q_G} {U : State} {args : Array Value} {ic kx : Nat} (hkx : (kx = 0 ∧ ic = 105) ∨ (kx = 1 ∧ ic = 93)) (hts : ∀ w ∈ q_T, w.before args U = true) (hK : q_K g U) (hH : ∀ q : Nat, q < q_bs g → U.heap[q]? = (q_Hb g)[q]?) : ∀ a ∈ Bundle.ownAtoms "RatchetGroup" ic (q_xn kx) q_chain, a.before args U = true := by
  have hlt : ∀ (a : Nat) (cell : Cell), (q_Hb g)[a]? = some cell → U.heap[a]? = some cell := fun a cell h => by
    have h1 := (Array.getElem?_eq_some_iff.mp h).1
    rw [hH a (by rw [← hK.sz]; exact h1)]
    exact h
  have hls : ∀ {C n d : String}, (Cond.laysStatic C n d).before #[] ({ U with heap := q_Hb g } : State) = true → (Cond.laysStatic C n d).before args U = true := by
    intro C n d h
    obtain ⟨c, k, i, f, a, cell, hc, hi, hst, ha, hcell, hs, hcls, hl, hty⟩ := Cond.laysStatic_spec h
    exact Cond.laysStatic_of (s := U) hc hi hst ha (hlt a cell hcell) hs hcls hl hty
  have go : ∀ a, ((a ∈ tables_1 ∧ (goodWord a = true ∨ q_isX a = true)) ∨ a = q_isr1 ∨ a = q_isr2 ∨ a = q_ls1 ∨ a = q_ls2) → a.before args U = true := by
    intro a ha
    rcases ha with ⟨h1, h2 | h2⟩ | rfl | rfl | rfl | rfl
    · exact hts a (List.mem_filter.mpr ⟨List.mem_append_right _ h1, h2⟩)
    · exact va_Nw.use (q_X_on h2) (hK.xw a (List.mem_filter.mpr ⟨h1, h2⟩))
    · exact q_isRef hK.u1 (fun a cell h _ => hlt a cell h)
    · exact q_isRef hK.u2 (fun a cell h _ => hlt a cell h)
    · exact hls hK.l1
    · exact hls hK.l2
  intro a ha
  rcases hkx with ⟨rfl, rfl⟩ | ⟨rfl, rfl⟩
  · exact go a (q_own0 a ha)
  · exact go a (q_own1 a ha)
set_option maxHeartbeats 1000000 in
theorem g_throw {g : q_G} {Z : q_Z} {A : Nat → Prop} {post : q_R → q_H → Prop} {rc rs : Nat} {h : q_H} {pc : Nat} {ls : List (Option Value)} {st : List Value} {name : String} {cc : ByteArray} {nL d : Nat} {ret : Option FieldType}
    (ok : q_ok g Z A "RatchetGroup" name cc nL ret d) {kx index ic sx lw : Nat} {tx : String} (hkx : (kx = 0 ∧ index = 101 ∧ ic = 105) ∨ (kx = 1 ∧ index = 89 ∧ ic = 93)) (hstr : (sx, tx) ∈ q_strs)
    (hd1 : decode cc pc = .ok (.new index, 3)) (hd2 : decode cc (pc + 3) = .ok (.dup, 1)) (hd3 : (decode cc (pc + 3 + 1) = .ok (.ldc sx, 2) ∧ lw = 2) ∨ (decode cc (pc + 3 + 1) = .ok (.ldc_w sx, 3) ∧ lw = 3)) (hd4 : decode cc (pc + 3 + 1 + lw) = .ok (.invokespecial ic, 3)) (hd5 : decode cc (pc + 3 + 1 + lw + 3) = .ok (.athrow, 1))
    (hst : (st.map fun v => v.category).sum ≤ 8) (hd : 6 ≤ d) (hlen : ls.length = nL) (hc1 : 1 ≤ rc) (hs1 : 6 ≤ rs) (hq : post (.inr kx) h) : GW g Z A post rc rs h pc ls st := by
  obtain ⟨hx, hb, hml, hown, hts, hK, hA, hlk, hrt, hnm, hfr, hlo, hcode, htr, hbs, hAb, hnh, hns⟩ := ok
  intro H locs la n k' hH hD hS hL hn hk T hT X
  subst hT
  have X0 := q_rebase X (by omega) (by omega)
  have hW : (zs Z).WarmedH T.vm := X.warmed
  generalize hs0 : ({ zs Z with heap := T.heap, slotsUsed := T.slotsUsed, vm := T.vm } : State) = s0 at X0
  have hvm0 : s0.vm = T.vm := by rw [← hs0]
  have hheap0 : s0.heap = T.heap := by rw [← hs0]
  have hW0 : (zs Z).WarmedH s0.vm := by rw [hvm0]; exact hW
  have hts0 : ∀ w ∈ q_T, w.before (za Z) s0 = true := fun w hw => word_at hW0 (q_T_good hw) (hts w hw)
  have hK0 : q_K g s0 := q_K.moved hW0 hK
  have hown0 : s0.vm.findClass "RatchetGroup" = some (zm Z).cls := by rw [hvm0, hW.alike.findClass]; exact hown
  have hat := q_atoms (g := g) (U := s0) (args := za Z) (ic := ic) (kx := kx) (by rcases hkx with ⟨a, -, b⟩ | ⟨a, -, b⟩; exact Or.inl ⟨a, b⟩; exact Or.inr ⟨a, b⟩) hts0 hK0 (fun q hq => by rw [hheap0]; exact hH.2.1 q hq)
  have hfit : Bundle.fit (q_xn kx) = true := by rcases hkx with ⟨rfl, -, -⟩ | ⟨rfl, -, -⟩ <;> decide +kernel
  have hcl : (Cond.classLink "RatchetGroup" index (q_xn kx)).before (za Z) s0 = true := by
    rcases hkx with ⟨rfl, rfl, -⟩ | ⟨rfl, rfl, -⟩
    · exact hts0 _ (q_T_in 499 (by decide +kernel) rfl)
    · exact hts0 _ (q_T_in 566 (by decide +kernel) rfl)
  have hinst : (Cond.instantiable (q_xn kx) 6).before (za Z) s0 = true := by
    rcases hkx with ⟨rfl, rfl, -⟩ | ⟨rfl, rfl, -⟩
    · exact hts0 _ (q_T_in 500 (by decide +kernel) rfl)
    · exact hts0 _ (q_T_in 567 (by decide +kernel) rfl)
  have hini : (Cond.initialized (q_xn kx)).before (za Z) s0 = true := by
    rcases hkx with ⟨rfl, rfl, -⟩ | ⟨rfl, rfl, -⟩
    · exact hts0 _ (q_T_in 18 (by decide +kernel) rfl)
    · exact hts0 _ (q_T_in 21 (by decide +kernel) rfl)
  obtain ⟨cX, kX, hfX, hkX, -⟩ := Cond.instantiable_spec hinst
  obtain ⟨sa, hsa⟩ := hK0.sr _ hstr
  have Wn : W (zp Z) (zl Z) (ze Z) { zR Z with cells := (zR Z).cells - n, slots := (zR Z).slots - k' } s0 (zm Z) (za Z) (zb Z) (zM Z) (zc Z) T.heap [] 0 0 (fun t => ∃ (x : Addr) (ce : Cell), t.status = .running ∧ Ended t (zb Z) (.threw x) ∧ s0.WarmedH t.vm ∧ s0.sameButNew ({ t with vm := s0.vm } : State) [] 1 6 ∧ t.heap[x]? = some ce ∧ Bundle.OwnCell (za Z) s0 (q_xn kx) x (.ref sa) ce) (F0 (zm Z) pc la st) := by
    refine W.newcK hx hb hown0 hcl hinst hini rfl hd1 (by show 0 + 1 ≤ _ - _; omega) (by show 0 + 6 ≤ _ - _; omega) hfX rfl fun H1 kC hkC e1 z1 o1 => ?_
    cases hkX.symm.trans hkC
    refine lv_dup hx hb hd2 rfl ?_
    intro T1 hT1 X1
    have hstep : ∀ target, Steps (zp Z).tables (ze Z) (zb Z) (T1.setTop (F0 (zm Z) (pc + 3 + 1 + lw) la (.ref sa :: .ref T.heap.size :: .ref T.heap.size :: st))) target → Steps (zp Z).tables (ze Z) (zb Z) (T1.setTop (F0 (zm Z) (pc + 3 + 1) la (.ref T.heap.size :: .ref T.heap.size :: st))) target := by
      rcases hd3 with ⟨h3, rfl⟩ | ⟨h3, rfl⟩
      · exact X1.ldcString hx hown0 (text := tx) (a := sa) hsa.1 hsa.2 (g := F0 (zm Z) (pc + 3 + 1) la (.ref T.heap.size :: .ref T.heap.size :: st)) rfl (by rw [hb]; exact h3)
      · exact q_ldcwS X1 hx hown0 (text := tx) (a := sa) hsa.1 hsa.2 (g := F0 (zm Z) (pc + 3 + 1) la (.ref T.heap.size :: .ref T.heap.size :: st)) rfl (by rw [hb]; exact h3)
    have hmr : 2 * (F0 (zm Z) (pc + 3 + 1 + lw) la (.ref sa :: .ref T.heap.size :: .ref T.heap.size :: st)).monitorRoom + (st.map fun v => v.category).sum ≤ 8 := lv_room hst
    obtain ⟨U, u1, u2, u3, u4, u5, ce, u6, u7⟩ := X1.ctorThrowS hx (htr _ X1.admits) (cls := q_xn kx) (names := q_chain) (ic := ic) hown0 hfit (by decide +kernel) hat (fun x hx' => by cases hx') hfX hkX (a := T.heap.size) (by rw [hT1]; exact e1) (by rw [hheap0]; exact Nat.le_refl _) (msg := .ref sa) rfl
      (g := F0 (zm Z) (pc + 3 + 1 + lw) la (.ref sa :: .ref T.heap.size :: .ref T.heap.size :: st)) rfl (by show la.size = _; rw [hL.1, hlen, hml]) rfl rfl (rest := st) rfl (by rw [hb]; exact hd4) (by rw [hb]; exact hd5) (fun x hx' => hnh x hx' _) (by show 2 + 3 < _; have := hfr; show 2 + 3 < (zR Z).frames; omega) (by simp only [List.map_cons, List.sum_cons, Value.category] at hmr ⊢; show _ ≤ (zR Z).locals; have h2 : q_chain.length = 2 := rfl; rw [h2]; omega) (hlocks := hlk)
    exact ⟨U, hstep U u1, T.heap.size, ce, u2, u3, u4, u5, u6, u7⟩
  obtain ⟨t, st1, x, ce, t1, t2, t3, t4, t5, t6⟩ := Wn T rfl X0
  have hold : ∀ q : Nat, q < T.heap.size → t.heap[q]? = T.heap[q]? := by
    intro q hq
    have hc : T.heap[q]? = some (T.heap[q]'hq) := Array.getElem?_eq_some_iff.mpr ⟨hq, rfl⟩
    obtain ⟨c', g1, g2, g3, g4⟩ := t4.2.2.2.2.2 q (T.heap[q]'hq) (by rw [hheap0]; exact hc)
    have g1' : t.heap[q]? = some c' := g1
    rw [g1', hc, g2]
    congr 1
    have : c'.slots = (T.heap[q]'hq).slots := by
      apply Array.ext_getElem?
      intro i
      exact g4 i (by simp)
    rw [this]
  have hge : T.heap.size ≤ t.heap.size := by
    have := t4.2.1
    rw [hheap0] at this
    exact this
  have hHt : q_HR g h t.heap := ⟨Nat.le_trans hH.1 hge, fun q hq => by rw [hold q (Nat.lt_of_lt_of_le hq hH.1)]; exact hH.2.1 q hq, fun a o ha => ⟨(hH.2.2 a o ha).1, (hH.2.2 a o ha).2.kept (hold a (hH.2.2 a o ha).2.lt)⟩⟩
  have hsame : (zs Z).sameButNew ({ t with vm := (zs Z).vm } : State) locs (n + 1) (k' + 6) := by
    subst hs0
    obtain ⟨g₀, hfrT⟩ := X.frames_eq
    obtain ⟨th, hth, -⟩ := State.frames_cons hfrT
    have hcur : (zs Z).cur < (zs Z).threads.size := X.cur
    have hB : T.sameButNew ({ T with heap := t.heap, slotsUsed := t.slotsUsed } : State) [] 1 6 := by
      refine ⟨?_, t4.2⟩
      show ({ T with heap := t.heap, slotsUsed := t.slotsUsed } : State) = { T.setFrames T.frames with heap := t.heap, slotsUsed := t.slotsUsed }
      rw [State.setFrames_self hth]
    have h3 := (X.same.trans (hB.setVm (zs Z).vm)).setFrames t.frames hcur
    rw [List.append_nil] at h3
    have e1 : T.setVm (zs Z).vm = { (zs Z).setFrames T.frames with heap := T.heap, slotsUsed := T.slotsUsed } := X.same.1
    have e2 : ({ t with vm := T.vm } : State) = { (({ zs Z with heap := T.heap, slotsUsed := T.slotsUsed, vm := T.vm } : State).setFrames t.frames) with heap := t.heap, slotsUsed := t.slotsUsed } := t4.1
    have e3 : ((({ T with heap := t.heap, slotsUsed := t.slotsUsed } : State).setVm (zs Z).vm).setFrames t.frames) = ({ t with vm := (zs Z).vm } : State) := by
      have e4 : ({ t with vm := (zs Z).vm } : State) = { (zs Z).setFrames t.frames with heap := t.heap, slotsUsed := t.slotsUsed } := congrArg (fun u : State => ({ u with vm := (zs Z).vm } : State)) e2
      rw [e4]
      have e5 : (({ T with heap := t.heap, slotsUsed := t.slotsUsed } : State).setVm (zs Z).vm) = { (zs Z).setFrames T.frames with heap := t.heap, slotsUsed := t.slotsUsed } := congrArg (fun u : State => ({ u with heap := t.heap, slotsUsed := t.slotsUsed } : State)) e1
      rw [e5]
      have e6 := State.setFrames_setFrames (zs Z) T.frames t.frames
      exact congrArg (fun u : State => ({ u with heap := t.heap, slotsUsed := t.slotsUsed } : State)) e6
    rw [e3] at h3
    exact h3
  have hWt : (zs Z).WarmedH t.vm := State.WarmedH.trans hW0 t3
  refine ⟨t, st1, .threw x, t1, t2, ⟨.inr kx, h, ⟨x, ce, rfl, t5, ?_, t6.vm⟩, hq, hHt, hD⟩, ?_, hWt, locs, hsame.mono (by omega) (by omega), hS.2.2⟩
  · rw [t3.alike.findClass]
    exact t6.cls
  · exact ⟨Nat.le_trans hS.1 hge, fun q h1 h2 => (hold q (Nat.lt_of_lt_of_le h1 hS.1)).trans (hS.2.1 q h1 h2)⟩
end
section
/-! ===== casts, reference arrays, the library's constants and natives ===== -/
theorem q_recv {g : q_G} {U : State} {h : q_H} {H : Heap} {a ci : Nat} {fs : List Value} {C : String} {T : u_T} {N : Nat} (hK : q_K g U) (hH : q_HR g h H) (hci : q_cl[ci]? = some (C, T, N)) (ha : h a = some (.inl (ci, fs))) : ∃ cell : Cell, H[a]? = some cell ∧ cell.vm.isStatics = false ∧ U.vm.findClass C = some cell.cls := va_recv hK.cl (hH.one ha) hci (q0 := 0) rfl
def q_Ty (ci : Nat) (C : String) : Prop := ∃ (T : u_T) (N : Nat), q_cl[ci]? = some (C, T, N)
section GWD
variable {g : q_G} {Z : q_Z} {A : Nat → Prop} {post : q_R → q_H → Prop} {rc rs : Nat} {h : q_H} {pc pc' : Nat} {ls : List (Option Value)} {st : List Value} {own name : String} {cc : ByteArray} {nL d : Nat} {ret : Option FieldType}
theorem g_castY (ok : q_ok g Z A own name cc nL ret d) {index a ci : Nat} {C nm : String} {fs : List Value} (hd : decode cc pc = .ok (.checkcast index, 3)) (hp : pc + 3 = pc') (hl : Cond.classLink own index nm ∈ q_T) (hc : Cond.castable C nm ∈ q_X) (hci : q_Ty ci C) (ha : h a = some (.inl (ci, fs))) (kk : GW g Z A post rc rs h pc' ls (.ref a :: st)) : GW g Z A post rc rs h pc ls (.ref a :: st) := by
  obtain ⟨hx, hb, hml, hown, hts, hK, -⟩ := ok
  obtain ⟨T, N, hci⟩ := hci
  subst hp
  intro H locs la n k hH hD hS hL hn hk
  exact va_castY hx hb hown (hts _ hl) (hK.xw _ hc) (q_recv hK hH hci ha) hd (kk H locs la n k hH hD hS hL hn hk)
theorem g_instY (ok : q_ok g Z A own name cc nL ret d) {index a ci : Nat} {C nm : String} {fs : List Value} (hd : decode cc pc = .ok (.instanceof index, 3)) (hp : pc + 3 = pc') (hl : Cond.classLink own index nm ∈ q_T) (hc : Cond.castable C nm ∈ q_X) (hci : q_Ty ci C) (ha : h a = some (.inl (ci, fs))) (kk : GW g Z A post rc rs h pc' ls (.int 1 :: st)) : GW g Z A post rc rs h pc ls (.ref a :: st) := by
  obtain ⟨hx, hb, hml, hown, hts, hK, -⟩ := ok
  obtain ⟨T, N, hci⟩ := hci
  subst hp
  intro H locs la n k hH hD hS hL hn hk
  exact va_instY hx hb hown (hts _ hl) (hK.xw _ hc) (q_recv hK hH hci ha) hd (kk H locs la n k hH hD hS hL hn hk)
theorem g_instN (ok : q_ok g Z A own name cc nL ret d) {index a ci : Nat} {C nm : String} {fs : List Value} (hd : decode cc pc = .ok (.instanceof index, 3)) (hp : pc + 3 = pc') (hl : Cond.classLink own index nm ∈ q_T) (hc : (C, nm) ∈ q_ncs) (hci : q_Ty ci C) (ha : h a = some (.inl (ci, fs))) (kk : GW g Z A post rc rs h pc' ls (.int 0 :: st)) : GW g Z A post rc rs h pc ls (.ref a :: st) := by
  obtain ⟨hx, hb, hml, hown, hts, hK, -⟩ := ok
  obtain ⟨T, N, hci⟩ := hci
  subst hp
  intro H locs la n k hH hD hS hL hn hk
  exact va_instNo hx hb hown (hts _ hl) (hK.nc _ hc) (q_recv hK hH hci ha) hd (kk H locs la n k hH hD hS hL hn hk)
theorem q_any {g : q_G} {U : State} {h : q_H} {H : Heap} {a ci : Nat} {fs : List Value} {C : String} (hK : q_K g U) (hH : q_HR g h H) (hci : q_Ty ci C) (hc : Cond.castable C "java/lang/Object" ∈ q_X) (ha : h a = some (.inl (ci, fs))) : va_Any "java/lang/Object" U H a := by
  obtain ⟨T, N, hci⟩ := hci
  refine va_rAny hK.cl (hH.one ha) (q0 := 0) rfl hci (fun comp c0 h1 h2 => ?_)
  obtain ⟨c1, t1, f1, f2, f3⟩ := Cond.castable_spec (args := #[]) (first := U) (o := none) (idx := []) (hK.xw _ hc)
  cases f1.symm.trans h2
  cases f2.symm.trans h1
  exact f3
theorem g_aast (ok : q_ok g Z A own name cc nL ret d) {a N j v ci : Nat} {f : Nat → Option Nat} {fs : List Value} {C : String} (hd : decode cc pc = .ok (.aastore, 1)) (hp : pc + 1 = pc') (ha : h a = some (.inr (2, N, .inr (.inr (.inr (.inr f)))))) (hj : j < N) (hN : N < 2 ^ 31) (hci : q_Ty ci C) (hc : Cond.castable C "java/lang/Object" ∈ q_X) (hv : h v = some (.inl (ci, fs))) (kk : GW g Z A post rc rs (q_up h a (.inr (2, N, .inr (.inr (.inr (.inr (va_up f j (some v)))))))) pc' ls st) : GW g Z A post rc rs h pc ls (.ref v :: .int (nI j) :: .ref a :: st) := by
  obtain ⟨hx, hb, hml, hown, hts, hK, -⟩ := ok
  subst hp
  intro H locs la n k hH hD hS hL hn hk
  obtain ⟨cellV, g1, g3, ⟨kC, hkC⟩, hasg⟩ := q_any hK hH hci hc hv
  obtain ⟨kA, comp, k1, k2, k3, -⟩ := (hK.cl.2 2 _ rfl).2
  obtain ⟨kE, hkE, -⟩ := Vm.findClass_spec k3
  refine W.aast hx hb ((hH.2.2 a _ ha).2) (fun q h => by cases h) (fun h => by cases h) k1 k2 rfl hkE ⟨nI_pos (by omega), by show _ < (arrV _ _ _).slots.size; rw [arrV_size, nI_clamp (by omega)]; exact hj⟩ g1 (fun q h => by rw [h] at g3; cases g3) hkC (hasg _ k3) rfl rfl hd fun H1 e z oq => ?_
  refine kk H1 _ la n k (hH.set ha z oq ?_) (q_dom_up hD (hD a _ ha)) (hS.put z oq (hD a _ ha)) hL hn hk
  show H1[a]? = some (vp_cell _ _)
  rw [e, nI_clamp (by omega)]
  show some ((vp_cell _ _).setSlot _ _) = _
  rw [vp_cell_q, vp_cell_q, arrV_store]
  congr 2
  funext q
  by_cases hq : q = j
  · subst hq
    simp [updV, va_up, va_rf]
  · simp [updV, va_up, hq]
theorem g_aastN (ok : q_ok g Z A own name cc nL ret d) {a N j : Nat} {f : Nat → Option Nat} (hd : decode cc pc = .ok (.aastore, 1)) (hp : pc + 1 = pc') (ha : h a = some (.inr (2, N, .inr (.inr (.inr (.inr f)))))) (hj : j < N) (hN : N < 2 ^ 31) (kk : GW g Z A post rc rs (q_up h a (.inr (2, N, .inr (.inr (.inr (.inr (va_up f j none))))))) pc' ls st) : GW g Z A post rc rs h pc ls (.null :: .int (nI j) :: .ref a :: st) := by
  obtain ⟨hx, hb, hml, hown, hts, hK, -⟩ := ok
  subst hp
  intro H locs la n k hH hD hS hL hn hk
  refine va_WaastN (C := "java/lang/Object") hx hb ((hH.2.2 a _ ha).2) ((hK.cl.2 2 _ rfl).1 N (fun j => va_rf (f j))) (fun h => by cases h) (by show ¬ (nI j < 0 ∨ (arrV _ _ _).slots.size ≤ _); rw [arrV_size]; exact vp_in_nI hj hN) rfl rfl hd fun H1 e z oq => ?_
  refine kk H1 _ la n k (hH.set ha z oq ?_) (q_dom_up hD (hD a _ ha)) (hS.put z oq (hD a _ ha)) hL hn hk
  show H1[a]? = some (vp_cell _ _)
  rw [e, nI_clamp (by omega)]
  show some ((vp_cell _ _).setSlot _ _) = _
  rw [vp_cell_q, vp_cell_q, arrV_store]
  congr 2
  funext q
  by_cases hq : q = j
  · subst hq
    simp [updV, va_up, va_rf]
  · simp [updV, va_up, hq]
theorem g_anew (ok : q_ok g Z A own name cc nL ret d) {index N : Nat} (hd : decode cc pc = .ok (.anewarray index, 3)) (hp : pc + 3 = pc') (hl : Cond.classLink own index "java/lang/Object" ∈ q_T) (hN : N * 4 ≤ 536870912) {rc' rs' : Nat} (hc1 : rc' + 1 ≤ rc) (hs1 : rs' + N ≤ rs) (kk : ∀ q : Nat, h q = none → q_bs g ≤ q → GW g Z A post rc' rs' (q_up h q (.inr (2, N, .inr (.inr (.inr (.inr (fun _ => none))))))) pc' ls (.ref q :: st)) : GW g Z A post rc rs h pc ls (.int (nI N) :: st) := by
  obtain ⟨hx, hb, hml, hown, hts, hK, hA, -⟩ := ok
  subst hp
  intro H locs la n k hH hD hS hL hn hk
  have hcl : (nI N).toNatClampNeg = N := nI_clamp (by omega)
  refine W.anew hx hb hown (hts _ hl) (va_AO.use hK.ao) rfl hd rfl (nI_pos (by omega)) (by rw [hcl]; exact hN) (by omega) (by rw [hcl]; omega) fun cA kA comp f1 f2 f3 f4 => ?_
  rw [hcl]
  generalize hH1 : H.push ({ cls := cA, slots := Array.replicate N .null, vm := .none } : Cell) = H1
  have z1 : H1.size = H.size + 1 := by rw [← hH1, Array.size_push]
  have e1 : H1[H.size]? = some (arrV cA N (fun _ => .null)) := by rw [← hH1, Array.getElem?_push_size, ← arrV_new]
  have o1 : ∀ q : Nat, q < H.size → H1[q]? = H[q]? := fun q hq => by rw [← hH1, Array.getElem?_push, if_neg (Nat.ne_of_lt hq)]
  refine kk H.size hH.fresh hH.1 H1 locs la (n + 1) (k + N) (hH.push o1 z1 ?_) (q_dom_up hD (hA _ hS.1)) (q_S.push hS o1 z1) hL (by omega) (by omega)
  have hcA : cA = q_dA g 2 := by
    obtain ⟨kA', comp', g1, g2, g3, g4⟩ := (hK.cl.2 2 _ rfl).2
    exact Option.some.inj (f1.symm.trans g4)
  subst hcA
  show H1[H.size]? = some (vp_cell _ _)
  rw [vp_cell_q]
  exact e1
theorem g_getE (ok : q_ok g Z A own name cc nL ret d) {index : Nat} (hd : decode cc pc = .ok (.getstatic index, 3)) (hp : pc + 3 = pc') (hl : Cond.fieldLink own index "java/util/ArrayList" "DEFAULTCAPACITY_EMPTY_ELEMENTDATA" "[Ljava/lang/Object;" ∈ q_T) (kk : GW g Z A post rc rs h pc' ls (.ref (q_ad g 0) :: st)) : GW g Z A post rc rs h pc ls st := by
  obtain ⟨hx, hb, hml, hown, hts, hK, -⟩ := ok
  subst hp
  intro H locs la n k hH hD hS hL hn hk
  obtain ⟨cf, kf, fi, f, a, cell, h1, h2, h3, h4, h5, h6, h7, h8⟩ := hK.st
  have hlt : a < q_bs g := by rw [← hK.sz]; exact (Array.getElem?_eq_some_iff.mp h5).1
  exact W.gets hx hb hown (hts _ hl) h1 h2 h3 h4 (by rw [hH.2.1 a hlt]; exact h5) (fun e => by rw [e] at h6; cases h6) h7 rfl hd (kk H locs la n k hH hD hS hL hn hk)
theorem g_alenE (ok : q_ok g Z A own name cc nL ret d) (hd : decode cc pc = .ok (.arraylength, 1)) (hp : pc + 1 = pc') (kk : GW g Z A post rc rs h pc' ls (.int (nI 0) :: st)) : GW g Z A post rc rs h pc ls (.ref (q_ad g 0) :: st) := by
  obtain ⟨hx, hb, hml, hown, hts, hK, -⟩ := ok
  subst hp
  intro H locs la n k hH hD hS hL hn hk
  obtain ⟨cell, h1, h2, h3, h4, h5⟩ := hK.em
  have hlt : q_ad g 0 < q_bs g := by rw [← hK.sz]; exact (Array.getElem?_eq_some_iff.mp h1).1
  exact W.alen hx hb (by rw [hH.2.1 _ hlt]; exact h1) h2 (by rw [h4]; rfl) rfl rfl hd (kk H locs la n k hH hD hS hL hn hk)
theorem g_ldcM (ok : q_ok g Z A own name cc nL ret d) {index : Nat} (hd : decode cc pc = .ok (.ldc index, 2)) (hp : pc + 2 = pc') (hl : Cond.classLink own index "[Ljava/lang/Object;" ∈ q_T) (kk : GW g Z A post rc rs h pc' ls (.ref (q_ad g 1) :: st)) : GW g Z A post rc rs h pc ls st := by
  obtain ⟨hx, hb, hml, hown, hts, hK, -⟩ := ok
  subst hp
  exact fun H locs la n k hH hD hS hL hn hk => va_ldcM hx hb hown (hts _ hl) hK.mi hd (kk H locs la n k hH hD hS hL hn hk)
end GWD
end
section
/-! ===== getClass() of an array of objects, System.arraycopy between two of them ===== -/
def q_obj (h : q_H) (y : Nat) : Prop := ∃ (ci : Nat) (C : String) (fs : List Value), h y = some (.inl (ci, fs)) ∧ q_Ty ci C ∧ Cond.castable C "java/lang/Object" ∈ q_X
section GWN
variable {g : q_G} {Z : q_Z} {A : Nat → Prop} {post : q_R → q_H → Prop} {rc rs : Nat} {h : q_H} {pc pc' : Nat} {ls : List (Option Value)} {st : List Value} {own name : String} {cc : ByteArray} {nL d : Nat} {ret : Option FieldType}
theorem g_getC (ok : q_ok g Z A own name cc nL ret d) {index a : Nat} {x : vp_A} (hd : decode cc pc = .ok (.invokevirtual index, 3)) (hp : pc + 3 = pc') (hl : Cond.methodLink own index ⟨"java/lang/Object", "getClass", "()Ljava/lang/Class;"⟩ ∈ q_T) (ha : h a = some (.inr (2, x))) (hrest : (st.map fun v => v.category).sum ≤ 8) (hd1 : 1 ≤ d) (hlen : ls.length = nL) (kk : GW g Z A post rc rs h pc' ls (.ref (q_ad g 1) :: st)) : GW g Z A post rc rs h pc ls (.ref a :: st) := by
  obtain ⟨hx, hb, hml, hown, hts, hK, hA, hlk, hrt, hnm, hfr, hlo, -⟩ := ok
  subst hp
  intro H locs la n k hH hD hS hL hn hk
  have hcell : H[a]? = some (vp_cell (q_dA g 2) x) := (hH.2.2 a _ ha).2
  obtain ⟨kA, comp, g1, g2, g3, g4⟩ := (hK.cl.2 2 _ rfl).2
  refine va_getC hx hb (by rw [hml, hL.1, hlen]) (C := "[Ljava/lang/Object;") hown (hts _ hl) (va_Nw.use rfl (hK.xw _ (q_X_in 1283 (by decide +kernel) rfl))) (hts _ (q_T_in 1282 (by decide +kernel) rfl)) (hts _ (q_T_in 189 (by decide +kernel) rfl)) (hts _ (q_T_in 205 (by decide +kernel) rfl)) hK.mi ⟨_, hcell, ?_, ?_⟩ (by omega) (by omega) hd (kk H locs la n k hH hD hS hL hn hk)
  · obtain ⟨m, f | f | f | f | f⟩ := x <;> rfl
  · have e : (vp_cell (q_dA g 2) x).cls = q_dA g 2 := by obtain ⟨m, f | f | f | f | f⟩ := x <;> rfl
    rw [e]
    exact g4
theorem g_copyq (ok : q_ok g Z A own name cc nL ret d) {index a0 a n0 n1 cn : Nat} {f f1 : Nat → Option Nat} (hd : decode cc pc = .ok (.invokestatic index, 3)) (hp : pc + 3 = pc') (hl : Cond.methodLink own index arraycopyName ∈ q_T) (ha0 : h a0 = some (.inr (2, n0, .inr (.inr (.inr (.inr f)))))) (ha : h a = some (.inr (2, n1, .inr (.inr (.inr (.inr f1)))))) (h4 : cn ≤ n0) (h5 : cn ≤ n1) (hcn : cn < 2 ^ 31) (hel : ∀ (i y : Nat), i < cn → f i = some y → q_obj h y) (hrest : (st.map fun v => v.category).sum ≤ 8) (hd1 : 1 ≤ d) (hlen : ls.length = nL)
    (kk : GW g Z A post rc rs (q_up h a (.inr (2, n1, .inr (.inr (.inr (.inr (va_cpy f f1 0 0 cn))))))) pc' ls st) : GW g Z A post rc rs h pc ls (.int (nI cn) :: .int 0 :: .ref a :: .int 0 :: .ref a0 :: st) := by
  obtain ⟨hx, hb, hml, hown, hts, hK, hA, hlk, hrt, hnm, hfr, hlo, -⟩ := ok
  subst hp
  intro H locs la n k hH hD hS hL hn hk T hT X
  have hc0 : H[a0]? = some (vp_cell (q_dA g 2) (n0, .inr (.inr (.inr (.inr f))))) := (hH.2.2 a0 _ ha0).2
  have hc1 : H[a]? = some (vp_cell (q_dA g 2) (n1, .inr (.inr (.inr (.inr f1))))) := (hH.2.2 a _ ha).2
  obtain ⟨-, k0, hk0, cm0, hkk0⟩ := (hK.cl.2 2 _ rfl).1 n0 (fun j => va_rf (f j))
  obtain ⟨-, k1, hk1, cm1, hkk1⟩ := (hK.cl.2 2 _ rfl).1 n1 (fun j => va_rf (f1 j))
  have ecl : (nI cn).toNatClampNeg = cn := nI_clamp hcn
  have eti : (nI cn).toInt = (cn : Int) := nI_toInt hcn
  have h9 : nativeFrameWords "java/lang/System" "arraycopy" 5 + 11 ≤ 40 := by decide +kernel
  have hrm : 2 * (F0 (zm Z) pc la (.int (nI cn) :: .int 0 :: .ref a :: .int 0 :: .ref a0 :: st)).monitorRoom + (st.map fun v => v.category).sum ≤ 8 := lv_room hrest
  obtain ⟨vm', X', step⟩ := X.arraycopy hx hown (hts _ hl) (hts _ (q_T_in 217 (by decide +kernel) rfl)) (hts _ (q_T_in 216 (by decide +kernel) rfl)) (hts _ (q_T_in 11 (by decide +kernel) rfl)) (src := a0) (dst := a) (cs := vp_cell (q_dA g 2) (n0, .inr (.inr (.inr (.inr f))))) (cd := vp_cell (q_dA g 2) (n1, .inr (.inr (.inr (.inr f1))))) (srcPos := 0) (destPos := 0) (n := nI cn) (by rw [hT]; exact hc0) (by rw [hT]; exact hc1)
    (fun _ h => by cases h) (fun _ h => by cases h) (fun h => by cases h) (fun h => by cases h) hk0 hk1 hkk0 hkk1 rfl (by decide) (by decide) (nI_pos hcn)
    (by rw [eti]; show ¬ (0 : Int) + _ > ((arrV (q_dA g 2) n0 (fun j => va_rf (f j))).slots.size : Int); rw [arrV_size]; omega)
    (by rw [eti]; show ¬ (0 : Int) + _ > ((arrV (q_dA g 2) n1 (fun j => va_rf (f1 j))).slots.size : Int); rw [arrV_size]; omega)
    (fun vm₁ hal i hi => by
      have hi' : i < cn := by rw [ecl] at hi; exact hi
      have e0 : (0 : Int32).toNatClampNeg + i = i := by rw [show (0 : Int32).toNatClampNeg = 0 from rfl]; omega
      have e : (vp_cell (q_dA g 2) (n0, .inr (.inr (.inr (.inr f))))).slots.getD ((0 : Int32).toNatClampNeg + i) .null = va_rf (f i) := by
        show (arrV (q_dA g 2) n0 (fun j => va_rf (f j))).slots.getD _ _ = _
        rw [e0, Array.getD_eq_getD_getElem?, arrV_read _ _ (by omega)]
        rfl
      rw [e]
      cases hy : f i with
      | none => exact ⟨rfl, trivial⟩
      | some y =>
        obtain ⟨ci, C, fs, q1, q2, q3⟩ := hel i y hi' hy
        obtain ⟨cellV, g1, g2, ⟨kC, hkC⟩, hasg⟩ := q_any hK hH q2 q3 q1
        obtain ⟨kA, comp, r1, r2, r3, -⟩ := (hK.cl.2 2 _ rfl).2
        cases hk1.symm.trans r1
        cases hkk1.symm.trans r2
        obtain ⟨kE, hkE, -⟩ := Vm.findClass_spec r3
        obtain ⟨kC', hkC', -⟩ := hal.2.2 _ _ hkC
        obtain ⟨kE', hkE', -⟩ := hal.2.2 _ _ hkE
        refine ⟨rfl, cellV, (show T.heap[y]? = some cellV by rw [hT]; exact g1), (fun q h => by rw [h] at g2; cases g2), ⟨kC', hkC'⟩, ?_, ?_⟩
        · exact ⟨kE', hkE'⟩
        · show vm₁.assignable _ _ = true
          rw [hal.assignable]
          exact hasg _ r3)
    (g := F0 (zm Z) pc la (.int (nI cn) :: .int 0 :: .ref a :: .int 0 :: .ref a0 :: st)) rfl (by show la.size = _; rw [hL.1, hlen, hml]) (rest := st) rfl (by rw [hb]; exact hd) (by omega) (by omega)
  have e1 : copied (vp_cell (q_dA g 2) (n0, .inr (.inr (.inr (.inr f))))) (vp_cell (q_dA g 2) (n1, .inr (.inr (.inr (.inr f1))))) 0 0 (nI cn) = vp_cell (q_dA g 2) (n1, .inr (.inr (.inr (.inr (va_cpy f f1 0 0 cn))))) := by
    rw [vp_cell_q, vp_cell_q, vp_cell_q]
    show (arrV (q_dA g 2) n1 (fun j => va_rf (f1 j))).storeRun (0 : Int32).toNatClampNeg ((arrV (q_dA g 2) n0 (fun j => va_rf (f j))).stretch (0 : Int32).toNatClampNeg (nI cn).toNatClampNeg) = _
    rw [ecl]
    exact va_copied (fun z => va_rf z) (q_dA g 2) (q_dA g 2) f f1 (sp := 0) (dp := 0) (n := cn) (by omega)
  rw [e1] at X' step
  have hlt : a < H.size := (Array.getElem?_eq_some_iff.mp hc1).1
  generalize hH1 : H.setIfInBounds a (vp_cell (q_dA g 2) (n1, .inr (.inr (.inr (.inr (va_cpy f f1 0 0 cn)))))) = H1
  have oq : ∀ q : Nat, q ≠ a → H1[q]? = H[q]? := fun q hq => by rw [← hH1]; simp [Array.getElem?_setIfInBounds, Ne.symm hq]
  have hz : H1.size = H.size := by rw [← hH1]; simp
  have hc1' : H1[a]? = some (vp_cell (q_dA g 2) (n1, .inr (.inr (.inr (.inr (va_cpy f f1 0 0 cn)))))) := by rw [← hH1]; simp [Array.getElem?_setIfInBounds, hlt]
  obtain ⟨t, a1, b1⟩ := kk H1 _ la n k (hH.set ha hz oq hc1') (q_dom_up hD (hD a _ ha)) ⟨by rw [hz]; exact hS.1, fun q g1 g2 => by
      rw [oq q (fun e => g2 (by rw [e]; exact hD a _ ha))]
      exact hS.2.1 q g1 g2, fun q hq => by
      rcases List.mem_append.mp hq with h | h
      · exact hS.2.2 q h
      · obtain ⟨z, -, hz⟩ := List.mem_map.mp h
        rw [← hz]
        exact hD a _ ha⟩ hL hn hk _ (by rw [← hH1, ← hT]; rfl) X'
  exact ⟨t, step t a1, b1⟩
end GWN
/-- the same as q_FL, to read alone: a final field of a nest mate -/
def q_FR (own : String) (index ci k : Nat) : Prop := ∃ (C : String) (T : u_T) (N : Nat) (ref : String), q_cl[ci]? = some (C, T, N) ∧ (∀ w ∈ u_ws C T N, w ∈ q_T) ∧ k < N ∧ Cond.fieldLink own index ref (T k).2.1 (T k).2.2.1 ∈ q_T ∧ (ref = (T k).1 ∨ Cond.sameField ref (T k).1 (T k).2.1 (T k).2.2.1 ∈ q_T)
theorem q_FL.r {own : String} {index ci k : Nat} {t : FieldType} {fin : Bool} (h : q_FL own index ci k t fin) : q_FR own index ci k := by
  obtain ⟨C, T, N, ref, ty, h1, h2, h3, h4, h5, -⟩ := h
  exact ⟨C, T, N, ref, h1, h2, h3, h4, h5⟩
theorem g_getR {g : q_G} {Z : q_Z} {A : Nat → Prop} {post : q_R → q_H → Prop} {rc rs : Nat} {h : q_H} {pc pc' : Nat} {ls : List (Option Value)} {st : List Value} {own name : String} {cc : ByteArray} {nL d : Nat} {ret : Option FieldType} (ok : q_ok g Z A own name cc nL ret d) {index ci k a : Nat} {fs : List Value} {v : Value} (hd : decode cc pc = .ok (.getfield index, 3)) (hp : pc + 3 = pc') (hf : q_FR own index ci k) (ha : h a = some (.inl (ci, fs))) (hv : fs[k]? = some v) (kk : GW g Z A post rc rs h pc' ls (v :: st)) : GW g Z A post rc rs h pc ls (.ref a :: st) := by
  obtain ⟨hx, hb, hml, hown, hts, hK, -⟩ := ok
  obtain ⟨C, T, N, ref, hc, hin, hk, hw, hsm⟩ := hf
  subst hp
  intro H locs la n k' hH hD hS hL hn hk'
  refine va_get hx hb hts hin hown hK.1 (hH.one ha) 0 rfl hc k hk (hts _ hw) ?_ hv hd (kk H locs la n k' hH hD hS hL hn hk')
  intro x hx'
  rcases hsm with e | e
  · rw [e]; exact hx'
  · exact u_same (hts _ e) x hx'
end
section
/-! pool entries: by program (wip/gen_links.py) -/
theorem f_Row_9 : q_FL "RatchetGroup$Row" 9 2 0 (.array .int) true := ⟨R_Row, F_Row, 1, "RatchetGroup$Row", t_Row, rfl, i_Row, by decide, q_T_in 50 (by decide +kernel) rfl, Or.inl rfl, t_Row_ok, n_Row, by decide +kernel, rfl, fun _ => rfl⟩
theorem f_Sec_14 : q_FL "RatchetGroup$Secrets" 14 1 0 (.object "RatchetGroup$Row") true := ⟨R_Sec, F_Sec, 10, "RatchetGroup$Secrets", t_Sec, rfl, i_Sec, by decide, q_T_in 59 (by decide +kernel) rfl, Or.inl rfl, t_Sec_ok, n_Sec, by decide +kernel, rfl, fun _ => rfl⟩
theorem f_Sec_20 : q_FL "RatchetGroup$Secrets" 20 1 1 (.object "RatchetGroup$Row") true := ⟨R_Sec, F_Sec, 10, "RatchetGroup$Secrets", t_Sec, rfl, i_Sec, by decide, q_T_in 60 (by decide +kernel) rfl, Or.inl rfl, t_Sec_ok, n_Sec, by decide +kernel, rfl, fun _ => rfl⟩
theorem f_Sec_23 : q_FL "RatchetGroup$Secrets" 23 1 2 (.object "RatchetGroup$Row") true := ⟨R_Sec, F_Sec, 10, "RatchetGroup$Secrets", t_Sec, rfl, i_Sec, by decide, q_T_in 61 (by decide +kernel) rfl, Or.inl rfl, t_Sec_ok, n_Sec, by decide +kernel, rfl, fun _ => rfl⟩
theorem f_Sec_26 : q_FL "RatchetGroup$Secrets" 26 1 3 (.object "RatchetGroup$Row") true := ⟨R_Sec, F_Sec, 10, "RatchetGroup$Secrets", t_Sec, rfl, i_Sec, by decide, q_T_in 62 (by decide +kernel) rfl, Or.inl rfl, t_Sec_ok, n_Sec, by decide +kernel, rfl, fun _ => rfl⟩
theorem f_Sec_29 : q_FL "RatchetGroup$Secrets" 29 1 4 (.object "RatchetGroup$Row") true := ⟨R_Sec, F_Sec, 10, "RatchetGroup$Secrets", t_Sec, rfl, i_Sec, by decide, q_T_in 63 (by decide +kernel) rfl, Or.inl rfl, t_Sec_ok, n_Sec, by decide +kernel, rfl, fun _ => rfl⟩
theorem f_Sec_32 : q_FL "RatchetGroup$Secrets" 32 1 5 (.object "RatchetGroup$Row") true := ⟨R_Sec, F_Sec, 10, "RatchetGroup$Secrets", t_Sec, rfl, i_Sec, by decide, q_T_in 64 (by decide +kernel) rfl, Or.inl rfl, t_Sec_ok, n_Sec, by decide +kernel, rfl, fun _ => rfl⟩
theorem f_Sec_35 : q_FL "RatchetGroup$Secrets" 35 1 6 .int false := ⟨R_Sec, F_Sec, 10, "RatchetGroup$Secrets", t_Sec, rfl, i_Sec, by decide, q_T_in 65 (by decide +kernel) rfl, Or.inl rfl, t_Sec_ok, n_Sec, by decide +kernel, rfl, fun h => by cases h⟩
theorem f_Sec_39 : q_FL "RatchetGroup$Secrets" 39 1 7 .int false := ⟨R_Sec, F_Sec, 10, "RatchetGroup$Secrets", t_Sec, rfl, i_Sec, by decide, q_T_in 66 (by decide +kernel) rfl, Or.inl rfl, t_Sec_ok, n_Sec, by decide +kernel, rfl, fun h => by cases h⟩
theorem f_Sec_42 : q_FL "RatchetGroup$Secrets" 42 1 8 .int false := ⟨R_Sec, F_Sec, 10, "RatchetGroup$Secrets", t_Sec, rfl, i_Sec, by decide, q_T_in 67 (by decide +kernel) rfl, Or.inl rfl, t_Sec_ok, n_Sec, by decide +kernel, rfl, fun h => by cases h⟩
theorem f_Sec_45 : q_FL "RatchetGroup$Secrets" 45 1 9 .int false := ⟨R_Sec, F_Sec, 10, "RatchetGroup$Secrets", t_Sec, rfl, i_Sec, by decide, q_T_in 68 (by decide +kernel) rfl, Or.inl rfl, t_Sec_ok, n_Sec, by decide +kernel, rfl, fun h => by cases h⟩
theorem f_AL_9 : q_FL "java/util/ArrayList" 9 3 0 (.array (.object "java/lang/Object")) false := ⟨R_AL, F_AL, 3, "java/util/ArrayList", t_AL, rfl, i_AL, by decide, q_T_in 104 (by decide +kernel) rfl, Or.inl rfl, t_AL_ok, n_AL, by decide +kernel, rfl, fun h => by cases h⟩
theorem f_AL_48 : q_FL "java/util/ArrayList" 48 3 1 .int false := ⟨R_AL, F_AL, 3, "java/util/ArrayList", t_AL, rfl, i_AL, by decide, q_T_in 105 (by decide +kernel) rfl, Or.inl rfl, t_AL_ok, n_AL, by decide +kernel, rfl, fun h => by cases h⟩
theorem f_ALs_7 : q_FL "java/util/AbstractList" 7 3 2 .int false := ⟨R_AL, F_AL, 3, "java/util/AbstractList", t_AL, rfl, i_AL, by decide, q_T_in 106 (by decide +kernel) rfl, Or.inl rfl, t_AL_ok, n_AL, by decide +kernel, rfl, fun h => by cases h⟩
theorem f_AL_63 : q_FL "java/util/ArrayList" 63 3 2 .int false := ⟨R_AL, F_AL, 3, "java/util/ArrayList", t_AL, rfl, i_AL, by decide, q_T_in 107 (by decide +kernel) rfl, Or.inr (q_T_in 108 (by decide +kernel) rfl), t_AL_ok, n_AL, by decide +kernel, rfl, fun h => by cases h⟩
theorem f_Mem_40 : q_FL "RatchetGroup$Member" 40 4 0 .int true := ⟨R_Mem, F_Mem, 8, "RatchetGroup$Member", t_Mem, rfl, i_Mem, by decide, q_T_in 126 (by decide +kernel) rfl, Or.inl rfl, t_Mem_ok, n_Mem, by decide +kernel, rfl, fun _ => rfl⟩
theorem f_RG_69 : q_FR "RatchetGroup" 69 4 0 := ⟨R_Mem, F_Mem, 8, "RatchetGroup$Member", rfl, i_Mem, by decide, q_T_in 127 (by decide +kernel) rfl, Or.inl rfl⟩
theorem f_Mem_14 : q_FL "RatchetGroup$Member" 14 4 1 (.object "RatchetGroup$Row") true := ⟨R_Mem, F_Mem, 8, "RatchetGroup$Member", t_Mem, rfl, i_Mem, by decide, q_T_in 128 (by decide +kernel) rfl, Or.inl rfl, t_Mem_ok, n_Mem, by decide +kernel, rfl, fun _ => rfl⟩
theorem f_RG_352 : q_FR "RatchetGroup" 352 4 1 := ⟨R_Mem, F_Mem, 8, "RatchetGroup$Member", rfl, i_Mem, by decide, q_T_in 129 (by decide +kernel) rfl, Or.inl rfl⟩
theorem f_Mem_20 : q_FL "RatchetGroup$Member" 20 4 2 (.object "RatchetGroup$Row") true := ⟨R_Mem, F_Mem, 8, "RatchetGroup$Member", t_Mem, rfl, i_Mem, by decide, q_T_in 130 (by decide +kernel) rfl, Or.inl rfl, t_Mem_ok, n_Mem, by decide +kernel, rfl, fun _ => rfl⟩
theorem f_RG_356 : q_FR "RatchetGroup" 356 4 2 := ⟨R_Mem, F_Mem, 8, "RatchetGroup$Member", rfl, i_Mem, by decide, q_T_in 131 (by decide +kernel) rfl, Or.inl rfl⟩
theorem f_Mem_23 : q_FL "RatchetGroup$Member" 23 4 3 .int false := ⟨R_Mem, F_Mem, 8, "RatchetGroup$Member", t_Mem, rfl, i_Mem, by decide, q_T_in 132 (by decide +kernel) rfl, Or.inl rfl, t_Mem_ok, n_Mem, by decide +kernel, rfl, fun h => by cases h⟩
theorem f_RG_353 : q_FL "RatchetGroup" 353 4 3 .int false := ⟨R_Mem, F_Mem, 8, "RatchetGroup$Member", t_Mem, rfl, i_Mem, by decide, q_T_in 133 (by decide +kernel) rfl, Or.inl rfl, t_Mem_ok, n_Mem, by decide +kernel, rfl, fun h => by cases h⟩
theorem f_Mem_27 : q_FL "RatchetGroup$Member" 27 4 4 .int false := ⟨R_Mem, F_Mem, 8, "RatchetGroup$Member", t_Mem, rfl, i_Mem, by decide, q_T_in 134 (by decide +kernel) rfl, Or.inl rfl, t_Mem_ok, n_Mem, by decide +kernel, rfl, fun h => by cases h⟩
theorem f_RG_133 : q_FL "RatchetGroup" 133 4 4 .int false := ⟨R_Mem, F_Mem, 8, "RatchetGroup$Member", t_Mem, rfl, i_Mem, by decide, q_T_in 135 (by decide +kernel) rfl, Or.inl rfl, t_Mem_ok, n_Mem, by decide +kernel, rfl, fun h => by cases h⟩
theorem f_Mem_30 : q_FL "RatchetGroup$Member" 30 4 5 .int false := ⟨R_Mem, F_Mem, 8, "RatchetGroup$Member", t_Mem, rfl, i_Mem, by decide, q_T_in 136 (by decide +kernel) rfl, Or.inl rfl, t_Mem_ok, n_Mem, by decide +kernel, rfl, fun h => by cases h⟩
theorem f_RG_129 : q_FL "RatchetGroup" 129 4 5 .int false := ⟨R_Mem, F_Mem, 8, "RatchetGroup$Member", t_Mem, rfl, i_Mem, by decide, q_T_in 137 (by decide +kernel) rfl, Or.inl rfl, t_Mem_ok, n_Mem, by decide +kernel, rfl, fun h => by cases h⟩
theorem f_Mem_33 : q_FL "RatchetGroup$Member" 33 4 6 .boolean false := ⟨R_Mem, F_Mem, 8, "RatchetGroup$Member", t_Mem, rfl, i_Mem, by decide, q_T_in 138 (by decide +kernel) rfl, Or.inl rfl, t_Mem_ok, n_Mem, by decide +kernel, rfl, fun h => by cases h⟩
theorem f_RG_212 : q_FL "RatchetGroup" 212 4 6 .boolean false := ⟨R_Mem, F_Mem, 8, "RatchetGroup$Member", t_Mem, rfl, i_Mem, by decide, q_T_in 139 (by decide +kernel) rfl, Or.inl rfl, t_Mem_ok, n_Mem, by decide +kernel, rfl, fun h => by cases h⟩
theorem f_Mem_37 : q_FL "RatchetGroup$Member" 37 4 7 .int false := ⟨R_Mem, F_Mem, 8, "RatchetGroup$Member", t_Mem, rfl, i_Mem, by decide, q_T_in 140 (by decide +kernel) rfl, Or.inl rfl, t_Mem_ok, n_Mem, by decide +kernel, rfl, fun h => by cases h⟩
theorem f_RG_202 : q_FL "RatchetGroup" 202 4 7 .int false := ⟨R_Mem, F_Mem, 8, "RatchetGroup$Member", t_Mem, rfl, i_Mem, by decide, q_T_in 141 (by decide +kernel) rfl, Or.inl rfl, t_Mem_ok, n_Mem, by decide +kernel, rfl, fun h => by cases h⟩
theorem f_Tr_14 : q_FL "RatchetGroup$Tree" 14 6 0 (.object "RatchetGroup$Row") true := ⟨R_Tr, F_Tr, 5, "RatchetGroup$Tree", t_Tr, rfl, i_Tr, by decide, q_T_in 234 (by decide +kernel) rfl, Or.inl rfl, t_Tr_ok, n_Tr, by decide +kernel, rfl, fun _ => rfl⟩
theorem f_Mem_46 : q_FR "RatchetGroup$Member" 46 6 0 := ⟨R_Tr, F_Tr, 5, "RatchetGroup$Tree", rfl, i_Tr, by decide, q_T_in 235 (by decide +kernel) rfl, Or.inl rfl⟩
theorem f_Ep_102 : q_FR "RatchetGroup$Epoch" 102 6 0 := ⟨R_Tr, F_Tr, 5, "RatchetGroup$Tree", rfl, i_Tr, by decide, q_T_in 236 (by decide +kernel) rfl, Or.inl rfl⟩
theorem f_RG_260 : q_FR "RatchetGroup" 260 6 0 := ⟨R_Tr, F_Tr, 5, "RatchetGroup$Tree", rfl, i_Tr, by decide, q_T_in 237 (by decide +kernel) rfl, Or.inl rfl⟩
theorem f_Tr_20 : q_FL "RatchetGroup$Tree" 20 6 1 (.object "RatchetGroup$Row") true := ⟨R_Tr, F_Tr, 5, "RatchetGroup$Tree", t_Tr, rfl, i_Tr, by decide, q_T_in 238 (by decide +kernel) rfl, Or.inl rfl, t_Tr_ok, n_Tr, by decide +kernel, rfl, fun _ => rfl⟩
theorem f_RG_222 : q_FR "RatchetGroup" 222 6 1 := ⟨R_Tr, F_Tr, 5, "RatchetGroup$Tree", rfl, i_Tr, by decide, q_T_in 239 (by decide +kernel) rfl, Or.inl rfl⟩
theorem f_Tr_23 : q_FL "RatchetGroup$Tree" 23 6 2 (.object "RatchetGroup$Row") true := ⟨R_Tr, F_Tr, 5, "RatchetGroup$Tree", t_Tr, rfl, i_Tr, by decide, q_T_in 240 (by decide +kernel) rfl, Or.inl rfl, t_Tr_ok, n_Tr, by decide +kernel, rfl, fun _ => rfl⟩
theorem f_RG_225 : q_FR "RatchetGroup" 225 6 2 := ⟨R_Tr, F_Tr, 5, "RatchetGroup$Tree", rfl, i_Tr, by decide, q_T_in 241 (by decide +kernel) rfl, Or.inl rfl⟩
theorem f_Tr_26 : q_FL "RatchetGroup$Tree" 26 6 3 (.object "RatchetGroup$Row") true := ⟨R_Tr, F_Tr, 5, "RatchetGroup$Tree", t_Tr, rfl, i_Tr, by decide, q_T_in 242 (by decide +kernel) rfl, Or.inl rfl, t_Tr_ok, n_Tr, by decide +kernel, rfl, fun _ => rfl⟩
theorem f_Tr_29 : q_FL "RatchetGroup$Tree" 29 6 4 .int false := ⟨R_Tr, F_Tr, 5, "RatchetGroup$Tree", t_Tr, rfl, i_Tr, by decide, q_T_in 243 (by decide +kernel) rfl, Or.inl rfl, t_Tr_ok, n_Tr, by decide +kernel, rfl, fun h => by cases h⟩
theorem f_Ep_75 : q_FL "RatchetGroup$Epoch" 75 6 4 .int false := ⟨R_Tr, F_Tr, 5, "RatchetGroup$Tree", t_Tr, rfl, i_Tr, by decide, q_T_in 244 (by decide +kernel) rfl, Or.inl rfl, t_Tr_ok, n_Tr, by decide +kernel, rfl, fun h => by cases h⟩
theorem f_Mem_104 : q_FL "RatchetGroup$Member" 104 6 4 .int false := ⟨R_Tr, F_Tr, 5, "RatchetGroup$Tree", t_Tr, rfl, i_Tr, by decide, q_T_in 245 (by decide +kernel) rfl, Or.inl rfl, t_Tr_ok, n_Tr, by decide +kernel, rfl, fun h => by cases h⟩
theorem f_RG_236 : q_FL "RatchetGroup" 236 6 4 .int false := ⟨R_Tr, F_Tr, 5, "RatchetGroup$Tree", t_Tr, rfl, i_Tr, by decide, q_T_in 246 (by decide +kernel) rfl, Or.inl rfl, t_Tr_ok, n_Tr, by decide +kernel, rfl, fun h => by cases h⟩
theorem f_Ep_46 : q_FL "RatchetGroup$Epoch" 46 5 0 .int true := ⟨R_Ep, F_Ep, 10, "RatchetGroup$Epoch", t_Ep, rfl, i_Ep, by decide, q_T_in 260 (by decide +kernel) rfl, Or.inl rfl, t_Ep_ok, n_Ep, by decide +kernel, rfl, fun _ => rfl⟩
theorem f_Mem_61 : q_FR "RatchetGroup$Member" 61 5 0 := ⟨R_Ep, F_Ep, 10, "RatchetGroup$Epoch", rfl, i_Ep, by decide, q_T_in 261 (by decide +kernel) rfl, Or.inl rfl⟩
theorem f_RG_136 : q_FR "RatchetGroup" 136 5 0 := ⟨R_Ep, F_Ep, 10, "RatchetGroup$Epoch", rfl, i_Ep, by decide, q_T_in 262 (by decide +kernel) rfl, Or.inl rfl⟩
theorem f_Ep_49 : q_FL "RatchetGroup$Epoch" 49 5 1 .int true := ⟨R_Ep, F_Ep, 10, "RatchetGroup$Epoch", t_Ep, rfl, i_Ep, by decide, q_T_in 263 (by decide +kernel) rfl, Or.inl rfl, t_Ep_ok, n_Ep, by decide +kernel, rfl, fun _ => rfl⟩
theorem f_RG_239 : q_FR "RatchetGroup" 239 5 1 := ⟨R_Ep, F_Ep, 10, "RatchetGroup$Epoch", rfl, i_Ep, by decide, q_T_in 264 (by decide +kernel) rfl, Or.inl rfl⟩
theorem f_Ep_12 : q_FL "RatchetGroup$Epoch" 12 5 2 (.object "RatchetGroup$Tree") true := ⟨R_Ep, F_Ep, 10, "RatchetGroup$Epoch", t_Ep, rfl, i_Ep, by decide, q_T_in 265 (by decide +kernel) rfl, Or.inl rfl, t_Ep_ok, n_Ep, by decide +kernel, rfl, fun _ => rfl⟩
theorem f_RG_65 : q_FR "RatchetGroup" 65 5 2 := ⟨R_Ep, F_Ep, 10, "RatchetGroup$Epoch", rfl, i_Ep, by decide, q_T_in 266 (by decide +kernel) rfl, Or.inl rfl⟩
theorem f_Mem_64 : q_FR "RatchetGroup$Member" 64 5 2 := ⟨R_Ep, F_Ep, 10, "RatchetGroup$Epoch", rfl, i_Ep, by decide, q_T_in 267 (by decide +kernel) rfl, Or.inl rfl⟩
theorem f_Ep_23 : q_FL "RatchetGroup$Epoch" 23 5 3 (.object "RatchetGroup$Row") true := ⟨R_Ep, F_Ep, 10, "RatchetGroup$Epoch", t_Ep, rfl, i_Ep, by decide, q_T_in 268 (by decide +kernel) rfl, Or.inl rfl, t_Ep_ok, n_Ep, by decide +kernel, rfl, fun _ => rfl⟩
theorem f_RG_332 : q_FR "RatchetGroup" 332 5 3 := ⟨R_Ep, F_Ep, 10, "RatchetGroup$Epoch", rfl, i_Ep, by decide, q_T_in 269 (by decide +kernel) rfl, Or.inl rfl⟩
theorem f_Ep_27 : q_FL "RatchetGroup$Epoch" 27 5 4 .int false := ⟨R_Ep, F_Ep, 10, "RatchetGroup$Epoch", t_Ep, rfl, i_Ep, by decide, q_T_in 270 (by decide +kernel) rfl, Or.inl rfl, t_Ep_ok, n_Ep, by decide +kernel, rfl, fun h => by cases h⟩
theorem f_RG_61 : q_FL "RatchetGroup" 61 5 4 .int false := ⟨R_Ep, F_Ep, 10, "RatchetGroup$Epoch", t_Ep, rfl, i_Ep, by decide, q_T_in 271 (by decide +kernel) rfl, Or.inl rfl, t_Ep_ok, n_Ep, by decide +kernel, rfl, fun h => by cases h⟩
theorem f_Ep_31 : q_FL "RatchetGroup$Epoch" 31 5 5 .int false := ⟨R_Ep, F_Ep, 10, "RatchetGroup$Epoch", t_Ep, rfl, i_Ep, by decide, q_T_in 272 (by decide +kernel) rfl, Or.inl rfl, t_Ep_ok, n_Ep, by decide +kernel, rfl, fun h => by cases h⟩
theorem f_Mem_107 : q_FL "RatchetGroup$Member" 107 5 5 .int false := ⟨R_Ep, F_Ep, 10, "RatchetGroup$Epoch", t_Ep, rfl, i_Ep, by decide, q_T_in 273 (by decide +kernel) rfl, Or.inl rfl, t_Ep_ok, n_Ep, by decide +kernel, rfl, fun h => by cases h⟩
theorem f_RG_242 : q_FL "RatchetGroup" 242 5 5 .int false := ⟨R_Ep, F_Ep, 10, "RatchetGroup$Epoch", t_Ep, rfl, i_Ep, by decide, q_T_in 274 (by decide +kernel) rfl, Or.inl rfl, t_Ep_ok, n_Ep, by decide +kernel, rfl, fun h => by cases h⟩
theorem f_Ep_34 : q_FL "RatchetGroup$Epoch" 34 5 6 .int false := ⟨R_Ep, F_Ep, 10, "RatchetGroup$Epoch", t_Ep, rfl, i_Ep, by decide, q_T_in 275 (by decide +kernel) rfl, Or.inl rfl, t_Ep_ok, n_Ep, by decide +kernel, rfl, fun h => by cases h⟩
theorem f_RG_245 : q_FL "RatchetGroup" 245 5 6 .int false := ⟨R_Ep, F_Ep, 10, "RatchetGroup$Epoch", t_Ep, rfl, i_Ep, by decide, q_T_in 276 (by decide +kernel) rfl, Or.inl rfl, t_Ep_ok, n_Ep, by decide +kernel, rfl, fun h => by cases h⟩
theorem f_Ep_37 : q_FL "RatchetGroup$Epoch" 37 5 7 .int false := ⟨R_Ep, F_Ep, 10, "RatchetGroup$Epoch", t_Ep, rfl, i_Ep, by decide, q_T_in 277 (by decide +kernel) rfl, Or.inl rfl, t_Ep_ok, n_Ep, by decide +kernel, rfl, fun h => by cases h⟩
theorem f_Mem_83 : q_FL "RatchetGroup$Member" 83 5 7 .int false := ⟨R_Ep, F_Ep, 10, "RatchetGroup$Epoch", t_Ep, rfl, i_Ep, by decide, q_T_in 278 (by decide +kernel) rfl, Or.inl rfl, t_Ep_ok, n_Ep, by decide +kernel, rfl, fun h => by cases h⟩
theorem f_RG_248 : q_FL "RatchetGroup" 248 5 7 .int false := ⟨R_Ep, F_Ep, 10, "RatchetGroup$Epoch", t_Ep, rfl, i_Ep, by decide, q_T_in 279 (by decide +kernel) rfl, Or.inl rfl, t_Ep_ok, n_Ep, by decide +kernel, rfl, fun h => by cases h⟩
theorem f_Ep_40 : q_FL "RatchetGroup$Epoch" 40 5 8 .int false := ⟨R_Ep, F_Ep, 10, "RatchetGroup$Epoch", t_Ep, rfl, i_Ep, by decide, q_T_in 280 (by decide +kernel) rfl, Or.inl rfl, t_Ep_ok, n_Ep, by decide +kernel, rfl, fun h => by cases h⟩
theorem f_RG_251 : q_FL "RatchetGroup" 251 5 8 .int false := ⟨R_Ep, F_Ep, 10, "RatchetGroup$Epoch", t_Ep, rfl, i_Ep, by decide, q_T_in 281 (by decide +kernel) rfl, Or.inl rfl, t_Ep_ok, n_Ep, by decide +kernel, rfl, fun h => by cases h⟩
theorem f_Ep_43 : q_FL "RatchetGroup$Epoch" 43 5 9 .int false := ⟨R_Ep, F_Ep, 10, "RatchetGroup$Epoch", t_Ep, rfl, i_Ep, by decide, q_T_in 282 (by decide +kernel) rfl, Or.inl rfl, t_Ep_ok, n_Ep, by decide +kernel, rfl, fun h => by cases h⟩
theorem f_RG_254 : q_FL "RatchetGroup" 254 5 9 .int false := ⟨R_Ep, F_Ep, 10, "RatchetGroup$Epoch", t_Ep, rfl, i_Ep, by decide, q_T_in 283 (by decide +kernel) rfl, Or.inl rfl, t_Ep_ok, n_Ep, by decide +kernel, rfl, fun h => by cases h⟩
theorem f_RG_12 : q_FL "RatchetGroup" 12 0 0 (.object "RatchetGroup$Secrets") true := ⟨R_RG, F_RG, 7, "RatchetGroup", t_RG, rfl, i_RG, by decide, q_T_in 359 (by decide +kernel) rfl, Or.inl rfl, t_RG_ok, n_RG, by decide +kernel, rfl, fun _ => rfl⟩
theorem f_RG_19 : q_FL "RatchetGroup" 19 0 1 (.object "java/util/ArrayList") true := ⟨R_RG, F_RG, 7, "RatchetGroup", t_RG, rfl, i_RG, by decide, q_T_in 360 (by decide +kernel) rfl, Or.inl rfl, t_RG_ok, n_RG, by decide +kernel, rfl, fun _ => rfl⟩
theorem f_RG_23 : q_FL "RatchetGroup" 23 0 2 (.object "java/util/ArrayList") true := ⟨R_RG, F_RG, 7, "RatchetGroup", t_RG, rfl, i_RG, by decide, q_T_in 361 (by decide +kernel) rfl, Or.inl rfl, t_RG_ok, n_RG, by decide +kernel, rfl, fun _ => rfl⟩
theorem f_RG_26 : q_FL "RatchetGroup" 26 0 3 (.object "java/util/ArrayList") true := ⟨R_RG, F_RG, 7, "RatchetGroup", t_RG, rfl, i_RG, by decide, q_T_in 362 (by decide +kernel) rfl, Or.inl rfl, t_RG_ok, n_RG, by decide +kernel, rfl, fun _ => rfl⟩
theorem f_RG_29 : q_FL "RatchetGroup" 29 0 4 (.object "java/util/ArrayList") true := ⟨R_RG, F_RG, 7, "RatchetGroup", t_RG, rfl, i_RG, by decide, q_T_in 363 (by decide +kernel) rfl, Or.inl rfl, t_RG_ok, n_RG, by decide +kernel, rfl, fun _ => rfl⟩
theorem f_RG_37 : q_FL "RatchetGroup" 37 0 5 (.object "RatchetGroup$Row") true := ⟨R_RG, F_RG, 7, "RatchetGroup", t_RG, rfl, i_RG, by decide, q_T_in 364 (by decide +kernel) rfl, Or.inl rfl, t_RG_ok, n_RG, by decide +kernel, rfl, fun _ => rfl⟩
theorem f_RG_53 : q_FL "RatchetGroup" 53 0 6 (.object "RatchetGroup$Epoch") false := ⟨R_RG, F_RG, 7, "RatchetGroup", t_RG, rfl, i_RG, by decide, q_T_in 365 (by decide +kernel) rfl, Or.inl rfl, t_RG_ok, n_RG, by decide +kernel, rfl, fun h => by cases h⟩
theorem f_KP_22 : q_FL "RatchetGroup$KeyPackage" 22 7 0 (.object "RatchetGroup$Member") true := ⟨R_KP, F_KP, 6, "RatchetGroup$KeyPackage", t_KP, rfl, i_KP, by decide, q_T_in 587 (by decide +kernel) rfl, Or.inl rfl, t_KP_ok, n_KP, by decide +kernel, rfl, fun _ => rfl⟩
theorem f_RG_303 : q_FR "RatchetGroup" 303 7 0 := ⟨R_KP, F_KP, 6, "RatchetGroup$KeyPackage", rfl, i_KP, by decide, q_T_in 588 (by decide +kernel) rfl, Or.inl rfl⟩
theorem f_KP_26 : q_FL "RatchetGroup$KeyPackage" 26 7 1 .int true := ⟨R_KP, F_KP, 6, "RatchetGroup$KeyPackage", t_KP, rfl, i_KP, by decide, q_T_in 589 (by decide +kernel) rfl, Or.inl rfl, t_KP_ok, n_KP, by decide +kernel, rfl, fun _ => rfl⟩
theorem f_RG_322 : q_FR "RatchetGroup" 322 7 1 := ⟨R_KP, F_KP, 6, "RatchetGroup$KeyPackage", rfl, i_KP, by decide, q_T_in 590 (by decide +kernel) rfl, Or.inl rfl⟩
theorem f_KP_29 : q_FL "RatchetGroup$KeyPackage" 29 7 2 .int true := ⟨R_KP, F_KP, 6, "RatchetGroup$KeyPackage", t_KP, rfl, i_KP, by decide, q_T_in 591 (by decide +kernel) rfl, Or.inl rfl, t_KP_ok, n_KP, by decide +kernel, rfl, fun _ => rfl⟩
theorem f_RG_317 : q_FR "RatchetGroup" 317 7 2 := ⟨R_KP, F_KP, 6, "RatchetGroup$KeyPackage", rfl, i_KP, by decide, q_T_in 592 (by decide +kernel) rfl, Or.inl rfl⟩
theorem f_KP_9 : q_FL "RatchetGroup$KeyPackage" 9 7 3 .int false := ⟨R_KP, F_KP, 6, "RatchetGroup$KeyPackage", t_KP, rfl, i_KP, by decide, q_T_in 593 (by decide +kernel) rfl, Or.inl rfl, t_KP_ok, n_KP, by decide +kernel, rfl, fun h => by cases h⟩
theorem f_RG_320 : q_FL "RatchetGroup" 320 7 3 .int false := ⟨R_KP, F_KP, 6, "RatchetGroup$KeyPackage", t_KP, rfl, i_KP, by decide, q_T_in 594 (by decide +kernel) rfl, Or.inl rfl, t_KP_ok, n_KP, by decide +kernel, rfl, fun h => by cases h⟩
theorem f_KP_15 : q_FL "RatchetGroup$KeyPackage" 15 7 4 .int false := ⟨R_KP, F_KP, 6, "RatchetGroup$KeyPackage", t_KP, rfl, i_KP, by decide, q_T_in 595 (by decide +kernel) rfl, Or.inl rfl, t_KP_ok, n_KP, by decide +kernel, rfl, fun h => by cases h⟩
theorem f_RG_321 : q_FL "RatchetGroup" 321 7 4 .int false := ⟨R_KP, F_KP, 6, "RatchetGroup$KeyPackage", t_KP, rfl, i_KP, by decide, q_T_in 596 (by decide +kernel) rfl, Or.inl rfl, t_KP_ok, n_KP, by decide +kernel, rfl, fun h => by cases h⟩
theorem f_KP_18 : q_FL "RatchetGroup$KeyPackage" 18 7 5 .boolean false := ⟨R_KP, F_KP, 6, "RatchetGroup$KeyPackage", t_KP, rfl, i_KP, by decide, q_T_in 597 (by decide +kernel) rfl, Or.inl rfl, t_KP_ok, n_KP, by decide +kernel, rfl, fun h => by cases h⟩
theorem f_RG_335 : q_FL "RatchetGroup" 335 7 5 .boolean false := ⟨R_KP, F_KP, 6, "RatchetGroup$KeyPackage", t_KP, rfl, i_KP, by decide, q_T_in 598 (by decide +kernel) rfl, Or.inl rfl, t_KP_ok, n_KP, by decide +kernel, rfl, fun h => by cases h⟩
theorem f_Ad_7 : q_FL "RatchetGroup$Addition" 7 8 0 (.object "RatchetGroup$KeyPackage") true := ⟨R_Ad, F_Ad, 1, "RatchetGroup$Addition", t_Ad, rfl, i_Ad, by decide, q_T_in 632 (by decide +kernel) rfl, Or.inl rfl, t_Ad_ok, n_Ad, by decide +kernel, rfl, fun _ => rfl⟩
theorem f_RG_295 : q_FR "RatchetGroup" 295 8 0 := ⟨R_Ad, F_Ad, 1, "RatchetGroup$Addition", rfl, i_Ad, by decide, q_T_in 633 (by decide +kernel) rfl, Or.inl rfl⟩
theorem f_Re_7 : q_FL "RatchetGroup$Removal" 7 9 0 .int true := ⟨R_Re, F_Re, 1, "RatchetGroup$Removal", t_Re, rfl, i_Re, by decide, q_T_in 651 (by decide +kernel) rfl, Or.inl rfl, t_Re_ok, n_Re, by decide +kernel, rfl, fun _ => rfl⟩
theorem f_RG_267 : q_FR "RatchetGroup" 267 9 0 := ⟨R_Re, F_Re, 1, "RatchetGroup$Removal", rfl, i_Re, by decide, q_T_in 652 (by decide +kernel) rfl, Or.inl rfl⟩
theorem f_Rn_7 : q_FL "RatchetGroup$Renewal" 7 10 0 .int true := ⟨R_Rn, F_Rn, 2, "RatchetGroup$Renewal", t_Rn, rfl, i_Rn, by decide, q_T_in 673 (by decide +kernel) rfl, Or.inl rfl, t_Rn_ok, n_Rn, by decide +kernel, rfl, fun _ => rfl⟩
theorem f_Ep_52 : q_FR "RatchetGroup$Epoch" 52 10 0 := ⟨R_Rn, F_Rn, 2, "RatchetGroup$Renewal", rfl, i_Rn, by decide, q_T_in 674 (by decide +kernel) rfl, Or.inl rfl⟩
theorem f_RG_287 : q_FR "RatchetGroup" 287 10 0 := ⟨R_Rn, F_Rn, 2, "RatchetGroup$Renewal", rfl, i_Rn, by decide, q_T_in 675 (by decide +kernel) rfl, Or.inl rfl⟩
theorem f_Rn_13 : q_FL "RatchetGroup$Renewal" 13 10 1 .int true := ⟨R_Rn, F_Rn, 2, "RatchetGroup$Renewal", t_Rn, rfl, i_Rn, by decide, q_T_in 676 (by decide +kernel) rfl, Or.inl rfl, t_Rn_ok, n_Rn, by decide +kernel, rfl, fun _ => rfl⟩
theorem f_RG_288 : q_FR "RatchetGroup" 288 10 1 := ⟨R_Rn, F_Rn, 2, "RatchetGroup$Renewal", rfl, i_Rn, by decide, q_T_in 677 (by decide +kernel) rfl, Or.inl rfl⟩
theorem f_Mo_155 : q_FL "RatchetGroupModel" 155 11 0 .int false := ⟨R_Mo, F_Mo, 52, "RatchetGroupModel", t_Mo, rfl, i_Mo, by decide, q_T_in 894 (by decide +kernel) rfl, Or.inl rfl, t_Mo_ok, n_Mo, by decide +kernel, rfl, fun h => by cases h⟩
theorem f_Mo_158 : q_FL "RatchetGroupModel" 158 11 1 .int false := ⟨R_Mo, F_Mo, 52, "RatchetGroupModel", t_Mo, rfl, i_Mo, by decide, q_T_in 895 (by decide +kernel) rfl, Or.inl rfl, t_Mo_ok, n_Mo, by decide +kernel, rfl, fun h => by cases h⟩
theorem f_Mo_7 : q_FL "RatchetGroupModel" 7 11 2 (.array .int) true := ⟨R_Mo, F_Mo, 52, "RatchetGroupModel", t_Mo, rfl, i_Mo, by decide, q_T_in 896 (by decide +kernel) rfl, Or.inl rfl, t_Mo_ok, n_Mo, by decide +kernel, rfl, fun _ => rfl⟩
theorem f_Mo_13 : q_FL "RatchetGroupModel" 13 11 3 (.array .int) true := ⟨R_Mo, F_Mo, 52, "RatchetGroupModel", t_Mo, rfl, i_Mo, by decide, q_T_in 897 (by decide +kernel) rfl, Or.inl rfl, t_Mo_ok, n_Mo, by decide +kernel, rfl, fun _ => rfl⟩
theorem f_Mo_16 : q_FL "RatchetGroupModel" 16 11 4 (.array .int) true := ⟨R_Mo, F_Mo, 52, "RatchetGroupModel", t_Mo, rfl, i_Mo, by decide, q_T_in 898 (by decide +kernel) rfl, Or.inl rfl, t_Mo_ok, n_Mo, by decide +kernel, rfl, fun _ => rfl⟩
theorem f_Mo_19 : q_FL "RatchetGroupModel" 19 11 5 (.array .boolean) true := ⟨R_Mo, F_Mo, 52, "RatchetGroupModel", t_Mo, rfl, i_Mo, by decide, q_T_in 899 (by decide +kernel) rfl, Or.inl rfl, t_Mo_ok, n_Mo, by decide +kernel, rfl, fun _ => rfl⟩
theorem f_Mo_23 : q_FL "RatchetGroupModel" 23 11 6 (.array .boolean) true := ⟨R_Mo, F_Mo, 52, "RatchetGroupModel", t_Mo, rfl, i_Mo, by decide, q_T_in 900 (by decide +kernel) rfl, Or.inl rfl, t_Mo_ok, n_Mo, by decide +kernel, rfl, fun _ => rfl⟩
theorem f_Mo_161 : q_FL "RatchetGroupModel" 161 11 7 .int false := ⟨R_Mo, F_Mo, 52, "RatchetGroupModel", t_Mo, rfl, i_Mo, by decide, q_T_in 901 (by decide +kernel) rfl, Or.inl rfl, t_Mo_ok, n_Mo, by decide +kernel, rfl, fun h => by cases h⟩
theorem f_Mo_26 : q_FL "RatchetGroupModel" 26 11 8 (.array .int) true := ⟨R_Mo, F_Mo, 52, "RatchetGroupModel", t_Mo, rfl, i_Mo, by decide, q_T_in 902 (by decide +kernel) rfl, Or.inl rfl, t_Mo_ok, n_Mo, by decide +kernel, rfl, fun _ => rfl⟩
theorem f_Mo_29 : q_FL "RatchetGroupModel" 29 11 9 (.array .int) true := ⟨R_Mo, F_Mo, 52, "RatchetGroupModel", t_Mo, rfl, i_Mo, by decide, q_T_in 903 (by decide +kernel) rfl, Or.inl rfl, t_Mo_ok, n_Mo, by decide +kernel, rfl, fun _ => rfl⟩
theorem f_Mo_32 : q_FL "RatchetGroupModel" 32 11 10 (.array .int) true := ⟨R_Mo, F_Mo, 52, "RatchetGroupModel", t_Mo, rfl, i_Mo, by decide, q_T_in 904 (by decide +kernel) rfl, Or.inl rfl, t_Mo_ok, n_Mo, by decide +kernel, rfl, fun _ => rfl⟩
theorem f_Mo_35 : q_FL "RatchetGroupModel" 35 11 11 (.array .int) true := ⟨R_Mo, F_Mo, 52, "RatchetGroupModel", t_Mo, rfl, i_Mo, by decide, q_T_in 905 (by decide +kernel) rfl, Or.inl rfl, t_Mo_ok, n_Mo, by decide +kernel, rfl, fun _ => rfl⟩
theorem f_Mo_151 : q_FL "RatchetGroupModel" 151 11 12 .int false := ⟨R_Mo, F_Mo, 52, "RatchetGroupModel", t_Mo, rfl, i_Mo, by decide, q_T_in 906 (by decide +kernel) rfl, Or.inl rfl, t_Mo_ok, n_Mo, by decide +kernel, rfl, fun h => by cases h⟩
theorem f_Mo_38 : q_FL "RatchetGroupModel" 38 11 13 (.array .int) true := ⟨R_Mo, F_Mo, 52, "RatchetGroupModel", t_Mo, rfl, i_Mo, by decide, q_T_in 907 (by decide +kernel) rfl, Or.inl rfl, t_Mo_ok, n_Mo, by decide +kernel, rfl, fun _ => rfl⟩
theorem f_Mo_41 : q_FL "RatchetGroupModel" 41 11 14 (.array .int) true := ⟨R_Mo, F_Mo, 52, "RatchetGroupModel", t_Mo, rfl, i_Mo, by decide, q_T_in 908 (by decide +kernel) rfl, Or.inl rfl, t_Mo_ok, n_Mo, by decide +kernel, rfl, fun _ => rfl⟩
theorem f_Mo_44 : q_FL "RatchetGroupModel" 44 11 15 (.array .int) true := ⟨R_Mo, F_Mo, 52, "RatchetGroupModel", t_Mo, rfl, i_Mo, by decide, q_T_in 909 (by decide +kernel) rfl, Or.inl rfl, t_Mo_ok, n_Mo, by decide +kernel, rfl, fun _ => rfl⟩
theorem f_Mo_47 : q_FL "RatchetGroupModel" 47 11 16 (.array .int) true := ⟨R_Mo, F_Mo, 52, "RatchetGroupModel", t_Mo, rfl, i_Mo, by decide, q_T_in 910 (by decide +kernel) rfl, Or.inl rfl, t_Mo_ok, n_Mo, by decide +kernel, rfl, fun _ => rfl⟩
theorem f_Mo_50 : q_FL "RatchetGroupModel" 50 11 17 (.array .int) true := ⟨R_Mo, F_Mo, 52, "RatchetGroupModel", t_Mo, rfl, i_Mo, by decide, q_T_in 911 (by decide +kernel) rfl, Or.inl rfl, t_Mo_ok, n_Mo, by decide +kernel, rfl, fun _ => rfl⟩
theorem f_Mo_53 : q_FL "RatchetGroupModel" 53 11 18 (.array .int) true := ⟨R_Mo, F_Mo, 52, "RatchetGroupModel", t_Mo, rfl, i_Mo, by decide, q_T_in 912 (by decide +kernel) rfl, Or.inl rfl, t_Mo_ok, n_Mo, by decide +kernel, rfl, fun _ => rfl⟩
theorem f_Mo_56 : q_FL "RatchetGroupModel" 56 11 19 (.array .int) true := ⟨R_Mo, F_Mo, 52, "RatchetGroupModel", t_Mo, rfl, i_Mo, by decide, q_T_in 913 (by decide +kernel) rfl, Or.inl rfl, t_Mo_ok, n_Mo, by decide +kernel, rfl, fun _ => rfl⟩
theorem f_Mo_59 : q_FL "RatchetGroupModel" 59 11 20 (.array .int) true := ⟨R_Mo, F_Mo, 52, "RatchetGroupModel", t_Mo, rfl, i_Mo, by decide, q_T_in 914 (by decide +kernel) rfl, Or.inl rfl, t_Mo_ok, n_Mo, by decide +kernel, rfl, fun _ => rfl⟩
theorem f_Mo_62 : q_FL "RatchetGroupModel" 62 11 21 (.array .boolean) true := ⟨R_Mo, F_Mo, 52, "RatchetGroupModel", t_Mo, rfl, i_Mo, by decide, q_T_in 915 (by decide +kernel) rfl, Or.inl rfl, t_Mo_ok, n_Mo, by decide +kernel, rfl, fun _ => rfl⟩
theorem f_Mo_65 : q_FL "RatchetGroupModel" 65 11 22 (.array .int) true := ⟨R_Mo, F_Mo, 52, "RatchetGroupModel", t_Mo, rfl, i_Mo, by decide, q_T_in 916 (by decide +kernel) rfl, Or.inl rfl, t_Mo_ok, n_Mo, by decide +kernel, rfl, fun _ => rfl⟩
theorem f_Mo_68 : q_FL "RatchetGroupModel" 68 11 23 (.array .int) true := ⟨R_Mo, F_Mo, 52, "RatchetGroupModel", t_Mo, rfl, i_Mo, by decide, q_T_in 917 (by decide +kernel) rfl, Or.inl rfl, t_Mo_ok, n_Mo, by decide +kernel, rfl, fun _ => rfl⟩
theorem f_Mo_71 : q_FL "RatchetGroupModel" 71 11 24 (.array .int) true := ⟨R_Mo, F_Mo, 52, "RatchetGroupModel", t_Mo, rfl, i_Mo, by decide, q_T_in 918 (by decide +kernel) rfl, Or.inl rfl, t_Mo_ok, n_Mo, by decide +kernel, rfl, fun _ => rfl⟩
theorem f_Mo_74 : q_FL "RatchetGroupModel" 74 11 25 (.array .int) true := ⟨R_Mo, F_Mo, 52, "RatchetGroupModel", t_Mo, rfl, i_Mo, by decide, q_T_in 919 (by decide +kernel) rfl, Or.inl rfl, t_Mo_ok, n_Mo, by decide +kernel, rfl, fun _ => rfl⟩
theorem f_Mo_77 : q_FL "RatchetGroupModel" 77 11 26 (.array .int) true := ⟨R_Mo, F_Mo, 52, "RatchetGroupModel", t_Mo, rfl, i_Mo, by decide, q_T_in 920 (by decide +kernel) rfl, Or.inl rfl, t_Mo_ok, n_Mo, by decide +kernel, rfl, fun _ => rfl⟩
theorem f_Mo_80 : q_FL "RatchetGroupModel" 80 11 27 (.array .int) true := ⟨R_Mo, F_Mo, 52, "RatchetGroupModel", t_Mo, rfl, i_Mo, by decide, q_T_in 921 (by decide +kernel) rfl, Or.inl rfl, t_Mo_ok, n_Mo, by decide +kernel, rfl, fun _ => rfl⟩
theorem f_Mo_83 : q_FL "RatchetGroupModel" 83 11 28 (.array .int) true := ⟨R_Mo, F_Mo, 52, "RatchetGroupModel", t_Mo, rfl, i_Mo, by decide, q_T_in 922 (by decide +kernel) rfl, Or.inl rfl, t_Mo_ok, n_Mo, by decide +kernel, rfl, fun _ => rfl⟩
theorem f_Mo_86 : q_FL "RatchetGroupModel" 86 11 29 (.array .int) true := ⟨R_Mo, F_Mo, 52, "RatchetGroupModel", t_Mo, rfl, i_Mo, by decide, q_T_in 923 (by decide +kernel) rfl, Or.inl rfl, t_Mo_ok, n_Mo, by decide +kernel, rfl, fun _ => rfl⟩
theorem f_Mo_89 : q_FL "RatchetGroupModel" 89 11 30 (.array .int) true := ⟨R_Mo, F_Mo, 52, "RatchetGroupModel", t_Mo, rfl, i_Mo, by decide, q_T_in 924 (by decide +kernel) rfl, Or.inl rfl, t_Mo_ok, n_Mo, by decide +kernel, rfl, fun _ => rfl⟩
theorem f_Mo_92 : q_FL "RatchetGroupModel" 92 11 31 (.array .int) true := ⟨R_Mo, F_Mo, 52, "RatchetGroupModel", t_Mo, rfl, i_Mo, by decide, q_T_in 925 (by decide +kernel) rfl, Or.inl rfl, t_Mo_ok, n_Mo, by decide +kernel, rfl, fun _ => rfl⟩
theorem f_Mo_95 : q_FL "RatchetGroupModel" 95 11 32 (.array .boolean) true := ⟨R_Mo, F_Mo, 52, "RatchetGroupModel", t_Mo, rfl, i_Mo, by decide, q_T_in 926 (by decide +kernel) rfl, Or.inl rfl, t_Mo_ok, n_Mo, by decide +kernel, rfl, fun _ => rfl⟩
theorem f_Mo_98 : q_FL "RatchetGroupModel" 98 11 33 (.array .int) true := ⟨R_Mo, F_Mo, 52, "RatchetGroupModel", t_Mo, rfl, i_Mo, by decide, q_T_in 927 (by decide +kernel) rfl, Or.inl rfl, t_Mo_ok, n_Mo, by decide +kernel, rfl, fun _ => rfl⟩
theorem f_Mo_101 : q_FL "RatchetGroupModel" 101 11 34 (.array .int) true := ⟨R_Mo, F_Mo, 52, "RatchetGroupModel", t_Mo, rfl, i_Mo, by decide, q_T_in 928 (by decide +kernel) rfl, Or.inl rfl, t_Mo_ok, n_Mo, by decide +kernel, rfl, fun _ => rfl⟩
theorem f_Mo_189 : q_FL "RatchetGroupModel" 189 11 35 .int false := ⟨R_Mo, F_Mo, 52, "RatchetGroupModel", t_Mo, rfl, i_Mo, by decide, q_T_in 929 (by decide +kernel) rfl, Or.inl rfl, t_Mo_ok, n_Mo, by decide +kernel, rfl, fun h => by cases h⟩
theorem f_Mo_104 : q_FL "RatchetGroupModel" 104 11 36 (.array .int) true := ⟨R_Mo, F_Mo, 52, "RatchetGroupModel", t_Mo, rfl, i_Mo, by decide, q_T_in 930 (by decide +kernel) rfl, Or.inl rfl, t_Mo_ok, n_Mo, by decide +kernel, rfl, fun _ => rfl⟩
theorem f_Mo_107 : q_FL "RatchetGroupModel" 107 11 37 (.array .int) true := ⟨R_Mo, F_Mo, 52, "RatchetGroupModel", t_Mo, rfl, i_Mo, by decide, q_T_in 931 (by decide +kernel) rfl, Or.inl rfl, t_Mo_ok, n_Mo, by decide +kernel, rfl, fun _ => rfl⟩
theorem f_Mo_110 : q_FL "RatchetGroupModel" 110 11 38 (.array .int) true := ⟨R_Mo, F_Mo, 52, "RatchetGroupModel", t_Mo, rfl, i_Mo, by decide, q_T_in 932 (by decide +kernel) rfl, Or.inl rfl, t_Mo_ok, n_Mo, by decide +kernel, rfl, fun _ => rfl⟩
theorem f_Mo_113 : q_FL "RatchetGroupModel" 113 11 39 (.array .int) true := ⟨R_Mo, F_Mo, 52, "RatchetGroupModel", t_Mo, rfl, i_Mo, by decide, q_T_in 933 (by decide +kernel) rfl, Or.inl rfl, t_Mo_ok, n_Mo, by decide +kernel, rfl, fun _ => rfl⟩
theorem f_Mo_116 : q_FL "RatchetGroupModel" 116 11 40 (.array .int) true := ⟨R_Mo, F_Mo, 52, "RatchetGroupModel", t_Mo, rfl, i_Mo, by decide, q_T_in 934 (by decide +kernel) rfl, Or.inl rfl, t_Mo_ok, n_Mo, by decide +kernel, rfl, fun _ => rfl⟩
theorem f_Mo_119 : q_FL "RatchetGroupModel" 119 11 41 (.array .boolean) true := ⟨R_Mo, F_Mo, 52, "RatchetGroupModel", t_Mo, rfl, i_Mo, by decide, q_T_in 935 (by decide +kernel) rfl, Or.inl rfl, t_Mo_ok, n_Mo, by decide +kernel, rfl, fun _ => rfl⟩
theorem f_Mo_195 : q_FL "RatchetGroupModel" 195 11 42 .int false := ⟨R_Mo, F_Mo, 52, "RatchetGroupModel", t_Mo, rfl, i_Mo, by decide, q_T_in 936 (by decide +kernel) rfl, Or.inl rfl, t_Mo_ok, n_Mo, by decide +kernel, rfl, fun h => by cases h⟩
theorem f_Mo_122 : q_FL "RatchetGroupModel" 122 11 43 (.array .int) true := ⟨R_Mo, F_Mo, 52, "RatchetGroupModel", t_Mo, rfl, i_Mo, by decide, q_T_in 937 (by decide +kernel) rfl, Or.inl rfl, t_Mo_ok, n_Mo, by decide +kernel, rfl, fun _ => rfl⟩
theorem f_Mo_125 : q_FL "RatchetGroupModel" 125 11 44 (.array .int) true := ⟨R_Mo, F_Mo, 52, "RatchetGroupModel", t_Mo, rfl, i_Mo, by decide, q_T_in 938 (by decide +kernel) rfl, Or.inl rfl, t_Mo_ok, n_Mo, by decide +kernel, rfl, fun _ => rfl⟩
theorem f_Mo_128 : q_FL "RatchetGroupModel" 128 11 45 (.array .int) true := ⟨R_Mo, F_Mo, 52, "RatchetGroupModel", t_Mo, rfl, i_Mo, by decide, q_T_in 939 (by decide +kernel) rfl, Or.inl rfl, t_Mo_ok, n_Mo, by decide +kernel, rfl, fun _ => rfl⟩
theorem f_Mo_183 : q_FL "RatchetGroupModel" 183 11 46 .int false := ⟨R_Mo, F_Mo, 52, "RatchetGroupModel", t_Mo, rfl, i_Mo, by decide, q_T_in 940 (by decide +kernel) rfl, Or.inl rfl, t_Mo_ok, n_Mo, by decide +kernel, rfl, fun h => by cases h⟩
theorem f_Mo_131 : q_FL "RatchetGroupModel" 131 11 47 (.array .int) true := ⟨R_Mo, F_Mo, 52, "RatchetGroupModel", t_Mo, rfl, i_Mo, by decide, q_T_in 941 (by decide +kernel) rfl, Or.inl rfl, t_Mo_ok, n_Mo, by decide +kernel, rfl, fun _ => rfl⟩
theorem f_Mo_176 : q_FL "RatchetGroupModel" 176 11 48 .int false := ⟨R_Mo, F_Mo, 52, "RatchetGroupModel", t_Mo, rfl, i_Mo, by decide, q_T_in 942 (by decide +kernel) rfl, Or.inl rfl, t_Mo_ok, n_Mo, by decide +kernel, rfl, fun h => by cases h⟩
theorem f_Mo_134 : q_FL "RatchetGroupModel" 134 11 49 (.array .int) true := ⟨R_Mo, F_Mo, 52, "RatchetGroupModel", t_Mo, rfl, i_Mo, by decide, q_T_in 943 (by decide +kernel) rfl, Or.inl rfl, t_Mo_ok, n_Mo, by decide +kernel, rfl, fun _ => rfl⟩
theorem f_Mo_137 : q_FL "RatchetGroupModel" 137 11 50 (.array .int) true := ⟨R_Mo, F_Mo, 52, "RatchetGroupModel", t_Mo, rfl, i_Mo, by decide, q_T_in 944 (by decide +kernel) rfl, Or.inl rfl, t_Mo_ok, n_Mo, by decide +kernel, rfl, fun _ => rfl⟩
theorem f_Mo_140 : q_FL "RatchetGroupModel" 140 11 51 (.array .int) true := ⟨R_Mo, F_Mo, 52, "RatchetGroupModel", t_Mo, rfl, i_Mo, by decide, q_T_in 945 (by decide +kernel) rfl, Or.inl rfl, t_Mo_ok, n_Mo, by decide +kernel, rfl, fun _ => rfl⟩
theorem k_Law_8 : Cond.classLink "RatchetGroupLaw" 8 "RatchetGroup" ∈ q_T := q_T_in 27 (by decide +kernel) rfl
theorem o_Law_8 : q_NL "RatchetGroupLaw" 8 0 7 [.null, .null, .null, .null, .null, .null, .null] := ⟨R_RG, F_RG, t_RG, rfl, i_RG, k_Law_8, in_RG, iz_RG, t_RG_ok, by decide +kernel⟩
theorem k_RG_9 : Cond.classLink "RatchetGroup" 9 "RatchetGroup$Secrets" ∈ q_T := q_T_in 35 (by decide +kernel) rfl
theorem o_RG_9 : q_NL "RatchetGroup" 9 1 10 [.null, .null, .null, .null, .null, .null, .int 0, .int 0, .int 0, .int 0] := ⟨R_Sec, F_Sec, t_Sec, rfl, i_Sec, k_RG_9, in_Sec, iz_Sec, t_Sec_ok, by decide +kernel⟩
theorem k_Sec_9 : Cond.classLink "RatchetGroup$Secrets" 9 "RatchetGroup$Row" ∈ q_T := q_T_in 41 (by decide +kernel) rfl
theorem o_Sec_9 : q_NL "RatchetGroup$Secrets" 9 2 1 [.null] := ⟨R_Row, F_Row, t_Row, rfl, i_Row, k_Sec_9, in_Row, iz_Row, t_Row_ok, by decide +kernel⟩
theorem k_RG_16 : Cond.classLink "RatchetGroup" 16 "java/util/ArrayList" ∈ q_T := q_T_in 90 (by decide +kernel) rfl
theorem o_RG_16 : q_NL "RatchetGroup" 16 3 3 [.null, .int 0, .int 0] := ⟨R_AL, F_AL, t_AL, rfl, i_AL, k_RG_16, in_AL, iz_AL, t_AL_ok, by decide +kernel⟩
theorem k_RG_32 : Cond.classLink "RatchetGroup" 32 "RatchetGroup$Row" ∈ q_T := q_T_in 116 (by decide +kernel) rfl
theorem o_RG_32 : q_NL "RatchetGroup" 32 2 1 [.null] := ⟨R_Row, F_Row, t_Row, rfl, i_Row, k_RG_32, in_Row, iz_Row, t_Row_ok, by decide +kernel⟩
theorem k_RG_41 : Cond.classLink "RatchetGroup" 41 "RatchetGroup$Member" ∈ q_T := q_T_in 118 (by decide +kernel) rfl
theorem o_RG_41 : q_NL "RatchetGroup" 41 4 8 [.int 0, .null, .null, .int 0, .int 0, .int 0, .int 0, .int 0] := ⟨R_Mem, F_Mem, t_Mem, rfl, i_Mem, k_RG_41, in_Mem, iz_Mem, t_Mem_ok, by decide +kernel⟩
theorem k_Mem_9 : Cond.classLink "RatchetGroup$Member" 9 "RatchetGroup$Row" ∈ q_T := q_T_in 124 (by decide +kernel) rfl
theorem o_Mem_9 : q_NL "RatchetGroup$Member" 9 2 1 [.null] := ⟨R_Row, F_Row, t_Row, rfl, i_Row, k_Mem_9, in_Row, iz_Row, t_Row_ok, by decide +kernel⟩
theorem k_Arr_110 : Cond.classLink "java/util/Arrays" 110 "[Ljava/lang/Object;" ∈ q_T := q_T_in 209 (by decide +kernel) rfl
theorem k_Arr_2 : Cond.classLink "java/util/Arrays" 2 "java/lang/Object" ∈ q_T := q_T_in 211 (by decide +kernel) rfl
theorem k_AL_7 : Cond.classLink "java/util/ArrayList" 7 "java/lang/Object" ∈ q_T := q_T_in 219 (by decide +kernel) rfl
theorem k_RG_50 : Cond.classLink "RatchetGroup" 50 "RatchetGroup$Epoch" ∈ q_T := q_T_in 220 (by decide +kernel) rfl
theorem o_RG_50 : q_NL "RatchetGroup" 50 5 10 [.int 0, .int 0, .null, .null, .int 0, .int 0, .int 0, .int 0, .int 0, .int 0] := ⟨R_Ep, F_Ep, t_Ep, rfl, i_Ep, k_RG_50, in_Ep, iz_Ep, t_Ep_ok, by decide +kernel⟩
theorem k_Ep_9 : Cond.classLink "RatchetGroup$Epoch" 9 "RatchetGroup$Tree" ∈ q_T := q_T_in 226 (by decide +kernel) rfl
theorem o_Ep_9 : q_NL "RatchetGroup$Epoch" 9 6 5 [.null, .null, .null, .null, .int 0] := ⟨R_Tr, F_Tr, t_Tr, rfl, i_Tr, k_Ep_9, in_Tr, iz_Tr, t_Tr_ok, by decide +kernel⟩
theorem k_Tr_9 : Cond.classLink "RatchetGroup$Tree" 9 "RatchetGroup$Row" ∈ q_T := q_T_in 232 (by decide +kernel) rfl
theorem o_Tr_9 : q_NL "RatchetGroup$Tree" 9 2 1 [.null] := ⟨R_Row, F_Row, t_Row, rfl, i_Row, k_Tr_9, in_Row, iz_Row, t_Row_ok, by decide +kernel⟩
theorem k_Ep_18 : Cond.classLink "RatchetGroup$Epoch" 18 "RatchetGroup$Row" ∈ q_T := q_T_in 258 (by decide +kernel) rfl
theorem o_Ep_18 : q_NL "RatchetGroup$Epoch" 18 2 1 [.null] := ⟨R_Row, F_Row, t_Row, rfl, i_Row, k_Ep_18, in_Row, iz_Row, t_Row_ok, by decide +kernel⟩
theorem k_RG_96 : Cond.classLink "RatchetGroup" 96 "RatchetGroup$KeyPackage" ∈ q_T := q_T_in 417 (by decide +kernel) rfl
theorem o_RG_96 : q_NL "RatchetGroup" 96 7 6 [.null, .int 0, .int 0, .int 0, .int 0, .int 0] := ⟨R_KP, F_KP, t_KP, rfl, i_KP, k_RG_96, in_KP, iz_KP, t_KP_ok, by decide +kernel⟩
theorem k_Law_13 : Cond.classLink "RatchetGroupLaw" 13 "java/lang/IndexOutOfBoundsException" ∈ q_T := q_T_in 489 (by decide +kernel) rfl
theorem k_Law_15 : Cond.classLink "RatchetGroupLaw" 15 "java/lang/IllegalStateException" ∈ q_T := q_T_in 490 (by decide +kernel) rfl
theorem k_RG_101 : Cond.classLink "RatchetGroup" 101 "java/lang/IndexOutOfBoundsException" ∈ q_T := q_T_in 499 (by decide +kernel) rfl
theorem k_RG_89 : Cond.classLink "RatchetGroup" 89 "java/lang/IllegalStateException" ∈ q_T := q_T_in 566 (by decide +kernel) rfl
theorem k_RG_110 : Cond.classLink "RatchetGroup" 110 "RatchetGroup$Addition" ∈ q_T := q_T_in 626 (by decide +kernel) rfl
theorem o_RG_110 : q_NL "RatchetGroup" 110 8 1 [.null] := ⟨R_Ad, F_Ad, t_Ad, rfl, i_Ad, k_RG_110, in_Ad, iz_Ad, t_Ad_ok, by decide +kernel⟩
theorem k_RG_121 : Cond.classLink "RatchetGroup" 121 "RatchetGroup$Removal" ∈ q_T := q_T_in 645 (by decide +kernel) rfl
theorem o_RG_121 : q_NL "RatchetGroup" 121 9 1 [.int 0] := ⟨R_Re, F_Re, t_Re, rfl, i_Re, k_RG_121, in_Re, iz_Re, t_Re_ok, by decide +kernel⟩
theorem k_RG_127 : Cond.classLink "RatchetGroup" 127 "RatchetGroup$Renewal" ∈ q_T := q_T_in 667 (by decide +kernel) rfl
theorem o_RG_127 : q_NL "RatchetGroup" 127 10 2 [.int 0, .int 0] := ⟨R_Rn, F_Rn, t_Rn, rfl, i_Rn, k_RG_127, in_Rn, iz_Rn, t_Rn_ok, by decide +kernel⟩
theorem k_Law_38 : Cond.classLink "RatchetGroupLaw" 38 "RatchetGroupModel" ∈ q_T := q_T_in 880 (by decide +kernel) rfl
theorem o_Law_38 : q_NL "RatchetGroupLaw" 38 11 52 [.int 0, .int 0, .null, .null, .null, .null, .null, .int 0, .null, .null, .null, .null, .int 0, .null, .null, .null, .null, .null, .null, .null, .null, .null, .null, .null, .null, .null, .null, .null, .null, .null, .null, .null, .null, .null, .null, .int 0, .null, .null, .null, .null, .null, .null, .int 0, .null, .null, .null, .int 0, .null, .int 0, .null, .null, .null] := ⟨R_Mo, F_Mo, t_Mo, rfl, i_Mo, k_Law_38, in_Mo, iz_Mo, t_Mo_ok, by decide +kernel⟩
theorem c_Law_37 : q_CI "RatchetGroupLaw" 37 y_RG_init b_RG_init 3 0 := ⟨q_T_in 29 (by decide +kernel) rfl, q_T_in 30 (by decide +kernel) rfl, rfl, q_T_in 1 (by decide +kernel) rfl, w_RG_init, ⟨by decide +kernel, by decide +kernel⟩, by decide +kernel, by decide⟩
theorem c_RG_3 : Cond.methodLink "RatchetGroup" 3 Lib.objectInit ∈ q_T := q_T_in 32 (by decide +kernel) rfl
theorem c_RG_11 : q_CI "RatchetGroup" 11 y_Sec_init b_Sec_init 1 0 := ⟨q_T_in 37 (by decide +kernel) rfl, q_T_in 38 (by decide +kernel) rfl, rfl, q_T_in 2 (by decide +kernel) rfl, w_Sec_init, ⟨by decide +kernel, by decide +kernel⟩, by decide +kernel, by decide⟩
theorem c_Sec_3 : Cond.methodLink "RatchetGroup$Secrets" 3 Lib.objectInit ∈ q_T := q_T_in 40 (by decide +kernel) rfl
theorem c_Sec_11 : q_CI "RatchetGroup$Secrets" 11 y_Row_init b_Row_init 3 2 := ⟨q_T_in 43 (by decide +kernel) rfl, q_T_in 44 (by decide +kernel) rfl, rfl, q_T_in 3 (by decide +kernel) rfl, w_Row_init, ⟨by decide +kernel, by decide +kernel⟩, by decide +kernel, by decide⟩
theorem c_Row_3 : Cond.methodLink "RatchetGroup$Row" 3 Lib.objectInit ∈ q_T := q_T_in 46 (by decide +kernel) rfl
theorem c_Row_15 : q_CS "RatchetGroup$Row" 15 y_Arr_fill b_Arr_fill 4 none 2 := ⟨q_T_in 47 (by decide +kernel) rfl, q_T_in 48 (by decide +kernel) rfl, q_T_in 4 (by decide +kernel) rfl, w_Arr_fill, ⟨by decide +kernel, by decide +kernel⟩, by decide +kernel, by decide⟩
theorem c_Sec_48 : q_CV "RatchetGroup$Secrets" 48 y_Row_put b_Row_put 3 none 2 2 := ⟨q_T_in 55 (by decide +kernel) rfl, q_T_in 56 (by decide +kernel) rfl, q_T_in 57 (by decide +kernel) rfl, q_T_in 3 (by decide +kernel) rfl, w_Row_put, ⟨by decide +kernel, by decide +kernel⟩, by decide +kernel, by decide, F_Row, 1, rfl⟩
theorem c_RG_18 : q_CI "RatchetGroup" 18 y_AL_init b_AL_init 1 0 := ⟨q_T_in 92 (by decide +kernel) rfl, q_T_in 93 (by decide +kernel) rfl, rfl, q_T_in 7 (by decide +kernel) rfl, w_AL_init, ⟨by decide +kernel, by decide +kernel⟩, by decide +kernel, by decide⟩
theorem c_AL_1 : q_CI "java/util/ArrayList" 1 y_ALs_init b_ALs_init 1 0 := ⟨q_T_in 95 (by decide +kernel) rfl, q_T_in 96 (by decide +kernel) rfl, rfl, q_T_in 6 (by decide +kernel) rfl, w_ALs_init, ⟨by decide +kernel, by decide +kernel⟩, by decide +kernel, by decide⟩
theorem c_ALs_1 : q_CI "java/util/AbstractList" 1 y_AC_init b_AC_init 1 0 := ⟨q_T_in 98 (by decide +kernel) rfl, q_T_in 99 (by decide +kernel) rfl, rfl, q_T_in 5 (by decide +kernel) rfl, w_AC_init, ⟨by decide +kernel, by decide +kernel⟩, by decide +kernel, by decide⟩
theorem c_AC_1 : Cond.methodLink "java/util/AbstractCollection" 1 Lib.objectInit ∈ q_T := q_T_in 101 (by decide +kernel) rfl
theorem c_RG_34 : q_CI "RatchetGroup" 34 y_Row_init b_Row_init 3 2 := ⟨q_T_in 117 (by decide +kernel) rfl, q_T_in 44 (by decide +kernel) rfl, rfl, q_T_in 3 (by decide +kernel) rfl, w_Row_init, ⟨by decide +kernel, by decide +kernel⟩, by decide +kernel, by decide⟩
theorem c_RG_43 : q_CI "RatchetGroup" 43 y_Mem_init b_Mem_init 2 1 := ⟨q_T_in 120 (by decide +kernel) rfl, q_T_in 121 (by decide +kernel) rfl, rfl, q_T_in 8 (by decide +kernel) rfl, w_Mem_init, ⟨by decide +kernel, by decide +kernel⟩, by decide +kernel, by decide⟩
theorem c_Mem_3 : Cond.methodLink "RatchetGroup$Member" 3 Lib.objectInit ∈ q_T := q_T_in 123 (by decide +kernel) rfl
theorem c_Mem_11 : q_CI "RatchetGroup$Member" 11 y_Row_init b_Row_init 3 2 := ⟨q_T_in 125 (by decide +kernel) rfl, q_T_in 44 (by decide +kernel) rfl, rfl, q_T_in 3 (by decide +kernel) rfl, w_Row_init, ⟨by decide +kernel, by decide +kernel⟩, by decide +kernel, by decide⟩
theorem c_RG_46 : q_CV "RatchetGroup" 46 y_AL_add1 b_AL_add1 2 (some .boolean) 1 3 := ⟨q_T_in 159 (by decide +kernel) rfl, q_T_in 160 (by decide +kernel) rfl, q_T_in 161 (by decide +kernel) rfl, q_T_in 7 (by decide +kernel) rfl, w_AL_add1, ⟨by decide +kernel, by decide +kernel⟩, by decide +kernel, by decide, F_AL, 3, rfl⟩
theorem c_AL_131 : q_CV "java/util/ArrayList" 131 y_AL_add2 b_AL_add2 4 none 3 3 := ⟨q_T_in 163 (by decide +kernel) rfl, q_T_in 165 (by decide +kernel) rfl, q_T_sel 0 (by decide +kernel) rfl, q_T_in 7 (by decide +kernel) rfl, w_AL_add2, ⟨by decide +kernel, by decide +kernel⟩, by decide +kernel, by decide, F_AL, 3, rfl⟩
theorem c_AL_129 : q_CV "java/util/ArrayList" 129 y_AL_grow1 b_AL_grow1 1 (some (.array (.object "java/lang/Object"))) 0 3 := ⟨q_T_in 167 (by decide +kernel) rfl, q_T_in 169 (by decide +kernel) rfl, q_T_sel 1 (by decide +kernel) rfl, q_T_in 7 (by decide +kernel) rfl, w_AL_grow1, ⟨by decide +kernel, by decide +kernel⟩, by decide +kernel, by decide, F_AL, 3, rfl⟩
theorem c_AL_69 : q_CV "java/util/ArrayList" 69 y_AL_grow2 b_AL_grow2 4 (some (.array (.object "java/lang/Object"))) 1 3 := ⟨q_T_in 171 (by decide +kernel) rfl, q_T_in 173 (by decide +kernel) rfl, q_T_sel 2 (by decide +kernel) rfl, q_T_in 7 (by decide +kernel) rfl, w_AL_grow2, ⟨by decide +kernel, by decide +kernel⟩, by decide +kernel, by decide, F_AL, 3, rfl⟩
theorem c_AL_73 : q_CS "java/util/ArrayList" 73 y_ASup_newLength b_ASup_newLength 4 (some .int) 3 := ⟨q_T_in 175 (by decide +kernel) rfl, q_T_in 176 (by decide +kernel) rfl, q_T_in 9 (by decide +kernel) rfl, w_ASup_newLength, ⟨by decide +kernel, by decide +kernel⟩, by decide +kernel, by decide⟩
theorem c_ASup_194 : q_CS "jdk/internal/util/ArraysSupport" 194 y_Math_max b_Math_max 2 (some .int) 2 := ⟨q_T_in 178 (by decide +kernel) rfl, q_T_in 179 (by decide +kernel) rfl, q_T_in 10 (by decide +kernel) rfl, w_Math_max, ⟨by decide +kernel, by decide +kernel⟩, by decide +kernel, by decide⟩
theorem c_ASup_201 : q_CS "jdk/internal/util/ArraysSupport" 201 y_ASup_hugeLength b_ASup_hugeLength 3 (some .int) 2 := ⟨q_T_in 182 (by decide +kernel) rfl, q_T_in 183 (by decide +kernel) rfl, q_T_in 9 (by decide +kernel) rfl, w_ASup_hugeLength, ⟨by decide +kernel, by decide +kernel⟩, by decide +kernel, by decide⟩
theorem c_AL_66 : q_CS "java/util/ArrayList" 66 y_Arr_copyOf1 b_Arr_copyOf1 2 (some (.array (.object "java/lang/Object"))) 2 := ⟨q_T_in 185 (by decide +kernel) rfl, q_T_in 186 (by decide +kernel) rfl, q_T_in 4 (by decide +kernel) rfl, w_Arr_copyOf1, ⟨by decide +kernel, by decide +kernel⟩, by decide +kernel, by decide⟩
theorem c_Arr_300 : q_CS "java/util/Arrays" 300 y_Arr_copyOf2 b_Arr_copyOf2 4 (some (.array (.object "java/lang/Object"))) 3 := ⟨q_T_in 206 (by decide +kernel) rfl, q_T_in 207 (by decide +kernel) rfl, q_T_in 4 (by decide +kernel) rfl, w_Arr_copyOf2, ⟨by decide +kernel, by decide +kernel⟩, by decide +kernel, by decide⟩
theorem c_Arr_304 : q_CS "java/util/Arrays" 304 y_Math_min b_Math_min 2 (some .int) 2 := ⟨q_T_in 212 (by decide +kernel) rfl, q_T_in 213 (by decide +kernel) rfl, q_T_in 10 (by decide +kernel) rfl, w_Math_min, ⟨by decide +kernel, by decide +kernel⟩, by decide +kernel, by decide⟩
theorem c_AL_79 : q_CS "java/util/ArrayList" 79 y_Math_max b_Math_max 2 (some .int) 2 := ⟨q_T_in 218 (by decide +kernel) rfl, q_T_in 179 (by decide +kernel) rfl, q_T_in 10 (by decide +kernel) rfl, w_Math_max, ⟨by decide +kernel, by decide +kernel⟩, by decide +kernel, by decide⟩
theorem c_RG_52 : q_CI "RatchetGroup" 52 y_Ep_init b_Ep_init 3 2 := ⟨q_T_in 222 (by decide +kernel) rfl, q_T_in 223 (by decide +kernel) rfl, rfl, q_T_in 12 (by decide +kernel) rfl, w_Ep_init, ⟨by decide +kernel, by decide +kernel⟩, by decide +kernel, by decide⟩
theorem c_Ep_3 : Cond.methodLink "RatchetGroup$Epoch" 3 Lib.objectInit ∈ q_T := q_T_in 225 (by decide +kernel) rfl
theorem c_Ep_11 : q_CIN "RatchetGroup$Epoch" 11 y_Tr_init "RatchetGroup" b_Tr_init 1 0 := ⟨q_X_in 228 (by decide +kernel) rfl, q_T_in 229 (by decide +kernel) rfl, rfl, q_T_in 13 (by decide +kernel) rfl, w_Tr_init, ⟨by decide +kernel, by decide +kernel⟩, by decide +kernel, by decide⟩
theorem c_Tr_3 : Cond.methodLink "RatchetGroup$Tree" 3 Lib.objectInit ∈ q_T := q_T_in 231 (by decide +kernel) rfl
theorem c_Tr_11 : q_CI "RatchetGroup$Tree" 11 y_Row_init b_Row_init 3 2 := ⟨q_T_in 233 (by decide +kernel) rfl, q_T_in 44 (by decide +kernel) rfl, rfl, q_T_in 3 (by decide +kernel) rfl, w_Row_init, ⟨by decide +kernel, by decide +kernel⟩, by decide +kernel, by decide⟩
theorem c_Ep_20 : q_CI "RatchetGroup$Epoch" 20 y_Row_init b_Row_init 3 2 := ⟨q_T_in 259 (by decide +kernel) rfl, q_T_in 44 (by decide +kernel) rfl, rfl, q_T_in 3 (by decide +kernel) rfl, w_Row_init, ⟨by decide +kernel, by decide +kernel⟩, by decide +kernel, by decide⟩
theorem c_RG_57 : q_CV "RatchetGroup" 57 y_Sec_fresh b_Sec_fresh 1 (some .int) 0 1 := ⟨q_T_in 305 (by decide +kernel) rfl, q_T_in 306 (by decide +kernel) rfl, q_T_in 307 (by decide +kernel) rfl, q_T_in 2 (by decide +kernel) rfl, w_Sec_fresh, ⟨by decide +kernel, by decide +kernel⟩, by decide +kernel, by decide, F_Sec, 10, rfl⟩
theorem c_RG_72 : q_CV "RatchetGroup" 72 y_Tr_seat b_Tr_seat 7 none 4 6 := ⟨q_T_in 309 (by decide +kernel) rfl, q_T_in 310 (by decide +kernel) rfl, q_T_in 311 (by decide +kernel) rfl, q_T_in 13 (by decide +kernel) rfl, w_Tr_seat, ⟨by decide +kernel, by decide +kernel⟩, by decide +kernel, by decide, F_Tr, 5, rfl⟩
theorem c_Tr_45 : q_CV "RatchetGroup$Tree" 45 y_Row_put b_Row_put 3 none 2 2 := ⟨q_T_in 313 (by decide +kernel) rfl, q_T_in 56 (by decide +kernel) rfl, q_T_in 57 (by decide +kernel) rfl, q_T_in 3 (by decide +kernel) rfl, w_Row_put, ⟨by decide +kernel, by decide +kernel⟩, by decide +kernel, by decide, F_Row, 1, rfl⟩
theorem c_Tr_56 : q_CS "RatchetGroup$Tree" 56 y_Tr_nodeOver b_Tr_nodeOver 2 (some .int) 2 := ⟨q_T_in 314 (by decide +kernel) rfl, q_T_in 315 (by decide +kernel) rfl, q_T_in 13 (by decide +kernel) rfl, w_Tr_nodeOver, ⟨by decide +kernel, by decide +kernel⟩, by decide +kernel, by decide⟩
theorem c_Tr_48 : q_CV "RatchetGroup$Tree" 48 y_Tr_give b_Tr_give 4 none 3 6 := ⟨q_T_in 317 (by decide +kernel) rfl, q_T_in 318 (by decide +kernel) rfl, q_T_in 319 (by decide +kernel) rfl, q_T_in 13 (by decide +kernel) rfl, w_Tr_give, ⟨by decide +kernel, by decide +kernel⟩, by decide +kernel, by decide, F_Tr, 5, rfl⟩
theorem c_Tr_67 : q_CV "RatchetGroup$Tree" 67 y_Tr_isBlank b_Tr_isBlank 2 (some .boolean) 1 6 := ⟨q_T_in 321 (by decide +kernel) rfl, q_T_in 322 (by decide +kernel) rfl, q_T_in 323 (by decide +kernel) rfl, q_T_in 13 (by decide +kernel) rfl, w_Tr_isBlank, ⟨by decide +kernel, by decide +kernel⟩, by decide +kernel, by decide, F_Tr, 5, rfl⟩
theorem c_Tr_41 : q_CV "RatchetGroup$Tree" 41 y_Row_get b_Row_get 2 (some .int) 1 2 := ⟨q_T_in 325 (by decide +kernel) rfl, q_T_in 326 (by decide +kernel) rfl, q_T_in 327 (by decide +kernel) rfl, q_T_in 3 (by decide +kernel) rfl, w_Row_get, ⟨by decide +kernel, by decide +kernel⟩, by decide +kernel, by decide, F_Row, 1, rfl⟩
theorem c_RG_78 : q_CV "RatchetGroup" 78 y_Mem_enter b_Mem_enter 3 none 2 4 := ⟨q_T_in 329 (by decide +kernel) rfl, q_T_in 330 (by decide +kernel) rfl, q_T_in 331 (by decide +kernel) rfl, q_T_in 8 (by decide +kernel) rfl, w_Mem_enter, ⟨by decide +kernel, by decide +kernel⟩, by decide +kernel, by decide, F_Mem, 8, rfl⟩
theorem c_Mem_57 : q_CV "RatchetGroup$Member" 57 y_Mem_lead b_Mem_lead 2 none 1 4 := ⟨q_T_in 333 (by decide +kernel) rfl, q_T_in 334 (by decide +kernel) rfl, q_T_in 335 (by decide +kernel) rfl, q_T_in 8 (by decide +kernel) rfl, w_Mem_lead, ⟨by decide +kernel, by decide +kernel⟩, by decide +kernel, by decide, F_Mem, 8, rfl⟩
theorem c_Mem_68 : q_CV "RatchetGroup$Member" 68 y_Mem_dropStaleKeys b_Mem_dropStaleKeys 3 none 1 4 := ⟨q_T_in 337 (by decide +kernel) rfl, q_T_in 339 (by decide +kernel) rfl, q_T_sel 3 (by decide +kernel) rfl, q_T_in 8 (by decide +kernel) rfl, w_Mem_dropStaleKeys, ⟨by decide +kernel, by decide +kernel⟩, by decide +kernel, by decide, F_Mem, 8, rfl⟩
theorem c_Mem_100 : q_CV "RatchetGroup$Member" 100 y_Mem_holdsKeyIn b_Mem_holdsKeyIn 4 (some .boolean) 2 4 := ⟨q_T_in 341 (by decide +kernel) rfl, q_T_in 342 (by decide +kernel) rfl, q_T_in 343 (by decide +kernel) rfl, q_T_in 8 (by decide +kernel) rfl, w_Mem_holdsKeyIn, ⟨by decide +kernel, by decide +kernel⟩, by decide +kernel, by decide, F_Mem, 8, rfl⟩
theorem c_Mem_49 : q_CV "RatchetGroup$Member" 49 y_Row_get b_Row_get 2 (some .int) 1 2 := ⟨q_T_in 345 (by decide +kernel) rfl, q_T_in 326 (by decide +kernel) rfl, q_T_in 327 (by decide +kernel) rfl, q_T_in 3 (by decide +kernel) rfl, w_Row_get, ⟨by decide +kernel, by decide +kernel⟩, by decide +kernel, by decide, F_Row, 1, rfl⟩
theorem c_Mem_43 : q_CV "RatchetGroup$Member" 43 y_Row_put b_Row_put 3 none 2 2 := ⟨q_T_in 346 (by decide +kernel) rfl, q_T_in 56 (by decide +kernel) rfl, q_T_in 57 (by decide +kernel) rfl, q_T_in 3 (by decide +kernel) rfl, w_Row_put, ⟨by decide +kernel, by decide +kernel⟩, by decide +kernel, by decide, F_Row, 1, rfl⟩
theorem c_Mem_72 : q_CS "RatchetGroup$Member" 72 y_Tr_nodeOver b_Tr_nodeOver 2 (some .int) 2 := ⟨q_T_in 347 (by decide +kernel) rfl, q_T_in 315 (by decide +kernel) rfl, q_T_in 13 (by decide +kernel) rfl, w_Tr_nodeOver, ⟨by decide +kernel, by decide +kernel⟩, by decide +kernel, by decide⟩
theorem c_Mem_76 : q_CV "RatchetGroup$Member" 76 y_Mem_takeKey b_Mem_takeKey 3 none 2 4 := ⟨q_T_in 348 (by decide +kernel) rfl, q_T_in 350 (by decide +kernel) rfl, q_T_sel 4 (by decide +kernel) rfl, q_T_in 8 (by decide +kernel) rfl, w_Mem_takeKey, ⟨by decide +kernel, by decide +kernel⟩, by decide +kernel, by decide, F_Mem, 8, rfl⟩
theorem c_Mem_80 : q_CV "RatchetGroup$Member" 80 y_Mem_takeCountingKeys b_Mem_takeCountingKeys 4 none 1 4 := ⟨q_T_in 352 (by decide +kernel) rfl, q_T_in 354 (by decide +kernel) rfl, q_T_sel 5 (by decide +kernel) rfl, q_T_in 8 (by decide +kernel) rfl, w_Mem_takeCountingKeys, ⟨by decide +kernel, by decide +kernel⟩, by decide +kernel, by decide, F_Mem, 8, rfl⟩
theorem c_Mem_86 : q_CSN "RatchetGroup$Member" 86 y_RG_isIn "RatchetGroup" b_RG_isIn 2 (some .boolean) 2 := ⟨q_X_in 356 (by decide +kernel) rfl, q_T_in 357 (by decide +kernel) rfl, q_T_in 1 (by decide +kernel) rfl, w_RG_isIn, ⟨by decide +kernel, by decide +kernel⟩, by decide +kernel, by decide⟩
theorem c_Law_71 : q_CV "RatchetGroupLaw" 71 y_RG_member b_RG_member 4 (some .int) 2 0 := ⟨q_T_in 381 (by decide +kernel) rfl, q_T_in 382 (by decide +kernel) rfl, q_T_in 383 (by decide +kernel) rfl, q_T_in 1 (by decide +kernel) rfl, w_RG_member, ⟨by decide +kernel, by decide +kernel⟩, by decide +kernel, by decide, F_RG, 7, rfl⟩
theorem c_RG_198 : q_CV "RatchetGroup" 198 y_RG_isMember b_RG_isMember 2 (some .boolean) 1 0 := ⟨q_T_in 385 (by decide +kernel) rfl, q_T_in 387 (by decide +kernel) rfl, q_T_sel 6 (by decide +kernel) rfl, q_T_in 1 (by decide +kernel) rfl, w_RG_isMember, ⟨by decide +kernel, by decide +kernel⟩, by decide +kernel, by decide, F_RG, 7, rfl⟩
theorem c_RG_86 : q_CV "RatchetGroup" 86 y_AL_size b_AL_size 1 (some .int) 0 3 := ⟨q_T_in 389 (by decide +kernel) rfl, q_T_in 390 (by decide +kernel) rfl, q_T_in 391 (by decide +kernel) rfl, q_T_in 7 (by decide +kernel) rfl, w_AL_size, ⟨by decide +kernel, by decide +kernel⟩, by decide +kernel, by decide, F_AL, 3, rfl⟩
theorem c_RG_112 : q_CV "RatchetGroup" 112 y_AL_get b_AL_get 2 (some (.object "java/lang/Object")) 1 3 := ⟨q_T_in 393 (by decide +kernel) rfl, q_T_in 394 (by decide +kernel) rfl, q_T_in 395 (by decide +kernel) rfl, q_T_in 7 (by decide +kernel) rfl, w_AL_get, ⟨by decide +kernel, by decide +kernel⟩, by decide +kernel, by decide, F_AL, 3, rfl⟩
theorem c_AL_118 : q_CS "java/util/ArrayList" 118 y_Objs_checkIndex b_Objs_checkIndex 2 (some .int) 2 := ⟨q_T_in 397 (by decide +kernel) rfl, q_T_in 398 (by decide +kernel) rfl, q_T_in 19 (by decide +kernel) rfl, w_Objs_checkIndex, ⟨by decide +kernel, by decide +kernel⟩, by decide +kernel, by decide⟩
theorem c_Objs_105 : q_CS "java/util/Objects" 105 y_Prec_checkIndex b_Prec_checkIndex 3 (some .int) 3 := ⟨q_T_in 400 (by decide +kernel) rfl, q_T_in 401 (by decide +kernel) rfl, q_T_in 20 (by decide +kernel) rfl, w_Prec_checkIndex, ⟨by decide +kernel, by decide +kernel⟩, by decide +kernel, by decide⟩
theorem c_AL_123 : q_CV "java/util/ArrayList" 123 y_AL_elementData b_AL_elementData 2 (some (.object "java/lang/Object")) 1 3 := ⟨q_T_in 403 (by decide +kernel) rfl, q_T_in 404 (by decide +kernel) rfl, q_T_in 405 (by decide +kernel) rfl, q_T_in 7 (by decide +kernel) rfl, w_AL_elementData, ⟨by decide +kernel, by decide +kernel⟩, by decide +kernel, by decide, F_AL, 3, rfl⟩
theorem c_RG_189 : q_CV "RatchetGroup" 189 y_RG_gather b_RG_gather 5 (some .int) 1 0 := ⟨q_T_in 407 (by decide +kernel) rfl, q_T_in 409 (by decide +kernel) rfl, q_T_sel 7 (by decide +kernel) rfl, q_T_in 1 (by decide +kernel) rfl, w_RG_gather, ⟨by decide +kernel, by decide +kernel⟩, by decide +kernel, by decide, F_RG, 7, rfl⟩
theorem c_RG_205 : q_CV "RatchetGroup" 205 y_RG_isEpoch b_RG_isEpoch 2 (some .boolean) 1 0 := ⟨q_T_in 411 (by decide +kernel) rfl, q_T_in 413 (by decide +kernel) rfl, q_T_sel 8 (by decide +kernel) rfl, q_T_in 1 (by decide +kernel) rfl, w_RG_isEpoch, ⟨by decide +kernel, by decide +kernel⟩, by decide +kernel, by decide, F_RG, 7, rfl⟩
theorem c_RG_349 : q_CV "RatchetGroup" 349 y_Row_put b_Row_put 3 none 2 2 := ⟨q_T_in 415 (by decide +kernel) rfl, q_T_in 56 (by decide +kernel) rfl, q_T_in 57 (by decide +kernel) rfl, q_T_in 3 (by decide +kernel) rfl, w_Row_put, ⟨by decide +kernel, by decide +kernel⟩, by decide +kernel, by decide, F_Row, 1, rfl⟩
theorem c_RG_193 : q_CV "RatchetGroup" 193 y_Row_get b_Row_get 2 (some .int) 1 2 := ⟨q_T_in 416 (by decide +kernel) rfl, q_T_in 326 (by decide +kernel) rfl, q_T_in 327 (by decide +kernel) rfl, q_T_in 3 (by decide +kernel) rfl, w_Row_get, ⟨by decide +kernel, by decide +kernel⟩, by decide +kernel, by decide, F_Row, 1, rfl⟩
theorem c_Law_75 : q_CV "RatchetGroupLaw" 75 y_RG_holds b_RG_holds 4 (some .boolean) 2 0 := ⟨q_T_in 418 (by decide +kernel) rfl, q_T_in 419 (by decide +kernel) rfl, q_T_in 420 (by decide +kernel) rfl, q_T_in 1 (by decide +kernel) rfl, w_RG_holds, ⟨by decide +kernel, by decide +kernel⟩, by decide +kernel, by decide, F_RG, 7, rfl⟩
theorem c_RG_208 : q_CV "RatchetGroup" 208 y_Mem_holdsKeyIn b_Mem_holdsKeyIn 4 (some .boolean) 2 4 := ⟨q_T_in 422 (by decide +kernel) rfl, q_T_in 342 (by decide +kernel) rfl, q_T_in 343 (by decide +kernel) rfl, q_T_in 8 (by decide +kernel) rfl, w_Mem_holdsKeyIn, ⟨by decide +kernel, by decide +kernel⟩, by decide +kernel, by decide, F_Mem, 8, rfl⟩
theorem c_Law_80 : q_CV "RatchetGroupLaw" 80 y_RG_has b_RG_has 2 (some .boolean) 1 0 := ⟨q_T_in 423 (by decide +kernel) rfl, q_T_in 424 (by decide +kernel) rfl, q_T_in 425 (by decide +kernel) rfl, q_T_in 1 (by decide +kernel) rfl, w_RG_has, ⟨by decide +kernel, by decide +kernel⟩, by decide +kernel, by decide, F_RG, 7, rfl⟩
theorem c_Law_85 : q_CV "RatchetGroupLaw" 85 y_RG_node b_RG_node 5 (some .int) 3 0 := ⟨q_T_in 427 (by decide +kernel) rfl, q_T_in 428 (by decide +kernel) rfl, q_T_in 429 (by decide +kernel) rfl, q_T_in 1 (by decide +kernel) rfl, w_RG_node, ⟨by decide +kernel, by decide +kernel⟩, by decide +kernel, by decide, F_RG, 7, rfl⟩
theorem c_RG_216 : q_CV "RatchetGroup" 216 y_Tr_isThere b_Tr_isThere 2 (some .boolean) 1 6 := ⟨q_T_in 431 (by decide +kernel) rfl, q_T_in 432 (by decide +kernel) rfl, q_T_in 433 (by decide +kernel) rfl, q_T_in 13 (by decide +kernel) rfl, w_Tr_isThere, ⟨by decide +kernel, by decide +kernel⟩, by decide +kernel, by decide, F_Tr, 5, rfl⟩
theorem c_RG_219 : q_CV "RatchetGroup" 219 y_Tr_isBlank b_Tr_isBlank 2 (some .boolean) 1 6 := ⟨q_T_in 435 (by decide +kernel) rfl, q_T_in 322 (by decide +kernel) rfl, q_T_in 323 (by decide +kernel) rfl, q_T_in 13 (by decide +kernel) rfl, w_Tr_isBlank, ⟨by decide +kernel, by decide +kernel⟩, by decide +kernel, by decide, F_Tr, 5, rfl⟩
theorem c_RG_228 : q_CV "RatchetGroup" 228 y_Tr_resolution b_Tr_resolution 2 (some .int) 1 6 := ⟨q_T_in 436 (by decide +kernel) rfl, q_T_in 437 (by decide +kernel) rfl, q_T_in 438 (by decide +kernel) rfl, q_T_in 13 (by decide +kernel) rfl, w_Tr_resolution, ⟨by decide +kernel, by decide +kernel⟩, by decide +kernel, by decide, F_Tr, 5, rfl⟩
theorem c_Tr_71 : q_CS "RatchetGroup$Tree" 71 y_Tr_heightOf b_Tr_heightOf 2 (some .int) 1 := ⟨q_T_in 440 (by decide +kernel) rfl, q_T_in 441 (by decide +kernel) rfl, q_T_in 13 (by decide +kernel) rfl, w_Tr_heightOf, ⟨by decide +kernel, by decide +kernel⟩, by decide +kernel, by decide⟩
theorem c_Tr_33 : q_CSN "RatchetGroup$Tree" 33 y_RG_isIn "RatchetGroup" b_RG_isIn 2 (some .boolean) 2 := ⟨q_X_in 443 (by decide +kernel) rfl, q_T_in 357 (by decide +kernel) rfl, q_T_in 1 (by decide +kernel) rfl, w_RG_isIn, ⟨by decide +kernel, by decide +kernel⟩, by decide +kernel, by decide⟩
theorem c_Tr_74 : q_CV "RatchetGroup$Tree" 74 y_Tr_resolutionFrom b_Tr_resolutionFrom 5 (some .int) 2 6 := ⟨q_T_in 444 (by decide +kernel) rfl, q_T_in 446 (by decide +kernel) rfl, q_T_sel 9 (by decide +kernel) rfl, q_T_in 13 (by decide +kernel) rfl, w_Tr_resolutionFrom, ⟨by decide +kernel, by decide +kernel⟩, by decide +kernel, by decide, F_Tr, 5, rfl⟩
theorem c_Tr_77 : q_CS "RatchetGroup$Tree" 77 y_Tr_nodesOfLeaves b_Tr_nodesOfLeaves 3 (some .int) 1 := ⟨q_T_in 448 (by decide +kernel) rfl, q_T_in 449 (by decide +kernel) rfl, q_T_in 13 (by decide +kernel) rfl, w_Tr_nodesOfLeaves, ⟨by decide +kernel, by decide +kernel⟩, by decide +kernel, by decide⟩
theorem c_RG_231 : q_CS "RatchetGroup" 231 y_Int_bitCount b_Int_bitCount 1 (some .int) 1 := ⟨q_T_in 451 (by decide +kernel) rfl, q_T_in 452 (by decide +kernel) rfl, q_T_in 26 (by decide +kernel) rfl, w_Int_bitCount, ⟨by decide +kernel, by decide +kernel⟩, by decide +kernel, by decide⟩
theorem c_Law_90 : q_CV "RatchetGroupLaw" 90 y_RG_epoch b_RG_epoch 4 (some .int) 2 0 := ⟨q_T_in 457 (by decide +kernel) rfl, q_T_in 458 (by decide +kernel) rfl, q_T_in 459 (by decide +kernel) rfl, q_T_in 1 (by decide +kernel) rfl, w_RG_epoch, ⟨by decide +kernel, by decide +kernel⟩, by decide +kernel, by decide, F_RG, 7, rfl⟩
theorem c_Law_94 : q_CV "RatchetGroupLaw" 94 y_RG_epochs b_RG_epochs 1 (some .int) 0 0 := ⟨q_T_in 461 (by decide +kernel) rfl, q_T_in 462 (by decide +kernel) rfl, q_T_in 463 (by decide +kernel) rfl, q_T_in 1 (by decide +kernel) rfl, w_RG_epochs, ⟨by decide +kernel, by decide +kernel⟩, by decide +kernel, by decide, F_RG, 7, rfl⟩
theorem c_Law_98 : q_CV "RatchetGroupLaw" 98 y_RG_waiting b_RG_waiting 1 (some .int) 0 0 := ⟨q_T_in 465 (by decide +kernel) rfl, q_T_in 466 (by decide +kernel) rfl, q_T_in 467 (by decide +kernel) rfl, q_T_in 1 (by decide +kernel) rfl, w_RG_waiting, ⟨by decide +kernel, by decide +kernel⟩, by decide +kernel, by decide, F_RG, 7, rfl⟩
theorem c_Law_102 : q_CV "RatchetGroupLaw" 102 y_RG_isKnown b_RG_isKnown 2 (some .boolean) 1 0 := ⟨q_T_in 469 (by decide +kernel) rfl, q_T_in 470 (by decide +kernel) rfl, q_T_in 471 (by decide +kernel) rfl, q_T_in 1 (by decide +kernel) rfl, w_RG_isKnown, ⟨by decide +kernel, by decide +kernel⟩, by decide +kernel, by decide, F_RG, 7, rfl⟩
theorem c_RG_257 : q_CV "RatchetGroup" 257 y_Sec_isTold b_Sec_isTold 2 (some .boolean) 1 1 := ⟨q_T_in 473 (by decide +kernel) rfl, q_T_in 474 (by decide +kernel) rfl, q_T_in 475 (by decide +kernel) rfl, q_T_in 2 (by decide +kernel) rfl, w_Sec_isTold, ⟨by decide +kernel, by decide +kernel⟩, by decide +kernel, by decide, F_Sec, 10, rfl⟩
theorem c_Sec_59 : q_CV "RatchetGroup$Secrets" 59 y_Row_get b_Row_get 2 (some .int) 1 2 := ⟨q_T_in 477 (by decide +kernel) rfl, q_T_in 326 (by decide +kernel) rfl, q_T_in 327 (by decide +kernel) rfl, q_T_in 3 (by decide +kernel) rfl, w_Row_get, ⟨by decide +kernel, by decide +kernel⟩, by decide +kernel, by decide, F_Row, 1, rfl⟩
theorem c_Law_106 : q_CV "RatchetGroupLaw" 106 y_RG_isOpen b_RG_isOpen 3 (some .boolean) 2 0 := ⟨q_T_in 478 (by decide +kernel) rfl, q_T_in 479 (by decide +kernel) rfl, q_T_in 480 (by decide +kernel) rfl, q_T_in 1 (by decide +kernel) rfl, w_RG_isOpen, ⟨by decide +kernel, by decide +kernel⟩, by decide +kernel, by decide, F_RG, 7, rfl⟩
theorem c_Law_110 : q_CV "RatchetGroupLaw" 110 y_RG_known b_RG_known 3 (some .int) 0 0 := ⟨q_T_in 482 (by decide +kernel) rfl, q_T_in 483 (by decide +kernel) rfl, q_T_in 484 (by decide +kernel) rfl, q_T_in 1 (by decide +kernel) rfl, w_RG_known, ⟨by decide +kernel, by decide +kernel⟩, by decide +kernel, by decide, F_RG, 7, rfl⟩
theorem c_Law_7 : q_CV "RatchetGroupLaw" 7 y_RG_offer b_RG_offer 4 (some .int) 1 0 := ⟨q_T_in 491 (by decide +kernel) rfl, q_T_in 492 (by decide +kernel) rfl, q_T_in 493 (by decide +kernel) rfl, q_T_in 1 (by decide +kernel) rfl, w_RG_offer, ⟨by decide +kernel, by decide +kernel⟩, by decide +kernel, by decide, F_RG, 7, rfl⟩
theorem c_RG_82 : q_CV "RatchetGroup" 82 y_RG_memberNumbered b_RG_memberNumbered 2 (some (.object "RatchetGroup$Member")) 1 0 := ⟨q_T_in 495 (by decide +kernel) rfl, q_T_in 497 (by decide +kernel) rfl, q_T_sel 10 (by decide +kernel) rfl, q_T_in 1 (by decide +kernel) rfl, w_RG_memberNumbered, ⟨by decide +kernel, by decide +kernel⟩, by decide +kernel, by decide, F_RG, 7, rfl⟩
theorem c_RG_98 : q_CI "RatchetGroup" 98 y_KP_init b_KP_init 4 3 := ⟨q_T_in 583 (by decide +kernel) rfl, q_T_in 584 (by decide +kernel) rfl, rfl, q_T_in 22 (by decide +kernel) rfl, w_KP_init, ⟨by decide +kernel, by decide +kernel⟩, by decide +kernel, by decide⟩
theorem c_KP_3 : Cond.methodLink "RatchetGroup$KeyPackage" 3 Lib.objectInit ∈ q_T := q_T_in 586 (by decide +kernel) rfl
theorem c_Law_17 : q_CV "RatchetGroupLaw" 17 y_RG_add b_RG_add 4 (some .int) 2 0 := ⟨q_T_in 615 (by decide +kernel) rfl, q_T_in 616 (by decide +kernel) rfl, q_T_in 617 (by decide +kernel) rfl, q_T_in 1 (by decide +kernel) rfl, w_RG_add, ⟨by decide +kernel, by decide +kernel⟩, by decide +kernel, by decide, F_RG, 7, rfl⟩
theorem c_RG_106 : q_CV "RatchetGroup" 106 y_RG_refuseUnlessMayPropose b_RG_refuseUnlessMayPropose 2 none 1 0 := ⟨q_T_in 620 (by decide +kernel) rfl, q_T_in 622 (by decide +kernel) rfl, q_T_sel 12 (by decide +kernel) rfl, q_T_in 1 (by decide +kernel) rfl, w_RG_refuseUnlessMayPropose, ⟨by decide +kernel, by decide +kernel⟩, by decide +kernel, by decide, F_RG, 7, rfl⟩
theorem c_RG_116 : q_CI "RatchetGroup" 116 y_Ad_init b_Ad_init 2 1 := ⟨q_T_in 628 (by decide +kernel) rfl, q_T_in 629 (by decide +kernel) rfl, rfl, q_T_in 23 (by decide +kernel) rfl, w_Ad_init, ⟨by decide +kernel, by decide +kernel⟩, by decide +kernel, by decide⟩
theorem c_Ad_1 : Cond.methodLink "RatchetGroup$Addition" 1 Lib.objectInit ∈ q_T := q_T_in 631 (by decide +kernel) rfl
theorem c_Law_21 : q_CV "RatchetGroupLaw" 21 y_RG_remove b_RG_remove 4 (some .int) 2 0 := ⟨q_T_in 640 (by decide +kernel) rfl, q_T_in 641 (by decide +kernel) rfl, q_T_in 642 (by decide +kernel) rfl, q_T_in 1 (by decide +kernel) rfl, w_RG_remove, ⟨by decide +kernel, by decide +kernel⟩, by decide +kernel, by decide, F_RG, 7, rfl⟩
theorem c_RG_123 : q_CI "RatchetGroup" 123 y_Re_init b_Re_init 2 1 := ⟨q_T_in 647 (by decide +kernel) rfl, q_T_in 648 (by decide +kernel) rfl, rfl, q_T_in 24 (by decide +kernel) rfl, w_Re_init, ⟨by decide +kernel, by decide +kernel⟩, by decide +kernel, by decide⟩
theorem c_Re_1 : Cond.methodLink "RatchetGroup$Removal" 1 Lib.objectInit ∈ q_T := q_T_in 650 (by decide +kernel) rfl
theorem c_Law_24 : q_CV "RatchetGroupLaw" 24 y_RG_update b_RG_update 4 (some .int) 1 0 := ⟨q_T_in 659 (by decide +kernel) rfl, q_T_in 660 (by decide +kernel) rfl, q_T_in 661 (by decide +kernel) rfl, q_T_in 1 (by decide +kernel) rfl, w_RG_update, ⟨by decide +kernel, by decide +kernel⟩, by decide +kernel, by decide, F_RG, 7, rfl⟩
theorem c_RG_124 : q_CV "RatchetGroup" 124 y_Mem_keepUpdate b_Mem_keepUpdate 2 none 1 4 := ⟨q_T_in 663 (by decide +kernel) rfl, q_T_in 664 (by decide +kernel) rfl, q_T_in 665 (by decide +kernel) rfl, q_T_in 8 (by decide +kernel) rfl, w_Mem_keepUpdate, ⟨by decide +kernel, by decide +kernel⟩, by decide +kernel, by decide, F_Mem, 8, rfl⟩
theorem c_RG_132 : q_CI "RatchetGroup" 132 y_Rn_init b_Rn_init 3 2 := ⟨q_T_in 669 (by decide +kernel) rfl, q_T_in 670 (by decide +kernel) rfl, rfl, q_T_in 25 (by decide +kernel) rfl, w_Rn_init, ⟨by decide +kernel, by decide +kernel⟩, by decide +kernel, by decide⟩
theorem c_Rn_1 : Cond.methodLink "RatchetGroup$Renewal" 1 Lib.objectInit ∈ q_T := q_T_in 672 (by decide +kernel) rfl
theorem c_Law_27 : q_CV "RatchetGroupLaw" 27 y_RG_commit b_RG_commit 7 (some .int) 2 0 := ⟨q_T_in 686 (by decide +kernel) rfl, q_T_in 687 (by decide +kernel) rfl, q_T_in 688 (by decide +kernel) rfl, q_T_in 1 (by decide +kernel) rfl, w_RG_commit, ⟨by decide +kernel, by decide +kernel⟩, by decide +kernel, by decide, F_RG, 7, rfl⟩
theorem c_RG_141 : q_CV "RatchetGroup" 141 y_Tr_copy b_Tr_copy 2 none 1 6 := ⟨q_T_in 691 (by decide +kernel) rfl, q_T_in 692 (by decide +kernel) rfl, q_T_in 693 (by decide +kernel) rfl, q_T_in 13 (by decide +kernel) rfl, w_Tr_copy, ⟨by decide +kernel, by decide +kernel⟩, by decide +kernel, by decide, F_Tr, 5, rfl⟩
theorem c_Tr_37 : q_CV "RatchetGroup$Tree" 37 y_Row_copy b_Row_copy 3 none 1 2 := ⟨q_T_in 695 (by decide +kernel) rfl, q_T_in 696 (by decide +kernel) rfl, q_T_in 697 (by decide +kernel) rfl, q_T_in 3 (by decide +kernel) rfl, w_Row_copy, ⟨by decide +kernel, by decide +kernel⟩, by decide +kernel, by decide, F_Row, 1, rfl⟩
theorem c_Row_21 : q_CV "RatchetGroup$Row" 21 y_Row_get b_Row_get 2 (some .int) 1 2 := ⟨q_T_in 699 (by decide +kernel) rfl, q_T_in 326 (by decide +kernel) rfl, q_T_in 327 (by decide +kernel) rfl, q_T_in 3 (by decide +kernel) rfl, w_Row_get, ⟨by decide +kernel, by decide +kernel⟩, by decide +kernel, by decide, F_Row, 1, rfl⟩
theorem c_RG_145 : q_CV "RatchetGroup" 145 y_RG_applyRemovals b_RG_applyRemovals 5 none 1 0 := ⟨q_T_in 700 (by decide +kernel) rfl, q_T_in 702 (by decide +kernel) rfl, q_T_sel 13 (by decide +kernel) rfl, q_T_in 1 (by decide +kernel) rfl, w_RG_applyRemovals, ⟨by decide +kernel, by decide +kernel⟩, by decide +kernel, by decide, F_RG, 7, rfl⟩
theorem c_RG_268 : q_CV "RatchetGroup" 268 y_RG_removeLeaf b_RG_removeLeaf 5 none 2 0 := ⟨q_T_in 704 (by decide +kernel) rfl, q_T_in 706 (by decide +kernel) rfl, q_T_sel 14 (by decide +kernel) rfl, q_T_in 1 (by decide +kernel) rfl, w_RG_removeLeaf, ⟨by decide +kernel, by decide +kernel⟩, by decide +kernel, by decide, F_RG, 7, rfl⟩
theorem c_RG_274 : q_CS "RatchetGroup" 274 y_Tr_nodeOver b_Tr_nodeOver 2 (some .int) 2 := ⟨q_T_in 708 (by decide +kernel) rfl, q_T_in 315 (by decide +kernel) rfl, q_T_in 13 (by decide +kernel) rfl, w_Tr_nodeOver, ⟨by decide +kernel, by decide +kernel⟩, by decide +kernel, by decide⟩
theorem c_RG_277 : q_CV "RatchetGroup" 277 y_Tr_vacate b_Tr_vacate 2 none 1 6 := ⟨q_T_in 709 (by decide +kernel) rfl, q_T_in 710 (by decide +kernel) rfl, q_T_in 711 (by decide +kernel) rfl, q_T_in 13 (by decide +kernel) rfl, w_Tr_vacate, ⟨by decide +kernel, by decide +kernel⟩, by decide +kernel, by decide, F_Tr, 5, rfl⟩
theorem c_Tr_52 : q_CV "RatchetGroup$Tree" 52 y_Tr_blankWithPath b_Tr_blankWithPath 3 none 1 6 := ⟨q_T_in 713 (by decide +kernel) rfl, q_T_in 715 (by decide +kernel) rfl, q_T_sel 15 (by decide +kernel) rfl, q_T_in 13 (by decide +kernel) rfl, w_Tr_blankWithPath, ⟨by decide +kernel, by decide +kernel⟩, by decide +kernel, by decide, F_Tr, 5, rfl⟩
theorem c_RG_280 : q_CV "RatchetGroup" 280 y_Mem_leave b_Mem_leave 1 none 0 4 := ⟨q_T_in 717 (by decide +kernel) rfl, q_T_in 718 (by decide +kernel) rfl, q_T_in 719 (by decide +kernel) rfl, q_T_in 8 (by decide +kernel) rfl, w_Mem_leave, ⟨by decide +kernel, by decide +kernel⟩, by decide +kernel, by decide, F_Mem, 8, rfl⟩
theorem c_Mem_53 : q_CV "RatchetGroup$Member" 53 y_Row_fill b_Row_fill 2 none 1 2 := ⟨q_T_in 721 (by decide +kernel) rfl, q_T_in 722 (by decide +kernel) rfl, q_T_in 723 (by decide +kernel) rfl, q_T_in 3 (by decide +kernel) rfl, w_Row_fill, ⟨by decide +kernel, by decide +kernel⟩, by decide +kernel, by decide, F_Row, 1, rfl⟩
theorem c_RG_271 : q_CV "RatchetGroup" 271 y_Tr_shrink b_Tr_shrink 1 none 0 6 := ⟨q_T_in 725 (by decide +kernel) rfl, q_T_in 726 (by decide +kernel) rfl, q_T_in 727 (by decide +kernel) rfl, q_T_in 13 (by decide +kernel) rfl, w_Tr_shrink, ⟨by decide +kernel, by decide +kernel⟩, by decide +kernel, by decide, F_Tr, 5, rfl⟩
theorem c_Tr_60 : q_CV "RatchetGroup$Tree" 60 y_Tr_isRightHalfBlank b_Tr_isRightHalfBlank 2 (some .boolean) 0 6 := ⟨q_T_in 729 (by decide +kernel) rfl, q_T_in 731 (by decide +kernel) rfl, q_T_sel 16 (by decide +kernel) rfl, q_T_in 13 (by decide +kernel) rfl, w_Tr_isRightHalfBlank, ⟨by decide +kernel, by decide +kernel⟩, by decide +kernel, by decide, F_Tr, 5, rfl⟩
theorem c_Tr_64 : q_CV "RatchetGroup$Tree" 64 y_Tr_blank b_Tr_blank 2 none 1 6 := ⟨q_T_in 733 (by decide +kernel) rfl, q_T_in 734 (by decide +kernel) rfl, q_T_in 735 (by decide +kernel) rfl, q_T_in 13 (by decide +kernel) rfl, w_Tr_blank, ⟨by decide +kernel, by decide +kernel⟩, by decide +kernel, by decide, F_Tr, 5, rfl⟩
theorem c_RG_149 : q_CV "RatchetGroup" 149 y_RG_applyRenewals b_RG_applyRenewals 5 none 1 0 := ⟨q_T_in 737 (by decide +kernel) rfl, q_T_in 739 (by decide +kernel) rfl, q_T_sel 17 (by decide +kernel) rfl, q_T_in 1 (by decide +kernel) rfl, w_RG_applyRenewals, ⟨by decide +kernel, by decide +kernel⟩, by decide +kernel, by decide, F_RG, 7, rfl⟩
theorem c_RG_283 : q_CV "RatchetGroup" 283 y_Ep_lets b_Ep_lets 2 (some .boolean) 1 5 := ⟨q_T_in 741 (by decide +kernel) rfl, q_T_in 742 (by decide +kernel) rfl, q_T_in 743 (by decide +kernel) rfl, q_T_in 12 (by decide +kernel) rfl, w_Ep_lets, ⟨by decide +kernel, by decide +kernel⟩, by decide +kernel, by decide, F_Ep, 10, rfl⟩
theorem c_Ep_57 : q_CSN "RatchetGroup$Epoch" 57 y_RG_isIn "RatchetGroup" b_RG_isIn 2 (some .boolean) 2 := ⟨q_X_in 745 (by decide +kernel) rfl, q_T_in 357 (by decide +kernel) rfl, q_T_in 1 (by decide +kernel) rfl, w_RG_isIn, ⟨by decide +kernel, by decide +kernel⟩, by decide +kernel, by decide⟩
theorem c_RG_291 : q_CV "RatchetGroup" 291 y_Tr_renew b_Tr_renew 4 none 3 6 := ⟨q_T_in 746 (by decide +kernel) rfl, q_T_in 747 (by decide +kernel) rfl, q_T_in 748 (by decide +kernel) rfl, q_T_in 13 (by decide +kernel) rfl, w_Tr_renew, ⟨by decide +kernel, by decide +kernel⟩, by decide +kernel, by decide, F_Tr, 5, rfl⟩
theorem c_RG_152 : q_CV "RatchetGroup" 152 y_RG_applyAdditions b_RG_applyAdditions 5 none 1 0 := ⟨q_T_in 750 (by decide +kernel) rfl, q_T_in 752 (by decide +kernel) rfl, q_T_sel 18 (by decide +kernel) rfl, q_T_in 1 (by decide +kernel) rfl, w_RG_applyAdditions, ⟨by decide +kernel, by decide +kernel⟩, by decide +kernel, by decide, F_RG, 7, rfl⟩
theorem c_RG_299 : q_CV "RatchetGroup" 299 y_RG_addLeaf b_RG_addLeaf 5 none 2 0 := ⟨q_T_in 754 (by decide +kernel) rfl, q_T_in 756 (by decide +kernel) rfl, q_T_sel 19 (by decide +kernel) rfl, q_T_in 1 (by decide +kernel) rfl, w_RG_addLeaf, ⟨by decide +kernel, by decide +kernel⟩, by decide +kernel, by decide, F_RG, 7, rfl⟩
theorem c_RG_307 : q_CV "RatchetGroup" 307 y_KP_isUsed b_KP_isUsed 1 (some .boolean) 0 7 := ⟨q_T_in 758 (by decide +kernel) rfl, q_T_in 759 (by decide +kernel) rfl, q_T_in 760 (by decide +kernel) rfl, q_T_in 22 (by decide +kernel) rfl, w_KP_isUsed, ⟨by decide +kernel, by decide +kernel⟩, by decide +kernel, by decide, F_KP, 6, rfl⟩
theorem c_RG_311 : q_CV "RatchetGroup" 311 y_Tr_seats b_Tr_seats 3 (some .boolean) 1 6 := ⟨q_T_in 762 (by decide +kernel) rfl, q_T_in 763 (by decide +kernel) rfl, q_T_in 764 (by decide +kernel) rfl, q_T_in 13 (by decide +kernel) rfl, w_Tr_seats, ⟨by decide +kernel, by decide +kernel⟩, by decide +kernel, by decide, F_Tr, 5, rfl⟩
theorem c_RG_314 : q_CV "RatchetGroup" 314 y_Tr_lowestFreeLeaf b_Tr_lowestFreeLeaf 2 (some .int) 0 6 := ⟨q_T_in 766 (by decide +kernel) rfl, q_T_in 767 (by decide +kernel) rfl, q_T_in 768 (by decide +kernel) rfl, q_T_in 13 (by decide +kernel) rfl, w_Tr_lowestFreeLeaf, ⟨by decide +kernel, by decide +kernel⟩, by decide +kernel, by decide, F_Tr, 5, rfl⟩
theorem c_RG_155 : q_CV "RatchetGroup" 155 y_Ep_needsPath b_Ep_needsPath 2 (some .boolean) 1 5 := ⟨q_T_in 770 (by decide +kernel) rfl, q_T_in 771 (by decide +kernel) rfl, q_T_in 772 (by decide +kernel) rfl, q_T_in 12 (by decide +kernel) rfl, w_Ep_needsPath, ⟨by decide +kernel, by decide +kernel⟩, by decide +kernel, by decide, F_Ep, 10, rfl⟩
theorem c_RG_159 : q_CV "RatchetGroup" 159 y_Ep_layPath b_Ep_layPath 5 (some .int) 1 5 := ⟨q_T_in 774 (by decide +kernel) rfl, q_T_in 775 (by decide +kernel) rfl, q_T_in 776 (by decide +kernel) rfl, q_T_in 12 (by decide +kernel) rfl, w_Ep_layPath, ⟨by decide +kernel, by decide +kernel⟩, by decide +kernel, by decide, F_Ep, 10, rfl⟩
theorem c_Ep_61 : q_CS "RatchetGroup$Epoch" 61 y_Tr_nodeOver b_Tr_nodeOver 2 (some .int) 2 := ⟨q_T_in 778 (by decide +kernel) rfl, q_T_in 315 (by decide +kernel) rfl, q_T_in 13 (by decide +kernel) rfl, w_Tr_nodeOver, ⟨by decide +kernel, by decide +kernel⟩, by decide +kernel, by decide⟩
theorem c_Ep_65 : q_CV "RatchetGroup$Epoch" 65 y_Sec_fresh b_Sec_fresh 1 (some .int) 0 1 := ⟨q_T_in 779 (by decide +kernel) rfl, q_T_in 306 (by decide +kernel) rfl, q_T_in 307 (by decide +kernel) rfl, q_T_in 2 (by decide +kernel) rfl, w_Sec_fresh, ⟨by decide +kernel, by decide +kernel⟩, by decide +kernel, by decide, F_Sec, 10, rfl⟩
theorem c_Ep_71 : q_CV "RatchetGroup$Epoch" 71 y_Tr_give b_Tr_give 4 none 3 6 := ⟨q_T_in 780 (by decide +kernel) rfl, q_T_in 318 (by decide +kernel) rfl, q_T_in 319 (by decide +kernel) rfl, q_T_in 13 (by decide +kernel) rfl, w_Tr_give, ⟨by decide +kernel, by decide +kernel⟩, by decide +kernel, by decide, F_Tr, 5, rfl⟩
theorem c_Ep_78 : q_CV "RatchetGroup$Epoch" 78 y_Ep_nodeBesidePath b_Ep_nodeBesidePath 3 (some .int) 1 5 := ⟨q_T_in 781 (by decide +kernel) rfl, q_T_in 783 (by decide +kernel) rfl, q_T_sel 20 (by decide +kernel) rfl, q_T_in 12 (by decide +kernel) rfl, w_Ep_nodeBesidePath, ⟨by decide +kernel, by decide +kernel⟩, by decide +kernel, by decide, F_Ep, 10, rfl⟩
theorem c_Ep_82 : q_CV "RatchetGroup$Epoch" 82 y_Tr_resolution b_Tr_resolution 2 (some .int) 1 6 := ⟨q_T_in 785 (by decide +kernel) rfl, q_T_in 437 (by decide +kernel) rfl, q_T_in 438 (by decide +kernel) rfl, q_T_in 13 (by decide +kernel) rfl, w_Tr_resolution, ⟨by decide +kernel, by decide +kernel⟩, by decide +kernel, by decide, F_Tr, 5, rfl⟩
theorem c_Ep_85 : q_CV "RatchetGroup$Epoch" 85 y_Tr_blank b_Tr_blank 2 none 1 6 := ⟨q_T_in 786 (by decide +kernel) rfl, q_T_in 734 (by decide +kernel) rfl, q_T_in 735 (by decide +kernel) rfl, q_T_in 13 (by decide +kernel) rfl, w_Tr_blank, ⟨by decide +kernel, by decide +kernel⟩, by decide +kernel, by decide, F_Tr, 5, rfl⟩
theorem c_Ep_89 : q_CV "RatchetGroup$Epoch" 89 y_Sec_derivedFrom b_Sec_derivedFrom 3 (some .int) 1 1 := ⟨q_T_in 787 (by decide +kernel) rfl, q_T_in 788 (by decide +kernel) rfl, q_T_in 789 (by decide +kernel) rfl, q_T_in 2 (by decide +kernel) rfl, w_Sec_derivedFrom, ⟨by decide +kernel, by decide +kernel⟩, by decide +kernel, by decide, F_Sec, 10, rfl⟩
theorem c_Sec_51 : q_CV "RatchetGroup$Secrets" 51 y_Sec_fresh b_Sec_fresh 1 (some .int) 0 1 := ⟨q_T_in 791 (by decide +kernel) rfl, q_T_in 306 (by decide +kernel) rfl, q_T_in 307 (by decide +kernel) rfl, q_T_in 2 (by decide +kernel) rfl, w_Sec_fresh, ⟨by decide +kernel, by decide +kernel⟩, by decide +kernel, by decide, F_Sec, 10, rfl⟩
theorem c_Sec_55 : q_CV "RatchetGroup$Secrets" 55 y_Sec_openWay b_Sec_openWay 4 none 3 1 := ⟨q_T_in 792 (by decide +kernel) rfl, q_T_in 793 (by decide +kernel) rfl, q_T_in 794 (by decide +kernel) rfl, q_T_in 2 (by decide +kernel) rfl, w_Sec_openWay, ⟨by decide +kernel, by decide +kernel⟩, by decide +kernel, by decide, F_Sec, 10, rfl⟩
theorem c_Sec_67 : q_CV "RatchetGroup$Secrets" 67 y_Sec_isTold b_Sec_isTold 2 (some .boolean) 1 1 := ⟨q_T_in 796 (by decide +kernel) rfl, q_T_in 474 (by decide +kernel) rfl, q_T_in 475 (by decide +kernel) rfl, q_T_in 2 (by decide +kernel) rfl, w_Sec_isTold, ⟨by decide +kernel, by decide +kernel⟩, by decide +kernel, by decide, F_Sec, 10, rfl⟩
theorem c_Sec_71 : q_CV "RatchetGroup$Secrets" 71 y_Sec_tell b_Sec_tell 2 none 1 1 := ⟨q_T_in 797 (by decide +kernel) rfl, q_T_in 798 (by decide +kernel) rfl, q_T_in 799 (by decide +kernel) rfl, q_T_in 2 (by decide +kernel) rfl, w_Sec_tell, ⟨by decide +kernel, by decide +kernel⟩, by decide +kernel, by decide, F_Sec, 10, rfl⟩
theorem c_Ep_92 : q_CV "RatchetGroup$Epoch" 92 y_Row_put b_Row_put 3 none 2 2 := ⟨q_T_in 801 (by decide +kernel) rfl, q_T_in 56 (by decide +kernel) rfl, q_T_in 57 (by decide +kernel) rfl, q_T_in 3 (by decide +kernel) rfl, w_Row_put, ⟨by decide +kernel, by decide +kernel⟩, by decide +kernel, by decide, F_Row, 1, rfl⟩
theorem c_Ep_95 : q_CV "RatchetGroup$Epoch" 95 y_Ep_encryptPathSecret b_Ep_encryptPathSecret 5 none 2 5 := ⟨q_T_in 802 (by decide +kernel) rfl, q_T_in 804 (by decide +kernel) rfl, q_T_sel 21 (by decide +kernel) rfl, q_T_in 12 (by decide +kernel) rfl, w_Ep_encryptPathSecret, ⟨by decide +kernel, by decide +kernel⟩, by decide +kernel, by decide, F_Ep, 10, rfl⟩
theorem c_Ep_99 : q_CV "RatchetGroup$Epoch" 99 y_Ep_readersOf b_Ep_readersOf 2 (some .int) 1 5 := ⟨q_T_in 806 (by decide +kernel) rfl, q_T_in 807 (by decide +kernel) rfl, q_T_in 808 (by decide +kernel) rfl, q_T_in 12 (by decide +kernel) rfl, w_Ep_readersOf, ⟨by decide +kernel, by decide +kernel⟩, by decide +kernel, by decide, F_Ep, 10, rfl⟩
theorem c_Ep_115 : q_CS "RatchetGroup$Epoch" 115 y_Tr_nodesOfLeaves b_Tr_nodesOfLeaves 3 (some .int) 1 := ⟨q_T_in 810 (by decide +kernel) rfl, q_T_in 449 (by decide +kernel) rfl, q_T_in 13 (by decide +kernel) rfl, w_Tr_nodesOfLeaves, ⟨by decide +kernel, by decide +kernel⟩, by decide +kernel, by decide⟩
theorem c_Ep_105 : q_CV "RatchetGroup$Epoch" 105 y_Row_get b_Row_get 2 (some .int) 1 2 := ⟨q_T_in 811 (by decide +kernel) rfl, q_T_in 326 (by decide +kernel) rfl, q_T_in 327 (by decide +kernel) rfl, q_T_in 3 (by decide +kernel) rfl, w_Row_get, ⟨by decide +kernel, by decide +kernel⟩, by decide +kernel, by decide, F_Row, 1, rfl⟩
theorem c_Ep_108 : q_CV "RatchetGroup$Epoch" 108 y_Ep_encrypt b_Ep_encrypt 4 none 3 5 := ⟨q_T_in 812 (by decide +kernel) rfl, q_T_in 813 (by decide +kernel) rfl, q_T_in 814 (by decide +kernel) rfl, q_T_in 12 (by decide +kernel) rfl, w_Ep_encrypt, ⟨by decide +kernel, by decide +kernel⟩, by decide +kernel, by decide, F_Ep, 10, rfl⟩
theorem c_Ep_112 : q_CV "RatchetGroup$Epoch" 112 y_Sec_openWay b_Sec_openWay 4 none 3 1 := ⟨q_T_in 816 (by decide +kernel) rfl, q_T_in 793 (by decide +kernel) rfl, q_T_in 794 (by decide +kernel) rfl, q_T_in 2 (by decide +kernel) rfl, w_Sec_openWay, ⟨by decide +kernel, by decide +kernel⟩, by decide +kernel, by decide, F_Sec, 10, rfl⟩
theorem c_RG_163 : q_CV "RatchetGroup" 163 y_Sec_derivedFrom b_Sec_derivedFrom 3 (some .int) 1 1 := ⟨q_T_in 817 (by decide +kernel) rfl, q_T_in 788 (by decide +kernel) rfl, q_T_in 789 (by decide +kernel) rfl, q_T_in 2 (by decide +kernel) rfl, w_Sec_derivedFrom, ⟨by decide +kernel, by decide +kernel⟩, by decide +kernel, by decide, F_Sec, 10, rfl⟩
theorem c_RG_167 : q_CV "RatchetGroup" 167 y_Sec_joinerOf b_Sec_joinerOf 4 (some .int) 2 1 := ⟨q_T_in 818 (by decide +kernel) rfl, q_T_in 819 (by decide +kernel) rfl, q_T_in 820 (by decide +kernel) rfl, q_T_in 2 (by decide +kernel) rfl, w_Sec_joinerOf, ⟨by decide +kernel, by decide +kernel⟩, by decide +kernel, by decide, F_Sec, 10, rfl⟩
theorem c_RG_171 : q_CV "RatchetGroup" 171 y_RG_welcomeAdded b_RG_welcomeAdded 6 none 2 0 := ⟨q_T_in 822 (by decide +kernel) rfl, q_T_in 824 (by decide +kernel) rfl, q_T_sel 22 (by decide +kernel) rfl, q_T_in 1 (by decide +kernel) rfl, w_RG_welcomeAdded, ⟨by decide +kernel, by decide +kernel⟩, by decide +kernel, by decide, F_RG, 7, rfl⟩
theorem c_RG_325 : q_CV "RatchetGroup" 325 y_Ep_encrypt b_Ep_encrypt 4 none 3 5 := ⟨q_T_in 826 (by decide +kernel) rfl, q_T_in 813 (by decide +kernel) rfl, q_T_in 814 (by decide +kernel) rfl, q_T_in 12 (by decide +kernel) rfl, w_Ep_encrypt, ⟨by decide +kernel, by decide +kernel⟩, by decide +kernel, by decide, F_Ep, 10, rfl⟩
theorem c_RG_329 : q_CV "RatchetGroup" 329 y_Ep_lowestCountingOver b_Ep_lowestCountingOver 3 (some .int) 1 5 := ⟨q_T_in 827 (by decide +kernel) rfl, q_T_in 828 (by decide +kernel) rfl, q_T_in 829 (by decide +kernel) rfl, q_T_in 12 (by decide +kernel) rfl, w_Ep_lowestCountingOver, ⟨by decide +kernel, by decide +kernel⟩, by decide +kernel, by decide, F_Ep, 10, rfl⟩
theorem c_RG_174 : q_CV "RatchetGroup" 174 y_AL_clear b_AL_clear 4 none 0 3 := ⟨q_T_in 831 (by decide +kernel) rfl, q_T_in 832 (by decide +kernel) rfl, q_T_in 833 (by decide +kernel) rfl, q_T_in 7 (by decide +kernel) rfl, w_AL_clear, ⟨by decide +kernel, by decide +kernel⟩, by decide +kernel, by decide, F_AL, 3, rfl⟩
theorem c_RG_177 : q_CV "RatchetGroup" 177 y_Mem_lead b_Mem_lead 2 none 1 4 := ⟨q_T_in 835 (by decide +kernel) rfl, q_T_in 334 (by decide +kernel) rfl, q_T_in 335 (by decide +kernel) rfl, q_T_in 8 (by decide +kernel) rfl, w_Mem_lead, ⟨by decide +kernel, by decide +kernel⟩, by decide +kernel, by decide, F_Mem, 8, rfl⟩
theorem c_RG_180 : q_CV "RatchetGroup" 180 y_Sec_settle b_Sec_settle 1 none 0 1 := ⟨q_T_in 836 (by decide +kernel) rfl, q_T_in 837 (by decide +kernel) rfl, q_T_in 838 (by decide +kernel) rfl, q_T_in 2 (by decide +kernel) rfl, w_Sec_settle, ⟨by decide +kernel, by decide +kernel⟩, by decide +kernel, by decide, F_Sec, 10, rfl⟩
theorem c_Sec_63 : q_CV "RatchetGroup$Secrets" 63 y_Sec_followWays b_Sec_followWays 4 none 1 1 := ⟨q_T_in 840 (by decide +kernel) rfl, q_T_in 842 (by decide +kernel) rfl, q_T_sel 23 (by decide +kernel) rfl, q_T_in 2 (by decide +kernel) rfl, w_Sec_followWays, ⟨by decide +kernel, by decide +kernel⟩, by decide +kernel, by decide, F_Sec, 10, rfl⟩
theorem c_Law_31 : q_CV "RatchetGroupLaw" 31 y_RG_come b_RG_come 3 (some .int) 1 0 := ⟨q_T_in 847 (by decide +kernel) rfl, q_T_in 848 (by decide +kernel) rfl, q_T_in 849 (by decide +kernel) rfl, q_T_in 1 (by decide +kernel) rfl, w_RG_come, ⟨by decide +kernel, by decide +kernel⟩, by decide +kernel, by decide, F_RG, 7, rfl⟩
theorem c_RG_183 : q_CV "RatchetGroup" 183 y_RG_joinEarliest b_RG_joinEarliest 6 none 1 0 := ⟨q_T_in 851 (by decide +kernel) rfl, q_T_in 853 (by decide +kernel) rfl, q_T_sel 24 (by decide +kernel) rfl, q_T_in 1 (by decide +kernel) rfl, w_RG_joinEarliest, ⟨by decide +kernel, by decide +kernel⟩, by decide +kernel, by decide, F_RG, 7, rfl⟩
theorem c_RG_186 : q_CV "RatchetGroup" 186 y_RG_moveOn b_RG_moveOn 4 none 1 0 := ⟨q_T_in 856 (by decide +kernel) rfl, q_T_in 858 (by decide +kernel) rfl, q_T_sel 25 (by decide +kernel) rfl, q_T_in 1 (by decide +kernel) rfl, w_RG_moveOn, ⟨by decide +kernel, by decide +kernel⟩, by decide +kernel, by decide, F_RG, 7, rfl⟩
theorem c_RG_342 : q_CS "RatchetGroup" 342 y_RG_isIn b_RG_isIn 2 (some .boolean) 2 := ⟨q_T_in 861 (by decide +kernel) rfl, q_T_in 357 (by decide +kernel) rfl, q_T_in 1 (by decide +kernel) rfl, w_RG_isIn, ⟨by decide +kernel, by decide +kernel⟩, by decide +kernel, by decide⟩
theorem c_RG_346 : q_CV "RatchetGroup" 346 y_Mem_follow b_Mem_follow 3 none 1 4 := ⟨q_T_in 862 (by decide +kernel) rfl, q_T_in 863 (by decide +kernel) rfl, q_T_in 864 (by decide +kernel) rfl, q_T_in 8 (by decide +kernel) rfl, w_Mem_follow, ⟨by decide +kernel, by decide +kernel⟩, by decide +kernel, by decide, F_Mem, 8, rfl⟩
theorem c_Mem_90 : q_CV "RatchetGroup$Member" 90 y_Ep_lowestCountingOver b_Ep_lowestCountingOver 3 (some .int) 1 5 := ⟨q_T_in 866 (by decide +kernel) rfl, q_T_in 828 (by decide +kernel) rfl, q_T_in 829 (by decide +kernel) rfl, q_T_in 12 (by decide +kernel) rfl, w_Ep_lowestCountingOver, ⟨by decide +kernel, by decide +kernel⟩, by decide +kernel, by decide, F_Ep, 10, rfl⟩
theorem c_Mem_93 : q_CV "RatchetGroup$Member" 93 y_Ep_readersOf b_Ep_readersOf 2 (some .int) 1 5 := ⟨q_T_in 867 (by decide +kernel) rfl, q_T_in 807 (by decide +kernel) rfl, q_T_in 808 (by decide +kernel) rfl, q_T_in 12 (by decide +kernel) rfl, w_Ep_readersOf, ⟨by decide +kernel, by decide +kernel⟩, by decide +kernel, by decide, F_Ep, 10, rfl⟩
theorem c_Mem_96 : q_CV "RatchetGroup$Member" 96 y_Mem_holdsOneOf b_Mem_holdsOneOf 4 (some .boolean) 2 4 := ⟨q_T_in 868 (by decide +kernel) rfl, q_T_in 870 (by decide +kernel) rfl, q_T_sel 26 (by decide +kernel) rfl, q_T_in 8 (by decide +kernel) rfl, w_Mem_holdsOneOf, ⟨by decide +kernel, by decide +kernel⟩, by decide +kernel, by decide, F_Mem, 8, rfl⟩
theorem c_Law_34 : q_CV "RatchetGroupLaw" 34 y_RG_compromise b_RG_compromise 4 (some .int) 1 0 := ⟨q_T_in 875 (by decide +kernel) rfl, q_T_in 876 (by decide +kernel) rfl, q_T_in 877 (by decide +kernel) rfl, q_T_in 1 (by decide +kernel) rfl, w_RG_compromise, ⟨by decide +kernel, by decide +kernel⟩, by decide +kernel, by decide, F_RG, 7, rfl⟩
theorem c_RG_195 : q_CV "RatchetGroup" 195 y_Sec_tell b_Sec_tell 2 none 1 1 := ⟨q_T_in 879 (by decide +kernel) rfl, q_T_in 798 (by decide +kernel) rfl, q_T_in 799 (by decide +kernel) rfl, q_T_in 2 (by decide +kernel) rfl, w_Sec_tell, ⟨by decide +kernel, by decide +kernel⟩, by decide +kernel, by decide, F_Sec, 10, rfl⟩
theorem c_Law_40 : q_CI "RatchetGroupLaw" 40 y_Mo_init b_Mo_init 2 0 := ⟨q_T_in 882 (by decide +kernel) rfl, q_T_in 883 (by decide +kernel) rfl, rfl, q_T_in 14 (by decide +kernel) rfl, w_Mo_init, ⟨by decide +kernel, by decide +kernel⟩, by decide +kernel, by decide⟩
theorem c_Mo_1 : Cond.methodLink "RatchetGroupModel" 1 Lib.objectInit ∈ q_T := q_T_in 885 (by decide +kernel) rfl
theorem c_Mo_143 : q_CV "RatchetGroupModel" 143 y_Mo_make b_Mo_make 4 (some .int) 3 11 := ⟨q_T_in 886 (by decide +kernel) rfl, q_T_in 888 (by decide +kernel) rfl, q_T_sel 27 (by decide +kernel) rfl, q_T_in 14 (by decide +kernel) rfl, w_Mo_make, ⟨by decide +kernel, by decide +kernel⟩, by decide +kernel, by decide, F_Mo, 52, rfl⟩
theorem c_Mo_147 : q_CV "RatchetGroupModel" 147 y_Mo_leave b_Mo_leave 3 none 1 11 := ⟨q_T_in 890 (by decide +kernel) rfl, q_T_in 892 (by decide +kernel) rfl, q_T_sel 28 (by decide +kernel) rfl, q_T_in 14 (by decide +kernel) rfl, w_Mo_leave, ⟨by decide +kernel, by decide +kernel⟩, by decide +kernel, by decide, F_Mo, 52, rfl⟩
theorem c_Law_47 : q_CV "RatchetGroupLaw" 47 y_Mo_thrown b_Mo_thrown 1 (some .int) 0 11 := ⟨q_T_in 1052 (by decide +kernel) rfl, q_T_in 1053 (by decide +kernel) rfl, q_T_in 1054 (by decide +kernel) rfl, q_T_in 14 (by decide +kernel) rfl, w_Mo_thrown, ⟨by decide +kernel, by decide +kernel⟩, by decide +kernel, by decide, F_Mo, 52, rfl⟩
theorem c_Law_46 : q_CV "RatchetGroupLaw" 46 y_Mo_offer b_Mo_offer 2 (some .int) 1 11 := ⟨q_T_in 1056 (by decide +kernel) rfl, q_T_in 1057 (by decide +kernel) rfl, q_T_in 1058 (by decide +kernel) rfl, q_T_in 14 (by decide +kernel) rfl, w_Mo_offer, ⟨by decide +kernel, by decide +kernel⟩, by decide +kernel, by decide, F_Mo, 52, rfl⟩
theorem c_Mo_264 : q_CS "RatchetGroupModel" 264 y_Mo_in b_Mo_in 2 (some .boolean) 2 := ⟨q_T_in 1060 (by decide +kernel) rfl, q_T_in 1061 (by decide +kernel) rfl, q_T_in 14 (by decide +kernel) rfl, w_Mo_in, ⟨by decide +kernel, by decide +kernel⟩, by decide +kernel, by decide⟩
theorem c_Law_54 : q_CV "RatchetGroupLaw" 54 y_Mo_add b_Mo_add 3 (some .int) 2 11 := ⟨q_T_in 1063 (by decide +kernel) rfl, q_T_in 1064 (by decide +kernel) rfl, q_T_in 1065 (by decide +kernel) rfl, q_T_in 14 (by decide +kernel) rfl, w_Mo_add, ⟨by decide +kernel, by decide +kernel⟩, by decide +kernel, by decide, F_Mo, 52, rfl⟩
theorem c_Mo_270 : q_CV "RatchetGroupModel" 270 y_Mo_isAsked b_Mo_isAsked 3 (some .boolean) 2 11 := ⟨q_T_in 1067 (by decide +kernel) rfl, q_T_in 1069 (by decide +kernel) rfl, q_T_sel 29 (by decide +kernel) rfl, q_T_in 14 (by decide +kernel) rfl, w_Mo_isAsked, ⟨by decide +kernel, by decide +kernel⟩, by decide +kernel, by decide, F_Mo, 52, rfl⟩
theorem c_Mo_267 : q_CV "RatchetGroupModel" 267 y_Mo_isLatest b_Mo_isLatest 2 (some .boolean) 1 11 := ⟨q_T_in 1071 (by decide +kernel) rfl, q_T_in 1073 (by decide +kernel) rfl, q_T_sel 30 (by decide +kernel) rfl, q_T_in 14 (by decide +kernel) rfl, w_Mo_isLatest, ⟨by decide +kernel, by decide +kernel⟩, by decide +kernel, by decide, F_Mo, 52, rfl⟩
theorem c_Mo_274 : q_CV "RatchetGroupModel" 274 y_Mo_propose b_Mo_propose 4 (some .int) 3 11 := ⟨q_T_in 1075 (by decide +kernel) rfl, q_T_in 1077 (by decide +kernel) rfl, q_T_sel 31 (by decide +kernel) rfl, q_T_in 14 (by decide +kernel) rfl, w_Mo_propose, ⟨by decide +kernel, by decide +kernel⟩, by decide +kernel, by decide, F_Mo, 52, rfl⟩
theorem c_Law_57 : q_CV "RatchetGroupLaw" 57 y_Mo_remove b_Mo_remove 3 (some .int) 2 11 := ⟨q_T_in 1079 (by decide +kernel) rfl, q_T_in 1080 (by decide +kernel) rfl, q_T_in 1081 (by decide +kernel) rfl, q_T_in 14 (by decide +kernel) rfl, w_Mo_remove, ⟨by decide +kernel, by decide +kernel⟩, by decide +kernel, by decide, F_Mo, 52, rfl⟩
theorem c_Law_60 : q_CV "RatchetGroupLaw" 60 y_Mo_update b_Mo_update 3 (some .int) 1 11 := ⟨q_T_in 1083 (by decide +kernel) rfl, q_T_in 1084 (by decide +kernel) rfl, q_T_in 1085 (by decide +kernel) rfl, q_T_in 14 (by decide +kernel) rfl, w_Mo_update, ⟨by decide +kernel, by decide +kernel⟩, by decide +kernel, by decide, F_Mo, 52, rfl⟩
theorem c_Law_64 : q_CV "RatchetGroupLaw" 64 y_Mo_commit b_Mo_commit 3 (some .int) 2 11 := ⟨q_T_in 1087 (by decide +kernel) rfl, q_T_in 1088 (by decide +kernel) rfl, q_T_in 1089 (by decide +kernel) rfl, q_T_in 14 (by decide +kernel) rfl, w_Mo_commit, ⟨by decide +kernel, by decide +kernel⟩, by decide +kernel, by decide, F_Mo, 52, rfl⟩
theorem c_Mo_277 : q_CV "RatchetGroupModel" 277 y_Mo_change b_Mo_change 8 none 2 11 := ⟨q_T_in 1091 (by decide +kernel) rfl, q_T_in 1093 (by decide +kernel) rfl, q_T_sel 32 (by decide +kernel) rfl, q_T_in 14 (by decide +kernel) rfl, w_Mo_change, ⟨by decide +kernel, by decide +kernel⟩, by decide +kernel, by decide, F_Mo, 52, rfl⟩
theorem c_Mo_236 : q_CV "RatchetGroupModel" 236 y_Mo_copyTree b_Mo_copyTree 4 none 2 11 := ⟨q_T_in 1095 (by decide +kernel) rfl, q_T_in 1097 (by decide +kernel) rfl, q_T_sel 33 (by decide +kernel) rfl, q_T_in 14 (by decide +kernel) rfl, w_Mo_copyTree, ⟨by decide +kernel, by decide +kernel⟩, by decide +kernel, by decide, F_Mo, 52, rfl⟩
theorem c_Mo_192 : q_CV "RatchetGroupModel" 192 y_Mo_width b_Mo_width 2 (some .int) 1 11 := ⟨q_T_in 1099 (by decide +kernel) rfl, q_T_in 1101 (by decide +kernel) rfl, q_T_sel 34 (by decide +kernel) rfl, q_T_in 14 (by decide +kernel) rfl, w_Mo_width, ⟨by decide +kernel, by decide +kernel⟩, by decide +kernel, by decide, F_Mo, 52, rfl⟩
theorem c_Mo_239 : q_CV "RatchetGroupModel" 239 y_Mo_findRemoves b_Mo_findRemoves 5 none 2 11 := ⟨q_T_in 1103 (by decide +kernel) rfl, q_T_in 1105 (by decide +kernel) rfl, q_T_sel 35 (by decide +kernel) rfl, q_T_in 14 (by decide +kernel) rfl, w_Mo_findRemoves, ⟨by decide +kernel, by decide +kernel⟩, by decide +kernel, by decide, F_Mo, 52, rfl⟩
theorem c_Mo_242 : q_CV "RatchetGroupModel" 242 y_Mo_findUpdates b_Mo_findUpdates 5 none 2 11 := ⟨q_T_in 1107 (by decide +kernel) rfl, q_T_in 1109 (by decide +kernel) rfl, q_T_sel 36 (by decide +kernel) rfl, q_T_in 14 (by decide +kernel) rfl, w_Mo_findUpdates, ⟨by decide +kernel, by decide +kernel⟩, by decide +kernel, by decide, F_Mo, 52, rfl⟩
theorem c_Mo_245 : q_CV "RatchetGroupModel" 245 y_Mo_doRemoves b_Mo_doRemoves 3 none 1 11 := ⟨q_T_in 1111 (by decide +kernel) rfl, q_T_in 1113 (by decide +kernel) rfl, q_T_sel 37 (by decide +kernel) rfl, q_T_in 14 (by decide +kernel) rfl, w_Mo_doRemoves, ⟨by decide +kernel, by decide +kernel⟩, by decide +kernel, by decide, F_Mo, 52, rfl⟩
theorem c_Mo_172 : q_CV "RatchetGroupModel" 172 y_Mo_blank b_Mo_blank 3 none 2 11 := ⟨q_T_in 1115 (by decide +kernel) rfl, q_T_in 1117 (by decide +kernel) rfl, q_T_sel 38 (by decide +kernel) rfl, q_T_in 14 (by decide +kernel) rfl, w_Mo_blank, ⟨by decide +kernel, by decide +kernel⟩, by decide +kernel, by decide, F_Mo, 52, rfl⟩
theorem c_Mo_198 : q_CV "RatchetGroupModel" 198 y_Mo_blankPath b_Mo_blankPath 4 none 2 11 := ⟨q_T_in 1119 (by decide +kernel) rfl, q_T_in 1121 (by decide +kernel) rfl, q_T_sel 39 (by decide +kernel) rfl, q_T_in 14 (by decide +kernel) rfl, w_Mo_blankPath, ⟨by decide +kernel, by decide +kernel⟩, by decide +kernel, by decide, F_Mo, 52, rfl⟩
theorem c_Mo_168 : q_CS "RatchetGroupModel" 168 y_Mo_above b_Mo_above 2 (some .int) 2 := ⟨q_T_in 1123 (by decide +kernel) rfl, q_T_in 1124 (by decide +kernel) rfl, q_T_in 14 (by decide +kernel) rfl, w_Mo_above, ⟨by decide +kernel, by decide +kernel⟩, by decide +kernel, by decide⟩
theorem c_Mo_201 : q_CV "RatchetGroupModel" 201 y_Mo_isRightBlank b_Mo_isRightBlank 4 (some .boolean) 1 11 := ⟨q_T_in 1126 (by decide +kernel) rfl, q_T_in 1128 (by decide +kernel) rfl, q_T_sel 40 (by decide +kernel) rfl, q_T_in 14 (by decide +kernel) rfl, w_Mo_isRightBlank, ⟨by decide +kernel, by decide +kernel⟩, by decide +kernel, by decide, F_Mo, 52, rfl⟩
theorem c_Mo_248 : q_CV "RatchetGroupModel" 248 y_Mo_doUpdates b_Mo_doUpdates 3 none 1 11 := ⟨q_T_in 1130 (by decide +kernel) rfl, q_T_in 1132 (by decide +kernel) rfl, q_T_sel 41 (by decide +kernel) rfl, q_T_in 14 (by decide +kernel) rfl, w_Mo_doUpdates, ⟨by decide +kernel, by decide +kernel⟩, by decide +kernel, by decide, F_Mo, 52, rfl⟩
theorem c_Mo_204 : q_CV "RatchetGroupModel" 204 y_Mo_set b_Mo_set 4 none 3 11 := ⟨q_T_in 1134 (by decide +kernel) rfl, q_T_in 1136 (by decide +kernel) rfl, q_T_sel 42 (by decide +kernel) rfl, q_T_in 14 (by decide +kernel) rfl, w_Mo_set, ⟨by decide +kernel, by decide +kernel⟩, by decide +kernel, by decide, F_Mo, 52, rfl⟩
theorem c_Mo_251 : q_CV "RatchetGroupModel" 251 y_Mo_doAdds b_Mo_doAdds 6 none 1 11 := ⟨q_T_in 1138 (by decide +kernel) rfl, q_T_in 1140 (by decide +kernel) rfl, q_T_sel 43 (by decide +kernel) rfl, q_T_in 14 (by decide +kernel) rfl, w_Mo_doAdds, ⟨by decide +kernel, by decide +kernel⟩, by decide +kernel, by decide, F_Mo, 52, rfl⟩
theorem c_Mo_211 : q_CV "RatchetGroupModel" 211 y_Mo_mayAdd b_Mo_mayAdd 4 (some .boolean) 2 11 := ⟨q_T_in 1142 (by decide +kernel) rfl, q_T_in 1144 (by decide +kernel) rfl, q_T_sel 44 (by decide +kernel) rfl, q_T_in 14 (by decide +kernel) rfl, w_Mo_mayAdd, ⟨by decide +kernel, by decide +kernel⟩, by decide +kernel, by decide, F_Mo, 52, rfl⟩
theorem c_Mo_208 : q_CV "RatchetGroupModel" 208 y_Mo_leafOf b_Mo_leafOf 4 (some .int) 2 11 := ⟨q_T_in 1146 (by decide +kernel) rfl, q_T_in 1148 (by decide +kernel) rfl, q_T_sel 45 (by decide +kernel) rfl, q_T_in 14 (by decide +kernel) rfl, w_Mo_leafOf, ⟨by decide +kernel, by decide +kernel⟩, by decide +kernel, by decide, F_Mo, 52, rfl⟩
theorem c_Mo_215 : q_CV "RatchetGroupModel" 215 y_Mo_freeLeaf b_Mo_freeLeaf 3 (some .int) 1 11 := ⟨q_T_in 1150 (by decide +kernel) rfl, q_T_in 1152 (by decide +kernel) rfl, q_T_sel 46 (by decide +kernel) rfl, q_T_in 14 (by decide +kernel) rfl, w_Mo_freeLeaf, ⟨by decide +kernel, by decide +kernel⟩, by decide +kernel, by decide, F_Mo, 52, rfl⟩
theorem c_Mo_254 : q_CV "RatchetGroupModel" 254 y_Mo_renew b_Mo_renew 8 (some .int) 2 11 := ⟨q_T_in 1154 (by decide +kernel) rfl, q_T_in 1156 (by decide +kernel) rfl, q_T_sel 47 (by decide +kernel) rfl, q_T_in 14 (by decide +kernel) rfl, w_Mo_renew, ⟨by decide +kernel, by decide +kernel⟩, by decide +kernel, by decide, F_Mo, 52, rfl⟩
theorem c_Mo_218 : q_CV "RatchetGroupModel" 218 y_Mo_resolve b_Mo_resolve 7 none 2 11 := ⟨q_T_in 1158 (by decide +kernel) rfl, q_T_in 1160 (by decide +kernel) rfl, q_T_sel 48 (by decide +kernel) rfl, q_T_in 14 (by decide +kernel) rfl, w_Mo_resolve, ⟨by decide +kernel, by decide +kernel⟩, by decide +kernel, by decide, F_Mo, 52, rfl⟩
theorem c_Mo_179 : q_CS "RatchetGroupModel" 179 y_Mo_height b_Mo_height 2 (some .int) 1 := ⟨q_T_in 1162 (by decide +kernel) rfl, q_T_in 1163 (by decide +kernel) rfl, q_T_in 14 (by decide +kernel) rfl, w_Mo_height, ⟨by decide +kernel, by decide +kernel⟩, by decide +kernel, by decide⟩
theorem c_Mo_221 : q_CV "RatchetGroupModel" 221 y_Mo_of b_Mo_of 5 (some .int) 3 11 := ⟨q_T_in 1165 (by decide +kernel) rfl, q_T_in 1167 (by decide +kernel) rfl, q_T_sel 49 (by decide +kernel) rfl, q_T_in 14 (by decide +kernel) rfl, w_Mo_of, ⟨by decide +kernel, by decide +kernel⟩, by decide +kernel, by decide, F_Mo, 52, rfl⟩
theorem c_Mo_224 : q_CV "RatchetGroupModel" 224 y_Mo_encrypt b_Mo_encrypt 4 none 3 11 := ⟨q_T_in 1169 (by decide +kernel) rfl, q_T_in 1171 (by decide +kernel) rfl, q_T_sel 50 (by decide +kernel) rfl, q_T_in 14 (by decide +kernel) rfl, w_Mo_encrypt, ⟨by decide +kernel, by decide +kernel⟩, by decide +kernel, by decide, F_Mo, 52, rfl⟩
theorem c_Mo_257 : q_CV "RatchetGroupModel" 257 y_Mo_welcome b_Mo_welcome 5 none 2 11 := ⟨q_T_in 1173 (by decide +kernel) rfl, q_T_in 1175 (by decide +kernel) rfl, q_T_sel 51 (by decide +kernel) rfl, q_T_in 14 (by decide +kernel) rfl, w_Mo_welcome, ⟨by decide +kernel, by decide +kernel⟩, by decide +kernel, by decide, F_Mo, 52, rfl⟩
theorem c_Mo_227 : q_CV "RatchetGroupModel" 227 y_Mo_meeting b_Mo_meeting 4 (some .int) 2 11 := ⟨q_T_in 1177 (by decide +kernel) rfl, q_T_in 1179 (by decide +kernel) rfl, q_T_sel 52 (by decide +kernel) rfl, q_T_in 14 (by decide +kernel) rfl, w_Mo_meeting, ⟨by decide +kernel, by decide +kernel⟩, by decide +kernel, by decide, F_Mo, 52, rfl⟩
theorem c_Mo_260 : q_CV "RatchetGroupModel" 260 y_Mo_advance b_Mo_advance 4 none 3 11 := ⟨q_T_in 1181 (by decide +kernel) rfl, q_T_in 1183 (by decide +kernel) rfl, q_T_sel 53 (by decide +kernel) rfl, q_T_in 14 (by decide +kernel) rfl, w_Mo_advance, ⟨by decide +kernel, by decide +kernel⟩, by decide +kernel, by decide, F_Mo, 52, rfl⟩
theorem c_Mo_230 : q_CV "RatchetGroupModel" 230 y_Mo_keep b_Mo_keep 6 none 2 11 := ⟨q_T_in 1185 (by decide +kernel) rfl, q_T_in 1187 (by decide +kernel) rfl, q_T_sel 54 (by decide +kernel) rfl, q_T_in 14 (by decide +kernel) rfl, w_Mo_keep, ⟨by decide +kernel, by decide +kernel⟩, by decide +kernel, by decide, F_Mo, 52, rfl⟩
theorem c_Mo_233 : q_CV "RatchetGroupModel" 233 y_Mo_tell b_Mo_tell 6 none 3 11 := ⟨q_T_in 1189 (by decide +kernel) rfl, q_T_in 1191 (by decide +kernel) rfl, q_T_sel 55 (by decide +kernel) rfl, q_T_in 14 (by decide +kernel) rfl, w_Mo_tell, ⟨by decide +kernel, by decide +kernel⟩, by decide +kernel, by decide, F_Mo, 52, rfl⟩
theorem c_Law_67 : q_CV "RatchetGroupLaw" 67 y_Mo_come b_Mo_come 4 (some .int) 1 11 := ⟨q_T_in 1193 (by decide +kernel) rfl, q_T_in 1194 (by decide +kernel) rfl, q_T_in 1195 (by decide +kernel) rfl, q_T_in 14 (by decide +kernel) rfl, w_Mo_come, ⟨by decide +kernel, by decide +kernel⟩, by decide +kernel, by decide, F_Mo, 52, rfl⟩
theorem c_Mo_287 : q_CV "RatchetGroupModel" 287 y_Mo_nextPackage b_Mo_nextPackage 4 (some .int) 1 11 := ⟨q_T_in 1197 (by decide +kernel) rfl, q_T_in 1199 (by decide +kernel) rfl, q_T_sel 56 (by decide +kernel) rfl, q_T_in 14 (by decide +kernel) rfl, w_Mo_nextPackage, ⟨by decide +kernel, by decide +kernel⟩, by decide +kernel, by decide, F_Mo, 52, rfl⟩
theorem c_Mo_290 : q_CV "RatchetGroupModel" 290 y_Mo_join b_Mo_join 5 none 2 11 := ⟨q_T_in 1201 (by decide +kernel) rfl, q_T_in 1203 (by decide +kernel) rfl, q_T_sel 57 (by decide +kernel) rfl, q_T_in 14 (by decide +kernel) rfl, w_Mo_join, ⟨by decide +kernel, by decide +kernel⟩, by decide +kernel, by decide, F_Mo, 52, rfl⟩
theorem c_Mo_293 : q_CV "RatchetGroupModel" 293 y_Mo_follow b_Mo_follow 6 none 1 11 := ⟨q_T_in 1205 (by decide +kernel) rfl, q_T_in 1207 (by decide +kernel) rfl, q_T_sel 58 (by decide +kernel) rfl, q_T_in 14 (by decide +kernel) rfl, w_Mo_follow, ⟨by decide +kernel, by decide +kernel⟩, by decide +kernel, by decide, F_Mo, 52, rfl⟩
theorem c_Mo_281 : q_CV "RatchetGroupModel" 281 y_Mo_gather b_Mo_gather 3 none 1 11 := ⟨q_T_in 1209 (by decide +kernel) rfl, q_T_in 1211 (by decide +kernel) rfl, q_T_sel 59 (by decide +kernel) rfl, q_T_in 14 (by decide +kernel) rfl, w_Mo_gather, ⟨by decide +kernel, by decide +kernel⟩, by decide +kernel, by decide, F_Mo, 52, rfl⟩
theorem c_Mo_186 : q_CV "RatchetGroupModel" 186 y_Mo_hold b_Mo_hold 3 none 1 11 := ⟨q_T_in 1213 (by decide +kernel) rfl, q_T_in 1215 (by decide +kernel) rfl, q_T_sel 60 (by decide +kernel) rfl, q_T_in 14 (by decide +kernel) rfl, w_Mo_hold, ⟨by decide +kernel, by decide +kernel⟩, by decide +kernel, by decide, F_Mo, 52, rfl⟩
theorem c_Mo_284 : q_CV "RatchetGroupModel" 284 y_Mo_isHeld b_Mo_isHeld 3 (some .boolean) 1 11 := ⟨q_T_in 1217 (by decide +kernel) rfl, q_T_in 1219 (by decide +kernel) rfl, q_T_sel 61 (by decide +kernel) rfl, q_T_in 14 (by decide +kernel) rfl, w_Mo_isHeld, ⟨by decide +kernel, by decide +kernel⟩, by decide +kernel, by decide, F_Mo, 52, rfl⟩
theorem c_Law_70 : q_CV "RatchetGroupLaw" 70 y_Mo_compromise b_Mo_compromise 3 (some .int) 1 11 := ⟨q_T_in 1221 (by decide +kernel) rfl, q_T_in 1222 (by decide +kernel) rfl, q_T_in 1223 (by decide +kernel) rfl, q_T_in 14 (by decide +kernel) rfl, w_Mo_compromise, ⟨by decide +kernel, by decide +kernel⟩, by decide +kernel, by decide, F_Mo, 52, rfl⟩
theorem c_Law_74 : q_CV "RatchetGroupLaw" 74 y_Mo_member b_Mo_member 3 (some .int) 2 11 := ⟨q_T_in 1225 (by decide +kernel) rfl, q_T_in 1226 (by decide +kernel) rfl, q_T_in 1227 (by decide +kernel) rfl, q_T_in 14 (by decide +kernel) rfl, w_Mo_member, ⟨by decide +kernel, by decide +kernel⟩, by decide +kernel, by decide, F_Mo, 52, rfl⟩
theorem c_Law_79 : q_CV "RatchetGroupLaw" 79 y_Mo_holds b_Mo_holds 4 (some .boolean) 2 11 := ⟨q_T_in 1229 (by decide +kernel) rfl, q_T_in 1230 (by decide +kernel) rfl, q_T_in 1231 (by decide +kernel) rfl, q_T_in 14 (by decide +kernel) rfl, w_Mo_holds, ⟨by decide +kernel, by decide +kernel⟩, by decide +kernel, by decide, F_Mo, 52, rfl⟩
theorem c_Law_84 : q_CV "RatchetGroupLaw" 84 y_Mo_has b_Mo_has 2 (some .boolean) 1 11 := ⟨q_T_in 1233 (by decide +kernel) rfl, q_T_in 1234 (by decide +kernel) rfl, q_T_in 1235 (by decide +kernel) rfl, q_T_in 14 (by decide +kernel) rfl, w_Mo_has, ⟨by decide +kernel, by decide +kernel⟩, by decide +kernel, by decide, F_Mo, 52, rfl⟩
theorem c_Law_89 : q_CV "RatchetGroupLaw" 89 y_Mo_node b_Mo_node 5 (some .int) 3 11 := ⟨q_T_in 1237 (by decide +kernel) rfl, q_T_in 1238 (by decide +kernel) rfl, q_T_in 1239 (by decide +kernel) rfl, q_T_in 14 (by decide +kernel) rfl, w_Mo_node, ⟨by decide +kernel, by decide +kernel⟩, by decide +kernel, by decide, F_Mo, 52, rfl⟩
theorem c_Law_93 : q_CV "RatchetGroupLaw" 93 y_Mo_epoch b_Mo_epoch 3 (some .int) 2 11 := ⟨q_T_in 1241 (by decide +kernel) rfl, q_T_in 1242 (by decide +kernel) rfl, q_T_in 1243 (by decide +kernel) rfl, q_T_in 14 (by decide +kernel) rfl, w_Mo_epoch, ⟨by decide +kernel, by decide +kernel⟩, by decide +kernel, by decide, F_Mo, 52, rfl⟩
theorem c_Law_97 : q_CV "RatchetGroupLaw" 97 y_Mo_epochs b_Mo_epochs 1 (some .int) 0 11 := ⟨q_T_in 1245 (by decide +kernel) rfl, q_T_in 1246 (by decide +kernel) rfl, q_T_in 1247 (by decide +kernel) rfl, q_T_in 14 (by decide +kernel) rfl, w_Mo_epochs, ⟨by decide +kernel, by decide +kernel⟩, by decide +kernel, by decide, F_Mo, 52, rfl⟩
theorem c_Law_101 : q_CV "RatchetGroupLaw" 101 y_Mo_waiting b_Mo_waiting 1 (some .int) 0 11 := ⟨q_T_in 1249 (by decide +kernel) rfl, q_T_in 1250 (by decide +kernel) rfl, q_T_in 1251 (by decide +kernel) rfl, q_T_in 14 (by decide +kernel) rfl, w_Mo_waiting, ⟨by decide +kernel, by decide +kernel⟩, by decide +kernel, by decide, F_Mo, 52, rfl⟩
theorem c_Law_105 : q_CV "RatchetGroupLaw" 105 y_Mo_isKnown b_Mo_isKnown 2 (some .boolean) 1 11 := ⟨q_T_in 1253 (by decide +kernel) rfl, q_T_in 1254 (by decide +kernel) rfl, q_T_in 1255 (by decide +kernel) rfl, q_T_in 14 (by decide +kernel) rfl, w_Mo_isKnown, ⟨by decide +kernel, by decide +kernel⟩, by decide +kernel, by decide, F_Mo, 52, rfl⟩
theorem c_Mo_296 : q_CV "RatchetGroupModel" 296 y_Mo_intrude b_Mo_intrude 3 none 0 11 := ⟨q_T_in 1257 (by decide +kernel) rfl, q_T_in 1259 (by decide +kernel) rfl, q_T_sel 62 (by decide +kernel) rfl, q_T_in 14 (by decide +kernel) rfl, w_Mo_intrude, ⟨by decide +kernel, by decide +kernel⟩, by decide +kernel, by decide, F_Mo, 52, rfl⟩
theorem c_Mo_164 : q_CV "RatchetGroupModel" 164 y_Mo_follows b_Mo_follows 2 (some .boolean) 1 11 := ⟨q_T_in 1261 (by decide +kernel) rfl, q_T_in 1263 (by decide +kernel) rfl, q_T_sel 63 (by decide +kernel) rfl, q_T_in 14 (by decide +kernel) rfl, w_Mo_follows, ⟨by decide +kernel, by decide +kernel⟩, by decide +kernel, by decide, F_Mo, 52, rfl⟩
theorem c_Law_109 : q_CV "RatchetGroupLaw" 109 y_Mo_isOpen b_Mo_isOpen 3 (some .boolean) 2 11 := ⟨q_T_in 1265 (by decide +kernel) rfl, q_T_in 1266 (by decide +kernel) rfl, q_T_in 1267 (by decide +kernel) rfl, q_T_in 14 (by decide +kernel) rfl, w_Mo_isOpen, ⟨by decide +kernel, by decide +kernel⟩, by decide +kernel, by decide, F_Mo, 52, rfl⟩
theorem c_Law_113 : q_CV "RatchetGroupLaw" 113 y_Mo_known b_Mo_known 3 (some .int) 0 11 := ⟨q_T_in 1269 (by decide +kernel) rfl, q_T_in 1270 (by decide +kernel) rfl, q_T_in 1271 (by decide +kernel) rfl, q_T_in 14 (by decide +kernel) rfl, w_Mo_known, ⟨by decide +kernel, by decide +kernel⟩, by decide +kernel, by decide, F_Mo, 52, rfl⟩
end
section
/-! each method's instructions: by program (wip/gen_links.py) -/
theorem dk {b : ByteArray} {l : List (Nat × Instr × Nat)} (h : l.all (fun q => decide (decode b q.1 = .ok (q.2.1, q.2.2))) = true) (i : Nat) {pc len : Nat} {ins : Instr} (hi : l[i]? = some (pc, ins, len)) : decode b pc = .ok (ins, len) := by
  have h1 := List.all_eq_true.mp h _ (List.mem_of_getElem? hi)
  simpa using h1
def l_RG_init : List (Nat × Instr × Nat) := [(0, .aload_n 0, 1), (1, .invokespecial 3, 3), (4, .aload_n 0, 1), (5, .new 9, 3), (8, .dup, 1), (9, .invokespecial 11, 3), (12, .putfield 12, 3), (15, .aload_n 0, 1), (16, .new 16, 3), (19, .dup, 1), (20, .invokespecial 18, 3), (23, .putfield 19, 3), (26, .aload_n 0, 1), (27, .new 16, 3), (30, .dup, 1), (31, .invokespecial 18, 3), (34, .putfield 23, 3), (37, .aload_n 0, 1), (38, .new 16, 3), (41, .dup, 1), (42, .invokespecial 18, 3), (45, .putfield 26, 3), (48, .aload_n 0, 1), (49, .new 16, 3), (52, .dup, 1), (53, .invokespecial 18, 3), (56, .putfield 29, 3), (59, .aload_n 0, 1), (60, .new 32, 3), (63, .dup, 1), (64, .sipush 172, 3), (67, .iconst (-1), 1), (68, .invokespecial 34, 3), (71, .putfield 37, 3), (74, .new 41, 3), (77, .dup, 1), (78, .iconst 0, 1), (79, .invokespecial 43, 3), (82, .astore_n 1, 1), (83, .aload_n 0, 1), (84, .getfield 19, 3), (87, .aload_n 1, 1), (88, .invokevirtual 46, 3), (91, .pop, 1), (92, .iconst 1, 1), (93, .istore_n 2, 1), (94, .iload_n 2, 1), (95, .bipush 16, 2), (97, .if_icmp .ge 25, 3), (100, .aload_n 0, 1), (101, .getfield 19, 3), (104, .new 41, 3), (107, .dup, 1), (108, .iload_n 2, 1), (109, .invokespecial 43, 3), (112, .invokevirtual 46, 3), (115, .pop, 1), (116, .iinc 2 1, 3), (119, .goto (-25), 3), (122, .aload_n 0, 1), (123, .new 50, 3), (126, .dup, 1), (127, .iconst 0, 1), (128, .iconst (-1), 1), (129, .invokespecial 52, 3), (132, .putfield 53, 3), (135, .aload_n 0, 1), (136, .getfield 53, 3), (139, .aload_n 0, 1), (140, .getfield 12, 3), (143, .invokevirtual 57, 3), (146, .putfield 61, 3), (149, .aload_n 0, 1), (150, .getfield 53, 3), (153, .getfield 65, 3), (156, .iconst 0, 1), (157, .aload_n 1, 1), (158, .getfield 69, 3), (161, .aload_n 0, 1), (162, .getfield 12, 3), (165, .invokevirtual 57, 3), (168, .iconst 0, 1), (169, .invokevirtual 72, 3), (172, .aload_n 0, 1), (173, .getfield 29, 3), (176, .aload_n 0, 1), (177, .getfield 53, 3), (180, .invokevirtual 46, 3), (183, .pop, 1), (184, .aload_n 1, 1), (185, .aload_n 0, 1), (186, .getfield 53, 3), (189, .iconst 0, 1), (190, .invokevirtual 78, 3), (193, .return_, 1)]
theorem m_RG_init : l_RG_init.all (fun q => decide (decode b_RG_init q.1 = .ok (q.2.1, q.2.2))) = true := by decide +kernel
def l_Obj_init : List (Nat × Instr × Nat) := [(0, .return_, 1)]
theorem m_Obj_init : l_Obj_init.all (fun q => decide (decode b_Obj_init q.1 = .ok (q.2.1, q.2.2))) = true := by decide +kernel
def l_Sec_init : List (Nat × Instr × Nat) := [(0, .aload_n 0, 1), (1, .invokespecial 3, 3), (4, .aload_n 0, 1), (5, .new 9, 3), (8, .dup, 1), (9, .sipush 2200, 3), (12, .iconst 0, 1), (13, .invokespecial 11, 3), (16, .putfield 14, 3), (19, .aload_n 0, 1), (20, .new 9, 3), (23, .dup, 1), (24, .sipush 2200, 3), (27, .iconst (-1), 1), (28, .invokespecial 11, 3), (31, .putfield 20, 3), (34, .aload_n 0, 1), (35, .new 9, 3), (38, .dup, 1), (39, .sipush 2600, 3), (42, .iconst (-1), 1), (43, .invokespecial 11, 3), (46, .putfield 23, 3), (49, .aload_n 0, 1), (50, .new 9, 3), (53, .dup, 1), (54, .sipush 2600, 3), (57, .iconst (-1), 1), (58, .invokespecial 11, 3), (61, .putfield 26, 3), (64, .aload_n 0, 1), (65, .new 9, 3), (68, .dup, 1), (69, .sipush 2600, 3), (72, .iconst (-1), 1), (73, .invokespecial 11, 3), (76, .putfield 29, 3), (79, .aload_n 0, 1), (80, .new 9, 3), (83, .dup, 1), (84, .sipush 2200, 3), (87, .iconst (-1), 1), (88, .invokespecial 11, 3), (91, .putfield 32, 3), (94, .aload_n 0, 1), (95, .iconst 1, 1), (96, .putfield 35, 3), (99, .aload_n 0, 1), (100, .iconst 0, 1), (101, .putfield 39, 3), (104, .aload_n 0, 1), (105, .iconst 0, 1), (106, .putfield 42, 3), (109, .aload_n 0, 1), (110, .iconst 0, 1), (111, .putfield 45, 3), (114, .aload_n 0, 1), (115, .getfield 14, 3), (118, .iconst 0, 1), (119, .iconst 1, 1), (120, .invokevirtual 48, 3), (123, .return_, 1)]
theorem m_Sec_init : l_Sec_init.all (fun q => decide (decode b_Sec_init q.1 = .ok (q.2.1, q.2.2))) = true := by decide +kernel
def l_Row_init : List (Nat × Instr × Nat) := [(0, .aload_n 0, 1), (1, .invokespecial 3, 3), (4, .aload_n 0, 1), (5, .iload_n 1, 1), (6, .ifCond .le 7, 3), (9, .iload_n 1, 1), (10, .goto 4, 3), (13, .iconst 0, 1), (14, .newarray .int, 2), (16, .putfield 9, 3), (19, .aload_n 0, 1), (20, .getfield 9, 3), (23, .iload_n 2, 1), (24, .invokestatic 15, 3), (27, .return_, 1)]
theorem m_Row_init : l_Row_init.all (fun q => decide (decode b_Row_init q.1 = .ok (q.2.1, q.2.2))) = true := by decide +kernel
def l_Arr_fill : List (Nat × Instr × Nat) := [(0, .iconst 0, 1), (1, .istore_n 2, 1), (2, .aload_n 0, 1), (3, .arraylength, 1), (4, .istore_n 3, 1), (5, .iload_n 2, 1), (6, .iload_n 3, 1), (7, .if_icmp .ge 13, 3), (10, .aload_n 0, 1), (11, .iload_n 2, 1), (12, .iload_n 1, 1), (13, .iastore, 1), (14, .iinc 2 1, 3), (17, .goto (-12), 3), (20, .return_, 1)]
theorem m_Arr_fill : l_Arr_fill.all (fun q => decide (decode b_Arr_fill q.1 = .ok (q.2.1, q.2.2))) = true := by decide +kernel
def l_Row_put : List (Nat × Instr × Nat) := [(0, .iload_n 1, 1), (1, .ifCond .lt 19, 3), (4, .iload_n 1, 1), (5, .aload_n 0, 1), (6, .getfield 9, 3), (9, .arraylength, 1), (10, .if_icmp .ge 10, 3), (13, .aload_n 0, 1), (14, .getfield 9, 3), (17, .iload_n 1, 1), (18, .iload_n 2, 1), (19, .iastore, 1), (20, .return_, 1)]
theorem m_Row_put : l_Row_put.all (fun q => decide (decode b_Row_put q.1 = .ok (q.2.1, q.2.2))) = true := by decide +kernel
def l_AL_init : List (Nat × Instr × Nat) := [(0, .aload_n 0, 1), (1, .invokespecial 1, 3), (4, .aload_n 0, 1), (5, .getstatic 39, 3), (8, .putfield 9, 3), (11, .return_, 1)]
theorem m_AL_init : l_AL_init.all (fun q => decide (decode b_AL_init q.1 = .ok (q.2.1, q.2.2))) = true := by decide +kernel
def l_ALs_init : List (Nat × Instr × Nat) := [(0, .aload_n 0, 1), (1, .invokespecial 1, 3), (4, .aload_n 0, 1), (5, .iconst 0, 1), (6, .putfield 7, 3), (9, .return_, 1)]
theorem m_ALs_init : l_ALs_init.all (fun q => decide (decode b_ALs_init q.1 = .ok (q.2.1, q.2.2))) = true := by decide +kernel
def l_AC_init : List (Nat × Instr × Nat) := [(0, .aload_n 0, 1), (1, .invokespecial 1, 3), (4, .return_, 1)]
theorem m_AC_init : l_AC_init.all (fun q => decide (decode b_AC_init q.1 = .ok (q.2.1, q.2.2))) = true := by decide +kernel
def l_Mem_init : List (Nat × Instr × Nat) := [(0, .aload_n 0, 1), (1, .invokespecial 3, 3), (4, .aload_n 0, 1), (5, .new 9, 3), (8, .dup, 1), (9, .bipush 31, 2), (11, .iconst (-1), 1), (12, .invokespecial 11, 3), (15, .putfield 14, 3), (18, .aload_n 0, 1), (19, .new 9, 3), (22, .dup, 1), (23, .bipush 20, 2), (25, .iconst (-1), 1), (26, .invokespecial 11, 3), (29, .putfield 20, 3), (32, .aload_n 0, 1), (33, .iconst 0, 1), (34, .putfield 23, 3), (37, .aload_n 0, 1), (38, .iconst (-1), 1), (39, .putfield 27, 3), (42, .aload_n 0, 1), (43, .iconst (-1), 1), (44, .putfield 30, 3), (47, .aload_n 0, 1), (48, .iconst 0, 1), (49, .putfield 33, 3), (52, .aload_n 0, 1), (53, .iconst 0, 1), (54, .putfield 37, 3), (57, .aload_n 0, 1), (58, .iload_n 1, 1), (59, .putfield 40, 3), (62, .return_, 1)]
theorem m_Mem_init : l_Mem_init.all (fun q => decide (decode b_Mem_init q.1 = .ok (q.2.1, q.2.2))) = true := by decide +kernel
def l_AL_add1 : List (Nat × Instr × Nat) := [(0, .aload_n 0, 1), (1, .dup, 1), (2, .getfield 63, 3), (5, .iconst 1, 1), (6, .iadd, 1), (7, .putfield 63, 3), (10, .aload_n 0, 1), (11, .aload_n 1, 1), (12, .aload_n 0, 1), (13, .getfield 9, 3), (16, .aload_n 0, 1), (17, .getfield 48, 3), (20, .invokevirtual 131, 3), (23, .iconst 1, 1), (24, .ireturn, 1)]
theorem m_AL_add1 : l_AL_add1.all (fun q => decide (decode b_AL_add1 q.1 = .ok (q.2.1, q.2.2))) = true := by decide +kernel
def l_AL_add2 : List (Nat × Instr × Nat) := [(0, .iload_n 3, 1), (1, .aload_n 2, 1), (2, .arraylength, 1), (3, .if_icmp .ne 8, 3), (6, .aload_n 0, 1), (7, .invokevirtual 129, 3), (10, .astore_n 2, 1), (11, .aload_n 2, 1), (12, .iload_n 3, 1), (13, .aload_n 1, 1), (14, .aastore, 1), (15, .aload_n 0, 1), (16, .iload_n 3, 1), (17, .iconst 1, 1), (18, .iadd, 1), (19, .putfield 48, 3), (22, .return_, 1)]
theorem m_AL_add2 : l_AL_add2.all (fun q => decide (decode b_AL_add2 q.1 = .ok (q.2.1, q.2.2))) = true := by decide +kernel
def l_AL_grow1 : List (Nat × Instr × Nat) := [(0, .aload_n 0, 1), (1, .aload_n 0, 1), (2, .getfield 48, 3), (5, .iconst 1, 1), (6, .iadd, 1), (7, .invokevirtual 69, 3), (10, .areturn, 1)]
theorem m_AL_grow1 : l_AL_grow1.all (fun q => decide (decode b_AL_grow1 q.1 = .ok (q.2.1, q.2.2))) = true := by decide +kernel
def l_AL_grow2 : List (Nat × Instr × Nat) := [(0, .aload_n 0, 1), (1, .getfield 9, 3), (4, .arraylength, 1), (5, .istore_n 2, 1), (6, .iload_n 2, 1), (7, .ifCond .gt 13, 3), (10, .aload_n 0, 1), (11, .getfield 9, 3), (14, .getstatic 39, 3), (17, .if_acmp .eq 28, 3), (20, .iload_n 2, 1), (21, .iload_n 1, 1), (22, .iload_n 2, 1), (23, .isub, 1), (24, .iload_n 2, 1), (25, .iconst 1, 1), (26, .ishr, 1), (27, .invokestatic 73, 3), (30, .istore_n 3, 1), (31, .aload_n 0, 1), (32, .aload_n 0, 1), (33, .getfield 9, 3), (36, .iload_n 3, 1), (37, .invokestatic 66, 3), (40, .dup_x1, 1), (41, .putfield 9, 3), (44, .areturn, 1), (45, .aload_n 0, 1), (46, .bipush 10, 2), (48, .iload_n 1, 1), (49, .invokestatic 79, 3), (52, .anewarray 7, 3), (55, .dup_x1, 1), (56, .putfield 9, 3), (59, .areturn, 1)]
theorem m_AL_grow2 : l_AL_grow2.all (fun q => decide (decode b_AL_grow2 q.1 = .ok (q.2.1, q.2.2))) = true := by decide +kernel
def l_ASup_newLength : List (Nat × Instr × Nat) := [(0, .iload_n 0, 1), (1, .iload_n 1, 1), (2, .iload_n 2, 1), (3, .invokestatic 194, 3), (6, .iadd, 1), (7, .istore_n 3, 1), (8, .iconst 0, 1), (9, .iload_n 3, 1), (10, .if_icmp .ge 11, 3), (13, .iload_n 3, 1), (14, .ldc 200, 2), (16, .if_icmp .gt 5, 3), (19, .iload_n 3, 1), (20, .ireturn, 1), (21, .iload_n 0, 1), (22, .iload_n 1, 1), (23, .invokestatic 201, 3), (26, .ireturn, 1)]
theorem m_ASup_newLength : l_ASup_newLength.all (fun q => decide (decode b_ASup_newLength q.1 = .ok (q.2.1, q.2.2))) = true := by decide +kernel
def l_Math_max : List (Nat × Instr × Nat) := [(0, .iload_n 0, 1), (1, .iload_n 1, 1), (2, .if_icmp .lt 7, 3), (5, .iload_n 0, 1), (6, .goto 4, 3), (9, .iload_n 1, 1), (10, .ireturn, 1)]
theorem m_Math_max : l_Math_max.all (fun q => decide (decode b_Math_max q.1 = .ok (q.2.1, q.2.2))) = true := by decide +kernel
def l_ASup_hugeLength : List (Nat × Instr × Nat) := [(0, .iload_n 0, 1), (1, .iload_n 1, 1), (2, .iadd, 1), (3, .istore_n 2, 1), (4, .iload_n 2, 1), (5, .ifCond .ge 44, 3), (8, .new 204, 3), (11, .dup, 1), (12, .new 89, 3), (15, .dup, 1), (16, .invokespecial 91, 3), (19, .ldc 206, 2), (21, .invokevirtual 94, 3), (24, .iload_n 0, 1), (25, .invokevirtual 98, 3), (28, .ldc 208, 2), (30, .invokevirtual 94, 3), (33, .iload_n 1, 1), (34, .invokevirtual 98, 3), (37, .ldc 210, 2), (39, .invokevirtual 94, 3), (42, .invokevirtual 101, 3), (45, .invokespecial 212, 3), (48, .athrow, 1), (49, .iload_n 2, 1), (50, .ldc 200, 2), (52, .if_icmp .gt 6, 3), (55, .ldc 200, 2), (57, .ireturn, 1), (58, .iload_n 2, 1), (59, .ireturn, 1)]
theorem m_ASup_hugeLength : l_ASup_hugeLength.all (fun q => decide (decode b_ASup_hugeLength q.1 = .ok (q.2.1, q.2.2))) = true := by decide +kernel
def l_Arr_copyOf1 : List (Nat × Instr × Nat) := [(0, .aload_n 0, 1), (1, .iload_n 1, 1), (2, .aload_n 0, 1), (3, .invokevirtual 86, 3), (6, .invokestatic 300, 3), (9, .areturn, 1)]
theorem m_Arr_copyOf1 : l_Arr_copyOf1.all (fun q => decide (decode b_Arr_copyOf1 q.1 = .ok (q.2.1, q.2.2))) = true := by decide +kernel
def l_Arr_copyOf2 : List (Nat × Instr × Nat) := [(0, .aload_n 2, 1), (1, .ldc 110, 2), (3, .if_acmp .ne 10, 3), (6, .iload_n 1, 1), (7, .anewarray 2, 3), (10, .goto 14, 3), (13, .aload_n 2, 1), (14, .invokevirtual 90, 3), (17, .iload_n 1, 1), (18, .invokestatic 95, 3), (21, .checkcast 110, 3), (24, .astore_n 3, 1), (25, .aload_n 0, 1), (26, .iconst 0, 1), (27, .aload_n 3, 1), (28, .iconst 0, 1), (29, .aload_n 0, 1), (30, .arraylength, 1), (31, .iload_n 1, 1), (32, .invokestatic 304, 3), (35, .invokestatic 150, 3), (38, .aload_n 3, 1), (39, .areturn, 1)]
theorem m_Arr_copyOf2 : l_Arr_copyOf2.all (fun q => decide (decode b_Arr_copyOf2 q.1 = .ok (q.2.1, q.2.2))) = true := by decide +kernel
def l_Math_min : List (Nat × Instr × Nat) := [(0, .iload_n 0, 1), (1, .iload_n 1, 1), (2, .if_icmp .gt 7, 3), (5, .iload_n 0, 1), (6, .goto 4, 3), (9, .iload_n 1, 1), (10, .ireturn, 1)]
theorem m_Math_min : l_Math_min.all (fun q => decide (decode b_Math_min q.1 = .ok (q.2.1, q.2.2))) = true := by decide +kernel
def l_Ep_init : List (Nat × Instr × Nat) := [(0, .aload_n 0, 1), (1, .invokespecial 3, 3), (4, .aload_n 0, 1), (5, .new 9, 3), (8, .dup, 1), (9, .invokespecial 11, 3), (12, .putfield 12, 3), (15, .aload_n 0, 1), (16, .new 18, 3), (19, .dup, 1), (20, .iconst 5, 1), (21, .iconst (-1), 1), (22, .invokespecial 20, 3), (25, .putfield 23, 3), (28, .aload_n 0, 1), (29, .iconst (-1), 1), (30, .putfield 27, 3), (33, .aload_n 0, 1), (34, .iconst 0, 1), (35, .putfield 31, 3), (38, .aload_n 0, 1), (39, .iconst 0, 1), (40, .putfield 34, 3), (43, .aload_n 0, 1), (44, .iconst 0, 1), (45, .putfield 37, 3), (48, .aload_n 0, 1), (49, .iconst 0, 1), (50, .putfield 40, 3), (53, .aload_n 0, 1), (54, .iconst 0, 1), (55, .putfield 43, 3), (58, .aload_n 0, 1), (59, .iload_n 1, 1), (60, .putfield 46, 3), (63, .aload_n 0, 1), (64, .iload_n 2, 1), (65, .putfield 49, 3), (68, .return_, 1)]
theorem m_Ep_init : l_Ep_init.all (fun q => decide (decode b_Ep_init q.1 = .ok (q.2.1, q.2.2))) = true := by decide +kernel
def l_Tr_init : List (Nat × Instr × Nat) := [(0, .aload_n 0, 1), (1, .invokespecial 3, 3), (4, .aload_n 0, 1), (5, .new 9, 3), (8, .dup, 1), (9, .bipush 31, 2), (11, .iconst (-1), 1), (12, .invokespecial 11, 3), (15, .putfield 14, 3), (18, .aload_n 0, 1), (19, .new 9, 3), (22, .dup, 1), (23, .bipush 31, 2), (25, .iconst 0, 1), (26, .invokespecial 11, 3), (29, .putfield 20, 3), (32, .aload_n 0, 1), (33, .new 9, 3), (36, .dup, 1), (37, .bipush 31, 2), (39, .iconst (-1), 1), (40, .invokespecial 11, 3), (43, .putfield 23, 3), (46, .aload_n 0, 1), (47, .new 9, 3), (50, .dup, 1), (51, .bipush 16, 2), (53, .iconst (-1), 1), (54, .invokespecial 11, 3), (57, .putfield 26, 3), (60, .aload_n 0, 1), (61, .iconst 0, 1), (62, .putfield 29, 3), (65, .return_, 1)]
theorem m_Tr_init : l_Tr_init.all (fun q => decide (decode b_Tr_init q.1 = .ok (q.2.1, q.2.2))) = true := by decide +kernel
def l_Sec_fresh : List (Nat × Instr × Nat) := [(0, .aload_n 0, 1), (1, .getfield 35, 3), (4, .sipush 2200, 3), (7, .if_icmp .lt 5, 3), (10, .iconst (-1), 1), (11, .ireturn, 1), (12, .aload_n 0, 1), (13, .dup, 1), (14, .getfield 35, 3), (17, .dup_x1, 1), (18, .iconst 1, 1), (19, .iadd, 1), (20, .putfield 35, 3), (23, .ireturn, 1)]
theorem m_Sec_fresh : l_Sec_fresh.all (fun q => decide (decode b_Sec_fresh q.1 = .ok (q.2.1, q.2.2))) = true := by decide +kernel
def l_Tr_seat : List (Nat × Instr × Nat) := [(0, .aload_n 0, 1), (1, .getfield 29, 3), (4, .iconst 4, 1), (5, .if_icmp .ge 26, 3), (8, .iload_n 1, 1), (9, .iconst 1, 1), (10, .aload_n 0, 1), (11, .getfield 29, 3), (14, .ishl, 1), (15, .if_icmp .lt 16, 3), (18, .aload_n 0, 1), (19, .dup, 1), (20, .getfield 29, 3), (23, .iconst 1, 1), (24, .iadd, 1), (25, .putfield 29, 3), (28, .goto (-28), 3), (31, .aload_n 0, 1), (32, .getfield 26, 3), (35, .iload_n 1, 1), (36, .iload_n 2, 1), (37, .invokevirtual 45, 3), (40, .aload_n 0, 1), (41, .iload_n 1, 1), (42, .iconst 0, 1), (43, .invokestatic 56, 3), (46, .iload_n 3, 1), (47, .iload 4, 2), (49, .invokevirtual 48, 3), (52, .iconst 1, 1), (53, .istore 5, 2), (55, .iload 5, 2), (57, .aload_n 0, 1), (58, .getfield 29, 3), (61, .if_icmp .gt 48, 3), (64, .iload_n 1, 1), (65, .iload 5, 2), (67, .invokestatic 56, 3), (70, .istore 6, 2), (72, .aload_n 0, 1), (73, .iload 6, 2), (75, .invokevirtual 67, 3), (78, .ifCond .ne 25, 3), (81, .aload_n 0, 1), (82, .getfield 20, 3), (85, .iload 6, 2), (87, .aload_n 0, 1), (88, .getfield 20, 3), (91, .iload 6, 2), (93, .invokevirtual 41, 3), (96, .iconst 1, 1), (97, .iload_n 1, 1), (98, .ishl, 1), (99, .ior, 1), (100, .invokevirtual 45, 3), (103, .iinc 5 1, 3), (106, .goto (-51), 3), (109, .return_, 1)]
theorem m_Tr_seat : l_Tr_seat.all (fun q => decide (decode b_Tr_seat q.1 = .ok (q.2.1, q.2.2))) = true := by decide +kernel
def l_Tr_nodeOver : List (Nat × Instr × Nat) := [(0, .iload_n 0, 1), (1, .iload_n 1, 1), (2, .ishr, 1), (3, .iload_n 1, 1), (4, .iconst 1, 1), (5, .iadd, 1), (6, .ishl, 1), (7, .iconst 1, 1), (8, .iload_n 1, 1), (9, .ishl, 1), (10, .iadd, 1), (11, .iconst 1, 1), (12, .isub, 1), (13, .ireturn, 1)]
theorem m_Tr_nodeOver : l_Tr_nodeOver.all (fun q => decide (decode b_Tr_nodeOver q.1 = .ok (q.2.1, q.2.2))) = true := by decide +kernel
def l_Tr_give : List (Nat × Instr × Nat) := [(0, .aload_n 0, 1), (1, .getfield 14, 3), (4, .iload_n 1, 1), (5, .iload_n 2, 1), (6, .invokevirtual 45, 3), (9, .aload_n 0, 1), (10, .getfield 20, 3), (13, .iload_n 1, 1), (14, .iconst 0, 1), (15, .invokevirtual 45, 3), (18, .aload_n 0, 1), (19, .getfield 23, 3), (22, .iload_n 1, 1), (23, .iload_n 3, 1), (24, .invokevirtual 45, 3), (27, .return_, 1)]
theorem m_Tr_give : l_Tr_give.all (fun q => decide (decode b_Tr_give q.1 = .ok (q.2.1, q.2.2))) = true := by decide +kernel
def l_Tr_isBlank : List (Nat × Instr × Nat) := [(0, .aload_n 0, 1), (1, .getfield 14, 3), (4, .iload_n 1, 1), (5, .invokevirtual 41, 3), (8, .iconst (-1), 1), (9, .if_icmp .ne 7, 3), (12, .iconst 1, 1), (13, .goto 4, 3), (16, .iconst 0, 1), (17, .ireturn, 1)]
theorem m_Tr_isBlank : l_Tr_isBlank.all (fun q => decide (decode b_Tr_isBlank q.1 = .ok (q.2.1, q.2.2))) = true := by decide +kernel
def l_Row_get : List (Nat × Instr × Nat) := [(0, .iload_n 1, 1), (1, .ifCond .lt 21, 3), (4, .iload_n 1, 1), (5, .aload_n 0, 1), (6, .getfield 9, 3), (9, .arraylength, 1), (10, .if_icmp .ge 12, 3), (13, .aload_n 0, 1), (14, .getfield 9, 3), (17, .iload_n 1, 1), (18, .iaload, 1), (19, .goto 4, 3), (22, .iconst (-1), 1), (23, .ireturn, 1)]
theorem m_Row_get : l_Row_get.all (fun q => decide (decode b_Row_get q.1 = .ok (q.2.1, q.2.2))) = true := by decide +kernel
def l_Mem_enter : List (Nat × Instr × Nat) := [(0, .aload_n 0, 1), (1, .iload_n 2, 1), (2, .putfield 30, 3), (5, .aload_n 0, 1), (6, .aload_n 1, 1), (7, .invokevirtual 57, 3), (10, .return_, 1)]
theorem m_Mem_enter : l_Mem_enter.all (fun q => decide (decode b_Mem_enter q.1 = .ok (q.2.1, q.2.2))) = true := by decide +kernel
def l_Mem_lead : List (Nat × Instr × Nat) := [(0, .aload_n 0, 1), (1, .aload_n 1, 1), (2, .getfield 61, 3), (5, .putfield 27, 3), (8, .aload_n 0, 1), (9, .iconst 1, 1), (10, .putfield 33, 3), (13, .aload_n 0, 1), (14, .iconst 0, 1), (15, .putfield 23, 3), (18, .aload_n 0, 1), (19, .aload_n 1, 1), (20, .getfield 64, 3), (23, .invokevirtual 68, 3), (26, .aload_n 0, 1), (27, .aload_n 1, 1), (28, .getfield 64, 3), (31, .aload_n 0, 1), (32, .getfield 30, 3), (35, .iconst 0, 1), (36, .invokestatic 72, 3), (39, .invokevirtual 76, 3), (42, .aload_n 0, 1), (43, .aload_n 1, 1), (44, .invokevirtual 80, 3), (47, .return_, 1)]
theorem m_Mem_lead : l_Mem_lead.all (fun q => decide (decode b_Mem_lead q.1 = .ok (q.2.1, q.2.2))) = true := by decide +kernel
def l_Mem_dropStaleKeys : List (Nat × Instr × Nat) := [(0, .iconst 0, 1), (1, .istore_n 2, 1), (2, .iload_n 2, 1), (3, .bipush 31, 2), (5, .if_icmp .ge 27, 3), (8, .aload_n 0, 1), (9, .aload_n 1, 1), (10, .iload_n 2, 1), (11, .invokevirtual 100, 3), (14, .ifCond .ne 12, 3), (17, .aload_n 0, 1), (18, .getfield 14, 3), (21, .iload_n 2, 1), (22, .iconst (-1), 1), (23, .invokevirtual 43, 3), (26, .iinc 2 1, 3), (29, .goto (-27), 3), (32, .return_, 1)]
theorem m_Mem_dropStaleKeys : l_Mem_dropStaleKeys.all (fun q => decide (decode b_Mem_dropStaleKeys q.1 = .ok (q.2.1, q.2.2))) = true := by decide +kernel
def l_Mem_holdsKeyIn : List (Nat × Instr × Nat) := [(0, .aload_n 1, 1), (1, .getfield 46, 3), (4, .iload_n 2, 1), (5, .invokevirtual 49, 3), (8, .istore_n 3, 1), (9, .iload_n 3, 1), (10, .iconst (-1), 1), (11, .if_icmp .eq 19, 3), (14, .aload_n 0, 1), (15, .getfield 14, 3), (18, .iload_n 2, 1), (19, .invokevirtual 49, 3), (22, .iload_n 3, 1), (23, .if_icmp .ne 7, 3), (26, .iconst 1, 1), (27, .goto 4, 3), (30, .iconst 0, 1), (31, .ireturn, 1)]
theorem m_Mem_holdsKeyIn : l_Mem_holdsKeyIn.all (fun q => decide (decode b_Mem_holdsKeyIn q.1 = .ok (q.2.1, q.2.2))) = true := by decide +kernel
def l_Mem_takeKey : List (Nat × Instr × Nat) := [(0, .aload_n 0, 1), (1, .getfield 14, 3), (4, .iload_n 2, 1), (5, .aload_n 1, 1), (6, .getfield 46, 3), (9, .iload_n 2, 1), (10, .invokevirtual 49, 3), (13, .invokevirtual 43, 3), (16, .return_, 1)]
theorem m_Mem_takeKey : l_Mem_takeKey.all (fun q => decide (decode b_Mem_takeKey q.1 = .ok (q.2.1, q.2.2))) = true := by decide +kernel
def l_Mem_takeCountingKeys : List (Nat × Instr × Nat) := [(0, .iconst 1, 1), (1, .istore_n 2, 1), (2, .iload_n 2, 1), (3, .aload_n 1, 1), (4, .getfield 64, 3), (7, .getfield 104, 3), (10, .if_icmp .gt 38, 3), (13, .aload_n 0, 1), (14, .getfield 30, 3), (17, .iload_n 2, 1), (18, .invokestatic 72, 3), (21, .istore_n 3, 1), (22, .aload_n 1, 1), (23, .getfield 107, 3), (26, .iload_n 3, 1), (27, .invokestatic 86, 3), (30, .ifCond .eq 12, 3), (33, .aload_n 0, 1), (34, .aload_n 1, 1), (35, .getfield 64, 3), (38, .iload_n 3, 1), (39, .invokevirtual 76, 3), (42, .iinc 2 1, 3), (45, .goto (-43), 3), (48, .return_, 1)]
theorem m_Mem_takeCountingKeys : l_Mem_takeCountingKeys.all (fun q => decide (decode b_Mem_takeCountingKeys q.1 = .ok (q.2.1, q.2.2))) = true := by decide +kernel
def l_RG_isIn : List (Nat × Instr × Nat) := [(0, .iload_n 1, 1), (1, .ifCond .lt 15, 3), (4, .iload_n 0, 1), (5, .iload_n 1, 1), (6, .iushr, 1), (7, .iconst 1, 1), (8, .iand, 1), (9, .ifCond .eq 7, 3), (12, .iconst 1, 1), (13, .goto 4, 3), (16, .iconst 0, 1), (17, .ireturn, 1)]
theorem m_RG_isIn : l_RG_isIn.all (fun q => decide (decode b_RG_isIn q.1 = .ok (q.2.1, q.2.2))) = true := by decide +kernel
def l_RG_member : List (Nat × Instr × Nat) := [(0, .aload_n 0, 1), (1, .iload_n 1, 1), (2, .invokevirtual 198, 3), (5, .ifCond .ne 5, 3), (8, .iconst (-1), 1), (9, .ireturn, 1), (10, .aload_n 0, 1), (11, .getfield 19, 3), (14, .iload_n 1, 1), (15, .invokevirtual 112, 3), (18, .checkcast 41, 3), (21, .astore_n 3, 1), (22, .iload_n 2, 1), (23, .tableswitch 50 0 3 #[29, 34, 39, 45], 29), (52, .aload_n 3, 1), (53, .getfield 133, 3), (56, .ireturn, 1), (57, .aload_n 3, 1), (58, .getfield 129, 3), (61, .ireturn, 1), (62, .aload_n 0, 1), (63, .aload_n 3, 1), (64, .invokevirtual 189, 3), (67, .ireturn, 1), (68, .aload_n 3, 1), (69, .getfield 202, 3), (72, .ireturn, 1), (73, .iconst (-1), 1), (74, .ireturn, 1)]
theorem m_RG_member : l_RG_member.all (fun q => decide (decode b_RG_member q.1 = .ok (q.2.1, q.2.2))) = true := by decide +kernel
def l_RG_isMember : List (Nat × Instr × Nat) := [(0, .iload_n 1, 1), (1, .ifCond .lt 18, 3), (4, .iload_n 1, 1), (5, .aload_n 0, 1), (6, .getfield 19, 3), (9, .invokevirtual 86, 3), (12, .if_icmp .ge 7, 3), (15, .iconst 1, 1), (16, .goto 4, 3), (19, .iconst 0, 1), (20, .ireturn, 1)]
theorem m_RG_isMember : l_RG_isMember.all (fun q => decide (decode b_RG_isMember q.1 = .ok (q.2.1, q.2.2))) = true := by decide +kernel
def l_AL_size : List (Nat × Instr × Nat) := [(0, .aload_n 0, 1), (1, .getfield 48, 3), (4, .ireturn, 1)]
theorem m_AL_size : l_AL_size.all (fun q => decide (decode b_AL_size q.1 = .ok (q.2.1, q.2.2))) = true := by decide +kernel
def l_AL_get : List (Nat × Instr × Nat) := [(0, .iload_n 1, 1), (1, .aload_n 0, 1), (2, .getfield 48, 3), (5, .invokestatic 118, 3), (8, .pop, 1), (9, .aload_n 0, 1), (10, .iload_n 1, 1), (11, .invokevirtual 123, 3), (14, .areturn, 1)]
theorem m_AL_get : l_AL_get.all (fun q => decide (decode b_AL_get q.1 = .ok (q.2.1, q.2.2))) = true := by decide +kernel
def l_Objs_checkIndex : List (Nat × Instr × Nat) := [(0, .iload_n 0, 1), (1, .iload_n 1, 1), (2, .aconst_null, 1), (3, .invokestatic 105, 3), (6, .ireturn, 1)]
theorem m_Objs_checkIndex : l_Objs_checkIndex.all (fun q => decide (decode b_Objs_checkIndex q.1 = .ok (q.2.1, q.2.2))) = true := by decide +kernel
def l_Prec_checkIndex : List (Nat × Instr × Nat) := [(0, .iload_n 0, 1), (1, .ifCond .lt 8, 3), (4, .iload_n 0, 1), (5, .iload_n 1, 1), (6, .if_icmp .lt 10, 3), (9, .aload_n 2, 1), (10, .iload_n 0, 1), (11, .iload_n 1, 1), (12, .invokestatic 95, 3), (15, .athrow, 1), (16, .iload_n 0, 1), (17, .ireturn, 1)]
theorem m_Prec_checkIndex : l_Prec_checkIndex.all (fun q => decide (decode b_Prec_checkIndex q.1 = .ok (q.2.1, q.2.2))) = true := by decide +kernel
def l_AL_elementData : List (Nat × Instr × Nat) := [(0, .aload_n 0, 1), (1, .getfield 9, 3), (4, .iload_n 1, 1), (5, .aaload, 1), (6, .areturn, 1)]
theorem m_AL_elementData : l_AL_elementData.all (fun q => decide (decode b_AL_elementData q.1 = .ok (q.2.1, q.2.2))) = true := by decide +kernel
def l_RG_gather : List (Nat × Instr × Nat) := [(0, .iconst 0, 1), (1, .istore_n 2, 1), (2, .aload_n 1, 1), (3, .getfield 212, 3), (6, .ifCond .eq 42, 3), (9, .aload_n 0, 1), (10, .aload_n 1, 1), (11, .getfield 133, 3), (14, .invokevirtual 205, 3), (17, .ifCond .eq 31, 3), (20, .aload_n 0, 1), (21, .getfield 37, 3), (24, .iload_n 2, 1), (25, .iinc 2 1, 3), (28, .aload_n 0, 1), (29, .getfield 29, 3), (32, .aload_n 1, 1), (33, .getfield 133, 3), (36, .invokevirtual 112, 3), (39, .checkcast 50, 3), (42, .getfield 61, 3), (45, .invokevirtual 349, 3), (48, .iconst 0, 1), (49, .istore_n 3, 1), (50, .iload_n 3, 1), (51, .bipush 31, 2), (53, .if_icmp .ge 40, 3), (56, .aload_n 1, 1), (57, .getfield 352, 3), (60, .iload_n 3, 1), (61, .invokevirtual 193, 3), (64, .iconst (-1), 1), (65, .if_icmp .eq 22, 3), (68, .aload_n 0, 1), (69, .getfield 37, 3), (72, .iload_n 2, 1), (73, .iinc 2 1, 3), (76, .aload_n 1, 1), (77, .getfield 352, 3), (80, .iload_n 3, 1), (81, .invokevirtual 193, 3), (84, .invokevirtual 349, 3), (87, .iinc 3 1, 3), (90, .goto (-40), 3), (93, .iconst 0, 1), (94, .istore_n 3, 1), (95, .iload_n 3, 1), (96, .aload_n 1, 1), (97, .getfield 353, 3), (100, .if_icmp .ge 28, 3), (103, .aload_n 0, 1), (104, .getfield 37, 3), (107, .iload_n 2, 1), (108, .iinc 2 1, 3), (111, .aload_n 1, 1), (112, .getfield 356, 3), (115, .iload_n 3, 1), (116, .invokevirtual 193, 3), (119, .invokevirtual 349, 3), (122, .iinc 3 1, 3), (125, .goto (-30), 3), (128, .iconst 0, 1), (129, .istore_n 3, 1), (130, .iload_n 3, 1), (131, .aload_n 0, 1), (132, .getfield 23, 3), (135, .invokevirtual 86, 3), (138, .if_icmp .ge 71, 3), (141, .aload_n 0, 1), (142, .getfield 23, 3), (145, .iload_n 3, 1), (146, .invokevirtual 112, 3), (149, .checkcast 96, 3), (152, .astore 4, 2), (154, .aload 4, 2), (156, .getfield 303, 3), (159, .aload_n 1, 1), (160, .if_acmp .ne 43, 3), (163, .aload 4, 2), (165, .getfield 335, 3), (168, .ifCond .ne 35, 3), (171, .aload_n 0, 1), (172, .getfield 37, 3), (175, .iload_n 2, 1), (176, .iinc 2 1, 3), (179, .aload 4, 2), (181, .getfield 322, 3), (184, .invokevirtual 349, 3), (187, .aload_n 0, 1), (188, .getfield 37, 3), (191, .iload_n 2, 1), (192, .iinc 2 1, 3), (195, .aload 4, 2), (197, .getfield 317, 3), (200, .invokevirtual 349, 3), (203, .iinc 3 1, 3), (206, .goto (-76), 3), (209, .iload_n 2, 1), (210, .ireturn, 1)]
theorem m_RG_gather : l_RG_gather.all (fun q => decide (decode b_RG_gather q.1 = .ok (q.2.1, q.2.2))) = true := by decide +kernel
def l_RG_isEpoch : List (Nat × Instr × Nat) := [(0, .iload_n 1, 1), (1, .ifCond .lt 18, 3), (4, .iload_n 1, 1), (5, .aload_n 0, 1), (6, .getfield 29, 3), (9, .invokevirtual 86, 3), (12, .if_icmp .ge 7, 3), (15, .iconst 1, 1), (16, .goto 4, 3), (19, .iconst 0, 1), (20, .ireturn, 1)]
theorem m_RG_isEpoch : l_RG_isEpoch.all (fun q => decide (decode b_RG_isEpoch q.1 = .ok (q.2.1, q.2.2))) = true := by decide +kernel
def l_RG_holds : List (Nat × Instr × Nat) := [(0, .aload_n 0, 1), (1, .iload_n 1, 1), (2, .invokevirtual 198, 3), (5, .ifCond .ne 5, 3), (8, .iconst 0, 1), (9, .ireturn, 1), (10, .aload_n 0, 1), (11, .getfield 19, 3), (14, .iload_n 1, 1), (15, .invokevirtual 112, 3), (18, .checkcast 41, 3), (21, .astore_n 3, 1), (22, .aload_n 0, 1), (23, .aload_n 3, 1), (24, .getfield 133, 3), (27, .invokevirtual 205, 3), (30, .ifCond .eq 32, 3), (33, .aload_n 3, 1), (34, .aload_n 0, 1), (35, .getfield 29, 3), (38, .aload_n 3, 1), (39, .getfield 133, 3), (42, .invokevirtual 112, 3), (45, .checkcast 50, 3), (48, .getfield 65, 3), (51, .iload_n 2, 1), (52, .invokevirtual 208, 3), (55, .ifCond .eq 7, 3), (58, .iconst 1, 1), (59, .goto 4, 3), (62, .iconst 0, 1), (63, .ireturn, 1)]
theorem m_RG_holds : l_RG_holds.all (fun q => decide (decode b_RG_holds q.1 = .ok (q.2.1, q.2.2))) = true := by decide +kernel
def l_RG_has : List (Nat × Instr × Nat) := [(0, .aload_n 0, 1), (1, .iload_n 1, 1), (2, .invokevirtual 198, 3), (5, .ifCond .eq 24, 3), (8, .aload_n 0, 1), (9, .getfield 19, 3), (12, .iload_n 1, 1), (13, .invokevirtual 112, 3), (16, .checkcast 41, 3), (19, .getfield 212, 3), (22, .ifCond .eq 7, 3), (25, .iconst 1, 1), (26, .goto 4, 3), (29, .iconst 0, 1), (30, .ireturn, 1)]
theorem m_RG_has : l_RG_has.all (fun q => decide (decode b_RG_has q.1 = .ok (q.2.1, q.2.2))) = true := by decide +kernel
def l_RG_node : List (Nat × Instr × Nat) := [(0, .aload_n 0, 1), (1, .iload_n 1, 1), (2, .invokevirtual 205, 3), (5, .ifCond .ne 5, 3), (8, .iconst (-1), 1), (9, .ireturn, 1), (10, .aload_n 0, 1), (11, .getfield 29, 3), (14, .iload_n 1, 1), (15, .invokevirtual 112, 3), (18, .checkcast 50, 3), (21, .getfield 65, 3), (24, .astore 4, 2), (26, .aload 4, 2), (28, .iload_n 2, 1), (29, .invokevirtual 216, 3), (32, .ifCond .ne 5, 3), (35, .iconst (-1), 1), (36, .ireturn, 1), (37, .iload_n 3, 1), (38, .tableswitch 75 0 3 #[30, 45, 55, 65], 30), (68, .aload 4, 2), (70, .iload_n 2, 1), (71, .invokevirtual 219, 3), (74, .ifCond .eq 7, 3), (77, .iconst 0, 1), (78, .goto 4, 3), (81, .iconst 1, 1), (82, .ireturn, 1), (83, .aload 4, 2), (85, .getfield 222, 3), (88, .iload_n 2, 1), (89, .invokevirtual 193, 3), (92, .ireturn, 1), (93, .aload 4, 2), (95, .getfield 225, 3), (98, .iload_n 2, 1), (99, .invokevirtual 193, 3), (102, .ireturn, 1), (103, .aload 4, 2), (105, .iload_n 2, 1), (106, .invokevirtual 228, 3), (109, .invokestatic 231, 3), (112, .ireturn, 1), (113, .iconst (-1), 1), (114, .ireturn, 1)]
theorem m_RG_node : l_RG_node.all (fun q => decide (decode b_RG_node q.1 = .ok (q.2.1, q.2.2))) = true := by decide +kernel
def l_Tr_isThere : List (Nat × Instr × Nat) := [(0, .iload_n 1, 1), (1, .ifCond .lt 19, 3), (4, .iload_n 1, 1), (5, .iconst 2, 1), (6, .aload_n 0, 1), (7, .getfield 29, 3), (10, .ishl, 1), (11, .iconst 1, 1), (12, .isub, 1), (13, .if_icmp .ge 7, 3), (16, .iconst 1, 1), (17, .goto 4, 3), (20, .iconst 0, 1), (21, .ireturn, 1)]
theorem m_Tr_isThere : l_Tr_isThere.all (fun q => decide (decode b_Tr_isThere q.1 = .ok (q.2.1, q.2.2))) = true := by decide +kernel
def l_Tr_resolution : List (Nat × Instr × Nat) := [(0, .aload_n 0, 1), (1, .iload_n 1, 1), (2, .iload_n 1, 1), (3, .invokestatic 71, 3), (6, .invokevirtual 74, 3), (9, .ireturn, 1)]
theorem m_Tr_resolution : l_Tr_resolution.all (fun q => decide (decode b_Tr_resolution q.1 = .ok (q.2.1, q.2.2))) = true := by decide +kernel
def l_Tr_heightOf : List (Nat × Instr × Nat) := [(0, .iconst 0, 1), (1, .istore_n 1, 1), (2, .iload_n 1, 1), (3, .iconst 4, 1), (4, .if_icmp .ge 17, 3), (7, .iload_n 0, 1), (8, .iload_n 1, 1), (9, .invokestatic 33, 3), (12, .ifCond .eq 9, 3), (15, .iinc 1 1, 3), (18, .goto (-16), 3), (21, .iload_n 1, 1), (22, .ireturn, 1)]
theorem m_Tr_heightOf : l_Tr_heightOf.all (fun q => decide (decode b_Tr_heightOf q.1 = .ok (q.2.1, q.2.2))) = true := by decide +kernel
def l_Tr_resolutionFrom : List (Nat × Instr × Nat) := [(0, .aload_n 0, 1), (1, .getfield 14, 3), (4, .iload_n 1, 1), (5, .invokevirtual 41, 3), (8, .iconst (-1), 1), (9, .if_icmp .eq 19, 3), (12, .iconst 1, 1), (13, .iload_n 1, 1), (14, .ishl, 1), (15, .aload_n 0, 1), (16, .getfield 20, 3), (19, .iload_n 1, 1), (20, .invokevirtual 41, 3), (23, .invokestatic 77, 3), (26, .ior, 1), (27, .ireturn, 1), (28, .iload_n 2, 1), (29, .ifCond .gt 5, 3), (32, .iconst 0, 1), (33, .ireturn, 1), (34, .iload_n 2, 1), (35, .iconst 1, 1), (36, .isub, 1), (37, .istore_n 3, 1), (38, .iconst 1, 1), (39, .iload_n 3, 1), (40, .ishl, 1), (41, .istore 4, 2), (43, .aload_n 0, 1), (44, .iload_n 1, 1), (45, .iload 4, 2), (47, .isub, 1), (48, .iload_n 3, 1), (49, .invokevirtual 74, 3), (52, .aload_n 0, 1), (53, .iload_n 1, 1), (54, .iload 4, 2), (56, .iadd, 1), (57, .iload_n 3, 1), (58, .invokevirtual 74, 3), (61, .ior, 1), (62, .ireturn, 1)]
theorem m_Tr_resolutionFrom : l_Tr_resolutionFrom.all (fun q => decide (decode b_Tr_resolutionFrom q.1 = .ok (q.2.1, q.2.2))) = true := by decide +kernel
def l_Tr_nodesOfLeaves : List (Nat × Instr × Nat) := [(0, .iconst 0, 1), (1, .istore_n 1, 1), (2, .iconst 0, 1), (3, .istore_n 2, 1), (4, .iload_n 2, 1), (5, .bipush 16, 2), (7, .if_icmp .ge 21, 3), (10, .iload_n 1, 1), (11, .iload_n 0, 1), (12, .iload_n 2, 1), (13, .iushr, 1), (14, .iconst 1, 1), (15, .iand, 1), (16, .iconst 2, 1), (17, .iload_n 2, 1), (18, .imul, 1), (19, .ishl, 1), (20, .ior, 1), (21, .istore_n 1, 1), (22, .iinc 2 1, 3), (25, .goto (-21), 3), (28, .iload_n 1, 1), (29, .ireturn, 1)]
theorem m_Tr_nodesOfLeaves : l_Tr_nodesOfLeaves.all (fun q => decide (decode b_Tr_nodesOfLeaves q.1 = .ok (q.2.1, q.2.2))) = true := by decide +kernel
def l_Int_bitCount : List (Nat × Instr × Nat) := [(0, .iload_n 0, 1), (1, .iload_n 0, 1), (2, .iconst 1, 1), (3, .iushr, 1), (4, .ldc_w 265, 3), (7, .iand, 1), (8, .isub, 1), (9, .istore_n 0, 1), (10, .iload_n 0, 1), (11, .ldc_w 266, 3), (14, .iand, 1), (15, .iload_n 0, 1), (16, .iconst 2, 1), (17, .iushr, 1), (18, .ldc_w 266, 3), (21, .iand, 1), (22, .iadd, 1), (23, .istore_n 0, 1), (24, .iload_n 0, 1), (25, .iload_n 0, 1), (26, .iconst 4, 1), (27, .iushr, 1), (28, .iadd, 1), (29, .ldc_w 267, 3), (32, .iand, 1), (33, .istore_n 0, 1), (34, .iload_n 0, 1), (35, .iload_n 0, 1), (36, .bipush 8, 2), (38, .iushr, 1), (39, .iadd, 1), (40, .istore_n 0, 1), (41, .iload_n 0, 1), (42, .iload_n 0, 1), (43, .bipush 16, 2), (45, .iushr, 1), (46, .iadd, 1), (47, .istore_n 0, 1), (48, .iload_n 0, 1), (49, .bipush 63, 2), (51, .iand, 1), (52, .ireturn, 1)]
theorem m_Int_bitCount : l_Int_bitCount.all (fun q => decide (decode b_Int_bitCount q.1 = .ok (q.2.1, q.2.2))) = true := by decide +kernel
def l_RG_epoch : List (Nat × Instr × Nat) := [(0, .aload_n 0, 1), (1, .iload_n 1, 1), (2, .invokevirtual 205, 3), (5, .ifCond .ne 5, 3), (8, .iconst (-1), 1), (9, .ireturn, 1), (10, .aload_n 0, 1), (11, .getfield 29, 3), (14, .iload_n 1, 1), (15, .invokevirtual 112, 3), (18, .checkcast 50, 3), (21, .astore_n 3, 1), (22, .iload_n 2, 1), (23, .tableswitch 79 0 6 #[41, 49, 54, 59, 64, 69, 74], 41), (64, .aload_n 3, 1), (65, .getfield 65, 3), (68, .getfield 236, 3), (71, .ireturn, 1), (72, .aload_n 3, 1), (73, .getfield 239, 3), (76, .ireturn, 1), (77, .aload_n 3, 1), (78, .getfield 242, 3), (81, .ireturn, 1), (82, .aload_n 3, 1), (83, .getfield 245, 3), (86, .ireturn, 1), (87, .aload_n 3, 1), (88, .getfield 248, 3), (91, .ireturn, 1), (92, .aload_n 3, 1), (93, .getfield 251, 3), (96, .ireturn, 1), (97, .aload_n 3, 1), (98, .getfield 254, 3), (101, .ireturn, 1), (102, .iconst (-1), 1), (103, .ireturn, 1)]
theorem m_RG_epoch : l_RG_epoch.all (fun q => decide (decode b_RG_epoch q.1 = .ok (q.2.1, q.2.2))) = true := by decide +kernel
def l_RG_epochs : List (Nat × Instr × Nat) := [(0, .aload_n 0, 1), (1, .getfield 29, 3), (4, .invokevirtual 86, 3), (7, .ireturn, 1)]
theorem m_RG_epochs : l_RG_epochs.all (fun q => decide (decode b_RG_epochs q.1 = .ok (q.2.1, q.2.2))) = true := by decide +kernel
def l_RG_waiting : List (Nat × Instr × Nat) := [(0, .aload_n 0, 1), (1, .getfield 26, 3), (4, .invokevirtual 86, 3), (7, .ireturn, 1)]
theorem m_RG_waiting : l_RG_waiting.all (fun q => decide (decode b_RG_waiting q.1 = .ok (q.2.1, q.2.2))) = true := by decide +kernel
def l_RG_isKnown : List (Nat × Instr × Nat) := [(0, .aload_n 0, 1), (1, .iload_n 1, 1), (2, .invokevirtual 205, 3), (5, .ifCond .eq 31, 3), (8, .aload_n 0, 1), (9, .getfield 12, 3), (12, .aload_n 0, 1), (13, .getfield 29, 3), (16, .iload_n 1, 1), (17, .invokevirtual 112, 3), (20, .checkcast 50, 3), (23, .getfield 61, 3), (26, .invokevirtual 257, 3), (29, .ifCond .eq 7, 3), (32, .iconst 1, 1), (33, .goto 4, 3), (36, .iconst 0, 1), (37, .ireturn, 1)]
theorem m_RG_isKnown : l_RG_isKnown.all (fun q => decide (decode b_RG_isKnown q.1 = .ok (q.2.1, q.2.2))) = true := by decide +kernel
def l_Sec_isTold : List (Nat × Instr × Nat) := [(0, .aload_n 0, 1), (1, .getfield 14, 3), (4, .iload_n 1, 1), (5, .invokevirtual 59, 3), (8, .iconst 1, 1), (9, .if_icmp .ne 7, 3), (12, .iconst 1, 1), (13, .goto 4, 3), (16, .iconst 0, 1), (17, .ireturn, 1)]
theorem m_Sec_isTold : l_Sec_isTold.all (fun q => decide (decode b_Sec_isTold q.1 = .ok (q.2.1, q.2.2))) = true := by decide +kernel
def l_RG_isOpen : List (Nat × Instr × Nat) := [(0, .aload_n 0, 1), (1, .iload_n 1, 1), (2, .invokevirtual 205, 3), (5, .ifCond .eq 38, 3), (8, .aload_n 0, 1), (9, .getfield 12, 3), (12, .aload_n 0, 1), (13, .getfield 29, 3), (16, .iload_n 1, 1), (17, .invokevirtual 112, 3), (20, .checkcast 50, 3), (23, .getfield 65, 3), (26, .getfield 260, 3), (29, .iload_n 2, 1), (30, .invokevirtual 193, 3), (33, .invokevirtual 257, 3), (36, .ifCond .eq 7, 3), (39, .iconst 1, 1), (40, .goto 4, 3), (43, .iconst 0, 1), (44, .ireturn, 1)]
theorem m_RG_isOpen : l_RG_isOpen.all (fun q => decide (decode b_RG_isOpen q.1 = .ok (q.2.1, q.2.2))) = true := by decide +kernel
def l_RG_known : List (Nat × Instr × Nat) := [(0, .iconst 0, 1), (1, .istore_n 1, 1), (2, .iconst 0, 1), (3, .istore_n 2, 1), (4, .iload_n 2, 1), (5, .aload_n 0, 1), (6, .getfield 29, 3), (9, .invokevirtual 86, 3), (12, .if_icmp .ge 36, 3), (15, .aload_n 0, 1), (16, .getfield 12, 3), (19, .aload_n 0, 1), (20, .getfield 29, 3), (23, .iload_n 2, 1), (24, .invokevirtual 112, 3), (27, .checkcast 50, 3), (30, .getfield 61, 3), (33, .invokevirtual 257, 3), (36, .ifCond .eq 6, 3), (39, .iinc 1 1, 3), (42, .iinc 2 1, 3), (45, .goto (-41), 3), (48, .iload_n 1, 1), (49, .ireturn, 1)]
theorem m_RG_known : l_RG_known.all (fun q => decide (decode b_RG_known q.1 = .ok (q.2.1, q.2.2))) = true := by decide +kernel
def l_Law_offer : List (Nat × Instr × Nat) := [(0, .aload_n 2, 1), (1, .iconst 0, 1), (2, .aload_n 0, 1), (3, .iload_n 1, 1), (4, .invokevirtual 7, 3), (7, .i2l, 1), (8, .lastore, 1), (9, .goto 9, 3), (12, .astore_n 3, 1), (13, .iconst 1, 1), (14, .ireturn, 1), (15, .astore_n 3, 1), (16, .iconst 2, 1), (17, .ireturn, 1), (18, .iconst 0, 1), (19, .ireturn, 1)]
theorem m_Law_offer : l_Law_offer.all (fun q => decide (decode b_Law_offer q.1 = .ok (q.2.1, q.2.2))) = true := by decide +kernel
def l_RG_offer : List (Nat × Instr × Nat) := [(0, .aload_n 0, 1), (1, .iload_n 1, 1), (2, .invokevirtual 82, 3), (5, .astore_n 2, 1), (6, .aload_n 0, 1), (7, .getfield 23, 3), (10, .invokevirtual 86, 3), (13, .bipush 60, 2), (15, .if_icmp .lt 13, 3), (18, .new 89, 3), (21, .dup, 1), (22, .ldc 91, 2), (24, .invokespecial 93, 3), (27, .athrow, 1), (28, .aload_n 0, 1), (29, .getfield 12, 3), (32, .invokevirtual 57, 3), (35, .istore_n 3, 1), (36, .aload_n 0, 1), (37, .getfield 23, 3), (40, .new 96, 3), (43, .dup, 1), (44, .aload_n 2, 1), (45, .iload_n 3, 1), (46, .aload_n 0, 1), (47, .getfield 12, 3), (50, .invokevirtual 57, 3), (53, .invokespecial 98, 3), (56, .invokevirtual 46, 3), (59, .pop, 1), (60, .aload_n 0, 1), (61, .getfield 23, 3), (64, .invokevirtual 86, 3), (67, .iconst 1, 1), (68, .isub, 1), (69, .ireturn, 1)]
theorem m_RG_offer : l_RG_offer.all (fun q => decide (decode b_RG_offer q.1 = .ok (q.2.1, q.2.2))) = true := by decide +kernel
def l_RG_memberNumbered : List (Nat × Instr × Nat) := [(0, .aload_n 0, 1), (1, .iload_n 1, 1), (2, .invokevirtual 198, 3), (5, .ifCond .ne 14, 3), (8, .new 101, 3), (11, .dup, 1), (12, .ldc_w 263, 3), (15, .invokespecial 105, 3), (18, .athrow, 1), (19, .aload_n 0, 1), (20, .getfield 19, 3), (23, .iload_n 1, 1), (24, .invokevirtual 112, 3), (27, .checkcast 41, 3), (30, .areturn, 1)]
theorem m_RG_memberNumbered : l_RG_memberNumbered.all (fun q => decide (decode b_RG_memberNumbered q.1 = .ok (q.2.1, q.2.2))) = true := by decide +kernel
def l_KP_init : List (Nat × Instr × Nat) := [(0, .aload_n 0, 1), (1, .invokespecial 3, 3), (4, .aload_n 0, 1), (5, .iconst (-1), 1), (6, .putfield 9, 3), (9, .aload_n 0, 1), (10, .iconst (-1), 1), (11, .putfield 15, 3), (14, .aload_n 0, 1), (15, .iconst 0, 1), (16, .putfield 18, 3), (19, .aload_n 0, 1), (20, .aload_n 1, 1), (21, .putfield 22, 3), (24, .aload_n 0, 1), (25, .iload_n 2, 1), (26, .putfield 26, 3), (29, .aload_n 0, 1), (30, .iload_n 3, 1), (31, .putfield 29, 3), (34, .return_, 1)]
theorem m_KP_init : l_KP_init.all (fun q => decide (decode b_KP_init q.1 = .ok (q.2.1, q.2.2))) = true := by decide +kernel
def l_Law_add : List (Nat × Instr × Nat) := [(0, .aload_n 3, 1), (1, .iconst 0, 1), (2, .aload_n 0, 1), (3, .iload_n 1, 1), (4, .iload_n 2, 1), (5, .invokevirtual 17, 3), (8, .i2l, 1), (9, .lastore, 1), (10, .goto 11, 3), (13, .astore 4, 2), (15, .iconst 1, 1), (16, .ireturn, 1), (17, .astore 4, 2), (19, .iconst 2, 1), (20, .ireturn, 1), (21, .iconst 0, 1), (22, .ireturn, 1)]
theorem m_Law_add : l_Law_add.all (fun q => decide (decode b_Law_add q.1 = .ok (q.2.1, q.2.2))) = true := by decide +kernel
def l_RG_add : List (Nat × Instr × Nat) := [(0, .aload_n 0, 1), (1, .iload_n 1, 1), (2, .invokevirtual 82, 3), (5, .astore_n 3, 1), (6, .iload_n 2, 1), (7, .ifCond .lt 14, 3), (10, .iload_n 2, 1), (11, .aload_n 0, 1), (12, .getfield 23, 3), (15, .invokevirtual 86, 3), (18, .if_icmp .lt 13, 3), (21, .new 101, 3), (24, .dup, 1), (25, .ldc 103, 2), (27, .invokespecial 105, 3), (30, .athrow, 1), (31, .aload_n 0, 1), (32, .aload_n 3, 1), (33, .invokevirtual 106, 3), (36, .aload_n 0, 1), (37, .getfield 26, 3), (40, .new 110, 3), (43, .dup, 1), (44, .aload_n 0, 1), (45, .getfield 23, 3), (48, .iload_n 2, 1), (49, .invokevirtual 112, 3), (52, .checkcast 96, 3), (55, .invokespecial 116, 3), (58, .invokevirtual 46, 3), (61, .pop, 1), (62, .aload_n 0, 1), (63, .getfield 26, 3), (66, .invokevirtual 86, 3), (69, .ireturn, 1)]
theorem m_RG_add : l_RG_add.all (fun q => decide (decode b_RG_add q.1 = .ok (q.2.1, q.2.2))) = true := by decide +kernel
def l_RG_refuseUnlessMayPropose : List (Nat × Instr × Nat) := [(0, .aload_n 1, 1), (1, .getfield 133, 3), (4, .aload_n 0, 1), (5, .getfield 53, 3), (8, .getfield 136, 3), (11, .if_icmp .eq 13, 3), (14, .new 89, 3), (17, .dup, 1), (18, .ldc 137, 2), (20, .invokespecial 93, 3), (23, .athrow, 1), (24, .aload_n 0, 1), (25, .getfield 26, 3), (28, .invokevirtual 86, 3), (31, .bipush 20, 2), (33, .if_icmp .lt 14, 3), (36, .new 89, 3), (39, .dup, 1), (40, .ldc_w 265, 3), (43, .invokespecial 93, 3), (46, .athrow, 1), (47, .return_, 1)]
theorem m_RG_refuseUnlessMayPropose : l_RG_refuseUnlessMayPropose.all (fun q => decide (decode b_RG_refuseUnlessMayPropose q.1 = .ok (q.2.1, q.2.2))) = true := by decide +kernel
def l_Ad_init : List (Nat × Instr × Nat) := [(0, .aload_n 0, 1), (1, .invokespecial 1, 3), (4, .aload_n 0, 1), (5, .aload_n 1, 1), (6, .putfield 7, 3), (9, .return_, 1)]
theorem m_Ad_init : l_Ad_init.all (fun q => decide (decode b_Ad_init q.1 = .ok (q.2.1, q.2.2))) = true := by decide +kernel
def l_Law_remove : List (Nat × Instr × Nat) := [(0, .aload_n 3, 1), (1, .iconst 0, 1), (2, .aload_n 0, 1), (3, .iload_n 1, 1), (4, .iload_n 2, 1), (5, .invokevirtual 21, 3), (8, .i2l, 1), (9, .lastore, 1), (10, .goto 11, 3), (13, .astore 4, 2), (15, .iconst 1, 1), (16, .ireturn, 1), (17, .astore 4, 2), (19, .iconst 2, 1), (20, .ireturn, 1), (21, .iconst 0, 1), (22, .ireturn, 1)]
theorem m_Law_remove : l_Law_remove.all (fun q => decide (decode b_Law_remove q.1 = .ok (q.2.1, q.2.2))) = true := by decide +kernel
def l_RG_remove : List (Nat × Instr × Nat) := [(0, .aload_n 0, 1), (1, .iload_n 1, 1), (2, .invokevirtual 82, 3), (5, .astore_n 3, 1), (6, .iload_n 2, 1), (7, .ifCond .lt 9, 3), (10, .iload_n 2, 1), (11, .bipush 16, 2), (13, .if_icmp .lt 13, 3), (16, .new 101, 3), (19, .dup, 1), (20, .ldc 119, 2), (22, .invokespecial 105, 3), (25, .athrow, 1), (26, .aload_n 0, 1), (27, .aload_n 3, 1), (28, .invokevirtual 106, 3), (31, .aload_n 0, 1), (32, .getfield 26, 3), (35, .new 121, 3), (38, .dup, 1), (39, .iload_n 2, 1), (40, .invokespecial 123, 3), (43, .invokevirtual 46, 3), (46, .pop, 1), (47, .aload_n 0, 1), (48, .getfield 26, 3), (51, .invokevirtual 86, 3), (54, .ireturn, 1)]
theorem m_RG_remove : l_RG_remove.all (fun q => decide (decode b_RG_remove q.1 = .ok (q.2.1, q.2.2))) = true := by decide +kernel
def l_Re_init : List (Nat × Instr × Nat) := [(0, .aload_n 0, 1), (1, .invokespecial 1, 3), (4, .aload_n 0, 1), (5, .iload_n 1, 1), (6, .putfield 7, 3), (9, .return_, 1)]
theorem m_Re_init : l_Re_init.all (fun q => decide (decode b_Re_init q.1 = .ok (q.2.1, q.2.2))) = true := by decide +kernel
def l_Law_update : List (Nat × Instr × Nat) := [(0, .aload_n 2, 1), (1, .iconst 0, 1), (2, .aload_n 0, 1), (3, .iload_n 1, 1), (4, .invokevirtual 24, 3), (7, .i2l, 1), (8, .lastore, 1), (9, .goto 9, 3), (12, .astore_n 3, 1), (13, .iconst 1, 1), (14, .ireturn, 1), (15, .astore_n 3, 1), (16, .iconst 2, 1), (17, .ireturn, 1), (18, .iconst 0, 1), (19, .ireturn, 1)]
theorem m_Law_update : l_Law_update.all (fun q => decide (decode b_Law_update q.1 = .ok (q.2.1, q.2.2))) = true := by decide +kernel
def l_RG_update : List (Nat × Instr × Nat) := [(0, .aload_n 0, 1), (1, .iload_n 1, 1), (2, .invokevirtual 82, 3), (5, .astore_n 2, 1), (6, .aload_n 0, 1), (7, .aload_n 2, 1), (8, .invokevirtual 106, 3), (11, .aload_n 0, 1), (12, .getfield 12, 3), (15, .invokevirtual 57, 3), (18, .istore_n 3, 1), (19, .aload_n 2, 1), (20, .iload_n 3, 1), (21, .invokevirtual 124, 3), (24, .aload_n 0, 1), (25, .getfield 26, 3), (28, .new 127, 3), (31, .dup, 1), (32, .aload_n 2, 1), (33, .getfield 129, 3), (36, .iload_n 3, 1), (37, .invokespecial 132, 3), (40, .invokevirtual 46, 3), (43, .pop, 1), (44, .aload_n 0, 1), (45, .getfield 26, 3), (48, .invokevirtual 86, 3), (51, .ireturn, 1)]
theorem m_RG_update : l_RG_update.all (fun q => decide (decode b_RG_update q.1 = .ok (q.2.1, q.2.2))) = true := by decide +kernel
def l_Mem_keepUpdate : List (Nat × Instr × Nat) := [(0, .aload_n 0, 1), (1, .getfield 23, 3), (4, .bipush 20, 2), (6, .if_icmp .ge 25, 3), (9, .aload_n 0, 1), (10, .getfield 20, 3), (13, .aload_n 0, 1), (14, .getfield 23, 3), (17, .iload_n 1, 1), (18, .invokevirtual 43, 3), (21, .aload_n 0, 1), (22, .dup, 1), (23, .getfield 23, 3), (26, .iconst 1, 1), (27, .iadd, 1), (28, .putfield 23, 3), (31, .return_, 1)]
theorem m_Mem_keepUpdate : l_Mem_keepUpdate.all (fun q => decide (decode b_Mem_keepUpdate q.1 = .ok (q.2.1, q.2.2))) = true := by decide +kernel
def l_Rn_init : List (Nat × Instr × Nat) := [(0, .aload_n 0, 1), (1, .invokespecial 1, 3), (4, .aload_n 0, 1), (5, .iload_n 1, 1), (6, .putfield 7, 3), (9, .aload_n 0, 1), (10, .iload_n 2, 1), (11, .putfield 13, 3), (14, .return_, 1)]
theorem m_Rn_init : l_Rn_init.all (fun q => decide (decode b_Rn_init q.1 = .ok (q.2.1, q.2.2))) = true := by decide +kernel
def l_Law_commit : List (Nat × Instr × Nat) := [(0, .aload_n 3, 1), (1, .iconst 0, 1), (2, .aload_n 0, 1), (3, .iload_n 1, 1), (4, .iload_n 2, 1), (5, .invokevirtual 27, 3), (8, .i2l, 1), (9, .lastore, 1), (10, .goto 11, 3), (13, .astore 4, 2), (15, .iconst 1, 1), (16, .ireturn, 1), (17, .astore 4, 2), (19, .iconst 2, 1), (20, .ireturn, 1), (21, .iconst 0, 1), (22, .ireturn, 1)]
theorem m_Law_commit : l_Law_commit.all (fun q => decide (decode b_Law_commit q.1 = .ok (q.2.1, q.2.2))) = true := by decide +kernel
def l_RG_commit : List (Nat × Instr × Nat) := [(0, .aload_n 0, 1), (1, .iload_n 1, 1), (2, .invokevirtual 82, 3), (5, .astore_n 3, 1), (6, .aload_n 3, 1), (7, .getfield 133, 3), (10, .aload_n 0, 1), (11, .getfield 53, 3), (14, .getfield 136, 3), (17, .if_icmp .eq 13, 3), (20, .new 89, 3), (23, .dup, 1), (24, .ldc 137, 2), (26, .invokespecial 93, 3), (29, .athrow, 1), (30, .aload_n 0, 1), (31, .getfield 29, 3), (34, .invokevirtual 86, 3), (37, .bipush 60, 2), (39, .if_icmp .lt 13, 3), (42, .new 89, 3), (45, .dup, 1), (46, .ldc 139, 2), (48, .invokespecial 93, 3), (51, .athrow, 1), (52, .new 50, 3), (55, .dup, 1), (56, .aload_n 0, 1), (57, .getfield 29, 3), (60, .invokevirtual 86, 3), (63, .aload_n 3, 1), (64, .getfield 129, 3), (67, .invokespecial 52, 3), (70, .astore 4, 2), (72, .aload 4, 2), (74, .getfield 65, 3), (77, .aload_n 0, 1), (78, .getfield 53, 3), (81, .getfield 65, 3), (84, .invokevirtual 141, 3), (87, .aload_n 0, 1), (88, .aload 4, 2), (90, .invokevirtual 145, 3), (93, .aload_n 0, 1), (94, .aload 4, 2), (96, .invokevirtual 149, 3), (99, .aload_n 0, 1), (100, .aload 4, 2), (102, .invokevirtual 152, 3), (105, .aload 4, 2), (107, .iload_n 2, 1), (108, .invokevirtual 155, 3), (111, .ifCond .eq 15, 3), (114, .aload 4, 2), (116, .aload_n 0, 1), (117, .getfield 12, 3), (120, .invokevirtual 159, 3), (123, .goto 4, 3), (126, .iconst 0, 1), (127, .istore 5, 2), (129, .aload_n 0, 1), (130, .getfield 12, 3), (133, .aload_n 0, 1), (134, .getfield 12, 3), (137, .aload_n 0, 1), (138, .getfield 53, 3), (141, .getfield 61, 3), (144, .invokevirtual 163, 3), (147, .iload 5, 2), (149, .invokevirtual 167, 3), (152, .istore 6, 2), (154, .aload 4, 2), (156, .aload_n 0, 1), (157, .getfield 12, 3), (160, .iload 6, 2), (162, .invokevirtual 163, 3), (165, .putfield 61, 3), (168, .aload_n 0, 1), (169, .aload 4, 2), (171, .iload 6, 2), (173, .invokevirtual 171, 3), (176, .aload_n 0, 1), (177, .getfield 26, 3), (180, .invokevirtual 174, 3), (183, .aload_n 0, 1), (184, .getfield 29, 3), (187, .aload 4, 2), (189, .invokevirtual 46, 3), (192, .pop, 1), (193, .aload_n 0, 1), (194, .aload 4, 2), (196, .putfield 53, 3), (199, .aload_n 3, 1), (200, .aload 4, 2), (202, .invokevirtual 177, 3), (205, .aload_n 0, 1), (206, .getfield 12, 3), (209, .invokevirtual 180, 3), (212, .aload 4, 2), (214, .getfield 136, 3), (217, .ireturn, 1)]
theorem m_RG_commit : l_RG_commit.all (fun q => decide (decode b_RG_commit q.1 = .ok (q.2.1, q.2.2))) = true := by decide +kernel
def l_Tr_copy : List (Nat × Instr × Nat) := [(0, .aload_n 0, 1), (1, .aload_n 1, 1), (2, .getfield 29, 3), (5, .putfield 29, 3), (8, .aload_n 0, 1), (9, .getfield 14, 3), (12, .aload_n 1, 1), (13, .getfield 14, 3), (16, .invokevirtual 37, 3), (19, .aload_n 0, 1), (20, .getfield 20, 3), (23, .aload_n 1, 1), (24, .getfield 20, 3), (27, .invokevirtual 37, 3), (30, .aload_n 0, 1), (31, .getfield 23, 3), (34, .aload_n 1, 1), (35, .getfield 23, 3), (38, .invokevirtual 37, 3), (41, .aload_n 0, 1), (42, .getfield 26, 3), (45, .aload_n 1, 1), (46, .getfield 26, 3), (49, .invokevirtual 37, 3), (52, .return_, 1)]
theorem m_Tr_copy : l_Tr_copy.all (fun q => decide (decode b_Tr_copy q.1 = .ok (q.2.1, q.2.2))) = true := by decide +kernel
def l_Row_copy : List (Nat × Instr × Nat) := [(0, .iconst 0, 1), (1, .istore_n 2, 1), (2, .iload_n 2, 1), (3, .aload_n 0, 1), (4, .getfield 9, 3), (7, .arraylength, 1), (8, .if_icmp .ge 20, 3), (11, .aload_n 0, 1), (12, .getfield 9, 3), (15, .iload_n 2, 1), (16, .aload_n 1, 1), (17, .iload_n 2, 1), (18, .invokevirtual 21, 3), (21, .iastore, 1), (22, .iinc 2 1, 3), (25, .goto (-23), 3), (28, .return_, 1)]
theorem m_Row_copy : l_Row_copy.all (fun q => decide (decode b_Row_copy q.1 = .ok (q.2.1, q.2.2))) = true := by decide +kernel
def l_RG_applyRemovals : List (Nat × Instr × Nat) := [(0, .iconst 0, 1), (1, .istore_n 2, 1), (2, .iload_n 2, 1), (3, .aload_n 0, 1), (4, .getfield 26, 3), (7, .invokevirtual 86, 3), (10, .if_icmp .ge 42, 3), (13, .aload_n 0, 1), (14, .getfield 26, 3), (17, .iload_n 2, 1), (18, .invokevirtual 112, 3), (21, .astore 4, 2), (23, .aload 4, 2), (25, .instanceof 121, 3), (28, .ifCond .eq 18, 3), (31, .aload 4, 2), (33, .checkcast 121, 3), (36, .astore_n 3, 1), (37, .aload_n 0, 1), (38, .aload_n 1, 1), (39, .aload_n 3, 1), (40, .getfield 267, 3), (43, .invokevirtual 268, 3), (46, .iinc 2 1, 3), (49, .goto (-47), 3), (52, .aload_n 1, 1), (53, .getfield 65, 3), (56, .invokevirtual 271, 3), (59, .return_, 1)]
theorem m_RG_applyRemovals : l_RG_applyRemovals.all (fun q => decide (decode b_RG_applyRemovals q.1 = .ok (q.2.1, q.2.2))) = true := by decide +kernel
def l_RG_removeLeaf : List (Nat × Instr × Nat) := [(0, .iload_n 2, 1), (1, .aload_n 1, 1), (2, .getfield 239, 3), (5, .if_icmp .eq 18, 3), (8, .aload_n 1, 1), (9, .getfield 65, 3), (12, .iload_n 2, 1), (13, .iconst 0, 1), (14, .invokestatic 274, 3), (17, .invokevirtual 219, 3), (20, .ifCond .eq 4, 3), (23, .return_, 1), (24, .aload_n 1, 1), (25, .getfield 65, 3), (28, .iload_n 2, 1), (29, .invokevirtual 277, 3), (32, .aload_n 1, 1), (33, .dup, 1), (34, .getfield 245, 3), (37, .iconst 1, 1), (38, .iload_n 2, 1), (39, .ishl, 1), (40, .ior, 1), (41, .putfield 245, 3), (44, .iconst 0, 1), (45, .istore_n 3, 1), (46, .iload_n 3, 1), (47, .aload_n 0, 1), (48, .getfield 19, 3), (51, .invokevirtual 86, 3), (54, .if_icmp .ge 51, 3), (57, .aload_n 0, 1), (58, .getfield 19, 3), (61, .iload_n 3, 1), (62, .invokevirtual 112, 3), (65, .checkcast 41, 3), (68, .astore 4, 2), (70, .aload 4, 2), (72, .getfield 133, 3), (75, .aload_n 0, 1), (76, .getfield 53, 3), (79, .getfield 136, 3), (82, .if_icmp .ne 17, 3), (85, .aload 4, 2), (87, .getfield 129, 3), (90, .iload_n 2, 1), (91, .if_icmp .ne 8, 3), (94, .aload 4, 2), (96, .invokevirtual 280, 3), (99, .iinc 3 1, 3), (102, .goto (-56), 3), (105, .return_, 1)]
theorem m_RG_removeLeaf : l_RG_removeLeaf.all (fun q => decide (decode b_RG_removeLeaf q.1 = .ok (q.2.1, q.2.2))) = true := by decide +kernel
def l_Tr_vacate : List (Nat × Instr × Nat) := [(0, .aload_n 0, 1), (1, .getfield 26, 3), (4, .iload_n 1, 1), (5, .iconst (-1), 1), (6, .invokevirtual 45, 3), (9, .aload_n 0, 1), (10, .iload_n 1, 1), (11, .invokevirtual 52, 3), (14, .return_, 1)]
theorem m_Tr_vacate : l_Tr_vacate.all (fun q => decide (decode b_Tr_vacate q.1 = .ok (q.2.1, q.2.2))) = true := by decide +kernel
def l_Tr_blankWithPath : List (Nat × Instr × Nat) := [(0, .iconst 0, 1), (1, .istore_n 2, 1), (2, .iload_n 2, 1), (3, .aload_n 0, 1), (4, .getfield 29, 3), (7, .if_icmp .gt 20, 3), (10, .aload_n 0, 1), (11, .iload_n 1, 1), (12, .iload_n 2, 1), (13, .invokestatic 56, 3), (16, .iconst (-1), 1), (17, .iconst (-1), 1), (18, .invokevirtual 48, 3), (21, .iinc 2 1, 3), (24, .goto (-22), 3), (27, .return_, 1)]
theorem m_Tr_blankWithPath : l_Tr_blankWithPath.all (fun q => decide (decode b_Tr_blankWithPath q.1 = .ok (q.2.1, q.2.2))) = true := by decide +kernel
def l_Mem_leave : List (Nat × Instr × Nat) := [(0, .aload_n 0, 1), (1, .iconst (-1), 1), (2, .putfield 27, 3), (5, .aload_n 0, 1), (6, .iconst (-1), 1), (7, .putfield 30, 3), (10, .aload_n 0, 1), (11, .iconst 0, 1), (12, .putfield 33, 3), (15, .aload_n 0, 1), (16, .iconst 0, 1), (17, .putfield 23, 3), (20, .aload_n 0, 1), (21, .getfield 14, 3), (24, .iconst (-1), 1), (25, .invokevirtual 53, 3), (28, .return_, 1)]
theorem m_Mem_leave : l_Mem_leave.all (fun q => decide (decode b_Mem_leave q.1 = .ok (q.2.1, q.2.2))) = true := by decide +kernel
def l_Row_fill : List (Nat × Instr × Nat) := [(0, .aload_n 0, 1), (1, .getfield 9, 3), (4, .iload_n 1, 1), (5, .invokestatic 15, 3), (8, .return_, 1)]
theorem m_Row_fill : l_Row_fill.all (fun q => decide (decode b_Row_fill q.1 = .ok (q.2.1, q.2.2))) = true := by decide +kernel
def l_Tr_shrink : List (Nat × Instr × Nat) := [(0, .aload_n 0, 1), (1, .getfield 29, 3), (4, .ifCond .le 35, 3), (7, .aload_n 0, 1), (8, .invokevirtual 60, 3), (11, .ifCond .eq 28, 3), (14, .aload_n 0, 1), (15, .iconst 1, 1), (16, .aload_n 0, 1), (17, .getfield 29, 3), (20, .ishl, 1), (21, .iconst 1, 1), (22, .isub, 1), (23, .invokevirtual 64, 3), (26, .aload_n 0, 1), (27, .dup, 1), (28, .getfield 29, 3), (31, .iconst 1, 1), (32, .isub, 1), (33, .putfield 29, 3), (36, .goto (-36), 3), (39, .return_, 1)]
theorem m_Tr_shrink : l_Tr_shrink.all (fun q => decide (decode b_Tr_shrink q.1 = .ok (q.2.1, q.2.2))) = true := by decide +kernel
def l_Tr_isRightHalfBlank : List (Nat × Instr × Nat) := [(0, .iconst 1, 1), (1, .aload_n 0, 1), (2, .getfield 29, 3), (5, .iconst 1, 1), (6, .isub, 1), (7, .ishl, 1), (8, .istore_n 1, 1), (9, .iload_n 1, 1), (10, .iconst 1, 1), (11, .aload_n 0, 1), (12, .getfield 29, 3), (15, .ishl, 1), (16, .if_icmp .ge 23, 3), (19, .aload_n 0, 1), (20, .iload_n 1, 1), (21, .iconst 0, 1), (22, .invokestatic 56, 3), (25, .invokevirtual 67, 3), (28, .ifCond .ne 5, 3), (31, .iconst 0, 1), (32, .ireturn, 1), (33, .iinc 1 1, 3), (36, .goto (-27), 3), (39, .iconst 1, 1), (40, .ireturn, 1)]
theorem m_Tr_isRightHalfBlank : l_Tr_isRightHalfBlank.all (fun q => decide (decode b_Tr_isRightHalfBlank q.1 = .ok (q.2.1, q.2.2))) = true := by decide +kernel
def l_Tr_blank : List (Nat × Instr × Nat) := [(0, .aload_n 0, 1), (1, .iload_n 1, 1), (2, .iconst (-1), 1), (3, .iconst (-1), 1), (4, .invokevirtual 48, 3), (7, .return_, 1)]
theorem m_Tr_blank : l_Tr_blank.all (fun q => decide (decode b_Tr_blank q.1 = .ok (q.2.1, q.2.2))) = true := by decide +kernel
def l_RG_applyRenewals : List (Nat × Instr × Nat) := [(0, .iconst 0, 1), (1, .istore_n 2, 1), (2, .iload_n 2, 1), (3, .aload_n 0, 1), (4, .getfield 26, 3), (7, .invokevirtual 86, 3), (10, .if_icmp .ge 75, 3), (13, .aload_n 0, 1), (14, .getfield 26, 3), (17, .iload_n 2, 1), (18, .invokevirtual 112, 3), (21, .astore 4, 2), (23, .aload 4, 2), (25, .instanceof 127, 3), (28, .ifCond .eq 51, 3), (31, .aload 4, 2), (33, .checkcast 127, 3), (36, .astore_n 3, 1), (37, .aload_n 1, 1), (38, .aload_n 3, 1), (39, .invokevirtual 283, 3), (42, .ifCond .eq 37, 3), (45, .aload_n 1, 1), (46, .getfield 65, 3), (49, .aload_n 3, 1), (50, .getfield 287, 3), (53, .aload_n 3, 1), (54, .getfield 288, 3), (57, .aload_n 1, 1), (58, .getfield 136, 3), (61, .invokevirtual 291, 3), (64, .aload_n 1, 1), (65, .dup, 1), (66, .getfield 248, 3), (69, .iconst 1, 1), (70, .aload_n 3, 1), (71, .getfield 287, 3), (74, .ishl, 1), (75, .ior, 1), (76, .putfield 248, 3), (79, .iinc 2 1, 3), (82, .goto (-80), 3), (85, .return_, 1)]
theorem m_RG_applyRenewals : l_RG_applyRenewals.all (fun q => decide (decode b_RG_applyRenewals q.1 = .ok (q.2.1, q.2.2))) = true := by decide +kernel
def l_Ep_lets : List (Nat × Instr × Nat) := [(0, .aload_n 1, 1), (1, .getfield 52, 3), (4, .aload_n 0, 1), (5, .getfield 49, 3), (8, .if_icmp .eq 21, 3), (11, .aload_n 0, 1), (12, .getfield 34, 3), (15, .aload_n 1, 1), (16, .getfield 52, 3), (19, .invokestatic 57, 3), (22, .ifCond .ne 7, 3), (25, .iconst 1, 1), (26, .goto 4, 3), (29, .iconst 0, 1), (30, .ireturn, 1)]
theorem m_Ep_lets : l_Ep_lets.all (fun q => decide (decode b_Ep_lets q.1 = .ok (q.2.1, q.2.2))) = true := by decide +kernel
def l_Tr_renew : List (Nat × Instr × Nat) := [(0, .aload_n 0, 1), (1, .iload_n 1, 1), (2, .invokevirtual 52, 3), (5, .aload_n 0, 1), (6, .iload_n 1, 1), (7, .iconst 0, 1), (8, .invokestatic 56, 3), (11, .iload_n 2, 1), (12, .iload_n 3, 1), (13, .invokevirtual 48, 3), (16, .return_, 1)]
theorem m_Tr_renew : l_Tr_renew.all (fun q => decide (decode b_Tr_renew q.1 = .ok (q.2.1, q.2.2))) = true := by decide +kernel
def l_RG_applyAdditions : List (Nat × Instr × Nat) := [(0, .iconst 0, 1), (1, .istore_n 2, 1), (2, .iload_n 2, 1), (3, .aload_n 0, 1), (4, .getfield 26, 3), (7, .invokevirtual 86, 3), (10, .if_icmp .ge 42, 3), (13, .aload_n 0, 1), (14, .getfield 26, 3), (17, .iload_n 2, 1), (18, .invokevirtual 112, 3), (21, .astore 4, 2), (23, .aload 4, 2), (25, .instanceof 110, 3), (28, .ifCond .eq 18, 3), (31, .aload 4, 2), (33, .checkcast 110, 3), (36, .astore_n 3, 1), (37, .aload_n 0, 1), (38, .aload_n 1, 1), (39, .aload_n 3, 1), (40, .getfield 295, 3), (43, .invokevirtual 299, 3), (46, .iinc 2 1, 3), (49, .goto (-47), 3), (52, .return_, 1)]
theorem m_RG_applyAdditions : l_RG_applyAdditions.all (fun q => decide (decode b_RG_applyAdditions q.1 = .ok (q.2.1, q.2.2))) = true := by decide +kernel
def l_RG_addLeaf : List (Nat × Instr × Nat) := [(0, .aload_n 2, 1), (1, .getfield 303, 3), (4, .astore_n 3, 1), (5, .aload_n 2, 1), (6, .invokevirtual 307, 3), (9, .ifCond .ne 25, 3), (12, .aload_n 3, 1), (13, .getfield 133, 3), (16, .iconst (-1), 1), (17, .if_icmp .ne 17, 3), (20, .aload_n 1, 1), (21, .getfield 65, 3), (24, .aload_n 3, 1), (25, .getfield 69, 3), (28, .invokevirtual 311, 3), (31, .ifCond .eq 4, 3), (34, .return_, 1), (35, .aload_n 1, 1), (36, .getfield 65, 3), (39, .invokevirtual 314, 3), (42, .istore 4, 2), (44, .iload 4, 2), (46, .iconst (-1), 1), (47, .if_icmp .ne 4, 3), (50, .return_, 1), (51, .aload_n 1, 1), (52, .getfield 65, 3), (55, .iload 4, 2), (57, .aload_n 3, 1), (58, .getfield 69, 3), (61, .aload_n 2, 1), (62, .getfield 317, 3), (65, .aload_n 1, 1), (66, .getfield 136, 3), (69, .invokevirtual 72, 3), (72, .aload_n 1, 1), (73, .dup, 1), (74, .getfield 251, 3), (77, .iconst 1, 1), (78, .iload 4, 2), (80, .ishl, 1), (81, .ior, 1), (82, .putfield 251, 3), (85, .aload_n 2, 1), (86, .aload_n 1, 1), (87, .getfield 136, 3), (90, .putfield 320, 3), (93, .aload_n 2, 1), (94, .iload 4, 2), (96, .putfield 321, 3), (99, .return_, 1)]
theorem m_RG_addLeaf : l_RG_addLeaf.all (fun q => decide (decode b_RG_addLeaf q.1 = .ok (q.2.1, q.2.2))) = true := by decide +kernel
def l_KP_isUsed : List (Nat × Instr × Nat) := [(0, .aload_n 0, 1), (1, .getfield 9, 3), (4, .iconst (-1), 1), (5, .if_icmp .eq 7, 3), (8, .iconst 1, 1), (9, .goto 4, 3), (12, .iconst 0, 1), (13, .ireturn, 1)]
theorem m_KP_isUsed : l_KP_isUsed.all (fun q => decide (decode b_KP_isUsed q.1 = .ok (q.2.1, q.2.2))) = true := by decide +kernel
def l_Tr_seats : List (Nat × Instr × Nat) := [(0, .iconst 0, 1), (1, .istore_n 2, 1), (2, .iload_n 2, 1), (3, .bipush 16, 2), (5, .if_icmp .ge 23, 3), (8, .aload_n 0, 1), (9, .getfield 26, 3), (12, .iload_n 2, 1), (13, .invokevirtual 41, 3), (16, .iload_n 1, 1), (17, .if_icmp .ne 5, 3), (20, .iconst 1, 1), (21, .ireturn, 1), (22, .iinc 2 1, 3), (25, .goto (-23), 3), (28, .iconst 0, 1), (29, .ireturn, 1)]
theorem m_Tr_seats : l_Tr_seats.all (fun q => decide (decode b_Tr_seats q.1 = .ok (q.2.1, q.2.2))) = true := by decide +kernel
def l_Tr_lowestFreeLeaf : List (Nat × Instr × Nat) := [(0, .iconst 0, 1), (1, .istore_n 1, 1), (2, .iload_n 1, 1), (3, .bipush 16, 2), (5, .if_icmp .ge 23, 3), (8, .aload_n 0, 1), (9, .iload_n 1, 1), (10, .iconst 0, 1), (11, .invokestatic 56, 3), (14, .invokevirtual 67, 3), (17, .ifCond .eq 5, 3), (20, .iload_n 1, 1), (21, .ireturn, 1), (22, .iinc 1 1, 3), (25, .goto (-23), 3), (28, .iconst (-1), 1), (29, .ireturn, 1)]
theorem m_Tr_lowestFreeLeaf : l_Tr_lowestFreeLeaf.all (fun q => decide (decode b_Tr_lowestFreeLeaf q.1 = .ok (q.2.1, q.2.2))) = true := by decide +kernel
def l_Ep_needsPath : List (Nat × Instr × Nat) := [(0, .iload_n 1, 1), (1, .ifCond .ne 22, 3), (4, .aload_n 0, 1), (5, .getfield 34, 3), (8, .aload_n 0, 1), (9, .getfield 37, 3), (12, .ior, 1), (13, .ifCond .ne 10, 3), (16, .aload_n 0, 1), (17, .getfield 40, 3), (20, .ifCond .ne 7, 3), (23, .iconst 1, 1), (24, .goto 4, 3), (27, .iconst 0, 1), (28, .ireturn, 1)]
theorem m_Ep_needsPath : l_Ep_needsPath.all (fun q => decide (decode b_Ep_needsPath q.1 = .ok (q.2.1, q.2.2))) = true := by decide +kernel
def l_Ep_layPath : List (Nat × Instr × Nat) := [(0, .aload_n 0, 1), (1, .getfield 12, 3), (4, .aload_n 0, 1), (5, .getfield 49, 3), (8, .iconst 0, 1), (9, .invokestatic 61, 3), (12, .aload_n 1, 1), (13, .invokevirtual 65, 3), (16, .aload_n 0, 1), (17, .getfield 46, 3), (20, .invokevirtual 71, 3), (23, .iconst (-1), 1), (24, .istore_n 2, 1), (25, .iconst 1, 1), (26, .istore_n 3, 1), (27, .iload_n 3, 1), (28, .aload_n 0, 1), (29, .getfield 12, 3), (32, .getfield 75, 3), (35, .if_icmp .gt 110, 3), (38, .aload_n 0, 1), (39, .getfield 49, 3), (42, .iload_n 3, 1), (43, .invokestatic 61, 3), (46, .istore 4, 2), (48, .aload_n 0, 1), (49, .getfield 12, 3), (52, .aload_n 0, 1), (53, .iload_n 3, 1), (54, .invokevirtual 78, 3), (57, .invokevirtual 82, 3), (60, .ifCond .ne 15, 3), (63, .aload_n 0, 1), (64, .getfield 12, 3), (67, .iload 4, 2), (69, .invokevirtual 85, 3), (72, .goto 67, 3), (75, .iload_n 2, 1), (76, .iconst (-1), 1), (77, .if_icmp .ne 10, 3), (80, .aload_n 1, 1), (81, .invokevirtual 65, 3), (84, .goto 8, 3), (87, .aload_n 1, 1), (88, .iload_n 2, 1), (89, .invokevirtual 89, 3), (92, .istore_n 2, 1), (93, .aload_n 0, 1), (94, .dup, 1), (95, .getfield 31, 3), (98, .iconst 1, 1), (99, .iload 4, 2), (101, .ishl, 1), (102, .ior, 1), (103, .putfield 31, 3), (106, .aload_n 0, 1), (107, .getfield 23, 3), (110, .iload_n 3, 1), (111, .iload_n 2, 1), (112, .invokevirtual 92, 3), (115, .aload_n 0, 1), (116, .getfield 12, 3), (119, .iload 4, 2), (121, .aload_n 1, 1), (122, .iload_n 2, 1), (123, .invokevirtual 89, 3), (126, .aload_n 0, 1), (127, .getfield 46, 3), (130, .invokevirtual 71, 3), (133, .aload_n 0, 1), (134, .aload_n 1, 1), (135, .iload_n 3, 1), (136, .invokevirtual 95, 3), (139, .iinc 3 1, 3), (142, .goto (-115), 3), (145, .iload_n 2, 1), (146, .iconst (-1), 1), (147, .if_icmp .ne 10, 3), (150, .aload_n 1, 1), (151, .invokevirtual 65, 3), (154, .goto 8, 3), (157, .aload_n 1, 1), (158, .iload_n 2, 1), (159, .invokevirtual 89, 3), (162, .ireturn, 1)]
theorem m_Ep_layPath : l_Ep_layPath.all (fun q => decide (decode b_Ep_layPath q.1 = .ok (q.2.1, q.2.2))) = true := by decide +kernel
def l_Ep_nodeBesidePath : List (Nat × Instr × Nat) := [(0, .iload_n 1, 1), (1, .iconst 1, 1), (2, .isub, 1), (3, .istore_n 2, 1), (4, .aload_n 0, 1), (5, .getfield 49, 3), (8, .iconst 1, 1), (9, .iload_n 2, 1), (10, .ishl, 1), (11, .ixor, 1), (12, .iload_n 2, 1), (13, .invokestatic 61, 3), (16, .ireturn, 1)]
theorem m_Ep_nodeBesidePath : l_Ep_nodeBesidePath.all (fun q => decide (decode b_Ep_nodeBesidePath q.1 = .ok (q.2.1, q.2.2))) = true := by decide +kernel
def l_Sec_derivedFrom : List (Nat × Instr × Nat) := [(0, .aload_n 0, 1), (1, .invokevirtual 51, 3), (4, .istore_n 2, 1), (5, .aload_n 0, 1), (6, .iload_n 1, 1), (7, .iconst 0, 1), (8, .iload_n 2, 1), (9, .invokevirtual 55, 3), (12, .iload_n 2, 1), (13, .ireturn, 1)]
theorem m_Sec_derivedFrom : l_Sec_derivedFrom.all (fun q => decide (decode b_Sec_derivedFrom q.1 = .ok (q.2.1, q.2.2))) = true := by decide +kernel
def l_Sec_openWay : List (Nat × Instr × Nat) := [(0, .aload_n 0, 1), (1, .getfield 39, 3), (4, .sipush 2600, 3), (7, .if_icmp .lt 4, 3), (10, .return_, 1), (11, .aload_n 0, 1), (12, .getfield 26, 3), (15, .aload_n 0, 1), (16, .getfield 39, 3), (19, .iload_n 3, 1), (20, .invokevirtual 48, 3), (23, .aload_n 0, 1), (24, .getfield 29, 3), (27, .aload_n 0, 1), (28, .getfield 39, 3), (31, .iload_n 2, 1), (32, .invokevirtual 48, 3), (35, .aload_n 0, 1), (36, .getfield 23, 3), (39, .aload_n 0, 1), (40, .getfield 39, 3), (43, .aload_n 0, 1), (44, .getfield 20, 3), (47, .iload_n 1, 1), (48, .invokevirtual 59, 3), (51, .invokevirtual 48, 3), (54, .aload_n 0, 1), (55, .getfield 20, 3), (58, .iload_n 1, 1), (59, .aload_n 0, 1), (60, .getfield 39, 3), (63, .invokevirtual 48, 3), (66, .aload_n 0, 1), (67, .dup, 1), (68, .getfield 39, 3), (71, .iconst 1, 1), (72, .iadd, 1), (73, .putfield 39, 3), (76, .aload_n 0, 1), (77, .iload_n 1, 1), (78, .invokevirtual 67, 3), (81, .ifCond .eq 16, 3), (84, .aload_n 0, 1), (85, .iload_n 2, 1), (86, .invokevirtual 67, 3), (89, .ifCond .eq 8, 3), (92, .aload_n 0, 1), (93, .iload_n 3, 1), (94, .invokevirtual 71, 3), (97, .return_, 1)]
theorem m_Sec_openWay : l_Sec_openWay.all (fun q => decide (decode b_Sec_openWay q.1 = .ok (q.2.1, q.2.2))) = true := by decide +kernel
def l_Sec_tell : List (Nat × Instr × Nat) := [(0, .iload_n 1, 1), (1, .ifCond .lt 53, 3), (4, .iload_n 1, 1), (5, .aload_n 0, 1), (6, .getfield 35, 3), (9, .if_icmp .ge 45, 3), (12, .aload_n 0, 1), (13, .getfield 14, 3), (16, .iload_n 1, 1), (17, .invokevirtual 59, 3), (20, .ifCond .ne 34, 3), (23, .aload_n 0, 1), (24, .getfield 14, 3), (27, .iload_n 1, 1), (28, .iconst 1, 1), (29, .invokevirtual 48, 3), (32, .aload_n 0, 1), (33, .getfield 32, 3), (36, .aload_n 0, 1), (37, .getfield 42, 3), (40, .iload_n 1, 1), (41, .invokevirtual 48, 3), (44, .aload_n 0, 1), (45, .dup, 1), (46, .getfield 42, 3), (49, .iconst 1, 1), (50, .iadd, 1), (51, .putfield 42, 3), (54, .return_, 1)]
theorem m_Sec_tell : l_Sec_tell.all (fun q => decide (decode b_Sec_tell q.1 = .ok (q.2.1, q.2.2))) = true := by decide +kernel
def l_Ep_encryptPathSecret : List (Nat × Instr × Nat) := [(0, .aload_n 0, 1), (1, .iload_n 2, 1), (2, .invokevirtual 99, 3), (5, .istore_n 3, 1), (6, .iconst 0, 1), (7, .istore 4, 2), (9, .iload 4, 2), (11, .bipush 31, 2), (13, .if_icmp .ge 43, 3), (16, .iload_n 3, 1), (17, .iload 4, 2), (19, .invokestatic 57, 3), (22, .ifCond .eq 28, 3), (25, .aload_n 0, 1), (26, .aload_n 1, 1), (27, .aload_n 0, 1), (28, .getfield 12, 3), (31, .getfield 102, 3), (34, .iload 4, 2), (36, .invokevirtual 105, 3), (39, .aload_n 0, 1), (40, .getfield 23, 3), (43, .iload_n 2, 1), (44, .invokevirtual 105, 3), (47, .invokevirtual 108, 3), (50, .iinc 4 1, 3), (53, .goto (-44), 3), (56, .return_, 1)]
theorem m_Ep_encryptPathSecret : l_Ep_encryptPathSecret.all (fun q => decide (decode b_Ep_encryptPathSecret q.1 = .ok (q.2.1, q.2.2))) = true := by decide +kernel
def l_Ep_readersOf : List (Nat × Instr × Nat) := [(0, .aload_n 0, 1), (1, .getfield 12, 3), (4, .aload_n 0, 1), (5, .iload_n 1, 1), (6, .invokevirtual 78, 3), (9, .invokevirtual 82, 3), (12, .aload_n 0, 1), (13, .getfield 40, 3), (16, .invokestatic 115, 3), (19, .iconst (-1), 1), (20, .ixor, 1), (21, .iand, 1), (22, .ireturn, 1)]
theorem m_Ep_readersOf : l_Ep_readersOf.all (fun q => decide (decode b_Ep_readersOf q.1 = .ok (q.2.1, q.2.2))) = true := by decide +kernel
def l_Ep_encrypt : List (Nat × Instr × Nat) := [(0, .aload_n 1, 1), (1, .iload_n 2, 1), (2, .iconst 0, 1), (3, .iload_n 3, 1), (4, .invokevirtual 112, 3), (7, .aload_n 0, 1), (8, .dup, 1), (9, .getfield 43, 3), (12, .iconst 1, 1), (13, .iadd, 1), (14, .putfield 43, 3), (17, .return_, 1)]
theorem m_Ep_encrypt : l_Ep_encrypt.all (fun q => decide (decode b_Ep_encrypt q.1 = .ok (q.2.1, q.2.2))) = true := by decide +kernel
def l_Sec_joinerOf : List (Nat × Instr × Nat) := [(0, .aload_n 0, 1), (1, .invokevirtual 51, 3), (4, .istore_n 3, 1), (5, .aload_n 0, 1), (6, .iload_n 1, 1), (7, .iload_n 2, 1), (8, .iload_n 3, 1), (9, .invokevirtual 55, 3), (12, .aload_n 0, 1), (13, .iload_n 2, 1), (14, .iload_n 1, 1), (15, .iload_n 3, 1), (16, .invokevirtual 55, 3), (19, .iload_n 3, 1), (20, .ireturn, 1)]
theorem m_Sec_joinerOf : l_Sec_joinerOf.all (fun q => decide (decode b_Sec_joinerOf q.1 = .ok (q.2.1, q.2.2))) = true := by decide +kernel
def l_RG_welcomeAdded : List (Nat × Instr × Nat) := [(0, .iconst 0, 1), (1, .istore_n 3, 1), (2, .iload_n 3, 1), (3, .aload_n 0, 1), (4, .getfield 23, 3), (7, .invokevirtual 86, 3), (10, .if_icmp .ge 87, 3), (13, .aload_n 0, 1), (14, .getfield 23, 3), (17, .iload_n 3, 1), (18, .invokevirtual 112, 3), (21, .checkcast 96, 3), (24, .astore 4, 2), (26, .aload 4, 2), (28, .getfield 320, 3), (31, .aload_n 1, 1), (32, .getfield 136, 3), (35, .if_icmp .ne 56, 3), (38, .aload_n 1, 1), (39, .aload_n 0, 1), (40, .getfield 12, 3), (43, .aload 4, 2), (45, .getfield 322, 3), (48, .iload_n 2, 1), (49, .invokevirtual 325, 3), (52, .aload_n 1, 1), (53, .aload 4, 2), (55, .getfield 321, 3), (58, .invokevirtual 329, 3), (61, .istore 5, 2), (63, .iload 5, 2), (65, .iconst (-1), 1), (66, .if_icmp .eq 25, 3), (69, .aload_n 1, 1), (70, .aload_n 0, 1), (71, .getfield 12, 3), (74, .aload 4, 2), (76, .getfield 322, 3), (79, .aload_n 1, 1), (80, .getfield 332, 3), (83, .iload 5, 2), (85, .invokevirtual 193, 3), (88, .invokevirtual 325, 3), (91, .iinc 3 1, 3), (94, .goto (-92), 3), (97, .return_, 1)]
theorem m_RG_welcomeAdded : l_RG_welcomeAdded.all (fun q => decide (decode b_RG_welcomeAdded q.1 = .ok (q.2.1, q.2.2))) = true := by decide +kernel
def l_Ep_lowestCountingOver : List (Nat × Instr × Nat) := [(0, .iconst 1, 1), (1, .istore_n 2, 1), (2, .iload_n 2, 1), (3, .aload_n 0, 1), (4, .getfield 12, 3), (7, .getfield 75, 3), (10, .if_icmp .gt 26, 3), (13, .aload_n 0, 1), (14, .getfield 31, 3), (17, .iload_n 1, 1), (18, .iload_n 2, 1), (19, .invokestatic 61, 3), (22, .invokestatic 57, 3), (25, .ifCond .eq 5, 3), (28, .iload_n 2, 1), (29, .ireturn, 1), (30, .iinc 2 1, 3), (33, .goto (-31), 3), (36, .iconst (-1), 1), (37, .ireturn, 1)]
theorem m_Ep_lowestCountingOver : l_Ep_lowestCountingOver.all (fun q => decide (decode b_Ep_lowestCountingOver q.1 = .ok (q.2.1, q.2.2))) = true := by decide +kernel
def l_AL_clear : List (Nat × Instr × Nat) := [(0, .aload_n 0, 1), (1, .dup, 1), (2, .getfield 63, 3), (5, .iconst 1, 1), (6, .iadd, 1), (7, .putfield 63, 3), (10, .aload_n 0, 1), (11, .getfield 9, 3), (14, .astore_n 1, 1), (15, .aload_n 0, 1), (16, .getfield 48, 3), (19, .istore_n 2, 1), (20, .aload_n 0, 1), (21, .iconst 0, 1), (22, .dup_x1, 1), (23, .putfield 48, 3), (26, .istore_n 3, 1), (27, .iload_n 3, 1), (28, .iload_n 2, 1), (29, .if_icmp .ge 13, 3), (32, .aload_n 1, 1), (33, .iload_n 3, 1), (34, .aconst_null, 1), (35, .aastore, 1), (36, .iinc 3 1, 3), (39, .goto (-12), 3), (42, .return_, 1)]
theorem m_AL_clear : l_AL_clear.all (fun q => decide (decode b_AL_clear q.1 = .ok (q.2.1, q.2.2))) = true := by decide +kernel
def l_Sec_settle : List (Nat × Instr × Nat) := [(0, .aload_n 0, 1), (1, .getfield 45, 3), (4, .aload_n 0, 1), (5, .getfield 42, 3), (8, .if_icmp .ge 41, 3), (11, .aload_n 0, 1), (12, .getfield 45, 3), (15, .sipush 2200, 3), (18, .if_icmp .ge 31, 3), (21, .aload_n 0, 1), (22, .aload_n 0, 1), (23, .getfield 32, 3), (26, .aload_n 0, 1), (27, .getfield 45, 3), (30, .invokevirtual 59, 3), (33, .invokevirtual 63, 3), (36, .aload_n 0, 1), (37, .dup, 1), (38, .getfield 45, 3), (41, .iconst 1, 1), (42, .iadd, 1), (43, .putfield 45, 3), (46, .goto (-46), 3), (49, .return_, 1)]
theorem m_Sec_settle : l_Sec_settle.all (fun q => decide (decode b_Sec_settle q.1 = .ok (q.2.1, q.2.2))) = true := by decide +kernel
def l_Sec_followWays : List (Nat × Instr × Nat) := [(0, .aload_n 0, 1), (1, .getfield 20, 3), (4, .iload_n 1, 1), (5, .invokevirtual 59, 3), (8, .istore_n 2, 1), (9, .iconst 0, 1), (10, .istore_n 3, 1), (11, .iload_n 3, 1), (12, .aload_n 0, 1), (13, .getfield 39, 3), (16, .if_icmp .ge 50, 3), (19, .iload_n 2, 1), (20, .iconst (-1), 1), (21, .if_icmp .eq 45, 3), (24, .aload_n 0, 1), (25, .aload_n 0, 1), (26, .getfield 29, 3), (29, .iload_n 2, 1), (30, .invokevirtual 59, 3), (33, .invokevirtual 67, 3), (36, .ifCond .eq 15, 3), (39, .aload_n 0, 1), (40, .aload_n 0, 1), (41, .getfield 26, 3), (44, .iload_n 2, 1), (45, .invokevirtual 59, 3), (48, .invokevirtual 71, 3), (51, .aload_n 0, 1), (52, .getfield 23, 3), (55, .iload_n 2, 1), (56, .invokevirtual 59, 3), (59, .istore_n 2, 1), (60, .iinc 3 1, 3), (63, .goto (-52), 3), (66, .return_, 1)]
theorem m_Sec_followWays : l_Sec_followWays.all (fun q => decide (decode b_Sec_followWays q.1 = .ok (q.2.1, q.2.2))) = true := by decide +kernel
def l_Law_come : List (Nat × Instr × Nat) := [(0, .aload_n 2, 1), (1, .iconst 0, 1), (2, .aload_n 0, 1), (3, .iload_n 1, 1), (4, .invokevirtual 31, 3), (7, .i2l, 1), (8, .lastore, 1), (9, .goto 9, 3), (12, .astore_n 3, 1), (13, .iconst 1, 1), (14, .ireturn, 1), (15, .astore_n 3, 1), (16, .iconst 2, 1), (17, .ireturn, 1), (18, .iconst 0, 1), (19, .ireturn, 1)]
theorem m_Law_come : l_Law_come.all (fun q => decide (decode b_Law_come q.1 = .ok (q.2.1, q.2.2))) = true := by decide +kernel
def l_RG_come : List (Nat × Instr × Nat) := [(0, .aload_n 0, 1), (1, .iload_n 1, 1), (2, .invokevirtual 82, 3), (5, .astore_n 2, 1), (6, .aload_n 2, 1), (7, .getfield 133, 3), (10, .iconst (-1), 1), (11, .if_icmp .ne 11, 3), (14, .aload_n 0, 1), (15, .aload_n 2, 1), (16, .invokevirtual 183, 3), (19, .goto 8, 3), (22, .aload_n 0, 1), (23, .aload_n 2, 1), (24, .invokevirtual 186, 3), (27, .aload_n 2, 1), (28, .getfield 133, 3), (31, .ireturn, 1)]
theorem m_RG_come : l_RG_come.all (fun q => decide (decode b_RG_come q.1 = .ok (q.2.1, q.2.2))) = true := by decide +kernel
def l_RG_joinEarliest : List (Nat × Instr × Nat) := [(0, .aconst_null, 1), (1, .astore_n 2, 1), (2, .iconst 0, 1), (3, .istore_n 3, 1), (4, .iload_n 3, 1), (5, .aload_n 0, 1), (6, .getfield 23, 3), (9, .invokevirtual 86, 3), (12, .if_icmp .ge 78, 3), (15, .aload_n 0, 1), (16, .getfield 23, 3), (19, .iload_n 3, 1), (20, .invokevirtual 112, 3), (23, .checkcast 96, 3), (26, .astore 4, 2), (28, .aload 4, 2), (30, .getfield 303, 3), (33, .aload_n 1, 1), (34, .if_acmp .ne 23, 3), (37, .aload 4, 2), (39, .invokevirtual 307, 3), (42, .ifCond .eq 15, 3), (45, .aload 4, 2), (47, .getfield 335, 3), (50, .ifCond .ne 7, 3), (53, .iconst 1, 1), (54, .goto 4, 3), (57, .iconst 0, 1), (58, .istore 5, 2), (60, .iload 5, 2), (62, .ifCond .eq 22, 3), (65, .aload_n 2, 1), (66, .ifnull 15, 3), (69, .aload 4, 2), (71, .getfield 320, 3), (74, .aload_n 2, 1), (75, .getfield 320, 3), (78, .if_icmp .ge 6, 3), (81, .aload 4, 2), (83, .astore_n 2, 1), (84, .iinc 3 1, 3), (87, .goto (-83), 3), (90, .aload_n 2, 1), (91, .ifnull 14, 3), (94, .aload_n 0, 1), (95, .aload_n 2, 1), (96, .getfield 320, 3), (99, .invokevirtual 205, 3), (102, .ifCond .ne 14, 3), (105, .new 89, 3), (108, .dup, 1), (109, .ldc_w 338, 3), (112, .invokespecial 93, 3), (115, .athrow, 1), (116, .aload_n 2, 1), (117, .iconst 1, 1), (118, .putfield 335, 3), (121, .aload_n 1, 1), (122, .aload_n 0, 1), (123, .getfield 29, 3), (126, .aload_n 2, 1), (127, .getfield 320, 3), (130, .invokevirtual 112, 3), (133, .checkcast 50, 3), (136, .aload_n 2, 1), (137, .getfield 321, 3), (140, .invokevirtual 78, 3), (143, .return_, 1)]
theorem m_RG_joinEarliest : l_RG_joinEarliest.all (fun q => decide (decode b_RG_joinEarliest q.1 = .ok (q.2.1, q.2.2))) = true := by decide +kernel
def l_RG_moveOn : List (Nat × Instr × Nat) := [(0, .aload_n 1, 1), (1, .getfield 133, 3), (4, .iconst 1, 1), (5, .iadd, 1), (6, .istore_n 2, 1), (7, .aload_n 0, 1), (8, .iload_n 2, 1), (9, .invokevirtual 205, 3), (12, .ifCond .ne 14, 3), (15, .new 89, 3), (18, .dup, 1), (19, .ldc_w 340, 3), (22, .invokespecial 93, 3), (25, .athrow, 1), (26, .aload_n 0, 1), (27, .getfield 29, 3), (30, .iload_n 2, 1), (31, .invokevirtual 112, 3), (34, .checkcast 50, 3), (37, .astore_n 3, 1), (38, .aload_n 3, 1), (39, .getfield 245, 3), (42, .aload_n 1, 1), (43, .getfield 129, 3), (46, .invokestatic 342, 3), (49, .ifCond .eq 10, 3), (52, .aload_n 1, 1), (53, .invokevirtual 280, 3), (56, .goto 8, 3), (59, .aload_n 1, 1), (60, .aload_n 3, 1), (61, .invokevirtual 346, 3), (64, .return_, 1)]
theorem m_RG_moveOn : l_RG_moveOn.all (fun q => decide (decode b_RG_moveOn q.1 = .ok (q.2.1, q.2.2))) = true := by decide +kernel
def l_Mem_follow : List (Nat × Instr × Nat) := [(0, .aload_n 0, 1), (1, .aload_n 1, 1), (2, .getfield 61, 3), (5, .putfield 27, 3), (8, .aload_n 0, 1), (9, .iconst 0, 1), (10, .putfield 23, 3), (13, .aload_n 1, 1), (14, .getfield 83, 3), (17, .aload_n 0, 1), (18, .getfield 30, 3), (21, .invokestatic 86, 3), (24, .ifCond .eq 19, 3), (27, .aload_n 0, 1), (28, .aload_n 1, 1), (29, .getfield 64, 3), (32, .aload_n 0, 1), (33, .getfield 30, 3), (36, .iconst 0, 1), (37, .invokestatic 72, 3), (40, .invokevirtual 76, 3), (43, .aload_n 0, 1), (44, .aload_n 1, 1), (45, .getfield 64, 3), (48, .invokevirtual 68, 3), (51, .aload_n 1, 1), (52, .aload_n 0, 1), (53, .getfield 30, 3), (56, .invokevirtual 90, 3), (59, .istore_n 2, 1), (60, .iload_n 2, 1), (61, .iconst (-1), 1), (62, .if_icmp .ne 4, 3), (65, .return_, 1), (66, .aload_n 0, 1), (67, .aload_n 1, 1), (68, .iload_n 2, 1), (69, .invokevirtual 93, 3), (72, .aload_n 1, 1), (73, .getfield 64, 3), (76, .invokevirtual 96, 3), (79, .ifCond .eq 11, 3), (82, .aload_n 0, 1), (83, .aload_n 1, 1), (84, .invokevirtual 80, 3), (87, .goto 18, 3), (90, .aload_n 0, 1), (91, .dup, 1), (92, .getfield 37, 3), (95, .iconst 1, 1), (96, .iadd, 1), (97, .putfield 37, 3), (100, .aload_n 0, 1), (101, .iconst 0, 1), (102, .putfield 33, 3), (105, .return_, 1)]
theorem m_Mem_follow : l_Mem_follow.all (fun q => decide (decode b_Mem_follow q.1 = .ok (q.2.1, q.2.2))) = true := by decide +kernel
def l_Mem_holdsOneOf : List (Nat × Instr × Nat) := [(0, .iconst 0, 1), (1, .istore_n 3, 1), (2, .iload_n 3, 1), (3, .bipush 31, 2), (5, .if_icmp .ge 28, 3), (8, .iload_n 1, 1), (9, .iload_n 3, 1), (10, .invokestatic 86, 3), (13, .ifCond .eq 14, 3), (16, .aload_n 0, 1), (17, .aload_n 2, 1), (18, .iload_n 3, 1), (19, .invokevirtual 100, 3), (22, .ifCond .eq 5, 3), (25, .iconst 1, 1), (26, .ireturn, 1), (27, .iinc 3 1, 3), (30, .goto (-28), 3), (33, .iconst 0, 1), (34, .ireturn, 1)]
theorem m_Mem_holdsOneOf : l_Mem_holdsOneOf.all (fun q => decide (decode b_Mem_holdsOneOf q.1 = .ok (q.2.1, q.2.2))) = true := by decide +kernel
def l_Law_compromise : List (Nat × Instr × Nat) := [(0, .aload_n 2, 1), (1, .iconst 0, 1), (2, .aload_n 0, 1), (3, .iload_n 1, 1), (4, .invokevirtual 34, 3), (7, .i2l, 1), (8, .lastore, 1), (9, .goto 6, 3), (12, .astore_n 3, 1), (13, .iconst 1, 1), (14, .ireturn, 1), (15, .iconst 0, 1), (16, .ireturn, 1)]
theorem m_Law_compromise : l_Law_compromise.all (fun q => decide (decode b_Law_compromise q.1 = .ok (q.2.1, q.2.2))) = true := by decide +kernel
def l_RG_compromise : List (Nat × Instr × Nat) := [(0, .aload_n 0, 1), (1, .aload_n 0, 1), (2, .iload_n 1, 1), (3, .invokevirtual 82, 3), (6, .invokevirtual 189, 3), (9, .istore_n 2, 1), (10, .iconst 0, 1), (11, .istore_n 3, 1), (12, .iload_n 3, 1), (13, .iload_n 2, 1), (14, .if_icmp .ge 24, 3), (17, .aload_n 0, 1), (18, .getfield 12, 3), (21, .aload_n 0, 1), (22, .getfield 37, 3), (25, .iload_n 3, 1), (26, .invokevirtual 193, 3), (29, .invokevirtual 195, 3), (32, .iinc 3 1, 3), (35, .goto (-23), 3), (38, .aload_n 0, 1), (39, .getfield 12, 3), (42, .invokevirtual 180, 3), (45, .iload_n 2, 1), (46, .ireturn, 1)]
theorem m_RG_compromise : l_RG_compromise.all (fun q => decide (decode b_RG_compromise q.1 = .ok (q.2.1, q.2.2))) = true := by decide +kernel
def l_Mo_init : List (Nat × Instr × Nat) := [(0, .aload_n 0, 1), (1, .invokespecial 1, 3), (4, .aload_n 0, 1), (5, .sipush 2600, 3), (8, .newarray .int, 2), (10, .putfield 7, 3), (13, .aload_n 0, 1), (14, .sipush 2600, 3), (17, .newarray .int, 2), (19, .putfield 13, 3), (22, .aload_n 0, 1), (23, .sipush 2600, 3), (26, .newarray .int, 2), (28, .putfield 16, 3), (31, .aload_n 0, 1), (32, .sipush 2600, 3), (35, .newarray .boolean, 2), (37, .putfield 19, 3), (40, .aload_n 0, 1), (41, .sipush 2600, 3), (44, .newarray .boolean, 2), (46, .putfield 23, 3), (49, .aload_n 0, 1), (50, .sipush 3600, 3), (53, .newarray .int, 2), (55, .putfield 26, 3), (58, .aload_n 0, 1), (59, .sipush 3600, 3), (62, .newarray .int, 2), (64, .putfield 29, 3), (67, .aload_n 0, 1), (68, .sipush 3600, 3), (71, .newarray .int, 2), (73, .putfield 32, 3), (76, .aload_n 0, 1), (77, .sipush 3600, 3), (80, .newarray .int, 2), (82, .putfield 35, 3), (85, .aload_n 0, 1), (86, .bipush 60, 2), (88, .newarray .int, 2), (90, .putfield 38, 3), (93, .aload_n 0, 1), (94, .bipush 60, 2), (96, .newarray .int, 2), (98, .putfield 41, 3), (101, .aload_n 0, 1), (102, .bipush 60, 2), (104, .newarray .int, 2), (106, .putfield 44, 3), (109, .aload_n 0, 1), (110, .bipush 60, 2), (112, .newarray .int, 2), (114, .putfield 47, 3), (117, .aload_n 0, 1), (118, .bipush 60, 2), (120, .newarray .int, 2), (122, .putfield 50, 3), (125, .aload_n 0, 1), (126, .bipush 60, 2), (128, .newarray .int, 2), (130, .putfield 53, 3), (133, .aload_n 0, 1), (134, .bipush 60, 2), (136, .newarray .int, 2), (138, .putfield 56, 3), (141, .aload_n 0, 1), (142, .bipush 60, 2), (144, .newarray .int, 2), (146, .putfield 59, 3), (149, .aload_n 0, 1), (150, .bipush 60, 2), (152, .newarray .boolean, 2), (154, .putfield 62, 3), (157, .aload_n 0, 1), (158, .sipush 1860, 3), (161, .newarray .int, 2), (163, .putfield 65, 3), (166, .aload_n 0, 1), (167, .sipush 1860, 3), (170, .newarray .int, 2), (172, .putfield 68, 3), (175, .aload_n 0, 1), (176, .sipush 1860, 3), (179, .newarray .int, 2), (181, .putfield 71, 3), (184, .aload_n 0, 1), (185, .sipush 1860, 3), (188, .newarray .int, 2), (190, .putfield 74, 3), (193, .aload_n 0, 1), (194, .sipush 960, 3), (197, .newarray .int, 2), (199, .putfield 77, 3), (202, .aload_n 0, 1), (203, .bipush 16, 2), (205, .newarray .int, 2), (207, .putfield 80, 3), (210, .aload_n 0, 1), (211, .bipush 16, 2), (213, .newarray .int, 2), (215, .putfield 83, 3), (218, .aload_n 0, 1), (219, .bipush 16, 2), (221, .newarray .int, 2), (223, .putfield 86, 3), (226, .aload_n 0, 1), (227, .bipush 16, 2), (229, .newarray .int, 2), (231, .putfield 89, 3), (234, .aload_n 0, 1), (235, .bipush 16, 2), (237, .newarray .int, 2), (239, .putfield 92, 3), (242, .aload_n 0, 1), (243, .bipush 16, 2), (245, .newarray .boolean, 2), (247, .putfield 95, 3), (250, .aload_n 0, 1), (251, .sipush 496, 3), (254, .newarray .int, 2), (256, .putfield 98, 3), (259, .aload_n 0, 1), (260, .sipush 320, 3), (263, .newarray .int, 2), (265, .putfield 101, 3), (268, .aload_n 0, 1), (269, .bipush 60, 2), (271, .newarray .int, 2), (273, .putfield 104, 3), (276, .aload_n 0, 1), (277, .bipush 60, 2), (279, .newarray .int, 2), (281, .putfield 107, 3), (284, .aload_n 0, 1), (285, .bipush 60, 2), (287, .newarray .int, 2), (289, .putfield 110, 3), (292, .aload_n 0, 1), (293, .bipush 60, 2), (295, .newarray .int, 2), (297, .putfield 113, 3), (300, .aload_n 0, 1), (301, .bipush 60, 2), (303, .newarray .int, 2), (305, .putfield 116, 3), (308, .aload_n 0, 1), (309, .bipush 60, 2), (311, .newarray .boolean, 2), (313, .putfield 119, 3), (316, .aload_n 0, 1), (317, .bipush 20, 2), (319, .newarray .int, 2), (321, .putfield 122, 3), (324, .aload_n 0, 1), (325, .bipush 20, 2), (327, .newarray .int, 2), (329, .putfield 125, 3), (332, .aload_n 0, 1), (333, .bipush 20, 2), (335, .newarray .int, 2), (337, .putfield 128, 3), (340, .aload_n 0, 1), (341, .sipush 256, 3), (344, .newarray .int, 2), (346, .putfield 131, 3), (349, .aload_n 0, 1), (350, .bipush 32, 2), (352, .newarray .int, 2), (354, .putfield 134, 3), (357, .aload_n 0, 1), (358, .bipush 32, 2), (360, .newarray .int, 2), (362, .putfield 137, 3), (365, .aload_n 0, 1), (366, .bipush 16, 2), (368, .newarray .int, 2), (370, .putfield 140, 3), (373, .aload_n 0, 1), (374, .iconst 0, 1), (375, .iconst 0, 1), (376, .iconst 0, 1), (377, .invokevirtual 143, 3), (380, .pop, 1), (381, .iconst 0, 1), (382, .istore_n 1, 1), (383, .iload_n 1, 1), (384, .bipush 16, 2), (386, .if_icmp .ge 14, 3), (389, .aload_n 0, 1), (390, .iload_n 1, 1), (391, .invokevirtual 147, 3), (394, .iinc 1 1, 3), (397, .goto (-14), 3), (400, .iconst 0, 1), (401, .istore_n 1, 1), (402, .iload_n 1, 1), (403, .sipush 1860, 3), (406, .if_icmp .ge 16, 3), (409, .aload_n 0, 1), (410, .getfield 65, 3), (413, .iload_n 1, 1), (414, .iconst (-1), 1), (415, .iastore, 1), (416, .iinc 1 1, 3), (419, .goto (-17), 3), (422, .iconst 0, 1), (423, .istore_n 1, 1), (424, .iload_n 1, 1), (425, .sipush 960, 3), (428, .if_icmp .ge 16, 3), (431, .aload_n 0, 1), (432, .getfield 77, 3), (435, .iload_n 1, 1), (436, .iconst (-1), 1), (437, .iastore, 1), (438, .iinc 1 1, 3), (441, .goto (-17), 3), (444, .aload_n 0, 1), (445, .getfield 44, 3), (448, .iconst 0, 1), (449, .iconst (-1), 1), (450, .iastore, 1), (451, .aload_n 0, 1), (452, .getfield 77, 3), (455, .iconst 0, 1), (456, .iconst 0, 1), (457, .iastore, 1), (458, .aload_n 0, 1), (459, .getfield 65, 3), (462, .iconst 0, 1), (463, .aload_n 0, 1), (464, .iconst 1, 1), (465, .iconst 0, 1), (466, .iconst 0, 1), (467, .invokevirtual 143, 3), (470, .iastore, 1), (471, .aload_n 0, 1), (472, .getfield 41, 3), (475, .iconst 0, 1), (476, .aload_n 0, 1), (477, .iconst 1, 1), (478, .iconst 0, 1), (479, .iconst 0, 1), (480, .invokevirtual 143, 3), (483, .iastore, 1), (484, .aload_n 0, 1), (485, .iconst 1, 1), (486, .putfield 151, 3), (489, .aload_n 0, 1), (490, .getfield 80, 3), (493, .iconst 0, 1), (494, .iconst 0, 1), (495, .iastore, 1), (496, .aload_n 0, 1), (497, .getfield 83, 3), (500, .iconst 0, 1), (501, .iconst 0, 1), (502, .iastore, 1), (503, .aload_n 0, 1), (504, .getfield 86, 3), (507, .iconst 0, 1), (508, .aload_n 0, 1), (509, .getfield 65, 3), (512, .iconst 0, 1), (513, .iaload, 1), (514, .iastore, 1), (515, .aload_n 0, 1), (516, .getfield 95, 3), (519, .iconst 0, 1), (520, .iconst 1, 1), (521, .bastore, 1), (522, .return_, 1)]
theorem m_Mo_init : l_Mo_init.all (fun q => decide (decode b_Mo_init q.1 = .ok (q.2.1, q.2.2))) = true := by decide +kernel
def l_Mo_make : List (Nat × Instr × Nat) := [(0, .aload_n 0, 1), (1, .getfield 7, 3), (4, .aload_n 0, 1), (5, .getfield 158, 3), (8, .iload_n 1, 1), (9, .iastore, 1), (10, .aload_n 0, 1), (11, .getfield 13, 3), (14, .aload_n 0, 1), (15, .getfield 158, 3), (18, .iload_n 2, 1), (19, .iastore, 1), (20, .aload_n 0, 1), (21, .getfield 16, 3), (24, .aload_n 0, 1), (25, .getfield 158, 3), (28, .iload_n 3, 1), (29, .iastore, 1), (30, .aload_n 0, 1), (31, .dup, 1), (32, .getfield 158, 3), (35, .iconst 1, 1), (36, .iadd, 1), (37, .putfield 158, 3), (40, .aload_n 0, 1), (41, .getfield 158, 3), (44, .iconst 1, 1), (45, .isub, 1), (46, .ireturn, 1)]
theorem m_Mo_make : l_Mo_make.all (fun q => decide (decode b_Mo_make q.1 = .ok (q.2.1, q.2.2))) = true := by decide +kernel
def l_Mo_leave : List (Nat × Instr × Nat) := [(0, .aload_n 0, 1), (1, .getfield 80, 3), (4, .iload_n 1, 1), (5, .iconst (-1), 1), (6, .iastore, 1), (7, .aload_n 0, 1), (8, .getfield 83, 3), (11, .iload_n 1, 1), (12, .iconst (-1), 1), (13, .iastore, 1), (14, .aload_n 0, 1), (15, .getfield 86, 3), (18, .iload_n 1, 1), (19, .iconst (-1), 1), (20, .iastore, 1), (21, .aload_n 0, 1), (22, .getfield 95, 3), (25, .iload_n 1, 1), (26, .iconst 0, 1), (27, .bastore, 1), (28, .aload_n 0, 1), (29, .getfield 92, 3), (32, .iload_n 1, 1), (33, .iconst 0, 1), (34, .iastore, 1), (35, .iconst 0, 1), (36, .istore_n 2, 1), (37, .iload_n 2, 1), (38, .bipush 31, 2), (40, .if_icmp .ge 21, 3), (43, .aload_n 0, 1), (44, .getfield 98, 3), (47, .bipush 31, 2), (49, .iload_n 1, 1), (50, .imul, 1), (51, .iload_n 2, 1), (52, .iadd, 1), (53, .iconst (-1), 1), (54, .iastore, 1), (55, .iinc 2 1, 3), (58, .goto (-21), 3), (61, .return_, 1)]
theorem m_Mo_leave : l_Mo_leave.all (fun q => decide (decode b_Mo_leave q.1 = .ok (q.2.1, q.2.2))) = true := by decide +kernel
def l_Mo_thrown : List (Nat × Instr × Nat) := [(0, .aload_n 0, 1), (1, .getfield 155, 3), (4, .ireturn, 1)]
theorem m_Mo_thrown : l_Mo_thrown.all (fun q => decide (decode b_Mo_thrown q.1 = .ok (q.2.1, q.2.2))) = true := by decide +kernel
def l_Mo_offer : List (Nat × Instr × Nat) := [(0, .aload_n 0, 1), (1, .iload_n 1, 1), (2, .bipush 16, 2), (4, .invokestatic 264, 3), (7, .ifCond .ne 7, 3), (10, .iconst 1, 1), (11, .goto 17, 3), (14, .aload_n 0, 1), (15, .getfield 189, 3), (18, .bipush 60, 2), (20, .if_icmp .ne 7, 3), (23, .iconst 2, 1), (24, .goto 4, 3), (27, .iconst 0, 1), (28, .putfield 155, 3), (31, .aload_n 0, 1), (32, .getfield 155, 3), (35, .ifCond .le 5, 3), (38, .iconst 0, 1), (39, .ireturn, 1), (40, .aload_n 0, 1), (41, .getfield 104, 3), (44, .aload_n 0, 1), (45, .getfield 189, 3), (48, .iload_n 1, 1), (49, .iastore, 1), (50, .aload_n 0, 1), (51, .getfield 107, 3), (54, .aload_n 0, 1), (55, .getfield 189, 3), (58, .aload_n 0, 1), (59, .iconst 1, 1), (60, .iconst 0, 1), (61, .iconst 0, 1), (62, .invokevirtual 143, 3), (65, .iastore, 1), (66, .aload_n 0, 1), (67, .getfield 110, 3), (70, .aload_n 0, 1), (71, .getfield 189, 3), (74, .aload_n 0, 1), (75, .iconst 1, 1), (76, .iconst 0, 1), (77, .iconst 0, 1), (78, .invokevirtual 143, 3), (81, .iastore, 1), (82, .aload_n 0, 1), (83, .getfield 113, 3), (86, .aload_n 0, 1), (87, .getfield 189, 3), (90, .iconst (-1), 1), (91, .iastore, 1), (92, .aload_n 0, 1), (93, .dup, 1), (94, .getfield 189, 3), (97, .iconst 1, 1), (98, .iadd, 1), (99, .putfield 189, 3), (102, .aload_n 0, 1), (103, .getfield 189, 3), (106, .iconst 1, 1), (107, .isub, 1), (108, .ireturn, 1)]
theorem m_Mo_offer : l_Mo_offer.all (fun q => decide (decode b_Mo_offer q.1 = .ok (q.2.1, q.2.2))) = true := by decide +kernel
def l_Mo_in : List (Nat × Instr × Nat) := [(0, .iload_n 0, 1), (1, .ifCond .lt 12, 3), (4, .iload_n 0, 1), (5, .iload_n 1, 1), (6, .if_icmp .ge 7, 3), (9, .iconst 1, 1), (10, .goto 4, 3), (13, .iconst 0, 1), (14, .ireturn, 1)]
theorem m_Mo_in : l_Mo_in.all (fun q => decide (decode b_Mo_in q.1 = .ok (q.2.1, q.2.2))) = true := by decide +kernel
def l_Mo_add : List (Nat × Instr × Nat) := [(0, .aload_n 0, 1), (1, .iload_n 1, 1), (2, .iload_n 2, 1), (3, .aload_n 0, 1), (4, .getfield 189, 3), (7, .invokestatic 264, 3), (10, .invokevirtual 270, 3), (13, .ifCond .eq 13, 3), (16, .aload_n 0, 1), (17, .iconst 0, 1), (18, .iload_n 1, 1), (19, .iload_n 2, 1), (20, .invokevirtual 274, 3), (23, .goto 4, 3), (26, .iconst 0, 1), (27, .ireturn, 1)]
theorem m_Mo_add : l_Mo_add.all (fun q => decide (decode b_Mo_add q.1 = .ok (q.2.1, q.2.2))) = true := by decide +kernel
def l_Mo_isAsked : List (Nat × Instr × Nat) := [(0, .aload_n 0, 1), (1, .iload_n 1, 1), (2, .bipush 16, 2), (4, .invokestatic 264, 3), (7, .ifCond .eq 7, 3), (10, .iload_n 2, 1), (11, .ifCond .ne 7, 3), (14, .iconst 1, 1), (15, .goto 25, 3), (18, .aload_n 0, 1), (19, .iload_n 1, 1), (20, .invokevirtual 267, 3), (23, .ifCond .eq 12, 3), (26, .aload_n 0, 1), (27, .getfield 195, 3), (30, .bipush 20, 2), (32, .if_icmp .ne 7, 3), (35, .iconst 2, 1), (36, .goto 4, 3), (39, .iconst 0, 1), (40, .putfield 155, 3), (43, .aload_n 0, 1), (44, .getfield 155, 3), (47, .ifCond .ne 7, 3), (50, .iconst 1, 1), (51, .goto 4, 3), (54, .iconst 0, 1), (55, .ireturn, 1)]
theorem m_Mo_isAsked : l_Mo_isAsked.all (fun q => decide (decode b_Mo_isAsked q.1 = .ok (q.2.1, q.2.2))) = true := by decide +kernel
def l_Mo_isLatest : List (Nat × Instr × Nat) := [(0, .aload_n 0, 1), (1, .getfield 80, 3), (4, .iload_n 1, 1), (5, .iaload, 1), (6, .aload_n 0, 1), (7, .getfield 151, 3), (10, .iconst 1, 1), (11, .isub, 1), (12, .if_icmp .ne 7, 3), (15, .iconst 1, 1), (16, .goto 4, 3), (19, .iconst 0, 1), (20, .ireturn, 1)]
theorem m_Mo_isLatest : l_Mo_isLatest.all (fun q => decide (decode b_Mo_isLatest q.1 = .ok (q.2.1, q.2.2))) = true := by decide +kernel
def l_Mo_propose : List (Nat × Instr × Nat) := [(0, .aload_n 0, 1), (1, .getfield 122, 3), (4, .aload_n 0, 1), (5, .getfield 195, 3), (8, .iload_n 1, 1), (9, .iastore, 1), (10, .aload_n 0, 1), (11, .getfield 125, 3), (14, .aload_n 0, 1), (15, .getfield 195, 3), (18, .iload_n 2, 1), (19, .iastore, 1), (20, .aload_n 0, 1), (21, .getfield 128, 3), (24, .aload_n 0, 1), (25, .getfield 195, 3), (28, .iload_n 3, 1), (29, .iastore, 1), (30, .aload_n 0, 1), (31, .dup, 1), (32, .getfield 195, 3), (35, .iconst 1, 1), (36, .iadd, 1), (37, .putfield 195, 3), (40, .aload_n 0, 1), (41, .getfield 195, 3), (44, .ireturn, 1)]
theorem m_Mo_propose : l_Mo_propose.all (fun q => decide (decode b_Mo_propose q.1 = .ok (q.2.1, q.2.2))) = true := by decide +kernel
def l_Mo_remove : List (Nat × Instr × Nat) := [(0, .aload_n 0, 1), (1, .iload_n 1, 1), (2, .iload_n 2, 1), (3, .bipush 16, 2), (5, .invokestatic 264, 3), (8, .invokevirtual 270, 3), (11, .ifCond .eq 13, 3), (14, .aload_n 0, 1), (15, .iconst 1, 1), (16, .iload_n 1, 1), (17, .iload_n 2, 1), (18, .invokevirtual 274, 3), (21, .goto 4, 3), (24, .iconst 0, 1), (25, .ireturn, 1)]
theorem m_Mo_remove : l_Mo_remove.all (fun q => decide (decode b_Mo_remove q.1 = .ok (q.2.1, q.2.2))) = true := by decide +kernel
def l_Mo_update : List (Nat × Instr × Nat) := [(0, .aload_n 0, 1), (1, .iload_n 1, 1), (2, .iconst 1, 1), (3, .invokevirtual 270, 3), (6, .ifCond .ne 5, 3), (9, .iconst 0, 1), (10, .ireturn, 1), (11, .aload_n 0, 1), (12, .iconst 1, 1), (13, .iconst 0, 1), (14, .iconst 0, 1), (15, .invokevirtual 143, 3), (18, .istore_n 2, 1), (19, .aload_n 0, 1), (20, .getfield 101, 3), (23, .bipush 20, 2), (25, .iload_n 1, 1), (26, .imul, 1), (27, .aload_n 0, 1), (28, .getfield 92, 3), (31, .iload_n 1, 1), (32, .iaload, 1), (33, .iadd, 1), (34, .iload_n 2, 1), (35, .iastore, 1), (36, .aload_n 0, 1), (37, .getfield 92, 3), (40, .iload_n 1, 1), (41, .dup2, 1), (42, .iaload, 1), (43, .iconst 1, 1), (44, .iadd, 1), (45, .iastore, 1), (46, .aload_n 0, 1), (47, .iconst 2, 1), (48, .iload_n 1, 1), (49, .iload_n 2, 1), (50, .invokevirtual 274, 3), (53, .ireturn, 1)]
theorem m_Mo_update : l_Mo_update.all (fun q => decide (decode b_Mo_update q.1 = .ok (q.2.1, q.2.2))) = true := by decide +kernel
def l_Mo_commit : List (Nat × Instr × Nat) := [(0, .aload_n 0, 1), (1, .iload_n 1, 1), (2, .bipush 16, 2), (4, .invokestatic 264, 3), (7, .ifCond .ne 7, 3), (10, .iconst 1, 1), (11, .goto 25, 3), (14, .aload_n 0, 1), (15, .iload_n 1, 1), (16, .invokevirtual 267, 3), (19, .ifCond .eq 12, 3), (22, .aload_n 0, 1), (23, .getfield 151, 3), (26, .bipush 60, 2), (28, .if_icmp .ne 7, 3), (31, .iconst 2, 1), (32, .goto 4, 3), (35, .iconst 0, 1), (36, .putfield 155, 3), (39, .aload_n 0, 1), (40, .getfield 155, 3), (43, .ifCond .le 5, 3), (46, .iconst 0, 1), (47, .ireturn, 1), (48, .aload_n 0, 1), (49, .iload_n 1, 1), (50, .iload_n 2, 1), (51, .invokevirtual 277, 3), (54, .aload_n 0, 1), (55, .getfield 151, 3), (58, .iconst 1, 1), (59, .isub, 1), (60, .ireturn, 1)]
theorem m_Mo_commit : l_Mo_commit.all (fun q => decide (decode b_Mo_commit q.1 = .ok (q.2.1, q.2.2))) = true := by decide +kernel
def l_Mo_change : List (Nat × Instr × Nat) := [(0, .aload_n 0, 1), (1, .getfield 151, 3), (4, .istore_n 3, 1), (5, .aload_n 0, 1), (6, .getfield 83, 3), (9, .iload_n 1, 1), (10, .iaload, 1), (11, .istore 4, 2), (13, .aload_n 0, 1), (14, .iload_n 3, 1), (15, .iconst 1, 1), (16, .isub, 1), (17, .iload_n 3, 1), (18, .invokevirtual 236, 3), (21, .aload_n 0, 1), (22, .getfield 44, 3), (25, .iload_n 3, 1), (26, .iload 4, 2), (28, .iastore, 1), (29, .aload_n 0, 1), (30, .iload_n 3, 1), (31, .iload 4, 2), (33, .invokevirtual 239, 3), (36, .aload_n 0, 1), (37, .iload_n 3, 1), (38, .iload 4, 2), (40, .invokevirtual 242, 3), (43, .aload_n 0, 1), (44, .iload_n 3, 1), (45, .invokevirtual 245, 3), (48, .aload_n 0, 1), (49, .iload_n 3, 1), (50, .invokevirtual 248, 3), (53, .aload_n 0, 1), (54, .iload_n 3, 1), (55, .invokevirtual 251, 3), (58, .aload_n 0, 1), (59, .getfield 62, 3), (62, .iload_n 3, 1), (63, .iload_n 2, 1), (64, .ifCond .ne 30, 3), (67, .aload_n 0, 1), (68, .getfield 50, 3), (71, .iload_n 3, 1), (72, .iaload, 1), (73, .ifCond .ne 21, 3), (76, .aload_n 0, 1), (77, .getfield 53, 3), (80, .iload_n 3, 1), (81, .iaload, 1), (82, .ifCond .ne 12, 3), (85, .aload_n 0, 1), (86, .getfield 56, 3), (89, .iload_n 3, 1), (90, .iaload, 1), (91, .ifCond .ne 7, 3), (94, .iconst 1, 1), (95, .goto 4, 3), (98, .iconst 0, 1), (99, .bastore, 1), (100, .aload_n 0, 1), (101, .getfield 62, 3), (104, .iload_n 3, 1), (105, .baload, 1), (106, .ifCond .eq 13, 3), (109, .aload_n 0, 1), (110, .iload_n 3, 1), (111, .iload 4, 2), (113, .invokevirtual 254, 3), (116, .goto 4, 3), (119, .iconst 0, 1), (120, .istore 5, 2), (122, .aload_n 0, 1), (123, .iconst 4, 1), (124, .aload_n 0, 1), (125, .bipush 6, 2), (127, .aload_n 0, 1), (128, .getfield 41, 3), (131, .iload_n 3, 1), (132, .iconst 1, 1), (133, .isub, 1), (134, .iaload, 1), (135, .iconst 0, 1), (136, .invokevirtual 221, 3), (139, .iload 5, 2), (141, .invokevirtual 221, 3), (144, .istore 6, 2), (146, .aload_n 0, 1), (147, .getfield 41, 3), (150, .iload_n 3, 1), (151, .aload_n 0, 1), (152, .iconst 5, 1), (153, .iload 6, 2), (155, .iconst 0, 1), (156, .invokevirtual 221, 3), (159, .iastore, 1), (160, .aload_n 0, 1), (161, .iload_n 3, 1), (162, .iload 6, 2), (164, .invokevirtual 257, 3), (167, .aload_n 0, 1), (168, .dup, 1), (169, .getfield 151, 3), (172, .iconst 1, 1), (173, .iadd, 1), (174, .putfield 151, 3), (177, .iconst 0, 1), (178, .istore 7, 2), (180, .iload 7, 2), (182, .bipush 16, 2), (184, .if_icmp .ge 48, 3), (187, .aload_n 0, 1), (188, .getfield 80, 3), (191, .iload 7, 2), (193, .iaload, 1), (194, .iload_n 3, 1), (195, .iconst 1, 1), (196, .isub, 1), (197, .if_icmp .ne 29, 3), (200, .aload_n 0, 1), (201, .getfield 50, 3), (204, .iload_n 3, 1), (205, .iaload, 1), (206, .aload_n 0, 1), (207, .getfield 83, 3), (210, .iload 7, 2), (212, .iaload, 1), (213, .ishr, 1), (214, .iconst 1, 1), (215, .iand, 1), (216, .iconst 1, 1), (217, .if_icmp .ne 9, 3), (220, .aload_n 0, 1), (221, .iload 7, 2), (223, .invokevirtual 147, 3), (226, .iinc 7 1, 3), (229, .goto (-49), 3), (232, .aload_n 0, 1), (233, .iload_n 1, 1), (234, .iload_n 3, 1), (235, .aload_n 0, 1), (236, .getfield 62, 3), (239, .iload_n 3, 1), (240, .baload, 1), (241, .invokevirtual 260, 3), (244, .aload_n 0, 1), (245, .iconst 0, 1), (246, .putfield 195, 3), (249, .return_, 1)]
theorem m_Mo_change : l_Mo_change.all (fun q => decide (decode b_Mo_change q.1 = .ok (q.2.1, q.2.2))) = true := by decide +kernel
def l_Mo_copyTree : List (Nat × Instr × Nat) := [(0, .aload_n 0, 1), (1, .getfield 38, 3), (4, .iload_n 2, 1), (5, .aload_n 0, 1), (6, .getfield 38, 3), (9, .iload_n 1, 1), (10, .iaload, 1), (11, .iastore, 1), (12, .iconst 0, 1), (13, .istore_n 3, 1), (14, .iload_n 3, 1), (15, .bipush 31, 2), (17, .if_icmp .ge 113, 3), (20, .aload_n 0, 1), (21, .getfield 65, 3), (24, .bipush 31, 2), (26, .iload_n 2, 1), (27, .imul, 1), (28, .iload_n 3, 1), (29, .iadd, 1), (30, .iload_n 3, 1), (31, .aload_n 0, 1), (32, .iload_n 1, 1), (33, .invokevirtual 192, 3), (36, .if_icmp .ge 17, 3), (39, .aload_n 0, 1), (40, .getfield 65, 3), (43, .bipush 31, 2), (45, .iload_n 1, 1), (46, .imul, 1), (47, .iload_n 3, 1), (48, .iadd, 1), (49, .iaload, 1), (50, .goto 4, 3), (53, .iconst (-1), 1), (54, .iastore, 1), (55, .aload_n 0, 1), (56, .getfield 68, 3), (59, .bipush 31, 2), (61, .iload_n 2, 1), (62, .imul, 1), (63, .iload_n 3, 1), (64, .iadd, 1), (65, .iload_n 3, 1), (66, .aload_n 0, 1), (67, .iload_n 1, 1), (68, .invokevirtual 192, 3), (71, .if_icmp .ge 17, 3), (74, .aload_n 0, 1), (75, .getfield 68, 3), (78, .bipush 31, 2), (80, .iload_n 1, 1), (81, .imul, 1), (82, .iload_n 3, 1), (83, .iadd, 1), (84, .iaload, 1), (85, .goto 4, 3), (88, .iconst 0, 1), (89, .iastore, 1), (90, .aload_n 0, 1), (91, .getfield 71, 3), (94, .bipush 31, 2), (96, .iload_n 2, 1), (97, .imul, 1), (98, .iload_n 3, 1), (99, .iadd, 1), (100, .aload_n 0, 1), (101, .getfield 71, 3), (104, .bipush 31, 2), (106, .iload_n 1, 1), (107, .imul, 1), (108, .iload_n 3, 1), (109, .iadd, 1), (110, .iaload, 1), (111, .iastore, 1), (112, .aload_n 0, 1), (113, .getfield 74, 3), (116, .bipush 31, 2), (118, .iload_n 2, 1), (119, .imul, 1), (120, .iload_n 3, 1), (121, .iadd, 1), (122, .iconst (-1), 1), (123, .iastore, 1), (124, .iinc 3 1, 3), (127, .goto (-113), 3), (130, .iconst 0, 1), (131, .istore_n 3, 1), (132, .iload_n 3, 1), (133, .bipush 16, 2), (135, .if_icmp .ge 31, 3), (138, .aload_n 0, 1), (139, .getfield 77, 3), (142, .bipush 16, 2), (144, .iload_n 2, 1), (145, .imul, 1), (146, .iload_n 3, 1), (147, .iadd, 1), (148, .aload_n 0, 1), (149, .getfield 77, 3), (152, .bipush 16, 2), (154, .iload_n 1, 1), (155, .imul, 1), (156, .iload_n 3, 1), (157, .iadd, 1), (158, .iaload, 1), (159, .iastore, 1), (160, .iinc 3 1, 3), (163, .goto (-31), 3), (166, .return_, 1)]
theorem m_Mo_copyTree : l_Mo_copyTree.all (fun q => decide (decode b_Mo_copyTree q.1 = .ok (q.2.1, q.2.2))) = true := by decide +kernel
def l_Mo_width : List (Nat × Instr × Nat) := [(0, .iconst 2, 1), (1, .aload_n 0, 1), (2, .getfield 38, 3), (5, .iload_n 1, 1), (6, .iaload, 1), (7, .ishl, 1), (8, .iconst 1, 1), (9, .isub, 1), (10, .ireturn, 1)]
theorem m_Mo_width : l_Mo_width.all (fun q => decide (decode b_Mo_width q.1 = .ok (q.2.1, q.2.2))) = true := by decide +kernel
def l_Mo_findRemoves : List (Nat × Instr × Nat) := [(0, .iconst 0, 1), (1, .istore_n 3, 1), (2, .iload_n 3, 1), (3, .aload_n 0, 1), (4, .getfield 195, 3), (7, .if_icmp .ge 81, 3), (10, .aload_n 0, 1), (11, .getfield 128, 3), (14, .iload_n 3, 1), (15, .iaload, 1), (16, .istore 4, 2), (18, .aload_n 0, 1), (19, .getfield 122, 3), (22, .iload_n 3, 1), (23, .iaload, 1), (24, .iconst 1, 1), (25, .if_icmp .ne 57, 3), (28, .iload 4, 2), (30, .iconst 1, 1), (31, .aload_n 0, 1), (32, .getfield 38, 3), (35, .iload_n 1, 1), (36, .iconst 1, 1), (37, .isub, 1), (38, .iaload, 1), (39, .ishl, 1), (40, .if_icmp .ge 42, 3), (43, .aload_n 0, 1), (44, .getfield 65, 3), (47, .bipush 31, 2), (49, .iload_n 1, 1), (50, .iconst 1, 1), (51, .isub, 1), (52, .imul, 1), (53, .iconst 2, 1), (54, .iload 4, 2), (56, .imul, 1), (57, .iadd, 1), (58, .iaload, 1), (59, .iconst (-1), 1), (60, .if_icmp .eq 22, 3), (63, .iload 4, 2), (65, .iload_n 2, 1), (66, .if_icmp .eq 16, 3), (69, .aload_n 0, 1), (70, .getfield 50, 3), (73, .iload_n 1, 1), (74, .dup2, 1), (75, .iaload, 1), (76, .iconst 1, 1), (77, .iload 4, 2), (79, .ishl, 1), (80, .ior, 1), (81, .iastore, 1), (82, .iinc 3 1, 3), (85, .goto (-83), 3), (88, .return_, 1)]
theorem m_Mo_findRemoves : l_Mo_findRemoves.all (fun q => decide (decode b_Mo_findRemoves q.1 = .ok (q.2.1, q.2.2))) = true := by decide +kernel
def l_Mo_findUpdates : List (Nat × Instr × Nat) := [(0, .iconst 0, 1), (1, .istore_n 3, 1), (2, .iload_n 3, 1), (3, .aload_n 0, 1), (4, .getfield 195, 3), (7, .if_icmp .ge 82, 3), (10, .aload_n 0, 1), (11, .getfield 83, 3), (14, .aload_n 0, 1), (15, .getfield 125, 3), (18, .iload_n 3, 1), (19, .iaload, 1), (20, .iaload, 1), (21, .istore 4, 2), (23, .aload_n 0, 1), (24, .getfield 122, 3), (27, .iload_n 3, 1), (28, .iaload, 1), (29, .iconst 2, 1), (30, .if_icmp .ne 53, 3), (33, .iload 4, 2), (35, .iload_n 2, 1), (36, .if_icmp .eq 47, 3), (39, .aload_n 0, 1), (40, .getfield 50, 3), (43, .iload_n 1, 1), (44, .iaload, 1), (45, .iload 4, 2), (47, .ishr, 1), (48, .iconst 1, 1), (49, .iand, 1), (50, .iconst 1, 1), (51, .if_icmp .ne 6, 3), (54, .goto 29, 3), (57, .aload_n 0, 1), (58, .getfield 53, 3), (61, .iload_n 1, 1), (62, .dup2, 1), (63, .iaload, 1), (64, .iconst 1, 1), (65, .iload 4, 2), (67, .ishl, 1), (68, .ior, 1), (69, .iastore, 1), (70, .aload_n 0, 1), (71, .getfield 140, 3), (74, .iload 4, 2), (76, .aload_n 0, 1), (77, .getfield 128, 3), (80, .iload_n 3, 1), (81, .iaload, 1), (82, .iastore, 1), (83, .iinc 3 1, 3), (86, .goto (-84), 3), (89, .return_, 1)]
theorem m_Mo_findUpdates : l_Mo_findUpdates.all (fun q => decide (decode b_Mo_findUpdates q.1 = .ok (q.2.1, q.2.2))) = true := by decide +kernel
def l_Mo_doRemoves : List (Nat × Instr × Nat) := [(0, .iconst 0, 1), (1, .istore_n 2, 1), (2, .iload_n 2, 1), (3, .bipush 16, 2), (5, .if_icmp .ge 51, 3), (8, .aload_n 0, 1), (9, .getfield 50, 3), (12, .iload_n 1, 1), (13, .iaload, 1), (14, .iload_n 2, 1), (15, .ishr, 1), (16, .iconst 1, 1), (17, .iand, 1), (18, .ifCond .ne 6, 3), (21, .goto 29, 3), (24, .aload_n 0, 1), (25, .iload_n 1, 1), (26, .iconst 2, 1), (27, .iload_n 2, 1), (28, .imul, 1), (29, .invokevirtual 172, 3), (32, .aload_n 0, 1), (33, .iload_n 1, 1), (34, .iload_n 2, 1), (35, .invokevirtual 198, 3), (38, .aload_n 0, 1), (39, .getfield 77, 3), (42, .bipush 16, 2), (44, .iload_n 1, 1), (45, .imul, 1), (46, .iload_n 2, 1), (47, .iadd, 1), (48, .iconst (-1), 1), (49, .iastore, 1), (50, .iinc 2 1, 3), (53, .goto (-51), 3), (56, .aload_n 0, 1), (57, .getfield 38, 3), (60, .iload_n 1, 1), (61, .iaload, 1), (62, .ifCond .le 48, 3), (65, .aload_n 0, 1), (66, .iload_n 1, 1), (67, .invokevirtual 201, 3), (70, .ifCond .eq 40, 3), (73, .aload_n 0, 1), (74, .getfield 38, 3), (77, .iload_n 1, 1), (78, .dup2, 1), (79, .iaload, 1), (80, .iconst 1, 1), (81, .isub, 1), (82, .iastore, 1), (83, .aload_n 0, 1), (84, .iload_n 1, 1), (85, .invokevirtual 192, 3), (88, .istore_n 2, 1), (89, .iload_n 2, 1), (90, .bipush 31, 2), (92, .if_icmp .ge 15, 3), (95, .aload_n 0, 1), (96, .iload_n 1, 1), (97, .iload_n 2, 1), (98, .invokevirtual 172, 3), (101, .iinc 2 1, 3), (104, .goto (-15), 3), (107, .goto (-51), 3), (110, .return_, 1)]
theorem m_Mo_doRemoves : l_Mo_doRemoves.all (fun q => decide (decode b_Mo_doRemoves q.1 = .ok (q.2.1, q.2.2))) = true := by decide +kernel
def l_Mo_blank : List (Nat × Instr × Nat) := [(0, .aload_n 0, 1), (1, .getfield 65, 3), (4, .bipush 31, 2), (6, .iload_n 1, 1), (7, .imul, 1), (8, .iload_n 2, 1), (9, .iadd, 1), (10, .iconst (-1), 1), (11, .iastore, 1), (12, .aload_n 0, 1), (13, .getfield 68, 3), (16, .bipush 31, 2), (18, .iload_n 1, 1), (19, .imul, 1), (20, .iload_n 2, 1), (21, .iadd, 1), (22, .iconst 0, 1), (23, .iastore, 1), (24, .return_, 1)]
theorem m_Mo_blank : l_Mo_blank.all (fun q => decide (decode b_Mo_blank q.1 = .ok (q.2.1, q.2.2))) = true := by decide +kernel
def l_Mo_blankPath : List (Nat × Instr × Nat) := [(0, .iconst 1, 1), (1, .istore_n 3, 1), (2, .iload_n 3, 1), (3, .aload_n 0, 1), (4, .getfield 38, 3), (7, .iload_n 1, 1), (8, .iaload, 1), (9, .if_icmp .gt 19, 3), (12, .aload_n 0, 1), (13, .iload_n 1, 1), (14, .iload_n 2, 1), (15, .iload_n 3, 1), (16, .invokestatic 168, 3), (19, .invokevirtual 172, 3), (22, .iinc 3 1, 3), (25, .goto (-23), 3), (28, .return_, 1)]
theorem m_Mo_blankPath : l_Mo_blankPath.all (fun q => decide (decode b_Mo_blankPath q.1 = .ok (q.2.1, q.2.2))) = true := by decide +kernel
def l_Mo_above : List (Nat × Instr × Nat) := [(0, .iload_n 0, 1), (1, .iload_n 1, 1), (2, .ishr, 1), (3, .iload_n 1, 1), (4, .iconst 1, 1), (5, .iadd, 1), (6, .ishl, 1), (7, .iconst 1, 1), (8, .iload_n 1, 1), (9, .ishl, 1), (10, .iadd, 1), (11, .iconst 1, 1), (12, .isub, 1), (13, .ireturn, 1)]
theorem m_Mo_above : l_Mo_above.all (fun q => decide (decode b_Mo_above q.1 = .ok (q.2.1, q.2.2))) = true := by decide +kernel
def l_Mo_isRightBlank : List (Nat × Instr × Nat) := [(0, .iconst 1, 1), (1, .aload_n 0, 1), (2, .getfield 38, 3), (5, .iload_n 1, 1), (6, .iaload, 1), (7, .iconst 1, 1), (8, .isub, 1), (9, .ishl, 1), (10, .istore_n 2, 1), (11, .iload_n 2, 1), (12, .istore_n 3, 1), (13, .iload_n 3, 1), (14, .iconst 2, 1), (15, .iload_n 2, 1), (16, .imul, 1), (17, .if_icmp .ge 28, 3), (20, .aload_n 0, 1), (21, .getfield 65, 3), (24, .bipush 31, 2), (26, .iload_n 1, 1), (27, .imul, 1), (28, .iconst 2, 1), (29, .iload_n 3, 1), (30, .imul, 1), (31, .iadd, 1), (32, .iaload, 1), (33, .iconst (-1), 1), (34, .if_icmp .eq 5, 3), (37, .iconst 0, 1), (38, .ireturn, 1), (39, .iinc 3 1, 3), (42, .goto (-29), 3), (45, .iconst 1, 1), (46, .ireturn, 1)]
theorem m_Mo_isRightBlank : l_Mo_isRightBlank.all (fun q => decide (decode b_Mo_isRightBlank q.1 = .ok (q.2.1, q.2.2))) = true := by decide +kernel
def l_Mo_doUpdates : List (Nat × Instr × Nat) := [(0, .iconst 0, 1), (1, .istore_n 2, 1), (2, .iload_n 2, 1), (3, .bipush 16, 2), (5, .if_icmp .ge 45, 3), (8, .aload_n 0, 1), (9, .getfield 53, 3), (12, .iload_n 1, 1), (13, .iaload, 1), (14, .iload_n 2, 1), (15, .ishr, 1), (16, .iconst 1, 1), (17, .iand, 1), (18, .ifCond .ne 6, 3), (21, .goto 23, 3), (24, .aload_n 0, 1), (25, .iload_n 1, 1), (26, .iconst 2, 1), (27, .iload_n 2, 1), (28, .imul, 1), (29, .aload_n 0, 1), (30, .getfield 140, 3), (33, .iload_n 2, 1), (34, .iaload, 1), (35, .invokevirtual 204, 3), (38, .aload_n 0, 1), (39, .iload_n 1, 1), (40, .iload_n 2, 1), (41, .invokevirtual 198, 3), (44, .iinc 2 1, 3), (47, .goto (-45), 3), (50, .return_, 1)]
theorem m_Mo_doUpdates : l_Mo_doUpdates.all (fun q => decide (decode b_Mo_doUpdates q.1 = .ok (q.2.1, q.2.2))) = true := by decide +kernel
def l_Mo_set : List (Nat × Instr × Nat) := [(0, .aload_n 0, 1), (1, .getfield 65, 3), (4, .bipush 31, 2), (6, .iload_n 1, 1), (7, .imul, 1), (8, .iload_n 2, 1), (9, .iadd, 1), (10, .iload_n 3, 1), (11, .iastore, 1), (12, .aload_n 0, 1), (13, .getfield 68, 3), (16, .bipush 31, 2), (18, .iload_n 1, 1), (19, .imul, 1), (20, .iload_n 2, 1), (21, .iadd, 1), (22, .iconst 0, 1), (23, .iastore, 1), (24, .aload_n 0, 1), (25, .getfield 71, 3), (28, .bipush 31, 2), (30, .iload_n 1, 1), (31, .imul, 1), (32, .iload_n 2, 1), (33, .iadd, 1), (34, .iload_n 1, 1), (35, .iastore, 1), (36, .return_, 1)]
theorem m_Mo_set : l_Mo_set.all (fun q => decide (decode b_Mo_set q.1 = .ok (q.2.1, q.2.2))) = true := by decide +kernel
def l_Mo_doAdds : List (Nat × Instr × Nat) := [(0, .iconst 0, 1), (1, .istore_n 2, 1), (2, .iload_n 2, 1), (3, .aload_n 0, 1), (4, .getfield 195, 3), (7, .if_icmp .ge 203, 3), (10, .aload_n 0, 1), (11, .getfield 128, 3), (14, .iload_n 2, 1), (15, .iaload, 1), (16, .istore_n 3, 1), (17, .aload_n 0, 1), (18, .getfield 122, 3), (21, .iload_n 2, 1), (22, .iaload, 1), (23, .ifCond .ne 181, 3), (26, .aload_n 0, 1), (27, .iload_n 1, 1), (28, .iload_n 3, 1), (29, .invokevirtual 211, 3), (32, .ifCond .eq 172, 3), (35, .aload_n 0, 1), (36, .iload_n 1, 1), (37, .invokevirtual 215, 3), (40, .bipush 16, 2), (42, .if_icmp .ne 6, 3), (45, .goto 159, 3), (48, .aload_n 0, 1), (49, .iload_n 1, 1), (50, .invokevirtual 215, 3), (53, .istore 4, 2), (55, .iload 4, 2), (57, .iconst 1, 1), (58, .aload_n 0, 1), (59, .getfield 38, 3), (62, .iload_n 1, 1), (63, .iaload, 1), (64, .ishl, 1), (65, .if_icmp .ne 13, 3), (68, .aload_n 0, 1), (69, .getfield 38, 3), (72, .iload_n 1, 1), (73, .dup2, 1), (74, .iaload, 1), (75, .iconst 1, 1), (76, .iadd, 1), (77, .iastore, 1), (78, .aload_n 0, 1), (79, .iload_n 1, 1), (80, .iconst 2, 1), (81, .iload 4, 2), (83, .imul, 1), (84, .aload_n 0, 1), (85, .getfield 110, 3), (88, .iload_n 3, 1), (89, .iaload, 1), (90, .invokevirtual 204, 3), (93, .iconst 1, 1), (94, .istore 5, 2), (96, .iload 5, 2), (98, .aload_n 0, 1), (99, .getfield 38, 3), (102, .iload_n 1, 1), (103, .iaload, 1), (104, .if_icmp .gt 54, 3), (107, .aload_n 0, 1), (108, .getfield 65, 3), (111, .bipush 31, 2), (113, .iload_n 1, 1), (114, .imul, 1), (115, .iload 4, 2), (117, .iload 5, 2), (119, .invokestatic 168, 3), (122, .iadd, 1), (123, .iaload, 1), (124, .iconst (-1), 1), (125, .if_icmp .eq 27, 3), (128, .aload_n 0, 1), (129, .getfield 68, 3), (132, .bipush 31, 2), (134, .iload_n 1, 1), (135, .imul, 1), (136, .iload 4, 2), (138, .iload 5, 2), (140, .invokestatic 168, 3), (143, .iadd, 1), (144, .dup2, 1), (145, .iaload, 1), (146, .iconst 1, 1), (147, .iload 4, 2), (149, .ishl, 1), (150, .ior, 1), (151, .iastore, 1), (152, .iinc 5 1, 3), (155, .goto (-59), 3), (158, .aload_n 0, 1), (159, .getfield 77, 3), (162, .bipush 16, 2), (164, .iload_n 1, 1), (165, .imul, 1), (166, .iload 4, 2), (168, .iadd, 1), (169, .aload_n 0, 1), (170, .getfield 104, 3), (173, .iload_n 3, 1), (174, .iaload, 1), (175, .iastore, 1), (176, .aload_n 0, 1), (177, .getfield 56, 3), (180, .iload_n 1, 1), (181, .dup2, 1), (182, .iaload, 1), (183, .iconst 1, 1), (184, .iload 4, 2), (186, .ishl, 1), (187, .ior, 1), (188, .iastore, 1), (189, .aload_n 0, 1), (190, .getfield 113, 3), (193, .iload_n 3, 1), (194, .iload_n 1, 1), (195, .iastore, 1), (196, .aload_n 0, 1), (197, .getfield 116, 3), (200, .iload_n 3, 1), (201, .iload 4, 2), (203, .iastore, 1), (204, .iinc 2 1, 3), (207, .goto (-205), 3), (210, .return_, 1)]
theorem m_Mo_doAdds : l_Mo_doAdds.all (fun q => decide (decode b_Mo_doAdds q.1 = .ok (q.2.1, q.2.2))) = true := by decide +kernel
def l_Mo_mayAdd : List (Nat × Instr × Nat) := [(0, .aload_n 0, 1), (1, .getfield 104, 3), (4, .iload_n 2, 1), (5, .iaload, 1), (6, .istore_n 3, 1), (7, .aload_n 0, 1), (8, .getfield 113, 3), (11, .iload_n 2, 1), (12, .iaload, 1), (13, .iconst (-1), 1), (14, .if_icmp .ne 13, 3), (17, .aload_n 0, 1), (18, .iload_n 1, 1), (19, .iload_n 3, 1), (20, .invokevirtual 208, 3), (23, .iconst (-1), 1), (24, .if_icmp .eq 5, 3), (27, .iconst 0, 1), (28, .ireturn, 1), (29, .aload_n 0, 1), (30, .getfield 80, 3), (33, .iload_n 3, 1), (34, .iaload, 1), (35, .iconst (-1), 1), (36, .if_icmp .eq 34, 3), (39, .aload_n 0, 1), (40, .getfield 80, 3), (43, .iload_n 3, 1), (44, .iaload, 1), (45, .iload_n 1, 1), (46, .iconst 1, 1), (47, .isub, 1), (48, .if_icmp .ne 26, 3), (51, .aload_n 0, 1), (52, .getfield 50, 3), (55, .iload_n 1, 1), (56, .iaload, 1), (57, .aload_n 0, 1), (58, .getfield 83, 3), (61, .iload_n 3, 1), (62, .iaload, 1), (63, .ishr, 1), (64, .iconst 1, 1), (65, .iand, 1), (66, .iconst 1, 1), (67, .if_icmp .ne 7, 3), (70, .iconst 1, 1), (71, .goto 4, 3), (74, .iconst 0, 1), (75, .ireturn, 1)]
theorem m_Mo_mayAdd : l_Mo_mayAdd.all (fun q => decide (decode b_Mo_mayAdd q.1 = .ok (q.2.1, q.2.2))) = true := by decide +kernel
def l_Mo_leafOf : List (Nat × Instr × Nat) := [(0, .iconst 0, 1), (1, .istore_n 3, 1), (2, .iload_n 3, 1), (3, .iconst 1, 1), (4, .aload_n 0, 1), (5, .getfield 38, 3), (8, .iload_n 1, 1), (9, .iaload, 1), (10, .ishl, 1), (11, .if_icmp .ge 26, 3), (14, .aload_n 0, 1), (15, .getfield 77, 3), (18, .bipush 16, 2), (20, .iload_n 1, 1), (21, .imul, 1), (22, .iload_n 3, 1), (23, .iadd, 1), (24, .iaload, 1), (25, .iload_n 2, 1), (26, .if_icmp .ne 5, 3), (29, .iload_n 3, 1), (30, .ireturn, 1), (31, .iinc 3 1, 3), (34, .goto (-32), 3), (37, .iconst (-1), 1), (38, .ireturn, 1)]
theorem m_Mo_leafOf : l_Mo_leafOf.all (fun q => decide (decode b_Mo_leafOf q.1 = .ok (q.2.1, q.2.2))) = true := by decide +kernel
def l_Mo_freeLeaf : List (Nat × Instr × Nat) := [(0, .iconst 0, 1), (1, .istore_n 2, 1), (2, .iload_n 2, 1), (3, .iconst 1, 1), (4, .aload_n 0, 1), (5, .getfield 38, 3), (8, .iload_n 1, 1), (9, .iaload, 1), (10, .ishl, 1), (11, .if_icmp .ge 26, 3), (14, .aload_n 0, 1), (15, .getfield 65, 3), (18, .bipush 31, 2), (20, .iload_n 1, 1), (21, .imul, 1), (22, .iconst 2, 1), (23, .iload_n 2, 1), (24, .imul, 1), (25, .iadd, 1), (26, .iaload, 1), (27, .iconst (-1), 1), (28, .if_icmp .eq 9, 3), (31, .iinc 2 1, 3), (34, .goto (-32), 3), (37, .iload_n 2, 1), (38, .ireturn, 1)]
theorem m_Mo_freeLeaf : l_Mo_freeLeaf.all (fun q => decide (decode b_Mo_freeLeaf q.1 = .ok (q.2.1, q.2.2))) = true := by decide +kernel
def l_Mo_renew : List (Nat × Instr × Nat) := [(0, .aload_n 0, 1), (1, .iload_n 1, 1), (2, .iconst 2, 1), (3, .iload_n 2, 1), (4, .imul, 1), (5, .aload_n 0, 1), (6, .iconst 1, 1), (7, .iconst 0, 1), (8, .iconst 0, 1), (9, .invokevirtual 143, 3), (12, .invokevirtual 204, 3), (15, .iconst (-1), 1), (16, .istore_n 3, 1), (17, .iconst 1, 1), (18, .istore 4, 2), (20, .iload 4, 2), (22, .aload_n 0, 1), (23, .getfield 38, 3), (26, .iload_n 1, 1), (27, .iaload, 1), (28, .if_icmp .gt 190, 3), (31, .iload_n 2, 1), (32, .iload 4, 2), (34, .invokestatic 168, 3), (37, .istore 5, 2), (39, .aload_n 0, 1), (40, .iload_n 1, 1), (41, .iload_n 2, 1), (42, .iconst 1, 1), (43, .iload 4, 2), (45, .iconst 1, 1), (46, .isub, 1), (47, .ishl, 1), (48, .ixor, 1), (49, .iload 4, 2), (51, .iconst 1, 1), (52, .isub, 1), (53, .invokestatic 168, 3), (56, .invokevirtual 218, 3), (59, .aload_n 0, 1), (60, .getfield 176, 3), (63, .ifCond .ne 13, 3), (66, .aload_n 0, 1), (67, .iload_n 1, 1), (68, .iload 5, 2), (70, .invokevirtual 172, 3), (73, .goto 139, 3), (76, .iload_n 3, 1), (77, .iconst (-1), 1), (78, .if_icmp .ne 13, 3), (81, .aload_n 0, 1), (82, .iconst 1, 1), (83, .iconst 0, 1), (84, .iconst 0, 1), (85, .invokevirtual 143, 3), (88, .goto 10, 3), (91, .aload_n 0, 1), (92, .iconst 2, 1), (93, .iload_n 3, 1), (94, .iconst 0, 1), (95, .invokevirtual 221, 3), (98, .istore_n 3, 1), (99, .aload_n 0, 1), (100, .getfield 74, 3), (103, .bipush 31, 2), (105, .iload_n 1, 1), (106, .imul, 1), (107, .iload 5, 2), (109, .iadd, 1), (110, .iload_n 3, 1), (111, .iastore, 1), (112, .aload_n 0, 1), (113, .getfield 47, 3), (116, .iload_n 1, 1), (117, .dup2, 1), (118, .iaload, 1), (119, .iconst 1, 1), (120, .iload 5, 2), (122, .ishl, 1), (123, .ior, 1), (124, .iastore, 1), (125, .iconst 0, 1), (126, .istore 6, 2), (128, .iload 6, 2), (130, .aload_n 0, 1), (131, .getfield 176, 3), (134, .if_icmp .ge 64, 3), (137, .aload_n 0, 1), (138, .getfield 134, 3), (141, .iload 6, 2), (143, .iaload, 1), (144, .istore 7, 2), (146, .iload 7, 2), (148, .iconst 2, 1), (149, .irem, 1), (150, .ifCond .ne 23, 3), (153, .aload_n 0, 1), (154, .getfield 56, 3), (157, .iload_n 1, 1), (158, .iaload, 1), (159, .iload 7, 2), (161, .iconst 2, 1), (162, .idiv, 1), (163, .ishr, 1), (164, .iconst 1, 1), (165, .iand, 1), (166, .iconst 1, 1), (167, .if_icmp .ne 6, 3), (170, .goto 22, 3), (173, .aload_n 0, 1), (174, .aload_n 0, 1), (175, .getfield 65, 3), (178, .bipush 31, 2), (180, .iload_n 1, 1), (181, .imul, 1), (182, .iload 7, 2), (184, .iadd, 1), (185, .iaload, 1), (186, .iload_n 3, 1), (187, .iload 5, 2), (189, .invokevirtual 224, 3), (192, .iinc 6 1, 3), (195, .goto (-67), 3), (198, .aload_n 0, 1), (199, .iload_n 1, 1), (200, .iload 5, 2), (202, .aload_n 0, 1), (203, .iconst 3, 1), (204, .iload_n 3, 1), (205, .iconst 0, 1), (206, .invokevirtual 221, 3), (209, .invokevirtual 204, 3), (212, .iinc 4 1, 3), (215, .goto (-195), 3), (218, .iload_n 3, 1), (219, .iconst (-1), 1), (220, .if_icmp .ne 13, 3), (223, .aload_n 0, 1), (224, .iconst 1, 1), (225, .iconst 0, 1), (226, .iconst 0, 1), (227, .invokevirtual 143, 3), (230, .goto 10, 3), (233, .aload_n 0, 1), (234, .iconst 2, 1), (235, .iload_n 3, 1), (236, .iconst 0, 1), (237, .invokevirtual 221, 3), (240, .ireturn, 1)]
theorem m_Mo_renew : l_Mo_renew.all (fun q => decide (decode b_Mo_renew q.1 = .ok (q.2.1, q.2.2))) = true := by decide +kernel
def l_Mo_resolve : List (Nat × Instr × Nat) := [(0, .aload_n 0, 1), (1, .iconst 0, 1), (2, .putfield 176, 3), (5, .iconst 1, 1), (6, .istore_n 3, 1), (7, .aload_n 0, 1), (8, .getfield 137, 3), (11, .iconst 0, 1), (12, .iload_n 2, 1), (13, .iastore, 1), (14, .iload_n 3, 1), (15, .ifCond .le 171, 3), (18, .iinc 3 (-1), 3), (21, .aload_n 0, 1), (22, .getfield 137, 3), (25, .iload_n 3, 1), (26, .iaload, 1), (27, .istore 4, 2), (29, .iload 4, 2), (31, .invokestatic 179, 3), (34, .istore 5, 2), (36, .aload_n 0, 1), (37, .getfield 65, 3), (40, .bipush 31, 2), (42, .iload_n 1, 1), (43, .imul, 1), (44, .iload 4, 2), (46, .iadd, 1), (47, .iaload, 1), (48, .iconst (-1), 1), (49, .if_icmp .eq 94, 3), (52, .aload_n 0, 1), (53, .getfield 134, 3), (56, .aload_n 0, 1), (57, .getfield 176, 3), (60, .iload 4, 2), (62, .iastore, 1), (63, .aload_n 0, 1), (64, .dup, 1), (65, .getfield 176, 3), (68, .iconst 1, 1), (69, .iadd, 1), (70, .putfield 176, 3), (73, .iconst 0, 1), (74, .istore 6, 2), (76, .iload 6, 2), (78, .bipush 16, 2), (80, .if_icmp .ge 60, 3), (83, .iload 5, 2), (85, .ifCond .le 55, 3), (88, .aload_n 0, 1), (89, .getfield 68, 3), (92, .bipush 31, 2), (94, .iload_n 1, 1), (95, .imul, 1), (96, .iload 4, 2), (98, .iadd, 1), (99, .iaload, 1), (100, .iload 6, 2), (102, .ishr, 1), (103, .iconst 1, 1), (104, .iand, 1), (105, .ifCond .ne 6, 3), (108, .goto 26, 3), (111, .aload_n 0, 1), (112, .getfield 134, 3), (115, .aload_n 0, 1), (116, .getfield 176, 3), (119, .iconst 2, 1), (120, .iload 6, 2), (122, .imul, 1), (123, .iastore, 1), (124, .aload_n 0, 1), (125, .dup, 1), (126, .getfield 176, 3), (129, .iconst 1, 1), (130, .iadd, 1), (131, .putfield 176, 3), (134, .iinc 6 1, 3), (137, .goto (-61), 3), (140, .goto 43, 3), (143, .iload 5, 2), (145, .ifCond .le 38, 3), (148, .aload_n 0, 1), (149, .getfield 137, 3), (152, .iload_n 3, 1), (153, .iload 4, 2), (155, .iconst 1, 1), (156, .iload 5, 2), (158, .iconst 1, 1), (159, .isub, 1), (160, .ishl, 1), (161, .isub, 1), (162, .iastore, 1), (163, .aload_n 0, 1), (164, .getfield 137, 3), (167, .iload_n 3, 1), (168, .iconst 1, 1), (169, .iadd, 1), (170, .iload 4, 2), (172, .iconst 1, 1), (173, .iload 5, 2), (175, .iconst 1, 1), (176, .isub, 1), (177, .ishl, 1), (178, .iadd, 1), (179, .iastore, 1), (180, .iinc 3 2, 3), (183, .goto (-169), 3), (186, .return_, 1)]
theorem m_Mo_resolve : l_Mo_resolve.all (fun q => decide (decode b_Mo_resolve q.1 = .ok (q.2.1, q.2.2))) = true := by decide +kernel
def l_Mo_height : List (Nat × Instr × Nat) := [(0, .iconst 0, 1), (1, .istore_n 1, 1), (2, .iload_n 0, 1), (3, .iload_n 1, 1), (4, .ishr, 1), (5, .iconst 1, 1), (6, .iand, 1), (7, .iconst 1, 1), (8, .if_icmp .ne 9, 3), (11, .iinc 1 1, 3), (14, .goto (-12), 3), (17, .iload_n 1, 1), (18, .ireturn, 1)]
theorem m_Mo_height : l_Mo_height.all (fun q => decide (decode b_Mo_height q.1 = .ok (q.2.1, q.2.2))) = true := by decide +kernel
def l_Mo_of : List (Nat × Instr × Nat) := [(0, .iconst 0, 1), (1, .istore 4, 2), (3, .iload 4, 2), (5, .aload_n 0, 1), (6, .getfield 158, 3), (9, .if_icmp .ge 45, 3), (12, .aload_n 0, 1), (13, .getfield 7, 3), (16, .iload 4, 2), (18, .iaload, 1), (19, .iload_n 1, 1), (20, .if_icmp .ne 28, 3), (23, .aload_n 0, 1), (24, .getfield 13, 3), (27, .iload 4, 2), (29, .iaload, 1), (30, .iload_n 2, 1), (31, .if_icmp .ne 17, 3), (34, .aload_n 0, 1), (35, .getfield 16, 3), (38, .iload 4, 2), (40, .iaload, 1), (41, .iload_n 3, 1), (42, .if_icmp .ne 6, 3), (45, .iload 4, 2), (47, .ireturn, 1), (48, .iinc 4 1, 3), (51, .goto (-48), 3), (54, .aload_n 0, 1), (55, .iload_n 1, 1), (56, .iload_n 2, 1), (57, .iload_n 3, 1), (58, .invokevirtual 143, 3), (61, .ireturn, 1)]
theorem m_Mo_of : l_Mo_of.all (fun q => decide (decode b_Mo_of q.1 = .ok (q.2.1, q.2.2))) = true := by decide +kernel
def l_Mo_encrypt : List (Nat × Instr × Nat) := [(0, .aload_n 0, 1), (1, .getfield 26, 3), (4, .aload_n 0, 1), (5, .getfield 161, 3), (8, .iload_n 1, 1), (9, .iastore, 1), (10, .aload_n 0, 1), (11, .getfield 29, 3), (14, .aload_n 0, 1), (15, .getfield 161, 3), (18, .iload_n 2, 1), (19, .iastore, 1), (20, .aload_n 0, 1), (21, .getfield 32, 3), (24, .aload_n 0, 1), (25, .getfield 161, 3), (28, .aload_n 0, 1), (29, .getfield 151, 3), (32, .iastore, 1), (33, .aload_n 0, 1), (34, .getfield 35, 3), (37, .aload_n 0, 1), (38, .getfield 161, 3), (41, .iload_n 3, 1), (42, .iastore, 1), (43, .aload_n 0, 1), (44, .dup, 1), (45, .getfield 161, 3), (48, .iconst 1, 1), (49, .iadd, 1), (50, .putfield 161, 3), (53, .aload_n 0, 1), (54, .getfield 59, 3), (57, .aload_n 0, 1), (58, .getfield 151, 3), (61, .dup2, 1), (62, .iaload, 1), (63, .iconst 1, 1), (64, .iadd, 1), (65, .iastore, 1), (66, .return_, 1)]
theorem m_Mo_encrypt : l_Mo_encrypt.all (fun q => decide (decode b_Mo_encrypt q.1 = .ok (q.2.1, q.2.2))) = true := by decide +kernel
def l_Mo_welcome : List (Nat × Instr × Nat) := [(0, .iconst 0, 1), (1, .istore_n 3, 1), (2, .iload_n 3, 1), (3, .aload_n 0, 1), (4, .getfield 189, 3), (7, .if_icmp .ge 89, 3), (10, .aload_n 0, 1), (11, .getfield 113, 3), (14, .iload_n 3, 1), (15, .iaload, 1), (16, .iload_n 1, 1), (17, .if_icmp .eq 6, 3), (20, .goto 70, 3), (23, .aload_n 0, 1), (24, .aload_n 0, 1), (25, .getfield 107, 3), (28, .iload_n 3, 1), (29, .iaload, 1), (30, .iload_n 2, 1), (31, .iconst (-1), 1), (32, .invokevirtual 224, 3), (35, .aload_n 0, 1), (36, .getfield 62, 3), (39, .iload_n 1, 1), (40, .baload, 1), (41, .ifCond .eq 17, 3), (44, .aload_n 0, 1), (45, .iload_n 1, 1), (46, .aload_n 0, 1), (47, .getfield 116, 3), (50, .iload_n 3, 1), (51, .iaload, 1), (52, .invokevirtual 227, 3), (55, .goto 4, 3), (58, .iconst (-1), 1), (59, .istore 4, 2), (61, .iload 4, 2), (63, .iconst (-1), 1), (64, .if_icmp .eq 26, 3), (67, .aload_n 0, 1), (68, .aload_n 0, 1), (69, .getfield 107, 3), (72, .iload_n 3, 1), (73, .iaload, 1), (74, .aload_n 0, 1), (75, .getfield 74, 3), (78, .bipush 31, 2), (80, .iload_n 1, 1), (81, .imul, 1), (82, .iload 4, 2), (84, .iadd, 1), (85, .iaload, 1), (86, .iconst (-1), 1), (87, .invokevirtual 224, 3), (90, .iinc 3 1, 3), (93, .goto (-91), 3), (96, .return_, 1)]
theorem m_Mo_welcome : l_Mo_welcome.all (fun q => decide (decode b_Mo_welcome q.1 = .ok (q.2.1, q.2.2))) = true := by decide +kernel
def l_Mo_meeting : List (Nat × Instr × Nat) := [(0, .iconst 1, 1), (1, .istore_n 3, 1), (2, .iload_n 3, 1), (3, .aload_n 0, 1), (4, .getfield 38, 3), (7, .iload_n 1, 1), (8, .iaload, 1), (9, .if_icmp .gt 33, 3), (12, .aload_n 0, 1), (13, .getfield 47, 3), (16, .iload_n 1, 1), (17, .iaload, 1), (18, .iload_n 2, 1), (19, .iload_n 3, 1), (20, .invokestatic 168, 3), (23, .ishr, 1), (24, .iconst 1, 1), (25, .iand, 1), (26, .iconst 1, 1), (27, .if_icmp .ne 9, 3), (30, .iload_n 2, 1), (31, .iload_n 3, 1), (32, .invokestatic 168, 3), (35, .ireturn, 1), (36, .iinc 3 1, 3), (39, .goto (-37), 3), (42, .iconst (-1), 1), (43, .ireturn, 1)]
theorem m_Mo_meeting : l_Mo_meeting.all (fun q => decide (decode b_Mo_meeting q.1 = .ok (q.2.1, q.2.2))) = true := by decide +kernel
def l_Mo_advance : List (Nat × Instr × Nat) := [(0, .aload_n 0, 1), (1, .getfield 80, 3), (4, .iload_n 1, 1), (5, .iload_n 2, 1), (6, .iastore, 1), (7, .aload_n 0, 1), (8, .getfield 92, 3), (11, .iload_n 1, 1), (12, .iconst 0, 1), (13, .iastore, 1), (14, .aload_n 0, 1), (15, .getfield 86, 3), (18, .iload_n 1, 1), (19, .aload_n 0, 1), (20, .getfield 65, 3), (23, .bipush 31, 2), (25, .iload_n 2, 1), (26, .imul, 1), (27, .iconst 2, 1), (28, .aload_n 0, 1), (29, .getfield 83, 3), (32, .iload_n 1, 1), (33, .iaload, 1), (34, .imul, 1), (35, .iadd, 1), (36, .iaload, 1), (37, .iastore, 1), (38, .aload_n 0, 1), (39, .iload_n 1, 1), (40, .iload_n 2, 1), (41, .invokevirtual 230, 3), (44, .iload_n 3, 1), (45, .ifCond .eq 28, 3), (48, .aload_n 0, 1), (49, .getfield 38, 3), (52, .iload_n 2, 1), (53, .iaload, 1), (54, .ifCond .le 19, 3), (57, .aload_n 0, 1), (58, .iload_n 1, 1), (59, .iload_n 2, 1), (60, .aload_n 0, 1), (61, .getfield 83, 3), (64, .iload_n 1, 1), (65, .iaload, 1), (66, .iconst 1, 1), (67, .invokestatic 168, 3), (70, .invokevirtual 233, 3), (73, .return_, 1)]
theorem m_Mo_advance : l_Mo_advance.all (fun q => decide (decode b_Mo_advance q.1 = .ok (q.2.1, q.2.2))) = true := by decide +kernel
def l_Mo_keep : List (Nat × Instr × Nat) := [(0, .iconst 0, 1), (1, .istore_n 3, 1), (2, .iload_n 3, 1), (3, .bipush 31, 2), (5, .if_icmp .ge 91, 3), (8, .bipush 31, 2), (10, .iload_n 1, 1), (11, .imul, 1), (12, .iload_n 3, 1), (13, .iadd, 1), (14, .istore 4, 2), (16, .iload_n 3, 1), (17, .aload_n 0, 1), (18, .iload_n 2, 1), (19, .invokevirtual 192, 3), (22, .if_icmp .ge 31, 3), (25, .iload_n 3, 1), (26, .invokestatic 179, 3), (29, .ifCond .le 24, 3), (32, .aload_n 0, 1), (33, .getfield 83, 3), (36, .iload_n 1, 1), (37, .iaload, 1), (38, .iload_n 3, 1), (39, .invokestatic 179, 3), (42, .invokestatic 168, 3), (45, .iload_n 3, 1), (46, .if_icmp .ne 7, 3), (49, .iconst 1, 1), (50, .goto 4, 3), (53, .iconst 0, 1), (54, .istore 5, 2), (56, .iload 5, 2), (58, .ifCond .eq 24, 3), (61, .aload_n 0, 1), (62, .getfield 65, 3), (65, .bipush 31, 2), (67, .iload_n 2, 1), (68, .imul, 1), (69, .iload_n 3, 1), (70, .iadd, 1), (71, .iaload, 1), (72, .aload_n 0, 1), (73, .getfield 98, 3), (76, .iload 4, 2), (78, .iaload, 1), (79, .if_icmp .eq 11, 3), (82, .aload_n 0, 1), (83, .getfield 98, 3), (86, .iload 4, 2), (88, .iconst (-1), 1), (89, .iastore, 1), (90, .iinc 3 1, 3), (93, .goto (-91), 3), (96, .return_, 1)]
theorem m_Mo_keep : l_Mo_keep.all (fun q => decide (decode b_Mo_keep q.1 = .ok (q.2.1, q.2.2))) = true := by decide +kernel
def l_Mo_tell : List (Nat × Instr × Nat) := [(0, .iload_n 3, 1), (1, .invokestatic 179, 3), (4, .istore 4, 2), (6, .iload 4, 2), (8, .aload_n 0, 1), (9, .getfield 38, 3), (12, .iload_n 2, 1), (13, .iaload, 1), (14, .if_icmp .gt 61, 3), (17, .aload_n 0, 1), (18, .getfield 83, 3), (21, .iload_n 1, 1), (22, .iaload, 1), (23, .iload 4, 2), (25, .invokestatic 168, 3), (28, .istore 5, 2), (30, .aload_n 0, 1), (31, .getfield 47, 3), (34, .iload_n 2, 1), (35, .iaload, 1), (36, .iload 5, 2), (38, .ishr, 1), (39, .iconst 1, 1), (40, .iand, 1), (41, .iconst 1, 1), (42, .if_icmp .ne 27, 3), (45, .aload_n 0, 1), (46, .getfield 98, 3), (49, .bipush 31, 2), (51, .iload_n 1, 1), (52, .imul, 1), (53, .iload 5, 2), (55, .iadd, 1), (56, .aload_n 0, 1), (57, .getfield 65, 3), (60, .bipush 31, 2), (62, .iload_n 2, 1), (63, .imul, 1), (64, .iload 5, 2), (66, .iadd, 1), (67, .iaload, 1), (68, .iastore, 1), (69, .iinc 4 1, 3), (72, .goto (-66), 3), (75, .return_, 1)]
theorem m_Mo_tell : l_Mo_tell.all (fun q => decide (decode b_Mo_tell q.1 = .ok (q.2.1, q.2.2))) = true := by decide +kernel
def l_Mo_come : List (Nat × Instr × Nat) := [(0, .iload_n 1, 1), (1, .istore_n 2, 1), (2, .iload_n 2, 1), (3, .bipush 16, 2), (5, .invokestatic 264, 3), (8, .ifCond .eq 21, 3), (11, .aload_n 0, 1), (12, .getfield 80, 3), (15, .iload_n 2, 1), (16, .iaload, 1), (17, .iconst (-1), 1), (18, .if_icmp .ne 11, 3), (21, .aload_n 0, 1), (22, .iload_n 2, 1), (23, .invokevirtual 287, 3), (26, .goto 4, 3), (29, .iconst (-1), 1), (30, .istore_n 3, 1), (31, .aload_n 0, 1), (32, .iload_n 2, 1), (33, .bipush 16, 2), (35, .invokestatic 264, 3), (38, .ifCond .ne 7, 3), (41, .iconst 1, 1), (42, .goto 31, 3), (45, .aload_n 0, 1), (46, .iload_n 2, 1), (47, .invokevirtual 267, 3), (50, .ifCond .ne 18, 3), (53, .aload_n 0, 1), (54, .getfield 80, 3), (57, .iload_n 2, 1), (58, .iaload, 1), (59, .iconst (-1), 1), (60, .if_icmp .ne 12, 3), (63, .iload_n 3, 1), (64, .iconst (-1), 1), (65, .if_icmp .ne 7, 3), (68, .iconst 2, 1), (69, .goto 4, 3), (72, .iconst 0, 1), (73, .putfield 155, 3), (76, .aload_n 0, 1), (77, .getfield 155, 3), (80, .ifCond .le 5, 3), (83, .iconst 0, 1), (84, .ireturn, 1), (85, .aload_n 0, 1), (86, .getfield 80, 3), (89, .iload_n 2, 1), (90, .iaload, 1), (91, .iconst (-1), 1), (92, .if_icmp .ne 12, 3), (95, .aload_n 0, 1), (96, .iload_n 2, 1), (97, .iload_n 3, 1), (98, .invokevirtual 290, 3), (101, .goto 8, 3), (104, .aload_n 0, 1), (105, .iload_n 2, 1), (106, .invokevirtual 293, 3), (109, .aload_n 0, 1), (110, .getfield 80, 3), (113, .iload_n 2, 1), (114, .iaload, 1), (115, .ireturn, 1)]
theorem m_Mo_come : l_Mo_come.all (fun q => decide (decode b_Mo_come q.1 = .ok (q.2.1, q.2.2))) = true := by decide +kernel
def l_Mo_nextPackage : List (Nat × Instr × Nat) := [(0, .iconst (-1), 1), (1, .istore_n 2, 1), (2, .iconst 0, 1), (3, .istore_n 3, 1), (4, .iload_n 3, 1), (5, .aload_n 0, 1), (6, .getfield 189, 3), (9, .if_icmp .ge 60, 3), (12, .aload_n 0, 1), (13, .getfield 104, 3), (16, .iload_n 3, 1), (17, .iaload, 1), (18, .iload_n 1, 1), (19, .if_icmp .ne 44, 3), (22, .aload_n 0, 1), (23, .getfield 113, 3), (26, .iload_n 3, 1), (27, .iaload, 1), (28, .iconst (-1), 1), (29, .if_icmp .eq 34, 3), (32, .aload_n 0, 1), (33, .getfield 119, 3), (36, .iload_n 3, 1), (37, .baload, 1), (38, .ifCond .ne 25, 3), (41, .iload_n 2, 1), (42, .iconst (-1), 1), (43, .if_icmp .eq 18, 3), (46, .aload_n 0, 1), (47, .getfield 113, 3), (50, .iload_n 3, 1), (51, .iaload, 1), (52, .aload_n 0, 1), (53, .getfield 113, 3), (56, .iload_n 2, 1), (57, .iaload, 1), (58, .if_icmp .ge 5, 3), (61, .iload_n 3, 1), (62, .istore_n 2, 1), (63, .iinc 3 1, 3), (66, .goto (-62), 3), (69, .iload_n 2, 1), (70, .ireturn, 1)]
theorem m_Mo_nextPackage : l_Mo_nextPackage.all (fun q => decide (decode b_Mo_nextPackage q.1 = .ok (q.2.1, q.2.2))) = true := by decide +kernel
def l_Mo_join : List (Nat × Instr × Nat) := [(0, .aload_n 0, 1), (1, .getfield 113, 3), (4, .iload_n 2, 1), (5, .iaload, 1), (6, .istore_n 3, 1), (7, .aload_n 0, 1), (8, .iload_n 1, 1), (9, .invokevirtual 147, 3), (12, .aload_n 0, 1), (13, .getfield 119, 3), (16, .iload_n 2, 1), (17, .iconst 1, 1), (18, .bastore, 1), (19, .aload_n 0, 1), (20, .getfield 80, 3), (23, .iload_n 1, 1), (24, .iload_n 3, 1), (25, .iastore, 1), (26, .aload_n 0, 1), (27, .getfield 83, 3), (30, .iload_n 1, 1), (31, .aload_n 0, 1), (32, .getfield 116, 3), (35, .iload_n 2, 1), (36, .iaload, 1), (37, .iastore, 1), (38, .aload_n 0, 1), (39, .getfield 86, 3), (42, .iload_n 1, 1), (43, .aload_n 0, 1), (44, .getfield 110, 3), (47, .iload_n 2, 1), (48, .iaload, 1), (49, .iastore, 1), (50, .aload_n 0, 1), (51, .getfield 95, 3), (54, .iload_n 1, 1), (55, .iconst 1, 1), (56, .bastore, 1), (57, .aload_n 0, 1), (58, .iload_n 3, 1), (59, .aload_n 0, 1), (60, .getfield 83, 3), (63, .iload_n 1, 1), (64, .iaload, 1), (65, .invokevirtual 227, 3), (68, .istore 4, 2), (70, .aload_n 0, 1), (71, .getfield 62, 3), (74, .iload_n 3, 1), (75, .baload, 1), (76, .ifCond .eq 17, 3), (79, .iload 4, 2), (81, .iconst (-1), 1), (82, .if_icmp .eq 11, 3), (85, .aload_n 0, 1), (86, .iload_n 1, 1), (87, .iload_n 3, 1), (88, .iload 4, 2), (90, .invokevirtual 233, 3), (93, .return_, 1)]
theorem m_Mo_join : l_Mo_join.all (fun q => decide (decode b_Mo_join q.1 = .ok (q.2.1, q.2.2))) = true := by decide +kernel
def l_Mo_follow : List (Nat × Instr × Nat) := [(0, .aload_n 0, 1), (1, .getfield 80, 3), (4, .iload_n 1, 1), (5, .iaload, 1), (6, .iconst 1, 1), (7, .iadd, 1), (8, .istore_n 2, 1), (9, .aload_n 0, 1), (10, .getfield 50, 3), (13, .iload_n 2, 1), (14, .iaload, 1), (15, .aload_n 0, 1), (16, .getfield 83, 3), (19, .iload_n 1, 1), (20, .iaload, 1), (21, .ishr, 1), (22, .iconst 1, 1), (23, .iand, 1), (24, .iconst 1, 1), (25, .if_icmp .ne 9, 3), (28, .aload_n 0, 1), (29, .iload_n 1, 1), (30, .invokevirtual 147, 3), (33, .return_, 1), (34, .aload_n 0, 1), (35, .iload_n 1, 1), (36, .invokevirtual 281, 3), (39, .aload_n 0, 1), (40, .getfield 53, 3), (43, .iload_n 2, 1), (44, .iaload, 1), (45, .aload_n 0, 1), (46, .getfield 83, 3), (49, .iload_n 1, 1), (50, .iaload, 1), (51, .ishr, 1), (52, .iconst 1, 1), (53, .iand, 1), (54, .iconst 1, 1), (55, .if_icmp .ne 25, 3), (58, .aload_n 0, 1), (59, .aload_n 0, 1), (60, .getfield 65, 3), (63, .bipush 31, 2), (65, .iload_n 2, 1), (66, .imul, 1), (67, .iconst 2, 1), (68, .aload_n 0, 1), (69, .getfield 83, 3), (72, .iload_n 1, 1), (73, .iaload, 1), (74, .imul, 1), (75, .iadd, 1), (76, .iaload, 1), (77, .invokevirtual 186, 3), (80, .aload_n 0, 1), (81, .getfield 62, 3), (84, .iload_n 2, 1), (85, .baload, 1), (86, .ifCond .eq 17, 3), (89, .aload_n 0, 1), (90, .iload_n 2, 1), (91, .aload_n 0, 1), (92, .getfield 83, 3), (95, .iload_n 1, 1), (96, .iaload, 1), (97, .invokevirtual 227, 3), (100, .goto 4, 3), (103, .iconst (-1), 1), (104, .istore_n 3, 1), (105, .iconst 0, 1), (106, .istore 4, 2), (108, .iconst 0, 1), (109, .istore 5, 2), (111, .iload 5, 2), (113, .aload_n 0, 1), (114, .getfield 161, 3), (117, .if_icmp .ge 62, 3), (120, .iload_n 3, 1), (121, .iconst (-1), 1), (122, .if_icmp .eq 57, 3), (125, .iload 4, 2), (127, .ifCond .ne 39, 3), (130, .aload_n 0, 1), (131, .getfield 32, 3), (134, .iload 5, 2), (136, .iaload, 1), (137, .iload_n 2, 1), (138, .if_icmp .ne 32, 3), (141, .aload_n 0, 1), (142, .getfield 35, 3), (145, .iload 5, 2), (147, .iaload, 1), (148, .iload_n 3, 1), (149, .if_icmp .ne 21, 3), (152, .aload_n 0, 1), (153, .aload_n 0, 1), (154, .getfield 26, 3), (157, .iload 5, 2), (159, .iaload, 1), (160, .invokevirtual 284, 3), (163, .ifCond .eq 7, 3), (166, .iconst 1, 1), (167, .goto 4, 3), (170, .iconst 0, 1), (171, .istore 4, 2), (173, .iinc 5 1, 3), (176, .goto (-65), 3), (179, .aload_n 0, 1), (180, .iload_n 1, 1), (181, .iload_n 2, 1), (182, .iconst 0, 1), (183, .invokevirtual 260, 3), (186, .iload 4, 2), (188, .ifCond .eq 10, 3), (191, .aload_n 0, 1), (192, .iload_n 1, 1), (193, .iload_n 2, 1), (194, .iload_n 3, 1), (195, .invokevirtual 233, 3), (198, .iload_n 3, 1), (199, .iconst (-1), 1), (200, .if_icmp .eq 8, 3), (203, .iload 4, 2), (205, .ifCond .eq 4, 3), (208, .return_, 1), (209, .aload_n 0, 1), (210, .getfield 89, 3), (213, .iload_n 1, 1), (214, .dup2, 1), (215, .iaload, 1), (216, .iconst 1, 1), (217, .iadd, 1), (218, .iastore, 1), (219, .aload_n 0, 1), (220, .getfield 95, 3), (223, .iload_n 1, 1), (224, .iconst 0, 1), (225, .bastore, 1), (226, .return_, 1)]
theorem m_Mo_follow : l_Mo_follow.all (fun q => decide (decode b_Mo_follow q.1 = .ok (q.2.1, q.2.2))) = true := by decide +kernel
def l_Mo_gather : List (Nat × Instr × Nat) := [(0, .aload_n 0, 1), (1, .iconst 0, 1), (2, .putfield 183, 3), (5, .aload_n 0, 1), (6, .getfield 95, 3), (9, .iload_n 1, 1), (10, .baload, 1), (11, .ifCond .eq 18, 3), (14, .aload_n 0, 1), (15, .aload_n 0, 1), (16, .getfield 41, 3), (19, .aload_n 0, 1), (20, .getfield 80, 3), (23, .iload_n 1, 1), (24, .iaload, 1), (25, .iaload, 1), (26, .invokevirtual 186, 3), (29, .aload_n 0, 1), (30, .getfield 86, 3), (33, .iload_n 1, 1), (34, .iaload, 1), (35, .iconst (-1), 1), (36, .if_icmp .eq 13, 3), (39, .aload_n 0, 1), (40, .aload_n 0, 1), (41, .getfield 86, 3), (44, .iload_n 1, 1), (45, .iaload, 1), (46, .invokevirtual 186, 3), (49, .iconst 0, 1), (50, .istore_n 2, 1), (51, .iload_n 2, 1), (52, .bipush 31, 2), (54, .if_icmp .ge 39, 3), (57, .aload_n 0, 1), (58, .getfield 98, 3), (61, .bipush 31, 2), (63, .iload_n 1, 1), (64, .imul, 1), (65, .iload_n 2, 1), (66, .iadd, 1), (67, .iaload, 1), (68, .iconst (-1), 1), (69, .if_icmp .eq 18, 3), (72, .aload_n 0, 1), (73, .aload_n 0, 1), (74, .getfield 98, 3), (77, .bipush 31, 2), (79, .iload_n 1, 1), (80, .imul, 1), (81, .iload_n 2, 1), (82, .iadd, 1), (83, .iaload, 1), (84, .invokevirtual 186, 3), (87, .iinc 2 1, 3), (90, .goto (-39), 3), (93, .iconst 0, 1), (94, .istore_n 2, 1), (95, .iload_n 2, 1), (96, .aload_n 0, 1), (97, .getfield 92, 3), (100, .iload_n 1, 1), (101, .iaload, 1), (102, .if_icmp .ge 24, 3), (105, .aload_n 0, 1), (106, .aload_n 0, 1), (107, .getfield 101, 3), (110, .bipush 20, 2), (112, .iload_n 1, 1), (113, .imul, 1), (114, .iload_n 2, 1), (115, .iadd, 1), (116, .iaload, 1), (117, .invokevirtual 186, 3), (120, .iinc 2 1, 3), (123, .goto (-28), 3), (126, .iconst 0, 1), (127, .istore_n 2, 1), (128, .iload_n 2, 1), (129, .aload_n 0, 1), (130, .getfield 189, 3), (133, .if_icmp .ge 51, 3), (136, .aload_n 0, 1), (137, .getfield 104, 3), (140, .iload_n 2, 1), (141, .iaload, 1), (142, .iload_n 1, 1), (143, .if_icmp .ne 35, 3), (146, .aload_n 0, 1), (147, .getfield 119, 3), (150, .iload_n 2, 1), (151, .baload, 1), (152, .ifCond .eq 6, 3), (155, .goto 23, 3), (158, .aload_n 0, 1), (159, .aload_n 0, 1), (160, .getfield 107, 3), (163, .iload_n 2, 1), (164, .iaload, 1), (165, .invokevirtual 186, 3), (168, .aload_n 0, 1), (169, .aload_n 0, 1), (170, .getfield 110, 3), (173, .iload_n 2, 1), (174, .iaload, 1), (175, .invokevirtual 186, 3), (178, .iinc 2 1, 3), (181, .goto (-53), 3), (184, .return_, 1)]
theorem m_Mo_gather : l_Mo_gather.all (fun q => decide (decode b_Mo_gather q.1 = .ok (q.2.1, q.2.2))) = true := by decide +kernel
def l_Mo_hold : List (Nat × Instr × Nat) := [(0, .iconst 0, 1), (1, .istore_n 2, 1), (2, .iload_n 2, 1), (3, .aload_n 0, 1), (4, .getfield 183, 3), (7, .if_icmp .ge 20, 3), (10, .aload_n 0, 1), (11, .getfield 131, 3), (14, .iload_n 2, 1), (15, .iaload, 1), (16, .iload_n 1, 1), (17, .if_icmp .ne 4, 3), (20, .return_, 1), (21, .iinc 2 1, 3), (24, .goto (-22), 3), (27, .aload_n 0, 1), (28, .getfield 131, 3), (31, .aload_n 0, 1), (32, .getfield 183, 3), (35, .iload_n 1, 1), (36, .iastore, 1), (37, .aload_n 0, 1), (38, .dup, 1), (39, .getfield 183, 3), (42, .iconst 1, 1), (43, .iadd, 1), (44, .putfield 183, 3), (47, .return_, 1)]
theorem m_Mo_hold : l_Mo_hold.all (fun q => decide (decode b_Mo_hold q.1 = .ok (q.2.1, q.2.2))) = true := by decide +kernel
def l_Mo_isHeld : List (Nat × Instr × Nat) := [(0, .iconst 0, 1), (1, .istore_n 2, 1), (2, .iload_n 2, 1), (3, .aload_n 0, 1), (4, .getfield 183, 3), (7, .if_icmp .ge 21, 3), (10, .aload_n 0, 1), (11, .getfield 131, 3), (14, .iload_n 2, 1), (15, .iaload, 1), (16, .iload_n 1, 1), (17, .if_icmp .ne 5, 3), (20, .iconst 1, 1), (21, .ireturn, 1), (22, .iinc 2 1, 3), (25, .goto (-23), 3), (28, .iconst 0, 1), (29, .ireturn, 1)]
theorem m_Mo_isHeld : l_Mo_isHeld.all (fun q => decide (decode b_Mo_isHeld q.1 = .ok (q.2.1, q.2.2))) = true := by decide +kernel
def l_Mo_compromise : List (Nat × Instr × Nat) := [(0, .aload_n 0, 1), (1, .iload_n 1, 1), (2, .bipush 16, 2), (4, .invokestatic 264, 3), (7, .ifCond .ne 7, 3), (10, .iconst 1, 1), (11, .goto 4, 3), (14, .iconst 0, 1), (15, .putfield 155, 3), (18, .aload_n 0, 1), (19, .getfield 155, 3), (22, .ifCond .le 5, 3), (25, .iconst 0, 1), (26, .ireturn, 1), (27, .aload_n 0, 1), (28, .iload_n 1, 1), (29, .invokevirtual 281, 3), (32, .iconst 0, 1), (33, .istore_n 2, 1), (34, .iload_n 2, 1), (35, .aload_n 0, 1), (36, .getfield 183, 3), (39, .if_icmp .ge 21, 3), (42, .aload_n 0, 1), (43, .getfield 19, 3), (46, .aload_n 0, 1), (47, .getfield 131, 3), (50, .iload_n 2, 1), (51, .iaload, 1), (52, .iconst 1, 1), (53, .bastore, 1), (54, .iinc 2 1, 3), (57, .goto (-23), 3), (60, .aload_n 0, 1), (61, .getfield 183, 3), (64, .ireturn, 1)]
theorem m_Mo_compromise : l_Mo_compromise.all (fun q => decide (decode b_Mo_compromise q.1 = .ok (q.2.1, q.2.2))) = true := by decide +kernel
def l_Mo_member : List (Nat × Instr × Nat) := [(0, .aload_n 0, 1), (1, .iconst 0, 1), (2, .putfield 155, 3), (5, .iload_n 1, 1), (6, .bipush 16, 2), (8, .invokestatic 264, 3), (11, .ifCond .ne 5, 3), (14, .iconst (-1), 1), (15, .ireturn, 1), (16, .iload_n 2, 1), (17, .iconst 2, 1), (18, .if_icmp .ne 8, 3), (21, .aload_n 0, 1), (22, .iload_n 1, 1), (23, .invokevirtual 281, 3), (26, .iload_n 2, 1), (27, .ifCond .ne 12, 3), (30, .aload_n 0, 1), (31, .getfield 80, 3), (34, .iload_n 1, 1), (35, .iaload, 1), (36, .goto 44, 3), (39, .iload_n 2, 1), (40, .iconst 1, 1), (41, .if_icmp .ne 12, 3), (44, .aload_n 0, 1), (45, .getfield 83, 3), (48, .iload_n 1, 1), (49, .iaload, 1), (50, .goto 30, 3), (53, .iload_n 2, 1), (54, .iconst 2, 1), (55, .if_icmp .ne 10, 3), (58, .aload_n 0, 1), (59, .getfield 183, 3), (62, .goto 18, 3), (65, .iload_n 2, 1), (66, .iconst 3, 1), (67, .if_icmp .ne 12, 3), (70, .aload_n 0, 1), (71, .getfield 89, 3), (74, .iload_n 1, 1), (75, .iaload, 1), (76, .goto 4, 3), (79, .iconst (-1), 1), (80, .ireturn, 1)]
theorem m_Mo_member : l_Mo_member.all (fun q => decide (decode b_Mo_member q.1 = .ok (q.2.1, q.2.2))) = true := by decide +kernel
def l_Mo_holds : List (Nat × Instr × Nat) := [(0, .aload_n 0, 1), (1, .iconst 0, 1), (2, .putfield 155, 3), (5, .iload_n 1, 1), (6, .bipush 16, 2), (8, .invokestatic 264, 3), (11, .ifCond .eq 30, 3), (14, .aload_n 0, 1), (15, .getfield 80, 3), (18, .iload_n 1, 1), (19, .iaload, 1), (20, .iconst (-1), 1), (21, .if_icmp .eq 20, 3), (24, .iload_n 2, 1), (25, .aload_n 0, 1), (26, .aload_n 0, 1), (27, .getfield 80, 3), (30, .iload_n 1, 1), (31, .iaload, 1), (32, .invokevirtual 192, 3), (35, .invokestatic 264, 3), (38, .ifCond .ne 5, 3), (41, .iconst 0, 1), (42, .ireturn, 1), (43, .aload_n 0, 1), (44, .getfield 65, 3), (47, .bipush 31, 2), (49, .aload_n 0, 1), (50, .getfield 80, 3), (53, .iload_n 1, 1), (54, .iaload, 1), (55, .imul, 1), (56, .iload_n 2, 1), (57, .iadd, 1), (58, .iaload, 1), (59, .istore_n 3, 1), (60, .aload_n 0, 1), (61, .iload_n 1, 1), (62, .invokevirtual 281, 3), (65, .iload_n 3, 1), (66, .iconst (-1), 1), (67, .if_icmp .eq 15, 3), (70, .aload_n 0, 1), (71, .iload_n 3, 1), (72, .invokevirtual 284, 3), (75, .ifCond .eq 7, 3), (78, .iconst 1, 1), (79, .goto 4, 3), (82, .iconst 0, 1), (83, .ireturn, 1)]
theorem m_Mo_holds : l_Mo_holds.all (fun q => decide (decode b_Mo_holds q.1 = .ok (q.2.1, q.2.2))) = true := by decide +kernel
def l_Mo_has : List (Nat × Instr × Nat) := [(0, .aload_n 0, 1), (1, .iconst 0, 1), (2, .putfield 155, 3), (5, .iload_n 1, 1), (6, .bipush 16, 2), (8, .invokestatic 264, 3), (11, .ifCond .eq 16, 3), (14, .aload_n 0, 1), (15, .getfield 95, 3), (18, .iload_n 1, 1), (19, .baload, 1), (20, .ifCond .eq 7, 3), (23, .iconst 1, 1), (24, .goto 4, 3), (27, .iconst 0, 1), (28, .ireturn, 1)]
theorem m_Mo_has : l_Mo_has.all (fun q => decide (decode b_Mo_has q.1 = .ok (q.2.1, q.2.2))) = true := by decide +kernel
def l_Mo_node : List (Nat × Instr × Nat) := [(0, .aload_n 0, 1), (1, .iconst 0, 1), (2, .putfield 155, 3), (5, .iload_n 1, 1), (6, .aload_n 0, 1), (7, .getfield 151, 3), (10, .invokestatic 264, 3), (13, .ifCond .eq 15, 3), (16, .iload_n 2, 1), (17, .aload_n 0, 1), (18, .iload_n 1, 1), (19, .invokevirtual 192, 3), (22, .invokestatic 264, 3), (25, .ifCond .ne 5, 3), (28, .iconst (-1), 1), (29, .ireturn, 1), (30, .bipush 31, 2), (32, .iload_n 1, 1), (33, .imul, 1), (34, .iload_n 2, 1), (35, .iadd, 1), (36, .istore 4, 2), (38, .iload_n 3, 1), (39, .iconst 3, 1), (40, .if_icmp .ne 9, 3), (43, .aload_n 0, 1), (44, .iload_n 1, 1), (45, .iload_n 2, 1), (46, .invokevirtual 218, 3), (49, .iload_n 3, 1), (50, .ifCond .ne 22, 3), (53, .aload_n 0, 1), (54, .getfield 65, 3), (57, .iload 4, 2), (59, .iaload, 1), (60, .iconst (-1), 1), (61, .if_icmp .ne 7, 3), (64, .iconst 0, 1), (65, .goto 65, 3), (68, .iconst 1, 1), (69, .goto 61, 3), (72, .iload_n 3, 1), (73, .iconst 1, 1), (74, .if_icmp .ne 13, 3), (77, .aload_n 0, 1), (78, .getfield 68, 3), (81, .iload 4, 2), (83, .iaload, 1), (84, .goto 46, 3), (87, .iload_n 3, 1), (88, .iconst 2, 1), (89, .if_icmp .ne 28, 3), (92, .aload_n 0, 1), (93, .getfield 65, 3), (96, .iload 4, 2), (98, .iaload, 1), (99, .iconst (-1), 1), (100, .if_icmp .ne 7, 3), (103, .iconst (-1), 1), (104, .goto 26, 3), (107, .aload_n 0, 1), (108, .getfield 71, 3), (111, .iload 4, 2), (113, .iaload, 1), (114, .goto 16, 3), (117, .iload_n 3, 1), (118, .iconst 3, 1), (119, .if_icmp .ne 10, 3), (122, .aload_n 0, 1), (123, .getfield 176, 3), (126, .goto 4, 3), (129, .iconst (-1), 1), (130, .ireturn, 1)]
theorem m_Mo_node : l_Mo_node.all (fun q => decide (decode b_Mo_node q.1 = .ok (q.2.1, q.2.2))) = true := by decide +kernel
def l_Mo_epoch : List (Nat × Instr × Nat) := [(0, .aload_n 0, 1), (1, .iconst 0, 1), (2, .putfield 155, 3), (5, .iload_n 1, 1), (6, .aload_n 0, 1), (7, .getfield 151, 3), (10, .invokestatic 264, 3), (13, .ifCond .ne 5, 3), (16, .iconst (-1), 1), (17, .ireturn, 1), (18, .iload_n 2, 1), (19, .tableswitch 90 0 6 #[41, 48, 55, 62, 69, 76, 83], 41), (60, .aload_n 0, 1), (61, .getfield 38, 3), (64, .iload_n 1, 1), (65, .iaload, 1), (66, .ireturn, 1), (67, .aload_n 0, 1), (68, .getfield 44, 3), (71, .iload_n 1, 1), (72, .iaload, 1), (73, .ireturn, 1), (74, .aload_n 0, 1), (75, .getfield 47, 3), (78, .iload_n 1, 1), (79, .iaload, 1), (80, .ireturn, 1), (81, .aload_n 0, 1), (82, .getfield 50, 3), (85, .iload_n 1, 1), (86, .iaload, 1), (87, .ireturn, 1), (88, .aload_n 0, 1), (89, .getfield 53, 3), (92, .iload_n 1, 1), (93, .iaload, 1), (94, .ireturn, 1), (95, .aload_n 0, 1), (96, .getfield 56, 3), (99, .iload_n 1, 1), (100, .iaload, 1), (101, .ireturn, 1), (102, .aload_n 0, 1), (103, .getfield 59, 3), (106, .iload_n 1, 1), (107, .iaload, 1), (108, .ireturn, 1), (109, .iconst (-1), 1), (110, .ireturn, 1)]
theorem m_Mo_epoch : l_Mo_epoch.all (fun q => decide (decode b_Mo_epoch q.1 = .ok (q.2.1, q.2.2))) = true := by decide +kernel
def l_Mo_epochs : List (Nat × Instr × Nat) := [(0, .aload_n 0, 1), (1, .iconst 0, 1), (2, .putfield 155, 3), (5, .aload_n 0, 1), (6, .getfield 151, 3), (9, .ireturn, 1)]
theorem m_Mo_epochs : l_Mo_epochs.all (fun q => decide (decode b_Mo_epochs q.1 = .ok (q.2.1, q.2.2))) = true := by decide +kernel
def l_Mo_waiting : List (Nat × Instr × Nat) := [(0, .aload_n 0, 1), (1, .iconst 0, 1), (2, .putfield 155, 3), (5, .aload_n 0, 1), (6, .getfield 195, 3), (9, .ireturn, 1)]
theorem m_Mo_waiting : l_Mo_waiting.all (fun q => decide (decode b_Mo_waiting q.1 = .ok (q.2.1, q.2.2))) = true := by decide +kernel
def l_Mo_isKnown : List (Nat × Instr × Nat) := [(0, .aload_n 0, 1), (1, .iconst 0, 1), (2, .putfield 155, 3), (5, .iload_n 1, 1), (6, .aload_n 0, 1), (7, .getfield 151, 3), (10, .invokestatic 264, 3), (13, .ifCond .ne 5, 3), (16, .iconst 0, 1), (17, .ireturn, 1), (18, .aload_n 0, 1), (19, .invokevirtual 296, 3), (22, .aload_n 0, 1), (23, .getfield 23, 3), (26, .aload_n 0, 1), (27, .getfield 41, 3), (30, .iload_n 1, 1), (31, .iaload, 1), (32, .baload, 1), (33, .ireturn, 1)]
theorem m_Mo_isKnown : l_Mo_isKnown.all (fun q => decide (decode b_Mo_isKnown q.1 = .ok (q.2.1, q.2.2))) = true := by decide +kernel
def l_Mo_intrude : List (Nat × Instr × Nat) := [(0, .iconst 0, 1), (1, .istore_n 1, 1), (2, .iload_n 1, 1), (3, .aload_n 0, 1), (4, .getfield 158, 3), (7, .if_icmp .ge 21, 3), (10, .aload_n 0, 1), (11, .getfield 23, 3), (14, .iload_n 1, 1), (15, .aload_n 0, 1), (16, .getfield 19, 3), (19, .iload_n 1, 1), (20, .baload, 1), (21, .bastore, 1), (22, .iinc 1 1, 3), (25, .goto (-23), 3), (28, .iconst 1, 1), (29, .istore_n 1, 1), (30, .iload_n 1, 1), (31, .ifCond .eq 114, 3), (34, .iconst 0, 1), (35, .istore_n 1, 1), (36, .iconst 0, 1), (37, .istore_n 2, 1), (38, .iload_n 2, 1), (39, .aload_n 0, 1), (40, .getfield 158, 3), (43, .if_icmp .ge 38, 3), (46, .aload_n 0, 1), (47, .getfield 23, 3), (50, .iload_n 2, 1), (51, .baload, 1), (52, .ifCond .ne 23, 3), (55, .aload_n 0, 1), (56, .iload_n 2, 1), (57, .invokevirtual 164, 3), (60, .ifCond .ne 6, 3), (63, .goto 12, 3), (66, .aload_n 0, 1), (67, .getfield 23, 3), (70, .iload_n 2, 1), (71, .iconst 1, 1), (72, .bastore, 1), (73, .iconst 1, 1), (74, .istore_n 1, 1), (75, .iinc 2 1, 3), (78, .goto (-40), 3), (81, .iconst 0, 1), (82, .istore_n 2, 1), (83, .iload_n 2, 1), (84, .aload_n 0, 1), (85, .getfield 161, 3), (88, .if_icmp .ge 54, 3), (91, .aload_n 0, 1), (92, .getfield 23, 3), (95, .aload_n 0, 1), (96, .getfield 26, 3), (99, .iload_n 2, 1), (100, .iaload, 1), (101, .baload, 1), (102, .ifCond .eq 34, 3), (105, .aload_n 0, 1), (106, .getfield 23, 3), (109, .aload_n 0, 1), (110, .getfield 29, 3), (113, .iload_n 2, 1), (114, .iaload, 1), (115, .baload, 1), (116, .ifCond .eq 6, 3), (119, .goto 17, 3), (122, .aload_n 0, 1), (123, .getfield 23, 3), (126, .aload_n 0, 1), (127, .getfield 29, 3), (130, .iload_n 2, 1), (131, .iaload, 1), (132, .iconst 1, 1), (133, .bastore, 1), (134, .iconst 1, 1), (135, .istore_n 1, 1), (136, .iinc 2 1, 3), (139, .goto (-56), 3), (142, .goto (-112), 3), (145, .return_, 1)]
theorem m_Mo_intrude : l_Mo_intrude.all (fun q => decide (decode b_Mo_intrude q.1 = .ok (q.2.1, q.2.2))) = true := by decide +kernel
def l_Mo_follows : List (Nat × Instr × Nat) := [(0, .aload_n 0, 1), (1, .getfield 7, 3), (4, .iload_n 1, 1), (5, .iaload, 1), (6, .tableswitch 72 0 4 #[34, 36, 72, 72, 38], 34), (40, .iconst 1, 1), (41, .ireturn, 1), (42, .iconst 0, 1), (43, .ireturn, 1), (44, .aload_n 0, 1), (45, .getfield 23, 3), (48, .aload_n 0, 1), (49, .getfield 13, 3), (52, .iload_n 1, 1), (53, .iaload, 1), (54, .baload, 1), (55, .ifCond .eq 21, 3), (58, .aload_n 0, 1), (59, .getfield 23, 3), (62, .aload_n 0, 1), (63, .getfield 16, 3), (66, .iload_n 1, 1), (67, .iaload, 1), (68, .baload, 1), (69, .ifCond .eq 7, 3), (72, .iconst 1, 1), (73, .goto 4, 3), (76, .iconst 0, 1), (77, .ireturn, 1), (78, .aload_n 0, 1), (79, .getfield 23, 3), (82, .aload_n 0, 1), (83, .getfield 13, 3), (86, .iload_n 1, 1), (87, .iaload, 1), (88, .baload, 1), (89, .ireturn, 1)]
theorem m_Mo_follows : l_Mo_follows.all (fun q => decide (decode b_Mo_follows q.1 = .ok (q.2.1, q.2.2))) = true := by decide +kernel
def l_Mo_isOpen : List (Nat × Instr × Nat) := [(0, .aload_n 0, 1), (1, .iconst 0, 1), (2, .putfield 155, 3), (5, .iload_n 1, 1), (6, .aload_n 0, 1), (7, .getfield 151, 3), (10, .invokestatic 264, 3), (13, .ifCond .eq 30, 3), (16, .iload_n 2, 1), (17, .aload_n 0, 1), (18, .iload_n 1, 1), (19, .invokevirtual 192, 3), (22, .invokestatic 264, 3), (25, .ifCond .eq 18, 3), (28, .aload_n 0, 1), (29, .getfield 65, 3), (32, .bipush 31, 2), (34, .iload_n 1, 1), (35, .imul, 1), (36, .iload_n 2, 1), (37, .iadd, 1), (38, .iaload, 1), (39, .iconst (-1), 1), (40, .if_icmp .ne 5, 3), (43, .iconst 0, 1), (44, .ireturn, 1), (45, .aload_n 0, 1), (46, .invokevirtual 296, 3), (49, .aload_n 0, 1), (50, .getfield 23, 3), (53, .aload_n 0, 1), (54, .getfield 65, 3), (57, .bipush 31, 2), (59, .iload_n 1, 1), (60, .imul, 1), (61, .iload_n 2, 1), (62, .iadd, 1), (63, .iaload, 1), (64, .baload, 1), (65, .ireturn, 1)]
theorem m_Mo_isOpen : l_Mo_isOpen.all (fun q => decide (decode b_Mo_isOpen q.1 = .ok (q.2.1, q.2.2))) = true := by decide +kernel
def l_Mo_known : List (Nat × Instr × Nat) := [(0, .aload_n 0, 1), (1, .iconst 0, 1), (2, .putfield 155, 3), (5, .aload_n 0, 1), (6, .invokevirtual 296, 3), (9, .iconst 0, 1), (10, .istore_n 1, 1), (11, .iconst 0, 1), (12, .istore_n 2, 1), (13, .iload_n 2, 1), (14, .aload_n 0, 1), (15, .getfield 151, 3), (18, .if_icmp .ge 31, 3), (21, .iload_n 1, 1), (22, .aload_n 0, 1), (23, .getfield 23, 3), (26, .aload_n 0, 1), (27, .getfield 41, 3), (30, .iload_n 2, 1), (31, .iaload, 1), (32, .baload, 1), (33, .ifCond .eq 7, 3), (36, .iconst 1, 1), (37, .goto 4, 3), (40, .iconst 0, 1), (41, .iadd, 1), (42, .istore_n 1, 1), (43, .iinc 2 1, 3), (46, .goto (-33), 3), (49, .iload_n 1, 1), (50, .ireturn, 1)]
theorem m_Mo_known : l_Mo_known.all (fun q => decide (decode b_Mo_known q.1 = .ok (q.2.1, q.2.2))) = true := by decide +kernel
end
section
/-! ===== Row: numbers behind tested indices; Arrays.fill ===== -/
def r_in (n : Nat) (i : Int32) : Prop := ¬ i < 0 ∧ ¬ nI n ≤ i
theorem r_in_of {n : Nat} {i : Int32} (hn : n < 2 ^ 31) (h : r_in n i) : ∃ j : Nat, j < n ∧ i = nI j := by
  obtain ⟨j, hj, e⟩ := nI_of h.1
  refine ⟨j, ?_, e⟩
  rcases Nat.lt_or_ge j n with q | q
  · exact q
  · exact absurd (by rw [e]; exact nI_le q hj) h.2
theorem r_in_nI {n j : Nat} (hj : j < n) (hn : n < 2 ^ 31) : r_in n (nI j) := ⟨nI_pos (by omega), nI_ge hj hn⟩
noncomputable def r_get (n : Nat) (f : Nat → Int32) (i : Int32) : Int32 := by
  classical exact if r_in n i then f i.toNatClampNeg else -1
noncomputable def r_put (n : Nat) (f : Nat → Int32) (i v : Int32) : Nat → Int32 := by
  classical exact if r_in n i then upd f i.toNatClampNeg v else f
theorem r_get_in {n j : Nat} {f : Nat → Int32} (hj : j < n) (hn : n < 2 ^ 31) : r_get n f (nI j) = f j := by
  unfold r_get
  rw [if_pos (r_in_nI hj hn), nI_clamp (by omega)]
theorem r_get_out {n : Nat} {f : Nat → Int32} {i : Int32} (h : ¬ r_in n i) : r_get n f i = -1 := by
  unfold r_get
  rw [if_neg h]
theorem r_put_in {n j : Nat} {f : Nat → Int32} {v : Int32} (hj : j < n) (hn : n < 2 ^ 31) : r_put n f (nI j) v = upd f j v := by
  unfold r_put
  rw [if_pos (r_in_nI hj hn), nI_clamp (by omega)]
theorem r_put_out {n : Nat} {f : Nat → Int32} {i v : Int32} (h : ¬ r_in n i) : r_put n f i v = f := by
  unfold r_put
  rw [if_neg h]
abbrev q_row (h : q_H) (r c n : Nat) (f : Nat → Int32) : Prop := h r = some (.inl (2, [.ref c])) ∧ h c = some (.inr (0, n, .inl f))
theorem q_up_id {h : q_H} {a : Nat} {o : q_O} (e : h a = some o) : q_up h a o = h := by
  funext b
  unfold q_up
  by_cases hb : b = a
  · rw [if_pos hb, hb, e]
  · rw [if_neg hb]
set_option maxHeartbeats 1000000 in
theorem c_Row_get (g : q_G) {h : q_H} {r c n : Nat} {f : Nat → Int32} (i : Int32) (d : Nat) (hr : h r = some (.inl (2, [.ref c]))) (hc : h c = some (.inr (0, n, .inl f))) (hn : n < 2 ^ 31) : MG g y_Row_get b_Row_get 2 (some .int) d 0 0 [.ref r, .int i] h (fun q h' => q = .inl (some (.int (r_get n f i))) ∧ h' = h) := by
  refine MG.of (by decide +kernel) (by simp [Value.category]) (Nat.le_of_ble_eq_true rfl) ?_
  intro Z A ok
  refine g_iload_n ok (dk m_Row_get 0 rfl) (pc' := 1) rfl (i := 1) rfl rfl ?_
  refine g_if_lt ok (dk m_Row_get 1 rfl) (tgt := 22) (by decide) (pc' := 4) rfl (fun c_1 => ?_) (fun c_1 => ?_)
  · refine g_iconst ok (dk m_Row_get 12 rfl) (pc' := 23) rfl (v := (-1)) (by decide) ?_
    exact g_iret ok (dk m_Row_get 13 rfl) rfl rfl ⟨by rw [r_get_out (fun z => z.1 c_1)], rfl⟩
  · refine g_iload_n ok (dk m_Row_get 2 rfl) (pc' := 5) rfl (i := 1) rfl rfl ?_
    refine g_aload_n ok (dk m_Row_get 3 rfl) (pc' := 6) rfl (i := 0) rfl rfl ?_
    refine g_get ok (dk m_Row_get 4 rfl) (pc' := 9) rfl f_Row_9 (by assumption) rfl ?_
    refine g_alen ok (dk m_Row_get 5 rfl) (pc' := 10) rfl (by assumption) rfl ?_
    refine g_icmp_ge ok (dk m_Row_get 6 rfl) (tgt := 22) (by decide) (pc' := 13) rfl (fun c_10 => ?_) (fun c_10 => ?_)
    · refine g_iconst ok (dk m_Row_get 12 rfl) (pc' := 23) rfl (v := (-1)) (by decide) ?_
      exact g_iret ok (dk m_Row_get 13 rfl) rfl rfl ⟨by rw [r_get_out (fun z => z.2 c_10)], rfl⟩
    · refine g_aload_n ok (dk m_Row_get 7 rfl) (pc' := 14) rfl (i := 0) rfl rfl ?_
      refine g_get ok (dk m_Row_get 8 rfl) (pc' := 17) rfl f_Row_9 (by assumption) rfl ?_
      refine g_iload_n ok (dk m_Row_get 9 rfl) (pc' := 18) rfl (i := 1) rfl rfl ?_
      obtain ⟨j, hj, rfl⟩ := r_in_of hn ⟨c_1, c_10⟩
      refine g_iald ok (dk m_Row_get 10 rfl) (pc' := 19) rfl hc hj hn ?_
      refine g_goto ok (dk m_Row_get 11 rfl) (pc' := 23) (by decide) ?_
      exact g_iret ok (dk m_Row_get 13 rfl) rfl rfl ⟨by rw [r_get_in hj hn], rfl⟩
set_option maxHeartbeats 1000000 in
theorem c_Row_put (g : q_G) {h : q_H} {r c n : Nat} {f : Nat → Int32} (i v : Int32) (d : Nat) (hr : h r = some (.inl (2, [.ref c]))) (hc : h c = some (.inr (0, n, .inl f))) (hn : n < 2 ^ 31) : MG g y_Row_put b_Row_put 3 none d 0 0 [.ref r, .int i, .int v] h (fun q h' => q = .inl none ∧ h' = q_up h c (.inr (0, n, .inl (r_put n f i v)))) := by
  refine MG.of (by decide +kernel) (by simp [Value.category]) (Nat.le_of_ble_eq_true rfl) ?_
  intro Z A ok
  refine g_iload_n ok (dk m_Row_put 0 rfl) (pc' := 1) rfl (i := 1) rfl rfl ?_
  refine g_if_lt ok (dk m_Row_put 1 rfl) (tgt := 20) (by decide) (pc' := 4) rfl (fun c_1 => ?_) (fun c_1 => ?_)
  · exact g_vret ok (dk m_Row_put 12 rfl) rfl ⟨rfl, by rw [r_put_out (fun z => z.1 c_1), q_up_id hc]⟩
  · refine g_iload_n ok (dk m_Row_put 2 rfl) (pc' := 5) rfl (i := 1) rfl rfl ?_
    refine g_aload_n ok (dk m_Row_put 3 rfl) (pc' := 6) rfl (i := 0) rfl rfl ?_
    refine g_get ok (dk m_Row_put 4 rfl) (pc' := 9) rfl f_Row_9 (by assumption) rfl ?_
    refine g_alen ok (dk m_Row_put 5 rfl) (pc' := 10) rfl (by assumption) rfl ?_
    refine g_icmp_ge ok (dk m_Row_put 6 rfl) (tgt := 20) (by decide) (pc' := 13) rfl (fun c_10 => ?_) (fun c_10 => ?_)
    · exact g_vret ok (dk m_Row_put 12 rfl) rfl ⟨rfl, by rw [r_put_out (fun z => z.2 c_10), q_up_id hc]⟩
    · refine g_aload_n ok (dk m_Row_put 7 rfl) (pc' := 14) rfl (i := 0) rfl rfl ?_
      refine g_get ok (dk m_Row_put 8 rfl) (pc' := 17) rfl f_Row_9 (by assumption) rfl ?_
      refine g_iload_n ok (dk m_Row_put 9 rfl) (pc' := 18) rfl (i := 1) rfl rfl ?_
      refine g_iload_n ok (dk m_Row_put 10 rfl) (pc' := 19) rfl (i := 2) rfl rfl ?_
      obtain ⟨j, hj, rfl⟩ := r_in_of hn ⟨c_1, c_10⟩
      refine g_iast ok (dk m_Row_put 11 rfl) (pc' := 20) rfl hc hj hn ?_
      exact g_vret ok (dk m_Row_put 12 rfl) rfl ⟨rfl, by rw [r_put_in hj hn]⟩
def r_fill (k : Nat) (f : Nat → Int32) (v : Int32) : Nat → Int32 := fun j => if j < k then v else f j
theorem r_fill_0 (f : Nat → Int32) (v : Int32) : r_fill 0 f v = f := by
  funext j
  simp [r_fill]
theorem r_fill_s (k : Nat) (f : Nat → Int32) (v : Int32) : upd (r_fill k f v) k v = r_fill (k + 1) f v := by
  funext j
  unfold upd r_fill
  by_cases e : j = k
  · rw [if_pos e, if_pos (by omega)]
  · rw [if_neg e]
    by_cases e2 : j < k
    · rw [if_pos e2, if_pos (by omega)]
    · rw [if_neg e2, if_neg (by omega)]
set_option maxHeartbeats 1000000 in
theorem c_Arr_fill (g : q_G) {h : q_H} {a N : Nat} {f : Nat → Int32} (v : Int32) (d : Nat) (ha : h a = some (.inr (0, N, .inl f))) (hN : N < 2 ^ 31) : MG g y_Arr_fill b_Arr_fill 4 none d 0 0 [.ref a, .int v] h (fun q h' => q = .inl none ∧ h' = q_up h a (.inr (0, N, .inl (r_fill N f v)))) := by
  refine MG.of (by decide +kernel) (by simp [Value.category]) (Nat.le_of_ble_eq_true rfl) ?_
  intro Z A ok
  have loop : ∀ (m k : Nat), k + m = N → GW g Z A (fun q h' => q = .inl none ∧ h' = q_up h a (.inr (0, N, .inl (r_fill N f v)))) 0 0 (q_up h a (.inr (0, N, .inl (r_fill k f v)))) 5 [some (.ref a), some (.int v), some (.int (nI k)), some (.int (nI N))] [] := by
    intro m
    induction m with
    | zero =>
      intro k hk
      refine g_iload_n ok (dk m_Arr_fill 5 rfl) (pc' := 6) rfl (i := 2) rfl rfl ?_
      refine g_iload_n ok (dk m_Arr_fill 6 rfl) (pc' := 7) rfl (i := 3) rfl rfl ?_
      refine g_icmp_ge ok (dk m_Arr_fill 7 rfl) (tgt := 20) (by decide) (pc' := 10) rfl (fun c_7 => ?_) (fun c_7 => absurd (nI_le (a := N) (b := k) (by omega) (by omega)) c_7)
      exact g_vret ok (dk m_Arr_fill 14 rfl) rfl ⟨rfl, by rw [show k = N by omega]⟩
    | succ m ih =>
      intro k hk
      refine g_iload_n ok (dk m_Arr_fill 5 rfl) (pc' := 6) rfl (i := 2) rfl rfl ?_
      refine g_iload_n ok (dk m_Arr_fill 6 rfl) (pc' := 7) rfl (i := 3) rfl rfl ?_
      refine g_icmp_ge ok (dk m_Arr_fill 7 rfl) (tgt := 20) (by decide) (pc' := 10) rfl (fun c_7 => absurd c_7 (nI_ge (by omega) hN)) (fun c_7 => ?_)
      refine g_aload_n ok (dk m_Arr_fill 8 rfl) (pc' := 11) rfl (i := 0) rfl rfl ?_
      refine g_iload_n ok (dk m_Arr_fill 9 rfl) (pc' := 12) rfl (i := 2) rfl rfl ?_
      refine g_iload_n ok (dk m_Arr_fill 10 rfl) (pc' := 13) rfl (i := 1) rfl rfl ?_
      refine g_iast ok (dk m_Arr_fill 11 rfl) (pc' := 14) rfl (q_up_s _ _ _) (by omega) hN ?_
      refine g_heap (by rw [q_up_u, r_fill_s]) ?_
      refine g_iinc ok (dk m_Arr_fill 12 rfl) (pc' := 17) rfl rfl (nI_1 k) rfl ?_
      refine g_goto ok (dk m_Arr_fill 13 rfl) (pc' := 5) (by decide) ?_
      exact ih (k + 1) (by omega)
  refine g_iconst ok (dk m_Arr_fill 0 rfl) (pc' := 1) rfl (v := 0) (by decide) ?_
  refine g_istore_n ok (dk m_Arr_fill 1 rfl) (pc' := 2) rfl (i := 2) rfl (Nat.le_of_ble_eq_true rfl) rfl ?_
  refine g_aload_n ok (dk m_Arr_fill 2 rfl) (pc' := 3) rfl (i := 0) rfl rfl ?_
  refine g_alen ok (dk m_Arr_fill 3 rfl) (pc' := 4) rfl ha rfl ?_
  refine g_istore_n ok (dk m_Arr_fill 4 rfl) (pc' := 5) rfl (i := 3) rfl (Nat.le_of_ble_eq_true rfl) rfl ?_
  exact g_heap (by rw [r_fill_0, q_up_id ha]) (loop N 0 (by omega))
set_option maxHeartbeats 1000000 in
theorem c_Row_fill (g : q_G) {h : q_H} {r c n : Nat} {f : Nat → Int32} (v : Int32) (d : Nat) (hd : 1 ≤ d) (hr : h r = some (.inl (2, [.ref c]))) (hc : h c = some (.inr (0, n, .inl f))) (hn : n < 2 ^ 31) : MG g y_Row_fill b_Row_fill 2 none d 0 0 [.ref r, .int v] h (fun q h' => q = .inl none ∧ h' = q_up h c (.inr (0, n, .inl (r_fill n f v)))) := by
  refine MG.of (by decide +kernel) (by simp [Value.category]) (Nat.le_of_ble_eq_true rfl) ?_
  intro Z A ok
  refine g_aload_n ok (dk m_Row_fill 0 rfl) (pc' := 1) rfl (i := 0) rfl rfl ?_
  refine g_get ok (dk m_Row_fill 1 rfl) (pc' := 4) rfl f_Row_9 hr rfl ?_
  refine g_iload_n ok (dk m_Row_fill 2 rfl) (pc' := 5) rfl (i := 1) rfl rfl ?_
  refine g_callS ok (dk m_Row_fill 3 rfl) (pc' := 8) rfl c_Row_15 (c_Arr_fill g v 0 hc hn) rfl rfl (by simp [Value.category]) (by omega) rfl (rc' := 0) (rs' := 0) (by omega) (by omega) (fun rv h' hcc => ?_) (fun i h' hcc => by obtain ⟨e, -⟩ := hcc; cases e)
  obtain ⟨e, e2⟩ := hcc
  have e3 := e2.symm
  subst e3
  cases e
  exact g_vret ok (dk m_Row_fill 4 rfl) rfl ⟨rfl, rfl⟩
theorem q_oa {h : q_H} {a b : Nat} {x : Nat × List Value} {y : Nat × vp_A} (ha : h a = some (.inl x)) (hb : h b = some (.inr y)) : a ≠ b := fun e => by
  rw [e, hb] at ha
  cases ha
theorem q_on {h : q_H} {a b : Nat} {o : q_O} (ha : h a = some o) (hb : h b = none) : a ≠ b := fun e => by
  rw [e, hb] at ha
  cases ha
def r_copy (k : Nat) (v f : Nat → Int32) : Nat → Int32 := fun j => if j < k then v j else f j
theorem r_copy_0 (v f : Nat → Int32) : r_copy 0 v f = f := by
  funext j
  simp [r_copy]
theorem r_copy_s (k : Nat) (v f : Nat → Int32) : upd (r_copy k v f) k (v k) = r_copy (k + 1) v f := by
  funext j
  unfold upd r_copy
  by_cases e : j = k
  · rw [if_pos e, if_pos (by omega), e]
  · rw [if_neg e]
    by_cases e2 : j < k
    · rw [if_pos e2, if_pos (by omega)]
    · rw [if_neg e2, if_neg (by omega)]
set_option maxHeartbeats 1000000 in
theorem c_Row_init (g : q_G) {h : q_H} {r N : Nat} (v : Int32) (d : Nat) (hd : 1 ≤ d) (hr : h r = some (.inl (2, [.null]))) (hN0 : 0 < N) (hN : N * 4 ≤ 536870912) : MG g y_Row_init b_Row_init 3 none d 1 N [.ref r, .int (nI N), .int v] h (fun q h' => q = .inl none ∧ ∃ c, h c = none ∧ q_bs g ≤ c ∧ h' = q_up (q_up h r (.inl (2, [.ref c]))) c (.inr (0, N, .inl (r_fill N (fun _ => 0) v)))) := by
  refine MG.of (by decide +kernel) (by simp [Value.category]) (Nat.le_of_ble_eq_true rfl) ?_
  intro Z A ok
  refine g_aload_n ok (dk m_Row_init 0 rfl) (pc' := 1) rfl (i := 0) rfl rfl ?_
  refine g_objInit ok (dk m_Row_init 1 rfl) (pc' := 4) rfl c_Row_3 (by simp [Value.category]) (by omega) rfl ?_
  refine g_aload_n ok (dk m_Row_init 2 rfl) (pc' := 5) rfl (i := 0) rfl rfl ?_
  refine g_iload_n ok (dk m_Row_init 3 rfl) (pc' := 6) rfl (i := 1) rfl rfl ?_
  refine g_if_le ok (dk m_Row_init 4 rfl) (tgt := 13) (by decide) (pc' := 9) rfl (fun c_6 => absurd c_6 (nI_nle hN0 (by omega))) (fun c_6 => ?_)
  refine g_iload_n ok (dk m_Row_init 5 rfl) (pc' := 10) rfl (i := 1) rfl rfl ?_
  refine g_goto ok (dk m_Row_init 6 rfl) (pc' := 14) (by decide) ?_
  refine g_newa ok (dk m_Row_init 8 rfl) (pc' := 16) rfl rfl (Or.inl ⟨rfl, rfl⟩) hN (rc' := 0) (rs' := 0) (by omega) (by omega) (fun c hc hcb => ?_)
  refine g_put ok (dk m_Row_init 9 rfl) (pc' := 19) rfl f_Row_9 (Or.inr rfl) (show q_up h c _ r = some (.inl (2, [.null])) by rw [q_up_n (q_on hr hc)]; exact hr) (Nat.le_of_ble_eq_true rfl) rfl rfl ?_
  refine g_aload_n ok (dk m_Row_init 10 rfl) (pc' := 20) rfl (i := 0) rfl rfl ?_
  refine g_get ok (dk m_Row_init 11 rfl) (pc' := 23) rfl f_Row_9 (q_up_s _ _ _) rfl ?_
  refine g_iload_n ok (dk m_Row_init 12 rfl) (pc' := 24) rfl (i := 2) rfl rfl ?_
  refine g_callS ok (dk m_Row_init 13 rfl) (pc' := 27) rfl c_Row_15 (c_Arr_fill g v 0 (show q_up (q_up h c _) r _ c = _ by rw [q_up_n (q_on hr hc).symm, q_up_s]) (by omega)) rfl rfl (by simp [Value.category]) (by omega) rfl (rc' := 0) (rs' := 0) (by omega) (by omega) (fun rv h' hcc => ?_) (fun i h' hcc => by obtain ⟨e, -⟩ := hcc; cases e)
  obtain ⟨e, e2⟩ := hcc
  have e3 := e2.symm
  subst e3
  cases e
  exact g_vret ok (dk m_Row_init 14 rfl) rfl ⟨rfl, c, hc, hcb, by rw [q_up_c (q_on hr hc), q_up_u, q_up_c (q_on hr hc).symm]; rfl⟩
set_option maxHeartbeats 1000000 in
theorem c_Row_copy (g : q_G) {h : q_H} {r c n s c2 n2 : Nat} {f f2 : Nat → Int32} (d : Nat) (hd : 1 ≤ d) (hr : h r = some (.inl (2, [.ref c]))) (hc : h c = some (.inr (0, n, .inl f))) (hn : n < 2 ^ 31) (hs : h s = some (.inl (2, [.ref c2]))) (hc2 : h c2 = some (.inr (0, n2, .inl f2))) (hn2 : n2 < 2 ^ 31) (hne : c2 ≠ c) : MG g y_Row_copy b_Row_copy 3 none d 0 0 [.ref r, .ref s] h (fun q h' => q = .inl none ∧ h' = q_up h c (.inr (0, n, .inl (r_copy n (fun j => r_get n2 f2 (nI j)) f)))) := by
  refine MG.of (by decide +kernel) (by simp [Value.category]) (Nat.le_of_ble_eq_true rfl) ?_
  intro Z A ok
  have loop : ∀ (m k : Nat), k + m = n → GW g Z A (fun q h' => q = .inl none ∧ h' = q_up h c (.inr (0, n, .inl (r_copy n (fun j => r_get n2 f2 (nI j)) f)))) 0 0 (q_up h c (.inr (0, n, .inl (r_copy k (fun j => r_get n2 f2 (nI j)) f)))) 2 [some (.ref r), some (.ref s), some (.int (nI k))] [] := by
    intro m
    induction m with
    | zero =>
      intro k hk
      have hr1 : q_up h c (.inr (0, n, .inl (r_copy k (fun j => r_get n2 f2 (nI j)) f))) r = some (.inl (2, [.ref c])) := by rw [q_up_n (q_oa hr hc)]; exact hr
      refine g_iload_n ok (dk m_Row_copy 2 rfl) (pc' := 3) rfl (i := 2) rfl rfl ?_
      refine g_aload_n ok (dk m_Row_copy 3 rfl) (pc' := 4) rfl (i := 0) rfl rfl ?_
      refine g_get ok (dk m_Row_copy 4 rfl) (pc' := 7) rfl f_Row_9 hr1 rfl ?_
      refine g_alen ok (dk m_Row_copy 5 rfl) (pc' := 8) rfl (q_up_s _ _ _) rfl ?_
      refine g_icmp_ge ok (dk m_Row_copy 6 rfl) (tgt := 28) (by decide) (pc' := 11) rfl (fun c_8 => ?_) (fun c_8 => absurd (nI_le (a := n) (b := k) (by omega) (by omega)) c_8)
      exact g_vret ok (dk m_Row_copy 16 rfl) rfl ⟨rfl, by rw [show k = n by omega]⟩
    | succ m ih =>
      intro k hk
      have hr1 : q_up h c (.inr (0, n, .inl (r_copy k (fun j => r_get n2 f2 (nI j)) f))) r = some (.inl (2, [.ref c])) := by rw [q_up_n (q_oa hr hc)]; exact hr
      have hs1 : q_up h c (.inr (0, n, .inl (r_copy k (fun j => r_get n2 f2 (nI j)) f))) s = some (.inl (2, [.ref c2])) := by rw [q_up_n (q_oa hs hc)]; exact hs
      have hs2 : q_up h c (.inr (0, n, .inl (r_copy k (fun j => r_get n2 f2 (nI j)) f))) c2 = some (.inr (0, n2, .inl f2)) := by rw [q_up_n hne]; exact hc2
      refine g_iload_n ok (dk m_Row_copy 2 rfl) (pc' := 3) rfl (i := 2) rfl rfl ?_
      refine g_aload_n ok (dk m_Row_copy 3 rfl) (pc' := 4) rfl (i := 0) rfl rfl ?_
      refine g_get ok (dk m_Row_copy 4 rfl) (pc' := 7) rfl f_Row_9 hr1 rfl ?_
      refine g_alen ok (dk m_Row_copy 5 rfl) (pc' := 8) rfl (q_up_s _ _ _) rfl ?_
      refine g_icmp_ge ok (dk m_Row_copy 6 rfl) (tgt := 28) (by decide) (pc' := 11) rfl (fun c_8 => absurd c_8 (nI_ge (a := k) (b := n) (by omega) hn)) (fun c_8 => ?_)
      refine g_aload_n ok (dk m_Row_copy 7 rfl) (pc' := 12) rfl (i := 0) rfl rfl ?_
      refine g_get ok (dk m_Row_copy 8 rfl) (pc' := 15) rfl f_Row_9 hr1 rfl ?_
      refine g_iload_n ok (dk m_Row_copy 9 rfl) (pc' := 16) rfl (i := 2) rfl rfl ?_
      refine g_aload_n ok (dk m_Row_copy 10 rfl) (pc' := 17) rfl (i := 1) rfl rfl ?_
      refine g_iload_n ok (dk m_Row_copy 11 rfl) (pc' := 18) rfl (i := 2) rfl rfl ?_
      refine g_callV ok (dk m_Row_copy 12 rfl) (pc' := 21) rfl c_Row_21 (c_Row_get g (nI k) 0 hs1 hs2 hn2) hs1 rfl rfl (by simp [Value.category]) (by omega) rfl (rc' := 0) (rs' := 0) (by omega) (by omega) (fun rv h' hcc => ?_) (fun i h' hcc => by obtain ⟨e, -⟩ := hcc; cases e)
      obtain ⟨e, e2⟩ := hcc
      have e3 := e2.symm
      subst e3
      cases e
      refine g_iast ok (dk m_Row_copy 13 rfl) (pc' := 22) rfl (q_up_s _ _ _) (by omega) hn ?_
      refine g_heap (h' := q_up h c (.inr (0, n, .inl (r_copy (k + 1) (fun j => r_get n2 f2 (nI j)) f)))) (by rw [q_up_u]; exact congrArg (fun z => q_up h c (.inr (0, n, .inl z))) (r_copy_s k (fun j => r_get n2 f2 (nI j)) f)) ?_
      refine g_iinc ok (dk m_Row_copy 14 rfl) (pc' := 25) rfl rfl (nI_1 k) rfl ?_
      refine g_goto ok (dk m_Row_copy 15 rfl) (pc' := 2) (by decide) ?_
      exact ih (k + 1) (by omega)
  refine g_iconst ok (dk m_Row_copy 0 rfl) (pc' := 1) rfl (v := 0) (by decide) ?_
  refine g_istore_n ok (dk m_Row_copy 1 rfl) (pc' := 2) rfl (i := 2) rfl (Nat.le_of_ble_eq_true rfl) rfl ?_
  exact g_heap (by rw [r_copy_0, q_up_id hc]) (loop n 0 (by omega))
end
section
/-! ===== java.util.ArrayList, and what it stands on ===== -/
theorem g_acmpR_eq {g : q_G} {Z : q_Z} {A : Nat → Prop} {post : q_R → q_H → Prop} {rc rs : Nat} {h : q_H} {pc pc' : Nat} {ls : List (Option Value)} {st : List Value} {own name : String} {cc : ByteArray} {nL d : Nat} {ret : Option FieldType} (ok : q_ok g Z A own name cc nL ret d) {x y : Nat} {off : Int} {tgt : Nat} (hd : decode cc pc = .ok (.if_acmp .eq off, 3)) (ht : (pc : Int) + off = (tgt : Int)) (hp : pc + 3 = pc') (kt : x = y → GW g Z A post rc rs h tgt ls st) (kf : ¬ x = y → GW g Z A post rc rs h pc' ls st) : GW g Z A post rc rs h pc ls (.ref y :: .ref x :: st) :=
  g_acmp_eq (rx := some x) (ry := some y) ok hd ht hp (fun z => kt (Option.some.inj z)) (fun z => kf (fun e => z (by rw [e])))
theorem g_acmpR_ne {g : q_G} {Z : q_Z} {A : Nat → Prop} {post : q_R → q_H → Prop} {rc rs : Nat} {h : q_H} {pc pc' : Nat} {ls : List (Option Value)} {st : List Value} {own name : String} {cc : ByteArray} {nL d : Nat} {ret : Option FieldType} (ok : q_ok g Z A own name cc nL ret d) {x y : Nat} {off : Int} {tgt : Nat} (hd : decode cc pc = .ok (.if_acmp .ne off, 3)) (ht : (pc : Int) + off = (tgt : Int)) (hp : pc + 3 = pc') (kt : ¬ x = y → GW g Z A post rc rs h tgt ls st) (kf : x = y → GW g Z A post rc rs h pc' ls st) : GW g Z A post rc rs h pc ls (.ref y :: .ref x :: st) :=
  g_acmp_ne (rx := some x) (ry := some y) ok hd ht hp (fun z => kt (fun e => z (by rw [e]))) (fun z => kf (Option.some.inj z))
abbrev q_ra (N : Nat) (f : Nat → Option Nat) : q_O := .inr (2, N, .inr (.inr (.inr (.inr f))))
set_option maxHeartbeats 1000000 in
theorem c_AC_init (g : q_G) {h : q_H} (a : Nat) (d : Nat) (hd : 1 ≤ d) : MG g y_AC_init b_AC_init 1 none d 0 0 [.ref a] h (fun q h' => q = .inl none ∧ h' = h) := by
  refine MG.of (by decide +kernel) (by simp [Value.category]) (Nat.le_of_ble_eq_true rfl) ?_
  intro Z A ok
  refine g_aload_n ok (dk m_AC_init 0 rfl) (pc' := 1) rfl (i := 0) rfl rfl ?_
  refine g_objInit ok (dk m_AC_init 1 rfl) (pc' := 4) rfl c_AC_1 (by simp [Value.category]) (by omega) rfl ?_
  exact g_vret ok (dk m_AC_init 2 rfl) rfl ⟨rfl, rfl⟩
set_option maxHeartbeats 1000000 in
theorem c_ALs_init (g : q_G) {h : q_H} {a : Nat} {e s m : Value} (d : Nat) (hd : 2 ≤ d) (ha : h a = some (.inl (3, [e, s, m]))) : MG g y_ALs_init b_ALs_init 1 none d 0 0 [.ref a] h (fun q h' => q = .inl none ∧ h' = q_up h a (.inl (3, [e, s, .int 0]))) := by
  refine MG.of (by decide +kernel) (by simp [Value.category]) (Nat.le_of_ble_eq_true rfl) ?_
  intro Z A ok
  refine g_aload_n ok (dk m_ALs_init 0 rfl) (pc' := 1) rfl (i := 0) rfl rfl ?_
  refine g_callI ok (dk m_ALs_init 1 rfl) (pc' := 4) rfl c_ALs_1 (c_AC_init g a 1 (by omega)) rfl rfl (by simp [Value.category]) (by omega) rfl (rc' := 0) (rs' := 0) (by omega) (by omega) (fun rv h' hcc => ?_) (fun i h' hcc => by obtain ⟨e, -⟩ := hcc; cases e)
  obtain ⟨e, e2⟩ := hcc
  have e3 := e2.symm
  subst e3
  cases e
  refine g_aload_n ok (dk m_ALs_init 2 rfl) (pc' := 5) rfl (i := 0) rfl rfl ?_
  refine g_iconst ok (dk m_ALs_init 3 rfl) (pc' := 6) rfl (v := 0) (by decide) ?_
  refine g_put ok (dk m_ALs_init 4 rfl) (pc' := 9) rfl f_ALs_7 (Or.inl rfl) ha (Nat.le_of_ble_eq_true rfl) rfl rfl ?_
  exact g_vret ok (dk m_ALs_init 5 rfl) rfl ⟨rfl, rfl⟩
set_option maxHeartbeats 1000000 in
theorem c_AL_init (g : q_G) {h : q_H} {a : Nat} (d : Nat) (hd : 3 ≤ d) (ha : h a = some (.inl (3, [.null, .int 0, .int 0]))) : MG g y_AL_init b_AL_init 1 none d 0 0 [.ref a] h (fun q h' => q = .inl none ∧ h' = q_up h a (.inl (3, [.ref (q_ad g 0), .int 0, .int 0]))) := by
  refine MG.of (by decide +kernel) (by simp [Value.category]) (Nat.le_of_ble_eq_true rfl) ?_
  intro Z A ok
  refine g_aload_n ok (dk m_AL_init 0 rfl) (pc' := 1) rfl (i := 0) rfl rfl ?_
  refine g_callI ok (dk m_AL_init 1 rfl) (pc' := 4) rfl c_AL_1 (c_ALs_init g 2 (by omega) ha) rfl rfl (by simp [Value.category]) (by omega) rfl (rc' := 0) (rs' := 0) (by omega) (by omega) (fun rv h' hcc => ?_) (fun i h' hcc => by obtain ⟨e, -⟩ := hcc; cases e)
  obtain ⟨e, e2⟩ := hcc
  have e3 := e2.symm
  subst e3
  cases e
  refine g_aload_n ok (dk m_AL_init 2 rfl) (pc' := 5) rfl (i := 0) rfl rfl ?_
  refine g_getE ok (dk m_AL_init 3 rfl) (pc' := 8) rfl (q_T_in 102 (by decide +kernel) rfl) ?_
  refine g_put ok (dk m_AL_init 4 rfl) (pc' := 11) rfl f_AL_9 (Or.inl rfl) (q_up_s _ _ _) (Nat.le_of_ble_eq_true rfl) rfl rfl ?_
  exact g_vret ok (dk m_AL_init 5 rfl) rfl ⟨rfl, by rw [q_up_u]; rfl⟩
set_option maxHeartbeats 1000000 in
theorem c_Math_max (g : q_G) {h : q_H} (x y : Int32) (d : Nat) : MG g y_Math_max b_Math_max 2 (some .int) d 0 0 [.int x, .int y] h (fun q h' => q = .inl (some (.int (if x < y then y else x))) ∧ h' = h) := by
  refine MG.of (by decide +kernel) (by simp [Value.category]) (Nat.le_of_ble_eq_true rfl) ?_
  intro Z A ok
  refine g_iload_n ok (dk m_Math_max 0 rfl) (pc' := 1) rfl (i := 0) rfl rfl ?_
  refine g_iload_n ok (dk m_Math_max 1 rfl) (pc' := 2) rfl (i := 1) rfl rfl ?_
  refine g_icmp_lt ok (dk m_Math_max 2 rfl) (tgt := 9) (by decide) (pc' := 5) rfl (fun c_2 => ?_) (fun c_2 => ?_)
  · refine g_iload_n ok (dk m_Math_max 5 rfl) (pc' := 10) rfl (i := 1) rfl rfl ?_
    exact g_iret ok (dk m_Math_max 6 rfl) rfl rfl ⟨by rw [if_pos c_2], rfl⟩
  · refine g_iload_n ok (dk m_Math_max 3 rfl) (pc' := 6) rfl (i := 0) rfl rfl ?_
    refine g_goto ok (dk m_Math_max 4 rfl) (pc' := 10) (by decide) ?_
    exact g_iret ok (dk m_Math_max 6 rfl) rfl rfl ⟨by rw [if_neg c_2], rfl⟩
set_option maxHeartbeats 1000000 in
theorem c_Math_min (g : q_G) {h : q_H} (x y : Int32) (d : Nat) : MG g y_Math_min b_Math_min 2 (some .int) d 0 0 [.int x, .int y] h (fun q h' => q = .inl (some (.int (if y < x then y else x))) ∧ h' = h) := by
  refine MG.of (by decide +kernel) (by simp [Value.category]) (Nat.le_of_ble_eq_true rfl) ?_
  intro Z A ok
  refine g_iload_n ok (dk m_Math_min 0 rfl) (pc' := 1) rfl (i := 0) rfl rfl ?_
  refine g_iload_n ok (dk m_Math_min 1 rfl) (pc' := 2) rfl (i := 1) rfl rfl ?_
  refine g_icmp_gt ok (dk m_Math_min 2 rfl) (tgt := 9) (by decide) (pc' := 5) rfl (fun c_2 => ?_) (fun c_2 => ?_)
  · refine g_iload_n ok (dk m_Math_min 5 rfl) (pc' := 10) rfl (i := 1) rfl rfl ?_
    exact g_iret ok (dk m_Math_min 6 rfl) rfl rfl ⟨by rw [if_pos c_2], rfl⟩
  · refine g_iload_n ok (dk m_Math_min 3 rfl) (pc' := 6) rfl (i := 0) rfl rfl ?_
    refine g_goto ok (dk m_Math_min 4 rfl) (pc' := 10) (by decide) ?_
    exact g_iret ok (dk m_Math_min 6 rfl) rfl rfl ⟨by rw [if_neg c_2], rfl⟩
set_option maxHeartbeats 1000000 in
theorem c_ASup_newLength (g : q_G) {h : q_H} {n : Nat} (d : Nat) (hd : 1 ≤ d) (h2 : 2 ≤ n) (hn : n ≤ 100000) : MG g y_ASup_newLength b_ASup_newLength 4 (some .int) d 0 0 [.int (nI n), .int (nI 1), .int (nI (n / 2))] h (fun q h' => q = .inl (some (.int (nI (n + n / 2)))) ∧ h' = h) := by
  refine MG.of (by decide +kernel) (by simp [Value.category]) (Nat.le_of_ble_eq_true rfl) ?_
  intro Z A ok
  have hmx : (if nI 1 < nI (n / 2) then nI (n / 2) else nI 1) = nI (n / 2) := by
    by_cases e : 1 < n / 2
    · rw [if_pos (nI_lt e (by omega))]
    · rw [show n / 2 = 1 by omega, if_neg (nI_nlt (Nat.le_refl 1) (by decide))]
  refine g_iload_n ok (dk m_ASup_newLength 0 rfl) (pc' := 1) rfl (i := 0) rfl rfl ?_
  refine g_iload_n ok (dk m_ASup_newLength 1 rfl) (pc' := 2) rfl (i := 1) rfl rfl ?_
  refine g_iload_n ok (dk m_ASup_newLength 2 rfl) (pc' := 3) rfl (i := 2) rfl rfl ?_
  refine g_callS ok (dk m_ASup_newLength 3 rfl) (pc' := 6) rfl c_ASup_194 (c_Math_max g (nI 1) (nI (n / 2)) 0) rfl rfl (by simp [Value.category]) (by omega) rfl (rc' := 0) (rs' := 0) (by omega) (by omega) (fun rv h' hcc => ?_) (fun i h' hcc => by obtain ⟨e, -⟩ := hcc; cases e)
  obtain ⟨e, e2⟩ := hcc
  have e3 := e2.symm
  subst e3
  cases e
  refine g_iadd ok (dk m_ASup_newLength 4 rfl) (pc' := 7) rfl ?_
  refine g_top (w := .int (nI (n + n / 2))) (by rw [hmx, nI_add]) ?_
  refine g_istore_n ok (dk m_ASup_newLength 5 rfl) (pc' := 8) rfl (i := 3) rfl (Nat.le_of_ble_eq_true rfl) rfl ?_
  refine g_iconst ok (dk m_ASup_newLength 6 rfl) (pc' := 9) rfl (v := 0) (by decide) ?_
  refine g_iload_n ok (dk m_ASup_newLength 7 rfl) (pc' := 10) rfl (i := 3) rfl rfl ?_
  refine g_icmp_ge ok (dk m_ASup_newLength 8 rfl) (tgt := 21) (by decide) (pc' := 13) rfl (fun c_10 => absurd c_10 (show ¬ nI (n + n / 2) ≤ nI 0 from nI_ge (by omega) (by omega))) (fun c_10 => ?_)
  refine g_iload_n ok (dk m_ASup_newLength 9 rfl) (pc' := 14) rfl (i := 3) rfl rfl ?_
  refine g_ldc ok (dk m_ASup_newLength 10 rfl) (pc' := 16) rfl (v := 2147483639) (q_T_in 181 (by decide +kernel) rfl) ?_
  refine g_icmp_gt ok (dk m_ASup_newLength 11 rfl) (tgt := 21) (by decide) (pc' := 19) rfl (fun c_16 => absurd c_16 (show ¬ nI 2147483639 < nI (n + n / 2) from nI_nlt (by omega) (by decide))) (fun c_16 => ?_)
  refine g_iload_n ok (dk m_ASup_newLength 12 rfl) (pc' := 20) rfl (i := 3) rfl rfl ?_
  exact g_iret ok (dk m_ASup_newLength 13 rfl) rfl rfl ⟨rfl, rfl⟩
set_option maxHeartbeats 1000000 in
theorem c_Arr_copyOf2 (g : q_G) {h : q_H} {b n m : Nat} {f : Nat → Option Nat} (d mc ms : Nat) (hd : 1 ≤ d) (hm : 1 ≤ mc) (hs : m ≤ ms) (hb : h b = some (q_ra n f)) (hnm : n ≤ m) (hm4 : m * 4 ≤ 536870912) (hel : ∀ i y : Nat, i < n → f i = some y → q_obj h y) : MG g y_Arr_copyOf2 b_Arr_copyOf2 4 (some (.array (.object "java/lang/Object"))) d mc ms [.ref b, .int (nI m), .ref (q_ad g 1)] h (fun q h' => ∃ c, q = .inl (some (.ref c)) ∧ h c = none ∧ q_bs g ≤ c ∧ h' = q_up h c (q_ra m (va_cpy f (fun _ => none) 0 0 n))) := by
  refine MG.of (by decide +kernel) (by simp [Value.category]) (Nat.le_of_ble_eq_true rfl) ?_
  intro Z A ok
  refine g_aload_n ok (dk m_Arr_copyOf2 0 rfl) (pc' := 1) rfl (i := 2) rfl rfl ?_
  refine g_ldcM ok (dk m_Arr_copyOf2 1 rfl) (pc' := 3) rfl k_Arr_110 ?_
  refine g_acmpR_ne ok (dk m_Arr_copyOf2 2 rfl) (tgt := 13) (by decide) (pc' := 6) rfl (fun c_3 => absurd rfl c_3) (fun c_3 => ?_)
  refine g_iload_n ok (dk m_Arr_copyOf2 3 rfl) (pc' := 7) rfl (i := 1) rfl rfl ?_
  refine g_anew ok (dk m_Arr_copyOf2 4 rfl) (pc' := 10) rfl k_Arr_2 hm4 (rc' := (mc - 1)) (rs' := (ms - m)) (by omega) (by omega) (fun c hc hcb => ?_)
  have hb1 : q_up h c (q_ra m (fun _ => none)) b = some (q_ra n f) := by rw [q_up_n (q_on hb hc)]; exact hb
  refine g_goto ok (dk m_Arr_copyOf2 5 rfl) (pc' := 24) (by decide) ?_
  refine g_astore_n ok (dk m_Arr_copyOf2 11 rfl) (pc' := 25) rfl (i := 3) rfl (Nat.le_of_ble_eq_true rfl) rfl ?_
  refine g_aload_n ok (dk m_Arr_copyOf2 12 rfl) (pc' := 26) rfl (i := 0) rfl rfl ?_
  refine g_iconst ok (dk m_Arr_copyOf2 13 rfl) (pc' := 27) rfl (v := 0) (by decide) ?_
  refine g_aload_n ok (dk m_Arr_copyOf2 14 rfl) (pc' := 28) rfl (i := 3) rfl rfl ?_
  refine g_iconst ok (dk m_Arr_copyOf2 15 rfl) (pc' := 29) rfl (v := 0) (by decide) ?_
  refine g_aload_n ok (dk m_Arr_copyOf2 16 rfl) (pc' := 30) rfl (i := 0) rfl rfl ?_
  refine g_alen ok (dk m_Arr_copyOf2 17 rfl) (pc' := 31) rfl hb1 rfl ?_
  refine g_iload_n ok (dk m_Arr_copyOf2 18 rfl) (pc' := 32) rfl (i := 1) rfl rfl ?_
  refine g_callS ok (dk m_Arr_copyOf2 19 rfl) (pc' := 35) rfl c_Arr_304 (c_Math_min g (nI n) (nI m) 0) rfl rfl (by simp [Value.category]) (by omega) rfl (rc' := (mc - 1)) (rs' := (ms - m)) (by omega) (by omega) (fun rv h' hcc => ?_) (fun i h' hcc => by obtain ⟨e, -⟩ := hcc; cases e)
  obtain ⟨e, e2⟩ := hcc
  have e3 := e2.symm
  subst e3
  cases e
  refine g_top (w := .int (nI n)) (by rw [if_neg (nI_nlt hnm (by omega))]) ?_
  refine g_copyq ok (dk m_Arr_copyOf2 20 rfl) (pc' := 38) rfl (q_T_in 215 (by decide +kernel) rfl) hb1 (q_up_s _ _ _) (Nat.le_refl n) hnm (by omega) (fun i y hi hy => by obtain ⟨ci, C, fs, e1, e2, e3⟩ := hel i y hi hy; exact ⟨ci, C, fs, by rw [q_up_n (q_on e1 hc)]; exact e1, e2, e3⟩) (by simp [Value.category]) hd rfl ?_
  refine g_aload_n ok (dk m_Arr_copyOf2 21 rfl) (pc' := 39) rfl (i := 3) rfl rfl ?_
  exact g_aret ok (dk m_Arr_copyOf2 22 rfl) rfl (Or.inr ⟨_, rfl⟩) (Or.inr ⟨_, rfl⟩) ⟨c, rfl, hc, hcb, by rw [q_up_u]⟩
set_option maxHeartbeats 1000000 in
theorem c_Arr_copyOf1 (g : q_G) {h : q_H} {b n m : Nat} {f : Nat → Option Nat} (d mc ms : Nat) (hd : 2 ≤ d) (hm : 1 ≤ mc) (hs : m ≤ ms) (hb : h b = some (q_ra n f)) (hnm : n ≤ m) (hm4 : m * 4 ≤ 536870912) (hel : ∀ i y : Nat, i < n → f i = some y → q_obj h y) : MG g y_Arr_copyOf1 b_Arr_copyOf1 2 (some (.array (.object "java/lang/Object"))) d mc ms [.ref b, .int (nI m)] h (fun q h' => ∃ c, q = .inl (some (.ref c)) ∧ h c = none ∧ q_bs g ≤ c ∧ h' = q_up h c (q_ra m (va_cpy f (fun _ => none) 0 0 n))) := by
  refine MG.of (by decide +kernel) (by simp [Value.category]) (Nat.le_of_ble_eq_true rfl) ?_
  intro Z A ok
  refine g_aload_n ok (dk m_Arr_copyOf1 0 rfl) (pc' := 1) rfl (i := 0) rfl rfl ?_
  refine g_iload_n ok (dk m_Arr_copyOf1 1 rfl) (pc' := 2) rfl (i := 1) rfl rfl ?_
  refine g_aload_n ok (dk m_Arr_copyOf1 2 rfl) (pc' := 3) rfl (i := 0) rfl rfl ?_
  refine g_getC ok (dk m_Arr_copyOf1 3 rfl) (pc' := 6) rfl (q_T_in 188 (by decide +kernel) rfl) hb (by simp [Value.category]) (by omega) rfl ?_
  refine g_callS ok (dk m_Arr_copyOf1 4 rfl) (pc' := 9) rfl c_Arr_300 (c_Arr_copyOf2 g 1 mc ms (by omega) hm hs hb hnm hm4 hel) rfl rfl (by simp [Value.category]) (by omega) rfl (rc' := 0) (rs' := 0) (by omega) (by omega) (fun rv h' hcc => ?_) (fun i h' hcc => by obtain ⟨c, e, -⟩ := hcc; cases e)
  obtain ⟨c, e, hc, hcb, rfl⟩ := hcc
  cases e
  exact g_aret ok (dk m_Arr_copyOf1 5 rfl) rfl (Or.inr ⟨_, rfl⟩) (Or.inr ⟨_, rfl⟩) ⟨c, rfl, hc, hcb, rfl⟩
set_option maxHeartbeats 1000000 in
theorem c_AL_grow2E (g : q_G) {h : q_H} {a : Nat} {mv : Value} (d mc ms : Nat) (hd : 1 ≤ d) (hm : 1 ≤ mc) (hs : 10 ≤ ms) (ha : h a = some (.inl (3, [.ref (q_ad g 0), .int (nI 0), mv]))) : MG g y_AL_grow2 b_AL_grow2 4 (some (.array (.object "java/lang/Object"))) d mc ms [.ref a, .int (nI 1)] h (fun q h' => ∃ c, q = .inl (some (.ref c)) ∧ h c = none ∧ q_bs g ≤ c ∧ h' = q_up (q_up h a (.inl (3, [.ref c, .int (nI 0), mv]))) c (q_ra 10 (fun _ => none))) := by
  refine MG.of (by decide +kernel) (by simp [Value.category]) (Nat.le_of_ble_eq_true rfl) ?_
  intro Z A ok
  refine g_aload_n ok (dk m_AL_grow2 0 rfl) (pc' := 1) rfl (i := 0) rfl rfl ?_
  refine g_get ok (dk m_AL_grow2 1 rfl) (pc' := 4) rfl f_AL_9 ha rfl ?_
  refine g_alenE ok (dk m_AL_grow2 2 rfl) (pc' := 5) rfl ?_
  refine g_istore_n ok (dk m_AL_grow2 3 rfl) (pc' := 6) rfl (i := 2) rfl (Nat.le_of_ble_eq_true rfl) rfl ?_
  refine g_iload_n ok (dk m_AL_grow2 4 rfl) (pc' := 7) rfl (i := 2) rfl rfl ?_
  refine g_if_gt ok (dk m_AL_grow2 5 rfl) (tgt := 20) (by decide) (pc' := 10) rfl (fun c_7 => absurd c_7 (show ¬ (0 : Int32) < nI 0 by decide)) (fun c_7 => ?_)
  refine g_aload_n ok (dk m_AL_grow2 6 rfl) (pc' := 11) rfl (i := 0) rfl rfl ?_
  refine g_get ok (dk m_AL_grow2 7 rfl) (pc' := 14) rfl f_AL_9 ha rfl ?_
  refine g_getE ok (dk m_AL_grow2 8 rfl) (pc' := 17) rfl (q_T_in 102 (by decide +kernel) rfl) ?_
  refine g_acmpR_eq ok (dk m_AL_grow2 9 rfl) (tgt := 45) (by decide) (pc' := 20) rfl (fun c_17 => ?_) (fun c_17 => absurd rfl c_17)
  refine g_aload_n ok (dk m_AL_grow2 27 rfl) (pc' := 46) rfl (i := 0) rfl rfl ?_
  refine g_bipush ok (dk m_AL_grow2 28 rfl) (pc' := 48) rfl (v := 10) (by decide) ?_
  refine g_iload_n ok (dk m_AL_grow2 29 rfl) (pc' := 49) rfl (i := 1) rfl rfl ?_
  refine g_callS ok (dk m_AL_grow2 30 rfl) (pc' := 52) rfl c_AL_79 (c_Math_max g 10 (nI 1) 0) rfl rfl (by simp [Value.category]) (by omega) rfl (rc' := mc) (rs' := ms) (by omega) (by omega) (fun rv h' hcc => ?_) (fun i h' hcc => by obtain ⟨e, -⟩ := hcc; cases e)
  obtain ⟨e, e2⟩ := hcc
  have e3 := e2.symm
  subst e3
  cases e
  refine g_top (w := .int (nI 10)) (by decide) ?_
  refine g_anew ok (dk m_AL_grow2 31 rfl) (pc' := 55) rfl k_AL_7 (by decide) (rc' := (mc - 1)) (rs' := (ms - 10)) (by omega) (by omega) (fun c hc hcb => ?_)
  refine g_dup_x1 ok (dk m_AL_grow2 32 rfl) (pc' := 56) rfl rfl rfl ?_
  refine g_put ok (dk m_AL_grow2 33 rfl) (pc' := 59) rfl f_AL_9 (Or.inl rfl) (show q_up h c _ a = _ by rw [q_up_n (q_on ha hc)]; exact ha) (Nat.le_of_ble_eq_true rfl) rfl rfl ?_
  exact g_aret ok (dk m_AL_grow2 34 rfl) rfl (Or.inr ⟨_, rfl⟩) (Or.inr ⟨_, rfl⟩) ⟨c, rfl, hc, hcb, by rw [q_up_c (q_on ha hc).symm]; rfl⟩
set_option maxHeartbeats 1000000 in
theorem c_AL_grow2F (g : q_G) {h : q_H} {a b n : Nat} {f : Nat → Option Nat} {mv : Value} (d mc ms : Nat) (hd : 3 ≤ d) (hm : 1 ≤ mc) (hs : n + n / 2 ≤ ms) (h2 : 2 ≤ n) (hn : n ≤ 100000) (ha : h a = some (.inl (3, [.ref b, .int (nI n), mv]))) (hb : h b = some (q_ra n f)) (hel : ∀ i y : Nat, i < n → f i = some y → q_obj h y) : MG g y_AL_grow2 b_AL_grow2 4 (some (.array (.object "java/lang/Object"))) d mc ms [.ref a, .int (nI (n + 1))] h (fun q h' => ∃ c, q = .inl (some (.ref c)) ∧ h c = none ∧ q_bs g ≤ c ∧ h' = q_up (q_up h a (.inl (3, [.ref c, .int (nI n), mv]))) c (q_ra (n + n / 2) (va_cpy f (fun _ => none) 0 0 n))) := by
  refine MG.of (by decide +kernel) (by simp [Value.category]) (Nat.le_of_ble_eq_true rfl) ?_
  intro Z A ok
  refine g_aload_n ok (dk m_AL_grow2 0 rfl) (pc' := 1) rfl (i := 0) rfl rfl ?_
  refine g_get ok (dk m_AL_grow2 1 rfl) (pc' := 4) rfl f_AL_9 ha rfl ?_
  refine g_alen ok (dk m_AL_grow2 2 rfl) (pc' := 5) rfl hb rfl ?_
  refine g_istore_n ok (dk m_AL_grow2 3 rfl) (pc' := 6) rfl (i := 2) rfl (Nat.le_of_ble_eq_true rfl) rfl ?_
  refine g_iload_n ok (dk m_AL_grow2 4 rfl) (pc' := 7) rfl (i := 2) rfl rfl ?_
  refine g_if_gt ok (dk m_AL_grow2 5 rfl) (tgt := 20) (by decide) (pc' := 10) rfl (fun c_7 => ?_) (fun c_7 => absurd (show (0 : Int32) < nI n from by have := nI_lt (a := 0) (b := n) (by omega) (by omega); exact this) c_7)
  refine g_iload_n ok (dk m_AL_grow2 10 rfl) (pc' := 21) rfl (i := 2) rfl rfl ?_
  refine g_iload_n ok (dk m_AL_grow2 11 rfl) (pc' := 22) rfl (i := 1) rfl rfl ?_
  refine g_iload_n ok (dk m_AL_grow2 12 rfl) (pc' := 23) rfl (i := 2) rfl rfl ?_
  refine g_isub ok (dk m_AL_grow2 13 rfl) (pc' := 24) rfl ?_
  refine g_top (w := .int (nI 1)) (by rw [pk_sub (by omega)]; congr 2; omega) ?_
  refine g_iload_n ok (dk m_AL_grow2 14 rfl) (pc' := 25) rfl (i := 2) rfl rfl ?_
  refine g_iconst ok (dk m_AL_grow2 15 rfl) (pc' := 26) rfl (v := 1) (by decide) ?_
  refine g_ishr ok (dk m_AL_grow2 16 rfl) (pc' := 27) rfl ?_
  refine g_top (w := .int (nI (n / 2))) (by have k := pk_shrN (n := n) (by omega) ((1 : Int32) &&& 31) 1 (by decide); rw [Nat.pow_one] at k; exact congrArg Value.int k) ?_
  refine g_callS ok (dk m_AL_grow2 17 rfl) (pc' := 30) rfl c_AL_73 (c_ASup_newLength g 1 (by omega) h2 hn) rfl rfl (by simp [Value.category]) (by omega) rfl (rc' := mc) (rs' := ms) (by omega) (by omega) (fun rv h' hcc => ?_) (fun i h' hcc => by obtain ⟨e, -⟩ := hcc; cases e)
  obtain ⟨e, e2⟩ := hcc
  have e3 := e2.symm
  subst e3
  cases e
  refine g_istore_n ok (dk m_AL_grow2 18 rfl) (pc' := 31) rfl (i := 3) rfl (Nat.le_of_ble_eq_true rfl) rfl ?_
  refine g_aload_n ok (dk m_AL_grow2 19 rfl) (pc' := 32) rfl (i := 0) rfl rfl ?_
  refine g_aload_n ok (dk m_AL_grow2 20 rfl) (pc' := 33) rfl (i := 0) rfl rfl ?_
  refine g_get ok (dk m_AL_grow2 21 rfl) (pc' := 36) rfl f_AL_9 ha rfl ?_
  refine g_iload_n ok (dk m_AL_grow2 22 rfl) (pc' := 37) rfl (i := 3) rfl rfl ?_
  refine g_callS ok (dk m_AL_grow2 23 rfl) (pc' := 40) rfl c_AL_66 (c_Arr_copyOf1 g 2 mc ms (by omega) hm hs hb (by omega) (by omega) hel) rfl rfl (by simp [Value.category]) (by omega) rfl (rc' := 0) (rs' := 0) (by omega) (by omega) (fun rv h' hcc => ?_) (fun i h' hcc => by obtain ⟨c, e, -⟩ := hcc; cases e)
  obtain ⟨c, e, hc, hcb, rfl⟩ := hcc
  cases e
  refine g_dup_x1 ok (dk m_AL_grow2 24 rfl) (pc' := 41) rfl rfl rfl ?_
  refine g_put ok (dk m_AL_grow2 25 rfl) (pc' := 44) rfl f_AL_9 (Or.inl rfl) (show q_up h c _ a = _ by rw [q_up_n (q_on ha hc)]; exact ha) (Nat.le_of_ble_eq_true rfl) rfl rfl ?_
  exact g_aret ok (dk m_AL_grow2 26 rfl) rfl (Or.inr ⟨_, rfl⟩) (Or.inr ⟨_, rfl⟩) ⟨c, rfl, hc, hcb, by rw [q_up_c (q_on ha hc).symm]; rfl⟩
end
section
/-! ===== a list: its object a, its array (none: the shared empty one), how many, which ===== -/
def q_lst (g : q_G) (h : q_H) (a : Nat) (ob : Option Nat) (cnt : Nat) (el : Nat → Nat) : Prop := match ob with
  | none => cnt = 0 ∧ ∃ mv : Int32, h a = some (.inl (3, [.ref (q_ad g 0), .int (nI 0), .int mv]))
  | some b => ∃ (n : Nat) (f : Nat → Option Nat) (mv : Int32), h a = some (.inl (3, [.ref b, .int (nI cnt), .int mv])) ∧ h b = some (q_ra n f) ∧ cnt ≤ n ∧ 10 ≤ n ∧ n ≤ 150 ∧ ∀ i, i < cnt → f i = some (el i)
theorem q_lst.size {g : q_G} {h : q_H} {a : Nat} {ob : Option Nat} {cnt : Nat} {el : Nat → Nat} (hl : q_lst g h a ob cnt el) : ∃ e mv, h a = some (.inl (3, [e, .int (nI cnt), .int mv])) := by
  cases ob with
  | none =>
    obtain ⟨rfl, mv, h1⟩ := hl
    exact ⟨_, mv, h1⟩
  | some b =>
    obtain ⟨n, f, mv, h1, -⟩ := hl
    exact ⟨_, mv, h1⟩
theorem q_lst.le {g : q_G} {h : q_H} {a : Nat} {ob : Option Nat} {cnt : Nat} {el : Nat → Nat} (hl : q_lst g h a ob cnt el) : cnt ≤ 150 := by
  cases ob with
  | none =>
    obtain ⟨rfl, mv, h1⟩ := hl
    omega
  | some b =>
    obtain ⟨n, f, mv, h1, h2, h3, h4, h5, -⟩ := hl
    omega
set_option maxHeartbeats 1000000 in
theorem c_AL_grow1E (g : q_G) {h : q_H} {a : Nat} {mv : Value} (d mc ms : Nat) (hd : 2 ≤ d) (hm : 1 ≤ mc) (hs : 10 ≤ ms) (ha : h a = some (.inl (3, [.ref (q_ad g 0), .int (nI 0), mv]))) : MG g y_AL_grow1 b_AL_grow1 1 (some (.array (.object "java/lang/Object"))) d mc ms [.ref a] h (fun q h' => ∃ c, q = .inl (some (.ref c)) ∧ h c = none ∧ q_bs g ≤ c ∧ h' = q_up (q_up h a (.inl (3, [.ref c, .int (nI 0), mv]))) c (q_ra 10 (fun _ => none))) := by
  refine MG.of (by decide +kernel) (by simp [Value.category]) (Nat.le_of_ble_eq_true rfl) ?_
  intro Z A ok
  refine g_aload_n ok (dk m_AL_grow1 0 rfl) (pc' := 1) rfl (i := 0) rfl rfl ?_
  refine g_aload_n ok (dk m_AL_grow1 1 rfl) (pc' := 2) rfl (i := 0) rfl rfl ?_
  refine g_get ok (dk m_AL_grow1 2 rfl) (pc' := 5) rfl f_AL_48 ha rfl ?_
  refine g_iconst ok (dk m_AL_grow1 3 rfl) (pc' := 6) rfl (v := 1) (by decide) ?_
  refine g_iadd ok (dk m_AL_grow1 4 rfl) (pc' := 7) rfl ?_
  refine g_top (w := .int (nI 1)) rfl ?_
  refine g_callV ok (dk m_AL_grow1 5 rfl) (pc' := 10) rfl c_AL_69 (c_AL_grow2E g 1 mc ms (by omega) hm hs ha) ha rfl rfl (by simp [Value.category]) (by omega) rfl (rc' := 0) (rs' := 0) (by omega) (by omega) (fun rv h' hcc => ?_) (fun i h' hcc => by obtain ⟨c, e, -⟩ := hcc; cases e)
  obtain ⟨c, e, hc, hcb, e2⟩ := hcc
  have e3 := e2.symm
  subst e3
  cases e
  exact g_aret ok (dk m_AL_grow1 6 rfl) rfl (Or.inr ⟨_, rfl⟩) (Or.inr ⟨_, rfl⟩) ⟨c, rfl, hc, hcb, rfl⟩
set_option maxHeartbeats 1000000 in
theorem c_AL_grow1F (g : q_G) {h : q_H} {a b n : Nat} {f : Nat → Option Nat} {mv : Value} (d mc ms : Nat) (hd : 4 ≤ d) (hm : 1 ≤ mc) (hs : n + n / 2 ≤ ms) (h2 : 2 ≤ n) (hn : n ≤ 100000) (ha : h a = some (.inl (3, [.ref b, .int (nI n), mv]))) (hb : h b = some (q_ra n f)) (hel : ∀ i y : Nat, i < n → f i = some y → q_obj h y) : MG g y_AL_grow1 b_AL_grow1 1 (some (.array (.object "java/lang/Object"))) d mc ms [.ref a] h (fun q h' => ∃ c, q = .inl (some (.ref c)) ∧ h c = none ∧ q_bs g ≤ c ∧ h' = q_up (q_up h a (.inl (3, [.ref c, .int (nI n), mv]))) c (q_ra (n + n / 2) (va_cpy f (fun _ => none) 0 0 n))) := by
  refine MG.of (by decide +kernel) (by simp [Value.category]) (Nat.le_of_ble_eq_true rfl) ?_
  intro Z A ok
  refine g_aload_n ok (dk m_AL_grow1 0 rfl) (pc' := 1) rfl (i := 0) rfl rfl ?_
  refine g_aload_n ok (dk m_AL_grow1 1 rfl) (pc' := 2) rfl (i := 0) rfl rfl ?_
  refine g_get ok (dk m_AL_grow1 2 rfl) (pc' := 5) rfl f_AL_48 ha rfl ?_
  refine g_iconst ok (dk m_AL_grow1 3 rfl) (pc' := 6) rfl (v := 1) (by decide) ?_
  refine g_iadd ok (dk m_AL_grow1 4 rfl) (pc' := 7) rfl ?_
  refine g_top (w := .int (nI (n + 1))) (by rw [nI_1]) ?_
  refine g_callV ok (dk m_AL_grow1 5 rfl) (pc' := 10) rfl c_AL_69 (c_AL_grow2F g 3 mc ms (by omega) hm hs h2 hn ha hb hel) ha rfl rfl (by simp [Value.category]) (by omega) rfl (rc' := 0) (rs' := 0) (by omega) (by omega) (fun rv h' hcc => ?_) (fun i h' hcc => by obtain ⟨c, e, -⟩ := hcc; cases e)
  obtain ⟨c, e, hc, hcb, e2⟩ := hcc
  have e3 := e2.symm
  subst e3
  cases e
  exact g_aret ok (dk m_AL_grow1 6 rfl) rfl (Or.inr ⟨_, rfl⟩) (Or.inr ⟨_, rfl⟩) ⟨c, rfl, hc, hcb, rfl⟩
set_option maxHeartbeats 1000000 in
theorem c_AL_add2R (g : q_G) {h : q_H} {a b n cnt x ci : Nat} {C : String} {fs : List Value} {f : Nat → Option Nat} {mv : Value} (d : Nat) (hlt : cnt < n) (hn : n ≤ 100000) (ha : h a = some (.inl (3, [.ref b, .int (nI cnt), mv]))) (hb : h b = some (q_ra n f)) (hx : h x = some (.inl (ci, fs))) (hci : q_Ty ci C) (hcx : Cond.castable C "java/lang/Object" ∈ q_X) : MG g y_AL_add2 b_AL_add2 4 none d 0 0 [.ref a, .ref x, .ref b, .int (nI cnt)] h (fun q h' => q = .inl none ∧ h' = q_up (q_up h b (q_ra n (va_up f cnt (some x)))) a (.inl (3, [.ref b, .int (nI (cnt + 1)), mv]))) := by
  refine MG.of (by decide +kernel) (by simp [Value.category]) (Nat.le_of_ble_eq_true rfl) ?_
  intro Z A ok
  refine g_iload_n ok (dk m_AL_add2 0 rfl) (pc' := 1) rfl (i := 3) rfl rfl ?_
  refine g_aload_n ok (dk m_AL_add2 1 rfl) (pc' := 2) rfl (i := 2) rfl rfl ?_
  refine g_alen ok (dk m_AL_add2 2 rfl) (pc' := 3) rfl hb rfl ?_
  refine g_icmp_ne ok (dk m_AL_add2 3 rfl) (tgt := 11) (by decide) (pc' := 6) rfl (fun c_3 => ?_) (fun c_3 => absurd c_3 (fun e => by have := (nI_eq (a := cnt) (b := n) (by omega) (by omega)).mp e; omega))
  refine g_aload_n ok (dk m_AL_add2 7 rfl) (pc' := 12) rfl (i := 2) rfl rfl ?_
  refine g_iload_n ok (dk m_AL_add2 8 rfl) (pc' := 13) rfl (i := 3) rfl rfl ?_
  refine g_aload_n ok (dk m_AL_add2 9 rfl) (pc' := 14) rfl (i := 1) rfl rfl ?_
  refine g_aast ok (dk m_AL_add2 10 rfl) (pc' := 15) rfl hb hlt (by omega) hci hcx hx ?_
  refine g_aload_n ok (dk m_AL_add2 11 rfl) (pc' := 16) rfl (i := 0) rfl rfl ?_
  refine g_iload_n ok (dk m_AL_add2 12 rfl) (pc' := 17) rfl (i := 3) rfl rfl ?_
  refine g_iconst ok (dk m_AL_add2 13 rfl) (pc' := 18) rfl (v := 1) (by decide) ?_
  refine g_iadd ok (dk m_AL_add2 14 rfl) (pc' := 19) rfl ?_
  refine g_top (w := .int (nI (cnt + 1))) (by rw [nI_1]) ?_
  refine g_put ok (dk m_AL_add2 15 rfl) (pc' := 22) rfl f_AL_48 (Or.inl rfl) (show q_up h b _ a = _ by rw [q_up_n (q_oa ha hb)]; exact ha) (Nat.le_of_ble_eq_true rfl) rfl rfl ?_
  exact g_vret ok (dk m_AL_add2 16 rfl) rfl ⟨rfl, rfl⟩
set_option maxHeartbeats 1000000 in
theorem c_AL_add2E (g : q_G) {h : q_H} {a x ci : Nat} {C : String} {fs : List Value} {mv : Value} (d mc ms : Nat) (hd : 3 ≤ d) (hm : 1 ≤ mc) (hs : 10 ≤ ms) (ha : h a = some (.inl (3, [.ref (q_ad g 0), .int (nI 0), mv]))) (hx : h x = some (.inl (ci, fs))) (hax : a ≠ x) (hci : q_Ty ci C) (hcx : Cond.castable C "java/lang/Object" ∈ q_X) : MG g y_AL_add2 b_AL_add2 4 none d mc ms [.ref a, .ref x, .ref (q_ad g 0), .int (nI 0)] h (fun q h' => ∃ c, q = .inl none ∧ h c = none ∧ q_bs g ≤ c ∧ h' = q_up (q_up h c (q_ra (10) (va_up (fun _ => none) 0 (some x)))) a (.inl (3, [.ref c, .int (nI (0 + 1)), mv]))) := by
  refine MG.of (by decide +kernel) (by simp [Value.category]) (Nat.le_of_ble_eq_true rfl) ?_
  intro Z A ok
  refine g_iload_n ok (dk m_AL_add2 0 rfl) (pc' := 1) rfl (i := 3) rfl rfl ?_
  refine g_aload_n ok (dk m_AL_add2 1 rfl) (pc' := 2) rfl (i := 2) rfl rfl ?_
  refine g_alenE ok (dk m_AL_add2 2 rfl) (pc' := 3) rfl ?_
  refine g_icmp_ne ok (dk m_AL_add2 3 rfl) (tgt := 11) (by decide) (pc' := 6) rfl (fun c_3 => absurd rfl c_3) (fun c_3 => ?_)
  refine g_aload_n ok (dk m_AL_add2 4 rfl) (pc' := 7) rfl (i := 0) rfl rfl ?_
  refine g_callV ok (dk m_AL_add2 5 rfl) (pc' := 10) rfl c_AL_129 (c_AL_grow1E g 2 mc ms (by omega) hm hs ha) ha rfl rfl (by simp [Value.category]) (by omega) rfl (rc' := 0) (rs' := 0) (by omega) (by omega) (fun rv h' hcc => ?_) (fun i h' hcc => by obtain ⟨c, e, -⟩ := hcc; cases e)
  obtain ⟨c, e, hc, hcb, e2⟩ := hcc
  have e3 := e2.symm
  subst e3
  cases e
  refine g_astore_n ok (dk m_AL_add2 6 rfl) (pc' := 11) rfl (i := 2) rfl (Nat.le_of_ble_eq_true rfl) rfl ?_
  refine g_aload_n ok (dk m_AL_add2 7 rfl) (pc' := 12) rfl (i := 2) rfl rfl ?_
  refine g_iload_n ok (dk m_AL_add2 8 rfl) (pc' := 13) rfl (i := 3) rfl rfl ?_
  refine g_aload_n ok (dk m_AL_add2 9 rfl) (pc' := 14) rfl (i := 1) rfl rfl ?_
  refine g_aast ok (dk m_AL_add2 10 rfl) (pc' := 15) rfl (q_up_s _ _ _) (by omega) (by omega) hci hcx (show q_up (q_up h a _) c _ x = _ by rw [q_up_n (q_on hx hc), q_up_n hax.symm]; exact hx) ?_
  refine g_aload_n ok (dk m_AL_add2 11 rfl) (pc' := 16) rfl (i := 0) rfl rfl ?_
  refine g_iload_n ok (dk m_AL_add2 12 rfl) (pc' := 17) rfl (i := 3) rfl rfl ?_
  refine g_iconst ok (dk m_AL_add2 13 rfl) (pc' := 18) rfl (v := 1) (by decide) ?_
  refine g_iadd ok (dk m_AL_add2 14 rfl) (pc' := 19) rfl ?_
  refine g_top (w := .int (nI (0 + 1))) (by rw [nI_1]) ?_
  refine g_put ok (dk m_AL_add2 15 rfl) (pc' := 22) rfl f_AL_48 (Or.inl rfl) (show q_up (q_up (q_up h a _) c _) c _ a = _ by rw [q_up_u, q_up_n (q_on ha hc), q_up_s]) (Nat.le_of_ble_eq_true rfl) rfl rfl ?_
  exact g_vret ok (dk m_AL_add2 16 rfl) rfl ⟨c, rfl, hc, hcb, by rw [q_up_u, q_up_c (q_on ha hc), q_up_u]; rfl⟩
set_option maxHeartbeats 1000000 in
theorem c_AL_add2F (g : q_G) {h : q_H} {a b n x ci : Nat} {C : String} {fs : List Value} {f : Nat → Option Nat} {mv : Value} (d mc ms : Nat) (hd : 5 ≤ d) (hm : 1 ≤ mc) (hs : n + n / 2 ≤ ms) (h2 : 2 ≤ n) (hn : n ≤ 100000) (ha : h a = some (.inl (3, [.ref b, .int (nI n), mv]))) (hb : h b = some (q_ra n f)) (hel : ∀ i y : Nat, i < n → f i = some y → q_obj h y) (hx : h x = some (.inl (ci, fs))) (hax : a ≠ x) (hci : q_Ty ci C) (hcx : Cond.castable C "java/lang/Object" ∈ q_X) : MG g y_AL_add2 b_AL_add2 4 none d mc ms [.ref a, .ref x, .ref b, .int (nI n)] h (fun q h' => ∃ c, q = .inl none ∧ h c = none ∧ q_bs g ≤ c ∧ h' = q_up (q_up h c (q_ra (n + n / 2) (va_up (va_cpy f (fun _ => none) 0 0 n) n (some x)))) a (.inl (3, [.ref c, .int (nI (n + 1)), mv]))) := by
  refine MG.of (by decide +kernel) (by simp [Value.category]) (Nat.le_of_ble_eq_true rfl) ?_
  intro Z A ok
  refine g_iload_n ok (dk m_AL_add2 0 rfl) (pc' := 1) rfl (i := 3) rfl rfl ?_
  refine g_aload_n ok (dk m_AL_add2 1 rfl) (pc' := 2) rfl (i := 2) rfl rfl ?_
  refine g_alen ok (dk m_AL_add2 2 rfl) (pc' := 3) rfl hb rfl ?_
  refine g_icmp_ne ok (dk m_AL_add2 3 rfl) (tgt := 11) (by decide) (pc' := 6) rfl (fun c_3 => absurd rfl c_3) (fun c_3 => ?_)
  refine g_aload_n ok (dk m_AL_add2 4 rfl) (pc' := 7) rfl (i := 0) rfl rfl ?_
  refine g_callV ok (dk m_AL_add2 5 rfl) (pc' := 10) rfl c_AL_129 (c_AL_grow1F g 4 mc ms (by omega) hm hs h2 hn ha hb hel) ha rfl rfl (by simp [Value.category]) (by omega) rfl (rc' := 0) (rs' := 0) (by omega) (by omega) (fun rv h' hcc => ?_) (fun i h' hcc => by obtain ⟨c, e, -⟩ := hcc; cases e)
  obtain ⟨c, e, hc, hcb, e2⟩ := hcc
  have e3 := e2.symm
  subst e3
  cases e
  refine g_astore_n ok (dk m_AL_add2 6 rfl) (pc' := 11) rfl (i := 2) rfl (Nat.le_of_ble_eq_true rfl) rfl ?_
  refine g_aload_n ok (dk m_AL_add2 7 rfl) (pc' := 12) rfl (i := 2) rfl rfl ?_
  refine g_iload_n ok (dk m_AL_add2 8 rfl) (pc' := 13) rfl (i := 3) rfl rfl ?_
  refine g_aload_n ok (dk m_AL_add2 9 rfl) (pc' := 14) rfl (i := 1) rfl rfl ?_
  refine g_aast ok (dk m_AL_add2 10 rfl) (pc' := 15) rfl (q_up_s _ _ _) (by omega) (by omega) hci hcx (show q_up (q_up h a _) c _ x = _ by rw [q_up_n (q_on hx hc), q_up_n hax.symm]; exact hx) ?_
  refine g_aload_n ok (dk m_AL_add2 11 rfl) (pc' := 16) rfl (i := 0) rfl rfl ?_
  refine g_iload_n ok (dk m_AL_add2 12 rfl) (pc' := 17) rfl (i := 3) rfl rfl ?_
  refine g_iconst ok (dk m_AL_add2 13 rfl) (pc' := 18) rfl (v := 1) (by decide) ?_
  refine g_iadd ok (dk m_AL_add2 14 rfl) (pc' := 19) rfl ?_
  refine g_top (w := .int (nI (n + 1))) (by rw [nI_1]) ?_
  refine g_put ok (dk m_AL_add2 15 rfl) (pc' := 22) rfl f_AL_48 (Or.inl rfl) (show q_up (q_up (q_up h a _) c _) c _ a = _ by rw [q_up_u, q_up_n (q_on ha hc), q_up_s]) (Nat.le_of_ble_eq_true rfl) rfl rfl ?_
  exact g_vret ok (dk m_AL_add2 16 rfl) rfl ⟨c, rfl, hc, hcb, by rw [q_up_u, q_up_c (q_on ha hc), q_up_u]; rfl⟩
end
section
/-- more room does no harm -/
theorem MG.more {g : q_G} {y : MethodName} {cc : ByteArray} {nL : Nat} {ret : Option FieldType} {d mc ms mc' ms' : Nat} {av : List Value} {h : q_H} {post : q_R → q_H → Prop} (hM : MG g y cc nL ret d mc ms av h post) (h1 : mc ≤ mc') (h2 : ms ≤ ms') : MG g y cc nL ret d mc' ms' av h post := by
  intro l hl sz p e ha hc hk s m args below hf happ hP hK
  have happ' : (headSpec (Cond.code y cc nL ret :: q_T) (q_rm d mc ms)).appliesLoose y e.platform s = true := by
    obtain ⟨a1, a2, a3, a4, a5, a6, a7, a8⟩ := (Spec.appliesLoose_iff hf).mp happ
    refine (Spec.appliesLoose_iff hf).mpr ⟨a1, a2, a3, a4, a5, a6, ?_, a8⟩
    simp only [State.hasRoom, Bool.and_eq_true, decide_eq_true_eq] at a7 ⊢
    refine ⟨⟨⟨a7.1.1.1, ?_⟩, ?_⟩, a7.2⟩
    · have := a7.1.1.2
      show s.heap.size + mc ≤ _
      exact Nat.le_trans (Nat.add_le_add_left h1 _) this
    · have := a7.1.2
      show s.slotsUsed + ms ≤ _
      exact Nat.le_trans (Nat.add_le_add_left h2 _) this
  obtain ⟨n, o, b1, b2, b3, b4, b5, b6, L, b7, b8⟩ := hM l hl sz p e ha hc hk s m args below hf happ' hP hK
  exact ⟨n, o, b1, b2, b3, b4, b5, b6, L, b7.mono h1 h2, b8⟩
/-! ===== ArrayList.add, size, get, clear ===== -/
set_option maxHeartbeats 1000000 in
theorem c_AL_add1R (g : q_G) {h : q_H} {a b n cnt : Nat} {f : Nat → Option Nat} {mv : Int32} {x ci : Nat} {C : String} {fs : List Value} (hx : h x = some (.inl (ci, fs))) (hax : a ≠ x) (hci : q_Ty ci C) (hcx : Cond.castable C "java/lang/Object" ∈ q_X) (d : Nat) (hd : 1 ≤ d) (hlt : cnt < n) (hn : n ≤ 100000) (ha : h a = some (.inl (3, [.ref b, .int (nI cnt), .int mv]))) (hb : h b = some (q_ra n f)) : MG g y_AL_add1 b_AL_add1 2 (some .boolean) d 0 0 [.ref a, .ref x] h (fun q h' => q = .inl (some (.int 1)) ∧ h' = q_up (q_up h b (q_ra n (va_up f cnt (some x)))) a (.inl (3, [.ref b, .int (nI (cnt + 1)), .int (mv + 1)]))) := by
  refine MG.of (by decide +kernel) (by simp [Value.category]) (Nat.le_of_ble_eq_true rfl) ?_
  intro Z A ok
  refine g_aload_n ok (dk m_AL_add1 0 rfl) (pc' := 1) rfl (i := 0) rfl rfl ?_
  refine g_dup ok (dk m_AL_add1 1 rfl) (pc' := 2) rfl rfl ?_
  refine g_get ok (dk m_AL_add1 2 rfl) (pc' := 5) rfl f_AL_63 ha rfl ?_
  refine g_iconst ok (dk m_AL_add1 3 rfl) (pc' := 6) rfl (v := 1) (by decide) ?_
  refine g_iadd ok (dk m_AL_add1 4 rfl) (pc' := 7) rfl ?_
  refine g_put ok (dk m_AL_add1 5 rfl) (pc' := 10) rfl f_AL_63 (Or.inl rfl) ha (Nat.le_of_ble_eq_true rfl) rfl rfl ?_
  refine g_aload_n ok (dk m_AL_add1 6 rfl) (pc' := 11) rfl (i := 0) rfl rfl ?_
  refine g_aload_n ok (dk m_AL_add1 7 rfl) (pc' := 12) rfl (i := 1) rfl rfl ?_
  refine g_aload_n ok (dk m_AL_add1 8 rfl) (pc' := 13) rfl (i := 0) rfl rfl ?_
  refine g_get ok (dk m_AL_add1 9 rfl) (pc' := 16) rfl f_AL_9 (q_up_s _ _ _) rfl ?_
  refine g_aload_n ok (dk m_AL_add1 10 rfl) (pc' := 17) rfl (i := 0) rfl rfl ?_
  refine g_get ok (dk m_AL_add1 11 rfl) (pc' := 20) rfl f_AL_48 (q_up_s _ _ _) rfl ?_
  refine g_callV ok (dk m_AL_add1 12 rfl) (pc' := 23) rfl c_AL_131 (c_AL_add2R g 0 hlt hn (q_up_s _ _ _) (show q_up h a (.inl (3, [.ref b, .int (nI cnt), .int (mv + 1)])) b = _ by rw [q_up_n (q_oa ha hb).symm]; exact hb) (show q_up h a (.inl (3, [.ref b, .int (nI cnt), .int (mv + 1)])) x = _ by rw [q_up_n hax.symm]; exact hx) hci hcx) (q_up_s _ _ _) rfl rfl (by simp [Value.category]) (by omega) rfl (rc' := 0) (rs' := 0) (by omega) (by omega) (fun rv h' hcc => ?_) (fun i h' hcc => by obtain ⟨e, -⟩ := hcc; cases e)
  obtain ⟨e, e2⟩ := hcc
  have e3 := e2.symm
  subst e3
  cases e
  refine g_iconst ok (dk m_AL_add1 13 rfl) (pc' := 24) rfl (v := 1) (by decide) ?_
  exact g_iret ok (dk m_AL_add1 14 rfl) rfl rfl ⟨rfl, by rw [q_up_c (q_oa ha hb), q_up_u]⟩
theorem q_none {h : q_H} {a c : Nat} {o : q_O} (hc : q_up h a o c = none) : h c = none := by
  by_cases e : c = a
  · rw [e, q_up_s] at hc
    cases hc
  · rw [q_up_n e] at hc
    exact hc
set_option maxHeartbeats 1000000 in
theorem c_AL_add1E (g : q_G) {h : q_H} {a : Nat} {mv : Int32} {x ci : Nat} {C : String} {fs : List Value} (hx : h x = some (.inl (ci, fs))) (hax : a ≠ x) (hci : q_Ty ci C) (hcx : Cond.castable C "java/lang/Object" ∈ q_X) (d mc ms : Nat) (hd : 4 ≤ d) (hm : 1 ≤ mc) (hs : 10 ≤ ms) (ha : h a = some (.inl (3, [.ref (q_ad g 0), .int (nI 0), .int mv]))) : MG g y_AL_add1 b_AL_add1 2 (some .boolean) d mc ms [.ref a, .ref x] h (fun q h' => ∃ c, q = .inl (some (.int 1)) ∧ h c = none ∧ q_bs g ≤ c ∧ h' = q_up (q_up h c (q_ra 10 (va_up (fun _ => none) 0 (some x)))) a (.inl (3, [.ref c, .int (nI (0 + 1)), .int (mv + 1)]))) := by
  refine MG.of (by decide +kernel) (by simp [Value.category]) (Nat.le_of_ble_eq_true rfl) ?_
  intro Z A ok
  refine g_aload_n ok (dk m_AL_add1 0 rfl) (pc' := 1) rfl (i := 0) rfl rfl ?_
  refine g_dup ok (dk m_AL_add1 1 rfl) (pc' := 2) rfl rfl ?_
  refine g_get ok (dk m_AL_add1 2 rfl) (pc' := 5) rfl f_AL_63 ha rfl ?_
  refine g_iconst ok (dk m_AL_add1 3 rfl) (pc' := 6) rfl (v := 1) (by decide) ?_
  refine g_iadd ok (dk m_AL_add1 4 rfl) (pc' := 7) rfl ?_
  refine g_put ok (dk m_AL_add1 5 rfl) (pc' := 10) rfl f_AL_63 (Or.inl rfl) ha (Nat.le_of_ble_eq_true rfl) rfl rfl ?_
  refine g_aload_n ok (dk m_AL_add1 6 rfl) (pc' := 11) rfl (i := 0) rfl rfl ?_
  refine g_aload_n ok (dk m_AL_add1 7 rfl) (pc' := 12) rfl (i := 1) rfl rfl ?_
  refine g_aload_n ok (dk m_AL_add1 8 rfl) (pc' := 13) rfl (i := 0) rfl rfl ?_
  refine g_get ok (dk m_AL_add1 9 rfl) (pc' := 16) rfl f_AL_9 (q_up_s _ _ _) rfl ?_
  refine g_aload_n ok (dk m_AL_add1 10 rfl) (pc' := 17) rfl (i := 0) rfl rfl ?_
  refine g_get ok (dk m_AL_add1 11 rfl) (pc' := 20) rfl f_AL_48 (q_up_s _ _ _) rfl ?_
  refine g_callV ok (dk m_AL_add1 12 rfl) (pc' := 23) rfl c_AL_131 (c_AL_add2E g 3 mc ms (by omega) hm hs (q_up_s _ _ _) (show q_up h a (.inl (3, [.ref (q_ad g 0), .int (nI 0), .int (mv + 1)])) x = _ by rw [q_up_n hax.symm]; exact hx) hax hci hcx) (q_up_s _ _ _) rfl rfl (by simp [Value.category]) (by omega) rfl (rc' := 0) (rs' := 0) (by omega) (by omega) (fun rv h' hcc => ?_) (fun i h' hcc => by obtain ⟨c, e, -⟩ := hcc; cases e)
  obtain ⟨c, e, hc, hcb, e2⟩ := hcc
  have e3 := e2.symm
  subst e3
  cases e
  refine g_iconst ok (dk m_AL_add1 13 rfl) (pc' := 24) rfl (v := 1) (by decide) ?_
  exact g_iret ok (dk m_AL_add1 14 rfl) rfl rfl ⟨c, rfl, q_none hc, hcb, by rw [q_up_c (q_on ha (q_none hc)), q_up_u]⟩
set_option maxHeartbeats 1000000 in
theorem c_AL_add1F (g : q_G) {h : q_H} {a b n : Nat} {f : Nat → Option Nat} {mv : Int32} {x ci : Nat} {C : String} {fs : List Value} (hx : h x = some (.inl (ci, fs))) (hax : a ≠ x) (hci : q_Ty ci C) (hcx : Cond.castable C "java/lang/Object" ∈ q_X) (d mc ms : Nat) (hd : 6 ≤ d) (hm : 1 ≤ mc) (hs : n + n / 2 ≤ ms) (h2 : 2 ≤ n) (hn : n ≤ 100000) (ha : h a = some (.inl (3, [.ref b, .int (nI n), .int mv]))) (hb : h b = some (q_ra n f)) (hel : ∀ i y : Nat, i < n → f i = some y → q_obj h y ∧ y ≠ a) : MG g y_AL_add1 b_AL_add1 2 (some .boolean) d mc ms [.ref a, .ref x] h (fun q h' => ∃ c, q = .inl (some (.int 1)) ∧ h c = none ∧ q_bs g ≤ c ∧ h' = q_up (q_up h c (q_ra (n + n / 2) (va_up (va_cpy f (fun _ => none) 0 0 n) n (some x)))) a (.inl (3, [.ref c, .int (nI (n + 1)), .int (mv + 1)]))) := by
  refine MG.of (by decide +kernel) (by simp [Value.category]) (Nat.le_of_ble_eq_true rfl) ?_
  intro Z A ok
  refine g_aload_n ok (dk m_AL_add1 0 rfl) (pc' := 1) rfl (i := 0) rfl rfl ?_
  refine g_dup ok (dk m_AL_add1 1 rfl) (pc' := 2) rfl rfl ?_
  refine g_get ok (dk m_AL_add1 2 rfl) (pc' := 5) rfl f_AL_63 ha rfl ?_
  refine g_iconst ok (dk m_AL_add1 3 rfl) (pc' := 6) rfl (v := 1) (by decide) ?_
  refine g_iadd ok (dk m_AL_add1 4 rfl) (pc' := 7) rfl ?_
  refine g_put ok (dk m_AL_add1 5 rfl) (pc' := 10) rfl f_AL_63 (Or.inl rfl) ha (Nat.le_of_ble_eq_true rfl) rfl rfl ?_
  refine g_aload_n ok (dk m_AL_add1 6 rfl) (pc' := 11) rfl (i := 0) rfl rfl ?_
  refine g_aload_n ok (dk m_AL_add1 7 rfl) (pc' := 12) rfl (i := 1) rfl rfl ?_
  refine g_aload_n ok (dk m_AL_add1 8 rfl) (pc' := 13) rfl (i := 0) rfl rfl ?_
  refine g_get ok (dk m_AL_add1 9 rfl) (pc' := 16) rfl f_AL_9 (q_up_s _ _ _) rfl ?_
  refine g_aload_n ok (dk m_AL_add1 10 rfl) (pc' := 17) rfl (i := 0) rfl rfl ?_
  refine g_get ok (dk m_AL_add1 11 rfl) (pc' := 20) rfl f_AL_48 (q_up_s _ _ _) rfl ?_
  refine g_callV ok (dk m_AL_add1 12 rfl) (pc' := 23) rfl c_AL_131 (c_AL_add2F g 5 mc ms (by omega) hm hs h2 hn (q_up_s _ _ _) (show q_up h a (.inl (3, [.ref b, .int (nI n), .int (mv + 1)])) b = _ by rw [q_up_n (q_oa ha hb).symm]; exact hb) (fun i y hi hy => by obtain ⟨⟨cj, D, gs, e1, e2, e3⟩, e4⟩ := hel i y hi hy; exact ⟨cj, D, gs, by rw [q_up_n e4]; exact e1, e2, e3⟩) (show q_up h a (.inl (3, [.ref b, .int (nI n), .int (mv + 1)])) x = _ by rw [q_up_n hax.symm]; exact hx) hax hci hcx) (q_up_s _ _ _) rfl rfl (by simp [Value.category]) (by omega) rfl (rc' := 0) (rs' := 0) (by omega) (by omega) (fun rv h' hcc => ?_) (fun i h' hcc => by obtain ⟨c, e, -⟩ := hcc; cases e)
  obtain ⟨c, e, hc, hcb, e2⟩ := hcc
  have e3 := e2.symm
  subst e3
  cases e
  refine g_iconst ok (dk m_AL_add1 13 rfl) (pc' := 24) rfl (v := 1) (by decide) ?_
  exact g_iret ok (dk m_AL_add1 14 rfl) rfl rfl ⟨c, rfl, q_none hc, hcb, by rw [q_up_c (q_on ha (q_none hc)), q_up_u]⟩
set_option maxHeartbeats 1000000 in
theorem c_AL_size (g : q_G) {h : q_H} {a : Nat} {e : Value} {cnt : Nat} {mv : Value} (d : Nat) (ha : h a = some (.inl (3, [e, .int (nI cnt), mv]))) : MG g y_AL_size b_AL_size 1 (some .int) d 0 0 [.ref a] h (fun q h' => q = .inl (some (.int (nI cnt))) ∧ h' = h) := by
  refine MG.of (by decide +kernel) (by simp [Value.category]) (Nat.le_of_ble_eq_true rfl) ?_
  intro Z A ok
  refine g_aload_n ok (dk m_AL_size 0 rfl) (pc' := 1) rfl (i := 0) rfl rfl ?_
  refine g_get ok (dk m_AL_size 1 rfl) (pc' := 4) rfl f_AL_48 ha rfl ?_
  exact g_iret ok (dk m_AL_size 2 rfl) rfl rfl ⟨rfl, rfl⟩
set_option maxHeartbeats 1000000 in
theorem c_Prec_checkIndex (g : q_G) {h : q_H} {i n : Nat} (d : Nat) (hi : i < n) (hn : n < 2 ^ 31) : MG g y_Prec_checkIndex b_Prec_checkIndex 3 (some .int) d 0 0 [.int (nI i), .int (nI n), .null] h (fun q h' => q = .inl (some (.int (nI i))) ∧ h' = h) := by
  refine MG.of (by decide +kernel) (by simp [Value.category]) (Nat.le_of_ble_eq_true rfl) ?_
  intro Z A ok
  refine g_iload_n ok (dk m_Prec_checkIndex 0 rfl) (pc' := 1) rfl (i := 0) rfl rfl ?_
  refine g_if_lt ok (dk m_Prec_checkIndex 1 rfl) (tgt := 9) (by decide) (pc' := 4) rfl (fun c_1 => absurd c_1 (nI_pos (by omega))) (fun c_1 => ?_)
  refine g_iload_n ok (dk m_Prec_checkIndex 2 rfl) (pc' := 5) rfl (i := 0) rfl rfl ?_
  refine g_iload_n ok (dk m_Prec_checkIndex 3 rfl) (pc' := 6) rfl (i := 1) rfl rfl ?_
  refine g_icmp_lt ok (dk m_Prec_checkIndex 4 rfl) (tgt := 16) (by decide) (pc' := 9) rfl (fun c_6 => ?_) (fun c_6 => absurd (nI_lt hi hn) c_6)
  refine g_iload_n ok (dk m_Prec_checkIndex 10 rfl) (pc' := 17) rfl (i := 0) rfl rfl ?_
  exact g_iret ok (dk m_Prec_checkIndex 11 rfl) rfl rfl ⟨rfl, rfl⟩
set_option maxHeartbeats 1000000 in
theorem c_Objs_checkIndex (g : q_G) {h : q_H} {i n : Nat} (d : Nat) (hd : 1 ≤ d) (hi : i < n) (hn : n < 2 ^ 31) : MG g y_Objs_checkIndex b_Objs_checkIndex 2 (some .int) d 0 0 [.int (nI i), .int (nI n)] h (fun q h' => q = .inl (some (.int (nI i))) ∧ h' = h) := by
  refine MG.of (by decide +kernel) (by simp [Value.category]) (Nat.le_of_ble_eq_true rfl) ?_
  intro Z A ok
  refine g_iload_n ok (dk m_Objs_checkIndex 0 rfl) (pc' := 1) rfl (i := 0) rfl rfl ?_
  refine g_iload_n ok (dk m_Objs_checkIndex 1 rfl) (pc' := 2) rfl (i := 1) rfl rfl ?_
  refine g_null ok (dk m_Objs_checkIndex 2 rfl) (pc' := 3) rfl ?_
  refine g_callS ok (dk m_Objs_checkIndex 3 rfl) (pc' := 6) rfl c_Objs_105 (c_Prec_checkIndex g 0 hi hn) rfl rfl (by simp [Value.category]) (by omega) rfl (rc' := 0) (rs' := 0) (by omega) (by omega) (fun rv h' hcc => ?_) (fun i h' hcc => by obtain ⟨e, -⟩ := hcc; cases e)
  obtain ⟨e, e2⟩ := hcc
  have e3 := e2.symm
  subst e3
  cases e
  exact g_iret ok (dk m_Objs_checkIndex 4 rfl) rfl rfl ⟨rfl, rfl⟩
set_option maxHeartbeats 1000000 in
theorem c_AL_elementData (g : q_G) {h : q_H} {a b n i x : Nat} {f : Nat → Option Nat} {s mv : Value} (d : Nat) (ha : h a = some (.inl (3, [.ref b, s, mv]))) (hb : h b = some (q_ra n f)) (hi : i < n) (hn : n < 2 ^ 31) (hf : f i = some x) : MG g y_AL_elementData b_AL_elementData 2 (some (.object "java/lang/Object")) d 0 0 [.ref a, .int (nI i)] h (fun q h' => q = .inl (some (.ref x)) ∧ h' = h) := by
  refine MG.of (by decide +kernel) (by simp [Value.category]) (Nat.le_of_ble_eq_true rfl) ?_
  intro Z A ok
  refine g_aload_n ok (dk m_AL_elementData 0 rfl) (pc' := 1) rfl (i := 0) rfl rfl ?_
  refine g_get ok (dk m_AL_elementData 1 rfl) (pc' := 4) rfl f_AL_9 ha rfl ?_
  refine g_iload_n ok (dk m_AL_elementData 2 rfl) (pc' := 5) rfl (i := 1) rfl rfl ?_
  refine g_aald ok (dk m_AL_elementData 3 rfl) (pc' := 6) rfl hb hi hn ?_
  refine g_top (w := .ref x) (by rw [hf]; rfl) ?_
  exact g_aret ok (dk m_AL_elementData 4 rfl) rfl (Or.inl ⟨_, rfl⟩) (Or.inr ⟨_, rfl⟩) ⟨rfl, rfl⟩
set_option maxHeartbeats 1000000 in
theorem c_AL_get (g : q_G) {h : q_H} {a : Nat} {ob : Option Nat} {cnt i : Nat} {el : Nat → Nat} (d : Nat) (hd : 2 ≤ d) (hl : q_lst g h a ob cnt el) (hi : i < cnt) : MG g y_AL_get b_AL_get 2 (some (.object "java/lang/Object")) d 0 0 [.ref a, .int (nI i)] h (fun q h' => q = .inl (some (.ref (el i))) ∧ h' = h) := by
  refine MG.of (by decide +kernel) (by simp [Value.category]) (Nat.le_of_ble_eq_true rfl) ?_
  intro Z A ok
  obtain ⟨b, n, f, mv, ha, hb, h3, h4, h5, hf⟩ : ∃ b n f mv, h a = some (.inl (3, [.ref b, .int (nI cnt), .int mv])) ∧ h b = some (q_ra n f) ∧ cnt ≤ n ∧ 10 ≤ n ∧ n ≤ 150 ∧ ∀ i, i < cnt → f i = some (el i) := by
    cases ob with
    | none =>
      obtain ⟨e, -⟩ := hl
      omega
    | some b =>
      obtain ⟨n, f, mv, hl⟩ := hl
      exact ⟨b, n, f, mv, hl⟩
  refine g_iload_n ok (dk m_AL_get 0 rfl) (pc' := 1) rfl (i := 1) rfl rfl ?_
  refine g_aload_n ok (dk m_AL_get 1 rfl) (pc' := 2) rfl (i := 0) rfl rfl ?_
  refine g_get ok (dk m_AL_get 2 rfl) (pc' := 5) rfl f_AL_48 ha rfl ?_
  refine g_callS ok (dk m_AL_get 3 rfl) (pc' := 8) rfl c_AL_118 (c_Objs_checkIndex g 1 (by omega) hi (by omega)) rfl rfl (by simp [Value.category]) (by omega) rfl (rc' := 0) (rs' := 0) (by omega) (by omega) (fun rv h' hcc => ?_) (fun i h' hcc => by obtain ⟨e, -⟩ := hcc; cases e)
  obtain ⟨e, e2⟩ := hcc
  have e3 := e2.symm
  subst e3
  cases e
  refine g_pop ok (dk m_AL_get 4 rfl) (pc' := 9) rfl rfl ?_
  refine g_aload_n ok (dk m_AL_get 5 rfl) (pc' := 10) rfl (i := 0) rfl rfl ?_
  refine g_iload_n ok (dk m_AL_get 6 rfl) (pc' := 11) rfl (i := 1) rfl rfl ?_
  refine g_callV ok (dk m_AL_get 7 rfl) (pc' := 14) rfl c_AL_123 (c_AL_elementData g 0 ha hb (by omega) (by omega) (hf i hi)) ha rfl rfl (by simp [Value.category]) (by omega) rfl (rc' := 0) (rs' := 0) (by omega) (by omega) (fun rv h' hcc => ?_) (fun i h' hcc => by obtain ⟨e, -⟩ := hcc; cases e)
  obtain ⟨e, e2⟩ := hcc
  have e3 := e2.symm
  subst e3
  cases e
  exact g_aret ok (dk m_AL_get 8 rfl) rfl (Or.inl ⟨_, rfl⟩) (Or.inr ⟨_, rfl⟩) ⟨rfl, rfl⟩
set_option maxHeartbeats 1000000 in
theorem c_AL_add (g : q_G) {h : q_H} {a : Nat} {ob : Option Nat} {cnt : Nat} {el : Nat → Nat} {x ci : Nat} {C : String} {fs : List Value} (d mc ms : Nat) (hd : 6 ≤ d) (hm : 1 ≤ mc) (hs : 110 ≤ ms) (hl : q_lst g h a ob cnt el) (hcnt : cnt ≤ 72) (hel : ∀ i, i < cnt → q_obj h (el i) ∧ el i ≠ a) (hx : h x = some (.inl (ci, fs))) (hax : a ≠ x) (hci : q_Ty ci C) (hcx : Cond.castable C "java/lang/Object" ∈ q_X) :
    MG g y_AL_add1 b_AL_add1 2 (some .boolean) d mc ms [.ref a, .ref x] h (fun q h' => q = .inl (some (.int 1)) ∧ ∃ ob', q_lst g h' a ob' (cnt + 1) (va_up el cnt x) ∧ (∀ y o, h y = some o → y ≠ a → (∀ b, ob = some b → y ≠ b) → h' y = some o) ∧ (ob' = ob ∨ ∃ c, ob' = some c ∧ h c = none ∧ q_bs g ≤ c) ∧ ∀ y, h y = none → ob' ≠ some y → h' y = none) := by
  have hup : ∀ i, i < cnt + 1 → ∀ f : Nat → Option Nat, (∀ i, i < cnt → f i = some (el i)) → va_up f cnt (some x) i = some (va_up el cnt x i) := by
    intro i hi f hf
    unfold va_up
    by_cases e : i = cnt
    · rw [if_pos e, if_pos e]
    · rw [if_neg e, if_neg e]
      exact hf i (by omega)
  cases ob with
  | none =>
    obtain ⟨rfl, mv, ha⟩ := hl
    refine MG.mono (c_AL_add1E g hx hax hci hcx d mc ms (by omega) hm (by omega) ha) ?_
    rintro q h' ⟨c, rfl, hc, hcb, rfl⟩
    have hca : c ≠ a := (q_on ha hc).symm
    refine ⟨rfl, some c, ⟨10, _, mv + 1, q_up_s _ _ _, by rw [q_up_n hca, q_up_s], by omega, by omega, by omega, fun i hi => hup i hi _ (fun i hi => by omega)⟩, fun y o hy h1 _ => by rw [q_up_n h1, q_up_n (q_on hy hc)]; exact hy, Or.inr ⟨c, rfl, hc, hcb⟩, fun y hy h1 => by rw [q_up_n (fun e => by rw [e, ha] at hy; cases hy), q_up_n (fun e => h1 (by rw [e]))]; exact hy⟩
  | some b =>
    obtain ⟨n, f, mv, ha, hb, h3, h4, h5, hf⟩ := hl
    rcases Nat.lt_or_ge cnt n with hlt | hge
    · have hM := c_AL_add1R g hx hax hci hcx d (by omega) hlt (by omega) ha hb
      refine MG.mono (MG.more hM (Nat.zero_le _) (Nat.zero_le _)) ?_
      rintro q h' ⟨rfl, rfl⟩
      have hba : b ≠ a := (q_oa ha hb).symm
      refine ⟨rfl, some b, ⟨n, _, mv + 1, q_up_s _ _ _, by rw [q_up_n hba, q_up_s], by omega, h4, h5, fun i hi => hup i hi f hf⟩, fun y o hy h1 h2 => by rw [q_up_n h1, q_up_n (h2 b rfl)]; exact hy, Or.inl rfl, fun y hy h1 => by rw [q_up_n (fun e => by rw [e, ha] at hy; cases hy), q_up_n (fun e => h1 (by rw [e]))]; exact hy⟩
    · have hn : n = cnt := by omega
      subst hn
      refine MG.mono (c_AL_add1F g hx hax hci hcx d mc ms hd hm (by omega) (by omega) (by omega) ha hb (fun i y hi hy => by rw [hf i hi] at hy; cases hy; exact hel i hi)) ?_
      rintro q h' ⟨c, rfl, hc, hcb, rfl⟩
      have hca : c ≠ a := (q_on ha hc).symm
      refine ⟨rfl, some c, ⟨n + n / 2, _, mv + 1, q_up_s _ _ _, by rw [q_up_n hca, q_up_s], by omega, by omega, by omega, fun i hi => hup i hi _ (fun i hi => by unfold va_cpy; rw [if_pos ⟨Nat.zero_le _, by omega⟩]; rw [show 0 + (i - 0) = i by omega]; exact hf i hi)⟩, fun y o hy h1 _ => by rw [q_up_n h1, q_up_n (q_on hy hc)]; exact hy, Or.inr ⟨c, rfl, hc, hcb⟩, fun y hy h1 => by rw [q_up_n (fun e => by rw [e, ha] at hy; cases hy), q_up_n (fun e => h1 (by rw [e]))]; exact hy⟩
end
section
/-! ===== Secrets ===== -/
abbrev s_T : Type := (Nat → Nat → Int32) × (Nat → Int32)
def s_len (i : Nat) : Nat := if 2 ≤ i ∧ i ≤ 4 then 2600 else 2200
theorem s_len_lt (i : Nat) : s_len i < 2 ^ 31 := by
  unfold s_len
  split <;> decide
abbrev s_fs (ra : Nat → Nat) (S : s_T) : List Value := [.ref (ra 0), .ref (ra 1), .ref (ra 2), .ref (ra 3), .ref (ra 4), .ref (ra 5), .int (S.2 0), .int (S.2 1), .int (S.2 2), .int (S.2 3)]
def q_sec (h : q_H) (s : Nat) (ra rb : Nat → Nat) (S : s_T) : Prop := h s = some (.inl (1, s_fs ra S)) ∧ (∀ i, i < 6 → h (ra i) = some (.inl (2, [.ref (rb i)])) ∧ h (rb i) = some (.inr (0, s_len i, .inl (S.1 i)))) ∧ ∀ i j, i < 6 → j < 6 → rb i = rb j → i = j
def q_off (h h' : q_H) (X : Nat → Prop) : Prop := ∀ y, ¬ X y → h' y = h y
theorem q_off.rf {h : q_H} {X : Nat → Prop} : q_off h h X := fun _ _ => rfl
theorem q_off.up {h h1 : q_H} {X : Nat → Prop} {a : Nat} {o : q_O} (ho : q_off h h1 X) (ha : X a) : q_off h (q_up h1 a o) X := fun y hy => by
  rw [q_up_n (fun e => hy (by rw [e]; exact ha))]
  exact ho y hy
theorem q_off.tr {h h1 h2 : q_H} {X : Nat → Prop} (a : q_off h h1 X) (b : q_off h1 h2 X) : q_off h h2 X := fun y hy => (b y hy).trans (a y hy)
abbrev s_P (s : Nat) (rb : Nat → Nat) : Nat → Prop := fun y => y = s ∨ ∃ i, i < 6 ∧ y = rb i
theorem q_sec.put {h : q_H} {s : Nat} {ra rb : Nat → Nat} {S : s_T} (hs : q_sec h s ra rb S) (i : Nat) (hi : i < 6) (f : Nat → Int32) : q_sec (q_up h (rb i) (.inr (0, s_len i, .inl f))) s ra rb (va_up S.1 i f, S.2) := by
  obtain ⟨h1, h2, h3⟩ := hs
  refine ⟨?_, fun j hj => ⟨?_, ?_⟩, h3⟩
  · rw [q_up_n (q_oa h1 (h2 i hi).2)]
    exact h1
  · rw [q_up_n (q_oa (h2 j hj).1 (h2 i hi).2)]
    exact (h2 j hj).1
  · by_cases e : j = i
    · subst e
      rw [q_up_s]
      show _ = some (Sum.inr (0, s_len j, Sum.inl (va_up S.1 j f j)))
      rw [show va_up S.1 j f j = f from if_pos rfl]
    · rw [q_up_n (fun z => e (h3 j i hj hi z))]
      show _ = some (Sum.inr (0, s_len j, Sum.inl (va_up S.1 i f j)))
      rw [show va_up S.1 i f j = S.1 j from if_neg e]
      exact (h2 j hj).2
theorem q_sec.putE {h h' : q_H} {s : Nat} {ra rb : Nat → Nat} {S : s_T} (hs : q_sec h s ra rb S) (i : Nat) (hi : i < 6) {f : Nat → Int32} (e : h' = q_up h (rb i) (.inr (0, s_len i, .inl f))) : q_sec h' s ra rb (va_up S.1 i f, S.2) := by
  rw [e]
  exact hs.put i hi f
theorem q_off.upE {h h1 h2 : q_H} {X : Nat → Prop} {a : Nat} {o : q_O} (ho : q_off h h1 X) (ha : X a) (e : h2 = q_up h1 a o) : q_off h h2 X := by
  rw [e]
  exact ho.up ha
theorem q_sec.cnt {h : q_H} {s : Nat} {ra rb : Nat → Nat} {S : s_T} (hs : q_sec h s ra rb S) (k : Nat) (hk : k < 4) (v : Int32) : q_sec (q_up h s (.inl (1, (s_fs ra S).set (6 + k) (.int v)))) s ra rb (S.1, upd S.2 k v) := by
  obtain ⟨h1, h2, h3⟩ := hs
  refine ⟨?_, fun j hj => ⟨?_, ?_⟩, h3⟩
  · rw [q_up_s]
    rcases (show k = 0 ∨ k = 1 ∨ k = 2 ∨ k = 3 by omega) with rfl | rfl | rfl | rfl <;> rfl
  · have hne : ra j ≠ s := fun e => by
      have := (h2 j hj).1
      rw [e, h1] at this
      cases this
    rw [q_up_n hne]
    exact (h2 j hj).1
  · rw [q_up_n (q_oa h1 (h2 j hj).2).symm]
    exact (h2 j hj).2
def S_fresh (S : s_T) : Int32 × s_T := if S.2 0 < 2200 then (S.2 0, (S.1, upd S.2 0 (S.2 0 + 1))) else (-1, S)
noncomputable def S_told (S : s_T) (x : Int32) : Prop := r_get (s_len 0) (S.1 0) x = 1
noncomputable def S_tell (S : s_T) (x : Int32) : s_T := by
  classical exact if ¬ x < 0 ∧ ¬ S.2 0 ≤ x ∧ r_get (s_len 0) (S.1 0) x = 0 then (va_up (va_up S.1 0 (r_put (s_len 0) (S.1 0) x 1)) 5 (r_put (s_len 5) (S.1 5) (S.2 2) x), upd S.2 2 (S.2 2 + 1)) else S
set_option maxHeartbeats 1000000 in
theorem c_Sec_fresh (g : q_G) {h : q_H} {s : Nat} {ra rb : Nat → Nat} {S : s_T} (d : Nat) (hs : q_sec h s ra rb S) : MG g y_Sec_fresh b_Sec_fresh 1 (some .int) d 0 0 [.ref s] h (fun q h' => q = .inl (some (.int (S_fresh S).1)) ∧ q_sec h' s ra rb (S_fresh S).2 ∧ q_off h h' (s_P s rb)) := by
  refine MG.of (by decide +kernel) (by simp [Value.category]) (Nat.le_of_ble_eq_true rfl) ?_
  intro Z A ok
  refine g_aload_n ok (dk m_Sec_fresh 0 rfl) (pc' := 1) rfl (i := 0) rfl rfl ?_
  refine g_get ok (dk m_Sec_fresh 1 rfl) (pc' := 4) rfl f_Sec_35 hs.1 rfl ?_
  refine g_sipush ok (dk m_Sec_fresh 2 rfl) (pc' := 7) rfl (v := 2200) (by decide) ?_
  refine g_icmp_lt ok (dk m_Sec_fresh 3 rfl) (tgt := 12) (by decide) (pc' := 10) rfl (fun c_7 => ?_) (fun c_7 => ?_)
  · refine g_aload_n ok (dk m_Sec_fresh 6 rfl) (pc' := 13) rfl (i := 0) rfl rfl ?_
    refine g_dup ok (dk m_Sec_fresh 7 rfl) (pc' := 14) rfl rfl ?_
    refine g_get ok (dk m_Sec_fresh 8 rfl) (pc' := 17) rfl f_Sec_35 hs.1 rfl ?_
    refine g_dup_x1 ok (dk m_Sec_fresh 9 rfl) (pc' := 18) rfl rfl rfl ?_
    refine g_iconst ok (dk m_Sec_fresh 10 rfl) (pc' := 19) rfl (v := 1) (by decide) ?_
    refine g_iadd ok (dk m_Sec_fresh 11 rfl) (pc' := 20) rfl ?_
    refine g_put ok (dk m_Sec_fresh 12 rfl) (pc' := 23) rfl f_Sec_35 (Or.inl rfl) hs.1 (Nat.le_of_ble_eq_true rfl) rfl rfl ?_
    exact g_iret ok (dk m_Sec_fresh 13 rfl) rfl rfl ⟨by rw [S_fresh, if_pos c_7], by rw [S_fresh, if_pos c_7]; exact hs.cnt 0 (by decide) _, q_off.rf.up (Or.inl rfl)⟩
  · refine g_iconst ok (dk m_Sec_fresh 4 rfl) (pc' := 11) rfl (v := (-1)) (by decide) ?_
    exact g_iret ok (dk m_Sec_fresh 5 rfl) rfl rfl ⟨by rw [S_fresh, if_neg c_7], by rw [S_fresh, if_neg c_7]; exact hs, q_off.rf⟩
set_option maxHeartbeats 1000000 in
theorem c_Sec_isTold (g : q_G) {h : q_H} {s : Nat} {ra rb : Nat → Nat} {S : s_T} (x : Int32) (d : Nat) (hd : 1 ≤ d) (hs : q_sec h s ra rb S) : MG g y_Sec_isTold b_Sec_isTold 2 (some .boolean) d 0 0 [.ref s, .int x] h (fun q h' => (∃ z : Int32, q = .inl (some (.int z)) ∧ (z = 1 ∧ S_told S x ∨ z = 0 ∧ ¬ S_told S x)) ∧ h' = h) := by
  refine MG.of (by decide +kernel) (by simp [Value.category]) (Nat.le_of_ble_eq_true rfl) ?_
  intro Z A ok
  refine g_aload_n ok (dk m_Sec_isTold 0 rfl) (pc' := 1) rfl (i := 0) rfl rfl ?_
  refine g_get ok (dk m_Sec_isTold 1 rfl) (pc' := 4) rfl f_Sec_14 hs.1 rfl ?_
  refine g_iload_n ok (dk m_Sec_isTold 2 rfl) (pc' := 5) rfl (i := 1) rfl rfl ?_
  refine g_callV ok (dk m_Sec_isTold 3 rfl) (pc' := 8) rfl c_Sec_59 (c_Row_get g x 0 (hs.2.1 0 (by decide)).1 (hs.2.1 0 (by decide)).2 (s_len_lt _)) (hs.2.1 0 (by decide)).1 rfl rfl (by simp [Value.category]) (by omega) rfl (rc' := 0) (rs' := 0) (by omega) (by omega) (fun rv h' hcc => ?_) (fun i h' hcc => by obtain ⟨e, -⟩ := hcc; cases e)
  obtain ⟨e, e2⟩ := hcc
  have e3 := e2.symm
  subst e3
  cases e
  refine g_iconst ok (dk m_Sec_isTold 4 rfl) (pc' := 9) rfl (v := 1) (by decide) ?_
  refine g_icmp_ne ok (dk m_Sec_isTold 5 rfl) (tgt := 16) (by decide) (pc' := 12) rfl (fun c_9 => ?_) (fun c_9 => ?_)
  · refine g_iconst ok (dk m_Sec_isTold 8 rfl) (pc' := 17) rfl (v := 0) (by decide) ?_
    exact g_iret ok (dk m_Sec_isTold 9 rfl) rfl rfl ⟨⟨0, rfl, Or.inr ⟨rfl, c_9⟩⟩, rfl⟩
  · refine g_iconst ok (dk m_Sec_isTold 6 rfl) (pc' := 13) rfl (v := 1) (by decide) ?_
    refine g_goto ok (dk m_Sec_isTold 7 rfl) (pc' := 17) (by decide) ?_
    exact g_iret ok (dk m_Sec_isTold 9 rfl) rfl rfl ⟨⟨1, rfl, Or.inl ⟨rfl, c_9⟩⟩, rfl⟩
set_option maxHeartbeats 1000000 in
theorem c_Sec_tell (g : q_G) {h : q_H} {s : Nat} {ra rb : Nat → Nat} {S : s_T} (x : Int32) (d : Nat) (hd : 1 ≤ d) (hs : q_sec h s ra rb S) : MG g y_Sec_tell b_Sec_tell 2 none d 0 0 [.ref s, .int x] h (fun q h' => q = .inl none ∧ q_sec h' s ra rb (S_tell S x) ∧ q_off h h' (s_P s rb)) := by
  refine MG.of (by decide +kernel) (by simp [Value.category]) (Nat.le_of_ble_eq_true rfl) ?_
  intro Z A ok
  refine g_iload_n ok (dk m_Sec_tell 0 rfl) (pc' := 1) rfl (i := 1) rfl rfl ?_
  refine g_if_lt ok (dk m_Sec_tell 1 rfl) (tgt := 54) (by decide) (pc' := 4) rfl (fun c_1 => ?_) (fun c_1 => ?_)
  · exact g_vret ok (dk m_Sec_tell 28 rfl) rfl ⟨rfl, by rw [S_tell, if_neg (fun z => z.1 c_1)]; exact hs, q_off.rf⟩
  · refine g_iload_n ok (dk m_Sec_tell 2 rfl) (pc' := 5) rfl (i := 1) rfl rfl ?_
    refine g_aload_n ok (dk m_Sec_tell 3 rfl) (pc' := 6) rfl (i := 0) rfl rfl ?_
    refine g_get ok (dk m_Sec_tell 4 rfl) (pc' := 9) rfl f_Sec_35 hs.1 rfl ?_
    refine g_icmp_ge ok (dk m_Sec_tell 5 rfl) (tgt := 54) (by decide) (pc' := 12) rfl (fun c_9 => ?_) (fun c_9 => ?_)
    · exact g_vret ok (dk m_Sec_tell 28 rfl) rfl ⟨rfl, by rw [S_tell, if_neg (fun z => z.2.1 c_9)]; exact hs, q_off.rf⟩
    · refine g_aload_n ok (dk m_Sec_tell 6 rfl) (pc' := 13) rfl (i := 0) rfl rfl ?_
      refine g_get ok (dk m_Sec_tell 7 rfl) (pc' := 16) rfl f_Sec_14 hs.1 rfl ?_
      refine g_iload_n ok (dk m_Sec_tell 8 rfl) (pc' := 17) rfl (i := 1) rfl rfl ?_
      refine g_callV ok (dk m_Sec_tell 9 rfl) (pc' := 20) rfl c_Sec_59 (c_Row_get g x 0 (hs.2.1 0 (by decide)).1 (hs.2.1 0 (by decide)).2 (s_len_lt _)) (hs.2.1 0 (by decide)).1 rfl rfl (by simp [Value.category]) (by omega) rfl (rc' := 0) (rs' := 0) (by omega) (by omega) (fun rv h' hcc => ?_) (fun i h' hcc => by obtain ⟨e, -⟩ := hcc; cases e)
      obtain ⟨e, e2⟩ := hcc
      have e3 := e2.symm
      subst e3
      cases e
      refine g_if_ne ok (dk m_Sec_tell 10 rfl) (tgt := 54) (by decide) (pc' := 23) rfl (fun c_20 => ?_) (fun c_20 => ?_)
      · exact g_vret ok (dk m_Sec_tell 28 rfl) rfl ⟨rfl, by rw [S_tell, if_neg (fun z => c_20 z.2.2)]; exact hs, q_off.rf⟩
      · refine g_aload_n ok (dk m_Sec_tell 11 rfl) (pc' := 24) rfl (i := 0) rfl rfl ?_
        refine g_get ok (dk m_Sec_tell 12 rfl) (pc' := 27) rfl f_Sec_14 hs.1 rfl ?_
        refine g_iload_n ok (dk m_Sec_tell 13 rfl) (pc' := 28) rfl (i := 1) rfl rfl ?_
        refine g_iconst ok (dk m_Sec_tell 14 rfl) (pc' := 29) rfl (v := 1) (by decide) ?_
        refine g_callV ok (dk m_Sec_tell 15 rfl) (pc' := 32) rfl c_Sec_48 (c_Row_put g x 1 0 (hs.2.1 0 (by decide)).1 (hs.2.1 0 (by decide)).2 (s_len_lt _)) (hs.2.1 0 (by decide)).1 rfl rfl (by simp [Value.category]) (by omega) rfl (rc' := 0) (rs' := 0) (by omega) (by omega) (fun rv h' hcc => ?_) (fun i h' hcc => by obtain ⟨e, -⟩ := hcc; cases e)
        obtain ⟨e, e2⟩ := hcc
        cases e
        have hs1 := hs.putE 0 (by decide) e2
        have ho1 := q_off.upE (q_off.rf (X := s_P s rb)) (Or.inr ⟨0, by decide, rfl⟩) e2
        clear e2
        refine g_aload_n ok (dk m_Sec_tell 16 rfl) (pc' := 33) rfl (i := 0) rfl rfl ?_
        refine g_get ok (dk m_Sec_tell 17 rfl) (pc' := 36) rfl f_Sec_32 hs1.1 rfl ?_
        refine g_aload_n ok (dk m_Sec_tell 18 rfl) (pc' := 37) rfl (i := 0) rfl rfl ?_
        refine g_get ok (dk m_Sec_tell 19 rfl) (pc' := 40) rfl f_Sec_42 hs1.1 rfl ?_
        refine g_iload_n ok (dk m_Sec_tell 20 rfl) (pc' := 41) rfl (i := 1) rfl rfl ?_
        refine g_callV ok (dk m_Sec_tell 21 rfl) (pc' := 44) rfl c_Sec_48 (c_Row_put g (S.2 2) x 0 (hs1.2.1 5 (by decide)).1 (hs1.2.1 5 (by decide)).2 (s_len_lt _)) (hs1.2.1 5 (by decide)).1 rfl rfl (by simp [Value.category]) (by omega) rfl (rc' := 0) (rs' := 0) (by omega) (by omega) (fun rv h2 hcc => ?_) (fun i h' hcc => by obtain ⟨e, -⟩ := hcc; cases e)
        obtain ⟨e, e2⟩ := hcc
        cases e
        have hs2 := hs1.putE 5 (by decide) e2
        have ho2 := q_off.upE ho1 (Or.inr ⟨5, by decide, rfl⟩) e2
        clear e2
        refine g_aload_n ok (dk m_Sec_tell 22 rfl) (pc' := 45) rfl (i := 0) rfl rfl ?_
        refine g_dup ok (dk m_Sec_tell 23 rfl) (pc' := 46) rfl rfl ?_
        refine g_get ok (dk m_Sec_tell 24 rfl) (pc' := 49) rfl f_Sec_42 hs2.1 rfl ?_
        refine g_iconst ok (dk m_Sec_tell 25 rfl) (pc' := 50) rfl (v := 1) (by decide) ?_
        refine g_iadd ok (dk m_Sec_tell 26 rfl) (pc' := 51) rfl ?_
        refine g_put ok (dk m_Sec_tell 27 rfl) (pc' := 54) rfl f_Sec_42 (Or.inl rfl) hs2.1 (Nat.le_of_ble_eq_true rfl) rfl rfl ?_
        exact g_vret ok (dk m_Sec_tell 28 rfl) rfl ⟨rfl, by rw [S_tell, if_pos ⟨c_1, c_9, c_20⟩]; exact hs2.cnt 2 (by decide) _, ho2.up (Or.inl rfl)⟩
end
section
/-! ===== Secrets: ways ===== -/
theorem g_gen {g : q_G} {Z : q_Z} {A : Nat → Prop} {post : q_R → q_H → Prop} {rc rs : Nat} {h : q_H} {pc : Nat} {ls : List (Option Value)} {st : List Value} (kk : ∀ h', h' = h → GW g Z A post rc rs h' pc ls st) : GW g Z A post rc rs h pc ls st := kk h rfl
theorem q_sec.cntE {h h' : q_H} {s : Nat} {ra rb : Nat → Nat} {S : s_T} (hs : q_sec h s ra rb S) (k : Nat) (hk : k < 4) {v : Int32} (e : h' = q_up h s (.inl (1, (s_fs ra S).set (6 + k) (.int v)))) : q_sec h' s ra rb (S.1, upd S.2 k v) := by
  rw [e]
  exact hs.cnt k hk v
noncomputable def S_way (S : s_T) (f w t : Int32) : s_T := (va_up (va_up (va_up (va_up S.1 3 (r_put (s_len 3) (S.1 3) (S.2 1) t)) 4 (r_put (s_len 4) (S.1 4) (S.2 1) w)) 2 (r_put (s_len 2) (S.1 2) (S.2 1) (r_get (s_len 1) (S.1 1) f))) 1 (r_put (s_len 1) (S.1 1) f (S.2 1)), upd S.2 1 (S.2 1 + 1))
noncomputable def S_open (S : s_T) (f w t : Int32) : s_T := by
  classical exact if S.2 1 < 2600 then (if S_told (S_way S f w t) f ∧ S_told (S_way S f w t) w then S_tell (S_way S f w t) t else S_way S f w t) else S
theorem z_told {S : s_T} {x z : Int32} (hz : z = 1 ∧ S_told S x ∨ z = 0 ∧ ¬ S_told S x) : (z = 0 → ¬ S_told S x) ∧ (¬ z = 0 → S_told S x) := by
  rcases hz with ⟨rfl, h⟩ | ⟨rfl, h⟩
  · exact ⟨fun e => absurd e (by decide), fun _ => h⟩
  · exact ⟨fun _ => h, fun e => absurd rfl e⟩
set_option maxHeartbeats 1000000 in
theorem c_Sec_openWay (g : q_G) {h : q_H} {s : Nat} {ra rb : Nat → Nat} {S : s_T} (f w t : Int32) (d : Nat) (hd : 2 ≤ d) (hs : q_sec h s ra rb S) : MG g y_Sec_openWay b_Sec_openWay 4 none d 0 0 [.ref s, .int f, .int w, .int t] h (fun q h' => q = .inl none ∧ q_sec h' s ra rb (S_open S f w t) ∧ q_off h h' (s_P s rb)) := by
  refine MG.of (by decide +kernel) (by simp [Value.category]) (Nat.le_of_ble_eq_true rfl) ?_
  intro Z A ok
  refine g_aload_n ok (dk m_Sec_openWay 0 rfl) (pc' := 1) rfl (i := 0) rfl rfl ?_
  refine g_get ok (dk m_Sec_openWay 1 rfl) (pc' := 4) rfl f_Sec_39 hs.1 rfl ?_
  refine g_sipush ok (dk m_Sec_openWay 2 rfl) (pc' := 7) rfl (v := 2600) (by decide) ?_
  refine g_icmp_lt ok (dk m_Sec_openWay 3 rfl) (tgt := 11) (by decide) (pc' := 10) rfl (fun c_7 => ?_) (fun c_7 => ?_)
  · refine g_aload_n ok (dk m_Sec_openWay 5 rfl) (pc' := 12) rfl (i := 0) rfl rfl ?_
    refine g_get ok (dk m_Sec_openWay 6 rfl) (pc' := 15) rfl f_Sec_26 hs.1 rfl ?_
    refine g_aload_n ok (dk m_Sec_openWay 7 rfl) (pc' := 16) rfl (i := 0) rfl rfl ?_
    refine g_get ok (dk m_Sec_openWay 8 rfl) (pc' := 19) rfl f_Sec_39 hs.1 rfl ?_
    refine g_iload_n ok (dk m_Sec_openWay 9 rfl) (pc' := 20) rfl (i := 3) rfl rfl ?_
    refine g_callV ok (dk m_Sec_openWay 10 rfl) (pc' := 23) rfl c_Sec_48 (c_Row_put g (S.2 1) t 0 (hs.2.1 3 (by decide)).1 (hs.2.1 3 (by decide)).2 (s_len_lt _)) (hs.2.1 3 (by decide)).1 rfl rfl (by simp [Value.category]) (by omega) rfl (rc' := 0) (rs' := 0) (by omega) (by omega) (fun rv h' hcc => ?_) (fun i h' hcc => by obtain ⟨e, -⟩ := hcc; cases e)
    obtain ⟨e, e2⟩ := hcc
    cases e
    have hs1 := hs.putE 3 (by decide) e2
    have ho1 := q_off.upE (q_off.rf (X := s_P s rb)) (Or.inr ⟨3, by decide, rfl⟩) e2
    clear e2
    refine g_aload_n ok (dk m_Sec_openWay 11 rfl) (pc' := 24) rfl (i := 0) rfl rfl ?_
    refine g_get ok (dk m_Sec_openWay 12 rfl) (pc' := 27) rfl f_Sec_29 hs1.1 rfl ?_
    refine g_aload_n ok (dk m_Sec_openWay 13 rfl) (pc' := 28) rfl (i := 0) rfl rfl ?_
    refine g_get ok (dk m_Sec_openWay 14 rfl) (pc' := 31) rfl f_Sec_39 hs1.1 rfl ?_
    refine g_iload_n ok (dk m_Sec_openWay 15 rfl) (pc' := 32) rfl (i := 2) rfl rfl ?_
    refine g_callV ok (dk m_Sec_openWay 16 rfl) (pc' := 35) rfl c_Sec_48 (c_Row_put g (S.2 1) w 0 (hs1.2.1 4 (by decide)).1 (hs1.2.1 4 (by decide)).2 (s_len_lt _)) (hs1.2.1 4 (by decide)).1 rfl rfl (by simp [Value.category]) (by omega) rfl (rc' := 0) (rs' := 0) (by omega) (by omega) (fun rv h' hcc => ?_) (fun i h' hcc => by obtain ⟨e, -⟩ := hcc; cases e)
    obtain ⟨e, e2⟩ := hcc
    cases e
    have hs2 := hs1.putE 4 (by decide) e2
    have ho2 := q_off.upE ho1 (Or.inr ⟨4, by decide, rfl⟩) e2
    clear e2
    refine g_aload_n ok (dk m_Sec_openWay 17 rfl) (pc' := 36) rfl (i := 0) rfl rfl ?_
    refine g_get ok (dk m_Sec_openWay 18 rfl) (pc' := 39) rfl f_Sec_23 hs2.1 rfl ?_
    refine g_aload_n ok (dk m_Sec_openWay 19 rfl) (pc' := 40) rfl (i := 0) rfl rfl ?_
    refine g_get ok (dk m_Sec_openWay 20 rfl) (pc' := 43) rfl f_Sec_39 hs2.1 rfl ?_
    refine g_aload_n ok (dk m_Sec_openWay 21 rfl) (pc' := 44) rfl (i := 0) rfl rfl ?_
    refine g_get ok (dk m_Sec_openWay 22 rfl) (pc' := 47) rfl f_Sec_20 hs2.1 rfl ?_
    refine g_iload_n ok (dk m_Sec_openWay 23 rfl) (pc' := 48) rfl (i := 1) rfl rfl ?_
    refine g_callV ok (dk m_Sec_openWay 24 rfl) (pc' := 51) rfl c_Sec_59 (c_Row_get g f 0 (hs2.2.1 1 (by decide)).1 (hs2.2.1 1 (by decide)).2 (s_len_lt _)) (hs2.2.1 1 (by decide)).1 rfl rfl (by simp [Value.category]) (by omega) rfl (rc' := 0) (rs' := 0) (by omega) (by omega) (fun rv h' hcc => ?_) (fun i h' hcc => by obtain ⟨e, -⟩ := hcc; cases e)
    obtain ⟨e, e2⟩ := hcc
    have e3 := e2.symm
    subst e3
    cases e
    refine g_callV ok (dk m_Sec_openWay 25 rfl) (pc' := 54) rfl c_Sec_48 (c_Row_put g (S.2 1) _ 0 (hs2.2.1 2 (by decide)).1 (hs2.2.1 2 (by decide)).2 (s_len_lt _)) (hs2.2.1 2 (by decide)).1 rfl rfl (by simp [Value.category]) (by omega) rfl (rc' := 0) (rs' := 0) (by omega) (by omega) (fun rv h' hcc => ?_) (fun i h' hcc => by obtain ⟨e, -⟩ := hcc; cases e)
    obtain ⟨e, e2⟩ := hcc
    cases e
    have hs3 := hs2.putE 2 (by decide) e2
    have ho3 := q_off.upE ho2 (Or.inr ⟨2, by decide, rfl⟩) e2
    clear e2
    refine g_aload_n ok (dk m_Sec_openWay 26 rfl) (pc' := 55) rfl (i := 0) rfl rfl ?_
    refine g_get ok (dk m_Sec_openWay 27 rfl) (pc' := 58) rfl f_Sec_20 hs3.1 rfl ?_
    refine g_iload_n ok (dk m_Sec_openWay 28 rfl) (pc' := 59) rfl (i := 1) rfl rfl ?_
    refine g_aload_n ok (dk m_Sec_openWay 29 rfl) (pc' := 60) rfl (i := 0) rfl rfl ?_
    refine g_get ok (dk m_Sec_openWay 30 rfl) (pc' := 63) rfl f_Sec_39 hs3.1 rfl ?_
    refine g_callV ok (dk m_Sec_openWay 31 rfl) (pc' := 66) rfl c_Sec_48 (c_Row_put g f (S.2 1) 0 (hs3.2.1 1 (by decide)).1 (hs3.2.1 1 (by decide)).2 (s_len_lt _)) (hs3.2.1 1 (by decide)).1 rfl rfl (by simp [Value.category]) (by omega) rfl (rc' := 0) (rs' := 0) (by omega) (by omega) (fun rv h' hcc => ?_) (fun i h' hcc => by obtain ⟨e, -⟩ := hcc; cases e)
    obtain ⟨e, e2⟩ := hcc
    cases e
    have hs4 := hs3.putE 1 (by decide) e2
    have ho4 := q_off.upE ho3 (Or.inr ⟨1, by decide, rfl⟩) e2
    clear e2
    refine g_aload_n ok (dk m_Sec_openWay 32 rfl) (pc' := 67) rfl (i := 0) rfl rfl ?_
    refine g_dup ok (dk m_Sec_openWay 33 rfl) (pc' := 68) rfl rfl ?_
    refine g_get ok (dk m_Sec_openWay 34 rfl) (pc' := 71) rfl f_Sec_39 hs4.1 rfl ?_
    refine g_iconst ok (dk m_Sec_openWay 35 rfl) (pc' := 72) rfl (v := 1) (by decide) ?_
    refine g_iadd ok (dk m_Sec_openWay 36 rfl) (pc' := 73) rfl ?_
    refine g_put ok (dk m_Sec_openWay 37 rfl) (pc' := 76) rfl f_Sec_39 (Or.inl rfl) hs4.1 (Nat.le_of_ble_eq_true rfl) rfl rfl ?_
    refine g_gen (fun h5 e5 => ?_)
    have hs5 : q_sec h5 s ra rb (S_way S f w t) := hs4.cntE 1 (by decide) e5
    have ho5 := q_off.upE ho4 (show s_P s rb s from Or.inl rfl) e5
    clear e5
    refine g_aload_n ok (dk m_Sec_openWay 38 rfl) (pc' := 77) rfl (i := 0) rfl rfl ?_
    refine g_iload_n ok (dk m_Sec_openWay 39 rfl) (pc' := 78) rfl (i := 1) rfl rfl ?_
    refine g_callV ok (dk m_Sec_openWay 40 rfl) (pc' := 81) rfl c_Sec_67 (c_Sec_isTold g f 1 (by omega) hs5) hs5.1 rfl rfl (by simp [Value.category]) (by omega) rfl (rc' := 0) (rs' := 0) (by omega) (by omega) (fun rv h' hcc => ?_) (fun i h' hcc => by obtain ⟨⟨z, e, -⟩, -⟩ := hcc; cases e)
    obtain ⟨⟨z1, e, hz1⟩, e2⟩ := hcc
    have e3 := e2.symm
    subst e3
    cases e
    refine g_if_eq ok (dk m_Sec_openWay 41 rfl) (tgt := 97) (by decide) (pc' := 84) rfl (fun c_81 => ?_) (fun c_81 => ?_)
    · exact g_vret ok (dk m_Sec_openWay 49 rfl) rfl ⟨rfl, by rw [S_open, if_pos c_7, if_neg (fun y => (z_told hz1).1 c_81 y.1)]; exact hs5, ho5⟩
    · refine g_aload_n ok (dk m_Sec_openWay 42 rfl) (pc' := 85) rfl (i := 0) rfl rfl ?_
      refine g_iload_n ok (dk m_Sec_openWay 43 rfl) (pc' := 86) rfl (i := 2) rfl rfl ?_
      refine g_callV ok (dk m_Sec_openWay 44 rfl) (pc' := 89) rfl c_Sec_67 (c_Sec_isTold g w 1 (by omega) hs5) hs5.1 rfl rfl (by simp [Value.category]) (by omega) rfl (rc' := 0) (rs' := 0) (by omega) (by omega) (fun rv h' hcc => ?_) (fun i h' hcc => by obtain ⟨⟨z, e, -⟩, -⟩ := hcc; cases e)
      obtain ⟨⟨z2, e, hz2⟩, e2⟩ := hcc
      have e3 := e2.symm
      subst e3
      cases e
      refine g_if_eq ok (dk m_Sec_openWay 45 rfl) (tgt := 97) (by decide) (pc' := 92) rfl (fun c_89 => ?_) (fun c_89 => ?_)
      · exact g_vret ok (dk m_Sec_openWay 49 rfl) rfl ⟨rfl, by rw [S_open, if_pos c_7, if_neg (fun y => (z_told hz2).1 c_89 y.2)]; exact hs5, ho5⟩
      · refine g_aload_n ok (dk m_Sec_openWay 46 rfl) (pc' := 93) rfl (i := 0) rfl rfl ?_
        refine g_iload_n ok (dk m_Sec_openWay 47 rfl) (pc' := 94) rfl (i := 3) rfl rfl ?_
        refine g_callV ok (dk m_Sec_openWay 48 rfl) (pc' := 97) rfl c_Sec_71 (c_Sec_tell g t 1 (by omega) hs5) hs5.1 rfl rfl (by simp [Value.category]) (by omega) rfl (rc' := 0) (rs' := 0) (by omega) (by omega) (fun rv h' hcc => ?_) (fun i h' hcc => by obtain ⟨e, -⟩ := hcc; cases e)
        obtain ⟨e, hsT, hoT⟩ := hcc
        cases e
        exact g_vret ok (dk m_Sec_openWay 49 rfl) rfl ⟨rfl, by rw [S_open, if_pos c_7, if_pos ⟨(z_told hz1).2 c_81, (z_told hz2).2 c_89⟩]; exact hsT, ho5.tr hoT⟩
  · exact g_vret ok (dk m_Sec_openWay 4 rfl) rfl ⟨rfl, by rw [S_open, if_neg c_7]; exact hs, q_off.rf⟩
noncomputable def S_der (S : s_T) (x : Int32) : Int32 × s_T := ((S_fresh S).1, S_open (S_fresh S).2 x 0 (S_fresh S).1)
noncomputable def S_joi (S : s_T) (i l : Int32) : Int32 × s_T := ((S_fresh S).1, S_open (S_open (S_fresh S).2 i l (S_fresh S).1) l i (S_fresh S).1)
set_option maxHeartbeats 1000000 in
theorem c_Sec_derivedFrom (g : q_G) {h : q_H} {s : Nat} {ra rb : Nat → Nat} {S : s_T} (x : Int32) (d : Nat) (hd : 3 ≤ d) (hs : q_sec h s ra rb S) : MG g y_Sec_derivedFrom b_Sec_derivedFrom 3 (some .int) d 0 0 [.ref s, .int x] h (fun q h' => q = .inl (some (.int (S_der S x).1)) ∧ q_sec h' s ra rb (S_der S x).2 ∧ q_off h h' (s_P s rb)) := by
  refine MG.of (by decide +kernel) (by simp [Value.category]) (Nat.le_of_ble_eq_true rfl) ?_
  intro Z A ok
  refine g_aload_n ok (dk m_Sec_derivedFrom 0 rfl) (pc' := 1) rfl (i := 0) rfl rfl ?_
  refine g_callV ok (dk m_Sec_derivedFrom 1 rfl) (pc' := 4) rfl c_Sec_51 (c_Sec_fresh g 0 hs) hs.1 rfl rfl (by simp [Value.category]) (by omega) rfl (rc' := 0) (rs' := 0) (by omega) (by omega) (fun rv h' hcc => ?_) (fun i h' hcc => by obtain ⟨e, -⟩ := hcc; cases e)
  obtain ⟨e, hs1, ho1⟩ := hcc
  cases e
  refine g_istore_n ok (dk m_Sec_derivedFrom 2 rfl) (pc' := 5) rfl (i := 2) rfl (Nat.le_of_ble_eq_true rfl) rfl ?_
  refine g_aload_n ok (dk m_Sec_derivedFrom 3 rfl) (pc' := 6) rfl (i := 0) rfl rfl ?_
  refine g_iload_n ok (dk m_Sec_derivedFrom 4 rfl) (pc' := 7) rfl (i := 1) rfl rfl ?_
  refine g_iconst ok (dk m_Sec_derivedFrom 5 rfl) (pc' := 8) rfl (v := 0) (by decide) ?_
  refine g_iload_n ok (dk m_Sec_derivedFrom 6 rfl) (pc' := 9) rfl (i := 2) rfl rfl ?_
  refine g_callV ok (dk m_Sec_derivedFrom 7 rfl) (pc' := 12) rfl c_Sec_55 (c_Sec_openWay g x 0 (S_fresh S).1 2 (by omega) hs1) hs1.1 rfl rfl (by simp [Value.category]) (by omega) rfl (rc' := 0) (rs' := 0) (by omega) (by omega) (fun rv h' hcc => ?_) (fun i h' hcc => by obtain ⟨e, -⟩ := hcc; cases e)
  obtain ⟨e, hs2, ho2⟩ := hcc
  cases e
  refine g_iload_n ok (dk m_Sec_derivedFrom 8 rfl) (pc' := 13) rfl (i := 2) rfl rfl ?_
  exact g_iret ok (dk m_Sec_derivedFrom 9 rfl) rfl rfl ⟨rfl, hs2, ho1.tr ho2⟩
set_option maxHeartbeats 1000000 in
theorem c_Sec_joinerOf (g : q_G) {h : q_H} {s : Nat} {ra rb : Nat → Nat} {S : s_T} (x y : Int32) (d : Nat) (hd : 3 ≤ d) (hs : q_sec h s ra rb S) : MG g y_Sec_joinerOf b_Sec_joinerOf 4 (some .int) d 0 0 [.ref s, .int x, .int y] h (fun q h' => q = .inl (some (.int (S_joi S x y).1)) ∧ q_sec h' s ra rb (S_joi S x y).2 ∧ q_off h h' (s_P s rb)) := by
  refine MG.of (by decide +kernel) (by simp [Value.category]) (Nat.le_of_ble_eq_true rfl) ?_
  intro Z A ok
  refine g_aload_n ok (dk m_Sec_joinerOf 0 rfl) (pc' := 1) rfl (i := 0) rfl rfl ?_
  refine g_callV ok (dk m_Sec_joinerOf 1 rfl) (pc' := 4) rfl c_Sec_51 (c_Sec_fresh g 0 hs) hs.1 rfl rfl (by simp [Value.category]) (by omega) rfl (rc' := 0) (rs' := 0) (by omega) (by omega) (fun rv h' hcc => ?_) (fun i h' hcc => by obtain ⟨e, -⟩ := hcc; cases e)
  obtain ⟨e, hs1, ho1⟩ := hcc
  cases e
  refine g_istore_n ok (dk m_Sec_joinerOf 2 rfl) (pc' := 5) rfl (i := 3) rfl (Nat.le_of_ble_eq_true rfl) rfl ?_
  refine g_aload_n ok (dk m_Sec_joinerOf 3 rfl) (pc' := 6) rfl (i := 0) rfl rfl ?_
  refine g_iload_n ok (dk m_Sec_joinerOf 4 rfl) (pc' := 7) rfl (i := 1) rfl rfl ?_
  refine g_iload_n ok (dk m_Sec_joinerOf 5 rfl) (pc' := 8) rfl (i := 2) rfl rfl ?_
  refine g_iload_n ok (dk m_Sec_joinerOf 6 rfl) (pc' := 9) rfl (i := 3) rfl rfl ?_
  refine g_callV ok (dk m_Sec_joinerOf 7 rfl) (pc' := 12) rfl c_Sec_55 (c_Sec_openWay g x y (S_fresh S).1 2 (by omega) hs1) hs1.1 rfl rfl (by simp [Value.category]) (by omega) rfl (rc' := 0) (rs' := 0) (by omega) (by omega) (fun rv h' hcc => ?_) (fun i h' hcc => by obtain ⟨e, -⟩ := hcc; cases e)
  obtain ⟨e, hs2, ho2⟩ := hcc
  cases e
  refine g_aload_n ok (dk m_Sec_joinerOf 8 rfl) (pc' := 13) rfl (i := 0) rfl rfl ?_
  refine g_iload_n ok (dk m_Sec_joinerOf 9 rfl) (pc' := 14) rfl (i := 2) rfl rfl ?_
  refine g_iload_n ok (dk m_Sec_joinerOf 10 rfl) (pc' := 15) rfl (i := 1) rfl rfl ?_
  refine g_iload_n ok (dk m_Sec_joinerOf 11 rfl) (pc' := 16) rfl (i := 3) rfl rfl ?_
  refine g_callV ok (dk m_Sec_joinerOf 12 rfl) (pc' := 19) rfl c_Sec_55 (c_Sec_openWay g y x (S_fresh S).1 2 (by omega) hs2) hs2.1 rfl rfl (by simp [Value.category]) (by omega) rfl (rc' := 0) (rs' := 0) (by omega) (by omega) (fun rv h' hcc => ?_) (fun i h' hcc => by obtain ⟨e, -⟩ := hcc; cases e)
  obtain ⟨e, hs3, ho3⟩ := hcc
  cases e
  refine g_iload_n ok (dk m_Sec_joinerOf 13 rfl) (pc' := 20) rfl (i := 3) rfl rfl ?_
  exact g_iret ok (dk m_Sec_joinerOf 14 rfl) rfl rfl ⟨rfl, hs3, (ho1.tr ho2).tr ho3⟩
noncomputable def S_one (S : s_T) (w : Int32) : s_T := by
  classical exact if S_told S (r_get (s_len 4) (S.1 4) w) then S_tell S (r_get (s_len 3) (S.1 3) w) else S
noncomputable def S_fol : Nat → s_T → Int32 → s_T
  | 0, S, _ => S
  | n + 1, S, w => if w = -1 then S else S_fol n (S_one S w) (r_get (s_len 2) (S.1 2) w)
theorem S_tell_k (S : s_T) (x : Int32) : (S_tell S x).2 1 = S.2 1 ∧ (S_tell S x).2 0 = S.2 0 ∧ (S_tell S x).2 3 = S.2 3 ∧ (S_tell S x).1 1 = S.1 1 ∧ (S_tell S x).1 2 = S.1 2 ∧ (S_tell S x).1 3 = S.1 3 ∧ (S_tell S x).1 4 = S.1 4 := by
  unfold S_tell
  split
  · exact ⟨rfl, rfl, rfl, rfl, rfl, rfl, rfl⟩
  · exact ⟨rfl, rfl, rfl, rfl, rfl, rfl, rfl⟩
theorem S_one_k (S : s_T) (x : Int32) : (S_one S x).2 1 = S.2 1 ∧ (S_one S x).2 0 = S.2 0 ∧ (S_one S x).2 3 = S.2 3 ∧ (S_one S x).1 1 = S.1 1 ∧ (S_one S x).1 2 = S.1 2 ∧ (S_one S x).1 3 = S.1 3 ∧ (S_one S x).1 4 = S.1 4 := by
  unfold S_one
  split
  · exact S_tell_k S _
  · exact ⟨rfl, rfl, rfl, rfl, rfl, rfl, rfl⟩
set_option maxHeartbeats 1000000 in
theorem c_Sec_followWays (g : q_G) {h : q_H} {s : Nat} {ra rb : Nat → Nat} {S : s_T} {n : Nat} (x : Int32) (d : Nat) (hd : 2 ≤ d) (hw : S.2 1 = nI n) (hn : n ≤ 2600) (hs : q_sec h s ra rb S) : MG g y_Sec_followWays b_Sec_followWays 4 none d 0 0 [.ref s, .int x] h (fun q h' => q = .inl none ∧ q_sec h' s ra rb (S_fol n S (r_get (s_len 1) (S.1 1) x)) ∧ q_off h h' (s_P s rb)) := by
  refine MG.of (by decide +kernel) (by simp [Value.category]) (Nat.le_of_ble_eq_true rfl) ?_
  intro Z A ok
  have loop : ∀ (m k : Nat), k + m = n → ∀ (h1 : q_H) (S1 : s_T) (w : Int32), q_sec h1 s ra rb S1 → q_off h h1 (s_P s rb) → S1.2 1 = nI n → S_fol m S1 w = S_fol n S (r_get (s_len 1) (S.1 1) x) → GW g Z A (fun q h' => q = .inl none ∧ q_sec h' s ra rb (S_fol n S (r_get (s_len 1) (S.1 1) x)) ∧ q_off h h' (s_P s rb)) 0 0 h1 11 [some (.ref s), some (.int x), some (.int w), some (.int (nI k))] [] := by
    intro m
    induction m with
    | zero =>
      intro k hk h1 S1 w hs1 ho1 hC hv
      refine g_iload_n ok (dk m_Sec_followWays 7 rfl) (pc' := 12) rfl (i := 3) rfl rfl ?_
      refine g_aload_n ok (dk m_Sec_followWays 8 rfl) (pc' := 13) rfl (i := 0) rfl rfl ?_
      refine g_get ok (dk m_Sec_followWays 9 rfl) (pc' := 16) rfl f_Sec_39 hs1.1 rfl ?_
      refine g_icmp_ge ok (dk m_Sec_followWays 10 rfl) (tgt := 66) (by decide) (pc' := 19) rfl (fun c_16 => ?_) (fun c_16 => absurd (by rw [hC]; exact nI_le (a := n) (b := k) (by omega) (by omega)) c_16)
      exact g_vret ok (dk m_Sec_followWays 34 rfl) rfl ⟨rfl, by rw [← hv]; exact hs1, ho1⟩
    | succ m ih =>
      intro k hk h1 S1 w hs1 ho1 hC hv
      refine g_iload_n ok (dk m_Sec_followWays 7 rfl) (pc' := 12) rfl (i := 3) rfl rfl ?_
      refine g_aload_n ok (dk m_Sec_followWays 8 rfl) (pc' := 13) rfl (i := 0) rfl rfl ?_
      refine g_get ok (dk m_Sec_followWays 9 rfl) (pc' := 16) rfl f_Sec_39 hs1.1 rfl ?_
      refine g_icmp_ge ok (dk m_Sec_followWays 10 rfl) (tgt := 66) (by decide) (pc' := 19) rfl (fun c_16 => absurd c_16 (by rw [hC]; exact nI_ge (a := k) (b := n) (by omega) (by omega))) (fun c_16 => ?_)
      refine g_iload_n ok (dk m_Sec_followWays 11 rfl) (pc' := 20) rfl (i := 2) rfl rfl ?_
      refine g_iconst ok (dk m_Sec_followWays 12 rfl) (pc' := 21) rfl (v := (-1)) (by decide) ?_
      refine g_icmp_eq ok (dk m_Sec_followWays 13 rfl) (tgt := 66) (by decide) (pc' := 24) rfl (fun c_21 => ?_) (fun c_21 => ?_)
      · exact g_vret ok (dk m_Sec_followWays 34 rfl) rfl ⟨rfl, by rw [← hv, S_fol, if_pos c_21]; exact hs1, ho1⟩
      · refine g_aload_n ok (dk m_Sec_followWays 14 rfl) (pc' := 25) rfl (i := 0) rfl rfl ?_
        refine g_aload_n ok (dk m_Sec_followWays 15 rfl) (pc' := 26) rfl (i := 0) rfl rfl ?_
        refine g_get ok (dk m_Sec_followWays 16 rfl) (pc' := 29) rfl f_Sec_29 hs1.1 rfl ?_
        refine g_iload_n ok (dk m_Sec_followWays 17 rfl) (pc' := 30) rfl (i := 2) rfl rfl ?_
        refine g_callV ok (dk m_Sec_followWays 18 rfl) (pc' := 33) rfl c_Sec_59 (c_Row_get g w 0 (hs1.2.1 4 (by decide)).1 (hs1.2.1 4 (by decide)).2 (s_len_lt _)) (hs1.2.1 4 (by decide)).1 rfl rfl (by simp [Value.category]) (by omega) rfl (rc' := 0) (rs' := 0) (by omega) (by omega) (fun rv h' hcc => ?_) (fun i h' hcc => by obtain ⟨e, -⟩ := hcc; cases e)
        obtain ⟨e, e2⟩ := hcc
        have e3 := e2.symm
        subst e3
        cases e
        refine g_callV ok (dk m_Sec_followWays 19 rfl) (pc' := 36) rfl c_Sec_67 (c_Sec_isTold g (r_get (s_len 4) (S1.1 4) w) 1 (by omega) hs1) hs1.1 rfl rfl (by simp [Value.category]) (by omega) rfl (rc' := 0) (rs' := 0) (by omega) (by omega) (fun rv h' hcc => ?_) (fun i h' hcc => by obtain ⟨⟨z, e, -⟩, -⟩ := hcc; cases e)
        obtain ⟨⟨z1, e, hz1⟩, e2⟩ := hcc
        have e3 := e2.symm
        subst e3
        cases e
        refine g_if_eq ok (dk m_Sec_followWays 20 rfl) (tgt := 51) (by decide) (pc' := 39) rfl (fun c_36 => ?_) (fun c_36 => ?_)
        · have hs2 : q_sec h1 s ra rb (S_one S1 w) := by rw [S_one, if_neg ((z_told hz1).1 c_36)]; exact hs1
          have ho2 := ho1
          refine g_aload_n ok (dk m_Sec_followWays 27 rfl) (pc' := 52) rfl (i := 0) rfl rfl ?_
          refine g_get ok (dk m_Sec_followWays 28 rfl) (pc' := 55) rfl f_Sec_23 hs2.1 rfl ?_
          refine g_iload_n ok (dk m_Sec_followWays 29 rfl) (pc' := 56) rfl (i := 2) rfl rfl ?_
          refine g_callV ok (dk m_Sec_followWays 30 rfl) (pc' := 59) rfl c_Sec_59 (c_Row_get g w 0 (hs2.2.1 2 (by decide)).1 (hs2.2.1 2 (by decide)).2 (s_len_lt _)) (hs2.2.1 2 (by decide)).1 rfl rfl (by simp [Value.category]) (by omega) rfl (rc' := 0) (rs' := 0) (by omega) (by omega) (fun rv h' hcc => ?_) (fun i h' hcc => by obtain ⟨e, -⟩ := hcc; cases e)
          obtain ⟨e, e2⟩ := hcc
          have e3 := e2.symm
          subst e3
          cases e
          refine g_istore_n ok (dk m_Sec_followWays 31 rfl) (pc' := 60) rfl (i := 2) rfl (Nat.le_of_ble_eq_true rfl) rfl ?_
          refine g_iinc ok (dk m_Sec_followWays 32 rfl) (pc' := 63) rfl rfl (nI_1 k) rfl ?_
          refine g_goto ok (dk m_Sec_followWays 33 rfl) (pc' := 11) (by decide) ?_
          rw [(S_one_k S1 w).2.2.2.2.1]
          exact ih (k + 1) (by omega) _ _ _ hs2 ho2 ((S_one_k S1 w).1.trans hC) (by rw [← hv]; show _ = S_fol (m + 1) S1 w; rw [S_fol, if_neg c_21])
        · refine g_aload_n ok (dk m_Sec_followWays 21 rfl) (pc' := 40) rfl (i := 0) rfl rfl ?_
          refine g_aload_n ok (dk m_Sec_followWays 22 rfl) (pc' := 41) rfl (i := 0) rfl rfl ?_
          refine g_get ok (dk m_Sec_followWays 23 rfl) (pc' := 44) rfl f_Sec_26 hs1.1 rfl ?_
          refine g_iload_n ok (dk m_Sec_followWays 24 rfl) (pc' := 45) rfl (i := 2) rfl rfl ?_
          refine g_callV ok (dk m_Sec_followWays 25 rfl) (pc' := 48) rfl c_Sec_59 (c_Row_get g w 0 (hs1.2.1 3 (by decide)).1 (hs1.2.1 3 (by decide)).2 (s_len_lt _)) (hs1.2.1 3 (by decide)).1 rfl rfl (by simp [Value.category]) (by omega) rfl (rc' := 0) (rs' := 0) (by omega) (by omega) (fun rv h' hcc => ?_) (fun i h' hcc => by obtain ⟨e, -⟩ := hcc; cases e)
          obtain ⟨e, e2⟩ := hcc
          have e3 := e2.symm
          subst e3
          cases e
          refine g_callV ok (dk m_Sec_followWays 26 rfl) (pc' := 51) rfl c_Sec_71 (c_Sec_tell g (r_get (s_len 3) (S1.1 3) w) 1 (by omega) hs1) hs1.1 rfl rfl (by simp [Value.category]) (by omega) rfl (rc' := 0) (rs' := 0) (by omega) (by omega) (fun rv h' hcc => ?_) (fun i h' hcc => by obtain ⟨e, -⟩ := hcc; cases e)
          obtain ⟨e, hsT, hoT⟩ := hcc
          cases e
          have hs2 : q_sec h' s ra rb (S_one S1 w) := by rw [S_one, if_pos ((z_told hz1).2 c_36)]; exact hsT
          have ho2 := ho1.tr hoT
          refine g_aload_n ok (dk m_Sec_followWays 27 rfl) (pc' := 52) rfl (i := 0) rfl rfl ?_
          refine g_get ok (dk m_Sec_followWays 28 rfl) (pc' := 55) rfl f_Sec_23 hs2.1 rfl ?_
          refine g_iload_n ok (dk m_Sec_followWays 29 rfl) (pc' := 56) rfl (i := 2) rfl rfl ?_
          refine g_callV ok (dk m_Sec_followWays 30 rfl) (pc' := 59) rfl c_Sec_59 (c_Row_get g w 0 (hs2.2.1 2 (by decide)).1 (hs2.2.1 2 (by decide)).2 (s_len_lt _)) (hs2.2.1 2 (by decide)).1 rfl rfl (by simp [Value.category]) (by omega) rfl (rc' := 0) (rs' := 0) (by omega) (by omega) (fun rv h' hcc => ?_) (fun i h' hcc => by obtain ⟨e, -⟩ := hcc; cases e)
          obtain ⟨e, e2⟩ := hcc
          have e3 := e2.symm
          subst e3
          cases e
          refine g_istore_n ok (dk m_Sec_followWays 31 rfl) (pc' := 60) rfl (i := 2) rfl (Nat.le_of_ble_eq_true rfl) rfl ?_
          refine g_iinc ok (dk m_Sec_followWays 32 rfl) (pc' := 63) rfl rfl (nI_1 k) rfl ?_
          refine g_goto ok (dk m_Sec_followWays 33 rfl) (pc' := 11) (by decide) ?_
          rw [(S_one_k S1 w).2.2.2.2.1]
          exact ih (k + 1) (by omega) _ _ _ hs2 ho2 ((S_one_k S1 w).1.trans hC) (by rw [← hv]; show _ = S_fol (m + 1) S1 w; rw [S_fol, if_neg c_21])
  refine g_aload_n ok (dk m_Sec_followWays 0 rfl) (pc' := 1) rfl (i := 0) rfl rfl ?_
  refine g_get ok (dk m_Sec_followWays 1 rfl) (pc' := 4) rfl f_Sec_20 hs.1 rfl ?_
  refine g_iload_n ok (dk m_Sec_followWays 2 rfl) (pc' := 5) rfl (i := 1) rfl rfl ?_
  refine g_callV ok (dk m_Sec_followWays 3 rfl) (pc' := 8) rfl c_Sec_59 (c_Row_get g x 0 (hs.2.1 1 (by decide)).1 (hs.2.1 1 (by decide)).2 (s_len_lt _)) (hs.2.1 1 (by decide)).1 rfl rfl (by simp [Value.category]) (by omega) rfl (rc' := 0) (rs' := 0) (by omega) (by omega) (fun rv h' hcc => ?_) (fun i h' hcc => by obtain ⟨e, -⟩ := hcc; cases e)
  obtain ⟨e, e2⟩ := hcc
  have e3 := e2.symm
  subst e3
  cases e
  refine g_istore_n ok (dk m_Sec_followWays 4 rfl) (pc' := 9) rfl (i := 2) rfl (Nat.le_of_ble_eq_true rfl) rfl ?_
  refine g_iconst ok (dk m_Sec_followWays 5 rfl) (pc' := 10) rfl (v := 0) (by decide) ?_
  refine g_istore_n ok (dk m_Sec_followWays 6 rfl) (pc' := 11) rfl (i := 3) rfl (Nat.le_of_ble_eq_true rfl) rfl ?_
  exact loop n 0 (by omega) _ _ _ hs q_off.rf hw rfl
end
section
/-! ===== Secrets: settle, the constructor ===== -/
theorem S_fol_k (n : Nat) : ∀ (S : s_T) (w : Int32), (S_fol n S w).2 1 = S.2 1 ∧ (S_fol n S w).2 0 = S.2 0 ∧ (S_fol n S w).2 3 = S.2 3 ∧ (S_fol n S w).1 1 = S.1 1 ∧ (S_fol n S w).1 2 = S.1 2 ∧ (S_fol n S w).1 3 = S.1 3 ∧ (S_fol n S w).1 4 = S.1 4 := by
  induction n with
  | zero => intro S w; exact ⟨rfl, rfl, rfl, rfl, rfl, rfl, rfl⟩
  | succ n ih =>
    intro S w
    rw [S_fol]
    split
    · exact ⟨rfl, rfl, rfl, rfl, rfl, rfl, rfl⟩
    · obtain ⟨a1, a2, a3, a4, a5, a6, a7⟩ := ih (S_one S w) (r_get (s_len 2) (S.1 2) w)
      obtain ⟨b1, b2, b3, b4, b5, b6, b7⟩ := S_one_k S w
      exact ⟨a1.trans b1, a2.trans b2, a3.trans b3, a4.trans b4, a5.trans b5, a6.trans b6, a7.trans b7⟩
noncomputable def S_nx (n : Nat) (S : s_T) : s_T := ((S_fol n S (r_get (s_len 1) (S.1 1) (r_get (s_len 5) (S.1 5) (S.2 3)))).1, upd (S_fol n S (r_get (s_len 1) (S.1 1) (r_get (s_len 5) (S.1 5) (S.2 3)))).2 3 (S.2 3 + 1))
noncomputable def S_set (n : Nat) : Nat → s_T → s_T
  | 0, S => S
  | m + 1, S => if S.2 3 < S.2 2 ∧ S.2 3 < 2200 then S_set n m (S_nx n S) else S
set_option maxHeartbeats 1000000 in
theorem c_Sec_settle (g : q_G) {h : q_H} {s : Nat} {ra rb : Nat → Nat} {S : s_T} {n k0 : Nat} (d : Nat) (hd : 3 ≤ d) (hw : S.2 1 = nI n) (hn : n ≤ 2600) (hf : S.2 3 = nI k0) (hk0 : k0 ≤ 2200) (hs : q_sec h s ra rb S) : MG g y_Sec_settle b_Sec_settle 1 none d 0 0 [.ref s] h (fun q h' => q = .inl none ∧ q_sec h' s ra rb (S_set n (2201 - k0) S) ∧ q_off h h' (s_P s rb)) := by
  refine MG.of (by decide +kernel) (by simp [Value.category]) (Nat.le_of_ble_eq_true rfl) ?_
  intro Z A ok
  have loop : ∀ (m k : Nat), k + m = 2201 → k ≤ 2200 → ∀ (h1 : q_H) (S1 : s_T), q_sec h1 s ra rb S1 → q_off h h1 (s_P s rb) → S1.2 1 = nI n → S1.2 3 = nI k → S_set n m S1 = S_set n (2201 - k0) S → GW g Z A (fun q h' => q = .inl none ∧ q_sec h' s ra rb (S_set n (2201 - k0) S) ∧ q_off h h' (s_P s rb)) 0 0 h1 0 [some (.ref s)] [] := by
    intro m
    induction m with
    | zero =>
      intro k hk hk2
      omega
    | succ m ih =>
      intro k hk hk2 h1 S1 hs1 ho1 hw1 hk3 hv
      refine g_aload_n ok (dk m_Sec_settle 0 rfl) (pc' := 1) rfl (i := 0) rfl rfl ?_
      refine g_get ok (dk m_Sec_settle 1 rfl) (pc' := 4) rfl f_Sec_45 hs1.1 rfl ?_
      refine g_aload_n ok (dk m_Sec_settle 2 rfl) (pc' := 5) rfl (i := 0) rfl rfl ?_
      refine g_get ok (dk m_Sec_settle 3 rfl) (pc' := 8) rfl f_Sec_42 hs1.1 rfl ?_
      refine g_icmp_ge ok (dk m_Sec_settle 4 rfl) (tgt := 49) (by decide) (pc' := 11) rfl (fun c_8 => ?_) (fun c_8 => ?_)
      · exact g_vret ok (dk m_Sec_settle 23 rfl) rfl ⟨rfl, by rw [← hv, S_set, if_neg (fun y => absurd c_8 (Int32.not_le.mpr y.1))]; exact hs1, ho1⟩
      · refine g_aload_n ok (dk m_Sec_settle 5 rfl) (pc' := 12) rfl (i := 0) rfl rfl ?_
        refine g_get ok (dk m_Sec_settle 6 rfl) (pc' := 15) rfl f_Sec_45 hs1.1 rfl ?_
        refine g_sipush ok (dk m_Sec_settle 7 rfl) (pc' := 18) rfl (v := 2200) (by decide) ?_
        refine g_icmp_ge ok (dk m_Sec_settle 8 rfl) (tgt := 49) (by decide) (pc' := 21) rfl (fun c_18 => ?_) (fun c_18 => ?_)
        · exact g_vret ok (dk m_Sec_settle 23 rfl) rfl ⟨rfl, by rw [← hv, S_set, if_neg (fun y => absurd c_18 (Int32.not_le.mpr y.2))]; exact hs1, ho1⟩
        · refine g_aload_n ok (dk m_Sec_settle 9 rfl) (pc' := 22) rfl (i := 0) rfl rfl ?_
          refine g_aload_n ok (dk m_Sec_settle 10 rfl) (pc' := 23) rfl (i := 0) rfl rfl ?_
          refine g_get ok (dk m_Sec_settle 11 rfl) (pc' := 26) rfl f_Sec_32 hs1.1 rfl ?_
          refine g_aload_n ok (dk m_Sec_settle 12 rfl) (pc' := 27) rfl (i := 0) rfl rfl ?_
          refine g_get ok (dk m_Sec_settle 13 rfl) (pc' := 30) rfl f_Sec_45 hs1.1 rfl ?_
          refine g_callV ok (dk m_Sec_settle 14 rfl) (pc' := 33) rfl c_Sec_59 (c_Row_get g (S1.2 3) 0 (hs1.2.1 5 (by decide)).1 (hs1.2.1 5 (by decide)).2 (s_len_lt _)) (hs1.2.1 5 (by decide)).1 rfl rfl (by simp [Value.category]) (by omega) rfl (rc' := 0) (rs' := 0) (by omega) (by omega) (fun rv h' hcc => ?_) (fun i h' hcc => by obtain ⟨e, -⟩ := hcc; cases e)
          obtain ⟨e, e2⟩ := hcc
          have e3 := e2.symm
          subst e3
          cases e
          refine g_callV ok (dk m_Sec_settle 15 rfl) (pc' := 36) rfl c_Sec_63 (c_Sec_followWays g (r_get (s_len 5) (S1.1 5) (S1.2 3)) 2 (by omega) hw1 hn hs1) hs1.1 rfl rfl (by simp [Value.category]) (by omega) rfl (rc' := 0) (rs' := 0) (by omega) (by omega) (fun rv h' hcc => ?_) (fun i h' hcc => by obtain ⟨e, -⟩ := hcc; cases e)
          obtain ⟨e, hs2, ho2⟩ := hcc
          cases e
          refine g_aload_n ok (dk m_Sec_settle 16 rfl) (pc' := 37) rfl (i := 0) rfl rfl ?_
          refine g_dup ok (dk m_Sec_settle 17 rfl) (pc' := 38) rfl rfl ?_
          refine g_get ok (dk m_Sec_settle 18 rfl) (pc' := 41) rfl f_Sec_45 hs2.1 rfl ?_
          refine g_iconst ok (dk m_Sec_settle 19 rfl) (pc' := 42) rfl (v := 1) (by decide) ?_
          refine g_iadd ok (dk m_Sec_settle 20 rfl) (pc' := 43) rfl ?_
          refine g_put ok (dk m_Sec_settle 21 rfl) (pc' := 46) rfl f_Sec_45 (Or.inl rfl) hs2.1 (Nat.le_of_ble_eq_true rfl) rfl rfl ?_
          refine g_gen (fun h3 e3 => ?_)
          have hs3 := hs2.cntE 3 (by decide) e3
          have ho3 := q_off.upE (ho1.tr ho2) (show s_P s rb s from Or.inl rfl) e3
          clear e3
          rw [(S_fol_k n S1 _).2.2.1] at hs3
          have c1 : S1.2 3 < S1.2 2 := Int32.not_le.mp c_8
          have c2 : S1.2 3 < 2200 := Int32.not_le.mp c_18
          have hkl : k < 2200 := (nI_ltI (a := k) (b := 2200) (by omega) (by decide)).mp (by rw [← hk3]; exact c2)
          refine g_goto ok (dk m_Sec_settle 22 rfl) (pc' := 0) (by decide) ?_
          exact ih (k + 1) (by omega) (by omega) h3 (S_nx n S1) hs3 ho3 (((S_fol_k n S1 _).1).trans hw1) (by show S1.2 3 + 1 = _; rw [hk3, nI_1]) (by rw [← hv]; show _ = S_set n (m + 1) S1; rw [S_set, if_pos ⟨c1, c2⟩])
  exact loop (2201 - k0) k0 (by omega) hk0 h S hs q_off.rf hw hf rfl
end
section
/-! ===== Secrets(): six rows are made ===== -/
theorem q_df {h : q_H} {a b : Nat} {o o' : q_O} (ha : h a = some o) (hb : h b = some o') (hne : o ≠ o') : a ≠ b := fun e => hne (by
  rw [e, hb] at ha
  exact (Option.some.inj ha).symm)
theorem mk_row {h h1 : q_H} {r c N : Nat} {f : Nat → Int32} (hr : h r = none) (hc : q_up h r (.inl (2, [.null])) c = none) (e : h1 = q_up (q_up (q_up h r (.inl (2, [.null]))) r (.inl (2, [.ref c]))) c (.inr (0, N, .inl f))) : h1 r = some (.inl (2, [.ref c])) ∧ h1 c = some (.inr (0, N, .inl f)) ∧ (∀ y o, h y = some o → h1 y = some o) ∧ h c = none ∧ (∀ y, h y = none → y ≠ r → y ≠ c → h1 y = none) ∧ r ≠ c := by
  have hcr : c ≠ r := fun z => by
    rw [z, q_up_s] at hc
    cases hc
  have hc0 : h c = none := q_none hc
  subst e
  refine ⟨?_, q_up_s _ _ _, fun y o hy => ?_, hc0, fun y hy h1 h2 => ?_, hcr.symm⟩
  · rw [q_up_n hcr.symm, q_up_s]
  · rw [q_up_n (q_on hy hc0), q_up_n (q_on hy hr), q_up_n (q_on hy hr)]
    exact hy
  · rw [q_up_n h2, q_up_n h1, q_up_n h1]
    exact hy
def S_pre : s_T := (fun i => if i = 0 then r_fill 2200 (fun _ => 0) 0 else if i = 1 then r_fill 2200 (fun _ => 0) (-1) else if i = 2 then r_fill 2600 (fun _ => 0) (-1) else if i = 3 then r_fill 2600 (fun _ => 0) (-1) else if i = 4 then r_fill 2600 (fun _ => 0) (-1) else r_fill 2200 (fun _ => 0) (-1), fun i => if i = 0 then 1 else 0)
noncomputable def S_new : s_T := (va_up S_pre.1 0 (r_put 2200 (S_pre.1 0) 0 1), S_pre.2)
set_option maxHeartbeats 4000000 in
theorem c_Sec_init (g : q_G) {h : q_H} {s : Nat} (d mc ms : Nat) (hd : 2 ≤ d) (hm : 12 ≤ mc) (hms : 14406 ≤ ms) (hs0 : h s = some (.inl (1, [.null, .null, .null, .null, .null, .null, .int 0, .int 0, .int 0, .int 0]))) : MG g y_Sec_init b_Sec_init 1 none d mc ms [.ref s] h (fun q h' => q = .inl none ∧ ∃ ra rb, q_sec h' s ra rb S_new ∧ (∀ y o, h y = some o → y ≠ s → h' y = some o) ∧ (∀ i, i < 6 → h (ra i) = none ∧ h (rb i) = none) ∧ ∀ y, h y = none → (∀ i, i < 6 → y ≠ ra i ∧ y ≠ rb i) → h' y = none) := by
  refine MG.of (by decide +kernel) (by simp [Value.category]) (Nat.le_of_ble_eq_true rfl) ?_
  intro Z A ok
  refine g_aload_n ok (dk m_Sec_init 0 rfl) (pc' := 1) rfl (i := 0) rfl rfl ?_
  refine g_objInit ok (dk m_Sec_init 1 rfl) (pc' := 4) rfl c_Sec_3 (by simp [Value.category]) (by omega) rfl ?_
  refine g_aload_n ok (dk m_Sec_init 2 rfl) (pc' := 5) rfl (i := 0) rfl rfl ?_
  refine g_new ok (dk m_Sec_init 3 rfl) (pc' := 8) rfl o_Sec_9 (rc' := (mc - 1)) (rs' := (ms - 1)) (by omega) (by omega) (fun r0 hr0 hrb0 => ?_)
  refine g_dup ok (dk m_Sec_init 4 rfl) (pc' := 9) rfl rfl ?_
  refine g_sipush ok (dk m_Sec_init 5 rfl) (pc' := 12) rfl (v := 2200) (by decide) ?_
  refine g_iconst ok (dk m_Sec_init 6 rfl) (pc' := 13) rfl (v := 0) (by decide) ?_
  refine g_callI ok (dk m_Sec_init 7 rfl) (pc' := 16) rfl c_Sec_11 (c_Row_init g 0 1 (by omega) (N := 2200) (q_up_s _ _ _) (by decide) (by decide)) rfl rfl (by simp [Value.category]) (by omega) rfl (rc' := (mc - 2)) (rs' := (ms - 2201)) (by omega) (by omega) (fun rv h' hcc => ?_) (fun i h' hcc => by obtain ⟨e, -⟩ := hcc; cases e)
  obtain ⟨e, c0, hc0, hcb0, e2⟩ := hcc
  cases e
  obtain ⟨a0, b0, p0, n0, q0, d0⟩ := mk_row hr0 hc0 e2
  clear e2
  refine g_put ok (dk m_Sec_init 8 rfl) (pc' := 19) rfl f_Sec_14 (Or.inr rfl) (p0 _ _ hs0) (Nat.le_of_ble_eq_true rfl) rfl rfl ?_
  refine g_gen (fun v0 e0 => ?_)
  have s0 : v0 s = some (.inl (1, [.ref r0, .null, .null, .null, .null, .null, .int 0, .int 0, .int 0, .int 0])) := by rw [e0, q_up_s]; rfl
  have P0 : ∀ y o, h y = some o → y ≠ s → v0 y = some o := fun y o hy hne => by rw [e0, q_up_n hne]; exact p0 y o hy
  have Q0 : ∀ y, h y = none → y ≠ r0 → y ≠ c0 → v0 y = none := fun y hy h1 h2 => by rw [e0, q_up_n (fun e => by rw [e, hs0] at hy; cases hy)]; exact q0 y hy h1 h2
  have A0 : v0 r0 = some (.inl (2, [.ref c0])) := by rw [e0, q_up_n (fun e => by rw [e, p0 _ _ hs0] at a0; cases a0)]; exact a0
  have B0 : v0 c0 = some (.inr (0, 2200, .inl (r_fill 2200 (fun _ => 0) 0))) := by rw [e0, q_up_n (fun e => by rw [e, p0 _ _ hs0] at b0; cases b0)]; exact b0
  have nr0 : r0 ≠ s := fun e => by rw [e, s0] at A0; cases A0
  have nc0 : c0 ≠ s := fun e => by rw [e, s0] at B0; cases B0
  clear e0
  refine g_aload_n ok (dk m_Sec_init 9 rfl) (pc' := 20) rfl (i := 0) rfl rfl ?_
  refine g_new ok (dk m_Sec_init 10 rfl) (pc' := 23) rfl o_Sec_9 (rc' := (mc - 3)) (rs' := (ms - 2202)) (by omega) (by omega) (fun r1 hr1 hrb1 => ?_)
  refine g_dup ok (dk m_Sec_init 11 rfl) (pc' := 24) rfl rfl ?_
  refine g_sipush ok (dk m_Sec_init 12 rfl) (pc' := 27) rfl (v := 2200) (by decide) ?_
  refine g_iconst ok (dk m_Sec_init 13 rfl) (pc' := 28) rfl (v := (-1)) (by decide) ?_
  refine g_callI ok (dk m_Sec_init 14 rfl) (pc' := 31) rfl c_Sec_11 (c_Row_init g (-1) 1 (by omega) (N := 2200) (q_up_s _ _ _) (by decide) (by decide)) rfl rfl (by simp [Value.category]) (by omega) rfl (rc' := (mc - 4)) (rs' := (ms - 4402)) (by omega) (by omega) (fun rv h' hcc => ?_) (fun i h' hcc => by obtain ⟨e, -⟩ := hcc; cases e)
  obtain ⟨e, c1, hc1, hcb1, e2⟩ := hcc
  cases e
  obtain ⟨a1, b1, p1, n1, q1, d1⟩ := mk_row hr1 hc1 e2
  clear e2
  have x0_1 : c0 ≠ c1 := q_on B0 n1
  refine g_put ok (dk m_Sec_init 15 rfl) (pc' := 34) rfl f_Sec_20 (Or.inr rfl) (p1 _ _ s0) (Nat.le_of_ble_eq_true rfl) rfl rfl ?_
  refine g_gen (fun v1 e1 => ?_)
  have s1 : v1 s = some (.inl (1, [.ref r0, .ref r1, .null, .null, .null, .null, .int 0, .int 0, .int 0, .int 0])) := by rw [e1, q_up_s]; rfl
  have P1 : ∀ y o, v0 y = some o → y ≠ s → v1 y = some o := fun y o hy hne => by rw [e1, q_up_n hne]; exact p1 y o hy
  have Q1 : ∀ y, v0 y = none → y ≠ r1 → y ≠ c1 → v1 y = none := fun y hy h1 h2 => by rw [e1, q_up_n (fun e => by rw [e, s0] at hy; cases hy)]; exact q1 y hy h1 h2
  have A1 : v1 r1 = some (.inl (2, [.ref c1])) := by rw [e1, q_up_n (fun e => by rw [e, p1 _ _ s0] at a1; cases a1)]; exact a1
  have B1 : v1 c1 = some (.inr (0, 2200, .inl (r_fill 2200 (fun _ => 0) (-1)))) := by rw [e1, q_up_n (fun e => by rw [e, p1 _ _ s0] at b1; cases b1)]; exact b1
  have nr1 : r1 ≠ s := fun e => by rw [e, s1] at A1; cases A1
  have nc1 : c1 ≠ s := fun e => by rw [e, s1] at B1; cases B1
  replace A0 := P1 _ _ A0 nr0
  replace B0 := P1 _ _ B0 nc0
  clear e1
  refine g_aload_n ok (dk m_Sec_init 16 rfl) (pc' := 35) rfl (i := 0) rfl rfl ?_
  refine g_new ok (dk m_Sec_init 17 rfl) (pc' := 38) rfl o_Sec_9 (rc' := (mc - 5)) (rs' := (ms - 4403)) (by omega) (by omega) (fun r2 hr2 hrb2 => ?_)
  refine g_dup ok (dk m_Sec_init 18 rfl) (pc' := 39) rfl rfl ?_
  refine g_sipush ok (dk m_Sec_init 19 rfl) (pc' := 42) rfl (v := 2600) (by decide) ?_
  refine g_iconst ok (dk m_Sec_init 20 rfl) (pc' := 43) rfl (v := (-1)) (by decide) ?_
  refine g_callI ok (dk m_Sec_init 21 rfl) (pc' := 46) rfl c_Sec_11 (c_Row_init g (-1) 1 (by omega) (N := 2600) (q_up_s _ _ _) (by decide) (by decide)) rfl rfl (by simp [Value.category]) (by omega) rfl (rc' := (mc - 6)) (rs' := (ms - 7003)) (by omega) (by omega) (fun rv h' hcc => ?_) (fun i h' hcc => by obtain ⟨e, -⟩ := hcc; cases e)
  obtain ⟨e, c2, hc2, hcb2, e2⟩ := hcc
  cases e
  obtain ⟨a2, b2, p2, n2, q2, d2⟩ := mk_row hr2 hc2 e2
  clear e2
  have x0_2 : c0 ≠ c2 := q_on B0 n2
  have x1_2 : c1 ≠ c2 := q_on B1 n2
  refine g_put ok (dk m_Sec_init 22 rfl) (pc' := 49) rfl f_Sec_23 (Or.inr rfl) (p2 _ _ s1) (Nat.le_of_ble_eq_true rfl) rfl rfl ?_
  refine g_gen (fun v2 e2 => ?_)
  have s2 : v2 s = some (.inl (1, [.ref r0, .ref r1, .ref r2, .null, .null, .null, .int 0, .int 0, .int 0, .int 0])) := by rw [e2, q_up_s]; rfl
  have P2 : ∀ y o, v1 y = some o → y ≠ s → v2 y = some o := fun y o hy hne => by rw [e2, q_up_n hne]; exact p2 y o hy
  have Q2 : ∀ y, v1 y = none → y ≠ r2 → y ≠ c2 → v2 y = none := fun y hy h1 h2 => by rw [e2, q_up_n (fun e => by rw [e, s1] at hy; cases hy)]; exact q2 y hy h1 h2
  have A2 : v2 r2 = some (.inl (2, [.ref c2])) := by rw [e2, q_up_n (fun e => by rw [e, p2 _ _ s1] at a2; cases a2)]; exact a2
  have B2 : v2 c2 = some (.inr (0, 2600, .inl (r_fill 2600 (fun _ => 0) (-1)))) := by rw [e2, q_up_n (fun e => by rw [e, p2 _ _ s1] at b2; cases b2)]; exact b2
  have nr2 : r2 ≠ s := fun e => by rw [e, s2] at A2; cases A2
  have nc2 : c2 ≠ s := fun e => by rw [e, s2] at B2; cases B2
  replace A0 := P2 _ _ A0 nr0
  replace B0 := P2 _ _ B0 nc0
  replace A1 := P2 _ _ A1 nr1
  replace B1 := P2 _ _ B1 nc1
  clear e2
  refine g_aload_n ok (dk m_Sec_init 23 rfl) (pc' := 50) rfl (i := 0) rfl rfl ?_
  refine g_new ok (dk m_Sec_init 24 rfl) (pc' := 53) rfl o_Sec_9 (rc' := (mc - 7)) (rs' := (ms - 7004)) (by omega) (by omega) (fun r3 hr3 hrb3 => ?_)
  refine g_dup ok (dk m_Sec_init 25 rfl) (pc' := 54) rfl rfl ?_
  refine g_sipush ok (dk m_Sec_init 26 rfl) (pc' := 57) rfl (v := 2600) (by decide) ?_
  refine g_iconst ok (dk m_Sec_init 27 rfl) (pc' := 58) rfl (v := (-1)) (by decide) ?_
  refine g_callI ok (dk m_Sec_init 28 rfl) (pc' := 61) rfl c_Sec_11 (c_Row_init g (-1) 1 (by omega) (N := 2600) (q_up_s _ _ _) (by decide) (by decide)) rfl rfl (by simp [Value.category]) (by omega) rfl (rc' := (mc - 8)) (rs' := (ms - 9604)) (by omega) (by omega) (fun rv h' hcc => ?_) (fun i h' hcc => by obtain ⟨e, -⟩ := hcc; cases e)
  obtain ⟨e, c3, hc3, hcb3, e2⟩ := hcc
  cases e
  obtain ⟨a3, b3, p3, n3, q3, d3⟩ := mk_row hr3 hc3 e2
  clear e2
  have x0_3 : c0 ≠ c3 := q_on B0 n3
  have x1_3 : c1 ≠ c3 := q_on B1 n3
  have x2_3 : c2 ≠ c3 := q_on B2 n3
  refine g_put ok (dk m_Sec_init 29 rfl) (pc' := 64) rfl f_Sec_26 (Or.inr rfl) (p3 _ _ s2) (Nat.le_of_ble_eq_true rfl) rfl rfl ?_
  refine g_gen (fun v3 e3 => ?_)
  have s3 : v3 s = some (.inl (1, [.ref r0, .ref r1, .ref r2, .ref r3, .null, .null, .int 0, .int 0, .int 0, .int 0])) := by rw [e3, q_up_s]; rfl
  have P3 : ∀ y o, v2 y = some o → y ≠ s → v3 y = some o := fun y o hy hne => by rw [e3, q_up_n hne]; exact p3 y o hy
  have Q3 : ∀ y, v2 y = none → y ≠ r3 → y ≠ c3 → v3 y = none := fun y hy h1 h2 => by rw [e3, q_up_n (fun e => by rw [e, s2] at hy; cases hy)]; exact q3 y hy h1 h2
  have A3 : v3 r3 = some (.inl (2, [.ref c3])) := by rw [e3, q_up_n (fun e => by rw [e, p3 _ _ s2] at a3; cases a3)]; exact a3
  have B3 : v3 c3 = some (.inr (0, 2600, .inl (r_fill 2600 (fun _ => 0) (-1)))) := by rw [e3, q_up_n (fun e => by rw [e, p3 _ _ s2] at b3; cases b3)]; exact b3
  have nr3 : r3 ≠ s := fun e => by rw [e, s3] at A3; cases A3
  have nc3 : c3 ≠ s := fun e => by rw [e, s3] at B3; cases B3
  replace A0 := P3 _ _ A0 nr0
  replace B0 := P3 _ _ B0 nc0
  replace A1 := P3 _ _ A1 nr1
  replace B1 := P3 _ _ B1 nc1
  replace A2 := P3 _ _ A2 nr2
  replace B2 := P3 _ _ B2 nc2
  clear e3
  refine g_aload_n ok (dk m_Sec_init 30 rfl) (pc' := 65) rfl (i := 0) rfl rfl ?_
  refine g_new ok (dk m_Sec_init 31 rfl) (pc' := 68) rfl o_Sec_9 (rc' := (mc - 9)) (rs' := (ms - 9605)) (by omega) (by omega) (fun r4 hr4 hrb4 => ?_)
  refine g_dup ok (dk m_Sec_init 32 rfl) (pc' := 69) rfl rfl ?_
  refine g_sipush ok (dk m_Sec_init 33 rfl) (pc' := 72) rfl (v := 2600) (by decide) ?_
  refine g_iconst ok (dk m_Sec_init 34 rfl) (pc' := 73) rfl (v := (-1)) (by decide) ?_
  refine g_callI ok (dk m_Sec_init 35 rfl) (pc' := 76) rfl c_Sec_11 (c_Row_init g (-1) 1 (by omega) (N := 2600) (q_up_s _ _ _) (by decide) (by decide)) rfl rfl (by simp [Value.category]) (by omega) rfl (rc' := (mc - 10)) (rs' := (ms - 12205)) (by omega) (by omega) (fun rv h' hcc => ?_) (fun i h' hcc => by obtain ⟨e, -⟩ := hcc; cases e)
  obtain ⟨e, c4, hc4, hcb4, e2⟩ := hcc
  cases e
  obtain ⟨a4, b4, p4, n4, q4, d4⟩ := mk_row hr4 hc4 e2
  clear e2
  have x0_4 : c0 ≠ c4 := q_on B0 n4
  have x1_4 : c1 ≠ c4 := q_on B1 n4
  have x2_4 : c2 ≠ c4 := q_on B2 n4
  have x3_4 : c3 ≠ c4 := q_on B3 n4
  refine g_put ok (dk m_Sec_init 36 rfl) (pc' := 79) rfl f_Sec_29 (Or.inr rfl) (p4 _ _ s3) (Nat.le_of_ble_eq_true rfl) rfl rfl ?_
  refine g_gen (fun v4 e4 => ?_)
  have s4 : v4 s = some (.inl (1, [.ref r0, .ref r1, .ref r2, .ref r3, .ref r4, .null, .int 0, .int 0, .int 0, .int 0])) := by rw [e4, q_up_s]; rfl
  have P4 : ∀ y o, v3 y = some o → y ≠ s → v4 y = some o := fun y o hy hne => by rw [e4, q_up_n hne]; exact p4 y o hy
  have Q4 : ∀ y, v3 y = none → y ≠ r4 → y ≠ c4 → v4 y = none := fun y hy h1 h2 => by rw [e4, q_up_n (fun e => by rw [e, s3] at hy; cases hy)]; exact q4 y hy h1 h2
  have A4 : v4 r4 = some (.inl (2, [.ref c4])) := by rw [e4, q_up_n (fun e => by rw [e, p4 _ _ s3] at a4; cases a4)]; exact a4
  have B4 : v4 c4 = some (.inr (0, 2600, .inl (r_fill 2600 (fun _ => 0) (-1)))) := by rw [e4, q_up_n (fun e => by rw [e, p4 _ _ s3] at b4; cases b4)]; exact b4
  have nr4 : r4 ≠ s := fun e => by rw [e, s4] at A4; cases A4
  have nc4 : c4 ≠ s := fun e => by rw [e, s4] at B4; cases B4
  replace A0 := P4 _ _ A0 nr0
  replace B0 := P4 _ _ B0 nc0
  replace A1 := P4 _ _ A1 nr1
  replace B1 := P4 _ _ B1 nc1
  replace A2 := P4 _ _ A2 nr2
  replace B2 := P4 _ _ B2 nc2
  replace A3 := P4 _ _ A3 nr3
  replace B3 := P4 _ _ B3 nc3
  clear e4
  refine g_aload_n ok (dk m_Sec_init 37 rfl) (pc' := 80) rfl (i := 0) rfl rfl ?_
  refine g_new ok (dk m_Sec_init 38 rfl) (pc' := 83) rfl o_Sec_9 (rc' := (mc - 11)) (rs' := (ms - 12206)) (by omega) (by omega) (fun r5 hr5 hrb5 => ?_)
  refine g_dup ok (dk m_Sec_init 39 rfl) (pc' := 84) rfl rfl ?_
  refine g_sipush ok (dk m_Sec_init 40 rfl) (pc' := 87) rfl (v := 2200) (by decide) ?_
  refine g_iconst ok (dk m_Sec_init 41 rfl) (pc' := 88) rfl (v := (-1)) (by decide) ?_
  refine g_callI ok (dk m_Sec_init 42 rfl) (pc' := 91) rfl c_Sec_11 (c_Row_init g (-1) 1 (by omega) (N := 2200) (q_up_s _ _ _) (by decide) (by decide)) rfl rfl (by simp [Value.category]) (by omega) rfl (rc' := (mc - 12)) (rs' := (ms - 14406)) (by omega) (by omega) (fun rv h' hcc => ?_) (fun i h' hcc => by obtain ⟨e, -⟩ := hcc; cases e)
  obtain ⟨e, c5, hc5, hcb5, e2⟩ := hcc
  cases e
  obtain ⟨a5, b5, p5, n5, q5, d5⟩ := mk_row hr5 hc5 e2
  clear e2
  have x0_5 : c0 ≠ c5 := q_on B0 n5
  have x1_5 : c1 ≠ c5 := q_on B1 n5
  have x2_5 : c2 ≠ c5 := q_on B2 n5
  have x3_5 : c3 ≠ c5 := q_on B3 n5
  have x4_5 : c4 ≠ c5 := q_on B4 n5
  refine g_put ok (dk m_Sec_init 43 rfl) (pc' := 94) rfl f_Sec_32 (Or.inr rfl) (p5 _ _ s4) (Nat.le_of_ble_eq_true rfl) rfl rfl ?_
  refine g_gen (fun v5 e5 => ?_)
  have s5 : v5 s = some (.inl (1, [.ref r0, .ref r1, .ref r2, .ref r3, .ref r4, .ref r5, .int 0, .int 0, .int 0, .int 0])) := by rw [e5, q_up_s]; rfl
  have P5 : ∀ y o, v4 y = some o → y ≠ s → v5 y = some o := fun y o hy hne => by rw [e5, q_up_n hne]; exact p5 y o hy
  have Q5 : ∀ y, v4 y = none → y ≠ r5 → y ≠ c5 → v5 y = none := fun y hy h1 h2 => by rw [e5, q_up_n (fun e => by rw [e, s4] at hy; cases hy)]; exact q5 y hy h1 h2
  have A5 : v5 r5 = some (.inl (2, [.ref c5])) := by rw [e5, q_up_n (fun e => by rw [e, p5 _ _ s4] at a5; cases a5)]; exact a5
  have B5 : v5 c5 = some (.inr (0, 2200, .inl (r_fill 2200 (fun _ => 0) (-1)))) := by rw [e5, q_up_n (fun e => by rw [e, p5 _ _ s4] at b5; cases b5)]; exact b5
  have nr5 : r5 ≠ s := fun e => by rw [e, s5] at A5; cases A5
  have nc5 : c5 ≠ s := fun e => by rw [e, s5] at B5; cases B5
  replace A0 := P5 _ _ A0 nr0
  replace B0 := P5 _ _ B0 nc0
  replace A1 := P5 _ _ A1 nr1
  replace B1 := P5 _ _ B1 nc1
  replace A2 := P5 _ _ A2 nr2
  replace B2 := P5 _ _ B2 nc2
  replace A3 := P5 _ _ A3 nr3
  replace B3 := P5 _ _ B3 nc3
  replace A4 := P5 _ _ A4 nr4
  replace B4 := P5 _ _ B4 nc4
  clear e5
  refine g_aload_n ok (dk m_Sec_init 44 rfl) (pc' := 95) rfl (i := 0) rfl rfl ?_
  refine g_iconst ok (dk m_Sec_init 45 rfl) (pc' := 96) rfl (v := 1) (by decide) ?_
  refine g_put ok (dk m_Sec_init 46 rfl) (pc' := 99) rfl f_Sec_35 (Or.inl rfl) s5 (Nat.le_of_ble_eq_true rfl) rfl rfl ?_
  refine g_gen (fun w0 f0 => ?_)
  have t0 : w0 s = some (.inl (1, [.ref r0, .ref r1, .ref r2, .ref r3, .ref r4, .ref r5, .int 1, .int 0, .int 0, .int 0])) := by rw [f0, q_up_s]; rfl
  have R0 : ∀ y, y ≠ s → w0 y = v5 y := fun y hy => by rw [f0, q_up_n hy]
  replace A0 := (R0 _ nr0).trans A0
  replace B0 := (R0 _ nc0).trans B0
  replace A1 := (R0 _ nr1).trans A1
  replace B1 := (R0 _ nc1).trans B1
  replace A2 := (R0 _ nr2).trans A2
  replace B2 := (R0 _ nc2).trans B2
  replace A3 := (R0 _ nr3).trans A3
  replace B3 := (R0 _ nc3).trans B3
  replace A4 := (R0 _ nr4).trans A4
  replace B4 := (R0 _ nc4).trans B4
  replace A5 := (R0 _ nr5).trans A5
  replace B5 := (R0 _ nc5).trans B5
  clear f0
  refine g_aload_n ok (dk m_Sec_init 47 rfl) (pc' := 100) rfl (i := 0) rfl rfl ?_
  refine g_iconst ok (dk m_Sec_init 48 rfl) (pc' := 101) rfl (v := 0) (by decide) ?_
  refine g_put ok (dk m_Sec_init 49 rfl) (pc' := 104) rfl f_Sec_39 (Or.inl rfl) t0 (Nat.le_of_ble_eq_true rfl) rfl rfl ?_
  refine g_gen (fun w1 f1 => ?_)
  have t1 : w1 s = some (.inl (1, [.ref r0, .ref r1, .ref r2, .ref r3, .ref r4, .ref r5, .int 1, .int 0, .int 0, .int 0])) := by rw [f1, q_up_s]; rfl
  have R1 : ∀ y, y ≠ s → w1 y = w0 y := fun y hy => by rw [f1, q_up_n hy]
  replace A0 := (R1 _ nr0).trans A0
  replace B0 := (R1 _ nc0).trans B0
  replace A1 := (R1 _ nr1).trans A1
  replace B1 := (R1 _ nc1).trans B1
  replace A2 := (R1 _ nr2).trans A2
  replace B2 := (R1 _ nc2).trans B2
  replace A3 := (R1 _ nr3).trans A3
  replace B3 := (R1 _ nc3).trans B3
  replace A4 := (R1 _ nr4).trans A4
  replace B4 := (R1 _ nc4).trans B4
  replace A5 := (R1 _ nr5).trans A5
  replace B5 := (R1 _ nc5).trans B5
  clear f1
  refine g_aload_n ok (dk m_Sec_init 50 rfl) (pc' := 105) rfl (i := 0) rfl rfl ?_
  refine g_iconst ok (dk m_Sec_init 51 rfl) (pc' := 106) rfl (v := 0) (by decide) ?_
  refine g_put ok (dk m_Sec_init 52 rfl) (pc' := 109) rfl f_Sec_42 (Or.inl rfl) t1 (Nat.le_of_ble_eq_true rfl) rfl rfl ?_
  refine g_gen (fun w2 f2 => ?_)
  have t2 : w2 s = some (.inl (1, [.ref r0, .ref r1, .ref r2, .ref r3, .ref r4, .ref r5, .int 1, .int 0, .int 0, .int 0])) := by rw [f2, q_up_s]; rfl
  have R2 : ∀ y, y ≠ s → w2 y = w1 y := fun y hy => by rw [f2, q_up_n hy]
  replace A0 := (R2 _ nr0).trans A0
  replace B0 := (R2 _ nc0).trans B0
  replace A1 := (R2 _ nr1).trans A1
  replace B1 := (R2 _ nc1).trans B1
  replace A2 := (R2 _ nr2).trans A2
  replace B2 := (R2 _ nc2).trans B2
  replace A3 := (R2 _ nr3).trans A3
  replace B3 := (R2 _ nc3).trans B3
  replace A4 := (R2 _ nr4).trans A4
  replace B4 := (R2 _ nc4).trans B4
  replace A5 := (R2 _ nr5).trans A5
  replace B5 := (R2 _ nc5).trans B5
  clear f2
  refine g_aload_n ok (dk m_Sec_init 53 rfl) (pc' := 110) rfl (i := 0) rfl rfl ?_
  refine g_iconst ok (dk m_Sec_init 54 rfl) (pc' := 111) rfl (v := 0) (by decide) ?_
  refine g_put ok (dk m_Sec_init 55 rfl) (pc' := 114) rfl f_Sec_45 (Or.inl rfl) t2 (Nat.le_of_ble_eq_true rfl) rfl rfl ?_
  refine g_gen (fun w3 f3 => ?_)
  have t3 : w3 s = some (.inl (1, [.ref r0, .ref r1, .ref r2, .ref r3, .ref r4, .ref r5, .int 1, .int 0, .int 0, .int 0])) := by rw [f3, q_up_s]; rfl
  have R3 : ∀ y, y ≠ s → w3 y = w2 y := fun y hy => by rw [f3, q_up_n hy]
  replace A0 := (R3 _ nr0).trans A0
  replace B0 := (R3 _ nc0).trans B0
  replace A1 := (R3 _ nr1).trans A1
  replace B1 := (R3 _ nc1).trans B1
  replace A2 := (R3 _ nr2).trans A2
  replace B2 := (R3 _ nc2).trans B2
  replace A3 := (R3 _ nr3).trans A3
  replace B3 := (R3 _ nc3).trans B3
  replace A4 := (R3 _ nr4).trans A4
  replace B4 := (R3 _ nc4).trans B4
  replace A5 := (R3 _ nr5).trans A5
  replace B5 := (R3 _ nc5).trans B5
  clear f3
  refine g_aload_n ok (dk m_Sec_init 56 rfl) (pc' := 115) rfl (i := 0) rfl rfl ?_
  refine g_get ok (dk m_Sec_init 57 rfl) (pc' := 118) rfl f_Sec_14 t3 rfl ?_
  refine g_iconst ok (dk m_Sec_init 58 rfl) (pc' := 119) rfl (v := 0) (by decide) ?_
  refine g_iconst ok (dk m_Sec_init 59 rfl) (pc' := 120) rfl (v := 1) (by decide) ?_
  refine g_callV ok (dk m_Sec_init 60 rfl) (pc' := 123) rfl c_Sec_48 (c_Row_put g 0 1 0 A0 B0 (by decide)) A0 rfl rfl (by simp [Value.category]) (by omega) rfl (rc' := 0) (rs' := 0) (by omega) (by omega) (fun rv h' hcc => ?_) (fun i h' hcc => by obtain ⟨e, -⟩ := hcc; cases e)
  obtain ⟨e, e2⟩ := hcc
  cases e
  refine g_vret ok (dk m_Sec_init 61 rfl) rfl ⟨rfl, (fun i => if i = 0 then r0 else if i = 1 then r1 else if i = 2 then r2 else if i = 3 then r3 else if i = 4 then r4 else r5), (fun i => if i = 0 then c0 else if i = 1 then c1 else if i = 2 then c2 else if i = 3 then c3 else if i = 4 then c4 else c5), ?_⟩
  have hsec : q_sec w3 s (fun i => if i = 0 then r0 else if i = 1 then r1 else if i = 2 then r2 else if i = 3 then r3 else if i = 4 then r4 else r5) (fun i => if i = 0 then c0 else if i = 1 then c1 else if i = 2 then c2 else if i = 3 then c3 else if i = 4 then c4 else c5) S_pre := by
    refine ⟨t3, fun i hi => ?_, fun i j hi hj => ?_⟩
    · rcases (show i = 0 ∨ i = 1 ∨ i = 2 ∨ i = 3 ∨ i = 4 ∨ i = 5 by omega) with rfl | rfl | rfl | rfl | rfl | rfl
      · exact ⟨A0, B0⟩
      · exact ⟨A1, B1⟩
      · exact ⟨A2, B2⟩
      · exact ⟨A3, B3⟩
      · exact ⟨A4, B4⟩
      · exact ⟨A5, B5⟩
    · rcases (show i = 0 ∨ i = 1 ∨ i = 2 ∨ i = 3 ∨ i = 4 ∨ i = 5 by omega) with rfl | rfl | rfl | rfl | rfl | rfl <;> rcases (show j = 0 ∨ j = 1 ∨ j = 2 ∨ j = 3 ∨ j = 4 ∨ j = 5 by omega) with rfl | rfl | rfl | rfl | rfl | rfl <;> intro e <;> first | rfl | exact absurd e (by assumption) | exact absurd e.symm (by assumption)
  refine ⟨hsec.putE 0 (by decide) e2, ?_, ?_, ?_⟩
  · intro y o hy hne
    have h5 := P5 y o (P4 y o (P3 y o (P2 y o (P1 y o (P0 y o hy hne) hne) hne) hne) hne) hne
    rw [e2, q_up_n (fun e => by rw [e] at hy; exact absurd hy (by rw [n0]; intro z; cases z))]
    rw [R3 y hne, R2 y hne, R1 y hne, R0 y hne]
    exact h5
  · have N : ∀ (y : Nat), y ≠ s → (∀ o, h y = some o → False) → h y = none := fun y _ hf => by
      cases e : h y with
      | none => rfl
      | some o => exact absurd e (fun z => hf o z)
    intro i hi
    rcases (show i = 0 ∨ i = 1 ∨ i = 2 ∨ i = 3 ∨ i = 4 ∨ i = 5 by omega) with rfl | rfl | rfl | rfl | rfl | rfl
    · exact ⟨hr0, n0⟩
    · exact ⟨N r1 nr1 (fun o ho => by have hne := nr1; have hh := (P0 r1 _ ho hne); rw [hr1] at hh; cases hh), N c1 nc1 (fun o ho => by have hne := nc1; have hh := (P0 c1 _ ho hne); rw [n1] at hh; cases hh)⟩
    · exact ⟨N r2 nr2 (fun o ho => by have hne := nr2; have hh := (P1 r2 _ (P0 r2 _ ho hne) hne); rw [hr2] at hh; cases hh), N c2 nc2 (fun o ho => by have hne := nc2; have hh := (P1 c2 _ (P0 c2 _ ho hne) hne); rw [n2] at hh; cases hh)⟩
    · exact ⟨N r3 nr3 (fun o ho => by have hne := nr3; have hh := (P2 r3 _ (P1 r3 _ (P0 r3 _ ho hne) hne) hne); rw [hr3] at hh; cases hh), N c3 nc3 (fun o ho => by have hne := nc3; have hh := (P2 c3 _ (P1 c3 _ (P0 c3 _ ho hne) hne) hne); rw [n3] at hh; cases hh)⟩
    · exact ⟨N r4 nr4 (fun o ho => by have hne := nr4; have hh := (P3 r4 _ (P2 r4 _ (P1 r4 _ (P0 r4 _ ho hne) hne) hne) hne); rw [hr4] at hh; cases hh), N c4 nc4 (fun o ho => by have hne := nc4; have hh := (P3 c4 _ (P2 c4 _ (P1 c4 _ (P0 c4 _ ho hne) hne) hne) hne); rw [n4] at hh; cases hh)⟩
    · exact ⟨N r5 nr5 (fun o ho => by have hne := nr5; have hh := (P4 r5 _ (P3 r5 _ (P2 r5 _ (P1 r5 _ (P0 r5 _ ho hne) hne) hne) hne) hne); rw [hr5] at hh; cases hh), N c5 nc5 (fun o ho => by have hne := nc5; have hh := (P4 c5 _ (P3 c5 _ (P2 c5 _ (P1 c5 _ (P0 c5 _ ho hne) hne) hne) hne) hne); rw [n5] at hh; cases hh)⟩
  · intro y hy hall
    have hys : y ≠ s := fun e => by rw [e, hs0] at hy; cases hy
    have k0 := Q0 y hy (hall 0 (by decide)).1 (hall 0 (by decide)).2
    have k1 := Q1 y k0 (hall 1 (by decide)).1 (hall 1 (by decide)).2
    have k2 := Q2 y k1 (hall 2 (by decide)).1 (hall 2 (by decide)).2
    have k3 := Q3 y k2 (hall 3 (by decide)).1 (hall 3 (by decide)).2
    have k4 := Q4 y k3 (hall 4 (by decide)).1 (hall 4 (by decide)).2
    have k5 := Q5 y k4 (hall 5 (by decide)).1 (hall 5 (by decide)).2
    rw [e2, q_up_n (show y ≠ c0 from (hall 0 (by decide)).2), R3 y hys, R2 y hys, R1 y hys, R0 y hys]
    exact k5
end
section
/-! ===== Tree: numbers of nodes, rows of a tree ===== -/
noncomputable def b2i (p : Prop) : Int32 := by
  classical exact if p then 1 else 0
theorem b2i_t {p : Prop} (h : p) : b2i p = 1 := if_pos h
theorem b2i_f {p : Prop} (h : ¬ p) : b2i p = 0 := if_neg h
theorem b2i_0 {p : Prop} (h : b2i p = 0) : ¬ p := fun q => by
  rw [b2i_t q] at h
  exact absurd h (by decide)
theorem b2i_n {p : Prop} (h : ¬ b2i p = 0) : p := by
  by_cases q : p
  · exact q
  · exact absurd (b2i_f q) h
theorem b2i_nar (p : Prop) : narrow .boolean (.int (b2i p)) = .int (b2i p) := by
  by_cases q : p
  · rw [b2i_t q]; rfl
  · rw [b2i_f q]; rfl
def j_ushr (x y : Int32) : Int32 := (x.toUInt32 >>> (y.toUInt32 &&& Int32.toUInt32 31)).toInt32
def j_in (b i : Int32) : Prop := ¬ i < 0 ∧ ¬ (j_ushr b i &&& 1) = 0
def j_node (l t : Int32) : Int32 := ((l >>> (t &&& 31)) <<< ((t + 1) &&& 31)) + ((1 : Int32) <<< (t &&& 31)) - 1
noncomputable def j_ht (n : Int32) : Nat → Nat → Nat
  | 0, k => k
  | m + 1, k => by classical exact if j_in n (nI k) then j_ht n m (k + 1) else k
def j_nl (x : Int32) : Nat → Nat → Int32 → Int32
  | 0, _, a => a
  | m + 1, k, a => j_nl x m (k + 1) (a ||| ((j_ushr x (nI k) &&& 1) <<< ((2 * nI k) &&& 31)))
set_option maxHeartbeats 1000000 in
theorem c_RG_isIn (g : q_G) {h : q_H} (b i : Int32) (d : Nat) : MG g y_RG_isIn b_RG_isIn 2 (some .boolean) d 0 0 [.int b, .int i] h (fun q h' => q = .inl (some (.int (b2i (j_in b i)))) ∧ h' = h) := by
  refine MG.of (by decide +kernel) (by simp [Value.category]) (Nat.le_of_ble_eq_true rfl) ?_
  intro Z A ok
  refine g_iload_n ok (dk m_RG_isIn 0 rfl) (pc' := 1) rfl (i := 1) rfl rfl ?_
  refine g_if_lt ok (dk m_RG_isIn 1 rfl) (tgt := 16) (by decide) (pc' := 4) rfl (fun c_1 => ?_) (fun c_1 => ?_)
  · refine g_iconst ok (dk m_RG_isIn 10 rfl) (pc' := 17) rfl (v := 0) (by decide) ?_
    exact g_iret ok (dk m_RG_isIn 11 rfl) rfl rfl ⟨by rw [b2i_f (fun z => z.1 c_1)], rfl⟩
  · refine g_iload_n ok (dk m_RG_isIn 2 rfl) (pc' := 5) rfl (i := 0) rfl rfl ?_
    refine g_iload_n ok (dk m_RG_isIn 3 rfl) (pc' := 6) rfl (i := 1) rfl rfl ?_
    refine g_iushr ok (dk m_RG_isIn 4 rfl) (pc' := 7) rfl rfl ?_
    refine g_iconst ok (dk m_RG_isIn 5 rfl) (pc' := 8) rfl (v := 1) (by decide) ?_
    refine g_iand ok (dk m_RG_isIn 6 rfl) (pc' := 9) rfl ?_
    refine g_if_eq ok (dk m_RG_isIn 7 rfl) (tgt := 16) (by decide) (pc' := 12) rfl (fun c_9 => ?_) (fun c_9 => ?_)
    · refine g_iconst ok (dk m_RG_isIn 10 rfl) (pc' := 17) rfl (v := 0) (by decide) ?_
      exact g_iret ok (dk m_RG_isIn 11 rfl) rfl rfl ⟨by rw [b2i_f (fun z => z.2 c_9)], rfl⟩
    · refine g_iconst ok (dk m_RG_isIn 8 rfl) (pc' := 13) rfl (v := 1) (by decide) ?_
      refine g_goto ok (dk m_RG_isIn 9 rfl) (pc' := 17) (by decide) ?_
      exact g_iret ok (dk m_RG_isIn 11 rfl) rfl rfl ⟨by rw [b2i_t ⟨c_1, c_9⟩], rfl⟩
set_option maxHeartbeats 1000000 in
theorem c_Tr_nodeOver (g : q_G) {h : q_H} (l t : Int32) (d : Nat) : MG g y_Tr_nodeOver b_Tr_nodeOver 2 (some .int) d 0 0 [.int l, .int t] h (fun q h' => q = .inl (some (.int (j_node l t))) ∧ h' = h) := by
  refine MG.of (by decide +kernel) (by simp [Value.category]) (Nat.le_of_ble_eq_true rfl) ?_
  intro Z A ok
  refine g_iload_n ok (dk m_Tr_nodeOver 0 rfl) (pc' := 1) rfl (i := 0) rfl rfl ?_
  refine g_iload_n ok (dk m_Tr_nodeOver 1 rfl) (pc' := 2) rfl (i := 1) rfl rfl ?_
  refine g_ishr ok (dk m_Tr_nodeOver 2 rfl) (pc' := 3) rfl ?_
  refine g_iload_n ok (dk m_Tr_nodeOver 3 rfl) (pc' := 4) rfl (i := 1) rfl rfl ?_
  refine g_iconst ok (dk m_Tr_nodeOver 4 rfl) (pc' := 5) rfl (v := 1) (by decide) ?_
  refine g_iadd ok (dk m_Tr_nodeOver 5 rfl) (pc' := 6) rfl ?_
  refine g_ishl ok (dk m_Tr_nodeOver 6 rfl) (pc' := 7) rfl ?_
  refine g_iconst ok (dk m_Tr_nodeOver 7 rfl) (pc' := 8) rfl (v := 1) (by decide) ?_
  refine g_iload_n ok (dk m_Tr_nodeOver 8 rfl) (pc' := 9) rfl (i := 1) rfl rfl ?_
  refine g_ishl ok (dk m_Tr_nodeOver 9 rfl) (pc' := 10) rfl ?_
  refine g_iadd ok (dk m_Tr_nodeOver 10 rfl) (pc' := 11) rfl ?_
  refine g_iconst ok (dk m_Tr_nodeOver 11 rfl) (pc' := 12) rfl (v := 1) (by decide) ?_
  refine g_isub ok (dk m_Tr_nodeOver 12 rfl) (pc' := 13) rfl ?_
  exact g_iret ok (dk m_Tr_nodeOver 13 rfl) rfl rfl ⟨rfl, rfl⟩
set_option maxHeartbeats 1000000 in
theorem c_Tr_heightOf (g : q_G) {h : q_H} (n : Int32) (d : Nat) (hd : 1 ≤ d) : MG g y_Tr_heightOf b_Tr_heightOf 2 (some .int) d 0 0 [.int n] h (fun q h' => q = .inl (some (.int (nI (j_ht n 4 0)))) ∧ h' = h) := by
  refine MG.of (by decide +kernel) (by simp [Value.category]) (Nat.le_of_ble_eq_true rfl) ?_
  intro Z A ok
  have loop : ∀ (m k : Nat), k + m = 4 → j_ht n m k = j_ht n 4 0 → GW g Z A (fun q h' => q = .inl (some (.int (nI (j_ht n 4 0)))) ∧ h' = h) 0 0 h 2 [some (.int n), some (.int (nI k))] [] := by
    intro m
    induction m with
    | zero =>
      intro k hk hv
      refine g_iload_n ok (dk m_Tr_heightOf 2 rfl) (pc' := 3) rfl (i := 1) rfl rfl ?_
      refine g_iconst ok (dk m_Tr_heightOf 3 rfl) (pc' := 4) rfl (v := 4) (by decide) ?_
      refine g_icmp_ge ok (dk m_Tr_heightOf 4 rfl) (tgt := 21) (by decide) (pc' := 7) rfl (fun c_4 => ?_) (fun c_4 => absurd (show (4 : Int32) ≤ nI k from by rw [show k = 4 by omega]; decide) c_4)
      refine g_iload_n ok (dk m_Tr_heightOf 11 rfl) (pc' := 22) rfl (i := 1) rfl rfl ?_
      exact g_iret ok (dk m_Tr_heightOf 12 rfl) rfl rfl ⟨by rw [← hv]; rfl, rfl⟩
    | succ m ih =>
      intro k hk hv
      refine g_iload_n ok (dk m_Tr_heightOf 2 rfl) (pc' := 3) rfl (i := 1) rfl rfl ?_
      refine g_iconst ok (dk m_Tr_heightOf 3 rfl) (pc' := 4) rfl (v := 4) (by decide) ?_
      refine g_icmp_ge ok (dk m_Tr_heightOf 4 rfl) (tgt := 21) (by decide) (pc' := 7) rfl (fun c_4 => absurd c_4 (show ¬ nI 4 ≤ nI k from nI_ge (by omega) (by decide))) (fun c_4 => ?_)
      refine g_iload_n ok (dk m_Tr_heightOf 5 rfl) (pc' := 8) rfl (i := 0) rfl rfl ?_
      refine g_iload_n ok (dk m_Tr_heightOf 6 rfl) (pc' := 9) rfl (i := 1) rfl rfl ?_
      refine g_callSN ok (dk m_Tr_heightOf 7 rfl) (pc' := 12) rfl c_Tr_33 (c_RG_isIn g n (nI k) 0) rfl rfl (by simp [Value.category]) (by omega) rfl (rc' := 0) (rs' := 0) (by omega) (by omega) (fun rv h' hcc => ?_) (fun i h' hcc => by obtain ⟨e, -⟩ := hcc; cases e)
      obtain ⟨e, e2⟩ := hcc
      have e3 := e2.symm
      subst e3
      cases e
      refine g_if_eq ok (dk m_Tr_heightOf 8 rfl) (tgt := 21) (by decide) (pc' := 15) rfl (fun c_12 => ?_) (fun c_12 => ?_)
      · refine g_iload_n ok (dk m_Tr_heightOf 11 rfl) (pc' := 22) rfl (i := 1) rfl rfl ?_
        exact g_iret ok (dk m_Tr_heightOf 12 rfl) rfl rfl ⟨by rw [← hv, j_ht, if_neg (b2i_0 c_12)], rfl⟩
      · refine g_iinc ok (dk m_Tr_heightOf 9 rfl) (pc' := 18) rfl rfl (nI_1 k) rfl ?_
        refine g_goto ok (dk m_Tr_heightOf 10 rfl) (pc' := 2) (by decide) ?_
        exact ih (k + 1) (by omega) (by rw [← hv, j_ht, if_pos (b2i_n c_12)])
  refine g_iconst ok (dk m_Tr_heightOf 0 rfl) (pc' := 1) rfl (v := 0) (by decide) ?_
  refine g_istore_n ok (dk m_Tr_heightOf 1 rfl) (pc' := 2) rfl (i := 1) rfl (Nat.le_of_ble_eq_true rfl) rfl ?_
  exact loop 4 0 (by omega) rfl
set_option maxHeartbeats 1000000 in
theorem c_Tr_nodesOfLeaves (g : q_G) {h : q_H} (x : Int32) (d : Nat) : MG g y_Tr_nodesOfLeaves b_Tr_nodesOfLeaves 3 (some .int) d 0 0 [.int x] h (fun q h' => q = .inl (some (.int (j_nl x 16 0 0))) ∧ h' = h) := by
  refine MG.of (by decide +kernel) (by simp [Value.category]) (Nat.le_of_ble_eq_true rfl) ?_
  intro Z A ok
  have loop : ∀ (m k : Nat), k + m = 16 → ∀ a : Int32, j_nl x m k a = j_nl x 16 0 0 → GW g Z A (fun q h' => q = .inl (some (.int (j_nl x 16 0 0))) ∧ h' = h) 0 0 h 4 [some (.int x), some (.int a), some (.int (nI k))] [] := by
    intro m
    induction m with
    | zero =>
      intro k hk a hv
      refine g_iload_n ok (dk m_Tr_nodesOfLeaves 4 rfl) (pc' := 5) rfl (i := 2) rfl rfl ?_
      refine g_bipush ok (dk m_Tr_nodesOfLeaves 5 rfl) (pc' := 7) rfl (v := 16) (by decide) ?_
      refine g_icmp_ge ok (dk m_Tr_nodesOfLeaves 6 rfl) (tgt := 28) (by decide) (pc' := 10) rfl (fun c_7 => ?_) (fun c_7 => absurd (show (16 : Int32) ≤ nI k from by rw [show k = 16 by omega]; decide) c_7)
      refine g_iload_n ok (dk m_Tr_nodesOfLeaves 21 rfl) (pc' := 29) rfl (i := 1) rfl rfl ?_
      exact g_iret ok (dk m_Tr_nodesOfLeaves 22 rfl) rfl rfl ⟨by rw [← hv]; rfl, rfl⟩
    | succ m ih =>
      intro k hk a hv
      refine g_iload_n ok (dk m_Tr_nodesOfLeaves 4 rfl) (pc' := 5) rfl (i := 2) rfl rfl ?_
      refine g_bipush ok (dk m_Tr_nodesOfLeaves 5 rfl) (pc' := 7) rfl (v := 16) (by decide) ?_
      refine g_icmp_ge ok (dk m_Tr_nodesOfLeaves 6 rfl) (tgt := 28) (by decide) (pc' := 10) rfl (fun c_7 => absurd c_7 (show ¬ nI 16 ≤ nI k from nI_ge (by omega) (by decide))) (fun c_7 => ?_)
      refine g_iload_n ok (dk m_Tr_nodesOfLeaves 7 rfl) (pc' := 11) rfl (i := 1) rfl rfl ?_
      refine g_iload_n ok (dk m_Tr_nodesOfLeaves 8 rfl) (pc' := 12) rfl (i := 0) rfl rfl ?_
      refine g_iload_n ok (dk m_Tr_nodesOfLeaves 9 rfl) (pc' := 13) rfl (i := 2) rfl rfl ?_
      refine g_iushr ok (dk m_Tr_nodesOfLeaves 10 rfl) (pc' := 14) rfl rfl ?_
      refine g_iconst ok (dk m_Tr_nodesOfLeaves 11 rfl) (pc' := 15) rfl (v := 1) (by decide) ?_
      refine g_iand ok (dk m_Tr_nodesOfLeaves 12 rfl) (pc' := 16) rfl ?_
      refine g_iconst ok (dk m_Tr_nodesOfLeaves 13 rfl) (pc' := 17) rfl (v := 2) (by decide) ?_
      refine g_iload_n ok (dk m_Tr_nodesOfLeaves 14 rfl) (pc' := 18) rfl (i := 2) rfl rfl ?_
      refine g_imul ok (dk m_Tr_nodesOfLeaves 15 rfl) (pc' := 19) rfl ?_
      refine g_ishl ok (dk m_Tr_nodesOfLeaves 16 rfl) (pc' := 20) rfl ?_
      refine g_ior ok (dk m_Tr_nodesOfLeaves 17 rfl) (pc' := 21) rfl ?_
      refine g_istore_n ok (dk m_Tr_nodesOfLeaves 18 rfl) (pc' := 22) rfl (i := 1) rfl (Nat.le_of_ble_eq_true rfl) rfl ?_
      refine g_iinc ok (dk m_Tr_nodesOfLeaves 19 rfl) (pc' := 25) rfl rfl (nI_1 k) rfl ?_
      refine g_goto ok (dk m_Tr_nodesOfLeaves 20 rfl) (pc' := 4) (by decide) ?_
      exact ih (k + 1) (by omega) _ (by rw [← hv]; rfl)
  refine g_iconst ok (dk m_Tr_nodesOfLeaves 0 rfl) (pc' := 1) rfl (v := 0) (by decide) ?_
  refine g_istore_n ok (dk m_Tr_nodesOfLeaves 1 rfl) (pc' := 2) rfl (i := 1) rfl (Nat.le_of_ble_eq_true rfl) rfl ?_
  refine g_iconst ok (dk m_Tr_nodesOfLeaves 2 rfl) (pc' := 3) rfl (v := 0) (by decide) ?_
  refine g_istore_n ok (dk m_Tr_nodesOfLeaves 3 rfl) (pc' := 4) rfl (i := 2) rfl (Nat.le_of_ble_eq_true rfl) rfl ?_
  exact loop 16 0 (by omega) 0 rfl
/-- nr rows of lengths len: objects ra, arrays rb -/
def q_rw (nr : Nat) (len : Nat → Nat) (h : q_H) (ra rb : Nat → Nat) (R : Nat → Nat → Int32) : Prop := (∀ i, i < nr → h (ra i) = some (.inl (2, [.ref (rb i)])) ∧ h (rb i) = some (.inr (0, len i, .inl (R i)))) ∧ ∀ i j, i < nr → j < nr → rb i = rb j → i = j
theorem q_rw.put {nr : Nat} {len : Nat → Nat} {h h' : q_H} {ra rb : Nat → Nat} {R : Nat → Nat → Int32} (hr : q_rw nr len h ra rb R) (i : Nat) (hi : i < nr) {f : Nat → Int32} (e : h' = q_up h (rb i) (.inr (0, len i, .inl f))) : q_rw nr len h' ra rb (va_up R i f) := by
  obtain ⟨h2, h3⟩ := hr
  subst e
  refine ⟨fun j hj => ⟨?_, ?_⟩, h3⟩
  · rw [q_up_n (q_oa (h2 j hj).1 (h2 i hi).2)]
    exact (h2 j hj).1
  · by_cases e : j = i
    · subst e
      rw [q_up_s, show va_up R j f j = f from if_pos rfl]
    · rw [q_up_n (fun z => e (h3 j i hj hi z)), show va_up R i f j = R j from if_neg e]
      exact (h2 j hj).2
theorem q_rw.kept {nr : Nat} {len : Nat → Nat} {h h' : q_H} {ra rb : Nat → Nat} {R : Nat → Nat → Int32} (hr : q_rw nr len h ra rb R) (hk : ∀ i, i < nr → h' (ra i) = h (ra i) ∧ h' (rb i) = h (rb i)) : q_rw nr len h' ra rb R := ⟨fun i hi => ⟨(hk i hi).1.trans (hr.1 i hi).1, (hk i hi).2.trans (hr.1 i hi).2⟩, hr.2⟩
abbrev tr_T : Type := (Nat → Nat → Int32) × Nat
def tr_len (i : Nat) : Nat := if i = 3 then 16 else 31
theorem tr_len_lt (i : Nat) : tr_len i < 2 ^ 31 := by
  unfold tr_len
  split <;> decide
abbrev tr_fs (ra : Nat → Nat) (D : Nat) : List Value := [.ref (ra 0), .ref (ra 1), .ref (ra 2), .ref (ra 3), .int (nI D)]
def q_tree (h : q_H) (t : Nat) (ra rb : Nat → Nat) (T : tr_T) : Prop := h t = some (.inl (6, tr_fs ra T.2)) ∧ q_rw 4 tr_len h ra rb T.1
abbrev tr_P (t : Nat) (rb : Nat → Nat) : Nat → Prop := fun y => y = t ∨ ∃ i, i < 4 ∧ y = rb i
theorem q_tree.putE {h h' : q_H} {t : Nat} {ra rb : Nat → Nat} {T : tr_T} (ht : q_tree h t ra rb T) (i : Nat) (hi : i < 4) {f : Nat → Int32} (e : h' = q_up h (rb i) (.inr (0, tr_len i, .inl f))) : q_tree h' t ra rb (va_up T.1 i f, T.2) := by
  refine ⟨?_, ht.2.put i hi e⟩
  rw [e, q_up_n (q_oa ht.1 (ht.2.1 i hi).2)]
  exact ht.1
theorem q_tree.depE {h h' : q_H} {t : Nat} {ra rb : Nat → Nat} {T : tr_T} (ht : q_tree h t ra rb T) {D : Nat} (e : h' = q_up h t (.inl (6, (tr_fs ra T.2).set 4 (.int (nI D))))) : q_tree h' t ra rb (T.1, D) := by
  refine ⟨by rw [e, q_up_s]; rfl, ht.2.kept (fun i hi => ⟨?_, ?_⟩)⟩
  · rw [e, q_up_n (q_df (ht.2.1 i hi).1 ht.1 (fun z => by cases z))]
  · rw [e, q_up_n (q_oa ht.1 (ht.2.1 i hi).2).symm]
noncomputable def T_give (T : tr_T) (n k e : Int32) : tr_T := (va_up (va_up (va_up T.1 0 (r_put (tr_len 0) (T.1 0) n k)) 1 (r_put (tr_len 1) (T.1 1) n 0)) 2 (r_put (tr_len 2) (T.1 2) n e), T.2)
noncomputable def T_blank (T : tr_T) (n : Int32) : tr_T := T_give T n (-1) (-1)
def T_isB (T : tr_T) (n : Int32) : Prop := r_get (tr_len 0) (T.1 0) n = -1
set_option maxHeartbeats 1000000 in
theorem c_Tr_give (g : q_G) {h : q_H} {t : Nat} {ra rb : Nat → Nat} {T : tr_T} (n k e : Int32) (d : Nat) (hd : 1 ≤ d) (ht : q_tree h t ra rb T) : MG g y_Tr_give b_Tr_give 4 none d 0 0 [.ref t, .int n, .int k, .int e] h (fun q h' => q = .inl none ∧ q_tree h' t ra rb (T_give T n k e) ∧ q_off h h' (tr_P t rb)) := by
  refine MG.of (by decide +kernel) (by simp [Value.category]) (Nat.le_of_ble_eq_true rfl) ?_
  intro Z A ok
  refine g_aload_n ok (dk m_Tr_give 0 rfl) (pc' := 1) rfl (i := 0) rfl rfl ?_
  refine g_get ok (dk m_Tr_give 1 rfl) (pc' := 4) rfl f_Tr_14 ht.1 rfl ?_
  refine g_iload_n ok (dk m_Tr_give 2 rfl) (pc' := 5) rfl (i := 1) rfl rfl ?_
  refine g_iload_n ok (dk m_Tr_give 3 rfl) (pc' := 6) rfl (i := 2) rfl rfl ?_
  refine g_callV ok (dk m_Tr_give 4 rfl) (pc' := 9) rfl c_Tr_45 (c_Row_put g n k 0 (ht.2.1 0 (by decide)).1 (ht.2.1 0 (by decide)).2 (tr_len_lt _)) (ht.2.1 0 (by decide)).1 rfl rfl (by simp [Value.category]) (by omega) rfl (rc' := 0) (rs' := 0) (by omega) (by omega) (fun rv h' hcc => ?_) (fun i h' hcc => by obtain ⟨e, -⟩ := hcc; cases e)
  obtain ⟨e9, e2⟩ := hcc
  cases e9
  have h1t := ht.putE 0 (by decide) e2
  have ho1 := q_off.upE (q_off.rf (X := tr_P t rb)) (Or.inr ⟨0, by decide, rfl⟩) e2
  clear e2
  refine g_aload_n ok (dk m_Tr_give 5 rfl) (pc' := 10) rfl (i := 0) rfl rfl ?_
  refine g_get ok (dk m_Tr_give 6 rfl) (pc' := 13) rfl f_Tr_20 h1t.1 rfl ?_
  refine g_iload_n ok (dk m_Tr_give 7 rfl) (pc' := 14) rfl (i := 1) rfl rfl ?_
  refine g_iconst ok (dk m_Tr_give 8 rfl) (pc' := 15) rfl (v := 0) (by decide) ?_
  refine g_callV ok (dk m_Tr_give 9 rfl) (pc' := 18) rfl c_Tr_45 (c_Row_put g n 0 0 (h1t.2.1 1 (by decide)).1 (h1t.2.1 1 (by decide)).2 (tr_len_lt _)) (h1t.2.1 1 (by decide)).1 rfl rfl (by simp [Value.category]) (by omega) rfl (rc' := 0) (rs' := 0) (by omega) (by omega) (fun rv h' hcc => ?_) (fun i h' hcc => by obtain ⟨e, -⟩ := hcc; cases e)
  obtain ⟨e9, e2⟩ := hcc
  cases e9
  have h2t := h1t.putE 1 (by decide) e2
  have ho2 := q_off.upE ho1 (Or.inr ⟨1, by decide, rfl⟩) e2
  clear e2
  refine g_aload_n ok (dk m_Tr_give 10 rfl) (pc' := 19) rfl (i := 0) rfl rfl ?_
  refine g_get ok (dk m_Tr_give 11 rfl) (pc' := 22) rfl f_Tr_23 h2t.1 rfl ?_
  refine g_iload_n ok (dk m_Tr_give 12 rfl) (pc' := 23) rfl (i := 1) rfl rfl ?_
  refine g_iload_n ok (dk m_Tr_give 13 rfl) (pc' := 24) rfl (i := 3) rfl rfl ?_
  refine g_callV ok (dk m_Tr_give 14 rfl) (pc' := 27) rfl c_Tr_45 (c_Row_put g n e 0 (h2t.2.1 2 (by decide)).1 (h2t.2.1 2 (by decide)).2 (tr_len_lt _)) (h2t.2.1 2 (by decide)).1 rfl rfl (by simp [Value.category]) (by omega) rfl (rc' := 0) (rs' := 0) (by omega) (by omega) (fun rv h' hcc => ?_) (fun i h' hcc => by obtain ⟨e, -⟩ := hcc; cases e)
  obtain ⟨e9, e2⟩ := hcc
  cases e9
  have h3t := h2t.putE 2 (by decide) e2
  have ho3 := q_off.upE ho2 (Or.inr ⟨2, by decide, rfl⟩) e2
  clear e2
  exact g_vret ok (dk m_Tr_give 15 rfl) rfl ⟨rfl, h3t, ho3⟩
set_option maxHeartbeats 1000000 in
theorem c_Tr_blank (g : q_G) {h : q_H} {t : Nat} {ra rb : Nat → Nat} {T : tr_T} (n : Int32) (d : Nat) (hd : 2 ≤ d) (ht : q_tree h t ra rb T) : MG g y_Tr_blank b_Tr_blank 2 none d 0 0 [.ref t, .int n] h (fun q h' => q = .inl none ∧ q_tree h' t ra rb (T_blank T n) ∧ q_off h h' (tr_P t rb)) := by
  refine MG.of (by decide +kernel) (by simp [Value.category]) (Nat.le_of_ble_eq_true rfl) ?_
  intro Z A ok
  refine g_aload_n ok (dk m_Tr_blank 0 rfl) (pc' := 1) rfl (i := 0) rfl rfl ?_
  refine g_iload_n ok (dk m_Tr_blank 1 rfl) (pc' := 2) rfl (i := 1) rfl rfl ?_
  refine g_iconst ok (dk m_Tr_blank 2 rfl) (pc' := 3) rfl (v := (-1)) (by decide) ?_
  refine g_iconst ok (dk m_Tr_blank 3 rfl) (pc' := 4) rfl (v := (-1)) (by decide) ?_
  refine g_callV ok (dk m_Tr_blank 4 rfl) (pc' := 7) rfl c_Tr_48 (c_Tr_give g n (-1) (-1) 1 (by omega) ht) ht.1 rfl rfl (by simp [Value.category]) (by omega) rfl (rc' := 0) (rs' := 0) (by omega) (by omega) (fun rv h' hcc => ?_) (fun i h' hcc => by obtain ⟨e, -⟩ := hcc; cases e)
  obtain ⟨e, h1t, ho1⟩ := hcc
  cases e
  exact g_vret ok (dk m_Tr_blank 5 rfl) rfl ⟨rfl, h1t, ho1⟩
set_option maxHeartbeats 1000000 in
theorem c_Tr_isBlank (g : q_G) {h : q_H} {t : Nat} {ra rb : Nat → Nat} {T : tr_T} (n : Int32) (d : Nat) (hd : 1 ≤ d) (ht : q_tree h t ra rb T) : MG g y_Tr_isBlank b_Tr_isBlank 2 (some .boolean) d 0 0 [.ref t, .int n] h (fun q h' => q = .inl (some (.int (b2i (T_isB T n)))) ∧ h' = h) := by
  refine MG.of (by decide +kernel) (by simp [Value.category]) (Nat.le_of_ble_eq_true rfl) ?_
  intro Z A ok
  refine g_aload_n ok (dk m_Tr_isBlank 0 rfl) (pc' := 1) rfl (i := 0) rfl rfl ?_
  refine g_get ok (dk m_Tr_isBlank 1 rfl) (pc' := 4) rfl f_Tr_14 ht.1 rfl ?_
  refine g_iload_n ok (dk m_Tr_isBlank 2 rfl) (pc' := 5) rfl (i := 1) rfl rfl ?_
  refine g_callV ok (dk m_Tr_isBlank 3 rfl) (pc' := 8) rfl c_Tr_41 (c_Row_get g n 0 (ht.2.1 0 (by decide)).1 (ht.2.1 0 (by decide)).2 (tr_len_lt _)) (ht.2.1 0 (by decide)).1 rfl rfl (by simp [Value.category]) (by omega) rfl (rc' := 0) (rs' := 0) (by omega) (by omega) (fun rv h' hcc => ?_) (fun i h' hcc => by obtain ⟨e, -⟩ := hcc; cases e)
  obtain ⟨e, e2⟩ := hcc
  have e3 := e2.symm
  subst e3
  cases e
  refine g_iconst ok (dk m_Tr_isBlank 4 rfl) (pc' := 9) rfl (v := (-1)) (by decide) ?_
  refine g_icmp_ne ok (dk m_Tr_isBlank 5 rfl) (tgt := 16) (by decide) (pc' := 12) rfl (fun c_9 => ?_) (fun c_9 => ?_)
  · refine g_iconst ok (dk m_Tr_isBlank 8 rfl) (pc' := 17) rfl (v := 0) (by decide) ?_
    exact g_iret ok (dk m_Tr_isBlank 9 rfl) rfl rfl ⟨by rw [b2i_f (p := T_isB T n) c_9], rfl⟩
  · refine g_iconst ok (dk m_Tr_isBlank 6 rfl) (pc' := 13) rfl (v := 1) (by decide) ?_
    refine g_goto ok (dk m_Tr_isBlank 7 rfl) (pc' := 17) (by decide) ?_
    exact g_iret ok (dk m_Tr_isBlank 9 rfl) rfl rfl ⟨by rw [b2i_t (p := T_isB T n) c_9], rfl⟩
def T_there (T : tr_T) (n : Int32) : Prop := ¬ n < 0 ∧ ¬ ((2 : Int32) <<< (nI T.2 &&& 31)) - 1 ≤ n
set_option maxHeartbeats 1000000 in
theorem c_Tr_isThere (g : q_G) {h : q_H} {t : Nat} {ra rb : Nat → Nat} {T : tr_T} (n : Int32) (d : Nat) (ht : q_tree h t ra rb T) : MG g y_Tr_isThere b_Tr_isThere 2 (some .boolean) d 0 0 [.ref t, .int n] h (fun q h' => q = .inl (some (.int (b2i (T_there T n)))) ∧ h' = h) := by
  refine MG.of (by decide +kernel) (by simp [Value.category]) (Nat.le_of_ble_eq_true rfl) ?_
  intro Z A ok
  refine g_iload_n ok (dk m_Tr_isThere 0 rfl) (pc' := 1) rfl (i := 1) rfl rfl ?_
  refine g_if_lt ok (dk m_Tr_isThere 1 rfl) (tgt := 20) (by decide) (pc' := 4) rfl (fun c_1 => ?_) (fun c_1 => ?_)
  · refine g_iconst ok (dk m_Tr_isThere 12 rfl) (pc' := 21) rfl (v := 0) (by decide) ?_
    exact g_iret ok (dk m_Tr_isThere 13 rfl) rfl rfl ⟨by rw [b2i_f (fun z => z.1 c_1)], rfl⟩
  · refine g_iload_n ok (dk m_Tr_isThere 2 rfl) (pc' := 5) rfl (i := 1) rfl rfl ?_
    refine g_iconst ok (dk m_Tr_isThere 3 rfl) (pc' := 6) rfl (v := 2) (by decide) ?_
    refine g_aload_n ok (dk m_Tr_isThere 4 rfl) (pc' := 7) rfl (i := 0) rfl rfl ?_
    refine g_get ok (dk m_Tr_isThere 5 rfl) (pc' := 10) rfl f_Tr_29 ht.1 rfl ?_
    refine g_ishl ok (dk m_Tr_isThere 6 rfl) (pc' := 11) rfl ?_
    refine g_iconst ok (dk m_Tr_isThere 7 rfl) (pc' := 12) rfl (v := 1) (by decide) ?_
    refine g_isub ok (dk m_Tr_isThere 8 rfl) (pc' := 13) rfl ?_
    refine g_icmp_ge ok (dk m_Tr_isThere 9 rfl) (tgt := 20) (by decide) (pc' := 16) rfl (fun c_13 => ?_) (fun c_13 => ?_)
    · refine g_iconst ok (dk m_Tr_isThere 12 rfl) (pc' := 21) rfl (v := 0) (by decide) ?_
      exact g_iret ok (dk m_Tr_isThere 13 rfl) rfl rfl ⟨by rw [b2i_f (fun z => z.2 c_13)], rfl⟩
    · refine g_iconst ok (dk m_Tr_isThere 10 rfl) (pc' := 17) rfl (v := 1) (by decide) ?_
      refine g_goto ok (dk m_Tr_isThere 11 rfl) (pc' := 21) (by decide) ?_
      exact g_iret ok (dk m_Tr_isThere 13 rfl) rfl rfl ⟨by rw [b2i_t ⟨c_1, c_13⟩], rfl⟩
end
section
/-! ===== Tree: paths, halves, leaves ===== -/
theorem q_tree.off {h h' : q_H} {u : Nat} {rc rd : Nat → Nat} {U : tr_T} {X : Nat → Prop} (hu : q_tree h u rc rd U) (ho : q_off h h' X) (h1 : ¬ X u) (h2 : ∀ i, i < 4 → ¬ X (rc i) ∧ ¬ X (rd i)) : q_tree h' u rc rd U := ⟨(ho u h1).trans hu.1, hu.2.kept (fun i hi => ⟨ho _ (h2 i hi).1, ho _ (h2 i hi).2⟩)⟩
noncomputable def T_bp (l : Int32) : Nat → Nat → tr_T → tr_T
  | 0, _, T => T
  | m + 1, k, T => T_bp l m (k + 1) (T_blank T (j_node l (nI k)))
theorem T_blank_2 (T : tr_T) (n : Int32) : (T_blank T n).2 = T.2 := rfl
set_option maxHeartbeats 1000000 in
theorem c_Tr_blankWithPath (g : q_G) {h : q_H} {t : Nat} {ra rb : Nat → Nat} {T : tr_T} (l : Int32) (d : Nat) (hd : 2 ≤ d) (hT : T.2 ≤ 4) (ht : q_tree h t ra rb T) : MG g y_Tr_blankWithPath b_Tr_blankWithPath 3 none d 0 0 [.ref t, .int l] h (fun q h' => q = .inl none ∧ q_tree h' t ra rb (T_bp l (T.2 + 1) 0 T) ∧ q_off h h' (tr_P t rb)) := by
  refine MG.of (by decide +kernel) (by simp [Value.category]) (Nat.le_of_ble_eq_true rfl) ?_
  intro Z A ok
  have loop : ∀ (m k : Nat), k + m = T.2 + 1 → ∀ (h1 : q_H) (T1 : tr_T), q_tree h1 t ra rb T1 → q_off h h1 (tr_P t rb) → T1.2 = T.2 → T_bp l m k T1 = T_bp l (T.2 + 1) 0 T → GW g Z A (fun q h' => q = .inl none ∧ q_tree h' t ra rb (T_bp l (T.2 + 1) 0 T) ∧ q_off h h' (tr_P t rb)) 0 0 h1 2 [some (.ref t), some (.int l), some (.int (nI k))] [] := by
    intro m
    induction m with
    | zero =>
      intro k hk h1 T1 h1t ho1 hD hv
      refine g_iload_n ok (dk m_Tr_blankWithPath 2 rfl) (pc' := 3) rfl (i := 2) rfl rfl ?_
      refine g_aload_n ok (dk m_Tr_blankWithPath 3 rfl) (pc' := 4) rfl (i := 0) rfl rfl ?_
      refine g_get ok (dk m_Tr_blankWithPath 4 rfl) (pc' := 7) rfl f_Tr_29 h1t.1 rfl ?_
      refine g_icmp_gt ok (dk m_Tr_blankWithPath 5 rfl) (tgt := 27) (by decide) (pc' := 10) rfl (fun c_7 => ?_) (fun c_7 => absurd (by rw [hD]; exact nI_lt (a := T.2) (b := k) (by omega) (by omega)) c_7)
      exact g_vret ok (dk m_Tr_blankWithPath 15 rfl) rfl ⟨rfl, by rw [← hv]; exact h1t, ho1⟩
    | succ m ih =>
      intro k hk h1 T1 h1t ho1 hD hv
      refine g_iload_n ok (dk m_Tr_blankWithPath 2 rfl) (pc' := 3) rfl (i := 2) rfl rfl ?_
      refine g_aload_n ok (dk m_Tr_blankWithPath 3 rfl) (pc' := 4) rfl (i := 0) rfl rfl ?_
      refine g_get ok (dk m_Tr_blankWithPath 4 rfl) (pc' := 7) rfl f_Tr_29 h1t.1 rfl ?_
      refine g_icmp_gt ok (dk m_Tr_blankWithPath 5 rfl) (tgt := 27) (by decide) (pc' := 10) rfl (fun c_7 => absurd c_7 (by rw [hD]; exact nI_nlt (a := T.2) (b := k) (by omega) (by omega))) (fun c_7 => ?_)
      refine g_aload_n ok (dk m_Tr_blankWithPath 6 rfl) (pc' := 11) rfl (i := 0) rfl rfl ?_
      refine g_iload_n ok (dk m_Tr_blankWithPath 7 rfl) (pc' := 12) rfl (i := 1) rfl rfl ?_
      refine g_iload_n ok (dk m_Tr_blankWithPath 8 rfl) (pc' := 13) rfl (i := 2) rfl rfl ?_
      refine g_callS ok (dk m_Tr_blankWithPath 9 rfl) (pc' := 16) rfl c_Tr_56 (c_Tr_nodeOver g l (nI k) 0) rfl rfl (by simp [Value.category]) (by omega) rfl (rc' := 0) (rs' := 0) (by omega) (by omega) (fun rv h' hcc => ?_) (fun i h' hcc => by obtain ⟨e, -⟩ := hcc; cases e)
      obtain ⟨e, e2⟩ := hcc
      have e3 := e2.symm
      subst e3
      cases e
      refine g_iconst ok (dk m_Tr_blankWithPath 10 rfl) (pc' := 17) rfl (v := (-1)) (by decide) ?_
      refine g_iconst ok (dk m_Tr_blankWithPath 11 rfl) (pc' := 18) rfl (v := (-1)) (by decide) ?_
      refine g_callV ok (dk m_Tr_blankWithPath 12 rfl) (pc' := 21) rfl c_Tr_48 (c_Tr_give g (j_node l (nI k)) (-1) (-1) 1 (by omega) h1t) h1t.1 rfl rfl (by simp [Value.category]) (by omega) rfl (rc' := 0) (rs' := 0) (by omega) (by omega) (fun rv h' hcc => ?_) (fun i h' hcc => by obtain ⟨e, -⟩ := hcc; cases e)
      obtain ⟨e, h2t, ho2⟩ := hcc
      cases e
      refine g_iinc ok (dk m_Tr_blankWithPath 13 rfl) (pc' := 24) rfl rfl (nI_1 k) rfl ?_
      refine g_goto ok (dk m_Tr_blankWithPath 14 rfl) (pc' := 2) (by decide) ?_
      exact ih (k + 1) (by omega) _ _ h2t (ho1.tr ho2) hD (by rw [← hv]; rfl)
  refine g_iconst ok (dk m_Tr_blankWithPath 0 rfl) (pc' := 1) rfl (v := 0) (by decide) ?_
  refine g_istore_n ok (dk m_Tr_blankWithPath 1 rfl) (pc' := 2) rfl (i := 2) rfl (Nat.le_of_ble_eq_true rfl) rfl ?_
  exact loop (T.2 + 1) 0 (by omega) h T ht q_off.rf rfl rfl
theorem T_bp_2 (l : Int32) : ∀ (m k : Nat) (T : tr_T), (T_bp l m k T).2 = T.2 := by
  intro m
  induction m with
  | zero => intro k T; rfl
  | succ m ih => intro k T; exact ih (k + 1) (T_blank T (j_node l (nI k)))
noncomputable def T_path (T : tr_T) (l : Int32) : tr_T := T_bp l (T.2 + 1) 0 T
noncomputable def T_vac (T : tr_T) (l : Int32) : tr_T := T_path (va_up T.1 3 (r_put (tr_len 3) (T.1 3) l (-1)), T.2) l
noncomputable def T_ren (T : tr_T) (l k e : Int32) : tr_T := T_give (T_path T l) (j_node l 0) k e
set_option maxHeartbeats 1000000 in
theorem c_Tr_vacate (g : q_G) {h : q_H} {t : Nat} {ra rb : Nat → Nat} {T : tr_T} (l : Int32) (d : Nat) (hd : 3 ≤ d) (hT : T.2 ≤ 4) (ht : q_tree h t ra rb T) : MG g y_Tr_vacate b_Tr_vacate 2 none d 0 0 [.ref t, .int l] h (fun q h' => q = .inl none ∧ q_tree h' t ra rb (T_vac T l) ∧ q_off h h' (tr_P t rb)) := by
  refine MG.of (by decide +kernel) (by simp [Value.category]) (Nat.le_of_ble_eq_true rfl) ?_
  intro Z A ok
  refine g_aload_n ok (dk m_Tr_vacate 0 rfl) (pc' := 1) rfl (i := 0) rfl rfl ?_
  refine g_get ok (dk m_Tr_vacate 1 rfl) (pc' := 4) rfl f_Tr_26 ht.1 rfl ?_
  refine g_iload_n ok (dk m_Tr_vacate 2 rfl) (pc' := 5) rfl (i := 1) rfl rfl ?_
  refine g_iconst ok (dk m_Tr_vacate 3 rfl) (pc' := 6) rfl (v := (-1)) (by decide) ?_
  refine g_callV ok (dk m_Tr_vacate 4 rfl) (pc' := 9) rfl c_Tr_45 (c_Row_put g l (-1) 0 (ht.2.1 3 (by decide)).1 (ht.2.1 3 (by decide)).2 (tr_len_lt _)) (ht.2.1 3 (by decide)).1 rfl rfl (by simp [Value.category]) (by omega) rfl (rc' := 0) (rs' := 0) (by omega) (by omega) (fun rv h' hcc => ?_) (fun i h' hcc => by obtain ⟨e, -⟩ := hcc; cases e)
  obtain ⟨e, e2⟩ := hcc
  cases e
  have h1t := ht.putE 3 (by decide) e2
  have ho1 := q_off.upE (q_off.rf (X := tr_P t rb)) (Or.inr ⟨3, by decide, rfl⟩) e2
  clear e2
  refine g_aload_n ok (dk m_Tr_vacate 5 rfl) (pc' := 10) rfl (i := 0) rfl rfl ?_
  refine g_iload_n ok (dk m_Tr_vacate 6 rfl) (pc' := 11) rfl (i := 1) rfl rfl ?_
  refine g_callV ok (dk m_Tr_vacate 7 rfl) (pc' := 14) rfl c_Tr_52 (c_Tr_blankWithPath (T := (va_up T.1 3 (r_put (tr_len 3) (T.1 3) l (-1)), T.2)) g l 2 (by omega) hT h1t) h1t.1 rfl rfl (by simp [Value.category]) (by omega) rfl (rc' := 0) (rs' := 0) (by omega) (by omega) (fun rv h' hcc => ?_) (fun i h' hcc => by obtain ⟨e, -⟩ := hcc; cases e)
  obtain ⟨e, h2t, ho2⟩ := hcc
  cases e
  exact g_vret ok (dk m_Tr_vacate 8 rfl) rfl ⟨rfl, h2t, ho1.tr ho2⟩
set_option maxHeartbeats 1000000 in
theorem c_Tr_renew (g : q_G) {h : q_H} {t : Nat} {ra rb : Nat → Nat} {T : tr_T} (l k e : Int32) (d : Nat) (hd : 3 ≤ d) (hT : T.2 ≤ 4) (ht : q_tree h t ra rb T) : MG g y_Tr_renew b_Tr_renew 4 none d 0 0 [.ref t, .int l, .int k, .int e] h (fun q h' => q = .inl none ∧ q_tree h' t ra rb (T_ren T l k e) ∧ q_off h h' (tr_P t rb)) := by
  refine MG.of (by decide +kernel) (by simp [Value.category]) (Nat.le_of_ble_eq_true rfl) ?_
  intro Z A ok
  refine g_aload_n ok (dk m_Tr_renew 0 rfl) (pc' := 1) rfl (i := 0) rfl rfl ?_
  refine g_iload_n ok (dk m_Tr_renew 1 rfl) (pc' := 2) rfl (i := 1) rfl rfl ?_
  refine g_callV ok (dk m_Tr_renew 2 rfl) (pc' := 5) rfl c_Tr_52 (c_Tr_blankWithPath g l 2 (by omega) hT ht) ht.1 rfl rfl (by simp [Value.category]) (by omega) rfl (rc' := 0) (rs' := 0) (by omega) (by omega) (fun rv h' hcc => ?_) (fun i h' hcc => by obtain ⟨e, -⟩ := hcc; cases e)
  obtain ⟨e9, h1t, ho1⟩ := hcc
  cases e9
  refine g_aload_n ok (dk m_Tr_renew 3 rfl) (pc' := 6) rfl (i := 0) rfl rfl ?_
  refine g_iload_n ok (dk m_Tr_renew 4 rfl) (pc' := 7) rfl (i := 1) rfl rfl ?_
  refine g_iconst ok (dk m_Tr_renew 5 rfl) (pc' := 8) rfl (v := 0) (by decide) ?_
  refine g_callS ok (dk m_Tr_renew 6 rfl) (pc' := 11) rfl c_Tr_56 (c_Tr_nodeOver g l 0 0) rfl rfl (by simp [Value.category]) (by omega) rfl (rc' := 0) (rs' := 0) (by omega) (by omega) (fun rv h' hcc => ?_) (fun i h' hcc => by obtain ⟨e, -⟩ := hcc; cases e)
  obtain ⟨e9, e2⟩ := hcc
  have e3 := e2.symm
  subst e3
  cases e9
  refine g_iload_n ok (dk m_Tr_renew 7 rfl) (pc' := 12) rfl (i := 2) rfl rfl ?_
  refine g_iload_n ok (dk m_Tr_renew 8 rfl) (pc' := 13) rfl (i := 3) rfl rfl ?_
  refine g_callV ok (dk m_Tr_renew 9 rfl) (pc' := 16) rfl c_Tr_48 (c_Tr_give g (j_node l 0) k e 1 (by omega) h1t) h1t.1 rfl rfl (by simp [Value.category]) (by omega) rfl (rc' := 0) (rs' := 0) (by omega) (by omega) (fun rv h' hcc => ?_) (fun i h' hcc => by obtain ⟨e, -⟩ := hcc; cases e)
  obtain ⟨e9, h2t, ho2⟩ := hcc
  cases e9
  exact g_vret ok (dk m_Tr_renew 10 rfl) rfl ⟨rfl, h2t, ho1.tr ho2⟩
theorem j_shl : ∀ D, D ≤ 4 → (1 : Int32) <<< (nI D &&& 31) = nI (2 ^ D) := by decide +kernel
theorem j_shl1 : ∀ D, D ≤ 4 → 1 ≤ D → (1 : Int32) <<< ((nI D - 1) &&& 31) = nI (2 ^ (D - 1)) := by decide +kernel
theorem j_shm : ∀ D, D ≤ 4 → (1 : Int32) <<< (nI D &&& 31) - 1 = nI (2 ^ D - 1) := by decide +kernel
def T_rhb (T : tr_T) : Prop := ∀ j, 2 ^ (T.2 - 1) ≤ j → j < 2 ^ T.2 → T_isB T (j_node (nI j) 0)
set_option maxHeartbeats 1000000 in
theorem c_Tr_isRightHalfBlank (g : q_G) {h : q_H} {t : Nat} {ra rb : Nat → Nat} {T : tr_T} (d : Nat) (hd : 2 ≤ d) (hT : T.2 ≤ 4) (hT1 : 1 ≤ T.2) (ht : q_tree h t ra rb T) : MG g y_Tr_isRightHalfBlank b_Tr_isRightHalfBlank 2 (some .boolean) d 0 0 [.ref t] h (fun q h' => q = .inl (some (.int (b2i (T_rhb T)))) ∧ h' = h) := by
  refine MG.of (by decide +kernel) (by simp [Value.category]) (Nat.le_of_ble_eq_true rfl) ?_
  intro Z A ok
  have hp1 : 2 ^ T.2 ≤ 16 := Nat.pow_le_pow_right (by decide) hT
  have hp2 : 2 ^ (T.2 - 1) ≤ 2 ^ T.2 := Nat.pow_le_pow_right (by decide) (by omega)
  have loop : ∀ (m k : Nat), k + m = 2 ^ T.2 → 2 ^ (T.2 - 1) ≤ k → (∀ j, 2 ^ (T.2 - 1) ≤ j → j < k → T_isB T (j_node (nI j) 0)) → GW g Z A (fun q h' => q = .inl (some (.int (b2i (T_rhb T)))) ∧ h' = h) 0 0 h 9 [some (.ref t), some (.int (nI k))] [] := by
    intro m
    induction m with
    | zero =>
      intro k hk hk1 hv
      refine g_iload_n ok (dk m_Tr_isRightHalfBlank 7 rfl) (pc' := 10) rfl (i := 1) rfl rfl ?_
      refine g_iconst ok (dk m_Tr_isRightHalfBlank 8 rfl) (pc' := 11) rfl (v := 1) (by decide) ?_
      refine g_aload_n ok (dk m_Tr_isRightHalfBlank 9 rfl) (pc' := 12) rfl (i := 0) rfl rfl ?_
      refine g_get ok (dk m_Tr_isRightHalfBlank 10 rfl) (pc' := 15) rfl f_Tr_29 ht.1 rfl ?_
      refine g_ishl ok (dk m_Tr_isRightHalfBlank 11 rfl) (pc' := 16) rfl ?_
      refine g_top (w := .int (nI (2 ^ T.2))) (by rw [j_shl T.2 hT]) ?_
      refine g_icmp_ge ok (dk m_Tr_isRightHalfBlank 12 rfl) (tgt := 39) (by decide) (pc' := 19) rfl (fun c_16 => ?_) (fun c_16 => absurd (nI_le (a := 2 ^ T.2) (b := k) (by omega) (by omega)) c_16)
      refine g_iconst ok (dk m_Tr_isRightHalfBlank 23 rfl) (pc' := 40) rfl (v := 1) (by decide) ?_
      exact g_iret ok (dk m_Tr_isRightHalfBlank 24 rfl) rfl rfl ⟨by rw [b2i_t (p := T_rhb T) (fun j h1 h2 => hv j h1 (by omega))], rfl⟩
    | succ m ih =>
      intro k hk hk1 hv
      refine g_iload_n ok (dk m_Tr_isRightHalfBlank 7 rfl) (pc' := 10) rfl (i := 1) rfl rfl ?_
      refine g_iconst ok (dk m_Tr_isRightHalfBlank 8 rfl) (pc' := 11) rfl (v := 1) (by decide) ?_
      refine g_aload_n ok (dk m_Tr_isRightHalfBlank 9 rfl) (pc' := 12) rfl (i := 0) rfl rfl ?_
      refine g_get ok (dk m_Tr_isRightHalfBlank 10 rfl) (pc' := 15) rfl f_Tr_29 ht.1 rfl ?_
      refine g_ishl ok (dk m_Tr_isRightHalfBlank 11 rfl) (pc' := 16) rfl ?_
      refine g_top (w := .int (nI (2 ^ T.2))) (by rw [j_shl T.2 hT]) ?_
      refine g_icmp_ge ok (dk m_Tr_isRightHalfBlank 12 rfl) (tgt := 39) (by decide) (pc' := 19) rfl (fun c_16 => absurd c_16 (nI_ge (a := k) (b := 2 ^ T.2) (by omega) (by omega))) (fun c_16 => ?_)
      refine g_aload_n ok (dk m_Tr_isRightHalfBlank 13 rfl) (pc' := 20) rfl (i := 0) rfl rfl ?_
      refine g_iload_n ok (dk m_Tr_isRightHalfBlank 14 rfl) (pc' := 21) rfl (i := 1) rfl rfl ?_
      refine g_iconst ok (dk m_Tr_isRightHalfBlank 15 rfl) (pc' := 22) rfl (v := 0) (by decide) ?_
      refine g_callS ok (dk m_Tr_isRightHalfBlank 16 rfl) (pc' := 25) rfl c_Tr_56 (c_Tr_nodeOver g (nI k) 0 0) rfl rfl (by simp [Value.category]) (by omega) rfl (rc' := 0) (rs' := 0) (by omega) (by omega) (fun rv h' hcc => ?_) (fun i h' hcc => by obtain ⟨e, -⟩ := hcc; cases e)
      obtain ⟨e, e2⟩ := hcc
      have e3 := e2.symm
      subst e3
      cases e
      refine g_callV ok (dk m_Tr_isRightHalfBlank 17 rfl) (pc' := 28) rfl c_Tr_67 (c_Tr_isBlank g (j_node (nI k) 0) 1 (by omega) ht) ht.1 rfl rfl (by simp [Value.category]) (by omega) rfl (rc' := 0) (rs' := 0) (by omega) (by omega) (fun rv h' hcc => ?_) (fun i h' hcc => by obtain ⟨e, -⟩ := hcc; cases e)
      obtain ⟨e, e2⟩ := hcc
      have e3 := e2.symm
      subst e3
      cases e
      refine g_if_ne ok (dk m_Tr_isRightHalfBlank 18 rfl) (tgt := 33) (by decide) (pc' := 31) rfl (fun c_28 => ?_) (fun c_28 => ?_)
      · refine g_iinc ok (dk m_Tr_isRightHalfBlank 21 rfl) (pc' := 36) rfl rfl (nI_1 k) rfl ?_
        refine g_goto ok (dk m_Tr_isRightHalfBlank 22 rfl) (pc' := 9) (by decide) ?_
        exact ih (k + 1) (by omega) (by omega) (fun j h1 h2 => by rcases Nat.lt_or_ge j k with e | e; exact hv j h1 e; rw [show j = k by omega]; exact b2i_n c_28)
      · refine g_iconst ok (dk m_Tr_isRightHalfBlank 19 rfl) (pc' := 32) rfl (v := 0) (by decide) ?_
        exact g_iret ok (dk m_Tr_isRightHalfBlank 20 rfl) rfl rfl ⟨by rw [b2i_f (p := T_rhb T) (fun z => b2i_0 c_28 (z k hk1 (by omega)))], rfl⟩
  refine g_iconst ok (dk m_Tr_isRightHalfBlank 0 rfl) (pc' := 1) rfl (v := 1) (by decide) ?_
  refine g_aload_n ok (dk m_Tr_isRightHalfBlank 1 rfl) (pc' := 2) rfl (i := 0) rfl rfl ?_
  refine g_get ok (dk m_Tr_isRightHalfBlank 2 rfl) (pc' := 5) rfl f_Tr_29 ht.1 rfl ?_
  refine g_iconst ok (dk m_Tr_isRightHalfBlank 3 rfl) (pc' := 6) rfl (v := 1) (by decide) ?_
  refine g_isub ok (dk m_Tr_isRightHalfBlank 4 rfl) (pc' := 7) rfl ?_
  refine g_ishl ok (dk m_Tr_isRightHalfBlank 5 rfl) (pc' := 8) rfl ?_
  refine g_top (w := .int (nI (2 ^ (T.2 - 1)))) (by rw [j_shl1 T.2 hT hT1]) ?_
  refine g_istore_n ok (dk m_Tr_isRightHalfBlank 6 rfl) (pc' := 9) rfl (i := 1) rfl (Nat.le_of_ble_eq_true rfl) rfl ?_
  exact loop (2 ^ T.2 - 2 ^ (T.2 - 1)) (2 ^ (T.2 - 1)) (by omega) (Nat.le_refl _) (fun j h1 h2 => by omega)
noncomputable def T_shr : Nat → tr_T → tr_T
  | 0, T => T
  | m + 1, T => by classical exact if 0 < T.2 ∧ T_rhb T then T_shr m ((T_blank T (nI (2 ^ T.2 - 1))).1, T.2 - 1) else T
set_option maxHeartbeats 1000000 in
theorem c_Tr_shrink (g : q_G) {h : q_H} {t : Nat} {ra rb : Nat → Nat} {T : tr_T} (d : Nat) (hd : 3 ≤ d) (hT : T.2 ≤ 4) (ht : q_tree h t ra rb T) : MG g y_Tr_shrink b_Tr_shrink 1 none d 0 0 [.ref t] h (fun q h' => q = .inl none ∧ q_tree h' t ra rb (T_shr 5 T) ∧ q_off h h' (tr_P t rb)) := by
  refine MG.of (by decide +kernel) (by simp [Value.category]) (Nat.le_of_ble_eq_true rfl) ?_
  intro Z A ok
  have loop : ∀ (m : Nat), m ≤ 5 → ∀ (h1 : q_H) (T1 : tr_T), q_tree h1 t ra rb T1 → q_off h h1 (tr_P t rb) → T1.2 ≤ 4 → T1.2 < m → T_shr m T1 = T_shr 5 T → GW g Z A (fun q h' => q = .inl none ∧ q_tree h' t ra rb (T_shr 5 T) ∧ q_off h h' (tr_P t rb)) 0 0 h1 0 [some (.ref t)] [] := by
    intro m
    induction m with
    | zero =>
      intro _ h1 T1 _ _ _ hlt
      omega
    | succ m ih =>
      intro hm h1 T1 h1t ho1 hD hlt hv
      refine g_aload_n ok (dk m_Tr_shrink 0 rfl) (pc' := 1) rfl (i := 0) rfl rfl ?_
      refine g_get ok (dk m_Tr_shrink 1 rfl) (pc' := 4) rfl f_Tr_29 h1t.1 rfl ?_
      refine g_if_le ok (dk m_Tr_shrink 2 rfl) (tgt := 39) (by decide) (pc' := 7) rfl (fun c_4 => ?_) (fun c_4 => ?_)
      · exact g_vret ok (dk m_Tr_shrink 21 rfl) rfl ⟨rfl, by rw [← hv, T_shr, if_neg (fun y => by have h9 := (nI_leI (a := T1.2) (b := 0) (by omega) (by decide)).mp c_4; omega)]; exact h1t, ho1⟩
      · have hpos : 1 ≤ T1.2 := by
          rcases Nat.eq_zero_or_pos T1.2 with e | e
          · exact absurd (by rw [e]; decide) c_4
          · exact e
        refine g_aload_n ok (dk m_Tr_shrink 3 rfl) (pc' := 8) rfl (i := 0) rfl rfl ?_
        refine g_callV ok (dk m_Tr_shrink 4 rfl) (pc' := 11) rfl c_Tr_60 (c_Tr_isRightHalfBlank g 2 (by omega) hD hpos h1t) h1t.1 rfl rfl (by simp [Value.category]) (by omega) rfl (rc' := 0) (rs' := 0) (by omega) (by omega) (fun rv h' hcc => ?_) (fun i h' hcc => by obtain ⟨e, -⟩ := hcc; cases e)
        obtain ⟨e, e2⟩ := hcc
        have e3 := e2.symm
        subst e3
        cases e
        refine g_if_eq ok (dk m_Tr_shrink 5 rfl) (tgt := 39) (by decide) (pc' := 14) rfl (fun c_11 => ?_) (fun c_11 => ?_)
        · exact g_vret ok (dk m_Tr_shrink 21 rfl) rfl ⟨rfl, by rw [← hv, T_shr, if_neg (fun y => b2i_0 c_11 y.2)]; exact h1t, ho1⟩
        · refine g_aload_n ok (dk m_Tr_shrink 6 rfl) (pc' := 15) rfl (i := 0) rfl rfl ?_
          refine g_iconst ok (dk m_Tr_shrink 7 rfl) (pc' := 16) rfl (v := 1) (by decide) ?_
          refine g_aload_n ok (dk m_Tr_shrink 8 rfl) (pc' := 17) rfl (i := 0) rfl rfl ?_
          refine g_get ok (dk m_Tr_shrink 9 rfl) (pc' := 20) rfl f_Tr_29 h1t.1 rfl ?_
          refine g_ishl ok (dk m_Tr_shrink 10 rfl) (pc' := 21) rfl ?_
          refine g_iconst ok (dk m_Tr_shrink 11 rfl) (pc' := 22) rfl (v := 1) (by decide) ?_
          refine g_isub ok (dk m_Tr_shrink 12 rfl) (pc' := 23) rfl ?_
          refine g_top (w := .int (nI (2 ^ T1.2 - 1))) (by rw [j_shm T1.2 hD]) ?_
          refine g_callV ok (dk m_Tr_shrink 13 rfl) (pc' := 26) rfl c_Tr_64 (c_Tr_blank g (nI (2 ^ T1.2 - 1)) 2 (by omega) h1t) h1t.1 rfl rfl (by simp [Value.category]) (by omega) rfl (rc' := 0) (rs' := 0) (by omega) (by omega) (fun rv h' hcc => ?_) (fun i h' hcc => by obtain ⟨e, -⟩ := hcc; cases e)
          obtain ⟨e, h2t, ho2⟩ := hcc
          cases e
          refine g_aload_n ok (dk m_Tr_shrink 14 rfl) (pc' := 27) rfl (i := 0) rfl rfl ?_
          refine g_dup ok (dk m_Tr_shrink 15 rfl) (pc' := 28) rfl rfl ?_
          refine g_get ok (dk m_Tr_shrink 16 rfl) (pc' := 31) rfl f_Tr_29 h2t.1 rfl ?_
          refine g_iconst ok (dk m_Tr_shrink 17 rfl) (pc' := 32) rfl (v := 1) (by decide) ?_
          refine g_isub ok (dk m_Tr_shrink 18 rfl) (pc' := 33) rfl ?_
          refine g_top (w := .int (nI (T1.2 - 1))) (by show Value.int (nI T1.2 - 1) = _; have := pk_sub (a := T1.2) (b := 1) hpos; exact congrArg Value.int this) ?_
          refine g_put ok (dk m_Tr_shrink 19 rfl) (pc' := 36) rfl f_Tr_29 (Or.inl rfl) h2t.1 (Nat.le_of_ble_eq_true rfl) rfl rfl ?_
          refine g_gen (fun h3 e3 => ?_)
          have h3t := h2t.depE e3
          have ho3 := q_off.upE (ho1.tr ho2) (show tr_P t rb t from Or.inl rfl) e3
          clear e3
          refine g_goto ok (dk m_Tr_shrink 20 rfl) (pc' := 0) (by decide) ?_
          exact ih (by omega) h3 _ h3t ho3 (by show T1.2 - 1 ≤ 4; omega) (by show T1.2 - 1 < m; omega) (by rw [← hv, T_shr, if_pos ⟨hpos, b2i_n c_11⟩])
  exact loop 5 (Nat.le_refl 5) h T ht q_off.rf hT (by omega) rfl
end
section
/-! ===== Tree: seats, resolutions, copies ===== -/
def T_seats (T : tr_T) (m : Int32) : Prop := ∃ l, l < 16 ∧ r_get (tr_len 3) (T.1 3) (nI l) = m
noncomputable def T_low (T : tr_T) : Nat → Nat → Int32
  | 0, _ => -1
  | m + 1, k => by classical exact if T_isB T (j_node (nI k) 0) then nI k else T_low T m (k + 1)
set_option maxHeartbeats 1000000 in
theorem c_Tr_seats (g : q_G) {h : q_H} {t : Nat} {ra rb : Nat → Nat} {T : tr_T} (mm : Int32) (d : Nat) (hd : 1 ≤ d) (ht : q_tree h t ra rb T) : MG g y_Tr_seats b_Tr_seats 3 (some .boolean) d 0 0 [.ref t, .int mm] h (fun q h' => q = .inl (some (.int (b2i (T_seats T mm)))) ∧ h' = h) := by
  refine MG.of (by decide +kernel) (by simp [Value.category]) (Nat.le_of_ble_eq_true rfl) ?_
  intro Z A ok
  have loop : ∀ (m k : Nat), k + m = 16 → (∀ l, l < k → ¬ r_get (tr_len 3) (T.1 3) (nI l) = mm) → GW g Z A (fun q h' => q = .inl (some (.int (b2i (T_seats T mm)))) ∧ h' = h) 0 0 h 2 [some (.ref t), some (.int mm), some (.int (nI k))] [] := by
    intro m
    induction m with
    | zero =>
      intro k hk hv
      refine g_iload_n ok (dk m_Tr_seats 2 rfl) (pc' := 3) rfl (i := 2) rfl rfl ?_
      refine g_bipush ok (dk m_Tr_seats 3 rfl) (pc' := 5) rfl (v := 16) (by decide) ?_
      refine g_icmp_ge ok (dk m_Tr_seats 4 rfl) (tgt := 28) (by decide) (pc' := 8) rfl (fun c_5 => ?_) (fun c_5 => absurd (show (16 : Int32) ≤ nI k from by rw [show k = 16 by omega]; decide) c_5)
      refine g_iconst ok (dk m_Tr_seats 15 rfl) (pc' := 29) rfl (v := 0) (by decide) ?_
      exact g_iret ok (dk m_Tr_seats 16 rfl) rfl rfl ⟨by rw [b2i_f (p := T_seats T mm) (fun z => by obtain ⟨l, hl, e⟩ := z; exact hv l (by omega) e)], rfl⟩
    | succ m ih =>
      intro k hk hv
      refine g_iload_n ok (dk m_Tr_seats 2 rfl) (pc' := 3) rfl (i := 2) rfl rfl ?_
      refine g_bipush ok (dk m_Tr_seats 3 rfl) (pc' := 5) rfl (v := 16) (by decide) ?_
      refine g_icmp_ge ok (dk m_Tr_seats 4 rfl) (tgt := 28) (by decide) (pc' := 8) rfl (fun c_5 => absurd c_5 (show ¬ nI 16 ≤ nI k from nI_ge (by omega) (by decide))) (fun c_5 => ?_)
      refine g_aload_n ok (dk m_Tr_seats 5 rfl) (pc' := 9) rfl (i := 0) rfl rfl ?_
      refine g_get ok (dk m_Tr_seats 6 rfl) (pc' := 12) rfl f_Tr_26 ht.1 rfl ?_
      refine g_iload_n ok (dk m_Tr_seats 7 rfl) (pc' := 13) rfl (i := 2) rfl rfl ?_
      refine g_callV ok (dk m_Tr_seats 8 rfl) (pc' := 16) rfl c_Tr_41 (c_Row_get g (nI k) 0 (ht.2.1 3 (by decide)).1 (ht.2.1 3 (by decide)).2 (tr_len_lt _)) (ht.2.1 3 (by decide)).1 rfl rfl (by simp [Value.category]) (by omega) rfl (rc' := 0) (rs' := 0) (by omega) (by omega) (fun rv h' hcc => ?_) (fun i h' hcc => by obtain ⟨e, -⟩ := hcc; cases e)
      obtain ⟨e, e2⟩ := hcc
      have e3 := e2.symm
      subst e3
      cases e
      refine g_iload_n ok (dk m_Tr_seats 9 rfl) (pc' := 17) rfl (i := 1) rfl rfl ?_
      refine g_icmp_ne ok (dk m_Tr_seats 10 rfl) (tgt := 22) (by decide) (pc' := 20) rfl (fun c_17 => ?_) (fun c_17 => ?_)
      · refine g_iinc ok (dk m_Tr_seats 13 rfl) (pc' := 25) rfl rfl (nI_1 k) rfl ?_
        refine g_goto ok (dk m_Tr_seats 14 rfl) (pc' := 2) (by decide) ?_
        exact ih (k + 1) (by omega) (fun l hl e => by rcases Nat.lt_or_ge l k with q | q; exact hv l q e; exact c_17 (by rw [show k = l by omega]; exact e))
      · refine g_iconst ok (dk m_Tr_seats 11 rfl) (pc' := 21) rfl (v := 1) (by decide) ?_
        exact g_iret ok (dk m_Tr_seats 12 rfl) rfl rfl ⟨by rw [b2i_t (p := T_seats T mm) ⟨k, by omega, c_17⟩], rfl⟩
  refine g_iconst ok (dk m_Tr_seats 0 rfl) (pc' := 1) rfl (v := 0) (by decide) ?_
  refine g_istore_n ok (dk m_Tr_seats 1 rfl) (pc' := 2) rfl (i := 2) rfl (Nat.le_of_ble_eq_true rfl) rfl ?_
  exact loop 16 0 (by omega) (fun l hl => by omega)
set_option maxHeartbeats 1000000 in
theorem c_Tr_lowestFreeLeaf (g : q_G) {h : q_H} {t : Nat} {ra rb : Nat → Nat} {T : tr_T} (d : Nat) (hd : 2 ≤ d) (ht : q_tree h t ra rb T) : MG g y_Tr_lowestFreeLeaf b_Tr_lowestFreeLeaf 2 (some .int) d 0 0 [.ref t] h (fun q h' => q = .inl (some (.int (T_low T 16 0))) ∧ h' = h) := by
  refine MG.of (by decide +kernel) (by simp [Value.category]) (Nat.le_of_ble_eq_true rfl) ?_
  intro Z A ok
  have loop : ∀ (m k : Nat), k + m = 16 → T_low T m k = T_low T 16 0 → GW g Z A (fun q h' => q = .inl (some (.int (T_low T 16 0))) ∧ h' = h) 0 0 h 2 [some (.ref t), some (.int (nI k))] [] := by
    intro m
    induction m with
    | zero =>
      intro k hk hv
      refine g_iload_n ok (dk m_Tr_lowestFreeLeaf 2 rfl) (pc' := 3) rfl (i := 1) rfl rfl ?_
      refine g_bipush ok (dk m_Tr_lowestFreeLeaf 3 rfl) (pc' := 5) rfl (v := 16) (by decide) ?_
      refine g_icmp_ge ok (dk m_Tr_lowestFreeLeaf 4 rfl) (tgt := 28) (by decide) (pc' := 8) rfl (fun c_5 => ?_) (fun c_5 => absurd (show (16 : Int32) ≤ nI k from by rw [show k = 16 by omega]; decide) c_5)
      refine g_iconst ok (dk m_Tr_lowestFreeLeaf 15 rfl) (pc' := 29) rfl (v := (-1)) (by decide) ?_
      exact g_iret ok (dk m_Tr_lowestFreeLeaf 16 rfl) rfl rfl ⟨by rw [← hv]; rfl, rfl⟩
    | succ m ih =>
      intro k hk hv
      refine g_iload_n ok (dk m_Tr_lowestFreeLeaf 2 rfl) (pc' := 3) rfl (i := 1) rfl rfl ?_
      refine g_bipush ok (dk m_Tr_lowestFreeLeaf 3 rfl) (pc' := 5) rfl (v := 16) (by decide) ?_
      refine g_icmp_ge ok (dk m_Tr_lowestFreeLeaf 4 rfl) (tgt := 28) (by decide) (pc' := 8) rfl (fun c_5 => absurd c_5 (show ¬ nI 16 ≤ nI k from nI_ge (by omega) (by decide))) (fun c_5 => ?_)
      refine g_aload_n ok (dk m_Tr_lowestFreeLeaf 5 rfl) (pc' := 9) rfl (i := 0) rfl rfl ?_
      refine g_iload_n ok (dk m_Tr_lowestFreeLeaf 6 rfl) (pc' := 10) rfl (i := 1) rfl rfl ?_
      refine g_iconst ok (dk m_Tr_lowestFreeLeaf 7 rfl) (pc' := 11) rfl (v := 0) (by decide) ?_
      refine g_callS ok (dk m_Tr_lowestFreeLeaf 8 rfl) (pc' := 14) rfl c_Tr_56 (c_Tr_nodeOver g (nI k) 0 0) rfl rfl (by simp [Value.category]) (by omega) rfl (rc' := 0) (rs' := 0) (by omega) (by omega) (fun rv h' hcc => ?_) (fun i h' hcc => by obtain ⟨e, -⟩ := hcc; cases e)
      obtain ⟨e, e2⟩ := hcc
      have e3 := e2.symm
      subst e3
      cases e
      refine g_callV ok (dk m_Tr_lowestFreeLeaf 9 rfl) (pc' := 17) rfl c_Tr_67 (c_Tr_isBlank g (j_node (nI k) 0) 1 (by omega) ht) ht.1 rfl rfl (by simp [Value.category]) (by omega) rfl (rc' := 0) (rs' := 0) (by omega) (by omega) (fun rv h' hcc => ?_) (fun i h' hcc => by obtain ⟨e, -⟩ := hcc; cases e)
      obtain ⟨e, e2⟩ := hcc
      have e3 := e2.symm
      subst e3
      cases e
      refine g_if_eq ok (dk m_Tr_lowestFreeLeaf 10 rfl) (tgt := 22) (by decide) (pc' := 20) rfl (fun c_17 => ?_) (fun c_17 => ?_)
      · refine g_iinc ok (dk m_Tr_lowestFreeLeaf 13 rfl) (pc' := 25) rfl rfl (nI_1 k) rfl ?_
        refine g_goto ok (dk m_Tr_lowestFreeLeaf 14 rfl) (pc' := 2) (by decide) ?_
        exact ih (k + 1) (by omega) (by rw [← hv, T_low, if_neg (b2i_0 c_17)])
      · refine g_iload_n ok (dk m_Tr_lowestFreeLeaf 11 rfl) (pc' := 21) rfl (i := 1) rfl rfl ?_
        exact g_iret ok (dk m_Tr_lowestFreeLeaf 12 rfl) rfl rfl ⟨by rw [← hv, T_low, if_pos (b2i_n c_17)], rfl⟩
  refine g_iconst ok (dk m_Tr_lowestFreeLeaf 0 rfl) (pc' := 1) rfl (v := 0) (by decide) ?_
  refine g_istore_n ok (dk m_Tr_lowestFreeLeaf 1 rfl) (pc' := 2) rfl (i := 1) rfl (Nat.le_of_ble_eq_true rfl) rfl ?_
  exact loop 16 0 (by omega) rfl
noncomputable def T_own (T : tr_T) (n : Int32) : Int32 := ((1 : Int32) <<< (n &&& 31)) ||| j_nl (r_get (tr_len 1) (T.1 1) n) 16 0 0
noncomputable def T_res (T : tr_T) : Nat → Int32 → Int32
  | 0, n => by classical exact if T_isB T n then 0 else T_own T n
  | k + 1, n => by classical exact if T_isB T n then T_res T k (n - ((1 : Int32) <<< (nI k &&& 31))) ||| T_res T k (n + ((1 : Int32) <<< (nI k &&& 31))) else T_own T n
set_option maxHeartbeats 1000000 in
theorem c_Tr_resolutionFrom (g : q_G) {h : q_H} {t : Nat} {ra rb : Nat → Nat} {T : tr_T} (ht : q_tree h t ra rb T) : ∀ (k : Nat) (n : Int32), k ≤ 4 → ∀ d, k + 1 ≤ d → MG g y_Tr_resolutionFrom b_Tr_resolutionFrom 5 (some .int) d 0 0 [.ref t, .int n, .int (nI k)] h (fun q h' => q = .inl (some (.int (T_res T k n))) ∧ h' = h) := by
  intro k
  induction k with
  | zero =>
    intro n hk d hd
    refine MG.of (by decide +kernel) (by simp [Value.category]) (Nat.le_of_ble_eq_true rfl) ?_
    intro Z A ok
    refine g_aload_n ok (dk m_Tr_resolutionFrom 0 rfl) (pc' := 1) rfl (i := 0) rfl rfl ?_
    refine g_get ok (dk m_Tr_resolutionFrom 1 rfl) (pc' := 4) rfl f_Tr_14 ht.1 rfl ?_
    refine g_iload_n ok (dk m_Tr_resolutionFrom 2 rfl) (pc' := 5) rfl (i := 1) rfl rfl ?_
    refine g_callV ok (dk m_Tr_resolutionFrom 3 rfl) (pc' := 8) rfl c_Tr_41 (c_Row_get g n 0 (ht.2.1 0 (by decide)).1 (ht.2.1 0 (by decide)).2 (tr_len_lt _)) (ht.2.1 0 (by decide)).1 rfl rfl (by simp [Value.category]) (by omega) rfl (rc' := 0) (rs' := 0) (by omega) (by omega) (fun rv h' hcc => ?_) (fun i h' hcc => by obtain ⟨e, -⟩ := hcc; cases e)
    obtain ⟨e, e2⟩ := hcc
    have e3 := e2.symm
    subst e3
    cases e
    refine g_iconst ok (dk m_Tr_resolutionFrom 4 rfl) (pc' := 9) rfl (v := (-1)) (by decide) ?_
    refine g_icmp_eq ok (dk m_Tr_resolutionFrom 5 rfl) (tgt := 28) (by decide) (pc' := 12) rfl (fun c_9 => ?_) (fun c_9 => ?_)
    · refine g_iload_n ok (dk m_Tr_resolutionFrom 16 rfl) (pc' := 29) rfl (i := 2) rfl rfl ?_
      refine g_if_gt ok (dk m_Tr_resolutionFrom 17 rfl) (tgt := 34) (by decide) (pc' := 32) rfl (fun c_29 => absurd c_29 (show ¬ (0 : Int32) < nI 0 by decide)) (fun c_29 => ?_)
      refine g_iconst ok (dk m_Tr_resolutionFrom 18 rfl) (pc' := 33) rfl (v := 0) (by decide) ?_
      exact g_iret ok (dk m_Tr_resolutionFrom 19 rfl) rfl rfl ⟨by rw [T_res, if_pos (show T_isB T n from c_9)], rfl⟩
    · refine g_iconst ok (dk m_Tr_resolutionFrom 6 rfl) (pc' := 13) rfl (v := 1) (by decide) ?_
      refine g_iload_n ok (dk m_Tr_resolutionFrom 7 rfl) (pc' := 14) rfl (i := 1) rfl rfl ?_
      refine g_ishl ok (dk m_Tr_resolutionFrom 8 rfl) (pc' := 15) rfl ?_
      refine g_aload_n ok (dk m_Tr_resolutionFrom 9 rfl) (pc' := 16) rfl (i := 0) rfl rfl ?_
      refine g_get ok (dk m_Tr_resolutionFrom 10 rfl) (pc' := 19) rfl f_Tr_20 ht.1 rfl ?_
      refine g_iload_n ok (dk m_Tr_resolutionFrom 11 rfl) (pc' := 20) rfl (i := 1) rfl rfl ?_
      refine g_callV ok (dk m_Tr_resolutionFrom 12 rfl) (pc' := 23) rfl c_Tr_41 (c_Row_get g n 0 (ht.2.1 1 (by decide)).1 (ht.2.1 1 (by decide)).2 (tr_len_lt _)) (ht.2.1 1 (by decide)).1 rfl rfl (by simp [Value.category]) (by omega) rfl (rc' := 0) (rs' := 0) (by omega) (by omega) (fun rv h' hcc => ?_) (fun i h' hcc => by obtain ⟨e, -⟩ := hcc; cases e)
      obtain ⟨e, e2⟩ := hcc
      have e3 := e2.symm
      subst e3
      cases e
      refine g_callS ok (dk m_Tr_resolutionFrom 13 rfl) (pc' := 26) rfl c_Tr_77 (c_Tr_nodesOfLeaves g (r_get (tr_len 1) (T.1 1) n) 0) rfl rfl (by simp [Value.category]) (by omega) rfl (rc' := 0) (rs' := 0) (by omega) (by omega) (fun rv h' hcc => ?_) (fun i h' hcc => by obtain ⟨e, -⟩ := hcc; cases e)
      obtain ⟨e, e2⟩ := hcc
      have e3 := e2.symm
      subst e3
      cases e
      refine g_ior ok (dk m_Tr_resolutionFrom 14 rfl) (pc' := 27) rfl ?_
      exact g_iret ok (dk m_Tr_resolutionFrom 15 rfl) rfl rfl ⟨by rw [T_res, if_neg (show ¬ T_isB T n from c_9)]; rfl, rfl⟩
  | succ k ih =>
    intro n hk d hd
    refine MG.of (by decide +kernel) (by simp [Value.category]) (Nat.le_of_ble_eq_true rfl) ?_
    intro Z A ok
    refine g_aload_n ok (dk m_Tr_resolutionFrom 0 rfl) (pc' := 1) rfl (i := 0) rfl rfl ?_
    refine g_get ok (dk m_Tr_resolutionFrom 1 rfl) (pc' := 4) rfl f_Tr_14 ht.1 rfl ?_
    refine g_iload_n ok (dk m_Tr_resolutionFrom 2 rfl) (pc' := 5) rfl (i := 1) rfl rfl ?_
    refine g_callV ok (dk m_Tr_resolutionFrom 3 rfl) (pc' := 8) rfl c_Tr_41 (c_Row_get g n 0 (ht.2.1 0 (by decide)).1 (ht.2.1 0 (by decide)).2 (tr_len_lt _)) (ht.2.1 0 (by decide)).1 rfl rfl (by simp [Value.category]) (by omega) rfl (rc' := 0) (rs' := 0) (by omega) (by omega) (fun rv h' hcc => ?_) (fun i h' hcc => by obtain ⟨e, -⟩ := hcc; cases e)
    obtain ⟨e, e2⟩ := hcc
    have e3 := e2.symm
    subst e3
    cases e
    refine g_iconst ok (dk m_Tr_resolutionFrom 4 rfl) (pc' := 9) rfl (v := (-1)) (by decide) ?_
    refine g_icmp_eq ok (dk m_Tr_resolutionFrom 5 rfl) (tgt := 28) (by decide) (pc' := 12) rfl (fun c_9 => ?_) (fun c_9 => ?_)
    · refine g_iload_n ok (dk m_Tr_resolutionFrom 16 rfl) (pc' := 29) rfl (i := 2) rfl rfl ?_
      refine g_if_gt ok (dk m_Tr_resolutionFrom 17 rfl) (tgt := 34) (by decide) (pc' := 32) rfl (fun c_29 => ?_) (fun c_29 => absurd (show (0 : Int32) < nI (k + 1) from by have := nI_lt (a := 0) (b := k + 1) (by omega) (by omega); exact this) c_29)
      refine g_iload_n ok (dk m_Tr_resolutionFrom 20 rfl) (pc' := 35) rfl (i := 2) rfl rfl ?_
      refine g_iconst ok (dk m_Tr_resolutionFrom 21 rfl) (pc' := 36) rfl (v := 1) (by decide) ?_
      refine g_isub ok (dk m_Tr_resolutionFrom 22 rfl) (pc' := 37) rfl ?_
      refine g_top (w := .int (nI k)) (by rw [nI_pred]) ?_
      refine g_istore_n ok (dk m_Tr_resolutionFrom 23 rfl) (pc' := 38) rfl (i := 3) rfl (Nat.le_of_ble_eq_true rfl) rfl ?_
      refine g_iconst ok (dk m_Tr_resolutionFrom 24 rfl) (pc' := 39) rfl (v := 1) (by decide) ?_
      refine g_iload_n ok (dk m_Tr_resolutionFrom 25 rfl) (pc' := 40) rfl (i := 3) rfl rfl ?_
      refine g_ishl ok (dk m_Tr_resolutionFrom 26 rfl) (pc' := 41) rfl ?_
      refine g_istore ok (dk m_Tr_resolutionFrom 27 rfl) (pc' := 43) rfl (Nat.le_of_ble_eq_true rfl) rfl ?_
      refine g_aload_n ok (dk m_Tr_resolutionFrom 28 rfl) (pc' := 44) rfl (i := 0) rfl rfl ?_
      refine g_iload_n ok (dk m_Tr_resolutionFrom 29 rfl) (pc' := 45) rfl (i := 1) rfl rfl ?_
      refine g_iload ok (dk m_Tr_resolutionFrom 30 rfl) (pc' := 47) rfl rfl ?_
      refine g_isub ok (dk m_Tr_resolutionFrom 31 rfl) (pc' := 48) rfl ?_
      refine g_iload_n ok (dk m_Tr_resolutionFrom 32 rfl) (pc' := 49) rfl (i := 3) rfl rfl ?_
      refine g_callV ok (dk m_Tr_resolutionFrom 33 rfl) (pc' := 52) rfl c_Tr_74 (ih (n - ((1 : Int32) <<< (nI k &&& 31))) (by omega) (d - 1) (by omega)) ht.1 rfl rfl (by simp [Value.category]) (by omega) rfl (rc' := 0) (rs' := 0) (by omega) (by omega) (fun rv h' hcc => ?_) (fun i h' hcc => by obtain ⟨e, -⟩ := hcc; cases e)
      obtain ⟨e, e2⟩ := hcc
      have e3 := e2.symm
      subst e3
      cases e
      refine g_aload_n ok (dk m_Tr_resolutionFrom 34 rfl) (pc' := 53) rfl (i := 0) rfl rfl ?_
      refine g_iload_n ok (dk m_Tr_resolutionFrom 35 rfl) (pc' := 54) rfl (i := 1) rfl rfl ?_
      refine g_iload ok (dk m_Tr_resolutionFrom 36 rfl) (pc' := 56) rfl rfl ?_
      refine g_iadd ok (dk m_Tr_resolutionFrom 37 rfl) (pc' := 57) rfl ?_
      refine g_iload_n ok (dk m_Tr_resolutionFrom 38 rfl) (pc' := 58) rfl (i := 3) rfl rfl ?_
      refine g_callV ok (dk m_Tr_resolutionFrom 39 rfl) (pc' := 61) rfl c_Tr_74 (ih (n + ((1 : Int32) <<< (nI k &&& 31))) (by omega) (d - 1) (by omega)) ht.1 rfl rfl (by simp [Value.category]) (by omega) rfl (rc' := 0) (rs' := 0) (by omega) (by omega) (fun rv h' hcc => ?_) (fun i h' hcc => by obtain ⟨e, -⟩ := hcc; cases e)
      obtain ⟨e, e2⟩ := hcc
      have e3 := e2.symm
      subst e3
      cases e
      refine g_ior ok (dk m_Tr_resolutionFrom 40 rfl) (pc' := 62) rfl ?_
      exact g_iret ok (dk m_Tr_resolutionFrom 41 rfl) rfl rfl ⟨by rw [T_res, if_pos (show T_isB T n from c_9)], rfl⟩
    · refine g_iconst ok (dk m_Tr_resolutionFrom 6 rfl) (pc' := 13) rfl (v := 1) (by decide) ?_
      refine g_iload_n ok (dk m_Tr_resolutionFrom 7 rfl) (pc' := 14) rfl (i := 1) rfl rfl ?_
      refine g_ishl ok (dk m_Tr_resolutionFrom 8 rfl) (pc' := 15) rfl ?_
      refine g_aload_n ok (dk m_Tr_resolutionFrom 9 rfl) (pc' := 16) rfl (i := 0) rfl rfl ?_
      refine g_get ok (dk m_Tr_resolutionFrom 10 rfl) (pc' := 19) rfl f_Tr_20 ht.1 rfl ?_
      refine g_iload_n ok (dk m_Tr_resolutionFrom 11 rfl) (pc' := 20) rfl (i := 1) rfl rfl ?_
      refine g_callV ok (dk m_Tr_resolutionFrom 12 rfl) (pc' := 23) rfl c_Tr_41 (c_Row_get g n 0 (ht.2.1 1 (by decide)).1 (ht.2.1 1 (by decide)).2 (tr_len_lt _)) (ht.2.1 1 (by decide)).1 rfl rfl (by simp [Value.category]) (by omega) rfl (rc' := 0) (rs' := 0) (by omega) (by omega) (fun rv h' hcc => ?_) (fun i h' hcc => by obtain ⟨e, -⟩ := hcc; cases e)
      obtain ⟨e, e2⟩ := hcc
      have e3 := e2.symm
      subst e3
      cases e
      refine g_callS ok (dk m_Tr_resolutionFrom 13 rfl) (pc' := 26) rfl c_Tr_77 (c_Tr_nodesOfLeaves g (r_get (tr_len 1) (T.1 1) n) 0) rfl rfl (by simp [Value.category]) (by omega) rfl (rc' := 0) (rs' := 0) (by omega) (by omega) (fun rv h' hcc => ?_) (fun i h' hcc => by obtain ⟨e, -⟩ := hcc; cases e)
      obtain ⟨e, e2⟩ := hcc
      have e3 := e2.symm
      subst e3
      cases e
      refine g_ior ok (dk m_Tr_resolutionFrom 14 rfl) (pc' := 27) rfl ?_
      exact g_iret ok (dk m_Tr_resolutionFrom 15 rfl) rfl rfl ⟨by rw [T_res, if_neg (show ¬ T_isB T n from c_9)]; rfl, rfl⟩
theorem j_ht_le (n : Int32) : ∀ (m k : Nat), k ≤ j_ht n m k ∧ j_ht n m k ≤ k + m := by
  intro m
  induction m with
  | zero => intro k; exact ⟨Nat.le_refl _, Nat.le_refl _⟩
  | succ m ih =>
    intro k
    rw [j_ht]
    split
    · have := ih (k + 1)
      omega
    · omega
noncomputable def T_reso (T : tr_T) (n : Int32) : Int32 := T_res T (j_ht n 4 0) n
set_option maxHeartbeats 1000000 in
theorem c_Tr_resolution (g : q_G) {h : q_H} {t : Nat} {ra rb : Nat → Nat} {T : tr_T} (n : Int32) (d : Nat) (hd : 6 ≤ d) (ht : q_tree h t ra rb T) : MG g y_Tr_resolution b_Tr_resolution 2 (some .int) d 0 0 [.ref t, .int n] h (fun q h' => q = .inl (some (.int (T_reso T n))) ∧ h' = h) := by
  refine MG.of (by decide +kernel) (by simp [Value.category]) (Nat.le_of_ble_eq_true rfl) ?_
  intro Z A ok
  refine g_aload_n ok (dk m_Tr_resolution 0 rfl) (pc' := 1) rfl (i := 0) rfl rfl ?_
  refine g_iload_n ok (dk m_Tr_resolution 1 rfl) (pc' := 2) rfl (i := 1) rfl rfl ?_
  refine g_iload_n ok (dk m_Tr_resolution 2 rfl) (pc' := 3) rfl (i := 1) rfl rfl ?_
  refine g_callS ok (dk m_Tr_resolution 3 rfl) (pc' := 6) rfl c_Tr_71 (c_Tr_heightOf g n 1 (by omega)) rfl rfl (by simp [Value.category]) (by omega) rfl (rc' := 0) (rs' := 0) (by omega) (by omega) (fun rv h' hcc => ?_) (fun i h' hcc => by obtain ⟨e, -⟩ := hcc; cases e)
  obtain ⟨e, e2⟩ := hcc
  have e3 := e2.symm
  subst e3
  cases e
  refine g_callV ok (dk m_Tr_resolution 4 rfl) (pc' := 9) rfl c_Tr_74 (c_Tr_resolutionFrom g ht (j_ht n 4 0) n (by have := (j_ht_le n 4 0).2; omega) 5 (by have := (j_ht_le n 4 0).2; omega)) ht.1 rfl rfl (by simp [Value.category]) (by omega) rfl (rc' := 0) (rs' := 0) (by omega) (by omega) (fun rv h' hcc => ?_) (fun i h' hcc => by obtain ⟨e, -⟩ := hcc; cases e)
  obtain ⟨e, e2⟩ := hcc
  have e3 := e2.symm
  subst e3
  cases e
  exact g_iret ok (dk m_Tr_resolution 5 rfl) rfl rfl ⟨rfl, rfl⟩
def T_gr (l : Nat) : Nat → Nat → Nat
  | 0, D => D
  | m + 1, D => if D < 4 ∧ 2 ^ D ≤ l then T_gr l m (D + 1) else D
noncomputable def T_um1 (T : tr_T) (l n : Int32) : tr_T := by
  classical exact if T_isB T n then T else (va_up T.1 1 (r_put (tr_len 1) (T.1 1) n (r_get (tr_len 1) (T.1 1) n ||| ((1 : Int32) <<< (l &&& 31)))), T.2)
noncomputable def T_um (l : Int32) : Nat → Nat → tr_T → tr_T
  | 0, _, T => T
  | m + 1, k, T => T_um l m (k + 1) (T_um1 T l (j_node l (nI k)))
theorem T_um1_2 (T : tr_T) (l n : Int32) : (T_um1 T l n).2 = T.2 := by
  unfold T_um1
  split <;> rfl
noncomputable def T_seat (T : tr_T) (l : Nat) (m k e : Int32) : tr_T := T_um (nI l) (T_gr l (5 - T.2) T.2) 1 (T_give (va_up T.1 3 (r_put (tr_len 3) (T.1 3) (nI l) m), T_gr l (5 - T.2) T.2) (j_node (nI l) 0) k e)
theorem T_gr_le (l : Nat) : ∀ (m D : Nat), D ≤ 4 → T_gr l m D ≤ 4 := by
  intro m
  induction m with
  | zero => intro D h; exact h
  | succ m ih =>
    intro D h
    rw [T_gr]
    split
    · exact ih (D + 1) (by omega)
    · exact h
set_option maxHeartbeats 1000000 in
theorem c_Tr_seat (g : q_G) {h : q_H} {t : Nat} {ra rb : Nat → Nat} {T : tr_T} {l : Nat} (mm kk ee : Int32) (d : Nat) (hd : 2 ≤ d) (hl : l < 16) (hT : T.2 ≤ 4) (ht : q_tree h t ra rb T) : MG g y_Tr_seat b_Tr_seat 7 none d 0 0 [.ref t, .int (nI l), .int mm, .int kk, .int ee] h (fun q h' => q = .inl none ∧ q_tree h' t ra rb (T_seat T l mm kk ee) ∧ q_off h h' (tr_P t rb)) := by
  refine MG.of (by decide +kernel) (by simp [Value.category]) (Nat.le_of_ble_eq_true rfl) ?_
  intro Z A ok
  have hpw : ∀ D, D ≤ 4 → 2 ^ D ≤ 16 := fun D h => Nat.pow_le_pow_right (by decide) h
  have marks0 : ∀ (D : Nat), D ≤ 4 → ∀ (m k : Nat), k + m = D + 1 → ∀ (h1 : q_H) (T1 : tr_T), q_tree h1 t ra rb T1 → q_off h h1 (tr_P t rb) → T1.2 = D → T_um (nI l) m k T1 = T_seat T l mm kk ee → ∀ w, GW g Z A (fun q h' => q = .inl none ∧ q_tree h' t ra rb (T_seat T l mm kk ee) ∧ q_off h h' (tr_P t rb)) 0 0 h1 55 [some (.ref t), some (.int (nI l)), some (.int mm), some (.int kk), some (.int ee), some (.int (nI k)), w] [] := by
    intro D hD4 m
    induction m with
    | zero =>
      intro k hk h1 T1 h1t ho1 hD hv w
      refine g_iload ok (dk m_Tr_seat 31 rfl) (pc' := 57) rfl rfl ?_
      refine g_aload_n ok (dk m_Tr_seat 32 rfl) (pc' := 58) rfl (i := 0) rfl rfl ?_
      refine g_get ok (dk m_Tr_seat 33 rfl) (pc' := 61) rfl f_Tr_29 h1t.1 rfl ?_
      refine g_icmp_gt ok (dk m_Tr_seat 34 rfl) (tgt := 109) (by decide) (pc' := 64) rfl (fun c_61 => ?_) (fun c_61 => absurd (by rw [hD]; exact nI_lt (a := D) (b := k) (by omega) (by omega)) c_61)
      exact g_vret ok (dk m_Tr_seat 57 rfl) rfl ⟨rfl, by rw [← hv]; exact h1t, ho1⟩
    | succ m ih =>
      intro k hk h1 T1 h1t ho1 hD hv w
      refine g_iload ok (dk m_Tr_seat 31 rfl) (pc' := 57) rfl rfl ?_
      refine g_aload_n ok (dk m_Tr_seat 32 rfl) (pc' := 58) rfl (i := 0) rfl rfl ?_
      refine g_get ok (dk m_Tr_seat 33 rfl) (pc' := 61) rfl f_Tr_29 h1t.1 rfl ?_
      refine g_icmp_gt ok (dk m_Tr_seat 34 rfl) (tgt := 109) (by decide) (pc' := 64) rfl (fun c_61 => absurd c_61 (by rw [hD]; exact nI_nlt (a := D) (b := k) (by omega) (by omega))) (fun c_61 => ?_)
      refine g_iload_n ok (dk m_Tr_seat 35 rfl) (pc' := 65) rfl (i := 1) rfl rfl ?_
      refine g_iload ok (dk m_Tr_seat 36 rfl) (pc' := 67) rfl rfl ?_
      refine g_callS ok (dk m_Tr_seat 37 rfl) (pc' := 70) rfl c_Tr_56 (c_Tr_nodeOver g (nI l) (nI k) 0) rfl rfl (by simp [Value.category]) (by omega) rfl (rc' := 0) (rs' := 0) (by omega) (by omega) (fun rv h' hcc => ?_) (fun i h' hcc => by obtain ⟨e, -⟩ := hcc; cases e)
      obtain ⟨e, e2⟩ := hcc
      have e3 := e2.symm
      subst e3
      cases e
      refine g_istore ok (dk m_Tr_seat 38 rfl) (pc' := 72) rfl (Nat.le_of_ble_eq_true rfl) rfl ?_
      refine g_aload_n ok (dk m_Tr_seat 39 rfl) (pc' := 73) rfl (i := 0) rfl rfl ?_
      refine g_iload ok (dk m_Tr_seat 40 rfl) (pc' := 75) rfl rfl ?_
      refine g_callV ok (dk m_Tr_seat 41 rfl) (pc' := 78) rfl c_Tr_67 (c_Tr_isBlank g (j_node (nI l) (nI k)) 1 (by omega) h1t) h1t.1 rfl rfl (by simp [Value.category]) (by omega) rfl (rc' := 0) (rs' := 0) (by omega) (by omega) (fun rv h' hcc => ?_) (fun i h' hcc => by obtain ⟨e, -⟩ := hcc; cases e)
      obtain ⟨e, e2⟩ := hcc
      have e3 := e2.symm
      subst e3
      cases e
      refine g_if_ne ok (dk m_Tr_seat 42 rfl) (tgt := 103) (by decide) (pc' := 81) rfl (fun c_78 => ?_) (fun c_78 => ?_)
      · have h2t : q_tree h1 t ra rb (T_um1 T1 (nI l) (j_node (nI l) (nI k))) := by rw [T_um1, if_pos (b2i_n c_78)]; exact h1t
        have ho2 := ho1
        refine g_iinc ok (dk m_Tr_seat 55 rfl) (pc' := 106) rfl rfl (nI_1 k) rfl ?_
        refine g_goto ok (dk m_Tr_seat 56 rfl) (pc' := 55) (by decide) ?_
        exact ih (k + 1) (by omega) _ _ h2t ho2 ((T_um1_2 _ _ _).trans hD) (by rw [← hv]; rfl) _
      · refine g_aload_n ok (dk m_Tr_seat 43 rfl) (pc' := 82) rfl (i := 0) rfl rfl ?_
        refine g_get ok (dk m_Tr_seat 44 rfl) (pc' := 85) rfl f_Tr_20 h1t.1 rfl ?_
        refine g_iload ok (dk m_Tr_seat 45 rfl) (pc' := 87) rfl rfl ?_
        refine g_aload_n ok (dk m_Tr_seat 46 rfl) (pc' := 88) rfl (i := 0) rfl rfl ?_
        refine g_get ok (dk m_Tr_seat 47 rfl) (pc' := 91) rfl f_Tr_20 h1t.1 rfl ?_
        refine g_iload ok (dk m_Tr_seat 48 rfl) (pc' := 93) rfl rfl ?_
        refine g_callV ok (dk m_Tr_seat 49 rfl) (pc' := 96) rfl c_Tr_41 (c_Row_get g (j_node (nI l) (nI k)) 0 (h1t.2.1 1 (by decide)).1 (h1t.2.1 1 (by decide)).2 (tr_len_lt _)) (h1t.2.1 1 (by decide)).1 rfl rfl (by simp [Value.category]) (by omega) rfl (rc' := 0) (rs' := 0) (by omega) (by omega) (fun rv h' hcc => ?_) (fun i h' hcc => by obtain ⟨e, -⟩ := hcc; cases e)
        obtain ⟨e, e2⟩ := hcc
        have e3 := e2.symm
        subst e3
        cases e
        refine g_iconst ok (dk m_Tr_seat 50 rfl) (pc' := 97) rfl (v := 1) (by decide) ?_
        refine g_iload_n ok (dk m_Tr_seat 51 rfl) (pc' := 98) rfl (i := 1) rfl rfl ?_
        refine g_ishl ok (dk m_Tr_seat 52 rfl) (pc' := 99) rfl ?_
        refine g_ior ok (dk m_Tr_seat 53 rfl) (pc' := 100) rfl ?_
        refine g_callV ok (dk m_Tr_seat 54 rfl) (pc' := 103) rfl c_Tr_45 (c_Row_put g (j_node (nI l) (nI k)) _ 0 (h1t.2.1 1 (by decide)).1 (h1t.2.1 1 (by decide)).2 (tr_len_lt _)) (h1t.2.1 1 (by decide)).1 rfl rfl (by simp [Value.category]) (by omega) rfl (rc' := 0) (rs' := 0) (by omega) (by omega) (fun rv h' hcc => ?_) (fun i h' hcc => by obtain ⟨e, -⟩ := hcc; cases e)
        obtain ⟨e9, e2⟩ := hcc
        cases e9
        have h3t := h1t.putE 1 (by decide) e2
        have ho2 := q_off.upE ho1 (Or.inr ⟨1, by decide, rfl⟩) e2
        clear e2
        have h2t : q_tree h' t ra rb (T_um1 T1 (nI l) (j_node (nI l) (nI k))) := by rw [T_um1, if_neg (b2i_0 c_78)]; exact h3t
        refine g_iinc ok (dk m_Tr_seat 55 rfl) (pc' := 106) rfl rfl (nI_1 k) rfl ?_
        refine g_goto ok (dk m_Tr_seat 56 rfl) (pc' := 55) (by decide) ?_
        exact ih (k + 1) (by omega) _ _ h2t ho2 ((T_um1_2 _ _ _).trans hD) (by rw [← hv]; rfl) _
  have marks : ∀ (D k : Nat), (D ≤ 4 ∧ k = 1) → ∀ (h1 : q_H) (T1 : tr_T), q_tree h1 t ra rb T1 → q_off h h1 (tr_P t rb) → T1.2 = D → T_um (nI l) D 1 T1 = T_seat T l mm kk ee → ∀ w, GW g Z A (fun q h' => q = .inl none ∧ q_tree h' t ra rb (T_seat T l mm kk ee) ∧ q_off h h' (tr_P t rb)) 0 0 h1 55 [some (.ref t), some (.int (nI l)), some (.int mm), some (.int kk), some (.int ee), some (.int (nI 1)), w] [] := by
    rintro D k ⟨h4, rfl⟩ h1 T1 a1 a2 a3 a4 w
    exact marks0 D h4 D 1 (by omega) h1 T1 a1 a2 a3 a4 w
  have after : ∀ (D : Nat) (h1 : q_H) (T1 : tr_T), q_tree h1 t ra rb T1 → q_off h h1 (tr_P t rb) → T1.2 = D → T1.1 = T.1 → D = T_gr l (5 - T.2) T.2 → D ≤ 4 → GW g Z A (fun q h' => q = .inl none ∧ q_tree h' t ra rb (T_seat T l mm kk ee) ∧ q_off h h' (tr_P t rb)) 0 0 h1 31 [some (.ref t), some (.int (nI l)), some (.int mm), some (.int kk), some (.int ee), none, none] [] := by
    intro D h1 T1 h1t ho1 hD hrow hv hD4
    refine g_aload_n ok (dk m_Tr_seat 17 rfl) (pc' := 32) rfl (i := 0) rfl rfl ?_
    refine g_get ok (dk m_Tr_seat 18 rfl) (pc' := 35) rfl f_Tr_26 h1t.1 rfl ?_
    refine g_iload_n ok (dk m_Tr_seat 19 rfl) (pc' := 36) rfl (i := 1) rfl rfl ?_
    refine g_iload_n ok (dk m_Tr_seat 20 rfl) (pc' := 37) rfl (i := 2) rfl rfl ?_
    refine g_callV ok (dk m_Tr_seat 21 rfl) (pc' := 40) rfl c_Tr_45 (c_Row_put g (nI l) mm 0 (h1t.2.1 3 (by decide)).1 (h1t.2.1 3 (by decide)).2 (tr_len_lt _)) (h1t.2.1 3 (by decide)).1 rfl rfl (by simp [Value.category]) (by omega) rfl (rc' := 0) (rs' := 0) (by omega) (by omega) (fun rv h' hcc => ?_) (fun i h' hcc => by obtain ⟨e, -⟩ := hcc; cases e)
    obtain ⟨e9, e2⟩ := hcc
    cases e9
    have h2t := h1t.putE 3 (by decide) e2
    have ho2 := q_off.upE ho1 (Or.inr ⟨3, by decide, rfl⟩) e2
    clear e2
    refine g_aload_n ok (dk m_Tr_seat 22 rfl) (pc' := 41) rfl (i := 0) rfl rfl ?_
    refine g_iload_n ok (dk m_Tr_seat 23 rfl) (pc' := 42) rfl (i := 1) rfl rfl ?_
    refine g_iconst ok (dk m_Tr_seat 24 rfl) (pc' := 43) rfl (v := 0) (by decide) ?_
    refine g_callS ok (dk m_Tr_seat 25 rfl) (pc' := 46) rfl c_Tr_56 (c_Tr_nodeOver g (nI l) 0 0) rfl rfl (by simp [Value.category]) (by omega) rfl (rc' := 0) (rs' := 0) (by omega) (by omega) (fun rv h' hcc => ?_) (fun i h' hcc => by obtain ⟨e, -⟩ := hcc; cases e)
    obtain ⟨e9, e2⟩ := hcc
    have e3 := e2.symm
    subst e3
    cases e9
    refine g_iload_n ok (dk m_Tr_seat 26 rfl) (pc' := 47) rfl (i := 3) rfl rfl ?_
    refine g_iload ok (dk m_Tr_seat 27 rfl) (pc' := 49) rfl rfl ?_
    refine g_callV ok (dk m_Tr_seat 28 rfl) (pc' := 52) rfl c_Tr_48 (c_Tr_give g (j_node (nI l) 0) kk ee 1 (by omega) h2t) h2t.1 rfl rfl (by simp [Value.category]) (by omega) rfl (rc' := 0) (rs' := 0) (by omega) (by omega) (fun rv h' hcc => ?_) (fun i h' hcc => by obtain ⟨e, -⟩ := hcc; cases e)
    obtain ⟨e9, h3t, ho3⟩ := hcc
    cases e9
    refine g_iconst ok (dk m_Tr_seat 29 rfl) (pc' := 53) rfl (v := 1) (by decide) ?_
    refine g_istore ok (dk m_Tr_seat 30 rfl) (pc' := 55) rfl (Nat.le_of_ble_eq_true rfl) rfl ?_
    exact marks D 1 (by omega) _ _ h3t (ho2.tr ho3) hD (by rw [T_seat, ← hv]; show _ = T_um (nI l) D 1 (T_give (va_up T.1 3 (r_put (tr_len 3) (T.1 3) (nI l) mm), D) (j_node (nI l) 0) kk ee); rw [← hrow, ← hD]) _
  have grow : ∀ (m D : Nat), D + m = 5 → D ≤ 4 → ∀ (h1 : q_H) (T1 : tr_T), q_tree h1 t ra rb T1 → q_off h h1 (tr_P t rb) → T1.2 = D → T1.1 = T.1 → T_gr l m D = T_gr l (5 - T.2) T.2 → GW g Z A (fun q h' => q = .inl none ∧ q_tree h' t ra rb (T_seat T l mm kk ee) ∧ q_off h h' (tr_P t rb)) 0 0 h1 0 [some (.ref t), some (.int (nI l)), some (.int mm), some (.int kk), some (.int ee), none, none] [] := by
    intro m
    induction m with
    | zero =>
      intro D hm h4
      omega
    | succ m ih =>
      intro D hm h4 h1 T1 h1t ho1 hD hrow hv
      have hp := hpw D (by omega)
      refine g_aload_n ok (dk m_Tr_seat 0 rfl) (pc' := 1) rfl (i := 0) rfl rfl ?_
      refine g_get ok (dk m_Tr_seat 1 rfl) (pc' := 4) rfl f_Tr_29 h1t.1 rfl ?_
      refine g_iconst ok (dk m_Tr_seat 2 rfl) (pc' := 5) rfl (v := 4) (by decide) ?_
      refine g_icmp_ge ok (dk m_Tr_seat 3 rfl) (tgt := 31) (by decide) (pc' := 8) rfl (fun c_5 => ?_) (fun c_5 => ?_)
      · have hDe : T_gr l (m + 1) D = D := by rw [T_gr, if_neg (fun y => by have h9 := (nI_leI (a := 4) (b := D) (by decide) (by omega)).mp (by rw [← hD]; exact c_5); omega)]
        exact after D h1 T1 h1t ho1 hD hrow (by rw [← hv, hDe]) (by omega)
        -- done
      · refine g_iload_n ok (dk m_Tr_seat 4 rfl) (pc' := 9) rfl (i := 1) rfl rfl ?_
        refine g_iconst ok (dk m_Tr_seat 5 rfl) (pc' := 10) rfl (v := 1) (by decide) ?_
        refine g_aload_n ok (dk m_Tr_seat 6 rfl) (pc' := 11) rfl (i := 0) rfl rfl ?_
        refine g_get ok (dk m_Tr_seat 7 rfl) (pc' := 14) rfl f_Tr_29 h1t.1 rfl ?_
        refine g_ishl ok (dk m_Tr_seat 8 rfl) (pc' := 15) rfl ?_
        refine g_top (w := .int (nI (2 ^ D))) (by show Value.int ((1 : Int32) <<< (nI T1.2 &&& 31)) = _; rw [hD, j_shl D (by omega)]) ?_
        refine g_icmp_lt ok (dk m_Tr_seat 9 rfl) (tgt := 31) (by decide) (pc' := 18) rfl (fun c_15 => ?_) (fun c_15 => ?_)
        · have hDe : T_gr l (m + 1) D = D := by rw [T_gr, if_neg (fun y => by have h9 := (nI_ltI (a := l) (b := 2 ^ D) (by omega) (by omega)).mp c_15; omega)]
          exact after D h1 T1 h1t ho1 hD hrow (by rw [← hv, hDe]) (by omega)
          -- done
        · refine g_aload_n ok (dk m_Tr_seat 10 rfl) (pc' := 19) rfl (i := 0) rfl rfl ?_
          refine g_dup ok (dk m_Tr_seat 11 rfl) (pc' := 20) rfl rfl ?_
          refine g_get ok (dk m_Tr_seat 12 rfl) (pc' := 23) rfl f_Tr_29 h1t.1 rfl ?_
          refine g_iconst ok (dk m_Tr_seat 13 rfl) (pc' := 24) rfl (v := 1) (by decide) ?_
          refine g_iadd ok (dk m_Tr_seat 14 rfl) (pc' := 25) rfl ?_
          refine g_top (w := .int (nI (D + 1))) (by rw [hD, nI_1]) ?_
          refine g_put ok (dk m_Tr_seat 15 rfl) (pc' := 28) rfl f_Tr_29 (Or.inl rfl) h1t.1 (Nat.le_of_ble_eq_true rfl) rfl rfl ?_
          refine g_gen (fun h2 e2 => ?_)
          have h2t := h1t.depE e2
          have ho2 := q_off.upE ho1 (show tr_P t rb t from Or.inl rfl) e2
          clear e2
          refine g_goto ok (dk m_Tr_seat 16 rfl) (pc' := 0) (by decide) ?_
          have hlt4 : D < 4 := by
            rcases Nat.lt_or_ge D 4 with z | z
            · exact z
            · exact absurd (by rw [hD]; exact nI_le (a := 4) (b := D) z (by omega)) c_5
          have hge : 2 ^ D ≤ l := by
            rcases Nat.lt_or_ge l (2 ^ D) with z | z
            · exact absurd (nI_lt (a := l) (b := 2 ^ D) z (by omega)) c_15
            · exact z
          exact ih (D + 1) (by omega) (by omega) h2 _ h2t ho2 rfl hrow (by rw [← hv, T_gr, if_pos ⟨hlt4, hge⟩])
  exact grow (5 - T.2) T.2 (by omega) hT h T ht q_off.rf rfl rfl rfl
end
section
/-! ===== Tree: copy, the constructor ===== -/
noncomputable def T_cpr (T U : tr_T) (i : Nat) : Nat → Int32 := r_copy (tr_len i) (fun j => r_get (tr_len i) (U.1 i) (nI j)) (T.1 i)
noncomputable def T_copy (T U : tr_T) : tr_T := (va_up (va_up (va_up (va_up T.1 0 (T_cpr T U 0)) 1 (T_cpr T U 1)) 2 (T_cpr T U 2)) 3 (T_cpr T U 3), U.2)
/-- two trees apart: nothing of u is among the cells that a change of t writes -/
def q_apt (h : q_H) (t u : Nat) (rb rc rd : Nat → Nat) : Prop := ¬ tr_P t rb u ∧ ∀ i, i < 4 → ¬ tr_P t rb (rc i) ∧ ¬ tr_P t rb (rd i)
set_option maxHeartbeats 1000000 in
theorem c_Tr_copy (g : q_G) {h : q_H} {t u : Nat} {ra rb rc rd : Nat → Nat} {T U : tr_T} (d : Nat) (hd : 2 ≤ d) (ht : q_tree h t ra rb T) (hu : q_tree h u rc rd U) (hap : q_apt h t u rb rc rd) : MG g y_Tr_copy b_Tr_copy 2 none d 0 0 [.ref t, .ref u] h (fun q h' => q = .inl none ∧ q_tree h' t ra rb (T_copy T U) ∧ q_off h h' (tr_P t rb)) := by
  refine MG.of (by decide +kernel) (by simp [Value.category]) (Nat.le_of_ble_eq_true rfl) ?_
  intro Z A ok
  refine g_aload_n ok (dk m_Tr_copy 0 rfl) (pc' := 1) rfl (i := 0) rfl rfl ?_
  refine g_aload_n ok (dk m_Tr_copy 1 rfl) (pc' := 2) rfl (i := 1) rfl rfl ?_
  refine g_get ok (dk m_Tr_copy 2 rfl) (pc' := 5) rfl f_Tr_29 hu.1 rfl ?_
  refine g_put ok (dk m_Tr_copy 3 rfl) (pc' := 8) rfl f_Tr_29 (Or.inl rfl) ht.1 (Nat.le_of_ble_eq_true rfl) rfl rfl ?_
  refine g_gen (fun h0 e0 => ?_)
  have h0t := ht.depE e0
  have o0 := q_off.upE (q_off.rf (X := tr_P t rb)) (Or.inl rfl) e0
  replace hu := hu.off o0 hap.1 hap.2
  clear e0
  refine g_aload_n ok (dk m_Tr_copy 4 rfl) (pc' := 9) rfl (i := 0) rfl rfl ?_
  refine g_get ok (dk m_Tr_copy 5 rfl) (pc' := 12) rfl f_Tr_14 h0t.1 rfl ?_
  refine g_aload_n ok (dk m_Tr_copy 6 rfl) (pc' := 13) rfl (i := 1) rfl rfl ?_
  refine g_get ok (dk m_Tr_copy 7 rfl) (pc' := 16) rfl f_Tr_14 hu.1 rfl ?_
  refine g_callV ok (dk m_Tr_copy 8 rfl) (pc' := 19) rfl c_Tr_37 (c_Row_copy g 1 (by omega) (h0t.2.1 0 (by decide)).1 (h0t.2.1 0 (by decide)).2 (tr_len_lt _) (hu.2.1 0 (by decide)).1 (hu.2.1 0 (by decide)).2 (tr_len_lt _) (fun e => (hap.2 0 (by decide)).2 (Or.inr ⟨0, by decide, e⟩))) (h0t.2.1 0 (by decide)).1 rfl rfl (by simp [Value.category]) (by omega) rfl (rc' := 0) (rs' := 0) (by omega) (by omega) (fun rv h' hcc => ?_) (fun i h' hcc => by obtain ⟨e, -⟩ := hcc; cases e)
  obtain ⟨e9, e2⟩ := hcc
  cases e9
  have h1t := h0t.putE 0 (by decide) e2
  have o9 := q_off.upE (q_off.rf (X := tr_P t rb)) (Or.inr ⟨0, by decide, rfl⟩) e2
  have o1 := o0.tr o9
  replace hu := hu.off o9 hap.1 hap.2
  clear e2 o9
  refine g_aload_n ok (dk m_Tr_copy 9 rfl) (pc' := 20) rfl (i := 0) rfl rfl ?_
  refine g_get ok (dk m_Tr_copy 10 rfl) (pc' := 23) rfl f_Tr_20 h1t.1 rfl ?_
  refine g_aload_n ok (dk m_Tr_copy 11 rfl) (pc' := 24) rfl (i := 1) rfl rfl ?_
  refine g_get ok (dk m_Tr_copy 12 rfl) (pc' := 27) rfl f_Tr_20 hu.1 rfl ?_
  refine g_callV ok (dk m_Tr_copy 13 rfl) (pc' := 30) rfl c_Tr_37 (c_Row_copy g 1 (by omega) (h1t.2.1 1 (by decide)).1 (h1t.2.1 1 (by decide)).2 (tr_len_lt _) (hu.2.1 1 (by decide)).1 (hu.2.1 1 (by decide)).2 (tr_len_lt _) (fun e => (hap.2 1 (by decide)).2 (Or.inr ⟨1, by decide, e⟩))) (h1t.2.1 1 (by decide)).1 rfl rfl (by simp [Value.category]) (by omega) rfl (rc' := 0) (rs' := 0) (by omega) (by omega) (fun rv h' hcc => ?_) (fun i h' hcc => by obtain ⟨e, -⟩ := hcc; cases e)
  obtain ⟨e9, e2⟩ := hcc
  cases e9
  have h2t := h1t.putE 1 (by decide) e2
  have o9 := q_off.upE (q_off.rf (X := tr_P t rb)) (Or.inr ⟨1, by decide, rfl⟩) e2
  have o2 := o1.tr o9
  replace hu := hu.off o9 hap.1 hap.2
  clear e2 o9
  refine g_aload_n ok (dk m_Tr_copy 14 rfl) (pc' := 31) rfl (i := 0) rfl rfl ?_
  refine g_get ok (dk m_Tr_copy 15 rfl) (pc' := 34) rfl f_Tr_23 h2t.1 rfl ?_
  refine g_aload_n ok (dk m_Tr_copy 16 rfl) (pc' := 35) rfl (i := 1) rfl rfl ?_
  refine g_get ok (dk m_Tr_copy 17 rfl) (pc' := 38) rfl f_Tr_23 hu.1 rfl ?_
  refine g_callV ok (dk m_Tr_copy 18 rfl) (pc' := 41) rfl c_Tr_37 (c_Row_copy g 1 (by omega) (h2t.2.1 2 (by decide)).1 (h2t.2.1 2 (by decide)).2 (tr_len_lt _) (hu.2.1 2 (by decide)).1 (hu.2.1 2 (by decide)).2 (tr_len_lt _) (fun e => (hap.2 2 (by decide)).2 (Or.inr ⟨2, by decide, e⟩))) (h2t.2.1 2 (by decide)).1 rfl rfl (by simp [Value.category]) (by omega) rfl (rc' := 0) (rs' := 0) (by omega) (by omega) (fun rv h' hcc => ?_) (fun i h' hcc => by obtain ⟨e, -⟩ := hcc; cases e)
  obtain ⟨e9, e2⟩ := hcc
  cases e9
  have h3t := h2t.putE 2 (by decide) e2
  have o9 := q_off.upE (q_off.rf (X := tr_P t rb)) (Or.inr ⟨2, by decide, rfl⟩) e2
  have o3 := o2.tr o9
  replace hu := hu.off o9 hap.1 hap.2
  clear e2 o9
  refine g_aload_n ok (dk m_Tr_copy 19 rfl) (pc' := 42) rfl (i := 0) rfl rfl ?_
  refine g_get ok (dk m_Tr_copy 20 rfl) (pc' := 45) rfl f_Tr_26 h3t.1 rfl ?_
  refine g_aload_n ok (dk m_Tr_copy 21 rfl) (pc' := 46) rfl (i := 1) rfl rfl ?_
  refine g_get ok (dk m_Tr_copy 22 rfl) (pc' := 49) rfl f_Tr_26 hu.1 rfl ?_
  refine g_callV ok (dk m_Tr_copy 23 rfl) (pc' := 52) rfl c_Tr_37 (c_Row_copy g 1 (by omega) (h3t.2.1 3 (by decide)).1 (h3t.2.1 3 (by decide)).2 (tr_len_lt _) (hu.2.1 3 (by decide)).1 (hu.2.1 3 (by decide)).2 (tr_len_lt _) (fun e => (hap.2 3 (by decide)).2 (Or.inr ⟨3, by decide, e⟩))) (h3t.2.1 3 (by decide)).1 rfl rfl (by simp [Value.category]) (by omega) rfl (rc' := 0) (rs' := 0) (by omega) (by omega) (fun rv h' hcc => ?_) (fun i h' hcc => by obtain ⟨e, -⟩ := hcc; cases e)
  obtain ⟨e9, e2⟩ := hcc
  cases e9
  have h4t := h3t.putE 3 (by decide) e2
  have o9 := q_off.upE (q_off.rf (X := tr_P t rb)) (Or.inr ⟨3, by decide, rfl⟩) e2
  have o4 := o3.tr o9
  replace hu := hu.off o9 hap.1 hap.2
  clear e2 o9
  exact g_vret ok (dk m_Tr_copy 24 rfl) rfl ⟨rfl, h4t, o4⟩
def T_new : tr_T := (fun i => if i = 0 then r_fill 31 (fun _ => 0) (-1) else if i = 1 then r_fill 31 (fun _ => 0) 0 else if i = 2 then r_fill 31 (fun _ => 0) (-1) else r_fill 16 (fun _ => 0) (-1), 0)
/-- what a constructor leaves: nothing of what was there changes but s; the new cells are the rows' -/
def q_made (h h' : q_H) (s nr : Nat) (ra rb : Nat → Nat) : Prop := (∀ y o, h y = some o → y ≠ s → h' y = some o) ∧ (∀ i, i < nr → h (ra i) = none ∧ h (rb i) = none) ∧ ∀ y, h y = none → (∀ i, i < nr → y ≠ ra i ∧ y ≠ rb i) → h' y = none
set_option maxHeartbeats 4000000 in
theorem c_Tr_init (g : q_G) {h : q_H} {s : Nat} (d mc ms : Nat) (hd : 2 ≤ d) (hm : 8 ≤ mc) (hms : 113 ≤ ms) (hs0 : h s = some (.inl (6, [.null, .null, .null, .null, .int 0]))) : MG g y_Tr_init b_Tr_init 1 none d mc ms [.ref s] h (fun q h' => q = .inl none ∧ ∃ ra rb, q_tree h' s ra rb T_new ∧ q_made h h' s 4 ra rb) := by
  refine MG.of (by decide +kernel) (by simp [Value.category]) (Nat.le_of_ble_eq_true rfl) ?_
  intro Z A ok
  refine g_aload_n ok (dk m_Tr_init 0 rfl) (pc' := 1) rfl (i := 0) rfl rfl ?_
  refine g_objInit ok (dk m_Tr_init 1 rfl) (pc' := 4) rfl c_Tr_3 (by simp [Value.category]) (by omega) rfl ?_
  refine g_aload_n ok (dk m_Tr_init 2 rfl) (pc' := 5) rfl (i := 0) rfl rfl ?_
  refine g_new ok (dk m_Tr_init 3 rfl) (pc' := 8) rfl o_Tr_9 (rc' := (mc - 1)) (rs' := (ms - 1)) (by omega) (by omega) (fun r0 hr0 hrb0 => ?_)
  refine g_dup ok (dk m_Tr_init 4 rfl) (pc' := 9) rfl rfl ?_
  refine g_bipush ok (dk m_Tr_init 5 rfl) (pc' := 11) rfl (v := 31) (by decide) ?_
  refine g_iconst ok (dk m_Tr_init 6 rfl) (pc' := 12) rfl (v := (-1)) (by decide) ?_
  refine g_callI ok (dk m_Tr_init 7 rfl) (pc' := 15) rfl c_Tr_11 (c_Row_init g (-1) 1 (by omega) (N := 31) (q_up_s _ _ _) (by decide) (by decide)) rfl rfl (by simp [Value.category]) (by omega) rfl (rc' := (mc - 2)) (rs' := (ms - 32)) (by omega) (by omega) (fun rv h' hcc => ?_) (fun i h' hcc => by obtain ⟨e, -⟩ := hcc; cases e)
  obtain ⟨e, c0, hc0, hcb0, e2⟩ := hcc
  cases e
  obtain ⟨a0, b0, p0, n0, q0, d0⟩ := mk_row hr0 hc0 e2
  clear e2
  refine g_put ok (dk m_Tr_init 8 rfl) (pc' := 18) rfl f_Tr_14 (Or.inr rfl) (p0 _ _ hs0) (Nat.le_of_ble_eq_true rfl) rfl rfl ?_
  refine g_gen (fun v0 e0 => ?_)
  have s0 : v0 s = some (.inl (6, [.ref r0, .null, .null, .null, .int 0])) := by rw [e0, q_up_s]; rfl
  have P0 : ∀ y o, h y = some o → y ≠ s → v0 y = some o := fun y o hy hne => by rw [e0, q_up_n hne]; exact p0 y o hy
  have Q0 : ∀ y, h y = none → y ≠ r0 → y ≠ c0 → v0 y = none := fun y hy h1 h2 => by rw [e0, q_up_n (fun e => by rw [e, hs0] at hy; cases hy)]; exact q0 y hy h1 h2
  have A0 : v0 r0 = some (.inl (2, [.ref c0])) := by rw [e0, q_up_n (fun e => by rw [e, p0 _ _ hs0] at a0; cases a0)]; exact a0
  have B0 : v0 c0 = some (.inr (0, 31, .inl (r_fill 31 (fun _ => 0) (-1)))) := by rw [e0, q_up_n (fun e => by rw [e, p0 _ _ hs0] at b0; cases b0)]; exact b0
  have nr0 : r0 ≠ s := fun e => by rw [e, s0] at A0; cases A0
  have nc0 : c0 ≠ s := fun e => by rw [e, s0] at B0; cases B0
  clear e0
  refine g_aload_n ok (dk m_Tr_init 9 rfl) (pc' := 19) rfl (i := 0) rfl rfl ?_
  refine g_new ok (dk m_Tr_init 10 rfl) (pc' := 22) rfl o_Tr_9 (rc' := (mc - 3)) (rs' := (ms - 33)) (by omega) (by omega) (fun r1 hr1 hrb1 => ?_)
  refine g_dup ok (dk m_Tr_init 11 rfl) (pc' := 23) rfl rfl ?_
  refine g_bipush ok (dk m_Tr_init 12 rfl) (pc' := 25) rfl (v := 31) (by decide) ?_
  refine g_iconst ok (dk m_Tr_init 13 rfl) (pc' := 26) rfl (v := 0) (by decide) ?_
  refine g_callI ok (dk m_Tr_init 14 rfl) (pc' := 29) rfl c_Tr_11 (c_Row_init g 0 1 (by omega) (N := 31) (q_up_s _ _ _) (by decide) (by decide)) rfl rfl (by simp [Value.category]) (by omega) rfl (rc' := (mc - 4)) (rs' := (ms - 64)) (by omega) (by omega) (fun rv h' hcc => ?_) (fun i h' hcc => by obtain ⟨e, -⟩ := hcc; cases e)
  obtain ⟨e, c1, hc1, hcb1, e2⟩ := hcc
  cases e
  obtain ⟨a1, b1, p1, n1, q1, d1⟩ := mk_row hr1 hc1 e2
  clear e2
  have x0_1 : c0 ≠ c1 := q_on B0 n1
  refine g_put ok (dk m_Tr_init 15 rfl) (pc' := 32) rfl f_Tr_20 (Or.inr rfl) (p1 _ _ s0) (Nat.le_of_ble_eq_true rfl) rfl rfl ?_
  refine g_gen (fun v1 e1 => ?_)
  have s1 : v1 s = some (.inl (6, [.ref r0, .ref r1, .null, .null, .int 0])) := by rw [e1, q_up_s]; rfl
  have P1 : ∀ y o, v0 y = some o → y ≠ s → v1 y = some o := fun y o hy hne => by rw [e1, q_up_n hne]; exact p1 y o hy
  have Q1 : ∀ y, v0 y = none → y ≠ r1 → y ≠ c1 → v1 y = none := fun y hy h1 h2 => by rw [e1, q_up_n (fun e => by rw [e, s0] at hy; cases hy)]; exact q1 y hy h1 h2
  have A1 : v1 r1 = some (.inl (2, [.ref c1])) := by rw [e1, q_up_n (fun e => by rw [e, p1 _ _ s0] at a1; cases a1)]; exact a1
  have B1 : v1 c1 = some (.inr (0, 31, .inl (r_fill 31 (fun _ => 0) 0))) := by rw [e1, q_up_n (fun e => by rw [e, p1 _ _ s0] at b1; cases b1)]; exact b1
  have nr1 : r1 ≠ s := fun e => by rw [e, s1] at A1; cases A1
  have nc1 : c1 ≠ s := fun e => by rw [e, s1] at B1; cases B1
  replace A0 := P1 _ _ A0 nr0
  replace B0 := P1 _ _ B0 nc0
  clear e1
  refine g_aload_n ok (dk m_Tr_init 16 rfl) (pc' := 33) rfl (i := 0) rfl rfl ?_
  refine g_new ok (dk m_Tr_init 17 rfl) (pc' := 36) rfl o_Tr_9 (rc' := (mc - 5)) (rs' := (ms - 65)) (by omega) (by omega) (fun r2 hr2 hrb2 => ?_)
  refine g_dup ok (dk m_Tr_init 18 rfl) (pc' := 37) rfl rfl ?_
  refine g_bipush ok (dk m_Tr_init 19 rfl) (pc' := 39) rfl (v := 31) (by decide) ?_
  refine g_iconst ok (dk m_Tr_init 20 rfl) (pc' := 40) rfl (v := (-1)) (by decide) ?_
  refine g_callI ok (dk m_Tr_init 21 rfl) (pc' := 43) rfl c_Tr_11 (c_Row_init g (-1) 1 (by omega) (N := 31) (q_up_s _ _ _) (by decide) (by decide)) rfl rfl (by simp [Value.category]) (by omega) rfl (rc' := (mc - 6)) (rs' := (ms - 96)) (by omega) (by omega) (fun rv h' hcc => ?_) (fun i h' hcc => by obtain ⟨e, -⟩ := hcc; cases e)
  obtain ⟨e, c2, hc2, hcb2, e2⟩ := hcc
  cases e
  obtain ⟨a2, b2, p2, n2, q2, d2⟩ := mk_row hr2 hc2 e2
  clear e2
  have x0_2 : c0 ≠ c2 := q_on B0 n2
  have x1_2 : c1 ≠ c2 := q_on B1 n2
  refine g_put ok (dk m_Tr_init 22 rfl) (pc' := 46) rfl f_Tr_23 (Or.inr rfl) (p2 _ _ s1) (Nat.le_of_ble_eq_true rfl) rfl rfl ?_
  refine g_gen (fun v2 e2 => ?_)
  have s2 : v2 s = some (.inl (6, [.ref r0, .ref r1, .ref r2, .null, .int 0])) := by rw [e2, q_up_s]; rfl
  have P2 : ∀ y o, v1 y = some o → y ≠ s → v2 y = some o := fun y o hy hne => by rw [e2, q_up_n hne]; exact p2 y o hy
  have Q2 : ∀ y, v1 y = none → y ≠ r2 → y ≠ c2 → v2 y = none := fun y hy h1 h2 => by rw [e2, q_up_n (fun e => by rw [e, s1] at hy; cases hy)]; exact q2 y hy h1 h2
  have A2 : v2 r2 = some (.inl (2, [.ref c2])) := by rw [e2, q_up_n (fun e => by rw [e, p2 _ _ s1] at a2; cases a2)]; exact a2
  have B2 : v2 c2 = some (.inr (0, 31, .inl (r_fill 31 (fun _ => 0) (-1)))) := by rw [e2, q_up_n (fun e => by rw [e, p2 _ _ s1] at b2; cases b2)]; exact b2
  have nr2 : r2 ≠ s := fun e => by rw [e, s2] at A2; cases A2
  have nc2 : c2 ≠ s := fun e => by rw [e, s2] at B2; cases B2
  replace A0 := P2 _ _ A0 nr0
  replace B0 := P2 _ _ B0 nc0
  replace A1 := P2 _ _ A1 nr1
  replace B1 := P2 _ _ B1 nc1
  clear e2
  refine g_aload_n ok (dk m_Tr_init 23 rfl) (pc' := 47) rfl (i := 0) rfl rfl ?_
  refine g_new ok (dk m_Tr_init 24 rfl) (pc' := 50) rfl o_Tr_9 (rc' := (mc - 7)) (rs' := (ms - 97)) (by omega) (by omega) (fun r3 hr3 hrb3 => ?_)
  refine g_dup ok (dk m_Tr_init 25 rfl) (pc' := 51) rfl rfl ?_
  refine g_bipush ok (dk m_Tr_init 26 rfl) (pc' := 53) rfl (v := 16) (by decide) ?_
  refine g_iconst ok (dk m_Tr_init 27 rfl) (pc' := 54) rfl (v := (-1)) (by decide) ?_
  refine g_callI ok (dk m_Tr_init 28 rfl) (pc' := 57) rfl c_Tr_11 (c_Row_init g (-1) 1 (by omega) (N := 16) (q_up_s _ _ _) (by decide) (by decide)) rfl rfl (by simp [Value.category]) (by omega) rfl (rc' := (mc - 8)) (rs' := (ms - 113)) (by omega) (by omega) (fun rv h' hcc => ?_) (fun i h' hcc => by obtain ⟨e, -⟩ := hcc; cases e)
  obtain ⟨e, c3, hc3, hcb3, e2⟩ := hcc
  cases e
  obtain ⟨a3, b3, p3, n3, q3, d3⟩ := mk_row hr3 hc3 e2
  clear e2
  have x0_3 : c0 ≠ c3 := q_on B0 n3
  have x1_3 : c1 ≠ c3 := q_on B1 n3
  have x2_3 : c2 ≠ c3 := q_on B2 n3
  refine g_put ok (dk m_Tr_init 29 rfl) (pc' := 60) rfl f_Tr_26 (Or.inr rfl) (p3 _ _ s2) (Nat.le_of_ble_eq_true rfl) rfl rfl ?_
  refine g_gen (fun v3 e3 => ?_)
  have s3 : v3 s = some (.inl (6, [.ref r0, .ref r1, .ref r2, .ref r3, .int 0])) := by rw [e3, q_up_s]; rfl
  have P3 : ∀ y o, v2 y = some o → y ≠ s → v3 y = some o := fun y o hy hne => by rw [e3, q_up_n hne]; exact p3 y o hy
  have Q3 : ∀ y, v2 y = none → y ≠ r3 → y ≠ c3 → v3 y = none := fun y hy h1 h2 => by rw [e3, q_up_n (fun e => by rw [e, s2] at hy; cases hy)]; exact q3 y hy h1 h2
  have A3 : v3 r3 = some (.inl (2, [.ref c3])) := by rw [e3, q_up_n (fun e => by rw [e, p3 _ _ s2] at a3; cases a3)]; exact a3
  have B3 : v3 c3 = some (.inr (0, 16, .inl (r_fill 16 (fun _ => 0) (-1)))) := by rw [e3, q_up_n (fun e => by rw [e, p3 _ _ s2] at b3; cases b3)]; exact b3
  have nr3 : r3 ≠ s := fun e => by rw [e, s3] at A3; cases A3
  have nc3 : c3 ≠ s := fun e => by rw [e, s3] at B3; cases B3
  replace A0 := P3 _ _ A0 nr0
  replace B0 := P3 _ _ B0 nc0
  replace A1 := P3 _ _ A1 nr1
  replace B1 := P3 _ _ B1 nc1
  replace A2 := P3 _ _ A2 nr2
  replace B2 := P3 _ _ B2 nc2
  clear e3
  refine g_aload_n ok (dk m_Tr_init 30 rfl) (pc' := 61) rfl (i := 0) rfl rfl ?_
  refine g_iconst ok (dk m_Tr_init 31 rfl) (pc' := 62) rfl (v := 0) (by decide) ?_
  refine g_put ok (dk m_Tr_init 32 rfl) (pc' := 65) rfl f_Tr_29 (Or.inl rfl) s3 (Nat.le_of_ble_eq_true rfl) rfl rfl ?_
  refine g_gen (fun w0 f0 => ?_)
  have t0 : w0 s = some (.inl (6, [.ref r0, .ref r1, .ref r2, .ref r3, .int 0])) := by rw [f0, q_up_s]; rfl
  have R0 : ∀ y, y ≠ s → w0 y = v3 y := fun y hy => by rw [f0, q_up_n hy]
  replace A0 := (R0 _ nr0).trans A0
  replace B0 := (R0 _ nc0).trans B0
  replace A1 := (R0 _ nr1).trans A1
  replace B1 := (R0 _ nc1).trans B1
  replace A2 := (R0 _ nr2).trans A2
  replace B2 := (R0 _ nc2).trans B2
  replace A3 := (R0 _ nr3).trans A3
  replace B3 := (R0 _ nc3).trans B3
  clear f0
  refine g_vret ok (dk m_Tr_init 33 rfl) rfl ⟨rfl, (fun i => if i = 0 then r0 else if i = 1 then r1 else if i = 2 then r2 else r3), (fun i => if i = 0 then c0 else if i = 1 then c1 else if i = 2 then c2 else c3), ?_⟩
  have htr : q_tree w0 s (fun i => if i = 0 then r0 else if i = 1 then r1 else if i = 2 then r2 else r3) (fun i => if i = 0 then c0 else if i = 1 then c1 else if i = 2 then c2 else c3) T_new := by
    refine ⟨t0, fun i hi => ?_, fun i j hi hj => ?_⟩
    · rcases (show i = 0 ∨ i = 1 ∨ i = 2 ∨ i = 3 by omega) with rfl | rfl | rfl | rfl
      · exact ⟨A0, B0⟩
      · exact ⟨A1, B1⟩
      · exact ⟨A2, B2⟩
      · exact ⟨A3, B3⟩
    · rcases (show i = 0 ∨ i = 1 ∨ i = 2 ∨ i = 3 by omega) with rfl | rfl | rfl | rfl <;> rcases (show j = 0 ∨ j = 1 ∨ j = 2 ∨ j = 3 by omega) with rfl | rfl | rfl | rfl <;> intro e <;> first | rfl | exact absurd e (by assumption) | exact absurd e.symm (by assumption)
  refine ⟨htr, ?_, ?_, ?_⟩
  · intro y o hy hne
    rw [R0 y hne]
    exact P3 y o (P2 y o (P1 y o (P0 y o hy hne) hne) hne) hne
  · have N : ∀ (y : Nat), y ≠ s → (∀ o, h y = some o → False) → h y = none := fun y _ hf => by
      cases e : h y with
      | none => rfl
      | some o => exact absurd e (fun z => hf o z)
    intro i hi
    rcases (show i = 0 ∨ i = 1 ∨ i = 2 ∨ i = 3 by omega) with rfl | rfl | rfl | rfl
    · exact ⟨hr0, n0⟩
    · exact ⟨N r1 nr1 (fun o ho => by have hne := nr1; have hh := (P0 r1 _ ho hne); rw [hr1] at hh; cases hh), N c1 nc1 (fun o ho => by have hne := nc1; have hh := (P0 c1 _ ho hne); rw [n1] at hh; cases hh)⟩
    · exact ⟨N r2 nr2 (fun o ho => by have hne := nr2; have hh := (P1 r2 _ (P0 r2 _ ho hne) hne); rw [hr2] at hh; cases hh), N c2 nc2 (fun o ho => by have hne := nc2; have hh := (P1 c2 _ (P0 c2 _ ho hne) hne); rw [n2] at hh; cases hh)⟩
    · exact ⟨N r3 nr3 (fun o ho => by have hne := nr3; have hh := (P2 r3 _ (P1 r3 _ (P0 r3 _ ho hne) hne) hne); rw [hr3] at hh; cases hh), N c3 nc3 (fun o ho => by have hne := nc3; have hh := (P2 c3 _ (P1 c3 _ (P0 c3 _ ho hne) hne) hne); rw [n3] at hh; cases hh)⟩
  · intro y hy hall
    have hys : y ≠ s := fun e => by rw [e, hs0] at hy; cases hy
    have k0 := Q0 y hy (hall 0 (by decide)).1 (hall 0 (by decide)).2
    have k1 := Q1 y k0 (hall 1 (by decide)).1 (hall 1 (by decide)).2
    have k2 := Q2 y k1 (hall 2 (by decide)).1 (hall 2 (by decide)).2
    have k3 := Q3 y k2 (hall 3 (by decide)).1 (hall 3 (by decide)).2
    rw [R0 y hys]
    exact k3
end
section
/-! ===== Epoch ===== -/
abbrev e_T : Type := (Nat → Int32) × tr_T × (Nat → Int32)
abbrev e_fs (t pr : Nat) (E : Nat → Int32) : List Value := [.int (E 0), .int (E 1), .ref t, .ref pr, .int (E 2), .int (E 3), .int (E 4), .int (E 5), .int (E 6), .int (E 7)]
def q_ep (h : q_H) (e t pr pb : Nat) (ra rb : Nat → Nat) (E : e_T) : Prop := h e = some (.inl (5, e_fs t pr E.1)) ∧ q_tree h t ra rb E.2.1 ∧ h pr = some (.inl (2, [.ref pb])) ∧ h pb = some (.inr (0, 5, .inl E.2.2)) ∧ ∀ i, i < 4 → rb i ≠ pb
def ep_A (e t pr pb : Nat) (ra rb : Nat → Nat) : Nat → Prop := fun y => y = e ∨ y = t ∨ y = pr ∨ y = pb ∨ ∃ i, i < 4 ∧ (y = ra i ∨ y = rb i)
def ep_P (e t pb : Nat) (rb : Nat → Nat) : Nat → Prop := fun y => y = e ∨ y = pb ∨ tr_P t rb y
def s_A (s : Nat) (ra rb : Nat → Nat) : Nat → Prop := fun y => y = s ∨ ∃ i, i < 6 ∧ (y = ra i ∨ y = rb i)
theorem q_ep.off {h h' : q_H} {e t pr pb : Nat} {ra rb : Nat → Nat} {E : e_T} {X : Nat → Prop} (he : q_ep h e t pr pb ra rb E) (ho : q_off h h' X) (hA : ∀ y, ep_A e t pr pb ra rb y → ¬ X y) : q_ep h' e t pr pb ra rb E := by
  obtain ⟨h1, h2, h3, h4, h5⟩ := he
  exact ⟨(ho _ (hA _ (Or.inl rfl))).trans h1, h2.off ho (hA _ (Or.inr (Or.inl rfl))) (fun i hi => ⟨hA _ (Or.inr (Or.inr (Or.inr (Or.inr ⟨i, hi, Or.inl rfl⟩)))), hA _ (Or.inr (Or.inr (Or.inr (Or.inr ⟨i, hi, Or.inr rfl⟩))))⟩), (ho _ (hA _ (Or.inr (Or.inr (Or.inl rfl))))).trans h3, (ho _ (hA _ (Or.inr (Or.inr (Or.inr (Or.inl rfl)))))).trans h4, h5⟩
theorem q_sec.off {h h' : q_H} {s : Nat} {ra rb : Nat → Nat} {S : s_T} {X : Nat → Prop} (hs : q_sec h s ra rb S) (ho : q_off h h' X) (hA : ∀ y, s_A s ra rb y → ¬ X y) : q_sec h' s ra rb S := by
  obtain ⟨h1, h2, h3⟩ := hs
  exact ⟨(ho _ (hA _ (Or.inl rfl))).trans h1, fun i hi => ⟨(ho _ (hA _ (Or.inr ⟨i, hi, Or.inl rfl⟩))).trans (h2 i hi).1, (ho _ (hA _ (Or.inr ⟨i, hi, Or.inr rfl⟩))).trans (h2 i hi).2⟩, h3⟩
theorem q_off.wk {h h' : q_H} {X Y : Nat → Prop} (ho : q_off h h' X) (hXY : ∀ y, X y → Y y) : q_off h h' Y := fun y hy => ho y (fun z => hy (hXY y z))
theorem q_ep.intE {h h' : q_H} {e t pr pb : Nat} {ra rb : Nat → Nat} {E : e_T} (he : q_ep h e t pr pb ra rb E) (k p : Nat) (hk : (k = 2 ∧ p = 4) ∨ (k = 3 ∧ p = 5) ∨ (k = 4 ∧ p = 6) ∨ (k = 5 ∧ p = 7) ∨ (k = 6 ∧ p = 8) ∨ (k = 7 ∧ p = 9)) {v : Int32} (e1 : h' = q_up h e (.inl (5, (e_fs t pr E.1).set p (.int v)))) : q_ep h' e t pr pb ra rb (upd E.1 k v, E.2) := by
  obtain ⟨h1, h2, h3, h4, h5⟩ := he
  have hne : ∀ {a : Nat} {x : Nat × List Value}, h a = some (.inl x) → x.1 ≠ 5 → a ≠ e := fun ha hx z => by
    rw [z, h1] at ha
    cases ha
    exact hx rfl
  subst e1
  refine ⟨?_, ⟨?_, h2.2.kept (fun i hi => ⟨?_, ?_⟩)⟩, ?_, ?_, h5⟩
  · rw [q_up_s]
    rcases hk with ⟨rfl, rfl⟩ | ⟨rfl, rfl⟩ | ⟨rfl, rfl⟩ | ⟨rfl, rfl⟩ | ⟨rfl, rfl⟩ | ⟨rfl, rfl⟩ <;> rfl
  · rw [q_up_n (hne h2.1 (show (6 : Nat) ≠ 5 by decide))]
    exact h2.1
  · rw [q_up_n (hne (h2.2.1 i hi).1 (show (2 : Nat) ≠ 5 by decide))]
  · rw [q_up_n (q_oa h1 (h2.2.1 i hi).2).symm]
  · rw [q_up_n (hne h3 (show (2 : Nat) ≠ 5 by decide))]
    exact h3
  · rw [q_up_n (q_oa h1 h4).symm]
    exact h4
def E_bes (E : e_T) (t : Int32) : Int32 := j_node (E.1 1 ^^^ ((1 : Int32) <<< ((t - 1) &&& 31))) (t - 1)
noncomputable def E_rdr (E : e_T) (t : Int32) : Int32 := T_reso E.2.1 (E_bes E t) &&& (j_nl (E.1 6) 16 0 0 ^^^ (-1))
noncomputable def E_lc (E : e_T) (l : Int32) : Nat → Nat → Int32
  | 0, _ => -1
  | m + 1, k => by classical exact if j_in (E.1 3) (j_node l (nI k)) then nI k else E_lc E l m (k + 1)
def E_lets (E : e_T) (l : Int32) : Prop := ¬ l = E.1 1 ∧ ¬ j_in (E.1 4) l
def E_need (E : e_T) (a : Int32) : Prop := ¬ a = 0 ∨ ¬ (E.1 4 ||| E.1 5) = 0 ∨ E.1 6 = 0
set_option maxHeartbeats 1000000 in
theorem c_Ep_lets (g : q_G) {h : q_H} {e t pr pb : Nat} {ra rb : Nat → Nat} {E : e_T} {v : Nat} {l k : Int32} (d : Nat) (hd : 1 ≤ d) (hv : h v = some (.inl (10, [.int l, .int k]))) (he : q_ep h e t pr pb ra rb E) : MG g y_Ep_lets b_Ep_lets 2 (some .boolean) d 0 0 [.ref e, .ref v] h (fun q h' => q = .inl (some (.int (b2i (E_lets E l)))) ∧ h' = h) := by
  refine MG.of (by decide +kernel) (by simp [Value.category]) (Nat.le_of_ble_eq_true rfl) ?_
  intro Z A ok
  refine g_aload_n ok (dk m_Ep_lets 0 rfl) (pc' := 1) rfl (i := 1) rfl rfl ?_
  refine g_getR ok (dk m_Ep_lets 1 rfl) (pc' := 4) rfl f_Ep_52 hv rfl ?_
  refine g_aload_n ok (dk m_Ep_lets 2 rfl) (pc' := 5) rfl (i := 0) rfl rfl ?_
  refine g_get ok (dk m_Ep_lets 3 rfl) (pc' := 8) rfl f_Ep_49 he.1 rfl ?_
  refine g_icmp_eq ok (dk m_Ep_lets 4 rfl) (tgt := 29) (by decide) (pc' := 11) rfl (fun c_8 => ?_) (fun c_8 => ?_)
  · refine g_iconst ok (dk m_Ep_lets 13 rfl) (pc' := 30) rfl (v := 0) (by decide) ?_
    exact g_iret ok (dk m_Ep_lets 14 rfl) rfl rfl ⟨by rw [b2i_f (p := E_lets E l) (fun z => z.1 c_8)], rfl⟩
  · refine g_aload_n ok (dk m_Ep_lets 5 rfl) (pc' := 12) rfl (i := 0) rfl rfl ?_
    refine g_get ok (dk m_Ep_lets 6 rfl) (pc' := 15) rfl f_Ep_34 he.1 rfl ?_
    refine g_aload_n ok (dk m_Ep_lets 7 rfl) (pc' := 16) rfl (i := 1) rfl rfl ?_
    refine g_getR ok (dk m_Ep_lets 8 rfl) (pc' := 19) rfl f_Ep_52 hv rfl ?_
    refine g_callSN ok (dk m_Ep_lets 9 rfl) (pc' := 22) rfl c_Ep_57 (c_RG_isIn g (E.1 4) l 0) rfl rfl (by simp [Value.category]) (by omega) rfl (rc' := 0) (rs' := 0) (by omega) (by omega) (fun rv h' hcc => ?_) (fun i h' hcc => by obtain ⟨e9, -⟩ := hcc; cases e9)
    obtain ⟨e9, e2⟩ := hcc
    have e3 := e2.symm
    subst e3
    cases e9
    refine g_if_ne ok (dk m_Ep_lets 10 rfl) (tgt := 29) (by decide) (pc' := 25) rfl (fun c_22 => ?_) (fun c_22 => ?_)
    · refine g_iconst ok (dk m_Ep_lets 13 rfl) (pc' := 30) rfl (v := 0) (by decide) ?_
      exact g_iret ok (dk m_Ep_lets 14 rfl) rfl rfl ⟨by rw [b2i_f (p := E_lets E l) (fun z => z.2 (b2i_n c_22))], rfl⟩
    · refine g_iconst ok (dk m_Ep_lets 11 rfl) (pc' := 26) rfl (v := 1) (by decide) ?_
      refine g_goto ok (dk m_Ep_lets 12 rfl) (pc' := 30) (by decide) ?_
      exact g_iret ok (dk m_Ep_lets 14 rfl) rfl rfl ⟨by rw [b2i_t (p := E_lets E l) ⟨c_8, b2i_0 c_22⟩], rfl⟩
set_option maxHeartbeats 1000000 in
theorem c_Ep_needsPath (g : q_G) {h : q_H} {e t pr pb : Nat} {ra rb : Nat → Nat} {E : e_T} (a : Int32) (d : Nat) (he : q_ep h e t pr pb ra rb E) : MG g y_Ep_needsPath b_Ep_needsPath 2 (some .boolean) d 0 0 [.ref e, .int a] h (fun q h' => q = .inl (some (.int (b2i (E_need E a)))) ∧ h' = h) := by
  refine MG.of (by decide +kernel) (by simp [Value.category]) (Nat.le_of_ble_eq_true rfl) ?_
  intro Z A ok
  refine g_iload_n ok (dk m_Ep_needsPath 0 rfl) (pc' := 1) rfl (i := 1) rfl rfl ?_
  refine g_if_ne ok (dk m_Ep_needsPath 1 rfl) (tgt := 23) (by decide) (pc' := 4) rfl (fun c_1 => ?_) (fun c_1 => ?_)
  · refine g_iconst ok (dk m_Ep_needsPath 11 rfl) (pc' := 24) rfl (v := 1) (by decide) ?_
    refine g_goto ok (dk m_Ep_needsPath 12 rfl) (pc' := 28) (by decide) ?_
    exact g_iret ok (dk m_Ep_needsPath 14 rfl) rfl rfl ⟨by rw [b2i_t (p := E_need E a) (Or.inl c_1)], rfl⟩
  · refine g_aload_n ok (dk m_Ep_needsPath 2 rfl) (pc' := 5) rfl (i := 0) rfl rfl ?_
    refine g_get ok (dk m_Ep_needsPath 3 rfl) (pc' := 8) rfl f_Ep_34 he.1 rfl ?_
    refine g_aload_n ok (dk m_Ep_needsPath 4 rfl) (pc' := 9) rfl (i := 0) rfl rfl ?_
    refine g_get ok (dk m_Ep_needsPath 5 rfl) (pc' := 12) rfl f_Ep_37 he.1 rfl ?_
    refine g_ior ok (dk m_Ep_needsPath 6 rfl) (pc' := 13) rfl ?_
    refine g_if_ne ok (dk m_Ep_needsPath 7 rfl) (tgt := 23) (by decide) (pc' := 16) rfl (fun c_13 => ?_) (fun c_13 => ?_)
    · refine g_iconst ok (dk m_Ep_needsPath 11 rfl) (pc' := 24) rfl (v := 1) (by decide) ?_
      refine g_goto ok (dk m_Ep_needsPath 12 rfl) (pc' := 28) (by decide) ?_
      exact g_iret ok (dk m_Ep_needsPath 14 rfl) rfl rfl ⟨by rw [b2i_t (p := E_need E a) (Or.inr (Or.inl c_13))], rfl⟩
    · refine g_aload_n ok (dk m_Ep_needsPath 8 rfl) (pc' := 17) rfl (i := 0) rfl rfl ?_
      refine g_get ok (dk m_Ep_needsPath 9 rfl) (pc' := 20) rfl f_Ep_40 he.1 rfl ?_
      refine g_if_ne ok (dk m_Ep_needsPath 10 rfl) (tgt := 27) (by decide) (pc' := 23) rfl (fun c_20 => ?_) (fun c_20 => ?_)
      · refine g_iconst ok (dk m_Ep_needsPath 13 rfl) (pc' := 28) rfl (v := 0) (by decide) ?_
        exact g_iret ok (dk m_Ep_needsPath 14 rfl) rfl rfl ⟨by rw [b2i_f (p := E_need E a) (fun z => by rcases z with z | z | z; exact z c_1; exact z c_13; exact c_20 z)], rfl⟩
      · refine g_iconst ok (dk m_Ep_needsPath 11 rfl) (pc' := 24) rfl (v := 1) (by decide) ?_
        refine g_goto ok (dk m_Ep_needsPath 12 rfl) (pc' := 28) (by decide) ?_
        exact g_iret ok (dk m_Ep_needsPath 14 rfl) rfl rfl ⟨by rw [b2i_t (p := E_need E a) (Or.inr (Or.inr c_20))], rfl⟩
set_option maxHeartbeats 1000000 in
theorem c_Ep_nodeBesidePath (g : q_G) {h : q_H} {e t pr pb : Nat} {ra rb : Nat → Nat} {E : e_T} (x : Int32) (d : Nat) (hd : 1 ≤ d) (he : q_ep h e t pr pb ra rb E) : MG g y_Ep_nodeBesidePath b_Ep_nodeBesidePath 3 (some .int) d 0 0 [.ref e, .int x] h (fun q h' => q = .inl (some (.int (E_bes E x))) ∧ h' = h) := by
  refine MG.of (by decide +kernel) (by simp [Value.category]) (Nat.le_of_ble_eq_true rfl) ?_
  intro Z A ok
  refine g_iload_n ok (dk m_Ep_nodeBesidePath 0 rfl) (pc' := 1) rfl (i := 1) rfl rfl ?_
  refine g_iconst ok (dk m_Ep_nodeBesidePath 1 rfl) (pc' := 2) rfl (v := 1) (by decide) ?_
  refine g_isub ok (dk m_Ep_nodeBesidePath 2 rfl) (pc' := 3) rfl ?_
  refine g_istore_n ok (dk m_Ep_nodeBesidePath 3 rfl) (pc' := 4) rfl (i := 2) rfl (Nat.le_of_ble_eq_true rfl) rfl ?_
  refine g_aload_n ok (dk m_Ep_nodeBesidePath 4 rfl) (pc' := 5) rfl (i := 0) rfl rfl ?_
  refine g_get ok (dk m_Ep_nodeBesidePath 5 rfl) (pc' := 8) rfl f_Ep_49 he.1 rfl ?_
  refine g_iconst ok (dk m_Ep_nodeBesidePath 6 rfl) (pc' := 9) rfl (v := 1) (by decide) ?_
  refine g_iload_n ok (dk m_Ep_nodeBesidePath 7 rfl) (pc' := 10) rfl (i := 2) rfl rfl ?_
  refine g_ishl ok (dk m_Ep_nodeBesidePath 8 rfl) (pc' := 11) rfl ?_
  refine g_ixor ok (dk m_Ep_nodeBesidePath 9 rfl) (pc' := 12) rfl ?_
  refine g_iload_n ok (dk m_Ep_nodeBesidePath 10 rfl) (pc' := 13) rfl (i := 2) rfl rfl ?_
  refine g_callS ok (dk m_Ep_nodeBesidePath 11 rfl) (pc' := 16) rfl c_Ep_61 (c_Tr_nodeOver g (E.1 1 ^^^ ((1 : Int32) <<< ((x - 1) &&& 31))) (x - 1) 0) rfl rfl (by simp [Value.category]) (by omega) rfl (rc' := 0) (rs' := 0) (by omega) (by omega) (fun rv h' hcc => ?_) (fun i h' hcc => by obtain ⟨e9, -⟩ := hcc; cases e9)
  obtain ⟨e9, e2⟩ := hcc
  have e3 := e2.symm
  subst e3
  cases e9
  exact g_iret ok (dk m_Ep_nodeBesidePath 12 rfl) rfl rfl ⟨rfl, rfl⟩
set_option maxHeartbeats 1000000 in
theorem c_Ep_readersOf (g : q_G) {h : q_H} {e t pr pb : Nat} {ra rb : Nat → Nat} {E : e_T} (x : Int32) (d : Nat) (hd : 7 ≤ d) (he : q_ep h e t pr pb ra rb E) : MG g y_Ep_readersOf b_Ep_readersOf 2 (some .int) d 0 0 [.ref e, .int x] h (fun q h' => q = .inl (some (.int (E_rdr E x))) ∧ h' = h) := by
  refine MG.of (by decide +kernel) (by simp [Value.category]) (Nat.le_of_ble_eq_true rfl) ?_
  intro Z A ok
  refine g_aload_n ok (dk m_Ep_readersOf 0 rfl) (pc' := 1) rfl (i := 0) rfl rfl ?_
  refine g_get ok (dk m_Ep_readersOf 1 rfl) (pc' := 4) rfl f_Ep_12 he.1 rfl ?_
  refine g_aload_n ok (dk m_Ep_readersOf 2 rfl) (pc' := 5) rfl (i := 0) rfl rfl ?_
  refine g_iload_n ok (dk m_Ep_readersOf 3 rfl) (pc' := 6) rfl (i := 1) rfl rfl ?_
  refine g_callV ok (dk m_Ep_readersOf 4 rfl) (pc' := 9) rfl c_Ep_78 (c_Ep_nodeBesidePath g x 1 (by omega) he) he.1 rfl rfl (by simp [Value.category]) (by omega) rfl (rc' := 0) (rs' := 0) (by omega) (by omega) (fun rv h' hcc => ?_) (fun i h' hcc => by obtain ⟨e9, -⟩ := hcc; cases e9)
  obtain ⟨e9, e2⟩ := hcc
  have e3 := e2.symm
  subst e3
  cases e9
  refine g_callV ok (dk m_Ep_readersOf 5 rfl) (pc' := 12) rfl c_Ep_82 (c_Tr_resolution g (E_bes E x) 6 (by omega) he.2.1) he.2.1.1 rfl rfl (by simp [Value.category]) (by omega) rfl (rc' := 0) (rs' := 0) (by omega) (by omega) (fun rv h' hcc => ?_) (fun i h' hcc => by obtain ⟨e9, -⟩ := hcc; cases e9)
  obtain ⟨e9, e2⟩ := hcc
  have e3 := e2.symm
  subst e3
  cases e9
  refine g_aload_n ok (dk m_Ep_readersOf 6 rfl) (pc' := 13) rfl (i := 0) rfl rfl ?_
  refine g_get ok (dk m_Ep_readersOf 7 rfl) (pc' := 16) rfl f_Ep_40 he.1 rfl ?_
  refine g_callS ok (dk m_Ep_readersOf 8 rfl) (pc' := 19) rfl c_Ep_115 (c_Tr_nodesOfLeaves g (E.1 6) 0) rfl rfl (by simp [Value.category]) (by omega) rfl (rc' := 0) (rs' := 0) (by omega) (by omega) (fun rv h' hcc => ?_) (fun i h' hcc => by obtain ⟨e9, -⟩ := hcc; cases e9)
  obtain ⟨e9, e2⟩ := hcc
  have e3 := e2.symm
  subst e3
  cases e9
  refine g_iconst ok (dk m_Ep_readersOf 9 rfl) (pc' := 20) rfl (v := (-1)) (by decide) ?_
  refine g_ixor ok (dk m_Ep_readersOf 10 rfl) (pc' := 21) rfl ?_
  refine g_iand ok (dk m_Ep_readersOf 11 rfl) (pc' := 22) rfl ?_
  exact g_iret ok (dk m_Ep_readersOf 12 rfl) rfl rfl ⟨rfl, rfl⟩
set_option maxHeartbeats 1000000 in
theorem c_Ep_lowestCountingOver (g : q_G) {h : q_H} {e t pr pb : Nat} {ra rb : Nat → Nat} {E : e_T} (l : Int32) (d : Nat) (hd : 1 ≤ d) (hT : E.2.1.2 ≤ 4) (he : q_ep h e t pr pb ra rb E) : MG g y_Ep_lowestCountingOver b_Ep_lowestCountingOver 3 (some .int) d 0 0 [.ref e, .int l] h (fun q h' => q = .inl (some (.int (E_lc E l E.2.1.2 1))) ∧ h' = h) := by
  refine MG.of (by decide +kernel) (by simp [Value.category]) (Nat.le_of_ble_eq_true rfl) ?_
  intro Z A ok
  have loop : ∀ (m k : Nat), k + m = E.2.1.2 + 1 → E_lc E l m k = E_lc E l E.2.1.2 1 → GW g Z A (fun q h' => q = .inl (some (.int (E_lc E l E.2.1.2 1))) ∧ h' = h) 0 0 h 2 [some (.ref e), some (.int l), some (.int (nI k))] [] := by
    intro m
    induction m with
    | zero =>
      intro k hk hv
      refine g_iload_n ok (dk m_Ep_lowestCountingOver 2 rfl) (pc' := 3) rfl (i := 2) rfl rfl ?_
      refine g_aload_n ok (dk m_Ep_lowestCountingOver 3 rfl) (pc' := 4) rfl (i := 0) rfl rfl ?_
      refine g_get ok (dk m_Ep_lowestCountingOver 4 rfl) (pc' := 7) rfl f_Ep_12 he.1 rfl ?_
      refine g_get ok (dk m_Ep_lowestCountingOver 5 rfl) (pc' := 10) rfl f_Ep_75 he.2.1.1 rfl ?_
      refine g_icmp_gt ok (dk m_Ep_lowestCountingOver 6 rfl) (tgt := 36) (by decide) (pc' := 13) rfl (fun c_10 => ?_) (fun c_10 => absurd (nI_lt (a := E.2.1.2) (b := k) (by omega) (by omega)) c_10)
      refine g_iconst ok (dk m_Ep_lowestCountingOver 18 rfl) (pc' := 37) rfl (v := (-1)) (by decide) ?_
      exact g_iret ok (dk m_Ep_lowestCountingOver 19 rfl) rfl rfl ⟨by rw [← hv]; rfl, rfl⟩
    | succ m ih =>
      intro k hk hv
      refine g_iload_n ok (dk m_Ep_lowestCountingOver 2 rfl) (pc' := 3) rfl (i := 2) rfl rfl ?_
      refine g_aload_n ok (dk m_Ep_lowestCountingOver 3 rfl) (pc' := 4) rfl (i := 0) rfl rfl ?_
      refine g_get ok (dk m_Ep_lowestCountingOver 4 rfl) (pc' := 7) rfl f_Ep_12 he.1 rfl ?_
      refine g_get ok (dk m_Ep_lowestCountingOver 5 rfl) (pc' := 10) rfl f_Ep_75 he.2.1.1 rfl ?_
      refine g_icmp_gt ok (dk m_Ep_lowestCountingOver 6 rfl) (tgt := 36) (by decide) (pc' := 13) rfl (fun c_10 => absurd c_10 (nI_nlt (a := E.2.1.2) (b := k) (by omega) (by omega))) (fun c_10 => ?_)
      refine g_aload_n ok (dk m_Ep_lowestCountingOver 7 rfl) (pc' := 14) rfl (i := 0) rfl rfl ?_
      refine g_get ok (dk m_Ep_lowestCountingOver 8 rfl) (pc' := 17) rfl f_Ep_31 he.1 rfl ?_
      refine g_iload_n ok (dk m_Ep_lowestCountingOver 9 rfl) (pc' := 18) rfl (i := 1) rfl rfl ?_
      refine g_iload_n ok (dk m_Ep_lowestCountingOver 10 rfl) (pc' := 19) rfl (i := 2) rfl rfl ?_
      refine g_callS ok (dk m_Ep_lowestCountingOver 11 rfl) (pc' := 22) rfl c_Ep_61 (c_Tr_nodeOver g l (nI k) 0) rfl rfl (by simp [Value.category]) (by omega) rfl (rc' := 0) (rs' := 0) (by omega) (by omega) (fun rv h' hcc => ?_) (fun i h' hcc => by obtain ⟨e9, -⟩ := hcc; cases e9)
      obtain ⟨e9, e2⟩ := hcc
      have e3 := e2.symm
      subst e3
      cases e9
      refine g_callSN ok (dk m_Ep_lowestCountingOver 12 rfl) (pc' := 25) rfl c_Ep_57 (c_RG_isIn g (E.1 3) (j_node l (nI k)) 0) rfl rfl (by simp [Value.category]) (by omega) rfl (rc' := 0) (rs' := 0) (by omega) (by omega) (fun rv h' hcc => ?_) (fun i h' hcc => by obtain ⟨e9, -⟩ := hcc; cases e9)
      obtain ⟨e9, e2⟩ := hcc
      have e3 := e2.symm
      subst e3
      cases e9
      refine g_if_eq ok (dk m_Ep_lowestCountingOver 13 rfl) (tgt := 30) (by decide) (pc' := 28) rfl (fun c_25 => ?_) (fun c_25 => ?_)
      · refine g_iinc ok (dk m_Ep_lowestCountingOver 16 rfl) (pc' := 33) rfl rfl (nI_1 k) rfl ?_
        refine g_goto ok (dk m_Ep_lowestCountingOver 17 rfl) (pc' := 2) (by decide) ?_
        exact ih (k + 1) (by omega) (by rw [← hv, E_lc, if_neg (b2i_0 c_25)])
      · refine g_iload_n ok (dk m_Ep_lowestCountingOver 14 rfl) (pc' := 29) rfl (i := 2) rfl rfl ?_
        exact g_iret ok (dk m_Ep_lowestCountingOver 15 rfl) rfl rfl ⟨by rw [← hv, E_lc, if_pos (b2i_n c_25)], rfl⟩
  refine g_iconst ok (dk m_Ep_lowestCountingOver 0 rfl) (pc' := 1) rfl (v := 1) (by decide) ?_
  refine g_istore_n ok (dk m_Ep_lowestCountingOver 1 rfl) (pc' := 2) rfl (i := 2) rfl (Nat.le_of_ble_eq_true rfl) rfl ?_
  exact loop E.2.1.2 1 (by omega) rfl
/-- the epoch and the secrets lie apart -/
def q_es (e t pr pb : Nat) (ra rb : Nat → Nat) (s : Nat) (sa sb : Nat → Nat) : Prop := (∀ y, ep_A e t pr pb ra rb y → ¬ s_P s sb y) ∧ ∀ y, s_A s sa sb y → ¬ ep_P e t pb rb y
def q_EP (e t pb : Nat) (rb : Nat → Nat) (s : Nat) (sb : Nat → Nat) : Nat → Prop := fun y => ep_P e t pb rb y ∨ s_P s sb y
def E_enc (E : e_T) : e_T := (upd E.1 7 (E.1 7 + 1), E.2)
set_option maxHeartbeats 1000000 in
theorem c_Ep_encrypt (g : q_G) {h : q_H} {e t pr pb : Nat} {ra rb : Nat → Nat} {E : e_T} (k w : Int32) (d : Nat) (hd : 3 ≤ d) (he : q_ep h e t pr pb ra rb E) {s : Nat} {sa sb : Nat → Nat} {S : s_T} (hs : q_sec h s sa sb S) (hap : q_es e t pr pb ra rb s sa sb) : MG g y_Ep_encrypt b_Ep_encrypt 4 none d 0 0 [.ref e, .ref s, .int k, .int w] h (fun q h' => q = .inl none ∧ q_ep h' e t pr pb ra rb (E_enc E) ∧ q_sec h' s sa sb (S_open S k 0 w) ∧ q_off h h' (q_EP e t pb rb s sb)) := by
  refine MG.of (by decide +kernel) (by simp [Value.category]) (Nat.le_of_ble_eq_true rfl) ?_
  intro Z A ok
  refine g_aload_n ok (dk m_Ep_encrypt 0 rfl) (pc' := 1) rfl (i := 1) rfl rfl ?_
  refine g_iload_n ok (dk m_Ep_encrypt 1 rfl) (pc' := 2) rfl (i := 2) rfl rfl ?_
  refine g_iconst ok (dk m_Ep_encrypt 2 rfl) (pc' := 3) rfl (v := 0) (by decide) ?_
  refine g_iload_n ok (dk m_Ep_encrypt 3 rfl) (pc' := 4) rfl (i := 3) rfl rfl ?_
  refine g_callV ok (dk m_Ep_encrypt 4 rfl) (pc' := 7) rfl c_Ep_112 (c_Sec_openWay g k 0 w 2 (by omega) hs) hs.1 rfl rfl (by simp [Value.category]) (by omega) rfl (rc' := 0) (rs' := 0) (by omega) (by omega) (fun rv h' hcc => ?_) (fun i h' hcc => by obtain ⟨e9, -⟩ := hcc; cases e9)
  obtain ⟨e9, hs1, ho1⟩ := hcc
  cases e9
  have he1 := he.off ho1 hap.1
  refine g_aload_n ok (dk m_Ep_encrypt 5 rfl) (pc' := 8) rfl (i := 0) rfl rfl ?_
  refine g_dup ok (dk m_Ep_encrypt 6 rfl) (pc' := 9) rfl rfl ?_
  refine g_get ok (dk m_Ep_encrypt 7 rfl) (pc' := 12) rfl f_Ep_43 he1.1 rfl ?_
  refine g_iconst ok (dk m_Ep_encrypt 8 rfl) (pc' := 13) rfl (v := 1) (by decide) ?_
  refine g_iadd ok (dk m_Ep_encrypt 9 rfl) (pc' := 14) rfl ?_
  refine g_put ok (dk m_Ep_encrypt 10 rfl) (pc' := 17) rfl f_Ep_43 (Or.inl rfl) he1.1 (Nat.le_of_ble_eq_true rfl) rfl rfl ?_
  refine g_gen (fun h2 e2 => ?_)
  have he2 := he1.intE 7 9 (by decide) e2
  have ho2 := q_off.upE (q_off.rf (X := ep_P e t pb rb)) (Or.inl rfl) e2
  have hs2 := hs1.off ho2 hap.2
  clear e2
  exact g_vret ok (dk m_Ep_encrypt 11 rfl) rfl ⟨rfl, he2, hs2, (ho1.wk (fun y z => Or.inr z)).tr (ho2.wk (fun y z => Or.inl z))⟩
end
section
/-! ===== Epoch: encryptPathSecret, layPath ===== -/
theorem q_ep.treeE {h h' : q_H} {e t pr pb : Nat} {ra rb : Nat → Nat} {E : e_T} {T : tr_T} (he : q_ep h e t pr pb ra rb E) (ht : q_tree h' t ra rb T) (ho : q_off h h' (tr_P t rb)) : q_ep h' e t pr pb ra rb (E.1, T, E.2.2) := by
  obtain ⟨h1, h2, h3, h4, h5⟩ := he
  refine ⟨(ho e ?_).trans h1, ht, (ho pr ?_).trans h3, (ho pb ?_).trans h4, h5⟩
  · rintro (z | ⟨i, hi, z⟩)
    · rw [z, h2.1] at h1
      cases h1
    · exact q_oa h1 (h2.2.1 i hi).2 z
  · rintro (z | ⟨i, hi, z⟩)
    · rw [z, h2.1] at h3
      cases h3
    · exact q_oa h3 (h2.2.1 i hi).2 z
  · rintro (z | ⟨i, hi, z⟩)
    · exact q_oa h2.1 h4 z.symm
    · exact h5 i hi z.symm
theorem q_ep.psE {h h' : q_H} {e t pr pb : Nat} {ra rb : Nat → Nat} {E : e_T} {f : Nat → Int32} (he : q_ep h e t pr pb ra rb E) (e1 : h' = q_up h pb (.inr (0, 5, .inl f))) : q_ep h' e t pr pb ra rb (E.1, E.2.1, f) := by
  obtain ⟨h1, h2, h3, h4, h5⟩ := he
  subst e1
  refine ⟨?_, ⟨?_, h2.2.kept (fun i hi => ⟨?_, ?_⟩)⟩, ?_, q_up_s _ _ _, h5⟩
  · rw [q_up_n (q_oa h1 h4)]; exact h1
  · rw [q_up_n (q_oa h2.1 h4)]; exact h2.1
  · rw [q_up_n (q_oa (h2.2.1 i hi).1 h4)]
  · rw [q_up_n (h5 i hi)]
  · rw [q_up_n (q_oa h3 h4)]; exact h3
noncomputable def ES_1 (rd x : Int32) (k : Nat) (p : e_T × s_T) : e_T × s_T := by
  classical exact if j_in rd (nI k) then (E_enc p.1, S_open p.2 (r_get (tr_len 0) (p.1.2.1.1 0) (nI k)) 0 (r_get 5 p.1.2.2 x)) else p
noncomputable def ES_enc (rd x : Int32) : Nat → Nat → e_T × s_T → e_T × s_T
  | 0, _, p => p
  | m + 1, k, p => ES_enc rd x m (k + 1) (ES_1 rd x k p)
set_option maxHeartbeats 1000000 in
theorem c_Ep_encryptPathSecret (g : q_G) {h : q_H} {e t pr pb : Nat} {ra rb : Nat → Nat} {E : e_T} (x : Int32) (d : Nat) (hd : 8 ≤ d) (he : q_ep h e t pr pb ra rb E) {s : Nat} {sa sb : Nat → Nat} {S : s_T} (hs : q_sec h s sa sb S) (hap : q_es e t pr pb ra rb s sa sb) : MG g y_Ep_encryptPathSecret b_Ep_encryptPathSecret 5 none d 0 0 [.ref e, .ref s, .int x] h (fun q h' => q = .inl none ∧ q_ep h' e t pr pb ra rb ((ES_enc (E_rdr E x) x 31 0 (E, S))).1 ∧ q_sec h' s sa sb ((ES_enc (E_rdr E x) x 31 0 (E, S))).2 ∧ q_off h h' (q_EP e t pb rb s sb)) := by
  refine MG.of (by decide +kernel) (by simp [Value.category]) (Nat.le_of_ble_eq_true rfl) ?_
  intro Z A ok
  have loop : ∀ (m k : Nat), k + m = 31 → ∀ (h1 : q_H) (p : e_T × s_T), q_ep h1 e t pr pb ra rb p.1 → q_sec h1 s sa sb p.2 → q_off h h1 (q_EP e t pb rb s sb) → ES_enc (E_rdr E x) x m k p = (ES_enc (E_rdr E x) x 31 0 (E, S)) → GW g Z A (fun q h' => q = .inl none ∧ q_ep h' e t pr pb ra rb ((ES_enc (E_rdr E x) x 31 0 (E, S))).1 ∧ q_sec h' s sa sb ((ES_enc (E_rdr E x) x 31 0 (E, S))).2 ∧ q_off h h' (q_EP e t pb rb s sb)) 0 0 h1 9 [some (.ref e), some (.ref s), some (.int x), some (.int (E_rdr E x)), some (.int (nI k))] [] := by
    intro m
    induction m with
    | zero =>
      intro k hk h1 p he1 hs1 ho1 hv
      refine g_iload ok (dk m_Ep_encryptPathSecret 6 rfl) (pc' := 11) rfl rfl ?_
      refine g_bipush ok (dk m_Ep_encryptPathSecret 7 rfl) (pc' := 13) rfl (v := 31) (by decide) ?_
      refine g_icmp_ge ok (dk m_Ep_encryptPathSecret 8 rfl) (tgt := 56) (by decide) (pc' := 16) rfl (fun c_13 => ?_) (fun c_13 => absurd (show (31 : Int32) ≤ nI k from by rw [show k = 31 by omega]; decide) c_13)
      exact g_vret ok (dk m_Ep_encryptPathSecret 27 rfl) rfl ⟨rfl, by rw [← hv]; exact he1, by rw [← hv]; exact hs1, ho1⟩
    | succ m ih =>
      intro k hk h1 p he1 hs1 ho1 hv
      refine g_iload ok (dk m_Ep_encryptPathSecret 6 rfl) (pc' := 11) rfl rfl ?_
      refine g_bipush ok (dk m_Ep_encryptPathSecret 7 rfl) (pc' := 13) rfl (v := 31) (by decide) ?_
      refine g_icmp_ge ok (dk m_Ep_encryptPathSecret 8 rfl) (tgt := 56) (by decide) (pc' := 16) rfl (fun c_13 => absurd c_13 (show ¬ nI 31 ≤ nI k from nI_ge (by omega) (by decide))) (fun c_13 => ?_)
      refine g_iload_n ok (dk m_Ep_encryptPathSecret 9 rfl) (pc' := 17) rfl (i := 3) rfl rfl ?_
      refine g_iload ok (dk m_Ep_encryptPathSecret 10 rfl) (pc' := 19) rfl rfl ?_
      refine g_callSN ok (dk m_Ep_encryptPathSecret 11 rfl) (pc' := 22) rfl c_Ep_57 (c_RG_isIn g (E_rdr E x) (nI k) 0) rfl rfl (by simp [Value.category]) (by omega) rfl (rc' := 0) (rs' := 0) (by omega) (by omega) (fun rv h' hcc => ?_) (fun i h' hcc => by obtain ⟨e9, -⟩ := hcc; cases e9)
      obtain ⟨e9, e2⟩ := hcc
      have e3 := e2.symm
      subst e3
      cases e9
      refine g_if_eq ok (dk m_Ep_encryptPathSecret 12 rfl) (tgt := 50) (by decide) (pc' := 25) rfl (fun c_22 => ?_) (fun c_22 => ?_)
      · have hq : ES_1 (E_rdr E x) x k p = p := by rw [ES_1, if_neg (b2i_0 c_22)]
        have he2 : q_ep h1 e t pr pb ra rb (ES_1 (E_rdr E x) x k p).1 := by rw [hq]; exact he1
        have hs2 : q_sec h1 s sa sb (ES_1 (E_rdr E x) x k p).2 := by rw [hq]; exact hs1
        have ho2 := ho1
        refine g_iinc ok (dk m_Ep_encryptPathSecret 25 rfl) (pc' := 53) rfl rfl (nI_1 k) rfl ?_
        refine g_goto ok (dk m_Ep_encryptPathSecret 26 rfl) (pc' := 9) (by decide) ?_
        exact ih (k + 1) (by omega) _ _ he2 hs2 ho2 (by rw [← hv]; rfl)
      · refine g_aload_n ok (dk m_Ep_encryptPathSecret 13 rfl) (pc' := 26) rfl (i := 0) rfl rfl ?_
        refine g_aload_n ok (dk m_Ep_encryptPathSecret 14 rfl) (pc' := 27) rfl (i := 1) rfl rfl ?_
        refine g_aload_n ok (dk m_Ep_encryptPathSecret 15 rfl) (pc' := 28) rfl (i := 0) rfl rfl ?_
        refine g_get ok (dk m_Ep_encryptPathSecret 16 rfl) (pc' := 31) rfl f_Ep_12 he1.1 rfl ?_
        refine g_getR ok (dk m_Ep_encryptPathSecret 17 rfl) (pc' := 34) rfl f_Ep_102 he1.2.1.1 rfl ?_
        refine g_iload ok (dk m_Ep_encryptPathSecret 18 rfl) (pc' := 36) rfl rfl ?_
        refine g_callV ok (dk m_Ep_encryptPathSecret 19 rfl) (pc' := 39) rfl c_Ep_105 (c_Row_get g (nI k) 0 (he1.2.1.2.1 0 (by decide)).1 (he1.2.1.2.1 0 (by decide)).2 (tr_len_lt _)) (he1.2.1.2.1 0 (by decide)).1 rfl rfl (by simp [Value.category]) (by omega) rfl (rc' := 0) (rs' := 0) (by omega) (by omega) (fun rv h' hcc => ?_) (fun i h' hcc => by obtain ⟨e9, -⟩ := hcc; cases e9)
        obtain ⟨e9, e2⟩ := hcc
        have e3 := e2.symm
        subst e3
        cases e9
        refine g_aload_n ok (dk m_Ep_encryptPathSecret 20 rfl) (pc' := 40) rfl (i := 0) rfl rfl ?_
        refine g_get ok (dk m_Ep_encryptPathSecret 21 rfl) (pc' := 43) rfl f_Ep_23 he1.1 rfl ?_
        refine g_iload_n ok (dk m_Ep_encryptPathSecret 22 rfl) (pc' := 44) rfl (i := 2) rfl rfl ?_
        refine g_callV ok (dk m_Ep_encryptPathSecret 23 rfl) (pc' := 47) rfl c_Ep_105 (c_Row_get g x 0 he1.2.2.1 he1.2.2.2.1 (by decide)) he1.2.2.1 rfl rfl (by simp [Value.category]) (by omega) rfl (rc' := 0) (rs' := 0) (by omega) (by omega) (fun rv h' hcc => ?_) (fun i h' hcc => by obtain ⟨e9, -⟩ := hcc; cases e9)
        obtain ⟨e9, e2⟩ := hcc
        have e3 := e2.symm
        subst e3
        cases e9
        refine g_callV ok (dk m_Ep_encryptPathSecret 24 rfl) (pc' := 50) rfl c_Ep_108 (c_Ep_encrypt g _ _ 3 (by omega) he1 hs1 hap) he1.1 rfl rfl (by simp [Value.category]) (by omega) rfl (rc' := 0) (rs' := 0) (by omega) (by omega) (fun rv h' hcc => ?_) (fun i h' hcc => by obtain ⟨e9, -⟩ := hcc; cases e9)
        obtain ⟨e9, he3, hs3, ho3⟩ := hcc
        cases e9
        have hq : ES_1 (E_rdr E x) x k p = (E_enc p.1, S_open p.2 (r_get (tr_len 0) (p.1.2.1.1 0) (nI k)) 0 (r_get 5 p.1.2.2 x)) := by rw [ES_1, if_pos (b2i_n c_22)]
        have he2 : q_ep h' e t pr pb ra rb (ES_1 (E_rdr E x) x k p).1 := by rw [hq]; exact he3
        have hs2 : q_sec h' s sa sb (ES_1 (E_rdr E x) x k p).2 := by rw [hq]; exact hs3
        have ho2 := ho1.tr ho3
        refine g_iinc ok (dk m_Ep_encryptPathSecret 25 rfl) (pc' := 53) rfl rfl (nI_1 k) rfl ?_
        refine g_goto ok (dk m_Ep_encryptPathSecret 26 rfl) (pc' := 9) (by decide) ?_
        exact ih (k + 1) (by omega) _ _ he2 hs2 ho2 (by rw [← hv]; rfl)
  refine g_aload_n ok (dk m_Ep_encryptPathSecret 0 rfl) (pc' := 1) rfl (i := 0) rfl rfl ?_
  refine g_iload_n ok (dk m_Ep_encryptPathSecret 1 rfl) (pc' := 2) rfl (i := 2) rfl rfl ?_
  refine g_callV ok (dk m_Ep_encryptPathSecret 2 rfl) (pc' := 5) rfl c_Ep_99 (c_Ep_readersOf g x 7 (by omega) he) he.1 rfl rfl (by simp [Value.category]) (by omega) rfl (rc' := 0) (rs' := 0) (by omega) (by omega) (fun rv h' hcc => ?_) (fun i h' hcc => by obtain ⟨e9, -⟩ := hcc; cases e9)
  obtain ⟨e9, e2⟩ := hcc
  have e3 := e2.symm
  subst e3
  cases e9
  refine g_istore_n ok (dk m_Ep_encryptPathSecret 3 rfl) (pc' := 6) rfl (i := 3) rfl (Nat.le_of_ble_eq_true rfl) rfl ?_
  refine g_iconst ok (dk m_Ep_encryptPathSecret 4 rfl) (pc' := 7) rfl (v := 0) (by decide) ?_
  refine g_istore ok (dk m_Ep_encryptPathSecret 5 rfl) (pc' := 9) rfl (Nat.le_of_ble_eq_true rfl) rfl ?_
  exact loop 31 0 (by omega) h (E, S) he hs q_off.rf rfl
/-- what comes of a last path secret: FRESH, if there is none, else what is derived of it -/
noncomputable def S_nxt (S : s_T) (last : Int32) : Int32 × s_T := if last = -1 then S_fresh S else S_der S last
noncomputable def ES_lay1 (k : Nat) (q : (e_T × s_T) × Int32) : (e_T × s_T) × Int32 :=
  if T_reso q.1.1.2.1 (E_bes q.1.1 (nI k)) = 0 then (((q.1.1.1, T_blank q.1.1.2.1 (j_node (q.1.1.1 1) (nI k)), q.1.1.2.2), q.1.2), q.2)
  else
    (ES_enc (E_rdr (upd q.1.1.1 3 (q.1.1.1 3 ||| ((1 : Int32) <<< (j_node (q.1.1.1 1) (nI k) &&& 31))), T_give q.1.1.2.1 (j_node (q.1.1.1 1) (nI k)) (S_der (S_nxt q.1.2 q.2).2 (S_nxt q.1.2 q.2).1).1 (q.1.1.1 0), r_put 5 q.1.1.2.2 (nI k) (S_nxt q.1.2 q.2).1) (nI k)) (nI k) 31 0
      ((upd q.1.1.1 3 (q.1.1.1 3 ||| ((1 : Int32) <<< (j_node (q.1.1.1 1) (nI k) &&& 31))), T_give q.1.1.2.1 (j_node (q.1.1.1 1) (nI k)) (S_der (S_nxt q.1.2 q.2).2 (S_nxt q.1.2 q.2).1).1 (q.1.1.1 0), r_put 5 q.1.1.2.2 (nI k) (S_nxt q.1.2 q.2).1), (S_der (S_nxt q.1.2 q.2).2 (S_nxt q.1.2 q.2).1).2), (S_nxt q.1.2 q.2).1)
noncomputable def ES_lay : Nat → Nat → (e_T × s_T) × Int32 → (e_T × s_T) × Int32
  | 0, _, q => q
  | m + 1, k, q => ES_lay m (k + 1) (ES_lay1 k q)
theorem ES_1_k (rd x : Int32) (k : Nat) (p : e_T × s_T) : (ES_1 rd x k p).1.2 = p.1.2 ∧ (ES_1 rd x k p).1.1 0 = p.1.1 0 ∧ (ES_1 rd x k p).1.1 1 = p.1.1 1 := by
  unfold ES_1
  split <;> exact ⟨rfl, rfl, rfl⟩
theorem ES_enc_k (rd x : Int32) : ∀ (m k : Nat) (p : e_T × s_T), (ES_enc rd x m k p).1.2 = p.1.2 ∧ (ES_enc rd x m k p).1.1 0 = p.1.1 0 ∧ (ES_enc rd x m k p).1.1 1 = p.1.1 1 := by
  intro m
  induction m with
  | zero => intro k p; exact ⟨rfl, rfl, rfl⟩
  | succ m ih =>
    intro k p
    obtain ⟨a1, a2, a3⟩ := ih (k + 1) (ES_1 rd x k p)
    obtain ⟨b1, b2, b3⟩ := ES_1_k rd x k p
    exact ⟨a1.trans b1, a2.trans b2, a3.trans b3⟩
theorem ES_lay1_k (k : Nat) (q : (e_T × s_T) × Int32) : (ES_lay1 k q).1.1.2.1.2 = q.1.1.2.1.2 ∧ (ES_lay1 k q).1.1.1 0 = q.1.1.1 0 ∧ (ES_lay1 k q).1.1.1 1 = q.1.1.1 1 := by
  unfold ES_lay1
  split
  · exact ⟨rfl, rfl, rfl⟩
  · obtain ⟨a1, a2, a3⟩ := ES_enc_k (E_rdr (upd q.1.1.1 3 (q.1.1.1 3 ||| ((1 : Int32) <<< (j_node (q.1.1.1 1) (nI k) &&& 31))), T_give q.1.1.2.1 (j_node (q.1.1.1 1) (nI k)) (S_der (S_nxt q.1.2 q.2).2 (S_nxt q.1.2 q.2).1).1 (q.1.1.1 0), r_put 5 q.1.1.2.2 (nI k) (S_nxt q.1.2 q.2).1) (nI k)) (nI k) 31 0 ((upd q.1.1.1 3 (q.1.1.1 3 ||| ((1 : Int32) <<< (j_node (q.1.1.1 1) (nI k) &&& 31))), T_give q.1.1.2.1 (j_node (q.1.1.1 1) (nI k)) (S_der (S_nxt q.1.2 q.2).2 (S_nxt q.1.2 q.2).1).1 (q.1.1.1 0), r_put 5 q.1.1.2.2 (nI k) (S_nxt q.1.2 q.2).1), (S_der (S_nxt q.1.2 q.2).2 (S_nxt q.1.2 q.2).1).2)
    exact ⟨by rw [a1]; rfl, a2, a3⟩
end
section
/-! ===== Epoch: layPath, the constructor ===== -/
theorem q_es.sP {e t pr pb : Nat} {ra rb : Nat → Nat} {s : Nat} {sa sb : Nat → Nat} (hap : q_es e t pr pb ra rb s sa sb) {h h' : q_H} {S : s_T} (ho : q_off h h' (tr_P t rb)) (hs : q_sec h s sa sb S) : q_sec h' s sa sb S := hs.off ho (fun y hy z => hap.2 y hy (Or.inr (Or.inr z)))
theorem ep_P.tr {e t pb : Nat} {rb : Nat → Nat} {s : Nat} {sb : Nat → Nat} {h h1 h2 : q_H} (ho : q_off h h1 (q_EP e t pb rb s sb)) (o2 : q_off h1 h2 (tr_P t rb)) : q_off h h2 (q_EP e t pb rb s sb) := ho.tr (o2.wk (fun y z => Or.inl (Or.inr (Or.inr z))))
theorem ep_P.sr {e t pb : Nat} {rb : Nat → Nat} {s : Nat} {sb : Nat → Nat} {h h1 h2 : q_H} (ho : q_off h h1 (q_EP e t pb rb s sb)) (o2 : q_off h1 h2 (s_P s sb)) : q_off h h2 (q_EP e t pb rb s sb) := ho.tr (o2.wk (fun y z => Or.inr z))
theorem ES_lay_k : ∀ (m k : Nat) (q : (e_T × s_T) × Int32), (ES_lay m k q).1.1.2.1.2 = q.1.1.2.1.2 ∧ (ES_lay m k q).1.1.1 0 = q.1.1.1 0 ∧ (ES_lay m k q).1.1.1 1 = q.1.1.1 1 := by
  intro m
  induction m with
  | zero => intro k q; exact ⟨rfl, rfl, rfl⟩
  | succ m ih =>
    intro k q
    obtain ⟨a1, a2, a3⟩ := ih (k + 1) (ES_lay1 k q)
    obtain ⟨b1, b2, b3⟩ := ES_lay1_k k q
    exact ⟨a1.trans b1, a2.trans b2, a3.trans b3⟩
noncomputable def ES_q0 (E : e_T) (S : s_T) : (e_T × s_T) × Int32 := (((E.1, T_give E.2.1 (j_node (E.1 1) 0) (S_fresh S).1 (E.1 0), E.2.2), (S_fresh S).2), -1)
noncomputable def ES_path (E : e_T) (S : s_T) : (e_T × s_T) × Int32 := ES_lay E.2.1.2 1 (ES_q0 E S)
set_option maxHeartbeats 1000000 in
theorem c_Ep_layPath (g : q_G) {h : q_H} {e t pr pb : Nat} {ra rb : Nat → Nat} {E : e_T} (d : Nat) (hd : 9 ≤ d) (hT : E.2.1.2 ≤ 4) (he : q_ep h e t pr pb ra rb E) {s : Nat} {sa sb : Nat → Nat} {S : s_T} (hs : q_sec h s sa sb S) (hap : q_es e t pr pb ra rb s sa sb) : MG g y_Ep_layPath b_Ep_layPath 5 (some .int) d 0 0 [.ref e, .ref s] h (fun q h' => q = .inl (some (.int (S_nxt (ES_path E S).1.2 (ES_path E S).2).1)) ∧ q_ep h' e t pr pb ra rb (ES_path E S).1.1 ∧ q_sec h' s sa sb (S_nxt (ES_path E S).1.2 (ES_path E S).2).2 ∧ q_off h h' (q_EP e t pb rb s sb)) := by
  refine MG.of (by decide +kernel) (by simp [Value.category]) (Nat.le_of_ble_eq_true rfl) ?_
  intro Z A ok
  have loop : ∀ (m k : Nat), k + m = E.2.1.2 + 1 → ∀ (h1 : q_H) (q : (e_T × s_T) × Int32) (x4 : Option Value), q_ep h1 e t pr pb ra rb q.1.1 → q_sec h1 s sa sb q.1.2 → q_off h h1 (q_EP e t pb rb s sb) → ES_lay m k q = ES_path E S → q.1.1.2.1.2 = E.2.1.2 → q.1.1.1 1 = E.1 1 → GW g Z A (fun q h' => q = .inl (some (.int (S_nxt (ES_path E S).1.2 (ES_path E S).2).1)) ∧ q_ep h' e t pr pb ra rb (ES_path E S).1.1 ∧ q_sec h' s sa sb (S_nxt (ES_path E S).1.2 (ES_path E S).2).2 ∧ q_off h h' (q_EP e t pb rb s sb)) 0 0 h1 27 [some (.ref e), some (.ref s), some (.int q.2), some (.int (nI k)), x4] [] := by
    intro m
    induction m with
    | zero =>
      intro k hk h1 q x4 he1 hs1 ho1 hv hD hc
      refine g_iload_n ok (dk m_Ep_layPath 15 rfl) (pc' := 28) rfl (i := 3) rfl rfl ?_
      refine g_aload_n ok (dk m_Ep_layPath 16 rfl) (pc' := 29) rfl (i := 0) rfl rfl ?_
      refine g_get ok (dk m_Ep_layPath 17 rfl) (pc' := 32) rfl f_Ep_12 he1.1 rfl ?_
      refine g_get ok (dk m_Ep_layPath 18 rfl) (pc' := 35) rfl f_Ep_75 he1.2.1.1 rfl ?_
      refine g_icmp_gt ok (dk m_Ep_layPath 19 rfl) (tgt := 145) (by decide) (pc' := 38) rfl (fun c_35 => ?_) (fun c_35 => absurd (nI_lt (a := q.1.1.2.1.2) (b := k) (by omega) (by omega)) c_35)
      refine g_iload_n ok (dk m_Ep_layPath 75 rfl) (pc' := 146) rfl (i := 2) rfl rfl ?_
      refine g_iconst ok (dk m_Ep_layPath 76 rfl) (pc' := 147) rfl (v := (-1)) (by decide) ?_
      refine g_icmp_ne ok (dk m_Ep_layPath 77 rfl) (tgt := 157) (by decide) (pc' := 150) rfl (fun c_147 => ?_) (fun c_147 => ?_)
      · refine g_aload_n ok (dk m_Ep_layPath 81 rfl) (pc' := 158) rfl (i := 1) rfl rfl ?_
        refine g_iload_n ok (dk m_Ep_layPath 82 rfl) (pc' := 159) rfl (i := 2) rfl rfl ?_
        refine g_callV ok (dk m_Ep_layPath 83 rfl) (pc' := 162) rfl c_Ep_89 (c_Sec_derivedFrom g q.2 3 (by omega) hs1) hs1.1 rfl rfl (by simp [Value.category]) (by omega) rfl (rc' := 0) (rs' := 0) (by omega) (by omega) (fun rv h' hcc => ?_) (fun i h' hcc => by obtain ⟨e9, -⟩ := hcc; cases e9)
        obtain ⟨e9, hs2, ho2⟩ := hcc
        cases e9
        exact g_iret ok (dk m_Ep_layPath 84 rfl) rfl rfl ⟨by rw [← hv, ES_lay, S_nxt, if_neg c_147], by rw [← hv]; exact he1.off ho2 hap.1, by rw [← hv, ES_lay, S_nxt, if_neg c_147]; exact hs2, ep_P.sr ho1 ho2⟩
      · refine g_aload_n ok (dk m_Ep_layPath 78 rfl) (pc' := 151) rfl (i := 1) rfl rfl ?_
        refine g_callV ok (dk m_Ep_layPath 79 rfl) (pc' := 154) rfl c_Ep_65 (c_Sec_fresh g 0 hs1) hs1.1 rfl rfl (by simp [Value.category]) (by omega) rfl (rc' := 0) (rs' := 0) (by omega) (by omega) (fun rv h' hcc => ?_) (fun i h' hcc => by obtain ⟨e9, -⟩ := hcc; cases e9)
        obtain ⟨e9, hs2, ho2⟩ := hcc
        cases e9
        refine g_goto ok (dk m_Ep_layPath 80 rfl) (pc' := 162) (by decide) ?_
        exact g_iret ok (dk m_Ep_layPath 84 rfl) rfl rfl ⟨by rw [← hv, ES_lay, S_nxt, if_pos c_147], by rw [← hv]; exact he1.off ho2 hap.1, by rw [← hv, ES_lay, S_nxt, if_pos c_147]; exact hs2, ep_P.sr ho1 ho2⟩
    | succ m ih =>
      intro k hk h1 q x4 he1 hs1 ho1 hv hD hc
      have mid : ¬ T_reso q.1.1.2.1 (E_bes q.1.1 (nI k)) = 0 → ∀ h2 : q_H, q_ep h2 e t pr pb ra rb q.1.1 → q_sec h2 s sa sb (S_nxt q.1.2 q.2).2 → q_off h h2 (q_EP e t pb rb s sb) → GW g Z A (fun q h' => q = .inl (some (.int (S_nxt (ES_path E S).1.2 (ES_path E S).2).1)) ∧ q_ep h' e t pr pb ra rb (ES_path E S).1.1 ∧ q_sec h' s sa sb (S_nxt (ES_path E S).1.2 (ES_path E S).2).2 ∧ q_off h h' (q_EP e t pb rb s sb)) 0 0 h2 92 [some (.ref e), some (.ref s), some (.int q.2), some (.int (nI k)), some (.int (j_node (q.1.1.1 1) (nI k)))] [.int (S_nxt q.1.2 q.2).1] := by
          intro c0 h2 he2 hs2 ho2
          refine g_istore_n ok (dk m_Ep_layPath 46 rfl) (pc' := 93) rfl (i := 2) rfl (Nat.le_of_ble_eq_true rfl) rfl ?_
          refine g_aload_n ok (dk m_Ep_layPath 47 rfl) (pc' := 94) rfl (i := 0) rfl rfl ?_
          refine g_dup ok (dk m_Ep_layPath 48 rfl) (pc' := 95) rfl rfl ?_
          refine g_get ok (dk m_Ep_layPath 49 rfl) (pc' := 98) rfl f_Ep_31 he2.1 rfl ?_
          refine g_iconst ok (dk m_Ep_layPath 50 rfl) (pc' := 99) rfl (v := 1) (by decide) ?_
          refine g_iload ok (dk m_Ep_layPath 51 rfl) (pc' := 101) rfl rfl ?_
          refine g_ishl ok (dk m_Ep_layPath 52 rfl) (pc' := 102) rfl ?_
          refine g_ior ok (dk m_Ep_layPath 53 rfl) (pc' := 103) rfl ?_
          refine g_put ok (dk m_Ep_layPath 54 rfl) (pc' := 106) rfl f_Ep_31 (Or.inl rfl) he2.1 (Nat.le_of_ble_eq_true rfl) rfl rfl ?_
          refine g_gen (fun h3 e3 => ?_)
          have he3 := he2.intE 3 5 (by decide) e3
          have hq3 := q_off.upE (q_off.rf (X := ep_P e t pb rb)) (Or.inl rfl) e3
          have hs3 := hs2.off hq3 hap.2
          have ho3 := ho2.tr (hq3.wk (fun y z => Or.inl z))
          clear e3
          refine g_aload_n ok (dk m_Ep_layPath 55 rfl) (pc' := 107) rfl (i := 0) rfl rfl ?_
          refine g_get ok (dk m_Ep_layPath 56 rfl) (pc' := 110) rfl f_Ep_23 he3.1 rfl ?_
          refine g_iload_n ok (dk m_Ep_layPath 57 rfl) (pc' := 111) rfl (i := 3) rfl rfl ?_
          refine g_iload_n ok (dk m_Ep_layPath 58 rfl) (pc' := 112) rfl (i := 2) rfl rfl ?_
          refine g_callV ok (dk m_Ep_layPath 59 rfl) (pc' := 115) rfl c_Ep_92 (c_Row_put g (nI k) (S_nxt q.1.2 q.2).1 0 he3.2.2.1 he3.2.2.2.1 (by decide)) he3.2.2.1 rfl rfl (by simp [Value.category]) (by omega) rfl (rc' := 0) (rs' := 0) (by omega) (by omega) (fun rv h' hcc => ?_) (fun i h' hcc => by obtain ⟨e9, -⟩ := hcc; cases e9)
          obtain ⟨e9, e4⟩ := hcc
          cases e9
          have he4 := he3.psE e4
          have hq4 := q_off.upE (q_off.rf (X := ep_P e t pb rb)) (Or.inr (Or.inl rfl)) e4
          have hs4 := hs3.off hq4 hap.2
          have ho4 := ho3.tr (hq4.wk (fun y z => Or.inl z))
          clear e4
          refine g_aload_n ok (dk m_Ep_layPath 60 rfl) (pc' := 116) rfl (i := 0) rfl rfl ?_
          refine g_get ok (dk m_Ep_layPath 61 rfl) (pc' := 119) rfl f_Ep_12 he4.1 rfl ?_
          refine g_iload ok (dk m_Ep_layPath 62 rfl) (pc' := 121) rfl rfl ?_
          refine g_aload_n ok (dk m_Ep_layPath 63 rfl) (pc' := 122) rfl (i := 1) rfl rfl ?_
          refine g_iload_n ok (dk m_Ep_layPath 64 rfl) (pc' := 123) rfl (i := 2) rfl rfl ?_
          refine g_callV ok (dk m_Ep_layPath 65 rfl) (pc' := 126) rfl c_Ep_89 (c_Sec_derivedFrom g (S_nxt q.1.2 q.2).1 3 (by omega) hs4) hs4.1 rfl rfl (by simp [Value.category]) (by omega) rfl (rc' := 0) (rs' := 0) (by omega) (by omega) (fun rv h' hcc => ?_) (fun i h' hcc => by obtain ⟨e9, -⟩ := hcc; cases e9)
          obtain ⟨e9, hs5, hq5⟩ := hcc
          cases e9
          have he5 := he4.off hq5 hap.1
          have ho5 := ep_P.sr ho4 hq5
          refine g_aload_n ok (dk m_Ep_layPath 66 rfl) (pc' := 127) rfl (i := 0) rfl rfl ?_
          refine g_get ok (dk m_Ep_layPath 67 rfl) (pc' := 130) rfl f_Ep_46 he5.1 rfl ?_
          refine g_callV ok (dk m_Ep_layPath 68 rfl) (pc' := 133) rfl c_Ep_71 (c_Tr_give g (j_node (q.1.1.1 1) (nI k)) _ (q.1.1.1 0) 1 (by omega) he5.2.1) he5.2.1.1 rfl rfl (by simp [Value.category]) (by omega) rfl (rc' := 0) (rs' := 0) (by omega) (by omega) (fun rv h' hcc => ?_) (fun i h' hcc => by obtain ⟨e9, -⟩ := hcc; cases e9)
          obtain ⟨e9, ht6, hq6⟩ := hcc
          cases e9
          have he6 := he5.treeE ht6 hq6
          have hs6 := hap.sP hq6 hs5
          have ho6 := ep_P.tr ho5 hq6
          refine g_aload_n ok (dk m_Ep_layPath 69 rfl) (pc' := 134) rfl (i := 0) rfl rfl ?_
          refine g_aload_n ok (dk m_Ep_layPath 70 rfl) (pc' := 135) rfl (i := 1) rfl rfl ?_
          refine g_iload_n ok (dk m_Ep_layPath 71 rfl) (pc' := 136) rfl (i := 3) rfl rfl ?_
          refine g_callV ok (dk m_Ep_layPath 72 rfl) (pc' := 139) rfl c_Ep_95 (c_Ep_encryptPathSecret g (nI k) 8 (by omega) he6 hs6 hap) he6.1 rfl rfl (by simp [Value.category]) (by omega) rfl (rc' := 0) (rs' := 0) (by omega) (by omega) (fun rv h' hcc => ?_) (fun i h' hcc => by obtain ⟨e9, -⟩ := hcc; cases e9)
          obtain ⟨e9, he7, hs7, hq7⟩ := hcc
          cases e9
          have ho7 := ho6.tr hq7
          refine g_iinc ok (dk m_Ep_layPath 73 rfl) (pc' := 142) rfl rfl (nI_1 k) rfl ?_
          refine g_goto ok (dk m_Ep_layPath 74 rfl) (pc' := 27) (by decide) ?_
          have hq : ES_lay1 k q = (ES_enc (E_rdr (upd q.1.1.1 3 (q.1.1.1 3 ||| ((1 : Int32) <<< (j_node (q.1.1.1 1) (nI k) &&& 31))), T_give q.1.1.2.1 (j_node (q.1.1.1 1) (nI k)) (S_der (S_nxt q.1.2 q.2).2 (S_nxt q.1.2 q.2).1).1 (q.1.1.1 0), r_put 5 q.1.1.2.2 (nI k) (S_nxt q.1.2 q.2).1) (nI k)) (nI k) 31 0 ((upd q.1.1.1 3 (q.1.1.1 3 ||| ((1 : Int32) <<< (j_node (q.1.1.1 1) (nI k) &&& 31))), T_give q.1.1.2.1 (j_node (q.1.1.1 1) (nI k)) (S_der (S_nxt q.1.2 q.2).2 (S_nxt q.1.2 q.2).1).1 (q.1.1.1 0), r_put 5 q.1.1.2.2 (nI k) (S_nxt q.1.2 q.2).1), (S_der (S_nxt q.1.2 q.2).2 (S_nxt q.1.2 q.2).1).2), (S_nxt q.1.2 q.2).1) := by rw [ES_lay1, if_neg c0]
          rw [show (S_nxt q.1.2 q.2).1 = (ES_lay1 k q).2 from by rw [hq]]
          refine ih (k + 1) (by omega) _ (ES_lay1 k q) _ ?_ ?_ ho7 (by rw [← hv]; rfl) (by rw [(ES_lay1_k k q).1]; exact hD) (by rw [(ES_lay1_k k q).2.2]; exact hc)
          · rw [hq]; exact he7
          · rw [hq]; exact hs7
      refine g_iload_n ok (dk m_Ep_layPath 15 rfl) (pc' := 28) rfl (i := 3) rfl rfl ?_
      refine g_aload_n ok (dk m_Ep_layPath 16 rfl) (pc' := 29) rfl (i := 0) rfl rfl ?_
      refine g_get ok (dk m_Ep_layPath 17 rfl) (pc' := 32) rfl f_Ep_12 he1.1 rfl ?_
      refine g_get ok (dk m_Ep_layPath 18 rfl) (pc' := 35) rfl f_Ep_75 he1.2.1.1 rfl ?_
      refine g_icmp_gt ok (dk m_Ep_layPath 19 rfl) (tgt := 145) (by decide) (pc' := 38) rfl (fun c_35 => absurd c_35 (nI_nlt (a := q.1.1.2.1.2) (b := k) (by omega) (by omega))) (fun c_35 => ?_)
      refine g_aload_n ok (dk m_Ep_layPath 20 rfl) (pc' := 39) rfl (i := 0) rfl rfl ?_
      refine g_get ok (dk m_Ep_layPath 21 rfl) (pc' := 42) rfl f_Ep_49 he1.1 rfl ?_
      refine g_iload_n ok (dk m_Ep_layPath 22 rfl) (pc' := 43) rfl (i := 3) rfl rfl ?_
      refine g_callS ok (dk m_Ep_layPath 23 rfl) (pc' := 46) rfl c_Ep_61 (c_Tr_nodeOver g (q.1.1.1 1) (nI k) 0) rfl rfl (by simp [Value.category]) (by omega) rfl (rc' := 0) (rs' := 0) (by omega) (by omega) (fun rv h' hcc => ?_) (fun i h' hcc => by obtain ⟨e9, -⟩ := hcc; cases e9)
      obtain ⟨e9, e2⟩ := hcc
      have e3 := e2.symm
      subst e3
      cases e9
      refine g_istore ok (dk m_Ep_layPath 24 rfl) (pc' := 48) rfl (Nat.le_of_ble_eq_true rfl) rfl ?_
      refine g_aload_n ok (dk m_Ep_layPath 25 rfl) (pc' := 49) rfl (i := 0) rfl rfl ?_
      refine g_get ok (dk m_Ep_layPath 26 rfl) (pc' := 52) rfl f_Ep_12 he1.1 rfl ?_
      refine g_aload_n ok (dk m_Ep_layPath 27 rfl) (pc' := 53) rfl (i := 0) rfl rfl ?_
      refine g_iload_n ok (dk m_Ep_layPath 28 rfl) (pc' := 54) rfl (i := 3) rfl rfl ?_
      refine g_callV ok (dk m_Ep_layPath 29 rfl) (pc' := 57) rfl c_Ep_78 (c_Ep_nodeBesidePath g (nI k) 1 (by omega) he1) he1.1 rfl rfl (by simp [Value.category]) (by omega) rfl (rc' := 0) (rs' := 0) (by omega) (by omega) (fun rv h' hcc => ?_) (fun i h' hcc => by obtain ⟨e9, -⟩ := hcc; cases e9)
      obtain ⟨e9, e2⟩ := hcc
      have e3 := e2.symm
      subst e3
      cases e9
      refine g_callV ok (dk m_Ep_layPath 30 rfl) (pc' := 60) rfl c_Ep_82 (c_Tr_resolution g (E_bes q.1.1 (nI k)) 6 (by omega) he1.2.1) he1.2.1.1 rfl rfl (by simp [Value.category]) (by omega) rfl (rc' := 0) (rs' := 0) (by omega) (by omega) (fun rv h' hcc => ?_) (fun i h' hcc => by obtain ⟨e9, -⟩ := hcc; cases e9)
      obtain ⟨e9, e2⟩ := hcc
      have e3 := e2.symm
      subst e3
      cases e9
      refine g_if_ne ok (dk m_Ep_layPath 31 rfl) (tgt := 75) (by decide) (pc' := 63) rfl (fun c_60 => ?_) (fun c_60 => ?_)
      · refine g_iload_n ok (dk m_Ep_layPath 37 rfl) (pc' := 76) rfl (i := 2) rfl rfl ?_
        refine g_iconst ok (dk m_Ep_layPath 38 rfl) (pc' := 77) rfl (v := (-1)) (by decide) ?_
        refine g_icmp_ne ok (dk m_Ep_layPath 39 rfl) (tgt := 87) (by decide) (pc' := 80) rfl (fun c_77 => ?_) (fun c_77 => ?_)
        · refine g_aload_n ok (dk m_Ep_layPath 43 rfl) (pc' := 88) rfl (i := 1) rfl rfl ?_
          refine g_iload_n ok (dk m_Ep_layPath 44 rfl) (pc' := 89) rfl (i := 2) rfl rfl ?_
          refine g_callV ok (dk m_Ep_layPath 45 rfl) (pc' := 92) rfl c_Ep_89 (c_Sec_derivedFrom g q.2 3 (by omega) hs1) hs1.1 rfl rfl (by simp [Value.category]) (by omega) rfl (rc' := 0) (rs' := 0) (by omega) (by omega) (fun rv h' hcc => ?_) (fun i h' hcc => by obtain ⟨e9, -⟩ := hcc; cases e9)
          obtain ⟨e9, hs2, hq2⟩ := hcc
          cases e9
          have hq : S_nxt q.1.2 q.2 = S_der q.1.2 q.2 := by rw [S_nxt, if_neg c_77]
          rw [show (S_der q.1.2 q.2).1 = (S_nxt q.1.2 q.2).1 from by rw [hq]]
          exact mid c_60 _ (he1.off hq2 hap.1) (by rw [hq]; exact hs2) (ep_P.sr ho1 hq2)
        · refine g_aload_n ok (dk m_Ep_layPath 40 rfl) (pc' := 81) rfl (i := 1) rfl rfl ?_
          refine g_callV ok (dk m_Ep_layPath 41 rfl) (pc' := 84) rfl c_Ep_65 (c_Sec_fresh g 0 hs1) hs1.1 rfl rfl (by simp [Value.category]) (by omega) rfl (rc' := 0) (rs' := 0) (by omega) (by omega) (fun rv h' hcc => ?_) (fun i h' hcc => by obtain ⟨e9, -⟩ := hcc; cases e9)
          obtain ⟨e9, hs2, hq2⟩ := hcc
          cases e9
          refine g_goto ok (dk m_Ep_layPath 42 rfl) (pc' := 92) (by decide) ?_
          have hq : S_nxt q.1.2 q.2 = S_fresh q.1.2 := by rw [S_nxt, if_pos c_77]
          rw [show (S_fresh q.1.2).1 = (S_nxt q.1.2 q.2).1 from by rw [hq]]
          exact mid c_60 _ (he1.off hq2 hap.1) (by rw [hq]; exact hs2) (ep_P.sr ho1 hq2)
      · refine g_aload_n ok (dk m_Ep_layPath 32 rfl) (pc' := 64) rfl (i := 0) rfl rfl ?_
        refine g_get ok (dk m_Ep_layPath 33 rfl) (pc' := 67) rfl f_Ep_12 he1.1 rfl ?_
        refine g_iload ok (dk m_Ep_layPath 34 rfl) (pc' := 69) rfl rfl ?_
        refine g_callV ok (dk m_Ep_layPath 35 rfl) (pc' := 72) rfl c_Ep_85 (c_Tr_blank g (j_node (q.1.1.1 1) (nI k)) 2 (by omega) he1.2.1) he1.2.1.1 rfl rfl (by simp [Value.category]) (by omega) rfl (rc' := 0) (rs' := 0) (by omega) (by omega) (fun rv h' hcc => ?_) (fun i h' hcc => by obtain ⟨e9, -⟩ := hcc; cases e9)
        obtain ⟨e9, ht2, hq2⟩ := hcc
        cases e9
        have he2 := he1.treeE ht2 hq2
        have hs2 := hap.sP hq2 hs1
        have ho2 := ep_P.tr ho1 hq2
        clear mid
        refine g_goto ok (dk m_Ep_layPath 36 rfl) (pc' := 139) (by decide) ?_
        refine g_iinc ok (dk m_Ep_layPath 73 rfl) (pc' := 142) rfl rfl (nI_1 k) rfl ?_
        refine g_goto ok (dk m_Ep_layPath 74 rfl) (pc' := 27) (by decide) ?_
        have hq : ES_lay1 k q = (((q.1.1.1, T_blank q.1.1.2.1 (j_node (q.1.1.1 1) (nI k)), q.1.1.2.2), q.1.2), q.2) := by rw [ES_lay1, if_pos c_60]
        rw [show q.2 = (ES_lay1 k q).2 from by rw [hq]]
        refine ih (k + 1) (by omega) _ (ES_lay1 k q) _ ?_ ?_ ho2 (by rw [← hv]; rfl) (by rw [(ES_lay1_k k q).1]; exact hD) (by rw [(ES_lay1_k k q).2.2]; exact hc)
        · rw [hq]; exact he2
        · rw [hq]; exact hs2
  refine g_aload_n ok (dk m_Ep_layPath 0 rfl) (pc' := 1) rfl (i := 0) rfl rfl ?_
  refine g_get ok (dk m_Ep_layPath 1 rfl) (pc' := 4) rfl f_Ep_12 he.1 rfl ?_
  refine g_aload_n ok (dk m_Ep_layPath 2 rfl) (pc' := 5) rfl (i := 0) rfl rfl ?_
  refine g_get ok (dk m_Ep_layPath 3 rfl) (pc' := 8) rfl f_Ep_49 he.1 rfl ?_
  refine g_iconst ok (dk m_Ep_layPath 4 rfl) (pc' := 9) rfl (v := 0) (by decide) ?_
  refine g_callS ok (dk m_Ep_layPath 5 rfl) (pc' := 12) rfl c_Ep_61 (c_Tr_nodeOver g (E.1 1) 0 0) rfl rfl (by simp [Value.category]) (by omega) rfl (rc' := 0) (rs' := 0) (by omega) (by omega) (fun rv h' hcc => ?_) (fun i h' hcc => by obtain ⟨e9, -⟩ := hcc; cases e9)
  obtain ⟨e9, e2⟩ := hcc
  have e3 := e2.symm
  subst e3
  cases e9
  refine g_aload_n ok (dk m_Ep_layPath 6 rfl) (pc' := 13) rfl (i := 1) rfl rfl ?_
  refine g_callV ok (dk m_Ep_layPath 7 rfl) (pc' := 16) rfl c_Ep_65 (c_Sec_fresh g 0 hs) hs.1 rfl rfl (by simp [Value.category]) (by omega) rfl (rc' := 0) (rs' := 0) (by omega) (by omega) (fun rv h' hcc => ?_) (fun i h' hcc => by obtain ⟨e9, -⟩ := hcc; cases e9)
  obtain ⟨e9, hs2, hq2⟩ := hcc
  cases e9
  have he2 := he.off hq2 hap.1
  refine g_aload_n ok (dk m_Ep_layPath 8 rfl) (pc' := 17) rfl (i := 0) rfl rfl ?_
  refine g_get ok (dk m_Ep_layPath 9 rfl) (pc' := 20) rfl f_Ep_46 he2.1 rfl ?_
  refine g_callV ok (dk m_Ep_layPath 10 rfl) (pc' := 23) rfl c_Ep_71 (c_Tr_give g (j_node (E.1 1) 0) (S_fresh S).1 (E.1 0) 1 (by omega) he2.2.1) he2.2.1.1 rfl rfl (by simp [Value.category]) (by omega) rfl (rc' := 0) (rs' := 0) (by omega) (by omega) (fun rv h' hcc => ?_) (fun i h' hcc => by obtain ⟨e9, -⟩ := hcc; cases e9)
  obtain ⟨e9, ht3, hq3⟩ := hcc
  cases e9
  have he3 := he2.treeE ht3 hq3
  have hs3 := hap.sP hq3 hs2
  have ho3 := ep_P.tr (ep_P.sr (q_off.rf (X := q_EP e t pb rb s sb)) hq2) hq3
  refine g_iconst ok (dk m_Ep_layPath 11 rfl) (pc' := 24) rfl (v := (-1)) (by decide) ?_
  refine g_istore_n ok (dk m_Ep_layPath 12 rfl) (pc' := 25) rfl (i := 2) rfl (Nat.le_of_ble_eq_true rfl) rfl ?_
  refine g_iconst ok (dk m_Ep_layPath 13 rfl) (pc' := 26) rfl (v := 1) (by decide) ?_
  refine g_istore_n ok (dk m_Ep_layPath 14 rfl) (pc' := 27) rfl (i := 3) rfl (Nat.le_of_ble_eq_true rfl) rfl ?_
  exact loop E.2.1.2 1 (by omega) _ (ES_q0 E S) _ he3 hs3 ho3 rfl rfl rfl
end
section
/-! ===== Member ===== -/
abbrev m_T : Type := (Nat → Int32) × (Nat → Nat → Int32)
def m_len (i : Nat) : Nat := if i = 1 then 20 else 31
theorem m_len_lt (i : Nat) : m_len i < 2 ^ 31 := by
  unfold m_len
  split <;> decide
abbrev m_fs (ra : Nat → Nat) (I : Nat → Int32) : List Value := [.int (I 0), .ref (ra 0), .ref (ra 1), .int (I 1), .int (I 2), .int (I 3), .int (I 4), .int (I 5)]
def q_mem (h : q_H) (m : Nat) (ra rb : Nat → Nat) (M : m_T) : Prop := h m = some (.inl (4, m_fs ra M.1)) ∧ q_rw 2 m_len h ra rb M.2
abbrev m_P (m : Nat) (rb : Nat → Nat) : Nat → Prop := fun y => y = m ∨ ∃ i, i < 2 ∧ y = rb i
def m_A (m : Nat) (ra rb : Nat → Nat) : Nat → Prop := fun y => y = m ∨ ∃ i, i < 2 ∧ (y = ra i ∨ y = rb i)
def tr_A (t : Nat) (ra rb : Nat → Nat) : Nat → Prop := fun y => y = t ∨ ∃ i, i < 4 ∧ (y = ra i ∨ y = rb i)
theorem q_mem.putE {h h' : q_H} {t : Nat} {ra rb : Nat → Nat} {T : m_T} (ht : q_mem h t ra rb T) (i : Nat) (hi : i < 2) {f : Nat → Int32} (e : h' = q_up h (rb i) (.inr (0, m_len i, .inl f))) : q_mem h' t ra rb (T.1, va_up T.2 i f) := by
  refine ⟨?_, ht.2.put i hi e⟩
  rw [e, q_up_n (q_oa ht.1 (ht.2.1 i hi).2)]
  exact ht.1
theorem q_mem.intE {h h' : q_H} {t : Nat} {ra rb : Nat → Nat} {T : m_T} (ht : q_mem h t ra rb T) (k p : Nat) (hk : (k = 1 ∧ p = 3) ∨ (k = 2 ∧ p = 4) ∨ (k = 3 ∧ p = 5) ∨ (k = 4 ∧ p = 6) ∨ (k = 5 ∧ p = 7)) {v : Int32} (e : h' = q_up h t (.inl (4, (m_fs ra T.1).set p (.int v)))) : q_mem h' t ra rb (upd T.1 k v, T.2) := by
  refine ⟨?_, ht.2.kept (fun i hi => ⟨?_, ?_⟩)⟩
  · rw [e, q_up_s]
    rcases hk with ⟨rfl, rfl⟩ | ⟨rfl, rfl⟩ | ⟨rfl, rfl⟩ | ⟨rfl, rfl⟩ | ⟨rfl, rfl⟩ <;> rfl
  · rw [e, q_up_n (q_df (ht.2.1 i hi).1 ht.1 (fun z => by cases z))]
  · rw [e, q_up_n (q_oa ht.1 (ht.2.1 i hi).2).symm]
theorem q_mem.off {h h' : q_H} {t : Nat} {ra rb : Nat → Nat} {T : m_T} {X : Nat → Prop} (ht : q_mem h t ra rb T) (ho : q_off h h' X) (hA : ∀ y, m_A t ra rb y → ¬ X y) : q_mem h' t ra rb T := ⟨(ho t (hA _ (Or.inl rfl))).trans ht.1, ht.2.kept (fun i hi => ⟨ho _ (hA _ (Or.inr ⟨i, hi, Or.inl rfl⟩)), ho _ (hA _ (Or.inr ⟨i, hi, Or.inr rfl⟩))⟩)⟩
theorem q_tree.offA {h h' : q_H} {t : Nat} {ra rb : Nat → Nat} {T : tr_T} {X : Nat → Prop} (ht : q_tree h t ra rb T) (ho : q_off h h' X) (hA : ∀ y, tr_A t ra rb y → ¬ X y) : q_tree h' t ra rb T := ht.off ho (hA _ (Or.inl rfl)) (fun i hi => ⟨hA _ (Or.inr ⟨i, hi, Or.inl rfl⟩), hA _ (Or.inr ⟨i, hi, Or.inr rfl⟩)⟩)
theorem ep_A.tree {e t pr pb : Nat} {ra rb : Nat → Nat} {X : Nat → Prop} (h : ∀ y, ep_A e t pr pb ra rb y → ¬ X y) : ∀ y, tr_A t ra rb y → ¬ X y := by
  rintro y (z | ⟨i, hi, z⟩)
  · exact h y (Or.inr (Or.inl z))
  · exact h y (Or.inr (Or.inr (Or.inr (Or.inr ⟨i, hi, z⟩))))
noncomputable def M_put (M : m_T) (n v : Int32) : m_T := (M.1, va_up M.2 0 (r_put (m_len 0) (M.2 0) n v))
noncomputable def M_int (M : m_T) (k : Nat) (v : Int32) : m_T := (upd M.1 k v, M.2)
noncomputable def M_hk (M : m_T) (T : tr_T) (n : Int32) : Prop := ¬ r_get (tr_len 0) (T.1 0) n = -1 ∧ r_get (m_len 0) (M.2 0) n = r_get (tr_len 0) (T.1 0) n
noncomputable def M_tk (M : m_T) (T : tr_T) (n : Int32) : m_T := M_put M n (r_get (tr_len 0) (T.1 0) n)
noncomputable def M_d1 (T : tr_T) (k : Nat) (M : m_T) : m_T := by classical exact if M_hk M T (nI k) then M else M_put M (nI k) (-1)
noncomputable def M_drop (T : tr_T) : Nat → Nat → m_T → m_T
  | 0, _, M => M
  | m + 1, k, M => M_drop T m (k + 1) (M_d1 T k M)
noncomputable def M_c1 (E : e_T) (k : Nat) (M : m_T) : m_T := by classical exact if j_in (E.1 3) (j_node (M.1 3) (nI k)) then M_tk M E.2.1 (j_node (M.1 3) (nI k)) else M
noncomputable def M_tck (E : e_T) : Nat → Nat → m_T → m_T
  | 0, _, M => M
  | m + 1, k, M => M_tck E m (k + 1) (M_c1 E k M)
noncomputable def M_hof (M : m_T) (b : Int32) (T : tr_T) : Prop := ∃ l, l < 31 ∧ j_in b (nI l) ∧ M_hk M T (nI l)
noncomputable def M_l0 (M : m_T) (E : e_T) : m_T := M_drop E.2.1 31 0 (M_int (M_int (M_int M 2 (E.1 0)) 4 1) 1 0)
noncomputable def M_lead (M : m_T) (E : e_T) : m_T := M_tck E E.2.1.2 1 (M_tk (M_l0 M E) E.2.1 (j_node ((M_l0 M E).1 3) 0))
noncomputable def M_enter (M : m_T) (E : e_T) (l : Int32) : m_T := M_lead (M_int M 3 l) E
noncomputable def M_leave (M : m_T) : m_T := ((M_int (M_int (M_int (M_int M 2 (-1)) 3 (-1)) 4 0) 1 0).1, va_up M.2 0 (r_fill (m_len 0) (M.2 0) (-1)))
noncomputable def M_keep (M : m_T) (x : Int32) : m_T := if M.1 1 < 20 then (upd M.1 1 (M.1 1 + 1), va_up M.2 1 (r_put (m_len 1) (M.2 1) (M.1 1) x)) else M
noncomputable def M_f1 (M : m_T) (E : e_T) : m_T := M_int (M_int M 2 (E.1 0)) 1 0
noncomputable def M_f2 (M : m_T) (E : e_T) : m_T := by classical exact if j_in (E.1 5) ((M_f1 M E).1 3) then M_tk (M_f1 M E) E.2.1 (j_node ((M_f1 M E).1 3) 0) else M_f1 M E
noncomputable def M_f3 (M : m_T) (E : e_T) : m_T := M_drop E.2.1 31 0 (M_f2 M E)
noncomputable def M_flc (M : m_T) (E : e_T) : Int32 := E_lc E ((M_f3 M E).1 3) E.2.1.2 1
noncomputable def M_fol (M : m_T) (E : e_T) : m_T := by classical exact if M_flc M E = -1 then M_f3 M E else if M_hof (M_f3 M E) (E_rdr E (M_flc M E)) E.2.1 then M_tck E E.2.1.2 1 (M_f3 M E) else M_int (M_int (M_f3 M E) 5 ((M_f3 M E).1 5 + 1)) 4 0
set_option maxHeartbeats 1000000 in
theorem c_Mem_holdsKeyIn (g : q_G) {h : q_H} {m : Nat} {ma mb : Nat → Nat} {M : m_T} (n : Int32) (d : Nat) (hd : 1 ≤ d) (hm : q_mem h m ma mb M) {t : Nat} {ra rb : Nat → Nat} {T : tr_T} (ht : q_tree h t ra rb T) : MG g y_Mem_holdsKeyIn b_Mem_holdsKeyIn 4 (some .boolean) d 0 0 [.ref m, .ref t, .int n] h (fun q h' => q = .inl (some (.int (b2i (M_hk M T n)))) ∧ h' = h) := by
  refine MG.of (by decide +kernel) (by simp [Value.category]) (Nat.le_of_ble_eq_true rfl) ?_
  intro Z A ok
  refine g_aload_n ok (dk m_Mem_holdsKeyIn 0 rfl) (pc' := 1) rfl (i := 1) rfl rfl ?_
  refine g_getR ok (dk m_Mem_holdsKeyIn 1 rfl) (pc' := 4) rfl f_Mem_46 ht.1 rfl ?_
  refine g_iload_n ok (dk m_Mem_holdsKeyIn 2 rfl) (pc' := 5) rfl (i := 2) rfl rfl ?_
  refine g_callV ok (dk m_Mem_holdsKeyIn 3 rfl) (pc' := 8) rfl c_Mem_49 (c_Row_get g n 0 (ht.2.1 0 (by decide)).1 (ht.2.1 0 (by decide)).2 (tr_len_lt _)) (ht.2.1 0 (by decide)).1 rfl rfl (by simp [Value.category]) (by omega) rfl (rc' := 0) (rs' := 0) (by omega) (by omega) (fun rv h' hcc => ?_) (fun i h' hcc => by obtain ⟨e9, -⟩ := hcc; cases e9)
  obtain ⟨e9, e2⟩ := hcc
  have e3 := e2.symm
  subst e3
  cases e9
  refine g_istore_n ok (dk m_Mem_holdsKeyIn 4 rfl) (pc' := 9) rfl (i := 3) rfl (Nat.le_of_ble_eq_true rfl) rfl ?_
  refine g_iload_n ok (dk m_Mem_holdsKeyIn 5 rfl) (pc' := 10) rfl (i := 3) rfl rfl ?_
  refine g_iconst ok (dk m_Mem_holdsKeyIn 6 rfl) (pc' := 11) rfl (v := (-1)) (by decide) ?_
  refine g_icmp_eq ok (dk m_Mem_holdsKeyIn 7 rfl) (tgt := 30) (by decide) (pc' := 14) rfl (fun c_11 => ?_) (fun c_11 => ?_)
  · refine g_iconst ok (dk m_Mem_holdsKeyIn 16 rfl) (pc' := 31) rfl (v := 0) (by decide) ?_
    exact g_iret ok (dk m_Mem_holdsKeyIn 17 rfl) rfl rfl ⟨by rw [b2i_f (p := M_hk M T n) (fun z => z.1 c_11)], rfl⟩
  · refine g_aload_n ok (dk m_Mem_holdsKeyIn 8 rfl) (pc' := 15) rfl (i := 0) rfl rfl ?_
    refine g_get ok (dk m_Mem_holdsKeyIn 9 rfl) (pc' := 18) rfl f_Mem_14 hm.1 rfl ?_
    refine g_iload_n ok (dk m_Mem_holdsKeyIn 10 rfl) (pc' := 19) rfl (i := 2) rfl rfl ?_
    refine g_callV ok (dk m_Mem_holdsKeyIn 11 rfl) (pc' := 22) rfl c_Mem_49 (c_Row_get g n 0 (hm.2.1 0 (by decide)).1 (hm.2.1 0 (by decide)).2 (m_len_lt _)) (hm.2.1 0 (by decide)).1 rfl rfl (by simp [Value.category]) (by omega) rfl (rc' := 0) (rs' := 0) (by omega) (by omega) (fun rv h' hcc => ?_) (fun i h' hcc => by obtain ⟨e9, -⟩ := hcc; cases e9)
    obtain ⟨e9, e2⟩ := hcc
    have e3 := e2.symm
    subst e3
    cases e9
    refine g_iload_n ok (dk m_Mem_holdsKeyIn 12 rfl) (pc' := 23) rfl (i := 3) rfl rfl ?_
    refine g_icmp_ne ok (dk m_Mem_holdsKeyIn 13 rfl) (tgt := 30) (by decide) (pc' := 26) rfl (fun c_23 => ?_) (fun c_23 => ?_)
    · refine g_iconst ok (dk m_Mem_holdsKeyIn 16 rfl) (pc' := 31) rfl (v := 0) (by decide) ?_
      exact g_iret ok (dk m_Mem_holdsKeyIn 17 rfl) rfl rfl ⟨by rw [b2i_f (p := M_hk M T n) (fun z => c_23 z.2)], rfl⟩
    · refine g_iconst ok (dk m_Mem_holdsKeyIn 14 rfl) (pc' := 27) rfl (v := 1) (by decide) ?_
      refine g_goto ok (dk m_Mem_holdsKeyIn 15 rfl) (pc' := 31) (by decide) ?_
      exact g_iret ok (dk m_Mem_holdsKeyIn 17 rfl) rfl rfl ⟨by rw [b2i_t (p := M_hk M T n) ⟨c_11, c_23⟩], rfl⟩
set_option maxHeartbeats 1000000 in
theorem c_Mem_takeKey (g : q_G) {h : q_H} {m : Nat} {ma mb : Nat → Nat} {M : m_T} (n : Int32) (d : Nat) (hd : 1 ≤ d) (hm : q_mem h m ma mb M) {t : Nat} {ra rb : Nat → Nat} {T : tr_T} (ht : q_tree h t ra rb T) : MG g y_Mem_takeKey b_Mem_takeKey 3 none d 0 0 [.ref m, .ref t, .int n] h (fun q h' => q = .inl none ∧ q_mem h' m ma mb (M_tk M T n) ∧ q_off h h' (m_P m mb)) := by
  refine MG.of (by decide +kernel) (by simp [Value.category]) (Nat.le_of_ble_eq_true rfl) ?_
  intro Z A ok
  refine g_aload_n ok (dk m_Mem_takeKey 0 rfl) (pc' := 1) rfl (i := 0) rfl rfl ?_
  refine g_get ok (dk m_Mem_takeKey 1 rfl) (pc' := 4) rfl f_Mem_14 hm.1 rfl ?_
  refine g_iload_n ok (dk m_Mem_takeKey 2 rfl) (pc' := 5) rfl (i := 2) rfl rfl ?_
  refine g_aload_n ok (dk m_Mem_takeKey 3 rfl) (pc' := 6) rfl (i := 1) rfl rfl ?_
  refine g_getR ok (dk m_Mem_takeKey 4 rfl) (pc' := 9) rfl f_Mem_46 ht.1 rfl ?_
  refine g_iload_n ok (dk m_Mem_takeKey 5 rfl) (pc' := 10) rfl (i := 2) rfl rfl ?_
  refine g_callV ok (dk m_Mem_takeKey 6 rfl) (pc' := 13) rfl c_Mem_49 (c_Row_get g n 0 (ht.2.1 0 (by decide)).1 (ht.2.1 0 (by decide)).2 (tr_len_lt _)) (ht.2.1 0 (by decide)).1 rfl rfl (by simp [Value.category]) (by omega) rfl (rc' := 0) (rs' := 0) (by omega) (by omega) (fun rv h' hcc => ?_) (fun i h' hcc => by obtain ⟨e9, -⟩ := hcc; cases e9)
  obtain ⟨e9, e2⟩ := hcc
  have e3 := e2.symm
  subst e3
  cases e9
  refine g_callV ok (dk m_Mem_takeKey 7 rfl) (pc' := 16) rfl c_Mem_43 (c_Row_put g n _ 0 (hm.2.1 0 (by decide)).1 (hm.2.1 0 (by decide)).2 (m_len_lt _)) (hm.2.1 0 (by decide)).1 rfl rfl (by simp [Value.category]) (by omega) rfl (rc' := 0) (rs' := 0) (by omega) (by omega) (fun rv h' hcc => ?_) (fun i h' hcc => by obtain ⟨e9, -⟩ := hcc; cases e9)
  obtain ⟨e9, e2⟩ := hcc
  cases e9
  have hm2 := hm.putE 0 (by decide) e2
  have ho2 := q_off.upE (q_off.rf (X := m_P m mb)) (Or.inr ⟨0, by decide, rfl⟩) e2
  clear e2
  exact g_vret ok (dk m_Mem_takeKey 8 rfl) rfl ⟨rfl, hm2, ho2⟩
set_option maxHeartbeats 1000000 in
theorem c_Mem_dropStaleKeys (g : q_G) {h : q_H} {m : Nat} {ma mb : Nat → Nat} {M : m_T} (d : Nat) (hd : 2 ≤ d) (hm : q_mem h m ma mb M) {t : Nat} {ra rb : Nat → Nat} {T : tr_T} (ht : q_tree h t ra rb T) (hap : ∀ y, tr_A t ra rb y → ¬ m_P m mb y) : MG g y_Mem_dropStaleKeys b_Mem_dropStaleKeys 3 none d 0 0 [.ref m, .ref t] h (fun q h' => q = .inl none ∧ q_mem h' m ma mb (M_drop T 31 0 M) ∧ q_off h h' (m_P m mb)) := by
  refine MG.of (by decide +kernel) (by simp [Value.category]) (Nat.le_of_ble_eq_true rfl) ?_
  intro Z A ok
  have loop : ∀ (j k : Nat), k + j = 31 → ∀ (h1 : q_H) (N : m_T), q_mem h1 m ma mb N → q_tree h1 t ra rb T → q_off h h1 (m_P m mb) → M_drop T j k N = M_drop T 31 0 M → GW g Z A (fun q h' => q = .inl none ∧ q_mem h' m ma mb (M_drop T 31 0 M) ∧ q_off h h' (m_P m mb)) 0 0 h1 2 [some (.ref m), some (.ref t), some (.int (nI k))] [] := by
    intro j
    induction j with
    | zero =>
      intro k hk h1 N hm1 ht1 ho1 hv
      refine g_iload_n ok (dk m_Mem_dropStaleKeys 2 rfl) (pc' := 3) rfl (i := 2) rfl rfl ?_
      refine g_bipush ok (dk m_Mem_dropStaleKeys 3 rfl) (pc' := 5) rfl (v := 31) (by decide) ?_
      refine g_icmp_ge ok (dk m_Mem_dropStaleKeys 4 rfl) (tgt := 32) (by decide) (pc' := 8) rfl (fun c_5 => ?_) (fun c_5 => absurd (show (31 : Int32) ≤ nI k from by rw [show k = 31 by omega]; decide) c_5)
      exact g_vret ok (dk m_Mem_dropStaleKeys 17 rfl) rfl ⟨rfl, by rw [← hv]; exact hm1, ho1⟩
    | succ j ih =>
      intro k hk h1 N hm1 ht1 ho1 hv
      refine g_iload_n ok (dk m_Mem_dropStaleKeys 2 rfl) (pc' := 3) rfl (i := 2) rfl rfl ?_
      refine g_bipush ok (dk m_Mem_dropStaleKeys 3 rfl) (pc' := 5) rfl (v := 31) (by decide) ?_
      refine g_icmp_ge ok (dk m_Mem_dropStaleKeys 4 rfl) (tgt := 32) (by decide) (pc' := 8) rfl (fun c_5 => absurd c_5 (show ¬ nI 31 ≤ nI k from nI_ge (by omega) (by decide))) (fun c_5 => ?_)
      refine g_aload_n ok (dk m_Mem_dropStaleKeys 5 rfl) (pc' := 9) rfl (i := 0) rfl rfl ?_
      refine g_aload_n ok (dk m_Mem_dropStaleKeys 6 rfl) (pc' := 10) rfl (i := 1) rfl rfl ?_
      refine g_iload_n ok (dk m_Mem_dropStaleKeys 7 rfl) (pc' := 11) rfl (i := 2) rfl rfl ?_
      refine g_callV ok (dk m_Mem_dropStaleKeys 8 rfl) (pc' := 14) rfl c_Mem_100 (c_Mem_holdsKeyIn g (nI k) 1 (by omega) hm1 ht1) hm1.1 rfl rfl (by simp [Value.category]) (by omega) rfl (rc' := 0) (rs' := 0) (by omega) (by omega) (fun rv h' hcc => ?_) (fun i h' hcc => by obtain ⟨e9, -⟩ := hcc; cases e9)
      obtain ⟨e9, e2⟩ := hcc
      have e3 := e2.symm
      subst e3
      cases e9
      refine g_if_ne ok (dk m_Mem_dropStaleKeys 9 rfl) (tgt := 26) (by decide) (pc' := 17) rfl (fun c_14 => ?_) (fun c_14 => ?_)
      · have hq : M_d1 T k N = N := by rw [M_d1, if_pos (b2i_n c_14)]
        have hm2 : q_mem h1 m ma mb (M_d1 T k N) := by rw [hq]; exact hm1
        have ho2 := ho1
        have ht2 := ht1
        refine g_iinc ok (dk m_Mem_dropStaleKeys 15 rfl) (pc' := 29) rfl rfl (nI_1 k) rfl ?_
        refine g_goto ok (dk m_Mem_dropStaleKeys 16 rfl) (pc' := 2) (by decide) ?_
        exact ih (k + 1) (by omega) _ _ hm2 ht2 ho2 (by rw [← hv]; rfl)
      · refine g_aload_n ok (dk m_Mem_dropStaleKeys 10 rfl) (pc' := 18) rfl (i := 0) rfl rfl ?_
        refine g_get ok (dk m_Mem_dropStaleKeys 11 rfl) (pc' := 21) rfl f_Mem_14 hm1.1 rfl ?_
        refine g_iload_n ok (dk m_Mem_dropStaleKeys 12 rfl) (pc' := 22) rfl (i := 2) rfl rfl ?_
        refine g_iconst ok (dk m_Mem_dropStaleKeys 13 rfl) (pc' := 23) rfl (v := (-1)) (by decide) ?_
        refine g_callV ok (dk m_Mem_dropStaleKeys 14 rfl) (pc' := 26) rfl c_Mem_43 (c_Row_put g (nI k) (-1) 0 (hm1.2.1 0 (by decide)).1 (hm1.2.1 0 (by decide)).2 (m_len_lt _)) (hm1.2.1 0 (by decide)).1 rfl rfl (by simp [Value.category]) (by omega) rfl (rc' := 0) (rs' := 0) (by omega) (by omega) (fun rv h' hcc => ?_) (fun i h' hcc => by obtain ⟨e9, -⟩ := hcc; cases e9)
        obtain ⟨e9, e2⟩ := hcc
        cases e9
        have hm3 := hm1.putE 0 (by decide) e2
        have ho3 := q_off.upE (q_off.rf (X := m_P m mb)) (Or.inr ⟨0, by decide, rfl⟩) e2
        clear e2
        have hq : M_d1 T k N = M_put N (nI k) (-1) := by rw [M_d1, if_neg (b2i_0 c_14)]
        have hm2 : q_mem h' m ma mb (M_d1 T k N) := by rw [hq]; exact hm3
        have ho2 := ho1.tr ho3
        have ht2 := ht1.offA ho3 hap
        refine g_iinc ok (dk m_Mem_dropStaleKeys 15 rfl) (pc' := 29) rfl rfl (nI_1 k) rfl ?_
        refine g_goto ok (dk m_Mem_dropStaleKeys 16 rfl) (pc' := 2) (by decide) ?_
        exact ih (k + 1) (by omega) _ _ hm2 ht2 ho2 (by rw [← hv]; rfl)
  refine g_iconst ok (dk m_Mem_dropStaleKeys 0 rfl) (pc' := 1) rfl (v := 0) (by decide) ?_
  refine g_istore_n ok (dk m_Mem_dropStaleKeys 1 rfl) (pc' := 2) rfl (i := 2) rfl (Nat.le_of_ble_eq_true rfl) rfl ?_
  exact loop 31 0 (by omega) h M hm ht q_off.rf rfl
set_option maxHeartbeats 1000000 in
theorem c_Mem_takeCountingKeys (g : q_G) {h : q_H} {m : Nat} {ma mb : Nat → Nat} {M : m_T} (d : Nat) (hd : 2 ≤ d) (hm : q_mem h m ma mb M) {e t pr pb : Nat} {ra rb : Nat → Nat} {E : e_T} (he : q_ep h e t pr pb ra rb E) (hap : ∀ y, ep_A e t pr pb ra rb y → ¬ m_P m mb y) (hT : E.2.1.2 ≤ 4) : MG g y_Mem_takeCountingKeys b_Mem_takeCountingKeys 4 none d 0 0 [.ref m, .ref e] h (fun q h' => q = .inl none ∧ q_mem h' m ma mb (M_tck E E.2.1.2 1 M) ∧ q_off h h' (m_P m mb)) := by
  refine MG.of (by decide +kernel) (by simp [Value.category]) (Nat.le_of_ble_eq_true rfl) ?_
  intro Z A ok
  have loop : ∀ (j k : Nat), k + j = E.2.1.2 + 1 → ∀ (h1 : q_H) (N : m_T) (x3 : Option Value), q_mem h1 m ma mb N → q_ep h1 e t pr pb ra rb E → q_off h h1 (m_P m mb) → M_tck E j k N = M_tck E E.2.1.2 1 M → GW g Z A (fun q h' => q = .inl none ∧ q_mem h' m ma mb (M_tck E E.2.1.2 1 M) ∧ q_off h h' (m_P m mb)) 0 0 h1 2 [some (.ref m), some (.ref e), some (.int (nI k)), x3] [] := by
    intro j
    induction j with
    | zero =>
      intro k hk h1 N x3 hm1 he1 ho1 hv
      refine g_iload_n ok (dk m_Mem_takeCountingKeys 2 rfl) (pc' := 3) rfl (i := 2) rfl rfl ?_
      refine g_aload_n ok (dk m_Mem_takeCountingKeys 3 rfl) (pc' := 4) rfl (i := 1) rfl rfl ?_
      refine g_getR ok (dk m_Mem_takeCountingKeys 4 rfl) (pc' := 7) rfl f_Mem_64 he1.1 rfl ?_
      refine g_get ok (dk m_Mem_takeCountingKeys 5 rfl) (pc' := 10) rfl f_Mem_104 he1.2.1.1 rfl ?_
      refine g_icmp_gt ok (dk m_Mem_takeCountingKeys 6 rfl) (tgt := 48) (by decide) (pc' := 13) rfl (fun c_10 => ?_) (fun c_10 => absurd (nI_lt (a := E.2.1.2) (b := k) (by omega) (by omega)) c_10)
      exact g_vret ok (dk m_Mem_takeCountingKeys 24 rfl) rfl ⟨rfl, by rw [← hv]; exact hm1, ho1⟩
    | succ j ih =>
      intro k hk h1 N x3 hm1 he1 ho1 hv
      refine g_iload_n ok (dk m_Mem_takeCountingKeys 2 rfl) (pc' := 3) rfl (i := 2) rfl rfl ?_
      refine g_aload_n ok (dk m_Mem_takeCountingKeys 3 rfl) (pc' := 4) rfl (i := 1) rfl rfl ?_
      refine g_getR ok (dk m_Mem_takeCountingKeys 4 rfl) (pc' := 7) rfl f_Mem_64 he1.1 rfl ?_
      refine g_get ok (dk m_Mem_takeCountingKeys 5 rfl) (pc' := 10) rfl f_Mem_104 he1.2.1.1 rfl ?_
      refine g_icmp_gt ok (dk m_Mem_takeCountingKeys 6 rfl) (tgt := 48) (by decide) (pc' := 13) rfl (fun c_10 => absurd c_10 (nI_nlt (a := E.2.1.2) (b := k) (by omega) (by omega))) (fun c_10 => ?_)
      refine g_aload_n ok (dk m_Mem_takeCountingKeys 7 rfl) (pc' := 14) rfl (i := 0) rfl rfl ?_
      refine g_get ok (dk m_Mem_takeCountingKeys 8 rfl) (pc' := 17) rfl f_Mem_30 hm1.1 rfl ?_
      refine g_iload_n ok (dk m_Mem_takeCountingKeys 9 rfl) (pc' := 18) rfl (i := 2) rfl rfl ?_
      refine g_callS ok (dk m_Mem_takeCountingKeys 10 rfl) (pc' := 21) rfl c_Mem_72 (c_Tr_nodeOver g (N.1 3) (nI k) 0) rfl rfl (by simp [Value.category]) (by omega) rfl (rc' := 0) (rs' := 0) (by omega) (by omega) (fun rv h' hcc => ?_) (fun i h' hcc => by obtain ⟨e9, -⟩ := hcc; cases e9)
      obtain ⟨e9, e2⟩ := hcc
      have e3 := e2.symm
      subst e3
      cases e9
      refine g_istore_n ok (dk m_Mem_takeCountingKeys 11 rfl) (pc' := 22) rfl (i := 3) rfl (Nat.le_of_ble_eq_true rfl) rfl ?_
      refine g_aload_n ok (dk m_Mem_takeCountingKeys 12 rfl) (pc' := 23) rfl (i := 1) rfl rfl ?_
      refine g_get ok (dk m_Mem_takeCountingKeys 13 rfl) (pc' := 26) rfl f_Mem_107 he1.1 rfl ?_
      refine g_iload_n ok (dk m_Mem_takeCountingKeys 14 rfl) (pc' := 27) rfl (i := 3) rfl rfl ?_
      refine g_callSN ok (dk m_Mem_takeCountingKeys 15 rfl) (pc' := 30) rfl c_Mem_86 (c_RG_isIn g (E.1 3) (j_node (N.1 3) (nI k)) 0) rfl rfl (by simp [Value.category]) (by omega) rfl (rc' := 0) (rs' := 0) (by omega) (by omega) (fun rv h' hcc => ?_) (fun i h' hcc => by obtain ⟨e9, -⟩ := hcc; cases e9)
      obtain ⟨e9, e2⟩ := hcc
      have e3 := e2.symm
      subst e3
      cases e9
      refine g_if_eq ok (dk m_Mem_takeCountingKeys 16 rfl) (tgt := 42) (by decide) (pc' := 33) rfl (fun c_30 => ?_) (fun c_30 => ?_)
      · have hq : M_c1 E k N = N := by rw [M_c1, if_neg (b2i_0 c_30)]
        have hm2 : q_mem h1 m ma mb (M_c1 E k N) := by rw [hq]; exact hm1
        have ho2 := ho1
        have he2 := he1
        refine g_iinc ok (dk m_Mem_takeCountingKeys 22 rfl) (pc' := 45) rfl rfl (nI_1 k) rfl ?_
        refine g_goto ok (dk m_Mem_takeCountingKeys 23 rfl) (pc' := 2) (by decide) ?_
        exact ih (k + 1) (by omega) _ _ _ hm2 he2 ho2 (by rw [← hv]; rfl)
      · refine g_aload_n ok (dk m_Mem_takeCountingKeys 17 rfl) (pc' := 34) rfl (i := 0) rfl rfl ?_
        refine g_aload_n ok (dk m_Mem_takeCountingKeys 18 rfl) (pc' := 35) rfl (i := 1) rfl rfl ?_
        refine g_getR ok (dk m_Mem_takeCountingKeys 19 rfl) (pc' := 38) rfl f_Mem_64 he1.1 rfl ?_
        refine g_iload_n ok (dk m_Mem_takeCountingKeys 20 rfl) (pc' := 39) rfl (i := 3) rfl rfl ?_
        refine g_callV ok (dk m_Mem_takeCountingKeys 21 rfl) (pc' := 42) rfl c_Mem_76 (c_Mem_takeKey g (j_node (N.1 3) (nI k)) 1 (by omega) hm1 he1.2.1) hm1.1 rfl rfl (by simp [Value.category]) (by omega) rfl (rc' := 0) (rs' := 0) (by omega) (by omega) (fun rv h' hcc => ?_) (fun i h' hcc => by obtain ⟨e9, -⟩ := hcc; cases e9)
        obtain ⟨e9, hm3, ho3⟩ := hcc
        cases e9
        have hq : M_c1 E k N = M_tk N E.2.1 (j_node (N.1 3) (nI k)) := by rw [M_c1, if_pos (b2i_n c_30)]
        have hm2 : q_mem h' m ma mb (M_c1 E k N) := by rw [hq]; exact hm3
        have ho2 := ho1.tr ho3
        have he2 := he1.off ho3 hap
        refine g_iinc ok (dk m_Mem_takeCountingKeys 22 rfl) (pc' := 45) rfl rfl (nI_1 k) rfl ?_
        refine g_goto ok (dk m_Mem_takeCountingKeys 23 rfl) (pc' := 2) (by decide) ?_
        exact ih (k + 1) (by omega) _ _ _ hm2 he2 ho2 (by rw [← hv]; rfl)
  refine g_iconst ok (dk m_Mem_takeCountingKeys 0 rfl) (pc' := 1) rfl (v := 1) (by decide) ?_
  refine g_istore_n ok (dk m_Mem_takeCountingKeys 1 rfl) (pc' := 2) rfl (i := 2) rfl (Nat.le_of_ble_eq_true rfl) rfl ?_
  exact loop E.2.1.2 1 (by omega) h M _ hm he q_off.rf rfl
set_option maxHeartbeats 1000000 in
theorem c_Mem_holdsOneOf (g : q_G) {h : q_H} {m : Nat} {ma mb : Nat → Nat} {M : m_T} (b : Int32) (d : Nat) (hd : 2 ≤ d) (hm : q_mem h m ma mb M) {t : Nat} {ra rb : Nat → Nat} {T : tr_T} (ht : q_tree h t ra rb T) : MG g y_Mem_holdsOneOf b_Mem_holdsOneOf 4 (some .boolean) d 0 0 [.ref m, .int b, .ref t] h (fun q h' => q = .inl (some (.int (b2i (M_hof M b T)))) ∧ h' = h) := by
  refine MG.of (by decide +kernel) (by simp [Value.category]) (Nat.le_of_ble_eq_true rfl) ?_
  intro Z A ok
  have loop : ∀ (j k : Nat), k + j = 31 → (∀ l, l < k → ¬ (j_in b (nI l) ∧ M_hk M T (nI l))) → GW g Z A (fun q h' => q = .inl (some (.int (b2i (M_hof M b T)))) ∧ h' = h) 0 0 h 2 [some (.ref m), some (.int b), some (.ref t), some (.int (nI k))] [] := by
    intro j
    induction j with
    | zero =>
      intro k hk hv
      refine g_iload_n ok (dk m_Mem_holdsOneOf 2 rfl) (pc' := 3) rfl (i := 3) rfl rfl ?_
      refine g_bipush ok (dk m_Mem_holdsOneOf 3 rfl) (pc' := 5) rfl (v := 31) (by decide) ?_
      refine g_icmp_ge ok (dk m_Mem_holdsOneOf 4 rfl) (tgt := 33) (by decide) (pc' := 8) rfl (fun c_5 => ?_) (fun c_5 => absurd (show (31 : Int32) ≤ nI k from by rw [show k = 31 by omega]; decide) c_5)
      refine g_iconst ok (dk m_Mem_holdsOneOf 18 rfl) (pc' := 34) rfl (v := 0) (by decide) ?_
      exact g_iret ok (dk m_Mem_holdsOneOf 19 rfl) rfl rfl ⟨by rw [b2i_f (p := M_hof M b T) (fun z => by obtain ⟨l, hl, e⟩ := z; exact hv l (by omega) e)], rfl⟩
    | succ j ih =>
      intro k hk hv
      refine g_iload_n ok (dk m_Mem_holdsOneOf 2 rfl) (pc' := 3) rfl (i := 3) rfl rfl ?_
      refine g_bipush ok (dk m_Mem_holdsOneOf 3 rfl) (pc' := 5) rfl (v := 31) (by decide) ?_
      refine g_icmp_ge ok (dk m_Mem_holdsOneOf 4 rfl) (tgt := 33) (by decide) (pc' := 8) rfl (fun c_5 => absurd c_5 (show ¬ nI 31 ≤ nI k from nI_ge (by omega) (by decide))) (fun c_5 => ?_)
      refine g_iload_n ok (dk m_Mem_holdsOneOf 5 rfl) (pc' := 9) rfl (i := 1) rfl rfl ?_
      refine g_iload_n ok (dk m_Mem_holdsOneOf 6 rfl) (pc' := 10) rfl (i := 3) rfl rfl ?_
      refine g_callSN ok (dk m_Mem_holdsOneOf 7 rfl) (pc' := 13) rfl c_Mem_86 (c_RG_isIn g b (nI k) 0) rfl rfl (by simp [Value.category]) (by omega) rfl (rc' := 0) (rs' := 0) (by omega) (by omega) (fun rv h' hcc => ?_) (fun i h' hcc => by obtain ⟨e9, -⟩ := hcc; cases e9)
      obtain ⟨e9, e2⟩ := hcc
      have e3 := e2.symm
      subst e3
      cases e9
      refine g_if_eq ok (dk m_Mem_holdsOneOf 8 rfl) (tgt := 27) (by decide) (pc' := 16) rfl (fun c_13 => ?_) (fun c_13 => ?_)
      · have hc : ¬ (j_in b (nI k) ∧ M_hk M T (nI k)) := fun z => b2i_0 c_13 z.1
        refine g_iinc ok (dk m_Mem_holdsOneOf 16 rfl) (pc' := 30) rfl rfl (nI_1 k) rfl ?_
        refine g_goto ok (dk m_Mem_holdsOneOf 17 rfl) (pc' := 2) (by decide) ?_
        exact ih (k + 1) (by omega) (fun l hl e => by rcases Nat.lt_or_ge l k with q | q; exact hv l q e; exact hc (by rw [show k = l by omega]; exact e))
      · refine g_aload_n ok (dk m_Mem_holdsOneOf 9 rfl) (pc' := 17) rfl (i := 0) rfl rfl ?_
        refine g_aload_n ok (dk m_Mem_holdsOneOf 10 rfl) (pc' := 18) rfl (i := 2) rfl rfl ?_
        refine g_iload_n ok (dk m_Mem_holdsOneOf 11 rfl) (pc' := 19) rfl (i := 3) rfl rfl ?_
        refine g_callV ok (dk m_Mem_holdsOneOf 12 rfl) (pc' := 22) rfl c_Mem_100 (c_Mem_holdsKeyIn g (nI k) 1 (by omega) hm ht) hm.1 rfl rfl (by simp [Value.category]) (by omega) rfl (rc' := 0) (rs' := 0) (by omega) (by omega) (fun rv h' hcc => ?_) (fun i h' hcc => by obtain ⟨e9, -⟩ := hcc; cases e9)
        obtain ⟨e9, e2⟩ := hcc
        have e3 := e2.symm
        subst e3
        cases e9
        refine g_if_eq ok (dk m_Mem_holdsOneOf 13 rfl) (tgt := 27) (by decide) (pc' := 25) rfl (fun c_22 => ?_) (fun c_22 => ?_)
        · have hc : ¬ (j_in b (nI k) ∧ M_hk M T (nI k)) := fun z => b2i_0 c_22 z.2
          refine g_iinc ok (dk m_Mem_holdsOneOf 16 rfl) (pc' := 30) rfl rfl (nI_1 k) rfl ?_
          refine g_goto ok (dk m_Mem_holdsOneOf 17 rfl) (pc' := 2) (by decide) ?_
          exact ih (k + 1) (by omega) (fun l hl e => by rcases Nat.lt_or_ge l k with q | q; exact hv l q e; exact hc (by rw [show k = l by omega]; exact e))
        · refine g_iconst ok (dk m_Mem_holdsOneOf 14 rfl) (pc' := 26) rfl (v := 1) (by decide) ?_
          exact g_iret ok (dk m_Mem_holdsOneOf 15 rfl) rfl rfl ⟨by rw [b2i_t (p := M_hof M b T) ⟨k, by omega, b2i_n c_13, b2i_n c_22⟩], rfl⟩
  refine g_iconst ok (dk m_Mem_holdsOneOf 0 rfl) (pc' := 1) rfl (v := 0) (by decide) ?_
  refine g_istore_n ok (dk m_Mem_holdsOneOf 1 rfl) (pc' := 2) rfl (i := 3) rfl (Nat.le_of_ble_eq_true rfl) rfl ?_
  exact loop 31 0 (by omega) (fun l hl => by omega)
set_option maxHeartbeats 1000000 in
theorem c_Mem_leave (g : q_G) {h : q_H} {m : Nat} {ma mb : Nat → Nat} {M : m_T} (d : Nat) (hd : 2 ≤ d) (hm : q_mem h m ma mb M) : MG g y_Mem_leave b_Mem_leave 1 none d 0 0 [.ref m] h (fun q h' => q = .inl none ∧ q_mem h' m ma mb (M_leave M) ∧ q_off h h' (m_P m mb)) := by
  refine MG.of (by decide +kernel) (by simp [Value.category]) (Nat.le_of_ble_eq_true rfl) ?_
  intro Z A ok
  refine g_aload_n ok (dk m_Mem_leave 0 rfl) (pc' := 1) rfl (i := 0) rfl rfl ?_
  refine g_iconst ok (dk m_Mem_leave 1 rfl) (pc' := 2) rfl (v := (-1)) (by decide) ?_
  refine g_put ok (dk m_Mem_leave 2 rfl) (pc' := 5) rfl f_Mem_27 (Or.inl rfl) hm.1 (Nat.le_of_ble_eq_true rfl) rfl rfl ?_
  refine g_gen (fun h1 e2 => ?_)
  have hm1 := hm.intE 2 4 (by decide) e2
  have o1 := q_off.upE (q_off.rf (X := m_P m mb)) (Or.inl rfl) e2
  clear e2
  refine g_aload_n ok (dk m_Mem_leave 3 rfl) (pc' := 6) rfl (i := 0) rfl rfl ?_
  refine g_iconst ok (dk m_Mem_leave 4 rfl) (pc' := 7) rfl (v := (-1)) (by decide) ?_
  refine g_put ok (dk m_Mem_leave 5 rfl) (pc' := 10) rfl f_Mem_30 (Or.inl rfl) hm1.1 (Nat.le_of_ble_eq_true rfl) rfl rfl ?_
  refine g_gen (fun h2 e2 => ?_)
  have hm2 := hm1.intE 3 5 (by decide) e2
  have o2 := q_off.upE (q_off.rf (X := m_P m mb)) (Or.inl rfl) e2
  clear e2
  refine g_aload_n ok (dk m_Mem_leave 6 rfl) (pc' := 11) rfl (i := 0) rfl rfl ?_
  refine g_iconst ok (dk m_Mem_leave 7 rfl) (pc' := 12) rfl (v := 0) (by decide) ?_
  refine g_put ok (dk m_Mem_leave 8 rfl) (pc' := 15) rfl f_Mem_33 (Or.inl rfl) hm2.1 (Nat.le_of_ble_eq_true rfl) rfl rfl ?_
  refine g_gen (fun h3 e2 => ?_)
  have hm3 := hm2.intE 4 6 (by decide) e2
  have o3 := q_off.upE (q_off.rf (X := m_P m mb)) (Or.inl rfl) e2
  clear e2
  refine g_aload_n ok (dk m_Mem_leave 9 rfl) (pc' := 16) rfl (i := 0) rfl rfl ?_
  refine g_iconst ok (dk m_Mem_leave 10 rfl) (pc' := 17) rfl (v := 0) (by decide) ?_
  refine g_put ok (dk m_Mem_leave 11 rfl) (pc' := 20) rfl f_Mem_23 (Or.inl rfl) hm3.1 (Nat.le_of_ble_eq_true rfl) rfl rfl ?_
  refine g_gen (fun h4 e2 => ?_)
  have hm4 := hm3.intE 1 3 (by decide) e2
  have o4 := q_off.upE (q_off.rf (X := m_P m mb)) (Or.inl rfl) e2
  clear e2
  refine g_aload_n ok (dk m_Mem_leave 12 rfl) (pc' := 21) rfl (i := 0) rfl rfl ?_
  refine g_get ok (dk m_Mem_leave 13 rfl) (pc' := 24) rfl f_Mem_14 hm4.1 rfl ?_
  refine g_iconst ok (dk m_Mem_leave 14 rfl) (pc' := 25) rfl (v := (-1)) (by decide) ?_
  refine g_callV ok (dk m_Mem_leave 15 rfl) (pc' := 28) rfl c_Mem_53 (c_Row_fill g (-1) 1 (by omega) (hm4.2.1 0 (by decide)).1 (hm4.2.1 0 (by decide)).2 (m_len_lt _)) (hm4.2.1 0 (by decide)).1 rfl rfl (by simp [Value.category]) (by omega) rfl (rc' := 0) (rs' := 0) (by omega) (by omega) (fun rv h' hcc => ?_) (fun i h' hcc => by obtain ⟨e9, -⟩ := hcc; cases e9)
  obtain ⟨e9, e2⟩ := hcc
  cases e9
  have hm5 := hm4.putE 0 (by decide) e2
  have o5 := q_off.upE (q_off.rf (X := m_P m mb)) (Or.inr ⟨0, by decide, rfl⟩) e2
  clear e2
  exact g_vret ok (dk m_Mem_leave 16 rfl) rfl ⟨rfl, hm5, (((o1.tr o2).tr o3).tr o4).tr o5⟩
set_option maxHeartbeats 1000000 in
theorem c_Mem_keepUpdate (g : q_G) {h : q_H} {m : Nat} {ma mb : Nat → Nat} {M : m_T} (x : Int32) (d : Nat) (hd : 1 ≤ d) (hm : q_mem h m ma mb M) : MG g y_Mem_keepUpdate b_Mem_keepUpdate 2 none d 0 0 [.ref m, .int x] h (fun q h' => q = .inl none ∧ q_mem h' m ma mb (M_keep M x) ∧ q_off h h' (m_P m mb)) := by
  refine MG.of (by decide +kernel) (by simp [Value.category]) (Nat.le_of_ble_eq_true rfl) ?_
  intro Z A ok
  refine g_aload_n ok (dk m_Mem_keepUpdate 0 rfl) (pc' := 1) rfl (i := 0) rfl rfl ?_
  refine g_get ok (dk m_Mem_keepUpdate 1 rfl) (pc' := 4) rfl f_Mem_23 hm.1 rfl ?_
  refine g_bipush ok (dk m_Mem_keepUpdate 2 rfl) (pc' := 6) rfl (v := 20) (by decide) ?_
  refine g_icmp_ge ok (dk m_Mem_keepUpdate 3 rfl) (tgt := 31) (by decide) (pc' := 9) rfl (fun c_6 => ?_) (fun c_6 => ?_)
  · exact g_vret ok (dk m_Mem_keepUpdate 16 rfl) rfl ⟨rfl, by rw [M_keep, if_neg (Int32.not_lt.mpr c_6)]; exact hm, q_off.rf⟩
  · refine g_aload_n ok (dk m_Mem_keepUpdate 4 rfl) (pc' := 10) rfl (i := 0) rfl rfl ?_
    refine g_get ok (dk m_Mem_keepUpdate 5 rfl) (pc' := 13) rfl f_Mem_20 hm.1 rfl ?_
    refine g_aload_n ok (dk m_Mem_keepUpdate 6 rfl) (pc' := 14) rfl (i := 0) rfl rfl ?_
    refine g_get ok (dk m_Mem_keepUpdate 7 rfl) (pc' := 17) rfl f_Mem_23 hm.1 rfl ?_
    refine g_iload_n ok (dk m_Mem_keepUpdate 8 rfl) (pc' := 18) rfl (i := 1) rfl rfl ?_
    refine g_callV ok (dk m_Mem_keepUpdate 9 rfl) (pc' := 21) rfl c_Mem_43 (c_Row_put g (M.1 1) x 0 (hm.2.1 1 (by decide)).1 (hm.2.1 1 (by decide)).2 (m_len_lt _)) (hm.2.1 1 (by decide)).1 rfl rfl (by simp [Value.category]) (by omega) rfl (rc' := 0) (rs' := 0) (by omega) (by omega) (fun rv h' hcc => ?_) (fun i h' hcc => by obtain ⟨e9, -⟩ := hcc; cases e9)
    obtain ⟨e9, e2⟩ := hcc
    cases e9
    have hm1 := hm.putE 1 (by decide) e2
    have o1 := q_off.upE (q_off.rf (X := m_P m mb)) (Or.inr ⟨1, by decide, rfl⟩) e2
    clear e2
    refine g_aload_n ok (dk m_Mem_keepUpdate 10 rfl) (pc' := 22) rfl (i := 0) rfl rfl ?_
    refine g_dup ok (dk m_Mem_keepUpdate 11 rfl) (pc' := 23) rfl rfl ?_
    refine g_get ok (dk m_Mem_keepUpdate 12 rfl) (pc' := 26) rfl f_Mem_23 hm1.1 rfl ?_
    refine g_iconst ok (dk m_Mem_keepUpdate 13 rfl) (pc' := 27) rfl (v := 1) (by decide) ?_
    refine g_iadd ok (dk m_Mem_keepUpdate 14 rfl) (pc' := 28) rfl ?_
    refine g_put ok (dk m_Mem_keepUpdate 15 rfl) (pc' := 31) rfl f_Mem_23 (Or.inl rfl) hm1.1 (Nat.le_of_ble_eq_true rfl) rfl rfl ?_
    refine g_gen (fun h2 e2 => ?_)
    have hm2 := hm1.intE 1 3 (by decide) e2
    have o2 := q_off.upE (q_off.rf (X := m_P m mb)) (Or.inl rfl) e2
    clear e2
    exact g_vret ok (dk m_Mem_keepUpdate 16 rfl) rfl ⟨rfl, by rw [M_keep, if_pos (Int32.not_le.mp c_6)]; exact hm2, o1.tr o2⟩
set_option maxHeartbeats 1000000 in
theorem c_Mem_lead (g : q_G) {h : q_H} {m : Nat} {ma mb : Nat → Nat} {M : m_T} (d : Nat) (hd : 3 ≤ d) (hm : q_mem h m ma mb M) {e t pr pb : Nat} {ra rb : Nat → Nat} {E : e_T} (he : q_ep h e t pr pb ra rb E) (hap : ∀ y, ep_A e t pr pb ra rb y → ¬ m_P m mb y) (hT : E.2.1.2 ≤ 4) : MG g y_Mem_lead b_Mem_lead 2 none d 0 0 [.ref m, .ref e] h (fun q h' => q = .inl none ∧ q_mem h' m ma mb (M_lead M E) ∧ q_off h h' (m_P m mb)) := by
  refine MG.of (by decide +kernel) (by simp [Value.category]) (Nat.le_of_ble_eq_true rfl) ?_
  intro Z A ok
  refine g_aload_n ok (dk m_Mem_lead 0 rfl) (pc' := 1) rfl (i := 0) rfl rfl ?_
  refine g_aload_n ok (dk m_Mem_lead 1 rfl) (pc' := 2) rfl (i := 1) rfl rfl ?_
  refine g_getR ok (dk m_Mem_lead 2 rfl) (pc' := 5) rfl f_Mem_61 he.1 rfl ?_
  refine g_put ok (dk m_Mem_lead 3 rfl) (pc' := 8) rfl f_Mem_27 (Or.inl rfl) hm.1 (Nat.le_of_ble_eq_true rfl) rfl rfl ?_
  refine g_gen (fun h1 e2 => ?_)
  have hm1 := hm.intE 2 4 (by decide) e2
  have o1 := q_off.upE (q_off.rf (X := m_P m mb)) (Or.inl rfl) e2
  clear e2
  have he1 := he.off o1 hap
  refine g_aload_n ok (dk m_Mem_lead 4 rfl) (pc' := 9) rfl (i := 0) rfl rfl ?_
  refine g_iconst ok (dk m_Mem_lead 5 rfl) (pc' := 10) rfl (v := 1) (by decide) ?_
  refine g_put ok (dk m_Mem_lead 6 rfl) (pc' := 13) rfl f_Mem_33 (Or.inl rfl) hm1.1 (Nat.le_of_ble_eq_true rfl) rfl rfl ?_
  refine g_gen (fun h2 e2 => ?_)
  have hm2 := hm1.intE 4 6 (by decide) e2
  have o2 := q_off.upE (q_off.rf (X := m_P m mb)) (Or.inl rfl) e2
  clear e2
  have he2 := he1.off o2 hap
  refine g_aload_n ok (dk m_Mem_lead 7 rfl) (pc' := 14) rfl (i := 0) rfl rfl ?_
  refine g_iconst ok (dk m_Mem_lead 8 rfl) (pc' := 15) rfl (v := 0) (by decide) ?_
  refine g_put ok (dk m_Mem_lead 9 rfl) (pc' := 18) rfl f_Mem_23 (Or.inl rfl) hm2.1 (Nat.le_of_ble_eq_true rfl) rfl rfl ?_
  refine g_gen (fun h3 e2 => ?_)
  have hm3 := hm2.intE 1 3 (by decide) e2
  have o3 := q_off.upE (q_off.rf (X := m_P m mb)) (Or.inl rfl) e2
  clear e2
  have he3 := he2.off o3 hap
  refine g_aload_n ok (dk m_Mem_lead 10 rfl) (pc' := 19) rfl (i := 0) rfl rfl ?_
  refine g_aload_n ok (dk m_Mem_lead 11 rfl) (pc' := 20) rfl (i := 1) rfl rfl ?_
  refine g_getR ok (dk m_Mem_lead 12 rfl) (pc' := 23) rfl f_Mem_64 he3.1 rfl ?_
  refine g_callV ok (dk m_Mem_lead 13 rfl) (pc' := 26) rfl c_Mem_68 (c_Mem_dropStaleKeys g 2 (by omega) hm3 he3.2.1 (ep_A.tree hap)) hm3.1 rfl rfl (by simp [Value.category]) (by omega) rfl (rc' := 0) (rs' := 0) (by omega) (by omega) (fun rv h' hcc => ?_) (fun i h' hcc => by obtain ⟨e9, -⟩ := hcc; cases e9)
  obtain ⟨e9, hm4, o4⟩ := hcc
  cases e9
  have he4 := he3.off o4 hap
  refine g_aload_n ok (dk m_Mem_lead 14 rfl) (pc' := 27) rfl (i := 0) rfl rfl ?_
  refine g_aload_n ok (dk m_Mem_lead 15 rfl) (pc' := 28) rfl (i := 1) rfl rfl ?_
  refine g_getR ok (dk m_Mem_lead 16 rfl) (pc' := 31) rfl f_Mem_64 he4.1 rfl ?_
  refine g_aload_n ok (dk m_Mem_lead 17 rfl) (pc' := 32) rfl (i := 0) rfl rfl ?_
  refine g_get ok (dk m_Mem_lead 18 rfl) (pc' := 35) rfl f_Mem_30 hm4.1 rfl ?_
  refine g_iconst ok (dk m_Mem_lead 19 rfl) (pc' := 36) rfl (v := 0) (by decide) ?_
  refine g_callS ok (dk m_Mem_lead 20 rfl) (pc' := 39) rfl c_Mem_72 (c_Tr_nodeOver g ((M_l0 M E).1 3) 0 0) rfl rfl (by simp [Value.category]) (by omega) rfl (rc' := 0) (rs' := 0) (by omega) (by omega) (fun rv h' hcc => ?_) (fun i h' hcc => by obtain ⟨e9, -⟩ := hcc; cases e9)
  obtain ⟨e9, e2⟩ := hcc
  have e3 := e2.symm
  subst e3
  cases e9
  refine g_callV ok (dk m_Mem_lead 21 rfl) (pc' := 42) rfl c_Mem_76 (c_Mem_takeKey g (j_node ((M_l0 M E).1 3) 0) 1 (by omega) hm4 he4.2.1) hm4.1 rfl rfl (by simp [Value.category]) (by omega) rfl (rc' := 0) (rs' := 0) (by omega) (by omega) (fun rv h' hcc => ?_) (fun i h' hcc => by obtain ⟨e9, -⟩ := hcc; cases e9)
  obtain ⟨e9, hm5, o5⟩ := hcc
  cases e9
  have he5 := he4.off o5 hap
  refine g_aload_n ok (dk m_Mem_lead 22 rfl) (pc' := 43) rfl (i := 0) rfl rfl ?_
  refine g_aload_n ok (dk m_Mem_lead 23 rfl) (pc' := 44) rfl (i := 1) rfl rfl ?_
  refine g_callV ok (dk m_Mem_lead 24 rfl) (pc' := 47) rfl c_Mem_80 (c_Mem_takeCountingKeys g 2 (by omega) hm5 he5 hap hT) hm5.1 rfl rfl (by simp [Value.category]) (by omega) rfl (rc' := 0) (rs' := 0) (by omega) (by omega) (fun rv h' hcc => ?_) (fun i h' hcc => by obtain ⟨e9, -⟩ := hcc; cases e9)
  obtain ⟨e9, hm6, o6⟩ := hcc
  cases e9
  exact g_vret ok (dk m_Mem_lead 25 rfl) rfl ⟨rfl, hm6, ((((o1.tr o2).tr o3).tr o4).tr o5).tr o6⟩
set_option maxHeartbeats 1000000 in
theorem c_Mem_enter (g : q_G) {h : q_H} {m : Nat} {ma mb : Nat → Nat} {M : m_T} (l : Int32) (d : Nat) (hd : 4 ≤ d) (hm : q_mem h m ma mb M) {e t pr pb : Nat} {ra rb : Nat → Nat} {E : e_T} (he : q_ep h e t pr pb ra rb E) (hap : ∀ y, ep_A e t pr pb ra rb y → ¬ m_P m mb y) (hT : E.2.1.2 ≤ 4) : MG g y_Mem_enter b_Mem_enter 3 none d 0 0 [.ref m, .ref e, .int l] h (fun q h' => q = .inl none ∧ q_mem h' m ma mb (M_enter M E l) ∧ q_off h h' (m_P m mb)) := by
  refine MG.of (by decide +kernel) (by simp [Value.category]) (Nat.le_of_ble_eq_true rfl) ?_
  intro Z A ok
  refine g_aload_n ok (dk m_Mem_enter 0 rfl) (pc' := 1) rfl (i := 0) rfl rfl ?_
  refine g_iload_n ok (dk m_Mem_enter 1 rfl) (pc' := 2) rfl (i := 2) rfl rfl ?_
  refine g_put ok (dk m_Mem_enter 2 rfl) (pc' := 5) rfl f_Mem_30 (Or.inl rfl) hm.1 (Nat.le_of_ble_eq_true rfl) rfl rfl ?_
  refine g_gen (fun h1 e2 => ?_)
  have hm1 := hm.intE 3 5 (by decide) e2
  have o1 := q_off.upE (q_off.rf (X := m_P m mb)) (Or.inl rfl) e2
  clear e2
  have he1 := he.off o1 hap
  refine g_aload_n ok (dk m_Mem_enter 3 rfl) (pc' := 6) rfl (i := 0) rfl rfl ?_
  refine g_aload_n ok (dk m_Mem_enter 4 rfl) (pc' := 7) rfl (i := 1) rfl rfl ?_
  refine g_callV ok (dk m_Mem_enter 5 rfl) (pc' := 10) rfl c_Mem_57 (c_Mem_lead g 3 (by omega) hm1 he1 hap hT) hm1.1 rfl rfl (by simp [Value.category]) (by omega) rfl (rc' := 0) (rs' := 0) (by omega) (by omega) (fun rv h' hcc => ?_) (fun i h' hcc => by obtain ⟨e9, -⟩ := hcc; cases e9)
  obtain ⟨e9, hm2, o2⟩ := hcc
  cases e9
  exact g_vret ok (dk m_Mem_enter 6 rfl) rfl ⟨rfl, hm2, o1.tr o2⟩
set_option maxHeartbeats 1000000 in
theorem c_Mem_follow (g : q_G) {h : q_H} {m : Nat} {ma mb : Nat → Nat} {M : m_T} (d : Nat) (hd : 8 ≤ d) (hm : q_mem h m ma mb M) {e t pr pb : Nat} {ra rb : Nat → Nat} {E : e_T} (he : q_ep h e t pr pb ra rb E) (hap : ∀ y, ep_A e t pr pb ra rb y → ¬ m_P m mb y) (hT : E.2.1.2 ≤ 4) : MG g y_Mem_follow b_Mem_follow 3 none d 0 0 [.ref m, .ref e] h (fun q h' => q = .inl none ∧ q_mem h' m ma mb (M_fol M E) ∧ q_off h h' (m_P m mb)) := by
  refine MG.of (by decide +kernel) (by simp [Value.category]) (Nat.le_of_ble_eq_true rfl) ?_
  intro Z A ok
  have mid : ∀ h1 : q_H, q_mem h1 m ma mb (M_f2 M E) → q_ep h1 e t pr pb ra rb E → q_off h h1 (m_P m mb) → GW g Z A (fun q h' => q = .inl none ∧ q_mem h' m ma mb (M_fol M E) ∧ q_off h h' (m_P m mb)) 0 0 h1 43 [some (.ref m), some (.ref e), none] [] := by
      intro h3 hm3 he3 o3
      refine g_aload_n ok (dk m_Mem_follow 21 rfl) (pc' := 44) rfl (i := 0) rfl rfl ?_
      refine g_aload_n ok (dk m_Mem_follow 22 rfl) (pc' := 45) rfl (i := 1) rfl rfl ?_
      refine g_getR ok (dk m_Mem_follow 23 rfl) (pc' := 48) rfl f_Mem_64 he3.1 rfl ?_
      refine g_callV ok (dk m_Mem_follow 24 rfl) (pc' := 51) rfl c_Mem_68 (c_Mem_dropStaleKeys g 2 (by omega) hm3 he3.2.1 (ep_A.tree hap)) hm3.1 rfl rfl (by simp [Value.category]) (by omega) rfl (rc' := 0) (rs' := 0) (by omega) (by omega) (fun rv h' hcc => ?_) (fun i h' hcc => by obtain ⟨e9, -⟩ := hcc; cases e9)
      obtain ⟨e9, hm4, o4⟩ := hcc
      cases e9
      have he4 := he3.off o4 hap
      refine g_aload_n ok (dk m_Mem_follow 25 rfl) (pc' := 52) rfl (i := 1) rfl rfl ?_
      refine g_aload_n ok (dk m_Mem_follow 26 rfl) (pc' := 53) rfl (i := 0) rfl rfl ?_
      refine g_get ok (dk m_Mem_follow 27 rfl) (pc' := 56) rfl f_Mem_30 hm4.1 rfl ?_
      refine g_callV ok (dk m_Mem_follow 28 rfl) (pc' := 59) rfl c_Mem_90 (c_Ep_lowestCountingOver g ((M_f3 M E).1 3) 1 (by omega) hT he4) he4.1 rfl rfl (by simp [Value.category]) (by omega) rfl (rc' := 0) (rs' := 0) (by omega) (by omega) (fun rv h' hcc => ?_) (fun i h' hcc => by obtain ⟨e9, -⟩ := hcc; cases e9)
      obtain ⟨e9, e2⟩ := hcc
      have e3 := e2.symm
      subst e3
      cases e9
      refine g_istore_n ok (dk m_Mem_follow 29 rfl) (pc' := 60) rfl (i := 2) rfl (Nat.le_of_ble_eq_true rfl) rfl ?_
      refine g_iload_n ok (dk m_Mem_follow 30 rfl) (pc' := 61) rfl (i := 2) rfl rfl ?_
      refine g_iconst ok (dk m_Mem_follow 31 rfl) (pc' := 62) rfl (v := (-1)) (by decide) ?_
      refine g_icmp_ne ok (dk m_Mem_follow 32 rfl) (tgt := 66) (by decide) (pc' := 65) rfl (fun c_62 => ?_) (fun c_62 => ?_)
      · refine g_aload_n ok (dk m_Mem_follow 34 rfl) (pc' := 67) rfl (i := 0) rfl rfl ?_
        refine g_aload_n ok (dk m_Mem_follow 35 rfl) (pc' := 68) rfl (i := 1) rfl rfl ?_
        refine g_iload_n ok (dk m_Mem_follow 36 rfl) (pc' := 69) rfl (i := 2) rfl rfl ?_
        refine g_callV ok (dk m_Mem_follow 37 rfl) (pc' := 72) rfl c_Mem_93 (c_Ep_readersOf g (M_flc M E) 7 (by omega) he4) he4.1 rfl rfl (by simp [Value.category]) (by omega) rfl (rc' := 0) (rs' := 0) (by omega) (by omega) (fun rv h' hcc => ?_) (fun i h' hcc => by obtain ⟨e9, -⟩ := hcc; cases e9)
        obtain ⟨e9, e2⟩ := hcc
        have e3 := e2.symm
        subst e3
        cases e9
        refine g_aload_n ok (dk m_Mem_follow 38 rfl) (pc' := 73) rfl (i := 1) rfl rfl ?_
        refine g_getR ok (dk m_Mem_follow 39 rfl) (pc' := 76) rfl f_Mem_64 he4.1 rfl ?_
        refine g_callV ok (dk m_Mem_follow 40 rfl) (pc' := 79) rfl c_Mem_96 (c_Mem_holdsOneOf g (E_rdr E (M_flc M E)) 2 (by omega) hm4 he4.2.1) hm4.1 rfl rfl (by simp [Value.category]) (by omega) rfl (rc' := 0) (rs' := 0) (by omega) (by omega) (fun rv h' hcc => ?_) (fun i h' hcc => by obtain ⟨e9, -⟩ := hcc; cases e9)
        obtain ⟨e9, e2⟩ := hcc
        have e3 := e2.symm
        subst e3
        cases e9
        refine g_if_eq ok (dk m_Mem_follow 41 rfl) (tgt := 90) (by decide) (pc' := 82) rfl (fun c_79 => ?_) (fun c_79 => ?_)
        · refine g_aload_n ok (dk m_Mem_follow 46 rfl) (pc' := 91) rfl (i := 0) rfl rfl ?_
          refine g_dup ok (dk m_Mem_follow 47 rfl) (pc' := 92) rfl rfl ?_
          refine g_get ok (dk m_Mem_follow 48 rfl) (pc' := 95) rfl f_Mem_37 hm4.1 rfl ?_
          refine g_iconst ok (dk m_Mem_follow 49 rfl) (pc' := 96) rfl (v := 1) (by decide) ?_
          refine g_iadd ok (dk m_Mem_follow 50 rfl) (pc' := 97) rfl ?_
          refine g_put ok (dk m_Mem_follow 51 rfl) (pc' := 100) rfl f_Mem_37 (Or.inl rfl) hm4.1 (Nat.le_of_ble_eq_true rfl) rfl rfl ?_
          refine g_gen (fun h5 e2 => ?_)
          have hm5 := hm4.intE 5 7 (by decide) e2
          have o5 := q_off.upE (q_off.rf (X := m_P m mb)) (Or.inl rfl) e2
          clear e2
          refine g_aload_n ok (dk m_Mem_follow 52 rfl) (pc' := 101) rfl (i := 0) rfl rfl ?_
          refine g_iconst ok (dk m_Mem_follow 53 rfl) (pc' := 102) rfl (v := 0) (by decide) ?_
          refine g_put ok (dk m_Mem_follow 54 rfl) (pc' := 105) rfl f_Mem_33 (Or.inl rfl) hm5.1 (Nat.le_of_ble_eq_true rfl) rfl rfl ?_
          refine g_gen (fun h6 e2 => ?_)
          have hm6 := hm5.intE 4 6 (by decide) e2
          have o6 := q_off.upE (q_off.rf (X := m_P m mb)) (Or.inl rfl) e2
          clear e2
          exact g_vret ok (dk m_Mem_follow 55 rfl) rfl ⟨rfl, by rw [M_fol, if_neg (show ¬ M_flc M E = -1 from c_62), if_neg (show ¬ M_hof (M_f3 M E) (E_rdr E (M_flc M E)) E.2.1 from b2i_0 c_79)]; exact hm6, ((o3.tr o4).tr o5).tr o6⟩
        · refine g_aload_n ok (dk m_Mem_follow 42 rfl) (pc' := 83) rfl (i := 0) rfl rfl ?_
          refine g_aload_n ok (dk m_Mem_follow 43 rfl) (pc' := 84) rfl (i := 1) rfl rfl ?_
          refine g_callV ok (dk m_Mem_follow 44 rfl) (pc' := 87) rfl c_Mem_80 (c_Mem_takeCountingKeys g 2 (by omega) hm4 he4 hap hT) hm4.1 rfl rfl (by simp [Value.category]) (by omega) rfl (rc' := 0) (rs' := 0) (by omega) (by omega) (fun rv h' hcc => ?_) (fun i h' hcc => by obtain ⟨e9, -⟩ := hcc; cases e9)
          obtain ⟨e9, hm5, o5⟩ := hcc
          cases e9
          refine g_goto ok (dk m_Mem_follow 45 rfl) (pc' := 105) (by decide) ?_
          exact g_vret ok (dk m_Mem_follow 55 rfl) rfl ⟨rfl, by rw [M_fol, if_neg (show ¬ M_flc M E = -1 from c_62), if_pos (show M_hof (M_f3 M E) (E_rdr E (M_flc M E)) E.2.1 from b2i_n c_79)]; exact hm5, (o3.tr o4).tr o5⟩
      · exact g_vret ok (dk m_Mem_follow 33 rfl) rfl ⟨rfl, by rw [M_fol, if_pos (show M_flc M E = -1 from c_62)]; exact hm4, o3.tr o4⟩
  refine g_aload_n ok (dk m_Mem_follow 0 rfl) (pc' := 1) rfl (i := 0) rfl rfl ?_
  refine g_aload_n ok (dk m_Mem_follow 1 rfl) (pc' := 2) rfl (i := 1) rfl rfl ?_
  refine g_getR ok (dk m_Mem_follow 2 rfl) (pc' := 5) rfl f_Mem_61 he.1 rfl ?_
  refine g_put ok (dk m_Mem_follow 3 rfl) (pc' := 8) rfl f_Mem_27 (Or.inl rfl) hm.1 (Nat.le_of_ble_eq_true rfl) rfl rfl ?_
  refine g_gen (fun h1 e2 => ?_)
  have hm1 := hm.intE 2 4 (by decide) e2
  have o1 := q_off.upE (q_off.rf (X := m_P m mb)) (Or.inl rfl) e2
  clear e2
  have he1 := he.off o1 hap
  refine g_aload_n ok (dk m_Mem_follow 4 rfl) (pc' := 9) rfl (i := 0) rfl rfl ?_
  refine g_iconst ok (dk m_Mem_follow 5 rfl) (pc' := 10) rfl (v := 0) (by decide) ?_
  refine g_put ok (dk m_Mem_follow 6 rfl) (pc' := 13) rfl f_Mem_23 (Or.inl rfl) hm1.1 (Nat.le_of_ble_eq_true rfl) rfl rfl ?_
  refine g_gen (fun h2 e2 => ?_)
  have hm2 := hm1.intE 1 3 (by decide) e2
  have o2 := q_off.upE (q_off.rf (X := m_P m mb)) (Or.inl rfl) e2
  clear e2
  have he2 := he1.off o2 hap
  refine g_aload_n ok (dk m_Mem_follow 7 rfl) (pc' := 14) rfl (i := 1) rfl rfl ?_
  refine g_get ok (dk m_Mem_follow 8 rfl) (pc' := 17) rfl f_Mem_83 he2.1 rfl ?_
  refine g_aload_n ok (dk m_Mem_follow 9 rfl) (pc' := 18) rfl (i := 0) rfl rfl ?_
  refine g_get ok (dk m_Mem_follow 10 rfl) (pc' := 21) rfl f_Mem_30 hm2.1 rfl ?_
  refine g_callSN ok (dk m_Mem_follow 11 rfl) (pc' := 24) rfl c_Mem_86 (c_RG_isIn g (E.1 5) ((M_f1 M E).1 3) 0) rfl rfl (by simp [Value.category]) (by omega) rfl (rc' := 0) (rs' := 0) (by omega) (by omega) (fun rv h' hcc => ?_) (fun i h' hcc => by obtain ⟨e9, -⟩ := hcc; cases e9)
  obtain ⟨e9, e2⟩ := hcc
  have e3 := e2.symm
  subst e3
  cases e9
  refine g_if_eq ok (dk m_Mem_follow 12 rfl) (tgt := 43) (by decide) (pc' := 27) rfl (fun c_24 => ?_) (fun c_24 => ?_)
  · exact mid _ (by rw [M_f2, if_neg (b2i_0 c_24)]; exact hm2) he2 (o1.tr o2)
  · refine g_aload_n ok (dk m_Mem_follow 13 rfl) (pc' := 28) rfl (i := 0) rfl rfl ?_
    refine g_aload_n ok (dk m_Mem_follow 14 rfl) (pc' := 29) rfl (i := 1) rfl rfl ?_
    refine g_getR ok (dk m_Mem_follow 15 rfl) (pc' := 32) rfl f_Mem_64 he2.1 rfl ?_
    refine g_aload_n ok (dk m_Mem_follow 16 rfl) (pc' := 33) rfl (i := 0) rfl rfl ?_
    refine g_get ok (dk m_Mem_follow 17 rfl) (pc' := 36) rfl f_Mem_30 hm2.1 rfl ?_
    refine g_iconst ok (dk m_Mem_follow 18 rfl) (pc' := 37) rfl (v := 0) (by decide) ?_
    refine g_callS ok (dk m_Mem_follow 19 rfl) (pc' := 40) rfl c_Mem_72 (c_Tr_nodeOver g ((M_f1 M E).1 3) 0 0) rfl rfl (by simp [Value.category]) (by omega) rfl (rc' := 0) (rs' := 0) (by omega) (by omega) (fun rv h' hcc => ?_) (fun i h' hcc => by obtain ⟨e9, -⟩ := hcc; cases e9)
    obtain ⟨e9, e2⟩ := hcc
    have e3 := e2.symm
    subst e3
    cases e9
    refine g_callV ok (dk m_Mem_follow 20 rfl) (pc' := 43) rfl c_Mem_76 (c_Mem_takeKey g (j_node ((M_f1 M E).1 3) 0) 1 (by omega) hm2 he2.2.1) hm2.1 rfl rfl (by simp [Value.category]) (by omega) rfl (rc' := 0) (rs' := 0) (by omega) (by omega) (fun rv h' hcc => ?_) (fun i h' hcc => by obtain ⟨e9, -⟩ := hcc; cases e9)
    obtain ⟨e9, hm3, o3⟩ := hcc
    cases e9
    have he3 := he2.off o3 hap
    exact mid _ (by rw [M_f2, if_pos (b2i_n c_24)]; exact hm3) he3 ((o1.tr o2).tr o3)
end
section
/-! ===== constructors of Epoch, Member, KeyPackage, proposals; ArrayList.clear ===== -/
/-- what is in h stays in h', but for X -/
def q_kp (h h' : q_H) (X : Nat → Prop) : Prop := ∀ y o, h y = some o → ¬ X y → h' y = some o
theorem q_off.kp {h h' : q_H} {X : Nat → Prop} (ho : q_off h h' X) : q_kp h h' X := fun y o hy hx => (ho y hx).trans hy
theorem q_kp.rf {h : q_H} {X : Nat → Prop} : q_kp h h X := fun _ _ h _ => h
theorem q_kp.tr {h h1 h2 : q_H} {X : Nat → Prop} (a : q_kp h h1 X) (b : q_kp h1 h2 X) : q_kp h h2 X := fun y o hy hx => b y o (a y o hy hx) hx
theorem q_kp.wk {h h' : q_H} {X Y : Nat → Prop} (a : q_kp h h' X) (hXY : ∀ y, X y → Y y) : q_kp h h' Y := fun y o hy hx => a y o hy (fun z => hx (hXY y z))
theorem q_kp.up {h h1 h2 : q_H} {X : Nat → Prop} {e : Nat} {o : q_O} (a : q_kp h h1 X) (he : X e) (e2 : h2 = q_up h1 e o) : q_kp h h2 X := fun y oo hy hx => by
  rw [e2, q_up_n (fun z => hx (by rw [z]; exact he))]
  exact a y oo hy hx
theorem q_kp.nw {h h1 h2 : q_H} {X : Nat → Prop} {e : Nat} {o : q_O} (a : q_kp h h1 X) (he : h1 e = none) (e2 : h2 = q_up h1 e o) : q_kp h h2 X := fun y oo hy hx => by
  rw [e2, q_up_n (q_on (a y oo hy hx) he)]
  exact a y oo hy hx
theorem q_kp.no {h h1 : q_H} {X : Nat → Prop} {y : Nat} (a : q_kp h h1 X) (hy : h1 y = none) (hx : ¬ X y) : h y = none := by
  cases e : h y with
  | none => rfl
  | some o => exact absurd (a y o e hx) (by rw [hy]; exact fun z => by cases z)
theorem q_rw.kp {nr : Nat} {len : Nat → Nat} {h h' : q_H} {ra rb : Nat → Nat} {R : Nat → Nat → Int32} {X : Nat → Prop} (hr : q_rw nr len h ra rb R) (hk : q_kp h h' X) (hx : ∀ i, i < nr → ¬ X (ra i) ∧ ¬ X (rb i)) : q_rw nr len h' ra rb R := ⟨fun i hi => ⟨hk _ _ (hr.1 i hi).1 (hx i hi).1, hk _ _ (hr.1 i hi).2 (hx i hi).2⟩, hr.2⟩
theorem q_tree.kp {h h' : q_H} {t : Nat} {ra rb : Nat → Nat} {T : tr_T} {X : Nat → Prop} (ht : q_tree h t ra rb T) (hk : q_kp h h' X) (hA : ∀ y, tr_A t ra rb y → ¬ X y) : q_tree h' t ra rb T := ⟨hk _ _ ht.1 (hA _ (Or.inl rfl)), ht.2.kp hk (fun i hi => ⟨hA _ (Or.inr ⟨i, hi, Or.inl rfl⟩), hA _ (Or.inr ⟨i, hi, Or.inr rfl⟩)⟩)⟩
theorem q_mem.kp {h h' : q_H} {t : Nat} {ra rb : Nat → Nat} {T : m_T} {X : Nat → Prop} (ht : q_mem h t ra rb T) (hk : q_kp h h' X) (hA : ∀ y, m_A t ra rb y → ¬ X y) : q_mem h' t ra rb T := ⟨hk _ _ ht.1 (hA _ (Or.inl rfl)), ht.2.kp hk (fun i hi => ⟨hA _ (Or.inr ⟨i, hi, Or.inl rfl⟩), hA _ (Or.inr ⟨i, hi, Or.inr rfl⟩)⟩)⟩
theorem q_ep.kp {h h' : q_H} {e t pr pb : Nat} {ra rb : Nat → Nat} {E : e_T} {X : Nat → Prop} (he : q_ep h e t pr pb ra rb E) (hk : q_kp h h' X) (hA : ∀ y, ep_A e t pr pb ra rb y → ¬ X y) : q_ep h' e t pr pb ra rb E :=
  ⟨hk _ _ he.1 (hA _ (Or.inl rfl)), he.2.1.kp hk (ep_A.tree hA), hk _ _ he.2.2.1 (hA _ (Or.inr (Or.inr (Or.inl rfl)))), hk _ _ he.2.2.2.1 (hA _ (Or.inr (Or.inr (Or.inr (Or.inl rfl))))), he.2.2.2.2⟩
theorem q_sec.kp {h h' : q_H} {s : Nat} {ra rb : Nat → Nat} {S : s_T} {X : Nat → Prop} (hs : q_sec h s ra rb S) (hk : q_kp h h' X) (hA : ∀ y, s_A s ra rb y → ¬ X y) : q_sec h' s ra rb S :=
  ⟨hk _ _ hs.1 (hA _ (Or.inl rfl)), fun i hi => ⟨hk _ _ (hs.2.1 i hi).1 (hA _ (Or.inr ⟨i, hi, Or.inl rfl⟩)), hk _ _ (hs.2.1 i hi).2 (hA _ (Or.inr ⟨i, hi, Or.inr rfl⟩))⟩, hs.2.2⟩
theorem q_lst.kp {g : q_G} {h h' : q_H} {a : Nat} {ob : Option Nat} {cnt : Nat} {el : Nat → Nat} {X : Nat → Prop} (hl : q_lst g h a ob cnt el) (hk : q_kp h h' X) (ha : ¬ X a) (hb : ∀ b, ob = some b → ¬ X b) : q_lst g h' a ob cnt el := by
  cases ob with
  | none =>
    obtain ⟨h1, mv, h2⟩ := hl
    exact ⟨h1, mv, hk _ _ h2 ha⟩
  | some b =>
    obtain ⟨n, f, mv, h1, h2, h3⟩ := hl
    exact ⟨n, f, mv, hk _ _ h1 ha, hk _ _ h2 (hb b rfl), h3⟩
/-- a new row -/
theorem q_kp.row {h h1 h2 : q_H} {X : Nat → Prop} {r c N : Nat} {f : Nat → Int32} (a : q_kp h h1 X) (hr : h1 r = none) (hc : q_up h1 r (.inl (2, [.null])) c = none) (e : h2 = q_up (q_up (q_up h1 r (.inl (2, [.null]))) r (.inl (2, [.ref c]))) c (.inr (0, N, .inl f))) : h2 r = some (.inl (2, [.ref c])) ∧ h2 c = some (.inr (0, N, .inl f)) ∧ q_kp h1 h2 (fun _ => False) ∧ h1 c = none ∧ q_kp h h2 X := by
  obtain ⟨a1, b1, p1, n1, -, -⟩ := mk_row hr hc e
  exact ⟨a1, b1, fun y o hy _ => p1 y o hy, n1, fun y o hy hx => p1 y o (a y o hy hx)⟩
def E_new (n c : Int32) : e_T := (fun i => if i = 0 then n else if i = 1 then c else if i = 2 then -1 else 0, T_new, r_fill 5 (fun _ => 0) (-1))
def M_new (n : Int32) : m_T := (fun i => if i = 0 then n else if i = 2 then -1 else if i = 3 then -1 else 0, fun i => if i = 0 then r_fill 31 (fun _ => 0) (-1) else r_fill 20 (fun _ => 0) (-1))
set_option maxHeartbeats 4000000 in
theorem c_Ep_init (g : q_G) {h : q_H} {e : Nat} (n k : Int32) (d mc ms : Nat) (hd : 3 ≤ d) (hm : 11 ≤ mc) (hms : 124 ≤ ms) (hs0 : h e = some (.inl (5, [.int 0, .int 0, .null, .null, .int 0, .int 0, .int 0, .int 0, .int 0, .int 0]))) : MG g y_Ep_init b_Ep_init 3 none d mc ms [.ref e, .int n, .int k] h (fun q h' => q = .inl none ∧ ∃ t pr pb ra rb, q_ep h' e t pr pb ra rb (E_new n k) ∧ q_kp h h' (fun y => y = e) ∧ ∀ y, ep_A e t pr pb ra rb y → y = e ∨ h y = none) := by
  refine MG.of (by decide +kernel) (by simp [Value.category]) (Nat.le_of_ble_eq_true rfl) ?_
  intro Z A ok
  refine g_aload_n ok (dk m_Ep_init 0 rfl) (pc' := 1) rfl (i := 0) rfl rfl ?_
  refine g_objInit ok (dk m_Ep_init 1 rfl) (pc' := 4) rfl c_Ep_3 (by simp [Value.category]) (by omega) rfl ?_
  refine g_aload_n ok (dk m_Ep_init 2 rfl) (pc' := 5) rfl (i := 0) rfl rfl ?_
  refine g_new ok (dk m_Ep_init 3 rfl) (pc' := 8) rfl o_Ep_9 (rc' := (mc - 1)) (rs' := (ms - 5)) (by omega) (by omega) (fun t ht0 htb => ?_)
  refine g_dup ok (dk m_Ep_init 4 rfl) (pc' := 9) rfl rfl ?_
  refine g_callIN ok (dk m_Ep_init 5 rfl) (pc' := 12) rfl c_Ep_11 (c_Tr_init g 2 8 113 (by omega) (by omega) (by omega) (q_up_s _ _ _)) rfl rfl (by simp [Value.category]) (by omega) rfl (rc' := (mc - 9)) (rs' := (ms - 118)) (by omega) (by omega) (fun rv h' hcc => ?_) (fun i h' hcc => by obtain ⟨e9, -⟩ := hcc; cases e9)
  obtain ⟨e9, ra, rb, ht1, hmd, hnn, -⟩ := hcc
  cases e9
  have hte : t ≠ e := fun z => by rw [z, hs0] at ht0; cases ht0
  have K1 : q_kp h h' (fun y => y = e) := fun y o hy _ => hmd y o (by rw [q_up_n (q_on hy ht0)]; exact hy) (q_on hy ht0)
  have hA1 : ∀ y, tr_A t ra rb y → h y = none := by
    rintro y (z | ⟨i, hi, z | z⟩)
    · rw [z]; exact ht0
    · rw [z]; exact q_none (hnn i hi).1
    · rw [z]; exact q_none (hnn i hi).2
  have hA2 : ∀ y, tr_A t ra rb y → ¬ (fun y => y = e) y := fun y hy z => by rw [z] at hy; have := hA1 _ hy; rw [hs0] at this; cases this
  have w0_0 : h' e = some (.inl (5, [.int 0, .int 0, .null, .null, .int 0, .int 0, .int 0, .int 0, .int 0, .int 0])) := hmd e _ (by rw [q_up_n hte.symm]; exact hs0) hte.symm
  refine g_put ok (dk m_Ep_init 6 rfl) (pc' := 15) rfl f_Ep_12 (Or.inr rfl) w0_0 (Nat.le_of_ble_eq_true rfl) rfl rfl ?_
  refine g_gen (fun v1_0 e1_0 => ?_)
  have w1_0 : v1_0 e = some (.inl (5, [.int 0, .int 0, .ref t, .null, .int 0, .int 0, .int 0, .int 0, .int 0, .int 0])) := by rw [e1_0, q_up_s]; rfl
  have k1_0 := q_kp.up K1 rfl e1_0
  have ht2 := ht1.kp (q_kp.up (q_kp.rf (X := fun y => y = e)) rfl e1_0) hA2
  clear e1_0
  refine g_aload_n ok (dk m_Ep_init 7 rfl) (pc' := 16) rfl (i := 0) rfl rfl ?_
  refine g_new ok (dk m_Ep_init 8 rfl) (pc' := 19) rfl o_Ep_18 (rc' := (mc - 10)) (rs' := (ms - 119)) (by omega) (by omega) (fun r hr0 hrb => ?_)
  refine g_dup ok (dk m_Ep_init 9 rfl) (pc' := 20) rfl rfl ?_
  refine g_iconst ok (dk m_Ep_init 10 rfl) (pc' := 21) rfl (v := 5) (by decide) ?_
  refine g_iconst ok (dk m_Ep_init 11 rfl) (pc' := 22) rfl (v := (-1)) (by decide) ?_
  refine g_callI ok (dk m_Ep_init 12 rfl) (pc' := 25) rfl c_Ep_20 (c_Row_init g (-1) 1 (by omega) (N := 5) (q_up_s _ _ _) (by decide) (by decide)) rfl rfl (by simp [Value.category]) (by omega) rfl (rc' := (mc - 11)) (rs' := (ms - 124)) (by omega) (by omega) (fun rv h' hcc => ?_) (fun i h' hcc => by obtain ⟨e9, -⟩ := hcc; cases e9)
  obtain ⟨e9, c, hc0, hcb, e2⟩ := hcc
  cases e9
  obtain ⟨A1, B1, P1, n1, K2⟩ := k1_0.row hr0 hc0 e2
  clear e2
  have w2 := P1 _ _ w1_0 (fun z => z)
  have ht3 := ht2.kp P1 (fun _ _ z => z)
  have hre : r ≠ e := fun z => by rw [z, w1_0] at hr0; cases hr0
  have hce : c ≠ e := fun z => by rw [z, w1_0] at n1; cases n1
  have hcr : ∀ i, i < 4 → rb i ≠ c := fun i hi => q_on (ht2.2.1 i hi).2 n1
  have hrn := k1_0.no hr0 hre
  have hcn := k1_0.no n1 hce
  refine g_put ok (dk m_Ep_init 13 rfl) (pc' := 28) rfl f_Ep_23 (Or.inr rfl) w2 (Nat.le_of_ble_eq_true rfl) rfl rfl ?_
  refine g_gen (fun v2_0 e2_0 => ?_)
  have w2_0 : v2_0 e = some (.inl (5, [.int 0, .int 0, .ref t, .ref r, .int 0, .int 0, .int 0, .int 0, .int 0, .int 0])) := by rw [e2_0, q_up_s]; rfl
  have k2_0 := q_kp.up K2 rfl e2_0
  have j0 := q_kp.up (q_kp.rf (X := fun y => y = e)) rfl e2_0
  clear e2_0
  refine g_aload_n ok (dk m_Ep_init 14 rfl) (pc' := 29) rfl (i := 0) rfl rfl ?_
  refine g_iconst ok (dk m_Ep_init 15 rfl) (pc' := 30) rfl (v := (-1)) (by decide) ?_
  refine g_put ok (dk m_Ep_init 16 rfl) (pc' := 33) rfl f_Ep_27 (Or.inr rfl) w2_0 (Nat.le_of_ble_eq_true rfl) rfl rfl ?_
  refine g_gen (fun v2_1 e2_1 => ?_)
  have w2_1 : v2_1 e = some (.inl (5, [.int 0, .int 0, .ref t, .ref r, .int (-1), .int 0, .int 0, .int 0, .int 0, .int 0])) := by rw [e2_1, q_up_s]; rfl
  have k2_1 := q_kp.up k2_0 rfl e2_1
  have j1 := q_kp.up j0 rfl e2_1
  clear e2_1
  refine g_aload_n ok (dk m_Ep_init 17 rfl) (pc' := 34) rfl (i := 0) rfl rfl ?_
  refine g_iconst ok (dk m_Ep_init 18 rfl) (pc' := 35) rfl (v := 0) (by decide) ?_
  refine g_put ok (dk m_Ep_init 19 rfl) (pc' := 38) rfl f_Ep_31 (Or.inr rfl) w2_1 (Nat.le_of_ble_eq_true rfl) rfl rfl ?_
  refine g_gen (fun v2_2 e2_2 => ?_)
  have w2_2 : v2_2 e = some (.inl (5, [.int 0, .int 0, .ref t, .ref r, .int (-1), .int 0, .int 0, .int 0, .int 0, .int 0])) := by rw [e2_2, q_up_s]; rfl
  have k2_2 := q_kp.up k2_1 rfl e2_2
  have j2 := q_kp.up j1 rfl e2_2
  clear e2_2
  refine g_aload_n ok (dk m_Ep_init 20 rfl) (pc' := 39) rfl (i := 0) rfl rfl ?_
  refine g_iconst ok (dk m_Ep_init 21 rfl) (pc' := 40) rfl (v := 0) (by decide) ?_
  refine g_put ok (dk m_Ep_init 22 rfl) (pc' := 43) rfl f_Ep_34 (Or.inr rfl) w2_2 (Nat.le_of_ble_eq_true rfl) rfl rfl ?_
  refine g_gen (fun v2_3 e2_3 => ?_)
  have w2_3 : v2_3 e = some (.inl (5, [.int 0, .int 0, .ref t, .ref r, .int (-1), .int 0, .int 0, .int 0, .int 0, .int 0])) := by rw [e2_3, q_up_s]; rfl
  have k2_3 := q_kp.up k2_2 rfl e2_3
  have j3 := q_kp.up j2 rfl e2_3
  clear e2_3
  refine g_aload_n ok (dk m_Ep_init 23 rfl) (pc' := 44) rfl (i := 0) rfl rfl ?_
  refine g_iconst ok (dk m_Ep_init 24 rfl) (pc' := 45) rfl (v := 0) (by decide) ?_
  refine g_put ok (dk m_Ep_init 25 rfl) (pc' := 48) rfl f_Ep_37 (Or.inr rfl) w2_3 (Nat.le_of_ble_eq_true rfl) rfl rfl ?_
  refine g_gen (fun v2_4 e2_4 => ?_)
  have w2_4 : v2_4 e = some (.inl (5, [.int 0, .int 0, .ref t, .ref r, .int (-1), .int 0, .int 0, .int 0, .int 0, .int 0])) := by rw [e2_4, q_up_s]; rfl
  have k2_4 := q_kp.up k2_3 rfl e2_4
  have j4 := q_kp.up j3 rfl e2_4
  clear e2_4
  refine g_aload_n ok (dk m_Ep_init 26 rfl) (pc' := 49) rfl (i := 0) rfl rfl ?_
  refine g_iconst ok (dk m_Ep_init 27 rfl) (pc' := 50) rfl (v := 0) (by decide) ?_
  refine g_put ok (dk m_Ep_init 28 rfl) (pc' := 53) rfl f_Ep_40 (Or.inr rfl) w2_4 (Nat.le_of_ble_eq_true rfl) rfl rfl ?_
  refine g_gen (fun v2_5 e2_5 => ?_)
  have w2_5 : v2_5 e = some (.inl (5, [.int 0, .int 0, .ref t, .ref r, .int (-1), .int 0, .int 0, .int 0, .int 0, .int 0])) := by rw [e2_5, q_up_s]; rfl
  have k2_5 := q_kp.up k2_4 rfl e2_5
  have j5 := q_kp.up j4 rfl e2_5
  clear e2_5
  refine g_aload_n ok (dk m_Ep_init 29 rfl) (pc' := 54) rfl (i := 0) rfl rfl ?_
  refine g_iconst ok (dk m_Ep_init 30 rfl) (pc' := 55) rfl (v := 0) (by decide) ?_
  refine g_put ok (dk m_Ep_init 31 rfl) (pc' := 58) rfl f_Ep_43 (Or.inr rfl) w2_5 (Nat.le_of_ble_eq_true rfl) rfl rfl ?_
  refine g_gen (fun v2_6 e2_6 => ?_)
  have w2_6 : v2_6 e = some (.inl (5, [.int 0, .int 0, .ref t, .ref r, .int (-1), .int 0, .int 0, .int 0, .int 0, .int 0])) := by rw [e2_6, q_up_s]; rfl
  have k2_6 := q_kp.up k2_5 rfl e2_6
  have j6 := q_kp.up j5 rfl e2_6
  clear e2_6
  refine g_aload_n ok (dk m_Ep_init 32 rfl) (pc' := 59) rfl (i := 0) rfl rfl ?_
  refine g_iload_n ok (dk m_Ep_init 33 rfl) (pc' := 60) rfl (i := 1) rfl rfl ?_
  refine g_put ok (dk m_Ep_init 34 rfl) (pc' := 63) rfl f_Ep_46 (Or.inr rfl) w2_6 (Nat.le_of_ble_eq_true rfl) rfl rfl ?_
  refine g_gen (fun v2_7 e2_7 => ?_)
  have w2_7 : v2_7 e = some (.inl (5, [.int n, .int 0, .ref t, .ref r, .int (-1), .int 0, .int 0, .int 0, .int 0, .int 0])) := by rw [e2_7, q_up_s]; rfl
  have k2_7 := q_kp.up k2_6 rfl e2_7
  have j7 := q_kp.up j6 rfl e2_7
  clear e2_7
  refine g_aload_n ok (dk m_Ep_init 35 rfl) (pc' := 64) rfl (i := 0) rfl rfl ?_
  refine g_iload_n ok (dk m_Ep_init 36 rfl) (pc' := 65) rfl (i := 2) rfl rfl ?_
  refine g_put ok (dk m_Ep_init 37 rfl) (pc' := 68) rfl f_Ep_49 (Or.inr rfl) w2_7 (Nat.le_of_ble_eq_true rfl) rfl rfl ?_
  refine g_gen (fun v2_8 e2_8 => ?_)
  have w2_8 : v2_8 e = some (.inl (5, [.int n, .int k, .ref t, .ref r, .int (-1), .int 0, .int 0, .int 0, .int 0, .int 0])) := by rw [e2_8, q_up_s]; rfl
  have k2_8 := q_kp.up k2_7 rfl e2_8
  have j8 := q_kp.up j7 rfl e2_8
  clear e2_8
  refine g_vret ok (dk m_Ep_init 38 rfl) rfl ⟨rfl, t, r, c, ra, rb, ⟨w2_8, ht3.kp j8 hA2, j8 _ _ A1 hre, j8 _ _ B1 hce, hcr⟩, k2_8, ?_⟩
  rintro y (z | z | z | z | ⟨i, hi, z⟩)
  · exact Or.inl z
  · exact Or.inr (by rw [z]; exact ht0)
  · exact Or.inr (by rw [z]; exact hrn)
  · exact Or.inr (by rw [z]; exact hcn)
  · exact Or.inr (hA1 y (Or.inr ⟨i, hi, z⟩))
set_option maxHeartbeats 4000000 in
theorem c_Mem_init (g : q_G) {h : q_H} {m : Nat} (n : Int32) (d mc ms : Nat) (hd : 2 ≤ d) (hm : 4 ≤ mc) (hms : 53 ≤ ms) (hs0 : h m = some (.inl (4, [.int 0, .null, .null, .int 0, .int 0, .int 0, .int 0, .int 0]))) : MG g y_Mem_init b_Mem_init 2 none d mc ms [.ref m, .int n] h (fun q h' => q = .inl none ∧ ∃ ma mb, q_mem h' m ma mb (M_new n) ∧ q_kp h h' (fun y => y = m) ∧ ∀ y, m_A m ma mb y → y = m ∨ h y = none) := by
  refine MG.of (by decide +kernel) (by simp [Value.category]) (Nat.le_of_ble_eq_true rfl) ?_
  intro Z A ok
  refine g_aload_n ok (dk m_Mem_init 0 rfl) (pc' := 1) rfl (i := 0) rfl rfl ?_
  refine g_objInit ok (dk m_Mem_init 1 rfl) (pc' := 4) rfl c_Mem_3 (by simp [Value.category]) (by omega) rfl ?_
  refine g_aload_n ok (dk m_Mem_init 2 rfl) (pc' := 5) rfl (i := 0) rfl rfl ?_
  refine g_new ok (dk m_Mem_init 3 rfl) (pc' := 8) rfl o_Mem_9 (rc' := (mc - 1)) (rs' := (ms - 1)) (by omega) (by omega) (fun r hr0 hrb => ?_)
  refine g_dup ok (dk m_Mem_init 4 rfl) (pc' := 9) rfl rfl ?_
  refine g_bipush ok (dk m_Mem_init 5 rfl) (pc' := 11) rfl (v := 31) (by decide) ?_
  refine g_iconst ok (dk m_Mem_init 6 rfl) (pc' := 12) rfl (v := (-1)) (by decide) ?_
  refine g_callI ok (dk m_Mem_init 7 rfl) (pc' := 15) rfl c_Mem_11 (c_Row_init g (-1) 1 (by omega) (N := 31) (q_up_s _ _ _) (by decide) (by decide)) rfl rfl (by simp [Value.category]) (by omega) rfl (rc' := (mc - 2)) (rs' := (ms - 32)) (by omega) (by omega) (fun rv h' hcc => ?_) (fun i h' hcc => by obtain ⟨e9, -⟩ := hcc; cases e9)
  obtain ⟨e9, c, hc0, hcb, e2⟩ := hcc
  cases e9
  obtain ⟨A1, B1, P1, n1, K1⟩ := (q_kp.rf (h := h) (X := fun y => y = m)).row hr0 hc0 e2
  clear e2
  have w0_0 := P1 _ _ hs0 (fun z => z)
  have hre : r ≠ m := fun z => by rw [z, hs0] at hr0; cases hr0
  have hce : c ≠ m := fun z => by rw [z, hs0] at n1; cases n1
  refine g_put ok (dk m_Mem_init 8 rfl) (pc' := 18) rfl f_Mem_14 (Or.inr rfl) w0_0 (Nat.le_of_ble_eq_true rfl) rfl rfl ?_
  refine g_gen (fun v1_0 e1_0 => ?_)
  have w1_0 : v1_0 m = some (.inl (4, [.int 0, .ref r, .null, .int 0, .int 0, .int 0, .int 0, .int 0])) := by rw [e1_0, q_up_s]; rfl
  have k1_0 := q_kp.up K1 rfl e1_0
  have i1 := q_kp.up (q_kp.rf (X := fun y => y = m)) rfl e1_0
  have A2 := i1 _ _ A1 hre
  have B2 := i1 _ _ B1 hce
  clear e1_0
  refine g_aload_n ok (dk m_Mem_init 9 rfl) (pc' := 19) rfl (i := 0) rfl rfl ?_
  refine g_new ok (dk m_Mem_init 10 rfl) (pc' := 22) rfl o_Mem_9 (rc' := (mc - 3)) (rs' := (ms - 33)) (by omega) (by omega) (fun r2 hr2 hrb2 => ?_)
  refine g_dup ok (dk m_Mem_init 11 rfl) (pc' := 23) rfl rfl ?_
  refine g_bipush ok (dk m_Mem_init 12 rfl) (pc' := 25) rfl (v := 20) (by decide) ?_
  refine g_iconst ok (dk m_Mem_init 13 rfl) (pc' := 26) rfl (v := (-1)) (by decide) ?_
  refine g_callI ok (dk m_Mem_init 14 rfl) (pc' := 29) rfl c_Mem_11 (c_Row_init g (-1) 1 (by omega) (N := 20) (q_up_s _ _ _) (by decide) (by decide)) rfl rfl (by simp [Value.category]) (by omega) rfl (rc' := (mc - 4)) (rs' := (ms - 53)) (by omega) (by omega) (fun rv h' hcc => ?_) (fun i h' hcc => by obtain ⟨e9, -⟩ := hcc; cases e9)
  obtain ⟨e9, c2, hc2, hcb2, e2⟩ := hcc
  cases e9
  obtain ⟨A3, B3, P2, n2, K2⟩ := k1_0.row hr2 hc2 e2
  clear e2
  have w2 := P2 _ _ w1_0 (fun z => z)
  replace A2 := P2 _ _ A2 (fun z => z)
  have hcc2 : c ≠ c2 := q_on B2 n2
  replace B2 := P2 _ _ B2 (fun z => z)
  have hre2 : r2 ≠ m := fun z => by rw [z, w1_0] at hr2; cases hr2
  have hce2 : c2 ≠ m := fun z => by rw [z, w1_0] at n2; cases n2
  have hrn2 := k1_0.no hr2 hre2
  have hcn2 := k1_0.no n2 hce2
  refine g_put ok (dk m_Mem_init 15 rfl) (pc' := 32) rfl f_Mem_20 (Or.inr rfl) w2 (Nat.le_of_ble_eq_true rfl) rfl rfl ?_
  refine g_gen (fun v2_0 e2_0 => ?_)
  have w2_0 : v2_0 m = some (.inl (4, [.int 0, .ref r, .ref r2, .int 0, .int 0, .int 0, .int 0, .int 0])) := by rw [e2_0, q_up_s]; rfl
  have k2_0 := q_kp.up K2 rfl e2_0
  have j0 := q_kp.up (q_kp.rf (X := fun y => y = m)) rfl e2_0
  clear e2_0
  refine g_aload_n ok (dk m_Mem_init 16 rfl) (pc' := 33) rfl (i := 0) rfl rfl ?_
  refine g_iconst ok (dk m_Mem_init 17 rfl) (pc' := 34) rfl (v := 0) (by decide) ?_
  refine g_put ok (dk m_Mem_init 18 rfl) (pc' := 37) rfl f_Mem_23 (Or.inr rfl) w2_0 (Nat.le_of_ble_eq_true rfl) rfl rfl ?_
  refine g_gen (fun v2_1 e2_1 => ?_)
  have w2_1 : v2_1 m = some (.inl (4, [.int 0, .ref r, .ref r2, .int 0, .int 0, .int 0, .int 0, .int 0])) := by rw [e2_1, q_up_s]; rfl
  have k2_1 := q_kp.up k2_0 rfl e2_1
  have j1 := q_kp.up j0 rfl e2_1
  clear e2_1
  refine g_aload_n ok (dk m_Mem_init 19 rfl) (pc' := 38) rfl (i := 0) rfl rfl ?_
  refine g_iconst ok (dk m_Mem_init 20 rfl) (pc' := 39) rfl (v := (-1)) (by decide) ?_
  refine g_put ok (dk m_Mem_init 21 rfl) (pc' := 42) rfl f_Mem_27 (Or.inr rfl) w2_1 (Nat.le_of_ble_eq_true rfl) rfl rfl ?_
  refine g_gen (fun v2_2 e2_2 => ?_)
  have w2_2 : v2_2 m = some (.inl (4, [.int 0, .ref r, .ref r2, .int 0, .int (-1), .int 0, .int 0, .int 0])) := by rw [e2_2, q_up_s]; rfl
  have k2_2 := q_kp.up k2_1 rfl e2_2
  have j2 := q_kp.up j1 rfl e2_2
  clear e2_2
  refine g_aload_n ok (dk m_Mem_init 22 rfl) (pc' := 43) rfl (i := 0) rfl rfl ?_
  refine g_iconst ok (dk m_Mem_init 23 rfl) (pc' := 44) rfl (v := (-1)) (by decide) ?_
  refine g_put ok (dk m_Mem_init 24 rfl) (pc' := 47) rfl f_Mem_30 (Or.inr rfl) w2_2 (Nat.le_of_ble_eq_true rfl) rfl rfl ?_
  refine g_gen (fun v2_3 e2_3 => ?_)
  have w2_3 : v2_3 m = some (.inl (4, [.int 0, .ref r, .ref r2, .int 0, .int (-1), .int (-1), .int 0, .int 0])) := by rw [e2_3, q_up_s]; rfl
  have k2_3 := q_kp.up k2_2 rfl e2_3
  have j3 := q_kp.up j2 rfl e2_3
  clear e2_3
  refine g_aload_n ok (dk m_Mem_init 25 rfl) (pc' := 48) rfl (i := 0) rfl rfl ?_
  refine g_iconst ok (dk m_Mem_init 26 rfl) (pc' := 49) rfl (v := 0) (by decide) ?_
  refine g_put ok (dk m_Mem_init 27 rfl) (pc' := 52) rfl f_Mem_33 (Or.inr rfl) w2_3 (Nat.le_of_ble_eq_true rfl) rfl rfl ?_
  refine g_gen (fun v2_4 e2_4 => ?_)
  have w2_4 : v2_4 m = some (.inl (4, [.int 0, .ref r, .ref r2, .int 0, .int (-1), .int (-1), .int 0, .int 0])) := by rw [e2_4, q_up_s]; rfl
  have k2_4 := q_kp.up k2_3 rfl e2_4
  have j4 := q_kp.up j3 rfl e2_4
  clear e2_4
  refine g_aload_n ok (dk m_Mem_init 28 rfl) (pc' := 53) rfl (i := 0) rfl rfl ?_
  refine g_iconst ok (dk m_Mem_init 29 rfl) (pc' := 54) rfl (v := 0) (by decide) ?_
  refine g_put ok (dk m_Mem_init 30 rfl) (pc' := 57) rfl f_Mem_37 (Or.inr rfl) w2_4 (Nat.le_of_ble_eq_true rfl) rfl rfl ?_
  refine g_gen (fun v2_5 e2_5 => ?_)
  have w2_5 : v2_5 m = some (.inl (4, [.int 0, .ref r, .ref r2, .int 0, .int (-1), .int (-1), .int 0, .int 0])) := by rw [e2_5, q_up_s]; rfl
  have k2_5 := q_kp.up k2_4 rfl e2_5
  have j5 := q_kp.up j4 rfl e2_5
  clear e2_5
  refine g_aload_n ok (dk m_Mem_init 31 rfl) (pc' := 58) rfl (i := 0) rfl rfl ?_
  refine g_iload_n ok (dk m_Mem_init 32 rfl) (pc' := 59) rfl (i := 1) rfl rfl ?_
  refine g_put ok (dk m_Mem_init 33 rfl) (pc' := 62) rfl f_Mem_40 (Or.inr rfl) w2_5 (Nat.le_of_ble_eq_true rfl) rfl rfl ?_
  refine g_gen (fun v2_6 e2_6 => ?_)
  have w2_6 : v2_6 m = some (.inl (4, [.int n, .ref r, .ref r2, .int 0, .int (-1), .int (-1), .int 0, .int 0])) := by rw [e2_6, q_up_s]; rfl
  have k2_6 := q_kp.up k2_5 rfl e2_6
  have j6 := q_kp.up j5 rfl e2_6
  clear e2_6
  refine g_vret ok (dk m_Mem_init 34 rfl) rfl ⟨rfl, (fun i => if i = 0 then r else r2), (fun i => if i = 0 then c else c2), ⟨w2_6, fun i hi => ?_, fun i j hi hj e => ?_⟩, k2_6, ?_⟩
  · rcases (show i = 0 ∨ i = 1 by omega) with rfl | rfl
    · exact ⟨j6 _ _ A2 hre, j6 _ _ B2 hce⟩
    · exact ⟨j6 _ _ A3 hre2, j6 _ _ B3 hce2⟩
  · rcases (show i = 0 ∨ i = 1 by omega) with rfl | rfl <;> rcases (show j = 0 ∨ j = 1 by omega) with rfl | rfl
    · rfl
    · exact absurd e hcc2
    · exact absurd e.symm hcc2
    · rfl
  · rintro y (z | ⟨i, hi, z⟩)
    · exact Or.inl z
    · rcases (show i = 0 ∨ i = 1 by omega) with rfl | rfl <;> rcases z with z | z
      · exact Or.inr (by rw [z]; exact hr0)
      · exact Or.inr (by rw [z]; exact n1)
      · exact Or.inr (by rw [z]; exact hrn2)
      · exact Or.inr (by rw [z]; exact hcn2)
set_option maxHeartbeats 1000000 in
theorem c_KP_init (g : q_G) {h : q_H} {e : Nat} {m : Nat} (x y : Int32) (d : Nat) (hd : 1 ≤ d) (hs0 : h e = some (.inl (7, [.null, .int 0, .int 0, .int 0, .int 0, .int 0]))) : MG g y_KP_init b_KP_init 4 none d 0 0 [.ref e, .ref m, .int x, .int y] h (fun q h' => q = .inl none ∧ h' e = some (.inl (7, [.ref m, .int x, .int y, .int (-1), .int (-1), .int 0])) ∧ q_kp h h' (fun y => y = e)) := by
  refine MG.of (by decide +kernel) (by simp [Value.category]) (Nat.le_of_ble_eq_true rfl) ?_
  intro Z A ok
  refine g_aload_n ok (dk m_KP_init 0 rfl) (pc' := 1) rfl (i := 0) rfl rfl ?_
  refine g_objInit ok (dk m_KP_init 1 rfl) (pc' := 4) rfl c_KP_3 (by simp [Value.category]) (by omega) rfl ?_
  refine g_aload_n ok (dk m_KP_init 2 rfl) (pc' := 5) rfl (i := 0) rfl rfl ?_
  refine g_iconst ok (dk m_KP_init 3 rfl) (pc' := 6) rfl (v := (-1)) (by decide) ?_
  refine g_put ok (dk m_KP_init 4 rfl) (pc' := 9) rfl f_KP_9 (Or.inr rfl) hs0 (Nat.le_of_ble_eq_true rfl) rfl rfl ?_
  refine g_gen (fun v1_0 e1_0 => ?_)
  have w1_0 : v1_0 e = some (.inl (7, [.null, .int 0, .int 0, .int (-1), .int 0, .int 0])) := by rw [e1_0, q_up_s]; rfl
  have k1_0 := q_kp.up (q_kp.rf (h := h) (X := fun y => y = e)) rfl e1_0
  clear e1_0
  refine g_aload_n ok (dk m_KP_init 5 rfl) (pc' := 10) rfl (i := 0) rfl rfl ?_
  refine g_iconst ok (dk m_KP_init 6 rfl) (pc' := 11) rfl (v := (-1)) (by decide) ?_
  refine g_put ok (dk m_KP_init 7 rfl) (pc' := 14) rfl f_KP_15 (Or.inr rfl) w1_0 (Nat.le_of_ble_eq_true rfl) rfl rfl ?_
  refine g_gen (fun v1_1 e1_1 => ?_)
  have w1_1 : v1_1 e = some (.inl (7, [.null, .int 0, .int 0, .int (-1), .int (-1), .int 0])) := by rw [e1_1, q_up_s]; rfl
  have k1_1 := q_kp.up k1_0 rfl e1_1
  clear e1_1
  refine g_aload_n ok (dk m_KP_init 8 rfl) (pc' := 15) rfl (i := 0) rfl rfl ?_
  refine g_iconst ok (dk m_KP_init 9 rfl) (pc' := 16) rfl (v := 0) (by decide) ?_
  refine g_put ok (dk m_KP_init 10 rfl) (pc' := 19) rfl f_KP_18 (Or.inr rfl) w1_1 (Nat.le_of_ble_eq_true rfl) rfl rfl ?_
  refine g_gen (fun v1_2 e1_2 => ?_)
  have w1_2 : v1_2 e = some (.inl (7, [.null, .int 0, .int 0, .int (-1), .int (-1), .int 0])) := by rw [e1_2, q_up_s]; rfl
  have k1_2 := q_kp.up k1_1 rfl e1_2
  clear e1_2
  refine g_aload_n ok (dk m_KP_init 11 rfl) (pc' := 20) rfl (i := 0) rfl rfl ?_
  refine g_aload_n ok (dk m_KP_init 12 rfl) (pc' := 21) rfl (i := 1) rfl rfl ?_
  refine g_put ok (dk m_KP_init 13 rfl) (pc' := 24) rfl f_KP_22 (Or.inr rfl) w1_2 (Nat.le_of_ble_eq_true rfl) rfl rfl ?_
  refine g_gen (fun v1_3 e1_3 => ?_)
  have w1_3 : v1_3 e = some (.inl (7, [.ref m, .int 0, .int 0, .int (-1), .int (-1), .int 0])) := by rw [e1_3, q_up_s]; rfl
  have k1_3 := q_kp.up k1_2 rfl e1_3
  clear e1_3
  refine g_aload_n ok (dk m_KP_init 14 rfl) (pc' := 25) rfl (i := 0) rfl rfl ?_
  refine g_iload_n ok (dk m_KP_init 15 rfl) (pc' := 26) rfl (i := 2) rfl rfl ?_
  refine g_put ok (dk m_KP_init 16 rfl) (pc' := 29) rfl f_KP_26 (Or.inr rfl) w1_3 (Nat.le_of_ble_eq_true rfl) rfl rfl ?_
  refine g_gen (fun v1_4 e1_4 => ?_)
  have w1_4 : v1_4 e = some (.inl (7, [.ref m, .int x, .int 0, .int (-1), .int (-1), .int 0])) := by rw [e1_4, q_up_s]; rfl
  have k1_4 := q_kp.up k1_3 rfl e1_4
  clear e1_4
  refine g_aload_n ok (dk m_KP_init 17 rfl) (pc' := 30) rfl (i := 0) rfl rfl ?_
  refine g_iload_n ok (dk m_KP_init 18 rfl) (pc' := 31) rfl (i := 3) rfl rfl ?_
  refine g_put ok (dk m_KP_init 19 rfl) (pc' := 34) rfl f_KP_29 (Or.inr rfl) w1_4 (Nat.le_of_ble_eq_true rfl) rfl rfl ?_
  refine g_gen (fun v1_5 e1_5 => ?_)
  have w1_5 : v1_5 e = some (.inl (7, [.ref m, .int x, .int y, .int (-1), .int (-1), .int 0])) := by rw [e1_5, q_up_s]; rfl
  have k1_5 := q_kp.up k1_4 rfl e1_5
  clear e1_5
  exact g_vret ok (dk m_KP_init 20 rfl) rfl ⟨rfl, w1_5, k1_5⟩
set_option maxHeartbeats 1000000 in
theorem c_Ad_init (g : q_G) {h : q_H} {e : Nat} {p : Nat} (d : Nat) (hd : 1 ≤ d) (hs0 : h e = some (.inl (8, [.null]))) : MG g y_Ad_init b_Ad_init 2 none d 0 0 [.ref e, .ref p] h (fun q h' => q = .inl none ∧ h' e = some (.inl (8, [.ref p])) ∧ q_kp h h' (fun y => y = e)) := by
  refine MG.of (by decide +kernel) (by simp [Value.category]) (Nat.le_of_ble_eq_true rfl) ?_
  intro Z A ok
  refine g_aload_n ok (dk m_Ad_init 0 rfl) (pc' := 1) rfl (i := 0) rfl rfl ?_
  refine g_objInit ok (dk m_Ad_init 1 rfl) (pc' := 4) rfl c_Ad_1 (by simp [Value.category]) (by omega) rfl ?_
  refine g_aload_n ok (dk m_Ad_init 2 rfl) (pc' := 5) rfl (i := 0) rfl rfl ?_
  refine g_aload_n ok (dk m_Ad_init 3 rfl) (pc' := 6) rfl (i := 1) rfl rfl ?_
  refine g_put ok (dk m_Ad_init 4 rfl) (pc' := 9) rfl f_Ad_7 (Or.inr rfl) hs0 (Nat.le_of_ble_eq_true rfl) rfl rfl ?_
  refine g_gen (fun v1_0 e1_0 => ?_)
  have w1_0 : v1_0 e = some (.inl (8, [.ref p])) := by rw [e1_0, q_up_s]; rfl
  have k1_0 := q_kp.up (q_kp.rf (h := h) (X := fun y => y = e)) rfl e1_0
  clear e1_0
  exact g_vret ok (dk m_Ad_init 5 rfl) rfl ⟨rfl, w1_0, k1_0⟩
set_option maxHeartbeats 1000000 in
theorem c_Re_init (g : q_G) {h : q_H} {e : Nat} (x : Int32) (d : Nat) (hd : 1 ≤ d) (hs0 : h e = some (.inl (9, [.int 0]))) : MG g y_Re_init b_Re_init 2 none d 0 0 [.ref e, .int x] h (fun q h' => q = .inl none ∧ h' e = some (.inl (9, [.int x])) ∧ q_kp h h' (fun y => y = e)) := by
  refine MG.of (by decide +kernel) (by simp [Value.category]) (Nat.le_of_ble_eq_true rfl) ?_
  intro Z A ok
  refine g_aload_n ok (dk m_Re_init 0 rfl) (pc' := 1) rfl (i := 0) rfl rfl ?_
  refine g_objInit ok (dk m_Re_init 1 rfl) (pc' := 4) rfl c_Re_1 (by simp [Value.category]) (by omega) rfl ?_
  refine g_aload_n ok (dk m_Re_init 2 rfl) (pc' := 5) rfl (i := 0) rfl rfl ?_
  refine g_iload_n ok (dk m_Re_init 3 rfl) (pc' := 6) rfl (i := 1) rfl rfl ?_
  refine g_put ok (dk m_Re_init 4 rfl) (pc' := 9) rfl f_Re_7 (Or.inr rfl) hs0 (Nat.le_of_ble_eq_true rfl) rfl rfl ?_
  refine g_gen (fun v1_0 e1_0 => ?_)
  have w1_0 : v1_0 e = some (.inl (9, [.int x])) := by rw [e1_0, q_up_s]; rfl
  have k1_0 := q_kp.up (q_kp.rf (h := h) (X := fun y => y = e)) rfl e1_0
  clear e1_0
  exact g_vret ok (dk m_Re_init 5 rfl) rfl ⟨rfl, w1_0, k1_0⟩
set_option maxHeartbeats 1000000 in
theorem c_Rn_init (g : q_G) {h : q_H} {e : Nat} (x y : Int32) (d : Nat) (hd : 1 ≤ d) (hs0 : h e = some (.inl (10, [.int 0, .int 0]))) : MG g y_Rn_init b_Rn_init 3 none d 0 0 [.ref e, .int x, .int y] h (fun q h' => q = .inl none ∧ h' e = some (.inl (10, [.int x, .int y])) ∧ q_kp h h' (fun y => y = e)) := by
  refine MG.of (by decide +kernel) (by simp [Value.category]) (Nat.le_of_ble_eq_true rfl) ?_
  intro Z A ok
  refine g_aload_n ok (dk m_Rn_init 0 rfl) (pc' := 1) rfl (i := 0) rfl rfl ?_
  refine g_objInit ok (dk m_Rn_init 1 rfl) (pc' := 4) rfl c_Rn_1 (by simp [Value.category]) (by omega) rfl ?_
  refine g_aload_n ok (dk m_Rn_init 2 rfl) (pc' := 5) rfl (i := 0) rfl rfl ?_
  refine g_iload_n ok (dk m_Rn_init 3 rfl) (pc' := 6) rfl (i := 1) rfl rfl ?_
  refine g_put ok (dk m_Rn_init 4 rfl) (pc' := 9) rfl f_Rn_7 (Or.inr rfl) hs0 (Nat.le_of_ble_eq_true rfl) rfl rfl ?_
  refine g_gen (fun v1_0 e1_0 => ?_)
  have w1_0 : v1_0 e = some (.inl (10, [.int x, .int 0])) := by rw [e1_0, q_up_s]; rfl
  have k1_0 := q_kp.up (q_kp.rf (h := h) (X := fun y => y = e)) rfl e1_0
  clear e1_0
  refine g_aload_n ok (dk m_Rn_init 5 rfl) (pc' := 10) rfl (i := 0) rfl rfl ?_
  refine g_iload_n ok (dk m_Rn_init 6 rfl) (pc' := 11) rfl (i := 2) rfl rfl ?_
  refine g_put ok (dk m_Rn_init 7 rfl) (pc' := 14) rfl f_Rn_13 (Or.inr rfl) w1_0 (Nat.le_of_ble_eq_true rfl) rfl rfl ?_
  refine g_gen (fun v1_1 e1_1 => ?_)
  have w1_1 : v1_1 e = some (.inl (10, [.int x, .int y])) := by rw [e1_1, q_up_s]; rfl
  have k1_1 := q_kp.up k1_0 rfl e1_1
  clear e1_1
  exact g_vret ok (dk m_Rn_init 8 rfl) rfl ⟨rfl, w1_1, k1_1⟩
set_option maxHeartbeats 1000000 in
theorem c_KP_isUsed (g : q_G) {h : q_H} {p : Nat} {v0 : Value} {x1 x2 x3 x4 x5 : Int32} (d : Nat) (hp : h p = some (.inl (7, [v0, .int x1, .int x2, .int x3, .int x4, .int x5]))) : MG g y_KP_isUsed b_KP_isUsed 1 (some .boolean) d 0 0 [.ref p] h (fun q h' => q = .inl (some (.int (b2i (¬ x3 = -1)))) ∧ h' = h) := by
  refine MG.of (by decide +kernel) (by simp [Value.category]) (Nat.le_of_ble_eq_true rfl) ?_
  intro Z A ok
  refine g_aload_n ok (dk m_KP_isUsed 0 rfl) (pc' := 1) rfl (i := 0) rfl rfl ?_
  refine g_get ok (dk m_KP_isUsed 1 rfl) (pc' := 4) rfl f_KP_9 hp rfl ?_
  refine g_iconst ok (dk m_KP_isUsed 2 rfl) (pc' := 5) rfl (v := (-1)) (by decide) ?_
  refine g_icmp_eq ok (dk m_KP_isUsed 3 rfl) (tgt := 12) (by decide) (pc' := 8) rfl (fun c_5 => ?_) (fun c_5 => ?_)
  · refine g_iconst ok (dk m_KP_isUsed 6 rfl) (pc' := 13) rfl (v := 0) (by decide) ?_
    exact g_iret ok (dk m_KP_isUsed 7 rfl) rfl rfl ⟨by rw [b2i_f (p := ¬ x3 = -1) (fun z => z c_5)], rfl⟩
  · refine g_iconst ok (dk m_KP_isUsed 4 rfl) (pc' := 9) rfl (v := 1) (by decide) ?_
    refine g_goto ok (dk m_KP_isUsed 5 rfl) (pc' := 13) (by decide) ?_
    exact g_iret ok (dk m_KP_isUsed 7 rfl) rfl rfl ⟨by rw [b2i_t (p := ¬ x3 = -1) c_5], rfl⟩
set_option maxHeartbeats 1000000 in
theorem c_AL_clearS (g : q_G) {h : q_H} {a b cnt n : Nat} {f : Nat → Option Nat} {mv : Int32} {el : Nat → Nat} (d : Nat) (ha : h a = some (.inl (3, [.ref b, .int (nI cnt), .int mv]))) (hb : h b = some (q_ra n f)) (hcn : cnt ≤ n) (h10 : 10 ≤ n) (h15 : n ≤ 150) : MG g y_AL_clear b_AL_clear 4 none d 0 0 [.ref a] h (fun q h' => q = .inl none ∧ q_lst g h' a (some b) 0 el ∧ q_kp h h' (fun y => y = a ∨ y = b)) := by
  refine MG.of (by decide +kernel) (by simp [Value.category]) (Nat.le_of_ble_eq_true rfl) ?_
  intro Z A ok
  have loop : ∀ (j k : Nat), k + j = cnt → ∀ (h1 : q_H) (f1 : Nat → Option Nat), h1 a = some (.inl (3, [.ref b, .int (nI 0), .int (mv + 1)])) → h1 b = some (q_ra n f1) → q_kp h h1 (fun y => y = a ∨ y = b) → GW g Z A (fun q h' => q = .inl none ∧ q_lst g h' a (some b) 0 el ∧ q_kp h h' (fun y => y = a ∨ y = b)) 0 0 h1 27 [some (.ref a), some (.ref b), some (.int (nI cnt)), some (.int (nI k))] [] := by
    intro j
    induction j with
    | zero =>
      intro k hk h1 f1 ha1 hb1 hk1
      refine g_iload_n ok (dk m_AL_clear 17 rfl) (pc' := 28) rfl (i := 3) rfl rfl ?_
      refine g_iload_n ok (dk m_AL_clear 18 rfl) (pc' := 29) rfl (i := 2) rfl rfl ?_
      refine g_icmp_ge ok (dk m_AL_clear 19 rfl) (tgt := 42) (by decide) (pc' := 32) rfl (fun c_29 => ?_) (fun c_29 => absurd (show nI cnt ≤ nI k from by rw [show k = cnt by omega]; exact Int32.le_refl _) c_29)
      exact g_vret ok (dk m_AL_clear 26 rfl) rfl ⟨rfl, ⟨n, f1, _, ha1, hb1, Nat.zero_le _, h10, h15, fun i hi => absurd hi (Nat.not_lt_zero _)⟩, hk1⟩
    | succ j ih =>
      intro k hk h1 f1 ha1 hb1 hk1
      have hk2 : k < cnt := by omega
      refine g_iload_n ok (dk m_AL_clear 17 rfl) (pc' := 28) rfl (i := 3) rfl rfl ?_
      refine g_iload_n ok (dk m_AL_clear 18 rfl) (pc' := 29) rfl (i := 2) rfl rfl ?_
      refine g_icmp_ge ok (dk m_AL_clear 19 rfl) (tgt := 42) (by decide) (pc' := 32) rfl (fun c_29 => absurd c_29 (nI_ge hk2 (by omega))) (fun c_29 => ?_)
      refine g_aload_n ok (dk m_AL_clear 20 rfl) (pc' := 33) rfl (i := 1) rfl rfl ?_
      refine g_iload_n ok (dk m_AL_clear 21 rfl) (pc' := 34) rfl (i := 3) rfl rfl ?_
      refine g_null ok (dk m_AL_clear 22 rfl) (pc' := 35) rfl ?_
      refine g_aastN ok (dk m_AL_clear 23 rfl) (pc' := 36) rfl hb1 (show k < n by omega) (by omega) ?_
      refine g_gen (fun h2 e2 => ?_)
      have hb2 : h2 b = some (q_ra n (va_up f1 k none)) := by rw [e2, q_up_s]
      have ha2 : h2 a = some (.inl (3, [.ref b, .int (nI 0), .int (mv + 1)])) := (by rw [e2, q_up_n (q_oa ha1 hb1)]; exact ha1)
      have hk3 := q_kp.up hk1 (Or.inr rfl) e2
      clear e2
      refine g_iinc ok (dk m_AL_clear 24 rfl) (pc' := 39) rfl rfl (nI_1 k) rfl ?_
      refine g_goto ok (dk m_AL_clear 25 rfl) (pc' := 27) (by decide) ?_
      exact ih (k + 1) (by omega) _ _ ha2 hb2 hk3
  refine g_aload_n ok (dk m_AL_clear 0 rfl) (pc' := 1) rfl (i := 0) rfl rfl ?_
  refine g_dup ok (dk m_AL_clear 1 rfl) (pc' := 2) rfl rfl ?_
  refine g_get ok (dk m_AL_clear 2 rfl) (pc' := 5) rfl f_AL_63 ha rfl ?_
  refine g_iconst ok (dk m_AL_clear 3 rfl) (pc' := 6) rfl (v := 1) (by decide) ?_
  refine g_iadd ok (dk m_AL_clear 4 rfl) (pc' := 7) rfl ?_
  refine g_put ok (dk m_AL_clear 5 rfl) (pc' := 10) rfl f_AL_63 (Or.inl rfl) ha (Nat.le_of_ble_eq_true rfl) rfl rfl ?_
  refine g_gen (fun h1 e1 => ?_)
  have ha1 : h1 a = some (.inl (3, [.ref b, .int (nI cnt), .int (mv + 1)])) := by rw [e1, q_up_s]; rfl
  have hb1 : h1 b = some (q_ra n f) := by rw [e1, q_up_n (q_oa ha hb).symm]; exact hb
  have k1 := q_kp.up (q_kp.rf (h := h) (X := fun y => y = a ∨ y = b)) (Or.inl rfl) e1
  clear e1
  refine g_aload_n ok (dk m_AL_clear 6 rfl) (pc' := 11) rfl (i := 0) rfl rfl ?_
  refine g_get ok (dk m_AL_clear 7 rfl) (pc' := 14) rfl f_AL_9 ha1 rfl ?_
  refine g_astore_n ok (dk m_AL_clear 8 rfl) (pc' := 15) rfl (i := 1) rfl (Nat.le_of_ble_eq_true rfl) rfl ?_
  refine g_aload_n ok (dk m_AL_clear 9 rfl) (pc' := 16) rfl (i := 0) rfl rfl ?_
  refine g_get ok (dk m_AL_clear 10 rfl) (pc' := 19) rfl f_AL_48 ha1 rfl ?_
  refine g_istore_n ok (dk m_AL_clear 11 rfl) (pc' := 20) rfl (i := 2) rfl (Nat.le_of_ble_eq_true rfl) rfl ?_
  refine g_aload_n ok (dk m_AL_clear 12 rfl) (pc' := 21) rfl (i := 0) rfl rfl ?_
  refine g_iconst ok (dk m_AL_clear 13 rfl) (pc' := 22) rfl (v := 0) (by decide) ?_
  refine g_dup_x1 ok (dk m_AL_clear 14 rfl) (pc' := 23) rfl rfl rfl ?_
  refine g_put ok (dk m_AL_clear 15 rfl) (pc' := 26) rfl f_AL_48 (Or.inl rfl) ha1 (Nat.le_of_ble_eq_true rfl) rfl rfl ?_
  refine g_gen (fun h2 e2 => ?_)
  have ha2 : h2 a = some (.inl (3, [.ref b, .int (nI 0), .int (mv + 1)])) := by rw [e2, q_up_s]; rfl
  have hb2 : h2 b = some (q_ra n f) := by rw [e2, q_up_n (q_oa ha1 hb1).symm]; exact hb1
  have k2 := q_kp.up k1 (Or.inl rfl) e2
  clear e2
  refine g_istore_n ok (dk m_AL_clear 16 rfl) (pc' := 27) rfl (i := 3) rfl (Nat.le_of_ble_eq_true rfl) rfl ?_
  exact loop cnt 0 (by omega) _ _ ha2 hb2 k2
end
section
/-! ===== the group: one view of all of it. D: where things lie; w: whose each cell is; ob: the lists' arrays ===== -/
abbrev k_T : Type := Nat × (Nat → Int32)
abbrev p_T : Type := Nat × Nat × Int32 × Int32
abbrev G_T : Type := s_T × (Nat → Int32) × (Nat → m_T) × (Nat → k_T) × (Nat → p_T) × (Nat → e_T) × (Nat → Nat)
abbrev a_T : Type := (Nat → Nat → Nat) × (Nat → Nat) × (Nat → Nat) × (Nat → Nat → Nat)
abbrev mA (D : a_T) : Nat → Nat := D.1 3
abbrev pA (D : a_T) : Nat → Nat := D.2.1
abbrev qA (D : a_T) : Nat → Nat := D.2.2.1
abbrev eA (D : a_T) : Nat → Nat := fun i => D.2.2.2 i 0
abbrev gS (G : G_T) : s_T := G.1
abbrev gH (G : G_T) : Nat → Int32 := G.2.1
abbrev gM (G : G_T) : Nat → m_T := G.2.2.1
abbrev gK (G : G_T) : Nat → k_T := G.2.2.2.1
abbrev gQ (G : G_T) : Nat → p_T := G.2.2.2.2.1
abbrev gE (G : G_T) : Nat → e_T := G.2.2.2.2.2.1
abbrev gN (G : G_T) : Nat → Nat := G.2.2.2.2.2.2
abbrev np (G : G_T) : Nat := gN G 0
abbrev nq (G : G_T) : Nat := gN G 1
abbrev ne (G : G_T) : Nat := gN G 2
abbrev sS (G : G_T) (S : s_T) : G_T := (S, G.2)
abbrev sH (G : G_T) (f : Nat → Int32) : G_T := (G.1, f, G.2.2)
abbrev sM (G : G_T) (i : Nat) (M : m_T) : G_T := (G.1, G.2.1, va_up (gM G) i M, G.2.2.2)
abbrev sK (G : G_T) (i : Nat) (K : k_T) : G_T := (G.1, G.2.1, G.2.2.1, va_up (gK G) i K, G.2.2.2.2)
abbrev sQ (G : G_T) (i : Nat) (Q : p_T) : G_T := (G.1, G.2.1, G.2.2.1, G.2.2.2.1, va_up (gQ G) i Q, G.2.2.2.2.2)
abbrev sE (G : G_T) (i : Nat) (E : e_T) : G_T := (G.1, G.2.1, G.2.2.1, G.2.2.2.1, G.2.2.2.2.1, va_up (gE G) i E, G.2.2.2.2.2.2)
abbrev sN (G : G_T) (k v : Nat) : G_T := (G.1, G.2.1, G.2.2.1, G.2.2.2.1, G.2.2.2.2.1, G.2.2.2.2.2.1, va_up (gN G) k v)
abbrev k_fs (m : Nat) (K : Nat → Int32) : List Value := [.ref m, .int (K 0), .int (K 1), .int (K 2), .int (K 3), .int (K 4)]
def q_pr (h : q_H) (a : Nat) (pk : Nat → Nat) (n : Nat) (p : p_T) : Prop := (p.1 = 0 ∧ p.2.1 < n ∧ h a = some (.inl (8, [.ref (pk p.2.1)]))) ∨ (p.1 = 1 ∧ h a = some (.inl (9, [.int p.2.2.1]))) ∨ (p.1 = 2 ∧ h a = some (.inl (10, [.int p.2.2.1, .int p.2.2.2])))
abbrev q_me (h : q_H) (D : a_T) (i : Nat) (M : m_T) : Prop := q_mem h (mA D i) (fun j => D.1 (4 + j) i) (fun j => D.1 (6 + j) i) M
abbrev A_me (D : a_T) (i : Nat) : Nat → Prop := m_A (mA D i) (fun j => D.1 (4 + j) i) (fun j => D.1 (6 + j) i)
abbrev q_ee (h : q_H) (D : a_T) (i : Nat) (E : e_T) : Prop := q_ep h (eA D i) (D.2.2.2 i 1) (D.2.2.2 i 2) (D.2.2.2 i 3) (fun j => D.2.2.2 i (4 + j)) (fun j => D.2.2.2 i (8 + j)) E
abbrev A_ee (D : a_T) (i : Nat) : Nat → Prop := ep_A (eA D i) (D.2.2.2 i 1) (D.2.2.2 i 2) (D.2.2.2 i 3) (fun j => D.2.2.2 i (4 + j)) (fun j => D.2.2.2 i (8 + j))
abbrev r_fs (D : a_T) (l : Nat) : List Value := [.ref (D.1 0 0), .ref (D.1 0 1), .ref (D.1 0 2), .ref (D.1 0 3), .ref (D.1 0 4), .ref (D.1 0 5), .ref l]
def q_RG (g : q_G) (h : q_H) (r : Nat) (w : Nat → Nat) (D : a_T) (ob : Nat → Option Nat) (G : G_T) : Prop :=
  (h r = some (.inl (0, r_fs D (eA D (ne G - 1)))) ∧ w r = 6) ∧
  (q_sec h (D.1 0 0) (D.1 1) (D.1 2) (gS G) ∧ ∀ y, s_A (D.1 0 0) (D.1 1) (D.1 2) y → w y = 1) ∧
  ((h (D.1 0 5) = some (.inl (2, [.ref (D.1 0 6)])) ∧ h (D.1 0 6) = some (.inr (0, 172, .inl (gH G)))) ∧ w (D.1 0 5) = 2 ∧ w (D.1 0 6) = 2) ∧
  (q_lst g h (D.1 0 1) (ob 1) 16 (mA D) ∧ q_lst g h (D.1 0 2) (ob 2) (np G) (pA D) ∧ q_lst g h (D.1 0 3) (ob 3) (nq G) (qA D) ∧ q_lst g h (D.1 0 4) (ob 4) (ne G) (eA D)) ∧
  (∀ k, 1 ≤ k → k ≤ 4 → w (D.1 0 k) = 10 + k ∧ ∀ b, ob k = some b → w b = 10 + k) ∧
  (∀ i, i < 16 → q_me h D i (gM G i) ∧ ∀ y, A_me D i y → w y = 100 + i) ∧
  (∀ i, i < np G → h (pA D i) = some (.inl (7, k_fs (mA D (gK G i).1) (gK G i).2)) ∧ (gK G i).1 < 16 ∧ w (pA D i) = 200 + i) ∧
  (∀ i, i < nq G → q_pr h (qA D i) (pA D) (np G) (gQ G i) ∧ w (qA D i) = 5) ∧
  ((∀ i, i < ne G → q_ee h D i (gE G i) ∧ ∀ y, A_ee D i y → w y = 1000 + i) ∧ 1 ≤ ne G)
theorem q_pr.kp {h h' : q_H} {a : Nat} {pk : Nat → Nat} {n : Nat} {p : p_T} {X : Nat → Prop} (hp : q_pr h a pk n p) (hk : q_kp h h' X) (ha : ¬ X a) : q_pr h' a pk n p := by
  rcases hp with ⟨h1, h2, h3⟩ | ⟨h1, h3⟩ | ⟨h1, h3⟩
  · exact Or.inl ⟨h1, h2, hk _ _ h3 ha⟩
  · exact Or.inr (Or.inl ⟨h1, hk _ _ h3 ha⟩)
  · exact Or.inr (Or.inr ⟨h1, hk _ _ h3 ha⟩)
section
variable {g : q_G} {h h' : q_H} {r : Nat} {w : Nat → Nat} {D : a_T} {ob : Nat → Option Nat} {G : G_T}
theorem q_RG.fr (H : q_RG g h r w D ob G) : h r = some (.inl (0, r_fs D (eA D (ne G - 1)))) := H.1.1
theorem q_RG.sec (H : q_RG g h r w D ob G) : q_sec h (D.1 0 0) (D.1 1) (D.1 2) (gS G) := H.2.1.1
theorem q_RG.hr (H : q_RG g h r w D ob G) : h (D.1 0 5) = some (.inl (2, [.ref (D.1 0 6)])) := H.2.2.1.1.1
theorem q_RG.hc (H : q_RG g h r w D ob G) : h (D.1 0 6) = some (.inr (0, 172, .inl (gH G))) := H.2.2.1.1.2
theorem q_RG.lm (H : q_RG g h r w D ob G) : q_lst g h (D.1 0 1) (ob 1) 16 (mA D) := H.2.2.2.1.1
theorem q_RG.lp (H : q_RG g h r w D ob G) : q_lst g h (D.1 0 2) (ob 2) (np G) (pA D) := H.2.2.2.1.2.1
theorem q_RG.lq (H : q_RG g h r w D ob G) : q_lst g h (D.1 0 3) (ob 3) (nq G) (qA D) := H.2.2.2.1.2.2.1
theorem q_RG.le (H : q_RG g h r w D ob G) : q_lst g h (D.1 0 4) (ob 4) (ne G) (eA D) := H.2.2.2.1.2.2.2
theorem q_RG.mem (H : q_RG g h r w D ob G) {i : Nat} (hi : i < 16) : q_me h D i (gM G i) := (H.2.2.2.2.2.1 i hi).1
theorem q_RG.memT (H : q_RG g h r w D ob G) {i : Nat} (hi : i < 16) : ∀ y, A_me D i y → w y = 100 + i := (H.2.2.2.2.2.1 i hi).2
theorem q_RG.pk (H : q_RG g h r w D ob G) {i : Nat} (hi : i < np G) : h (pA D i) = some (.inl (7, k_fs (mA D (gK G i).1) (gK G i).2)) := (H.2.2.2.2.2.2.1 i hi).1
theorem q_RG.own (H : q_RG g h r w D ob G) {i : Nat} (hi : i < np G) : (gK G i).1 < 16 := (H.2.2.2.2.2.2.1 i hi).2.1
theorem q_RG.pkT (H : q_RG g h r w D ob G) {i : Nat} (hi : i < np G) : w (pA D i) = 200 + i := (H.2.2.2.2.2.2.1 i hi).2.2
theorem q_RG.pr (H : q_RG g h r w D ob G) {i : Nat} (hi : i < nq G) : q_pr h (qA D i) (pA D) (np G) (gQ G i) := (H.2.2.2.2.2.2.2.1 i hi).1
theorem q_RG.prT (H : q_RG g h r w D ob G) {i : Nat} (hi : i < nq G) : w (qA D i) = 5 := (H.2.2.2.2.2.2.2.1 i hi).2
theorem q_RG.ep (H : q_RG g h r w D ob G) {i : Nat} (hi : i < ne G) : q_ee h D i (gE G i) := (H.2.2.2.2.2.2.2.2.1 i hi).1
theorem q_RG.epT (H : q_RG g h r w D ob G) {i : Nat} (hi : i < ne G) : ∀ y, A_ee D i y → w y = 1000 + i := (H.2.2.2.2.2.2.2.2.1 i hi).2
theorem q_RG.n1 (H : q_RG g h r w D ob G) : 1 ≤ ne G := H.2.2.2.2.2.2.2.2.2
theorem q_RG.secT (H : q_RG g h r w D ob G) : ∀ y, s_A (D.1 0 0) (D.1 1) (D.1 2) y → w y = 1 := H.2.1.2
theorem q_RG.ls (H : q_RG g h r w D ob G) {k : Nat} (h1 : 1 ≤ k) (h4 : k ≤ 4) : w (D.1 0 k) = 10 + k ∧ ∀ b, ob k = some b → w b = 10 + k := H.2.2.2.2.1 k h1 h4
theorem q_RG.keep (H : q_RG g h r w D ob G) (hk : q_kp h h' (fun y => w y = 7 ∨ w y = 0)) : q_RG g h' r w D ob (G) :=
  ⟨⟨hk _ _ H.fr (fun z => by have q := H.1.2; omega), H.1.2⟩,
   ⟨H.sec.kp hk (fun y hy z => by have q := H.secT y hy; omega), H.secT⟩,
   ⟨⟨hk _ _ H.hr (fun z => by have q := H.2.2.1.2.1; omega), hk _ _ H.hc (fun z => by have q := H.2.2.1.2.2; omega)⟩, H.2.2.1.2⟩,
   ⟨H.lm.kp hk (fun z => by have q := (H.ls (k := 1) (by decide) (by decide)).1; omega) (fun b hb z => by have q := (H.ls (k := 1) (by decide) (by decide)).2 b hb; omega), H.lp.kp hk (fun z => by have q := (H.ls (k := 2) (by decide) (by decide)).1; omega) (fun b hb z => by have q := (H.ls (k := 2) (by decide) (by decide)).2 b hb; omega), H.lq.kp hk (fun z => by have q := (H.ls (k := 3) (by decide) (by decide)).1; omega) (fun b hb z => by have q := (H.ls (k := 3) (by decide) (by decide)).2 b hb; omega), H.le.kp hk (fun z => by have q := (H.ls (k := 4) (by decide) (by decide)).1; omega) (fun b hb z => by have q := (H.ls (k := 4) (by decide) (by decide)).2 b hb; omega)⟩,
   H.2.2.2.2.1,
   fun j hj => ⟨(H.mem hj).kp hk (fun y hy z => by have q := H.memT hj y hy; omega), H.memT hj⟩,
   fun j hj => ⟨hk _ _ (H.pk hj) (fun z => by have q := H.pkT hj; omega), H.own hj, H.pkT hj⟩,
   fun j hj => ⟨(H.pr hj).kp hk (fun z => by have q := H.prT hj; omega), H.prT hj⟩,
   ⟨fun j hj => ⟨(H.ep hj).kp hk (fun y hy z => by have q := H.epT hj y hy; omega), H.epT hj⟩, H.n1⟩⟩
theorem q_RG.upS (H : q_RG g h r w D ob G) {S : s_T} (hs : q_sec h' (D.1 0 0) (D.1 1) (D.1 2) S) (hk : q_kp h h' (fun y => w y = 1)) : q_RG g h' r w D ob (sS G S) :=
  ⟨⟨hk _ _ H.fr (fun z => by have q := H.1.2; omega), H.1.2⟩,
   ⟨hs, H.secT⟩,
   ⟨⟨hk _ _ H.hr (fun z => by have q := H.2.2.1.2.1; omega), hk _ _ H.hc (fun z => by have q := H.2.2.1.2.2; omega)⟩, H.2.2.1.2⟩,
   ⟨H.lm.kp hk (fun z => by have q := (H.ls (k := 1) (by decide) (by decide)).1; omega) (fun b hb z => by have q := (H.ls (k := 1) (by decide) (by decide)).2 b hb; omega), H.lp.kp hk (fun z => by have q := (H.ls (k := 2) (by decide) (by decide)).1; omega) (fun b hb z => by have q := (H.ls (k := 2) (by decide) (by decide)).2 b hb; omega), H.lq.kp hk (fun z => by have q := (H.ls (k := 3) (by decide) (by decide)).1; omega) (fun b hb z => by have q := (H.ls (k := 3) (by decide) (by decide)).2 b hb; omega), H.le.kp hk (fun z => by have q := (H.ls (k := 4) (by decide) (by decide)).1; omega) (fun b hb z => by have q := (H.ls (k := 4) (by decide) (by decide)).2 b hb; omega)⟩,
   H.2.2.2.2.1,
   fun j hj => ⟨(H.mem hj).kp hk (fun y hy z => by have q := H.memT hj y hy; omega), H.memT hj⟩,
   fun j hj => ⟨hk _ _ (H.pk hj) (fun z => by have q := H.pkT hj; omega), H.own hj, H.pkT hj⟩,
   fun j hj => ⟨(H.pr hj).kp hk (fun z => by have q := H.prT hj; omega), H.prT hj⟩,
   ⟨fun j hj => ⟨(H.ep hj).kp hk (fun y hy z => by have q := H.epT hj y hy; omega), H.epT hj⟩, H.n1⟩⟩
theorem q_RG.upH (H : q_RG g h r w D ob G) {f : Nat → Int32} (hf : h' (D.1 0 6) = some (.inr (0, 172, .inl f))) (hk : q_kp h h' (fun y => y = D.1 0 6)) : q_RG g h' r w D ob (sH G f) :=
  ⟨⟨hk _ _ H.fr (fun z => by have q := H.1.2; have q2 := H.2.2.1.2.2; rw [z] at q; omega), H.1.2⟩,
   ⟨H.sec.kp hk (fun y hy z => by have q := H.secT y hy; have q2 := H.2.2.1.2.2; rw [z] at q; omega), H.secT⟩,
   ⟨⟨hk _ _ H.hr (q_oa H.hr H.hc), hf⟩, H.2.2.1.2⟩,
   ⟨H.lm.kp hk (fun z => by have q := (H.ls (k := 1) (by decide) (by decide)).1; have q2 := H.2.2.1.2.2; rw [z] at q; omega) (fun b hb z => by have q := (H.ls (k := 1) (by decide) (by decide)).2 b hb; have q2 := H.2.2.1.2.2; rw [z] at q; omega), H.lp.kp hk (fun z => by have q := (H.ls (k := 2) (by decide) (by decide)).1; have q2 := H.2.2.1.2.2; rw [z] at q; omega) (fun b hb z => by have q := (H.ls (k := 2) (by decide) (by decide)).2 b hb; have q2 := H.2.2.1.2.2; rw [z] at q; omega), H.lq.kp hk (fun z => by have q := (H.ls (k := 3) (by decide) (by decide)).1; have q2 := H.2.2.1.2.2; rw [z] at q; omega) (fun b hb z => by have q := (H.ls (k := 3) (by decide) (by decide)).2 b hb; have q2 := H.2.2.1.2.2; rw [z] at q; omega), H.le.kp hk (fun z => by have q := (H.ls (k := 4) (by decide) (by decide)).1; have q2 := H.2.2.1.2.2; rw [z] at q; omega) (fun b hb z => by have q := (H.ls (k := 4) (by decide) (by decide)).2 b hb; have q2 := H.2.2.1.2.2; rw [z] at q; omega)⟩,
   H.2.2.2.2.1,
   fun j hj => ⟨(H.mem hj).kp hk (fun y hy z => by have q := H.memT hj y hy; have q2 := H.2.2.1.2.2; rw [z] at q; omega), H.memT hj⟩,
   fun j hj => ⟨hk _ _ (H.pk hj) (fun z => by have q := H.pkT hj; have q2 := H.2.2.1.2.2; rw [z] at q; omega), H.own hj, H.pkT hj⟩,
   fun j hj => ⟨(H.pr hj).kp hk (fun z => by have q := H.prT hj; have q2 := H.2.2.1.2.2; rw [z] at q; omega), H.prT hj⟩,
   ⟨fun j hj => ⟨(H.ep hj).kp hk (fun y hy z => by have q := H.epT hj y hy; have q2 := H.2.2.1.2.2; rw [z] at q; omega), H.epT hj⟩, H.n1⟩⟩
theorem q_RG.upM (H : q_RG g h r w D ob G) {i : Nat} (hi : i < 16) {M : m_T} (hm : q_me h' D i M) (hk : q_kp h h' (fun y => w y = 100 + i)) : q_RG g h' r w D ob (sM G i M) :=
  ⟨⟨hk _ _ H.fr (fun z => by have q := H.1.2; omega), H.1.2⟩,
   ⟨H.sec.kp hk (fun y hy z => by have q := H.secT y hy; omega), H.secT⟩,
   ⟨⟨hk _ _ H.hr (fun z => by have q := H.2.2.1.2.1; omega), hk _ _ H.hc (fun z => by have q := H.2.2.1.2.2; omega)⟩, H.2.2.1.2⟩,
   ⟨H.lm.kp hk (fun z => by have q := (H.ls (k := 1) (by decide) (by decide)).1; omega) (fun b hb z => by have q := (H.ls (k := 1) (by decide) (by decide)).2 b hb; omega), H.lp.kp hk (fun z => by have q := (H.ls (k := 2) (by decide) (by decide)).1; omega) (fun b hb z => by have q := (H.ls (k := 2) (by decide) (by decide)).2 b hb; omega), H.lq.kp hk (fun z => by have q := (H.ls (k := 3) (by decide) (by decide)).1; omega) (fun b hb z => by have q := (H.ls (k := 3) (by decide) (by decide)).2 b hb; omega), H.le.kp hk (fun z => by have q := (H.ls (k := 4) (by decide) (by decide)).1; omega) (fun b hb z => by have q := (H.ls (k := 4) (by decide) (by decide)).2 b hb; omega)⟩,
   H.2.2.2.2.1,
   fun j hj => by
    by_cases e : j = i
    · subst e
      exact ⟨by rw [show gM (sM G j M) j = M from if_pos rfl]; exact hm, H.memT hj⟩
    · exact ⟨by rw [show gM (sM G i M) j = gM G j from if_neg e]; exact (H.mem hj).kp hk (fun y hy z => by have q := H.memT hj y hy; omega), H.memT hj⟩,
   fun j hj => ⟨hk _ _ (H.pk hj) (fun z => by have q := H.pkT hj; omega), H.own hj, H.pkT hj⟩,
   fun j hj => ⟨(H.pr hj).kp hk (fun z => by have q := H.prT hj; omega), H.prT hj⟩,
   ⟨fun j hj => ⟨(H.ep hj).kp hk (fun y hy z => by have q := H.epT hj y hy; omega), H.epT hj⟩, H.n1⟩⟩
theorem q_RG.upK (H : q_RG g h r w D ob G) {i : Nat} (hi : i < np G) (hn : np G ≤ 60) {K : Nat → Int32} (hm : h' (pA D i) = some (.inl (7, k_fs (mA D (gK G i).1) K))) (hk : q_kp h h' (fun y => w y = 200 + i)) : q_RG g h' r w D ob (sK G i ((gK G i).1, K)) :=
  ⟨⟨hk _ _ H.fr (fun z => by have q := H.1.2; omega), H.1.2⟩,
   ⟨H.sec.kp hk (fun y hy z => by have q := H.secT y hy; omega), H.secT⟩,
   ⟨⟨hk _ _ H.hr (fun z => by have q := H.2.2.1.2.1; omega), hk _ _ H.hc (fun z => by have q := H.2.2.1.2.2; omega)⟩, H.2.2.1.2⟩,
   ⟨H.lm.kp hk (fun z => by have q := (H.ls (k := 1) (by decide) (by decide)).1; omega) (fun b hb z => by have q := (H.ls (k := 1) (by decide) (by decide)).2 b hb; omega), H.lp.kp hk (fun z => by have q := (H.ls (k := 2) (by decide) (by decide)).1; omega) (fun b hb z => by have q := (H.ls (k := 2) (by decide) (by decide)).2 b hb; omega), H.lq.kp hk (fun z => by have q := (H.ls (k := 3) (by decide) (by decide)).1; omega) (fun b hb z => by have q := (H.ls (k := 3) (by decide) (by decide)).2 b hb; omega), H.le.kp hk (fun z => by have q := (H.ls (k := 4) (by decide) (by decide)).1; omega) (fun b hb z => by have q := (H.ls (k := 4) (by decide) (by decide)).2 b hb; omega)⟩,
   H.2.2.2.2.1,
   fun j hj => ⟨(H.mem hj).kp hk (fun y hy z => by have q := H.memT hj y hy; omega), H.memT hj⟩,
   fun j hj => by
    by_cases e : j = i
    · subst e
      rw [show gK (sK G j ((gK G j).1, K)) j = ((gK G j).1, K) from if_pos rfl]
      exact ⟨hm, H.own hj, H.pkT hj⟩
    · rw [show gK (sK G i ((gK G i).1, K)) j = gK G j from if_neg e]
      exact ⟨hk _ _ (H.pk hj) (fun z => by have q := H.pkT hj; omega), H.own hj, H.pkT hj⟩,
   fun j hj => ⟨(H.pr hj).kp hk (fun z => by have q := H.prT hj; omega), H.prT hj⟩,
   ⟨fun j hj => ⟨(H.ep hj).kp hk (fun y hy z => by have q := H.epT hj y hy; omega), H.epT hj⟩, H.n1⟩⟩
end
theorem m_P_A {m : Nat} {ma mb : Nat → Nat} {y : Nat} (h : m_P m mb y) : m_A m ma mb y := by
  rcases h with h | ⟨i, hi, h⟩
  · exact Or.inl h
  · exact Or.inr ⟨i, hi, Or.inr h⟩
theorem s_P_A {s : Nat} {sa sb : Nat → Nat} {y : Nat} (h : s_P s sb y) : s_A s sa sb y := by
  rcases h with h | ⟨i, hi, h⟩
  · exact Or.inl h
  · exact Or.inr ⟨i, hi, Or.inr h⟩
theorem tr_P_A {s : Nat} {sa sb : Nat → Nat} {y : Nat} (h : tr_P s sb y) : tr_A s sa sb y := by
  rcases h with h | ⟨i, hi, h⟩
  · exact Or.inl h
  · exact Or.inr ⟨i, hi, Or.inr h⟩
theorem ep_P_A {e t pr pb : Nat} {ra rb : Nat → Nat} {y : Nat} (h : ep_P e t pb rb y) : ep_A e t pr pb ra rb y := by
  rcases h with h | h | h | ⟨i, hi, h⟩
  · exact Or.inl h
  · exact Or.inr (Or.inr (Or.inr (Or.inl h)))
  · exact Or.inr (Or.inl h)
  · exact Or.inr (Or.inr (Or.inr (Or.inr ⟨i, hi, Or.inr h⟩)))
/-- what the numbers of a group keep to -/
def G_w (G : G_T) : Prop := np G ≤ 60 ∧ nq G ≤ 20 ∧ ne G ≤ 60 ∧ ∀ i, i < ne G → (gE G i).2.1.2 ≤ 4
end
section
/-! ===== the group: what only reads ===== -/
theorem g_ldcw {g : q_G} {Z : q_Z} {A : Nat → Prop} {post : q_R → q_H → Prop} {rc rs : Nat} {h : q_H} {pc pc' : Nat} {ls : List (Option Value)} {st : List Value} {own name : String} {cc : ByteArray} {nL d : Nat} {ret : Option FieldType} (ok : q_ok g Z A own name cc nL ret d) {index : Nat} {v : Int32} (hd : decode cc pc = .ok (.ldc_w index, 3)) (hp : pc + 3 = pc') (hw : Cond.constant own index v ∈ q_T) (kk : GW g Z A post rc rs h pc' ls (.int v :: st)) : GW g Z A post rc rs h pc ls st := by
  obtain ⟨hx, hb, hml, hown, hts, -⟩ := ok
  subst hp
  exact fun H locs la n k hH hD hS hL hn hk => lv_ldcw hx hb hown (hts _ hw) hd (kk H locs la n k hH hD hS hL hn hk)
theorem xc_4 : Cond.castable "RatchetGroup$Member" "RatchetGroup$Member" ∈ q_X := q_X_in 1275 (by decide +kernel) rfl
theorem xo_4 : Cond.castable "RatchetGroup$Member" "java/lang/Object" ∈ q_X := q_X_in 1287 (by decide +kernel) rfl
theorem ty_4 : q_Ty 4 "RatchetGroup$Member" := ⟨_, _, rfl⟩
theorem xc_5 : Cond.castable "RatchetGroup$Epoch" "RatchetGroup$Epoch" ∈ q_X := q_X_in 1276 (by decide +kernel) rfl
theorem xo_5 : Cond.castable "RatchetGroup$Epoch" "java/lang/Object" ∈ q_X := q_X_in 1288 (by decide +kernel) rfl
theorem ty_5 : q_Ty 5 "RatchetGroup$Epoch" := ⟨_, _, rfl⟩
theorem xc_7 : Cond.castable "RatchetGroup$KeyPackage" "RatchetGroup$KeyPackage" ∈ q_X := q_X_in 1277 (by decide +kernel) rfl
theorem xo_7 : Cond.castable "RatchetGroup$KeyPackage" "java/lang/Object" ∈ q_X := q_X_in 1291 (by decide +kernel) rfl
theorem ty_7 : q_Ty 7 "RatchetGroup$KeyPackage" := ⟨_, _, rfl⟩
theorem xc_9 : Cond.castable "RatchetGroup$Removal" "RatchetGroup$Removal" ∈ q_X := q_X_in 1278 (by decide +kernel) rfl
theorem xo_9 : Cond.castable "RatchetGroup$Removal" "java/lang/Object" ∈ q_X := q_X_in 1293 (by decide +kernel) rfl
theorem ty_9 : q_Ty 9 "RatchetGroup$Removal" := ⟨_, _, rfl⟩
theorem xc_10 : Cond.castable "RatchetGroup$Renewal" "RatchetGroup$Renewal" ∈ q_X := q_X_in 1279 (by decide +kernel) rfl
theorem xo_10 : Cond.castable "RatchetGroup$Renewal" "java/lang/Object" ∈ q_X := q_X_in 1294 (by decide +kernel) rfl
theorem ty_10 : q_Ty 10 "RatchetGroup$Renewal" := ⟨_, _, rfl⟩
theorem xc_8 : Cond.castable "RatchetGroup$Addition" "RatchetGroup$Addition" ∈ q_X := q_X_in 1280 (by decide +kernel) rfl
theorem xo_8 : Cond.castable "RatchetGroup$Addition" "java/lang/Object" ∈ q_X := q_X_in 1292 (by decide +kernel) rfl
theorem ty_8 : q_Ty 8 "RatchetGroup$Addition" := ⟨_, _, rfl⟩
def ix (i : Int32) : Nat := i.toNatClampNeg
theorem ix_nI {j : Nat} (hj : j < 2 ^ 31) : ix (nI j) = j := by
  have h := r_get_in (n := j + 1) (f := fun k => nI k) (Nat.lt_succ_self j)
  unfold ix nI
  rw [Int32.toNatClampNeg_ofNat_of_lt hj]
theorem sw_out4 {x : Int32} (h0 : ¬ x = 0) (h1 : ¬ x = 1) (h2 : ¬ x = 2) (h3 : ¬ x = 3) : x.toInt < 0 ∨ 3 < x.toInt := by
  rcases Int.lt_or_le x.toInt 0 with q | q
  · exact Or.inl q
  · rcases Int.lt_or_le 3 x.toInt with q2 | q2
    · exact Or.inr q2
    · exfalso
      rcases (show x.toInt = 0 ∨ x.toInt = 1 ∨ x.toInt = 2 ∨ x.toInt = 3 by omega) with e | e | e | e
      · exact h0 (Int32.toInt_inj.mp e)
      · exact h1 (Int32.toInt_inj.mp e)
      · exact h2 (Int32.toInt_inj.mp e)
      · exact h3 (Int32.toInt_inj.mp e)
theorem sw_out7 {x : Int32} (h0 : ¬ x = 0) (h1 : ¬ x = 1) (h2 : ¬ x = 2) (h3 : ¬ x = 3) (h4 : ¬ x = 4) (h5 : ¬ x = 5) (h6 : ¬ x = 6) : x.toInt < 0 ∨ 6 < x.toInt := by
  rcases Int.lt_or_le x.toInt 0 with q | q
  · exact Or.inl q
  · rcases Int.lt_or_le 6 x.toInt with q2 | q2
    · exact Or.inr q2
    · exfalso
      rcases (show x.toInt = 0 ∨ x.toInt = 1 ∨ x.toInt = 2 ∨ x.toInt = 3 ∨ x.toInt = 4 ∨ x.toInt = 5 ∨ x.toInt = 6 by omega) with e | e | e | e | e | e | e
      · exact h0 (Int32.toInt_inj.mp e)
      · exact h1 (Int32.toInt_inj.mp e)
      · exact h2 (Int32.toInt_inj.mp e)
      · exact h3 (Int32.toInt_inj.mp e)
      · exact h4 (Int32.toInt_inj.mp e)
      · exact h5 (Int32.toInt_inj.mp e)
      · exact h6 (Int32.toInt_inj.mp e)
def j_bc1 (x : Int32) : Int32 := x - (j_ushr x 1 &&& 1431655765)
def j_bc2 (x : Int32) : Int32 := (x &&& 858993459) + (j_ushr x 2 &&& 858993459)
def j_bc3 (x : Int32) : Int32 := (x + j_ushr x 4) &&& 252645135
def j_bc (x : Int32) : Int32 := (j_bc3 (j_bc2 (j_bc1 x)) + j_ushr (j_bc3 (j_bc2 (j_bc1 x))) 8 + j_ushr (j_bc3 (j_bc2 (j_bc1 x)) + j_ushr (j_bc3 (j_bc2 (j_bc1 x))) 8) 16) &&& 63
set_option maxHeartbeats 1000000 in
theorem c_Int_bitCount (g : q_G) {h : q_H} (x : Int32) (d : Nat) : MG g y_Int_bitCount b_Int_bitCount 1 (some .int) d 0 0 [.int x] h (fun q h' => q = .inl (some (.int (j_bc x))) ∧ h' = h) := by
  refine MG.of (by decide +kernel) (by simp [Value.category]) (Nat.le_of_ble_eq_true rfl) ?_
  intro Z A ok
  refine g_iload_n ok (dk m_Int_bitCount 0 rfl) (pc' := 1) rfl (i := 0) rfl rfl ?_
  refine g_iload_n ok (dk m_Int_bitCount 1 rfl) (pc' := 2) rfl (i := 0) rfl rfl ?_
  refine g_iconst ok (dk m_Int_bitCount 2 rfl) (pc' := 3) rfl (v := 1) (by decide) ?_
  refine g_iushr ok (dk m_Int_bitCount 3 rfl) (pc' := 4) rfl rfl ?_
  refine g_ldcw ok (dk m_Int_bitCount 4 rfl) (pc' := 7) rfl (v := 1431655765) (q_T_in 454 (by decide +kernel) rfl) ?_
  refine g_iand ok (dk m_Int_bitCount 5 rfl) (pc' := 8) rfl ?_
  refine g_isub ok (dk m_Int_bitCount 6 rfl) (pc' := 9) rfl ?_
  refine g_istore_n ok (dk m_Int_bitCount 7 rfl) (pc' := 10) rfl (i := 0) rfl (Nat.le_of_ble_eq_true rfl) rfl ?_
  refine g_iload_n ok (dk m_Int_bitCount 8 rfl) (pc' := 11) rfl (i := 0) rfl rfl ?_
  refine g_ldcw ok (dk m_Int_bitCount 9 rfl) (pc' := 14) rfl (v := 858993459) (q_T_in 455 (by decide +kernel) rfl) ?_
  refine g_iand ok (dk m_Int_bitCount 10 rfl) (pc' := 15) rfl ?_
  refine g_iload_n ok (dk m_Int_bitCount 11 rfl) (pc' := 16) rfl (i := 0) rfl rfl ?_
  refine g_iconst ok (dk m_Int_bitCount 12 rfl) (pc' := 17) rfl (v := 2) (by decide) ?_
  refine g_iushr ok (dk m_Int_bitCount 13 rfl) (pc' := 18) rfl rfl ?_
  refine g_ldcw ok (dk m_Int_bitCount 14 rfl) (pc' := 21) rfl (v := 858993459) (q_T_in 455 (by decide +kernel) rfl) ?_
  refine g_iand ok (dk m_Int_bitCount 15 rfl) (pc' := 22) rfl ?_
  refine g_iadd ok (dk m_Int_bitCount 16 rfl) (pc' := 23) rfl ?_
  refine g_istore_n ok (dk m_Int_bitCount 17 rfl) (pc' := 24) rfl (i := 0) rfl (Nat.le_of_ble_eq_true rfl) rfl ?_
  refine g_iload_n ok (dk m_Int_bitCount 18 rfl) (pc' := 25) rfl (i := 0) rfl rfl ?_
  refine g_iload_n ok (dk m_Int_bitCount 19 rfl) (pc' := 26) rfl (i := 0) rfl rfl ?_
  refine g_iconst ok (dk m_Int_bitCount 20 rfl) (pc' := 27) rfl (v := 4) (by decide) ?_
  refine g_iushr ok (dk m_Int_bitCount 21 rfl) (pc' := 28) rfl rfl ?_
  refine g_iadd ok (dk m_Int_bitCount 22 rfl) (pc' := 29) rfl ?_
  refine g_ldcw ok (dk m_Int_bitCount 23 rfl) (pc' := 32) rfl (v := 252645135) (q_T_in 456 (by decide +kernel) rfl) ?_
  refine g_iand ok (dk m_Int_bitCount 24 rfl) (pc' := 33) rfl ?_
  refine g_istore_n ok (dk m_Int_bitCount 25 rfl) (pc' := 34) rfl (i := 0) rfl (Nat.le_of_ble_eq_true rfl) rfl ?_
  refine g_iload_n ok (dk m_Int_bitCount 26 rfl) (pc' := 35) rfl (i := 0) rfl rfl ?_
  refine g_iload_n ok (dk m_Int_bitCount 27 rfl) (pc' := 36) rfl (i := 0) rfl rfl ?_
  refine g_bipush ok (dk m_Int_bitCount 28 rfl) (pc' := 38) rfl (v := 8) (by decide) ?_
  refine g_iushr ok (dk m_Int_bitCount 29 rfl) (pc' := 39) rfl rfl ?_
  refine g_iadd ok (dk m_Int_bitCount 30 rfl) (pc' := 40) rfl ?_
  refine g_istore_n ok (dk m_Int_bitCount 31 rfl) (pc' := 41) rfl (i := 0) rfl (Nat.le_of_ble_eq_true rfl) rfl ?_
  refine g_iload_n ok (dk m_Int_bitCount 32 rfl) (pc' := 42) rfl (i := 0) rfl rfl ?_
  refine g_iload_n ok (dk m_Int_bitCount 33 rfl) (pc' := 43) rfl (i := 0) rfl rfl ?_
  refine g_bipush ok (dk m_Int_bitCount 34 rfl) (pc' := 45) rfl (v := 16) (by decide) ?_
  refine g_iushr ok (dk m_Int_bitCount 35 rfl) (pc' := 46) rfl rfl ?_
  refine g_iadd ok (dk m_Int_bitCount 36 rfl) (pc' := 47) rfl ?_
  refine g_istore_n ok (dk m_Int_bitCount 37 rfl) (pc' := 48) rfl (i := 0) rfl (Nat.le_of_ble_eq_true rfl) rfl ?_
  refine g_iload_n ok (dk m_Int_bitCount 38 rfl) (pc' := 49) rfl (i := 0) rfl rfl ?_
  refine g_bipush ok (dk m_Int_bitCount 39 rfl) (pc' := 51) rfl (v := 63) (by decide) ?_
  refine g_iand ok (dk m_Int_bitCount 40 rfl) (pc' := 52) rfl ?_
  exact g_iret ok (dk m_Int_bitCount 41 rfl) rfl rfl ⟨rfl, rfl⟩
set_option maxHeartbeats 1000000 in
theorem c_RG_isMember (g : q_G) {h : q_H} {r : Nat} {w : Nat → Nat} {D : a_T} {ob : Nat → Option Nat} {G : G_T} (n : Int32) (d : Nat) (hd : 1 ≤ d) (H : q_RG g h r w D ob G) : MG g y_RG_isMember b_RG_isMember 2 (some .boolean) d 0 0 [.ref r, .int n] h (fun q h' => q = .inl (some (.int (b2i (r_in 16 n)))) ∧ h' = h) := by
  obtain ⟨lm0, lm1, hlm⟩ := H.lm.size
  refine MG.of (by decide +kernel) (by simp [Value.category]) (Nat.le_of_ble_eq_true rfl) ?_
  intro Z A ok
  refine g_iload_n ok (dk m_RG_isMember 0 rfl) (pc' := 1) rfl (i := 1) rfl rfl ?_
  refine g_if_lt ok (dk m_RG_isMember 1 rfl) (tgt := 19) (by decide) (pc' := 4) rfl (fun c_1 => ?_) (fun c_1 => ?_)
  · refine g_iconst ok (dk m_RG_isMember 9 rfl) (pc' := 20) rfl (v := 0) (by decide) ?_
    exact g_iret ok (dk m_RG_isMember 10 rfl) rfl rfl ⟨by rw [b2i_f (p := r_in 16 n) (fun z => z.1 c_1)], rfl⟩
  · refine g_iload_n ok (dk m_RG_isMember 2 rfl) (pc' := 5) rfl (i := 1) rfl rfl ?_
    refine g_aload_n ok (dk m_RG_isMember 3 rfl) (pc' := 6) rfl (i := 0) rfl rfl ?_
    refine g_get ok (dk m_RG_isMember 4 rfl) (pc' := 9) rfl f_RG_19 H.fr rfl ?_
    refine g_callV ok (dk m_RG_isMember 5 rfl) (pc' := 12) rfl c_RG_86 (c_AL_size g 0 hlm) hlm rfl rfl (by simp [Value.category]) (by omega) rfl (rc' := 0) (rs' := 0) (by omega) (by omega) (fun rv h' hcc => ?_) (fun i h' hcc => by obtain ⟨e9, -⟩ := hcc; cases e9)
    obtain ⟨e9, e2⟩ := hcc
    have e3 := e2.symm
    subst e3
    cases e9
    refine g_icmp_ge ok (dk m_RG_isMember 6 rfl) (tgt := 19) (by decide) (pc' := 15) rfl (fun c_12 => ?_) (fun c_12 => ?_)
    · refine g_iconst ok (dk m_RG_isMember 9 rfl) (pc' := 20) rfl (v := 0) (by decide) ?_
      exact g_iret ok (dk m_RG_isMember 10 rfl) rfl rfl ⟨by rw [b2i_f (p := r_in 16 n) (fun z => z.2 c_12)], rfl⟩
    · refine g_iconst ok (dk m_RG_isMember 7 rfl) (pc' := 16) rfl (v := 1) (by decide) ?_
      refine g_goto ok (dk m_RG_isMember 8 rfl) (pc' := 20) (by decide) ?_
      exact g_iret ok (dk m_RG_isMember 10 rfl) rfl rfl ⟨by rw [b2i_t (p := r_in 16 n) ⟨c_1, c_12⟩], rfl⟩
set_option maxHeartbeats 1000000 in
theorem c_RG_isEpoch (g : q_G) {h : q_H} {r : Nat} {w : Nat → Nat} {D : a_T} {ob : Nat → Option Nat} {G : G_T} (n : Int32) (d : Nat) (hd : 1 ≤ d) (H : q_RG g h r w D ob G) : MG g y_RG_isEpoch b_RG_isEpoch 2 (some .boolean) d 0 0 [.ref r, .int n] h (fun q h' => q = .inl (some (.int (b2i (r_in (ne G) n)))) ∧ h' = h) := by
  obtain ⟨le0, le1, hle⟩ := H.le.size
  refine MG.of (by decide +kernel) (by simp [Value.category]) (Nat.le_of_ble_eq_true rfl) ?_
  intro Z A ok
  refine g_iload_n ok (dk m_RG_isEpoch 0 rfl) (pc' := 1) rfl (i := 1) rfl rfl ?_
  refine g_if_lt ok (dk m_RG_isEpoch 1 rfl) (tgt := 19) (by decide) (pc' := 4) rfl (fun c_1 => ?_) (fun c_1 => ?_)
  · refine g_iconst ok (dk m_RG_isEpoch 9 rfl) (pc' := 20) rfl (v := 0) (by decide) ?_
    exact g_iret ok (dk m_RG_isEpoch 10 rfl) rfl rfl ⟨by rw [b2i_f (p := r_in (ne G) n) (fun z => z.1 c_1)], rfl⟩
  · refine g_iload_n ok (dk m_RG_isEpoch 2 rfl) (pc' := 5) rfl (i := 1) rfl rfl ?_
    refine g_aload_n ok (dk m_RG_isEpoch 3 rfl) (pc' := 6) rfl (i := 0) rfl rfl ?_
    refine g_get ok (dk m_RG_isEpoch 4 rfl) (pc' := 9) rfl f_RG_29 H.fr rfl ?_
    refine g_callV ok (dk m_RG_isEpoch 5 rfl) (pc' := 12) rfl c_RG_86 (c_AL_size g 0 hle) hle rfl rfl (by simp [Value.category]) (by omega) rfl (rc' := 0) (rs' := 0) (by omega) (by omega) (fun rv h' hcc => ?_) (fun i h' hcc => by obtain ⟨e9, -⟩ := hcc; cases e9)
    obtain ⟨e9, e2⟩ := hcc
    have e3 := e2.symm
    subst e3
    cases e9
    refine g_icmp_ge ok (dk m_RG_isEpoch 6 rfl) (tgt := 19) (by decide) (pc' := 15) rfl (fun c_12 => ?_) (fun c_12 => ?_)
    · refine g_iconst ok (dk m_RG_isEpoch 9 rfl) (pc' := 20) rfl (v := 0) (by decide) ?_
      exact g_iret ok (dk m_RG_isEpoch 10 rfl) rfl rfl ⟨by rw [b2i_f (p := r_in (ne G) n) (fun z => z.2 c_12)], rfl⟩
    · refine g_iconst ok (dk m_RG_isEpoch 7 rfl) (pc' := 16) rfl (v := 1) (by decide) ?_
      refine g_goto ok (dk m_RG_isEpoch 8 rfl) (pc' := 20) (by decide) ?_
      exact g_iret ok (dk m_RG_isEpoch 10 rfl) rfl rfl ⟨by rw [b2i_t (p := r_in (ne G) n) ⟨c_1, c_12⟩], rfl⟩
set_option maxHeartbeats 1000000 in
theorem c_RG_epochs (g : q_G) {h : q_H} {r : Nat} {w : Nat → Nat} {D : a_T} {ob : Nat → Option Nat} {G : G_T} (d : Nat) (hd : 1 ≤ d) (H : q_RG g h r w D ob G) : MG g y_RG_epochs b_RG_epochs 1 (some .int) d 0 0 [.ref r] h (fun q h' => q = .inl (some (.int (nI (ne G)))) ∧ h' = h) := by
  obtain ⟨le0, le1, hle⟩ := H.le.size
  refine MG.of (by decide +kernel) (by simp [Value.category]) (Nat.le_of_ble_eq_true rfl) ?_
  intro Z A ok
  refine g_aload_n ok (dk m_RG_epochs 0 rfl) (pc' := 1) rfl (i := 0) rfl rfl ?_
  refine g_get ok (dk m_RG_epochs 1 rfl) (pc' := 4) rfl f_RG_29 H.fr rfl ?_
  refine g_callV ok (dk m_RG_epochs 2 rfl) (pc' := 7) rfl c_RG_86 (c_AL_size g 0 hle) hle rfl rfl (by simp [Value.category]) (by omega) rfl (rc' := 0) (rs' := 0) (by omega) (by omega) (fun rv h' hcc => ?_) (fun i h' hcc => by obtain ⟨e9, -⟩ := hcc; cases e9)
  obtain ⟨e9, e2⟩ := hcc
  have e3 := e2.symm
  subst e3
  cases e9
  exact g_iret ok (dk m_RG_epochs 3 rfl) rfl rfl ⟨rfl, rfl⟩
set_option maxHeartbeats 1000000 in
theorem c_RG_waiting (g : q_G) {h : q_H} {r : Nat} {w : Nat → Nat} {D : a_T} {ob : Nat → Option Nat} {G : G_T} (d : Nat) (hd : 1 ≤ d) (H : q_RG g h r w D ob G) : MG g y_RG_waiting b_RG_waiting 1 (some .int) d 0 0 [.ref r] h (fun q h' => q = .inl (some (.int (nI (nq G)))) ∧ h' = h) := by
  obtain ⟨lq0, lq1, hlq⟩ := H.lq.size
  refine MG.of (by decide +kernel) (by simp [Value.category]) (Nat.le_of_ble_eq_true rfl) ?_
  intro Z A ok
  refine g_aload_n ok (dk m_RG_waiting 0 rfl) (pc' := 1) rfl (i := 0) rfl rfl ?_
  refine g_get ok (dk m_RG_waiting 1 rfl) (pc' := 4) rfl f_RG_26 H.fr rfl ?_
  refine g_callV ok (dk m_RG_waiting 2 rfl) (pc' := 7) rfl c_RG_86 (c_AL_size g 0 hlq) hlq rfl rfl (by simp [Value.category]) (by omega) rfl (rc' := 0) (rs' := 0) (by omega) (by omega) (fun rv h' hcc => ?_) (fun i h' hcc => by obtain ⟨e9, -⟩ := hcc; cases e9)
  obtain ⟨e9, e2⟩ := hcc
  have e3 := e2.symm
  subst e3
  cases e9
  exact g_iret ok (dk m_RG_waiting 3 rfl) rfl rfl ⟨rfl, rfl⟩
def A_has (G : G_T) (m : Int32) : Prop := r_in 16 m ∧ ¬ (gM G (ix m)).1 4 = 0
noncomputable def A_holds (G : G_T) (m n : Int32) : Prop := r_in 16 m ∧ r_in (ne G) ((gM G (ix m)).1 2) ∧ M_hk (gM G (ix m)) (gE G (ix ((gM G (ix m)).1 2))).2.1 n
noncomputable def A_isKnown (G : G_T) (e : Int32) : Prop := r_in (ne G) e ∧ S_told (gS G) ((gE G (ix e)).1 2)
noncomputable def A_isOpen (G : G_T) (e n : Int32) : Prop := r_in (ne G) e ∧ S_told (gS G) (r_get (tr_len 0) ((gE G (ix e)).2.1.1 0) n)
noncomputable def A_epoch (G : G_T) (e wh : Int32) : Int32 := by
  classical exact if r_in (ne G) e then (if wh = 0 then nI (gE G (ix e)).2.1.2 else if wh = 1 then (gE G (ix e)).1 1 else if wh = 2 then (gE G (ix e)).1 3 else if wh = 3 then (gE G (ix e)).1 4 else if wh = 4 then (gE G (ix e)).1 5 else if wh = 5 then (gE G (ix e)).1 6 else if wh = 6 then (gE G (ix e)).1 7 else -1) else -1
noncomputable def A_node (G : G_T) (e n wh : Int32) : Int32 := by
  classical exact if r_in (ne G) e then (if T_there (gE G (ix e)).2.1 n then (if wh = 0 then (if T_isB (gE G (ix e)).2.1 n then 0 else 1) else if wh = 1 then r_get (tr_len 1) ((gE G (ix e)).2.1.1 1) n else if wh = 2 then r_get (tr_len 2) ((gE G (ix e)).2.1.1 2) n else if wh = 3 then j_bc (T_reso (gE G (ix e)).2.1 n) else -1) else -1) else -1
noncomputable def A_kn (G : G_T) : Nat → Nat → Nat → Nat
  | 0, _, c => c
  | m + 1, k, c => by classical exact A_kn G m (k + 1) (if S_told (gS G) ((gE G k).1 2) then c + 1 else c)
set_option maxHeartbeats 1000000 in
theorem c_RG_has (g : q_G) {h : q_H} {r : Nat} {w : Nat → Nat} {D : a_T} {ob : Nat → Option Nat} {G : G_T} (m : Int32) (d : Nat) (hd : 3 ≤ d) (H : q_RG g h r w D ob G) : MG g y_RG_has b_RG_has 2 (some .boolean) d 0 0 [.ref r, .int m] h (fun q h' => q = .inl (some (.int (b2i (A_has G m)))) ∧ h' = h) := by
  obtain ⟨lm0, lm1, hlm⟩ := H.lm.size
  refine MG.of (by decide +kernel) (by simp [Value.category]) (Nat.le_of_ble_eq_true rfl) ?_
  intro Z A ok
  refine g_aload_n ok (dk m_RG_has 0 rfl) (pc' := 1) rfl (i := 0) rfl rfl ?_
  refine g_iload_n ok (dk m_RG_has 1 rfl) (pc' := 2) rfl (i := 1) rfl rfl ?_
  refine g_callV ok (dk m_RG_has 2 rfl) (pc' := 5) rfl c_RG_198 (c_RG_isMember g m 1 (by omega) H) H.fr rfl rfl (by simp [Value.category]) (by omega) rfl (rc' := 0) (rs' := 0) (by omega) (by omega) (fun rv h' hcc => ?_) (fun i h' hcc => by obtain ⟨e9, -⟩ := hcc; cases e9)
  obtain ⟨e9, e2⟩ := hcc
  have e3 := e2.symm
  subst e3
  cases e9
  refine g_if_eq ok (dk m_RG_has 3 rfl) (tgt := 29) (by decide) (pc' := 8) rfl (fun c_5 => ?_) (fun c_5 => ?_)
  · refine g_iconst ok (dk m_RG_has 13 rfl) (pc' := 30) rfl (v := 0) (by decide) ?_
    exact g_iret ok (dk m_RG_has 14 rfl) rfl rfl ⟨by rw [b2i_f (p := A_has G m) (fun z => b2i_0 c_5 z.1)], rfl⟩
  · obtain ⟨j, hj, rfl⟩ := r_in_of (by decide) (b2i_n c_5)
    have hx : ix (nI j) = j := ix_nI (by omega)
    refine g_aload_n ok (dk m_RG_has 4 rfl) (pc' := 9) rfl (i := 0) rfl rfl ?_
    refine g_get ok (dk m_RG_has 5 rfl) (pc' := 12) rfl f_RG_19 H.fr rfl ?_
    refine g_iload_n ok (dk m_RG_has 6 rfl) (pc' := 13) rfl (i := 1) rfl rfl ?_
    refine g_callV ok (dk m_RG_has 7 rfl) (pc' := 16) rfl c_RG_112 (c_AL_get g 2 (by omega) H.lm hj) hlm rfl rfl (by simp [Value.category]) (by omega) rfl (rc' := 0) (rs' := 0) (by omega) (by omega) (fun rv h' hcc => ?_) (fun i h' hcc => by obtain ⟨e9, -⟩ := hcc; cases e9)
    obtain ⟨e9, e2⟩ := hcc
    have e3 := e2.symm
    subst e3
    cases e9
    refine g_castY ok (dk m_RG_has 8 rfl) (pc' := 19) rfl k_RG_41 xc_4 ty_4 (H.mem hj).1 ?_
    refine g_get ok (dk m_RG_has 9 rfl) (pc' := 22) rfl f_RG_212 (H.mem hj).1 rfl ?_
    refine g_if_eq ok (dk m_RG_has 10 rfl) (tgt := 29) (by decide) (pc' := 25) rfl (fun c_22 => ?_) (fun c_22 => ?_)
    · refine g_iconst ok (dk m_RG_has 13 rfl) (pc' := 30) rfl (v := 0) (by decide) ?_
      exact g_iret ok (dk m_RG_has 14 rfl) rfl rfl ⟨by rw [b2i_f (p := A_has G (nI j)) (fun z => z.2 (by rw [hx]; exact c_22))], rfl⟩
    · refine g_iconst ok (dk m_RG_has 11 rfl) (pc' := 26) rfl (v := 1) (by decide) ?_
      refine g_goto ok (dk m_RG_has 12 rfl) (pc' := 30) (by decide) ?_
      exact g_iret ok (dk m_RG_has 14 rfl) rfl rfl ⟨by rw [b2i_t (p := A_has G (nI j)) ⟨b2i_n c_5, by rw [hx]; exact c_22⟩], rfl⟩
set_option maxHeartbeats 1000000 in
theorem c_RG_holds (g : q_G) {h : q_H} {r : Nat} {w : Nat → Nat} {D : a_T} {ob : Nat → Option Nat} {G : G_T} (m n : Int32) (d : Nat) (hd : 3 ≤ d) (H : q_RG g h r w D ob G) (hne : ne G < 2 ^ 31) : MG g y_RG_holds b_RG_holds 4 (some .boolean) d 0 0 [.ref r, .int m, .int n] h (fun q h' => q = .inl (some (.int (b2i (A_holds G m n)))) ∧ h' = h) := by
  obtain ⟨lm0, lm1, hlm⟩ := H.lm.size
  obtain ⟨le0, le1, hle⟩ := H.le.size
  refine MG.of (by decide +kernel) (by simp [Value.category]) (Nat.le_of_ble_eq_true rfl) ?_
  intro Z A ok
  refine g_aload_n ok (dk m_RG_holds 0 rfl) (pc' := 1) rfl (i := 0) rfl rfl ?_
  refine g_iload_n ok (dk m_RG_holds 1 rfl) (pc' := 2) rfl (i := 1) rfl rfl ?_
  refine g_callV ok (dk m_RG_holds 2 rfl) (pc' := 5) rfl c_RG_198 (c_RG_isMember g m 1 (by omega) H) H.fr rfl rfl (by simp [Value.category]) (by omega) rfl (rc' := 0) (rs' := 0) (by omega) (by omega) (fun rv h' hcc => ?_) (fun i h' hcc => by obtain ⟨e9, -⟩ := hcc; cases e9)
  obtain ⟨e9, e2⟩ := hcc
  have e3 := e2.symm
  subst e3
  cases e9
  refine g_if_ne ok (dk m_RG_holds 3 rfl) (tgt := 10) (by decide) (pc' := 8) rfl (fun c_5 => ?_) (fun c_5 => ?_)
  · obtain ⟨j, hj, rfl⟩ := r_in_of (by decide) (b2i_n c_5)
    have hx : ix (nI j) = j := ix_nI (by omega)
    refine g_aload_n ok (dk m_RG_holds 6 rfl) (pc' := 11) rfl (i := 0) rfl rfl ?_
    refine g_get ok (dk m_RG_holds 7 rfl) (pc' := 14) rfl f_RG_19 H.fr rfl ?_
    refine g_iload_n ok (dk m_RG_holds 8 rfl) (pc' := 15) rfl (i := 1) rfl rfl ?_
    refine g_callV ok (dk m_RG_holds 9 rfl) (pc' := 18) rfl c_RG_112 (c_AL_get g 2 (by omega) H.lm hj) hlm rfl rfl (by simp [Value.category]) (by omega) rfl (rc' := 0) (rs' := 0) (by omega) (by omega) (fun rv h' hcc => ?_) (fun i h' hcc => by obtain ⟨e9, -⟩ := hcc; cases e9)
    obtain ⟨e9, e2⟩ := hcc
    have e3 := e2.symm
    subst e3
    cases e9
    refine g_castY ok (dk m_RG_holds 10 rfl) (pc' := 21) rfl k_RG_41 xc_4 ty_4 (H.mem hj).1 ?_
    refine g_astore_n ok (dk m_RG_holds 11 rfl) (pc' := 22) rfl (i := 3) rfl (Nat.le_of_ble_eq_true rfl) rfl ?_
    refine g_aload_n ok (dk m_RG_holds 12 rfl) (pc' := 23) rfl (i := 0) rfl rfl ?_
    refine g_aload_n ok (dk m_RG_holds 13 rfl) (pc' := 24) rfl (i := 3) rfl rfl ?_
    refine g_get ok (dk m_RG_holds 14 rfl) (pc' := 27) rfl f_RG_133 (H.mem hj).1 rfl ?_
    refine g_callV ok (dk m_RG_holds 15 rfl) (pc' := 30) rfl c_RG_205 (c_RG_isEpoch g ((gM G j).1 2) 1 (by omega) H) H.fr rfl rfl (by simp [Value.category]) (by omega) rfl (rc' := 0) (rs' := 0) (by omega) (by omega) (fun rv h' hcc => ?_) (fun i h' hcc => by obtain ⟨e9, -⟩ := hcc; cases e9)
    obtain ⟨e9, e2⟩ := hcc
    have e3 := e2.symm
    subst e3
    cases e9
    refine g_if_eq ok (dk m_RG_holds 16 rfl) (tgt := 62) (by decide) (pc' := 33) rfl (fun c_30 => ?_) (fun c_30 => ?_)
    · refine g_iconst ok (dk m_RG_holds 30 rfl) (pc' := 63) rfl (v := 0) (by decide) ?_
      exact g_iret ok (dk m_RG_holds 31 rfl) rfl rfl ⟨by rw [b2i_f (p := A_holds G (nI j) n) (fun z => b2i_0 c_30 (by have q := z.2.1; rw [hx] at q; exact q))], rfl⟩
    · obtain ⟨i, hi, he⟩ := r_in_of hne (b2i_n c_30)
      have hy : ix (nI i) = i := ix_nI (by omega)
      refine g_aload_n ok (dk m_RG_holds 17 rfl) (pc' := 34) rfl (i := 3) rfl rfl ?_
      refine g_aload_n ok (dk m_RG_holds 18 rfl) (pc' := 35) rfl (i := 0) rfl rfl ?_
      refine g_get ok (dk m_RG_holds 19 rfl) (pc' := 38) rfl f_RG_29 H.fr rfl ?_
      refine g_aload_n ok (dk m_RG_holds 20 rfl) (pc' := 39) rfl (i := 3) rfl rfl ?_
      refine g_get ok (dk m_RG_holds 21 rfl) (pc' := 42) rfl f_RG_133 (H.mem hj).1 rfl ?_
      rw [he]
      refine g_callV ok (dk m_RG_holds 22 rfl) (pc' := 45) rfl c_RG_112 (c_AL_get g 2 (by omega) H.le hi) hle rfl rfl (by simp [Value.category]) (by omega) rfl (rc' := 0) (rs' := 0) (by omega) (by omega) (fun rv h' hcc => ?_) (fun i h' hcc => by obtain ⟨e9, -⟩ := hcc; cases e9)
      obtain ⟨e9, e2⟩ := hcc
      have e3 := e2.symm
      subst e3
      cases e9
      refine g_castY ok (dk m_RG_holds 23 rfl) (pc' := 48) rfl k_RG_50 xc_5 ty_5 (H.ep hi).1 ?_
      refine g_getR ok (dk m_RG_holds 24 rfl) (pc' := 51) rfl f_RG_65 (H.ep hi).1 rfl ?_
      refine g_iload_n ok (dk m_RG_holds 25 rfl) (pc' := 52) rfl (i := 2) rfl rfl ?_
      refine g_callV ok (dk m_RG_holds 26 rfl) (pc' := 55) rfl c_RG_208 (c_Mem_holdsKeyIn g n 1 (by omega) (H.mem hj) (H.ep hi).2.1) (H.mem hj).1 rfl rfl (by simp [Value.category]) (by omega) rfl (rc' := 0) (rs' := 0) (by omega) (by omega) (fun rv h' hcc => ?_) (fun i h' hcc => by obtain ⟨e9, -⟩ := hcc; cases e9)
      obtain ⟨e9, e2⟩ := hcc
      have e3 := e2.symm
      subst e3
      cases e9
      refine g_if_eq ok (dk m_RG_holds 27 rfl) (tgt := 62) (by decide) (pc' := 58) rfl (fun c_55 => ?_) (fun c_55 => ?_)
      · refine g_iconst ok (dk m_RG_holds 30 rfl) (pc' := 63) rfl (v := 0) (by decide) ?_
        exact g_iret ok (dk m_RG_holds 31 rfl) rfl rfl ⟨by rw [b2i_f (p := A_holds G (nI j) n) (fun z => b2i_0 c_55 (by have q := z.2.2; rw [hx, he, hy] at q; exact q))], rfl⟩
      · refine g_iconst ok (dk m_RG_holds 28 rfl) (pc' := 59) rfl (v := 1) (by decide) ?_
        refine g_goto ok (dk m_RG_holds 29 rfl) (pc' := 63) (by decide) ?_
        exact g_iret ok (dk m_RG_holds 31 rfl) rfl rfl ⟨by rw [b2i_t (p := A_holds G (nI j) n) ⟨b2i_n c_5, by rw [hx]; exact b2i_n c_30, by rw [hx, he, hy]; exact b2i_n c_55⟩], rfl⟩
  · refine g_iconst ok (dk m_RG_holds 4 rfl) (pc' := 9) rfl (v := 0) (by decide) ?_
    exact g_iret ok (dk m_RG_holds 5 rfl) rfl rfl ⟨by rw [b2i_f (p := A_holds G m n) (fun z => b2i_0 c_5 z.1)], rfl⟩
set_option maxHeartbeats 1000000 in
theorem c_RG_isKnown (g : q_G) {h : q_H} {r : Nat} {w : Nat → Nat} {D : a_T} {ob : Nat → Option Nat} {G : G_T} (e : Int32) (d : Nat) (hd : 3 ≤ d) (H : q_RG g h r w D ob G) (hne : ne G < 2 ^ 31) : MG g y_RG_isKnown b_RG_isKnown 2 (some .boolean) d 0 0 [.ref r, .int e] h (fun q h' => q = .inl (some (.int (b2i (A_isKnown G e)))) ∧ h' = h) := by
  obtain ⟨le0, le1, hle⟩ := H.le.size
  refine MG.of (by decide +kernel) (by simp [Value.category]) (Nat.le_of_ble_eq_true rfl) ?_
  intro Z A ok
  refine g_aload_n ok (dk m_RG_isKnown 0 rfl) (pc' := 1) rfl (i := 0) rfl rfl ?_
  refine g_iload_n ok (dk m_RG_isKnown 1 rfl) (pc' := 2) rfl (i := 1) rfl rfl ?_
  refine g_callV ok (dk m_RG_isKnown 2 rfl) (pc' := 5) rfl c_RG_205 (c_RG_isEpoch g (e) 1 (by omega) H) H.fr rfl rfl (by simp [Value.category]) (by omega) rfl (rc' := 0) (rs' := 0) (by omega) (by omega) (fun rv h' hcc => ?_) (fun i h' hcc => by obtain ⟨e9, -⟩ := hcc; cases e9)
  obtain ⟨e9, e2⟩ := hcc
  have e3 := e2.symm
  subst e3
  cases e9
  refine g_if_eq ok (dk m_RG_isKnown 3 rfl) (tgt := 36) (by decide) (pc' := 8) rfl (fun c_5 => ?_) (fun c_5 => ?_)
  · refine g_iconst ok (dk m_RG_isKnown 16 rfl) (pc' := 37) rfl (v := 0) (by decide) ?_
    exact g_iret ok (dk m_RG_isKnown 17 rfl) rfl rfl ⟨by rw [b2i_f (p := A_isKnown G e) (fun z => b2i_0 c_5 z.1)], rfl⟩
  · obtain ⟨j, hj, rfl⟩ := r_in_of hne (b2i_n c_5)
    have hx : ix (nI j) = j := ix_nI (by omega)
    refine g_aload_n ok (dk m_RG_isKnown 4 rfl) (pc' := 9) rfl (i := 0) rfl rfl ?_
    refine g_get ok (dk m_RG_isKnown 5 rfl) (pc' := 12) rfl f_RG_12 H.fr rfl ?_
    refine g_aload_n ok (dk m_RG_isKnown 6 rfl) (pc' := 13) rfl (i := 0) rfl rfl ?_
    refine g_get ok (dk m_RG_isKnown 7 rfl) (pc' := 16) rfl f_RG_29 H.fr rfl ?_
    refine g_iload_n ok (dk m_RG_isKnown 8 rfl) (pc' := 17) rfl (i := 1) rfl rfl ?_
    refine g_callV ok (dk m_RG_isKnown 9 rfl) (pc' := 20) rfl c_RG_112 (c_AL_get g 2 (by omega) H.le hj) hle rfl rfl (by simp [Value.category]) (by omega) rfl (rc' := 0) (rs' := 0) (by omega) (by omega) (fun rv h' hcc => ?_) (fun i h' hcc => by obtain ⟨e9, -⟩ := hcc; cases e9)
    obtain ⟨e9, e2⟩ := hcc
    have e3 := e2.symm
    subst e3
    cases e9
    refine g_castY ok (dk m_RG_isKnown 10 rfl) (pc' := 23) rfl k_RG_50 xc_5 ty_5 (H.ep hj).1 ?_
    refine g_get ok (dk m_RG_isKnown 11 rfl) (pc' := 26) rfl f_RG_61 (H.ep hj).1 rfl ?_
    refine g_callV ok (dk m_RG_isKnown 12 rfl) (pc' := 29) rfl c_RG_257 (c_Sec_isTold g ((gE G j).1 2) 1 (by omega) H.sec) H.sec.1 rfl rfl (by simp [Value.category]) (by omega) rfl (rc' := 0) (rs' := 0) (by omega) (by omega) (fun rv h' hcc => ?_) (fun i h' hcc => by obtain ⟨⟨z, e9, -⟩, -⟩ := hcc; cases e9)
    obtain ⟨⟨z, e9, hz⟩, e2⟩ := hcc
    have e3 := e2.symm
    subst e3
    cases e9
    have hz := z_told hz
    refine g_if_eq ok (dk m_RG_isKnown 13 rfl) (tgt := 36) (by decide) (pc' := 32) rfl (fun c_29 => ?_) (fun c_29 => ?_)
    · refine g_iconst ok (dk m_RG_isKnown 16 rfl) (pc' := 37) rfl (v := 0) (by decide) ?_
      exact g_iret ok (dk m_RG_isKnown 17 rfl) rfl rfl ⟨by rw [b2i_f (p := A_isKnown G (nI j)) (fun y => hz.1 c_29 (by have q := y.2; rw [hx] at q; exact q))], rfl⟩
    · refine g_iconst ok (dk m_RG_isKnown 14 rfl) (pc' := 33) rfl (v := 1) (by decide) ?_
      refine g_goto ok (dk m_RG_isKnown 15 rfl) (pc' := 37) (by decide) ?_
      exact g_iret ok (dk m_RG_isKnown 17 rfl) rfl rfl ⟨by rw [b2i_t (p := A_isKnown G (nI j)) ⟨b2i_n c_5, by rw [hx]; exact hz.2 c_29⟩], rfl⟩
set_option maxHeartbeats 1000000 in
theorem c_RG_isOpen (g : q_G) {h : q_H} {r : Nat} {w : Nat → Nat} {D : a_T} {ob : Nat → Option Nat} {G : G_T} (e n : Int32) (d : Nat) (hd : 3 ≤ d) (H : q_RG g h r w D ob G) (hne : ne G < 2 ^ 31) : MG g y_RG_isOpen b_RG_isOpen 3 (some .boolean) d 0 0 [.ref r, .int e, .int n] h (fun q h' => q = .inl (some (.int (b2i (A_isOpen G e n)))) ∧ h' = h) := by
  obtain ⟨le0, le1, hle⟩ := H.le.size
  refine MG.of (by decide +kernel) (by simp [Value.category]) (Nat.le_of_ble_eq_true rfl) ?_
  intro Z A ok
  refine g_aload_n ok (dk m_RG_isOpen 0 rfl) (pc' := 1) rfl (i := 0) rfl rfl ?_
  refine g_iload_n ok (dk m_RG_isOpen 1 rfl) (pc' := 2) rfl (i := 1) rfl rfl ?_
  refine g_callV ok (dk m_RG_isOpen 2 rfl) (pc' := 5) rfl c_RG_205 (c_RG_isEpoch g (e) 1 (by omega) H) H.fr rfl rfl (by simp [Value.category]) (by omega) rfl (rc' := 0) (rs' := 0) (by omega) (by omega) (fun rv h' hcc => ?_) (fun i h' hcc => by obtain ⟨e9, -⟩ := hcc; cases e9)
  obtain ⟨e9, e2⟩ := hcc
  have e3 := e2.symm
  subst e3
  cases e9
  refine g_if_eq ok (dk m_RG_isOpen 3 rfl) (tgt := 43) (by decide) (pc' := 8) rfl (fun c_5 => ?_) (fun c_5 => ?_)
  · refine g_iconst ok (dk m_RG_isOpen 19 rfl) (pc' := 44) rfl (v := 0) (by decide) ?_
    exact g_iret ok (dk m_RG_isOpen 20 rfl) rfl rfl ⟨by rw [b2i_f (p := A_isOpen G e n) (fun z => b2i_0 c_5 z.1)], rfl⟩
  · obtain ⟨j, hj, rfl⟩ := r_in_of hne (b2i_n c_5)
    have hx : ix (nI j) = j := ix_nI (by omega)
    refine g_aload_n ok (dk m_RG_isOpen 4 rfl) (pc' := 9) rfl (i := 0) rfl rfl ?_
    refine g_get ok (dk m_RG_isOpen 5 rfl) (pc' := 12) rfl f_RG_12 H.fr rfl ?_
    refine g_aload_n ok (dk m_RG_isOpen 6 rfl) (pc' := 13) rfl (i := 0) rfl rfl ?_
    refine g_get ok (dk m_RG_isOpen 7 rfl) (pc' := 16) rfl f_RG_29 H.fr rfl ?_
    refine g_iload_n ok (dk m_RG_isOpen 8 rfl) (pc' := 17) rfl (i := 1) rfl rfl ?_
    refine g_callV ok (dk m_RG_isOpen 9 rfl) (pc' := 20) rfl c_RG_112 (c_AL_get g 2 (by omega) H.le hj) hle rfl rfl (by simp [Value.category]) (by omega) rfl (rc' := 0) (rs' := 0) (by omega) (by omega) (fun rv h' hcc => ?_) (fun i h' hcc => by obtain ⟨e9, -⟩ := hcc; cases e9)
    obtain ⟨e9, e2⟩ := hcc
    have e3 := e2.symm
    subst e3
    cases e9
    refine g_castY ok (dk m_RG_isOpen 10 rfl) (pc' := 23) rfl k_RG_50 xc_5 ty_5 (H.ep hj).1 ?_
    refine g_getR ok (dk m_RG_isOpen 11 rfl) (pc' := 26) rfl f_RG_65 (H.ep hj).1 rfl ?_
    refine g_getR ok (dk m_RG_isOpen 12 rfl) (pc' := 29) rfl f_RG_260 (H.ep hj).2.1.1 rfl ?_
    refine g_iload_n ok (dk m_RG_isOpen 13 rfl) (pc' := 30) rfl (i := 2) rfl rfl ?_
    refine g_callV ok (dk m_RG_isOpen 14 rfl) (pc' := 33) rfl c_RG_193 (c_Row_get g n 0 ((H.ep hj).2.1.2.1 0 (by decide)).1 ((H.ep hj).2.1.2.1 0 (by decide)).2 (tr_len_lt _)) ((H.ep hj).2.1.2.1 0 (by decide)).1 rfl rfl (by simp [Value.category]) (by omega) rfl (rc' := 0) (rs' := 0) (by omega) (by omega) (fun rv h' hcc => ?_) (fun i h' hcc => by obtain ⟨e9, -⟩ := hcc; cases e9)
    obtain ⟨e9, e2⟩ := hcc
    have e3 := e2.symm
    subst e3
    cases e9
    refine g_callV ok (dk m_RG_isOpen 15 rfl) (pc' := 36) rfl c_RG_257 (c_Sec_isTold g (r_get (tr_len 0) ((gE G j).2.1.1 0) n) 1 (by omega) H.sec) H.sec.1 rfl rfl (by simp [Value.category]) (by omega) rfl (rc' := 0) (rs' := 0) (by omega) (by omega) (fun rv h' hcc => ?_) (fun i h' hcc => by obtain ⟨⟨z, e9, -⟩, -⟩ := hcc; cases e9)
    obtain ⟨⟨z, e9, hz⟩, e2⟩ := hcc
    have e3 := e2.symm
    subst e3
    cases e9
    have hz := z_told hz
    refine g_if_eq ok (dk m_RG_isOpen 16 rfl) (tgt := 43) (by decide) (pc' := 39) rfl (fun c_36 => ?_) (fun c_36 => ?_)
    · refine g_iconst ok (dk m_RG_isOpen 19 rfl) (pc' := 44) rfl (v := 0) (by decide) ?_
      exact g_iret ok (dk m_RG_isOpen 20 rfl) rfl rfl ⟨by rw [b2i_f (p := A_isOpen G (nI j) n) (fun y => hz.1 c_36 (by have q := y.2; rw [hx] at q; exact q))], rfl⟩
    · refine g_iconst ok (dk m_RG_isOpen 17 rfl) (pc' := 40) rfl (v := 1) (by decide) ?_
      refine g_goto ok (dk m_RG_isOpen 18 rfl) (pc' := 44) (by decide) ?_
      exact g_iret ok (dk m_RG_isOpen 20 rfl) rfl rfl ⟨by rw [b2i_t (p := A_isOpen G (nI j) n) ⟨b2i_n c_5, by rw [hx]; exact hz.2 c_36⟩], rfl⟩
set_option maxHeartbeats 1000000 in
theorem c_RG_epoch (g : q_G) {h : q_H} {r : Nat} {w : Nat → Nat} {D : a_T} {ob : Nat → Option Nat} {G : G_T} (e wh : Int32) (d : Nat) (hd : 3 ≤ d) (H : q_RG g h r w D ob G) (hne : ne G < 2 ^ 31) : MG g y_RG_epoch b_RG_epoch 4 (some .int) d 0 0 [.ref r, .int e, .int wh] h (fun q h' => q = .inl (some (.int (A_epoch G e wh))) ∧ h' = h) := by
  obtain ⟨le0, le1, hle⟩ := H.le.size
  refine MG.of (by decide +kernel) (by simp [Value.category]) (Nat.le_of_ble_eq_true rfl) ?_
  intro Z A ok
  refine g_aload_n ok (dk m_RG_epoch 0 rfl) (pc' := 1) rfl (i := 0) rfl rfl ?_
  refine g_iload_n ok (dk m_RG_epoch 1 rfl) (pc' := 2) rfl (i := 1) rfl rfl ?_
  refine g_callV ok (dk m_RG_epoch 2 rfl) (pc' := 5) rfl c_RG_205 (c_RG_isEpoch g (e) 1 (by omega) H) H.fr rfl rfl (by simp [Value.category]) (by omega) rfl (rc' := 0) (rs' := 0) (by omega) (by omega) (fun rv h' hcc => ?_) (fun i h' hcc => by obtain ⟨e9, -⟩ := hcc; cases e9)
  obtain ⟨e9, e2⟩ := hcc
  have e3 := e2.symm
  subst e3
  cases e9
  refine g_if_ne ok (dk m_RG_epoch 3 rfl) (tgt := 10) (by decide) (pc' := 8) rfl (fun c_5 => ?_) (fun c_5 => ?_)
  · obtain ⟨j, hj, rfl⟩ := r_in_of hne (b2i_n c_5)
    have hx : ix (nI j) = j := ix_nI (by omega)
    refine g_aload_n ok (dk m_RG_epoch 6 rfl) (pc' := 11) rfl (i := 0) rfl rfl ?_
    refine g_get ok (dk m_RG_epoch 7 rfl) (pc' := 14) rfl f_RG_29 H.fr rfl ?_
    refine g_iload_n ok (dk m_RG_epoch 8 rfl) (pc' := 15) rfl (i := 1) rfl rfl ?_
    refine g_callV ok (dk m_RG_epoch 9 rfl) (pc' := 18) rfl c_RG_112 (c_AL_get g 2 (by omega) H.le hj) hle rfl rfl (by simp [Value.category]) (by omega) rfl (rc' := 0) (rs' := 0) (by omega) (by omega) (fun rv h' hcc => ?_) (fun i h' hcc => by obtain ⟨e9, -⟩ := hcc; cases e9)
    obtain ⟨e9, e2⟩ := hcc
    have e3 := e2.symm
    subst e3
    cases e9
    refine g_castY ok (dk m_RG_epoch 10 rfl) (pc' := 21) rfl k_RG_50 xc_5 ty_5 (H.ep hj).1 ?_
    refine g_astore_n ok (dk m_RG_epoch 11 rfl) (pc' := 22) rfl (i := 3) rfl (Nat.le_of_ble_eq_true rfl) rfl ?_
    refine g_iload_n ok (dk m_RG_epoch 12 rfl) (pc' := 23) rfl (i := 2) rfl rfl ?_
    by_cases s_0 : wh = 0
    · subst s_0
      refine g_tableIn ok (dk m_RG_epoch 13 rfl) (by decide) (by decide) (off := 41) rfl (tgt := 64) (by decide) ?_
      refine g_aload_n ok (dk m_RG_epoch 14 rfl) (pc' := 65) rfl (i := 3) rfl rfl ?_
      refine g_getR ok (dk m_RG_epoch 15 rfl) (pc' := 68) rfl f_RG_65 (H.ep hj).1 rfl ?_
      refine g_get ok (dk m_RG_epoch 16 rfl) (pc' := 71) rfl f_RG_236 (H.ep hj).2.1.1 rfl ?_
      exact g_iret ok (dk m_RG_epoch 17 rfl) rfl rfl ⟨by rw [A_epoch, if_pos (b2i_n c_5), hx]; rfl, rfl⟩
    by_cases s_1 : wh = 1
    · subst s_1
      refine g_tableIn ok (dk m_RG_epoch 13 rfl) (by decide) (by decide) (off := 49) rfl (tgt := 72) (by decide) ?_
      refine g_aload_n ok (dk m_RG_epoch 18 rfl) (pc' := 73) rfl (i := 3) rfl rfl ?_
      refine g_getR ok (dk m_RG_epoch 19 rfl) (pc' := 76) rfl f_RG_239 (H.ep hj).1 rfl ?_
      exact g_iret ok (dk m_RG_epoch 20 rfl) rfl rfl ⟨by rw [A_epoch, if_pos (b2i_n c_5), hx]; rfl, rfl⟩
    by_cases s_2 : wh = 2
    · subst s_2
      refine g_tableIn ok (dk m_RG_epoch 13 rfl) (by decide) (by decide) (off := 54) rfl (tgt := 77) (by decide) ?_
      refine g_aload_n ok (dk m_RG_epoch 21 rfl) (pc' := 78) rfl (i := 3) rfl rfl ?_
      refine g_get ok (dk m_RG_epoch 22 rfl) (pc' := 81) rfl f_RG_242 (H.ep hj).1 rfl ?_
      exact g_iret ok (dk m_RG_epoch 23 rfl) rfl rfl ⟨by rw [A_epoch, if_pos (b2i_n c_5), hx]; rfl, rfl⟩
    by_cases s_3 : wh = 3
    · subst s_3
      refine g_tableIn ok (dk m_RG_epoch 13 rfl) (by decide) (by decide) (off := 59) rfl (tgt := 82) (by decide) ?_
      refine g_aload_n ok (dk m_RG_epoch 24 rfl) (pc' := 83) rfl (i := 3) rfl rfl ?_
      refine g_get ok (dk m_RG_epoch 25 rfl) (pc' := 86) rfl f_RG_245 (H.ep hj).1 rfl ?_
      exact g_iret ok (dk m_RG_epoch 26 rfl) rfl rfl ⟨by rw [A_epoch, if_pos (b2i_n c_5), hx]; rfl, rfl⟩
    by_cases s_4 : wh = 4
    · subst s_4
      refine g_tableIn ok (dk m_RG_epoch 13 rfl) (by decide) (by decide) (off := 64) rfl (tgt := 87) (by decide) ?_
      refine g_aload_n ok (dk m_RG_epoch 27 rfl) (pc' := 88) rfl (i := 3) rfl rfl ?_
      refine g_get ok (dk m_RG_epoch 28 rfl) (pc' := 91) rfl f_RG_248 (H.ep hj).1 rfl ?_
      exact g_iret ok (dk m_RG_epoch 29 rfl) rfl rfl ⟨by rw [A_epoch, if_pos (b2i_n c_5), hx]; rfl, rfl⟩
    by_cases s_5 : wh = 5
    · subst s_5
      refine g_tableIn ok (dk m_RG_epoch 13 rfl) (by decide) (by decide) (off := 69) rfl (tgt := 92) (by decide) ?_
      refine g_aload_n ok (dk m_RG_epoch 30 rfl) (pc' := 93) rfl (i := 3) rfl rfl ?_
      refine g_get ok (dk m_RG_epoch 31 rfl) (pc' := 96) rfl f_RG_251 (H.ep hj).1 rfl ?_
      exact g_iret ok (dk m_RG_epoch 32 rfl) rfl rfl ⟨by rw [A_epoch, if_pos (b2i_n c_5), hx]; rfl, rfl⟩
    by_cases s_6 : wh = 6
    · subst s_6
      refine g_tableIn ok (dk m_RG_epoch 13 rfl) (by decide) (by decide) (off := 74) rfl (tgt := 97) (by decide) ?_
      refine g_aload_n ok (dk m_RG_epoch 33 rfl) (pc' := 98) rfl (i := 3) rfl rfl ?_
      refine g_get ok (dk m_RG_epoch 34 rfl) (pc' := 101) rfl f_RG_254 (H.ep hj).1 rfl ?_
      exact g_iret ok (dk m_RG_epoch 35 rfl) rfl rfl ⟨by rw [A_epoch, if_pos (b2i_n c_5), hx]; rfl, rfl⟩
    refine g_tableOut ok (dk m_RG_epoch 13 rfl) (sw_out7 s_0 s_1 s_2 s_3 s_4 s_5 s_6) (tgt := 102) (by decide) ?_
    refine g_iconst ok (dk m_RG_epoch 36 rfl) (pc' := 103) rfl (v := (-1)) (by decide) ?_
    exact g_iret ok (dk m_RG_epoch 37 rfl) rfl rfl ⟨by rw [A_epoch, if_pos (b2i_n c_5), if_neg s_0, if_neg s_1, if_neg s_2, if_neg s_3, if_neg s_4, if_neg s_5, if_neg s_6], rfl⟩
  · refine g_iconst ok (dk m_RG_epoch 4 rfl) (pc' := 9) rfl (v := (-1)) (by decide) ?_
    exact g_iret ok (dk m_RG_epoch 5 rfl) rfl rfl ⟨by rw [A_epoch, if_neg (b2i_0 c_5)], rfl⟩
set_option maxHeartbeats 1000000 in
theorem c_RG_node (g : q_G) {h : q_H} {r : Nat} {w : Nat → Nat} {D : a_T} {ob : Nat → Option Nat} {G : G_T} (e n wh : Int32) (d : Nat) (hd : 7 ≤ d) (H : q_RG g h r w D ob G) (hne : ne G < 2 ^ 31) : MG g y_RG_node b_RG_node 5 (some .int) d 0 0 [.ref r, .int e, .int n, .int wh] h (fun q h' => q = .inl (some (.int (A_node G e n wh))) ∧ h' = h) := by
  obtain ⟨le0, le1, hle⟩ := H.le.size
  refine MG.of (by decide +kernel) (by simp [Value.category]) (Nat.le_of_ble_eq_true rfl) ?_
  intro Z A ok
  refine g_aload_n ok (dk m_RG_node 0 rfl) (pc' := 1) rfl (i := 0) rfl rfl ?_
  refine g_iload_n ok (dk m_RG_node 1 rfl) (pc' := 2) rfl (i := 1) rfl rfl ?_
  refine g_callV ok (dk m_RG_node 2 rfl) (pc' := 5) rfl c_RG_205 (c_RG_isEpoch g (e) 1 (by omega) H) H.fr rfl rfl (by simp [Value.category]) (by omega) rfl (rc' := 0) (rs' := 0) (by omega) (by omega) (fun rv h' hcc => ?_) (fun i h' hcc => by obtain ⟨e9, -⟩ := hcc; cases e9)
  obtain ⟨e9, e2⟩ := hcc
  have e3 := e2.symm
  subst e3
  cases e9
  refine g_if_ne ok (dk m_RG_node 3 rfl) (tgt := 10) (by decide) (pc' := 8) rfl (fun c_5 => ?_) (fun c_5 => ?_)
  · obtain ⟨j, hj, rfl⟩ := r_in_of hne (b2i_n c_5)
    have hx : ix (nI j) = j := ix_nI (by omega)
    refine g_aload_n ok (dk m_RG_node 6 rfl) (pc' := 11) rfl (i := 0) rfl rfl ?_
    refine g_get ok (dk m_RG_node 7 rfl) (pc' := 14) rfl f_RG_29 H.fr rfl ?_
    refine g_iload_n ok (dk m_RG_node 8 rfl) (pc' := 15) rfl (i := 1) rfl rfl ?_
    refine g_callV ok (dk m_RG_node 9 rfl) (pc' := 18) rfl c_RG_112 (c_AL_get g 2 (by omega) H.le hj) hle rfl rfl (by simp [Value.category]) (by omega) rfl (rc' := 0) (rs' := 0) (by omega) (by omega) (fun rv h' hcc => ?_) (fun i h' hcc => by obtain ⟨e9, -⟩ := hcc; cases e9)
    obtain ⟨e9, e2⟩ := hcc
    have e3 := e2.symm
    subst e3
    cases e9
    refine g_castY ok (dk m_RG_node 10 rfl) (pc' := 21) rfl k_RG_50 xc_5 ty_5 (H.ep hj).1 ?_
    refine g_getR ok (dk m_RG_node 11 rfl) (pc' := 24) rfl f_RG_65 (H.ep hj).1 rfl ?_
    refine g_astore ok (dk m_RG_node 12 rfl) (pc' := 26) rfl (Nat.le_of_ble_eq_true rfl) rfl ?_
    refine g_aload ok (dk m_RG_node 13 rfl) (pc' := 28) rfl rfl ?_
    refine g_iload_n ok (dk m_RG_node 14 rfl) (pc' := 29) rfl (i := 2) rfl rfl ?_
    refine g_callV ok (dk m_RG_node 15 rfl) (pc' := 32) rfl c_RG_216 (c_Tr_isThere g n 0 (H.ep hj).2.1) (H.ep hj).2.1.1 rfl rfl (by simp [Value.category]) (by omega) rfl (rc' := 0) (rs' := 0) (by omega) (by omega) (fun rv h' hcc => ?_) (fun i h' hcc => by obtain ⟨e9, -⟩ := hcc; cases e9)
    obtain ⟨e9, e2⟩ := hcc
    have e3 := e2.symm
    subst e3
    cases e9
    refine g_if_ne ok (dk m_RG_node 16 rfl) (tgt := 37) (by decide) (pc' := 35) rfl (fun c_32 => ?_) (fun c_32 => ?_)
    · refine g_iload_n ok (dk m_RG_node 19 rfl) (pc' := 38) rfl (i := 3) rfl rfl ?_
      by_cases s_0 : wh = 0
      · subst s_0
        refine g_tableIn ok (dk m_RG_node 20 rfl) (by decide) (by decide) (off := 30) rfl (tgt := 68) (by decide) ?_
        refine g_aload ok (dk m_RG_node 21 rfl) (pc' := 70) rfl rfl ?_
        refine g_iload_n ok (dk m_RG_node 22 rfl) (pc' := 71) rfl (i := 2) rfl rfl ?_
        refine g_callV ok (dk m_RG_node 23 rfl) (pc' := 74) rfl c_RG_219 (c_Tr_isBlank g n 1 (by omega) (H.ep hj).2.1) (H.ep hj).2.1.1 rfl rfl (by simp [Value.category]) (by omega) rfl (rc' := 0) (rs' := 0) (by omega) (by omega) (fun rv h' hcc => ?_) (fun i h' hcc => by obtain ⟨e9, -⟩ := hcc; cases e9)
        obtain ⟨e9, e2⟩ := hcc
        have e3 := e2.symm
        subst e3
        cases e9
        refine g_if_eq ok (dk m_RG_node 24 rfl) (tgt := 81) (by decide) (pc' := 77) rfl (fun c_74 => ?_) (fun c_74 => ?_)
        · refine g_iconst ok (dk m_RG_node 27 rfl) (pc' := 82) rfl (v := 1) (by decide) ?_
          exact g_iret ok (dk m_RG_node 28 rfl) rfl rfl ⟨by rw [A_node, if_pos (b2i_n c_5), hx, if_pos (b2i_n c_32), if_pos rfl, if_neg (b2i_0 c_74)], rfl⟩
        · refine g_iconst ok (dk m_RG_node 25 rfl) (pc' := 78) rfl (v := 0) (by decide) ?_
          refine g_goto ok (dk m_RG_node 26 rfl) (pc' := 82) (by decide) ?_
          exact g_iret ok (dk m_RG_node 28 rfl) rfl rfl ⟨by rw [A_node, if_pos (b2i_n c_5), hx, if_pos (b2i_n c_32), if_pos rfl, if_pos (b2i_n c_74)], rfl⟩
      by_cases s_1 : wh = 1
      · subst s_1
        refine g_tableIn ok (dk m_RG_node 20 rfl) (by decide) (by decide) (off := 45) rfl (tgt := 83) (by decide) ?_
        refine g_aload ok (dk m_RG_node 29 rfl) (pc' := 85) rfl rfl ?_
        refine g_getR ok (dk m_RG_node 30 rfl) (pc' := 88) rfl f_RG_222 (H.ep hj).2.1.1 rfl ?_
        refine g_iload_n ok (dk m_RG_node 31 rfl) (pc' := 89) rfl (i := 2) rfl rfl ?_
        refine g_callV ok (dk m_RG_node 32 rfl) (pc' := 92) rfl c_RG_193 (c_Row_get g n 0 ((H.ep hj).2.1.2.1 1 (by decide)).1 ((H.ep hj).2.1.2.1 1 (by decide)).2 (tr_len_lt _)) ((H.ep hj).2.1.2.1 1 (by decide)).1 rfl rfl (by simp [Value.category]) (by omega) rfl (rc' := 0) (rs' := 0) (by omega) (by omega) (fun rv h' hcc => ?_) (fun i h' hcc => by obtain ⟨e9, -⟩ := hcc; cases e9)
        obtain ⟨e9, e2⟩ := hcc
        have e3 := e2.symm
        subst e3
        cases e9
        exact g_iret ok (dk m_RG_node 33 rfl) rfl rfl ⟨by rw [A_node, if_pos (b2i_n c_5), hx, if_pos (b2i_n c_32)]; rfl, rfl⟩
      by_cases s_2 : wh = 2
      · subst s_2
        refine g_tableIn ok (dk m_RG_node 20 rfl) (by decide) (by decide) (off := 55) rfl (tgt := 93) (by decide) ?_
        refine g_aload ok (dk m_RG_node 34 rfl) (pc' := 95) rfl rfl ?_
        refine g_getR ok (dk m_RG_node 35 rfl) (pc' := 98) rfl f_RG_225 (H.ep hj).2.1.1 rfl ?_
        refine g_iload_n ok (dk m_RG_node 36 rfl) (pc' := 99) rfl (i := 2) rfl rfl ?_
        refine g_callV ok (dk m_RG_node 37 rfl) (pc' := 102) rfl c_RG_193 (c_Row_get g n 0 ((H.ep hj).2.1.2.1 2 (by decide)).1 ((H.ep hj).2.1.2.1 2 (by decide)).2 (tr_len_lt _)) ((H.ep hj).2.1.2.1 2 (by decide)).1 rfl rfl (by simp [Value.category]) (by omega) rfl (rc' := 0) (rs' := 0) (by omega) (by omega) (fun rv h' hcc => ?_) (fun i h' hcc => by obtain ⟨e9, -⟩ := hcc; cases e9)
        obtain ⟨e9, e2⟩ := hcc
        have e3 := e2.symm
        subst e3
        cases e9
        exact g_iret ok (dk m_RG_node 38 rfl) rfl rfl ⟨by rw [A_node, if_pos (b2i_n c_5), hx, if_pos (b2i_n c_32)]; rfl, rfl⟩
      by_cases s_3 : wh = 3
      · subst s_3
        refine g_tableIn ok (dk m_RG_node 20 rfl) (by decide) (by decide) (off := 65) rfl (tgt := 103) (by decide) ?_
        refine g_aload ok (dk m_RG_node 39 rfl) (pc' := 105) rfl rfl ?_
        refine g_iload_n ok (dk m_RG_node 40 rfl) (pc' := 106) rfl (i := 2) rfl rfl ?_
        refine g_callV ok (dk m_RG_node 41 rfl) (pc' := 109) rfl c_RG_228 (c_Tr_resolution g n 6 (by omega) (H.ep hj).2.1) (H.ep hj).2.1.1 rfl rfl (by simp [Value.category]) (by omega) rfl (rc' := 0) (rs' := 0) (by omega) (by omega) (fun rv h' hcc => ?_) (fun i h' hcc => by obtain ⟨e9, -⟩ := hcc; cases e9)
        obtain ⟨e9, e2⟩ := hcc
        have e3 := e2.symm
        subst e3
        cases e9
        refine g_callS ok (dk m_RG_node 42 rfl) (pc' := 112) rfl c_RG_231 (c_Int_bitCount g (T_reso (gE G j).2.1 n) 0) rfl rfl (by simp [Value.category]) (by omega) rfl (rc' := 0) (rs' := 0) (by omega) (by omega) (fun rv h' hcc => ?_) (fun i h' hcc => by obtain ⟨e9, -⟩ := hcc; cases e9)
        obtain ⟨e9, e2⟩ := hcc
        have e3 := e2.symm
        subst e3
        cases e9
        exact g_iret ok (dk m_RG_node 43 rfl) rfl rfl ⟨by rw [A_node, if_pos (b2i_n c_5), hx, if_pos (b2i_n c_32)]; rfl, rfl⟩
      refine g_tableOut ok (dk m_RG_node 20 rfl) (sw_out4 s_0 s_1 s_2 s_3) (tgt := 113) (by decide) ?_
      refine g_iconst ok (dk m_RG_node 44 rfl) (pc' := 114) rfl (v := (-1)) (by decide) ?_
      exact g_iret ok (dk m_RG_node 45 rfl) rfl rfl ⟨by rw [A_node, if_pos (b2i_n c_5), hx, if_pos (b2i_n c_32), if_neg s_0, if_neg s_1, if_neg s_2, if_neg s_3], rfl⟩
    · refine g_iconst ok (dk m_RG_node 17 rfl) (pc' := 36) rfl (v := (-1)) (by decide) ?_
      exact g_iret ok (dk m_RG_node 18 rfl) rfl rfl ⟨by rw [A_node, if_pos (b2i_n c_5), hx, if_neg (b2i_0 c_32)], rfl⟩
  · refine g_iconst ok (dk m_RG_node 4 rfl) (pc' := 9) rfl (v := (-1)) (by decide) ?_
    exact g_iret ok (dk m_RG_node 5 rfl) rfl rfl ⟨by rw [A_node, if_neg (b2i_0 c_5)], rfl⟩
set_option maxHeartbeats 1000000 in
theorem c_RG_known (g : q_G) {h : q_H} {r : Nat} {w : Nat → Nat} {D : a_T} {ob : Nat → Option Nat} {G : G_T} (d : Nat) (hd : 3 ≤ d) (H : q_RG g h r w D ob G) (hne : ne G < 2 ^ 31) : MG g y_RG_known b_RG_known 3 (some .int) d 0 0 [.ref r] h (fun q h' => q = .inl (some (.int (nI (A_kn G (ne G) 0 0)))) ∧ h' = h) := by
  obtain ⟨le0, le1, hle⟩ := H.le.size
  refine MG.of (by decide +kernel) (by simp [Value.category]) (Nat.le_of_ble_eq_true rfl) ?_
  intro Z A ok
  have loop : ∀ (m k : Nat), k + m = ne G → ∀ c : Nat, A_kn G m k c = A_kn G (ne G) 0 0 → GW g Z A (fun q h' => q = .inl (some (.int (nI (A_kn G (ne G) 0 0)))) ∧ h' = h) 0 0 h 4 [some (.ref r), some (.int (nI c)), some (.int (nI k))] [] := by
    intro m
    induction m with
    | zero =>
      intro k hk c hv
      refine g_iload_n ok (dk m_RG_known 4 rfl) (pc' := 5) rfl (i := 2) rfl rfl ?_
      refine g_aload_n ok (dk m_RG_known 5 rfl) (pc' := 6) rfl (i := 0) rfl rfl ?_
      refine g_get ok (dk m_RG_known 6 rfl) (pc' := 9) rfl f_RG_29 H.fr rfl ?_
      refine g_callV ok (dk m_RG_known 7 rfl) (pc' := 12) rfl c_RG_86 (c_AL_size g 0 hle) hle rfl rfl (by simp [Value.category]) (by omega) rfl (rc' := 0) (rs' := 0) (by omega) (by omega) (fun rv h' hcc => ?_) (fun i h' hcc => by obtain ⟨e9, -⟩ := hcc; cases e9)
      obtain ⟨e9, e2⟩ := hcc
      have e3 := e2.symm
      subst e3
      cases e9
      refine g_icmp_ge ok (dk m_RG_known 8 rfl) (tgt := 48) (by decide) (pc' := 15) rfl (fun c_12 => ?_) (fun c_12 => absurd (show nI (ne G) ≤ nI k from by rw [show k = ne G by omega]; exact Int32.le_refl _) c_12)
      refine g_iload_n ok (dk m_RG_known 22 rfl) (pc' := 49) rfl (i := 1) rfl rfl ?_
      exact g_iret ok (dk m_RG_known 23 rfl) rfl rfl ⟨by rw [← hv]; rfl, rfl⟩
    | succ m ih =>
      intro k hk c hv
      refine g_iload_n ok (dk m_RG_known 4 rfl) (pc' := 5) rfl (i := 2) rfl rfl ?_
      refine g_aload_n ok (dk m_RG_known 5 rfl) (pc' := 6) rfl (i := 0) rfl rfl ?_
      refine g_get ok (dk m_RG_known 6 rfl) (pc' := 9) rfl f_RG_29 H.fr rfl ?_
      refine g_callV ok (dk m_RG_known 7 rfl) (pc' := 12) rfl c_RG_86 (c_AL_size g 0 hle) hle rfl rfl (by simp [Value.category]) (by omega) rfl (rc' := 0) (rs' := 0) (by omega) (by omega) (fun rv h' hcc => ?_) (fun i h' hcc => by obtain ⟨e9, -⟩ := hcc; cases e9)
      obtain ⟨e9, e2⟩ := hcc
      have e3 := e2.symm
      subst e3
      cases e9
      refine g_icmp_ge ok (dk m_RG_known 8 rfl) (tgt := 48) (by decide) (pc' := 15) rfl (fun c_12 => absurd c_12 (nI_ge (show k < ne G by omega) hne)) (fun c_12 => ?_)
      refine g_aload_n ok (dk m_RG_known 9 rfl) (pc' := 16) rfl (i := 0) rfl rfl ?_
      refine g_get ok (dk m_RG_known 10 rfl) (pc' := 19) rfl f_RG_12 H.fr rfl ?_
      refine g_aload_n ok (dk m_RG_known 11 rfl) (pc' := 20) rfl (i := 0) rfl rfl ?_
      refine g_get ok (dk m_RG_known 12 rfl) (pc' := 23) rfl f_RG_29 H.fr rfl ?_
      refine g_iload_n ok (dk m_RG_known 13 rfl) (pc' := 24) rfl (i := 2) rfl rfl ?_
      refine g_callV ok (dk m_RG_known 14 rfl) (pc' := 27) rfl c_RG_112 (c_AL_get g 2 (by omega) H.le (show k < ne G by omega)) hle rfl rfl (by simp [Value.category]) (by omega) rfl (rc' := 0) (rs' := 0) (by omega) (by omega) (fun rv h' hcc => ?_) (fun i h' hcc => by obtain ⟨e9, -⟩ := hcc; cases e9)
      obtain ⟨e9, e2⟩ := hcc
      have e3 := e2.symm
      subst e3
      cases e9
      refine g_castY ok (dk m_RG_known 15 rfl) (pc' := 30) rfl k_RG_50 xc_5 ty_5 (H.ep (show k < ne G by omega)).1 ?_
      refine g_get ok (dk m_RG_known 16 rfl) (pc' := 33) rfl f_RG_61 (H.ep (show k < ne G by omega)).1 rfl ?_
      refine g_callV ok (dk m_RG_known 17 rfl) (pc' := 36) rfl c_RG_257 (c_Sec_isTold g ((gE G k).1 2) 1 (by omega) H.sec) H.sec.1 rfl rfl (by simp [Value.category]) (by omega) rfl (rc' := 0) (rs' := 0) (by omega) (by omega) (fun rv h' hcc => ?_) (fun i h' hcc => by obtain ⟨⟨z, e9, -⟩, -⟩ := hcc; cases e9)
      obtain ⟨⟨z, e9, hz⟩, e2⟩ := hcc
      have e3 := e2.symm
      subst e3
      cases e9
      have hz := z_told hz
      refine g_if_eq ok (dk m_RG_known 18 rfl) (tgt := 42) (by decide) (pc' := 39) rfl (fun c_36 => ?_) (fun c_36 => ?_)
      · refine g_iinc ok (dk m_RG_known 20 rfl) (pc' := 45) rfl rfl (nI_1 k) rfl ?_
        refine g_goto ok (dk m_RG_known 21 rfl) (pc' := 4) (by decide) ?_
        exact ih (k + 1) (by omega) _ (by rw [← hv, A_kn, if_neg (hz.1 c_36)])
      · refine g_iinc ok (dk m_RG_known 19 rfl) (pc' := 42) rfl rfl (nI_1 c) rfl ?_
        refine g_iinc ok (dk m_RG_known 20 rfl) (pc' := 45) rfl rfl (nI_1 k) rfl ?_
        refine g_goto ok (dk m_RG_known 21 rfl) (pc' := 4) (by decide) ?_
        exact ih (k + 1) (by omega) _ (by rw [← hv, A_kn, if_pos (hz.2 c_36)])
  refine g_iconst ok (dk m_RG_known 0 rfl) (pc' := 1) rfl (v := 0) (by decide) ?_
  refine g_istore_n ok (dk m_RG_known 1 rfl) (pc' := 2) rfl (i := 1) rfl (Nat.le_of_ble_eq_true rfl) rfl ?_
  refine g_iconst ok (dk m_RG_known 2 rfl) (pc' := 3) rfl (v := 0) (by decide) ?_
  refine g_istore_n ok (dk m_RG_known 3 rfl) (pc' := 4) rfl (i := 2) rfl (Nat.le_of_ble_eq_true rfl) rfl ?_
  exact loop (ne G) 0 (by omega) 0 rfl
end
section
/-! ===== the group: gather, member, memberNumbered, compromise ===== -/
abbrev b_T : Type := Nat × (Nat → Int32)
noncomputable def b_add (b : b_T) (x : Int32) : b_T := (b.1 + 1, r_put 172 b.2 (nI b.1) x)
noncomputable def b_1 (G : G_T) (i : Nat) (b : b_T) : b_T := by
  classical exact if ¬ (gM G i).1 4 = 0 ∧ r_in (ne G) ((gM G i).1 2) then b_add b ((gE G (ix ((gM G i).1 2))).1 2) else b
noncomputable def b_2 (M : m_T) : Nat → Nat → b_T → b_T
  | 0, _, b => b
  | m + 1, k, b => b_2 M m (k + 1) (if r_get (m_len 0) (M.2 0) (nI k) = -1 then b else b_add b (r_get (m_len 0) (M.2 0) (nI k)))
noncomputable def b_3 (M : m_T) : Nat → Nat → b_T → b_T
  | 0, _, b => b
  | m + 1, k, b => b_3 M m (k + 1) (b_add b (r_get (m_len 1) (M.2 1) (nI k)))
noncomputable def b_4 (G : G_T) (i : Nat) : Nat → Nat → b_T → b_T
  | 0, _, b => b
  | m + 1, k, b => b_4 G i m (k + 1) (if (gK G k).1 = i ∧ (gK G k).2 4 = 0 then b_add (b_add b ((gK G k).2 0)) ((gK G k).2 1) else b)
noncomputable def G_gat (G : G_T) (i : Nat) : b_T := b_4 G i (np G) 0 (b_3 (gM G i) (ix ((gM G i).1 1)) 0 (b_2 (gM G i) 31 0 (b_1 G i (0, gH G))))
theorem q_RG.inj {g : q_G} {h : q_H} {r : Nat} {w : Nat → Nat} {D : a_T} {ob : Nat → Option Nat} {G : G_T} (H : q_RG g h r w D ob G) {i j : Nat} (hi : i < 16) (hj : j < 16) (e : mA D i = mA D j) : i = j := by
  have h1 := H.memT hi _ (Or.inl rfl)
  have h2 := H.memT hj _ (Or.inl rfl)
  rw [e] at h1
  omega
theorem q_RG.putH {g : q_G} {h h' : q_H} {r : Nat} {w : Nat → Nat} {D : a_T} {ob : Nat → Option Nat} {G : G_T} {f f2 : Nat → Int32} (H : q_RG g h r w D ob (sH G f)) (e : h' = q_up h (D.1 0 6) (.inr (0, 172, .inl f2))) : q_RG g h' r w D ob (sH G f2) := H.upH (by rw [e, q_up_s]) (q_kp.up q_kp.rf rfl e)
set_option maxHeartbeats 1000000 in
theorem c_RG_gather (g : q_G) {h : q_H} {r : Nat} {w : Nat → Nat} {D : a_T} {ob : Nat → Option Nat} {G : G_T} {i u : Nat} (d : Nat) (hd : 3 ≤ d) (hi : i < 16) (hu : (gM G i).1 1 = nI u) (hu20 : u ≤ 20) (hne : ne G < 2 ^ 31) (hnp : np G < 2 ^ 31) (H : q_RG g h r w D ob G) : MG g y_RG_gather b_RG_gather 5 (some .int) d 0 0 [.ref r, .ref (mA D i)] h (fun q h' => q = .inl (some (.int (nI (G_gat G i).1))) ∧ q_RG g h' r w D ob (sH G (G_gat G i).2) ∧ q_off h h' (fun y => y = D.1 0 6)) := by
  obtain ⟨le0, le1, hle⟩ := H.le.size
  have hu2 : u = ix ((gM G i).1 1) := by rw [hu, ix_nI (by omega)]
  refine MG.of (by decide +kernel) (by simp [Value.category]) (Nat.le_of_ble_eq_true rfl) ?_
  intro Z A ok
  have loop4 : ∀ (m k : Nat), k + m = np G → ∀ (h1 : q_H) (b : b_T) (x4 : Option Value), q_RG g h1 r w D ob (sH G b.2) → q_off h h1 (fun y => y = D.1 0 6) → b_4 G i m k b = G_gat G i → GW g Z A (fun q h' => q = .inl (some (.int (nI (G_gat G i).1))) ∧ q_RG g h' r w D ob (sH G (G_gat G i).2) ∧ q_off h h' (fun y => y = D.1 0 6)) 0 0 h1 130 [some (.ref r), some (.ref (mA D i)), some (.int (nI b.1)), some (.int (nI k)), x4] [] := by
    intro m
    induction m with
    | zero =>
      intro k hk h1 b x4 H1 o1 hv
      refine g_iload_n ok (dk m_RG_gather 63 rfl) (pc' := 131) rfl (i := 3) rfl rfl ?_
      refine g_aload_n ok (dk m_RG_gather 64 rfl) (pc' := 132) rfl (i := 0) rfl rfl ?_
      refine g_get ok (dk m_RG_gather 65 rfl) (pc' := 135) rfl f_RG_23 H1.fr rfl ?_
      obtain ⟨l0, l1, hlz⟩ := H1.lp.size
      refine g_callV ok (dk m_RG_gather 66 rfl) (pc' := 138) rfl c_RG_86 (c_AL_size g 0 hlz) hlz rfl rfl (by simp [Value.category]) (by omega) rfl (rc' := 0) (rs' := 0) (by omega) (by omega) (fun rv h' hcc => ?_) (fun i h' hcc => by obtain ⟨e9, -⟩ := hcc; cases e9)
      obtain ⟨e9, e2⟩ := hcc
      have e3 := e2.symm
      subst e3
      cases e9
      refine g_icmp_ge ok (dk m_RG_gather 67 rfl) (tgt := 209) (by decide) (pc' := 141) rfl (fun c_138 => ?_) (fun c_138 => absurd (show nI (np G) ≤ nI k from by rw [show k = np G by omega]; exact Int32.le_refl _) c_138)
      refine g_iload_n ok (dk m_RG_gather 97 rfl) (pc' := 210) rfl (i := 2) rfl rfl ?_
      exact g_iret ok (dk m_RG_gather 98 rfl) rfl rfl ⟨by rw [← hv]; rfl, by rw [← hv]; exact H1, o1⟩
    | succ m ih =>
      intro k hk h1 b x4 H1 o1 hv
      have hk2 : k < np G := by omega
      refine g_iload_n ok (dk m_RG_gather 63 rfl) (pc' := 131) rfl (i := 3) rfl rfl ?_
      refine g_aload_n ok (dk m_RG_gather 64 rfl) (pc' := 132) rfl (i := 0) rfl rfl ?_
      refine g_get ok (dk m_RG_gather 65 rfl) (pc' := 135) rfl f_RG_23 H1.fr rfl ?_
      obtain ⟨l0, l1, hlz⟩ := H1.lp.size
      refine g_callV ok (dk m_RG_gather 66 rfl) (pc' := 138) rfl c_RG_86 (c_AL_size g 0 hlz) hlz rfl rfl (by simp [Value.category]) (by omega) rfl (rc' := 0) (rs' := 0) (by omega) (by omega) (fun rv h' hcc => ?_) (fun i h' hcc => by obtain ⟨e9, -⟩ := hcc; cases e9)
      obtain ⟨e9, e2⟩ := hcc
      have e3 := e2.symm
      subst e3
      cases e9
      refine g_icmp_ge ok (dk m_RG_gather 67 rfl) (tgt := 209) (by decide) (pc' := 141) rfl (fun c_138 => absurd c_138 (nI_ge hk2 hnp)) (fun c_138 => ?_)
      refine g_aload_n ok (dk m_RG_gather 68 rfl) (pc' := 142) rfl (i := 0) rfl rfl ?_
      refine g_get ok (dk m_RG_gather 69 rfl) (pc' := 145) rfl f_RG_23 H1.fr rfl ?_
      refine g_iload_n ok (dk m_RG_gather 70 rfl) (pc' := 146) rfl (i := 3) rfl rfl ?_
      refine g_callV ok (dk m_RG_gather 71 rfl) (pc' := 149) rfl c_RG_112 (c_AL_get g 2 (by omega) H1.lp hk2) hlz rfl rfl (by simp [Value.category]) (by omega) rfl (rc' := 0) (rs' := 0) (by omega) (by omega) (fun rv h' hcc => ?_) (fun i h' hcc => by obtain ⟨e9, -⟩ := hcc; cases e9)
      obtain ⟨e9, e2⟩ := hcc
      have e3 := e2.symm
      subst e3
      cases e9
      refine g_castY ok (dk m_RG_gather 72 rfl) (pc' := 152) rfl k_RG_96 xc_7 ty_7 (H1.pk hk2) ?_
      refine g_astore ok (dk m_RG_gather 73 rfl) (pc' := 154) rfl (Nat.le_of_ble_eq_true rfl) rfl ?_
      refine g_aload ok (dk m_RG_gather 74 rfl) (pc' := 156) rfl rfl ?_
      refine g_getR ok (dk m_RG_gather 75 rfl) (pc' := 159) rfl f_RG_303 (H1.pk hk2) rfl ?_
      refine g_aload_n ok (dk m_RG_gather 76 rfl) (pc' := 160) rfl (i := 1) rfl rfl ?_
      refine g_acmpR_ne ok (dk m_RG_gather 77 rfl) (tgt := 203) (by decide) (pc' := 163) rfl (fun c_160 => ?_) (fun c_160 => ?_)
      · refine g_iinc ok (dk m_RG_gather 95 rfl) (pc' := 206) rfl rfl (nI_1 k) rfl ?_
        refine g_goto ok (dk m_RG_gather 96 rfl) (pc' := 130) (by decide) ?_
        exact ih (k + 1) (by omega) _ _ _ H1 o1 (by rw [← hv, b_4, if_neg (fun z => c_160 (by rw [z.1]))])
      · refine g_aload ok (dk m_RG_gather 78 rfl) (pc' := 165) rfl rfl ?_
        refine g_get ok (dk m_RG_gather 79 rfl) (pc' := 168) rfl f_RG_335 (H1.pk hk2) rfl ?_
        refine g_if_ne ok (dk m_RG_gather 80 rfl) (tgt := 203) (by decide) (pc' := 171) rfl (fun c_168 => ?_) (fun c_168 => ?_)
        · refine g_iinc ok (dk m_RG_gather 95 rfl) (pc' := 206) rfl rfl (nI_1 k) rfl ?_
          refine g_goto ok (dk m_RG_gather 96 rfl) (pc' := 130) (by decide) ?_
          exact ih (k + 1) (by omega) _ _ _ H1 o1 (by rw [← hv, b_4, if_neg (fun z => c_168 z.2)])
        · refine g_aload_n ok (dk m_RG_gather 81 rfl) (pc' := 172) rfl (i := 0) rfl rfl ?_
          refine g_get ok (dk m_RG_gather 82 rfl) (pc' := 175) rfl f_RG_37 H1.fr rfl ?_
          refine g_iload_n ok (dk m_RG_gather 83 rfl) (pc' := 176) rfl (i := 2) rfl rfl ?_
          refine g_iinc ok (dk m_RG_gather 84 rfl) (pc' := 179) rfl rfl (nI_1 b.1) rfl ?_
          refine g_aload ok (dk m_RG_gather 85 rfl) (pc' := 181) rfl rfl ?_
          refine g_getR ok (dk m_RG_gather 86 rfl) (pc' := 184) rfl f_RG_322 (H1.pk hk2) rfl ?_
          refine g_callV ok (dk m_RG_gather 87 rfl) (pc' := 187) rfl c_RG_349 (c_Row_put g (nI b.1) ((gK G k).2 0) 0 H1.hr H1.hc (by decide)) H1.hr rfl rfl (by simp [Value.category]) (by omega) rfl (rc' := 0) (rs' := 0) (by omega) (by omega) (fun rv h' hcc => ?_) (fun i h' hcc => by obtain ⟨e9, -⟩ := hcc; cases e9)
          obtain ⟨e9, e2⟩ := hcc
          cases e9
          have H2 := H1.putH e2
          have o2 := q_off.upE (q_off.rf (X := (fun y => y = D.1 0 6))) rfl e2
          clear e2
          refine g_aload_n ok (dk m_RG_gather 88 rfl) (pc' := 188) rfl (i := 0) rfl rfl ?_
          refine g_get ok (dk m_RG_gather 89 rfl) (pc' := 191) rfl f_RG_37 H2.fr rfl ?_
          refine g_iload_n ok (dk m_RG_gather 90 rfl) (pc' := 192) rfl (i := 2) rfl rfl ?_
          refine g_iinc ok (dk m_RG_gather 91 rfl) (pc' := 195) rfl rfl (nI_1 (b.1 + 1)) rfl ?_
          refine g_aload ok (dk m_RG_gather 92 rfl) (pc' := 197) rfl rfl ?_
          refine g_getR ok (dk m_RG_gather 93 rfl) (pc' := 200) rfl f_RG_317 (H2.pk hk2) rfl ?_
          refine g_callV ok (dk m_RG_gather 94 rfl) (pc' := 203) rfl c_RG_349 (c_Row_put g (nI (b_add b ((gK G k).2 0)).1) ((gK G k).2 1) 0 H2.hr H2.hc (by decide)) H2.hr rfl rfl (by simp [Value.category]) (by omega) rfl (rc' := 0) (rs' := 0) (by omega) (by omega) (fun rv h' hcc => ?_) (fun i h' hcc => by obtain ⟨e9, -⟩ := hcc; cases e9)
          obtain ⟨e9, e2⟩ := hcc
          cases e9
          have H3 := H2.putH e2
          have o3 := q_off.upE (q_off.rf (X := (fun y => y = D.1 0 6))) rfl e2
          clear e2
          refine g_iinc ok (dk m_RG_gather 95 rfl) (pc' := 206) rfl rfl (nI_1 k) rfl ?_
          refine g_goto ok (dk m_RG_gather 96 rfl) (pc' := 130) (by decide) ?_
          exact ih (k + 1) (by omega) _ _ _ H3 ((o1.tr o2).tr o3) (by rw [← hv, b_4, if_pos ⟨H1.inj (H1.own hk2) hi c_160, c_168⟩])
  have loop3 : ∀ (m k : Nat), k + m = u → ∀ (h1 : q_H) (b : b_T), q_RG g h1 r w D ob (sH G b.2) → q_off h h1 (fun y => y = D.1 0 6) → b_4 G i (np G) 0 (b_3 (gM G i) m k b) = G_gat G i → GW g Z A (fun q h' => q = .inl (some (.int (nI (G_gat G i).1))) ∧ q_RG g h' r w D ob (sH G (G_gat G i).2) ∧ q_off h h' (fun y => y = D.1 0 6)) 0 0 h1 95 [some (.ref r), some (.ref (mA D i)), some (.int (nI b.1)), some (.int (nI k)), none] [] := by
    intro m
    induction m with
    | zero =>
      intro k hk h1 b H1 o1 hv
      refine g_iload_n ok (dk m_RG_gather 46 rfl) (pc' := 96) rfl (i := 3) rfl rfl ?_
      refine g_aload_n ok (dk m_RG_gather 47 rfl) (pc' := 97) rfl (i := 1) rfl rfl ?_
      refine g_get ok (dk m_RG_gather 48 rfl) (pc' := 100) rfl f_RG_353 (H1.mem hi).1 rfl ?_
      rw [hu]
      refine g_icmp_ge ok (dk m_RG_gather 49 rfl) (tgt := 128) (by decide) (pc' := 103) rfl (fun c_100 => ?_) (fun c_100 => absurd (show nI u ≤ nI k from by rw [show k = u by omega]; exact Int32.le_refl _) c_100)
      refine g_iconst ok (dk m_RG_gather 61 rfl) (pc' := 129) rfl (v := 0) (by decide) ?_
      refine g_istore_n ok (dk m_RG_gather 62 rfl) (pc' := 130) rfl (i := 3) rfl (Nat.le_of_ble_eq_true rfl) rfl ?_
      exact loop4 (np G) 0 (by omega) _ _ _ H1 o1 hv
    | succ m ih =>
      intro k hk h1 b H1 o1 hv
      refine g_iload_n ok (dk m_RG_gather 46 rfl) (pc' := 96) rfl (i := 3) rfl rfl ?_
      refine g_aload_n ok (dk m_RG_gather 47 rfl) (pc' := 97) rfl (i := 1) rfl rfl ?_
      refine g_get ok (dk m_RG_gather 48 rfl) (pc' := 100) rfl f_RG_353 (H1.mem hi).1 rfl ?_
      rw [hu]
      refine g_icmp_ge ok (dk m_RG_gather 49 rfl) (tgt := 128) (by decide) (pc' := 103) rfl (fun c_100 => absurd c_100 (nI_ge (show k < u by omega) (by omega))) (fun c_100 => ?_)
      refine g_aload_n ok (dk m_RG_gather 50 rfl) (pc' := 104) rfl (i := 0) rfl rfl ?_
      refine g_get ok (dk m_RG_gather 51 rfl) (pc' := 107) rfl f_RG_37 H1.fr rfl ?_
      refine g_iload_n ok (dk m_RG_gather 52 rfl) (pc' := 108) rfl (i := 2) rfl rfl ?_
      refine g_iinc ok (dk m_RG_gather 53 rfl) (pc' := 111) rfl rfl (nI_1 b.1) rfl ?_
      refine g_aload_n ok (dk m_RG_gather 54 rfl) (pc' := 112) rfl (i := 1) rfl rfl ?_
      refine g_getR ok (dk m_RG_gather 55 rfl) (pc' := 115) rfl f_RG_356 (H1.mem hi).1 rfl ?_
      refine g_iload_n ok (dk m_RG_gather 56 rfl) (pc' := 116) rfl (i := 3) rfl rfl ?_
      refine g_callV ok (dk m_RG_gather 57 rfl) (pc' := 119) rfl c_RG_193 (c_Row_get g (nI k) 0 ((H1.mem hi).2.1 1 (by decide)).1 ((H1.mem hi).2.1 1 (by decide)).2 (m_len_lt _)) ((H1.mem hi).2.1 1 (by decide)).1 rfl rfl (by simp [Value.category]) (by omega) rfl (rc' := 0) (rs' := 0) (by omega) (by omega) (fun rv h' hcc => ?_) (fun i h' hcc => by obtain ⟨e9, -⟩ := hcc; cases e9)
      obtain ⟨e9, e2⟩ := hcc
      have e3 := e2.symm
      subst e3
      cases e9
      refine g_callV ok (dk m_RG_gather 58 rfl) (pc' := 122) rfl c_RG_349 (c_Row_put g (nI b.1) (r_get (m_len 1) ((gM G i).2 1) (nI k)) 0 H1.hr H1.hc (by decide)) H1.hr rfl rfl (by simp [Value.category]) (by omega) rfl (rc' := 0) (rs' := 0) (by omega) (by omega) (fun rv h' hcc => ?_) (fun i h' hcc => by obtain ⟨e9, -⟩ := hcc; cases e9)
      obtain ⟨e9, e2⟩ := hcc
      cases e9
      have H2 := H1.putH e2
      have o2 := q_off.upE (q_off.rf (X := (fun y => y = D.1 0 6))) rfl e2
      clear e2
      refine g_iinc ok (dk m_RG_gather 59 rfl) (pc' := 125) rfl rfl (nI_1 k) rfl ?_
      refine g_goto ok (dk m_RG_gather 60 rfl) (pc' := 95) (by decide) ?_
      exact ih (k + 1) (by omega) _ (b_add b (r_get (m_len 1) ((gM G i).2 1) (nI k))) H2 (o1.tr o2) (by rw [← hv]; rfl)
  have loop2 : ∀ (m k : Nat), k + m = 31 → ∀ (h1 : q_H) (b : b_T), q_RG g h1 r w D ob (sH G b.2) → q_off h h1 (fun y => y = D.1 0 6) → b_4 G i (np G) 0 (b_3 (gM G i) u 0 (b_2 (gM G i) m k b)) = G_gat G i → GW g Z A (fun q h' => q = .inl (some (.int (nI (G_gat G i).1))) ∧ q_RG g h' r w D ob (sH G (G_gat G i).2) ∧ q_off h h' (fun y => y = D.1 0 6)) 0 0 h1 50 [some (.ref r), some (.ref (mA D i)), some (.int (nI b.1)), some (.int (nI k)), none] [] := by
    intro m
    induction m with
    | zero =>
      intro k hk h1 b H1 o1 hv
      refine g_iload_n ok (dk m_RG_gather 24 rfl) (pc' := 51) rfl (i := 3) rfl rfl ?_
      refine g_bipush ok (dk m_RG_gather 25 rfl) (pc' := 53) rfl (v := 31) (by decide) ?_
      refine g_icmp_ge ok (dk m_RG_gather 26 rfl) (tgt := 93) (by decide) (pc' := 56) rfl (fun c_53 => ?_) (fun c_53 => absurd (show (31 : Int32) ≤ nI k from by rw [show k = 31 by omega]; decide) c_53)
      refine g_iconst ok (dk m_RG_gather 44 rfl) (pc' := 94) rfl (v := 0) (by decide) ?_
      refine g_istore_n ok (dk m_RG_gather 45 rfl) (pc' := 95) rfl (i := 3) rfl (Nat.le_of_ble_eq_true rfl) rfl ?_
      exact loop3 u 0 (by omega) _ _ H1 o1 hv
    | succ m ih =>
      intro k hk h1 b H1 o1 hv
      refine g_iload_n ok (dk m_RG_gather 24 rfl) (pc' := 51) rfl (i := 3) rfl rfl ?_
      refine g_bipush ok (dk m_RG_gather 25 rfl) (pc' := 53) rfl (v := 31) (by decide) ?_
      refine g_icmp_ge ok (dk m_RG_gather 26 rfl) (tgt := 93) (by decide) (pc' := 56) rfl (fun c_53 => absurd c_53 (show ¬ nI 31 ≤ nI k from nI_ge (by omega) (by decide))) (fun c_53 => ?_)
      refine g_aload_n ok (dk m_RG_gather 27 rfl) (pc' := 57) rfl (i := 1) rfl rfl ?_
      refine g_getR ok (dk m_RG_gather 28 rfl) (pc' := 60) rfl f_RG_352 (H1.mem hi).1 rfl ?_
      refine g_iload_n ok (dk m_RG_gather 29 rfl) (pc' := 61) rfl (i := 3) rfl rfl ?_
      refine g_callV ok (dk m_RG_gather 30 rfl) (pc' := 64) rfl c_RG_193 (c_Row_get g (nI k) 0 ((H1.mem hi).2.1 0 (by decide)).1 ((H1.mem hi).2.1 0 (by decide)).2 (m_len_lt _)) ((H1.mem hi).2.1 0 (by decide)).1 rfl rfl (by simp [Value.category]) (by omega) rfl (rc' := 0) (rs' := 0) (by omega) (by omega) (fun rv h' hcc => ?_) (fun i h' hcc => by obtain ⟨e9, -⟩ := hcc; cases e9)
      obtain ⟨e9, e2⟩ := hcc
      have e3 := e2.symm
      subst e3
      cases e9
      refine g_iconst ok (dk m_RG_gather 31 rfl) (pc' := 65) rfl (v := (-1)) (by decide) ?_
      refine g_icmp_eq ok (dk m_RG_gather 32 rfl) (tgt := 87) (by decide) (pc' := 68) rfl (fun c_65 => ?_) (fun c_65 => ?_)
      · refine g_iinc ok (dk m_RG_gather 42 rfl) (pc' := 90) rfl rfl (nI_1 k) rfl ?_
        refine g_goto ok (dk m_RG_gather 43 rfl) (pc' := 50) (by decide) ?_
        exact ih (k + 1) (by omega) _ b H1 o1 (by rw [← hv, b_2, if_pos c_65])
      · refine g_aload_n ok (dk m_RG_gather 33 rfl) (pc' := 69) rfl (i := 0) rfl rfl ?_
        refine g_get ok (dk m_RG_gather 34 rfl) (pc' := 72) rfl f_RG_37 H1.fr rfl ?_
        refine g_iload_n ok (dk m_RG_gather 35 rfl) (pc' := 73) rfl (i := 2) rfl rfl ?_
        refine g_iinc ok (dk m_RG_gather 36 rfl) (pc' := 76) rfl rfl (nI_1 b.1) rfl ?_
        refine g_aload_n ok (dk m_RG_gather 37 rfl) (pc' := 77) rfl (i := 1) rfl rfl ?_
        refine g_getR ok (dk m_RG_gather 38 rfl) (pc' := 80) rfl f_RG_352 (H1.mem hi).1 rfl ?_
        refine g_iload_n ok (dk m_RG_gather 39 rfl) (pc' := 81) rfl (i := 3) rfl rfl ?_
        refine g_callV ok (dk m_RG_gather 40 rfl) (pc' := 84) rfl c_RG_193 (c_Row_get g (nI k) 0 ((H1.mem hi).2.1 0 (by decide)).1 ((H1.mem hi).2.1 0 (by decide)).2 (m_len_lt _)) ((H1.mem hi).2.1 0 (by decide)).1 rfl rfl (by simp [Value.category]) (by omega) rfl (rc' := 0) (rs' := 0) (by omega) (by omega) (fun rv h' hcc => ?_) (fun i h' hcc => by obtain ⟨e9, -⟩ := hcc; cases e9)
        obtain ⟨e9, e2⟩ := hcc
        have e3 := e2.symm
        subst e3
        cases e9
        refine g_callV ok (dk m_RG_gather 41 rfl) (pc' := 87) rfl c_RG_349 (c_Row_put g (nI b.1) (r_get (m_len 0) ((gM G i).2 0) (nI k)) 0 H1.hr H1.hc (by decide)) H1.hr rfl rfl (by simp [Value.category]) (by omega) rfl (rc' := 0) (rs' := 0) (by omega) (by omega) (fun rv h' hcc => ?_) (fun i h' hcc => by obtain ⟨e9, -⟩ := hcc; cases e9)
        obtain ⟨e9, e2⟩ := hcc
        cases e9
        have H2 := H1.putH e2
        have o2 := q_off.upE (q_off.rf (X := (fun y => y = D.1 0 6))) rfl e2
        clear e2
        refine g_iinc ok (dk m_RG_gather 42 rfl) (pc' := 90) rfl rfl (nI_1 k) rfl ?_
        refine g_goto ok (dk m_RG_gather 43 rfl) (pc' := 50) (by decide) ?_
        exact ih (k + 1) (by omega) _ (b_add b (r_get (m_len 0) ((gM G i).2 0) (nI k))) H2 (o1.tr o2) (by rw [← hv, b_2, if_neg c_65])
  refine g_iconst ok (dk m_RG_gather 0 rfl) (pc' := 1) rfl (v := 0) (by decide) ?_
  refine g_istore_n ok (dk m_RG_gather 1 rfl) (pc' := 2) rfl (i := 2) rfl (Nat.le_of_ble_eq_true rfl) rfl ?_
  refine g_aload_n ok (dk m_RG_gather 2 rfl) (pc' := 3) rfl (i := 1) rfl rfl ?_
  refine g_get ok (dk m_RG_gather 3 rfl) (pc' := 6) rfl f_RG_212 (H.mem hi).1 rfl ?_
  refine g_if_eq ok (dk m_RG_gather 4 rfl) (tgt := 48) (by decide) (pc' := 9) rfl (fun c_6 => ?_) (fun c_6 => ?_)
  · refine g_iconst ok (dk m_RG_gather 22 rfl) (pc' := 49) rfl (v := 0) (by decide) ?_
    refine g_istore_n ok (dk m_RG_gather 23 rfl) (pc' := 50) rfl (i := 3) rfl (Nat.le_of_ble_eq_true rfl) rfl ?_
    exact loop2 31 0 (by omega) _ (0, gH G) H q_off.rf (by rw [G_gat, b_1, if_neg (fun z => z.1 c_6), ← hu2])
  · refine g_aload_n ok (dk m_RG_gather 5 rfl) (pc' := 10) rfl (i := 0) rfl rfl ?_
    refine g_aload_n ok (dk m_RG_gather 6 rfl) (pc' := 11) rfl (i := 1) rfl rfl ?_
    refine g_get ok (dk m_RG_gather 7 rfl) (pc' := 14) rfl f_RG_133 (H.mem hi).1 rfl ?_
    refine g_callV ok (dk m_RG_gather 8 rfl) (pc' := 17) rfl c_RG_205 (c_RG_isEpoch g ((gM G i).1 2) 1 (by omega) H) H.fr rfl rfl (by simp [Value.category]) (by omega) rfl (rc' := 0) (rs' := 0) (by omega) (by omega) (fun rv h' hcc => ?_) (fun i h' hcc => by obtain ⟨e9, -⟩ := hcc; cases e9)
    obtain ⟨e9, e2⟩ := hcc
    have e3 := e2.symm
    subst e3
    cases e9
    refine g_if_eq ok (dk m_RG_gather 9 rfl) (tgt := 48) (by decide) (pc' := 20) rfl (fun c_17 => ?_) (fun c_17 => ?_)
    · refine g_iconst ok (dk m_RG_gather 22 rfl) (pc' := 49) rfl (v := 0) (by decide) ?_
      refine g_istore_n ok (dk m_RG_gather 23 rfl) (pc' := 50) rfl (i := 3) rfl (Nat.le_of_ble_eq_true rfl) rfl ?_
      exact loop2 31 0 (by omega) _ (0, gH G) H q_off.rf (by rw [G_gat, b_1, if_neg (fun z => b2i_0 c_17 z.2), ← hu2])
    · obtain ⟨j, hj, he⟩ := r_in_of hne (b2i_n c_17)
      have hy : ix (nI j) = j := ix_nI (by omega)
      refine g_aload_n ok (dk m_RG_gather 10 rfl) (pc' := 21) rfl (i := 0) rfl rfl ?_
      refine g_get ok (dk m_RG_gather 11 rfl) (pc' := 24) rfl f_RG_37 H.fr rfl ?_
      refine g_iload_n ok (dk m_RG_gather 12 rfl) (pc' := 25) rfl (i := 2) rfl rfl ?_
      refine g_iinc ok (dk m_RG_gather 13 rfl) (pc' := 28) rfl rfl (nI_1 0) rfl ?_
      refine g_aload_n ok (dk m_RG_gather 14 rfl) (pc' := 29) rfl (i := 0) rfl rfl ?_
      refine g_get ok (dk m_RG_gather 15 rfl) (pc' := 32) rfl f_RG_29 H.fr rfl ?_
      refine g_aload_n ok (dk m_RG_gather 16 rfl) (pc' := 33) rfl (i := 1) rfl rfl ?_
      refine g_get ok (dk m_RG_gather 17 rfl) (pc' := 36) rfl f_RG_133 (H.mem hi).1 rfl ?_
      rw [he]
      refine g_callV ok (dk m_RG_gather 18 rfl) (pc' := 39) rfl c_RG_112 (c_AL_get g 2 (by omega) H.le hj) hle rfl rfl (by simp [Value.category]) (by omega) rfl (rc' := 0) (rs' := 0) (by omega) (by omega) (fun rv h' hcc => ?_) (fun i h' hcc => by obtain ⟨e9, -⟩ := hcc; cases e9)
      obtain ⟨e9, e2⟩ := hcc
      have e3 := e2.symm
      subst e3
      cases e9
      refine g_castY ok (dk m_RG_gather 19 rfl) (pc' := 42) rfl k_RG_50 xc_5 ty_5 (H.ep hj).1 ?_
      refine g_get ok (dk m_RG_gather 20 rfl) (pc' := 45) rfl f_RG_61 (H.ep hj).1 rfl ?_
      refine g_callV ok (dk m_RG_gather 21 rfl) (pc' := 48) rfl c_RG_349 (c_Row_put g (nI ((0, gH G) : b_T).1) ((gE G j).1 2) 0 (show q_RG g h r w D ob (sH G (gH G)) from H).hr (show q_RG g h r w D ob (sH G (gH G)) from H).hc (by decide)) (show q_RG g h r w D ob (sH G (gH G)) from H).hr rfl rfl (by simp [Value.category]) (by omega) rfl (rc' := 0) (rs' := 0) (by omega) (by omega) (fun rv h' hcc => ?_) (fun i h' hcc => by obtain ⟨e9, -⟩ := hcc; cases e9)
      obtain ⟨e9, e2⟩ := hcc
      cases e9
      have H2 := (show q_RG g h r w D ob (sH G (gH G)) from H).putH e2
      have o2 := q_off.upE (q_off.rf (X := (fun y => y = D.1 0 6))) rfl e2
      clear e2
      refine g_iconst ok (dk m_RG_gather 22 rfl) (pc' := 49) rfl (v := 0) (by decide) ?_
      refine g_istore_n ok (dk m_RG_gather 23 rfl) (pc' := 50) rfl (i := 3) rfl (Nat.le_of_ble_eq_true rfl) rfl ?_
      exact loop2 31 0 (by omega) _ (b_add (0, gH G) ((gE G j).1 2)) H2 o2 (by rw [G_gat, b_1, if_pos ⟨c_6, b2i_n c_17⟩, he, hy, ← hu2])
set_option maxHeartbeats 1000000 in
theorem c_RG_memberNumbered (g : q_G) {h : q_H} {r : Nat} {w : Nat → Nat} {D : a_T} {ob : Nat → Option Nat} {G : G_T} (m : Int32) (d mc ms : Nat) (hd : 6 ≤ d) (hmc : 1 ≤ mc) (hms : 6 ≤ ms) (H : q_RG g h r w D ob G) : MG g y_RG_memberNumbered b_RG_memberNumbered 2 (some (.object "RatchetGroup$Member")) d mc ms [.ref r, .int m] h (fun q h' => ((r_in 16 m ∧ q = .inl (some (.ref (mA D (ix m))))) ∨ (¬ r_in 16 m ∧ q = .inr 0)) ∧ h' = h) := by
  obtain ⟨lm0, lm1, hlm⟩ := H.lm.size
  refine MG.of (by decide +kernel) (by simp [Value.category]) (Nat.le_of_ble_eq_true rfl) ?_
  intro Z A ok
  refine g_aload_n ok (dk m_RG_memberNumbered 0 rfl) (pc' := 1) rfl (i := 0) rfl rfl ?_
  refine g_iload_n ok (dk m_RG_memberNumbered 1 rfl) (pc' := 2) rfl (i := 1) rfl rfl ?_
  refine g_callV ok (dk m_RG_memberNumbered 2 rfl) (pc' := 5) rfl c_RG_198 (c_RG_isMember g m 1 (by omega) H) H.fr rfl rfl (by simp [Value.category]) (by omega) rfl (rc' := mc) (rs' := ms) (by omega) (by omega) (fun rv h' hcc => ?_) (fun i h' hcc => by obtain ⟨e9, -⟩ := hcc; cases e9)
  obtain ⟨e9, e2⟩ := hcc
  have e3 := e2.symm
  subst e3
  cases e9
  refine g_if_ne ok (dk m_RG_memberNumbered 3 rfl) (tgt := 19) (by decide) (pc' := 8) rfl (fun c_5 => ?_) (fun c_5 => ?_)
  · obtain ⟨j, hj, rfl⟩ := r_in_of (by decide) (b2i_n c_5)
    have hx : ix (nI j) = j := ix_nI (by omega)
    refine g_aload_n ok (dk m_RG_memberNumbered 9 rfl) (pc' := 20) rfl (i := 0) rfl rfl ?_
    refine g_get ok (dk m_RG_memberNumbered 10 rfl) (pc' := 23) rfl f_RG_19 H.fr rfl ?_
    refine g_iload_n ok (dk m_RG_memberNumbered 11 rfl) (pc' := 24) rfl (i := 1) rfl rfl ?_
    refine g_callV ok (dk m_RG_memberNumbered 12 rfl) (pc' := 27) rfl c_RG_112 (c_AL_get g 2 (by omega) H.lm hj) hlm rfl rfl (by simp [Value.category]) (by omega) rfl (rc' := mc) (rs' := ms) (by omega) (by omega) (fun rv h' hcc => ?_) (fun i h' hcc => by obtain ⟨e9, -⟩ := hcc; cases e9)
    obtain ⟨e9, e2⟩ := hcc
    have e3 := e2.symm
    subst e3
    cases e9
    refine g_castY ok (dk m_RG_memberNumbered 13 rfl) (pc' := 30) rfl k_RG_41 xc_4 ty_4 (H.mem hj).1 ?_
    exact g_aret ok (dk m_RG_memberNumbered 14 rfl) rfl (Or.inl ⟨_, rfl⟩) (Or.inr ⟨_, rfl⟩) ⟨Or.inl ⟨b2i_n c_5, by rw [hx]⟩, rfl⟩
  · exact g_throw ok (kx := 0) (sx := 263) (tx := "no such member") (Or.inl ⟨rfl, rfl, rfl⟩) (by decide +kernel) (dk m_RG_memberNumbered 4 rfl) (dk m_RG_memberNumbered 5 rfl) (Or.inr ⟨dk m_RG_memberNumbered 6 rfl, rfl⟩) (dk m_RG_memberNumbered 7 rfl) (dk m_RG_memberNumbered 8 rfl) (by decide) (by omega) rfl (by omega) (by omega) ⟨Or.inr ⟨b2i_0 c_5, rfl⟩, rfl⟩
noncomputable def A_member (G : G_T) (m wh : Int32) : Int32 := by
  classical exact if r_in 16 m then (if wh = 0 then (gM G (ix m)).1 2 else if wh = 1 then (gM G (ix m)).1 3 else if wh = 2 then nI (G_gat G (ix m)).1 else if wh = 3 then (gM G (ix m)).1 5 else -1) else -1
def G_u (G : G_T) : Prop := ∀ i, i < 16 → ∃ u : Nat, u ≤ 20 ∧ (gM G i).1 1 = nI u
set_option maxHeartbeats 1000000 in
theorem c_RG_member (g : q_G) {h : q_H} {r : Nat} {w : Nat → Nat} {D : a_T} {ob : Nat → Option Nat} {G : G_T} (m wh : Int32) (d : Nat) (hd : 4 ≤ d) (hU : G_u G) (hne : ne G < 2 ^ 31) (hnp : np G < 2 ^ 31) (H : q_RG g h r w D ob G) : MG g y_RG_member b_RG_member 4 (some .int) d 0 0 [.ref r, .int m, .int wh] h (fun q h' => q = .inl (some (.int (A_member G m wh))) ∧ ∃ f, q_RG g h' r w D ob (sH G f)) := by
  obtain ⟨lm0, lm1, hlm⟩ := H.lm.size
  refine MG.of (by decide +kernel) (by simp [Value.category]) (Nat.le_of_ble_eq_true rfl) ?_
  intro Z A ok
  refine g_aload_n ok (dk m_RG_member 0 rfl) (pc' := 1) rfl (i := 0) rfl rfl ?_
  refine g_iload_n ok (dk m_RG_member 1 rfl) (pc' := 2) rfl (i := 1) rfl rfl ?_
  refine g_callV ok (dk m_RG_member 2 rfl) (pc' := 5) rfl c_RG_198 (c_RG_isMember g m 1 (by omega) H) H.fr rfl rfl (by simp [Value.category]) (by omega) rfl (rc' := 0) (rs' := 0) (by omega) (by omega) (fun rv h' hcc => ?_) (fun i h' hcc => by obtain ⟨e9, -⟩ := hcc; cases e9)
  obtain ⟨e9, e2⟩ := hcc
  have e3 := e2.symm
  subst e3
  cases e9
  refine g_if_ne ok (dk m_RG_member 3 rfl) (tgt := 10) (by decide) (pc' := 8) rfl (fun c_5 => ?_) (fun c_5 => ?_)
  · obtain ⟨j, hj, rfl⟩ := r_in_of (by decide) (b2i_n c_5)
    have hx : ix (nI j) = j := ix_nI (by omega)
    obtain ⟨u, hu20, hu⟩ := hU j hj
    refine g_aload_n ok (dk m_RG_member 6 rfl) (pc' := 11) rfl (i := 0) rfl rfl ?_
    refine g_get ok (dk m_RG_member 7 rfl) (pc' := 14) rfl f_RG_19 H.fr rfl ?_
    refine g_iload_n ok (dk m_RG_member 8 rfl) (pc' := 15) rfl (i := 1) rfl rfl ?_
    refine g_callV ok (dk m_RG_member 9 rfl) (pc' := 18) rfl c_RG_112 (c_AL_get g 2 (by omega) H.lm hj) hlm rfl rfl (by simp [Value.category]) (by omega) rfl (rc' := 0) (rs' := 0) (by omega) (by omega) (fun rv h' hcc => ?_) (fun i h' hcc => by obtain ⟨e9, -⟩ := hcc; cases e9)
    obtain ⟨e9, e2⟩ := hcc
    have e3 := e2.symm
    subst e3
    cases e9
    refine g_castY ok (dk m_RG_member 10 rfl) (pc' := 21) rfl k_RG_41 xc_4 ty_4 (H.mem hj).1 ?_
    refine g_astore_n ok (dk m_RG_member 11 rfl) (pc' := 22) rfl (i := 3) rfl (Nat.le_of_ble_eq_true rfl) rfl ?_
    refine g_iload_n ok (dk m_RG_member 12 rfl) (pc' := 23) rfl (i := 2) rfl rfl ?_
    by_cases s_0 : wh = 0
    · subst s_0
      refine g_tableIn ok (dk m_RG_member 13 rfl) (by decide) (by decide) (off := 29) rfl (tgt := 52) (by decide) ?_
      refine g_aload_n ok (dk m_RG_member 14 rfl) (pc' := 53) rfl (i := 3) rfl rfl ?_
      refine g_get ok (dk m_RG_member 15 rfl) (pc' := 56) rfl f_RG_133 (H.mem hj).1 rfl ?_
      exact g_iret ok (dk m_RG_member 16 rfl) rfl rfl ⟨by rw [A_member, if_pos (b2i_n c_5), hx]; rfl, gH G, H⟩
    by_cases s_1 : wh = 1
    · subst s_1
      refine g_tableIn ok (dk m_RG_member 13 rfl) (by decide) (by decide) (off := 34) rfl (tgt := 57) (by decide) ?_
      refine g_aload_n ok (dk m_RG_member 17 rfl) (pc' := 58) rfl (i := 3) rfl rfl ?_
      refine g_get ok (dk m_RG_member 18 rfl) (pc' := 61) rfl f_RG_129 (H.mem hj).1 rfl ?_
      exact g_iret ok (dk m_RG_member 19 rfl) rfl rfl ⟨by rw [A_member, if_pos (b2i_n c_5), hx]; rfl, gH G, H⟩
    by_cases s_2 : wh = 2
    · subst s_2
      refine g_tableIn ok (dk m_RG_member 13 rfl) (by decide) (by decide) (off := 39) rfl (tgt := 62) (by decide) ?_
      refine g_aload_n ok (dk m_RG_member 20 rfl) (pc' := 63) rfl (i := 0) rfl rfl ?_
      refine g_aload_n ok (dk m_RG_member 21 rfl) (pc' := 64) rfl (i := 3) rfl rfl ?_
      refine g_callV ok (dk m_RG_member 22 rfl) (pc' := 67) rfl c_RG_189 (c_RG_gather g 3 (by omega) hj hu hu20 hne hnp H) H.fr rfl rfl (by simp [Value.category]) (by omega) rfl (rc' := 0) (rs' := 0) (by omega) (by omega) (fun rv h' hcc => ?_) (fun i h' hcc => by obtain ⟨e9, -⟩ := hcc; cases e9)
      obtain ⟨e9, H2, o2⟩ := hcc
      cases e9
      exact g_iret ok (dk m_RG_member 23 rfl) rfl rfl ⟨by rw [A_member, if_pos (b2i_n c_5), hx]; rfl, _, H2⟩
    by_cases s_3 : wh = 3
    · subst s_3
      refine g_tableIn ok (dk m_RG_member 13 rfl) (by decide) (by decide) (off := 45) rfl (tgt := 68) (by decide) ?_
      refine g_aload_n ok (dk m_RG_member 24 rfl) (pc' := 69) rfl (i := 3) rfl rfl ?_
      refine g_get ok (dk m_RG_member 25 rfl) (pc' := 72) rfl f_RG_202 (H.mem hj).1 rfl ?_
      exact g_iret ok (dk m_RG_member 26 rfl) rfl rfl ⟨by rw [A_member, if_pos (b2i_n c_5), hx]; rfl, gH G, H⟩
    refine g_tableOut ok (dk m_RG_member 13 rfl) (sw_out4 s_0 s_1 s_2 s_3) (tgt := 73) (by decide) ?_
    refine g_iconst ok (dk m_RG_member 27 rfl) (pc' := 74) rfl (v := (-1)) (by decide) ?_
    exact g_iret ok (dk m_RG_member 28 rfl) rfl rfl ⟨by rw [A_member, if_pos (b2i_n c_5), if_neg s_0, if_neg s_1, if_neg s_2, if_neg s_3], gH G, H⟩
  · refine g_iconst ok (dk m_RG_member 4 rfl) (pc' := 9) rfl (v := (-1)) (by decide) ?_
    exact g_iret ok (dk m_RG_member 5 rfl) rfl rfl ⟨by rw [A_member, if_neg (b2i_0 c_5)], gH G, H⟩
theorem b_2_le (M : m_T) : ∀ (m k : Nat) (b : b_T), (b_2 M m k b).1 ≤ b.1 + m := by
  intro m
  induction m with
  | zero => intro k b; exact Nat.le_refl _
  | succ m ih =>
    intro k b
    refine Nat.le_trans (ih (k + 1) _) ?_
    split
    · omega
    · show b.1 + 1 + m ≤ _
      omega
theorem b_3_le (M : m_T) : ∀ (m k : Nat) (b : b_T), (b_3 M m k b).1 ≤ b.1 + m := by
  intro m
  induction m with
  | zero => intro k b; exact Nat.le_refl _
  | succ m ih =>
    intro k b
    refine Nat.le_trans (ih (k + 1) _) ?_
    show b.1 + 1 + m ≤ _
    omega
theorem b_4_le (G : G_T) (i : Nat) : ∀ (m k : Nat) (b : b_T), (b_4 G i m k b).1 ≤ b.1 + 2 * m := by
  intro m
  induction m with
  | zero => intro k b; exact Nat.le_refl _
  | succ m ih =>
    intro k b
    refine Nat.le_trans (ih (k + 1) _) ?_
    split
    · show b.1 + 1 + 1 + 2 * m ≤ _
      omega
    · omega
theorem G_gat_le {G : G_T} {i u : Nat} (hu : (gM G i).1 1 = nI u) (hu20 : u ≤ 20) : (G_gat G i).1 ≤ 52 + 2 * np G := by
  refine Nat.le_trans (b_4_le _ _ _ _ _) ?_
  have h3 := b_3_le (gM G i) (ix ((gM G i).1 1)) 0 (b_2 (gM G i) 31 0 (b_1 G i (0, gH G)))
  have h2 := b_2_le (gM G i) 31 0 (b_1 G i (0, gH G))
  have h1 : (b_1 G i (0, gH G)).1 ≤ 1 := by
    unfold b_1
    split
    · exact Nat.le_refl _
    · exact Nat.zero_le _
  rw [hu, ix_nI (by omega)] at h3
  rw [hu, ix_nI (by omega)]
  omega
noncomputable def S_tl (f : Nat → Int32) : Nat → Nat → s_T → s_T
  | 0, _, S => S
  | m + 1, k, S => S_tl f m (k + 1) (S_tell S (r_get 172 f (nI k)))
def S_n (S : s_T) (n k0 : Nat) : Prop := S.2 1 = nI n ∧ n ≤ 2600 ∧ S.2 3 = nI k0 ∧ k0 ≤ 2200
noncomputable def G_comp (G : G_T) (i : Nat) (n k0 : Nat) : G_T := sS (sH G (G_gat G i).2) (S_set n (2201 - k0) (S_tl (G_gat G i).2 (G_gat G i).1 0 (gS G)))
theorem q_RG.tS {g : q_G} {h h' : q_H} {r : Nat} {w : Nat → Nat} {D : a_T} {ob : Nat → Option Nat} {G : G_T} (H : q_RG g h r w D ob G) {S : s_T} (hs : q_sec h' (D.1 0 0) (D.1 1) (D.1 2) S) (ho : q_off h h' (s_P (D.1 0 0) (D.1 2))) : q_RG g h' r w D ob (sS G S) := H.upS hs (ho.kp.wk (fun y hy => H.secT y (s_P_A hy)))
set_option maxHeartbeats 1000000 in
theorem c_RG_compromise (g : q_G) {h : q_H} {r : Nat} {w : Nat → Nat} {D : a_T} {ob : Nat → Option Nat} {G : G_T} (m : Int32) {n k0 : Nat} (d mc ms : Nat) (hd : 7 ≤ d) (hmc : 1 ≤ mc) (hms : 6 ≤ ms) (hU : G_u G) (hne : ne G < 2 ^ 31) (hnp : np G ≤ 60) (hS : S_n (gS G) n k0) (H : q_RG g h r w D ob G) : MG g y_RG_compromise b_RG_compromise 4 (some .int) d mc ms [.ref r, .int m] h (fun q h' => (r_in 16 m ∧ q = .inl (some (.int (nI (G_gat G (ix m)).1))) ∧ q_RG g h' r w D ob (G_comp G (ix m) n k0)) ∨ (¬ r_in 16 m ∧ q = .inr 0 ∧ h' = h)) := by
  refine MG.of (by decide +kernel) (by simp [Value.category]) (Nat.le_of_ble_eq_true rfl) ?_
  intro Z A ok
  have hn := hS.2.1
  have hk0 := hS.2.2.2
  have loop : ∀ mc ms : Nat, 0 ≤ mc → 0 ≤ ms → ∀ j : Nat, j < 16 → ix (nI j) = j → r_in 16 (nI j) → (G_gat G j).1 < 2 ^ 31 → ∀ (mm k : Nat), k + mm = (G_gat G j).1 → ∀ (h1 : q_H) (S : s_T), q_RG g h1 r w D ob (sS (sH G (G_gat G j).2) S) → S_tl (G_gat G j).2 mm k S = S_tl (G_gat G j).2 (G_gat G j).1 0 (gS G) → S.2 1 = nI n → S.2 3 = nI k0 → GW g Z A (fun q h' => (r_in 16 (nI j) ∧ q = .inl (some (.int (nI (G_gat G j).1))) ∧ q_RG g h' r w D ob (G_comp G j n k0)) ∨ (¬ r_in 16 (nI j) ∧ q = .inr 0 ∧ h' = h)) mc ms h1 12 [some (.ref r), some (.int (nI j)), some (.int (nI (G_gat G j).1)), some (.int (nI k))] [] := by
    intro mc ms hmc hms j hj hx hr hc mm
    induction mm with
    | zero =>
      intro k hk h1 S H1 hv hS1 hS3
      refine g_iload_n ok (dk m_RG_compromise 8 rfl) (pc' := 13) rfl (i := 3) rfl rfl ?_
      refine g_iload_n ok (dk m_RG_compromise 9 rfl) (pc' := 14) rfl (i := 2) rfl rfl ?_
      refine g_icmp_ge ok (dk m_RG_compromise 10 rfl) (tgt := 38) (by decide) (pc' := 17) rfl (fun c_14 => ?_) (fun c_14 => absurd (show nI (G_gat G j).1 ≤ nI k from by rw [show k = (G_gat G j).1 by omega]; exact Int32.le_refl _) c_14)
      refine g_aload_n ok (dk m_RG_compromise 20 rfl) (pc' := 39) rfl (i := 0) rfl rfl ?_
      refine g_get ok (dk m_RG_compromise 21 rfl) (pc' := 42) rfl f_RG_12 H1.fr rfl ?_
      refine g_callV ok (dk m_RG_compromise 22 rfl) (pc' := 45) rfl c_RG_180 (c_Sec_settle g 3 (by omega) hS1 hn hS3 hk0 H1.sec) H1.sec.1 rfl rfl (by simp [Value.category]) (by omega) rfl (rc' := mc) (rs' := ms) (by omega) (by omega) (fun rv h' hcc => ?_) (fun i h' hcc => by obtain ⟨e9, -⟩ := hcc; cases e9)
      obtain ⟨e9, hs2, o2⟩ := hcc
      cases e9
      have H2 := H1.tS hs2 o2
      refine g_iload_n ok (dk m_RG_compromise 23 rfl) (pc' := 46) rfl (i := 2) rfl rfl ?_
      exact g_iret ok (dk m_RG_compromise 24 rfl) rfl rfl (Or.inl ⟨hr, rfl, by rw [G_comp, ← hv]; exact H2⟩)
    | succ mm ih =>
      intro k hk h1 S H1 hv hS1 hS3
      refine g_iload_n ok (dk m_RG_compromise 8 rfl) (pc' := 13) rfl (i := 3) rfl rfl ?_
      refine g_iload_n ok (dk m_RG_compromise 9 rfl) (pc' := 14) rfl (i := 2) rfl rfl ?_
      refine g_icmp_ge ok (dk m_RG_compromise 10 rfl) (tgt := 38) (by decide) (pc' := 17) rfl (fun c_14 => absurd c_14 (nI_ge (show k < (G_gat G j).1 by omega) hc)) (fun c_14 => ?_)
      refine g_aload_n ok (dk m_RG_compromise 11 rfl) (pc' := 18) rfl (i := 0) rfl rfl ?_
      refine g_get ok (dk m_RG_compromise 12 rfl) (pc' := 21) rfl f_RG_12 H1.fr rfl ?_
      refine g_aload_n ok (dk m_RG_compromise 13 rfl) (pc' := 22) rfl (i := 0) rfl rfl ?_
      refine g_get ok (dk m_RG_compromise 14 rfl) (pc' := 25) rfl f_RG_37 H1.fr rfl ?_
      refine g_iload_n ok (dk m_RG_compromise 15 rfl) (pc' := 26) rfl (i := 3) rfl rfl ?_
      refine g_callV ok (dk m_RG_compromise 16 rfl) (pc' := 29) rfl c_RG_193 (c_Row_get g (nI k) 0 H1.hr H1.hc (by decide)) H1.hr rfl rfl (by simp [Value.category]) (by omega) rfl (rc' := mc) (rs' := ms) (by omega) (by omega) (fun rv h' hcc => ?_) (fun i h' hcc => by obtain ⟨e9, -⟩ := hcc; cases e9)
      obtain ⟨e9, e2⟩ := hcc
      have e3 := e2.symm
      subst e3
      cases e9
      refine g_callV ok (dk m_RG_compromise 17 rfl) (pc' := 32) rfl c_RG_195 (c_Sec_tell g (r_get 172 (G_gat G j).2 (nI k)) 1 (by omega) H1.sec) H1.sec.1 rfl rfl (by simp [Value.category]) (by omega) rfl (rc' := mc) (rs' := ms) (by omega) (by omega) (fun rv h' hcc => ?_) (fun i h' hcc => by obtain ⟨e9, -⟩ := hcc; cases e9)
      obtain ⟨e9, hs2, o2⟩ := hcc
      cases e9
      have H2 := H1.tS hs2 o2
      refine g_iinc ok (dk m_RG_compromise 18 rfl) (pc' := 35) rfl rfl (nI_1 k) rfl ?_
      refine g_goto ok (dk m_RG_compromise 19 rfl) (pc' := 12) (by decide) ?_
      exact ih (k + 1) (by omega) _ _ H2 (by rw [← hv]; rfl) (by rw [(S_tell_k _ _).1]; exact hS1) (by rw [(S_tell_k _ _).2.2.1]; exact hS3)
  refine g_aload_n ok (dk m_RG_compromise 0 rfl) (pc' := 1) rfl (i := 0) rfl rfl ?_
  refine g_aload_n ok (dk m_RG_compromise 1 rfl) (pc' := 2) rfl (i := 0) rfl rfl ?_
  refine g_iload_n ok (dk m_RG_compromise 2 rfl) (pc' := 3) rfl (i := 1) rfl rfl ?_
  refine g_callV ok (dk m_RG_compromise 3 rfl) (pc' := 6) rfl c_RG_82 (c_RG_memberNumbered g m 6 1 6 (by omega) (by omega) (by omega) H) H.fr rfl rfl (by simp [Value.category]) (by omega) rfl (rc' := (mc - 1)) (rs' := (ms - 6)) (by omega) (by omega) (fun rv h' hcc => ?_) (fun i h' hcc => by obtain ⟨e9 | ⟨hr, e9⟩, e3⟩ := hcc; exact absurd e9.2 (fun z => by cases z); exact Or.inr ⟨hr, e9, e3⟩)
  have hr : r_in 16 m ∧ rv = some (.ref (mA D (ix m))) := by
    rcases hcc.1 with ⟨a, b⟩ | ⟨a, b⟩
    · exact ⟨a, Sum.inl.inj b⟩
    · cases b
  obtain ⟨hr, rfl⟩ := hr
  have e4 := hcc.2.symm
  clear hcc
  subst e4
  obtain ⟨j, hj, rfl⟩ := r_in_of (by decide) hr
  have hx : ix (nI j) = j := ix_nI (by omega)
  rw [hx]
  obtain ⟨u, hu20, hu⟩ := hU j hj
  have hc : (G_gat G j).1 < 2 ^ 31 := by have q := G_gat_le hu hu20; omega
  refine g_callV ok (dk m_RG_compromise 4 rfl) (pc' := 9) rfl c_RG_189 (c_RG_gather g 3 (by omega) hj hu hu20 hne (by omega) H) H.fr rfl rfl (by simp [Value.category]) (by omega) rfl (rc' := (mc - 1)) (rs' := (ms - 6)) (by omega) (by omega) (fun rv h' hcc => ?_) (fun i h' hcc => by obtain ⟨e9, -⟩ := hcc; cases e9)
  obtain ⟨e9, H2, o2⟩ := hcc
  cases e9
  refine g_istore_n ok (dk m_RG_compromise 5 rfl) (pc' := 10) rfl (i := 2) rfl (Nat.le_of_ble_eq_true rfl) rfl ?_
  refine g_iconst ok (dk m_RG_compromise 6 rfl) (pc' := 11) rfl (v := 0) (by decide) ?_
  refine g_istore_n ok (dk m_RG_compromise 7 rfl) (pc' := 12) rfl (i := 3) rfl (Nat.le_of_ble_eq_true rfl) rfl ?_
  exact loop _ _ (by omega) (by omega) j hj hx hr hc (G_gat G j).1 0 (by omega) _ (gS G) H2 rfl hS.1 hS.2.2.1
end
section
/-! ===== the group grows: tags anew, a package, a proposal, an epoch more ===== -/
theorem q_sec.som {h : q_H} {s : Nat} {ra rb : Nat → Nat} {S : s_T} (hs : q_sec h s ra rb S) {y : Nat} (hy : s_A s ra rb y) : ∃ o, h y = some o := by
  rcases hy with rfl | ⟨i, hi, rfl | rfl⟩
  · exact ⟨_, hs.1⟩
  · exact ⟨_, (hs.2.1 i hi).1⟩
  · exact ⟨_, (hs.2.1 i hi).2⟩
theorem q_mem.som {h : q_H} {s : Nat} {ra rb : Nat → Nat} {S : m_T} (hs : q_mem h s ra rb S) {y : Nat} (hy : m_A s ra rb y) : ∃ o, h y = some o := by
  rcases hy with rfl | ⟨i, hi, rfl | rfl⟩
  · exact ⟨_, hs.1⟩
  · exact ⟨_, (hs.2.1 i hi).1⟩
  · exact ⟨_, (hs.2.1 i hi).2⟩
theorem q_ep.som {h : q_H} {e t pr pb : Nat} {ra rb : Nat → Nat} {E : e_T} (he : q_ep h e t pr pb ra rb E) {y : Nat} (hy : ep_A e t pr pb ra rb y) : ∃ o, h y = some o := by
  rcases hy with rfl | rfl | rfl | rfl | ⟨i, hi, rfl | rfl⟩
  · exact ⟨_, he.1⟩
  · exact ⟨_, he.2.1.1⟩
  · exact ⟨_, he.2.2.1⟩
  · exact ⟨_, he.2.2.2.1⟩
  · exact ⟨_, (he.2.1.2.1 i hi).1⟩
  · exact ⟨_, (he.2.1.2.1 i hi).2⟩
theorem q_lst.somb {g : q_G} {h : q_H} {a : Nat} {ob : Option Nat} {cnt : Nat} {el : Nat → Nat} (hl : q_lst g h a ob cnt el) {b : Nat} (hb : ob = some b) : ∃ o, h b = some o := by
  subst hb
  obtain ⟨n, f, mv, h1, h2, -⟩ := hl
  exact ⟨_, h2⟩
theorem q_pr.som {h : q_H} {a : Nat} {pk : Nat → Nat} {n : Nat} {p : p_T} (hp : q_pr h a pk n p) : ∃ o, h a = some o := by
  rcases hp with ⟨-, -, h3⟩ | ⟨-, h3⟩ | ⟨-, h3⟩ <;> exact ⟨_, h3⟩
section
variable {g : q_G} {h h' : q_H} {r : Nat} {w : Nat → Nat} {D : a_T} {ob : Nat → Option Nat} {G : G_T}
theorem q_RG.lz (H : q_RG g h r w D ob G) {k : Nat} (h1 : 1 ≤ k) (h4 : k ≤ 4) : (∃ o, h (D.1 0 k) = some o) ∧ ∀ b, ob k = some b → ∃ o, h b = some o := by
  rcases (show k = 1 ∨ k = 2 ∨ k = 3 ∨ k = 4 by omega) with rfl | rfl | rfl | rfl
  · obtain ⟨e, mv, hz⟩ := H.lm.size
    exact ⟨⟨_, hz⟩, fun b hb => H.lm.somb hb⟩
  · obtain ⟨e, mv, hz⟩ := H.lp.size
    exact ⟨⟨_, hz⟩, fun b hb => H.lp.somb hb⟩
  · obtain ⟨e, mv, hz⟩ := H.lq.size
    exact ⟨⟨_, hz⟩, fun b hb => H.lq.somb hb⟩
  · obtain ⟨e, mv, hz⟩ := H.le.size
    exact ⟨⟨_, hz⟩, fun b hb => H.le.somb hb⟩
theorem q_RG.retag (H : q_RG g h r w D ob G) {w' : Nat → Nat} (hw : ∀ y o, h y = some o → w y ≠ 7 → w' y = w y) : q_RG g h r w' D ob G := by
  have T : ∀ {y : Nat} {n : Nat}, w y = n → n ≠ 7 → (∃ o, h y = some o) → w' y = n := fun {y n} a b c => by
    obtain ⟨o, c⟩ := c
    rw [hw y o c (by omega)]
    exact a
  refine ⟨⟨H.fr, T H.1.2 (by decide) ⟨_, H.fr⟩⟩, ⟨H.sec, fun y hy => T (H.secT y hy) (by decide) (H.sec.som hy)⟩, ⟨⟨H.hr, H.hc⟩, T H.2.2.1.2.1 (by decide) ⟨_, H.hr⟩, T H.2.2.1.2.2 (by decide) ⟨_, H.hc⟩⟩, ⟨H.lm, H.lp, H.lq, H.le⟩,
    fun k h1 h4 => ⟨T (H.ls h1 h4).1 (by omega) (H.lz h1 h4).1, fun b hb => T ((H.ls h1 h4).2 b hb) (by omega) ((H.lz h1 h4).2 b hb)⟩,
    fun i hi => ⟨H.mem hi, fun y hy => T (H.memT hi y hy) (by omega) ((H.mem hi).som hy)⟩, fun i hi => ⟨H.pk hi, H.own hi, T (H.pkT hi) (by omega) ⟨_, H.pk hi⟩⟩,
    fun i hi => ⟨H.pr hi, T (H.prT hi) (by decide) (H.pr hi).som⟩, fun i hi => ⟨H.ep hi, fun y hy => T (H.epT hi y hy) (by omega) ((H.ep hi).som hy)⟩, H.n1⟩
/-- a cell more, that is nobody's yet -/
theorem q_RG.newX (H : q_RG g h r w D ob G) {x : Nat} {ox : q_O} (hx : h x = none) (e : h' = q_up h x ox) : q_RG g h' r (va_up w x 7) D ob G ∧ va_up w x 7 x = 7 ∧ q_kp h h' (fun _ => False) := by
  have hk : q_kp h h' (fun _ => False) := q_kp.nw q_kp.rf hx e
  exact ⟨(H.retag (w' := va_up w x 7) (fun y o hy _ => if_neg (q_on hy hx))).keep (hk.wk (fun _ z => z.elim)), if_pos rfl, hk⟩
theorem q_RG.addP (H : q_RG g h r w D ob G) {x o : Nat} {K : Nat → Int32} {ob' : Option Nat} (hx : h x = some (.inl (7, k_fs (mA D o) K))) (ho : o < 16) (hwx : w x = 7) (hl : q_lst g h' (D.1 0 2) ob' (np G + 1) (va_up (pA D) (np G) x)) (hk0 : ∀ y o, h y = some o → y ≠ D.1 0 2 → (∀ b, ob 2 = some b → y ≠ b) → h' y = some o) (hob : ob' = ob 2 ∨ ∃ c, ob' = some c ∧ h c = none ∧ q_bs g ≤ c) : ∃ w', q_RG g h' r w' (D.1, va_up (pA D) (np G) x, D.2.2) (va_up ob 2 ob') (sN (sK G (np G) (o, K)) 0 (np G + 1)) := by
  have hcl : ∀ y, Decidable (h y = none) := fun y => Classical.propDecidable _
  refine ⟨fun y => if h y = none then 12 else if w y = 7 then 200 + np G else w y, ?_⟩
  have H1 : q_RG g h r (fun y => if h y = none then 12 else if w y = 7 then 200 + np G else w y) D ob G := H.retag (fun y o hy h7 => by
    show (if h y = none then _ else _) = _
    rw [if_neg (fun z => by rw [hy] at z; cases z), if_neg h7])
  have hcT : ∀ c, h c = none → (fun y => if h y = none then 12 else if w y = 7 then 200 + np G else w y) c = 12 := fun c hc => if_pos hc
  have hxT : ∀ y o, h y = some o → w y = 7 → (fun y => if h y = none then 12 else if w y = 7 then 200 + np G else w y) y = 200 + np G := fun y o hy h7 => by
    show (if h y = none then _ else _) = _
    rw [if_neg (fun z => by rw [hy] at z; cases z), if_pos h7]
  generalize (fun y => if h y = none then 12 else if w y = 7 then 200 + np G else w y) = w1 at H1 hcT hxT
  have hk : q_kp h h' (fun y => w1 y = 12) := fun y o hy hn => hk0 y o hy (fun z => hn (by rw [z]; exact (H1.ls (k := 2) (by decide) (by decide)).1)) (fun b hb z => hn (by rw [z]; exact (H1.ls (k := 2) (by decide) (by decide)).2 b hb))
  have hx1 := hxT x _ hx hwx
  have hnn : np (sN (sK G (np G) (o, K)) 0 (np G + 1)) = np G + 1 := rfl
  exact ⟨⟨hk _ _ H1.fr (fun z => by have q := H1.1.2; omega), H1.1.2⟩,
   ⟨H1.sec.kp hk (fun y hy z => by have q := H1.secT y hy; omega), H1.secT⟩,
   ⟨⟨hk (D.1 0 5) _ H1.hr (fun z => by have q : w1 (D.1 0 5) = 2 := H1.2.2.1.2.1; have z2 : w1 (D.1 0 5) = 12 := z; omega), hk (D.1 0 6) _ H1.hc (fun z => by have q : w1 (D.1 0 6) = 2 := H1.2.2.1.2.2; have z2 : w1 (D.1 0 6) = 12 := z; omega)⟩, H1.2.2.1.2⟩,
   ⟨H1.lm.kp hk (fun z => by have q := (H1.ls (k := 1) (by decide) (by decide)).1; omega) (fun b hb z => by have q := (H1.ls (k := 1) (by decide) (by decide)).2 b hb; omega), hl, H1.lq.kp hk (fun z => by have q := (H1.ls (k := 3) (by decide) (by decide)).1; omega) (fun b hb z => by have q := (H1.ls (k := 3) (by decide) (by decide)).2 b hb; omega), H1.le.kp hk (fun z => by have q := (H1.ls (k := 4) (by decide) (by decide)).1; omega) (fun b hb z => by have q := (H1.ls (k := 4) (by decide) (by decide)).2 b hb; omega)⟩,
   fun k h1 h4 => ⟨(H1.ls h1 h4).1, fun b hb => by
      by_cases e : k = 2
      · subst e
        rw [show va_up ob 2 ob' 2 = ob' from if_pos rfl] at hb
        rcases hob with z | ⟨c, z, hc, -⟩
        · exact (H1.ls (k := 2) (by decide) (by decide)).2 b (z.symm.trans hb)
        · rw [← Option.some.inj (z.symm.trans hb)]
          exact hcT c hc
      · rw [show va_up ob 2 ob' k = ob k from if_neg e] at hb
        exact (H1.ls h1 h4).2 b hb⟩,
   fun j hj => ⟨(H1.mem hj).kp hk (fun y hy z => by have q := H1.memT hj y hy; omega), H1.memT hj⟩,
   fun j hj => by
    by_cases e : j = np G
    · subst e
      rw [show gK (sN (sK G (np G) (o, K)) 0 (np G + 1)) (np G) = (o, K) from if_pos rfl, show pA (D.1, va_up (pA D) (np G) x, D.2.2) (np G) = x from if_pos rfl]
      exact ⟨hk _ _ hx (fun z => by omega), ho, hx1⟩
    · have hj2 : j < np G := by rw [hnn] at hj; omega
      rw [show gK (sN (sK G (np G) (o, K)) 0 (np G + 1)) j = gK G j from if_neg e, show pA (D.1, va_up (pA D) (np G) x, D.2.2) j = pA D j from if_neg e]
      exact ⟨hk _ _ (H1.pk hj2) (fun z => by have q := H1.pkT hj2; omega), H1.own hj2, H1.pkT hj2⟩,
   fun j hj => by
    refine ⟨?_, H1.prT hj⟩
    have hp := (H1.pr hj).kp hk (fun z => by have q := H1.prT hj; omega)
    rcases hp with ⟨a, b, c⟩ | c
    · refine Or.inl ⟨a, by rw [hnn]; exact Nat.lt_succ_of_lt b, ?_⟩
      rw [show pA (D.1, va_up (pA D) (np G) x, D.2.2) (gQ (sN (sK G (np G) (o, K)) 0 (np G + 1)) j).2.1 = pA D (gQ G j).2.1 from if_neg (Nat.ne_of_lt b)]
      exact c
    · exact Or.inr c,
   ⟨fun j hj => ⟨(H1.ep hj).kp hk (fun y hy z => by have q := H1.epT hj y hy; omega), H1.epT hj⟩, H1.n1⟩⟩
theorem q_RG.addQ (H : q_RG g h r w D ob G) {x : Nat} {p : p_T} {ob' : Option Nat} (hx : q_pr h x (pA D) (np G) p) (hwx : w x = 7) (hl : q_lst g h' (D.1 0 3) ob' (nq G + 1) (va_up (qA D) (nq G) x)) (hk0 : ∀ y o, h y = some o → y ≠ D.1 0 3 → (∀ b, ob 3 = some b → y ≠ b) → h' y = some o) (hob : ob' = ob 3 ∨ ∃ c, ob' = some c ∧ h c = none ∧ q_bs g ≤ c) : ∃ w', q_RG g h' r w' (D.1, D.2.1, va_up (qA D) (nq G) x, D.2.2.2) (va_up ob 3 ob') (sN (sQ G (nq G) p) 1 (nq G + 1)) := by
  have hcl : ∀ y, Decidable (h y = none) := fun y => Classical.propDecidable _
  refine ⟨fun y => if h y = none then 13 else if w y = 7 then 5 else w y, ?_⟩
  have H1 : q_RG g h r (fun y => if h y = none then 13 else if w y = 7 then 5 else w y) D ob G := H.retag (fun y o hy h7 => by
    show (if h y = none then _ else _) = _
    rw [if_neg (fun z => by rw [hy] at z; cases z), if_neg h7])
  have hcT : ∀ c, h c = none → (fun y => if h y = none then 13 else if w y = 7 then 5 else w y) c = 13 := fun c hc => if_pos hc
  have hxT : ∀ y o, h y = some o → w y = 7 → (fun y => if h y = none then 13 else if w y = 7 then 5 else w y) y = 5 := fun y o hy h7 => by
    show (if h y = none then _ else _) = _
    rw [if_neg (fun z => by rw [hy] at z; cases z), if_pos h7]
  generalize (fun y => if h y = none then 13 else if w y = 7 then 5 else w y) = w1 at H1 hcT hxT
  have hk : q_kp h h' (fun y => w1 y = 13) := fun y o hy hn => hk0 y o hy (fun z => hn (by rw [z]; exact (H1.ls (k := 3) (by decide) (by decide)).1)) (fun b hb z => hn (by rw [z]; exact (H1.ls (k := 3) (by decide) (by decide)).2 b hb))
  obtain ⟨ox, hox⟩ := hx.som
  have hx1 := hxT x _ hox hwx
  have hnn : nq (sN (sQ G (nq G) p) 1 (nq G + 1)) = nq G + 1 := rfl
  exact ⟨⟨hk _ _ H1.fr (fun z => by have q := H1.1.2; omega), H1.1.2⟩,
   ⟨H1.sec.kp hk (fun y hy z => by have q := H1.secT y hy; omega), H1.secT⟩,
   ⟨⟨hk (D.1 0 5) _ H1.hr (fun z => by have q : w1 (D.1 0 5) = 2 := H1.2.2.1.2.1; have z2 : w1 (D.1 0 5) = 13 := z; omega), hk (D.1 0 6) _ H1.hc (fun z => by have q : w1 (D.1 0 6) = 2 := H1.2.2.1.2.2; have z2 : w1 (D.1 0 6) = 13 := z; omega)⟩, H1.2.2.1.2⟩,
   ⟨H1.lm.kp hk (fun z => by have q := (H1.ls (k := 1) (by decide) (by decide)).1; omega) (fun b hb z => by have q := (H1.ls (k := 1) (by decide) (by decide)).2 b hb; omega), H1.lp.kp hk (fun z => by have q := (H1.ls (k := 2) (by decide) (by decide)).1; omega) (fun b hb z => by have q := (H1.ls (k := 2) (by decide) (by decide)).2 b hb; omega), hl, H1.le.kp hk (fun z => by have q := (H1.ls (k := 4) (by decide) (by decide)).1; omega) (fun b hb z => by have q := (H1.ls (k := 4) (by decide) (by decide)).2 b hb; omega)⟩,
   fun k h1 h4 => ⟨(H1.ls h1 h4).1, fun b hb => by
      by_cases e : k = 3
      · subst e
        rw [show va_up ob 3 ob' 3 = ob' from if_pos rfl] at hb
        rcases hob with z | ⟨c, z, hc, -⟩
        · exact (H1.ls (k := 3) (by decide) (by decide)).2 b (z.symm.trans hb)
        · rw [← Option.some.inj (z.symm.trans hb)]
          exact hcT c hc
      · rw [show va_up ob 3 ob' k = ob k from if_neg e] at hb
        exact (H1.ls h1 h4).2 b hb⟩,
   fun j hj => ⟨(H1.mem hj).kp hk (fun y hy z => by have q := H1.memT hj y hy; omega), H1.memT hj⟩,
   fun j hj => ⟨hk (pA D j) _ (H1.pk hj) (fun z => by have q : w1 (pA D j) = 200 + j := H1.pkT hj; have z2 : w1 (pA D j) = 13 := z; omega), H1.own hj, H1.pkT hj⟩,
   fun j hj => by
    by_cases e : j = nq G
    · subst e
      rw [show gQ (sN (sQ G (nq G) p) 1 (nq G + 1)) (nq G) = p from if_pos rfl, show qA (D.1, D.2.1, va_up (qA D) (nq G) x, D.2.2.2) (nq G) = x from if_pos rfl]
      exact ⟨hx.kp hk (fun z => by omega), hx1⟩
    · have hj2 : j < nq G := by rw [hnn] at hj; omega
      rw [show gQ (sN (sQ G (nq G) p) 1 (nq G + 1)) j = gQ G j from if_neg e, show qA (D.1, D.2.1, va_up (qA D) (nq G) x, D.2.2.2) j = qA D j from if_neg e]
      exact ⟨(H1.pr hj2).kp hk (fun z => by have q := H1.prT hj2; omega), H1.prT hj2⟩,
   ⟨fun j hj => ⟨(H1.ep hj).kp hk (fun y hy z => by have q := H1.epT hj y hy; omega), H1.epT hj⟩, H1.n1⟩⟩
theorem q_RG.addE (H : q_RG g h r w D ob G) {e t pr pb : Nat} {ra rb : Nat → Nat} {E : e_T} {ob' : Option Nat} (hx : q_ep h e t pr pb ra rb E) (hwx : ∀ y, ep_A e t pr pb ra rb y → w y = 7) (hl : q_lst g h' (D.1 0 4) ob' (ne G + 1) (va_up (eA D) (ne G) e))
    (hk0 : ∀ y o, h y = some o → y ≠ r → y ≠ D.1 0 4 → (∀ b, ob 4 = some b → y ≠ b) → h' y = some o) (hob : ob' = ob 4 ∨ ∃ c, ob' = some c ∧ h c = none ∧ q_bs g ≤ c) (hr : h' r = some (.inl (0, r_fs D e))) : ∃ w' D', q_RG g h' r w' D' (va_up ob 4 ob') (sN (sE G (ne G) E) 2 (ne G + 1)) ∧ D'.1 = D.1 ∧ eA D' (ne G) = e := by
  have hcl : ∀ y, Decidable (h y = none) := fun y => Classical.propDecidable _
  refine ⟨fun y => if h y = none then 14 else if w y = 7 then 1000 + ne G else w y, (D.1, D.2.1, D.2.2.1, va_up D.2.2.2 (ne G) (fun k => if k = 0 then e else if k = 1 then t else if k = 2 then pr else if k = 3 then pb else if k < 8 then ra (k - 4) else rb (k - 8))), ?_, rfl, ?_⟩
  rotate_left
  · show va_up D.2.2.2 (ne G) _ (ne G) 0 = e
    rw [show ∀ q, va_up D.2.2.2 (ne G) q (ne G) = q from fun q => if_pos rfl]
    rfl
  have H1 : q_RG g h r (fun y => if h y = none then 14 else if w y = 7 then 1000 + ne G else w y) D ob G := H.retag (fun y o hy h7 => by
    show (if h y = none then _ else _) = _
    rw [if_neg (fun z => by rw [hy] at z; cases z), if_neg h7])
  have hcT : ∀ c, h c = none → (fun y => if h y = none then 14 else if w y = 7 then 1000 + ne G else w y) c = 14 := fun c hc => if_pos hc
  have hxT : ∀ y o, h y = some o → w y = 7 → (fun y => if h y = none then 14 else if w y = 7 then 1000 + ne G else w y) y = 1000 + ne G := fun y o hy h7 => by
    show (if h y = none then _ else _) = _
    rw [if_neg (fun z => by rw [hy] at z; cases z), if_pos h7]
  generalize (fun y => if h y = none then 14 else if w y = 7 then 1000 + ne G else w y) = w1 at H1 hcT hxT
  have hk : q_kp h h' (fun y => w1 y = 14 ∨ w1 y = 6) := fun y o hy hn => hk0 y o hy (fun z => hn (Or.inr (by rw [z]; exact H1.1.2))) (fun z => hn (Or.inl (by rw [z]; exact (H1.ls (k := 4) (by decide) (by decide)).1))) (fun b hb z => hn (Or.inl (by rw [z]; exact (H1.ls (k := 4) (by decide) (by decide)).2 b hb)))
  have hnn : ne (sN (sE G (ne G) E) 2 (ne G + 1)) = ne G + 1 := rfl
  have hl2 : (fun i => va_up D.2.2.2 (ne G) (fun k => if k = 0 then e else if k = 1 then t else if k = 2 then pr else if k = 3 then pb else if k < 8 then ra (k - 4) else rb (k - 8)) i 0) = va_up (eA D) (ne G) e := by
    funext i
    by_cases z : i = ne G
    · subst z
      rw [show ∀ q, va_up D.2.2.2 (ne G) q (ne G) = q from fun q => if_pos rfl, show va_up (eA D) (ne G) e (ne G) = e from if_pos rfl]
      rfl
    · rw [show ∀ q, va_up D.2.2.2 (ne G) q i = D.2.2.2 i from fun q => if_neg z, show va_up (eA D) (ne G) e i = eA D i from if_neg z]
  have hra : (fun j => (fun k => if k = 0 then e else if k = 1 then t else if k = 2 then pr else if k = 3 then pb else if k < 8 then ra (k - 4) else rb (k - 8)) (4 + j)) = fun j => if j < 4 then ra j else rb (j - 4) := by
    funext j
    show (if 4 + j = 0 then e else if 4 + j = 1 then t else if 4 + j = 2 then pr else if 4 + j = 3 then pb else if 4 + j < 8 then ra (4 + j - 4) else rb (4 + j - 8)) = _
    rw [if_neg (by omega), if_neg (by omega), if_neg (by omega), if_neg (by omega)]
    by_cases z : j < 4
    · rw [if_pos (by omega), if_pos z, show 4 + j - 4 = j by omega]
    · rw [if_neg (by omega), if_neg z, show 4 + j - 8 = j - 4 by omega]
  have hrb : (fun j => (fun k => if k = 0 then e else if k = 1 then t else if k = 2 then pr else if k = 3 then pb else if k < 8 then ra (k - 4) else rb (k - 8)) (8 + j)) = rb := by
    funext j
    show (if 8 + j = 0 then e else if 8 + j = 1 then t else if 8 + j = 2 then pr else if 8 + j = 3 then pb else if 8 + j < 8 then ra (8 + j - 4) else rb (8 + j - 8)) = _
    rw [if_neg (by omega), if_neg (by omega), if_neg (by omega), if_neg (by omega), if_neg (by omega), show 8 + j - 8 = j by omega]
  have hA : ∀ y, ep_A e t pr pb (fun j => if j < 4 then ra j else rb (j - 4)) rb y → ep_A e t pr pb ra rb y := by
    rintro y (z | z | z | z | ⟨i, hi, z⟩)
    · exact Or.inl z
    · exact Or.inr (Or.inl z)
    · exact Or.inr (Or.inr (Or.inl z))
    · exact Or.inr (Or.inr (Or.inr (Or.inl z)))
    · rw [show (fun j => if j < 4 then ra j else rb (j - 4)) i = ra i from if_pos hi] at z
      exact Or.inr (Or.inr (Or.inr (Or.inr ⟨i, hi, z⟩)))
  have hx2 : q_ep h' e t pr pb (fun j => if j < 4 then ra j else rb (j - 4)) rb E := by
    have q := hx.kp hk (fun y hy z => by
      obtain ⟨oo, ho⟩ := hx.som hy
      have q := hxT y oo ho (hwx y hy)
      omega)
    refine ⟨q.1, ⟨?_, fun i hi => ?_, q.2.1.2.2⟩, q.2.2⟩
    · exact q.2.1.1
    · rw [show (fun j => if j < 4 then ra j else rb (j - 4)) i = ra i from if_pos hi]
      exact q.2.1.2.1 i hi
  exact ⟨⟨by
    rw [hnn, show ne G + 1 - 1 = ne G from rfl, show eA (D.1, D.2.1, D.2.2.1, va_up D.2.2.2 (ne G) (fun k => if k = 0 then e else if k = 1 then t else if k = 2 then pr else if k = 3 then pb else if k < 8 then ra (k - 4) else rb (k - 8))) (ne G) = e from by
      show va_up D.2.2.2 (ne G) _ (ne G) 0 = e
      rw [show ∀ q, va_up D.2.2.2 (ne G) q (ne G) = q from fun q => if_pos rfl]
      rfl]
    exact hr, H1.1.2⟩,
   ⟨H1.sec.kp hk (fun y hy z => by have q := H1.secT y hy; omega), H1.secT⟩,
   ⟨⟨hk (D.1 0 5) _ H1.hr (fun z => by have q : w1 (D.1 0 5) = 2 := H1.2.2.1.2.1; have z2 : w1 (D.1 0 5) = 14 ∨ w1 (D.1 0 5) = 6 := z; omega), hk (D.1 0 6) _ H1.hc (fun z => by have q : w1 (D.1 0 6) = 2 := H1.2.2.1.2.2; have z2 : w1 (D.1 0 6) = 14 ∨ w1 (D.1 0 6) = 6 := z; omega)⟩, H1.2.2.1.2⟩,
   ⟨H1.lm.kp hk (fun z => by have q := (H1.ls (k := 1) (by decide) (by decide)).1; omega) (fun b hb z => by have q := (H1.ls (k := 1) (by decide) (by decide)).2 b hb; omega), H1.lp.kp hk (fun z => by have q := (H1.ls (k := 2) (by decide) (by decide)).1; omega) (fun b hb z => by have q := (H1.ls (k := 2) (by decide) (by decide)).2 b hb; omega), H1.lq.kp hk (fun z => by have q := (H1.ls (k := 3) (by decide) (by decide)).1; omega) (fun b hb z => by have q := (H1.ls (k := 3) (by decide) (by decide)).2 b hb; omega), by rw [hnn]; exact (by rw [← hl2] at hl; exact hl)⟩,
   fun k h1 h4 => ⟨(H1.ls h1 h4).1, fun b hb => by
      by_cases e : k = 4
      · subst e
        rw [show va_up ob 4 ob' 4 = ob' from if_pos rfl] at hb
        rcases hob with z | ⟨c, z, hc, -⟩
        · exact (H1.ls (k := 4) (by decide) (by decide)).2 b (z.symm.trans hb)
        · rw [← Option.some.inj (z.symm.trans hb)]
          exact hcT c hc
      · rw [show va_up ob 4 ob' k = ob k from if_neg e] at hb
        exact (H1.ls h1 h4).2 b hb⟩,
   fun j hj => ⟨(H1.mem hj).kp hk (fun y hy z => by have q := H1.memT hj y hy; omega), H1.memT hj⟩,
   fun j hj => ⟨hk (pA D j) _ (H1.pk hj) (fun z => by have q : w1 (pA D j) = 200 + j := H1.pkT hj; have z2 : w1 (pA D j) = 14 ∨ w1 (pA D j) = 6 := z; omega), H1.own hj, H1.pkT hj⟩,
   fun j hj => ⟨(H1.pr hj).kp hk (fun z => by have q := H1.prT hj; omega), H1.prT hj⟩,
   ⟨fun j hj => by
    by_cases z : j = ne G
    · subst z
      rw [show gE (sN (sE G (ne G) E) 2 (ne G + 1)) (ne G) = E from if_pos rfl]
      show q_ep h' (va_up D.2.2.2 (ne G) _ (ne G) 0) (va_up D.2.2.2 (ne G) _ (ne G) 1) (va_up D.2.2.2 (ne G) _ (ne G) 2) (va_up D.2.2.2 (ne G) _ (ne G) 3) (fun j => va_up D.2.2.2 (ne G) _ (ne G) (4 + j)) (fun j => va_up D.2.2.2 (ne G) _ (ne G) (8 + j)) E ∧ ∀ y, ep_A (va_up D.2.2.2 (ne G) _ (ne G) 0) (va_up D.2.2.2 (ne G) _ (ne G) 1) (va_up D.2.2.2 (ne G) _ (ne G) 2) (va_up D.2.2.2 (ne G) _ (ne G) 3) (fun j => va_up D.2.2.2 (ne G) _ (ne G) (4 + j)) (fun j => va_up D.2.2.2 (ne G) _ (ne G) (8 + j)) y → w1 y = 1000 + ne G
      rw [show ∀ q, va_up D.2.2.2 (ne G) q (ne G) = q from fun q => if_pos rfl, hra, hrb]
      exact ⟨hx2, fun y hy => by
        obtain ⟨oo, ho⟩ := hx.som (hA y hy)
        exact hxT y oo ho (hwx y (hA y hy))⟩
    · have hj2 : j < ne G := by rw [hnn] at hj; omega
      rw [show gE (sN (sE G (ne G) E) 2 (ne G + 1)) j = gE G j from if_neg z]
      show q_ep h' (va_up D.2.2.2 (ne G) _ j 0) (va_up D.2.2.2 (ne G) _ j 1) (va_up D.2.2.2 (ne G) _ j 2) (va_up D.2.2.2 (ne G) _ j 3) (fun i => va_up D.2.2.2 (ne G) _ j (4 + i)) (fun i => va_up D.2.2.2 (ne G) _ j (8 + i)) _ ∧ ∀ y, ep_A (va_up D.2.2.2 (ne G) _ j 0) (va_up D.2.2.2 (ne G) _ j 1) (va_up D.2.2.2 (ne G) _ j 2) (va_up D.2.2.2 (ne G) _ j 3) (fun i => va_up D.2.2.2 (ne G) _ j (4 + i)) (fun i => va_up D.2.2.2 (ne G) _ j (8 + i)) y → w1 y = 1000 + j
      rw [show ∀ q, va_up D.2.2.2 (ne G) q j = D.2.2.2 j from fun q => if_neg z]
      exact ⟨(H1.ep hj2).kp hk (fun y hy z => by have q := H1.epT hj2 y hy; omega), H1.epT hj2⟩, by rw [hnn]; omega⟩⟩
end
end
section
/-! ===== the group: offer, add, remove, update ===== -/
theorem nI_nl {a b : Nat} (ha : a < 2 ^ 31) (h : ¬ nI a < nI b) (hb : b < 2 ^ 31) : b ≤ a := by
  rcases Nat.lt_or_ge a b with q | q
  · exact absurd (nI_lt q hb) h
  · exact q
theorem nI_tl {a b : Nat} (ha : a < 2 ^ 31) (h : nI a < nI b) : a < b := by
  rcases Nat.lt_or_ge a b with q | q
  · exact q
  · exfalso
    rcases Nat.lt_or_ge b a with q2 | q2
    · exact nI_ge q2 ha (Int32.le_of_lt h)
    · rw [show a = b by omega] at h
      exact Int32.lt_irrefl h
section
variable {g : q_G} {h h' : q_H} {r : Nat} {w : Nat → Nat} {D : a_T} {ob : Nat → Option Nat} {G : G_T}
theorem q_RG.elp (H : q_RG g h r w D ob G) : ∀ i, i < np G → q_obj h (pA D i) ∧ pA D i ≠ D.1 0 2 := fun i hi => ⟨⟨7, _, _, H.pk hi, ty_7, xo_7⟩, fun z => by
  have q : w (pA D i) = 200 + i := H.pkT hi
  have q2 := (H.ls (k := 2) (by decide) (by decide)).1
  rw [z] at q
  omega⟩
theorem q_RG.elq (H : q_RG g h r w D ob G) : ∀ i, i < nq G → q_obj h (qA D i) ∧ qA D i ≠ D.1 0 3 := fun i hi => ⟨by
  rcases H.pr hi with ⟨-, -, h3⟩ | ⟨-, h3⟩ | ⟨-, h3⟩
  · exact ⟨8, _, _, h3, ty_8, xo_8⟩
  · exact ⟨9, _, _, h3, ty_9, xo_9⟩
  · exact ⟨10, _, _, h3, ty_10, xo_10⟩, fun z => by
  have q : w (qA D i) = 5 := H.prT hi
  have q2 := (H.ls (k := 3) (by decide) (by decide)).1
  rw [z] at q
  omega⟩
theorem q_RG.ele (H : q_RG g h r w D ob G) : ∀ i, i < ne G → q_obj h (eA D i) ∧ eA D i ≠ D.1 0 4 := fun i hi => ⟨⟨5, _, _, (H.ep hi).1, ty_5, xo_5⟩, fun z => by
  have q : w (eA D i) = 1000 + i := H.epT hi _ (Or.inl rfl)
  have q2 := (H.ls (k := 4) (by decide) (by decide)).1
  rw [z] at q
  omega⟩
theorem q_RG.lne (H : q_RG g h r w D ob G) {k x : Nat} (h1 : 1 ≤ k) (h4 : k ≤ 4) (hx : w x = 7) : D.1 0 k ≠ x := fun z => by
  have q := (H.ls h1 h4).1
  rw [z] at q
  omega
theorem q_RG.lat (H : q_RG g h r w D ob G) : ne G - 1 < ne G := by
  have q := H.n1
  omega
theorem q_RG.tM (H : q_RG g h r w D ob G) {i : Nat} (hi : i < 16) {M : m_T} (hm : q_me h' D i M) (ho : q_off h h' (m_P (mA D i) (fun j => D.1 (6 + j) i))) : q_RG g h' r w D ob (sM G i M) := H.upM hi hm (ho.kp.wk (fun y hy => H.memT hi y (m_P_A hy)))
end
def P_may (G : G_T) (i : Nat) : Prop := (gM G i).1 2 = (gE G (ne G - 1)).1 0 ∧ nq G < 20
def k_new (a b : Int32) : Nat → Int32 := fun j => if j = 0 then a else if j = 1 then b else if j = 2 then -1 else if j = 3 then -1 else 0
def G_off (G : G_T) (i : Nat) : G_T := sN (sK (sS G (S_fresh (S_fresh (gS G)).2).2) (np G) (i, k_new (S_fresh (gS G)).1 (S_fresh (S_fresh (gS G)).2).1)) 0 (np G + 1)
def G_prop (G : G_T) (p : p_T) : G_T := sN (sQ G (nq G) p) 1 (nq G + 1)
noncomputable def G_upd (G : G_T) (i : Nat) : G_T := G_prop (sM (sS G (S_fresh (gS G)).2) i (M_keep (gM G i) (S_fresh (gS G)).1)) (2, 0, (M_keep (gM G i) (S_fresh (gS G)).1).1 3, (S_fresh (gS G)).1)
noncomputable def O_offer (G : G_T) (m : Int32) : q_R × G_T := by
  classical exact if r_in 16 m then (if 60 ≤ np G then (.inr 1, G) else (.inl (some (.int (nI (np G)))), G_off G (ix m))) else (.inr 0, G)
noncomputable def O_add (G : G_T) (m k : Int32) : q_R × G_T := by
  classical exact if r_in 16 m then (if r_in (np G) k then (if P_may G (ix m) then (.inl (some (.int (nI (nq G + 1)))), G_prop G (0, ix k, 0, 0)) else (.inr 1, G)) else (.inr 0, G)) else (.inr 0, G)
noncomputable def O_remove (G : G_T) (m l : Int32) : q_R × G_T := by
  classical exact if r_in 16 m then (if r_in 16 l then (if P_may G (ix m) then (.inl (some (.int (nI (nq G + 1)))), G_prop G (1, 0, l, 0)) else (.inr 1, G)) else (.inr 0, G)) else (.inr 0, G)
noncomputable def O_update (G : G_T) (m : Int32) : q_R × G_T := by
  classical exact if r_in 16 m then (if P_may G (ix m) then (.inl (some (.int (nI (nq G + 1)))), G_upd G (ix m)) else (.inr 1, G)) else (.inr 0, G)
set_option maxHeartbeats 1000000 in
theorem c_RG_refuseUnlessMayPropose (g : q_G) {h : q_H} {r : Nat} {w : Nat → Nat} {D : a_T} {ob : Nat → Option Nat} {G : G_T} {i : Nat} (d mc ms : Nat) (hd : 6 ≤ d) (hmc : 1 ≤ mc) (hms : 6 ≤ ms) (hi : i < 16) (hnq : nq G < 2 ^ 31) (H : q_RG g h r w D ob G) : MG g y_RG_refuseUnlessMayPropose b_RG_refuseUnlessMayPropose 2 none d mc ms [.ref r, .ref (mA D i)] h (fun q h' => ((P_may G i ∧ q = .inl none) ∨ (¬ P_may G i ∧ q = .inr 1)) ∧ h' = h) := by
  obtain ⟨lq0, lq1, hlq⟩ := H.lq.size
  refine MG.of (by decide +kernel) (by simp [Value.category]) (Nat.le_of_ble_eq_true rfl) ?_
  intro Z A ok
  refine g_aload_n ok (dk m_RG_refuseUnlessMayPropose 0 rfl) (pc' := 1) rfl (i := 1) rfl rfl ?_
  refine g_get ok (dk m_RG_refuseUnlessMayPropose 1 rfl) (pc' := 4) rfl f_RG_133 (H.mem hi).1 rfl ?_
  refine g_aload_n ok (dk m_RG_refuseUnlessMayPropose 2 rfl) (pc' := 5) rfl (i := 0) rfl rfl ?_
  refine g_get ok (dk m_RG_refuseUnlessMayPropose 3 rfl) (pc' := 8) rfl f_RG_53 H.fr rfl ?_
  refine g_getR ok (dk m_RG_refuseUnlessMayPropose 4 rfl) (pc' := 11) rfl f_RG_136 (H.ep H.lat).1 rfl ?_
  refine g_icmp_eq ok (dk m_RG_refuseUnlessMayPropose 5 rfl) (tgt := 24) (by decide) (pc' := 14) rfl (fun c_11 => ?_) (fun c_11 => ?_)
  · refine g_aload_n ok (dk m_RG_refuseUnlessMayPropose 11 rfl) (pc' := 25) rfl (i := 0) rfl rfl ?_
    refine g_get ok (dk m_RG_refuseUnlessMayPropose 12 rfl) (pc' := 28) rfl f_RG_26 H.fr rfl ?_
    refine g_callV ok (dk m_RG_refuseUnlessMayPropose 13 rfl) (pc' := 31) rfl c_RG_86 (c_AL_size g 0 hlq) hlq rfl rfl (by simp [Value.category]) (by omega) rfl (rc' := mc) (rs' := ms) (by omega) (by omega) (fun rv h' hcc => ?_) (fun i h' hcc => by obtain ⟨e9, -⟩ := hcc; cases e9)
    obtain ⟨e9, e2⟩ := hcc
    have e3 := e2.symm
    subst e3
    cases e9
    refine g_bipush ok (dk m_RG_refuseUnlessMayPropose 14 rfl) (pc' := 33) rfl (v := 20) (by decide) ?_
    refine g_icmp_lt ok (dk m_RG_refuseUnlessMayPropose 15 rfl) (tgt := 47) (by decide) (pc' := 36) rfl (fun c_33 => ?_) (fun c_33 => ?_)
    · exact g_vret ok (dk m_RG_refuseUnlessMayPropose 21 rfl) rfl ⟨Or.inl ⟨⟨c_11, nI_tl hnq c_33⟩, rfl⟩, rfl⟩
    · exact g_throw ok (kx := 1) (sx := 265) (tx := "20 proposals wait") (Or.inr ⟨rfl, rfl, rfl⟩) (by decide +kernel) (dk m_RG_refuseUnlessMayPropose 16 rfl) (dk m_RG_refuseUnlessMayPropose 17 rfl) (Or.inr ⟨dk m_RG_refuseUnlessMayPropose 18 rfl, rfl⟩) (dk m_RG_refuseUnlessMayPropose 19 rfl) (dk m_RG_refuseUnlessMayPropose 20 rfl) (by decide) (by omega) rfl (by omega) (by omega) ⟨Or.inr ⟨fun z => c_33 (nI_lt z.2 (by decide)), rfl⟩, rfl⟩
  · exact g_throw ok (kx := 1) (sx := 137) (tx := "the member is not in the latest epoch") (Or.inr ⟨rfl, rfl, rfl⟩) (by decide +kernel) (dk m_RG_refuseUnlessMayPropose 6 rfl) (dk m_RG_refuseUnlessMayPropose 7 rfl) (Or.inl ⟨dk m_RG_refuseUnlessMayPropose 8 rfl, rfl⟩) (dk m_RG_refuseUnlessMayPropose 9 rfl) (dk m_RG_refuseUnlessMayPropose 10 rfl) (by decide) (by omega) rfl (by omega) (by omega) ⟨Or.inr ⟨fun z => c_11 z.1, rfl⟩, rfl⟩
set_option maxHeartbeats 1000000 in
theorem c_RG_offer (g : q_G) {h : q_H} {r : Nat} {w : Nat → Nat} {D : a_T} {ob : Nat → Option Nat} {G : G_T} (m : Int32) (d mc ms : Nat) (hd : 7 ≤ d) (hmc : 3 ≤ mc) (hms : 122 ≤ ms) (hnp : np G ≤ 60) (H : q_RG g h r w D ob G) : MG g y_RG_offer b_RG_offer 4 (some .int) d mc ms [.ref r, .int m] h (fun q h' => ∃ w' D' ob', q = (O_offer G m).1 ∧ q_RG g h' r w' D' ob' (O_offer G m).2) := by
  obtain ⟨lp0, lp1, hlp⟩ := H.lp.size
  refine MG.of (by decide +kernel) (by simp [Value.category]) (Nat.le_of_ble_eq_true rfl) ?_
  intro Z A ok
  refine g_aload_n ok (dk m_RG_offer 0 rfl) (pc' := 1) rfl (i := 0) rfl rfl ?_
  refine g_iload_n ok (dk m_RG_offer 1 rfl) (pc' := 2) rfl (i := 1) rfl rfl ?_
  refine g_callV ok (dk m_RG_offer 2 rfl) (pc' := 5) rfl c_RG_82 (c_RG_memberNumbered g m 6 1 6 (by omega) (by omega) (by omega) H) H.fr rfl rfl (by simp [Value.category]) (by omega) rfl (rc' := (mc - 1)) (rs' := (ms - 6)) (by omega) (by omega) (fun rv h' hcc => ?_) (fun i h' hcc => by obtain ⟨e9 | ⟨hr, e9⟩, e3⟩ := hcc; exact absurd e9.2 (fun z => by cases z); exact ⟨w, D, ob, by rw [O_offer, if_neg hr]; exact e9, by rw [O_offer, if_neg hr, e3]; exact H⟩)
  have hr : r_in 16 m ∧ rv = some (.ref (mA D (ix m))) := by
    rcases hcc.1 with ⟨a, b⟩ | ⟨a, b⟩
    · exact ⟨a, Sum.inl.inj b⟩
    · cases b
  obtain ⟨hr, rfl⟩ := hr
  have e4 := hcc.2.symm
  clear hcc
  subst e4
  obtain ⟨j, hj, rfl⟩ := r_in_of (by decide) hr
  have hx : ix (nI j) = j := ix_nI (by omega)
  rw [hx]
  have hO : O_offer G (nI j) = if 60 ≤ np G then (.inr 1, G) else (.inl (some (.int (nI (np G)))), G_off G j) := by rw [O_offer, if_pos hr, hx]
  refine g_astore_n ok (dk m_RG_offer 3 rfl) (pc' := 6) rfl (i := 2) rfl (Nat.le_of_ble_eq_true rfl) rfl ?_
  refine g_aload_n ok (dk m_RG_offer 4 rfl) (pc' := 7) rfl (i := 0) rfl rfl ?_
  refine g_get ok (dk m_RG_offer 5 rfl) (pc' := 10) rfl f_RG_23 H.fr rfl ?_
  refine g_callV ok (dk m_RG_offer 6 rfl) (pc' := 13) rfl c_RG_86 (c_AL_size g 0 hlp) hlp rfl rfl (by simp [Value.category]) (by omega) rfl (rc' := (mc - 1)) (rs' := (ms - 6)) (by omega) (by omega) (fun rv h' hcc => ?_) (fun i h' hcc => by obtain ⟨e9, -⟩ := hcc; cases e9)
  obtain ⟨e9, e2⟩ := hcc
  have e3 := e2.symm
  subst e3
  cases e9
  refine g_bipush ok (dk m_RG_offer 7 rfl) (pc' := 15) rfl (v := 60) (by decide) ?_
  refine g_icmp_lt ok (dk m_RG_offer 8 rfl) (tgt := 28) (by decide) (pc' := 18) rfl (fun c_15 => ?_) (fun c_15 => ?_)
  · have hnn : ¬ 60 ≤ np G := fun z => by
      have q : np G < 60 := nI_tl (by omega) c_15
      omega
    refine g_aload_n ok (dk m_RG_offer 14 rfl) (pc' := 29) rfl (i := 0) rfl rfl ?_
    refine g_get ok (dk m_RG_offer 15 rfl) (pc' := 32) rfl f_RG_12 H.fr rfl ?_
    refine g_callV ok (dk m_RG_offer 16 rfl) (pc' := 35) rfl c_RG_57 (c_Sec_fresh g 0 H.sec) H.sec.1 rfl rfl (by simp [Value.category]) (by omega) rfl (rc' := (mc - 1)) (rs' := (ms - 6)) (by omega) (by omega) (fun rv h' hcc => ?_) (fun i h' hcc => by obtain ⟨e9, -⟩ := hcc; cases e9)
    obtain ⟨e9, hs1, o1⟩ := hcc
    cases e9
    have H1 := H.tS hs1 o1
    refine g_istore_n ok (dk m_RG_offer 17 rfl) (pc' := 36) rfl (i := 3) rfl (Nat.le_of_ble_eq_true rfl) rfl ?_
    refine g_aload_n ok (dk m_RG_offer 18 rfl) (pc' := 37) rfl (i := 0) rfl rfl ?_
    refine g_get ok (dk m_RG_offer 19 rfl) (pc' := 40) rfl f_RG_23 H1.fr rfl ?_
    refine g_new ok (dk m_RG_offer 20 rfl) (pc' := 43) rfl o_RG_96 (rc' := (mc - 2)) (rs' := (ms - 12)) (by omega) (by omega) (fun x hx0 hxb => ?_)
    refine g_gen (fun v e => ?_)
    obtain ⟨H2, hw, hk⟩ := H1.newX hx0 e
    have hv : v x = some (.inl (7, [.null, .int 0, .int 0, .int 0, .int 0, .int 0])) := by rw [e, q_up_s]
    clear e
    generalize va_up w x 7 = w at H2 hw
    refine g_dup ok (dk m_RG_offer 21 rfl) (pc' := 44) rfl rfl ?_
    refine g_aload_n ok (dk m_RG_offer 22 rfl) (pc' := 45) rfl (i := 2) rfl rfl ?_
    refine g_iload_n ok (dk m_RG_offer 23 rfl) (pc' := 46) rfl (i := 3) rfl rfl ?_
    refine g_aload_n ok (dk m_RG_offer 24 rfl) (pc' := 47) rfl (i := 0) rfl rfl ?_
    refine g_get ok (dk m_RG_offer 25 rfl) (pc' := 50) rfl f_RG_12 H2.fr rfl ?_
    refine g_callV ok (dk m_RG_offer 26 rfl) (pc' := 53) rfl c_RG_57 (c_Sec_fresh g 0 H2.sec) H2.sec.1 rfl rfl (by simp [Value.category]) (by omega) rfl (rc' := (mc - 2)) (rs' := (ms - 12)) (by omega) (by omega) (fun rv h' hcc => ?_) (fun i h' hcc => by obtain ⟨e9, -⟩ := hcc; cases e9)
    obtain ⟨e9, hs3, o3⟩ := hcc
    cases e9
    have H3 := H2.tS hs3 o3
    have hv3 := o3.kp x _ hv (fun z => by have q := H2.secT x (s_P_A z); omega)
    refine g_callI ok (dk m_RG_offer 27 rfl) (pc' := 56) rfl c_RG_98 (c_KP_init g _ _ 1 (by omega) hv3) rfl rfl (by simp [Value.category]) (by omega) rfl (rc' := (mc - 2)) (rs' := (ms - 12)) (by omega) (by omega) (fun rv h' hcc => ?_) (fun i h' hcc => by obtain ⟨e9, -⟩ := hcc; cases e9)
    obtain ⟨e9, hv4, k4⟩ := hcc
    cases e9
    have H4 := H3.keep (k4.wk (fun y hy => Or.inl (by rw [hy]; exact hw)))
    obtain ⟨l4, l5, hl4⟩ := H4.lp.size
    refine g_callV ok (dk m_RG_offer 28 rfl) (pc' := 59) rfl c_RG_46 (c_AL_add g 6 1 110 (by omega) (by omega) (by omega) H4.lp (by show np G ≤ 72; omega) H4.elp hv4 (H4.lne (by decide) (by decide) hw) ty_7 xo_7) hl4 rfl rfl (by simp [Value.category]) (by omega) rfl (rc' := (mc - 3)) (rs' := (ms - 122)) (by omega) (by omega) (fun rv h' hcc => ?_) (fun i h' hcc => by obtain ⟨e9, -⟩ := hcc; cases e9)
    obtain ⟨e9, ob5, hl5, hk5, hob5, -⟩ := hcc
    cases e9
    obtain ⟨w6, H6⟩ := H4.addP (K := k_new (S_fresh (gS G)).1 (S_fresh (S_fresh (gS G)).2).1) (o := j) hv4 hj hw hl5 hk5 hob5
    obtain ⟨l6, l7, hl6⟩ := H6.lp.size
    refine g_pop ok (dk m_RG_offer 29 rfl) (pc' := 60) rfl rfl ?_
    refine g_aload_n ok (dk m_RG_offer 30 rfl) (pc' := 61) rfl (i := 0) rfl rfl ?_
    refine g_get ok (dk m_RG_offer 31 rfl) (pc' := 64) rfl f_RG_23 H6.fr rfl ?_
    refine g_callV ok (dk m_RG_offer 32 rfl) (pc' := 67) rfl c_RG_86 (c_AL_size g 0 hl6) hl6 rfl rfl (by simp [Value.category]) (by omega) rfl (rc' := (mc - 3)) (rs' := (ms - 122)) (by omega) (by omega) (fun rv h' hcc => ?_) (fun i h' hcc => by obtain ⟨e9, -⟩ := hcc; cases e9)
    obtain ⟨e9, e2⟩ := hcc
    have e3 := e2.symm
    subst e3
    cases e9
    refine g_iconst ok (dk m_RG_offer 33 rfl) (pc' := 68) rfl (v := 1) (by decide) ?_
    refine g_isub ok (dk m_RG_offer 34 rfl) (pc' := 69) rfl ?_
    refine g_top (w := .int (nI (np G))) (by show Value.int (nI (np G + 1) - 1) = _; rw [nI_pred]) ?_
    exact g_iret ok (dk m_RG_offer 35 rfl) rfl rfl ⟨w6, _, _, by rw [hO, if_neg hnn], by rw [hO, if_neg hnn]; exact H6⟩
  · exact g_throw ok (kx := 1) (sx := 91) (tx := "there are 60 packages") (Or.inr ⟨rfl, rfl, rfl⟩) (by decide +kernel) (dk m_RG_offer 9 rfl) (dk m_RG_offer 10 rfl) (Or.inl ⟨dk m_RG_offer 11 rfl, rfl⟩) (dk m_RG_offer 12 rfl) (dk m_RG_offer 13 rfl) (by decide) (by omega) rfl (by omega) (by omega) ⟨w, D, ob, by rw [hO, if_pos (nI_nl (by omega) c_15 (by decide))], by rw [hO, if_pos (nI_nl (by omega) c_15 (by decide))]; exact H⟩
set_option maxHeartbeats 1000000 in
theorem c_RG_add (g : q_G) {h : q_H} {r : Nat} {w : Nat → Nat} {D : a_T} {ob : Nat → Option Nat} {G : G_T} (m k : Int32) (d mc ms : Nat) (hd : 7 ≤ d) (hmc : 4 ≤ mc) (hms : 123 ≤ ms) (hnp : np G ≤ 60) (hnq : nq G ≤ 20) (H : q_RG g h r w D ob G) : MG g y_RG_add b_RG_add 4 (some .int) d mc ms [.ref r, .int m, .int k] h (fun q h' => ∃ w' D' ob', q = (O_add G m k).1 ∧ q_RG g h' r w' D' ob' (O_add G m k).2) := by
  obtain ⟨lp0, lp1, hlp⟩ := H.lp.size
  classical
  refine MG.of (by decide +kernel) (by simp [Value.category]) (Nat.le_of_ble_eq_true rfl) ?_
  intro Z A ok
  refine g_aload_n ok (dk m_RG_add 0 rfl) (pc' := 1) rfl (i := 0) rfl rfl ?_
  refine g_iload_n ok (dk m_RG_add 1 rfl) (pc' := 2) rfl (i := 1) rfl rfl ?_
  refine g_callV ok (dk m_RG_add 2 rfl) (pc' := 5) rfl c_RG_82 (c_RG_memberNumbered g m 6 1 6 (by omega) (by omega) (by omega) H) H.fr rfl rfl (by simp [Value.category]) (by omega) rfl (rc' := (mc - 1)) (rs' := (ms - 6)) (by omega) (by omega) (fun rv h' hcc => ?_) (fun i h' hcc => by obtain ⟨e9 | ⟨hr, e9⟩, e3⟩ := hcc; exact absurd e9.2 (fun z => by cases z); exact ⟨w, D, ob, by rw [O_add, if_neg hr]; exact e9, by rw [O_add, if_neg hr, e3]; exact H⟩)
  have hr : r_in 16 m ∧ rv = some (.ref (mA D (ix m))) := by
    rcases hcc.1 with ⟨a, b⟩ | ⟨a, b⟩
    · exact ⟨a, Sum.inl.inj b⟩
    · cases b
  obtain ⟨hr, rfl⟩ := hr
  have e4 := hcc.2.symm
  clear hcc
  subst e4
  obtain ⟨j, hj, rfl⟩ := r_in_of (by decide) hr
  have hx : ix (nI j) = j := ix_nI (by omega)
  rw [hx]
  have hO : O_add G (nI j) k = if r_in (np G) k then (if P_may G j then (.inl (some (.int (nI (nq G + 1)))), G_prop G (0, ix k, 0, 0)) else (.inr 1, G)) else (.inr 0, G) := by rw [O_add, if_pos hr, hx]
  refine g_astore_n ok (dk m_RG_add 3 rfl) (pc' := 6) rfl (i := 3) rfl (Nat.le_of_ble_eq_true rfl) rfl ?_
  refine g_iload_n ok (dk m_RG_add 4 rfl) (pc' := 7) rfl (i := 2) rfl rfl ?_
  refine g_if_lt ok (dk m_RG_add 5 rfl) (tgt := 21) (by decide) (pc' := 10) rfl (fun c_7 => ?_) (fun c_7 => ?_)
  · exact g_throw ok (kx := 0) (sx := 103) (tx := "no such package") (Or.inl ⟨rfl, rfl, rfl⟩) (by decide +kernel) (dk m_RG_add 11 rfl) (dk m_RG_add 12 rfl) (Or.inl ⟨dk m_RG_add 13 rfl, rfl⟩) (dk m_RG_add 14 rfl) (dk m_RG_add 15 rfl) (by decide) (by omega) rfl (by omega) (by omega) ⟨w, D, ob, by rw [hO, if_neg (fun z => z.1 c_7)], by rw [hO, if_neg (fun z => z.1 c_7)]; exact H⟩
  · refine g_iload_n ok (dk m_RG_add 6 rfl) (pc' := 11) rfl (i := 2) rfl rfl ?_
    refine g_aload_n ok (dk m_RG_add 7 rfl) (pc' := 12) rfl (i := 0) rfl rfl ?_
    refine g_get ok (dk m_RG_add 8 rfl) (pc' := 15) rfl f_RG_23 H.fr rfl ?_
    refine g_callV ok (dk m_RG_add 9 rfl) (pc' := 18) rfl c_RG_86 (c_AL_size g 0 hlp) hlp rfl rfl (by simp [Value.category]) (by omega) rfl (rc' := (mc - 1)) (rs' := (ms - 6)) (by omega) (by omega) (fun rv h' hcc => ?_) (fun i h' hcc => by obtain ⟨e9, -⟩ := hcc; cases e9)
    obtain ⟨e9, e2⟩ := hcc
    have e3 := e2.symm
    subst e3
    cases e9
    refine g_icmp_lt ok (dk m_RG_add 10 rfl) (tgt := 31) (by decide) (pc' := 21) rfl (fun c_18 => ?_) (fun c_18 => ?_)
    · have hk1 : r_in (np G) k := ⟨c_7, fun z => absurd c_18 (fun q => Int32.lt_irrefl (Int32.lt_of_lt_of_le q z))⟩
      have hO2 : O_add G (nI j) k = if P_may G j then (.inl (some (.int (nI (nq G + 1)))), G_prop G (0, ix k, 0, 0)) else (.inr 1, G) := by rw [hO, if_pos hk1]
      obtain ⟨i, hi, rfl⟩ := r_in_of (by omega) hk1
      have hxi : ix (nI i) = i := ix_nI (by omega)
      rw [hxi] at hO2
      refine g_aload_n ok (dk m_RG_add 16 rfl) (pc' := 32) rfl (i := 0) rfl rfl ?_
      refine g_aload_n ok (dk m_RG_add 17 rfl) (pc' := 33) rfl (i := 3) rfl rfl ?_
      refine g_callV ok (dk m_RG_add 18 rfl) (pc' := 36) rfl c_RG_106 (c_RG_refuseUnlessMayPropose g 6 1 6 (by omega) (by omega) (by omega) hj (by omega) H) H.fr rfl rfl (by simp [Value.category]) (by omega) rfl (rc' := (mc - 2)) (rs' := (ms - 12)) (by omega) (by omega) (fun rv h' hcc => ?_) (fun i h' hcc => by obtain ⟨e9 | ⟨hy, e9⟩, e3⟩ := hcc; exact absurd e9.2 (fun z => by cases z); exact ⟨w, D, ob, by rw [hO2, if_neg hy]; exact e9, by rw [hO2, if_neg hy, e3]; exact H⟩)
      have hy : P_may G j ∧ rv = none := by
        rcases hcc.1 with ⟨a, b⟩ | ⟨a, b⟩
        · exact ⟨a, Sum.inl.inj b⟩
        · cases b
      obtain ⟨hy, rfl⟩ := hy
      have e4 := hcc.2.symm
      clear hcc
      subst e4
      refine g_aload_n ok (dk m_RG_add 19 rfl) (pc' := 37) rfl (i := 0) rfl rfl ?_
      refine g_get ok (dk m_RG_add 20 rfl) (pc' := 40) rfl f_RG_26 H.fr rfl ?_
      refine g_new ok (dk m_RG_add 21 rfl) (pc' := 43) rfl o_RG_110 (rc' := (mc - 3)) (rs' := (ms - 13)) (by omega) (by omega) (fun x hx0 hxb => ?_)
      refine g_gen (fun v e => ?_)
      obtain ⟨H2, hw, hk⟩ := H.newX hx0 e
      have hv : v x = some (.inl (8, [.null])) := by rw [e, q_up_s]
      clear e
      generalize va_up w x 7 = w at H2 hw
      obtain ⟨l2, l3, hl2⟩ := H2.lp.size
      refine g_dup ok (dk m_RG_add 22 rfl) (pc' := 44) rfl rfl ?_
      refine g_aload_n ok (dk m_RG_add 23 rfl) (pc' := 45) rfl (i := 0) rfl rfl ?_
      refine g_get ok (dk m_RG_add 24 rfl) (pc' := 48) rfl f_RG_23 H2.fr rfl ?_
      refine g_iload_n ok (dk m_RG_add 25 rfl) (pc' := 49) rfl (i := 2) rfl rfl ?_
      refine g_callV ok (dk m_RG_add 26 rfl) (pc' := 52) rfl c_RG_112 (c_AL_get g 2 (by omega) H2.lp hi) hl2 rfl rfl (by simp [Value.category]) (by omega) rfl (rc' := (mc - 3)) (rs' := (ms - 13)) (by omega) (by omega) (fun rv h' hcc => ?_) (fun i h' hcc => by obtain ⟨e9, -⟩ := hcc; cases e9)
      obtain ⟨e9, e2⟩ := hcc
      have e3 := e2.symm
      subst e3
      cases e9
      refine g_castY ok (dk m_RG_add 27 rfl) (pc' := 55) rfl k_RG_96 xc_7 ty_7 (H2.pk hi) ?_
      refine g_callI ok (dk m_RG_add 28 rfl) (pc' := 58) rfl c_RG_116 (c_Ad_init g 1 (by omega) hv) rfl rfl (by simp [Value.category]) (by omega) rfl (rc' := (mc - 3)) (rs' := (ms - 13)) (by omega) (by omega) (fun rv h' hcc => ?_) (fun i h' hcc => by obtain ⟨e9, -⟩ := hcc; cases e9)
      obtain ⟨e9, hv4, k4⟩ := hcc
      cases e9
      have H4 := H2.keep (k4.wk (fun y hy => Or.inl (by rw [hy]; exact hw)))
      obtain ⟨l4, l5, hl4⟩ := H4.lq.size
      refine g_callV ok (dk m_RG_add 29 rfl) (pc' := 61) rfl c_RG_46 (c_AL_add g 6 1 110 (by omega) (by omega) (by omega) H4.lq (by show nq G ≤ 72; omega) H4.elq hv4 (H4.lne (by decide) (by decide) hw) ty_8 xo_8) hl4 rfl rfl (by simp [Value.category]) (by omega) rfl (rc' := (mc - 4)) (rs' := (ms - 123)) (by omega) (by omega) (fun rv h' hcc => ?_) (fun i h' hcc => by obtain ⟨e9, -⟩ := hcc; cases e9)
      obtain ⟨e9, ob5, hl5, hk5, hob5, -⟩ := hcc
      cases e9
      obtain ⟨w6, H6⟩ := H4.addQ (p := (0, i, 0, 0)) (Or.inl ⟨rfl, hi, hv4⟩) hw hl5 hk5 hob5
      obtain ⟨l6, l7, hl6⟩ := H6.lq.size
      refine g_pop ok (dk m_RG_add 30 rfl) (pc' := 62) rfl rfl ?_
      refine g_aload_n ok (dk m_RG_add 31 rfl) (pc' := 63) rfl (i := 0) rfl rfl ?_
      refine g_get ok (dk m_RG_add 32 rfl) (pc' := 66) rfl f_RG_26 H6.fr rfl ?_
      refine g_callV ok (dk m_RG_add 33 rfl) (pc' := 69) rfl c_RG_86 (c_AL_size g 0 hl6) hl6 rfl rfl (by simp [Value.category]) (by omega) rfl (rc' := (mc - 4)) (rs' := (ms - 123)) (by omega) (by omega) (fun rv h' hcc => ?_) (fun i h' hcc => by obtain ⟨e9, -⟩ := hcc; cases e9)
      obtain ⟨e9, e2⟩ := hcc
      have e3 := e2.symm
      subst e3
      cases e9
      exact g_iret ok (dk m_RG_add 34 rfl) rfl rfl ⟨w6, _, _, by rw [hO2, if_pos hy]; rfl, by rw [hO2, if_pos hy]; exact H6⟩
    · exact g_throw ok (kx := 0) (sx := 103) (tx := "no such package") (Or.inl ⟨rfl, rfl, rfl⟩) (by decide +kernel) (dk m_RG_add 11 rfl) (dk m_RG_add 12 rfl) (Or.inl ⟨dk m_RG_add 13 rfl, rfl⟩) (dk m_RG_add 14 rfl) (dk m_RG_add 15 rfl) (by decide) (by omega) rfl (by omega) (by omega) ⟨w, D, ob, by rw [hO, if_neg (fun z => c_18 (Int32.not_le.mp z.2))], by rw [hO, if_neg (fun z => c_18 (Int32.not_le.mp z.2))]; exact H⟩
set_option maxHeartbeats 1000000 in
theorem c_RG_remove (g : q_G) {h : q_H} {r : Nat} {w : Nat → Nat} {D : a_T} {ob : Nat → Option Nat} {G : G_T} (m l : Int32) (d mc ms : Nat) (hd : 7 ≤ d) (hmc : 4 ≤ mc) (hms : 123 ≤ ms) (hnq : nq G ≤ 20) (H : q_RG g h r w D ob G) : MG g y_RG_remove b_RG_remove 4 (some .int) d mc ms [.ref r, .int m, .int l] h (fun q h' => ∃ w' D' ob', q = (O_remove G m l).1 ∧ q_RG g h' r w' D' ob' (O_remove G m l).2) := by
  classical
  refine MG.of (by decide +kernel) (by simp [Value.category]) (Nat.le_of_ble_eq_true rfl) ?_
  intro Z A ok
  refine g_aload_n ok (dk m_RG_remove 0 rfl) (pc' := 1) rfl (i := 0) rfl rfl ?_
  refine g_iload_n ok (dk m_RG_remove 1 rfl) (pc' := 2) rfl (i := 1) rfl rfl ?_
  refine g_callV ok (dk m_RG_remove 2 rfl) (pc' := 5) rfl c_RG_82 (c_RG_memberNumbered g m 6 1 6 (by omega) (by omega) (by omega) H) H.fr rfl rfl (by simp [Value.category]) (by omega) rfl (rc' := (mc - 1)) (rs' := (ms - 6)) (by omega) (by omega) (fun rv h' hcc => ?_) (fun i h' hcc => by obtain ⟨e9 | ⟨hr, e9⟩, e3⟩ := hcc; exact absurd e9.2 (fun z => by cases z); exact ⟨w, D, ob, by rw [O_remove, if_neg hr]; exact e9, by rw [O_remove, if_neg hr, e3]; exact H⟩)
  have hr : r_in 16 m ∧ rv = some (.ref (mA D (ix m))) := by
    rcases hcc.1 with ⟨a, b⟩ | ⟨a, b⟩
    · exact ⟨a, Sum.inl.inj b⟩
    · cases b
  obtain ⟨hr, rfl⟩ := hr
  have e4 := hcc.2.symm
  clear hcc
  subst e4
  obtain ⟨j, hj, rfl⟩ := r_in_of (by decide) hr
  have hx : ix (nI j) = j := ix_nI (by omega)
  rw [hx]
  have hO : O_remove G (nI j) l = if r_in 16 l then (if P_may G j then (.inl (some (.int (nI (nq G + 1)))), G_prop G (1, 0, l, 0)) else (.inr 1, G)) else (.inr 0, G) := by rw [O_remove, if_pos hr, hx]
  refine g_astore_n ok (dk m_RG_remove 3 rfl) (pc' := 6) rfl (i := 3) rfl (Nat.le_of_ble_eq_true rfl) rfl ?_
  refine g_iload_n ok (dk m_RG_remove 4 rfl) (pc' := 7) rfl (i := 2) rfl rfl ?_
  refine g_if_lt ok (dk m_RG_remove 5 rfl) (tgt := 16) (by decide) (pc' := 10) rfl (fun c_7 => ?_) (fun c_7 => ?_)
  · exact g_throw ok (kx := 0) (sx := 119) (tx := "no such leaf") (Or.inl ⟨rfl, rfl, rfl⟩) (by decide +kernel) (dk m_RG_remove 9 rfl) (dk m_RG_remove 10 rfl) (Or.inl ⟨dk m_RG_remove 11 rfl, rfl⟩) (dk m_RG_remove 12 rfl) (dk m_RG_remove 13 rfl) (by decide) (by omega) rfl (by omega) (by omega) ⟨w, D, ob, by rw [hO, if_neg (fun z => z.1 c_7)], by rw [hO, if_neg (fun z => z.1 c_7)]; exact H⟩
  · refine g_iload_n ok (dk m_RG_remove 6 rfl) (pc' := 11) rfl (i := 2) rfl rfl ?_
    refine g_bipush ok (dk m_RG_remove 7 rfl) (pc' := 13) rfl (v := 16) (by decide) ?_
    refine g_icmp_lt ok (dk m_RG_remove 8 rfl) (tgt := 26) (by decide) (pc' := 16) rfl (fun c_13 => ?_) (fun c_13 => ?_)
    · have hk1 : r_in 16 l := ⟨c_7, fun z => absurd c_13 (fun q => Int32.lt_irrefl (Int32.lt_of_lt_of_le q z))⟩
      have hO2 : O_remove G (nI j) l = if P_may G j then (.inl (some (.int (nI (nq G + 1)))), G_prop G (1, 0, l, 0)) else (.inr 1, G) := by rw [hO, if_pos hk1]
      refine g_aload_n ok (dk m_RG_remove 14 rfl) (pc' := 27) rfl (i := 0) rfl rfl ?_
      refine g_aload_n ok (dk m_RG_remove 15 rfl) (pc' := 28) rfl (i := 3) rfl rfl ?_
      refine g_callV ok (dk m_RG_remove 16 rfl) (pc' := 31) rfl c_RG_106 (c_RG_refuseUnlessMayPropose g 6 1 6 (by omega) (by omega) (by omega) hj (by omega) H) H.fr rfl rfl (by simp [Value.category]) (by omega) rfl (rc' := (mc - 2)) (rs' := (ms - 12)) (by omega) (by omega) (fun rv h' hcc => ?_) (fun i h' hcc => by obtain ⟨e9 | ⟨hy, e9⟩, e3⟩ := hcc; exact absurd e9.2 (fun z => by cases z); exact ⟨w, D, ob, by rw [hO2, if_neg hy]; exact e9, by rw [hO2, if_neg hy, e3]; exact H⟩)
      have hy : P_may G j ∧ rv = none := by
        rcases hcc.1 with ⟨a, b⟩ | ⟨a, b⟩
        · exact ⟨a, Sum.inl.inj b⟩
        · cases b
      obtain ⟨hy, rfl⟩ := hy
      have e4 := hcc.2.symm
      clear hcc
      subst e4
      refine g_aload_n ok (dk m_RG_remove 17 rfl) (pc' := 32) rfl (i := 0) rfl rfl ?_
      refine g_get ok (dk m_RG_remove 18 rfl) (pc' := 35) rfl f_RG_26 H.fr rfl ?_
      refine g_new ok (dk m_RG_remove 19 rfl) (pc' := 38) rfl o_RG_121 (rc' := (mc - 3)) (rs' := (ms - 13)) (by omega) (by omega) (fun x hx0 hxb => ?_)
      refine g_gen (fun v e => ?_)
      obtain ⟨H2, hw, hk⟩ := H.newX hx0 e
      have hv : v x = some (.inl (9, [.int 0])) := by rw [e, q_up_s]
      clear e
      generalize va_up w x 7 = w at H2 hw
      refine g_dup ok (dk m_RG_remove 20 rfl) (pc' := 39) rfl rfl ?_
      refine g_iload_n ok (dk m_RG_remove 21 rfl) (pc' := 40) rfl (i := 2) rfl rfl ?_
      refine g_callI ok (dk m_RG_remove 22 rfl) (pc' := 43) rfl c_RG_123 (c_Re_init g _ 1 (by omega) hv) rfl rfl (by simp [Value.category]) (by omega) rfl (rc' := (mc - 3)) (rs' := (ms - 13)) (by omega) (by omega) (fun rv h' hcc => ?_) (fun i h' hcc => by obtain ⟨e9, -⟩ := hcc; cases e9)
      obtain ⟨e9, hv4, k4⟩ := hcc
      cases e9
      have H4 := H2.keep (k4.wk (fun y hy => Or.inl (by rw [hy]; exact hw)))
      obtain ⟨l4, l5, hl4⟩ := H4.lq.size
      refine g_callV ok (dk m_RG_remove 23 rfl) (pc' := 46) rfl c_RG_46 (c_AL_add g 6 1 110 (by omega) (by omega) (by omega) H4.lq (by show nq G ≤ 72; omega) H4.elq hv4 (H4.lne (by decide) (by decide) hw) ty_9 xo_9) hl4 rfl rfl (by simp [Value.category]) (by omega) rfl (rc' := (mc - 4)) (rs' := (ms - 123)) (by omega) (by omega) (fun rv h' hcc => ?_) (fun i h' hcc => by obtain ⟨e9, -⟩ := hcc; cases e9)
      obtain ⟨e9, ob5, hl5, hk5, hob5, -⟩ := hcc
      cases e9
      obtain ⟨w6, H6⟩ := H4.addQ (p := (1, 0, l, 0)) (Or.inr (Or.inl ⟨rfl, hv4⟩)) hw hl5 hk5 hob5
      obtain ⟨l6, l7, hl6⟩ := H6.lq.size
      refine g_pop ok (dk m_RG_remove 24 rfl) (pc' := 47) rfl rfl ?_
      refine g_aload_n ok (dk m_RG_remove 25 rfl) (pc' := 48) rfl (i := 0) rfl rfl ?_
      refine g_get ok (dk m_RG_remove 26 rfl) (pc' := 51) rfl f_RG_26 H6.fr rfl ?_
      refine g_callV ok (dk m_RG_remove 27 rfl) (pc' := 54) rfl c_RG_86 (c_AL_size g 0 hl6) hl6 rfl rfl (by simp [Value.category]) (by omega) rfl (rc' := (mc - 4)) (rs' := (ms - 123)) (by omega) (by omega) (fun rv h' hcc => ?_) (fun i h' hcc => by obtain ⟨e9, -⟩ := hcc; cases e9)
      obtain ⟨e9, e2⟩ := hcc
      have e3 := e2.symm
      subst e3
      cases e9
      exact g_iret ok (dk m_RG_remove 28 rfl) rfl rfl ⟨w6, _, _, by rw [hO2, if_pos hy]; rfl, by rw [hO2, if_pos hy]; exact H6⟩
    · exact g_throw ok (kx := 0) (sx := 119) (tx := "no such leaf") (Or.inl ⟨rfl, rfl, rfl⟩) (by decide +kernel) (dk m_RG_remove 9 rfl) (dk m_RG_remove 10 rfl) (Or.inl ⟨dk m_RG_remove 11 rfl, rfl⟩) (dk m_RG_remove 12 rfl) (dk m_RG_remove 13 rfl) (by decide) (by omega) rfl (by omega) (by omega) ⟨w, D, ob, by rw [hO, if_neg (fun z => c_13 (Int32.not_le.mp z.2))], by rw [hO, if_neg (fun z => c_13 (Int32.not_le.mp z.2))]; exact H⟩
set_option maxHeartbeats 1000000 in
theorem c_RG_update (g : q_G) {h : q_H} {r : Nat} {w : Nat → Nat} {D : a_T} {ob : Nat → Option Nat} {G : G_T} (m : Int32) (d mc ms : Nat) (hd : 7 ≤ d) (hmc : 4 ≤ mc) (hms : 124 ≤ ms) (hnq : nq G ≤ 20) (H : q_RG g h r w D ob G) : MG g y_RG_update b_RG_update 4 (some .int) d mc ms [.ref r, .int m] h (fun q h' => ∃ w' D' ob', q = (O_update G m).1 ∧ q_RG g h' r w' D' ob' (O_update G m).2) := by
  classical
  refine MG.of (by decide +kernel) (by simp [Value.category]) (Nat.le_of_ble_eq_true rfl) ?_
  intro Z A ok
  refine g_aload_n ok (dk m_RG_update 0 rfl) (pc' := 1) rfl (i := 0) rfl rfl ?_
  refine g_iload_n ok (dk m_RG_update 1 rfl) (pc' := 2) rfl (i := 1) rfl rfl ?_
  refine g_callV ok (dk m_RG_update 2 rfl) (pc' := 5) rfl c_RG_82 (c_RG_memberNumbered g m 6 1 6 (by omega) (by omega) (by omega) H) H.fr rfl rfl (by simp [Value.category]) (by omega) rfl (rc' := (mc - 1)) (rs' := (ms - 6)) (by omega) (by omega) (fun rv h' hcc => ?_) (fun i h' hcc => by obtain ⟨e9 | ⟨hr, e9⟩, e3⟩ := hcc; exact absurd e9.2 (fun z => by cases z); exact ⟨w, D, ob, by rw [O_update, if_neg hr]; exact e9, by rw [O_update, if_neg hr, e3]; exact H⟩)
  have hr : r_in 16 m ∧ rv = some (.ref (mA D (ix m))) := by
    rcases hcc.1 with ⟨a, b⟩ | ⟨a, b⟩
    · exact ⟨a, Sum.inl.inj b⟩
    · cases b
  obtain ⟨hr, rfl⟩ := hr
  have e4 := hcc.2.symm
  clear hcc
  subst e4
  obtain ⟨j, hj, rfl⟩ := r_in_of (by decide) hr
  have hx : ix (nI j) = j := ix_nI (by omega)
  rw [hx]
  have hO : O_update G (nI j) = if P_may G j then (.inl (some (.int (nI (nq G + 1)))), G_upd G j) else (.inr 1, G) := by rw [O_update, if_pos hr, hx]
  refine g_astore_n ok (dk m_RG_update 3 rfl) (pc' := 6) rfl (i := 2) rfl (Nat.le_of_ble_eq_true rfl) rfl ?_
  refine g_aload_n ok (dk m_RG_update 4 rfl) (pc' := 7) rfl (i := 0) rfl rfl ?_
  refine g_aload_n ok (dk m_RG_update 5 rfl) (pc' := 8) rfl (i := 2) rfl rfl ?_
  refine g_callV ok (dk m_RG_update 6 rfl) (pc' := 11) rfl c_RG_106 (c_RG_refuseUnlessMayPropose g 6 1 6 (by omega) (by omega) (by omega) hj (by omega) H) H.fr rfl rfl (by simp [Value.category]) (by omega) rfl (rc' := (mc - 2)) (rs' := (ms - 12)) (by omega) (by omega) (fun rv h' hcc => ?_) (fun i h' hcc => by obtain ⟨e9 | ⟨hy, e9⟩, e3⟩ := hcc; exact absurd e9.2 (fun z => by cases z); exact ⟨w, D, ob, by rw [hO, if_neg hy]; exact e9, by rw [hO, if_neg hy, e3]; exact H⟩)
  have hy : P_may G j ∧ rv = none := by
    rcases hcc.1 with ⟨a, b⟩ | ⟨a, b⟩
    · exact ⟨a, Sum.inl.inj b⟩
    · cases b
  obtain ⟨hy, rfl⟩ := hy
  have e4 := hcc.2.symm
  clear hcc
  subst e4
  refine g_aload_n ok (dk m_RG_update 7 rfl) (pc' := 12) rfl (i := 0) rfl rfl ?_
  refine g_get ok (dk m_RG_update 8 rfl) (pc' := 15) rfl f_RG_12 H.fr rfl ?_
  refine g_callV ok (dk m_RG_update 9 rfl) (pc' := 18) rfl c_RG_57 (c_Sec_fresh g 0 H.sec) H.sec.1 rfl rfl (by simp [Value.category]) (by omega) rfl (rc' := (mc - 2)) (rs' := (ms - 12)) (by omega) (by omega) (fun rv h' hcc => ?_) (fun i h' hcc => by obtain ⟨e9, -⟩ := hcc; cases e9)
  obtain ⟨e9, hs1, o1⟩ := hcc
  cases e9
  have H1 := H.tS hs1 o1
  refine g_istore_n ok (dk m_RG_update 10 rfl) (pc' := 19) rfl (i := 3) rfl (Nat.le_of_ble_eq_true rfl) rfl ?_
  refine g_aload_n ok (dk m_RG_update 11 rfl) (pc' := 20) rfl (i := 2) rfl rfl ?_
  refine g_iload_n ok (dk m_RG_update 12 rfl) (pc' := 21) rfl (i := 3) rfl rfl ?_
  refine g_callV ok (dk m_RG_update 13 rfl) (pc' := 24) rfl c_RG_124 (c_Mem_keepUpdate g _ 1 (by omega) (H1.mem hj)) (H1.mem hj).1 rfl rfl (by simp [Value.category]) (by omega) rfl (rc' := (mc - 2)) (rs' := (ms - 12)) (by omega) (by omega) (fun rv h' hcc => ?_) (fun i h' hcc => by obtain ⟨e9, -⟩ := hcc; cases e9)
  obtain ⟨e9, hm1, o2⟩ := hcc
  cases e9
  have H1 := H1.tM hj hm1 o2
  refine g_aload_n ok (dk m_RG_update 14 rfl) (pc' := 25) rfl (i := 0) rfl rfl ?_
  refine g_get ok (dk m_RG_update 15 rfl) (pc' := 28) rfl f_RG_26 H1.fr rfl ?_
  refine g_new ok (dk m_RG_update 16 rfl) (pc' := 31) rfl o_RG_127 (rc' := (mc - 3)) (rs' := (ms - 14)) (by omega) (by omega) (fun x hx0 hxb => ?_)
  refine g_gen (fun v e => ?_)
  obtain ⟨H2, hw, hk⟩ := H1.newX hx0 e
  have hv : v x = some (.inl (10, [.int 0, .int 0])) := by rw [e, q_up_s]
  clear e
  generalize va_up w x 7 = w at H2 hw
  have hm2 := H2.mem hj
  rw [show gM (sM (sS G (S_fresh (gS G)).2) j (M_keep (gM G j) (S_fresh (gS G)).1)) j = M_keep (gM G j) (S_fresh (gS G)).1 from if_pos rfl] at hm2
  refine g_dup ok (dk m_RG_update 17 rfl) (pc' := 32) rfl rfl ?_
  refine g_aload_n ok (dk m_RG_update 18 rfl) (pc' := 33) rfl (i := 2) rfl rfl ?_
  refine g_get ok (dk m_RG_update 19 rfl) (pc' := 36) rfl f_RG_129 hm2.1 rfl ?_
  refine g_iload_n ok (dk m_RG_update 20 rfl) (pc' := 37) rfl (i := 3) rfl rfl ?_
  refine g_callI ok (dk m_RG_update 21 rfl) (pc' := 40) rfl c_RG_132 (c_Rn_init g _ _ 1 (by omega) hv) rfl rfl (by simp [Value.category]) (by omega) rfl (rc' := (mc - 3)) (rs' := (ms - 14)) (by omega) (by omega) (fun rv h' hcc => ?_) (fun i h' hcc => by obtain ⟨e9, -⟩ := hcc; cases e9)
  obtain ⟨e9, hv4, k4⟩ := hcc
  cases e9
  have H4 := H2.keep (k4.wk (fun y hy => Or.inl (by rw [hy]; exact hw)))
  obtain ⟨l4, l5, hl4⟩ := H4.lq.size
  refine g_callV ok (dk m_RG_update 22 rfl) (pc' := 43) rfl c_RG_46 (c_AL_add g 6 1 110 (by omega) (by omega) (by omega) H4.lq (by show nq G ≤ 72; omega) H4.elq hv4 (H4.lne (by decide) (by decide) hw) ty_10 xo_10) hl4 rfl rfl (by simp [Value.category]) (by omega) rfl (rc' := (mc - 4)) (rs' := (ms - 124)) (by omega) (by omega) (fun rv h' hcc => ?_) (fun i h' hcc => by obtain ⟨e9, -⟩ := hcc; cases e9)
  obtain ⟨e9, ob5, hl5, hk5, hob5, -⟩ := hcc
  cases e9
  obtain ⟨w6, H6⟩ := H4.addQ (p := (2, 0, (M_keep (gM G j) (S_fresh (gS G)).1).1 3, (S_fresh (gS G)).1)) (Or.inr (Or.inr ⟨rfl, hv4⟩)) hw hl5 hk5 hob5
  obtain ⟨l6, l7, hl6⟩ := H6.lq.size
  refine g_pop ok (dk m_RG_update 23 rfl) (pc' := 44) rfl rfl ?_
  refine g_aload_n ok (dk m_RG_update 24 rfl) (pc' := 45) rfl (i := 0) rfl rfl ?_
  refine g_get ok (dk m_RG_update 25 rfl) (pc' := 48) rfl f_RG_26 H6.fr rfl ?_
  refine g_callV ok (dk m_RG_update 26 rfl) (pc' := 51) rfl c_RG_86 (c_AL_size g 0 hl6) hl6 rfl rfl (by simp [Value.category]) (by omega) rfl (rc' := (mc - 4)) (rs' := (ms - 124)) (by omega) (by omega) (fun rv h' hcc => ?_) (fun i h' hcc => by obtain ⟨e9, -⟩ := hcc; cases e9)
  obtain ⟨e9, e2⟩ := hcc
  have e3 := e2.symm
  subst e3
  cases e9
  exact g_iret ok (dk m_RG_update 27 rfl) rfl rfl ⟨w6, _, _, by rw [hO, if_pos hy]; rfl, by rw [hO, if_pos hy]; exact H6⟩
end
section
/-! ===== the group and the epoch that a commit makes, side by side ===== -/
abbrev q_ex (h : q_H) (x : Nat → Nat) (E : e_T) : Prop := q_ep h (x 0) (x 1) (x 2) (x 3) (fun j => x (4 + j)) (fun j => x (8 + j)) E
abbrev A_ex (x : Nat → Nat) : Nat → Prop := ep_A (x 0) (x 1) (x 2) (x 3) (fun j => x (4 + j)) (fun j => x (8 + j))
abbrev P_ex (x : Nat → Nat) : Nat → Prop := ep_P (x 0) (x 1) (x 3) (fun j => x (8 + j))
theorem ex_of {h : q_H} {e t pr pb : Nat} {ra rb : Nat → Nat} {E : e_T} (hx : q_ep h e t pr pb ra rb E) : ∃ x : Nat → Nat, x 0 = e ∧ q_ex h x E ∧ ∀ y, A_ex x y → ep_A e t pr pb ra rb y := by
  have hra : ∀ j, j < 4 → (fun k => if k = 0 then e else if k = 1 then t else if k = 2 then pr else if k = 3 then pb else if k < 8 then ra (k - 4) else rb (k - 8)) (4 + j) = ra j := by
    intro j z
    show (if 4 + j = 0 then e else if 4 + j = 1 then t else if 4 + j = 2 then pr else if 4 + j = 3 then pb else if 4 + j < 8 then ra (4 + j - 4) else rb (4 + j - 8)) = _
    rw [if_neg (by omega), if_neg (by omega), if_neg (by omega), if_neg (by omega), if_pos (by omega), show 4 + j - 4 = j by omega]
  have hrb : (fun j => (fun k => if k = 0 then e else if k = 1 then t else if k = 2 then pr else if k = 3 then pb else if k < 8 then ra (k - 4) else rb (k - 8)) (8 + j)) = rb := by
    funext j
    show (if 8 + j = 0 then e else if 8 + j = 1 then t else if 8 + j = 2 then pr else if 8 + j = 3 then pb else if 8 + j < 8 then ra (8 + j - 4) else rb (8 + j - 8)) = _
    rw [if_neg (by omega), if_neg (by omega), if_neg (by omega), if_neg (by omega), if_neg (by omega), show 8 + j - 8 = j by omega]
  refine ⟨fun k => if k = 0 then e else if k = 1 then t else if k = 2 then pr else if k = 3 then pb else if k < 8 then ra (k - 4) else rb (k - 8), rfl, ?_⟩
  have x0 : (fun k => if k = 0 then e else if k = 1 then t else if k = 2 then pr else if k = 3 then pb else if k < 8 then ra (k - 4) else rb (k - 8)) 0 = e := rfl
  have x1 : (fun k => if k = 0 then e else if k = 1 then t else if k = 2 then pr else if k = 3 then pb else if k < 8 then ra (k - 4) else rb (k - 8)) 1 = t := rfl
  have x2 : (fun k => if k = 0 then e else if k = 1 then t else if k = 2 then pr else if k = 3 then pb else if k < 8 then ra (k - 4) else rb (k - 8)) 2 = pr := rfl
  have x3 : (fun k => if k = 0 then e else if k = 1 then t else if k = 2 then pr else if k = 3 then pb else if k < 8 then ra (k - 4) else rb (k - 8)) 3 = pb := rfl
  generalize (fun k => if k = 0 then e else if k = 1 then t else if k = 2 then pr else if k = 3 then pb else if k < 8 then ra (k - 4) else rb (k - 8)) = x at hra hrb x0 x1 x2 x3
  refine ⟨?_, ?_⟩
  · show q_ep h (x 0) (x 1) (x 2) (x 3) (fun j => x (4 + j)) (fun j => x (8 + j)) E
    rw [x0, x1, x2, x3, hrb]
    have ht := hx.2.1.1
    refine ⟨hx.1, ⟨?_, fun i hi => ?_, hx.2.1.2.2⟩, hx.2.2⟩
    · show h t = some (.inl (6, [.ref (x (4 + 0)), .ref (x (4 + 1)), .ref (x (4 + 2)), .ref (x (4 + 3)), .int (nI E.2.1.2)]))
      rw [hra 0 (by decide), hra 1 (by decide), hra 2 (by decide), hra 3 (by decide)]
      exact ht
    · rw [show (fun j => x (4 + j)) i = ra i from hra i hi]
      exact hx.2.1.2.1 i hi
  · show ∀ y, ep_A (x 0) (x 1) (x 2) (x 3) (fun j => x (4 + j)) (fun j => x (8 + j)) y → ep_A e t pr pb ra rb y
    rw [x0, x1, x2, x3, hrb]
    intro y hy
    rcases hy with z | z | z | z | ⟨i, hi, z⟩
    · exact Or.inl z
    · exact Or.inr (Or.inl z)
    · exact Or.inr (Or.inr (Or.inl z))
    · exact Or.inr (Or.inr (Or.inr (Or.inl z)))
    · rw [show (fun j => x (4 + j)) i = ra i from hra i hi] at z
      exact Or.inr (Or.inr (Or.inr (Or.inr ⟨i, hi, z⟩)))
def q_GE (g : q_G) (h : q_H) (r : Nat) (w : Nat → Nat) (D : a_T) (ob : Nat → Option Nat) (x : Nat → Nat) (p : G_T × e_T) : Prop := q_RG g h r w D ob p.1 ∧ q_ex h x p.2 ∧ (∀ y, A_ex x y → w y = 7) ∧ p.2.2.1.2 ≤ 4
section
variable {g : q_G} {h h' : q_H} {r : Nat} {w : Nat → Nat} {D : a_T} {ob : Nat → Option Nat} {x : Nat → Nat} {p : G_T × e_T}
theorem q_GE.tT (H : q_GE g h r w D ob x p) {T : tr_T} (ht : q_tree h' (x 1) (fun j => x (4 + j)) (fun j => x (8 + j)) T) (ho : q_off h h' (tr_P (x 1) (fun j => x (8 + j)))) (hT : T.2 ≤ 4) : q_GE g h' r w D ob x (p.1, p.2.1, T, p.2.2.2) :=
  ⟨H.1.keep (ho.kp.wk (fun y hy => Or.inl (H.2.2.1 y (ep_P_A (Or.inr (Or.inr hy)))))), H.2.1.treeE ht ho, H.2.2.1, hT⟩
theorem q_GE.tI (H : q_GE g h r w D ob x p) (k q : Nat) (hk : (k = 2 ∧ q = 4) ∨ (k = 3 ∧ q = 5) ∨ (k = 4 ∧ q = 6) ∨ (k = 5 ∧ q = 7) ∨ (k = 6 ∧ q = 8) ∨ (k = 7 ∧ q = 9)) {v : Int32} (e1 : h' = q_up h (x 0) (.inl (5, (e_fs (x 1) (x 2) p.2.1).set q (.int v)))) : q_GE g h' r w D ob x (p.1, upd p.2.1 k v, p.2.2) :=
  ⟨H.1.keep ((q_kp.up (q_kp.rf (X := fun y => y = x 0)) rfl e1).wk (fun y hy => Or.inl (by rw [hy]; exact H.2.2.1 _ (Or.inl rfl)))), H.2.1.intE k q hk e1, H.2.2.1, H.2.2.2⟩
theorem q_GE.tS (H : q_GE g h r w D ob x p) {S : s_T} (hs : q_sec h' (D.1 0 0) (D.1 1) (D.1 2) S) (ho : q_off h h' (s_P (D.1 0 0) (D.1 2))) : q_GE g h' r w D ob x (sS p.1 S, p.2) :=
  ⟨H.1.tS hs ho, H.2.1.kp ho.kp (fun y hy z => by have q := H.2.2.1 y hy; have q2 := H.1.secT y (s_P_A z); omega), H.2.2⟩
theorem q_GE.tM (H : q_GE g h r w D ob x p) {i : Nat} (hi : i < 16) {M : m_T} (hm : q_me h' D i M) (ho : q_off h h' (m_P (mA D i) (fun j => D.1 (6 + j) i))) : q_GE g h' r w D ob x (sM p.1 i M, p.2) :=
  ⟨H.1.tM hi hm ho, H.2.1.kp ho.kp (fun y hy z => by have q := H.2.2.1 y hy; have q2 := H.1.memT hi y (m_P_A z); omega), H.2.2⟩
theorem q_GE.tK (H : q_GE g h r w D ob x p) {i : Nat} (hi : i < np p.1) (hn : np p.1 ≤ 60) {K : Nat → Int32} (hm : h' (pA D i) = some (.inl (7, k_fs (mA D (gK p.1 i).1) K))) (hk : q_kp h h' (fun y => y = pA D i)) : q_GE g h' r w D ob x (sK p.1 i ((gK p.1 i).1, K), p.2) :=
  ⟨H.1.upK hi hn hm (hk.wk (fun y hy => by rw [hy]; exact H.1.pkT hi)), H.2.1.kp hk (fun y hy z => by have q := H.2.2.1 y hy; have q2 : w (pA D i) = 200 + i := H.1.pkT hi; rw [z] at q; omega), H.2.2⟩
theorem q_GE.es (H : q_GE g h r w D ob x p) : q_es (x 0) (x 1) (x 2) (x 3) (fun j => x (4 + j)) (fun j => x (8 + j)) (D.1 0 0) (D.1 1) (D.1 2) :=
  ⟨fun y hy z => by have q := H.2.2.1 y hy; have q2 := H.1.secT y (s_P_A z); omega, fun y hy z => by have q := H.2.2.1 y (ep_P_A z); have q2 := H.1.secT y hy; omega⟩
theorem q_GE.tES (H : q_GE g h r w D ob x p) {S : s_T} {E : e_T} (he : q_ex h' x E) (hs : q_sec h' (D.1 0 0) (D.1 1) (D.1 2) S) (ho : q_off h h' (q_EP (x 0) (x 1) (x 3) (fun j => x (8 + j)) (D.1 0 0) (D.1 2))) (hT : E.2.1.2 ≤ 4) : q_GE g h' r w D ob x (sS p.1 S, E) := by
  have hs1 : q_sec (fun y => if w y = 1 then h' y else h y) (D.1 0 0) (D.1 1) (D.1 2) S := hs.kp (X := fun y => ¬ w y = 1) (fun y o hy hn => by
    show (if w y = 1 then h' y else h y) = _
    rw [if_pos (Classical.not_not.mp hn)]
    exact hy) (fun y hy z => z (H.1.secT y hy))
  have H1 := H.1.upS (h' := fun y => if w y = 1 then h' y else h y) hs1 (fun y o hy hn => by
    show (if w y = 1 then h' y else h y) = _
    rw [if_neg hn]
    exact hy)
  refine ⟨H1.keep (fun y o hy hn => ?_), he, H.2.2.1, hT⟩
  have hy2 : (if w y = 1 then h' y else h y) = some o := hy
  by_cases e : w y = 1
  · rw [if_pos e] at hy2
    exact hy2
  · rw [if_neg e] at hy2
    rw [ho y (fun z => by
      rcases z with z | z
      · exact hn (Or.inl (H.2.2.1 y (ep_P_A z)))
      · exact e (H.1.secT y (s_P_A z)))]
    exact hy2
theorem q_GE.lat (H : q_GE g h r w D ob x p) : ne p.1 - 1 < ne p.1 := H.1.lat
end
theorem T_path_2 (T : tr_T) (l : Int32) : (T_path T l).2 = T.2 := T_bp_2 l _ _ T
theorem T_vac_2 (T : tr_T) (l : Int32) : (T_vac T l).2 = T.2 := T_path_2 _ l
theorem T_ren_2 (T : tr_T) (l k e : Int32) : (T_ren T l k e).2 = T.2 := T_path_2 T l
theorem T_shr_2 : ∀ (m : Nat) (T : tr_T), (T_shr m T).2 ≤ T.2 := by
  intro m
  induction m with
  | zero => intro T; exact Nat.le_refl _
  | succ m ih =>
    intro T
    rw [T_shr]
    split
    · refine Nat.le_trans (ih _) ?_
      show T.2 - 1 ≤ T.2
      omega
    · exact Nat.le_refl _
theorem T_um_2 (l : Int32) : ∀ (m k : Nat) (T : tr_T), (T_um l m k T).2 = T.2 := by
  intro m
  induction m with
  | zero => intro k T; rfl
  | succ m ih =>
    intro k T
    rw [T_um, ih, T_um1_2]
theorem T_seat_2 {T : tr_T} (hT : T.2 ≤ 4) (l : Nat) (m k e : Int32) : (T_seat T l m k e).2 ≤ 4 := by
  rw [T_seat, T_um_2]
  exact T_gr_le l _ _ hT
theorem T_low_or (T : tr_T) : ∀ (m k : Nat), k + m ≤ 16 → T_low T m k = -1 ∨ ∃ l, l < 16 ∧ T_low T m k = nI l := by
  intro m
  induction m with
  | zero => intro k hk; exact Or.inl rfl
  | succ m ih =>
    intro k hk
    rw [T_low]
    split
    · exact Or.inr ⟨k, by omega, rfl⟩
    · exact ih (k + 1) (by omega)
end
