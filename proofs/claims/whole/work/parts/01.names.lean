-- ===== PART A: goes FIRST, ahead of the names: the tables' words, and 'selects' of the private methods out of them =====
/-- a private method of a class that the tables say can be made, by its rows of tables_1 -/
def lw_okq (q : MethodName × Nat) : Prop := (q.1.cls ≠ "java/lang/invoke/MethodHandle" ∧ q.1.cls ≠ "java/lang/invoke/VarHandle") ∧ Cond.instantiable q.1.cls q.2 ∈ tables_1 ∧ Cond.privateMethod q.1 ∈ tables_1 ∧ Cond.instanceMethod q.1 ∈ tables_1
theorem lw_p0 : lw_okq (⟨"OrphanShelf$Owners", "leadsTo", "(II)Z"⟩, 10) := ⟨⟨by decide +kernel, by decide +kernel⟩, List.mem_of_getElem? (i := 40) (by decide +kernel), List.mem_of_getElem? (i := 545) (by decide +kernel), List.mem_of_getElem? (i := 546) (by decide +kernel)⟩
theorem lw_p1 : lw_okq (⟨"OrphanShelf$Works", "partsOf", "(I)I"⟩, 13) := ⟨⟨by decide +kernel, by decide +kernel⟩, List.mem_of_getElem? (i := 81) (by decide +kernel), List.mem_of_getElem? (i := 590) (by decide +kernel), List.mem_of_getElem? (i := 591) (by decide +kernel)⟩
theorem lw_p2 : lw_okq (⟨"OrphanShelf$Reader", "sign", "()I"⟩, 13) := ⟨⟨by decide +kernel, by decide +kernel⟩, List.mem_of_getElem? (i := 205) (by decide +kernel), List.mem_of_getElem? (i := 658) (by decide +kernel), List.mem_of_getElem? (i := 659) (by decide +kernel)⟩
theorem lw_p3 : lw_okq (⟨"OrphanShelf$Reader", "blame", "(II)V"⟩, 13) := ⟨⟨by decide +kernel, by decide +kernel⟩, List.mem_of_getElem? (i := 205) (by decide +kernel), List.mem_of_getElem? (i := 669) (by decide +kernel), List.mem_of_getElem? (i := 670) (by decide +kernel)⟩
theorem lw_p4 : lw_okq (⟨"OrphanShelf$Reader", "readLimited", "(I)I"⟩, 13) := ⟨⟨by decide +kernel, by decide +kernel⟩, List.mem_of_getElem? (i := 205) (by decide +kernel), List.mem_of_getElem? (i := 675) (by decide +kernel), List.mem_of_getElem? (i := 676) (by decide +kernel)⟩
theorem lw_p5 : lw_okq (⟨"OrphanShelf$Reader", "readDigits", "()I"⟩, 13) := ⟨⟨by decide +kernel, by decide +kernel⟩, List.mem_of_getElem? (i := 205) (by decide +kernel), List.mem_of_getElem? (i := 682) (by decide +kernel), List.mem_of_getElem? (i := 683) (by decide +kernel)⟩
theorem lw_p6 : lw_okq (⟨"OrphanShelf$Reader", "pass", "(I)V"⟩, 13) := ⟨⟨by decide +kernel, by decide +kernel⟩, List.mem_of_getElem? (i := 205) (by decide +kernel), List.mem_of_getElem? (i := 686) (by decide +kernel), List.mem_of_getElem? (i := 687) (by decide +kernel)⟩
theorem lw_p7 : lw_okq (⟨"OrphanShelf$Reader", "enter", "()Z"⟩, 13) := ⟨⟨by decide +kernel, by decide +kernel⟩, List.mem_of_getElem? (i := 205) (by decide +kernel), List.mem_of_getElem? (i := 690) (by decide +kernel), List.mem_of_getElem? (i := 691) (by decide +kernel)⟩
theorem lw_p8 : lw_okq (⟨"OrphanShelf$Reader", "anyPart", "()V"⟩, 13) := ⟨⟨by decide +kernel, by decide +kernel⟩, List.mem_of_getElem? (i := 205) (by decide +kernel), List.mem_of_getElem? (i := 694) (by decide +kernel), List.mem_of_getElem? (i := 695) (by decide +kernel)⟩
theorem lw_p9 : lw_okq (⟨"OrphanShelf$Reader", "everyPiece", "()V"⟩, 13) := ⟨⟨by decide +kernel, by decide +kernel⟩, List.mem_of_getElem? (i := 205) (by decide +kernel), List.mem_of_getElem? (i := 698) (by decide +kernel), List.mem_of_getElem? (i := 699) (by decide +kernel)⟩
theorem lw_p10 : lw_okq (⟨"OrphanShelf$Reader", "piece", "()V"⟩, 13) := ⟨⟨by decide +kernel, by decide +kernel⟩, List.mem_of_getElem? (i := 205) (by decide +kernel), List.mem_of_getElem? (i := 702) (by decide +kernel), List.mem_of_getElem? (i := 703) (by decide +kernel)⟩
theorem lw_p11 : lw_okq (⟨"OrphanShelf$Reader", "sum", "()V"⟩, 13) := ⟨⟨by decide +kernel, by decide +kernel⟩, List.mem_of_getElem? (i := 205) (by decide +kernel), List.mem_of_getElem? (i := 706) (by decide +kernel), List.mem_of_getElem? (i := 707) (by decide +kernel)⟩
theorem lw_p12 : lw_okq (⟨"OrphanShelf$Reader", "product", "()V"⟩, 13) := ⟨⟨by decide +kernel, by decide +kernel⟩, List.mem_of_getElem? (i := 205) (by decide +kernel), List.mem_of_getElem? (i := 710) (by decide +kernel), List.mem_of_getElem? (i := 711) (by decide +kernel)⟩
theorem lw_p13 : lw_okq (⟨"OrphanShelf$Reader", "factor", "()V"⟩, 13) := ⟨⟨by decide +kernel, by decide +kernel⟩, List.mem_of_getElem? (i := 205) (by decide +kernel), List.mem_of_getElem? (i := 714) (by decide +kernel), List.mem_of_getElem? (i := 715) (by decide +kernel)⟩
theorem lw_p14 : lw_okq (⟨"OrphanShelf$Reader", "emit", "(II)V"⟩, 13) := ⟨⟨by decide +kernel, by decide +kernel⟩, List.mem_of_getElem? (i := 205) (by decide +kernel), List.mem_of_getElem? (i := 720) (by decide +kernel), List.mem_of_getElem? (i := 721) (by decide +kernel)⟩
theorem lw_p15 : lw_okq (⟨"OrphanShelf$Reader", "exit", "(I)V"⟩, 13) := ⟨⟨by decide +kernel, by decide +kernel⟩, List.mem_of_getElem? (i := 205) (by decide +kernel), List.mem_of_getElem? (i := 724) (by decide +kernel), List.mem_of_getElem? (i := 725) (by decide +kernel)⟩
def lw_privs_1 : List (MethodName × Nat) := [(⟨"OrphanShelf$Owners", "leadsTo", "(II)Z"⟩, 10), (⟨"OrphanShelf$Works", "partsOf", "(I)I"⟩, 13), (⟨"OrphanShelf$Reader", "sign", "()I"⟩, 13), (⟨"OrphanShelf$Reader", "blame", "(II)V"⟩, 13), (⟨"OrphanShelf$Reader", "readLimited", "(I)I"⟩, 13), (⟨"OrphanShelf$Reader", "readDigits", "()I"⟩, 13), (⟨"OrphanShelf$Reader", "pass", "(I)V"⟩, 13), (⟨"OrphanShelf$Reader", "enter", "()Z"⟩, 13), (⟨"OrphanShelf$Reader", "anyPart", "()V"⟩, 13), (⟨"OrphanShelf$Reader", "everyPiece", "()V"⟩, 13), (⟨"OrphanShelf$Reader", "piece", "()V"⟩, 13), (⟨"OrphanShelf$Reader", "sum", "()V"⟩, 13), (⟨"OrphanShelf$Reader", "product", "()V"⟩, 13), (⟨"OrphanShelf$Reader", "factor", "()V"⟩, 13), (⟨"OrphanShelf$Reader", "emit", "(II)V"⟩, 13), (⟨"OrphanShelf$Reader", "exit", "(I)V"⟩, 13)]
theorem lw_r1 : ∀ q ∈ lw_privs_1, lw_okq q := List.forall_mem_cons.mpr ⟨lw_p0, List.forall_mem_cons.mpr ⟨lw_p1, List.forall_mem_cons.mpr ⟨lw_p2, List.forall_mem_cons.mpr ⟨lw_p3, List.forall_mem_cons.mpr ⟨lw_p4, List.forall_mem_cons.mpr ⟨lw_p5, List.forall_mem_cons.mpr ⟨lw_p6, List.forall_mem_cons.mpr ⟨lw_p7, List.forall_mem_cons.mpr ⟨lw_p8, List.forall_mem_cons.mpr ⟨lw_p9, List.forall_mem_cons.mpr ⟨lw_p10, List.forall_mem_cons.mpr ⟨lw_p11, List.forall_mem_cons.mpr ⟨lw_p12, List.forall_mem_cons.mpr ⟨lw_p13, List.forall_mem_cons.mpr ⟨lw_p14, List.forall_mem_cons.mpr ⟨lw_p15, fun _ h => absurd h List.not_mem_nil⟩⟩⟩⟩⟩⟩⟩⟩⟩⟩⟩⟩⟩⟩⟩⟩
theorem lw_p16 : lw_okq (⟨"OrphanShelf$Reader", "landJump", "(I)V"⟩, 13) := ⟨⟨by decide +kernel, by decide +kernel⟩, List.mem_of_getElem? (i := 205) (by decide +kernel), List.mem_of_getElem? (i := 728) (by decide +kernel), List.mem_of_getElem? (i := 729) (by decide +kernel)⟩
theorem lw_p17 : lw_okq (⟨"OrphanShelf$Laws", "keepClause", "(II)V"⟩, 18) := ⟨⟨by decide +kernel, by decide +kernel⟩, List.mem_of_getElem? (i := 199) (by decide +kernel), List.mem_of_getElem? (i := 732) (by decide +kernel), List.mem_of_getElem? (i := 733) (by decide +kernel)⟩
theorem lw_p18 : lw_okq (⟨"OrphanShelf", "isCase", "(IIII)Z"⟩, 11) := ⟨⟨by decide +kernel, by decide +kernel⟩, List.mem_of_getElem? (i := 18) (by decide +kernel), List.mem_of_getElem? (i := 768) (by decide +kernel), List.mem_of_getElem? (i := 769) (by decide +kernel)⟩
theorem lw_p19 : lw_okq (⟨"OrphanShelf$Laws", "learn", "(III)V"⟩, 18) := ⟨⟨by decide +kernel, by decide +kernel⟩, List.mem_of_getElem? (i := 199) (by decide +kernel), List.mem_of_getElem? (i := 776) (by decide +kernel), List.mem_of_getElem? (i := 777) (by decide +kernel)⟩
theorem lw_p20 : lw_okq (⟨"OrphanShelf$Traces", "hasAnswered", "(II)Z"⟩, 16) := ⟨⟨by decide +kernel, by decide +kernel⟩, List.mem_of_getElem? (i := 127) (by decide +kernel), List.mem_of_getElem? (i := 810) (by decide +kernel), List.mem_of_getElem? (i := 811) (by decide +kernel)⟩
theorem lw_p21 : lw_okq (⟨"OrphanShelf$Traces", "isSeen", "(III)Z"⟩, 16) := ⟨⟨by decide +kernel, by decide +kernel⟩, List.mem_of_getElem? (i := 127) (by decide +kernel), List.mem_of_getElem? (i := 814) (by decide +kernel), List.mem_of_getElem? (i := 815) (by decide +kernel)⟩
theorem lw_p22 : lw_okq (⟨"OrphanShelf$Laws", "forget", "()V"⟩, 18) := ⟨⟨by decide +kernel, by decide +kernel⟩, List.mem_of_getElem? (i := 199) (by decide +kernel), List.mem_of_getElem? (i := 822) (by decide +kernel), List.mem_of_getElem? (i := 823) (by decide +kernel)⟩
theorem lw_p23 : lw_okq (⟨"OrphanShelf$Laws", "isInForce", "(III)Z"⟩, 18) := ⟨⟨by decide +kernel, by decide +kernel⟩, List.mem_of_getElem? (i := 199) (by decide +kernel), List.mem_of_getElem? (i := 827) (by decide +kernel), List.mem_of_getElem? (i := 828) (by decide +kernel)⟩
theorem lw_p24 : lw_okq (⟨"OrphanShelf$Laws", "weighLaw", "(III)V"⟩, 18) := ⟨⟨by decide +kernel, by decide +kernel⟩, List.mem_of_getElem? (i := 199) (by decide +kernel), List.mem_of_getElem? (i := 831) (by decide +kernel), List.mem_of_getElem? (i := 832) (by decide +kernel)⟩
theorem lw_p25 : lw_okq (⟨"OrphanShelf$Laws", "weighClause", "(I)V"⟩, 18) := ⟨⟨by decide +kernel, by decide +kernel⟩, List.mem_of_getElem? (i := 199) (by decide +kernel), List.mem_of_getElem? (i := 835) (by decide +kernel), List.mem_of_getElem? (i := 836) (by decide +kernel)⟩
theorem lw_p26 : lw_okq (⟨"OrphanShelf$Reader", "push", "(I)V"⟩, 13) := ⟨⟨by decide +kernel, by decide +kernel⟩, List.mem_of_getElem? (i := 205) (by decide +kernel), List.mem_of_getElem? (i := 847) (by decide +kernel), List.mem_of_getElem? (i := 848) (by decide +kernel)⟩
theorem lw_p27 : lw_okq (⟨"OrphanShelf$Reader", "pop", "()I"⟩, 13) := ⟨⟨by decide +kernel, by decide +kernel⟩, List.mem_of_getElem? (i := 205) (by decide +kernel), List.mem_of_getElem? (i := 852) (by decide +kernel), List.mem_of_getElem? (i := 853) (by decide +kernel)⟩
theorem lw_p28 : lw_okq (⟨"OrphanShelf$Rulings", "weighedTerm", "(IIIZ)I"⟩, 8) := ⟨⟨by decide +kernel, by decide +kernel⟩, List.mem_of_getElem? (i := 306) (by decide +kernel), List.mem_of_getElem? (i := 872) (by decide +kernel), List.mem_of_getElem? (i := 873) (by decide +kernel)⟩
theorem lw_p29 : lw_okq (⟨"OrphanShelf$Rulings", "termByDeaths", "(IIIZ)I"⟩, 8) := ⟨⟨by decide +kernel, by decide +kernel⟩, List.mem_of_getElem? (i := 306) (by decide +kernel), List.mem_of_getElem? (i := 876) (by decide +kernel), List.mem_of_getElem? (i := 877) (by decide +kernel)⟩
theorem lw_p30 : lw_okq (⟨"OrphanShelf", "isTellable", "(I)Z"⟩, 11) := ⟨⟨by decide +kernel, by decide +kernel⟩, List.mem_of_getElem? (i := 18) (by decide +kernel), List.mem_of_getElem? (i := 928) (by decide +kernel), List.mem_of_getElem? (i := 929) (by decide +kernel)⟩
theorem lw_p31 : lw_okq (⟨"OrphanShelf$Rulings", "missingSources", "(III)I"⟩, 8) := ⟨⟨by decide +kernel, by decide +kernel⟩, List.mem_of_getElem? (i := 306) (by decide +kernel), List.mem_of_getElem? (i := 971) (by decide +kernel), List.mem_of_getElem? (i := 972) (by decide +kernel)⟩
def lw_privs_2 : List (MethodName × Nat) := [(⟨"OrphanShelf$Reader", "landJump", "(I)V"⟩, 13), (⟨"OrphanShelf$Laws", "keepClause", "(II)V"⟩, 18), (⟨"OrphanShelf", "isCase", "(IIII)Z"⟩, 11), (⟨"OrphanShelf$Laws", "learn", "(III)V"⟩, 18), (⟨"OrphanShelf$Traces", "hasAnswered", "(II)Z"⟩, 16), (⟨"OrphanShelf$Traces", "isSeen", "(III)Z"⟩, 16), (⟨"OrphanShelf$Laws", "forget", "()V"⟩, 18), (⟨"OrphanShelf$Laws", "isInForce", "(III)Z"⟩, 18), (⟨"OrphanShelf$Laws", "weighLaw", "(III)V"⟩, 18), (⟨"OrphanShelf$Laws", "weighClause", "(I)V"⟩, 18), (⟨"OrphanShelf$Reader", "push", "(I)V"⟩, 13), (⟨"OrphanShelf$Reader", "pop", "()I"⟩, 13), (⟨"OrphanShelf$Rulings", "weighedTerm", "(IIIZ)I"⟩, 8), (⟨"OrphanShelf$Rulings", "termByDeaths", "(IIIZ)I"⟩, 8), (⟨"OrphanShelf", "isTellable", "(I)Z"⟩, 11), (⟨"OrphanShelf$Rulings", "missingSources", "(III)I"⟩, 8)]
theorem lw_r2 : ∀ q ∈ lw_privs_2, lw_okq q := List.forall_mem_cons.mpr ⟨lw_p16, List.forall_mem_cons.mpr ⟨lw_p17, List.forall_mem_cons.mpr ⟨lw_p18, List.forall_mem_cons.mpr ⟨lw_p19, List.forall_mem_cons.mpr ⟨lw_p20, List.forall_mem_cons.mpr ⟨lw_p21, List.forall_mem_cons.mpr ⟨lw_p22, List.forall_mem_cons.mpr ⟨lw_p23, List.forall_mem_cons.mpr ⟨lw_p24, List.forall_mem_cons.mpr ⟨lw_p25, List.forall_mem_cons.mpr ⟨lw_p26, List.forall_mem_cons.mpr ⟨lw_p27, List.forall_mem_cons.mpr ⟨lw_p28, List.forall_mem_cons.mpr ⟨lw_p29, List.forall_mem_cons.mpr ⟨lw_p30, List.forall_mem_cons.mpr ⟨lw_p31, fun _ h => absurd h List.not_mem_nil⟩⟩⟩⟩⟩⟩⟩⟩⟩⟩⟩⟩⟩⟩⟩⟩
theorem lw_p32 : lw_okq (⟨"OrphanShelf$Rulings", "missingOwner", "(III)I"⟩, 8) := ⟨⟨by decide +kernel, by decide +kernel⟩, List.mem_of_getElem? (i := 306) (by decide +kernel), List.mem_of_getElem? (i := 982) (by decide +kernel), List.mem_of_getElem? (i := 983) (by decide +kernel)⟩
theorem lw_p33 : lw_okq (⟨"OrphanShelf$Leaves", "lastsOn", "(II)Z"⟩, 14) := ⟨⟨by decide +kernel, by decide +kernel⟩, List.mem_of_getElem? (i := 384) (by decide +kernel), List.mem_of_getElem? (i := 1054) (by decide +kernel), List.mem_of_getElem? (i := 1055) (by decide +kernel)⟩
theorem lw_p34 : lw_okq (⟨"OrphanShelf$Orders", "leastAdded", "(IJ)J"⟩, 13) := ⟨⟨by decide +kernel, by decide +kernel⟩, List.mem_of_getElem? (i := 337) (by decide +kernel), List.mem_of_getElem? (i := 1106) (by decide +kernel), List.mem_of_getElem? (i := 1107) (by decide +kernel)⟩
theorem lw_p35 : lw_okq (⟨"OrphanShelf$Orders", "knownAt", "(IJ)I"⟩, 13) := ⟨⟨by decide +kernel, by decide +kernel⟩, List.mem_of_getElem? (i := 337) (by decide +kernel), List.mem_of_getElem? (i := 1110) (by decide +kernel), List.mem_of_getElem? (i := 1111) (by decide +kernel)⟩
theorem lw_p36 : lw_okq (⟨"OrphanShelf$Orders", "addedWith", "(IIJ)J"⟩, 13) := ⟨⟨by decide +kernel, by decide +kernel⟩, List.mem_of_getElem? (i := 337) (by decide +kernel), List.mem_of_getElem? (i := 1115) (by decide +kernel), List.mem_of_getElem? (i := 1116) (by decide +kernel)⟩
theorem lw_p37 : lw_okq (⟨"OrphanShelf$Orders", "costOf", "(I)I"⟩, 13) := ⟨⟨by decide +kernel, by decide +kernel⟩, List.mem_of_getElem? (i := 337) (by decide +kernel), List.mem_of_getElem? (i := 1119) (by decide +kernel), List.mem_of_getElem? (i := 1120) (by decide +kernel)⟩
theorem lw_p38 : lw_okq (⟨"OrphanShelf$Orders", "leftBehind", "(IJ)J"⟩, 13) := ⟨⟨by decide +kernel, by decide +kernel⟩, List.mem_of_getElem? (i := 337) (by decide +kernel), List.mem_of_getElem? (i := 1123) (by decide +kernel), List.mem_of_getElem? (i := 1124) (by decide +kernel)⟩
theorem lw_p39 : lw_okq (⟨"OrphanShelf$Orders", "chanceOf", "(I)I"⟩, 13) := ⟨⟨by decide +kernel, by decide +kernel⟩, List.mem_of_getElem? (i := 337) (by decide +kernel), List.mem_of_getElem? (i := 1127) (by decide +kernel), List.mem_of_getElem? (i := 1128) (by decide +kernel)⟩
theorem lw_p40 : lw_okq (⟨"OrphanShelf$Orders", "keep", "(IJJ)V"⟩, 13) := ⟨⟨by decide +kernel, by decide +kernel⟩, List.mem_of_getElem? (i := 337) (by decide +kernel), List.mem_of_getElem? (i := 1135) (by decide +kernel), List.mem_of_getElem? (i := 1136) (by decide +kernel)⟩
theorem lw_p41 : lw_okq (⟨"OrphanShelf$Orders", "firstOfLeast", "(IJ)I"⟩, 13) := ⟨⟨by decide +kernel, by decide +kernel⟩, List.mem_of_getElem? (i := 337) (by decide +kernel), List.mem_of_getElem? (i := 1139) (by decide +kernel), List.mem_of_getElem? (i := 1140) (by decide +kernel)⟩
theorem lw_p42 : lw_okq (⟨"OrphanShelf$Orders", "expectedOfRow", "()J"⟩, 13) := ⟨⟨by decide +kernel, by decide +kernel⟩, List.mem_of_getElem? (i := 337) (by decide +kernel), List.mem_of_getElem? (i := 1162) (by decide +kernel), List.mem_of_getElem? (i := 1163) (by decide +kernel)⟩
theorem lw_p43 : lw_okq (⟨"OrphanShelf$Works", "isListed", "(II)Z"⟩, 13) := ⟨⟨by decide +kernel, by decide +kernel⟩, List.mem_of_getElem? (i := 81) (by decide +kernel), List.mem_of_getElem? (i := 1188) (by decide +kernel), List.mem_of_getElem? (i := 1189) (by decide +kernel)⟩
theorem lw_p44 : lw_okq (⟨"OrphanShelf$Works", "clearTaken", "()V"⟩, 13) := ⟨⟨by decide +kernel, by decide +kernel⟩, List.mem_of_getElem? (i := 81) (by decide +kernel), List.mem_of_getElem? (i := 1200) (by decide +kernel), List.mem_of_getElem? (i := 1201) (by decide +kernel)⟩
theorem lw_p45 : lw_okq (⟨"OrphanShelf$Works", "partnerOf", "(III)I"⟩, 13) := ⟨⟨by decide +kernel, by decide +kernel⟩, List.mem_of_getElem? (i := 81) (by decide +kernel), List.mem_of_getElem? (i := 1204) (by decide +kernel), List.mem_of_getElem? (i := 1205) (by decide +kernel)⟩
theorem lw_p46 : lw_okq (⟨"OrphanShelf$Audits", "gather", "()V"⟩, 6) := ⟨⟨by decide +kernel, by decide +kernel⟩, List.mem_of_getElem? (i := 433) (by decide +kernel), List.mem_of_getElem? (i := 1218) (by decide +kernel), List.mem_of_getElem? (i := 1219) (by decide +kernel)⟩
theorem lw_p47 : lw_okq (⟨"OrphanShelf$Audits", "wrongOnes", "(I)I"⟩, 6) := ⟨⟨by decide +kernel, by decide +kernel⟩, List.mem_of_getElem? (i := 433) (by decide +kernel), List.mem_of_getElem? (i := 1236) (by decide +kernel), List.mem_of_getElem? (i := 1237) (by decide +kernel)⟩
def lw_privs_3 : List (MethodName × Nat) := [(⟨"OrphanShelf$Rulings", "missingOwner", "(III)I"⟩, 8), (⟨"OrphanShelf$Leaves", "lastsOn", "(II)Z"⟩, 14), (⟨"OrphanShelf$Orders", "leastAdded", "(IJ)J"⟩, 13), (⟨"OrphanShelf$Orders", "knownAt", "(IJ)I"⟩, 13), (⟨"OrphanShelf$Orders", "addedWith", "(IIJ)J"⟩, 13), (⟨"OrphanShelf$Orders", "costOf", "(I)I"⟩, 13), (⟨"OrphanShelf$Orders", "leftBehind", "(IJ)J"⟩, 13), (⟨"OrphanShelf$Orders", "chanceOf", "(I)I"⟩, 13), (⟨"OrphanShelf$Orders", "keep", "(IJJ)V"⟩, 13), (⟨"OrphanShelf$Orders", "firstOfLeast", "(IJ)I"⟩, 13), (⟨"OrphanShelf$Orders", "expectedOfRow", "()J"⟩, 13), (⟨"OrphanShelf$Works", "isListed", "(II)Z"⟩, 13), (⟨"OrphanShelf$Works", "clearTaken", "()V"⟩, 13), (⟨"OrphanShelf$Works", "partnerOf", "(III)I"⟩, 13), (⟨"OrphanShelf$Audits", "gather", "()V"⟩, 6), (⟨"OrphanShelf$Audits", "wrongOnes", "(I)I"⟩, 6)]
theorem lw_r3 : ∀ q ∈ lw_privs_3, lw_okq q := List.forall_mem_cons.mpr ⟨lw_p32, List.forall_mem_cons.mpr ⟨lw_p33, List.forall_mem_cons.mpr ⟨lw_p34, List.forall_mem_cons.mpr ⟨lw_p35, List.forall_mem_cons.mpr ⟨lw_p36, List.forall_mem_cons.mpr ⟨lw_p37, List.forall_mem_cons.mpr ⟨lw_p38, List.forall_mem_cons.mpr ⟨lw_p39, List.forall_mem_cons.mpr ⟨lw_p40, List.forall_mem_cons.mpr ⟨lw_p41, List.forall_mem_cons.mpr ⟨lw_p42, List.forall_mem_cons.mpr ⟨lw_p43, List.forall_mem_cons.mpr ⟨lw_p44, List.forall_mem_cons.mpr ⟨lw_p45, List.forall_mem_cons.mpr ⟨lw_p46, List.forall_mem_cons.mpr ⟨lw_p47, fun _ h => absurd h List.not_mem_nil⟩⟩⟩⟩⟩⟩⟩⟩⟩⟩⟩⟩⟩⟩⟩⟩
theorem lw_p48 : lw_okq (⟨"OrphanShelfModel", "isOwner", "(I)Z"⟩, 94) := ⟨⟨by decide +kernel, by decide +kernel⟩, List.mem_of_getElem? (i := 1295) (by decide +kernel), List.mem_of_getElem? (i := 1604) (by decide +kernel), List.mem_of_getElem? (i := 1605) (by decide +kernel)⟩
theorem lw_p49 : lw_okq (⟨"OrphanShelfModel", "isWork", "(I)Z"⟩, 94) := ⟨⟨by decide +kernel, by decide +kernel⟩, List.mem_of_getElem? (i := 1295) (by decide +kernel), List.mem_of_getElem? (i := 1619) (by decide +kernel), List.mem_of_getElem? (i := 1620) (by decide +kernel)⟩
theorem lw_p50 : lw_okq (⟨"OrphanShelfModel", "holderOf", "(IIII)I"⟩, 94) := ⟨⟨by decide +kernel, by decide +kernel⟩, List.mem_of_getElem? (i := 1295) (by decide +kernel), List.mem_of_getElem? (i := 1631) (by decide +kernel), List.mem_of_getElem? (i := 1632) (by decide +kernel)⟩
theorem lw_p51 : lw_okq (⟨"OrphanShelfModel", "heldBy", "(III)I"⟩, 94) := ⟨⟨by decide +kernel, by decide +kernel⟩, List.mem_of_getElem? (i := 1295) (by decide +kernel), List.mem_of_getElem? (i := 1635) (by decide +kernel), List.mem_of_getElem? (i := 1636) (by decide +kernel)⟩
theorem lw_p52 : lw_okq (⟨"OrphanShelfModel", "types", "(I)V"⟩, 94) := ⟨⟨by decide +kernel, by decide +kernel⟩, List.mem_of_getElem? (i := 1295) (by decide +kernel), List.mem_of_getElem? (i := 1643) (by decide +kernel), List.mem_of_getElem? (i := 1644) (by decide +kernel)⟩
theorem lw_p53 : lw_okq (⟨"OrphanShelfModel", "readsClause", "()Z"⟩, 94) := ⟨⟨by decide +kernel, by decide +kernel⟩, List.mem_of_getElem? (i := 1295) (by decide +kernel), List.mem_of_getElem? (i := 1651) (by decide +kernel), List.mem_of_getElem? (i := 1652) (by decide +kernel)⟩
theorem lw_p54 : lw_okq (⟨"OrphanShelfModel", "sign", "()I"⟩, 94) := ⟨⟨by decide +kernel, by decide +kernel⟩, List.mem_of_getElem? (i := 1295) (by decide +kernel), List.mem_of_getElem? (i := 1655) (by decide +kernel), List.mem_of_getElem? (i := 1656) (by decide +kernel)⟩
theorem lw_p55 : lw_okq (⟨"OrphanShelfModel", "wrong", "(II)Z"⟩, 94) := ⟨⟨by decide +kernel, by decide +kernel⟩, List.mem_of_getElem? (i := 1295) (by decide +kernel), List.mem_of_getElem? (i := 1662) (by decide +kernel), List.mem_of_getElem? (i := 1663) (by decide +kernel)⟩
theorem lw_p56 : lw_okq (⟨"OrphanShelfModel", "readsNumber", "(I)Z"⟩, 94) := ⟨⟨by decide +kernel, by decide +kernel⟩, List.mem_of_getElem? (i := 1295) (by decide +kernel), List.mem_of_getElem? (i := 1670) (by decide +kernel), List.mem_of_getElem? (i := 1671) (by decide +kernel)⟩
theorem lw_p57 : lw_okq (⟨"OrphanShelfModel", "isDigit", "()Z"⟩, 94) := ⟨⟨by decide +kernel, by decide +kernel⟩, List.mem_of_getElem? (i := 1295) (by decide +kernel), List.mem_of_getElem? (i := 1674) (by decide +kernel), List.mem_of_getElem? (i := 1675) (by decide +kernel)⟩
theorem lw_p58 : lw_okq (⟨"OrphanShelfModel", "takes", "(I)Z"⟩, 94) := ⟨⟨by decide +kernel, by decide +kernel⟩, List.mem_of_getElem? (i := 1295) (by decide +kernel), List.mem_of_getElem? (i := 1678) (by decide +kernel), List.mem_of_getElem? (i := 1679) (by decide +kernel)⟩
theorem lw_p59 : lw_okq (⟨"OrphanShelfModel", "readsCondition", "()Z"⟩, 94) := ⟨⟨by decide +kernel, by decide +kernel⟩, List.mem_of_getElem? (i := 1295) (by decide +kernel), List.mem_of_getElem? (i := 1682) (by decide +kernel), List.mem_of_getElem? (i := 1683) (by decide +kernel)⟩
theorem lw_p60 : lw_okq (⟨"OrphanShelfModel", "opens", "(I)Z"⟩, 94) := ⟨⟨by decide +kernel, by decide +kernel⟩, List.mem_of_getElem? (i := 1295) (by decide +kernel), List.mem_of_getElem? (i := 1686) (by decide +kernel), List.mem_of_getElem? (i := 1687) (by decide +kernel)⟩
theorem lw_p61 : lw_okq (⟨"OrphanShelfModel", "readsCompared", "()Z"⟩, 94) := ⟨⟨by decide +kernel, by decide +kernel⟩, List.mem_of_getElem? (i := 1295) (by decide +kernel), List.mem_of_getElem? (i := 1691) (by decide +kernel), List.mem_of_getElem? (i := 1692) (by decide +kernel)⟩
theorem lw_p62 : lw_okq (⟨"OrphanShelfModel", "readsSum", "()Z"⟩, 94) := ⟨⟨by decide +kernel, by decide +kernel⟩, List.mem_of_getElem? (i := 1295) (by decide +kernel), List.mem_of_getElem? (i := 1695) (by decide +kernel), List.mem_of_getElem? (i := 1696) (by decide +kernel)⟩
theorem lw_p63 : lw_okq (⟨"OrphanShelfModel", "readsFactor", "()Z"⟩, 94) := ⟨⟨by decide +kernel, by decide +kernel⟩, List.mem_of_getElem? (i := 1295) (by decide +kernel), List.mem_of_getElem? (i := 1699) (by decide +kernel), List.mem_of_getElem? (i := 1700) (by decide +kernel)⟩
def lw_privs_4 : List (MethodName × Nat) := [(⟨"OrphanShelfModel", "isOwner", "(I)Z"⟩, 94), (⟨"OrphanShelfModel", "isWork", "(I)Z"⟩, 94), (⟨"OrphanShelfModel", "holderOf", "(IIII)I"⟩, 94), (⟨"OrphanShelfModel", "heldBy", "(III)I"⟩, 94), (⟨"OrphanShelfModel", "types", "(I)V"⟩, 94), (⟨"OrphanShelfModel", "readsClause", "()Z"⟩, 94), (⟨"OrphanShelfModel", "sign", "()I"⟩, 94), (⟨"OrphanShelfModel", "wrong", "(II)Z"⟩, 94), (⟨"OrphanShelfModel", "readsNumber", "(I)Z"⟩, 94), (⟨"OrphanShelfModel", "isDigit", "()Z"⟩, 94), (⟨"OrphanShelfModel", "takes", "(I)Z"⟩, 94), (⟨"OrphanShelfModel", "readsCondition", "()Z"⟩, 94), (⟨"OrphanShelfModel", "opens", "(I)Z"⟩, 94), (⟨"OrphanShelfModel", "readsCompared", "()Z"⟩, 94), (⟨"OrphanShelfModel", "readsSum", "()Z"⟩, 94), (⟨"OrphanShelfModel", "readsFactor", "()Z"⟩, 94)]
theorem lw_r4 : ∀ q ∈ lw_privs_4, lw_okq q := List.forall_mem_cons.mpr ⟨lw_p48, List.forall_mem_cons.mpr ⟨lw_p49, List.forall_mem_cons.mpr ⟨lw_p50, List.forall_mem_cons.mpr ⟨lw_p51, List.forall_mem_cons.mpr ⟨lw_p52, List.forall_mem_cons.mpr ⟨lw_p53, List.forall_mem_cons.mpr ⟨lw_p54, List.forall_mem_cons.mpr ⟨lw_p55, List.forall_mem_cons.mpr ⟨lw_p56, List.forall_mem_cons.mpr ⟨lw_p57, List.forall_mem_cons.mpr ⟨lw_p58, List.forall_mem_cons.mpr ⟨lw_p59, List.forall_mem_cons.mpr ⟨lw_p60, List.forall_mem_cons.mpr ⟨lw_p61, List.forall_mem_cons.mpr ⟨lw_p62, List.forall_mem_cons.mpr ⟨lw_p63, fun _ h => absurd h List.not_mem_nil⟩⟩⟩⟩⟩⟩⟩⟩⟩⟩⟩⟩⟩⟩⟩⟩
theorem lw_p64 : lw_okq (⟨"OrphanShelfModel", "says", "(II)V"⟩, 94) := ⟨⟨by decide +kernel, by decide +kernel⟩, List.mem_of_getElem? (i := 1295) (by decide +kernel), List.mem_of_getElem? (i := 1703) (by decide +kernel), List.mem_of_getElem? (i := 1704) (by decide +kernel)⟩
theorem lw_p65 : lw_okq (⟨"OrphanShelfModel", "closesSums", "(Z)V"⟩, 94) := ⟨⟨by decide +kernel, by decide +kernel⟩, List.mem_of_getElem? (i := 1295) (by decide +kernel), List.mem_of_getElem? (i := 1713) (by decide +kernel), List.mem_of_getElem? (i := 1714) (by decide +kernel)⟩
theorem lw_p66 : lw_okq (⟨"OrphanShelfModel", "top", "()I"⟩, 94) := ⟨⟨by decide +kernel, by decide +kernel⟩, List.mem_of_getElem? (i := 1295) (by decide +kernel), List.mem_of_getElem? (i := 1717) (by decide +kernel), List.mem_of_getElem? (i := 1718) (by decide +kernel)⟩
theorem lw_p67 : lw_okq (⟨"OrphanShelfModel", "hasOpenSum", "(I)Z"⟩, 94) := ⟨⟨by decide +kernel, by decide +kernel⟩, List.mem_of_getElem? (i := 1295) (by decide +kernel), List.mem_of_getElem? (i := 1721) (by decide +kernel), List.mem_of_getElem? (i := 1722) (by decide +kernel)⟩
theorem lw_p68 : lw_okq (⟨"OrphanShelfModel", "endsPiece", "()V"⟩, 94) := ⟨⟨by decide +kernel, by decide +kernel⟩, List.mem_of_getElem? (i := 1295) (by decide +kernel), List.mem_of_getElem? (i := 1725) (by decide +kernel), List.mem_of_getElem? (i := 1726) (by decide +kernel)⟩
theorem lw_p69 : lw_okq (⟨"OrphanShelfModel", "lands", "(Z)V"⟩, 94) := ⟨⟨by decide +kernel, by decide +kernel⟩, List.mem_of_getElem? (i := 1295) (by decide +kernel), List.mem_of_getElem? (i := 1729) (by decide +kernel), List.mem_of_getElem? (i := 1730) (by decide +kernel)⟩
theorem lw_p70 : lw_okq (⟨"OrphanShelfModel", "jumps", "(I)V"⟩, 94) := ⟨⟨by decide +kernel, by decide +kernel⟩, List.mem_of_getElem? (i := 1295) (by decide +kernel), List.mem_of_getElem? (i := 1733) (by decide +kernel), List.mem_of_getElem? (i := 1734) (by decide +kernel)⟩
theorem lw_p71 : lw_okq (⟨"OrphanShelfModel", "isAsked", "(IIII)Z"⟩, 94) := ⟨⟨by decide +kernel, by decide +kernel⟩, List.mem_of_getElem? (i := 1295) (by decide +kernel), List.mem_of_getElem? (i := 1741) (by decide +kernel), List.mem_of_getElem? (i := 1742) (by decide +kernel)⟩
theorem lw_p72 : lw_okq (⟨"OrphanShelfModel", "orNothing", "(IIIII)I"⟩, 94) := ⟨⟨by decide +kernel, by decide +kernel⟩, List.mem_of_getElem? (i := 1295) (by decide +kernel), List.mem_of_getElem? (i := 1745) (by decide +kernel), List.mem_of_getElem? (i := 1746) (by decide +kernel)⟩
theorem lw_p73 : lw_okq (⟨"OrphanShelfModel", "numberBy", "(IIIII)I"⟩, 94) := ⟨⟨by decide +kernel, by decide +kernel⟩, List.mem_of_getElem? (i := 1295) (by decide +kernel), List.mem_of_getElem? (i := 1749) (by decide +kernel), List.mem_of_getElem? (i := 1750) (by decide +kernel)⟩
theorem lw_p74 : lw_okq (⟨"OrphanShelfModel", "strikes", "(II)V"⟩, 94) := ⟨⟨by decide +kernel, by decide +kernel⟩, List.mem_of_getElem? (i := 1295) (by decide +kernel), List.mem_of_getElem? (i := 1753) (by decide +kernel), List.mem_of_getElem? (i := 1754) (by decide +kernel)⟩
theorem lw_p75 : lw_okq (⟨"OrphanShelfModel", "isLaw", "(III)Z"⟩, 94) := ⟨⟨by decide +kernel, by decide +kernel⟩, List.mem_of_getElem? (i := 1295) (by decide +kernel), List.mem_of_getElem? (i := 1757) (by decide +kernel), List.mem_of_getElem? (i := 1758) (by decide +kernel)⟩
theorem lw_p76 : lw_okq (⟨"OrphanShelfModel", "setsFacts", "(III)V"⟩, 94) := ⟨⟨by decide +kernel, by decide +kernel⟩, List.mem_of_getElem? (i := 1295) (by decide +kernel), List.mem_of_getElem? (i := 1761) (by decide +kernel), List.mem_of_getElem? (i := 1762) (by decide +kernel)⟩
theorem lw_p77 : lw_okq (⟨"OrphanShelfModel", "isFound", "(III)Z"⟩, 94) := ⟨⟨by decide +kernel, by decide +kernel⟩, List.mem_of_getElem? (i := 1295) (by decide +kernel), List.mem_of_getElem? (i := 1765) (by decide +kernel), List.mem_of_getElem? (i := 1766) (by decide +kernel)⟩
theorem lw_p78 : lw_okq (⟨"OrphanShelfModel", "isTrue", "(I)Z"⟩, 94) := ⟨⟨by decide +kernel, by decide +kernel⟩, List.mem_of_getElem? (i := 1295) (by decide +kernel), List.mem_of_getElem? (i := 1772) (by decide +kernel), List.mem_of_getElem? (i := 1773) (by decide +kernel)⟩
theorem lw_p79 : lw_okq (⟨"OrphanShelfModel", "bitsBy", "(IIIII)I"⟩, 94) := ⟨⟨by decide +kernel, by decide +kernel⟩, List.mem_of_getElem? (i := 1295) (by decide +kernel), List.mem_of_getElem? (i := 1779) (by decide +kernel), List.mem_of_getElem? (i := 1780) (by decide +kernel)⟩
def lw_privs_5 : List (MethodName × Nat) := [(⟨"OrphanShelfModel", "says", "(II)V"⟩, 94), (⟨"OrphanShelfModel", "closesSums", "(Z)V"⟩, 94), (⟨"OrphanShelfModel", "top", "()I"⟩, 94), (⟨"OrphanShelfModel", "hasOpenSum", "(I)Z"⟩, 94), (⟨"OrphanShelfModel", "endsPiece", "()V"⟩, 94), (⟨"OrphanShelfModel", "lands", "(Z)V"⟩, 94), (⟨"OrphanShelfModel", "jumps", "(I)V"⟩, 94), (⟨"OrphanShelfModel", "isAsked", "(IIII)Z"⟩, 94), (⟨"OrphanShelfModel", "orNothing", "(IIIII)I"⟩, 94), (⟨"OrphanShelfModel", "numberBy", "(IIIII)I"⟩, 94), (⟨"OrphanShelfModel", "strikes", "(II)V"⟩, 94), (⟨"OrphanShelfModel", "isLaw", "(III)Z"⟩, 94), (⟨"OrphanShelfModel", "setsFacts", "(III)V"⟩, 94), (⟨"OrphanShelfModel", "isFound", "(III)Z"⟩, 94), (⟨"OrphanShelfModel", "isTrue", "(I)Z"⟩, 94), (⟨"OrphanShelfModel", "bitsBy", "(IIIII)I"⟩, 94)]
theorem lw_r5 : ∀ q ∈ lw_privs_5, lw_okq q := List.forall_mem_cons.mpr ⟨lw_p64, List.forall_mem_cons.mpr ⟨lw_p65, List.forall_mem_cons.mpr ⟨lw_p66, List.forall_mem_cons.mpr ⟨lw_p67, List.forall_mem_cons.mpr ⟨lw_p68, List.forall_mem_cons.mpr ⟨lw_p69, List.forall_mem_cons.mpr ⟨lw_p70, List.forall_mem_cons.mpr ⟨lw_p71, List.forall_mem_cons.mpr ⟨lw_p72, List.forall_mem_cons.mpr ⟨lw_p73, List.forall_mem_cons.mpr ⟨lw_p74, List.forall_mem_cons.mpr ⟨lw_p75, List.forall_mem_cons.mpr ⟨lw_p76, List.forall_mem_cons.mpr ⟨lw_p77, List.forall_mem_cons.mpr ⟨lw_p78, List.forall_mem_cons.mpr ⟨lw_p79, fun _ h => absurd h List.not_mem_nil⟩⟩⟩⟩⟩⟩⟩⟩⟩⟩⟩⟩⟩⟩⟩⟩
theorem lw_p80 : lw_okq (⟨"OrphanShelfModel", "termOf", "(IIIIZ)I"⟩, 94) := ⟨⟨by decide +kernel, by decide +kernel⟩, List.mem_of_getElem? (i := 1295) (by decide +kernel), List.mem_of_getElem? (i := 1787) (by decide +kernel), List.mem_of_getElem? (i := 1788) (by decide +kernel)⟩
theorem lw_p81 : lw_okq (⟨"OrphanShelfModel", "deathBy", "(II)I"⟩, 94) := ⟨⟨by decide +kernel, by decide +kernel⟩, List.mem_of_getElem? (i := 1295) (by decide +kernel), List.mem_of_getElem? (i := 1791) (by decide +kernel), List.mem_of_getElem? (i := 1792) (by decide +kernel)⟩
theorem lw_p82 : lw_okq (⟨"OrphanShelfModel", "freeOf", "(IIII)I"⟩, 94) := ⟨⟨by decide +kernel, by decide +kernel⟩, List.mem_of_getElem? (i := 1295) (by decide +kernel), List.mem_of_getElem? (i := 1799) (by decide +kernel), List.mem_of_getElem? (i := 1800) (by decide +kernel)⟩
theorem lw_p83 : lw_okq (⟨"OrphanShelfModel", "hasShare", "(II)Z"⟩, 94) := ⟨⟨by decide +kernel, by decide +kernel⟩, List.mem_of_getElem? (i := 1295) (by decide +kernel), List.mem_of_getElem? (i := 1818) (by decide +kernel), List.mem_of_getElem? (i := 1819) (by decide +kernel)⟩
theorem lw_p84 : lw_okq (⟨"OrphanShelfModel", "isEnough", "(IIII)Z"⟩, 94) := ⟨⟨by decide +kernel, by decide +kernel⟩, List.mem_of_getElem? (i := 1295) (by decide +kernel), List.mem_of_getElem? (i := 1838) (by decide +kernel), List.mem_of_getElem? (i := 1839) (by decide +kernel)⟩
theorem lw_p85 : lw_okq (⟨"OrphanShelfModel", "lacksOf", "(IIII)Z"⟩, 94) := ⟨⟨by decide +kernel, by decide +kernel⟩, List.mem_of_getElem? (i := 1295) (by decide +kernel), List.mem_of_getElem? (i := 1842) (by decide +kernel), List.mem_of_getElem? (i := 1843) (by decide +kernel)⟩
theorem lw_p86 : lw_okq (⟨"OrphanShelfModel", "isLooked", "(IIIII)Z"⟩, 94) := ⟨⟨by decide +kernel, by decide +kernel⟩, List.mem_of_getElem? (i := 1295) (by decide +kernel), List.mem_of_getElem? (i := 1846) (by decide +kernel), List.mem_of_getElem? (i := 1847) (by decide +kernel)⟩
theorem lw_p87 : lw_okq (⟨"OrphanShelfModel", "isWritten", "(IIII)Z"⟩, 94) := ⟨⟨by decide +kernel, by decide +kernel⟩, List.mem_of_getElem? (i := 1295) (by decide +kernel), List.mem_of_getElem? (i := 1850) (by decide +kernel), List.mem_of_getElem? (i := 1851) (by decide +kernel)⟩
theorem lw_p88 : lw_okq (⟨"OrphanShelfModel", "hasAgreed", "(III)Z"⟩, 94) := ⟨⟨by decide +kernel, by decide +kernel⟩, List.mem_of_getElem? (i := 1295) (by decide +kernel), List.mem_of_getElem? (i := 1866) (by decide +kernel), List.mem_of_getElem? (i := 1867) (by decide +kernel)⟩
theorem lw_p89 : lw_okq (⟨"OrphanShelfModel", "allAgreed", "(I)Z"⟩, 94) := ⟨⟨by decide +kernel, by decide +kernel⟩, List.mem_of_getElem? (i := 1295) (by decide +kernel), List.mem_of_getElem? (i := 1874) (by decide +kernel), List.mem_of_getElem? (i := 1875) (by decide +kernel)⟩
theorem lw_p90 : lw_okq (⟨"OrphanShelfModel", "isLeave", "(I)Z"⟩, 94) := ⟨⟨by decide +kernel, by decide +kernel⟩, List.mem_of_getElem? (i := 1295) (by decide +kernel), List.mem_of_getElem? (i := 1882) (by decide +kernel), List.mem_of_getElem? (i := 1883) (by decide +kernel)⟩
theorem lw_p91 : lw_okq (⟨"OrphanShelfModel", "partsHeld", "(II)I"⟩, 94) := ⟨⟨by decide +kernel, by decide +kernel⟩, List.mem_of_getElem? (i := 1295) (by decide +kernel), List.mem_of_getElem? (i := 1891) (by decide +kernel), List.mem_of_getElem? (i := 1892) (by decide +kernel)⟩
theorem lw_p92 : lw_okq (⟨"OrphanShelfModel", "setsRow", "(II)V"⟩, 94) := ⟨⟨by decide +kernel, by decide +kernel⟩, List.mem_of_getElem? (i := 1295) (by decide +kernel), List.mem_of_getElem? (i := 1905) (by decide +kernel), List.mem_of_getElem? (i := 1906) (by decide +kernel)⟩
theorem lw_p93 : lw_okq (⟨"OrphanShelfModel", "expected", "(I)J"⟩, 94) := ⟨⟨by decide +kernel, by decide +kernel⟩, List.mem_of_getElem? (i := 1295) (by decide +kernel), List.mem_of_getElem? (i := 1909) (by decide +kernel), List.mem_of_getElem? (i := 1910) (by decide +kernel)⟩
theorem lw_p94 : lw_okq (⟨"OrphanShelfModel", "nextRow", "()Z"⟩, 94) := ⟨⟨by decide +kernel, by decide +kernel⟩, List.mem_of_getElem? (i := 1295) (by decide +kernel), List.mem_of_getElem? (i := 1915) (by decide +kernel), List.mem_of_getElem? (i := 1916) (by decide +kernel)⟩
theorem lw_p95 : lw_okq (⟨"OrphanShelfModel", "swaps", "(II)V"⟩, 94) := ⟨⟨by decide +kernel, by decide +kernel⟩, List.mem_of_getElem? (i := 1295) (by decide +kernel), List.mem_of_getElem? (i := 1919) (by decide +kernel), List.mem_of_getElem? (i := 1920) (by decide +kernel)⟩
def lw_privs_6 : List (MethodName × Nat) := [(⟨"OrphanShelfModel", "termOf", "(IIIIZ)I"⟩, 94), (⟨"OrphanShelfModel", "deathBy", "(II)I"⟩, 94), (⟨"OrphanShelfModel", "freeOf", "(IIII)I"⟩, 94), (⟨"OrphanShelfModel", "hasShare", "(II)Z"⟩, 94), (⟨"OrphanShelfModel", "isEnough", "(IIII)Z"⟩, 94), (⟨"OrphanShelfModel", "lacksOf", "(IIII)Z"⟩, 94), (⟨"OrphanShelfModel", "isLooked", "(IIIII)Z"⟩, 94), (⟨"OrphanShelfModel", "isWritten", "(IIII)Z"⟩, 94), (⟨"OrphanShelfModel", "hasAgreed", "(III)Z"⟩, 94), (⟨"OrphanShelfModel", "allAgreed", "(I)Z"⟩, 94), (⟨"OrphanShelfModel", "isLeave", "(I)Z"⟩, 94), (⟨"OrphanShelfModel", "partsHeld", "(II)I"⟩, 94), (⟨"OrphanShelfModel", "setsRow", "(II)V"⟩, 94), (⟨"OrphanShelfModel", "expected", "(I)J"⟩, 94), (⟨"OrphanShelfModel", "nextRow", "()Z"⟩, 94), (⟨"OrphanShelfModel", "swaps", "(II)V"⟩, 94)]
theorem lw_r6 : ∀ q ∈ lw_privs_6, lw_okq q := List.forall_mem_cons.mpr ⟨lw_p80, List.forall_mem_cons.mpr ⟨lw_p81, List.forall_mem_cons.mpr ⟨lw_p82, List.forall_mem_cons.mpr ⟨lw_p83, List.forall_mem_cons.mpr ⟨lw_p84, List.forall_mem_cons.mpr ⟨lw_p85, List.forall_mem_cons.mpr ⟨lw_p86, List.forall_mem_cons.mpr ⟨lw_p87, List.forall_mem_cons.mpr ⟨lw_p88, List.forall_mem_cons.mpr ⟨lw_p89, List.forall_mem_cons.mpr ⟨lw_p90, List.forall_mem_cons.mpr ⟨lw_p91, List.forall_mem_cons.mpr ⟨lw_p92, List.forall_mem_cons.mpr ⟨lw_p93, List.forall_mem_cons.mpr ⟨lw_p94, List.forall_mem_cons.mpr ⟨lw_p95, fun _ h => absurd h List.not_mem_nil⟩⟩⟩⟩⟩⟩⟩⟩⟩⟩⟩⟩⟩⟩⟩⟩
theorem lw_p96 : lw_okq (⟨"OrphanShelfModel", "isLike", "(III)Z"⟩, 94) := ⟨⟨by decide +kernel, by decide +kernel⟩, List.mem_of_getElem? (i := 1295) (by decide +kernel), List.mem_of_getElem? (i := 1932) (by decide +kernel), List.mem_of_getElem? (i := 1933) (by decide +kernel)⟩
theorem lw_p97 : lw_okq (⟨"OrphanShelfModel", "leaveAt", "(I)I"⟩, 94) := ⟨⟨by decide +kernel, by decide +kernel⟩, List.mem_of_getElem? (i := 1295) (by decide +kernel), List.mem_of_getElem? (i := 1950) (by decide +kernel), List.mem_of_getElem? (i := 1951) (by decide +kernel)⟩
theorem lw_p98 : lw_okq (⟨"OrphanShelfModel", "isWrong", "(I)Z"⟩, 94) := ⟨⟨by decide +kernel, by decide +kernel⟩, List.mem_of_getElem? (i := 1295) (by decide +kernel), List.mem_of_getElem? (i := 1954) (by decide +kernel), List.mem_of_getElem? (i := 1955) (by decide +kernel)⟩
theorem lw_p99 : lw_okq (⟨"OrphanShelfModel", "listedBy", "(I)I"⟩, 94) := ⟨⟨by decide +kernel, by decide +kernel⟩, List.mem_of_getElem? (i := 1295) (by decide +kernel), List.mem_of_getElem? (i := 1970) (by decide +kernel), List.mem_of_getElem? (i := 1971) (by decide +kernel)⟩
def lw_privs_7 : List (MethodName × Nat) := [(⟨"OrphanShelfModel", "isLike", "(III)Z"⟩, 94), (⟨"OrphanShelfModel", "leaveAt", "(I)I"⟩, 94), (⟨"OrphanShelfModel", "isWrong", "(I)Z"⟩, 94), (⟨"OrphanShelfModel", "listedBy", "(I)I"⟩, 94)]
theorem lw_r7 : ∀ q ∈ lw_privs_7, lw_okq q := List.forall_mem_cons.mpr ⟨lw_p96, List.forall_mem_cons.mpr ⟨lw_p97, List.forall_mem_cons.mpr ⟨lw_p98, List.forall_mem_cons.mpr ⟨lw_p99, fun _ h => absurd h List.not_mem_nil⟩⟩⟩⟩
def lw_privs : List (MethodName × Nat) := lw_privs_1 ++ (lw_privs_2 ++ (lw_privs_3 ++ (lw_privs_4 ++ (lw_privs_5 ++ (lw_privs_6 ++ (lw_privs_7))))))
def lw_tbl : List Cond := k2_sels lw_privs ++ tables_1
theorem lw_privs_ok : ∀ q ∈ lw_privs, lw_okq q := by
  show ∀ q ∈ lw_privs_1 ++ (lw_privs_2 ++ (lw_privs_3 ++ (lw_privs_4 ++ (lw_privs_5 ++ (lw_privs_6 ++ (lw_privs_7)))))), lw_okq q
  exact List.forall_mem_append.mpr ⟨lw_r1, List.forall_mem_append.mpr ⟨lw_r2, List.forall_mem_append.mpr ⟨lw_r3, List.forall_mem_append.mpr ⟨lw_r4, List.forall_mem_append.mpr ⟨lw_r5, List.forall_mem_append.mpr ⟨lw_r6, lw_r7⟩⟩⟩⟩⟩⟩

def RX0 : String := "OrphanShelf$Audits"
def TX0 : u_T := fun k => match k with
  | 0 => ("OrphanShelf$Audits", "leaves", "LOrphanShelf$Leaves;", true)
  | 1 => ("OrphanShelf$Audits", "all", "[I", true)
  | 2 => ("OrphanShelf$Audits", "drawn", "[I", true)
  | 3 => ("OrphanShelf$Audits", "isDrawn", "[Z", true)
  | 4 => ("OrphanShelf$Audits", "allSize", "I", false)
  | _ => ("OrphanShelf$Audits", "drawnSize", "I", false)
def tyX0 : Nat → FieldType := fun k => match k with
  | 0 => .object "OrphanShelf$Leaves"
  | 1 => .array .int
  | 2 => .array .int
  | 3 => .array .boolean
  | 4 => .int
  | _ => .int
abbrev wsX00 : List Cond := u_ws RX0 TX0 6
theorem nmX0 : ∀ a, a < 6 → ∀ b, b < 6 → a ≠ b → (TX0 a).2.1 ≠ (TX0 b).2.1 := by decide +kernel
theorem tyX0_ok : ∀ k, k < 6 → parseFieldDescriptor (TX0 k).2.2.1 = some (tyX0 k) := by decide +kernel
abbrev cX0_init : ByteArray := prog_2_method_1_code
def yX0_init : MethodName := ⟨RX0, "<init>", "(LOrphanShelf$Leaves;)V"⟩
abbrev cX0_draw : ByteArray := prog_2_method_2_code
def yX0_draw : MethodName := ⟨RX0, "draw", "(II)Z"⟩
abbrev cX0_gather : ByteArray := prog_2_method_3_code
def yX0_gather : MethodName := ⟨RX0, "gather", "()V"⟩
abbrev cX0_result : ByteArray := prog_2_method_4_code
def yX0_result : MethodName := ⟨RX0, "result", "(II)I"⟩
abbrev cX0_wrongOnes : ByteArray := prog_2_method_5_code
def yX0_wrongOnes : MethodName := ⟨RX0, "wrongOnes", "(I)I"⟩
def RX1 : String := "OrphanShelf$Holdings"
def TX1 : u_T := fun k => match k with
  | 0 => ("OrphanShelf$Holdings", "owners", "LOrphanShelf$Owners;", true)
  | 1 => ("OrphanShelf$Holdings", "works", "LOrphanShelf$Works;", true)
  | _ => ("OrphanShelf$Holdings", "traces", "LOrphanShelf$Traces;", true)
def tyX1 : Nat → FieldType := fun k => match k with
  | 0 => .object "OrphanShelf$Owners"
  | 1 => .object "OrphanShelf$Works"
  | _ => .object "OrphanShelf$Traces"
abbrev wsX10 : List Cond := u_ws RX1 TX1 3
theorem nmX1 : ∀ a, a < 3 → ∀ b, b < 3 → a ≠ b → (TX1 a).2.1 ≠ (TX1 b).2.1 := by decide +kernel
theorem tyX1_ok : ∀ k, k < 3 → parseFieldDescriptor (TX1 k).2.2.1 = some (tyX1 k) := by decide +kernel
abbrev cX1_init : ByteArray := prog_3_method_1_code
def yX1_init : MethodName := ⟨RX1, "<init>", "(LOrphanShelf$Owners;LOrphanShelf$Works;LOrphanShelf$Traces;)V"⟩
abbrev cX1_holderOf : ByteArray := prog_3_method_2_code
def yX1_holderOf : MethodName := ⟨RX1, "holderOf", "(IIII)I"⟩
abbrev cX1_foundShares : ByteArray := prog_3_method_3_code
def yX1_foundShares : MethodName := ⟨RX1, "foundShares", "(III)I"⟩
abbrev cX1_isUnheeded : ByteArray := prog_3_method_4_code
def yX1_isUnheeded : MethodName := ⟨RX1, "isUnheeded", "(III)Z"⟩
abbrev cX1_hundredthsOf : ByteArray := prog_3_method_5_code
def yX1_hundredthsOf : MethodName := ⟨RX1, "hundredthsOf", "(III)I"⟩
def RX2 : String := "OrphanShelf$Laws"
def TX2 : u_T := fun k => match k with
  | 0 => ("OrphanShelf$Laws", "works", "LOrphanShelf$Works;", true)
  | 1 => ("OrphanShelf$Laws", "holdings", "LOrphanShelf$Holdings;", true)
  | 2 => ("OrphanShelf$Laws", "reader", "LOrphanShelf$Reader;", true)
  | 3 => ("OrphanShelf$Laws", "land", "[I", true)
  | 4 => ("OrphanShelf$Laws", "from", "[I", true)
  | 5 => ("OrphanShelf$Laws", "to", "[I", true)
  | 6 => ("OrphanShelf$Laws", "clauses", "[I", true)
  | 7 => ("OrphanShelf$Laws", "struck", "[I", true)
  | 8 => ("OrphanShelf$Laws", "kind", "[I", true)
  | 9 => ("OrphanShelf$Laws", "firstNumber", "[I", true)
  | 10 => ("OrphanShelf$Laws", "secondNumber", "[I", true)
  | 11 => ("OrphanShelf$Laws", "codeFrom", "[I", true)
  | 12 => ("OrphanShelf$Laws", "codeTo", "[I", true)
  | 13 => ("OrphanShelf$Laws", "facts", "[I", true)
  | 14 => ("OrphanShelf$Laws", "results", "[I", true)
  | 15 => ("OrphanShelf$Laws", "settled", "I", false)
  | 16 => ("OrphanShelf$Laws", "asksFound", "Z", false)
  | _ => ("OrphanShelf$Laws", "size", "I", false)
def tyX2 : Nat → FieldType := fun k => match k with
  | 0 => .object "OrphanShelf$Works"
  | 1 => .object "OrphanShelf$Holdings"
  | 2 => .object "OrphanShelf$Reader"
  | 3 => .array .int
  | 4 => .array .int
  | 5 => .array .int
  | 6 => .array .int
  | 7 => .array .int
  | 8 => .array .int
  | 9 => .array .int
  | 10 => .array .int
  | 11 => .array .int
  | 12 => .array .int
  | 13 => .array .int
  | 14 => .array .int
  | 15 => .int
  | 16 => .boolean
  | _ => .int
abbrev wsX20 : List Cond := u_ws RX2 TX2 18
theorem nmX2 : ∀ a, a < 18 → ∀ b, b < 18 → a ≠ b → (TX2 a).2.1 ≠ (TX2 b).2.1 := by decide +kernel
theorem tyX2_ok : ∀ k, k < 18 → parseFieldDescriptor (TX2 k).2.2.1 = some (tyX2 k) := by decide +kernel
abbrev cX2_init : ByteArray := prog_4_method_1_code
def yX2_init : MethodName := ⟨RX2, "<init>", "(LOrphanShelf$Tape;LOrphanShelf$Works;LOrphanShelf$Holdings;)V"⟩
abbrev cX2_size : ByteArray := prog_4_method_2_code
def yX2_size : MethodName := ⟨RX2, "size", "()I"⟩
abbrev cX2_isFull : ByteArray := prog_4_method_3_code
def yX2_isFull : MethodName := ⟨RX2, "isFull", "()Z"⟩
abbrev cX2_clausesOf : ByteArray := prog_4_method_4_code
def yX2_clausesOf : MethodName := ⟨RX2, "clausesOf", "(I)I"⟩
abbrev cX2_add : ByteArray := prog_4_method_5_code
def yX2_add : MethodName := ⟨RX2, "add", "(IIII)I"⟩
abbrev cX2_keepClause : ByteArray := prog_4_method_6_code
def yX2_keepClause : MethodName := ⟨RX2, "keepClause", "(II)V"⟩
abbrev cX2_weigh : ByteArray := prog_4_method_7_code
def yX2_weigh : MethodName := ⟨RX2, "weigh", "(IIII)V"⟩
abbrev cX2_result : ByteArray := prog_4_method_8_code
def yX2_result : MethodName := ⟨RX2, "result", "(I)I"⟩
abbrev cX2_learn : ByteArray := prog_4_method_9_code
def yX2_learn : MethodName := ⟨RX2, "learn", "(III)V"⟩
abbrev cX2_forget : ByteArray := prog_4_method_10_code
def yX2_forget : MethodName := ⟨RX2, "forget", "()V"⟩
abbrev cX2_isInForce : ByteArray := prog_4_method_11_code
def yX2_isInForce : MethodName := ⟨RX2, "isInForce", "(III)Z"⟩
abbrev cX2_weighLaw : ByteArray := prog_4_method_12_code
def yX2_weighLaw : MethodName := ⟨RX2, "weighLaw", "(III)V"⟩
abbrev cX2_weighClause : ByteArray := prog_4_method_13_code
def yX2_weighClause : MethodName := ⟨RX2, "weighClause", "(I)V"⟩
def RX3 : String := "OrphanShelf$Leaves"
def TX3 : u_T := fun k => match k with
  | 0 => ("OrphanShelf$Leaves", "holdings", "LOrphanShelf$Holdings;", true)
  | 1 => ("OrphanShelf$Leaves", "laws", "LOrphanShelf$Laws;", true)
  | 2 => ("OrphanShelf$Leaves", "rulings", "LOrphanShelf$Rulings;", true)
  | 3 => ("OrphanShelf$Leaves", "library", "[I", true)
  | 4 => ("OrphanShelf$Leaves", "work", "[I", true)
  | 5 => ("OrphanShelf$Leaves", "land", "[I", true)
  | 6 => ("OrphanShelf$Leaves", "use", "[I", true)
  | 7 => ("OrphanShelf$Leaves", "day", "[I", true)
  | 8 => ("OrphanShelf$Leaves", "fee", "[I", true)
  | 9 => ("OrphanShelf$Leaves", "end", "[I", true)
  | 10 => ("OrphanShelf$Leaves", "free", "[Z", true)
  | 11 => ("OrphanShelf$Leaves", "earnings", "[J", true)
  | 12 => ("OrphanShelf$Leaves", "size", "I", false)
  | _ => ("OrphanShelf$Leaves", "tellings", "I", false)
def tyX3 : Nat → FieldType := fun k => match k with
  | 0 => .object "OrphanShelf$Holdings"
  | 1 => .object "OrphanShelf$Laws"
  | 2 => .object "OrphanShelf$Rulings"
  | 3 => .array .int
  | 4 => .array .int
  | 5 => .array .int
  | 6 => .array .int
  | 7 => .array .int
  | 8 => .array .int
  | 9 => .array .int
  | 10 => .array .boolean
  | 11 => .array .long
  | 12 => .int
  | _ => .int
abbrev wsX30 : List Cond := u_ws RX3 TX3 14
theorem nmX3 : ∀ a, a < 14 → ∀ b, b < 14 → a ≠ b → (TX3 a).2.1 ≠ (TX3 b).2.1 := by decide +kernel
theorem tyX3_ok : ∀ k, k < 14 → parseFieldDescriptor (TX3 k).2.2.1 = some (tyX3 k) := by decide +kernel
abbrev cX3_init : ByteArray := prog_5_method_1_code
def yX3_init : MethodName := ⟨RX3, "<init>", "(LOrphanShelf$Holdings;LOrphanShelf$Laws;LOrphanShelf$Rulings;)V"⟩
abbrev cX3_size : ByteArray := prog_5_method_2_code
def yX3_size : MethodName := ⟨RX3, "size", "()I"⟩
abbrev cX3_tellings : ByteArray := prog_5_method_3_code
def yX3_tellings : MethodName := ⟨RX3, "tellings", "()I"⟩
abbrev cX3_isFull : ByteArray := prog_5_method_4_code
def yX3_isFull : MethodName := ⟨RX3, "isFull", "()Z"⟩
abbrev cX3_verdict : ByteArray := prog_5_method_5_code
def yX3_verdict : MethodName := ⟨RX3, "verdict", "(IIII)I"⟩
abbrev cX3_give : ByteArray := prog_5_method_6_code
def yX3_give : MethodName := ⟨RX3, "give", "(IIIIII)I"⟩
abbrev cX3_addUses : ByteArray := prog_5_method_7_code
def yX3_addUses : MethodName := ⟨RX3, "addUses", "(IIII)Z"⟩
abbrev cX3_lastsOn : ByteArray := prog_5_method_8_code
def yX3_lastsOn : MethodName := ⟨RX3, "lastsOn", "(II)Z"⟩
abbrev cX3_endFor : ByteArray := prog_5_method_9_code
def yX3_endFor : MethodName := ⟨RX3, "endFor", "(II)I"⟩
abbrev cX3_payment : ByteArray := prog_5_method_10_code
def yX3_payment : MethodName := ⟨RX3, "payment", "(III)J"⟩
abbrev cX3_isFree : ByteArray := prog_5_method_11_code
def yX3_isFree : MethodName := ⟨RX3, "isFree", "(I)Z"⟩
abbrev cX3_isWrong : ByteArray := prog_5_method_12_code
def yX3_isWrong : MethodName := ⟨RX3, "isWrong", "(II)Z"⟩
abbrev cX3_detail : ByteArray := prog_5_method_13_code
def yX3_detail : MethodName := ⟨RX3, "detail", "(II)I"⟩
def RX4 : String := "OrphanShelf$Orders"
def TX4 : u_T := fun k => match k with
  | 0 => ("OrphanShelf$Orders", "works", "LOrphanShelf$Works;", true)
  | 1 => ("OrphanShelf$Orders", "rulings", "LOrphanShelf$Rulings;", true)
  | 2 => ("OrphanShelf$Orders", "cost", "[I", true)
  | 3 => ("OrphanShelf$Orders", "chance", "[I", true)
  | 4 => ("OrphanShelf$Orders", "wanted", "[I", true)
  | 5 => ("OrphanShelf$Orders", "row", "[I", true)
  | 6 => ("OrphanShelf$Orders", "rests", "[I", true)
  | 7 => ("OrphanShelf$Orders", "rest", "[J", true)
  | 8 => ("OrphanShelf$Orders", "added", "[J", true)
  | 9 => ("OrphanShelf$Orders", "size", "I", false)
  | 10 => ("OrphanShelf$Orders", "wantedBits", "I", false)
  | 11 => ("OrphanShelf$Orders", "kind", "I", false)
  | _ => ("OrphanShelf$Orders", "least", "J", false)
def tyX4 : Nat → FieldType := fun k => match k with
  | 0 => .object "OrphanShelf$Works"
  | 1 => .object "OrphanShelf$Rulings"
  | 2 => .array .int
  | 3 => .array .int
  | 4 => .array .int
  | 5 => .array .int
  | 6 => .array .int
  | 7 => .array .long
  | 8 => .array .long
  | 9 => .int
  | 10 => .int
  | 11 => .int
  | _ => .long
abbrev wsX40 : List Cond := u_ws RX4 TX4 13
theorem nmX4 : ∀ a, a < 13 → ∀ b, b < 13 → a ≠ b → (TX4 a).2.1 ≠ (TX4 b).2.1 := by decide +kernel
theorem tyX4_ok : ∀ k, k < 13 → parseFieldDescriptor (TX4 k).2.2.1 = some (tyX4 k) := by decide +kernel
abbrev cX4_init : ByteArray := prog_6_method_1_code
def yX4_init : MethodName := ⟨RX4, "<init>", "(LOrphanShelf$Works;LOrphanShelf$Rulings;)V"⟩
abbrev cX4_setCost : ByteArray := prog_6_method_2_code
def yX4_setCost : MethodName := ⟨RX4, "setCost", "(II)Z"⟩
abbrev cX4_setChance : ByteArray := prog_6_method_3_code
def yX4_setChance : MethodName := ⟨RX4, "setChance", "(III)Z"⟩
abbrev cX4_gather : ByteArray := prog_6_method_4_code
def yX4_gather : MethodName := ⟨RX4, "gather", "(III)V"⟩
abbrev cX4_expectedOn : ByteArray := prog_6_method_5_code
def yX4_expectedOn : MethodName := ⟨RX4, "expectedOn", "(LOrphanShelf$Tape;I)J"⟩
abbrev cX4_expectedOfRow : ByteArray := prog_6_method_6_code
def yX4_expectedOfRow : MethodName := ⟨RX4, "expectedOfRow", "()J"⟩
abbrev cX4_findCheapest : ByteArray := prog_6_method_7_code
def yX4_findCheapest : MethodName := ⟨RX4, "findCheapest", "()V"⟩
abbrev cX4_leastExpected : ByteArray := prog_6_method_8_code
def yX4_leastExpected : MethodName := ⟨RX4, "leastExpected", "()J"⟩
abbrev cX4_cheapestAt : ByteArray := prog_6_method_9_code
def yX4_cheapestAt : MethodName := ⟨RX4, "cheapestAt", "(I)I"⟩
abbrev cX4_costOf : ByteArray := prog_6_method_10_code
def yX4_costOf : MethodName := ⟨RX4, "costOf", "(I)I"⟩
abbrev cX4_chanceOf : ByteArray := prog_6_method_11_code
def yX4_chanceOf : MethodName := ⟨RX4, "chanceOf", "(I)I"⟩
abbrev cX4_leftBehind : ByteArray := prog_6_method_12_code
def yX4_leftBehind : MethodName := ⟨RX4, "leftBehind", "(IJ)J"⟩
abbrev cX4_firstOfLeast : ByteArray := prog_6_method_13_code
def yX4_firstOfLeast : MethodName := ⟨RX4, "firstOfLeast", "(IJ)I"⟩
abbrev cX4_leastAdded : ByteArray := prog_6_method_14_code
def yX4_leastAdded : MethodName := ⟨RX4, "leastAdded", "(IJ)J"⟩
abbrev cX4_addedWith : ByteArray := prog_6_method_15_code
def yX4_addedWith : MethodName := ⟨RX4, "addedWith", "(IIJ)J"⟩
abbrev cX4_knownAt : ByteArray := prog_6_method_16_code
def yX4_knownAt : MethodName := ⟨RX4, "knownAt", "(IJ)I"⟩
abbrev cX4_keep : ByteArray := prog_6_method_17_code
def yX4_keep : MethodName := ⟨RX4, "keep", "(IJJ)V"⟩
def RX5 : String := "OrphanShelf$Owners"
def TX5 : u_T := fun k => match k with
  | 0 => ("OrphanShelf$Owners", "firm", "[Z", true)
  | 1 => ("OrphanShelf$Owners", "partOf", "[I", true)
  | 2 => ("OrphanShelf$Owners", "partFrom", "[I", true)
  | 3 => ("OrphanShelf$Owners", "partTold", "[I", true)
  | 4 => ("OrphanShelf$Owners", "deathOwner", "[I", true)
  | 5 => ("OrphanShelf$Owners", "deathFirst", "[I", true)
  | 6 => ("OrphanShelf$Owners", "deathLast", "[I", true)
  | 7 => ("OrphanShelf$Owners", "deathTold", "[I", true)
  | 8 => ("OrphanShelf$Owners", "size", "I", false)
  | _ => ("OrphanShelf$Owners", "deaths", "I", false)
def tyX5 : Nat → FieldType := fun k => match k with
  | 0 => .array .boolean
  | 1 => .array .int
  | 2 => .array .int
  | 3 => .array .int
  | 4 => .array .int
  | 5 => .array .int
  | 6 => .array .int
  | 7 => .array .int
  | 8 => .int
  | _ => .int
abbrev wsX50 : List Cond := u_ws RX5 TX5 10
theorem nmX5 : ∀ a, a < 10 → ∀ b, b < 10 → a ≠ b → (TX5 a).2.1 ≠ (TX5 b).2.1 := by decide +kernel
theorem tyX5_ok : ∀ k, k < 10 → parseFieldDescriptor (TX5 k).2.2.1 = some (tyX5 k) := by decide +kernel
abbrev cX5_init : ByteArray := prog_7_method_1_code
def yX5_init : MethodName := ⟨RX5, "<init>", "()V"⟩
abbrev cX5_size : ByteArray := prog_7_method_2_code
def yX5_size : MethodName := ⟨RX5, "size", "()I"⟩
abbrev cX5_has : ByteArray := prog_7_method_3_code
def yX5_has : MethodName := ⟨RX5, "has", "(I)Z"⟩
abbrev cX5_isPerson : ByteArray := prog_7_method_4_code
def yX5_isPerson : MethodName := ⟨RX5, "isPerson", "(I)Z"⟩
abbrev cX5_isFirm : ByteArray := prog_7_method_5_code
def yX5_isFirm : MethodName := ⟨RX5, "isFirm", "(I)Z"⟩
abbrev cX5_add : ByteArray := prog_7_method_6_code
def yX5_add : MethodName := ⟨RX5, "add", "(Z)I"⟩
abbrev cX5_tellDeath : ByteArray := prog_7_method_7_code
def yX5_tellDeath : MethodName := ⟨RX5, "tellDeath", "(IIII)Z"⟩
abbrev cX5_deathOf : ByteArray := prog_7_method_8_code
def yX5_deathOf : MethodName := ⟨RX5, "deathOf", "(II)I"⟩
abbrev cX5_deathDay : ByteArray := prog_7_method_9_code
def yX5_deathDay : MethodName := ⟨RX5, "deathDay", "(IZ)I"⟩
abbrev cX5_join : ByteArray := prog_7_method_10_code
def yX5_join : MethodName := ⟨RX5, "join", "(IIII)Z"⟩
abbrev cX5_leadsTo : ByteArray := prog_7_method_11_code
def yX5_leadsTo : MethodName := ⟨RX5, "leadsTo", "(II)Z"⟩
abbrev cX5_holderFor : ByteArray := prog_7_method_12_code
def yX5_holderFor : MethodName := ⟨RX5, "holderFor", "(III)I"⟩
def RX6 : String := "OrphanShelf$Reader"
def TX6 : u_T := fun k => match k with
  | 0 => ("OrphanShelf$Reader", "tape", "LOrphanShelf$Tape;", true)
  | 1 => ("OrphanShelf$Reader", "code", "[I", true)
  | 2 => ("OrphanShelf$Reader", "stack", "[I", true)
  | 3 => ("OrphanShelf$Reader", "codeSize", "I", false)
  | 4 => ("OrphanShelf$Reader", "height", "I", false)
  | 5 => ("OrphanShelf$Reader", "place", "I", false)
  | 6 => ("OrphanShelf$Reader", "end", "I", false)
  | 7 => ("OrphanShelf$Reader", "open", "I", false)
  | 8 => ("OrphanShelf$Reader", "fault", "I", false)
  | 9 => ("OrphanShelf$Reader", "kind", "I", false)
  | 10 => ("OrphanShelf$Reader", "firstNumber", "I", false)
  | 11 => ("OrphanShelf$Reader", "secondNumber", "I", false)
  | _ => ("OrphanShelf$Reader", "asksFound", "Z", false)
def tyX6 : Nat → FieldType := fun k => match k with
  | 0 => .object "OrphanShelf$Tape"
  | 1 => .array .int
  | 2 => .array .int
  | 3 => .int
  | 4 => .int
  | 5 => .int
  | 6 => .int
  | 7 => .int
  | 8 => .int
  | 9 => .int
  | 10 => .int
  | 11 => .int
  | _ => .boolean
abbrev wsX60 : List Cond := u_ws RX6 TX6 13
theorem nmX6 : ∀ a, a < 13 → ∀ b, b < 13 → a ≠ b → (TX6 a).2.1 ≠ (TX6 b).2.1 := by decide +kernel
theorem tyX6_ok : ∀ k, k < 13 → parseFieldDescriptor (TX6 k).2.2.1 = some (tyX6 k) := by decide +kernel
abbrev cX6_init : ByteArray := prog_8_method_1_code
def yX6_init : MethodName := ⟨RX6, "<init>", "(LOrphanShelf$Tape;)V"⟩
abbrev cX6_begin : ByteArray := prog_8_method_2_code
def yX6_begin : MethodName := ⟨RX6, "begin", "(II)V"⟩
abbrev cX6_asksFound : ByteArray := prog_8_method_3_code
def yX6_asksFound : MethodName := ⟨RX6, "asksFound", "()Z"⟩
abbrev cX6_codeSize : ByteArray := prog_8_method_4_code
def yX6_codeSize : MethodName := ⟨RX6, "codeSize", "()I"⟩
abbrev cX6_fault : ByteArray := prog_8_method_5_code
def yX6_fault : MethodName := ⟨RX6, "fault", "()I"⟩
abbrev cX6_kind : ByteArray := prog_8_method_6_code
def yX6_kind : MethodName := ⟨RX6, "kind", "()I"⟩
abbrev cX6_firstNumber : ByteArray := prog_8_method_7_code
def yX6_firstNumber : MethodName := ⟨RX6, "firstNumber", "()I"⟩
abbrev cX6_secondNumber : ByteArray := prog_8_method_8_code
def yX6_secondNumber : MethodName := ⟨RX6, "secondNumber", "()I"⟩
abbrev cX6_readClause : ByteArray := prog_8_method_9_code
def yX6_readClause : MethodName := ⟨RX6, "readClause", "(I)V"⟩
abbrev cX6_goesOn : ByteArray := prog_8_method_10_code
def yX6_goesOn : MethodName := ⟨RX6, "goesOn", "()Z"⟩
abbrev cX6_sign : ByteArray := prog_8_method_11_code
def yX6_sign : MethodName := ⟨RX6, "sign", "()I"⟩
abbrev cX6_blame : ByteArray := prog_8_method_12_code
def yX6_blame : MethodName := ⟨RX6, "blame", "(II)V"⟩
abbrev cX6_pass : ByteArray := prog_8_method_13_code
def yX6_pass : MethodName := ⟨RX6, "pass", "(I)V"⟩
abbrev cX6_enter : ByteArray := prog_8_method_14_code
def yX6_enter : MethodName := ⟨RX6, "enter", "()Z"⟩
abbrev cX6_exit : ByteArray := prog_8_method_15_code
def yX6_exit : MethodName := ⟨RX6, "exit", "(I)V"⟩
abbrev cX6_readLimited : ByteArray := prog_8_method_16_code
def yX6_readLimited : MethodName := ⟨RX6, "readLimited", "(I)I"⟩
abbrev cX6_readDigits : ByteArray := prog_8_method_17_code
def yX6_readDigits : MethodName := ⟨RX6, "readDigits", "()I"⟩
abbrev cX6_isDigit : ByteArray := prog_8_method_18_code
def yX6_isDigit : MethodName := ⟨RX6, "isDigit", "(I)Z"⟩
abbrev cX6_anyPart : ByteArray := prog_8_method_19_code
def yX6_anyPart : MethodName := ⟨RX6, "anyPart", "()V"⟩
abbrev cX6_everyPiece : ByteArray := prog_8_method_20_code
def yX6_everyPiece : MethodName := ⟨RX6, "everyPiece", "()V"⟩
abbrev cX6_piece : ByteArray := prog_8_method_21_code
def yX6_piece : MethodName := ⟨RX6, "piece", "()V"⟩
abbrev cX6_sum : ByteArray := prog_8_method_22_code
def yX6_sum : MethodName := ⟨RX6, "sum", "()V"⟩
abbrev cX6_product : ByteArray := prog_8_method_23_code
def yX6_product : MethodName := ⟨RX6, "product", "()V"⟩
abbrev cX6_factor : ByteArray := prog_8_method_24_code
def yX6_factor : MethodName := ⟨RX6, "factor", "()V"⟩
abbrev cX6_emit : ByteArray := prog_8_method_25_code
def yX6_emit : MethodName := ⟨RX6, "emit", "(II)V"⟩
abbrev cX6_landJump : ByteArray := prog_8_method_26_code
def yX6_landJump : MethodName := ⟨RX6, "landJump", "(I)V"⟩
abbrev cX6_isMet : ByteArray := prog_8_method_27_code
def yX6_isMet : MethodName := ⟨RX6, "isMet", "(II[I)Z"⟩
abbrev cX6_push : ByteArray := prog_8_method_28_code
def yX6_push : MethodName := ⟨RX6, "push", "(I)V"⟩
abbrev cX6_pop : ByteArray := prog_8_method_29_code
def yX6_pop : MethodName := ⟨RX6, "pop", "()I"⟩
abbrev cX6_reckoned : ByteArray := prog_8_method_30_code
def yX6_reckoned : MethodName := ⟨RX6, "reckoned", "(III)I"⟩
def RX7 : String := "OrphanShelf$Rulings"
def TX7 : u_T := fun k => match k with
  | 0 => ("OrphanShelf$Rulings", "owners", "LOrphanShelf$Owners;", true)
  | 1 => ("OrphanShelf$Rulings", "works", "LOrphanShelf$Works;", true)
  | 2 => ("OrphanShelf$Rulings", "traces", "LOrphanShelf$Traces;", true)
  | 3 => ("OrphanShelf$Rulings", "holdings", "LOrphanShelf$Holdings;", true)
  | 4 => ("OrphanShelf$Rulings", "laws", "LOrphanShelf$Laws;", true)
  | 5 => ("OrphanShelf$Rulings", "lackingWork", "I", false)
  | 6 => ("OrphanShelf$Rulings", "lackingSource", "I", false)
  | _ => ("OrphanShelf$Rulings", "lackingOwner", "I", false)
def tyX7 : Nat → FieldType := fun k => match k with
  | 0 => .object "OrphanShelf$Owners"
  | 1 => .object "OrphanShelf$Works"
  | 2 => .object "OrphanShelf$Traces"
  | 3 => .object "OrphanShelf$Holdings"
  | 4 => .object "OrphanShelf$Laws"
  | 5 => .int
  | 6 => .int
  | _ => .int
abbrev wsX70 : List Cond := u_ws RX7 TX7 8
theorem nmX7 : ∀ a, a < 8 → ∀ b, b < 8 → a ≠ b → (TX7 a).2.1 ≠ (TX7 b).2.1 := by decide +kernel
theorem tyX7_ok : ∀ k, k < 8 → parseFieldDescriptor (TX7 k).2.2.1 = some (tyX7 k) := by decide +kernel
abbrev cX7_init : ByteArray := prog_9_method_1_code
def yX7_init : MethodName := ⟨RX7, "<init>", "(LOrphanShelf$Owners;LOrphanShelf$Works;LOrphanShelf$Traces;LOrphanShelf$Holdings;LOrphanShelf$Laws;)V"⟩
abbrev cX7_termOf : ByteArray := prog_9_method_2_code
def yX7_termOf : MethodName := ⟨RX7, "termOf", "(IIIIZ)I"⟩
abbrev cX7_weighedTerm : ByteArray := prog_9_method_3_code
def yX7_weighedTerm : MethodName := ⟨RX7, "weighedTerm", "(IIIZ)I"⟩
abbrev cX7_termByDeaths : ByteArray := prog_9_method_4_code
def yX7_termByDeaths : MethodName := ⟨RX7, "termByDeaths", "(IIIZ)I"⟩
abbrev cX7_freedom : ByteArray := prog_9_method_5_code
def yX7_freedom : MethodName := ⟨RX7, "freedom", "(IIII)I"⟩
abbrev cX7_lacks : ByteArray := prog_9_method_6_code
def yX7_lacks : MethodName := ⟨RX7, "lacks", "(IIII)Z"⟩
abbrev cX7_lack : ByteArray := prog_9_method_7_code
def yX7_lack : MethodName := ⟨RX7, "lack", "(I)I"⟩
abbrev cX7_sourcesToDo : ByteArray := prog_9_method_8_code
def yX7_sourcesToDo : MethodName := ⟨RX7, "sourcesToDo", "(III)I"⟩
abbrev cX7_missingSources : ByteArray := prog_9_method_9_code
def yX7_missingSources : MethodName := ⟨RX7, "missingSources", "(III)I"⟩
abbrev cX7_missingOwner : ByteArray := prog_9_method_10_code
def yX7_missingOwner : MethodName := ⟨RX7, "missingOwner", "(III)I"⟩
abbrev cX7_firstBit : ByteArray := prog_9_method_11_code
def yX7_firstBit : MethodName := ⟨RX7, "firstBit", "(I)I"⟩
def RX8 : String := "OrphanShelf$Tape"
def TX8 : u_T := fun k => match k with
  | 0 => ("OrphanShelf$Tape", "bytes", "[I", true)
  | _ => ("OrphanShelf$Tape", "size", "I", false)
def tyX8 : Nat → FieldType := fun k => match k with
  | 0 => .array .int
  | _ => .int
abbrev wsX80 : List Cond := u_ws RX8 TX8 2
theorem nmX8 : ∀ a, a < 2 → ∀ b, b < 2 → a ≠ b → (TX8 a).2.1 ≠ (TX8 b).2.1 := by decide +kernel
theorem tyX8_ok : ∀ k, k < 2 → parseFieldDescriptor (TX8 k).2.2.1 = some (tyX8 k) := by decide +kernel
abbrev cX8_init : ByteArray := prog_10_method_1_code
def yX8_init : MethodName := ⟨RX8, "<init>", "()V"⟩
abbrev cX8_size : ByteArray := prog_10_method_2_code
def yX8_size : MethodName := ⟨RX8, "size", "()I"⟩
abbrev cX8_hasRoom : ByteArray := prog_10_method_3_code
def yX8_hasRoom : MethodName := ⟨RX8, "hasRoom", "()Z"⟩
abbrev cX8_has : ByteArray := prog_10_method_4_code
def yX8_has : MethodName := ⟨RX8, "has", "(I)Z"⟩
abbrev cX8_put : ByteArray := prog_10_method_5_code
def yX8_put : MethodName := ⟨RX8, "put", "(I)V"⟩
abbrev cX8_at : ByteArray := prog_10_method_6_code
def yX8_at : MethodName := ⟨RX8, "at", "(I)I"⟩
abbrev cX8_clear : ByteArray := prog_10_method_7_code
def yX8_clear : MethodName := ⟨RX8, "clear", "()V"⟩
def RX9 : String := "OrphanShelf$Traces"
def TX9 : u_T := fun k => match k with
  | 0 => ("OrphanShelf$Traces", "lookWork", "[I", true)
  | 1 => ("OrphanShelf$Traces", "lookSource", "[I", true)
  | 2 => ("OrphanShelf$Traces", "lookDay", "[I", true)
  | 3 => ("OrphanShelf$Traces", "lookOwner", "[I", true)
  | 4 => ("OrphanShelf$Traces", "lookTold", "[I", true)
  | 5 => ("OrphanShelf$Traces", "letterOwner", "[I", true)
  | 6 => ("OrphanShelf$Traces", "letterDay", "[I", true)
  | 7 => ("OrphanShelf$Traces", "letterTold", "[I", true)
  | 8 => ("OrphanShelf$Traces", "letterAnswered", "[I", true)
  | 9 => ("OrphanShelf$Traces", "consentOwner", "[I", true)
  | 10 => ("OrphanShelf$Traces", "consentWork", "[I", true)
  | 11 => ("OrphanShelf$Traces", "consentDay", "[I", true)
  | 12 => ("OrphanShelf$Traces", "came", "[I", true)
  | 13 => ("OrphanShelf$Traces", "looks", "I", false)
  | 14 => ("OrphanShelf$Traces", "letters", "I", false)
  | _ => ("OrphanShelf$Traces", "consents", "I", false)
def tyX9 : Nat → FieldType := fun k => match k with
  | 0 => .array .int
  | 1 => .array .int
  | 2 => .array .int
  | 3 => .array .int
  | 4 => .array .int
  | 5 => .array .int
  | 6 => .array .int
  | 7 => .array .int
  | 8 => .array .int
  | 9 => .array .int
  | 10 => .array .int
  | 11 => .array .int
  | 12 => .array .int
  | 13 => .int
  | 14 => .int
  | _ => .int
abbrev wsX90 : List Cond := u_ws RX9 TX9 16
theorem nmX9 : ∀ a, a < 16 → ∀ b, b < 16 → a ≠ b → (TX9 a).2.1 ≠ (TX9 b).2.1 := by decide +kernel
theorem tyX9_ok : ∀ k, k < 16 → parseFieldDescriptor (TX9 k).2.2.1 = some (tyX9 k) := by decide +kernel
abbrev cX9_init : ByteArray := prog_11_method_1_code
def yX9_init : MethodName := ⟨RX9, "<init>", "()V"⟩
abbrev cX9_looks : ByteArray := prog_11_method_2_code
def yX9_looks : MethodName := ⟨RX9, "looks", "()I"⟩
abbrev cX9_letters : ByteArray := prog_11_method_3_code
def yX9_letters : MethodName := ⟨RX9, "letters", "()I"⟩
abbrev cX9_addLook : ByteArray := prog_11_method_4_code
def yX9_addLook : MethodName := ⟨RX9, "addLook", "(IIIII)I"⟩
abbrev cX9_addLetter : ByteArray := prog_11_method_5_code
def yX9_addLetter : MethodName := ⟨RX9, "addLetter", "(III)I"⟩
abbrev cX9_addAnswer : ByteArray := prog_11_method_6_code
def yX9_addAnswer : MethodName := ⟨RX9, "addAnswer", "(II)Z"⟩
abbrev cX9_addComing : ByteArray := prog_11_method_7_code
def yX9_addComing : MethodName := ⟨RX9, "addComing", "(II)Z"⟩
abbrev cX9_hasCome : ByteArray := prog_11_method_8_code
def yX9_hasCome : MethodName := ⟨RX9, "hasCome", "(I)Z"⟩
abbrev cX9_addConsent : ByteArray := prog_11_method_9_code
def yX9_addConsent : MethodName := ⟨RX9, "addConsent", "(III)Z"⟩
abbrev cX9_hasAgreed : ByteArray := prog_11_method_10_code
def yX9_hasAgreed : MethodName := ⟨RX9, "hasAgreed", "(III)Z"⟩
abbrev cX9_isFound : ByteArray := prog_11_method_11_code
def yX9_isFound : MethodName := ⟨RX9, "isFound", "(III)Z"⟩
abbrev cX9_hasAnswered : ByteArray := prog_11_method_12_code
def yX9_hasAnswered : MethodName := ⟨RX9, "hasAnswered", "(II)Z"⟩
abbrev cX9_isSeen : ByteArray := prog_11_method_13_code
def yX9_isSeen : MethodName := ⟨RX9, "isSeen", "(III)Z"⟩
abbrev cX9_lookedThrough : ByteArray := prog_11_method_14_code
def yX9_lookedThrough : MethodName := ⟨RX9, "lookedThrough", "(IIII)I"⟩
abbrev cX9_wasWritten : ByteArray := prog_11_method_15_code
def yX9_wasWritten : MethodName := ⟨RX9, "wasWritten", "(III)Z"⟩
def RX10 : String := "OrphanShelf$Works"
def TX10 : u_T := fun k => match k with
  | 0 => ("OrphanShelf$Works", "kind", "[I", true)
  | 1 => ("OrphanShelf$Works", "land", "[I", true)
  | 2 => ("OrphanShelf$Works", "first", "[I", true)
  | 3 => ("OrphanShelf$Works", "last", "[I", true)
  | 4 => ("OrphanShelf$Works", "marks", "[I", true)
  | 5 => ("OrphanShelf$Works", "in", "[I", true)
  | 6 => ("OrphanShelf$Works", "depth", "[I", true)
  | 7 => ("OrphanShelf$Works", "shares", "[I", true)
  | 8 => ("OrphanShelf$Works", "shareOwner", "[I", true)
  | 9 => ("OrphanShelf$Works", "sharePart", "[I", true)
  | 10 => ("OrphanShelf$Works", "lists", "[I", true)
  | 11 => ("OrphanShelf$Works", "taken", "[Z", true)
  | _ => ("OrphanShelf$Works", "size", "I", false)
def tyX10 : Nat → FieldType := fun k => match k with
  | 0 => .array .int
  | 1 => .array .int
  | 2 => .array .int
  | 3 => .array .int
  | 4 => .array .int
  | 5 => .array .int
  | 6 => .array .int
  | 7 => .array .int
  | 8 => .array .int
  | 9 => .array .int
  | 10 => .array .int
  | 11 => .array .boolean
  | _ => .int
abbrev wsX100 : List Cond := u_ws RX10 TX10 13
theorem nmX10 : ∀ a, a < 13 → ∀ b, b < 13 → a ≠ b → (TX10 a).2.1 ≠ (TX10 b).2.1 := by decide +kernel
theorem tyX10_ok : ∀ k, k < 13 → parseFieldDescriptor (TX10 k).2.2.1 = some (tyX10 k) := by decide +kernel
abbrev cX10_init : ByteArray := prog_12_method_1_code
def yX10_init : MethodName := ⟨RX10, "<init>", "()V"⟩
abbrev cX10_size : ByteArray := prog_12_method_2_code
def yX10_size : MethodName := ⟨RX10, "size", "()I"⟩
abbrev cX10_has : ByteArray := prog_12_method_3_code
def yX10_has : MethodName := ⟨RX10, "has", "(I)Z"⟩
abbrev cX10_canLieIn : ByteArray := prog_12_method_4_code
def yX10_canLieIn : MethodName := ⟨RX10, "canLieIn", "(I)Z"⟩
abbrev cX10_add : ByteArray := prog_12_method_5_code
def yX10_add : MethodName := ⟨RX10, "add", "(IIIIII)I"⟩
abbrev cX10_kindOf : ByteArray := prog_12_method_6_code
def yX10_kindOf : MethodName := ⟨RX10, "kindOf", "(I)I"⟩
abbrev cX10_landOf : ByteArray := prog_12_method_7_code
def yX10_landOf : MethodName := ⟨RX10, "landOf", "(I)I"⟩
abbrev cX10_outerOf : ByteArray := prog_12_method_8_code
def yX10_outerOf : MethodName := ⟨RX10, "outerOf", "(I)I"⟩
abbrev cX10_outDay : ByteArray := prog_12_method_9_code
def yX10_outDay : MethodName := ⟨RX10, "outDay", "(IZ)I"⟩
abbrev cX10_sharesOf : ByteArray := prog_12_method_10_code
def yX10_sharesOf : MethodName := ⟨RX10, "sharesOf", "(I)I"⟩
abbrev cX10_shareOwner : ByteArray := prog_12_method_11_code
def yX10_shareOwner : MethodName := ⟨RX10, "shareOwner", "(II)I"⟩
abbrev cX10_sharePart : ByteArray := prog_12_method_12_code
def yX10_sharePart : MethodName := ⟨RX10, "sharePart", "(II)I"⟩
abbrev cX10_isSharedBy : ByteArray := prog_12_method_13_code
def yX10_isSharedBy : MethodName := ⟨RX10, "isSharedBy", "(II)Z"⟩
abbrev cX10_addShare : ByteArray := prog_12_method_14_code
def yX10_addShare : MethodName := ⟨RX10, "addShare", "(III)Z"⟩
abbrev cX10_partsOf : ByteArray := prog_12_method_15_code
def yX10_partsOf : MethodName := ⟨RX10, "partsOf", "(I)I"⟩
abbrev cX10_areAlike : ByteArray := prog_12_method_16_code
def yX10_areAlike : MethodName := ⟨RX10, "areAlike", "(III)Z"⟩
abbrev cX10_enlist : ByteArray := prog_12_method_17_code
def yX10_enlist : MethodName := ⟨RX10, "enlist", "(II)Z"⟩
abbrev cX10_isListed : ByteArray := prog_12_method_18_code
def yX10_isListed : MethodName := ⟨RX10, "isListed", "(II)Z"⟩
abbrev cX10_listed : ByteArray := prog_12_method_19_code
def yX10_listed : MethodName := ⟨RX10, "listed", "(I)I"⟩
abbrev cX10_pairAt : ByteArray := prog_12_method_20_code
def yX10_pairAt : MethodName := ⟨RX10, "pairAt", "(IIIIZ)I"⟩
abbrev cX10_clearTaken : ByteArray := prog_12_method_21_code
def yX10_clearTaken : MethodName := ⟨RX10, "clearTaken", "()V"⟩
abbrev cX10_partnerOf : ByteArray := prog_12_method_22_code
def yX10_partnerOf : MethodName := ⟨RX10, "partnerOf", "(III)I"⟩
def RX11 : String := "OrphanShelf"
def TX11 : u_T := fun k => match k with
  | 0 => ("OrphanShelf", "tape", "LOrphanShelf$Tape;", true)
  | 1 => ("OrphanShelf", "owners", "LOrphanShelf$Owners;", true)
  | 2 => ("OrphanShelf", "works", "LOrphanShelf$Works;", true)
  | 3 => ("OrphanShelf", "traces", "LOrphanShelf$Traces;", true)
  | 4 => ("OrphanShelf", "holdings", "LOrphanShelf$Holdings;", true)
  | 5 => ("OrphanShelf", "laws", "LOrphanShelf$Laws;", true)
  | 6 => ("OrphanShelf", "rulings", "LOrphanShelf$Rulings;", true)
  | 7 => ("OrphanShelf", "orders", "LOrphanShelf$Orders;", true)
  | 8 => ("OrphanShelf", "leaves", "LOrphanShelf$Leaves;", true)
  | 9 => ("OrphanShelf", "audits", "LOrphanShelf$Audits;", true)
  | _ => ("OrphanShelf", "now", "I", false)
def tyX11 : Nat → FieldType := fun k => match k with
  | 0 => .object "OrphanShelf$Tape"
  | 1 => .object "OrphanShelf$Owners"
  | 2 => .object "OrphanShelf$Works"
  | 3 => .object "OrphanShelf$Traces"
  | 4 => .object "OrphanShelf$Holdings"
  | 5 => .object "OrphanShelf$Laws"
  | 6 => .object "OrphanShelf$Rulings"
  | 7 => .object "OrphanShelf$Orders"
  | 8 => .object "OrphanShelf$Leaves"
  | 9 => .object "OrphanShelf$Audits"
  | _ => .int
abbrev wsX110 : List Cond := u_ws RX11 TX11 11
theorem nmX11 : ∀ a, a < 11 → ∀ b, b < 11 → a ≠ b → (TX11 a).2.1 ≠ (TX11 b).2.1 := by decide +kernel
theorem tyX11_ok : ∀ k, k < 11 → parseFieldDescriptor (TX11 k).2.2.1 = some (tyX11 k) := by decide +kernel
abbrev cX11_init : ByteArray := prog_1_method_1_code
def yX11_init : MethodName := ⟨RX11, "<init>", "()V"⟩
abbrev cX11_now : ByteArray := prog_1_method_2_code
def yX11_now : MethodName := ⟨RX11, "now", "(I)Z"⟩
abbrev cX11_owner : ByteArray := prog_1_method_3_code
def yX11_owner : MethodName := ⟨RX11, "owner", "(ZI)I"⟩
abbrev cX11_died : ByteArray := prog_1_method_4_code
def yX11_died : MethodName := ⟨RX11, "died", "(III)Z"⟩
abbrev cX11_merge : ByteArray := prog_1_method_5_code
def yX11_merge : MethodName := ⟨RX11, "merge", "(III)Z"⟩
abbrev cX11_work : ByteArray := prog_1_method_6_code
def yX11_work : MethodName := ⟨RX11, "work", "(IIIIII)I"⟩
abbrev cX11_share : ByteArray := prog_1_method_7_code
def yX11_share : MethodName := ⟨RX11, "share", "(III)Z"⟩
abbrev cX11_holds : ByteArray := prog_1_method_8_code
def yX11_holds : MethodName := ⟨RX11, "holds", "(IIII)I"⟩
abbrev cX11_feed : ByteArray := prog_1_method_9_code
def yX11_feed : MethodName := ⟨RX11, "feed", "(IIIII)I"⟩
abbrev cX11_law : ByteArray := prog_1_method_10_code
def yX11_law : MethodName := ⟨RX11, "law", "(IIII)I"⟩
abbrev cX11_number : ByteArray := prog_1_method_11_code
def yX11_number : MethodName := ⟨RX11, "number", "(IIIII)I"⟩
abbrev cX11_term : ByteArray := prog_1_method_12_code
def yX11_term : MethodName := ⟨RX11, "term", "(IIIII)I"⟩
abbrev cX11_free : ByteArray := prog_1_method_13_code
def yX11_free : MethodName := ⟨RX11, "free", "(IIII)I"⟩
abbrev cX11_source : ByteArray := prog_1_method_14_code
def yX11_source : MethodName := ⟨RX11, "source", "(II)Z"⟩
abbrev cX11_chance : ByteArray := prog_1_method_15_code
def yX11_chance : MethodName := ⟨RX11, "chance", "(III)Z"⟩
abbrev cX11_look : ByteArray := prog_1_method_16_code
def yX11_look : MethodName := ⟨RX11, "look", "(IIII)I"⟩
abbrev cX11_letter : ByteArray := prog_1_method_17_code
def yX11_letter : MethodName := ⟨RX11, "letter", "(II)I"⟩
abbrev cX11_answer : ByteArray := prog_1_method_18_code
def yX11_answer : MethodName := ⟨RX11, "answer", "(I)Z"⟩
abbrev cX11_found : ByteArray := prog_1_method_19_code
def yX11_found : MethodName := ⟨RX11, "found", "(III)I"⟩
abbrev cX11_enough : ByteArray := prog_1_method_20_code
def yX11_enough : MethodName := ⟨RX11, "enough", "(IIII)I"⟩
abbrev cX11_why : ByteArray := prog_1_method_21_code
def yX11_why : MethodName := ⟨RX11, "why", "(IIIII)I"⟩
abbrev cX11_nobody : ByteArray := prog_1_method_22_code
def yX11_nobody : MethodName := ⟨RX11, "nobody", "(III)I"⟩
abbrev cX11_agree : ByteArray := prog_1_method_23_code
def yX11_agree : MethodName := ⟨RX11, "agree", "(II)Z"⟩
abbrev cX11_ask : ByteArray := prog_1_method_24_code
def yX11_ask : MethodName := ⟨RX11, "ask", "(IIII)I"⟩
abbrev cX11_uses : ByteArray := prog_1_method_25_code
def yX11_uses : MethodName := ⟨RX11, "uses", "(IIII)Z"⟩
abbrev cX11_comes : ByteArray := prog_1_method_26_code
def yX11_comes : MethodName := ⟨RX11, "comes", "(I)I"⟩
abbrev cX11_paid : ByteArray := prog_1_method_27_code
def yX11_paid : MethodName := ⟨RX11, "paid", "(II)J"⟩
abbrev cX11_cheapest : ByteArray := prog_1_method_28_code
def yX11_cheapest : MethodName := ⟨RX11, "cheapest", "(III)J"⟩
abbrev cX11_judge : ByteArray := prog_1_method_29_code
def yX11_judge : MethodName := ⟨RX11, "judge", "(III)J"⟩
abbrev cX11_like : ByteArray := prog_1_method_30_code
def yX11_like : MethodName := ⟨RX11, "like", "(III)I"⟩
abbrev cX11_list : ByteArray := prog_1_method_31_code
def yX11_list : MethodName := ⟨RX11, "list", "(II)Z"⟩
abbrev cX11_joined : ByteArray := prog_1_method_32_code
def yX11_joined : MethodName := ⟨RX11, "joined", "(IIIII)I"⟩
abbrev cX11_audit : ByteArray := prog_1_method_33_code
def yX11_audit : MethodName := ⟨RX11, "audit", "(III)I"⟩
abbrev cX11_shown : ByteArray := prog_1_method_34_code
def yX11_shown : MethodName := ⟨RX11, "shown", "(I)I"⟩
abbrev cX11_leave : ByteArray := prog_1_method_35_code
def yX11_leave : MethodName := ⟨RX11, "leave", "(II)I"⟩
abbrev cX11_count : ByteArray := prog_1_method_36_code
def yX11_count : MethodName := ⟨RX11, "count", "(I)I"⟩
abbrev cX11_isBelow : ByteArray := prog_1_method_37_code
def yX11_isBelow : MethodName := ⟨RX11, "isBelow", "(II)Z"⟩
abbrev cX11_indexOf : ByteArray := prog_1_method_38_code
def yX11_indexOf : MethodName := ⟨RX11, "indexOf", "([CI)I"⟩
abbrev cX11_isDay : ByteArray := prog_1_method_39_code
def yX11_isDay : MethodName := ⟨RX11, "isDay", "(I)Z"⟩
abbrev cX11_isSpan : ByteArray := prog_1_method_40_code
def yX11_isSpan : MethodName := ⟨RX11, "isSpan", "(II)Z"⟩
abbrev cX11_isLand : ByteArray := prog_1_method_41_code
def yX11_isLand : MethodName := ⟨RX11, "isLand", "(I)Z"⟩
abbrev cX11_isKind : ByteArray := prog_1_method_42_code
def yX11_isKind : MethodName := ⟨RX11, "isKind", "(I)Z"⟩
abbrev cX11_isSource : ByteArray := prog_1_method_43_code
def yX11_isSource : MethodName := ⟨RX11, "isSource", "(I)Z"⟩
abbrev cX11_asNumber : ByteArray := prog_1_method_44_code
def yX11_asNumber : MethodName := ⟨RX11, "asNumber", "(Z)I"⟩
abbrev cX11_isTellable : ByteArray := prog_1_method_45_code
def yX11_isTellable : MethodName := ⟨RX11, "isTellable", "(I)Z"⟩
abbrev cX11_isCase : ByteArray := prog_1_method_46_code
def yX11_isCase : MethodName := ⟨RX11, "isCase", "(IIII)Z"⟩
def RX12 : String := "OrphanShelfModel"
def TX12 : u_T := fun k => match k with
  | 0 => ("OrphanShelfModel", "now", "I", false)
  | 1 => ("OrphanShelfModel", "owners", "I", false)
  | 2 => ("OrphanShelfModel", "works", "I", false)
  | 3 => ("OrphanShelfModel", "deaths", "I", false)
  | 4 => ("OrphanShelfModel", "isFirm", "[Z", true)
  | 5 => ("OrphanShelfModel", "ownerLand", "[I", true)
  | 6 => ("OrphanShelfModel", "partOf", "[I", true)
  | 7 => ("OrphanShelfModel", "partFrom", "[I", true)
  | 8 => ("OrphanShelfModel", "partTold", "[I", true)
  | 9 => ("OrphanShelfModel", "cameOn", "[I", true)
  | 10 => ("OrphanShelfModel", "deathOf", "[I", true)
  | 11 => ("OrphanShelfModel", "deathFrom", "[I", true)
  | 12 => ("OrphanShelfModel", "deathTo", "[I", true)
  | 13 => ("OrphanShelfModel", "deathTold", "[I", true)
  | 14 => ("OrphanShelfModel", "workKind", "[I", true)
  | 15 => ("OrphanShelfModel", "workLand", "[I", true)
  | 16 => ("OrphanShelfModel", "workFrom", "[I", true)
  | 17 => ("OrphanShelfModel", "workTo", "[I", true)
  | 18 => ("OrphanShelfModel", "workMarks", "[I", true)
  | 19 => ("OrphanShelfModel", "workIn", "[I", true)
  | 20 => ("OrphanShelfModel", "workDepth", "[I", true)
  | 21 => ("OrphanShelfModel", "shareMany", "[I", true)
  | 22 => ("OrphanShelfModel", "shareOwner", "[I", true)
  | 23 => ("OrphanShelfModel", "sharePart", "[I", true)
  | 24 => ("OrphanShelfModel", "tape", "[B", true)
  | 25 => ("OrphanShelfModel", "taped", "I", false)
  | 26 => ("OrphanShelfModel", "place0", "I", false)
  | 27 => ("OrphanShelfModel", "length0", "I", false)
  | 28 => ("OrphanShelfModel", "fault", "I", false)
  | 29 => ("OrphanShelfModel", "number0", "I", false)
  | 30 => ("OrphanShelfModel", "open", "I", false)
  | 31 => ("OrphanShelfModel", "codeMany", "I", false)
  | 32 => ("OrphanShelfModel", "waiting", "I", false)
  | 33 => ("OrphanShelfModel", "saidClauses", "I", false)
  | 34 => ("OrphanShelfModel", "said", "[I", true)
  | 35 => ("OrphanShelfModel", "waits", "[I", true)
  | 36 => ("OrphanShelfModel", "saidLetter", "[I", true)
  | 37 => ("OrphanShelfModel", "saidFrom", "[I", true)
  | 38 => ("OrphanShelfModel", "saidTo", "[I", true)
  | 39 => ("OrphanShelfModel", "saidN", "[I", true)
  | 40 => ("OrphanShelfModel", "saidJ", "[I", true)
  | 41 => ("OrphanShelfModel", "laws", "I", false)
  | 42 => ("OrphanShelfModel", "codes", "[I", true)
  | 43 => ("OrphanShelfModel", "lawLand", "[I", true)
  | 44 => ("OrphanShelfModel", "lawFrom", "[I", true)
  | 45 => ("OrphanShelfModel", "lawTo", "[I", true)
  | 46 => ("OrphanShelfModel", "clauseMany", "[I", true)
  | 47 => ("OrphanShelfModel", "letterOf", "[I", true)
  | 48 => ("OrphanShelfModel", "codeFrom", "[I", true)
  | 49 => ("OrphanShelfModel", "codeTo", "[I", true)
  | 50 => ("OrphanShelfModel", "nOf", "[I", true)
  | 51 => ("OrphanShelfModel", "jOf", "[I", true)
  | 52 => ("OrphanShelfModel", "isStruck", "[Z", true)
  | 53 => ("OrphanShelfModel", "stack", "[I", true)
  | 54 => ("OrphanShelfModel", "facts", "[I", true)
  | 55 => ("OrphanShelfModel", "looks", "I", false)
  | 56 => ("OrphanShelfModel", "letters", "I", false)
  | 57 => ("OrphanShelfModel", "costOf", "[I", true)
  | 58 => ("OrphanShelfModel", "chanceOf", "[I", true)
  | 59 => ("OrphanShelfModel", "lookWork", "[I", true)
  | 60 => ("OrphanShelfModel", "lookSource", "[I", true)
  | 61 => ("OrphanShelfModel", "lookDay", "[I", true)
  | 62 => ("OrphanShelfModel", "lookOwner", "[I", true)
  | 63 => ("OrphanShelfModel", "lookTold", "[I", true)
  | 64 => ("OrphanShelfModel", "letterTo", "[I", true)
  | 65 => ("OrphanShelfModel", "letterDay", "[I", true)
  | 66 => ("OrphanShelfModel", "letterTold", "[I", true)
  | 67 => ("OrphanShelfModel", "answeredOn", "[I", true)
  | 68 => ("OrphanShelfModel", "lacksWork", "I", false)
  | 69 => ("OrphanShelfModel", "lacksOwner", "I", false)
  | 70 => ("OrphanShelfModel", "lacksWhich", "I", false)
  | 71 => ("OrphanShelfModel", "agreed", "I", false)
  | 72 => ("OrphanShelfModel", "leaves", "I", false)
  | 73 => ("OrphanShelfModel", "useMany", "I", false)
  | 74 => ("OrphanShelfModel", "agreedOwner", "[I", true)
  | 75 => ("OrphanShelfModel", "agreedWork", "[I", true)
  | 76 => ("OrphanShelfModel", "agreedOn", "[I", true)
  | 77 => ("OrphanShelfModel", "leaveLibrary", "[I", true)
  | 78 => ("OrphanShelfModel", "leaveWork", "[I", true)
  | 79 => ("OrphanShelfModel", "leaveLand", "[I", true)
  | 80 => ("OrphanShelfModel", "leaveUse", "[I", true)
  | 81 => ("OrphanShelfModel", "leaveDay", "[I", true)
  | 82 => ("OrphanShelfModel", "leaveFee", "[I", true)
  | 83 => ("OrphanShelfModel", "leaveEnd", "[I", true)
  | 84 => ("OrphanShelfModel", "isFree", "[Z", true)
  | 85 => ("OrphanShelfModel", "useLeave", "[I", true)
  | 86 => ("OrphanShelfModel", "usePence", "[J", true)
  | 87 => ("OrphanShelfModel", "rowMany", "I", false)
  | 88 => ("OrphanShelfModel", "row", "[I", true)
  | 89 => ("OrphanShelfModel", "bestRow", "[I", true)
  | 90 => ("OrphanShelfModel", "isListed", "[Z", true)
  | 91 => ("OrphanShelfModel", "isTaken", "[Z", true)
  | 92 => ("OrphanShelfModel", "drawn", "[I", true)
  | _ => ("OrphanShelfModel", "isDrawn", "[Z", true)
def tyX12 : Nat → FieldType := fun k => match k with
  | 0 => .int
  | 1 => .int
  | 2 => .int
  | 3 => .int
  | 4 => .array .boolean
  | 5 => .array .int
  | 6 => .array .int
  | 7 => .array .int
  | 8 => .array .int
  | 9 => .array .int
  | 10 => .array .int
  | 11 => .array .int
  | 12 => .array .int
  | 13 => .array .int
  | 14 => .array .int
  | 15 => .array .int
  | 16 => .array .int
  | 17 => .array .int
  | 18 => .array .int
  | 19 => .array .int
  | 20 => .array .int
  | 21 => .array .int
  | 22 => .array .int
  | 23 => .array .int
  | 24 => .array .byte
  | 25 => .int
  | 26 => .int
  | 27 => .int
  | 28 => .int
  | 29 => .int
  | 30 => .int
  | 31 => .int
  | 32 => .int
  | 33 => .int
  | 34 => .array .int
  | 35 => .array .int
  | 36 => .array .int
  | 37 => .array .int
  | 38 => .array .int
  | 39 => .array .int
  | 40 => .array .int
  | 41 => .int
  | 42 => .array .int
  | 43 => .array .int
  | 44 => .array .int
  | 45 => .array .int
  | 46 => .array .int
  | 47 => .array .int
  | 48 => .array .int
  | 49 => .array .int
  | 50 => .array .int
  | 51 => .array .int
  | 52 => .array .boolean
  | 53 => .array .int
  | 54 => .array .int
  | 55 => .int
  | 56 => .int
  | 57 => .array .int
  | 58 => .array .int
  | 59 => .array .int
  | 60 => .array .int
  | 61 => .array .int
  | 62 => .array .int
  | 63 => .array .int
  | 64 => .array .int
  | 65 => .array .int
  | 66 => .array .int
  | 67 => .array .int
  | 68 => .int
  | 69 => .int
  | 70 => .int
  | 71 => .int
  | 72 => .int
  | 73 => .int
  | 74 => .array .int
  | 75 => .array .int
  | 76 => .array .int
  | 77 => .array .int
  | 78 => .array .int
  | 79 => .array .int
  | 80 => .array .int
  | 81 => .array .int
  | 82 => .array .int
  | 83 => .array .int
  | 84 => .array .boolean
  | 85 => .array .int
  | 86 => .array .long
  | 87 => .int
  | 88 => .array .int
  | 89 => .array .int
  | 90 => .array .boolean
  | 91 => .array .boolean
  | 92 => .array .int
  | _ => .array .boolean
abbrev wsX120 : List Cond := u_ws RX12 TX12 94
theorem nmX12 : ∀ a, a < 94 → ∀ b, b < 94 → a ≠ b → (TX12 a).2.1 ≠ (TX12 b).2.1 := by decide +kernel
theorem tyX12_ok : ∀ k, k < 94 → parseFieldDescriptor (TX12 k).2.2.1 = some (tyX12 k) := by decide +kernel
abbrev cX12_init : ByteArray := prog_14_method_1_code
def yX12_init : MethodName := ⟨RX12, "<init>", "()V"⟩
abbrev cX12_in : ByteArray := prog_14_method_2_code
def yX12_in : MethodName := ⟨RX12, "in", "(III)Z"⟩
abbrev cX12_isDay : ByteArray := prog_14_method_3_code
def yX12_isDay : MethodName := ⟨RX12, "isDay", "(I)Z"⟩
abbrev cX12_isLand : ByteArray := prog_14_method_4_code
def yX12_isLand : MethodName := ⟨RX12, "isLand", "(I)Z"⟩
abbrev cX12_now : ByteArray := prog_14_method_5_code
def yX12_now : MethodName := ⟨RX12, "now", "(I)Z"⟩
abbrev cX12_isOwner : ByteArray := prog_14_method_6_code
def yX12_isOwner : MethodName := ⟨RX12, "isOwner", "(I)Z"⟩
abbrev cX12_isWork : ByteArray := prog_14_method_7_code
def yX12_isWork : MethodName := ⟨RX12, "isWork", "(I)Z"⟩
abbrev cX12_owner : ByteArray := prog_14_method_8_code
def yX12_owner : MethodName := ⟨RX12, "owner", "(ZI)I"⟩
abbrev cX12_died : ByteArray := prog_14_method_9_code
def yX12_died : MethodName := ⟨RX12, "died", "(III)Z"⟩
abbrev cX12_deathBy : ByteArray := prog_14_method_10_code
def yX12_deathBy : MethodName := ⟨RX12, "deathBy", "(II)I"⟩
abbrev cX12_merge : ByteArray := prog_14_method_11_code
def yX12_merge : MethodName := ⟨RX12, "merge", "(III)Z"⟩
abbrev cX12_heldBy : ByteArray := prog_14_method_12_code
def yX12_heldBy : MethodName := ⟨RX12, "heldBy", "(III)I"⟩
abbrev cX12_work : ByteArray := prog_14_method_13_code
def yX12_work : MethodName := ⟨RX12, "work", "(IIIIII)I"⟩
abbrev cX12_share : ByteArray := prog_14_method_14_code
def yX12_share : MethodName := ⟨RX12, "share", "(III)Z"⟩
abbrev cX12_holderOf : ByteArray := prog_14_method_15_code
def yX12_holderOf : MethodName := ⟨RX12, "holderOf", "(IIII)I"⟩
abbrev cX12_holds : ByteArray := prog_14_method_16_code
def yX12_holds : MethodName := ⟨RX12, "holds", "(IIII)I"⟩
abbrev cX12_types : ByteArray := prog_14_method_17_code
def yX12_types : MethodName := ⟨RX12, "types", "(I)V"⟩
abbrev cX12_feed : ByteArray := prog_14_method_18_code
def yX12_feed : MethodName := ⟨RX12, "feed", "(IIIII)I"⟩
abbrev cX12_sign : ByteArray := prog_14_method_19_code
def yX12_sign : MethodName := ⟨RX12, "sign", "()I"⟩
abbrev cX12_isDigit : ByteArray := prog_14_method_20_code
def yX12_isDigit : MethodName := ⟨RX12, "isDigit", "()Z"⟩
abbrev cX12_wrong : ByteArray := prog_14_method_21_code
def yX12_wrong : MethodName := ⟨RX12, "wrong", "(II)Z"⟩
abbrev cX12_takes : ByteArray := prog_14_method_22_code
def yX12_takes : MethodName := ⟨RX12, "takes", "(I)Z"⟩
abbrev cX12_readsNumber : ByteArray := prog_14_method_23_code
def yX12_readsNumber : MethodName := ⟨RX12, "readsNumber", "(I)Z"⟩
abbrev cX12_says : ByteArray := prog_14_method_24_code
def yX12_says : MethodName := ⟨RX12, "says", "(II)V"⟩
abbrev cX12_opens : ByteArray := prog_14_method_25_code
def yX12_opens : MethodName := ⟨RX12, "opens", "(I)Z"⟩
abbrev cX12_top : ByteArray := prog_14_method_26_code
def yX12_top : MethodName := ⟨RX12, "top", "()I"⟩
abbrev cX12_factOf : ByteArray := prog_14_method_27_code
def yX12_factOf : MethodName := ⟨RX12, "factOf", "(I)I"⟩
abbrev cX12_sumSign : ByteArray := prog_14_method_28_code
def yX12_sumSign : MethodName := ⟨RX12, "sumSign", "(I)I"⟩
abbrev cX12_closesSums : ByteArray := prog_14_method_29_code
def yX12_closesSums : MethodName := ⟨RX12, "closesSums", "(Z)V"⟩
abbrev cX12_readsFactor : ByteArray := prog_14_method_30_code
def yX12_readsFactor : MethodName := ⟨RX12, "readsFactor", "()Z"⟩
abbrev cX12_hasOpenSum : ByteArray := prog_14_method_31_code
def yX12_hasOpenSum : MethodName := ⟨RX12, "hasOpenSum", "(I)Z"⟩
abbrev cX12_readsSum : ByteArray := prog_14_method_32_code
def yX12_readsSum : MethodName := ⟨RX12, "readsSum", "()Z"⟩
abbrev cX12_endsPiece : ByteArray := prog_14_method_33_code
def yX12_endsPiece : MethodName := ⟨RX12, "endsPiece", "()V"⟩
abbrev cX12_lands : ByteArray := prog_14_method_34_code
def yX12_lands : MethodName := ⟨RX12, "lands", "(Z)V"⟩
abbrev cX12_jumps : ByteArray := prog_14_method_35_code
def yX12_jumps : MethodName := ⟨RX12, "jumps", "(I)V"⟩
abbrev cX12_readsCompared : ByteArray := prog_14_method_36_code
def yX12_readsCompared : MethodName := ⟨RX12, "readsCompared", "()Z"⟩
abbrev cX12_readsCondition : ByteArray := prog_14_method_37_code
def yX12_readsCondition : MethodName := ⟨RX12, "readsCondition", "()Z"⟩
abbrev cX12_isLetter : ByteArray := prog_14_method_38_code
def yX12_isLetter : MethodName := ⟨RX12, "isLetter", "(I)Z"⟩
abbrev cX12_mostOf : ByteArray := prog_14_method_39_code
def yX12_mostOf : MethodName := ⟨RX12, "mostOf", "(I)I"⟩
abbrev cX12_readsClause : ByteArray := prog_14_method_40_code
def yX12_readsClause : MethodName := ⟨RX12, "readsClause", "()Z"⟩
abbrev cX12_law : ByteArray := prog_14_method_41_code
def yX12_law : MethodName := ⟨RX12, "law", "(IIII)I"⟩
abbrev cX12_isLaw : ByteArray := prog_14_method_42_code
def yX12_isLaw : MethodName := ⟨RX12, "isLaw", "(III)Z"⟩
abbrev cX12_strikes : ByteArray := prog_14_method_43_code
def yX12_strikes : MethodName := ⟨RX12, "strikes", "(II)V"⟩
abbrev cX12_setsFacts : ByteArray := prog_14_method_44_code
def yX12_setsFacts : MethodName := ⟨RX12, "setsFacts", "(III)V"⟩
abbrev cX12_reckon : ByteArray := prog_14_method_45_code
def yX12_reckon : MethodName := ⟨RX12, "reckon", "(III)I"⟩
abbrev cX12_isTrue : ByteArray := prog_14_method_46_code
def yX12_isTrue : MethodName := ⟨RX12, "isTrue", "(I)Z"⟩
abbrev cX12_numberBy : ByteArray := prog_14_method_47_code
def yX12_numberBy : MethodName := ⟨RX12, "numberBy", "(IIIII)I"⟩
abbrev cX12_bitsBy : ByteArray := prog_14_method_48_code
def yX12_bitsBy : MethodName := ⟨RX12, "bitsBy", "(IIIII)I"⟩
abbrev cX12_orNothing : ByteArray := prog_14_method_49_code
def yX12_orNothing : MethodName := ⟨RX12, "orNothing", "(IIIII)I"⟩
abbrev cX12_isAsked : ByteArray := prog_14_method_50_code
def yX12_isAsked : MethodName := ⟨RX12, "isAsked", "(IIII)Z"⟩
abbrev cX12_number : ByteArray := prog_14_method_51_code
def yX12_number : MethodName := ⟨RX12, "number", "(IIIII)I"⟩
abbrev cX12_termOf : ByteArray := prog_14_method_52_code
def yX12_termOf : MethodName := ⟨RX12, "termOf", "(IIIIZ)I"⟩
abbrev cX12_term : ByteArray := prog_14_method_53_code
def yX12_term : MethodName := ⟨RX12, "term", "(IIIII)I"⟩
abbrev cX12_freeOf : ByteArray := prog_14_method_54_code
def yX12_freeOf : MethodName := ⟨RX12, "freeOf", "(IIII)I"⟩
abbrev cX12_free : ByteArray := prog_14_method_55_code
def yX12_free : MethodName := ⟨RX12, "free", "(IIII)I"⟩
abbrev cX12_isSource : ByteArray := prog_14_method_56_code
def yX12_isSource : MethodName := ⟨RX12, "isSource", "(I)Z"⟩
abbrev cX12_source : ByteArray := prog_14_method_57_code
def yX12_source : MethodName := ⟨RX12, "source", "(II)Z"⟩
abbrev cX12_chance : ByteArray := prog_14_method_58_code
def yX12_chance : MethodName := ⟨RX12, "chance", "(III)Z"⟩
abbrev cX12_hasShare : ByteArray := prog_14_method_59_code
def yX12_hasShare : MethodName := ⟨RX12, "hasShare", "(II)Z"⟩
abbrev cX12_look : ByteArray := prog_14_method_60_code
def yX12_look : MethodName := ⟨RX12, "look", "(IIII)I"⟩
abbrev cX12_letter : ByteArray := prog_14_method_61_code
def yX12_letter : MethodName := ⟨RX12, "letter", "(II)I"⟩
abbrev cX12_answer : ByteArray := prog_14_method_62_code
def yX12_answer : MethodName := ⟨RX12, "answer", "(I)Z"⟩
abbrev cX12_isBy : ByteArray := prog_14_method_63_code
def yX12_isBy : MethodName := ⟨RX12, "isBy", "(III)Z"⟩
abbrev cX12_isFound : ByteArray := prog_14_method_64_code
def yX12_isFound : MethodName := ⟨RX12, "isFound", "(III)Z"⟩
abbrev cX12_found : ByteArray := prog_14_method_65_code
def yX12_found : MethodName := ⟨RX12, "found", "(III)I"⟩
abbrev cX12_isLooked : ByteArray := prog_14_method_66_code
def yX12_isLooked : MethodName := ⟨RX12, "isLooked", "(IIIII)Z"⟩
abbrev cX12_isWritten : ByteArray := prog_14_method_67_code
def yX12_isWritten : MethodName := ⟨RX12, "isWritten", "(IIII)Z"⟩
abbrev cX12_lacksOf : ByteArray := prog_14_method_68_code
def yX12_lacksOf : MethodName := ⟨RX12, "lacksOf", "(IIII)Z"⟩
abbrev cX12_isEnough : ByteArray := prog_14_method_69_code
def yX12_isEnough : MethodName := ⟨RX12, "isEnough", "(IIII)Z"⟩
abbrev cX12_enough : ByteArray := prog_14_method_70_code
def yX12_enough : MethodName := ⟨RX12, "enough", "(IIII)I"⟩
abbrev cX12_why : ByteArray := prog_14_method_71_code
def yX12_why : MethodName := ⟨RX12, "why", "(IIIII)I"⟩
abbrev cX12_nobody : ByteArray := prog_14_method_72_code
def yX12_nobody : MethodName := ⟨RX12, "nobody", "(III)I"⟩
abbrev cX12_hasAgreed : ByteArray := prog_14_method_73_code
def yX12_hasAgreed : MethodName := ⟨RX12, "hasAgreed", "(III)Z"⟩
abbrev cX12_agree : ByteArray := prog_14_method_74_code
def yX12_agree : MethodName := ⟨RX12, "agree", "(II)Z"⟩
abbrev cX12_allAgreed : ByteArray := prog_14_method_75_code
def yX12_allAgreed : MethodName := ⟨RX12, "allAgreed", "(I)Z"⟩
abbrev cX12_ask : ByteArray := prog_14_method_76_code
def yX12_ask : MethodName := ⟨RX12, "ask", "(IIII)I"⟩
abbrev cX12_isLeave : ByteArray := prog_14_method_77_code
def yX12_isLeave : MethodName := ⟨RX12, "isLeave", "(I)Z"⟩
abbrev cX12_uses : ByteArray := prog_14_method_78_code
def yX12_uses : MethodName := ⟨RX12, "uses", "(IIII)Z"⟩
abbrev cX12_partsHeld : ByteArray := prog_14_method_79_code
def yX12_partsHeld : MethodName := ⟨RX12, "partsHeld", "(II)I"⟩
abbrev cX12_comes : ByteArray := prog_14_method_80_code
def yX12_comes : MethodName := ⟨RX12, "comes", "(I)I"⟩
abbrev cX12_paid : ByteArray := prog_14_method_81_code
def yX12_paid : MethodName := ⟨RX12, "paid", "(II)J"⟩
abbrev cX12_setsRow : ByteArray := prog_14_method_82_code
def yX12_setsRow : MethodName := ⟨RX12, "setsRow", "(II)V"⟩
abbrev cX12_expected : ByteArray := prog_14_method_83_code
def yX12_expected : MethodName := ⟨RX12, "expected", "(I)J"⟩
abbrev cX12_swaps : ByteArray := prog_14_method_84_code
def yX12_swaps : MethodName := ⟨RX12, "swaps", "(II)V"⟩
abbrev cX12_nextRow : ByteArray := prog_14_method_85_code
def yX12_nextRow : MethodName := ⟨RX12, "nextRow", "()Z"⟩
abbrev cX12_cheapest : ByteArray := prog_14_method_86_code
def yX12_cheapest : MethodName := ⟨RX12, "cheapest", "(III)J"⟩
abbrev cX12_judge : ByteArray := prog_14_method_87_code
def yX12_judge : MethodName := ⟨RX12, "judge", "(III)J"⟩
abbrev cX12_isLike : ByteArray := prog_14_method_88_code
def yX12_isLike : MethodName := ⟨RX12, "isLike", "(III)Z"⟩
abbrev cX12_like : ByteArray := prog_14_method_89_code
def yX12_like : MethodName := ⟨RX12, "like", "(III)I"⟩
abbrev cX12_list : ByteArray := prog_14_method_90_code
def yX12_list : MethodName := ⟨RX12, "list", "(II)Z"⟩
abbrev cX12_joined : ByteArray := prog_14_method_91_code
def yX12_joined : MethodName := ⟨RX12, "joined", "(IIIII)I"⟩
abbrev cX12_leaveAt : ByteArray := prog_14_method_92_code
def yX12_leaveAt : MethodName := ⟨RX12, "leaveAt", "(I)I"⟩
abbrev cX12_isWrong : ByteArray := prog_14_method_93_code
def yX12_isWrong : MethodName := ⟨RX12, "isWrong", "(I)Z"⟩
abbrev cX12_audit : ByteArray := prog_14_method_94_code
def yX12_audit : MethodName := ⟨RX12, "audit", "(III)I"⟩
abbrev cX12_shown : ByteArray := prog_14_method_95_code
def yX12_shown : MethodName := ⟨RX12, "shown", "(I)I"⟩
abbrev cX12_leave : ByteArray := prog_14_method_96_code
def yX12_leave : MethodName := ⟨RX12, "leave", "(II)I"⟩
abbrev cX12_listedBy : ByteArray := prog_14_method_97_code
def yX12_listedBy : MethodName := ⟨RX12, "listedBy", "(I)I"⟩
abbrev cX12_count : ByteArray := prog_14_method_98_code
def yX12_count : MethodName := ⟨RX12, "count", "(I)I"⟩
def RJ6 : String := "java/lang/Integer"
def TJ6 : u_T := fun k => match k with
  | _ => ("", "", "", false)
def tyJ6 : Nat → FieldType := fun k => match k with
  | _ => .int
abbrev wsJ60 : List Cond := u_ws RJ6 TJ6 0
theorem nmJ6 : ∀ a, a < 0 → ∀ b, b < 0 → a ≠ b → (TJ6 a).2.1 ≠ (TJ6 b).2.1 := by decide +kernel
theorem tyJ6_ok : ∀ k, k < 0 → parseFieldDescriptor (TJ6 k).2.2.1 = some (tyJ6 k) := by decide +kernel
abbrev cJ6_bitCount_0f7a4 : ByteArray := prog_15_method_49_code
def yJ6_bitCount_0f7a4 : MethodName := ⟨RJ6, "bitCount", "(I)I"⟩
def RJ9 : String := "java/lang/Math"
def TJ9 : u_T := fun k => match k with
  | _ => ("", "", "", false)
def tyJ9 : Nat → FieldType := fun k => match k with
  | _ => .int
abbrev wsJ90 : List Cond := u_ws RJ9 TJ9 0
theorem nmJ9 : ∀ a, a < 0 → ∀ b, b < 0 → a ≠ b → (TJ9 a).2.1 ≠ (TJ9 b).2.1 := by decide +kernel
theorem tyJ9_ok : ∀ k, k < 0 → parseFieldDescriptor (TJ9 k).2.2.1 = some (tyJ9 k) := by decide +kernel
abbrev cJ9_max_7cf53 : ByteArray := prog_16_method_65_code
def yJ9_max_7cf53 : MethodName := ⟨RJ9, "max", "(II)I"⟩
abbrev cJ9_min_7cf53 : ByteArray := prog_16_method_69_code
def yJ9_min_7cf53 : MethodName := ⟨RJ9, "min", "(II)I"⟩
abbrev cJ9_min_f86c9 : ByteArray := prog_16_method_70_code
def yJ9_min_f86c9 : MethodName := ⟨RJ9, "min", "(JJ)J"⟩
def RJ7 : String := "java/util/Arrays"
def TJ7 : u_T := fun k => match k with
  | _ => ("", "", "", false)
def tyJ7 : Nat → FieldType := fun k => match k with
  | _ => .int
abbrev wsJ70 : List Cond := u_ws RJ7 TJ7 0
theorem nmJ7 : ∀ a, a < 0 → ∀ b, b < 0 → a ≠ b → (TJ7 a).2.1 ≠ (TJ7 b).2.1 := by decide +kernel
theorem tyJ7_ok : ∀ k, k < 0 → parseFieldDescriptor (TJ7 k).2.2.1 = some (tyJ7 k) := by decide +kernel
abbrev cJ7_fill_53178 : ByteArray := prog_17_method_103_code
def yJ7_fill_53178 : MethodName := ⟨RJ7, "fill", "([II)V"⟩
def RL : String := "OrphanShelfLaw"
abbrev cL_law : ByteArray := code
def yL_law : MethodName := ⟨RL, "law", "([I)Z"⟩
