-- ===== PART A: goes FIRST, ahead of the names: the tables' words, and 'selects' of the private methods out of them =====
/-- a private method of a class that the tables say can be made, by its rows of tables_1 -/
def lw_okq (q : MethodName × Nat) : Prop := (q.1.cls ≠ "java/lang/invoke/MethodHandle" ∧ q.1.cls ≠ "java/lang/invoke/VarHandle") ∧ Cond.instantiable q.1.cls q.2 ∈ tables_1 ∧ Cond.privateMethod q.1 ∈ tables_1 ∧ Cond.instanceMethod q.1 ∈ tables_1
theorem lw_p0 : lw_okq (⟨"TaleBench", "putScene", "(II)I"⟩, 16) := ⟨⟨by decide +kernel, by decide +kernel⟩, List.mem_of_getElem? (i := 12) (by decide +kernel), List.mem_of_getElem? (i := 238) (by decide +kernel), List.mem_of_getElem? (i := 239) (by decide +kernel)⟩
theorem lw_p1 : lw_okq (⟨"TaleBench$Tape", "readEither", "(I)J"⟩, 6) := ⟨⟨by decide +kernel, by decide +kernel⟩, List.mem_of_getElem? (i := 20) (by decide +kernel), List.mem_of_getElem? (i := 247) (by decide +kernel), List.mem_of_getElem? (i := 248) (by decide +kernel)⟩
theorem lw_p2 : lw_okq (⟨"TaleBench$Tape", "readBoth", "(I)J"⟩, 6) := ⟨⟨by decide +kernel, by decide +kernel⟩, List.mem_of_getElem? (i := 20) (by decide +kernel), List.mem_of_getElem? (i := 251) (by decide +kernel), List.mem_of_getElem? (i := 252) (by decide +kernel)⟩
theorem lw_p3 : lw_okq (⟨"TaleBench$Tape", "readOne", "(I)J"⟩, 6) := ⟨⟨by decide +kernel, by decide +kernel⟩, List.mem_of_getElem? (i := 20) (by decide +kernel), List.mem_of_getElem? (i := 255) (by decide +kernel), List.mem_of_getElem? (i := 256) (by decide +kernel)⟩
theorem lw_p4 : lw_okq (⟨"TaleBench$Tape", "sign", "()I"⟩, 6) := ⟨⟨by decide +kernel, by decide +kernel⟩, List.mem_of_getElem? (i := 20) (by decide +kernel), List.mem_of_getElem? (i := 259) (by decide +kernel), List.mem_of_getElem? (i := 260) (by decide +kernel)⟩
theorem lw_p5 : lw_okq (⟨"TaleBench$Tape", "factBits", "(I)J"⟩, 6) := ⟨⟨by decide +kernel, by decide +kernel⟩, List.mem_of_getElem? (i := 20) (by decide +kernel), List.mem_of_getElem? (i := 263) (by decide +kernel), List.mem_of_getElem? (i := 264) (by decide +kernel)⟩
theorem lw_p6 : lw_okq (⟨"TaleBench$Tape", "readClosed", "(I)J"⟩, 6) := ⟨⟨by decide +kernel, by decide +kernel⟩, List.mem_of_getElem? (i := 20) (by decide +kernel), List.mem_of_getElem? (i := 269) (by decide +kernel), List.mem_of_getElem? (i := 270) (by decide +kernel)⟩
theorem lw_p7 : lw_okq (⟨"TaleBench$Item", "readsFact", "(I)Z"⟩, 7) := ⟨⟨by decide +kernel, by decide +kernel⟩, List.mem_of_getElem? (i := 56) (by decide +kernel), List.mem_of_getElem? (i := 282) (by decide +kernel), List.mem_of_getElem? (i := 283) (by decide +kernel)⟩
theorem lw_p8 : lw_okq (⟨"TaleBench", "hostFinding", "(I)I"⟩, 16) := ⟨⟨by decide +kernel, by decide +kernel⟩, List.mem_of_getElem? (i := 12) (by decide +kernel), List.mem_of_getElem? (i := 307) (by decide +kernel), List.mem_of_getElem? (i := 308) (by decide +kernel)⟩
theorem lw_p9 : lw_okq (⟨"TaleBench", "putChoice", "(III)I"⟩, 16) := ⟨⟨by decide +kernel, by decide +kernel⟩, List.mem_of_getElem? (i := 12) (by decide +kernel), List.mem_of_getElem? (i := 318) (by decide +kernel), List.mem_of_getElem? (i := 319) (by decide +kernel)⟩
theorem lw_p10 : lw_okq (⟨"TaleBench", "isCut", "(I)Z"⟩, 16) := ⟨⟨by decide +kernel, by decide +kernel⟩, List.mem_of_getElem? (i := 12) (by decide +kernel), List.mem_of_getElem? (i := 350) (by decide +kernel), List.mem_of_getElem? (i := 351) (by decide +kernel)⟩
theorem lw_p11 : lw_okq (⟨"TaleBench", "freshenWeb", "()V"⟩, 16) := ⟨⟨by decide +kernel, by decide +kernel⟩, List.mem_of_getElem? (i := 12) (by decide +kernel), List.mem_of_getElem? (i := 377) (by decide +kernel), List.mem_of_getElem? (i := 378) (by decide +kernel)⟩
theorem lw_p12 : lw_okq (⟨"TaleBench", "weaveFromBeginning", "(I)V"⟩, 16) := ⟨⟨by decide +kernel, by decide +kernel⟩, List.mem_of_getElem? (i := 12) (by decide +kernel), List.mem_of_getElem? (i := 381) (by decide +kernel), List.mem_of_getElem? (i := 382) (by decide +kernel)⟩
theorem lw_p13 : lw_okq (⟨"TaleBench$Web", "markStatesAhead", "(III)I"⟩, 12) := ⟨⟨by decide +kernel, by decide +kernel⟩, List.mem_of_getElem? (i := 104) (by decide +kernel), List.mem_of_getElem? (i := 437) (by decide +kernel), List.mem_of_getElem? (i := 438) (by decide +kernel)⟩
theorem lw_p14 : lw_okq (⟨"TaleBench", "countEndings", "()I"⟩, 16) := ⟨⟨by decide +kernel, by decide +kernel⟩, List.mem_of_getElem? (i := 12) (by decide +kernel), List.mem_of_getElem? (i := 441) (by decide +kernel), List.mem_of_getElem? (i := 442) (by decide +kernel)⟩
theorem lw_p15 : lw_okq (⟨"TaleBench", "countStuck", "()I"⟩, 16) := ⟨⟨by decide +kernel, by decide +kernel⟩, List.mem_of_getElem? (i := 12) (by decide +kernel), List.mem_of_getElem? (i := 445) (by decide +kernel), List.mem_of_getElem? (i := 446) (by decide +kernel)⟩
def lw_privs_1 : List (MethodName × Nat) := [(⟨"TaleBench", "putScene", "(II)I"⟩, 16), (⟨"TaleBench$Tape", "readEither", "(I)J"⟩, 6), (⟨"TaleBench$Tape", "readBoth", "(I)J"⟩, 6), (⟨"TaleBench$Tape", "readOne", "(I)J"⟩, 6), (⟨"TaleBench$Tape", "sign", "()I"⟩, 6), (⟨"TaleBench$Tape", "factBits", "(I)J"⟩, 6), (⟨"TaleBench$Tape", "readClosed", "(I)J"⟩, 6), (⟨"TaleBench$Item", "readsFact", "(I)Z"⟩, 7), (⟨"TaleBench", "hostFinding", "(I)I"⟩, 16), (⟨"TaleBench", "putChoice", "(III)I"⟩, 16), (⟨"TaleBench", "isCut", "(I)Z"⟩, 16), (⟨"TaleBench", "freshenWeb", "()V"⟩, 16), (⟨"TaleBench", "weaveFromBeginning", "(I)V"⟩, 16), (⟨"TaleBench$Web", "markStatesAhead", "(III)I"⟩, 12), (⟨"TaleBench", "countEndings", "()I"⟩, 16), (⟨"TaleBench", "countStuck", "()I"⟩, 16)]
theorem lw_r1 : ∀ q ∈ lw_privs_1, lw_okq q := List.forall_mem_cons.mpr ⟨lw_p0, List.forall_mem_cons.mpr ⟨lw_p1, List.forall_mem_cons.mpr ⟨lw_p2, List.forall_mem_cons.mpr ⟨lw_p3, List.forall_mem_cons.mpr ⟨lw_p4, List.forall_mem_cons.mpr ⟨lw_p5, List.forall_mem_cons.mpr ⟨lw_p6, List.forall_mem_cons.mpr ⟨lw_p7, List.forall_mem_cons.mpr ⟨lw_p8, List.forall_mem_cons.mpr ⟨lw_p9, List.forall_mem_cons.mpr ⟨lw_p10, List.forall_mem_cons.mpr ⟨lw_p11, List.forall_mem_cons.mpr ⟨lw_p12, List.forall_mem_cons.mpr ⟨lw_p13, List.forall_mem_cons.mpr ⟨lw_p14, List.forall_mem_cons.mpr ⟨lw_p15, fun _ h => absurd h List.not_mem_nil⟩⟩⟩⟩⟩⟩⟩⟩⟩⟩⟩⟩⟩⟩⟩⟩
theorem lw_p16 : lw_okq (⟨"TaleBench", "countHopeless", "()I"⟩, 16) := ⟨⟨by decide +kernel, by decide +kernel⟩, List.mem_of_getElem? (i := 12) (by decide +kernel), List.mem_of_getElem? (i := 453) (by decide +kernel), List.mem_of_getElem? (i := 454) (by decide +kernel)⟩
theorem lw_p17 : lw_okq (⟨"TaleBench", "isHopeless", "(I)Z"⟩, 16) := ⟨⟨by decide +kernel, by decide +kernel⟩, List.mem_of_getElem? (i := 12) (by decide +kernel), List.mem_of_getElem? (i := 457) (by decide +kernel), List.mem_of_getElem? (i := 458) (by decide +kernel)⟩
theorem lw_p18 : lw_okq (⟨"TaleBench$Tale", "liveAt", "(I[I)I"⟩, 1) := ⟨⟨by decide +kernel, by decide +kernel⟩, List.mem_of_getElem? (i := 49) (by decide +kernel), List.mem_of_getElem? (i := 465) (by decide +kernel), List.mem_of_getElem? (i := 466) (by decide +kernel)⟩
theorem lw_p19 : lw_okq (⟨"TaleBench", "findTraps", "()V"⟩, 16) := ⟨⟨by decide +kernel, by decide +kernel⟩, List.mem_of_getElem? (i := 12) (by decide +kernel), List.mem_of_getElem? (i := 496) (by decide +kernel), List.mem_of_getElem? (i := 497) (by decide +kernel)⟩
theorem lw_p20 : lw_okq (⟨"TaleBench", "trapsOf", "(I)I"⟩, 16) := ⟨⟨by decide +kernel, by decide +kernel⟩, List.mem_of_getElem? (i := 12) (by decide +kernel), List.mem_of_getElem? (i := 500) (by decide +kernel), List.mem_of_getElem? (i := 501) (by decide +kernel)⟩
theorem lw_p21 : lw_okq (⟨"TaleBench$Web", "passRowsOn", "(I)V"⟩, 12) := ⟨⟨by decide +kernel, by decide +kernel⟩, List.mem_of_getElem? (i := 104) (by decide +kernel), List.mem_of_getElem? (i := 529) (by decide +kernel), List.mem_of_getElem? (i := 530) (by decide +kernel)⟩
theorem lw_p22 : lw_okq (⟨"TaleBench", "weaveFromEachMending", "()V"⟩, 16) := ⟨⟨by decide +kernel, by decide +kernel⟩, List.mem_of_getElem? (i := 12) (by decide +kernel), List.mem_of_getElem? (i := 545) (by decide +kernel), List.mem_of_getElem? (i := 546) (by decide +kernel)⟩
theorem lw_p23 : lw_okq (⟨"TaleBench", "leastMending", "(I)I"⟩, 16) := ⟨⟨by decide +kernel, by decide +kernel⟩, List.mem_of_getElem? (i := 12) (by decide +kernel), List.mem_of_getElem? (i := 549) (by decide +kernel), List.mem_of_getElem? (i := 550) (by decide +kernel)⟩
theorem lw_p24 : lw_okq (⟨"TaleBench", "takeWords", "(ILTaleBench$Sheet;I)I"⟩, 16) := ⟨⟨by decide +kernel, by decide +kernel⟩, List.mem_of_getElem? (i := 12) (by decide +kernel), List.mem_of_getElem? (i := 593) (by decide +kernel), List.mem_of_getElem? (i := 594) (by decide +kernel)⟩
theorem lw_p25 : lw_okq (⟨"TaleBench", "clashingItem", "(I)I"⟩, 16) := ⟨⟨by decide +kernel, by decide +kernel⟩, List.mem_of_getElem? (i := 12) (by decide +kernel), List.mem_of_getElem? (i := 641) (by decide +kernel), List.mem_of_getElem? (i := 642) (by decide +kernel)⟩
theorem lw_p26 : lw_okq (⟨"TaleBenchModel", "readNeed", "()I"⟩, 30) := ⟨⟨by decide +kernel, by decide +kernel⟩, List.mem_of_getElem? (i := 676) (by decide +kernel), List.mem_of_getElem? (i := 790) (by decide +kernel), List.mem_of_getElem? (i := 791) (by decide +kernel)⟩
theorem lw_p27 : lw_okq (⟨"TaleBenchModel", "read", "(I)Z"⟩, 30) := ⟨⟨by decide +kernel, by decide +kernel⟩, List.mem_of_getElem? (i := 676) (by decide +kernel), List.mem_of_getElem? (i := 794) (by decide +kernel), List.mem_of_getElem? (i := 795) (by decide +kernel)⟩
theorem lw_p28 : lw_okq (⟨"TaleBenchModel", "either", "()Z"⟩, 30) := ⟨⟨by decide +kernel, by decide +kernel⟩, List.mem_of_getElem? (i := 676) (by decide +kernel), List.mem_of_getElem? (i := 798) (by decide +kernel), List.mem_of_getElem? (i := 799) (by decide +kernel)⟩
theorem lw_p29 : lw_okq (⟨"TaleBenchModel", "both", "()Z"⟩, 30) := ⟨⟨by decide +kernel, by decide +kernel⟩, List.mem_of_getElem? (i := 676) (by decide +kernel), List.mem_of_getElem? (i := 802) (by decide +kernel), List.mem_of_getElem? (i := 803) (by decide +kernel)⟩
theorem lw_p30 : lw_okq (⟨"TaleBenchModel", "one", "()Z"⟩, 30) := ⟨⟨by decide +kernel, by decide +kernel⟩, List.mem_of_getElem? (i := 676) (by decide +kernel), List.mem_of_getElem? (i := 806) (by decide +kernel), List.mem_of_getElem? (i := 807) (by decide +kernel)⟩
theorem lw_p31 : lw_okq (⟨"TaleBenchModel", "here", "()I"⟩, 30) := ⟨⟨by decide +kernel, by decide +kernel⟩, List.mem_of_getElem? (i := 676) (by decide +kernel), List.mem_of_getElem? (i := 810) (by decide +kernel), List.mem_of_getElem? (i := 811) (by decide +kernel)⟩
def lw_privs_2 : List (MethodName × Nat) := [(⟨"TaleBench", "countHopeless", "()I"⟩, 16), (⟨"TaleBench", "isHopeless", "(I)Z"⟩, 16), (⟨"TaleBench$Tale", "liveAt", "(I[I)I"⟩, 1), (⟨"TaleBench", "findTraps", "()V"⟩, 16), (⟨"TaleBench", "trapsOf", "(I)I"⟩, 16), (⟨"TaleBench$Web", "passRowsOn", "(I)V"⟩, 12), (⟨"TaleBench", "weaveFromEachMending", "()V"⟩, 16), (⟨"TaleBench", "leastMending", "(I)I"⟩, 16), (⟨"TaleBench", "takeWords", "(ILTaleBench$Sheet;I)I"⟩, 16), (⟨"TaleBench", "clashingItem", "(I)I"⟩, 16), (⟨"TaleBenchModel", "readNeed", "()I"⟩, 30), (⟨"TaleBenchModel", "read", "(I)Z"⟩, 30), (⟨"TaleBenchModel", "either", "()Z"⟩, 30), (⟨"TaleBenchModel", "both", "()Z"⟩, 30), (⟨"TaleBenchModel", "one", "()Z"⟩, 30), (⟨"TaleBenchModel", "here", "()I"⟩, 30)]
theorem lw_r2 : ∀ q ∈ lw_privs_2, lw_okq q := List.forall_mem_cons.mpr ⟨lw_p16, List.forall_mem_cons.mpr ⟨lw_p17, List.forall_mem_cons.mpr ⟨lw_p18, List.forall_mem_cons.mpr ⟨lw_p19, List.forall_mem_cons.mpr ⟨lw_p20, List.forall_mem_cons.mpr ⟨lw_p21, List.forall_mem_cons.mpr ⟨lw_p22, List.forall_mem_cons.mpr ⟨lw_p23, List.forall_mem_cons.mpr ⟨lw_p24, List.forall_mem_cons.mpr ⟨lw_p25, List.forall_mem_cons.mpr ⟨lw_p26, List.forall_mem_cons.mpr ⟨lw_p27, List.forall_mem_cons.mpr ⟨lw_p28, List.forall_mem_cons.mpr ⟨lw_p29, List.forall_mem_cons.mpr ⟨lw_p30, List.forall_mem_cons.mpr ⟨lw_p31, fun _ h => absurd h List.not_mem_nil⟩⟩⟩⟩⟩⟩⟩⟩⟩⟩⟩⟩⟩⟩⟩⟩
theorem lw_p32 : lw_okq (⟨"TaleBenchModel", "kindOf", "(I)I"⟩, 30) := ⟨⟨by decide +kernel, by decide +kernel⟩, List.mem_of_getElem? (i := 676) (by decide +kernel), List.mem_of_getElem? (i := 814) (by decide +kernel), List.mem_of_getElem? (i := 815) (by decide +kernel)⟩
theorem lw_p33 : lw_okq (⟨"TaleBenchModel", "clearChoices", "(I)V"⟩, 30) := ⟨⟨by decide +kernel, by decide +kernel⟩, List.mem_of_getElem? (i := 676) (by decide +kernel), List.mem_of_getElem? (i := 818) (by decide +kernel), List.mem_of_getElem? (i := 819) (by decide +kernel)⟩
theorem lw_p34 : lw_okq (⟨"TaleBenchModel", "clearChoice", "(II)V"⟩, 30) := ⟨⟨by decide +kernel, by decide +kernel⟩, List.mem_of_getElem? (i := 676) (by decide +kernel), List.mem_of_getElem? (i := 822) (by decide +kernel), List.mem_of_getElem? (i := 823) (by decide +kernel)⟩
theorem lw_p35 : lw_okq (⟨"TaleBenchModel", "isThere", "(I)Z"⟩, 30) := ⟨⟨by decide +kernel, by decide +kernel⟩, List.mem_of_getElem? (i := 676) (by decide +kernel), List.mem_of_getElem? (i := 836) (by decide +kernel), List.mem_of_getElem? (i := 837) (by decide +kernel)⟩
theorem lw_p36 : lw_okq (⟨"TaleBenchModel", "meet", "(I)I"⟩, 30) := ⟨⟨by decide +kernel, by decide +kernel⟩, List.mem_of_getElem? (i := 676) (by decide +kernel), List.mem_of_getElem? (i := 840) (by decide +kernel), List.mem_of_getElem? (i := 841) (by decide +kernel)⟩
theorem lw_p37 : lw_okq (⟨"TaleBenchModel", "hasChoice", "(II)Z"⟩, 30) := ⟨⟨by decide +kernel, by decide +kernel⟩, List.mem_of_getElem? (i := 676) (by decide +kernel), List.mem_of_getElem? (i := 851) (by decide +kernel), List.mem_of_getElem? (i := 852) (by decide +kernel)⟩
theorem lw_p38 : lw_okq (⟨"TaleBenchModel", "lay", "(I)V"⟩, 30) := ⟨⟨by decide +kernel, by decide +kernel⟩, List.mem_of_getElem? (i := 676) (by decide +kernel), List.mem_of_getElem? (i := 855) (by decide +kernel), List.mem_of_getElem? (i := 856) (by decide +kernel)⟩
theorem lw_p39 : lw_okq (⟨"TaleBenchModel", "readBy", "(I)I"⟩, 30) := ⟨⟨by decide +kernel, by decide +kernel⟩, List.mem_of_getElem? (i := 676) (by decide +kernel), List.mem_of_getElem? (i := 879) (by decide +kernel), List.mem_of_getElem? (i := 880) (by decide +kernel)⟩
theorem lw_p40 : lw_okq (⟨"TaleBenchModel", "holds", "(II)Z"⟩, 30) := ⟨⟨by decide +kernel, by decide +kernel⟩, List.mem_of_getElem? (i := 676) (by decide +kernel), List.mem_of_getElem? (i := 883) (by decide +kernel), List.mem_of_getElem? (i := 884) (by decide +kernel)⟩
theorem lw_p41 : lw_okq (⟨"TaleBenchModel", "holdsFor", "(I)I"⟩, 30) := ⟨⟨by decide +kernel, by decide +kernel⟩, List.mem_of_getElem? (i := 676) (by decide +kernel), List.mem_of_getElem? (i := 887) (by decide +kernel), List.mem_of_getElem? (i := 888) (by decide +kernel)⟩
theorem lw_p42 : lw_okq (⟨"TaleBenchModel", "reach", "()V"⟩, 30) := ⟨⟨by decide +kernel, by decide +kernel⟩, List.mem_of_getElem? (i := 676) (by decide +kernel), List.mem_of_getElem? (i := 899) (by decide +kernel), List.mem_of_getElem? (i := 900) (by decide +kernel)⟩
theorem lw_p43 : lw_okq (⟨"TaleBenchModel", "reach", "(IZ)V"⟩, 30) := ⟨⟨by decide +kernel, by decide +kernel⟩, List.mem_of_getElem? (i := 676) (by decide +kernel), List.mem_of_getElem? (i := 903) (by decide +kernel), List.mem_of_getElem? (i := 904) (by decide +kernel)⟩
theorem lw_p44 : lw_okq (⟨"TaleBenchModel", "isShut", "(IZ)Z"⟩, 30) := ⟨⟨by decide +kernel, by decide +kernel⟩, List.mem_of_getElem? (i := 676) (by decide +kernel), List.mem_of_getElem? (i := 907) (by decide +kernel), List.mem_of_getElem? (i := 908) (by decide +kernel)⟩
theorem lw_p45 : lw_okq (⟨"TaleBenchModel", "leads", "(IIZ)I"⟩, 30) := ⟨⟨by decide +kernel, by decide +kernel⟩, List.mem_of_getElem? (i := 676) (by decide +kernel), List.mem_of_getElem? (i := 911) (by decide +kernel), List.mem_of_getElem? (i := 912) (by decide +kernel)⟩
theorem lw_p46 : lw_okq (⟨"TaleBenchModel", "isEnding", "(I)Z"⟩, 30) := ⟨⟨by decide +kernel, by decide +kernel⟩, List.mem_of_getElem? (i := 676) (by decide +kernel), List.mem_of_getElem? (i := 915) (by decide +kernel), List.mem_of_getElem? (i := 916) (by decide +kernel)⟩
theorem lw_p47 : lw_okq (⟨"TaleBenchModel", "tellHope", "()V"⟩, 30) := ⟨⟨by decide +kernel, by decide +kernel⟩, List.mem_of_getElem? (i := 676) (by decide +kernel), List.mem_of_getElem? (i := 919) (by decide +kernel), List.mem_of_getElem? (i := 920) (by decide +kernel)⟩
def lw_privs_3 : List (MethodName × Nat) := [(⟨"TaleBenchModel", "kindOf", "(I)I"⟩, 30), (⟨"TaleBenchModel", "clearChoices", "(I)V"⟩, 30), (⟨"TaleBenchModel", "clearChoice", "(II)V"⟩, 30), (⟨"TaleBenchModel", "isThere", "(I)Z"⟩, 30), (⟨"TaleBenchModel", "meet", "(I)I"⟩, 30), (⟨"TaleBenchModel", "hasChoice", "(II)Z"⟩, 30), (⟨"TaleBenchModel", "lay", "(I)V"⟩, 30), (⟨"TaleBenchModel", "readBy", "(I)I"⟩, 30), (⟨"TaleBenchModel", "holds", "(II)Z"⟩, 30), (⟨"TaleBenchModel", "holdsFor", "(I)I"⟩, 30), (⟨"TaleBenchModel", "reach", "()V"⟩, 30), (⟨"TaleBenchModel", "reach", "(IZ)V"⟩, 30), (⟨"TaleBenchModel", "isShut", "(IZ)Z"⟩, 30), (⟨"TaleBenchModel", "leads", "(IIZ)I"⟩, 30), (⟨"TaleBenchModel", "isEnding", "(I)Z"⟩, 30), (⟨"TaleBenchModel", "tellHope", "()V"⟩, 30)]
theorem lw_r3 : ∀ q ∈ lw_privs_3, lw_okq q := List.forall_mem_cons.mpr ⟨lw_p32, List.forall_mem_cons.mpr ⟨lw_p33, List.forall_mem_cons.mpr ⟨lw_p34, List.forall_mem_cons.mpr ⟨lw_p35, List.forall_mem_cons.mpr ⟨lw_p36, List.forall_mem_cons.mpr ⟨lw_p37, List.forall_mem_cons.mpr ⟨lw_p38, List.forall_mem_cons.mpr ⟨lw_p39, List.forall_mem_cons.mpr ⟨lw_p40, List.forall_mem_cons.mpr ⟨lw_p41, List.forall_mem_cons.mpr ⟨lw_p42, List.forall_mem_cons.mpr ⟨lw_p43, List.forall_mem_cons.mpr ⟨lw_p44, List.forall_mem_cons.mpr ⟨lw_p45, List.forall_mem_cons.mpr ⟨lw_p46, List.forall_mem_cons.mpr ⟨lw_p47, fun _ h => absurd h List.not_mem_nil⟩⟩⟩⟩⟩⟩⟩⟩⟩⟩⟩⟩⟩⟩⟩⟩
theorem lw_p48 : lw_okq (⟨"TaleBenchModel", "tellLives", "()V"⟩, 30) := ⟨⟨by decide +kernel, by decide +kernel⟩, List.mem_of_getElem? (i := 676) (by decide +kernel), List.mem_of_getElem? (i := 923) (by decide +kernel), List.mem_of_getElem? (i := 924) (by decide +kernel)⟩
theorem lw_p49 : lw_okq (⟨"TaleBenchModel", "liveAt", "(I)I"⟩, 30) := ⟨⟨by decide +kernel, by decide +kernel⟩, List.mem_of_getElem? (i := 676) (by decide +kernel), List.mem_of_getElem? (i := 927) (by decide +kernel), List.mem_of_getElem? (i := 928) (by decide +kernel)⟩
theorem lw_p50 : lw_okq (⟨"TaleBenchModel", "isStuck", "(I)Z"⟩, 30) := ⟨⟨by decide +kernel, by decide +kernel⟩, List.mem_of_getElem? (i := 676) (by decide +kernel), List.mem_of_getElem? (i := 931) (by decide +kernel), List.mem_of_getElem? (i := 932) (by decide +kernel)⟩
theorem lw_p51 : lw_okq (⟨"TaleBenchModel", "isTrap", "(II)Z"⟩, 30) := ⟨⟨by decide +kernel, by decide +kernel⟩, List.mem_of_getElem? (i := 676) (by decide +kernel), List.mem_of_getElem? (i := 951) (by decide +kernel), List.mem_of_getElem? (i := 952) (by decide +kernel)⟩
theorem lw_p52 : lw_okq (⟨"TaleBenchModel", "nearest", "(I)I"⟩, 30) := ⟨⟨by decide +kernel, by decide +kernel⟩, List.mem_of_getElem? (i := 676) (by decide +kernel), List.mem_of_getElem? (i := 959) (by decide +kernel), List.mem_of_getElem? (i := 960) (by decide +kernel)⟩
theorem lw_p53 : lw_okq (⟨"TaleBenchModel", "goesOn", "(III)Z"⟩, 30) := ⟨⟨by decide +kernel, by decide +kernel⟩, List.mem_of_getElem? (i := 676) (by decide +kernel), List.mem_of_getElem? (i := 967) (by decide +kernel), List.mem_of_getElem? (i := 968) (by decide +kernel)⟩
theorem lw_p54 : lw_okq (⟨"TaleBenchModel", "reachedScenes", "()I"⟩, 30) := ⟨⟨by decide +kernel, by decide +kernel⟩, List.mem_of_getElem? (i := 676) (by decide +kernel), List.mem_of_getElem? (i := 984) (by decide +kernel), List.mem_of_getElem? (i := 985) (by decide +kernel)⟩
theorem lw_p55 : lw_okq (⟨"TaleBenchModel", "clashes", "(I)Z"⟩, 30) := ⟨⟨by decide +kernel, by decide +kernel⟩, List.mem_of_getElem? (i := 676) (by decide +kernel), List.mem_of_getElem? (i := 1037) (by decide +kernel), List.mem_of_getElem? (i := 1038) (by decide +kernel)⟩
def lw_privs_4 : List (MethodName × Nat) := [(⟨"TaleBenchModel", "tellLives", "()V"⟩, 30), (⟨"TaleBenchModel", "liveAt", "(I)I"⟩, 30), (⟨"TaleBenchModel", "isStuck", "(I)Z"⟩, 30), (⟨"TaleBenchModel", "isTrap", "(II)Z"⟩, 30), (⟨"TaleBenchModel", "nearest", "(I)I"⟩, 30), (⟨"TaleBenchModel", "goesOn", "(III)Z"⟩, 30), (⟨"TaleBenchModel", "reachedScenes", "()I"⟩, 30), (⟨"TaleBenchModel", "clashes", "(I)Z"⟩, 30)]
theorem lw_r4 : ∀ q ∈ lw_privs_4, lw_okq q := List.forall_mem_cons.mpr ⟨lw_p48, List.forall_mem_cons.mpr ⟨lw_p49, List.forall_mem_cons.mpr ⟨lw_p50, List.forall_mem_cons.mpr ⟨lw_p51, List.forall_mem_cons.mpr ⟨lw_p52, List.forall_mem_cons.mpr ⟨lw_p53, List.forall_mem_cons.mpr ⟨lw_p54, List.forall_mem_cons.mpr ⟨lw_p55, fun _ h => absurd h List.not_mem_nil⟩⟩⟩⟩⟩⟩⟩⟩
def lw_privs : List (MethodName × Nat) := lw_privs_1 ++ (lw_privs_2 ++ (lw_privs_3 ++ (lw_privs_4)))
def lw_tbl : List Cond := k2_sels lw_privs ++ tables_1
theorem lw_privs_ok : ∀ q ∈ lw_privs, lw_okq q := by
  show ∀ q ∈ lw_privs_1 ++ (lw_privs_2 ++ (lw_privs_3 ++ (lw_privs_4))), lw_okq q
  exact List.forall_mem_append.mpr ⟨lw_r1, List.forall_mem_append.mpr ⟨lw_r2, List.forall_mem_append.mpr ⟨lw_r3, lw_r4⟩⟩⟩
def RX0 : String := "TaleBench$Item"
def TX0 : u_T := fun k => match k with
  | 0 => ("TaleBench$Item", "main", "I", false)
  | 1 => ("TaleBench$Item", "more", "I", false)
  | 2 => ("TaleBench$Item", "less", "I", false)
  | 3 => ("TaleBench$Item", "wordCount", "I", false)
  | 4 => ("TaleBench$Item", "voice", "I", false)
  | 5 => ("TaleBench$Item", "need", "[J", true)
  | _ => ("TaleBench$Item", "reads", "I", false)
def tyX0 : Nat → FieldType := fun k => match k with
  | 0 => .int
  | 1 => .int
  | 2 => .int
  | 3 => .int
  | 4 => .int
  | 5 => .array .long
  | _ => .int
theorem nmX0 : ∀ a, a < 7 → ∀ b, b < 7 → a ≠ b → (TX0 a).2.1 ≠ (TX0 b).2.1 := by decide +kernel
theorem tyX0_ok : ∀ k, k < 7 → parseFieldDescriptor (TX0 k).2.2.1 = some (tyX0 k) := by decide +kernel
abbrev cX0_init : ByteArray := prog_2_method_1_code
def yX0_init : MethodName := ⟨RX0, "<init>", "(I)V"⟩
abbrev cX0_isThere : ByteArray := prog_2_method_2_code
def yX0_isThere : MethodName := ⟨RX0, "isThere", "()Z"⟩
abbrev cX0_isEnding : ByteArray := prog_2_method_3_code
def yX0_isEnding : MethodName := ⟨RX0, "isEnding", "()Z"⟩
abbrev cX0_become : ByteArray := prog_2_method_4_code
def yX0_become : MethodName := ⟨RX0, "become", "(I)V"⟩
abbrev cX0_copyFrom : ByteArray := prog_2_method_5_code
def yX0_copyFrom : MethodName := ⟨RX0, "copyFrom", "(LTaleBench$Item;)V"⟩
abbrev cX0_sameAs : ByteArray := prog_2_method_6_code
def yX0_sameAs : MethodName := ⟨RX0, "sameAs", "(LTaleBench$Item;)Z"⟩
abbrev cX0_putNeed : ByteArray := prog_2_method_7_code
def yX0_putNeed : MethodName := ⟨RX0, "putNeed", "([J)V"⟩
abbrev cX0_readsFact : ByteArray := prog_2_method_8_code
def yX0_readsFact : MethodName := ⟨RX0, "readsFact", "(I)Z"⟩
abbrev cX0_holdsFor : ByteArray := prog_2_method_9_code
def yX0_holdsFor : MethodName := ⟨RX0, "holdsFor", "(I)Z"⟩
abbrev cX0_countHolding : ByteArray := prog_2_method_10_code
def yX0_countHolding : MethodName := ⟨RX0, "countHolding", "()I"⟩
def RX1 : String := "TaleBench$Sheet"
def TX1 : u_T := fun k => match k with
  | 0 => ("TaleBench$Sheet", "sort", "I", false)
  | 1 => ("TaleBench$Sheet", "size", "I", false)
  | _ => ("TaleBench$Sheet", "numbers", "[I", true)
def tyX1 : Nat → FieldType := fun k => match k with
  | 0 => .int
  | 1 => .int
  | _ => .array .int
theorem nmX1 : ∀ a, a < 3 → ∀ b, b < 3 → a ≠ b → (TX1 a).2.1 ≠ (TX1 b).2.1 := by decide +kernel
theorem tyX1_ok : ∀ k, k < 3 → parseFieldDescriptor (TX1 k).2.2.1 = some (tyX1 k) := by decide +kernel
abbrev cX1_init : ByteArray := prog_3_method_1_code
def yX1_init : MethodName := ⟨RX1, "<init>", "()V"⟩
abbrev cX1_isMissing : ByteArray := prog_3_method_2_code
def yX1_isMissing : MethodName := ⟨RX1, "isMissing", "()Z"⟩
abbrev cX1_hasPlace : ByteArray := prog_3_method_3_code
def yX1_hasPlace : MethodName := ⟨RX1, "hasPlace", "(I)Z"⟩
abbrev cX1_lay : ByteArray := prog_3_method_4_code
def yX1_lay : MethodName := ⟨RX1, "lay", "(II)V"⟩
abbrev cX1_narrowed : ByteArray := prog_3_method_5_code
def yX1_narrowed : MethodName := ⟨RX1, "narrowed", "(I)I"⟩
def RX2 : String := "TaleBench$Tale"
def TX2 : u_T := fun k => match k with
  | _ => ("TaleBench$Tale", "items", "[LTaleBench$Item;", true)
def tyX2 : Nat → FieldType := fun k => match k with
  | _ => .array (.object "TaleBench$Item")
theorem nmX2 : ∀ a, a < 1 → ∀ b, b < 1 → a ≠ b → (TX2 a).2.1 ≠ (TX2 b).2.1 := by decide +kernel
theorem tyX2_ok : ∀ k, k < 1 → parseFieldDescriptor (TX2 k).2.2.1 = some (tyX2 k) := by decide +kernel
abbrev cX2_init : ByteArray := prog_4_method_1_code
def yX2_init : MethodName := ⟨RX2, "<init>", "()V"⟩
abbrev cX2_sceneItem : ByteArray := prog_4_method_2_code
def yX2_sceneItem : MethodName := ⟨RX2, "sceneItem", "(I)LTaleBench$Item;"⟩
abbrev cX2_choiceItem : ByteArray := prog_4_method_3_code
def yX2_choiceItem : MethodName := ⟨RX2, "choiceItem", "(II)LTaleBench$Item;"⟩
abbrev cX2_startItem : ByteArray := prog_4_method_4_code
def yX2_startItem : MethodName := ⟨RX2, "startItem", "()LTaleBench$Item;"⟩
abbrev cX2_copyFrom : ByteArray := prog_4_method_5_code
def yX2_copyFrom : MethodName := ⟨RX2, "copyFrom", "(LTaleBench$Tale;)V"⟩
abbrev cX2_removeChoices : ByteArray := prog_4_method_6_code
def yX2_removeChoices : MethodName := ⟨RX2, "removeChoices", "(I)V"⟩
abbrev cX2_removeLooseChoices : ByteArray := prog_4_method_7_code
def yX2_removeLooseChoices : MethodName := ⟨RX2, "removeLooseChoices", "()V"⟩
abbrev cX2_choiceBits : ByteArray := prog_4_method_8_code
def yX2_choiceBits : MethodName := ⟨RX2, "choiceBits", "(I)I"⟩
abbrev cX2_countScenes : ByteArray := prog_4_method_9_code
def yX2_countScenes : MethodName := ⟨RX2, "countScenes", "()I"⟩
abbrev cX2_countChoices : ByteArray := prog_4_method_10_code
def yX2_countChoices : MethodName := ⟨RX2, "countChoices", "()I"⟩
abbrev cX2_hasBeginning : ByteArray := prog_4_method_11_code
def yX2_hasBeginning : MethodName := ⟨RX2, "hasBeginning", "(I)Z"⟩
abbrev cX2_beginningWith : ByteArray := prog_4_method_12_code
def yX2_beginningWith : MethodName := ⟨RX2, "beginningWith", "(I)I"⟩
abbrev cX2_isEndingState : ByteArray := prog_4_method_13_code
def yX2_isEndingState : MethodName := ⟨RX2, "isEndingState", "(I)Z"⟩
abbrev cX2_leadsTo : ByteArray := prog_4_method_14_code
def yX2_leadsTo : MethodName := ⟨RX2, "leadsTo", "(III)I"⟩
abbrev cX2_findLive : ByteArray := prog_4_method_15_code
def yX2_findLive : MethodName := ⟨RX2, "findLive", "([I)V"⟩
abbrev cX2_liveAt : ByteArray := prog_4_method_16_code
def yX2_liveAt : MethodName := ⟨RX2, "liveAt", "(I[I)I"⟩
def RX3 : String := "TaleBench$Tape"
def TX3 : u_T := fun k => match k with
  | 0 => ("TaleBench$Tape", "signs", "[B", true)
  | 1 => ("TaleBench$Tape", "length", "I", false)
  | 2 => ("TaleBench$Tape", "need", "[J", true)
  | 3 => ("TaleBench$Tape", "place", "I", false)
  | 4 => ("TaleBench$Tape", "wrong", "I", false)
  | _ => ("TaleBench$Tape", "part", "I", false)
def tyX3 : Nat → FieldType := fun k => match k with
  | 0 => .array .byte
  | 1 => .int
  | 2 => .array .long
  | 3 => .int
  | 4 => .int
  | _ => .int
theorem nmX3 : ∀ a, a < 6 → ∀ b, b < 6 → a ≠ b → (TX3 a).2.1 ≠ (TX3 b).2.1 := by decide +kernel
theorem tyX3_ok : ∀ k, k < 6 → parseFieldDescriptor (TX3 k).2.2.1 = some (tyX3 k) := by decide +kernel
abbrev cX3_init : ByteArray := prog_5_method_1_code
def yX3_init : MethodName := ⟨RX3, "<init>", "()V"⟩
abbrev cX3_add : ByteArray := prog_5_method_2_code
def yX3_add : MethodName := ⟨RX3, "add", "(B)V"⟩
abbrev cX3_readNeed : ByteArray := prog_5_method_3_code
def yX3_readNeed : MethodName := ⟨RX3, "readNeed", "()I"⟩
abbrev cX3_readEither : ByteArray := prog_5_method_4_code
def yX3_readEither : MethodName := ⟨RX3, "readEither", "(I)J"⟩
abbrev cX3_readBoth : ByteArray := prog_5_method_5_code
def yX3_readBoth : MethodName := ⟨RX3, "readBoth", "(I)J"⟩
abbrev cX3_readOne : ByteArray := prog_5_method_6_code
def yX3_readOne : MethodName := ⟨RX3, "readOne", "(I)J"⟩
abbrev cX3_readClosed : ByteArray := prog_5_method_7_code
def yX3_readClosed : MethodName := ⟨RX3, "readClosed", "(I)J"⟩
abbrev cX3_sign : ByteArray := prog_5_method_8_code
def yX3_sign : MethodName := ⟨RX3, "sign", "()I"⟩
abbrev cX3_factBits : ByteArray := prog_5_method_9_code
def yX3_factBits : MethodName := ⟨RX3, "factBits", "(I)J"⟩
def RX4 : String := "TaleBench$Web"
def TX4 : u_T := fun k => match k with
  | 0 => ("TaleBench$Web", "order", "[I", true)
  | 1 => ("TaleBench$Web", "size", "I", false)
  | 2 => ("TaleBench$Web", "via", "[I", true)
  | 3 => ("TaleBench$Web", "distance", "[I", true)
  | 4 => ("TaleBench$Web", "next", "[I", true)
  | 5 => ("TaleBench$Web", "lastInto", "[I", true)
  | 6 => ("TaleBench$Web", "link", "[I", true)
  | 7 => ("TaleBench$Web", "marks", "[I", true)
  | 8 => ("TaleBench$Web", "queue", "[I", true)
  | 9 => ("TaleBench$Web", "flags", "[Z", true)
  | 10 => ("TaleBench$Web", "rows", "[J", false)
  | _ => ("TaleBench$Web", "longerRows", "[J", false)
def tyX4 : Nat → FieldType := fun k => match k with
  | 0 => .array .int
  | 1 => .int
  | 2 => .array .int
  | 3 => .array .int
  | 4 => .array .int
  | 5 => .array .int
  | 6 => .array .int
  | 7 => .array .int
  | 8 => .array .int
  | 9 => .array .boolean
  | 10 => .array .long
  | _ => .array .long
theorem nmX4 : ∀ a, a < 12 → ∀ b, b < 12 → a ≠ b → (TX4 a).2.1 ≠ (TX4 b).2.1 := by decide +kernel
theorem tyX4_ok : ∀ k, k < 12 → parseFieldDescriptor (TX4 k).2.2.1 = some (tyX4 k) := by decide +kernel
abbrev cX4_init : ByteArray := prog_6_method_1_code
def yX4_init : MethodName := ⟨RX4, "<init>", "()V"⟩
abbrev cX4_clear : ByteArray := prog_6_method_2_code
def yX4_clear : MethodName := ⟨RX4, "clear", "()V"⟩
abbrev cX4_come : ByteArray := prog_6_method_3_code
def yX4_come : MethodName := ⟨RX4, "come", "(II)V"⟩
abbrev cX4_weave : ByteArray := prog_6_method_4_code
def yX4_weave : MethodName := ⟨RX4, "weave", "(LTaleBench$Tale;I)V"⟩
abbrev cX4_spreadMark : ByteArray := prog_6_method_5_code
def yX4_spreadMark : MethodName := ⟨RX4, "spreadMark", "(I)V"⟩
abbrev cX4_markStatesAhead : ByteArray := prog_6_method_6_code
def yX4_markStatesAhead : MethodName := ⟨RX4, "markStatesAhead", "(III)I"⟩
abbrev cX4_leadsOn : ByteArray := prog_6_method_7_code
def yX4_leadsOn : MethodName := ⟨RX4, "leadsOn", "(I)Z"⟩
abbrev cX4_scenesCome : ByteArray := prog_6_method_8_code
def yX4_scenesCome : MethodName := ⟨RX4, "scenesCome", "()I"⟩
abbrev cX4_firstOf : ByteArray := prog_6_method_9_code
def yX4_firstOf : MethodName := ⟨RX4, "firstOf", "(I)I"⟩
abbrev cX4_choiceOfWay : ByteArray := prog_6_method_10_code
def yX4_choiceOfWay : MethodName := ⟨RX4, "choiceOfWay", "(II)I"⟩
abbrev cX4_countPairs : ByteArray := prog_6_method_11_code
def yX4_countPairs : MethodName := ⟨RX4, "countPairs", "([I)I"⟩
abbrev cX4_pairOf : ByteArray := prog_6_method_12_code
def yX4_pairOf : MethodName := ⟨RX4, "pairOf", "(I[I)I"⟩
abbrev cX4_countRows : ByteArray := prog_6_method_13_code
def yX4_countRows : MethodName := ⟨RX4, "countRows", "(I)V"⟩
abbrev cX4_passRowsOn : ByteArray := prog_6_method_14_code
def yX4_passRowsOn : MethodName := ⟨RX4, "passRowsOn", "(I)V"⟩
def RX5 : String := "TaleBench"
def TX5 : u_T := fun k => match k with
  | 0 => ("TaleBench", "tape", "LTaleBench$Tape;", true)
  | 1 => ("TaleBench", "tale", "LTaleBench$Tale;", true)
  | 2 => ("TaleBench", "base", "LTaleBench$Tale;", true)
  | 3 => ("TaleBench", "other", "LTaleBench$Tale;", true)
  | 4 => ("TaleBench", "baseKept", "Z", false)
  | 5 => ("TaleBench", "otherKept", "Z", false)
  | 6 => ("TaleBench", "cuts", "I", false)
  | 7 => ("TaleBench", "web", "LTaleBench$Web;", true)
  | 8 => ("TaleBench", "webIsFresh", "Z", false)
  | 9 => ("TaleBench", "liveFacts", "[I", true)
  | 10 => ("TaleBench", "trapBits", "[I", true)
  | 11 => ("TaleBench", "sheets", "[LTaleBench$Sheet;", true)
  | 12 => ("TaleBench", "waiting", "[I", true)
  | 13 => ("TaleBench", "waitingCount", "I", false)
  | 14 => ("TaleBench", "playedTo", "I", false)
  | _ => ("TaleBench", "hostFindings", "I", false)
def tyX5 : Nat → FieldType := fun k => match k with
  | 0 => .object "TaleBench$Tape"
  | 1 => .object "TaleBench$Tale"
  | 2 => .object "TaleBench$Tale"
  | 3 => .object "TaleBench$Tale"
  | 4 => .boolean
  | 5 => .boolean
  | 6 => .int
  | 7 => .object "TaleBench$Web"
  | 8 => .boolean
  | 9 => .array .int
  | 10 => .array .int
  | 11 => .array (.object "TaleBench$Sheet")
  | 12 => .array .int
  | 13 => .int
  | 14 => .int
  | _ => .int
theorem nmX5 : ∀ a, a < 16 → ∀ b, b < 16 → a ≠ b → (TX5 a).2.1 ≠ (TX5 b).2.1 := by decide +kernel
theorem tyX5_ok : ∀ k, k < 16 → parseFieldDescriptor (TX5 k).2.2.1 = some (tyX5 k) := by decide +kernel
abbrev cX5_init : ByteArray := prog_1_method_1_code
def yX5_init : MethodName := ⟨RX5, "<init>", "()V"⟩
abbrev cX5_feed : ByteArray := prog_1_method_2_code
def yX5_feed : MethodName := ⟨RX5, "feed", "(JI)I"⟩
abbrev cX5_scene : ByteArray := prog_1_method_3_code
def yX5_scene : MethodName := ⟨RX5, "scene", "(II)I"⟩
abbrev cX5_putScene : ByteArray := prog_1_method_4_code
def yX5_putScene : MethodName := ⟨RX5, "putScene", "(II)I"⟩
abbrev cX5_loss : ByteArray := prog_1_method_5_code
def yX5_loss : MethodName := ⟨RX5, "loss", "(II)I"⟩
abbrev cX5_choice : ByteArray := prog_1_method_6_code
def yX5_choice : MethodName := ⟨RX5, "choice", "(III)I"⟩
abbrev cX5_putChoice : ByteArray := prog_1_method_7_code
def yX5_putChoice : MethodName := ⟨RX5, "putChoice", "(III)I"⟩
abbrev cX5_gives : ByteArray := prog_1_method_8_code
def yX5_gives : MethodName := ⟨RX5, "gives", "(IIII)I"⟩
abbrev cX5_line : ByteArray := prog_1_method_9_code
def yX5_line : MethodName := ⟨RX5, "line", "(IIII)I"⟩
abbrev cX5_drop : ByteArray := prog_1_method_10_code
def yX5_drop : MethodName := ⟨RX5, "drop", "(II)I"⟩
abbrev cX5_start : ByteArray := prog_1_method_11_code
def yX5_start : MethodName := ⟨RX5, "start", "(I)I"⟩
abbrev cX5_of : ByteArray := prog_1_method_12_code
def yX5_of : MethodName := ⟨RX5, "of", "(II)I"⟩
abbrev cX5_about : ByteArray := prog_1_method_13_code
def yX5_about : MethodName := ⟨RX5, "about", "(III)I"⟩
abbrev cX5_states : ByteArray := prog_1_method_14_code
def yX5_states : MethodName := ⟨RX5, "states", "(I)I"⟩
abbrev cX5_countEndings : ByteArray := prog_1_method_15_code
def yX5_countEndings : MethodName := ⟨RX5, "countEndings", "()I"⟩
abbrev cX5_countStuck : ByteArray := prog_1_method_16_code
def yX5_countStuck : MethodName := ⟨RX5, "countStuck", "()I"⟩
abbrev cX5_countHopeless : ByteArray := prog_1_method_17_code
def yX5_countHopeless : MethodName := ⟨RX5, "countHopeless", "()I"⟩
abbrev cX5_isHopeless : ByteArray := prog_1_method_18_code
def yX5_isHopeless : MethodName := ⟨RX5, "isHopeless", "(I)Z"⟩
abbrev cX5_reached : ByteArray := prog_1_method_19_code
def yX5_reached : MethodName := ⟨RX5, "reached", "(I)I"⟩
abbrev cX5_live : ByteArray := prog_1_method_20_code
def yX5_live : MethodName := ⟨RX5, "live", "(I)I"⟩
abbrev cX5_open : ByteArray := prog_1_method_21_code
def yX5_open : MethodName := ⟨RX5, "open", "(II)I"⟩
abbrev cX5_trap : ByteArray := prog_1_method_22_code
def yX5_trap : MethodName := ⟨RX5, "trap", "(I)I"⟩
abbrev cX5_findTraps : ByteArray := prog_1_method_23_code
def yX5_findTraps : MethodName := ⟨RX5, "findTraps", "()V"⟩
abbrev cX5_trapsOf : ByteArray := prog_1_method_24_code
def yX5_trapsOf : MethodName := ⟨RX5, "trapsOf", "(I)I"⟩
abbrev cX5_way : ByteArray := prog_1_method_25_code
def yX5_way : MethodName := ⟨RX5, "way", "(I)I"⟩
abbrev cX5_step : ByteArray := prog_1_method_26_code
def yX5_step : MethodName := ⟨RX5, "step", "(II)I"⟩
abbrev cX5_ways : ByteArray := prog_1_method_27_code
def yX5_ways : MethodName := ⟨RX5, "ways", "(I)J"⟩
abbrev cX5_freshenWeb : ByteArray := prog_1_method_28_code
def yX5_freshenWeb : MethodName := ⟨RX5, "freshenWeb", "()V"⟩
abbrev cX5_weaveFromBeginning : ByteArray := prog_1_method_29_code
def yX5_weaveFromBeginning : MethodName := ⟨RX5, "weaveFromBeginning", "(I)V"⟩
abbrev cX5_cut : ByteArray := prog_1_method_30_code
def yX5_cut : MethodName := ⟨RX5, "cut", "(IZ)I"⟩
abbrev cX5_mend : ByteArray := prog_1_method_31_code
def yX5_mend : MethodName := ⟨RX5, "mend", "()I"⟩
abbrev cX5_weaveFromEachMending : ByteArray := prog_1_method_32_code
def yX5_weaveFromEachMending : MethodName := ⟨RX5, "weaveFromEachMending", "()V"⟩
abbrev cX5_leastMending : ByteArray := prog_1_method_33_code
def yX5_leastMending : MethodName := ⟨RX5, "leastMending", "(I)I"⟩
abbrev cX5_sheet : ByteArray := prog_1_method_34_code
def yX5_sheet : MethodName := ⟨RX5, "sheet", "(III)I"⟩
abbrev cX5_write : ByteArray := prog_1_method_35_code
def yX5_write : MethodName := ⟨RX5, "write", "(III)I"⟩
abbrev cX5_words : ByteArray := prog_1_method_36_code
def yX5_words : MethodName := ⟨RX5, "words", "(IIII)I"⟩
abbrev cX5_takeWords : ByteArray := prog_1_method_37_code
def yX5_takeWords : MethodName := ⟨RX5, "takeWords", "(ILTaleBench$Sheet;I)I"⟩
abbrev cX5_sessions : ByteArray := prog_1_method_38_code
def yX5_sessions : MethodName := ⟨RX5, "sessions", "(II)I"⟩
abbrev cX5_tell : ByteArray := prog_1_method_39_code
def yX5_tell : MethodName := ⟨RX5, "tell", "(I)I"⟩
abbrev cX5_play : ByteArray := prog_1_method_40_code
def yX5_play : MethodName := ⟨RX5, "play", "()I"⟩
abbrev cX5_at : ByteArray := prog_1_method_41_code
def yX5_at : MethodName := ⟨RX5, "at", "(I)I"⟩
abbrev cX5_keep : ByteArray := prog_1_method_42_code
def yX5_keep : MethodName := ⟨RX5, "keep", "(I)I"⟩
abbrev cX5_back : ByteArray := prog_1_method_43_code
def yX5_back : MethodName := ⟨RX5, "back", "(I)I"⟩
abbrev cX5_melt : ByteArray := prog_1_method_44_code
def yX5_melt : MethodName := ⟨RX5, "melt", "()I"⟩
abbrev cX5_clash : ByteArray := prog_1_method_45_code
def yX5_clash : MethodName := ⟨RX5, "clash", "(I)I"⟩
abbrev cX5_clashingItem : ByteArray := prog_1_method_46_code
def yX5_clashingItem : MethodName := ⟨RX5, "clashingItem", "(I)I"⟩
abbrev cX5_isClashing : ByteArray := prog_1_method_47_code
def yX5_isClashing : MethodName := ⟨RX5, "isClashing", "(LTaleBench$Item;LTaleBench$Item;LTaleBench$Item;)Z"⟩
abbrev cX5_count : ByteArray := prog_1_method_48_code
def yX5_count : MethodName := ⟨RX5, "count", "(I)I"⟩
abbrev cX5_hostFinding : ByteArray := prog_1_method_49_code
def yX5_hostFinding : MethodName := ⟨RX5, "hostFinding", "(I)I"⟩
abbrev cX5_isCut : ByteArray := prog_1_method_50_code
def yX5_isCut : MethodName := ⟨RX5, "isCut", "(I)Z"⟩
abbrev cX5_isScene : ByteArray := prog_1_method_51_code
def yX5_isScene : MethodName := ⟨RX5, "isScene", "(I)Z"⟩
abbrev cX5_isChoice : ByteArray := prog_1_method_52_code
def yX5_isChoice : MethodName := ⟨RX5, "isChoice", "(I)Z"⟩
abbrev cX5_isSet : ByteArray := prog_1_method_53_code
def yX5_isSet : MethodName := ⟨RX5, "isSet", "(I)Z"⟩
abbrev cX5_isVoice : ByteArray := prog_1_method_54_code
def yX5_isVoice : MethodName := ⟨RX5, "isVoice", "(I)Z"⟩
abbrev cX5_isSheet : ByteArray := prog_1_method_55_code
def yX5_isSheet : MethodName := ⟨RX5, "isSheet", "(I)Z"⟩
abbrev cX5_isSort : ByteArray := prog_1_method_56_code
def yX5_isSort : MethodName := ⟨RX5, "isSort", "(I)Z"⟩
abbrev cX5_stateOf : ByteArray := prog_1_method_57_code
def yX5_stateOf : MethodName := ⟨RX5, "stateOf", "(II)I"⟩
abbrev cX5_sceneOf : ByteArray := prog_1_method_58_code
def yX5_sceneOf : MethodName := ⟨RX5, "sceneOf", "(I)I"⟩
abbrev cX5_factsOf : ByteArray := prog_1_method_59_code
def yX5_factsOf : MethodName := ⟨RX5, "factsOf", "(I)I"⟩
def RX6 : String := "TaleBenchModel"
def TX6 : u_T := fun k => match k with
  | 0 => ("TaleBenchModel", "tale", "[I", true)
  | 1 => ("TaleBenchModel", "base", "[I", true)
  | 2 => ("TaleBenchModel", "otherTale", "[I", true)
  | 3 => ("TaleBenchModel", "hasBase", "Z", false)
  | 4 => ("TaleBenchModel", "hasOther", "Z", false)
  | 5 => ("TaleBenchModel", "isCut", "[Z", true)
  | 6 => ("TaleBenchModel", "tape", "[I", true)
  | 7 => ("TaleBenchModel", "taped", "I", false)
  | 8 => ("TaleBenchModel", "sheetSort", "[I", true)
  | 9 => ("TaleBenchModel", "sheetSize", "[I", true)
  | 10 => ("TaleBenchModel", "sheet", "[I", true)
  | 11 => ("TaleBenchModel", "waits", "I", false)
  | 12 => ("TaleBenchModel", "waiting", "[I", true)
  | 13 => ("TaleBenchModel", "hasPlayed", "Z", false)
  | 14 => ("TaleBenchModel", "playedScene", "I", false)
  | 15 => ("TaleBenchModel", "playedFacts", "I", false)
  | 16 => ("TaleBenchModel", "met", "I", false)
  | 17 => ("TaleBenchModel", "place", "I", false)
  | 18 => ("TaleBenchModel", "isWrong", "Z", false)
  | 19 => ("TaleBenchModel", "set", "I", false)
  | 20 => ("TaleBenchModel", "deep", "I", false)
  | 21 => ("TaleBenchModel", "newNeed", "[I", true)
  | 22 => ("TaleBenchModel", "far", "[I", true)
  | 23 => ("TaleBenchModel", "queue", "[I", true)
  | 24 => ("TaleBenchModel", "queued", "I", false)
  | 25 => ("TaleBenchModel", "hopes", "[Z", true)
  | 26 => ("TaleBenchModel", "lives", "[I", true)
  | 27 => ("TaleBenchModel", "seen", "[Z", true)
  | 28 => ("TaleBenchModel", "rows", "[J", true)
  | _ => ("TaleBenchModel", "nextRows", "[J", true)
def tyX6 : Nat → FieldType := fun k => match k with
  | 0 => .array .int
  | 1 => .array .int
  | 2 => .array .int
  | 3 => .boolean
  | 4 => .boolean
  | 5 => .array .boolean
  | 6 => .array .int
  | 7 => .int
  | 8 => .array .int
  | 9 => .array .int
  | 10 => .array .int
  | 11 => .int
  | 12 => .array .int
  | 13 => .boolean
  | 14 => .int
  | 15 => .int
  | 16 => .int
  | 17 => .int
  | 18 => .boolean
  | 19 => .int
  | 20 => .int
  | 21 => .array .int
  | 22 => .array .int
  | 23 => .array .int
  | 24 => .int
  | 25 => .array .boolean
  | 26 => .array .int
  | 27 => .array .boolean
  | 28 => .array .long
  | _ => .array .long
theorem nmX6 : ∀ a, a < 30 → ∀ b, b < 30 → a ≠ b → (TX6 a).2.1 ≠ (TX6 b).2.1 := by decide +kernel
theorem tyX6_ok : ∀ k, k < 30 → parseFieldDescriptor (TX6 k).2.2.1 = some (tyX6 k) := by decide +kernel
abbrev cX6_init : ByteArray := prog_8_method_1_code
def yX6_init : MethodName := ⟨RX6, "<init>", "()V"⟩
abbrev cX6_meet : ByteArray := prog_8_method_2_code
def yX6_meet : MethodName := ⟨RX6, "meet", "(I)I"⟩
abbrev cX6_isIn : ByteArray := prog_8_method_3_code
def yX6_isIn : MethodName := ⟨RX6, "isIn", "(III)Z"⟩
abbrev cX6_isScene : ByteArray := prog_8_method_4_code
def yX6_isScene : MethodName := ⟨RX6, "isScene", "(I)Z"⟩
abbrev cX6_isPlace : ByteArray := prog_8_method_5_code
def yX6_isPlace : MethodName := ⟨RX6, "isPlace", "(II)Z"⟩
abbrev cX6_isSet : ByteArray := prog_8_method_6_code
def yX6_isSet : MethodName := ⟨RX6, "isSet", "(I)Z"⟩
abbrev cX6_kindOf : ByteArray := prog_8_method_7_code
def yX6_kindOf : MethodName := ⟨RX6, "kindOf", "(I)I"⟩
abbrev cX6_isThere : ByteArray := prog_8_method_8_code
def yX6_isThere : MethodName := ⟨RX6, "isThere", "(I)Z"⟩
abbrev cX6_at : ByteArray := prog_8_method_9_code
def yX6_at : MethodName := ⟨RX6, "at", "(II)I"⟩
abbrev cX6_hasChoice : ByteArray := prog_8_method_10_code
def yX6_hasChoice : MethodName := ⟨RX6, "hasChoice", "(II)Z"⟩
abbrev cX6_holds : ByteArray := prog_8_method_11_code
def yX6_holds : MethodName := ⟨RX6, "holds", "(II)Z"⟩
abbrev cX6_readBy : ByteArray := prog_8_method_12_code
def yX6_readBy : MethodName := ⟨RX6, "readBy", "(I)I"⟩
abbrev cX6_holdsFor : ByteArray := prog_8_method_13_code
def yX6_holdsFor : MethodName := ⟨RX6, "holdsFor", "(I)I"⟩
abbrev cX6_feed : ByteArray := prog_8_method_14_code
def yX6_feed : MethodName := ⟨RX6, "feed", "(JI)I"⟩
abbrev cX6_here : ByteArray := prog_8_method_15_code
def yX6_here : MethodName := ⟨RX6, "here", "()I"⟩
abbrev cX6_either : ByteArray := prog_8_method_16_code
def yX6_either : MethodName := ⟨RX6, "either", "()Z"⟩
abbrev cX6_both : ByteArray := prog_8_method_17_code
def yX6_both : MethodName := ⟨RX6, "both", "()Z"⟩
abbrev cX6_one : ByteArray := prog_8_method_18_code
def yX6_one : MethodName := ⟨RX6, "one", "()Z"⟩
abbrev cX6_read : ByteArray := prog_8_method_19_code
def yX6_read : MethodName := ⟨RX6, "read", "(I)Z"⟩
abbrev cX6_readNeed : ByteArray := prog_8_method_20_code
def yX6_readNeed : MethodName := ⟨RX6, "readNeed", "()I"⟩
abbrev cX6_lay : ByteArray := prog_8_method_21_code
def yX6_lay : MethodName := ⟨RX6, "lay", "(I)V"⟩
abbrev cX6_clearChoice : ByteArray := prog_8_method_22_code
def yX6_clearChoice : MethodName := ⟨RX6, "clearChoice", "(II)V"⟩
abbrev cX6_clearChoices : ByteArray := prog_8_method_23_code
def yX6_clearChoices : MethodName := ⟨RX6, "clearChoices", "(I)V"⟩
abbrev cX6_hasNeed : ByteArray := prog_8_method_24_code
def yX6_hasNeed : MethodName := ⟨RX6, "hasNeed", "(I)Z"⟩
abbrev cX6_scene : ByteArray := prog_8_method_25_code
def yX6_scene : MethodName := ⟨RX6, "scene", "(II)I"⟩
abbrev cX6_loss : ByteArray := prog_8_method_26_code
def yX6_loss : MethodName := ⟨RX6, "loss", "(II)I"⟩
abbrev cX6_choice : ByteArray := prog_8_method_27_code
def yX6_choice : MethodName := ⟨RX6, "choice", "(III)I"⟩
abbrev cX6_gives : ByteArray := prog_8_method_28_code
def yX6_gives : MethodName := ⟨RX6, "gives", "(IIII)I"⟩
abbrev cX6_line : ByteArray := prog_8_method_29_code
def yX6_line : MethodName := ⟨RX6, "line", "(IIII)I"⟩
abbrev cX6_drop : ByteArray := prog_8_method_30_code
def yX6_drop : MethodName := ⟨RX6, "drop", "(II)I"⟩
abbrev cX6_start : ByteArray := prog_8_method_31_code
def yX6_start : MethodName := ⟨RX6, "start", "(I)I"⟩
abbrev cX6_of : ByteArray := prog_8_method_32_code
def yX6_of : MethodName := ⟨RX6, "of", "(II)I"⟩
abbrev cX6_about : ByteArray := prog_8_method_33_code
def yX6_about : MethodName := ⟨RX6, "about", "(III)I"⟩
abbrev cX6_isEnding : ByteArray := prog_8_method_34_code
def yX6_isEnding : MethodName := ⟨RX6, "isEnding", "(I)Z"⟩
abbrev cX6_isShut : ByteArray := prog_8_method_35_code
def yX6_isShut : MethodName := ⟨RX6, "isShut", "(IZ)Z"⟩
abbrev cX6_leads : ByteArray := prog_8_method_36_code
def yX6_leads : MethodName := ⟨RX6, "leads", "(IIZ)I"⟩
abbrev cX6_reach : ByteArray := prog_8_method_37_code
def yX6_reach : MethodName := ⟨RX6, "reach", "(IZ)V"⟩
abbrev cX6_reach_ : ByteArray := prog_8_method_38_code
def yX6_reach_ : MethodName := ⟨RX6, "reach", "()V"⟩
abbrev cX6_isStuck : ByteArray := prog_8_method_39_code
def yX6_isStuck : MethodName := ⟨RX6, "isStuck", "(I)Z"⟩
abbrev cX6_tellHope : ByteArray := prog_8_method_40_code
def yX6_tellHope : MethodName := ⟨RX6, "tellHope", "()V"⟩
abbrev cX6_tellLives : ByteArray := prog_8_method_41_code
def yX6_tellLives : MethodName := ⟨RX6, "tellLives", "()V"⟩
abbrev cX6_liveAt : ByteArray := prog_8_method_42_code
def yX6_liveAt : MethodName := ⟨RX6, "liveAt", "(I)I"⟩
abbrev cX6_states : ByteArray := prog_8_method_43_code
def yX6_states : MethodName := ⟨RX6, "states", "(I)I"⟩
abbrev cX6_reached : ByteArray := prog_8_method_44_code
def yX6_reached : MethodName := ⟨RX6, "reached", "(I)I"⟩
abbrev cX6_live : ByteArray := prog_8_method_45_code
def yX6_live : MethodName := ⟨RX6, "live", "(I)I"⟩
abbrev cX6_open : ByteArray := prog_8_method_46_code
def yX6_open : MethodName := ⟨RX6, "open", "(II)I"⟩
abbrev cX6_isTrap : ByteArray := prog_8_method_47_code
def yX6_isTrap : MethodName := ⟨RX6, "isTrap", "(II)Z"⟩
abbrev cX6_trap : ByteArray := prog_8_method_48_code
def yX6_trap : MethodName := ⟨RX6, "trap", "(I)I"⟩
abbrev cX6_nearest : ByteArray := prog_8_method_49_code
def yX6_nearest : MethodName := ⟨RX6, "nearest", "(I)I"⟩
abbrev cX6_way : ByteArray := prog_8_method_50_code
def yX6_way : MethodName := ⟨RX6, "way", "(I)I"⟩
abbrev cX6_step : ByteArray := prog_8_method_51_code
def yX6_step : MethodName := ⟨RX6, "step", "(II)I"⟩
abbrev cX6_goesOn : ByteArray := prog_8_method_52_code
def yX6_goesOn : MethodName := ⟨RX6, "goesOn", "(III)Z"⟩
abbrev cX6_ways : ByteArray := prog_8_method_53_code
def yX6_ways : MethodName := ⟨RX6, "ways", "(I)J"⟩
abbrev cX6_cut : ByteArray := prog_8_method_54_code
def yX6_cut : MethodName := ⟨RX6, "cut", "(IZ)I"⟩
abbrev cX6_reachedScenes : ByteArray := prog_8_method_55_code
def yX6_reachedScenes : MethodName := ⟨RX6, "reachedScenes", "()I"⟩
abbrev cX6_size : ByteArray := prog_8_method_56_code
def yX6_size : MethodName := ⟨RX6, "size", "(I)I"⟩
abbrev cX6_mend : ByteArray := prog_8_method_57_code
def yX6_mend : MethodName := ⟨RX6, "mend", "()I"⟩
abbrev cX6_isSheet : ByteArray := prog_8_method_58_code
def yX6_isSheet : MethodName := ⟨RX6, "isSheet", "(I)Z"⟩
abbrev cX6_sheet : ByteArray := prog_8_method_59_code
def yX6_sheet : MethodName := ⟨RX6, "sheet", "(III)I"⟩
abbrev cX6_write : ByteArray := prog_8_method_60_code
def yX6_write : MethodName := ⟨RX6, "write", "(III)I"⟩
abbrev cX6_words : ByteArray := prog_8_method_61_code
def yX6_words : MethodName := ⟨RX6, "words", "(IIII)I"⟩
abbrev cX6_sessions : ByteArray := prog_8_method_62_code
def yX6_sessions : MethodName := ⟨RX6, "sessions", "(II)I"⟩
abbrev cX6_tell : ByteArray := prog_8_method_63_code
def yX6_tell : MethodName := ⟨RX6, "tell", "(I)I"⟩
abbrev cX6_play : ByteArray := prog_8_method_64_code
def yX6_play : MethodName := ⟨RX6, "play", "()I"⟩
abbrev cX6_at_ : ByteArray := prog_8_method_65_code
def yX6_at_ : MethodName := ⟨RX6, "at", "(I)I"⟩
abbrev cX6_carry : ByteArray := prog_8_method_66_code
def yX6_carry : MethodName := ⟨RX6, "carry", "([I[I)V"⟩
abbrev cX6_keep : ByteArray := prog_8_method_67_code
def yX6_keep : MethodName := ⟨RX6, "keep", "(I)I"⟩
abbrev cX6_back : ByteArray := prog_8_method_68_code
def yX6_back : MethodName := ⟨RX6, "back", "(I)I"⟩
abbrev cX6_itemFrom : ByteArray := prog_8_method_69_code
def yX6_itemFrom : MethodName := ⟨RX6, "itemFrom", "(I)I"⟩
abbrev cX6_itemWide : ByteArray := prog_8_method_70_code
def yX6_itemWide : MethodName := ⟨RX6, "itemWide", "(I)I"⟩
abbrev cX6_differs : ByteArray := prog_8_method_71_code
def yX6_differs : MethodName := ⟨RX6, "differs", "(I[I[I)Z"⟩
abbrev cX6_clashes : ByteArray := prog_8_method_72_code
def yX6_clashes : MethodName := ⟨RX6, "clashes", "(I)Z"⟩
abbrev cX6_melt : ByteArray := prog_8_method_73_code
def yX6_melt : MethodName := ⟨RX6, "melt", "()I"⟩
abbrev cX6_clash : ByteArray := prog_8_method_74_code
def yX6_clash : MethodName := ⟨RX6, "clash", "(I)I"⟩
abbrev cX6_count : ByteArray := prog_8_method_75_code
def yX6_count : MethodName := ⟨RX6, "count", "(I)I"⟩
def RJ6 : String := "java/lang/Integer"
def TJ6 : u_T := fun k => match k with
  | _ => ("", "", "", false)
def tyJ6 : Nat → FieldType := fun k => match k with
  | _ => .int
theorem nmJ6 : ∀ a, a < 0 → ∀ b, b < 0 → a ≠ b → (TJ6 a).2.1 ≠ (TJ6 b).2.1 := by decide +kernel
theorem tyJ6_ok : ∀ k, k < 0 → parseFieldDescriptor (TJ6 k).2.2.1 = some (tyJ6 k) := by decide +kernel
abbrev cJ6_bitCount_0f7a4 : ByteArray := prog_9_method_49_code
def yJ6_bitCount_0f7a4 : MethodName := ⟨RJ6, "bitCount", "(I)I"⟩
def RJ13 : String := "java/lang/Long"
def TJ13 : u_T := fun k => match k with
  | _ => ("", "", "", false)
def tyJ13 : Nat → FieldType := fun k => match k with
  | _ => .int
theorem nmJ13 : ∀ a, a < 0 → ∀ b, b < 0 → a ≠ b → (TJ13 a).2.1 ≠ (TJ13 b).2.1 := by decide +kernel
theorem tyJ13_ok : ∀ k, k < 0 → parseFieldDescriptor (TJ13 k).2.2.1 = some (tyJ13 k) := by decide +kernel
abbrev cJ13_bitCount_95d88 : ByteArray := prog_10_method_50_code
def yJ13_bitCount_95d88 : MethodName := ⟨RJ13, "bitCount", "(J)I"⟩
def RJ9 : String := "java/lang/Math"
def TJ9 : u_T := fun k => match k with
  | _ => ("", "", "", false)
def tyJ9 : Nat → FieldType := fun k => match k with
  | _ => .int
theorem nmJ9 : ∀ a, a < 0 → ∀ b, b < 0 → a ≠ b → (TJ9 a).2.1 ≠ (TJ9 b).2.1 := by decide +kernel
theorem tyJ9_ok : ∀ k, k < 0 → parseFieldDescriptor (TJ9 k).2.2.1 = some (tyJ9 k) := by decide +kernel
abbrev cJ9_max_7cf53 : ByteArray := prog_11_method_65_code
def yJ9_max_7cf53 : MethodName := ⟨RJ9, "max", "(II)I"⟩
abbrev cJ9_min_7cf53 : ByteArray := prog_11_method_69_code
def yJ9_min_7cf53 : MethodName := ⟨RJ9, "min", "(II)I"⟩
def RL : String := "TaleBenchLaw"
abbrev cL_law : ByteArray := code
def yL_law : MethodName := ⟨RL, "law", "([I)Z"⟩
abbrev vwCl : List vw_C := [(RX0, TX0, 7), (RX1, TX1, 3), (RX2, TX2, 1), (RX3, TX3, 6), (RX4, TX4, 12), (RX5, TX5, 16), (RX6, TX6, 30)]
