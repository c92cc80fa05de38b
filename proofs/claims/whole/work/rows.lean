section
-- ===== PART A: goes FIRST, ahead of the names: the tables' words, and 'selects' of the private methods out of them =====
/-- a private method of a class that the tables say can be made, by its rows of tables_1 -/
def lw_okq (q : MethodName × Nat) : Prop := (q.1.cls ≠ "java/lang/invoke/MethodHandle" ∧ q.1.cls ≠ "java/lang/invoke/VarHandle") ∧ Cond.instantiable q.1.cls q.2 ∈ tables_1 ∧ Cond.privateMethod q.1 ∈ tables_1 ∧ Cond.instanceMethod q.1 ∈ tables_1
theorem lw_p0 : lw_okq (⟨"TaleBench", "putScene", "(II)I"⟩, 16) := ⟨⟨by decide +kernel, by decide +kernel⟩, List.mem_of_getElem? (i := 12) (by decide +kernel), List.mem_of_getElem? (i := 238) (by decide +kernel), List.mem_of_getElem? (i := 239) (by decide +kernel)⟩
theorem lw_p1 : lw_okq (⟨"TaleBench$Tape", "readEither", "(I)J"⟩, 6) := ⟨⟨by decide +kernel, by decide +kernel⟩, List.mem_of_getElem? (i := 20) (by decide +kernel), List.mem_of_getElem? (i := 247) (by decide +kernel), List.mem_of_getElem? (i := 248) (by decide +kernel)⟩
theorem lw_p2 : lw_okq (⟨"TaleBench$Tape", "readBoth", "(I)J"⟩, 6) := ⟨⟨by decide +kernel, by decide +kernel⟩, List.mem_of_getElem? (i := 20) (by decide +kernel), List.mem_of_getElem? (i := 251) (by decide +kernel), List.mem_of_getElem? (i := 252) (by decide +kernel)⟩
theorem lw_p3 : lw_okq (⟨"TaleBench$Tape", "readOne", "(I)J"⟩, 6) := ⟨⟨by decide +kernel, by decide +kernel⟩, List.mem_of_getElem? (i := 20) (by decide +kernel), List.mem_of_getElem? (i := 255) (by decide +kernel), List.mem_of_getElem? (i := 256) (by decide +kernel)⟩
theorem lw_p4 : lw_okq (⟨"TaleBench$Tape", "sign", "()I"⟩, 6) := ⟨⟨by decide +kernel, by decide +kernel⟩, List.mem_of_getElem? (i := 20) (by decide +kernel), List.mem_of_getElem? (i := 259) (by decide +kernel), List.mem_of_getElem? (i := 260) (by decide +kernel)⟩
theorem lw_p5 : lw_okq (⟨"TaleBench$Tape", "factBits", "(I)J"⟩, 6) := ⟨⟨by decide +kernel, by decide +kernel⟩, List.mem_of_getElem? (i := 20) (by decide +kernel), List.mem_of_getElem? (i := 263) (by decide +kernel), List.mem_of_getElem? (i := 264) (by decide +kernel)⟩
theorem lw_p6 : lw_okq (⟨"TaleBench$Tape", "readClosed", "(I)J"⟩, 6) := ⟨⟨by decide +kernel, by decide +kernel⟩, List.mem_of_getElem? (i := 20) (by decide +kernel), List.mem_of_getElem? (i := 269) (by decide +kernel), List.mem_of_getElem? (i := 270) (by decide +kernel)⟩
theorem lw_p7 : lw_okq (⟨"TaleBench$Item", "readsFact", "(I)Z"⟩, 7) := ⟨⟨by decide +kernel, by decide +kernel⟩, List.mem_of_getElem? (i := 56) (by decide +kernel), List.mem_of_getElem? (i := 282) (by decide +kernel), List.mem_of_getElem? (i := 283) (by decide +kernel)⟩
theorem lw_p8 : lw_okq (⟨"TaleBench", "hostFinding", "(I)I"⟩, 16) := ⟨⟨by decide +kernel, by decide +kernel⟩, List.mem_of_getElem? (i := 12) (by decide +kernel), List.mem_of_getElem? (i := 307) (by decide +kernel), List.mem_of_getElem? (i := 308) (by decide +kernel)⟩
theorem lw_p9 : lw_okq (⟨"TaleBench", "putChoice", "(III)I"⟩, 16) := ⟨⟨by decide +kernel, by decide +kernel⟩, List.mem_of_getElem? (i := 12) (by decide +kernel), List.mem_of_getElem? (i := 318) (by decide +kernel), List.mem_of_getElem? (i := 319) (by decide +kernel)⟩
theorem lw_p10 : lw_okq (⟨"TaleBench", "isCut", "(I)Z"⟩, 16) := ⟨⟨by decide +kernel, by decide +kernel⟩, List.mem_of_getElem? (i := 12) (by decide +kernel), List.mem_of_getElem? (i := 350) (by decide +kernel), List.mem_of_getElem? (i := 351) (by decide +kernel)⟩
theorem lw_p11 : lw_okq (⟨"TaleBench", "freshenWeb", "()V"⟩, 16) := ⟨⟨by decide +kernel, by decide +kernel⟩, List.mem_of_getElem? (i := 12) (by decide +kernel), List.mem_of_getElem? (i := 377) (by decide +kernel), List.mem_of_getElem? (i := 378) (by decide +kernel)⟩
theorem lw_p12 : lw_okq (⟨"TaleBench", "weaveFromBeginning", "(I)V"⟩, 16) := ⟨⟨by decide +kernel, by decide +kernel⟩, List.mem_of_getElem? (i := 12) (by decide +kernel), List.mem_of_getElem? (i := 381) (by decide +kernel), List.mem_of_getElem? (i := 382) (by decide +kernel)⟩
theorem lw_p13 : lw_okq (⟨"TaleBench$Web", "spreadFrom", "(III)I"⟩, 12) := ⟨⟨by decide +kernel, by decide +kernel⟩, List.mem_of_getElem? (i := 104) (by decide +kernel), List.mem_of_getElem? (i := 438) (by decide +kernel), List.mem_of_getElem? (i := 439) (by decide +kernel)⟩
theorem lw_p14 : lw_okq (⟨"TaleBench", "countEndings", "()I"⟩, 16) := ⟨⟨by decide +kernel, by decide +kernel⟩, List.mem_of_getElem? (i := 12) (by decide +kernel), List.mem_of_getElem? (i := 442) (by decide +kernel), List.mem_of_getElem? (i := 443) (by decide +kernel)⟩
theorem lw_p15 : lw_okq (⟨"TaleBench", "countStuck", "()I"⟩, 16) := ⟨⟨by decide +kernel, by decide +kernel⟩, List.mem_of_getElem? (i := 12) (by decide +kernel), List.mem_of_getElem? (i := 446) (by decide +kernel), List.mem_of_getElem? (i := 447) (by decide +kernel)⟩
def lw_privs_1 : List (MethodName × Nat) := [(⟨"TaleBench", "putScene", "(II)I"⟩, 16), (⟨"TaleBench$Tape", "readEither", "(I)J"⟩, 6), (⟨"TaleBench$Tape", "readBoth", "(I)J"⟩, 6), (⟨"TaleBench$Tape", "readOne", "(I)J"⟩, 6), (⟨"TaleBench$Tape", "sign", "()I"⟩, 6), (⟨"TaleBench$Tape", "factBits", "(I)J"⟩, 6), (⟨"TaleBench$Tape", "readClosed", "(I)J"⟩, 6), (⟨"TaleBench$Item", "readsFact", "(I)Z"⟩, 7), (⟨"TaleBench", "hostFinding", "(I)I"⟩, 16), (⟨"TaleBench", "putChoice", "(III)I"⟩, 16), (⟨"TaleBench", "isCut", "(I)Z"⟩, 16), (⟨"TaleBench", "freshenWeb", "()V"⟩, 16), (⟨"TaleBench", "weaveFromBeginning", "(I)V"⟩, 16), (⟨"TaleBench$Web", "spreadFrom", "(III)I"⟩, 12), (⟨"TaleBench", "countEndings", "()I"⟩, 16), (⟨"TaleBench", "countStuck", "()I"⟩, 16)]
theorem lw_r1 : ∀ q ∈ lw_privs_1, lw_okq q := List.forall_mem_cons.mpr ⟨lw_p0, List.forall_mem_cons.mpr ⟨lw_p1, List.forall_mem_cons.mpr ⟨lw_p2, List.forall_mem_cons.mpr ⟨lw_p3, List.forall_mem_cons.mpr ⟨lw_p4, List.forall_mem_cons.mpr ⟨lw_p5, List.forall_mem_cons.mpr ⟨lw_p6, List.forall_mem_cons.mpr ⟨lw_p7, List.forall_mem_cons.mpr ⟨lw_p8, List.forall_mem_cons.mpr ⟨lw_p9, List.forall_mem_cons.mpr ⟨lw_p10, List.forall_mem_cons.mpr ⟨lw_p11, List.forall_mem_cons.mpr ⟨lw_p12, List.forall_mem_cons.mpr ⟨lw_p13, List.forall_mem_cons.mpr ⟨lw_p14, List.forall_mem_cons.mpr ⟨lw_p15, fun _ h => absurd h List.not_mem_nil⟩⟩⟩⟩⟩⟩⟩⟩⟩⟩⟩⟩⟩⟩⟩⟩
theorem lw_p16 : lw_okq (⟨"TaleBench", "countHopeless", "()I"⟩, 16) := ⟨⟨by decide +kernel, by decide +kernel⟩, List.mem_of_getElem? (i := 12) (by decide +kernel), List.mem_of_getElem? (i := 454) (by decide +kernel), List.mem_of_getElem? (i := 455) (by decide +kernel)⟩
theorem lw_p17 : lw_okq (⟨"TaleBench", "isHopeless", "(I)Z"⟩, 16) := ⟨⟨by decide +kernel, by decide +kernel⟩, List.mem_of_getElem? (i := 12) (by decide +kernel), List.mem_of_getElem? (i := 458) (by decide +kernel), List.mem_of_getElem? (i := 459) (by decide +kernel)⟩
theorem lw_p18 : lw_okq (⟨"TaleBench$Tale", "liveAt", "(I[I)I"⟩, 1) := ⟨⟨by decide +kernel, by decide +kernel⟩, List.mem_of_getElem? (i := 49) (by decide +kernel), List.mem_of_getElem? (i := 466) (by decide +kernel), List.mem_of_getElem? (i := 467) (by decide +kernel)⟩
theorem lw_p19 : lw_okq (⟨"TaleBench", "findTraps", "()V"⟩, 16) := ⟨⟨by decide +kernel, by decide +kernel⟩, List.mem_of_getElem? (i := 12) (by decide +kernel), List.mem_of_getElem? (i := 497) (by decide +kernel), List.mem_of_getElem? (i := 498) (by decide +kernel)⟩
theorem lw_p20 : lw_okq (⟨"TaleBench", "trapsOf", "(I)I"⟩, 16) := ⟨⟨by decide +kernel, by decide +kernel⟩, List.mem_of_getElem? (i := 12) (by decide +kernel), List.mem_of_getElem? (i := 501) (by decide +kernel), List.mem_of_getElem? (i := 502) (by decide +kernel)⟩
theorem lw_p21 : lw_okq (⟨"TaleBench$Web", "passRowsOn", "(I)V"⟩, 12) := ⟨⟨by decide +kernel, by decide +kernel⟩, List.mem_of_getElem? (i := 104) (by decide +kernel), List.mem_of_getElem? (i := 530) (by decide +kernel), List.mem_of_getElem? (i := 531) (by decide +kernel)⟩
theorem lw_p22 : lw_okq (⟨"TaleBench", "weaveFromEachMending", "()V"⟩, 16) := ⟨⟨by decide +kernel, by decide +kernel⟩, List.mem_of_getElem? (i := 12) (by decide +kernel), List.mem_of_getElem? (i := 546) (by decide +kernel), List.mem_of_getElem? (i := 547) (by decide +kernel)⟩
theorem lw_p23 : lw_okq (⟨"TaleBench", "leastMending", "(I)I"⟩, 16) := ⟨⟨by decide +kernel, by decide +kernel⟩, List.mem_of_getElem? (i := 12) (by decide +kernel), List.mem_of_getElem? (i := 550) (by decide +kernel), List.mem_of_getElem? (i := 551) (by decide +kernel)⟩
theorem lw_p24 : lw_okq (⟨"TaleBench", "takeWords", "(ILTaleBench$Sheet;I)I"⟩, 16) := ⟨⟨by decide +kernel, by decide +kernel⟩, List.mem_of_getElem? (i := 12) (by decide +kernel), List.mem_of_getElem? (i := 594) (by decide +kernel), List.mem_of_getElem? (i := 595) (by decide +kernel)⟩
theorem lw_p25 : lw_okq (⟨"TaleBench", "clashingItem", "(I)I"⟩, 16) := ⟨⟨by decide +kernel, by decide +kernel⟩, List.mem_of_getElem? (i := 12) (by decide +kernel), List.mem_of_getElem? (i := 642) (by decide +kernel), List.mem_of_getElem? (i := 643) (by decide +kernel)⟩
theorem lw_p26 : lw_okq (⟨"TaleBenchModel", "readNeed", "()I"⟩, 30) := ⟨⟨by decide +kernel, by decide +kernel⟩, List.mem_of_getElem? (i := 677) (by decide +kernel), List.mem_of_getElem? (i := 791) (by decide +kernel), List.mem_of_getElem? (i := 792) (by decide +kernel)⟩
theorem lw_p27 : lw_okq (⟨"TaleBenchModel", "read", "(I)Z"⟩, 30) := ⟨⟨by decide +kernel, by decide +kernel⟩, List.mem_of_getElem? (i := 677) (by decide +kernel), List.mem_of_getElem? (i := 795) (by decide +kernel), List.mem_of_getElem? (i := 796) (by decide +kernel)⟩
theorem lw_p28 : lw_okq (⟨"TaleBenchModel", "either", "()Z"⟩, 30) := ⟨⟨by decide +kernel, by decide +kernel⟩, List.mem_of_getElem? (i := 677) (by decide +kernel), List.mem_of_getElem? (i := 799) (by decide +kernel), List.mem_of_getElem? (i := 800) (by decide +kernel)⟩
theorem lw_p29 : lw_okq (⟨"TaleBenchModel", "both", "()Z"⟩, 30) := ⟨⟨by decide +kernel, by decide +kernel⟩, List.mem_of_getElem? (i := 677) (by decide +kernel), List.mem_of_getElem? (i := 803) (by decide +kernel), List.mem_of_getElem? (i := 804) (by decide +kernel)⟩
theorem lw_p30 : lw_okq (⟨"TaleBenchModel", "one", "()Z"⟩, 30) := ⟨⟨by decide +kernel, by decide +kernel⟩, List.mem_of_getElem? (i := 677) (by decide +kernel), List.mem_of_getElem? (i := 807) (by decide +kernel), List.mem_of_getElem? (i := 808) (by decide +kernel)⟩
theorem lw_p31 : lw_okq (⟨"TaleBenchModel", "here", "()I"⟩, 30) := ⟨⟨by decide +kernel, by decide +kernel⟩, List.mem_of_getElem? (i := 677) (by decide +kernel), List.mem_of_getElem? (i := 811) (by decide +kernel), List.mem_of_getElem? (i := 812) (by decide +kernel)⟩
def lw_privs_2 : List (MethodName × Nat) := [(⟨"TaleBench", "countHopeless", "()I"⟩, 16), (⟨"TaleBench", "isHopeless", "(I)Z"⟩, 16), (⟨"TaleBench$Tale", "liveAt", "(I[I)I"⟩, 1), (⟨"TaleBench", "findTraps", "()V"⟩, 16), (⟨"TaleBench", "trapsOf", "(I)I"⟩, 16), (⟨"TaleBench$Web", "passRowsOn", "(I)V"⟩, 12), (⟨"TaleBench", "weaveFromEachMending", "()V"⟩, 16), (⟨"TaleBench", "leastMending", "(I)I"⟩, 16), (⟨"TaleBench", "takeWords", "(ILTaleBench$Sheet;I)I"⟩, 16), (⟨"TaleBench", "clashingItem", "(I)I"⟩, 16), (⟨"TaleBenchModel", "readNeed", "()I"⟩, 30), (⟨"TaleBenchModel", "read", "(I)Z"⟩, 30), (⟨"TaleBenchModel", "either", "()Z"⟩, 30), (⟨"TaleBenchModel", "both", "()Z"⟩, 30), (⟨"TaleBenchModel", "one", "()Z"⟩, 30), (⟨"TaleBenchModel", "here", "()I"⟩, 30)]
theorem lw_r2 : ∀ q ∈ lw_privs_2, lw_okq q := List.forall_mem_cons.mpr ⟨lw_p16, List.forall_mem_cons.mpr ⟨lw_p17, List.forall_mem_cons.mpr ⟨lw_p18, List.forall_mem_cons.mpr ⟨lw_p19, List.forall_mem_cons.mpr ⟨lw_p20, List.forall_mem_cons.mpr ⟨lw_p21, List.forall_mem_cons.mpr ⟨lw_p22, List.forall_mem_cons.mpr ⟨lw_p23, List.forall_mem_cons.mpr ⟨lw_p24, List.forall_mem_cons.mpr ⟨lw_p25, List.forall_mem_cons.mpr ⟨lw_p26, List.forall_mem_cons.mpr ⟨lw_p27, List.forall_mem_cons.mpr ⟨lw_p28, List.forall_mem_cons.mpr ⟨lw_p29, List.forall_mem_cons.mpr ⟨lw_p30, List.forall_mem_cons.mpr ⟨lw_p31, fun _ h => absurd h List.not_mem_nil⟩⟩⟩⟩⟩⟩⟩⟩⟩⟩⟩⟩⟩⟩⟩⟩
theorem lw_p32 : lw_okq (⟨"TaleBenchModel", "kindOf", "(I)I"⟩, 30) := ⟨⟨by decide +kernel, by decide +kernel⟩, List.mem_of_getElem? (i := 677) (by decide +kernel), List.mem_of_getElem? (i := 815) (by decide +kernel), List.mem_of_getElem? (i := 816) (by decide +kernel)⟩
theorem lw_p33 : lw_okq (⟨"TaleBenchModel", "clearChoices", "(I)V"⟩, 30) := ⟨⟨by decide +kernel, by decide +kernel⟩, List.mem_of_getElem? (i := 677) (by decide +kernel), List.mem_of_getElem? (i := 819) (by decide +kernel), List.mem_of_getElem? (i := 820) (by decide +kernel)⟩
theorem lw_p34 : lw_okq (⟨"TaleBenchModel", "clearChoice", "(II)V"⟩, 30) := ⟨⟨by decide +kernel, by decide +kernel⟩, List.mem_of_getElem? (i := 677) (by decide +kernel), List.mem_of_getElem? (i := 823) (by decide +kernel), List.mem_of_getElem? (i := 824) (by decide +kernel)⟩
theorem lw_p35 : lw_okq (⟨"TaleBenchModel", "isThere", "(I)Z"⟩, 30) := ⟨⟨by decide +kernel, by decide +kernel⟩, List.mem_of_getElem? (i := 677) (by decide +kernel), List.mem_of_getElem? (i := 837) (by decide +kernel), List.mem_of_getElem? (i := 838) (by decide +kernel)⟩
theorem lw_p36 : lw_okq (⟨"TaleBenchModel", "meet", "(I)I"⟩, 30) := ⟨⟨by decide +kernel, by decide +kernel⟩, List.mem_of_getElem? (i := 677) (by decide +kernel), List.mem_of_getElem? (i := 841) (by decide +kernel), List.mem_of_getElem? (i := 842) (by decide +kernel)⟩
theorem lw_p37 : lw_okq (⟨"TaleBenchModel", "hasChoice", "(II)Z"⟩, 30) := ⟨⟨by decide +kernel, by decide +kernel⟩, List.mem_of_getElem? (i := 677) (by decide +kernel), List.mem_of_getElem? (i := 852) (by decide +kernel), List.mem_of_getElem? (i := 853) (by decide +kernel)⟩
theorem lw_p38 : lw_okq (⟨"TaleBenchModel", "lay", "(I)V"⟩, 30) := ⟨⟨by decide +kernel, by decide +kernel⟩, List.mem_of_getElem? (i := 677) (by decide +kernel), List.mem_of_getElem? (i := 856) (by decide +kernel), List.mem_of_getElem? (i := 857) (by decide +kernel)⟩
theorem lw_p39 : lw_okq (⟨"TaleBenchModel", "readBy", "(I)I"⟩, 30) := ⟨⟨by decide +kernel, by decide +kernel⟩, List.mem_of_getElem? (i := 677) (by decide +kernel), List.mem_of_getElem? (i := 880) (by decide +kernel), List.mem_of_getElem? (i := 881) (by decide +kernel)⟩
theorem lw_p40 : lw_okq (⟨"TaleBenchModel", "holds", "(II)Z"⟩, 30) := ⟨⟨by decide +kernel, by decide +kernel⟩, List.mem_of_getElem? (i := 677) (by decide +kernel), List.mem_of_getElem? (i := 884) (by decide +kernel), List.mem_of_getElem? (i := 885) (by decide +kernel)⟩
theorem lw_p41 : lw_okq (⟨"TaleBenchModel", "holdsFor", "(I)I"⟩, 30) := ⟨⟨by decide +kernel, by decide +kernel⟩, List.mem_of_getElem? (i := 677) (by decide +kernel), List.mem_of_getElem? (i := 888) (by decide +kernel), List.mem_of_getElem? (i := 889) (by decide +kernel)⟩
theorem lw_p42 : lw_okq (⟨"TaleBenchModel", "reach", "()V"⟩, 30) := ⟨⟨by decide +kernel, by decide +kernel⟩, List.mem_of_getElem? (i := 677) (by decide +kernel), List.mem_of_getElem? (i := 900) (by decide +kernel), List.mem_of_getElem? (i := 901) (by decide +kernel)⟩
theorem lw_p43 : lw_okq (⟨"TaleBenchModel", "reach", "(IZ)V"⟩, 30) := ⟨⟨by decide +kernel, by decide +kernel⟩, List.mem_of_getElem? (i := 677) (by decide +kernel), List.mem_of_getElem? (i := 904) (by decide +kernel), List.mem_of_getElem? (i := 905) (by decide +kernel)⟩
theorem lw_p44 : lw_okq (⟨"TaleBenchModel", "isShut", "(IZ)Z"⟩, 30) := ⟨⟨by decide +kernel, by decide +kernel⟩, List.mem_of_getElem? (i := 677) (by decide +kernel), List.mem_of_getElem? (i := 908) (by decide +kernel), List.mem_of_getElem? (i := 909) (by decide +kernel)⟩
theorem lw_p45 : lw_okq (⟨"TaleBenchModel", "leads", "(IIZ)I"⟩, 30) := ⟨⟨by decide +kernel, by decide +kernel⟩, List.mem_of_getElem? (i := 677) (by decide +kernel), List.mem_of_getElem? (i := 912) (by decide +kernel), List.mem_of_getElem? (i := 913) (by decide +kernel)⟩
theorem lw_p46 : lw_okq (⟨"TaleBenchModel", "isEnding", "(I)Z"⟩, 30) := ⟨⟨by decide +kernel, by decide +kernel⟩, List.mem_of_getElem? (i := 677) (by decide +kernel), List.mem_of_getElem? (i := 916) (by decide +kernel), List.mem_of_getElem? (i := 917) (by decide +kernel)⟩
theorem lw_p47 : lw_okq (⟨"TaleBenchModel", "tellHope", "()V"⟩, 30) := ⟨⟨by decide +kernel, by decide +kernel⟩, List.mem_of_getElem? (i := 677) (by decide +kernel), List.mem_of_getElem? (i := 920) (by decide +kernel), List.mem_of_getElem? (i := 921) (by decide +kernel)⟩
def lw_privs_3 : List (MethodName × Nat) := [(⟨"TaleBenchModel", "kindOf", "(I)I"⟩, 30), (⟨"TaleBenchModel", "clearChoices", "(I)V"⟩, 30), (⟨"TaleBenchModel", "clearChoice", "(II)V"⟩, 30), (⟨"TaleBenchModel", "isThere", "(I)Z"⟩, 30), (⟨"TaleBenchModel", "meet", "(I)I"⟩, 30), (⟨"TaleBenchModel", "hasChoice", "(II)Z"⟩, 30), (⟨"TaleBenchModel", "lay", "(I)V"⟩, 30), (⟨"TaleBenchModel", "readBy", "(I)I"⟩, 30), (⟨"TaleBenchModel", "holds", "(II)Z"⟩, 30), (⟨"TaleBenchModel", "holdsFor", "(I)I"⟩, 30), (⟨"TaleBenchModel", "reach", "()V"⟩, 30), (⟨"TaleBenchModel", "reach", "(IZ)V"⟩, 30), (⟨"TaleBenchModel", "isShut", "(IZ)Z"⟩, 30), (⟨"TaleBenchModel", "leads", "(IIZ)I"⟩, 30), (⟨"TaleBenchModel", "isEnding", "(I)Z"⟩, 30), (⟨"TaleBenchModel", "tellHope", "()V"⟩, 30)]
theorem lw_r3 : ∀ q ∈ lw_privs_3, lw_okq q := List.forall_mem_cons.mpr ⟨lw_p32, List.forall_mem_cons.mpr ⟨lw_p33, List.forall_mem_cons.mpr ⟨lw_p34, List.forall_mem_cons.mpr ⟨lw_p35, List.forall_mem_cons.mpr ⟨lw_p36, List.forall_mem_cons.mpr ⟨lw_p37, List.forall_mem_cons.mpr ⟨lw_p38, List.forall_mem_cons.mpr ⟨lw_p39, List.forall_mem_cons.mpr ⟨lw_p40, List.forall_mem_cons.mpr ⟨lw_p41, List.forall_mem_cons.mpr ⟨lw_p42, List.forall_mem_cons.mpr ⟨lw_p43, List.forall_mem_cons.mpr ⟨lw_p44, List.forall_mem_cons.mpr ⟨lw_p45, List.forall_mem_cons.mpr ⟨lw_p46, List.forall_mem_cons.mpr ⟨lw_p47, fun _ h => absurd h List.not_mem_nil⟩⟩⟩⟩⟩⟩⟩⟩⟩⟩⟩⟩⟩⟩⟩⟩
theorem lw_p48 : lw_okq (⟨"TaleBenchModel", "tellLives", "()V"⟩, 30) := ⟨⟨by decide +kernel, by decide +kernel⟩, List.mem_of_getElem? (i := 677) (by decide +kernel), List.mem_of_getElem? (i := 924) (by decide +kernel), List.mem_of_getElem? (i := 925) (by decide +kernel)⟩
theorem lw_p49 : lw_okq (⟨"TaleBenchModel", "liveAt", "(I)I"⟩, 30) := ⟨⟨by decide +kernel, by decide +kernel⟩, List.mem_of_getElem? (i := 677) (by decide +kernel), List.mem_of_getElem? (i := 928) (by decide +kernel), List.mem_of_getElem? (i := 929) (by decide +kernel)⟩
theorem lw_p50 : lw_okq (⟨"TaleBenchModel", "isStuck", "(I)Z"⟩, 30) := ⟨⟨by decide +kernel, by decide +kernel⟩, List.mem_of_getElem? (i := 677) (by decide +kernel), List.mem_of_getElem? (i := 932) (by decide +kernel), List.mem_of_getElem? (i := 933) (by decide +kernel)⟩
theorem lw_p51 : lw_okq (⟨"TaleBenchModel", "isTrap", "(II)Z"⟩, 30) := ⟨⟨by decide +kernel, by decide +kernel⟩, List.mem_of_getElem? (i := 677) (by decide +kernel), List.mem_of_getElem? (i := 952) (by decide +kernel), List.mem_of_getElem? (i := 953) (by decide +kernel)⟩
theorem lw_p52 : lw_okq (⟨"TaleBenchModel", "nearest", "(I)I"⟩, 30) := ⟨⟨by decide +kernel, by decide +kernel⟩, List.mem_of_getElem? (i := 677) (by decide +kernel), List.mem_of_getElem? (i := 960) (by decide +kernel), List.mem_of_getElem? (i := 961) (by decide +kernel)⟩
theorem lw_p53 : lw_okq (⟨"TaleBenchModel", "goesOn", "(III)Z"⟩, 30) := ⟨⟨by decide +kernel, by decide +kernel⟩, List.mem_of_getElem? (i := 677) (by decide +kernel), List.mem_of_getElem? (i := 968) (by decide +kernel), List.mem_of_getElem? (i := 969) (by decide +kernel)⟩
theorem lw_p54 : lw_okq (⟨"TaleBenchModel", "reachedScenes", "()I"⟩, 30) := ⟨⟨by decide +kernel, by decide +kernel⟩, List.mem_of_getElem? (i := 677) (by decide +kernel), List.mem_of_getElem? (i := 985) (by decide +kernel), List.mem_of_getElem? (i := 986) (by decide +kernel)⟩
theorem lw_p55 : lw_okq (⟨"TaleBenchModel", "clashes", "(I)Z"⟩, 30) := ⟨⟨by decide +kernel, by decide +kernel⟩, List.mem_of_getElem? (i := 677) (by decide +kernel), List.mem_of_getElem? (i := 1038) (by decide +kernel), List.mem_of_getElem? (i := 1039) (by decide +kernel)⟩
def lw_privs_4 : List (MethodName × Nat) := [(⟨"TaleBenchModel", "tellLives", "()V"⟩, 30), (⟨"TaleBenchModel", "liveAt", "(I)I"⟩, 30), (⟨"TaleBenchModel", "isStuck", "(I)Z"⟩, 30), (⟨"TaleBenchModel", "isTrap", "(II)Z"⟩, 30), (⟨"TaleBenchModel", "nearest", "(I)I"⟩, 30), (⟨"TaleBenchModel", "goesOn", "(III)Z"⟩, 30), (⟨"TaleBenchModel", "reachedScenes", "()I"⟩, 30), (⟨"TaleBenchModel", "clashes", "(I)Z"⟩, 30)]
theorem lw_r4 : ∀ q ∈ lw_privs_4, lw_okq q := List.forall_mem_cons.mpr ⟨lw_p48, List.forall_mem_cons.mpr ⟨lw_p49, List.forall_mem_cons.mpr ⟨lw_p50, List.forall_mem_cons.mpr ⟨lw_p51, List.forall_mem_cons.mpr ⟨lw_p52, List.forall_mem_cons.mpr ⟨lw_p53, List.forall_mem_cons.mpr ⟨lw_p54, List.forall_mem_cons.mpr ⟨lw_p55, fun _ h => absurd h List.not_mem_nil⟩⟩⟩⟩⟩⟩⟩⟩
def lw_privs : List (MethodName × Nat) := lw_privs_1 ++ (lw_privs_2 ++ (lw_privs_3 ++ (lw_privs_4)))
def lw_tbl : List Cond := k2_sels lw_privs ++ tables_1
theorem lw_privs_ok : ∀ q ∈ lw_privs, lw_okq q := by
  show ∀ q ∈ lw_privs_1 ++ (lw_privs_2 ++ (lw_privs_3 ++ (lw_privs_4))), lw_okq q
  exact List.forall_mem_append.mpr ⟨lw_r1, List.forall_mem_append.mpr ⟨lw_r2, List.forall_mem_append.mpr ⟨lw_r3, lw_r4⟩⟩⟩
def RX0 : String := "TaleBench$Item"
def TX0 : u_T := fun k => match k with
  | 0 => ("TaleBench$Item", "main", "I", false)
  | 1 => ("TaleBench$Item", "more", "I", false)
  | 2 => ("TaleBench$Item", "less", "I", false)
  | 3 => ("TaleBench$Item", "wordCount", "I", false)
  | 4 => ("TaleBench$Item", "voice", "I", false)
  | 5 => ("TaleBench$Item", "need", "[J", true)
  | _ => ("TaleBench$Item", "reads", "I", false)
def tyX0 : Nat → FieldType := fun k => match k with
  | 0 => .int
  | 1 => .int
  | 2 => .int
  | 3 => .int
  | 4 => .int
  | 5 => .array .long
  | _ => .int
theorem nmX0 : ∀ a, a < 7 → ∀ b, b < 7 → a ≠ b → (TX0 a).2.1 ≠ (TX0 b).2.1 := by decide +kernel
theorem tyX0_ok : ∀ k, k < 7 → parseFieldDescriptor (TX0 k).2.2.1 = some (tyX0 k) := by decide +kernel
abbrev cX0_init : ByteArray := prog_2_method_1_code
def yX0_init : MethodName := ⟨RX0, "<init>", "(I)V"⟩
abbrev cX0_isThere : ByteArray := prog_2_method_2_code
def yX0_isThere : MethodName := ⟨RX0, "isThere", "()Z"⟩
abbrev cX0_isEnding : ByteArray := prog_2_method_3_code
def yX0_isEnding : MethodName := ⟨RX0, "isEnding", "()Z"⟩
abbrev cX0_become : ByteArray := prog_2_method_4_code
def yX0_become : MethodName := ⟨RX0, "become", "(I)V"⟩
abbrev cX0_copyFrom : ByteArray := prog_2_method_5_code
def yX0_copyFrom : MethodName := ⟨RX0, "copyFrom", "(LTaleBench$Item;)V"⟩
abbrev cX0_sameAs : ByteArray := prog_2_method_6_code
def yX0_sameAs : MethodName := ⟨RX0, "sameAs", "(LTaleBench$Item;)Z"⟩
abbrev cX0_putNeed : ByteArray := prog_2_method_7_code
def yX0_putNeed : MethodName := ⟨RX0, "putNeed", "([J)V"⟩
abbrev cX0_readsFact : ByteArray := prog_2_method_8_code
def yX0_readsFact : MethodName := ⟨RX0, "readsFact", "(I)Z"⟩
abbrev cX0_holdsFor : ByteArray := prog_2_method_9_code
def yX0_holdsFor : MethodName := ⟨RX0, "holdsFor", "(I)Z"⟩
abbrev cX0_countHolding : ByteArray := prog_2_method_10_code
def yX0_countHolding : MethodName := ⟨RX0, "countHolding", "()I"⟩
def RX1 : String := "TaleBench$Sheet"
def TX1 : u_T := fun k => match k with
  | 0 => ("TaleBench$Sheet", "sort", "I", false)
  | 1 => ("TaleBench$Sheet", "size", "I", false)
  | _ => ("TaleBench$Sheet", "numbers", "[I", true)
def tyX1 : Nat → FieldType := fun k => match k with
  | 0 => .int
  | 1 => .int
  | _ => .array .int
theorem nmX1 : ∀ a, a < 3 → ∀ b, b < 3 → a ≠ b → (TX1 a).2.1 ≠ (TX1 b).2.1 := by decide +kernel
theorem tyX1_ok : ∀ k, k < 3 → parseFieldDescriptor (TX1 k).2.2.1 = some (tyX1 k) := by decide +kernel
abbrev cX1_init : ByteArray := prog_3_method_1_code
def yX1_init : MethodName := ⟨RX1, "<init>", "()V"⟩
abbrev cX1_isMissing : ByteArray := prog_3_method_2_code
def yX1_isMissing : MethodName := ⟨RX1, "isMissing", "()Z"⟩
abbrev cX1_hasPlace : ByteArray := prog_3_method_3_code
def yX1_hasPlace : MethodName := ⟨RX1, "hasPlace", "(I)Z"⟩
abbrev cX1_lay : ByteArray := prog_3_method_4_code
def yX1_lay : MethodName := ⟨RX1, "lay", "(II)V"⟩
abbrev cX1_narrowed : ByteArray := prog_3_method_5_code
def yX1_narrowed : MethodName := ⟨RX1, "narrowed", "(I)I"⟩
def RX2 : String := "TaleBench$Tale"
def TX2 : u_T := fun k => match k with
  | _ => ("TaleBench$Tale", "items", "[LTaleBench$Item;", true)
def tyX2 : Nat → FieldType := fun k => match k with
  | _ => .array (.object "TaleBench$Item")
theorem nmX2 : ∀ a, a < 1 → ∀ b, b < 1 → a ≠ b → (TX2 a).2.1 ≠ (TX2 b).2.1 := by decide +kernel
theorem tyX2_ok : ∀ k, k < 1 → parseFieldDescriptor (TX2 k).2.2.1 = some (tyX2 k) := by decide +kernel
abbrev cX2_init : ByteArray := prog_4_method_1_code
def yX2_init : MethodName := ⟨RX2, "<init>", "()V"⟩
abbrev cX2_sceneItem : ByteArray := prog_4_method_2_code
def yX2_sceneItem : MethodName := ⟨RX2, "sceneItem", "(I)LTaleBench$Item;"⟩
abbrev cX2_choiceItem : ByteArray := prog_4_method_3_code
def yX2_choiceItem : MethodName := ⟨RX2, "choiceItem", "(II)LTaleBench$Item;"⟩
abbrev cX2_startItem : ByteArray := prog_4_method_4_code
def yX2_startItem : MethodName := ⟨RX2, "startItem", "()LTaleBench$Item;"⟩
abbrev cX2_copyFrom : ByteArray := prog_4_method_5_code
def yX2_copyFrom : MethodName := ⟨RX2, "copyFrom", "(LTaleBench$Tale;)V"⟩
abbrev cX2_removeChoices : ByteArray := prog_4_method_6_code
def yX2_removeChoices : MethodName := ⟨RX2, "removeChoices", "(I)V"⟩
abbrev cX2_removeLooseChoices : ByteArray := prog_4_method_7_code
def yX2_removeLooseChoices : MethodName := ⟨RX2, "removeLooseChoices", "()V"⟩
abbrev cX2_choiceBits : ByteArray := prog_4_method_8_code
def yX2_choiceBits : MethodName := ⟨RX2, "choiceBits", "(I)I"⟩
abbrev cX2_countScenes : ByteArray := prog_4_method_9_code
def yX2_countScenes : MethodName := ⟨RX2, "countScenes", "()I"⟩
abbrev cX2_countChoices : ByteArray := prog_4_method_10_code
def yX2_countChoices : MethodName := ⟨RX2, "countChoices", "()I"⟩
abbrev cX2_hasBeginning : ByteArray := prog_4_method_11_code
def yX2_hasBeginning : MethodName := ⟨RX2, "hasBeginning", "(I)Z"⟩
abbrev cX2_beginningWith : ByteArray := prog_4_method_12_code
def yX2_beginningWith : MethodName := ⟨RX2, "beginningWith", "(I)I"⟩
abbrev cX2_isEndingState : ByteArray := prog_4_method_13_code
def yX2_isEndingState : MethodName := ⟨RX2, "isEndingState", "(I)Z"⟩
abbrev cX2_leadsTo : ByteArray := prog_4_method_14_code
def yX2_leadsTo : MethodName := ⟨RX2, "leadsTo", "(III)I"⟩
abbrev cX2_findLive : ByteArray := prog_4_method_15_code
def yX2_findLive : MethodName := ⟨RX2, "findLive", "([I)V"⟩
abbrev cX2_liveAt : ByteArray := prog_4_method_16_code
def yX2_liveAt : MethodName := ⟨RX2, "liveAt", "(I[I)I"⟩
def RX3 : String := "TaleBench$Tape"
def TX3 : u_T := fun k => match k with
  | 0 => ("TaleBench$Tape", "signs", "[B", true)
  | 1 => ("TaleBench$Tape", "length", "I", false)
  | 2 => ("TaleBench$Tape", "need", "[J", true)
  | 3 => ("TaleBench$Tape", "place", "I", false)
  | 4 => ("TaleBench$Tape", "wrong", "I", false)
  | _ => ("TaleBench$Tape", "part", "I", false)
def tyX3 : Nat → FieldType := fun k => match k with
  | 0 => .array .byte
  | 1 => .int
  | 2 => .array .long
  | 3 => .int
  | 4 => .int
  | _ => .int
theorem nmX3 : ∀ a, a < 6 → ∀ b, b < 6 → a ≠ b → (TX3 a).2.1 ≠ (TX3 b).2.1 := by decide +kernel
theorem tyX3_ok : ∀ k, k < 6 → parseFieldDescriptor (TX3 k).2.2.1 = some (tyX3 k) := by decide +kernel
abbrev cX3_init : ByteArray := prog_5_method_1_code
def yX3_init : MethodName := ⟨RX3, "<init>", "()V"⟩
abbrev cX3_add : ByteArray := prog_5_method_2_code
def yX3_add : MethodName := ⟨RX3, "add", "(B)V"⟩
abbrev cX3_readNeed : ByteArray := prog_5_method_3_code
def yX3_readNeed : MethodName := ⟨RX3, "readNeed", "()I"⟩
abbrev cX3_readEither : ByteArray := prog_5_method_4_code
def yX3_readEither : MethodName := ⟨RX3, "readEither", "(I)J"⟩
abbrev cX3_readBoth : ByteArray := prog_5_method_5_code
def yX3_readBoth : MethodName := ⟨RX3, "readBoth", "(I)J"⟩
abbrev cX3_readOne : ByteArray := prog_5_method_6_code
def yX3_readOne : MethodName := ⟨RX3, "readOne", "(I)J"⟩
abbrev cX3_readClosed : ByteArray := prog_5_method_7_code
def yX3_readClosed : MethodName := ⟨RX3, "readClosed", "(I)J"⟩
abbrev cX3_sign : ByteArray := prog_5_method_8_code
def yX3_sign : MethodName := ⟨RX3, "sign", "()I"⟩
abbrev cX3_factBits : ByteArray := prog_5_method_9_code
def yX3_factBits : MethodName := ⟨RX3, "factBits", "(I)J"⟩
def RX4 : String := "TaleBench$Web"
def TX4 : u_T := fun k => match k with
  | 0 => ("TaleBench$Web", "order", "[I", true)
  | 1 => ("TaleBench$Web", "size", "I", false)
  | 2 => ("TaleBench$Web", "via", "[I", true)
  | 3 => ("TaleBench$Web", "distance", "[I", true)
  | 4 => ("TaleBench$Web", "next", "[I", true)
  | 5 => ("TaleBench$Web", "lastInto", "[I", true)
  | 6 => ("TaleBench$Web", "link", "[I", true)
  | 7 => ("TaleBench$Web", "marks", "[I", true)
  | 8 => ("TaleBench$Web", "queue", "[I", true)
  | 9 => ("TaleBench$Web", "flags", "[Z", true)
  | 10 => ("TaleBench$Web", "rows", "[J", false)
  | _ => ("TaleBench$Web", "longerRows", "[J", false)
def tyX4 : Nat → FieldType := fun k => match k with
  | 0 => .array .int
  | 1 => .int
  | 2 => .array .int
  | 3 => .array .int
  | 4 => .array .int
  | 5 => .array .int
  | 6 => .array .int
  | 7 => .array .int
  | 8 => .array .int
  | 9 => .array .boolean
  | 10 => .array .long
  | _ => .array .long
theorem nmX4 : ∀ a, a < 12 → ∀ b, b < 12 → a ≠ b → (TX4 a).2.1 ≠ (TX4 b).2.1 := by decide +kernel
theorem tyX4_ok : ∀ k, k < 12 → parseFieldDescriptor (TX4 k).2.2.1 = some (tyX4 k) := by decide +kernel
abbrev cX4_init : ByteArray := prog_6_method_1_code
def yX4_init : MethodName := ⟨RX4, "<init>", "()V"⟩
abbrev cX4_clear : ByteArray := prog_6_method_2_code
def yX4_clear : MethodName := ⟨RX4, "clear", "()V"⟩
abbrev cX4_come : ByteArray := prog_6_method_3_code
def yX4_come : MethodName := ⟨RX4, "come", "(II)V"⟩
abbrev cX4_weave : ByteArray := prog_6_method_4_code
def yX4_weave : MethodName := ⟨RX4, "weave", "(LTaleBench$Tale;I)V"⟩
abbrev cX4_spreadMarks : ByteArray := prog_6_method_5_code
def yX4_spreadMarks : MethodName := ⟨RX4, "spreadMarks", "()V"⟩
abbrev cX4_spreadFrom : ByteArray := prog_6_method_6_code
def yX4_spreadFrom : MethodName := ⟨RX4, "spreadFrom", "(III)I"⟩
abbrev cX4_leadsOn : ByteArray := prog_6_method_7_code
def yX4_leadsOn : MethodName := ⟨RX4, "leadsOn", "(I)Z"⟩
abbrev cX4_scenesCome : ByteArray := prog_6_method_8_code
def yX4_scenesCome : MethodName := ⟨RX4, "scenesCome", "()I"⟩
abbrev cX4_firstOf : ByteArray := prog_6_method_9_code
def yX4_firstOf : MethodName := ⟨RX4, "firstOf", "(I)I"⟩
abbrev cX4_choiceOfWay : ByteArray := prog_6_method_10_code
def yX4_choiceOfWay : MethodName := ⟨RX4, "choiceOfWay", "(II)I"⟩
abbrev cX4_countPairs : ByteArray := prog_6_method_11_code
def yX4_countPairs : MethodName := ⟨RX4, "countPairs", "([I)I"⟩
abbrev cX4_pairOf : ByteArray := prog_6_method_12_code
def yX4_pairOf : MethodName := ⟨RX4, "pairOf", "(I[I)I"⟩
abbrev cX4_countRows : ByteArray := prog_6_method_13_code
def yX4_countRows : MethodName := ⟨RX4, "countRows", "(I)V"⟩
abbrev cX4_passRowsOn : ByteArray := prog_6_method_14_code
def yX4_passRowsOn : MethodName := ⟨RX4, "passRowsOn", "(I)V"⟩
def RX5 : String := "TaleBench"
def TX5 : u_T := fun k => match k with
  | 0 => ("TaleBench", "tape", "LTaleBench$Tape;", true)
  | 1 => ("TaleBench", "tale", "LTaleBench$Tale;", true)
  | 2 => ("TaleBench", "base", "LTaleBench$Tale;", true)
  | 3 => ("TaleBench", "other", "LTaleBench$Tale;", true)
  | 4 => ("TaleBench", "baseKept", "Z", false)
  | 5 => ("TaleBench", "otherKept", "Z", false)
  | 6 => ("TaleBench", "cuts", "I", false)
  | 7 => ("TaleBench", "web", "LTaleBench$Web;", true)
  | 8 => ("TaleBench", "webIsFresh", "Z", false)
  | 9 => ("TaleBench", "liveFacts", "[I", true)
  | 10 => ("TaleBench", "trapBits", "[I", true)
  | 11 => ("TaleBench", "sheets", "[LTaleBench$Sheet;", true)
  | 12 => ("TaleBench", "waiting", "[I", true)
  | 13 => ("TaleBench", "waitingCount", "I", false)
  | 14 => ("TaleBench", "playedTo", "I", false)
  | _ => ("TaleBench", "hostFindings", "I", false)
def tyX5 : Nat → FieldType := fun k => match k with
  | 0 => .object "TaleBench$Tape"
  | 1 => .object "TaleBench$Tale"
  | 2 => .object "TaleBench$Tale"
  | 3 => .object "TaleBench$Tale"
  | 4 => .boolean
  | 5 => .boolean
  | 6 => .int
  | 7 => .object "TaleBench$Web"
  | 8 => .boolean
  | 9 => .array .int
  | 10 => .array .int
  | 11 => .array (.object "TaleBench$Sheet")
  | 12 => .array .int
  | 13 => .int
  | 14 => .int
  | _ => .int
theorem nmX5 : ∀ a, a < 16 → ∀ b, b < 16 → a ≠ b → (TX5 a).2.1 ≠ (TX5 b).2.1 := by decide +kernel
theorem tyX5_ok : ∀ k, k < 16 → parseFieldDescriptor (TX5 k).2.2.1 = some (tyX5 k) := by decide +kernel
abbrev cX5_init : ByteArray := prog_1_method_1_code
def yX5_init : MethodName := ⟨RX5, "<init>", "()V"⟩
abbrev cX5_feed : ByteArray := prog_1_method_2_code
def yX5_feed : MethodName := ⟨RX5, "feed", "(JI)I"⟩
abbrev cX5_scene : ByteArray := prog_1_method_3_code
def yX5_scene : MethodName := ⟨RX5, "scene", "(II)I"⟩
abbrev cX5_putScene : ByteArray := prog_1_method_4_code
def yX5_putScene : MethodName := ⟨RX5, "putScene", "(II)I"⟩
abbrev cX5_loss : ByteArray := prog_1_method_5_code
def yX5_loss : MethodName := ⟨RX5, "loss", "(II)I"⟩
abbrev cX5_choice : ByteArray := prog_1_method_6_code
def yX5_choice : MethodName := ⟨RX5, "choice", "(III)I"⟩
abbrev cX5_putChoice : ByteArray := prog_1_method_7_code
def yX5_putChoice : MethodName := ⟨RX5, "putChoice", "(III)I"⟩
abbrev cX5_gives : ByteArray := prog_1_method_8_code
def yX5_gives : MethodName := ⟨RX5, "gives", "(IIII)I"⟩
abbrev cX5_line : ByteArray := prog_1_method_9_code
def yX5_line : MethodName := ⟨RX5, "line", "(IIII)I"⟩
abbrev cX5_drop : ByteArray := prog_1_method_10_code
def yX5_drop : MethodName := ⟨RX5, "drop", "(II)I"⟩
abbrev cX5_start : ByteArray := prog_1_method_11_code
def yX5_start : MethodName := ⟨RX5, "start", "(I)I"⟩
abbrev cX5_of : ByteArray := prog_1_method_12_code
def yX5_of : MethodName := ⟨RX5, "of", "(II)I"⟩
abbrev cX5_about : ByteArray := prog_1_method_13_code
def yX5_about : MethodName := ⟨RX5, "about", "(III)I"⟩
abbrev cX5_states : ByteArray := prog_1_method_14_code
def yX5_states : MethodName := ⟨RX5, "states", "(I)I"⟩
abbrev cX5_countEndings : ByteArray := prog_1_method_15_code
def yX5_countEndings : MethodName := ⟨RX5, "countEndings", "()I"⟩
abbrev cX5_countStuck : ByteArray := prog_1_method_16_code
def yX5_countStuck : MethodName := ⟨RX5, "countStuck", "()I"⟩
abbrev cX5_countHopeless : ByteArray := prog_1_method_17_code
def yX5_countHopeless : MethodName := ⟨RX5, "countHopeless", "()I"⟩
abbrev cX5_isHopeless : ByteArray := prog_1_method_18_code
def yX5_isHopeless : MethodName := ⟨RX5, "isHopeless", "(I)Z"⟩
abbrev cX5_reached : ByteArray := prog_1_method_19_code
def yX5_reached : MethodName := ⟨RX5, "reached", "(I)I"⟩
abbrev cX5_live : ByteArray := prog_1_method_20_code
def yX5_live : MethodName := ⟨RX5, "live", "(I)I"⟩
abbrev cX5_open : ByteArray := prog_1_method_21_code
def yX5_open : MethodName := ⟨RX5, "open", "(II)I"⟩
abbrev cX5_trap : ByteArray := prog_1_method_22_code
def yX5_trap : MethodName := ⟨RX5, "trap", "(I)I"⟩
abbrev cX5_findTraps : ByteArray := prog_1_method_23_code
def yX5_findTraps : MethodName := ⟨RX5, "findTraps", "()V"⟩
abbrev cX5_trapsOf : ByteArray := prog_1_method_24_code
def yX5_trapsOf : MethodName := ⟨RX5, "trapsOf", "(I)I"⟩
abbrev cX5_way : ByteArray := prog_1_method_25_code
def yX5_way : MethodName := ⟨RX5, "way", "(I)I"⟩
abbrev cX5_step : ByteArray := prog_1_method_26_code
def yX5_step : MethodName := ⟨RX5, "step", "(II)I"⟩
abbrev cX5_ways : ByteArray := prog_1_method_27_code
def yX5_ways : MethodName := ⟨RX5, "ways", "(I)J"⟩
abbrev cX5_freshenWeb : ByteArray := prog_1_method_28_code
def yX5_freshenWeb : MethodName := ⟨RX5, "freshenWeb", "()V"⟩
abbrev cX5_weaveFromBeginning : ByteArray := prog_1_method_29_code
def yX5_weaveFromBeginning : MethodName := ⟨RX5, "weaveFromBeginning", "(I)V"⟩
abbrev cX5_cut : ByteArray := prog_1_method_30_code
def yX5_cut : MethodName := ⟨RX5, "cut", "(IZ)I"⟩
abbrev cX5_mend : ByteArray := prog_1_method_31_code
def yX5_mend : MethodName := ⟨RX5, "mend", "()I"⟩
abbrev cX5_weaveFromEachMending : ByteArray := prog_1_method_32_code
def yX5_weaveFromEachMending : MethodName := ⟨RX5, "weaveFromEachMending", "()V"⟩
abbrev cX5_leastMending : ByteArray := prog_1_method_33_code
def yX5_leastMending : MethodName := ⟨RX5, "leastMending", "(I)I"⟩
abbrev cX5_sheet : ByteArray := prog_1_method_34_code
def yX5_sheet : MethodName := ⟨RX5, "sheet", "(III)I"⟩
abbrev cX5_write : ByteArray := prog_1_method_35_code
def yX5_write : MethodName := ⟨RX5, "write", "(III)I"⟩
abbrev cX5_words : ByteArray := prog_1_method_36_code
def yX5_words : MethodName := ⟨RX5, "words", "(IIII)I"⟩
abbrev cX5_takeWords : ByteArray := prog_1_method_37_code
def yX5_takeWords : MethodName := ⟨RX5, "takeWords", "(ILTaleBench$Sheet;I)I"⟩
abbrev cX5_sessions : ByteArray := prog_1_method_38_code
def yX5_sessions : MethodName := ⟨RX5, "sessions", "(II)I"⟩
abbrev cX5_tell : ByteArray := prog_1_method_39_code
def yX5_tell : MethodName := ⟨RX5, "tell", "(I)I"⟩
abbrev cX5_play : ByteArray := prog_1_method_40_code
def yX5_play : MethodName := ⟨RX5, "play", "()I"⟩
abbrev cX5_at : ByteArray := prog_1_method_41_code
def yX5_at : MethodName := ⟨RX5, "at", "(I)I"⟩
abbrev cX5_keep : ByteArray := prog_1_method_42_code
def yX5_keep : MethodName := ⟨RX5, "keep", "(I)I"⟩
abbrev cX5_back : ByteArray := prog_1_method_43_code
def yX5_back : MethodName := ⟨RX5, "back", "(I)I"⟩
abbrev cX5_melt : ByteArray := prog_1_method_44_code
def yX5_melt : MethodName := ⟨RX5, "melt", "()I"⟩
abbrev cX5_clash : ByteArray := prog_1_method_45_code
def yX5_clash : MethodName := ⟨RX5, "clash", "(I)I"⟩
abbrev cX5_clashingItem : ByteArray := prog_1_method_46_code
def yX5_clashingItem : MethodName := ⟨RX5, "clashingItem", "(I)I"⟩
abbrev cX5_isClashing : ByteArray := prog_1_method_47_code
def yX5_isClashing : MethodName := ⟨RX5, "isClashing", "(LTaleBench$Item;LTaleBench$Item;LTaleBench$Item;)Z"⟩
abbrev cX5_count : ByteArray := prog_1_method_48_code
def yX5_count : MethodName := ⟨RX5, "count", "(I)I"⟩
abbrev cX5_hostFinding : ByteArray := prog_1_method_49_code
def yX5_hostFinding : MethodName := ⟨RX5, "hostFinding", "(I)I"⟩
abbrev cX5_isCut : ByteArray := prog_1_method_50_code
def yX5_isCut : MethodName := ⟨RX5, "isCut", "(I)Z"⟩
abbrev cX5_isScene : ByteArray := prog_1_method_51_code
def yX5_isScene : MethodName := ⟨RX5, "isScene", "(I)Z"⟩
abbrev cX5_isChoice : ByteArray := prog_1_method_52_code
def yX5_isChoice : MethodName := ⟨RX5, "isChoice", "(I)Z"⟩
abbrev cX5_isSet : ByteArray := prog_1_method_53_code
def yX5_isSet : MethodName := ⟨RX5, "isSet", "(I)Z"⟩
abbrev cX5_isVoice : ByteArray := prog_1_method_54_code
def yX5_isVoice : MethodName := ⟨RX5, "isVoice", "(I)Z"⟩
abbrev cX5_isSheet : ByteArray := prog_1_method_55_code
def yX5_isSheet : MethodName := ⟨RX5, "isSheet", "(I)Z"⟩
abbrev cX5_isSort : ByteArray := prog_1_method_56_code
def yX5_isSort : MethodName := ⟨RX5, "isSort", "(I)Z"⟩
abbrev cX5_stateOf : ByteArray := prog_1_method_57_code
def yX5_stateOf : MethodName := ⟨RX5, "stateOf", "(II)I"⟩
abbrev cX5_sceneOf : ByteArray := prog_1_method_58_code
def yX5_sceneOf : MethodName := ⟨RX5, "sceneOf", "(I)I"⟩
abbrev cX5_factsOf : ByteArray := prog_1_method_59_code
def yX5_factsOf : MethodName := ⟨RX5, "factsOf", "(I)I"⟩
def RX6 : String := "TaleBenchModel"
def TX6 : u_T := fun k => match k with
  | 0 => ("TaleBenchModel", "tale", "[I", true)
  | 1 => ("TaleBenchModel", "base", "[I", true)
  | 2 => ("TaleBenchModel", "otherTale", "[I", true)
  | 3 => ("TaleBenchModel", "hasBase", "Z", false)
  | 4 => ("TaleBenchModel", "hasOther", "Z", false)
  | 5 => ("TaleBenchModel", "isCut", "[Z", true)
  | 6 => ("TaleBenchModel", "tape", "[I", true)
  | 7 => ("TaleBenchModel", "taped", "I", false)
  | 8 => ("TaleBenchModel", "sheetSort", "[I", true)
  | 9 => ("TaleBenchModel", "sheetSize", "[I", true)
  | 10 => ("TaleBenchModel", "sheet", "[I", true)
  | 11 => ("TaleBenchModel", "waits", "I", false)
  | 12 => ("TaleBenchModel", "waiting", "[I", true)
  | 13 => ("TaleBenchModel", "hasPlayed", "Z", false)
  | 14 => ("TaleBenchModel", "playedScene", "I", false)
  | 15 => ("TaleBenchModel", "playedFacts", "I", false)
  | 16 => ("TaleBenchModel", "met", "I", false)
  | 17 => ("TaleBenchModel", "place", "I", false)
  | 18 => ("TaleBenchModel", "isWrong", "Z", false)
  | 19 => ("TaleBenchModel", "set", "I", false)
  | 20 => ("TaleBenchModel", "deep", "I", false)
  | 21 => ("TaleBenchModel", "newNeed", "[I", true)
  | 22 => ("TaleBenchModel", "far", "[I", true)
  | 23 => ("TaleBenchModel", "queue", "[I", true)
  | 24 => ("TaleBenchModel", "queued", "I", false)
  | 25 => ("TaleBenchModel", "hopes", "[Z", true)
  | 26 => ("TaleBenchModel", "lives", "[I", true)
  | 27 => ("TaleBenchModel", "seen", "[Z", true)
  | 28 => ("TaleBenchModel", "rows", "[J", true)
  | _ => ("TaleBenchModel", "nextRows", "[J", true)
def tyX6 : Nat → FieldType := fun k => match k with
  | 0 => .array .int
  | 1 => .array .int
  | 2 => .array .int
  | 3 => .boolean
  | 4 => .boolean
  | 5 => .array .boolean
  | 6 => .array .int
  | 7 => .int
  | 8 => .array .int
  | 9 => .array .int
  | 10 => .array .int
  | 11 => .int
  | 12 => .array .int
  | 13 => .boolean
  | 14 => .int
  | 15 => .int
  | 16 => .int
  | 17 => .int
  | 18 => .boolean
  | 19 => .int
  | 20 => .int
  | 21 => .array .int
  | 22 => .array .int
  | 23 => .array .int
  | 24 => .int
  | 25 => .array .boolean
  | 26 => .array .int
  | 27 => .array .boolean
  | 28 => .array .long
  | _ => .array .long
theorem nmX6 : ∀ a, a < 30 → ∀ b, b < 30 → a ≠ b → (TX6 a).2.1 ≠ (TX6 b).2.1 := by decide +kernel
theorem tyX6_ok : ∀ k, k < 30 → parseFieldDescriptor (TX6 k).2.2.1 = some (tyX6 k) := by decide +kernel
abbrev cX6_init : ByteArray := prog_8_method_1_code
def yX6_init : MethodName := ⟨RX6, "<init>", "()V"⟩
abbrev cX6_meet : ByteArray := prog_8_method_2_code
def yX6_meet : MethodName := ⟨RX6, "meet", "(I)I"⟩
abbrev cX6_isIn : ByteArray := prog_8_method_3_code
def yX6_isIn : MethodName := ⟨RX6, "isIn", "(III)Z"⟩
abbrev cX6_isScene : ByteArray := prog_8_method_4_code
def yX6_isScene : MethodName := ⟨RX6, "isScene", "(I)Z"⟩
abbrev cX6_isPlace : ByteArray := prog_8_method_5_code
def yX6_isPlace : MethodName := ⟨RX6, "isPlace", "(II)Z"⟩
abbrev cX6_isSet : ByteArray := prog_8_method_6_code
def yX6_isSet : MethodName := ⟨RX6, "isSet", "(I)Z"⟩
abbrev cX6_kindOf : ByteArray := prog_8_method_7_code
def yX6_kindOf : MethodName := ⟨RX6, "kindOf", "(I)I"⟩
abbrev cX6_isThere : ByteArray := prog_8_method_8_code
def yX6_isThere : MethodName := ⟨RX6, "isThere", "(I)Z"⟩
abbrev cX6_at : ByteArray := prog_8_method_9_code
def yX6_at : MethodName := ⟨RX6, "at", "(II)I"⟩
abbrev cX6_hasChoice : ByteArray := prog_8_method_10_code
def yX6_hasChoice : MethodName := ⟨RX6, "hasChoice", "(II)Z"⟩
abbrev cX6_holds : ByteArray := prog_8_method_11_code
def yX6_holds : MethodName := ⟨RX6, "holds", "(II)Z"⟩
abbrev cX6_readBy : ByteArray := prog_8_method_12_code
def yX6_readBy : MethodName := ⟨RX6, "readBy", "(I)I"⟩
abbrev cX6_holdsFor : ByteArray := prog_8_method_13_code
def yX6_holdsFor : MethodName := ⟨RX6, "holdsFor", "(I)I"⟩
abbrev cX6_feed : ByteArray := prog_8_method_14_code
def yX6_feed : MethodName := ⟨RX6, "feed", "(JI)I"⟩
abbrev cX6_here : ByteArray := prog_8_method_15_code
def yX6_here : MethodName := ⟨RX6, "here", "()I"⟩
abbrev cX6_either : ByteArray := prog_8_method_16_code
def yX6_either : MethodName := ⟨RX6, "either", "()Z"⟩
abbrev cX6_both : ByteArray := prog_8_method_17_code
def yX6_both : MethodName := ⟨RX6, "both", "()Z"⟩
abbrev cX6_one : ByteArray := prog_8_method_18_code
def yX6_one : MethodName := ⟨RX6, "one", "()Z"⟩
abbrev cX6_read : ByteArray := prog_8_method_19_code
def yX6_read : MethodName := ⟨RX6, "read", "(I)Z"⟩
abbrev cX6_readNeed : ByteArray := prog_8_method_20_code
def yX6_readNeed : MethodName := ⟨RX6, "readNeed", "()I"⟩
abbrev cX6_lay : ByteArray := prog_8_method_21_code
def yX6_lay : MethodName := ⟨RX6, "lay", "(I)V"⟩
abbrev cX6_clearChoice : ByteArray := prog_8_method_22_code
def yX6_clearChoice : MethodName := ⟨RX6, "clearChoice", "(II)V"⟩
abbrev cX6_clearChoices : ByteArray := prog_8_method_23_code
def yX6_clearChoices : MethodName := ⟨RX6, "clearChoices", "(I)V"⟩
abbrev cX6_hasNeed : ByteArray := prog_8_method_24_code
def yX6_hasNeed : MethodName := ⟨RX6, "hasNeed", "(I)Z"⟩
abbrev cX6_scene : ByteArray := prog_8_method_25_code
def yX6_scene : MethodName := ⟨RX6, "scene", "(II)I"⟩
abbrev cX6_loss : ByteArray := prog_8_method_26_code
def yX6_loss : MethodName := ⟨RX6, "loss", "(II)I"⟩
abbrev cX6_choice : ByteArray := prog_8_method_27_code
def yX6_choice : MethodName := ⟨RX6, "choice", "(III)I"⟩
abbrev cX6_gives : ByteArray := prog_8_method_28_code
def yX6_gives : MethodName := ⟨RX6, "gives", "(IIII)I"⟩
abbrev cX6_line : ByteArray := prog_8_method_29_code
def yX6_line : MethodName := ⟨RX6, "line", "(IIII)I"⟩
abbrev cX6_drop : ByteArray := prog_8_method_30_code
def yX6_drop : MethodName := ⟨RX6, "drop", "(II)I"⟩
abbrev cX6_start : ByteArray := prog_8_method_31_code
def yX6_start : MethodName := ⟨RX6, "start", "(I)I"⟩
abbrev cX6_of : ByteArray := prog_8_method_32_code
def yX6_of : MethodName := ⟨RX6, "of", "(II)I"⟩
abbrev cX6_about : ByteArray := prog_8_method_33_code
def yX6_about : MethodName := ⟨RX6, "about", "(III)I"⟩
abbrev cX6_isEnding : ByteArray := prog_8_method_34_code
def yX6_isEnding : MethodName := ⟨RX6, "isEnding", "(I)Z"⟩
abbrev cX6_isShut : ByteArray := prog_8_method_35_code
def yX6_isShut : MethodName := ⟨RX6, "isShut", "(IZ)Z"⟩
abbrev cX6_leads : ByteArray := prog_8_method_36_code
def yX6_leads : MethodName := ⟨RX6, "leads", "(IIZ)I"⟩
abbrev cX6_reach : ByteArray := prog_8_method_37_code
def yX6_reach : MethodName := ⟨RX6, "reach", "(IZ)V"⟩
abbrev cX6_reach_ : ByteArray := prog_8_method_38_code
def yX6_reach_ : MethodName := ⟨RX6, "reach", "()V"⟩
abbrev cX6_isStuck : ByteArray := prog_8_method_39_code
def yX6_isStuck : MethodName := ⟨RX6, "isStuck", "(I)Z"⟩
abbrev cX6_tellHope : ByteArray := prog_8_method_40_code
def yX6_tellHope : MethodName := ⟨RX6, "tellHope", "()V"⟩
abbrev cX6_tellLives : ByteArray := prog_8_method_41_code
def yX6_tellLives : MethodName := ⟨RX6, "tellLives", "()V"⟩
abbrev cX6_liveAt : ByteArray := prog_8_method_42_code
def yX6_liveAt : MethodName := ⟨RX6, "liveAt", "(I)I"⟩
abbrev cX6_states : ByteArray := prog_8_method_43_code
def yX6_states : MethodName := ⟨RX6, "states", "(I)I"⟩
abbrev cX6_reached : ByteArray := prog_8_method_44_code
def yX6_reached : MethodName := ⟨RX6, "reached", "(I)I"⟩
abbrev cX6_live : ByteArray := prog_8_method_45_code
def yX6_live : MethodName := ⟨RX6, "live", "(I)I"⟩
abbrev cX6_open : ByteArray := prog_8_method_46_code
def yX6_open : MethodName := ⟨RX6, "open", "(II)I"⟩
abbrev cX6_isTrap : ByteArray := prog_8_method_47_code
def yX6_isTrap : MethodName := ⟨RX6, "isTrap", "(II)Z"⟩
abbrev cX6_trap : ByteArray := prog_8_method_48_code
def yX6_trap : MethodName := ⟨RX6, "trap", "(I)I"⟩
abbrev cX6_nearest : ByteArray := prog_8_method_49_code
def yX6_nearest : MethodName := ⟨RX6, "nearest", "(I)I"⟩
abbrev cX6_way : ByteArray := prog_8_method_50_code
def yX6_way : MethodName := ⟨RX6, "way", "(I)I"⟩
abbrev cX6_step : ByteArray := prog_8_method_51_code
def yX6_step : MethodName := ⟨RX6, "step", "(II)I"⟩
abbrev cX6_goesOn : ByteArray := prog_8_method_52_code
def yX6_goesOn : MethodName := ⟨RX6, "goesOn", "(III)Z"⟩
abbrev cX6_ways : ByteArray := prog_8_method_53_code
def yX6_ways : MethodName := ⟨RX6, "ways", "(I)J"⟩
abbrev cX6_cut : ByteArray := prog_8_method_54_code
def yX6_cut : MethodName := ⟨RX6, "cut", "(IZ)I"⟩
abbrev cX6_reachedScenes : ByteArray := prog_8_method_55_code
def yX6_reachedScenes : MethodName := ⟨RX6, "reachedScenes", "()I"⟩
abbrev cX6_size : ByteArray := prog_8_method_56_code
def yX6_size : MethodName := ⟨RX6, "size", "(I)I"⟩
abbrev cX6_mend : ByteArray := prog_8_method_57_code
def yX6_mend : MethodName := ⟨RX6, "mend", "()I"⟩
abbrev cX6_isSheet : ByteArray := prog_8_method_58_code
def yX6_isSheet : MethodName := ⟨RX6, "isSheet", "(I)Z"⟩
abbrev cX6_sheet : ByteArray := prog_8_method_59_code
def yX6_sheet : MethodName := ⟨RX6, "sheet", "(III)I"⟩
abbrev cX6_write : ByteArray := prog_8_method_60_code
def yX6_write : MethodName := ⟨RX6, "write", "(III)I"⟩
abbrev cX6_words : ByteArray := prog_8_method_61_code
def yX6_words : MethodName := ⟨RX6, "words", "(IIII)I"⟩
abbrev cX6_sessions : ByteArray := prog_8_method_62_code
def yX6_sessions : MethodName := ⟨RX6, "sessions", "(II)I"⟩
abbrev cX6_tell : ByteArray := prog_8_method_63_code
def yX6_tell : MethodName := ⟨RX6, "tell", "(I)I"⟩
abbrev cX6_play : ByteArray := prog_8_method_64_code
def yX6_play : MethodName := ⟨RX6, "play", "()I"⟩
abbrev cX6_at_ : ByteArray := prog_8_method_65_code
def yX6_at_ : MethodName := ⟨RX6, "at", "(I)I"⟩
abbrev cX6_carry : ByteArray := prog_8_method_66_code
def yX6_carry : MethodName := ⟨RX6, "carry", "([I[I)V"⟩
abbrev cX6_keep : ByteArray := prog_8_method_67_code
def yX6_keep : MethodName := ⟨RX6, "keep", "(I)I"⟩
abbrev cX6_back : ByteArray := prog_8_method_68_code
def yX6_back : MethodName := ⟨RX6, "back", "(I)I"⟩
abbrev cX6_itemFrom : ByteArray := prog_8_method_69_code
def yX6_itemFrom : MethodName := ⟨RX6, "itemFrom", "(I)I"⟩
abbrev cX6_itemWide : ByteArray := prog_8_method_70_code
def yX6_itemWide : MethodName := ⟨RX6, "itemWide", "(I)I"⟩
abbrev cX6_differs : ByteArray := prog_8_method_71_code
def yX6_differs : MethodName := ⟨RX6, "differs", "(I[I[I)Z"⟩
abbrev cX6_clashes : ByteArray := prog_8_method_72_code
def yX6_clashes : MethodName := ⟨RX6, "clashes", "(I)Z"⟩
abbrev cX6_melt : ByteArray := prog_8_method_73_code
def yX6_melt : MethodName := ⟨RX6, "melt", "()I"⟩
abbrev cX6_clash : ByteArray := prog_8_method_74_code
def yX6_clash : MethodName := ⟨RX6, "clash", "(I)I"⟩
abbrev cX6_count : ByteArray := prog_8_method_75_code
def yX6_count : MethodName := ⟨RX6, "count", "(I)I"⟩
def RJ6 : String := "java/lang/Integer"
def TJ6 : u_T := fun k => match k with
  | _ => ("", "", "", false)
def tyJ6 : Nat → FieldType := fun k => match k with
  | _ => .int
theorem nmJ6 : ∀ a, a < 0 → ∀ b, b < 0 → a ≠ b → (TJ6 a).2.1 ≠ (TJ6 b).2.1 := by decide +kernel
theorem tyJ6_ok : ∀ k, k < 0 → parseFieldDescriptor (TJ6 k).2.2.1 = some (tyJ6 k) := by decide +kernel
abbrev cJ6_bitCount_0f7a4 : ByteArray := prog_9_method_49_code
def yJ6_bitCount_0f7a4 : MethodName := ⟨RJ6, "bitCount", "(I)I"⟩
def RJ13 : String := "java/lang/Long"
def TJ13 : u_T := fun k => match k with
  | _ => ("", "", "", false)
def tyJ13 : Nat → FieldType := fun k => match k with
  | _ => .int
theorem nmJ13 : ∀ a, a < 0 → ∀ b, b < 0 → a ≠ b → (TJ13 a).2.1 ≠ (TJ13 b).2.1 := by decide +kernel
theorem tyJ13_ok : ∀ k, k < 0 → parseFieldDescriptor (TJ13 k).2.2.1 = some (tyJ13 k) := by decide +kernel
abbrev cJ13_bitCount_95d88 : ByteArray := prog_10_method_50_code
def yJ13_bitCount_95d88 : MethodName := ⟨RJ13, "bitCount", "(J)I"⟩
def RJ9 : String := "java/lang/Math"
def TJ9 : u_T := fun k => match k with
  | _ => ("", "", "", false)
def tyJ9 : Nat → FieldType := fun k => match k with
  | _ => .int
theorem nmJ9 : ∀ a, a < 0 → ∀ b, b < 0 → a ≠ b → (TJ9 a).2.1 ≠ (TJ9 b).2.1 := by decide +kernel
theorem tyJ9_ok : ∀ k, k < 0 → parseFieldDescriptor (TJ9 k).2.2.1 = some (tyJ9 k) := by decide +kernel
abbrev cJ9_max_7cf53 : ByteArray := prog_11_method_65_code
def yJ9_max_7cf53 : MethodName := ⟨RJ9, "max", "(II)I"⟩
abbrev cJ9_min_7cf53 : ByteArray := prog_11_method_69_code
def yJ9_min_7cf53 : MethodName := ⟨RJ9, "min", "(II)I"⟩
def RL : String := "TaleBenchLaw"
abbrev cL_law : ByteArray := code
def yL_law : MethodName := ⟨RL, "law", "([I)Z"⟩
abbrev vwCl : List vw_C := [(RX0, TX0, 7), (RX1, TX1, 3), (RX2, TX2, 1), (RX3, TX3, 6), (RX4, TX4, 12), (RX5, TX5, 16), (RX6, TX6, 30)]
end
section
theorem dX0_init_0 : decode cX0_init 0 = .ok (.aload_n 0, 1) := by decide +kernel
theorem dX0_init_1 : decode cX0_init 1 = .ok (.invokespecial 3, 3) := by decide +kernel
theorem dX0_init_4 : decode cX0_init 4 = .ok (.aload_n 0, 1) := by decide +kernel
theorem dX0_init_5 : decode cX0_init 5 = .ok (.iconst 4, 1) := by decide +kernel
theorem dX0_init_6 : decode cX0_init 6 = .ok (.newarray .long, 2) := by decide +kernel
theorem dX0_init_8 : decode cX0_init 8 = .ok (.putfield 9, 3) := by decide +kernel
theorem dX0_init_11 : decode cX0_init 11 = .ok (.aload_n 0, 1) := by decide +kernel
theorem dX0_init_12 : decode cX0_init 12 = .ok (.iload_n 1, 1) := by decide +kernel
theorem dX0_init_13 : decode cX0_init 13 = .ok (.invokevirtual 15, 3) := by decide +kernel
theorem dX0_init_16 : decode cX0_init 16 = .ok (.return_, 1) := by decide +kernel
theorem dX0_isThere_0 : decode cX0_isThere 0 = .ok (.aload_n 0, 1) := by decide +kernel
theorem dX0_isThere_1 : decode cX0_isThere 1 = .ok (.getfield 19, 3) := by decide +kernel
theorem dX0_isThere_4 : decode cX0_isThere 4 = .ok (.iconst (-1), 1) := by decide +kernel
theorem dX0_isThere_5 : decode cX0_isThere 5 = .ok (.if_icmp .eq 7, 3) := by decide +kernel
theorem dX0_isThere_8 : decode cX0_isThere 8 = .ok (.iconst 1, 1) := by decide +kernel
theorem dX0_isThere_9 : decode cX0_isThere 9 = .ok (.goto 4, 3) := by decide +kernel
theorem dX0_isThere_12 : decode cX0_isThere 12 = .ok (.iconst 0, 1) := by decide +kernel
theorem dX0_isThere_13 : decode cX0_isThere 13 = .ok (.ireturn, 1) := by decide +kernel
theorem dX0_isEnding_0 : decode cX0_isEnding 0 = .ok (.aload_n 0, 1) := by decide +kernel
theorem dX0_isEnding_1 : decode cX0_isEnding 1 = .ok (.getfield 19, 3) := by decide +kernel
theorem dX0_isEnding_4 : decode cX0_isEnding 4 = .ok (.iconst 3, 1) := by decide +kernel
theorem dX0_isEnding_5 : decode cX0_isEnding 5 = .ok (.if_icmp .eq 11, 3) := by decide +kernel
theorem dX0_isEnding_8 : decode cX0_isEnding 8 = .ok (.aload_n 0, 1) := by decide +kernel
theorem dX0_isEnding_9 : decode cX0_isEnding 9 = .ok (.getfield 19, 3) := by decide +kernel
theorem dX0_isEnding_12 : decode cX0_isEnding 12 = .ok (.iconst 4, 1) := by decide +kernel
theorem dX0_isEnding_13 : decode cX0_isEnding 13 = .ok (.if_icmp .ne 7, 3) := by decide +kernel
theorem dX0_isEnding_16 : decode cX0_isEnding 16 = .ok (.iconst 1, 1) := by decide +kernel
theorem dX0_isEnding_17 : decode cX0_isEnding 17 = .ok (.goto 4, 3) := by decide +kernel
theorem dX0_isEnding_20 : decode cX0_isEnding 20 = .ok (.iconst 0, 1) := by decide +kernel
theorem dX0_isEnding_21 : decode cX0_isEnding 21 = .ok (.ireturn, 1) := by decide +kernel
theorem dX0_become_0 : decode cX0_become 0 = .ok (.aload_n 0, 1) := by decide +kernel
theorem dX0_become_1 : decode cX0_become 1 = .ok (.iload_n 1, 1) := by decide +kernel
theorem dX0_become_2 : decode cX0_become 2 = .ok (.putfield 19, 3) := by decide +kernel
theorem dX0_become_5 : decode cX0_become 5 = .ok (.aload_n 0, 1) := by decide +kernel
theorem dX0_become_6 : decode cX0_become 6 = .ok (.iconst 0, 1) := by decide +kernel
theorem dX0_become_7 : decode cX0_become 7 = .ok (.putfield 23, 3) := by decide +kernel
theorem dX0_become_10 : decode cX0_become 10 = .ok (.aload_n 0, 1) := by decide +kernel
theorem dX0_become_11 : decode cX0_become 11 = .ok (.iconst 0, 1) := by decide +kernel
theorem dX0_become_12 : decode cX0_become 12 = .ok (.putfield 26, 3) := by decide +kernel
theorem dX0_become_15 : decode cX0_become 15 = .ok (.aload_n 0, 1) := by decide +kernel
theorem dX0_become_16 : decode cX0_become 16 = .ok (.iconst 0, 1) := by decide +kernel
theorem dX0_become_17 : decode cX0_become 17 = .ok (.putfield 29, 3) := by decide +kernel
theorem dX0_become_20 : decode cX0_become 20 = .ok (.aload_n 0, 1) := by decide +kernel
theorem dX0_become_21 : decode cX0_become 21 = .ok (.iconst 0, 1) := by decide +kernel
theorem dX0_become_22 : decode cX0_become 22 = .ok (.putfield 32, 3) := by decide +kernel
theorem dX0_become_25 : decode cX0_become 25 = .ok (.aload_n 0, 1) := by decide +kernel
theorem dX0_become_26 : decode cX0_become 26 = .ok (.iconst 0, 1) := by decide +kernel
theorem dX0_become_27 : decode cX0_become 27 = .ok (.putfield 35, 3) := by decide +kernel
theorem dX0_become_30 : decode cX0_become 30 = .ok (.iconst 0, 1) := by decide +kernel
theorem dX0_become_31 : decode cX0_become 31 = .ok (.istore_n 2, 1) := by decide +kernel
theorem dX0_become_32 : decode cX0_become 32 = .ok (.iload_n 2, 1) := by decide +kernel
theorem dX0_become_33 : decode cX0_become 33 = .ok (.iconst 4, 1) := by decide +kernel
theorem dX0_become_34 : decode cX0_become 34 = .ok (.if_icmp .ge 18, 3) := by decide +kernel
theorem dX0_become_37 : decode cX0_become 37 = .ok (.aload_n 0, 1) := by decide +kernel
theorem dX0_become_38 : decode cX0_become 38 = .ok (.getfield 9, 3) := by decide +kernel
theorem dX0_become_41 : decode cX0_become 41 = .ok (.iload_n 2, 1) := by decide +kernel
theorem dX0_become_42 : decode cX0_become 42 = .ok (.ldc2_w 38, 3) := by decide +kernel
theorem dX0_become_45 : decode cX0_become 45 = .ok (.lastore, 1) := by decide +kernel
theorem dX0_become_46 : decode cX0_become 46 = .ok (.iinc 2 1, 3) := by decide +kernel
theorem dX0_become_49 : decode cX0_become 49 = .ok (.goto (-17), 3) := by decide +kernel
theorem dX0_become_52 : decode cX0_become 52 = .ok (.return_, 1) := by decide +kernel
theorem dX0_copyFrom_0 : decode cX0_copyFrom 0 = .ok (.aload_n 0, 1) := by decide +kernel
theorem dX0_copyFrom_1 : decode cX0_copyFrom 1 = .ok (.aload_n 1, 1) := by decide +kernel
theorem dX0_copyFrom_2 : decode cX0_copyFrom 2 = .ok (.getfield 19, 3) := by decide +kernel
theorem dX0_copyFrom_5 : decode cX0_copyFrom 5 = .ok (.putfield 19, 3) := by decide +kernel
theorem dX0_copyFrom_8 : decode cX0_copyFrom 8 = .ok (.aload_n 0, 1) := by decide +kernel
theorem dX0_copyFrom_9 : decode cX0_copyFrom 9 = .ok (.aload_n 1, 1) := by decide +kernel
theorem dX0_copyFrom_10 : decode cX0_copyFrom 10 = .ok (.getfield 23, 3) := by decide +kernel
theorem dX0_copyFrom_13 : decode cX0_copyFrom 13 = .ok (.putfield 23, 3) := by decide +kernel
theorem dX0_copyFrom_16 : decode cX0_copyFrom 16 = .ok (.aload_n 0, 1) := by decide +kernel
theorem dX0_copyFrom_17 : decode cX0_copyFrom 17 = .ok (.aload_n 1, 1) := by decide +kernel
theorem dX0_copyFrom_18 : decode cX0_copyFrom 18 = .ok (.getfield 26, 3) := by decide +kernel
theorem dX0_copyFrom_21 : decode cX0_copyFrom 21 = .ok (.putfield 26, 3) := by decide +kernel
theorem dX0_copyFrom_24 : decode cX0_copyFrom 24 = .ok (.aload_n 0, 1) := by decide +kernel
theorem dX0_copyFrom_25 : decode cX0_copyFrom 25 = .ok (.aload_n 1, 1) := by decide +kernel
theorem dX0_copyFrom_26 : decode cX0_copyFrom 26 = .ok (.getfield 29, 3) := by decide +kernel
theorem dX0_copyFrom_29 : decode cX0_copyFrom 29 = .ok (.putfield 29, 3) := by decide +kernel
theorem dX0_copyFrom_32 : decode cX0_copyFrom 32 = .ok (.aload_n 0, 1) := by decide +kernel
theorem dX0_copyFrom_33 : decode cX0_copyFrom 33 = .ok (.aload_n 1, 1) := by decide +kernel
theorem dX0_copyFrom_34 : decode cX0_copyFrom 34 = .ok (.getfield 32, 3) := by decide +kernel
theorem dX0_copyFrom_37 : decode cX0_copyFrom 37 = .ok (.putfield 32, 3) := by decide +kernel
theorem dX0_copyFrom_40 : decode cX0_copyFrom 40 = .ok (.aload_n 0, 1) := by decide +kernel
theorem dX0_copyFrom_41 : decode cX0_copyFrom 41 = .ok (.aload_n 1, 1) := by decide +kernel
theorem dX0_copyFrom_42 : decode cX0_copyFrom 42 = .ok (.getfield 35, 3) := by decide +kernel
theorem dX0_copyFrom_45 : decode cX0_copyFrom 45 = .ok (.putfield 35, 3) := by decide +kernel
theorem dX0_copyFrom_48 : decode cX0_copyFrom 48 = .ok (.iconst 0, 1) := by decide +kernel
theorem dX0_copyFrom_49 : decode cX0_copyFrom 49 = .ok (.istore_n 2, 1) := by decide +kernel
theorem dX0_copyFrom_50 : decode cX0_copyFrom 50 = .ok (.iload_n 2, 1) := by decide +kernel
theorem dX0_copyFrom_51 : decode cX0_copyFrom 51 = .ok (.iconst 4, 1) := by decide +kernel
theorem dX0_copyFrom_52 : decode cX0_copyFrom 52 = .ok (.if_icmp .ge 21, 3) := by decide +kernel
theorem dX0_copyFrom_55 : decode cX0_copyFrom 55 = .ok (.aload_n 0, 1) := by decide +kernel
theorem dX0_copyFrom_56 : decode cX0_copyFrom 56 = .ok (.getfield 9, 3) := by decide +kernel
theorem dX0_copyFrom_59 : decode cX0_copyFrom 59 = .ok (.iload_n 2, 1) := by decide +kernel
theorem dX0_copyFrom_60 : decode cX0_copyFrom 60 = .ok (.aload_n 1, 1) := by decide +kernel
theorem dX0_copyFrom_61 : decode cX0_copyFrom 61 = .ok (.getfield 9, 3) := by decide +kernel
theorem dX0_copyFrom_64 : decode cX0_copyFrom 64 = .ok (.iload_n 2, 1) := by decide +kernel
theorem dX0_copyFrom_65 : decode cX0_copyFrom 65 = .ok (.laload, 1) := by decide +kernel
theorem dX0_copyFrom_66 : decode cX0_copyFrom 66 = .ok (.lastore, 1) := by decide +kernel
theorem dX0_copyFrom_67 : decode cX0_copyFrom 67 = .ok (.iinc 2 1, 3) := by decide +kernel
theorem dX0_copyFrom_70 : decode cX0_copyFrom 70 = .ok (.goto (-20), 3) := by decide +kernel
theorem dX0_copyFrom_73 : decode cX0_copyFrom 73 = .ok (.return_, 1) := by decide +kernel
theorem dX0_sameAs_0 : decode cX0_sameAs 0 = .ok (.iconst 0, 1) := by decide +kernel
theorem dX0_sameAs_1 : decode cX0_sameAs 1 = .ok (.istore_n 2, 1) := by decide +kernel
theorem dX0_sameAs_2 : decode cX0_sameAs 2 = .ok (.iload_n 2, 1) := by decide +kernel
theorem dX0_sameAs_3 : decode cX0_sameAs 3 = .ok (.iconst 4, 1) := by decide +kernel
theorem dX0_sameAs_4 : decode cX0_sameAs 4 = .ok (.if_icmp .ge 27, 3) := by decide +kernel
theorem dX0_sameAs_7 : decode cX0_sameAs 7 = .ok (.aload_n 0, 1) := by decide +kernel
theorem dX0_sameAs_8 : decode cX0_sameAs 8 = .ok (.getfield 9, 3) := by decide +kernel
theorem dX0_sameAs_11 : decode cX0_sameAs 11 = .ok (.iload_n 2, 1) := by decide +kernel
theorem dX0_sameAs_12 : decode cX0_sameAs 12 = .ok (.laload, 1) := by decide +kernel
theorem dX0_sameAs_13 : decode cX0_sameAs 13 = .ok (.aload_n 1, 1) := by decide +kernel
theorem dX0_sameAs_14 : decode cX0_sameAs 14 = .ok (.getfield 9, 3) := by decide +kernel
theorem dX0_sameAs_17 : decode cX0_sameAs 17 = .ok (.iload_n 2, 1) := by decide +kernel
theorem dX0_sameAs_18 : decode cX0_sameAs 18 = .ok (.laload, 1) := by decide +kernel
theorem dX0_sameAs_19 : decode cX0_sameAs 19 = .ok (.lcmp, 1) := by decide +kernel
theorem dX0_sameAs_20 : decode cX0_sameAs 20 = .ok (.ifCond .eq 5, 3) := by decide +kernel
theorem dX0_sameAs_23 : decode cX0_sameAs 23 = .ok (.iconst 0, 1) := by decide +kernel
theorem dX0_sameAs_24 : decode cX0_sameAs 24 = .ok (.ireturn, 1) := by decide +kernel
theorem dX0_sameAs_25 : decode cX0_sameAs 25 = .ok (.iinc 2 1, 3) := by decide +kernel
theorem dX0_sameAs_28 : decode cX0_sameAs 28 = .ok (.goto (-26), 3) := by decide +kernel
theorem dX0_sameAs_31 : decode cX0_sameAs 31 = .ok (.aload_n 0, 1) := by decide +kernel
theorem dX0_sameAs_32 : decode cX0_sameAs 32 = .ok (.getfield 19, 3) := by decide +kernel
theorem dX0_sameAs_35 : decode cX0_sameAs 35 = .ok (.aload_n 1, 1) := by decide +kernel
theorem dX0_sameAs_36 : decode cX0_sameAs 36 = .ok (.getfield 19, 3) := by decide +kernel
theorem dX0_sameAs_39 : decode cX0_sameAs 39 = .ok (.if_icmp .ne 51, 3) := by decide +kernel
theorem dX0_sameAs_42 : decode cX0_sameAs 42 = .ok (.aload_n 0, 1) := by decide +kernel
theorem dX0_sameAs_43 : decode cX0_sameAs 43 = .ok (.getfield 23, 3) := by decide +kernel
theorem dX0_sameAs_46 : decode cX0_sameAs 46 = .ok (.aload_n 1, 1) := by decide +kernel
theorem dX0_sameAs_47 : decode cX0_sameAs 47 = .ok (.getfield 23, 3) := by decide +kernel
theorem dX0_sameAs_50 : decode cX0_sameAs 50 = .ok (.if_icmp .ne 40, 3) := by decide +kernel
theorem dX0_sameAs_53 : decode cX0_sameAs 53 = .ok (.aload_n 0, 1) := by decide +kernel
theorem dX0_sameAs_54 : decode cX0_sameAs 54 = .ok (.getfield 26, 3) := by decide +kernel
theorem dX0_sameAs_57 : decode cX0_sameAs 57 = .ok (.aload_n 1, 1) := by decide +kernel
theorem dX0_sameAs_58 : decode cX0_sameAs 58 = .ok (.getfield 26, 3) := by decide +kernel
theorem dX0_sameAs_61 : decode cX0_sameAs 61 = .ok (.if_icmp .ne 29, 3) := by decide +kernel
theorem dX0_sameAs_64 : decode cX0_sameAs 64 = .ok (.aload_n 0, 1) := by decide +kernel
theorem dX0_sameAs_65 : decode cX0_sameAs 65 = .ok (.getfield 29, 3) := by decide +kernel
theorem dX0_sameAs_68 : decode cX0_sameAs 68 = .ok (.aload_n 1, 1) := by decide +kernel
theorem dX0_sameAs_69 : decode cX0_sameAs 69 = .ok (.getfield 29, 3) := by decide +kernel
theorem dX0_sameAs_72 : decode cX0_sameAs 72 = .ok (.if_icmp .ne 18, 3) := by decide +kernel
theorem dX0_sameAs_75 : decode cX0_sameAs 75 = .ok (.aload_n 0, 1) := by decide +kernel
theorem dX0_sameAs_76 : decode cX0_sameAs 76 = .ok (.getfield 32, 3) := by decide +kernel
theorem dX0_sameAs_79 : decode cX0_sameAs 79 = .ok (.aload_n 1, 1) := by decide +kernel
theorem dX0_sameAs_80 : decode cX0_sameAs 80 = .ok (.getfield 32, 3) := by decide +kernel
theorem dX0_sameAs_83 : decode cX0_sameAs 83 = .ok (.if_icmp .ne 7, 3) := by decide +kernel
theorem dX0_sameAs_86 : decode cX0_sameAs 86 = .ok (.iconst 1, 1) := by decide +kernel
theorem dX0_sameAs_87 : decode cX0_sameAs 87 = .ok (.goto 4, 3) := by decide +kernel
theorem dX0_sameAs_90 : decode cX0_sameAs 90 = .ok (.iconst 0, 1) := by decide +kernel
theorem dX0_sameAs_91 : decode cX0_sameAs 91 = .ok (.ireturn, 1) := by decide +kernel
theorem dX0_putNeed_0 : decode cX0_putNeed 0 = .ok (.iconst 0, 1) := by decide +kernel
theorem dX0_putNeed_1 : decode cX0_putNeed 1 = .ok (.istore_n 2, 1) := by decide +kernel
theorem dX0_putNeed_2 : decode cX0_putNeed 2 = .ok (.iload_n 2, 1) := by decide +kernel
theorem dX0_putNeed_3 : decode cX0_putNeed 3 = .ok (.iconst 4, 1) := by decide +kernel
theorem dX0_putNeed_4 : decode cX0_putNeed 4 = .ok (.if_icmp .ge 24, 3) := by decide +kernel
theorem dX0_putNeed_7 : decode cX0_putNeed 7 = .ok (.iload_n 2, 1) := by decide +kernel
theorem dX0_putNeed_8 : decode cX0_putNeed 8 = .ok (.aload_n 1, 1) := by decide +kernel
theorem dX0_putNeed_9 : decode cX0_putNeed 9 = .ok (.arraylength, 1) := by decide +kernel
theorem dX0_putNeed_10 : decode cX0_putNeed 10 = .ok (.if_icmp .ge 18, 3) := by decide +kernel
theorem dX0_putNeed_13 : decode cX0_putNeed 13 = .ok (.aload_n 0, 1) := by decide +kernel
theorem dX0_putNeed_14 : decode cX0_putNeed 14 = .ok (.getfield 9, 3) := by decide +kernel
theorem dX0_putNeed_17 : decode cX0_putNeed 17 = .ok (.iload_n 2, 1) := by decide +kernel
theorem dX0_putNeed_18 : decode cX0_putNeed 18 = .ok (.aload_n 1, 1) := by decide +kernel
theorem dX0_putNeed_19 : decode cX0_putNeed 19 = .ok (.iload_n 2, 1) := by decide +kernel
theorem dX0_putNeed_20 : decode cX0_putNeed 20 = .ok (.laload, 1) := by decide +kernel
theorem dX0_putNeed_21 : decode cX0_putNeed 21 = .ok (.lastore, 1) := by decide +kernel
theorem dX0_putNeed_22 : decode cX0_putNeed 22 = .ok (.iinc 2 1, 3) := by decide +kernel
theorem dX0_putNeed_25 : decode cX0_putNeed 25 = .ok (.goto (-23), 3) := by decide +kernel
theorem dX0_putNeed_28 : decode cX0_putNeed 28 = .ok (.aload_n 0, 1) := by decide +kernel
theorem dX0_putNeed_29 : decode cX0_putNeed 29 = .ok (.iconst 0, 1) := by decide +kernel
theorem dX0_putNeed_30 : decode cX0_putNeed 30 = .ok (.putfield 35, 3) := by decide +kernel
theorem dX0_putNeed_33 : decode cX0_putNeed 33 = .ok (.iconst 0, 1) := by decide +kernel
theorem dX0_putNeed_34 : decode cX0_putNeed 34 = .ok (.istore_n 2, 1) := by decide +kernel
theorem dX0_putNeed_35 : decode cX0_putNeed 35 = .ok (.iload_n 2, 1) := by decide +kernel
theorem dX0_putNeed_36 : decode cX0_putNeed 36 = .ok (.bipush 8, 2) := by decide +kernel
theorem dX0_putNeed_38 : decode cX0_putNeed 38 = .ok (.if_icmp .ge 29, 3) := by decide +kernel
theorem dX0_putNeed_41 : decode cX0_putNeed 41 = .ok (.aload_n 0, 1) := by decide +kernel
theorem dX0_putNeed_42 : decode cX0_putNeed 42 = .ok (.iload_n 2, 1) := by decide +kernel
theorem dX0_putNeed_43 : decode cX0_putNeed 43 = .ok (.invokevirtual 40, 3) := by decide +kernel
theorem dX0_putNeed_46 : decode cX0_putNeed 46 = .ok (.ifCond .eq 15, 3) := by decide +kernel
theorem dX0_putNeed_49 : decode cX0_putNeed 49 = .ok (.aload_n 0, 1) := by decide +kernel
theorem dX0_putNeed_50 : decode cX0_putNeed 50 = .ok (.dup, 1) := by decide +kernel
theorem dX0_putNeed_51 : decode cX0_putNeed 51 = .ok (.getfield 35, 3) := by decide +kernel
theorem dX0_putNeed_54 : decode cX0_putNeed 54 = .ok (.iconst 1, 1) := by decide +kernel
theorem dX0_putNeed_55 : decode cX0_putNeed 55 = .ok (.iload_n 2, 1) := by decide +kernel
theorem dX0_putNeed_56 : decode cX0_putNeed 56 = .ok (.ishl, 1) := by decide +kernel
theorem dX0_putNeed_57 : decode cX0_putNeed 57 = .ok (.ior, 1) := by decide +kernel
theorem dX0_putNeed_58 : decode cX0_putNeed 58 = .ok (.putfield 35, 3) := by decide +kernel
theorem dX0_putNeed_61 : decode cX0_putNeed 61 = .ok (.iinc 2 1, 3) := by decide +kernel
theorem dX0_putNeed_64 : decode cX0_putNeed 64 = .ok (.goto (-29), 3) := by decide +kernel
theorem dX0_putNeed_67 : decode cX0_putNeed 67 = .ok (.return_, 1) := by decide +kernel
theorem dX0_readsFact_0 : decode cX0_readsFact 0 = .ok (.iconst 1, 1) := by decide +kernel
theorem dX0_readsFact_1 : decode cX0_readsFact 1 = .ok (.iload_n 1, 1) := by decide +kernel
theorem dX0_readsFact_2 : decode cX0_readsFact 2 = .ok (.ishl, 1) := by decide +kernel
theorem dX0_readsFact_3 : decode cX0_readsFact 3 = .ok (.istore_n 2, 1) := by decide +kernel
theorem dX0_readsFact_4 : decode cX0_readsFact 4 = .ok (.iconst 0, 1) := by decide +kernel
theorem dX0_readsFact_5 : decode cX0_readsFact 5 = .ok (.istore_n 3, 1) := by decide +kernel
theorem dX0_readsFact_6 : decode cX0_readsFact 6 = .ok (.iload_n 3, 1) := by decide +kernel
theorem dX0_readsFact_7 : decode cX0_readsFact 7 = .ok (.iconst 4, 1) := by decide +kernel
theorem dX0_readsFact_8 : decode cX0_readsFact 8 = .ok (.if_icmp .ge 81, 3) := by decide +kernel
theorem dX0_readsFact_11 : decode cX0_readsFact 11 = .ok (.iload_n 2, 1) := by decide +kernel
theorem dX0_readsFact_12 : decode cX0_readsFact 12 = .ok (.bipush 64, 2) := by decide +kernel
theorem dX0_readsFact_14 : decode cX0_readsFact 14 = .ok (.if_icmp .ge 14, 3) := by decide +kernel
theorem dX0_readsFact_17 : decode cX0_readsFact 17 = .ok (.aload_n 0, 1) := by decide +kernel
theorem dX0_readsFact_18 : decode cX0_readsFact 18 = .ok (.getfield 9, 3) := by decide +kernel
theorem dX0_readsFact_21 : decode cX0_readsFact 21 = .ok (.iload_n 3, 1) := by decide +kernel
theorem dX0_readsFact_22 : decode cX0_readsFact 22 = .ok (.laload, 1) := by decide +kernel
theorem dX0_readsFact_23 : decode cX0_readsFact 23 = .ok (.iload_n 2, 1) := by decide +kernel
theorem dX0_readsFact_24 : decode cX0_readsFact 24 = .ok (.lushr, 1) := by decide +kernel
theorem dX0_readsFact_25 : decode cX0_readsFact 25 = .ok (.goto 14, 3) := by decide +kernel
theorem dX0_readsFact_28 : decode cX0_readsFact 28 = .ok (.aload_n 0, 1) := by decide +kernel
theorem dX0_readsFact_29 : decode cX0_readsFact 29 = .ok (.getfield 9, 3) := by decide +kernel
theorem dX0_readsFact_32 : decode cX0_readsFact 32 = .ok (.iload_n 3, 1) := by decide +kernel
theorem dX0_readsFact_33 : decode cX0_readsFact 33 = .ok (.iload_n 2, 1) := by decide +kernel
theorem dX0_readsFact_34 : decode cX0_readsFact 34 = .ok (.bipush 64, 2) := by decide +kernel
theorem dX0_readsFact_36 : decode cX0_readsFact 36 = .ok (.idiv, 1) := by decide +kernel
theorem dX0_readsFact_37 : decode cX0_readsFact 37 = .ok (.ior, 1) := by decide +kernel
theorem dX0_readsFact_38 : decode cX0_readsFact 38 = .ok (.laload, 1) := by decide +kernel
theorem dX0_readsFact_39 : decode cX0_readsFact 39 = .ok (.lstore 4, 2) := by decide +kernel
theorem dX0_readsFact_41 : decode cX0_readsFact 41 = .ok (.iload_n 2, 1) := by decide +kernel
theorem dX0_readsFact_42 : decode cX0_readsFact 42 = .ok (.bipush 64, 2) := by decide +kernel
theorem dX0_readsFact_44 : decode cX0_readsFact 44 = .ok (.if_icmp .ge 15, 3) := by decide +kernel
theorem dX0_readsFact_47 : decode cX0_readsFact 47 = .ok (.getstatic 44, 3) := by decide +kernel
theorem dX0_readsFact_50 : decode cX0_readsFact 50 = .ok (.iload_n 1, 1) := by decide +kernel
theorem dX0_readsFact_51 : decode cX0_readsFact 51 = .ok (.laload, 1) := by decide +kernel
theorem dX0_readsFact_52 : decode cX0_readsFact 52 = .ok (.ldc2_w 38, 3) := by decide +kernel
theorem dX0_readsFact_55 : decode cX0_readsFact 55 = .ok (.lxor, 1) := by decide +kernel
theorem dX0_readsFact_56 : decode cX0_readsFact 56 = .ok (.goto 6, 3) := by decide +kernel
theorem dX0_readsFact_59 : decode cX0_readsFact 59 = .ok (.ldc2_w 38, 3) := by decide +kernel
theorem dX0_readsFact_62 : decode cX0_readsFact 62 = .ok (.lstore 6, 2) := by decide +kernel
theorem dX0_readsFact_64 : decode cX0_readsFact 64 = .ok (.aload_n 0, 1) := by decide +kernel
theorem dX0_readsFact_65 : decode cX0_readsFact 65 = .ok (.getfield 9, 3) := by decide +kernel
theorem dX0_readsFact_68 : decode cX0_readsFact 68 = .ok (.iload_n 3, 1) := by decide +kernel
theorem dX0_readsFact_69 : decode cX0_readsFact 69 = .ok (.laload, 1) := by decide +kernel
theorem dX0_readsFact_70 : decode cX0_readsFact 70 = .ok (.lload 4, 2) := by decide +kernel
theorem dX0_readsFact_72 : decode cX0_readsFact 72 = .ok (.lxor, 1) := by decide +kernel
theorem dX0_readsFact_73 : decode cX0_readsFact 73 = .ok (.lload 6, 2) := by decide +kernel
theorem dX0_readsFact_75 : decode cX0_readsFact 75 = .ok (.land, 1) := by decide +kernel
theorem dX0_readsFact_76 : decode cX0_readsFact 76 = .ok (.lconst 0, 1) := by decide +kernel
theorem dX0_readsFact_77 : decode cX0_readsFact 77 = .ok (.lcmp, 1) := by decide +kernel
theorem dX0_readsFact_78 : decode cX0_readsFact 78 = .ok (.ifCond .eq 5, 3) := by decide +kernel
theorem dX0_readsFact_81 : decode cX0_readsFact 81 = .ok (.iconst 1, 1) := by decide +kernel
theorem dX0_readsFact_82 : decode cX0_readsFact 82 = .ok (.ireturn, 1) := by decide +kernel
theorem dX0_readsFact_83 : decode cX0_readsFact 83 = .ok (.iinc 3 1, 3) := by decide +kernel
theorem dX0_readsFact_86 : decode cX0_readsFact 86 = .ok (.goto (-80), 3) := by decide +kernel
theorem dX0_readsFact_89 : decode cX0_readsFact 89 = .ok (.iconst 0, 1) := by decide +kernel
theorem dX0_readsFact_90 : decode cX0_readsFact 90 = .ok (.ireturn, 1) := by decide +kernel
theorem dX0_holdsFor_0 : decode cX0_holdsFor 0 = .ok (.aload_n 0, 1) := by decide +kernel
theorem dX0_holdsFor_1 : decode cX0_holdsFor 1 = .ok (.getfield 9, 3) := by decide +kernel
theorem dX0_holdsFor_4 : decode cX0_holdsFor 4 = .ok (.iload_n 1, 1) := by decide +kernel
theorem dX0_holdsFor_5 : decode cX0_holdsFor 5 = .ok (.bipush 64, 2) := by decide +kernel
theorem dX0_holdsFor_7 : decode cX0_holdsFor 7 = .ok (.idiv, 1) := by decide +kernel
theorem dX0_holdsFor_8 : decode cX0_holdsFor 8 = .ok (.laload, 1) := by decide +kernel
theorem dX0_holdsFor_9 : decode cX0_holdsFor 9 = .ok (.iload_n 1, 1) := by decide +kernel
theorem dX0_holdsFor_10 : decode cX0_holdsFor 10 = .ok (.bipush 64, 2) := by decide +kernel
theorem dX0_holdsFor_12 : decode cX0_holdsFor 12 = .ok (.irem, 1) := by decide +kernel
theorem dX0_holdsFor_13 : decode cX0_holdsFor 13 = .ok (.lushr, 1) := by decide +kernel
theorem dX0_holdsFor_14 : decode cX0_holdsFor 14 = .ok (.lconst 1, 1) := by decide +kernel
theorem dX0_holdsFor_15 : decode cX0_holdsFor 15 = .ok (.land, 1) := by decide +kernel
theorem dX0_holdsFor_16 : decode cX0_holdsFor 16 = .ok (.lconst 0, 1) := by decide +kernel
theorem dX0_holdsFor_17 : decode cX0_holdsFor 17 = .ok (.lcmp, 1) := by decide +kernel
theorem dX0_holdsFor_18 : decode cX0_holdsFor 18 = .ok (.ifCond .eq 7, 3) := by decide +kernel
theorem dX0_holdsFor_21 : decode cX0_holdsFor 21 = .ok (.iconst 1, 1) := by decide +kernel
theorem dX0_holdsFor_22 : decode cX0_holdsFor 22 = .ok (.goto 4, 3) := by decide +kernel
theorem dX0_holdsFor_25 : decode cX0_holdsFor 25 = .ok (.iconst 0, 1) := by decide +kernel
theorem dX0_holdsFor_26 : decode cX0_holdsFor 26 = .ok (.ireturn, 1) := by decide +kernel
theorem dX0_countHolding_0 : decode cX0_countHolding 0 = .ok (.iconst 0, 1) := by decide +kernel
theorem dX0_countHolding_1 : decode cX0_countHolding 1 = .ok (.istore_n 1, 1) := by decide +kernel
theorem dX0_countHolding_2 : decode cX0_countHolding 2 = .ok (.iconst 0, 1) := by decide +kernel
theorem dX0_countHolding_3 : decode cX0_countHolding 3 = .ok (.istore_n 2, 1) := by decide +kernel
theorem dX0_countHolding_4 : decode cX0_countHolding 4 = .ok (.iload_n 2, 1) := by decide +kernel
theorem dX0_countHolding_5 : decode cX0_countHolding 5 = .ok (.iconst 4, 1) := by decide +kernel
theorem dX0_countHolding_6 : decode cX0_countHolding 6 = .ok (.if_icmp .ge 21, 3) := by decide +kernel
theorem dX0_countHolding_9 : decode cX0_countHolding 9 = .ok (.iload_n 1, 1) := by decide +kernel
theorem dX0_countHolding_10 : decode cX0_countHolding 10 = .ok (.aload_n 0, 1) := by decide +kernel
theorem dX0_countHolding_11 : decode cX0_countHolding 11 = .ok (.getfield 9, 3) := by decide +kernel
theorem dX0_countHolding_14 : decode cX0_countHolding 14 = .ok (.iload_n 2, 1) := by decide +kernel
theorem dX0_countHolding_15 : decode cX0_countHolding 15 = .ok (.laload, 1) := by decide +kernel
theorem dX0_countHolding_16 : decode cX0_countHolding 16 = .ok (.invokestatic 49, 3) := by decide +kernel
theorem dX0_countHolding_19 : decode cX0_countHolding 19 = .ok (.iadd, 1) := by decide +kernel
theorem dX0_countHolding_20 : decode cX0_countHolding 20 = .ok (.istore_n 1, 1) := by decide +kernel
theorem dX0_countHolding_21 : decode cX0_countHolding 21 = .ok (.iinc 2 1, 3) := by decide +kernel
theorem dX0_countHolding_24 : decode cX0_countHolding 24 = .ok (.goto (-20), 3) := by decide +kernel
theorem dX0_countHolding_27 : decode cX0_countHolding 27 = .ok (.iload_n 1, 1) := by decide +kernel
theorem dX0_countHolding_28 : decode cX0_countHolding 28 = .ok (.ireturn, 1) := by decide +kernel
theorem dX1_init_0 : decode cX1_init 0 = .ok (.aload_n 0, 1) := by decide +kernel
theorem dX1_init_1 : decode cX1_init 1 = .ok (.invokespecial 3, 3) := by decide +kernel
theorem dX1_init_4 : decode cX1_init 4 = .ok (.aload_n 0, 1) := by decide +kernel
theorem dX1_init_5 : decode cX1_init 5 = .ok (.iconst (-1), 1) := by decide +kernel
theorem dX1_init_6 : decode cX1_init 6 = .ok (.putfield 11, 3) := by decide +kernel
theorem dX1_init_9 : decode cX1_init 9 = .ok (.aload_n 0, 1) := by decide +kernel
theorem dX1_init_10 : decode cX1_init 10 = .ok (.bipush 30, 2) := by decide +kernel
theorem dX1_init_12 : decode cX1_init 12 = .ok (.newarray .int, 2) := by decide +kernel
theorem dX1_init_14 : decode cX1_init 14 = .ok (.putfield 15, 3) := by decide +kernel
theorem dX1_init_17 : decode cX1_init 17 = .ok (.return_, 1) := by decide +kernel
theorem dX1_isMissing_0 : decode cX1_isMissing 0 = .ok (.aload_n 0, 1) := by decide +kernel
theorem dX1_isMissing_1 : decode cX1_isMissing 1 = .ok (.getfield 11, 3) := by decide +kernel
theorem dX1_isMissing_4 : decode cX1_isMissing 4 = .ok (.iconst (-1), 1) := by decide +kernel
theorem dX1_isMissing_5 : decode cX1_isMissing 5 = .ok (.if_icmp .ne 7, 3) := by decide +kernel
theorem dX1_isMissing_8 : decode cX1_isMissing 8 = .ok (.iconst 1, 1) := by decide +kernel
theorem dX1_isMissing_9 : decode cX1_isMissing 9 = .ok (.goto 4, 3) := by decide +kernel
theorem dX1_isMissing_12 : decode cX1_isMissing 12 = .ok (.iconst 0, 1) := by decide +kernel
theorem dX1_isMissing_13 : decode cX1_isMissing 13 = .ok (.ireturn, 1) := by decide +kernel
theorem dX1_hasPlace_0 : decode cX1_hasPlace 0 = .ok (.iload_n 1, 1) := by decide +kernel
theorem dX1_hasPlace_1 : decode cX1_hasPlace 1 = .ok (.ifCond .lt 24, 3) := by decide +kernel
theorem dX1_hasPlace_4 : decode cX1_hasPlace 4 = .ok (.iload_n 1, 1) := by decide +kernel
theorem dX1_hasPlace_5 : decode cX1_hasPlace 5 = .ok (.aload_n 0, 1) := by decide +kernel
theorem dX1_hasPlace_6 : decode cX1_hasPlace 6 = .ok (.getfield 11, 3) := by decide +kernel
theorem dX1_hasPlace_9 : decode cX1_hasPlace 9 = .ok (.if_icmp .ge 16, 3) := by decide +kernel
theorem dX1_hasPlace_12 : decode cX1_hasPlace 12 = .ok (.iload_n 1, 1) := by decide +kernel
theorem dX1_hasPlace_13 : decode cX1_hasPlace 13 = .ok (.aload_n 0, 1) := by decide +kernel
theorem dX1_hasPlace_14 : decode cX1_hasPlace 14 = .ok (.getfield 15, 3) := by decide +kernel
theorem dX1_hasPlace_17 : decode cX1_hasPlace 17 = .ok (.arraylength, 1) := by decide +kernel
theorem dX1_hasPlace_18 : decode cX1_hasPlace 18 = .ok (.if_icmp .ge 7, 3) := by decide +kernel
theorem dX1_hasPlace_21 : decode cX1_hasPlace 21 = .ok (.iconst 1, 1) := by decide +kernel
theorem dX1_hasPlace_22 : decode cX1_hasPlace 22 = .ok (.goto 4, 3) := by decide +kernel
theorem dX1_hasPlace_25 : decode cX1_hasPlace 25 = .ok (.iconst 0, 1) := by decide +kernel
theorem dX1_hasPlace_26 : decode cX1_hasPlace 26 = .ok (.ireturn, 1) := by decide +kernel
theorem dX1_lay_0 : decode cX1_lay 0 = .ok (.aload_n 0, 1) := by decide +kernel
theorem dX1_lay_1 : decode cX1_lay 1 = .ok (.iload_n 1, 1) := by decide +kernel
theorem dX1_lay_2 : decode cX1_lay 2 = .ok (.putfield 19, 3) := by decide +kernel
theorem dX1_lay_5 : decode cX1_lay 5 = .ok (.aload_n 0, 1) := by decide +kernel
theorem dX1_lay_6 : decode cX1_lay 6 = .ok (.iload_n 2, 1) := by decide +kernel
theorem dX1_lay_7 : decode cX1_lay 7 = .ok (.putfield 11, 3) := by decide +kernel
theorem dX1_lay_10 : decode cX1_lay 10 = .ok (.iconst 0, 1) := by decide +kernel
theorem dX1_lay_11 : decode cX1_lay 11 = .ok (.istore_n 3, 1) := by decide +kernel
theorem dX1_lay_12 : decode cX1_lay 12 = .ok (.iload_n 3, 1) := by decide +kernel
theorem dX1_lay_13 : decode cX1_lay 13 = .ok (.aload_n 0, 1) := by decide +kernel
theorem dX1_lay_14 : decode cX1_lay 14 = .ok (.getfield 15, 3) := by decide +kernel
theorem dX1_lay_17 : decode cX1_lay 17 = .ok (.arraylength, 1) := by decide +kernel
theorem dX1_lay_18 : decode cX1_lay 18 = .ok (.if_icmp .ge 16, 3) := by decide +kernel
theorem dX1_lay_21 : decode cX1_lay 21 = .ok (.aload_n 0, 1) := by decide +kernel
theorem dX1_lay_22 : decode cX1_lay 22 = .ok (.getfield 15, 3) := by decide +kernel
theorem dX1_lay_25 : decode cX1_lay 25 = .ok (.iload_n 3, 1) := by decide +kernel
theorem dX1_lay_26 : decode cX1_lay 26 = .ok (.iconst 0, 1) := by decide +kernel
theorem dX1_lay_27 : decode cX1_lay 27 = .ok (.iastore, 1) := by decide +kernel
theorem dX1_lay_28 : decode cX1_lay 28 = .ok (.iinc 3 1, 3) := by decide +kernel
theorem dX1_lay_31 : decode cX1_lay 31 = .ok (.goto (-19), 3) := by decide +kernel
theorem dX1_lay_34 : decode cX1_lay 34 = .ok (.return_, 1) := by decide +kernel
theorem dX1_narrowed_0 : decode cX1_narrowed 0 = .ok (.aload_n 0, 1) := by decide +kernel
theorem dX1_narrowed_1 : decode cX1_narrowed 1 = .ok (.getfield 19, 3) := by decide +kernel
theorem dX1_narrowed_4 : decode cX1_narrowed 4 = .ok (.ifCond .ne 6, 3) := by decide +kernel
theorem dX1_narrowed_7 : decode cX1_narrowed 7 = .ok (.iload_n 1, 1) := by decide +kernel
theorem dX1_narrowed_8 : decode cX1_narrowed 8 = .ok (.i2b, 1) := by decide +kernel
theorem dX1_narrowed_9 : decode cX1_narrowed 9 = .ok (.ireturn, 1) := by decide +kernel
theorem dX1_narrowed_10 : decode cX1_narrowed 10 = .ok (.aload_n 0, 1) := by decide +kernel
theorem dX1_narrowed_11 : decode cX1_narrowed 11 = .ok (.getfield 19, 3) := by decide +kernel
theorem dX1_narrowed_14 : decode cX1_narrowed 14 = .ok (.iconst 1, 1) := by decide +kernel
theorem dX1_narrowed_15 : decode cX1_narrowed 15 = .ok (.if_icmp .ne 8, 3) := by decide +kernel
theorem dX1_narrowed_18 : decode cX1_narrowed 18 = .ok (.iload_n 1, 1) := by decide +kernel
theorem dX1_narrowed_19 : decode cX1_narrowed 19 = .ok (.i2s, 1) := by decide +kernel
theorem dX1_narrowed_20 : decode cX1_narrowed 20 = .ok (.goto 4, 3) := by decide +kernel
theorem dX1_narrowed_23 : decode cX1_narrowed 23 = .ok (.iload_n 1, 1) := by decide +kernel
theorem dX1_narrowed_24 : decode cX1_narrowed 24 = .ok (.ireturn, 1) := by decide +kernel
theorem dX2_init_0 : decode cX2_init 0 = .ok (.aload_n 0, 1) := by decide +kernel
theorem dX2_init_1 : decode cX2_init 1 = .ok (.invokespecial 3, 3) := by decide +kernel
theorem dX2_init_4 : decode cX2_init 4 = .ok (.aload_n 0, 1) := by decide +kernel
theorem dX2_init_5 : decode cX2_init 5 = .ok (.sipush 141, 3) := by decide +kernel
theorem dX2_init_8 : decode cX2_init 8 = .ok (.anewarray 9, 3) := by decide +kernel
theorem dX2_init_11 : decode cX2_init 11 = .ok (.putfield 11, 3) := by decide +kernel
theorem dX2_init_14 : decode cX2_init 14 = .ok (.iconst 0, 1) := by decide +kernel
theorem dX2_init_15 : decode cX2_init 15 = .ok (.istore_n 1, 1) := by decide +kernel
theorem dX2_init_16 : decode cX2_init 16 = .ok (.iload_n 1, 1) := by decide +kernel
theorem dX2_init_17 : decode cX2_init 17 = .ok (.sipush 140, 3) := by decide +kernel
theorem dX2_init_20 : decode cX2_init 20 = .ok (.if_icmp .ge 23, 3) := by decide +kernel
theorem dX2_init_23 : decode cX2_init 23 = .ok (.aload_n 0, 1) := by decide +kernel
theorem dX2_init_24 : decode cX2_init 24 = .ok (.getfield 11, 3) := by decide +kernel
theorem dX2_init_27 : decode cX2_init 27 = .ok (.iload_n 1, 1) := by decide +kernel
theorem dX2_init_28 : decode cX2_init 28 = .ok (.new 9, 3) := by decide +kernel
theorem dX2_init_31 : decode cX2_init 31 = .ok (.dup, 1) := by decide +kernel
theorem dX2_init_32 : decode cX2_init 32 = .ok (.iconst (-1), 1) := by decide +kernel
theorem dX2_init_33 : decode cX2_init 33 = .ok (.invokespecial 17, 3) := by decide +kernel
theorem dX2_init_36 : decode cX2_init 36 = .ok (.aastore, 1) := by decide +kernel
theorem dX2_init_37 : decode cX2_init 37 = .ok (.iinc 1 1, 3) := by decide +kernel
theorem dX2_init_40 : decode cX2_init 40 = .ok (.goto (-24), 3) := by decide +kernel
theorem dX2_init_43 : decode cX2_init 43 = .ok (.aload_n 0, 1) := by decide +kernel
theorem dX2_init_44 : decode cX2_init 44 = .ok (.getfield 11, 3) := by decide +kernel
theorem dX2_init_47 : decode cX2_init 47 = .ok (.sipush 140, 3) := by decide +kernel
theorem dX2_init_50 : decode cX2_init 50 = .ok (.new 9, 3) := by decide +kernel
theorem dX2_init_53 : decode cX2_init 53 = .ok (.dup, 1) := by decide +kernel
theorem dX2_init_54 : decode cX2_init 54 = .ok (.iconst 0, 1) := by decide +kernel
theorem dX2_init_55 : decode cX2_init 55 = .ok (.invokespecial 17, 3) := by decide +kernel
theorem dX2_init_58 : decode cX2_init 58 = .ok (.aastore, 1) := by decide +kernel
theorem dX2_init_59 : decode cX2_init 59 = .ok (.return_, 1) := by decide +kernel
theorem dX2_sceneItem_0 : decode cX2_sceneItem 0 = .ok (.aload_n 0, 1) := by decide +kernel
theorem dX2_sceneItem_1 : decode cX2_sceneItem 1 = .ok (.getfield 11, 3) := by decide +kernel
theorem dX2_sceneItem_4 : decode cX2_sceneItem 4 = .ok (.iload_n 1, 1) := by decide +kernel
theorem dX2_sceneItem_5 : decode cX2_sceneItem 5 = .ok (.bipush 7, 2) := by decide +kernel
theorem dX2_sceneItem_7 : decode cX2_sceneItem 7 = .ok (.imul, 1) := by decide +kernel
theorem dX2_sceneItem_8 : decode cX2_sceneItem 8 = .ok (.aaload, 1) := by decide +kernel
theorem dX2_sceneItem_9 : decode cX2_sceneItem 9 = .ok (.areturn, 1) := by decide +kernel
theorem dX2_choiceItem_0 : decode cX2_choiceItem 0 = .ok (.aload_n 0, 1) := by decide +kernel
theorem dX2_choiceItem_1 : decode cX2_choiceItem 1 = .ok (.getfield 11, 3) := by decide +kernel
theorem dX2_choiceItem_4 : decode cX2_choiceItem 4 = .ok (.iload_n 1, 1) := by decide +kernel
theorem dX2_choiceItem_5 : decode cX2_choiceItem 5 = .ok (.bipush 7, 2) := by decide +kernel
theorem dX2_choiceItem_7 : decode cX2_choiceItem 7 = .ok (.imul, 1) := by decide +kernel
theorem dX2_choiceItem_8 : decode cX2_choiceItem 8 = .ok (.iconst 1, 1) := by decide +kernel
theorem dX2_choiceItem_9 : decode cX2_choiceItem 9 = .ok (.iadd, 1) := by decide +kernel
theorem dX2_choiceItem_10 : decode cX2_choiceItem 10 = .ok (.iload_n 2, 1) := by decide +kernel
theorem dX2_choiceItem_11 : decode cX2_choiceItem 11 = .ok (.iadd, 1) := by decide +kernel
theorem dX2_choiceItem_12 : decode cX2_choiceItem 12 = .ok (.aaload, 1) := by decide +kernel
theorem dX2_choiceItem_13 : decode cX2_choiceItem 13 = .ok (.areturn, 1) := by decide +kernel
theorem dX2_startItem_0 : decode cX2_startItem 0 = .ok (.aload_n 0, 1) := by decide +kernel
theorem dX2_startItem_1 : decode cX2_startItem 1 = .ok (.getfield 11, 3) := by decide +kernel
theorem dX2_startItem_4 : decode cX2_startItem 4 = .ok (.sipush 140, 3) := by decide +kernel
theorem dX2_startItem_7 : decode cX2_startItem 7 = .ok (.aaload, 1) := by decide +kernel
theorem dX2_startItem_8 : decode cX2_startItem 8 = .ok (.areturn, 1) := by decide +kernel
theorem dX2_copyFrom_0 : decode cX2_copyFrom 0 = .ok (.iconst 0, 1) := by decide +kernel
theorem dX2_copyFrom_1 : decode cX2_copyFrom 1 = .ok (.istore_n 2, 1) := by decide +kernel
theorem dX2_copyFrom_2 : decode cX2_copyFrom 2 = .ok (.iload_n 2, 1) := by decide +kernel
theorem dX2_copyFrom_3 : decode cX2_copyFrom 3 = .ok (.sipush 141, 3) := by decide +kernel
theorem dX2_copyFrom_6 : decode cX2_copyFrom 6 = .ok (.if_icmp .ge 24, 3) := by decide +kernel
theorem dX2_copyFrom_9 : decode cX2_copyFrom 9 = .ok (.aload_n 0, 1) := by decide +kernel
theorem dX2_copyFrom_10 : decode cX2_copyFrom 10 = .ok (.getfield 11, 3) := by decide +kernel
theorem dX2_copyFrom_13 : decode cX2_copyFrom 13 = .ok (.iload_n 2, 1) := by decide +kernel
theorem dX2_copyFrom_14 : decode cX2_copyFrom 14 = .ok (.aaload, 1) := by decide +kernel
theorem dX2_copyFrom_15 : decode cX2_copyFrom 15 = .ok (.aload_n 1, 1) := by decide +kernel
theorem dX2_copyFrom_16 : decode cX2_copyFrom 16 = .ok (.getfield 11, 3) := by decide +kernel
theorem dX2_copyFrom_19 : decode cX2_copyFrom 19 = .ok (.iload_n 2, 1) := by decide +kernel
theorem dX2_copyFrom_20 : decode cX2_copyFrom 20 = .ok (.aaload, 1) := by decide +kernel
theorem dX2_copyFrom_21 : decode cX2_copyFrom 21 = .ok (.invokevirtual 20, 3) := by decide +kernel
theorem dX2_copyFrom_24 : decode cX2_copyFrom 24 = .ok (.iinc 2 1, 3) := by decide +kernel
theorem dX2_copyFrom_27 : decode cX2_copyFrom 27 = .ok (.goto (-25), 3) := by decide +kernel
theorem dX2_copyFrom_30 : decode cX2_copyFrom 30 = .ok (.return_, 1) := by decide +kernel
theorem dX2_removeChoices_0 : decode cX2_removeChoices 0 = .ok (.iconst 0, 1) := by decide +kernel
theorem dX2_removeChoices_1 : decode cX2_removeChoices 1 = .ok (.istore_n 2, 1) := by decide +kernel
theorem dX2_removeChoices_2 : decode cX2_removeChoices 2 = .ok (.iload_n 2, 1) := by decide +kernel
theorem dX2_removeChoices_3 : decode cX2_removeChoices 3 = .ok (.bipush 6, 2) := by decide +kernel
theorem dX2_removeChoices_5 : decode cX2_removeChoices 5 = .ok (.if_icmp .ge 19, 3) := by decide +kernel
theorem dX2_removeChoices_8 : decode cX2_removeChoices 8 = .ok (.aload_n 0, 1) := by decide +kernel
theorem dX2_removeChoices_9 : decode cX2_removeChoices 9 = .ok (.iload_n 1, 1) := by decide +kernel
theorem dX2_removeChoices_10 : decode cX2_removeChoices 10 = .ok (.iload_n 2, 1) := by decide +kernel
theorem dX2_removeChoices_11 : decode cX2_removeChoices 11 = .ok (.invokevirtual 24, 3) := by decide +kernel
theorem dX2_removeChoices_14 : decode cX2_removeChoices 14 = .ok (.iconst (-1), 1) := by decide +kernel
theorem dX2_removeChoices_15 : decode cX2_removeChoices 15 = .ok (.invokevirtual 28, 3) := by decide +kernel
theorem dX2_removeChoices_18 : decode cX2_removeChoices 18 = .ok (.iinc 2 1, 3) := by decide +kernel
theorem dX2_removeChoices_21 : decode cX2_removeChoices 21 = .ok (.goto (-19), 3) := by decide +kernel
theorem dX2_removeChoices_24 : decode cX2_removeChoices 24 = .ok (.return_, 1) := by decide +kernel
theorem dX2_removeLooseChoices_0 : decode cX2_removeLooseChoices 0 = .ok (.iconst 0, 1) := by decide +kernel
theorem dX2_removeLooseChoices_1 : decode cX2_removeLooseChoices 1 = .ok (.istore_n 1, 1) := by decide +kernel
theorem dX2_removeLooseChoices_2 : decode cX2_removeLooseChoices 2 = .ok (.iload_n 1, 1) := by decide +kernel
theorem dX2_removeLooseChoices_3 : decode cX2_removeLooseChoices 3 = .ok (.bipush 20, 2) := by decide +kernel
theorem dX2_removeLooseChoices_5 : decode cX2_removeLooseChoices 5 = .ok (.if_icmp .ge 25, 3) := by decide +kernel
theorem dX2_removeLooseChoices_8 : decode cX2_removeLooseChoices 8 = .ok (.aload_n 0, 1) := by decide +kernel
theorem dX2_removeLooseChoices_9 : decode cX2_removeLooseChoices 9 = .ok (.iload_n 1, 1) := by decide +kernel
theorem dX2_removeLooseChoices_10 : decode cX2_removeLooseChoices 10 = .ok (.invokevirtual 31, 3) := by decide +kernel
theorem dX2_removeLooseChoices_13 : decode cX2_removeLooseChoices 13 = .ok (.invokevirtual 35, 3) := by decide +kernel
theorem dX2_removeLooseChoices_16 : decode cX2_removeLooseChoices 16 = .ok (.ifCond .ne 8, 3) := by decide +kernel
theorem dX2_removeLooseChoices_19 : decode cX2_removeLooseChoices 19 = .ok (.aload_n 0, 1) := by decide +kernel
theorem dX2_removeLooseChoices_20 : decode cX2_removeLooseChoices 20 = .ok (.iload_n 1, 1) := by decide +kernel
theorem dX2_removeLooseChoices_21 : decode cX2_removeLooseChoices 21 = .ok (.invokevirtual 39, 3) := by decide +kernel
theorem dX2_removeLooseChoices_24 : decode cX2_removeLooseChoices 24 = .ok (.iinc 1 1, 3) := by decide +kernel
theorem dX2_removeLooseChoices_27 : decode cX2_removeLooseChoices 27 = .ok (.goto (-25), 3) := by decide +kernel
theorem dX2_removeLooseChoices_30 : decode cX2_removeLooseChoices 30 = .ok (.return_, 1) := by decide +kernel
theorem dX2_choiceBits_0 : decode cX2_choiceBits 0 = .ok (.iconst 0, 1) := by decide +kernel
theorem dX2_choiceBits_1 : decode cX2_choiceBits 1 = .ok (.istore_n 2, 1) := by decide +kernel
theorem dX2_choiceBits_2 : decode cX2_choiceBits 2 = .ok (.iconst 0, 1) := by decide +kernel
theorem dX2_choiceBits_3 : decode cX2_choiceBits 3 = .ok (.istore_n 3, 1) := by decide +kernel
theorem dX2_choiceBits_4 : decode cX2_choiceBits 4 = .ok (.iload_n 3, 1) := by decide +kernel
theorem dX2_choiceBits_5 : decode cX2_choiceBits 5 = .ok (.bipush 6, 2) := by decide +kernel
theorem dX2_choiceBits_7 : decode cX2_choiceBits 7 = .ok (.if_icmp .ge 27, 3) := by decide +kernel
theorem dX2_choiceBits_10 : decode cX2_choiceBits 10 = .ok (.aload_n 0, 1) := by decide +kernel
theorem dX2_choiceBits_11 : decode cX2_choiceBits 11 = .ok (.iload_n 1, 1) := by decide +kernel
theorem dX2_choiceBits_12 : decode cX2_choiceBits 12 = .ok (.iload_n 3, 1) := by decide +kernel
theorem dX2_choiceBits_13 : decode cX2_choiceBits 13 = .ok (.invokevirtual 24, 3) := by decide +kernel
theorem dX2_choiceBits_16 : decode cX2_choiceBits 16 = .ok (.invokevirtual 35, 3) := by decide +kernel
theorem dX2_choiceBits_19 : decode cX2_choiceBits 19 = .ok (.ifCond .eq 9, 3) := by decide +kernel
theorem dX2_choiceBits_22 : decode cX2_choiceBits 22 = .ok (.iload_n 2, 1) := by decide +kernel
theorem dX2_choiceBits_23 : decode cX2_choiceBits 23 = .ok (.iconst 1, 1) := by decide +kernel
theorem dX2_choiceBits_24 : decode cX2_choiceBits 24 = .ok (.iload_n 3, 1) := by decide +kernel
theorem dX2_choiceBits_25 : decode cX2_choiceBits 25 = .ok (.ishl, 1) := by decide +kernel
theorem dX2_choiceBits_26 : decode cX2_choiceBits 26 = .ok (.ior, 1) := by decide +kernel
theorem dX2_choiceBits_27 : decode cX2_choiceBits 27 = .ok (.istore_n 2, 1) := by decide +kernel
theorem dX2_choiceBits_28 : decode cX2_choiceBits 28 = .ok (.iinc 3 1, 3) := by decide +kernel
theorem dX2_choiceBits_31 : decode cX2_choiceBits 31 = .ok (.goto (-27), 3) := by decide +kernel
theorem dX2_choiceBits_34 : decode cX2_choiceBits 34 = .ok (.iload_n 2, 1) := by decide +kernel
theorem dX2_choiceBits_35 : decode cX2_choiceBits 35 = .ok (.ireturn, 1) := by decide +kernel
theorem dX2_countScenes_0 : decode cX2_countScenes 0 = .ok (.iconst 0, 1) := by decide +kernel
theorem dX2_countScenes_1 : decode cX2_countScenes 1 = .ok (.istore_n 1, 1) := by decide +kernel
theorem dX2_countScenes_2 : decode cX2_countScenes 2 = .ok (.iconst 0, 1) := by decide +kernel
theorem dX2_countScenes_3 : decode cX2_countScenes 3 = .ok (.istore_n 2, 1) := by decide +kernel
theorem dX2_countScenes_4 : decode cX2_countScenes 4 = .ok (.iload_n 2, 1) := by decide +kernel
theorem dX2_countScenes_5 : decode cX2_countScenes 5 = .ok (.bipush 20, 2) := by decide +kernel
theorem dX2_countScenes_7 : decode cX2_countScenes 7 = .ok (.if_icmp .ge 23, 3) := by decide +kernel
theorem dX2_countScenes_10 : decode cX2_countScenes 10 = .ok (.aload_n 0, 1) := by decide +kernel
theorem dX2_countScenes_11 : decode cX2_countScenes 11 = .ok (.iload_n 2, 1) := by decide +kernel
theorem dX2_countScenes_12 : decode cX2_countScenes 12 = .ok (.invokevirtual 31, 3) := by decide +kernel
theorem dX2_countScenes_15 : decode cX2_countScenes 15 = .ok (.invokevirtual 35, 3) := by decide +kernel
theorem dX2_countScenes_18 : decode cX2_countScenes 18 = .ok (.ifCond .eq 6, 3) := by decide +kernel
theorem dX2_countScenes_21 : decode cX2_countScenes 21 = .ok (.iinc 1 1, 3) := by decide +kernel
theorem dX2_countScenes_24 : decode cX2_countScenes 24 = .ok (.iinc 2 1, 3) := by decide +kernel
theorem dX2_countScenes_27 : decode cX2_countScenes 27 = .ok (.goto (-23), 3) := by decide +kernel
theorem dX2_countScenes_30 : decode cX2_countScenes 30 = .ok (.iload_n 1, 1) := by decide +kernel
theorem dX2_countScenes_31 : decode cX2_countScenes 31 = .ok (.ireturn, 1) := by decide +kernel
theorem dX2_countChoices_0 : decode cX2_countChoices 0 = .ok (.iconst 0, 1) := by decide +kernel
theorem dX2_countChoices_1 : decode cX2_countChoices 1 = .ok (.istore_n 1, 1) := by decide +kernel
theorem dX2_countChoices_2 : decode cX2_countChoices 2 = .ok (.iconst 0, 1) := by decide +kernel
theorem dX2_countChoices_3 : decode cX2_countChoices 3 = .ok (.istore_n 2, 1) := by decide +kernel
theorem dX2_countChoices_4 : decode cX2_countChoices 4 = .ok (.iload_n 2, 1) := by decide +kernel
theorem dX2_countChoices_5 : decode cX2_countChoices 5 = .ok (.bipush 20, 2) := by decide +kernel
theorem dX2_countChoices_7 : decode cX2_countChoices 7 = .ok (.if_icmp .ge 20, 3) := by decide +kernel
theorem dX2_countChoices_10 : decode cX2_countChoices 10 = .ok (.iload_n 1, 1) := by decide +kernel
theorem dX2_countChoices_11 : decode cX2_countChoices 11 = .ok (.aload_n 0, 1) := by decide +kernel
theorem dX2_countChoices_12 : decode cX2_countChoices 12 = .ok (.iload_n 2, 1) := by decide +kernel
theorem dX2_countChoices_13 : decode cX2_countChoices 13 = .ok (.invokevirtual 42, 3) := by decide +kernel
theorem dX2_countChoices_16 : decode cX2_countChoices 16 = .ok (.invokestatic 46, 3) := by decide +kernel
theorem dX2_countChoices_19 : decode cX2_countChoices 19 = .ok (.iadd, 1) := by decide +kernel
theorem dX2_countChoices_20 : decode cX2_countChoices 20 = .ok (.istore_n 1, 1) := by decide +kernel
theorem dX2_countChoices_21 : decode cX2_countChoices 21 = .ok (.iinc 2 1, 3) := by decide +kernel
theorem dX2_countChoices_24 : decode cX2_countChoices 24 = .ok (.goto (-20), 3) := by decide +kernel
theorem dX2_countChoices_27 : decode cX2_countChoices 27 = .ok (.iload_n 1, 1) := by decide +kernel
theorem dX2_countChoices_28 : decode cX2_countChoices 28 = .ok (.ireturn, 1) := by decide +kernel
theorem dX2_hasBeginning_0 : decode cX2_hasBeginning 0 = .ok (.aload_n 0, 1) := by decide +kernel
theorem dX2_hasBeginning_1 : decode cX2_hasBeginning 1 = .ok (.iconst 0, 1) := by decide +kernel
theorem dX2_hasBeginning_2 : decode cX2_hasBeginning 2 = .ok (.invokevirtual 31, 3) := by decide +kernel
theorem dX2_hasBeginning_5 : decode cX2_hasBeginning 5 = .ok (.invokevirtual 35, 3) := by decide +kernel
theorem dX2_hasBeginning_8 : decode cX2_hasBeginning 8 = .ok (.ifCond .eq 13, 3) := by decide +kernel
theorem dX2_hasBeginning_11 : decode cX2_hasBeginning 11 = .ok (.iload_n 1, 1) := by decide +kernel
theorem dX2_hasBeginning_12 : decode cX2_hasBeginning 12 = .ok (.iconst 1, 1) := by decide +kernel
theorem dX2_hasBeginning_13 : decode cX2_hasBeginning 13 = .ok (.iand, 1) := by decide +kernel
theorem dX2_hasBeginning_14 : decode cX2_hasBeginning 14 = .ok (.ifCond .ne 7, 3) := by decide +kernel
theorem dX2_hasBeginning_17 : decode cX2_hasBeginning 17 = .ok (.iconst 1, 1) := by decide +kernel
theorem dX2_hasBeginning_18 : decode cX2_hasBeginning 18 = .ok (.goto 4, 3) := by decide +kernel
theorem dX2_hasBeginning_21 : decode cX2_hasBeginning 21 = .ok (.iconst 0, 1) := by decide +kernel
theorem dX2_hasBeginning_22 : decode cX2_hasBeginning 22 = .ok (.ireturn, 1) := by decide +kernel
theorem dX2_beginningWith_0 : decode cX2_beginningWith 0 = .ok (.iconst 0, 1) := by decide +kernel
theorem dX2_beginningWith_1 : decode cX2_beginningWith 1 = .ok (.aload_n 0, 1) := by decide +kernel
theorem dX2_beginningWith_2 : decode cX2_beginningWith 2 = .ok (.invokevirtual 51, 3) := by decide +kernel
theorem dX2_beginningWith_5 : decode cX2_beginningWith 5 = .ok (.getfield 55, 3) := by decide +kernel
theorem dX2_beginningWith_8 : decode cX2_beginningWith 8 = .ok (.iload_n 1, 1) := by decide +kernel
theorem dX2_beginningWith_9 : decode cX2_beginningWith 9 = .ok (.ior, 1) := by decide +kernel
theorem dX2_beginningWith_10 : decode cX2_beginningWith 10 = .ok (.invokestatic 59, 3) := by decide +kernel
theorem dX2_beginningWith_13 : decode cX2_beginningWith 13 = .ok (.ireturn, 1) := by decide +kernel
theorem dX2_isEndingState_0 : decode cX2_isEndingState 0 = .ok (.aload_n 0, 1) := by decide +kernel
theorem dX2_isEndingState_1 : decode cX2_isEndingState 1 = .ok (.iload_n 1, 1) := by decide +kernel
theorem dX2_isEndingState_2 : decode cX2_isEndingState 2 = .ok (.invokestatic 63, 3) := by decide +kernel
theorem dX2_isEndingState_5 : decode cX2_isEndingState 5 = .ok (.invokevirtual 31, 3) := by decide +kernel
theorem dX2_isEndingState_8 : decode cX2_isEndingState 8 = .ok (.invokevirtual 66, 3) := by decide +kernel
theorem dX2_isEndingState_11 : decode cX2_isEndingState 11 = .ok (.ireturn, 1) := by decide +kernel
theorem dX2_leadsTo_0 : decode cX2_leadsTo 0 = .ok (.iload_n 1, 1) := by decide +kernel
theorem dX2_leadsTo_1 : decode cX2_leadsTo 1 = .ok (.invokestatic 63, 3) := by decide +kernel
theorem dX2_leadsTo_4 : decode cX2_leadsTo 4 = .ok (.istore 4, 2) := by decide +kernel
theorem dX2_leadsTo_6 : decode cX2_leadsTo 6 = .ok (.iload_n 1, 1) := by decide +kernel
theorem dX2_leadsTo_7 : decode cX2_leadsTo 7 = .ok (.invokestatic 69, 3) := by decide +kernel
theorem dX2_leadsTo_10 : decode cX2_leadsTo 10 = .ok (.istore 5, 2) := by decide +kernel
theorem dX2_leadsTo_12 : decode cX2_leadsTo 12 = .ok (.aload_n 0, 1) := by decide +kernel
theorem dX2_leadsTo_13 : decode cX2_leadsTo 13 = .ok (.iload 4, 2) := by decide +kernel
theorem dX2_leadsTo_15 : decode cX2_leadsTo 15 = .ok (.iload_n 2, 1) := by decide +kernel
theorem dX2_leadsTo_16 : decode cX2_leadsTo 16 = .ok (.invokevirtual 24, 3) := by decide +kernel
theorem dX2_leadsTo_19 : decode cX2_leadsTo 19 = .ok (.astore 6, 2) := by decide +kernel
theorem dX2_leadsTo_21 : decode cX2_leadsTo 21 = .ok (.aload 6, 2) := by decide +kernel
theorem dX2_leadsTo_23 : decode cX2_leadsTo 23 = .ok (.invokevirtual 35, 3) := by decide +kernel
theorem dX2_leadsTo_26 : decode cX2_leadsTo 26 = .ok (.ifCond .eq 25, 3) := by decide +kernel
theorem dX2_leadsTo_29 : decode cX2_leadsTo 29 = .ok (.aload_n 0, 1) := by decide +kernel
theorem dX2_leadsTo_30 : decode cX2_leadsTo 30 = .ok (.iload 4, 2) := by decide +kernel
theorem dX2_leadsTo_32 : decode cX2_leadsTo 32 = .ok (.invokevirtual 31, 3) := by decide +kernel
theorem dX2_leadsTo_35 : decode cX2_leadsTo 35 = .ok (.invokevirtual 66, 3) := by decide +kernel
theorem dX2_leadsTo_38 : decode cX2_leadsTo 38 = .ok (.ifCond .ne 13, 3) := by decide +kernel
theorem dX2_leadsTo_41 : decode cX2_leadsTo 41 = .ok (.aload 6, 2) := by decide +kernel
theorem dX2_leadsTo_43 : decode cX2_leadsTo 43 = .ok (.iload 5, 2) := by decide +kernel
theorem dX2_leadsTo_45 : decode cX2_leadsTo 45 = .ok (.invokevirtual 72, 3) := by decide +kernel
theorem dX2_leadsTo_48 : decode cX2_leadsTo 48 = .ok (.ifCond .ne 5, 3) := by decide +kernel
theorem dX2_leadsTo_51 : decode cX2_leadsTo 51 = .ok (.iconst (-1), 1) := by decide +kernel
theorem dX2_leadsTo_52 : decode cX2_leadsTo 52 = .ok (.ireturn, 1) := by decide +kernel
theorem dX2_leadsTo_53 : decode cX2_leadsTo 53 = .ok (.aload 6, 2) := by decide +kernel
theorem dX2_leadsTo_55 : decode cX2_leadsTo 55 = .ok (.getfield 55, 3) := by decide +kernel
theorem dX2_leadsTo_58 : decode cX2_leadsTo 58 = .ok (.istore 7, 2) := by decide +kernel
theorem dX2_leadsTo_60 : decode cX2_leadsTo 60 = .ok (.aload_n 0, 1) := by decide +kernel
theorem dX2_leadsTo_61 : decode cX2_leadsTo 61 = .ok (.iload 7, 2) := by decide +kernel
theorem dX2_leadsTo_63 : decode cX2_leadsTo 63 = .ok (.invokevirtual 31, 3) := by decide +kernel
theorem dX2_leadsTo_66 : decode cX2_leadsTo 66 = .ok (.astore 8, 2) := by decide +kernel
theorem dX2_leadsTo_68 : decode cX2_leadsTo 68 = .ok (.iload 5, 2) := by decide +kernel
theorem dX2_leadsTo_70 : decode cX2_leadsTo 70 = .ok (.aload 6, 2) := by decide +kernel
theorem dX2_leadsTo_72 : decode cX2_leadsTo 72 = .ok (.getfield 76, 3) := by decide +kernel
theorem dX2_leadsTo_75 : decode cX2_leadsTo 75 = .ok (.iconst (-1), 1) := by decide +kernel
theorem dX2_leadsTo_76 : decode cX2_leadsTo 76 = .ok (.ixor, 1) := by decide +kernel
theorem dX2_leadsTo_77 : decode cX2_leadsTo 77 = .ok (.iand, 1) := by decide +kernel
theorem dX2_leadsTo_78 : decode cX2_leadsTo 78 = .ok (.aload 6, 2) := by decide +kernel
theorem dX2_leadsTo_80 : decode cX2_leadsTo 80 = .ok (.getfield 79, 3) := by decide +kernel
theorem dX2_leadsTo_83 : decode cX2_leadsTo 83 = .ok (.ior, 1) := by decide +kernel
theorem dX2_leadsTo_84 : decode cX2_leadsTo 84 = .ok (.istore 9, 2) := by decide +kernel
theorem dX2_leadsTo_86 : decode cX2_leadsTo 86 = .ok (.iload_n 3, 1) := by decide +kernel
theorem dX2_leadsTo_87 : decode cX2_leadsTo 87 = .ok (.iload 7, 2) := by decide +kernel
theorem dX2_leadsTo_89 : decode cX2_leadsTo 89 = .ok (.ishr, 1) := by decide +kernel
theorem dX2_leadsTo_90 : decode cX2_leadsTo 90 = .ok (.iconst 1, 1) := by decide +kernel
theorem dX2_leadsTo_91 : decode cX2_leadsTo 91 = .ok (.iand, 1) := by decide +kernel
theorem dX2_leadsTo_92 : decode cX2_leadsTo 92 = .ok (.ifCond .eq 7, 3) := by decide +kernel
theorem dX2_leadsTo_95 : decode cX2_leadsTo 95 = .ok (.iconst 1, 1) := by decide +kernel
theorem dX2_leadsTo_96 : decode cX2_leadsTo 96 = .ok (.goto 4, 3) := by decide +kernel
theorem dX2_leadsTo_99 : decode cX2_leadsTo 99 = .ok (.iconst 0, 1) := by decide +kernel
theorem dX2_leadsTo_100 : decode cX2_leadsTo 100 = .ok (.istore 10, 2) := by decide +kernel
theorem dX2_leadsTo_102 : decode cX2_leadsTo 102 = .ok (.aload 8, 2) := by decide +kernel
theorem dX2_leadsTo_104 : decode cX2_leadsTo 104 = .ok (.invokevirtual 35, 3) := by decide +kernel
theorem dX2_leadsTo_107 : decode cX2_leadsTo 107 = .ok (.ifCond .eq 18, 3) := by decide +kernel
theorem dX2_leadsTo_110 : decode cX2_leadsTo 110 = .ok (.iload 10, 2) := by decide +kernel
theorem dX2_leadsTo_112 : decode cX2_leadsTo 112 = .ok (.ifCond .ne 13, 3) := by decide +kernel
theorem dX2_leadsTo_115 : decode cX2_leadsTo 115 = .ok (.aload 8, 2) := by decide +kernel
theorem dX2_leadsTo_117 : decode cX2_leadsTo 117 = .ok (.iload 9, 2) := by decide +kernel
theorem dX2_leadsTo_119 : decode cX2_leadsTo 119 = .ok (.invokevirtual 72, 3) := by decide +kernel
theorem dX2_leadsTo_122 : decode cX2_leadsTo 122 = .ok (.ifCond .ne 5, 3) := by decide +kernel
theorem dX2_leadsTo_125 : decode cX2_leadsTo 125 = .ok (.iconst (-1), 1) := by decide +kernel
theorem dX2_leadsTo_126 : decode cX2_leadsTo 126 = .ok (.ireturn, 1) := by decide +kernel
theorem dX2_leadsTo_127 : decode cX2_leadsTo 127 = .ok (.iload 7, 2) := by decide +kernel
theorem dX2_leadsTo_129 : decode cX2_leadsTo 129 = .ok (.iload 9, 2) := by decide +kernel
theorem dX2_leadsTo_131 : decode cX2_leadsTo 131 = .ok (.aload 8, 2) := by decide +kernel
theorem dX2_leadsTo_133 : decode cX2_leadsTo 133 = .ok (.getfield 76, 3) := by decide +kernel
theorem dX2_leadsTo_136 : decode cX2_leadsTo 136 = .ok (.iconst (-1), 1) := by decide +kernel
theorem dX2_leadsTo_137 : decode cX2_leadsTo 137 = .ok (.ixor, 1) := by decide +kernel
theorem dX2_leadsTo_138 : decode cX2_leadsTo 138 = .ok (.iand, 1) := by decide +kernel
theorem dX2_leadsTo_139 : decode cX2_leadsTo 139 = .ok (.invokestatic 59, 3) := by decide +kernel
theorem dX2_leadsTo_142 : decode cX2_leadsTo 142 = .ok (.ireturn, 1) := by decide +kernel
theorem dX2_findLive_0 : decode cX2_findLive 0 = .ok (.iconst 0, 1) := by decide +kernel
theorem dX2_findLive_1 : decode cX2_findLive 1 = .ok (.istore_n 2, 1) := by decide +kernel
theorem dX2_findLive_2 : decode cX2_findLive 2 = .ok (.iload_n 2, 1) := by decide +kernel
theorem dX2_findLive_3 : decode cX2_findLive 3 = .ok (.bipush 20, 2) := by decide +kernel
theorem dX2_findLive_5 : decode cX2_findLive 5 = .ok (.if_icmp .ge 13, 3) := by decide +kernel
theorem dX2_findLive_8 : decode cX2_findLive 8 = .ok (.aload_n 1, 1) := by decide +kernel
theorem dX2_findLive_9 : decode cX2_findLive 9 = .ok (.iload_n 2, 1) := by decide +kernel
theorem dX2_findLive_10 : decode cX2_findLive 10 = .ok (.iconst 0, 1) := by decide +kernel
theorem dX2_findLive_11 : decode cX2_findLive 11 = .ok (.iastore, 1) := by decide +kernel
theorem dX2_findLive_12 : decode cX2_findLive 12 = .ok (.iinc 2 1, 3) := by decide +kernel
theorem dX2_findLive_15 : decode cX2_findLive 15 = .ok (.goto (-13), 3) := by decide +kernel
theorem dX2_findLive_18 : decode cX2_findLive 18 = .ok (.iconst 1, 1) := by decide +kernel
theorem dX2_findLive_19 : decode cX2_findLive 19 = .ok (.istore_n 2, 1) := by decide +kernel
theorem dX2_findLive_20 : decode cX2_findLive 20 = .ok (.iconst 0, 1) := by decide +kernel
theorem dX2_findLive_21 : decode cX2_findLive 21 = .ok (.istore_n 3, 1) := by decide +kernel
theorem dX2_findLive_22 : decode cX2_findLive 22 = .ok (.iload_n 2, 1) := by decide +kernel
theorem dX2_findLive_23 : decode cX2_findLive 23 = .ok (.ifCond .eq 65, 3) := by decide +kernel
theorem dX2_findLive_26 : decode cX2_findLive 26 = .ok (.iload_n 3, 1) := by decide +kernel
theorem dX2_findLive_27 : decode cX2_findLive 27 = .ok (.sipush 160, 3) := by decide +kernel
theorem dX2_findLive_30 : decode cX2_findLive 30 = .ok (.if_icmp .gt 58, 3) := by decide +kernel
theorem dX2_findLive_33 : decode cX2_findLive 33 = .ok (.iconst 0, 1) := by decide +kernel
theorem dX2_findLive_34 : decode cX2_findLive 34 = .ok (.istore_n 2, 1) := by decide +kernel
theorem dX2_findLive_35 : decode cX2_findLive 35 = .ok (.bipush 19, 2) := by decide +kernel
theorem dX2_findLive_37 : decode cX2_findLive 37 = .ok (.istore 4, 2) := by decide +kernel
theorem dX2_findLive_39 : decode cX2_findLive 39 = .ok (.iload 4, 2) := by decide +kernel
theorem dX2_findLive_41 : decode cX2_findLive 41 = .ok (.ifCond .lt 41, 3) := by decide +kernel
theorem dX2_findLive_44 : decode cX2_findLive 44 = .ok (.aload_n 0, 1) := by decide +kernel
theorem dX2_findLive_45 : decode cX2_findLive 45 = .ok (.iload 4, 2) := by decide +kernel
theorem dX2_findLive_47 : decode cX2_findLive 47 = .ok (.aload_n 1, 1) := by decide +kernel
theorem dX2_findLive_48 : decode cX2_findLive 48 = .ok (.invokevirtual 82, 3) := by decide +kernel
theorem dX2_findLive_51 : decode cX2_findLive 51 = .ok (.istore 5, 2) := by decide +kernel
theorem dX2_findLive_53 : decode cX2_findLive 53 = .ok (.iload_n 2, 1) := by decide +kernel
theorem dX2_findLive_54 : decode cX2_findLive 54 = .ok (.iload 5, 2) := by decide +kernel
theorem dX2_findLive_56 : decode cX2_findLive 56 = .ok (.aload_n 1, 1) := by decide +kernel
theorem dX2_findLive_57 : decode cX2_findLive 57 = .ok (.iload 4, 2) := by decide +kernel
theorem dX2_findLive_59 : decode cX2_findLive 59 = .ok (.iaload, 1) := by decide +kernel
theorem dX2_findLive_60 : decode cX2_findLive 60 = .ok (.if_icmp .eq 7, 3) := by decide +kernel
theorem dX2_findLive_63 : decode cX2_findLive 63 = .ok (.iconst 1, 1) := by decide +kernel
theorem dX2_findLive_64 : decode cX2_findLive 64 = .ok (.goto 4, 3) := by decide +kernel
theorem dX2_findLive_67 : decode cX2_findLive 67 = .ok (.iconst 0, 1) := by decide +kernel
theorem dX2_findLive_68 : decode cX2_findLive 68 = .ok (.ior, 1) := by decide +kernel
theorem dX2_findLive_69 : decode cX2_findLive 69 = .ok (.istore_n 2, 1) := by decide +kernel
theorem dX2_findLive_70 : decode cX2_findLive 70 = .ok (.aload_n 1, 1) := by decide +kernel
theorem dX2_findLive_71 : decode cX2_findLive 71 = .ok (.iload 4, 2) := by decide +kernel
theorem dX2_findLive_73 : decode cX2_findLive 73 = .ok (.iload 5, 2) := by decide +kernel
theorem dX2_findLive_75 : decode cX2_findLive 75 = .ok (.iastore, 1) := by decide +kernel
theorem dX2_findLive_76 : decode cX2_findLive 76 = .ok (.iinc 4 (-1), 3) := by decide +kernel
theorem dX2_findLive_79 : decode cX2_findLive 79 = .ok (.goto (-40), 3) := by decide +kernel
theorem dX2_findLive_82 : decode cX2_findLive 82 = .ok (.iinc 3 1, 3) := by decide +kernel
theorem dX2_findLive_85 : decode cX2_findLive 85 = .ok (.goto (-63), 3) := by decide +kernel
theorem dX2_findLive_88 : decode cX2_findLive 88 = .ok (.return_, 1) := by decide +kernel
theorem dX2_liveAt_0 : decode cX2_liveAt 0 = .ok (.iconst 0, 1) := by decide +kernel
theorem dX2_liveAt_1 : decode cX2_liveAt 1 = .ok (.istore_n 3, 1) := by decide +kernel
theorem dX2_liveAt_2 : decode cX2_liveAt 2 = .ok (.aload_n 0, 1) := by decide +kernel
theorem dX2_liveAt_3 : decode cX2_liveAt 3 = .ok (.iload_n 1, 1) := by decide +kernel
theorem dX2_liveAt_4 : decode cX2_liveAt 4 = .ok (.invokevirtual 31, 3) := by decide +kernel
theorem dX2_liveAt_7 : decode cX2_liveAt 7 = .ok (.invokevirtual 66, 3) := by decide +kernel
theorem dX2_liveAt_10 : decode cX2_liveAt 10 = .ok (.ifCond .eq 5, 3) := by decide +kernel
theorem dX2_liveAt_13 : decode cX2_liveAt 13 = .ok (.iload_n 3, 1) := by decide +kernel
theorem dX2_liveAt_14 : decode cX2_liveAt 14 = .ok (.ireturn, 1) := by decide +kernel
theorem dX2_liveAt_15 : decode cX2_liveAt 15 = .ok (.iconst 0, 1) := by decide +kernel
theorem dX2_liveAt_16 : decode cX2_liveAt 16 = .ok (.istore 4, 2) := by decide +kernel
theorem dX2_liveAt_18 : decode cX2_liveAt 18 = .ok (.iload 4, 2) := by decide +kernel
theorem dX2_liveAt_20 : decode cX2_liveAt 20 = .ok (.bipush 6, 2) := by decide +kernel
theorem dX2_liveAt_22 : decode cX2_liveAt 22 = .ok (.if_icmp .ge 100, 3) := by decide +kernel
theorem dX2_liveAt_25 : decode cX2_liveAt 25 = .ok (.aload_n 0, 1) := by decide +kernel
theorem dX2_liveAt_26 : decode cX2_liveAt 26 = .ok (.iload_n 1, 1) := by decide +kernel
theorem dX2_liveAt_27 : decode cX2_liveAt 27 = .ok (.iload 4, 2) := by decide +kernel
theorem dX2_liveAt_29 : decode cX2_liveAt 29 = .ok (.invokevirtual 24, 3) := by decide +kernel
theorem dX2_liveAt_32 : decode cX2_liveAt 32 = .ok (.astore 5, 2) := by decide +kernel
theorem dX2_liveAt_34 : decode cX2_liveAt 34 = .ok (.aload 5, 2) := by decide +kernel
theorem dX2_liveAt_36 : decode cX2_liveAt 36 = .ok (.invokevirtual 35, 3) := by decide +kernel
theorem dX2_liveAt_39 : decode cX2_liveAt 39 = .ok (.ifCond .eq 77, 3) := by decide +kernel
theorem dX2_liveAt_42 : decode cX2_liveAt 42 = .ok (.aload_n 0, 1) := by decide +kernel
theorem dX2_liveAt_43 : decode cX2_liveAt 43 = .ok (.aload 5, 2) := by decide +kernel
theorem dX2_liveAt_45 : decode cX2_liveAt 45 = .ok (.getfield 55, 3) := by decide +kernel
theorem dX2_liveAt_48 : decode cX2_liveAt 48 = .ok (.invokevirtual 31, 3) := by decide +kernel
theorem dX2_liveAt_51 : decode cX2_liveAt 51 = .ok (.invokevirtual 35, 3) := by decide +kernel
theorem dX2_liveAt_54 : decode cX2_liveAt 54 = .ok (.ifCond .eq 62, 3) := by decide +kernel
theorem dX2_liveAt_57 : decode cX2_liveAt 57 = .ok (.aload_n 0, 1) := by decide +kernel
theorem dX2_liveAt_58 : decode cX2_liveAt 58 = .ok (.aload 5, 2) := by decide +kernel
theorem dX2_liveAt_60 : decode cX2_liveAt 60 = .ok (.getfield 55, 3) := by decide +kernel
theorem dX2_liveAt_63 : decode cX2_liveAt 63 = .ok (.invokevirtual 31, 3) := by decide +kernel
theorem dX2_liveAt_66 : decode cX2_liveAt 66 = .ok (.astore 6, 2) := by decide +kernel
theorem dX2_liveAt_68 : decode cX2_liveAt 68 = .ok (.aload 6, 2) := by decide +kernel
theorem dX2_liveAt_70 : decode cX2_liveAt 70 = .ok (.getfield 86, 3) := by decide +kernel
theorem dX2_liveAt_73 : decode cX2_liveAt 73 = .ok (.aload_n 2, 1) := by decide +kernel
theorem dX2_liveAt_74 : decode cX2_liveAt 74 = .ok (.aload 5, 2) := by decide +kernel
theorem dX2_liveAt_76 : decode cX2_liveAt 76 = .ok (.getfield 55, 3) := by decide +kernel
theorem dX2_liveAt_79 : decode cX2_liveAt 79 = .ok (.iaload, 1) := by decide +kernel
theorem dX2_liveAt_80 : decode cX2_liveAt 80 = .ok (.aload 6, 2) := by decide +kernel
theorem dX2_liveAt_82 : decode cX2_liveAt 82 = .ok (.getfield 76, 3) := by decide +kernel
theorem dX2_liveAt_85 : decode cX2_liveAt 85 = .ok (.iconst (-1), 1) := by decide +kernel
theorem dX2_liveAt_86 : decode cX2_liveAt 86 = .ok (.ixor, 1) := by decide +kernel
theorem dX2_liveAt_87 : decode cX2_liveAt 87 = .ok (.iand, 1) := by decide +kernel
theorem dX2_liveAt_88 : decode cX2_liveAt 88 = .ok (.ior, 1) := by decide +kernel
theorem dX2_liveAt_89 : decode cX2_liveAt 89 = .ok (.istore 7, 2) := by decide +kernel
theorem dX2_liveAt_91 : decode cX2_liveAt 91 = .ok (.iload_n 3, 1) := by decide +kernel
theorem dX2_liveAt_92 : decode cX2_liveAt 92 = .ok (.aload 5, 2) := by decide +kernel
theorem dX2_liveAt_94 : decode cX2_liveAt 94 = .ok (.getfield 86, 3) := by decide +kernel
theorem dX2_liveAt_97 : decode cX2_liveAt 97 = .ok (.iload 7, 2) := by decide +kernel
theorem dX2_liveAt_99 : decode cX2_liveAt 99 = .ok (.aload 5, 2) := by decide +kernel
theorem dX2_liveAt_101 : decode cX2_liveAt 101 = .ok (.getfield 79, 3) := by decide +kernel
theorem dX2_liveAt_104 : decode cX2_liveAt 104 = .ok (.aload 5, 2) := by decide +kernel
theorem dX2_liveAt_106 : decode cX2_liveAt 106 = .ok (.getfield 76, 3) := by decide +kernel
theorem dX2_liveAt_109 : decode cX2_liveAt 109 = .ok (.ior, 1) := by decide +kernel
theorem dX2_liveAt_110 : decode cX2_liveAt 110 = .ok (.iconst (-1), 1) := by decide +kernel
theorem dX2_liveAt_111 : decode cX2_liveAt 111 = .ok (.ixor, 1) := by decide +kernel
theorem dX2_liveAt_112 : decode cX2_liveAt 112 = .ok (.iand, 1) := by decide +kernel
theorem dX2_liveAt_113 : decode cX2_liveAt 113 = .ok (.ior, 1) := by decide +kernel
theorem dX2_liveAt_114 : decode cX2_liveAt 114 = .ok (.ior, 1) := by decide +kernel
theorem dX2_liveAt_115 : decode cX2_liveAt 115 = .ok (.istore_n 3, 1) := by decide +kernel
theorem dX2_liveAt_116 : decode cX2_liveAt 116 = .ok (.iinc 4 1, 3) := by decide +kernel
theorem dX2_liveAt_119 : decode cX2_liveAt 119 = .ok (.goto (-101), 3) := by decide +kernel
theorem dX2_liveAt_122 : decode cX2_liveAt 122 = .ok (.iload_n 3, 1) := by decide +kernel
theorem dX2_liveAt_123 : decode cX2_liveAt 123 = .ok (.ireturn, 1) := by decide +kernel
theorem dX3_init_0 : decode cX3_init 0 = .ok (.aload_n 0, 1) := by decide +kernel
theorem dX3_init_1 : decode cX3_init 1 = .ok (.invokespecial 3, 3) := by decide +kernel
theorem dX3_init_4 : decode cX3_init 4 = .ok (.aload_n 0, 1) := by decide +kernel
theorem dX3_init_5 : decode cX3_init 5 = .ok (.bipush 100, 2) := by decide +kernel
theorem dX3_init_7 : decode cX3_init 7 = .ok (.newarray .byte, 2) := by decide +kernel
theorem dX3_init_9 : decode cX3_init 9 = .ok (.putfield 11, 3) := by decide +kernel
theorem dX3_init_12 : decode cX3_init 12 = .ok (.aload_n 0, 1) := by decide +kernel
theorem dX3_init_13 : decode cX3_init 13 = .ok (.iconst 4, 1) := by decide +kernel
theorem dX3_init_14 : decode cX3_init 14 = .ok (.newarray .long, 2) := by decide +kernel
theorem dX3_init_16 : decode cX3_init 16 = .ok (.putfield 15, 3) := by decide +kernel
theorem dX3_init_19 : decode cX3_init 19 = .ok (.return_, 1) := by decide +kernel
theorem dX3_add_0 : decode cX3_add 0 = .ok (.aload_n 0, 1) := by decide +kernel
theorem dX3_add_1 : decode cX3_add 1 = .ok (.getfield 19, 3) := by decide +kernel
theorem dX3_add_4 : decode cX3_add 4 = .ok (.bipush 100, 2) := by decide +kernel
theorem dX3_add_6 : decode cX3_add 6 = .ok (.if_icmp .ge 23, 3) := by decide +kernel
theorem dX3_add_9 : decode cX3_add 9 = .ok (.aload_n 0, 1) := by decide +kernel
theorem dX3_add_10 : decode cX3_add 10 = .ok (.getfield 11, 3) := by decide +kernel
theorem dX3_add_13 : decode cX3_add 13 = .ok (.aload_n 0, 1) := by decide +kernel
theorem dX3_add_14 : decode cX3_add 14 = .ok (.getfield 19, 3) := by decide +kernel
theorem dX3_add_17 : decode cX3_add 17 = .ok (.iload_n 1, 1) := by decide +kernel
theorem dX3_add_18 : decode cX3_add 18 = .ok (.bastore, 1) := by decide +kernel
theorem dX3_add_19 : decode cX3_add 19 = .ok (.aload_n 0, 1) := by decide +kernel
theorem dX3_add_20 : decode cX3_add 20 = .ok (.dup, 1) := by decide +kernel
theorem dX3_add_21 : decode cX3_add 21 = .ok (.getfield 19, 3) := by decide +kernel
theorem dX3_add_24 : decode cX3_add 24 = .ok (.iconst 1, 1) := by decide +kernel
theorem dX3_add_25 : decode cX3_add 25 = .ok (.iadd, 1) := by decide +kernel
theorem dX3_add_26 : decode cX3_add 26 = .ok (.putfield 19, 3) := by decide +kernel
theorem dX3_add_29 : decode cX3_add 29 = .ok (.return_, 1) := by decide +kernel
theorem dX3_readNeed_0 : decode cX3_readNeed 0 = .ok (.aload_n 0, 1) := by decide +kernel
theorem dX3_readNeed_1 : decode cX3_readNeed 1 = .ok (.getfield 19, 3) := by decide +kernel
theorem dX3_readNeed_4 : decode cX3_readNeed 4 = .ok (.bipush 60, 2) := by decide +kernel
theorem dX3_readNeed_6 : decode cX3_readNeed 6 = .ok (.if_icmp .le 6, 3) := by decide +kernel
theorem dX3_readNeed_9 : decode cX3_readNeed 9 = .ok (.bipush 60, 2) := by decide +kernel
theorem dX3_readNeed_11 : decode cX3_readNeed 11 = .ok (.ireturn, 1) := by decide +kernel
theorem dX3_readNeed_12 : decode cX3_readNeed 12 = .ok (.iconst 0, 1) := by decide +kernel
theorem dX3_readNeed_13 : decode cX3_readNeed 13 = .ok (.istore_n 1, 1) := by decide +kernel
theorem dX3_readNeed_14 : decode cX3_readNeed 14 = .ok (.iload_n 1, 1) := by decide +kernel
theorem dX3_readNeed_15 : decode cX3_readNeed 15 = .ok (.iconst 4, 1) := by decide +kernel
theorem dX3_readNeed_16 : decode cX3_readNeed 16 = .ok (.if_icmp .ge 90, 3) := by decide +kernel
theorem dX3_readNeed_19 : decode cX3_readNeed 19 = .ok (.aload_n 0, 1) := by decide +kernel
theorem dX3_readNeed_20 : decode cX3_readNeed 20 = .ok (.iload_n 1, 1) := by decide +kernel
theorem dX3_readNeed_21 : decode cX3_readNeed 21 = .ok (.putfield 23, 3) := by decide +kernel
theorem dX3_readNeed_24 : decode cX3_readNeed 24 = .ok (.aload_n 0, 1) := by decide +kernel
theorem dX3_readNeed_25 : decode cX3_readNeed 25 = .ok (.iconst 0, 1) := by decide +kernel
theorem dX3_readNeed_26 : decode cX3_readNeed 26 = .ok (.putfield 26, 3) := by decide +kernel
theorem dX3_readNeed_29 : decode cX3_readNeed 29 = .ok (.aload_n 0, 1) := by decide +kernel
theorem dX3_readNeed_30 : decode cX3_readNeed 30 = .ok (.iconst (-1), 1) := by decide +kernel
theorem dX3_readNeed_31 : decode cX3_readNeed 31 = .ok (.putfield 29, 3) := by decide +kernel
theorem dX3_readNeed_34 : decode cX3_readNeed 34 = .ok (.aload_n 0, 1) := by decide +kernel
theorem dX3_readNeed_35 : decode cX3_readNeed 35 = .ok (.getfield 19, 3) := by decide +kernel
theorem dX3_readNeed_38 : decode cX3_readNeed 38 = .ok (.ifCond .ne 9, 3) := by decide +kernel
theorem dX3_readNeed_41 : decode cX3_readNeed 41 = .ok (.ldc2_w 32, 3) := by decide +kernel
theorem dX3_readNeed_44 : decode cX3_readNeed 44 = .ok (.goto 8, 3) := by decide +kernel
theorem dX3_readNeed_47 : decode cX3_readNeed 47 = .ok (.aload_n 0, 1) := by decide +kernel
theorem dX3_readNeed_48 : decode cX3_readNeed 48 = .ok (.iconst 0, 1) := by decide +kernel
theorem dX3_readNeed_49 : decode cX3_readNeed 49 = .ok (.invokevirtual 34, 3) := by decide +kernel
theorem dX3_readNeed_52 : decode cX3_readNeed 52 = .ok (.lstore_n 2, 1) := by decide +kernel
theorem dX3_readNeed_53 : decode cX3_readNeed 53 = .ok (.aload_n 0, 1) := by decide +kernel
theorem dX3_readNeed_54 : decode cX3_readNeed 54 = .ok (.getfield 29, 3) := by decide +kernel
theorem dX3_readNeed_57 : decode cX3_readNeed 57 = .ok (.iconst (-1), 1) := by decide +kernel
theorem dX3_readNeed_58 : decode cX3_readNeed 58 = .ok (.if_icmp .ne 22, 3) := by decide +kernel
theorem dX3_readNeed_61 : decode cX3_readNeed 61 = .ok (.aload_n 0, 1) := by decide +kernel
theorem dX3_readNeed_62 : decode cX3_readNeed 62 = .ok (.getfield 26, 3) := by decide +kernel
theorem dX3_readNeed_65 : decode cX3_readNeed 65 = .ok (.aload_n 0, 1) := by decide +kernel
theorem dX3_readNeed_66 : decode cX3_readNeed 66 = .ok (.getfield 19, 3) := by decide +kernel
theorem dX3_readNeed_69 : decode cX3_readNeed 69 = .ok (.if_icmp .ge 11, 3) := by decide +kernel
theorem dX3_readNeed_72 : decode cX3_readNeed 72 = .ok (.aload_n 0, 1) := by decide +kernel
theorem dX3_readNeed_73 : decode cX3_readNeed 73 = .ok (.aload_n 0, 1) := by decide +kernel
theorem dX3_readNeed_74 : decode cX3_readNeed 74 = .ok (.getfield 26, 3) := by decide +kernel
theorem dX3_readNeed_77 : decode cX3_readNeed 77 = .ok (.putfield 29, 3) := by decide +kernel
theorem dX3_readNeed_80 : decode cX3_readNeed 80 = .ok (.aload_n 0, 1) := by decide +kernel
theorem dX3_readNeed_81 : decode cX3_readNeed 81 = .ok (.getfield 29, 3) := by decide +kernel
theorem dX3_readNeed_84 : decode cX3_readNeed 84 = .ok (.iconst (-1), 1) := by decide +kernel
theorem dX3_readNeed_85 : decode cX3_readNeed 85 = .ok (.if_icmp .eq 8, 3) := by decide +kernel
theorem dX3_readNeed_88 : decode cX3_readNeed 88 = .ok (.aload_n 0, 1) := by decide +kernel
theorem dX3_readNeed_89 : decode cX3_readNeed 89 = .ok (.getfield 29, 3) := by decide +kernel
theorem dX3_readNeed_92 : decode cX3_readNeed 92 = .ok (.ireturn, 1) := by decide +kernel
theorem dX3_readNeed_93 : decode cX3_readNeed 93 = .ok (.aload_n 0, 1) := by decide +kernel
theorem dX3_readNeed_94 : decode cX3_readNeed 94 = .ok (.getfield 15, 3) := by decide +kernel
theorem dX3_readNeed_97 : decode cX3_readNeed 97 = .ok (.iload_n 1, 1) := by decide +kernel
theorem dX3_readNeed_98 : decode cX3_readNeed 98 = .ok (.lload_n 2, 1) := by decide +kernel
theorem dX3_readNeed_99 : decode cX3_readNeed 99 = .ok (.lastore, 1) := by decide +kernel
theorem dX3_readNeed_100 : decode cX3_readNeed 100 = .ok (.iinc 1 1, 3) := by decide +kernel
theorem dX3_readNeed_103 : decode cX3_readNeed 103 = .ok (.goto (-89), 3) := by decide +kernel
theorem dX3_readNeed_106 : decode cX3_readNeed 106 = .ok (.iconst (-1), 1) := by decide +kernel
theorem dX3_readNeed_107 : decode cX3_readNeed 107 = .ok (.ireturn, 1) := by decide +kernel
theorem dX3_readEither_0 : decode cX3_readEither 0 = .ok (.aload_n 0, 1) := by decide +kernel
theorem dX3_readEither_1 : decode cX3_readEither 1 = .ok (.iload_n 1, 1) := by decide +kernel
theorem dX3_readEither_2 : decode cX3_readEither 2 = .ok (.invokevirtual 38, 3) := by decide +kernel
theorem dX3_readEither_5 : decode cX3_readEither 5 = .ok (.lstore_n 2, 1) := by decide +kernel
theorem dX3_readEither_6 : decode cX3_readEither 6 = .ok (.iconst 0, 1) := by decide +kernel
theorem dX3_readEither_7 : decode cX3_readEither 7 = .ok (.istore 4, 2) := by decide +kernel
theorem dX3_readEither_9 : decode cX3_readEither 9 = .ok (.iload 4, 2) := by decide +kernel
theorem dX3_readEither_11 : decode cX3_readEither 11 = .ok (.bipush 60, 2) := by decide +kernel
theorem dX3_readEither_13 : decode cX3_readEither 13 = .ok (.if_icmp .ge 44, 3) := by decide +kernel
theorem dX3_readEither_16 : decode cX3_readEither 16 = .ok (.aload_n 0, 1) := by decide +kernel
theorem dX3_readEither_17 : decode cX3_readEither 17 = .ok (.getfield 29, 3) := by decide +kernel
theorem dX3_readEither_20 : decode cX3_readEither 20 = .ok (.iconst (-1), 1) := by decide +kernel
theorem dX3_readEither_21 : decode cX3_readEither 21 = .ok (.if_icmp .ne 36, 3) := by decide +kernel
theorem dX3_readEither_24 : decode cX3_readEither 24 = .ok (.aload_n 0, 1) := by decide +kernel
theorem dX3_readEither_25 : decode cX3_readEither 25 = .ok (.invokevirtual 41, 3) := by decide +kernel
theorem dX3_readEither_28 : decode cX3_readEither 28 = .ok (.bipush 124, 2) := by decide +kernel
theorem dX3_readEither_30 : decode cX3_readEither 30 = .ok (.if_icmp .ne 27, 3) := by decide +kernel
theorem dX3_readEither_33 : decode cX3_readEither 33 = .ok (.aload_n 0, 1) := by decide +kernel
theorem dX3_readEither_34 : decode cX3_readEither 34 = .ok (.dup, 1) := by decide +kernel
theorem dX3_readEither_35 : decode cX3_readEither 35 = .ok (.getfield 26, 3) := by decide +kernel
theorem dX3_readEither_38 : decode cX3_readEither 38 = .ok (.iconst 1, 1) := by decide +kernel
theorem dX3_readEither_39 : decode cX3_readEither 39 = .ok (.iadd, 1) := by decide +kernel
theorem dX3_readEither_40 : decode cX3_readEither 40 = .ok (.putfield 26, 3) := by decide +kernel
theorem dX3_readEither_43 : decode cX3_readEither 43 = .ok (.lload_n 2, 1) := by decide +kernel
theorem dX3_readEither_44 : decode cX3_readEither 44 = .ok (.aload_n 0, 1) := by decide +kernel
theorem dX3_readEither_45 : decode cX3_readEither 45 = .ok (.iload_n 1, 1) := by decide +kernel
theorem dX3_readEither_46 : decode cX3_readEither 46 = .ok (.invokevirtual 38, 3) := by decide +kernel
theorem dX3_readEither_49 : decode cX3_readEither 49 = .ok (.lor, 1) := by decide +kernel
theorem dX3_readEither_50 : decode cX3_readEither 50 = .ok (.lstore_n 2, 1) := by decide +kernel
theorem dX3_readEither_51 : decode cX3_readEither 51 = .ok (.iinc 4 1, 3) := by decide +kernel
theorem dX3_readEither_54 : decode cX3_readEither 54 = .ok (.goto (-45), 3) := by decide +kernel
theorem dX3_readEither_57 : decode cX3_readEither 57 = .ok (.lload_n 2, 1) := by decide +kernel
theorem dX3_readEither_58 : decode cX3_readEither 58 = .ok (.lreturn, 1) := by decide +kernel
theorem dX3_readBoth_0 : decode cX3_readBoth 0 = .ok (.aload_n 0, 1) := by decide +kernel
theorem dX3_readBoth_1 : decode cX3_readBoth 1 = .ok (.iload_n 1, 1) := by decide +kernel
theorem dX3_readBoth_2 : decode cX3_readBoth 2 = .ok (.invokevirtual 45, 3) := by decide +kernel
theorem dX3_readBoth_5 : decode cX3_readBoth 5 = .ok (.lstore_n 2, 1) := by decide +kernel
theorem dX3_readBoth_6 : decode cX3_readBoth 6 = .ok (.iconst 0, 1) := by decide +kernel
theorem dX3_readBoth_7 : decode cX3_readBoth 7 = .ok (.istore 4, 2) := by decide +kernel
theorem dX3_readBoth_9 : decode cX3_readBoth 9 = .ok (.iload 4, 2) := by decide +kernel
theorem dX3_readBoth_11 : decode cX3_readBoth 11 = .ok (.bipush 60, 2) := by decide +kernel
theorem dX3_readBoth_13 : decode cX3_readBoth 13 = .ok (.if_icmp .ge 44, 3) := by decide +kernel
theorem dX3_readBoth_16 : decode cX3_readBoth 16 = .ok (.aload_n 0, 1) := by decide +kernel
theorem dX3_readBoth_17 : decode cX3_readBoth 17 = .ok (.getfield 29, 3) := by decide +kernel
theorem dX3_readBoth_20 : decode cX3_readBoth 20 = .ok (.iconst (-1), 1) := by decide +kernel
theorem dX3_readBoth_21 : decode cX3_readBoth 21 = .ok (.if_icmp .ne 36, 3) := by decide +kernel
theorem dX3_readBoth_24 : decode cX3_readBoth 24 = .ok (.aload_n 0, 1) := by decide +kernel
theorem dX3_readBoth_25 : decode cX3_readBoth 25 = .ok (.invokevirtual 41, 3) := by decide +kernel
theorem dX3_readBoth_28 : decode cX3_readBoth 28 = .ok (.bipush 38, 2) := by decide +kernel
theorem dX3_readBoth_30 : decode cX3_readBoth 30 = .ok (.if_icmp .ne 27, 3) := by decide +kernel
theorem dX3_readBoth_33 : decode cX3_readBoth 33 = .ok (.aload_n 0, 1) := by decide +kernel
theorem dX3_readBoth_34 : decode cX3_readBoth 34 = .ok (.dup, 1) := by decide +kernel
theorem dX3_readBoth_35 : decode cX3_readBoth 35 = .ok (.getfield 26, 3) := by decide +kernel
theorem dX3_readBoth_38 : decode cX3_readBoth 38 = .ok (.iconst 1, 1) := by decide +kernel
theorem dX3_readBoth_39 : decode cX3_readBoth 39 = .ok (.iadd, 1) := by decide +kernel
theorem dX3_readBoth_40 : decode cX3_readBoth 40 = .ok (.putfield 26, 3) := by decide +kernel
theorem dX3_readBoth_43 : decode cX3_readBoth 43 = .ok (.lload_n 2, 1) := by decide +kernel
theorem dX3_readBoth_44 : decode cX3_readBoth 44 = .ok (.aload_n 0, 1) := by decide +kernel
theorem dX3_readBoth_45 : decode cX3_readBoth 45 = .ok (.iload_n 1, 1) := by decide +kernel
theorem dX3_readBoth_46 : decode cX3_readBoth 46 = .ok (.invokevirtual 45, 3) := by decide +kernel
theorem dX3_readBoth_49 : decode cX3_readBoth 49 = .ok (.land, 1) := by decide +kernel
theorem dX3_readBoth_50 : decode cX3_readBoth 50 = .ok (.lstore_n 2, 1) := by decide +kernel
theorem dX3_readBoth_51 : decode cX3_readBoth 51 = .ok (.iinc 4 1, 3) := by decide +kernel
theorem dX3_readBoth_54 : decode cX3_readBoth 54 = .ok (.goto (-45), 3) := by decide +kernel
theorem dX3_readBoth_57 : decode cX3_readBoth 57 = .ok (.lload_n 2, 1) := by decide +kernel
theorem dX3_readBoth_58 : decode cX3_readBoth 58 = .ok (.lreturn, 1) := by decide +kernel
theorem dX3_readOne_0 : decode cX3_readOne 0 = .ok (.aload_n 0, 1) := by decide +kernel
theorem dX3_readOne_1 : decode cX3_readOne 1 = .ok (.invokevirtual 41, 3) := by decide +kernel
theorem dX3_readOne_4 : decode cX3_readOne 4 = .ok (.istore_n 2, 1) := by decide +kernel
theorem dX3_readOne_5 : decode cX3_readOne 5 = .ok (.iload_n 2, 1) := by decide +kernel
theorem dX3_readOne_6 : decode cX3_readOne 6 = .ok (.bipush 97, 2) := by decide +kernel
theorem dX3_readOne_8 : decode cX3_readOne 8 = .ok (.if_icmp .lt 28, 3) := by decide +kernel
theorem dX3_readOne_11 : decode cX3_readOne 11 = .ok (.iload_n 2, 1) := by decide +kernel
theorem dX3_readOne_12 : decode cX3_readOne 12 = .ok (.bipush 104, 2) := by decide +kernel
theorem dX3_readOne_14 : decode cX3_readOne 14 = .ok (.if_icmp .gt 22, 3) := by decide +kernel
theorem dX3_readOne_17 : decode cX3_readOne 17 = .ok (.aload_n 0, 1) := by decide +kernel
theorem dX3_readOne_18 : decode cX3_readOne 18 = .ok (.dup, 1) := by decide +kernel
theorem dX3_readOne_19 : decode cX3_readOne 19 = .ok (.getfield 26, 3) := by decide +kernel
theorem dX3_readOne_22 : decode cX3_readOne 22 = .ok (.iconst 1, 1) := by decide +kernel
theorem dX3_readOne_23 : decode cX3_readOne 23 = .ok (.iadd, 1) := by decide +kernel
theorem dX3_readOne_24 : decode cX3_readOne 24 = .ok (.putfield 26, 3) := by decide +kernel
theorem dX3_readOne_27 : decode cX3_readOne 27 = .ok (.aload_n 0, 1) := by decide +kernel
theorem dX3_readOne_28 : decode cX3_readOne 28 = .ok (.iload_n 2, 1) := by decide +kernel
theorem dX3_readOne_29 : decode cX3_readOne 29 = .ok (.bipush 97, 2) := by decide +kernel
theorem dX3_readOne_31 : decode cX3_readOne 31 = .ok (.isub, 1) := by decide +kernel
theorem dX3_readOne_32 : decode cX3_readOne 32 = .ok (.invokevirtual 48, 3) := by decide +kernel
theorem dX3_readOne_35 : decode cX3_readOne 35 = .ok (.lreturn, 1) := by decide +kernel
theorem dX3_readOne_36 : decode cX3_readOne 36 = .ok (.iload_n 2, 1) := by decide +kernel
theorem dX3_readOne_37 : decode cX3_readOne 37 = .ok (.bipush 48, 2) := by decide +kernel
theorem dX3_readOne_39 : decode cX3_readOne 39 = .ok (.if_icmp .eq 9, 3) := by decide +kernel
theorem dX3_readOne_42 : decode cX3_readOne 42 = .ok (.iload_n 2, 1) := by decide +kernel
theorem dX3_readOne_43 : decode cX3_readOne 43 = .ok (.bipush 49, 2) := by decide +kernel
theorem dX3_readOne_45 : decode cX3_readOne 45 = .ok (.if_icmp .ne 27, 3) := by decide +kernel
theorem dX3_readOne_48 : decode cX3_readOne 48 = .ok (.aload_n 0, 1) := by decide +kernel
theorem dX3_readOne_49 : decode cX3_readOne 49 = .ok (.dup, 1) := by decide +kernel
theorem dX3_readOne_50 : decode cX3_readOne 50 = .ok (.getfield 26, 3) := by decide +kernel
theorem dX3_readOne_53 : decode cX3_readOne 53 = .ok (.iconst 1, 1) := by decide +kernel
theorem dX3_readOne_54 : decode cX3_readOne 54 = .ok (.iadd, 1) := by decide +kernel
theorem dX3_readOne_55 : decode cX3_readOne 55 = .ok (.putfield 26, 3) := by decide +kernel
theorem dX3_readOne_58 : decode cX3_readOne 58 = .ok (.iload_n 2, 1) := by decide +kernel
theorem dX3_readOne_59 : decode cX3_readOne 59 = .ok (.bipush 49, 2) := by decide +kernel
theorem dX3_readOne_61 : decode cX3_readOne 61 = .ok (.if_icmp .ne 9, 3) := by decide +kernel
theorem dX3_readOne_64 : decode cX3_readOne 64 = .ok (.ldc2_w 32, 3) := by decide +kernel
theorem dX3_readOne_67 : decode cX3_readOne 67 = .ok (.goto 4, 3) := by decide +kernel
theorem dX3_readOne_70 : decode cX3_readOne 70 = .ok (.lconst 0, 1) := by decide +kernel
theorem dX3_readOne_71 : decode cX3_readOne 71 = .ok (.lreturn, 1) := by decide +kernel
theorem dX3_readOne_72 : decode cX3_readOne 72 = .ok (.iload_n 2, 1) := by decide +kernel
theorem dX3_readOne_73 : decode cX3_readOne 73 = .ok (.bipush 33, 2) := by decide +kernel
theorem dX3_readOne_75 : decode cX3_readOne 75 = .ok (.if_icmp .eq 9, 3) := by decide +kernel
theorem dX3_readOne_78 : decode cX3_readOne 78 = .ok (.iload_n 2, 1) := by decide +kernel
theorem dX3_readOne_79 : decode cX3_readOne 79 = .ok (.bipush 40, 2) := by decide +kernel
theorem dX3_readOne_81 : decode cX3_readOne 81 = .ok (.if_icmp .ne 9, 3) := by decide +kernel
theorem dX3_readOne_84 : decode cX3_readOne 84 = .ok (.iload_n 1, 1) := by decide +kernel
theorem dX3_readOne_85 : decode cX3_readOne 85 = .ok (.bipush 12, 2) := by decide +kernel
theorem dX3_readOne_87 : decode cX3_readOne 87 = .ok (.if_icmp .lt 13, 3) := by decide +kernel
theorem dX3_readOne_90 : decode cX3_readOne 90 = .ok (.aload_n 0, 1) := by decide +kernel
theorem dX3_readOne_91 : decode cX3_readOne 91 = .ok (.aload_n 0, 1) := by decide +kernel
theorem dX3_readOne_92 : decode cX3_readOne 92 = .ok (.getfield 26, 3) := by decide +kernel
theorem dX3_readOne_95 : decode cX3_readOne 95 = .ok (.putfield 29, 3) := by decide +kernel
theorem dX3_readOne_98 : decode cX3_readOne 98 = .ok (.lconst 0, 1) := by decide +kernel
theorem dX3_readOne_99 : decode cX3_readOne 99 = .ok (.lreturn, 1) := by decide +kernel
theorem dX3_readOne_100 : decode cX3_readOne 100 = .ok (.aload_n 0, 1) := by decide +kernel
theorem dX3_readOne_101 : decode cX3_readOne 101 = .ok (.dup, 1) := by decide +kernel
theorem dX3_readOne_102 : decode cX3_readOne 102 = .ok (.getfield 26, 3) := by decide +kernel
theorem dX3_readOne_105 : decode cX3_readOne 105 = .ok (.iconst 1, 1) := by decide +kernel
theorem dX3_readOne_106 : decode cX3_readOne 106 = .ok (.iadd, 1) := by decide +kernel
theorem dX3_readOne_107 : decode cX3_readOne 107 = .ok (.putfield 26, 3) := by decide +kernel
theorem dX3_readOne_110 : decode cX3_readOne 110 = .ok (.iload_n 2, 1) := by decide +kernel
theorem dX3_readOne_111 : decode cX3_readOne 111 = .ok (.bipush 33, 2) := by decide +kernel
theorem dX3_readOne_113 : decode cX3_readOne 113 = .ok (.if_icmp .ne 17, 3) := by decide +kernel
theorem dX3_readOne_116 : decode cX3_readOne 116 = .ok (.aload_n 0, 1) := by decide +kernel
theorem dX3_readOne_117 : decode cX3_readOne 117 = .ok (.iload_n 1, 1) := by decide +kernel
theorem dX3_readOne_118 : decode cX3_readOne 118 = .ok (.iconst 1, 1) := by decide +kernel
theorem dX3_readOne_119 : decode cX3_readOne 119 = .ok (.iadd, 1) := by decide +kernel
theorem dX3_readOne_120 : decode cX3_readOne 120 = .ok (.invokevirtual 45, 3) := by decide +kernel
theorem dX3_readOne_123 : decode cX3_readOne 123 = .ok (.ldc2_w 32, 3) := by decide +kernel
theorem dX3_readOne_126 : decode cX3_readOne 126 = .ok (.lxor, 1) := by decide +kernel
theorem dX3_readOne_127 : decode cX3_readOne 127 = .ok (.goto 10, 3) := by decide +kernel
theorem dX3_readOne_130 : decode cX3_readOne 130 = .ok (.aload_n 0, 1) := by decide +kernel
theorem dX3_readOne_131 : decode cX3_readOne 131 = .ok (.iload_n 1, 1) := by decide +kernel
theorem dX3_readOne_132 : decode cX3_readOne 132 = .ok (.iconst 1, 1) := by decide +kernel
theorem dX3_readOne_133 : decode cX3_readOne 133 = .ok (.iadd, 1) := by decide +kernel
theorem dX3_readOne_134 : decode cX3_readOne 134 = .ok (.invokevirtual 51, 3) := by decide +kernel
theorem dX3_readOne_137 : decode cX3_readOne 137 = .ok (.lreturn, 1) := by decide +kernel
theorem dX3_readClosed_0 : decode cX3_readClosed 0 = .ok (.aload_n 0, 1) := by decide +kernel
theorem dX3_readClosed_1 : decode cX3_readClosed 1 = .ok (.iload_n 1, 1) := by decide +kernel
theorem dX3_readClosed_2 : decode cX3_readClosed 2 = .ok (.invokevirtual 34, 3) := by decide +kernel
theorem dX3_readClosed_5 : decode cX3_readClosed 5 = .ok (.lstore_n 2, 1) := by decide +kernel
theorem dX3_readClosed_6 : decode cX3_readClosed 6 = .ok (.aload_n 0, 1) := by decide +kernel
theorem dX3_readClosed_7 : decode cX3_readClosed 7 = .ok (.getfield 29, 3) := by decide +kernel
theorem dX3_readClosed_10 : decode cX3_readClosed 10 = .ok (.iconst (-1), 1) := by decide +kernel
theorem dX3_readClosed_11 : decode cX3_readClosed 11 = .ok (.if_icmp .ne 20, 3) := by decide +kernel
theorem dX3_readClosed_14 : decode cX3_readClosed 14 = .ok (.aload_n 0, 1) := by decide +kernel
theorem dX3_readClosed_15 : decode cX3_readClosed 15 = .ok (.invokevirtual 41, 3) := by decide +kernel
theorem dX3_readClosed_18 : decode cX3_readClosed 18 = .ok (.bipush 41, 2) := by decide +kernel
theorem dX3_readClosed_20 : decode cX3_readClosed 20 = .ok (.if_icmp .eq 11, 3) := by decide +kernel
theorem dX3_readClosed_23 : decode cX3_readClosed 23 = .ok (.aload_n 0, 1) := by decide +kernel
theorem dX3_readClosed_24 : decode cX3_readClosed 24 = .ok (.aload_n 0, 1) := by decide +kernel
theorem dX3_readClosed_25 : decode cX3_readClosed 25 = .ok (.getfield 26, 3) := by decide +kernel
theorem dX3_readClosed_28 : decode cX3_readClosed 28 = .ok (.putfield 29, 3) := by decide +kernel
theorem dX3_readClosed_31 : decode cX3_readClosed 31 = .ok (.aload_n 0, 1) := by decide +kernel
theorem dX3_readClosed_32 : decode cX3_readClosed 32 = .ok (.getfield 29, 3) := by decide +kernel
theorem dX3_readClosed_35 : decode cX3_readClosed 35 = .ok (.iconst (-1), 1) := by decide +kernel
theorem dX3_readClosed_36 : decode cX3_readClosed 36 = .ok (.if_icmp .ne 13, 3) := by decide +kernel
theorem dX3_readClosed_39 : decode cX3_readClosed 39 = .ok (.aload_n 0, 1) := by decide +kernel
theorem dX3_readClosed_40 : decode cX3_readClosed 40 = .ok (.dup, 1) := by decide +kernel
theorem dX3_readClosed_41 : decode cX3_readClosed 41 = .ok (.getfield 26, 3) := by decide +kernel
theorem dX3_readClosed_44 : decode cX3_readClosed 44 = .ok (.iconst 1, 1) := by decide +kernel
theorem dX3_readClosed_45 : decode cX3_readClosed 45 = .ok (.iadd, 1) := by decide +kernel
theorem dX3_readClosed_46 : decode cX3_readClosed 46 = .ok (.putfield 26, 3) := by decide +kernel
theorem dX3_readClosed_49 : decode cX3_readClosed 49 = .ok (.lload_n 2, 1) := by decide +kernel
theorem dX3_readClosed_50 : decode cX3_readClosed 50 = .ok (.lreturn, 1) := by decide +kernel
theorem dX3_sign_0 : decode cX3_sign 0 = .ok (.aload_n 0, 1) := by decide +kernel
theorem dX3_sign_1 : decode cX3_sign 1 = .ok (.getfield 26, 3) := by decide +kernel
theorem dX3_sign_4 : decode cX3_sign 4 = .ok (.aload_n 0, 1) := by decide +kernel
theorem dX3_sign_5 : decode cX3_sign 5 = .ok (.getfield 19, 3) := by decide +kernel
theorem dX3_sign_8 : decode cX3_sign 8 = .ok (.if_icmp .ge 15, 3) := by decide +kernel
theorem dX3_sign_11 : decode cX3_sign 11 = .ok (.aload_n 0, 1) := by decide +kernel
theorem dX3_sign_12 : decode cX3_sign 12 = .ok (.getfield 11, 3) := by decide +kernel
theorem dX3_sign_15 : decode cX3_sign 15 = .ok (.aload_n 0, 1) := by decide +kernel
theorem dX3_sign_16 : decode cX3_sign 16 = .ok (.getfield 26, 3) := by decide +kernel
theorem dX3_sign_19 : decode cX3_sign 19 = .ok (.baload, 1) := by decide +kernel
theorem dX3_sign_20 : decode cX3_sign 20 = .ok (.goto 4, 3) := by decide +kernel
theorem dX3_sign_23 : decode cX3_sign 23 = .ok (.iconst (-1), 1) := by decide +kernel
theorem dX3_sign_24 : decode cX3_sign 24 = .ok (.ireturn, 1) := by decide +kernel
theorem dX3_factBits_0 : decode cX3_factBits 0 = .ok (.iload_n 1, 1) := by decide +kernel
theorem dX3_factBits_1 : decode cX3_factBits 1 = .ok (.ifCond .lt 17, 3) := by decide +kernel
theorem dX3_factBits_4 : decode cX3_factBits 4 = .ok (.iload_n 1, 1) := by decide +kernel
theorem dX3_factBits_5 : decode cX3_factBits 5 = .ok (.getstatic 54, 3) := by decide +kernel
theorem dX3_factBits_8 : decode cX3_factBits 8 = .ok (.arraylength, 1) := by decide +kernel
theorem dX3_factBits_9 : decode cX3_factBits 9 = .ok (.if_icmp .ge 9, 3) := by decide +kernel
theorem dX3_factBits_12 : decode cX3_factBits 12 = .ok (.getstatic 54, 3) := by decide +kernel
theorem dX3_factBits_15 : decode cX3_factBits 15 = .ok (.iload_n 1, 1) := by decide +kernel
theorem dX3_factBits_16 : decode cX3_factBits 16 = .ok (.laload, 1) := by decide +kernel
theorem dX3_factBits_17 : decode cX3_factBits 17 = .ok (.lreturn, 1) := by decide +kernel
theorem dX3_factBits_18 : decode cX3_factBits 18 = .ok (.aload_n 0, 1) := by decide +kernel
theorem dX3_factBits_19 : decode cX3_factBits 19 = .ok (.getfield 23, 3) := by decide +kernel
theorem dX3_factBits_22 : decode cX3_factBits 22 = .ok (.iload_n 1, 1) := by decide +kernel
theorem dX3_factBits_23 : decode cX3_factBits 23 = .ok (.getstatic 54, 3) := by decide +kernel
theorem dX3_factBits_26 : decode cX3_factBits 26 = .ok (.arraylength, 1) := by decide +kernel
theorem dX3_factBits_27 : decode cX3_factBits 27 = .ok (.isub, 1) := by decide +kernel
theorem dX3_factBits_28 : decode cX3_factBits 28 = .ok (.ishr, 1) := by decide +kernel
theorem dX3_factBits_29 : decode cX3_factBits 29 = .ok (.iconst 1, 1) := by decide +kernel
theorem dX3_factBits_30 : decode cX3_factBits 30 = .ok (.iand, 1) := by decide +kernel
theorem dX3_factBits_31 : decode cX3_factBits 31 = .ok (.ifCond .eq 9, 3) := by decide +kernel
theorem dX3_factBits_34 : decode cX3_factBits 34 = .ok (.ldc2_w 32, 3) := by decide +kernel
theorem dX3_factBits_37 : decode cX3_factBits 37 = .ok (.goto 4, 3) := by decide +kernel
theorem dX3_factBits_40 : decode cX3_factBits 40 = .ok (.lconst 0, 1) := by decide +kernel
theorem dX3_factBits_41 : decode cX3_factBits 41 = .ok (.lreturn, 1) := by decide +kernel
theorem dX4_init_0 : decode cX4_init 0 = .ok (.aload_n 0, 1) := by decide +kernel
theorem dX4_init_1 : decode cX4_init 1 = .ok (.invokespecial 3, 3) := by decide +kernel
theorem dX4_init_4 : decode cX4_init 4 = .ok (.aload_n 0, 1) := by decide +kernel
theorem dX4_init_5 : decode cX4_init 5 = .ok (.sipush 5120, 3) := by decide +kernel
theorem dX4_init_8 : decode cX4_init 8 = .ok (.newarray .int, 2) := by decide +kernel
theorem dX4_init_10 : decode cX4_init 10 = .ok (.putfield 9, 3) := by decide +kernel
theorem dX4_init_13 : decode cX4_init 13 = .ok (.aload_n 0, 1) := by decide +kernel
theorem dX4_init_14 : decode cX4_init 14 = .ok (.sipush 5120, 3) := by decide +kernel
theorem dX4_init_17 : decode cX4_init 17 = .ok (.newarray .int, 2) := by decide +kernel
theorem dX4_init_19 : decode cX4_init 19 = .ok (.putfield 15, 3) := by decide +kernel
theorem dX4_init_22 : decode cX4_init 22 = .ok (.aload_n 0, 1) := by decide +kernel
theorem dX4_init_23 : decode cX4_init 23 = .ok (.sipush 5120, 3) := by decide +kernel
theorem dX4_init_26 : decode cX4_init 26 = .ok (.newarray .int, 2) := by decide +kernel
theorem dX4_init_28 : decode cX4_init 28 = .ok (.putfield 18, 3) := by decide +kernel
theorem dX4_init_31 : decode cX4_init 31 = .ok (.aload_n 0, 1) := by decide +kernel
theorem dX4_init_32 : decode cX4_init 32 = .ok (.sipush 30720, 3) := by decide +kernel
theorem dX4_init_35 : decode cX4_init 35 = .ok (.newarray .int, 2) := by decide +kernel
theorem dX4_init_37 : decode cX4_init 37 = .ok (.putfield 21, 3) := by decide +kernel
theorem dX4_init_40 : decode cX4_init 40 = .ok (.aload_n 0, 1) := by decide +kernel
theorem dX4_init_41 : decode cX4_init 41 = .ok (.sipush 5120, 3) := by decide +kernel
theorem dX4_init_44 : decode cX4_init 44 = .ok (.newarray .int, 2) := by decide +kernel
theorem dX4_init_46 : decode cX4_init 46 = .ok (.putfield 24, 3) := by decide +kernel
theorem dX4_init_49 : decode cX4_init 49 = .ok (.aload_n 0, 1) := by decide +kernel
theorem dX4_init_50 : decode cX4_init 50 = .ok (.sipush 30720, 3) := by decide +kernel
theorem dX4_init_53 : decode cX4_init 53 = .ok (.newarray .int, 2) := by decide +kernel
theorem dX4_init_55 : decode cX4_init 55 = .ok (.putfield 27, 3) := by decide +kernel
theorem dX4_init_58 : decode cX4_init 58 = .ok (.aload_n 0, 1) := by decide +kernel
theorem dX4_init_59 : decode cX4_init 59 = .ok (.sipush 5120, 3) := by decide +kernel
theorem dX4_init_62 : decode cX4_init 62 = .ok (.newarray .int, 2) := by decide +kernel
theorem dX4_init_64 : decode cX4_init 64 = .ok (.putfield 30, 3) := by decide +kernel
theorem dX4_init_67 : decode cX4_init 67 = .ok (.aload_n 0, 1) := by decide +kernel
theorem dX4_init_68 : decode cX4_init 68 = .ok (.sipush 5120, 3) := by decide +kernel
theorem dX4_init_71 : decode cX4_init 71 = .ok (.newarray .int, 2) := by decide +kernel
theorem dX4_init_73 : decode cX4_init 73 = .ok (.putfield 33, 3) := by decide +kernel
theorem dX4_init_76 : decode cX4_init 76 = .ok (.aload_n 0, 1) := by decide +kernel
theorem dX4_init_77 : decode cX4_init 77 = .ok (.sipush 5120, 3) := by decide +kernel
theorem dX4_init_80 : decode cX4_init 80 = .ok (.newarray .boolean, 2) := by decide +kernel
theorem dX4_init_82 : decode cX4_init 82 = .ok (.putfield 36, 3) := by decide +kernel
theorem dX4_init_85 : decode cX4_init 85 = .ok (.aload_n 0, 1) := by decide +kernel
theorem dX4_init_86 : decode cX4_init 86 = .ok (.sipush 5120, 3) := by decide +kernel
theorem dX4_init_89 : decode cX4_init 89 = .ok (.newarray .long, 2) := by decide +kernel
theorem dX4_init_91 : decode cX4_init 91 = .ok (.putfield 40, 3) := by decide +kernel
theorem dX4_init_94 : decode cX4_init 94 = .ok (.aload_n 0, 1) := by decide +kernel
theorem dX4_init_95 : decode cX4_init 95 = .ok (.sipush 5120, 3) := by decide +kernel
theorem dX4_init_98 : decode cX4_init 98 = .ok (.newarray .long, 2) := by decide +kernel
theorem dX4_init_100 : decode cX4_init 100 = .ok (.putfield 44, 3) := by decide +kernel
theorem dX4_init_103 : decode cX4_init 103 = .ok (.iconst 0, 1) := by decide +kernel
theorem dX4_init_104 : decode cX4_init 104 = .ok (.istore_n 1, 1) := by decide +kernel
theorem dX4_init_105 : decode cX4_init 105 = .ok (.iload_n 1, 1) := by decide +kernel
theorem dX4_init_106 : decode cX4_init 106 = .ok (.sipush 5120, 3) := by decide +kernel
theorem dX4_init_109 : decode cX4_init 109 = .ok (.if_icmp .ge 17, 3) := by decide +kernel
theorem dX4_init_112 : decode cX4_init 112 = .ok (.aload_n 0, 1) := by decide +kernel
theorem dX4_init_113 : decode cX4_init 113 = .ok (.getfield 15, 3) := by decide +kernel
theorem dX4_init_116 : decode cX4_init 116 = .ok (.iload_n 1, 1) := by decide +kernel
theorem dX4_init_117 : decode cX4_init 117 = .ok (.bipush (-2), 2) := by decide +kernel
theorem dX4_init_119 : decode cX4_init 119 = .ok (.iastore, 1) := by decide +kernel
theorem dX4_init_120 : decode cX4_init 120 = .ok (.iinc 1 1, 3) := by decide +kernel
theorem dX4_init_123 : decode cX4_init 123 = .ok (.goto (-18), 3) := by decide +kernel
theorem dX4_init_126 : decode cX4_init 126 = .ok (.return_, 1) := by decide +kernel
theorem dX4_clear_0 : decode cX4_clear 0 = .ok (.iconst 0, 1) := by decide +kernel
theorem dX4_clear_1 : decode cX4_clear 1 = .ok (.istore_n 1, 1) := by decide +kernel
theorem dX4_clear_2 : decode cX4_clear 2 = .ok (.iload_n 1, 1) := by decide +kernel
theorem dX4_clear_3 : decode cX4_clear 3 = .ok (.aload_n 0, 1) := by decide +kernel
theorem dX4_clear_4 : decode cX4_clear 4 = .ok (.getfield 47, 3) := by decide +kernel
theorem dX4_clear_7 : decode cX4_clear 7 = .ok (.if_icmp .ge 22, 3) := by decide +kernel
theorem dX4_clear_10 : decode cX4_clear 10 = .ok (.aload_n 0, 1) := by decide +kernel
theorem dX4_clear_11 : decode cX4_clear 11 = .ok (.getfield 15, 3) := by decide +kernel
theorem dX4_clear_14 : decode cX4_clear 14 = .ok (.aload_n 0, 1) := by decide +kernel
theorem dX4_clear_15 : decode cX4_clear 15 = .ok (.getfield 9, 3) := by decide +kernel
theorem dX4_clear_18 : decode cX4_clear 18 = .ok (.iload_n 1, 1) := by decide +kernel
theorem dX4_clear_19 : decode cX4_clear 19 = .ok (.iaload, 1) := by decide +kernel
theorem dX4_clear_20 : decode cX4_clear 20 = .ok (.bipush (-2), 2) := by decide +kernel
theorem dX4_clear_22 : decode cX4_clear 22 = .ok (.iastore, 1) := by decide +kernel
theorem dX4_clear_23 : decode cX4_clear 23 = .ok (.iinc 1 1, 3) := by decide +kernel
theorem dX4_clear_26 : decode cX4_clear 26 = .ok (.goto (-24), 3) := by decide +kernel
theorem dX4_clear_29 : decode cX4_clear 29 = .ok (.aload_n 0, 1) := by decide +kernel
theorem dX4_clear_30 : decode cX4_clear 30 = .ok (.iconst 0, 1) := by decide +kernel
theorem dX4_clear_31 : decode cX4_clear 31 = .ok (.putfield 47, 3) := by decide +kernel
theorem dX4_clear_34 : decode cX4_clear 34 = .ok (.return_, 1) := by decide +kernel
theorem dX4_come_0 : decode cX4_come 0 = .ok (.aload_n 0, 1) := by decide +kernel
theorem dX4_come_1 : decode cX4_come 1 = .ok (.getfield 15, 3) := by decide +kernel
theorem dX4_come_4 : decode cX4_come 4 = .ok (.iload_n 1, 1) := by decide +kernel
theorem dX4_come_5 : decode cX4_come 5 = .ok (.iaload, 1) := by decide +kernel
theorem dX4_come_6 : decode cX4_come 6 = .ok (.bipush (-2), 2) := by decide +kernel
theorem dX4_come_8 : decode cX4_come 8 = .ok (.if_icmp .ne 13, 3) := by decide +kernel
theorem dX4_come_11 : decode cX4_come 11 = .ok (.aload_n 0, 1) := by decide +kernel
theorem dX4_come_12 : decode cX4_come 12 = .ok (.getfield 47, 3) := by decide +kernel
theorem dX4_come_15 : decode cX4_come 15 = .ok (.sipush 5120, 3) := by decide +kernel
theorem dX4_come_18 : decode cX4_come 18 = .ok (.if_icmp .lt 4, 3) := by decide +kernel
theorem dX4_come_21 : decode cX4_come 21 = .ok (.return_, 1) := by decide +kernel
theorem dX4_come_22 : decode cX4_come 22 = .ok (.aload_n 0, 1) := by decide +kernel
theorem dX4_come_23 : decode cX4_come 23 = .ok (.getfield 15, 3) := by decide +kernel
theorem dX4_come_26 : decode cX4_come 26 = .ok (.iload_n 1, 1) := by decide +kernel
theorem dX4_come_27 : decode cX4_come 27 = .ok (.iload_n 2, 1) := by decide +kernel
theorem dX4_come_28 : decode cX4_come 28 = .ok (.iastore, 1) := by decide +kernel
theorem dX4_come_29 : decode cX4_come 29 = .ok (.aload_n 0, 1) := by decide +kernel
theorem dX4_come_30 : decode cX4_come 30 = .ok (.getfield 18, 3) := by decide +kernel
theorem dX4_come_33 : decode cX4_come 33 = .ok (.iload_n 1, 1) := by decide +kernel
theorem dX4_come_34 : decode cX4_come 34 = .ok (.iload_n 2, 1) := by decide +kernel
theorem dX4_come_35 : decode cX4_come 35 = .ok (.iconst (-1), 1) := by decide +kernel
theorem dX4_come_36 : decode cX4_come 36 = .ok (.if_icmp .ne 7, 3) := by decide +kernel
theorem dX4_come_39 : decode cX4_come 39 = .ok (.iconst 0, 1) := by decide +kernel
theorem dX4_come_40 : decode cX4_come 40 = .ok (.goto 14, 3) := by decide +kernel
theorem dX4_come_43 : decode cX4_come 43 = .ok (.aload_n 0, 1) := by decide +kernel
theorem dX4_come_44 : decode cX4_come 44 = .ok (.getfield 18, 3) := by decide +kernel
theorem dX4_come_47 : decode cX4_come 47 = .ok (.iload_n 2, 1) := by decide +kernel
theorem dX4_come_48 : decode cX4_come 48 = .ok (.bipush 6, 2) := by decide +kernel
theorem dX4_come_50 : decode cX4_come 50 = .ok (.idiv, 1) := by decide +kernel
theorem dX4_come_51 : decode cX4_come 51 = .ok (.iaload, 1) := by decide +kernel
theorem dX4_come_52 : decode cX4_come 52 = .ok (.iconst 1, 1) := by decide +kernel
theorem dX4_come_53 : decode cX4_come 53 = .ok (.iadd, 1) := by decide +kernel
theorem dX4_come_54 : decode cX4_come 54 = .ok (.iastore, 1) := by decide +kernel
theorem dX4_come_55 : decode cX4_come 55 = .ok (.aload_n 0, 1) := by decide +kernel
theorem dX4_come_56 : decode cX4_come 56 = .ok (.getfield 24, 3) := by decide +kernel
theorem dX4_come_59 : decode cX4_come 59 = .ok (.iload_n 1, 1) := by decide +kernel
theorem dX4_come_60 : decode cX4_come 60 = .ok (.iconst (-1), 1) := by decide +kernel
theorem dX4_come_61 : decode cX4_come 61 = .ok (.iastore, 1) := by decide +kernel
theorem dX4_come_62 : decode cX4_come 62 = .ok (.aload_n 0, 1) := by decide +kernel
theorem dX4_come_63 : decode cX4_come 63 = .ok (.getfield 9, 3) := by decide +kernel
theorem dX4_come_66 : decode cX4_come 66 = .ok (.aload_n 0, 1) := by decide +kernel
theorem dX4_come_67 : decode cX4_come 67 = .ok (.getfield 47, 3) := by decide +kernel
theorem dX4_come_70 : decode cX4_come 70 = .ok (.iload_n 1, 1) := by decide +kernel
theorem dX4_come_71 : decode cX4_come 71 = .ok (.iastore, 1) := by decide +kernel
theorem dX4_come_72 : decode cX4_come 72 = .ok (.aload_n 0, 1) := by decide +kernel
theorem dX4_come_73 : decode cX4_come 73 = .ok (.dup, 1) := by decide +kernel
theorem dX4_come_74 : decode cX4_come 74 = .ok (.getfield 47, 3) := by decide +kernel
theorem dX4_come_77 : decode cX4_come 77 = .ok (.iconst 1, 1) := by decide +kernel
theorem dX4_come_78 : decode cX4_come 78 = .ok (.iadd, 1) := by decide +kernel
theorem dX4_come_79 : decode cX4_come 79 = .ok (.putfield 47, 3) := by decide +kernel
theorem dX4_come_82 : decode cX4_come 82 = .ok (.return_, 1) := by decide +kernel
theorem dX4_weave_0 : decode cX4_weave 0 = .ok (.iconst 0, 1) := by decide +kernel
theorem dX4_weave_1 : decode cX4_weave 1 = .ok (.istore_n 3, 1) := by decide +kernel
theorem dX4_weave_2 : decode cX4_weave 2 = .ok (.iload_n 3, 1) := by decide +kernel
theorem dX4_weave_3 : decode cX4_weave 3 = .ok (.aload_n 0, 1) := by decide +kernel
theorem dX4_weave_4 : decode cX4_weave 4 = .ok (.getfield 47, 3) := by decide +kernel
theorem dX4_weave_7 : decode cX4_weave 7 = .ok (.if_icmp .ge 107, 3) := by decide +kernel
theorem dX4_weave_10 : decode cX4_weave 10 = .ok (.iload_n 3, 1) := by decide +kernel
theorem dX4_weave_11 : decode cX4_weave 11 = .ok (.sipush 5120, 3) := by decide +kernel
theorem dX4_weave_14 : decode cX4_weave 14 = .ok (.if_icmp .ge 100, 3) := by decide +kernel
theorem dX4_weave_17 : decode cX4_weave 17 = .ok (.iconst 0, 1) := by decide +kernel
theorem dX4_weave_18 : decode cX4_weave 18 = .ok (.istore 4, 2) := by decide +kernel
theorem dX4_weave_20 : decode cX4_weave 20 = .ok (.iload 4, 2) := by decide +kernel
theorem dX4_weave_22 : decode cX4_weave 22 = .ok (.bipush 6, 2) := by decide +kernel
theorem dX4_weave_24 : decode cX4_weave 24 = .ok (.if_icmp .ge 84, 3) := by decide +kernel
theorem dX4_weave_27 : decode cX4_weave 27 = .ok (.aload_n 0, 1) := by decide +kernel
theorem dX4_weave_28 : decode cX4_weave 28 = .ok (.getfield 9, 3) := by decide +kernel
theorem dX4_weave_31 : decode cX4_weave 31 = .ok (.iload_n 3, 1) := by decide +kernel
theorem dX4_weave_32 : decode cX4_weave 32 = .ok (.iaload, 1) := by decide +kernel
theorem dX4_weave_33 : decode cX4_weave 33 = .ok (.bipush 6, 2) := by decide +kernel
theorem dX4_weave_35 : decode cX4_weave 35 = .ok (.imul, 1) := by decide +kernel
theorem dX4_weave_36 : decode cX4_weave 36 = .ok (.iload 4, 2) := by decide +kernel
theorem dX4_weave_38 : decode cX4_weave 38 = .ok (.iadd, 1) := by decide +kernel
theorem dX4_weave_39 : decode cX4_weave 39 = .ok (.istore 5, 2) := by decide +kernel
theorem dX4_weave_41 : decode cX4_weave 41 = .ok (.aload_n 1, 1) := by decide +kernel
theorem dX4_weave_42 : decode cX4_weave 42 = .ok (.aload_n 0, 1) := by decide +kernel
theorem dX4_weave_43 : decode cX4_weave 43 = .ok (.getfield 9, 3) := by decide +kernel
theorem dX4_weave_46 : decode cX4_weave 46 = .ok (.iload_n 3, 1) := by decide +kernel
theorem dX4_weave_47 : decode cX4_weave 47 = .ok (.iaload, 1) := by decide +kernel
theorem dX4_weave_48 : decode cX4_weave 48 = .ok (.iload 4, 2) := by decide +kernel
theorem dX4_weave_50 : decode cX4_weave 50 = .ok (.iload_n 2, 1) := by decide +kernel
theorem dX4_weave_51 : decode cX4_weave 51 = .ok (.invokevirtual 51, 3) := by decide +kernel
theorem dX4_weave_54 : decode cX4_weave 54 = .ok (.istore 6, 2) := by decide +kernel
theorem dX4_weave_56 : decode cX4_weave 56 = .ok (.aload_n 0, 1) := by decide +kernel
theorem dX4_weave_57 : decode cX4_weave 57 = .ok (.getfield 21, 3) := by decide +kernel
theorem dX4_weave_60 : decode cX4_weave 60 = .ok (.iload 5, 2) := by decide +kernel
theorem dX4_weave_62 : decode cX4_weave 62 = .ok (.iload 6, 2) := by decide +kernel
theorem dX4_weave_64 : decode cX4_weave 64 = .ok (.iastore, 1) := by decide +kernel
theorem dX4_weave_65 : decode cX4_weave 65 = .ok (.iload 6, 2) := by decide +kernel
theorem dX4_weave_67 : decode cX4_weave 67 = .ok (.iconst (-1), 1) := by decide +kernel
theorem dX4_weave_68 : decode cX4_weave 68 = .ok (.if_icmp .eq 34, 3) := by decide +kernel
theorem dX4_weave_71 : decode cX4_weave 71 = .ok (.aload_n 0, 1) := by decide +kernel
theorem dX4_weave_72 : decode cX4_weave 72 = .ok (.iload 6, 2) := by decide +kernel
theorem dX4_weave_74 : decode cX4_weave 74 = .ok (.iload 5, 2) := by decide +kernel
theorem dX4_weave_76 : decode cX4_weave 76 = .ok (.invokevirtual 57, 3) := by decide +kernel
theorem dX4_weave_79 : decode cX4_weave 79 = .ok (.aload_n 0, 1) := by decide +kernel
theorem dX4_weave_80 : decode cX4_weave 80 = .ok (.getfield 27, 3) := by decide +kernel
theorem dX4_weave_83 : decode cX4_weave 83 = .ok (.iload 5, 2) := by decide +kernel
theorem dX4_weave_85 : decode cX4_weave 85 = .ok (.aload_n 0, 1) := by decide +kernel
theorem dX4_weave_86 : decode cX4_weave 86 = .ok (.getfield 24, 3) := by decide +kernel
theorem dX4_weave_89 : decode cX4_weave 89 = .ok (.iload 6, 2) := by decide +kernel
theorem dX4_weave_91 : decode cX4_weave 91 = .ok (.iaload, 1) := by decide +kernel
theorem dX4_weave_92 : decode cX4_weave 92 = .ok (.iastore, 1) := by decide +kernel
theorem dX4_weave_93 : decode cX4_weave 93 = .ok (.aload_n 0, 1) := by decide +kernel
theorem dX4_weave_94 : decode cX4_weave 94 = .ok (.getfield 24, 3) := by decide +kernel
theorem dX4_weave_97 : decode cX4_weave 97 = .ok (.iload 6, 2) := by decide +kernel
theorem dX4_weave_99 : decode cX4_weave 99 = .ok (.iload 5, 2) := by decide +kernel
theorem dX4_weave_101 : decode cX4_weave 101 = .ok (.iastore, 1) := by decide +kernel
theorem dX4_weave_102 : decode cX4_weave 102 = .ok (.iinc 4 1, 3) := by decide +kernel
theorem dX4_weave_105 : decode cX4_weave 105 = .ok (.goto (-85), 3) := by decide +kernel
theorem dX4_weave_108 : decode cX4_weave 108 = .ok (.iinc 3 1, 3) := by decide +kernel
theorem dX4_weave_111 : decode cX4_weave 111 = .ok (.goto (-109), 3) := by decide +kernel
theorem dX4_weave_114 : decode cX4_weave 114 = .ok (.return_, 1) := by decide +kernel
theorem dX4_spreadMarks_0 : decode cX4_spreadMarks 0 = .ok (.iconst 0, 1) := by decide +kernel
theorem dX4_spreadMarks_1 : decode cX4_spreadMarks 1 = .ok (.istore_n 1, 1) := by decide +kernel
theorem dX4_spreadMarks_2 : decode cX4_spreadMarks 2 = .ok (.iconst 0, 1) := by decide +kernel
theorem dX4_spreadMarks_3 : decode cX4_spreadMarks 3 = .ok (.istore_n 2, 1) := by decide +kernel
theorem dX4_spreadMarks_4 : decode cX4_spreadMarks 4 = .ok (.aload_n 0, 1) := by decide +kernel
theorem dX4_spreadMarks_5 : decode cX4_spreadMarks 5 = .ok (.getfield 47, 3) := by decide +kernel
theorem dX4_spreadMarks_8 : decode cX4_spreadMarks 8 = .ok (.iconst 1, 1) := by decide +kernel
theorem dX4_spreadMarks_9 : decode cX4_spreadMarks 9 = .ok (.isub, 1) := by decide +kernel
theorem dX4_spreadMarks_10 : decode cX4_spreadMarks 10 = .ok (.istore_n 3, 1) := by decide +kernel
theorem dX4_spreadMarks_11 : decode cX4_spreadMarks 11 = .ok (.iload_n 3, 1) := by decide +kernel
theorem dX4_spreadMarks_12 : decode cX4_spreadMarks 12 = .ok (.ifCond .lt 50, 3) := by decide +kernel
theorem dX4_spreadMarks_15 : decode cX4_spreadMarks 15 = .ok (.aload_n 0, 1) := by decide +kernel
theorem dX4_spreadMarks_16 : decode cX4_spreadMarks 16 = .ok (.getfield 30, 3) := by decide +kernel
theorem dX4_spreadMarks_19 : decode cX4_spreadMarks 19 = .ok (.aload_n 0, 1) := by decide +kernel
theorem dX4_spreadMarks_20 : decode cX4_spreadMarks 20 = .ok (.getfield 9, 3) := by decide +kernel
theorem dX4_spreadMarks_23 : decode cX4_spreadMarks 23 = .ok (.iload_n 3, 1) := by decide +kernel
theorem dX4_spreadMarks_24 : decode cX4_spreadMarks 24 = .ok (.iaload, 1) := by decide +kernel
theorem dX4_spreadMarks_25 : decode cX4_spreadMarks 25 = .ok (.iaload, 1) := by decide +kernel
theorem dX4_spreadMarks_26 : decode cX4_spreadMarks 26 = .ok (.ifCond .eq 30, 3) := by decide +kernel
theorem dX4_spreadMarks_29 : decode cX4_spreadMarks 29 = .ok (.aload_n 0, 1) := by decide +kernel
theorem dX4_spreadMarks_30 : decode cX4_spreadMarks 30 = .ok (.getfield 33, 3) := by decide +kernel
theorem dX4_spreadMarks_33 : decode cX4_spreadMarks 33 = .ok (.iload_n 2, 1) := by decide +kernel
theorem dX4_spreadMarks_34 : decode cX4_spreadMarks 34 = .ok (.aload_n 0, 1) := by decide +kernel
theorem dX4_spreadMarks_35 : decode cX4_spreadMarks 35 = .ok (.getfield 9, 3) := by decide +kernel
theorem dX4_spreadMarks_38 : decode cX4_spreadMarks 38 = .ok (.iload_n 3, 1) := by decide +kernel
theorem dX4_spreadMarks_39 : decode cX4_spreadMarks 39 = .ok (.iaload, 1) := by decide +kernel
theorem dX4_spreadMarks_40 : decode cX4_spreadMarks 40 = .ok (.iastore, 1) := by decide +kernel
theorem dX4_spreadMarks_41 : decode cX4_spreadMarks 41 = .ok (.aload_n 0, 1) := by decide +kernel
theorem dX4_spreadMarks_42 : decode cX4_spreadMarks 42 = .ok (.getfield 36, 3) := by decide +kernel
theorem dX4_spreadMarks_45 : decode cX4_spreadMarks 45 = .ok (.aload_n 0, 1) := by decide +kernel
theorem dX4_spreadMarks_46 : decode cX4_spreadMarks 46 = .ok (.getfield 9, 3) := by decide +kernel
theorem dX4_spreadMarks_49 : decode cX4_spreadMarks 49 = .ok (.iload_n 3, 1) := by decide +kernel
theorem dX4_spreadMarks_50 : decode cX4_spreadMarks 50 = .ok (.iaload, 1) := by decide +kernel
theorem dX4_spreadMarks_51 : decode cX4_spreadMarks 51 = .ok (.iconst 1, 1) := by decide +kernel
theorem dX4_spreadMarks_52 : decode cX4_spreadMarks 52 = .ok (.bastore, 1) := by decide +kernel
theorem dX4_spreadMarks_53 : decode cX4_spreadMarks 53 = .ok (.iinc 2 1, 3) := by decide +kernel
theorem dX4_spreadMarks_56 : decode cX4_spreadMarks 56 = .ok (.iinc 3 (-1), 3) := by decide +kernel
theorem dX4_spreadMarks_59 : decode cX4_spreadMarks 59 = .ok (.goto (-48), 3) := by decide +kernel
theorem dX4_spreadMarks_62 : decode cX4_spreadMarks 62 = .ok (.iconst 0, 1) := by decide +kernel
theorem dX4_spreadMarks_63 : decode cX4_spreadMarks 63 = .ok (.istore_n 3, 1) := by decide +kernel
theorem dX4_spreadMarks_64 : decode cX4_spreadMarks 64 = .ok (.iload_n 2, 1) := by decide +kernel
theorem dX4_spreadMarks_65 : decode cX4_spreadMarks 65 = .ok (.ifCond .le 51, 3) := by decide +kernel
theorem dX4_spreadMarks_68 : decode cX4_spreadMarks 68 = .ok (.iload_n 3, 1) := by decide +kernel
theorem dX4_spreadMarks_69 : decode cX4_spreadMarks 69 = .ok (.ldc 61, 2) := by decide +kernel
theorem dX4_spreadMarks_71 : decode cX4_spreadMarks 71 = .ok (.if_icmp .ge 45, 3) := by decide +kernel
theorem dX4_spreadMarks_74 : decode cX4_spreadMarks 74 = .ok (.aload_n 0, 1) := by decide +kernel
theorem dX4_spreadMarks_75 : decode cX4_spreadMarks 75 = .ok (.getfield 33, 3) := by decide +kernel
theorem dX4_spreadMarks_78 : decode cX4_spreadMarks 78 = .ok (.iload_n 1, 1) := by decide +kernel
theorem dX4_spreadMarks_79 : decode cX4_spreadMarks 79 = .ok (.iaload, 1) := by decide +kernel
theorem dX4_spreadMarks_80 : decode cX4_spreadMarks 80 = .ok (.istore 4, 2) := by decide +kernel
theorem dX4_spreadMarks_82 : decode cX4_spreadMarks 82 = .ok (.iload_n 1, 1) := by decide +kernel
theorem dX4_spreadMarks_83 : decode cX4_spreadMarks 83 = .ok (.iconst 1, 1) := by decide +kernel
theorem dX4_spreadMarks_84 : decode cX4_spreadMarks 84 = .ok (.iadd, 1) := by decide +kernel
theorem dX4_spreadMarks_85 : decode cX4_spreadMarks 85 = .ok (.sipush 5120, 3) := by decide +kernel
theorem dX4_spreadMarks_88 : decode cX4_spreadMarks 88 = .ok (.irem, 1) := by decide +kernel
theorem dX4_spreadMarks_89 : decode cX4_spreadMarks 89 = .ok (.istore_n 1, 1) := by decide +kernel
theorem dX4_spreadMarks_90 : decode cX4_spreadMarks 90 = .ok (.iinc 2 (-1), 3) := by decide +kernel
theorem dX4_spreadMarks_93 : decode cX4_spreadMarks 93 = .ok (.aload_n 0, 1) := by decide +kernel
theorem dX4_spreadMarks_94 : decode cX4_spreadMarks 94 = .ok (.getfield 36, 3) := by decide +kernel
theorem dX4_spreadMarks_97 : decode cX4_spreadMarks 97 = .ok (.iload 4, 2) := by decide +kernel
theorem dX4_spreadMarks_99 : decode cX4_spreadMarks 99 = .ok (.iconst 0, 1) := by decide +kernel
theorem dX4_spreadMarks_100 : decode cX4_spreadMarks 100 = .ok (.bastore, 1) := by decide +kernel
theorem dX4_spreadMarks_101 : decode cX4_spreadMarks 101 = .ok (.aload_n 0, 1) := by decide +kernel
theorem dX4_spreadMarks_102 : decode cX4_spreadMarks 102 = .ok (.iload 4, 2) := by decide +kernel
theorem dX4_spreadMarks_104 : decode cX4_spreadMarks 104 = .ok (.iload_n 1, 1) := by decide +kernel
theorem dX4_spreadMarks_105 : decode cX4_spreadMarks 105 = .ok (.iload_n 2, 1) := by decide +kernel
theorem dX4_spreadMarks_106 : decode cX4_spreadMarks 106 = .ok (.invokevirtual 62, 3) := by decide +kernel
theorem dX4_spreadMarks_109 : decode cX4_spreadMarks 109 = .ok (.istore_n 2, 1) := by decide +kernel
theorem dX4_spreadMarks_110 : decode cX4_spreadMarks 110 = .ok (.iinc 3 1, 3) := by decide +kernel
theorem dX4_spreadMarks_113 : decode cX4_spreadMarks 113 = .ok (.goto (-49), 3) := by decide +kernel
theorem dX4_spreadMarks_116 : decode cX4_spreadMarks 116 = .ok (.return_, 1) := by decide +kernel
theorem dX4_spreadFrom_0 : decode cX4_spreadFrom 0 = .ok (.iload_n 3, 1) := by decide +kernel
theorem dX4_spreadFrom_1 : decode cX4_spreadFrom 1 = .ok (.istore 4, 2) := by decide +kernel
theorem dX4_spreadFrom_3 : decode cX4_spreadFrom 3 = .ok (.aload_n 0, 1) := by decide +kernel
theorem dX4_spreadFrom_4 : decode cX4_spreadFrom 4 = .ok (.getfield 24, 3) := by decide +kernel
theorem dX4_spreadFrom_7 : decode cX4_spreadFrom 7 = .ok (.iload_n 1, 1) := by decide +kernel
theorem dX4_spreadFrom_8 : decode cX4_spreadFrom 8 = .ok (.iaload, 1) := by decide +kernel
theorem dX4_spreadFrom_9 : decode cX4_spreadFrom 9 = .ok (.istore 5, 2) := by decide +kernel
theorem dX4_spreadFrom_11 : decode cX4_spreadFrom 11 = .ok (.iconst 0, 1) := by decide +kernel
theorem dX4_spreadFrom_12 : decode cX4_spreadFrom 12 = .ok (.istore 6, 2) := by decide +kernel
theorem dX4_spreadFrom_14 : decode cX4_spreadFrom 14 = .ok (.iload 5, 2) := by decide +kernel
theorem dX4_spreadFrom_16 : decode cX4_spreadFrom 16 = .ok (.iconst (-1), 1) := by decide +kernel
theorem dX4_spreadFrom_17 : decode cX4_spreadFrom 17 = .ok (.if_icmp .eq 106, 3) := by decide +kernel
theorem dX4_spreadFrom_20 : decode cX4_spreadFrom 20 = .ok (.iload 6, 2) := by decide +kernel
theorem dX4_spreadFrom_22 : decode cX4_spreadFrom 22 = .ok (.sipush 30720, 3) := by decide +kernel
theorem dX4_spreadFrom_25 : decode cX4_spreadFrom 25 = .ok (.if_icmp .ge 98, 3) := by decide +kernel
theorem dX4_spreadFrom_28 : decode cX4_spreadFrom 28 = .ok (.iload 5, 2) := by decide +kernel
theorem dX4_spreadFrom_30 : decode cX4_spreadFrom 30 = .ok (.bipush 6, 2) := by decide +kernel
theorem dX4_spreadFrom_32 : decode cX4_spreadFrom 32 = .ok (.idiv, 1) := by decide +kernel
theorem dX4_spreadFrom_33 : decode cX4_spreadFrom 33 = .ok (.istore 7, 2) := by decide +kernel
theorem dX4_spreadFrom_35 : decode cX4_spreadFrom 35 = .ok (.aload_n 0, 1) := by decide +kernel
theorem dX4_spreadFrom_36 : decode cX4_spreadFrom 36 = .ok (.getfield 30, 3) := by decide +kernel
theorem dX4_spreadFrom_39 : decode cX4_spreadFrom 39 = .ok (.iload 7, 2) := by decide +kernel
theorem dX4_spreadFrom_41 : decode cX4_spreadFrom 41 = .ok (.iaload, 1) := by decide +kernel
theorem dX4_spreadFrom_42 : decode cX4_spreadFrom 42 = .ok (.aload_n 0, 1) := by decide +kernel
theorem dX4_spreadFrom_43 : decode cX4_spreadFrom 43 = .ok (.getfield 30, 3) := by decide +kernel
theorem dX4_spreadFrom_46 : decode cX4_spreadFrom 46 = .ok (.iload_n 1, 1) := by decide +kernel
theorem dX4_spreadFrom_47 : decode cX4_spreadFrom 47 = .ok (.iaload, 1) := by decide +kernel
theorem dX4_spreadFrom_48 : decode cX4_spreadFrom 48 = .ok (.ior, 1) := by decide +kernel
theorem dX4_spreadFrom_49 : decode cX4_spreadFrom 49 = .ok (.istore 8, 2) := by decide +kernel
theorem dX4_spreadFrom_51 : decode cX4_spreadFrom 51 = .ok (.iload 8, 2) := by decide +kernel
theorem dX4_spreadFrom_53 : decode cX4_spreadFrom 53 = .ok (.aload_n 0, 1) := by decide +kernel
theorem dX4_spreadFrom_54 : decode cX4_spreadFrom 54 = .ok (.getfield 30, 3) := by decide +kernel
theorem dX4_spreadFrom_57 : decode cX4_spreadFrom 57 = .ok (.iload 7, 2) := by decide +kernel
theorem dX4_spreadFrom_59 : decode cX4_spreadFrom 59 = .ok (.iaload, 1) := by decide +kernel
theorem dX4_spreadFrom_60 : decode cX4_spreadFrom 60 = .ok (.if_icmp .eq 48, 3) := by decide +kernel
theorem dX4_spreadFrom_63 : decode cX4_spreadFrom 63 = .ok (.aload_n 0, 1) := by decide +kernel
theorem dX4_spreadFrom_64 : decode cX4_spreadFrom 64 = .ok (.getfield 30, 3) := by decide +kernel
theorem dX4_spreadFrom_67 : decode cX4_spreadFrom 67 = .ok (.iload 7, 2) := by decide +kernel
theorem dX4_spreadFrom_69 : decode cX4_spreadFrom 69 = .ok (.iload 8, 2) := by decide +kernel
theorem dX4_spreadFrom_71 : decode cX4_spreadFrom 71 = .ok (.iastore, 1) := by decide +kernel
theorem dX4_spreadFrom_72 : decode cX4_spreadFrom 72 = .ok (.aload_n 0, 1) := by decide +kernel
theorem dX4_spreadFrom_73 : decode cX4_spreadFrom 73 = .ok (.getfield 36, 3) := by decide +kernel
theorem dX4_spreadFrom_76 : decode cX4_spreadFrom 76 = .ok (.iload 7, 2) := by decide +kernel
theorem dX4_spreadFrom_78 : decode cX4_spreadFrom 78 = .ok (.baload, 1) := by decide +kernel
theorem dX4_spreadFrom_79 : decode cX4_spreadFrom 79 = .ok (.ifCond .ne 29, 3) := by decide +kernel
theorem dX4_spreadFrom_82 : decode cX4_spreadFrom 82 = .ok (.aload_n 0, 1) := by decide +kernel
theorem dX4_spreadFrom_83 : decode cX4_spreadFrom 83 = .ok (.getfield 36, 3) := by decide +kernel
theorem dX4_spreadFrom_86 : decode cX4_spreadFrom 86 = .ok (.iload 7, 2) := by decide +kernel
theorem dX4_spreadFrom_88 : decode cX4_spreadFrom 88 = .ok (.iconst 1, 1) := by decide +kernel
theorem dX4_spreadFrom_89 : decode cX4_spreadFrom 89 = .ok (.bastore, 1) := by decide +kernel
theorem dX4_spreadFrom_90 : decode cX4_spreadFrom 90 = .ok (.aload_n 0, 1) := by decide +kernel
theorem dX4_spreadFrom_91 : decode cX4_spreadFrom 91 = .ok (.getfield 33, 3) := by decide +kernel
theorem dX4_spreadFrom_94 : decode cX4_spreadFrom 94 = .ok (.iload_n 2, 1) := by decide +kernel
theorem dX4_spreadFrom_95 : decode cX4_spreadFrom 95 = .ok (.iload 4, 2) := by decide +kernel
theorem dX4_spreadFrom_97 : decode cX4_spreadFrom 97 = .ok (.iadd, 1) := by decide +kernel
theorem dX4_spreadFrom_98 : decode cX4_spreadFrom 98 = .ok (.sipush 5120, 3) := by decide +kernel
theorem dX4_spreadFrom_101 : decode cX4_spreadFrom 101 = .ok (.irem, 1) := by decide +kernel
theorem dX4_spreadFrom_102 : decode cX4_spreadFrom 102 = .ok (.iload 7, 2) := by decide +kernel
theorem dX4_spreadFrom_104 : decode cX4_spreadFrom 104 = .ok (.iastore, 1) := by decide +kernel
theorem dX4_spreadFrom_105 : decode cX4_spreadFrom 105 = .ok (.iinc 4 1, 3) := by decide +kernel
theorem dX4_spreadFrom_108 : decode cX4_spreadFrom 108 = .ok (.aload_n 0, 1) := by decide +kernel
theorem dX4_spreadFrom_109 : decode cX4_spreadFrom 109 = .ok (.getfield 27, 3) := by decide +kernel
theorem dX4_spreadFrom_112 : decode cX4_spreadFrom 112 = .ok (.iload 5, 2) := by decide +kernel
theorem dX4_spreadFrom_114 : decode cX4_spreadFrom 114 = .ok (.iaload, 1) := by decide +kernel
theorem dX4_spreadFrom_115 : decode cX4_spreadFrom 115 = .ok (.istore 5, 2) := by decide +kernel
theorem dX4_spreadFrom_117 : decode cX4_spreadFrom 117 = .ok (.iinc 6 1, 3) := by decide +kernel
theorem dX4_spreadFrom_120 : decode cX4_spreadFrom 120 = .ok (.goto (-106), 3) := by decide +kernel
theorem dX4_spreadFrom_123 : decode cX4_spreadFrom 123 = .ok (.iload 4, 2) := by decide +kernel
theorem dX4_spreadFrom_125 : decode cX4_spreadFrom 125 = .ok (.ireturn, 1) := by decide +kernel
theorem dX4_leadsOn_0 : decode cX4_leadsOn 0 = .ok (.iconst 0, 1) := by decide +kernel
theorem dX4_leadsOn_1 : decode cX4_leadsOn 1 = .ok (.istore_n 2, 1) := by decide +kernel
theorem dX4_leadsOn_2 : decode cX4_leadsOn 2 = .ok (.iload_n 2, 1) := by decide +kernel
theorem dX4_leadsOn_3 : decode cX4_leadsOn 3 = .ok (.bipush 6, 2) := by decide +kernel
theorem dX4_leadsOn_5 : decode cX4_leadsOn 5 = .ok (.if_icmp .ge 26, 3) := by decide +kernel
theorem dX4_leadsOn_8 : decode cX4_leadsOn 8 = .ok (.aload_n 0, 1) := by decide +kernel
theorem dX4_leadsOn_9 : decode cX4_leadsOn 9 = .ok (.getfield 21, 3) := by decide +kernel
theorem dX4_leadsOn_12 : decode cX4_leadsOn 12 = .ok (.iload_n 1, 1) := by decide +kernel
theorem dX4_leadsOn_13 : decode cX4_leadsOn 13 = .ok (.bipush 6, 2) := by decide +kernel
theorem dX4_leadsOn_15 : decode cX4_leadsOn 15 = .ok (.imul, 1) := by decide +kernel
theorem dX4_leadsOn_16 : decode cX4_leadsOn 16 = .ok (.iload_n 2, 1) := by decide +kernel
theorem dX4_leadsOn_17 : decode cX4_leadsOn 17 = .ok (.iadd, 1) := by decide +kernel
theorem dX4_leadsOn_18 : decode cX4_leadsOn 18 = .ok (.iaload, 1) := by decide +kernel
theorem dX4_leadsOn_19 : decode cX4_leadsOn 19 = .ok (.iconst (-1), 1) := by decide +kernel
theorem dX4_leadsOn_20 : decode cX4_leadsOn 20 = .ok (.if_icmp .eq 5, 3) := by decide +kernel
theorem dX4_leadsOn_23 : decode cX4_leadsOn 23 = .ok (.iconst 1, 1) := by decide +kernel
theorem dX4_leadsOn_24 : decode cX4_leadsOn 24 = .ok (.ireturn, 1) := by decide +kernel
theorem dX4_leadsOn_25 : decode cX4_leadsOn 25 = .ok (.iinc 2 1, 3) := by decide +kernel
theorem dX4_leadsOn_28 : decode cX4_leadsOn 28 = .ok (.goto (-26), 3) := by decide +kernel
theorem dX4_leadsOn_31 : decode cX4_leadsOn 31 = .ok (.iconst 0, 1) := by decide +kernel
theorem dX4_leadsOn_32 : decode cX4_leadsOn 32 = .ok (.ireturn, 1) := by decide +kernel
theorem dX4_scenesCome_0 : decode cX4_scenesCome 0 = .ok (.iconst 0, 1) := by decide +kernel
theorem dX4_scenesCome_1 : decode cX4_scenesCome 1 = .ok (.istore_n 1, 1) := by decide +kernel
theorem dX4_scenesCome_2 : decode cX4_scenesCome 2 = .ok (.iconst 0, 1) := by decide +kernel
theorem dX4_scenesCome_3 : decode cX4_scenesCome 3 = .ok (.istore_n 2, 1) := by decide +kernel
theorem dX4_scenesCome_4 : decode cX4_scenesCome 4 = .ok (.iload_n 2, 1) := by decide +kernel
theorem dX4_scenesCome_5 : decode cX4_scenesCome 5 = .ok (.aload_n 0, 1) := by decide +kernel
theorem dX4_scenesCome_6 : decode cX4_scenesCome 6 = .ok (.getfield 47, 3) := by decide +kernel
theorem dX4_scenesCome_9 : decode cX4_scenesCome 9 = .ok (.if_icmp .ge 23, 3) := by decide +kernel
theorem dX4_scenesCome_12 : decode cX4_scenesCome 12 = .ok (.iload_n 1, 1) := by decide +kernel
theorem dX4_scenesCome_13 : decode cX4_scenesCome 13 = .ok (.iconst 1, 1) := by decide +kernel
theorem dX4_scenesCome_14 : decode cX4_scenesCome 14 = .ok (.aload_n 0, 1) := by decide +kernel
theorem dX4_scenesCome_15 : decode cX4_scenesCome 15 = .ok (.getfield 9, 3) := by decide +kernel
theorem dX4_scenesCome_18 : decode cX4_scenesCome 18 = .ok (.iload_n 2, 1) := by decide +kernel
theorem dX4_scenesCome_19 : decode cX4_scenesCome 19 = .ok (.iaload, 1) := by decide +kernel
theorem dX4_scenesCome_20 : decode cX4_scenesCome 20 = .ok (.invokestatic 65, 3) := by decide +kernel
theorem dX4_scenesCome_23 : decode cX4_scenesCome 23 = .ok (.ishl, 1) := by decide +kernel
theorem dX4_scenesCome_24 : decode cX4_scenesCome 24 = .ok (.ior, 1) := by decide +kernel
theorem dX4_scenesCome_25 : decode cX4_scenesCome 25 = .ok (.istore_n 1, 1) := by decide +kernel
theorem dX4_scenesCome_26 : decode cX4_scenesCome 26 = .ok (.iinc 2 1, 3) := by decide +kernel
theorem dX4_scenesCome_29 : decode cX4_scenesCome 29 = .ok (.goto (-25), 3) := by decide +kernel
theorem dX4_scenesCome_32 : decode cX4_scenesCome 32 = .ok (.iload_n 1, 1) := by decide +kernel
theorem dX4_scenesCome_33 : decode cX4_scenesCome 33 = .ok (.ireturn, 1) := by decide +kernel
theorem dX4_firstOf_0 : decode cX4_firstOf 0 = .ok (.iconst 0, 1) := by decide +kernel
theorem dX4_firstOf_1 : decode cX4_firstOf 1 = .ok (.istore_n 2, 1) := by decide +kernel
theorem dX4_firstOf_2 : decode cX4_firstOf 2 = .ok (.iload_n 2, 1) := by decide +kernel
theorem dX4_firstOf_3 : decode cX4_firstOf 3 = .ok (.aload_n 0, 1) := by decide +kernel
theorem dX4_firstOf_4 : decode cX4_firstOf 4 = .ok (.getfield 47, 3) := by decide +kernel
theorem dX4_firstOf_7 : decode cX4_firstOf 7 = .ok (.if_icmp .ge 29, 3) := by decide +kernel
theorem dX4_firstOf_10 : decode cX4_firstOf 10 = .ok (.aload_n 0, 1) := by decide +kernel
theorem dX4_firstOf_11 : decode cX4_firstOf 11 = .ok (.getfield 9, 3) := by decide +kernel
theorem dX4_firstOf_14 : decode cX4_firstOf 14 = .ok (.iload_n 2, 1) := by decide +kernel
theorem dX4_firstOf_15 : decode cX4_firstOf 15 = .ok (.iaload, 1) := by decide +kernel
theorem dX4_firstOf_16 : decode cX4_firstOf 16 = .ok (.invokestatic 65, 3) := by decide +kernel
theorem dX4_firstOf_19 : decode cX4_firstOf 19 = .ok (.iload_n 1, 1) := by decide +kernel
theorem dX4_firstOf_20 : decode cX4_firstOf 20 = .ok (.if_icmp .ne 10, 3) := by decide +kernel
theorem dX4_firstOf_23 : decode cX4_firstOf 23 = .ok (.aload_n 0, 1) := by decide +kernel
theorem dX4_firstOf_24 : decode cX4_firstOf 24 = .ok (.getfield 9, 3) := by decide +kernel
theorem dX4_firstOf_27 : decode cX4_firstOf 27 = .ok (.iload_n 2, 1) := by decide +kernel
theorem dX4_firstOf_28 : decode cX4_firstOf 28 = .ok (.iaload, 1) := by decide +kernel
theorem dX4_firstOf_29 : decode cX4_firstOf 29 = .ok (.ireturn, 1) := by decide +kernel
theorem dX4_firstOf_30 : decode cX4_firstOf 30 = .ok (.iinc 2 1, 3) := by decide +kernel
theorem dX4_firstOf_33 : decode cX4_firstOf 33 = .ok (.goto (-31), 3) := by decide +kernel
theorem dX4_firstOf_36 : decode cX4_firstOf 36 = .ok (.iconst (-1), 1) := by decide +kernel
theorem dX4_firstOf_37 : decode cX4_firstOf 37 = .ok (.ireturn, 1) := by decide +kernel
theorem dX4_choiceOfWay_0 : decode cX4_choiceOfWay 0 = .ok (.aload_n 0, 1) := by decide +kernel
theorem dX4_choiceOfWay_1 : decode cX4_choiceOfWay 1 = .ok (.getfield 18, 3) := by decide +kernel
theorem dX4_choiceOfWay_4 : decode cX4_choiceOfWay 4 = .ok (.iload_n 1, 1) := by decide +kernel
theorem dX4_choiceOfWay_5 : decode cX4_choiceOfWay 5 = .ok (.iaload, 1) := by decide +kernel
theorem dX4_choiceOfWay_6 : decode cX4_choiceOfWay 6 = .ok (.istore_n 3, 1) := by decide +kernel
theorem dX4_choiceOfWay_7 : decode cX4_choiceOfWay 7 = .ok (.iload_n 2, 1) := by decide +kernel
theorem dX4_choiceOfWay_8 : decode cX4_choiceOfWay 8 = .ok (.iload_n 3, 1) := by decide +kernel
theorem dX4_choiceOfWay_9 : decode cX4_choiceOfWay 9 = .ok (.if_icmp .lt 5, 3) := by decide +kernel
theorem dX4_choiceOfWay_12 : decode cX4_choiceOfWay 12 = .ok (.iconst (-1), 1) := by decide +kernel
theorem dX4_choiceOfWay_13 : decode cX4_choiceOfWay 13 = .ok (.ireturn, 1) := by decide +kernel
theorem dX4_choiceOfWay_14 : decode cX4_choiceOfWay 14 = .ok (.iload_n 1, 1) := by decide +kernel
theorem dX4_choiceOfWay_15 : decode cX4_choiceOfWay 15 = .ok (.istore 4, 2) := by decide +kernel
theorem dX4_choiceOfWay_17 : decode cX4_choiceOfWay 17 = .ok (.iload_n 3, 1) := by decide +kernel
theorem dX4_choiceOfWay_18 : decode cX4_choiceOfWay 18 = .ok (.iconst 1, 1) := by decide +kernel
theorem dX4_choiceOfWay_19 : decode cX4_choiceOfWay 19 = .ok (.isub, 1) := by decide +kernel
theorem dX4_choiceOfWay_20 : decode cX4_choiceOfWay 20 = .ok (.istore 5, 2) := by decide +kernel
theorem dX4_choiceOfWay_22 : decode cX4_choiceOfWay 22 = .ok (.iload 5, 2) := by decide +kernel
theorem dX4_choiceOfWay_24 : decode cX4_choiceOfWay 24 = .ok (.iload_n 2, 1) := by decide +kernel
theorem dX4_choiceOfWay_25 : decode cX4_choiceOfWay 25 = .ok (.if_icmp .le 21, 3) := by decide +kernel
theorem dX4_choiceOfWay_28 : decode cX4_choiceOfWay 28 = .ok (.aload_n 0, 1) := by decide +kernel
theorem dX4_choiceOfWay_29 : decode cX4_choiceOfWay 29 = .ok (.getfield 15, 3) := by decide +kernel
theorem dX4_choiceOfWay_32 : decode cX4_choiceOfWay 32 = .ok (.iload 4, 2) := by decide +kernel
theorem dX4_choiceOfWay_34 : decode cX4_choiceOfWay 34 = .ok (.iaload, 1) := by decide +kernel
theorem dX4_choiceOfWay_35 : decode cX4_choiceOfWay 35 = .ok (.bipush 6, 2) := by decide +kernel
theorem dX4_choiceOfWay_37 : decode cX4_choiceOfWay 37 = .ok (.idiv, 1) := by decide +kernel
theorem dX4_choiceOfWay_38 : decode cX4_choiceOfWay 38 = .ok (.istore 4, 2) := by decide +kernel
theorem dX4_choiceOfWay_40 : decode cX4_choiceOfWay 40 = .ok (.iinc 5 (-1), 3) := by decide +kernel
theorem dX4_choiceOfWay_43 : decode cX4_choiceOfWay 43 = .ok (.goto (-21), 3) := by decide +kernel
theorem dX4_choiceOfWay_46 : decode cX4_choiceOfWay 46 = .ok (.aload_n 0, 1) := by decide +kernel
theorem dX4_choiceOfWay_47 : decode cX4_choiceOfWay 47 = .ok (.getfield 15, 3) := by decide +kernel
theorem dX4_choiceOfWay_50 : decode cX4_choiceOfWay 50 = .ok (.iload 4, 2) := by decide +kernel
theorem dX4_choiceOfWay_52 : decode cX4_choiceOfWay 52 = .ok (.iaload, 1) := by decide +kernel
theorem dX4_choiceOfWay_53 : decode cX4_choiceOfWay 53 = .ok (.bipush 6, 2) := by decide +kernel
theorem dX4_choiceOfWay_55 : decode cX4_choiceOfWay 55 = .ok (.irem, 1) := by decide +kernel
theorem dX4_choiceOfWay_56 : decode cX4_choiceOfWay 56 = .ok (.ireturn, 1) := by decide +kernel
theorem dX4_countPairs_0 : decode cX4_countPairs 0 = .ok (.iconst 0, 1) := by decide +kernel
theorem dX4_countPairs_1 : decode cX4_countPairs 1 = .ok (.istore_n 2, 1) := by decide +kernel
theorem dX4_countPairs_2 : decode cX4_countPairs 2 = .ok (.iconst 0, 1) := by decide +kernel
theorem dX4_countPairs_3 : decode cX4_countPairs 3 = .ok (.istore_n 3, 1) := by decide +kernel
theorem dX4_countPairs_4 : decode cX4_countPairs 4 = .ok (.iload_n 3, 1) := by decide +kernel
theorem dX4_countPairs_5 : decode cX4_countPairs 5 = .ok (.aload_n 0, 1) := by decide +kernel
theorem dX4_countPairs_6 : decode cX4_countPairs 6 = .ok (.getfield 47, 3) := by decide +kernel
theorem dX4_countPairs_9 : decode cX4_countPairs 9 = .ok (.if_icmp .ge 42, 3) := by decide +kernel
theorem dX4_countPairs_12 : decode cX4_countPairs 12 = .ok (.aload_n 0, 1) := by decide +kernel
theorem dX4_countPairs_13 : decode cX4_countPairs 13 = .ok (.getfield 9, 3) := by decide +kernel
theorem dX4_countPairs_16 : decode cX4_countPairs 16 = .ok (.iload_n 3, 1) := by decide +kernel
theorem dX4_countPairs_17 : decode cX4_countPairs 17 = .ok (.iaload, 1) := by decide +kernel
theorem dX4_countPairs_18 : decode cX4_countPairs 18 = .ok (.aload_n 1, 1) := by decide +kernel
theorem dX4_countPairs_19 : decode cX4_countPairs 19 = .ok (.invokestatic 69, 3) := by decide +kernel
theorem dX4_countPairs_22 : decode cX4_countPairs 22 = .ok (.istore 4, 2) := by decide +kernel
theorem dX4_countPairs_24 : decode cX4_countPairs 24 = .ok (.aload_n 0, 1) := by decide +kernel
theorem dX4_countPairs_25 : decode cX4_countPairs 25 = .ok (.getfield 36, 3) := by decide +kernel
theorem dX4_countPairs_28 : decode cX4_countPairs 28 = .ok (.iload 4, 2) := by decide +kernel
theorem dX4_countPairs_30 : decode cX4_countPairs 30 = .ok (.baload, 1) := by decide +kernel
theorem dX4_countPairs_31 : decode cX4_countPairs 31 = .ok (.ifCond .ne 14, 3) := by decide +kernel
theorem dX4_countPairs_34 : decode cX4_countPairs 34 = .ok (.aload_n 0, 1) := by decide +kernel
theorem dX4_countPairs_35 : decode cX4_countPairs 35 = .ok (.getfield 36, 3) := by decide +kernel
theorem dX4_countPairs_38 : decode cX4_countPairs 38 = .ok (.iload 4, 2) := by decide +kernel
theorem dX4_countPairs_40 : decode cX4_countPairs 40 = .ok (.iconst 1, 1) := by decide +kernel
theorem dX4_countPairs_41 : decode cX4_countPairs 41 = .ok (.bastore, 1) := by decide +kernel
theorem dX4_countPairs_42 : decode cX4_countPairs 42 = .ok (.iinc 2 1, 3) := by decide +kernel
theorem dX4_countPairs_45 : decode cX4_countPairs 45 = .ok (.iinc 3 1, 3) := by decide +kernel
theorem dX4_countPairs_48 : decode cX4_countPairs 48 = .ok (.goto (-44), 3) := by decide +kernel
theorem dX4_countPairs_51 : decode cX4_countPairs 51 = .ok (.iconst 0, 1) := by decide +kernel
theorem dX4_countPairs_52 : decode cX4_countPairs 52 = .ok (.istore_n 3, 1) := by decide +kernel
theorem dX4_countPairs_53 : decode cX4_countPairs 53 = .ok (.iload_n 3, 1) := by decide +kernel
theorem dX4_countPairs_54 : decode cX4_countPairs 54 = .ok (.aload_n 0, 1) := by decide +kernel
theorem dX4_countPairs_55 : decode cX4_countPairs 55 = .ok (.getfield 47, 3) := by decide +kernel
theorem dX4_countPairs_58 : decode cX4_countPairs 58 = .ok (.if_icmp .ge 25, 3) := by decide +kernel
theorem dX4_countPairs_61 : decode cX4_countPairs 61 = .ok (.aload_n 0, 1) := by decide +kernel
theorem dX4_countPairs_62 : decode cX4_countPairs 62 = .ok (.getfield 36, 3) := by decide +kernel
theorem dX4_countPairs_65 : decode cX4_countPairs 65 = .ok (.aload_n 0, 1) := by decide +kernel
theorem dX4_countPairs_66 : decode cX4_countPairs 66 = .ok (.getfield 9, 3) := by decide +kernel
theorem dX4_countPairs_69 : decode cX4_countPairs 69 = .ok (.iload_n 3, 1) := by decide +kernel
theorem dX4_countPairs_70 : decode cX4_countPairs 70 = .ok (.iaload, 1) := by decide +kernel
theorem dX4_countPairs_71 : decode cX4_countPairs 71 = .ok (.aload_n 1, 1) := by decide +kernel
theorem dX4_countPairs_72 : decode cX4_countPairs 72 = .ok (.invokestatic 69, 3) := by decide +kernel
theorem dX4_countPairs_75 : decode cX4_countPairs 75 = .ok (.iconst 0, 1) := by decide +kernel
theorem dX4_countPairs_76 : decode cX4_countPairs 76 = .ok (.bastore, 1) := by decide +kernel
theorem dX4_countPairs_77 : decode cX4_countPairs 77 = .ok (.iinc 3 1, 3) := by decide +kernel
theorem dX4_countPairs_80 : decode cX4_countPairs 80 = .ok (.goto (-27), 3) := by decide +kernel
theorem dX4_countPairs_83 : decode cX4_countPairs 83 = .ok (.iload_n 2, 1) := by decide +kernel
theorem dX4_countPairs_84 : decode cX4_countPairs 84 = .ok (.ireturn, 1) := by decide +kernel
theorem dX4_pairOf_0 : decode cX4_pairOf 0 = .ok (.iload_n 0, 1) := by decide +kernel
theorem dX4_pairOf_1 : decode cX4_pairOf 1 = .ok (.invokestatic 65, 3) := by decide +kernel
theorem dX4_pairOf_4 : decode cX4_pairOf 4 = .ok (.istore_n 2, 1) := by decide +kernel
theorem dX4_pairOf_5 : decode cX4_pairOf 5 = .ok (.iload_n 2, 1) := by decide +kernel
theorem dX4_pairOf_6 : decode cX4_pairOf 6 = .ok (.iload_n 0, 1) := by decide +kernel
theorem dX4_pairOf_7 : decode cX4_pairOf 7 = .ok (.invokestatic 73, 3) := by decide +kernel
theorem dX4_pairOf_10 : decode cX4_pairOf 10 = .ok (.aload_n 1, 1) := by decide +kernel
theorem dX4_pairOf_11 : decode cX4_pairOf 11 = .ok (.iload_n 2, 1) := by decide +kernel
theorem dX4_pairOf_12 : decode cX4_pairOf 12 = .ok (.iaload, 1) := by decide +kernel
theorem dX4_pairOf_13 : decode cX4_pairOf 13 = .ok (.iand, 1) := by decide +kernel
theorem dX4_pairOf_14 : decode cX4_pairOf 14 = .ok (.invokestatic 76, 3) := by decide +kernel
theorem dX4_pairOf_17 : decode cX4_pairOf 17 = .ok (.ireturn, 1) := by decide +kernel
theorem dX4_countRows_0 : decode cX4_countRows 0 = .ok (.iconst 0, 1) := by decide +kernel
theorem dX4_countRows_1 : decode cX4_countRows 1 = .ok (.istore_n 2, 1) := by decide +kernel
theorem dX4_countRows_2 : decode cX4_countRows 2 = .ok (.iload_n 2, 1) := by decide +kernel
theorem dX4_countRows_3 : decode cX4_countRows 3 = .ok (.aload_n 0, 1) := by decide +kernel
theorem dX4_countRows_4 : decode cX4_countRows 4 = .ok (.getfield 47, 3) := by decide +kernel
theorem dX4_countRows_7 : decode cX4_countRows 7 = .ok (.if_icmp .ge 29, 3) := by decide +kernel
theorem dX4_countRows_10 : decode cX4_countRows 10 = .ok (.aload_n 0, 1) := by decide +kernel
theorem dX4_countRows_11 : decode cX4_countRows 11 = .ok (.getfield 40, 3) := by decide +kernel
theorem dX4_countRows_14 : decode cX4_countRows 14 = .ok (.aload_n 0, 1) := by decide +kernel
theorem dX4_countRows_15 : decode cX4_countRows 15 = .ok (.getfield 9, 3) := by decide +kernel
theorem dX4_countRows_18 : decode cX4_countRows 18 = .ok (.iload_n 2, 1) := by decide +kernel
theorem dX4_countRows_19 : decode cX4_countRows 19 = .ok (.iaload, 1) := by decide +kernel
theorem dX4_countRows_20 : decode cX4_countRows 20 = .ok (.iload_n 2, 1) := by decide +kernel
theorem dX4_countRows_21 : decode cX4_countRows 21 = .ok (.ifCond .ne 7, 3) := by decide +kernel
theorem dX4_countRows_24 : decode cX4_countRows 24 = .ok (.lconst 1, 1) := by decide +kernel
theorem dX4_countRows_25 : decode cX4_countRows 25 = .ok (.goto 4, 3) := by decide +kernel
theorem dX4_countRows_28 : decode cX4_countRows 28 = .ok (.lconst 0, 1) := by decide +kernel
theorem dX4_countRows_29 : decode cX4_countRows 29 = .ok (.lastore, 1) := by decide +kernel
theorem dX4_countRows_30 : decode cX4_countRows 30 = .ok (.iinc 2 1, 3) := by decide +kernel
theorem dX4_countRows_33 : decode cX4_countRows 33 = .ok (.goto (-31), 3) := by decide +kernel
theorem dX4_countRows_36 : decode cX4_countRows 36 = .ok (.iconst 0, 1) := by decide +kernel
theorem dX4_countRows_37 : decode cX4_countRows 37 = .ok (.istore_n 2, 1) := by decide +kernel
theorem dX4_countRows_38 : decode cX4_countRows 38 = .ok (.iload_n 2, 1) := by decide +kernel
theorem dX4_countRows_39 : decode cX4_countRows 39 = .ok (.iload_n 1, 1) := by decide +kernel
theorem dX4_countRows_40 : decode cX4_countRows 40 = .ok (.if_icmp .ge 81, 3) := by decide +kernel
theorem dX4_countRows_43 : decode cX4_countRows 43 = .ok (.iconst 0, 1) := by decide +kernel
theorem dX4_countRows_44 : decode cX4_countRows 44 = .ok (.istore_n 3, 1) := by decide +kernel
theorem dX4_countRows_45 : decode cX4_countRows 45 = .ok (.iload_n 3, 1) := by decide +kernel
theorem dX4_countRows_46 : decode cX4_countRows 46 = .ok (.aload_n 0, 1) := by decide +kernel
theorem dX4_countRows_47 : decode cX4_countRows 47 = .ok (.getfield 47, 3) := by decide +kernel
theorem dX4_countRows_50 : decode cX4_countRows 50 = .ok (.if_icmp .ge 21, 3) := by decide +kernel
theorem dX4_countRows_53 : decode cX4_countRows 53 = .ok (.aload_n 0, 1) := by decide +kernel
theorem dX4_countRows_54 : decode cX4_countRows 54 = .ok (.getfield 44, 3) := by decide +kernel
theorem dX4_countRows_57 : decode cX4_countRows 57 = .ok (.aload_n 0, 1) := by decide +kernel
theorem dX4_countRows_58 : decode cX4_countRows 58 = .ok (.getfield 9, 3) := by decide +kernel
theorem dX4_countRows_61 : decode cX4_countRows 61 = .ok (.iload_n 3, 1) := by decide +kernel
theorem dX4_countRows_62 : decode cX4_countRows 62 = .ok (.iaload, 1) := by decide +kernel
theorem dX4_countRows_63 : decode cX4_countRows 63 = .ok (.lconst 0, 1) := by decide +kernel
theorem dX4_countRows_64 : decode cX4_countRows 64 = .ok (.lastore, 1) := by decide +kernel
theorem dX4_countRows_65 : decode cX4_countRows 65 = .ok (.iinc 3 1, 3) := by decide +kernel
theorem dX4_countRows_68 : decode cX4_countRows 68 = .ok (.goto (-23), 3) := by decide +kernel
theorem dX4_countRows_71 : decode cX4_countRows 71 = .ok (.iconst 0, 1) := by decide +kernel
theorem dX4_countRows_72 : decode cX4_countRows 72 = .ok (.istore_n 3, 1) := by decide +kernel
theorem dX4_countRows_73 : decode cX4_countRows 73 = .ok (.iload_n 3, 1) := by decide +kernel
theorem dX4_countRows_74 : decode cX4_countRows 74 = .ok (.aload_n 0, 1) := by decide +kernel
theorem dX4_countRows_75 : decode cX4_countRows 75 = .ok (.getfield 47, 3) := by decide +kernel
theorem dX4_countRows_78 : decode cX4_countRows 78 = .ok (.if_icmp .ge 19, 3) := by decide +kernel
theorem dX4_countRows_81 : decode cX4_countRows 81 = .ok (.aload_n 0, 1) := by decide +kernel
theorem dX4_countRows_82 : decode cX4_countRows 82 = .ok (.aload_n 0, 1) := by decide +kernel
theorem dX4_countRows_83 : decode cX4_countRows 83 = .ok (.getfield 9, 3) := by decide +kernel
theorem dX4_countRows_86 : decode cX4_countRows 86 = .ok (.iload_n 3, 1) := by decide +kernel
theorem dX4_countRows_87 : decode cX4_countRows 87 = .ok (.iaload, 1) := by decide +kernel
theorem dX4_countRows_88 : decode cX4_countRows 88 = .ok (.invokevirtual 80, 3) := by decide +kernel
theorem dX4_countRows_91 : decode cX4_countRows 91 = .ok (.iinc 3 1, 3) := by decide +kernel
theorem dX4_countRows_94 : decode cX4_countRows 94 = .ok (.goto (-21), 3) := by decide +kernel
theorem dX4_countRows_97 : decode cX4_countRows 97 = .ok (.aload_n 0, 1) := by decide +kernel
theorem dX4_countRows_98 : decode cX4_countRows 98 = .ok (.getfield 40, 3) := by decide +kernel
theorem dX4_countRows_101 : decode cX4_countRows 101 = .ok (.astore_n 3, 1) := by decide +kernel
theorem dX4_countRows_102 : decode cX4_countRows 102 = .ok (.aload_n 0, 1) := by decide +kernel
theorem dX4_countRows_103 : decode cX4_countRows 103 = .ok (.aload_n 0, 1) := by decide +kernel
theorem dX4_countRows_104 : decode cX4_countRows 104 = .ok (.getfield 44, 3) := by decide +kernel
theorem dX4_countRows_107 : decode cX4_countRows 107 = .ok (.putfield 40, 3) := by decide +kernel
theorem dX4_countRows_110 : decode cX4_countRows 110 = .ok (.aload_n 0, 1) := by decide +kernel
theorem dX4_countRows_111 : decode cX4_countRows 111 = .ok (.aload_n 3, 1) := by decide +kernel
theorem dX4_countRows_112 : decode cX4_countRows 112 = .ok (.putfield 44, 3) := by decide +kernel
theorem dX4_countRows_115 : decode cX4_countRows 115 = .ok (.iinc 2 1, 3) := by decide +kernel
theorem dX4_countRows_118 : decode cX4_countRows 118 = .ok (.goto (-80), 3) := by decide +kernel
theorem dX4_countRows_121 : decode cX4_countRows 121 = .ok (.return_, 1) := by decide +kernel
theorem dX4_passRowsOn_0 : decode cX4_passRowsOn 0 = .ok (.aload_n 0, 1) := by decide +kernel
theorem dX4_passRowsOn_1 : decode cX4_passRowsOn 1 = .ok (.getfield 40, 3) := by decide +kernel
theorem dX4_passRowsOn_4 : decode cX4_passRowsOn 4 = .ok (.iload_n 1, 1) := by decide +kernel
theorem dX4_passRowsOn_5 : decode cX4_passRowsOn 5 = .ok (.laload, 1) := by decide +kernel
theorem dX4_passRowsOn_6 : decode cX4_passRowsOn 6 = .ok (.lconst 0, 1) := by decide +kernel
theorem dX4_passRowsOn_7 : decode cX4_passRowsOn 7 = .ok (.lcmp, 1) := by decide +kernel
theorem dX4_passRowsOn_8 : decode cX4_passRowsOn 8 = .ok (.ifCond .ne 4, 3) := by decide +kernel
theorem dX4_passRowsOn_11 : decode cX4_passRowsOn 11 = .ok (.return_, 1) := by decide +kernel
theorem dX4_passRowsOn_12 : decode cX4_passRowsOn 12 = .ok (.iconst 0, 1) := by decide +kernel
theorem dX4_passRowsOn_13 : decode cX4_passRowsOn 13 = .ok (.istore_n 2, 1) := by decide +kernel
theorem dX4_passRowsOn_14 : decode cX4_passRowsOn 14 = .ok (.iload_n 2, 1) := by decide +kernel
theorem dX4_passRowsOn_15 : decode cX4_passRowsOn 15 = .ok (.bipush 6, 2) := by decide +kernel
theorem dX4_passRowsOn_17 : decode cX4_passRowsOn 17 = .ok (.if_icmp .ge 41, 3) := by decide +kernel
theorem dX4_passRowsOn_20 : decode cX4_passRowsOn 20 = .ok (.aload_n 0, 1) := by decide +kernel
theorem dX4_passRowsOn_21 : decode cX4_passRowsOn 21 = .ok (.getfield 21, 3) := by decide +kernel
theorem dX4_passRowsOn_24 : decode cX4_passRowsOn 24 = .ok (.iload_n 1, 1) := by decide +kernel
theorem dX4_passRowsOn_25 : decode cX4_passRowsOn 25 = .ok (.bipush 6, 2) := by decide +kernel
theorem dX4_passRowsOn_27 : decode cX4_passRowsOn 27 = .ok (.imul, 1) := by decide +kernel
theorem dX4_passRowsOn_28 : decode cX4_passRowsOn 28 = .ok (.iload_n 2, 1) := by decide +kernel
theorem dX4_passRowsOn_29 : decode cX4_passRowsOn 29 = .ok (.iadd, 1) := by decide +kernel
theorem dX4_passRowsOn_30 : decode cX4_passRowsOn 30 = .ok (.iaload, 1) := by decide +kernel
theorem dX4_passRowsOn_31 : decode cX4_passRowsOn 31 = .ok (.istore_n 3, 1) := by decide +kernel
theorem dX4_passRowsOn_32 : decode cX4_passRowsOn 32 = .ok (.iload_n 3, 1) := by decide +kernel
theorem dX4_passRowsOn_33 : decode cX4_passRowsOn 33 = .ok (.iconst (-1), 1) := by decide +kernel
theorem dX4_passRowsOn_34 : decode cX4_passRowsOn 34 = .ok (.if_icmp .eq 18, 3) := by decide +kernel
theorem dX4_passRowsOn_37 : decode cX4_passRowsOn 37 = .ok (.aload_n 0, 1) := by decide +kernel
theorem dX4_passRowsOn_38 : decode cX4_passRowsOn 38 = .ok (.getfield 44, 3) := by decide +kernel
theorem dX4_passRowsOn_41 : decode cX4_passRowsOn 41 = .ok (.iload_n 3, 1) := by decide +kernel
theorem dX4_passRowsOn_42 : decode cX4_passRowsOn 42 = .ok (.dup2, 1) := by decide +kernel
theorem dX4_passRowsOn_43 : decode cX4_passRowsOn 43 = .ok (.laload, 1) := by decide +kernel
theorem dX4_passRowsOn_44 : decode cX4_passRowsOn 44 = .ok (.aload_n 0, 1) := by decide +kernel
theorem dX4_passRowsOn_45 : decode cX4_passRowsOn 45 = .ok (.getfield 40, 3) := by decide +kernel
theorem dX4_passRowsOn_48 : decode cX4_passRowsOn 48 = .ok (.iload_n 1, 1) := by decide +kernel
theorem dX4_passRowsOn_49 : decode cX4_passRowsOn 49 = .ok (.laload, 1) := by decide +kernel
theorem dX4_passRowsOn_50 : decode cX4_passRowsOn 50 = .ok (.ladd, 1) := by decide +kernel
theorem dX4_passRowsOn_51 : decode cX4_passRowsOn 51 = .ok (.lastore, 1) := by decide +kernel
theorem dX4_passRowsOn_52 : decode cX4_passRowsOn 52 = .ok (.iinc 2 1, 3) := by decide +kernel
theorem dX4_passRowsOn_55 : decode cX4_passRowsOn 55 = .ok (.goto (-41), 3) := by decide +kernel
theorem dX4_passRowsOn_58 : decode cX4_passRowsOn 58 = .ok (.return_, 1) := by decide +kernel
theorem dJ6_bitCount_0f7a4_0 : decode cJ6_bitCount_0f7a4 0 = .ok (.iload_n 0, 1) := by decide +kernel
theorem dJ6_bitCount_0f7a4_1 : decode cJ6_bitCount_0f7a4 1 = .ok (.iload_n 0, 1) := by decide +kernel
theorem dJ6_bitCount_0f7a4_2 : decode cJ6_bitCount_0f7a4 2 = .ok (.iconst 1, 1) := by decide +kernel
theorem dJ6_bitCount_0f7a4_3 : decode cJ6_bitCount_0f7a4 3 = .ok (.iushr, 1) := by decide +kernel
theorem dJ6_bitCount_0f7a4_4 : decode cJ6_bitCount_0f7a4 4 = .ok (.ldc_w 265, 3) := by decide +kernel
theorem dJ6_bitCount_0f7a4_7 : decode cJ6_bitCount_0f7a4 7 = .ok (.iand, 1) := by decide +kernel
theorem dJ6_bitCount_0f7a4_8 : decode cJ6_bitCount_0f7a4 8 = .ok (.isub, 1) := by decide +kernel
theorem dJ6_bitCount_0f7a4_9 : decode cJ6_bitCount_0f7a4 9 = .ok (.istore_n 0, 1) := by decide +kernel
theorem dJ6_bitCount_0f7a4_10 : decode cJ6_bitCount_0f7a4 10 = .ok (.iload_n 0, 1) := by decide +kernel
theorem dJ6_bitCount_0f7a4_11 : decode cJ6_bitCount_0f7a4 11 = .ok (.ldc_w 266, 3) := by decide +kernel
theorem dJ6_bitCount_0f7a4_14 : decode cJ6_bitCount_0f7a4 14 = .ok (.iand, 1) := by decide +kernel
theorem dJ6_bitCount_0f7a4_15 : decode cJ6_bitCount_0f7a4 15 = .ok (.iload_n 0, 1) := by decide +kernel
theorem dJ6_bitCount_0f7a4_16 : decode cJ6_bitCount_0f7a4 16 = .ok (.iconst 2, 1) := by decide +kernel
theorem dJ6_bitCount_0f7a4_17 : decode cJ6_bitCount_0f7a4 17 = .ok (.iushr, 1) := by decide +kernel
theorem dJ6_bitCount_0f7a4_18 : decode cJ6_bitCount_0f7a4 18 = .ok (.ldc_w 266, 3) := by decide +kernel
theorem dJ6_bitCount_0f7a4_21 : decode cJ6_bitCount_0f7a4 21 = .ok (.iand, 1) := by decide +kernel
theorem dJ6_bitCount_0f7a4_22 : decode cJ6_bitCount_0f7a4 22 = .ok (.iadd, 1) := by decide +kernel
theorem dJ6_bitCount_0f7a4_23 : decode cJ6_bitCount_0f7a4 23 = .ok (.istore_n 0, 1) := by decide +kernel
theorem dJ6_bitCount_0f7a4_24 : decode cJ6_bitCount_0f7a4 24 = .ok (.iload_n 0, 1) := by decide +kernel
theorem dJ6_bitCount_0f7a4_25 : decode cJ6_bitCount_0f7a4 25 = .ok (.iload_n 0, 1) := by decide +kernel
theorem dJ6_bitCount_0f7a4_26 : decode cJ6_bitCount_0f7a4 26 = .ok (.iconst 4, 1) := by decide +kernel
theorem dJ6_bitCount_0f7a4_27 : decode cJ6_bitCount_0f7a4 27 = .ok (.iushr, 1) := by decide +kernel
theorem dJ6_bitCount_0f7a4_28 : decode cJ6_bitCount_0f7a4 28 = .ok (.iadd, 1) := by decide +kernel
theorem dJ6_bitCount_0f7a4_29 : decode cJ6_bitCount_0f7a4 29 = .ok (.ldc_w 267, 3) := by decide +kernel
theorem dJ6_bitCount_0f7a4_32 : decode cJ6_bitCount_0f7a4 32 = .ok (.iand, 1) := by decide +kernel
theorem dJ6_bitCount_0f7a4_33 : decode cJ6_bitCount_0f7a4 33 = .ok (.istore_n 0, 1) := by decide +kernel
theorem dJ6_bitCount_0f7a4_34 : decode cJ6_bitCount_0f7a4 34 = .ok (.iload_n 0, 1) := by decide +kernel
theorem dJ6_bitCount_0f7a4_35 : decode cJ6_bitCount_0f7a4 35 = .ok (.iload_n 0, 1) := by decide +kernel
theorem dJ6_bitCount_0f7a4_36 : decode cJ6_bitCount_0f7a4 36 = .ok (.bipush 8, 2) := by decide +kernel
theorem dJ6_bitCount_0f7a4_38 : decode cJ6_bitCount_0f7a4 38 = .ok (.iushr, 1) := by decide +kernel
theorem dJ6_bitCount_0f7a4_39 : decode cJ6_bitCount_0f7a4 39 = .ok (.iadd, 1) := by decide +kernel
theorem dJ6_bitCount_0f7a4_40 : decode cJ6_bitCount_0f7a4 40 = .ok (.istore_n 0, 1) := by decide +kernel
theorem dJ6_bitCount_0f7a4_41 : decode cJ6_bitCount_0f7a4 41 = .ok (.iload_n 0, 1) := by decide +kernel
theorem dJ6_bitCount_0f7a4_42 : decode cJ6_bitCount_0f7a4 42 = .ok (.iload_n 0, 1) := by decide +kernel
theorem dJ6_bitCount_0f7a4_43 : decode cJ6_bitCount_0f7a4 43 = .ok (.bipush 16, 2) := by decide +kernel
theorem dJ6_bitCount_0f7a4_45 : decode cJ6_bitCount_0f7a4 45 = .ok (.iushr, 1) := by decide +kernel
theorem dJ6_bitCount_0f7a4_46 : decode cJ6_bitCount_0f7a4 46 = .ok (.iadd, 1) := by decide +kernel
theorem dJ6_bitCount_0f7a4_47 : decode cJ6_bitCount_0f7a4 47 = .ok (.istore_n 0, 1) := by decide +kernel
theorem dJ6_bitCount_0f7a4_48 : decode cJ6_bitCount_0f7a4 48 = .ok (.iload_n 0, 1) := by decide +kernel
theorem dJ6_bitCount_0f7a4_49 : decode cJ6_bitCount_0f7a4 49 = .ok (.bipush 63, 2) := by decide +kernel
theorem dJ6_bitCount_0f7a4_51 : decode cJ6_bitCount_0f7a4 51 = .ok (.iand, 1) := by decide +kernel
theorem dJ6_bitCount_0f7a4_52 : decode cJ6_bitCount_0f7a4 52 = .ok (.ireturn, 1) := by decide +kernel
theorem dJ13_bitCount_95d88_0 : decode cJ13_bitCount_95d88 0 = .ok (.lload_n 0, 1) := by decide +kernel
theorem dJ13_bitCount_95d88_1 : decode cJ13_bitCount_95d88 1 = .ok (.lload_n 0, 1) := by decide +kernel
theorem dJ13_bitCount_95d88_2 : decode cJ13_bitCount_95d88 2 = .ok (.iconst 1, 1) := by decide +kernel
theorem dJ13_bitCount_95d88_3 : decode cJ13_bitCount_95d88 3 = .ok (.lushr, 1) := by decide +kernel
theorem dJ13_bitCount_95d88_4 : decode cJ13_bitCount_95d88 4 = .ok (.ldc2_w 314, 3) := by decide +kernel
theorem dJ13_bitCount_95d88_7 : decode cJ13_bitCount_95d88 7 = .ok (.land, 1) := by decide +kernel
theorem dJ13_bitCount_95d88_8 : decode cJ13_bitCount_95d88 8 = .ok (.lsub, 1) := by decide +kernel
theorem dJ13_bitCount_95d88_9 : decode cJ13_bitCount_95d88 9 = .ok (.lstore_n 0, 1) := by decide +kernel
theorem dJ13_bitCount_95d88_10 : decode cJ13_bitCount_95d88 10 = .ok (.lload_n 0, 1) := by decide +kernel
theorem dJ13_bitCount_95d88_11 : decode cJ13_bitCount_95d88 11 = .ok (.ldc2_w 316, 3) := by decide +kernel
theorem dJ13_bitCount_95d88_14 : decode cJ13_bitCount_95d88 14 = .ok (.land, 1) := by decide +kernel
theorem dJ13_bitCount_95d88_15 : decode cJ13_bitCount_95d88 15 = .ok (.lload_n 0, 1) := by decide +kernel
theorem dJ13_bitCount_95d88_16 : decode cJ13_bitCount_95d88 16 = .ok (.iconst 2, 1) := by decide +kernel
theorem dJ13_bitCount_95d88_17 : decode cJ13_bitCount_95d88 17 = .ok (.lushr, 1) := by decide +kernel
theorem dJ13_bitCount_95d88_18 : decode cJ13_bitCount_95d88 18 = .ok (.ldc2_w 316, 3) := by decide +kernel
theorem dJ13_bitCount_95d88_21 : decode cJ13_bitCount_95d88 21 = .ok (.land, 1) := by decide +kernel
theorem dJ13_bitCount_95d88_22 : decode cJ13_bitCount_95d88 22 = .ok (.ladd, 1) := by decide +kernel
theorem dJ13_bitCount_95d88_23 : decode cJ13_bitCount_95d88 23 = .ok (.lstore_n 0, 1) := by decide +kernel
theorem dJ13_bitCount_95d88_24 : decode cJ13_bitCount_95d88 24 = .ok (.lload_n 0, 1) := by decide +kernel
theorem dJ13_bitCount_95d88_25 : decode cJ13_bitCount_95d88 25 = .ok (.lload_n 0, 1) := by decide +kernel
theorem dJ13_bitCount_95d88_26 : decode cJ13_bitCount_95d88 26 = .ok (.iconst 4, 1) := by decide +kernel
theorem dJ13_bitCount_95d88_27 : decode cJ13_bitCount_95d88 27 = .ok (.lushr, 1) := by decide +kernel
theorem dJ13_bitCount_95d88_28 : decode cJ13_bitCount_95d88 28 = .ok (.ladd, 1) := by decide +kernel
theorem dJ13_bitCount_95d88_29 : decode cJ13_bitCount_95d88 29 = .ok (.ldc2_w 318, 3) := by decide +kernel
theorem dJ13_bitCount_95d88_32 : decode cJ13_bitCount_95d88 32 = .ok (.land, 1) := by decide +kernel
theorem dJ13_bitCount_95d88_33 : decode cJ13_bitCount_95d88 33 = .ok (.lstore_n 0, 1) := by decide +kernel
theorem dJ13_bitCount_95d88_34 : decode cJ13_bitCount_95d88 34 = .ok (.lload_n 0, 1) := by decide +kernel
theorem dJ13_bitCount_95d88_35 : decode cJ13_bitCount_95d88 35 = .ok (.lload_n 0, 1) := by decide +kernel
theorem dJ13_bitCount_95d88_36 : decode cJ13_bitCount_95d88 36 = .ok (.bipush 8, 2) := by decide +kernel
theorem dJ13_bitCount_95d88_38 : decode cJ13_bitCount_95d88 38 = .ok (.lushr, 1) := by decide +kernel
theorem dJ13_bitCount_95d88_39 : decode cJ13_bitCount_95d88 39 = .ok (.ladd, 1) := by decide +kernel
theorem dJ13_bitCount_95d88_40 : decode cJ13_bitCount_95d88 40 = .ok (.lstore_n 0, 1) := by decide +kernel
theorem dJ13_bitCount_95d88_41 : decode cJ13_bitCount_95d88 41 = .ok (.lload_n 0, 1) := by decide +kernel
theorem dJ13_bitCount_95d88_42 : decode cJ13_bitCount_95d88 42 = .ok (.lload_n 0, 1) := by decide +kernel
theorem dJ13_bitCount_95d88_43 : decode cJ13_bitCount_95d88 43 = .ok (.bipush 16, 2) := by decide +kernel
theorem dJ13_bitCount_95d88_45 : decode cJ13_bitCount_95d88 45 = .ok (.lushr, 1) := by decide +kernel
theorem dJ13_bitCount_95d88_46 : decode cJ13_bitCount_95d88 46 = .ok (.ladd, 1) := by decide +kernel
theorem dJ13_bitCount_95d88_47 : decode cJ13_bitCount_95d88 47 = .ok (.lstore_n 0, 1) := by decide +kernel
theorem dJ13_bitCount_95d88_48 : decode cJ13_bitCount_95d88 48 = .ok (.lload_n 0, 1) := by decide +kernel
theorem dJ13_bitCount_95d88_49 : decode cJ13_bitCount_95d88 49 = .ok (.lload_n 0, 1) := by decide +kernel
theorem dJ13_bitCount_95d88_50 : decode cJ13_bitCount_95d88 50 = .ok (.bipush 32, 2) := by decide +kernel
theorem dJ13_bitCount_95d88_52 : decode cJ13_bitCount_95d88 52 = .ok (.lushr, 1) := by decide +kernel
theorem dJ13_bitCount_95d88_53 : decode cJ13_bitCount_95d88 53 = .ok (.ladd, 1) := by decide +kernel
theorem dJ13_bitCount_95d88_54 : decode cJ13_bitCount_95d88 54 = .ok (.lstore_n 0, 1) := by decide +kernel
theorem dJ13_bitCount_95d88_55 : decode cJ13_bitCount_95d88 55 = .ok (.lload_n 0, 1) := by decide +kernel
theorem dJ13_bitCount_95d88_56 : decode cJ13_bitCount_95d88 56 = .ok (.l2i, 1) := by decide +kernel
theorem dJ13_bitCount_95d88_57 : decode cJ13_bitCount_95d88 57 = .ok (.bipush 127, 2) := by decide +kernel
theorem dJ13_bitCount_95d88_59 : decode cJ13_bitCount_95d88 59 = .ok (.iand, 1) := by decide +kernel
theorem dJ13_bitCount_95d88_60 : decode cJ13_bitCount_95d88 60 = .ok (.ireturn, 1) := by decide +kernel
theorem dJ9_max_7cf53_0 : decode cJ9_max_7cf53 0 = .ok (.iload_n 0, 1) := by decide +kernel
theorem dJ9_max_7cf53_1 : decode cJ9_max_7cf53 1 = .ok (.iload_n 1, 1) := by decide +kernel
theorem dJ9_max_7cf53_2 : decode cJ9_max_7cf53 2 = .ok (.if_icmp .lt 7, 3) := by decide +kernel
theorem dJ9_max_7cf53_5 : decode cJ9_max_7cf53 5 = .ok (.iload_n 0, 1) := by decide +kernel
theorem dJ9_max_7cf53_6 : decode cJ9_max_7cf53 6 = .ok (.goto 4, 3) := by decide +kernel
theorem dJ9_max_7cf53_9 : decode cJ9_max_7cf53 9 = .ok (.iload_n 1, 1) := by decide +kernel
theorem dJ9_max_7cf53_10 : decode cJ9_max_7cf53 10 = .ok (.ireturn, 1) := by decide +kernel
theorem dJ9_min_7cf53_0 : decode cJ9_min_7cf53 0 = .ok (.iload_n 0, 1) := by decide +kernel
theorem dJ9_min_7cf53_1 : decode cJ9_min_7cf53 1 = .ok (.iload_n 1, 1) := by decide +kernel
theorem dJ9_min_7cf53_2 : decode cJ9_min_7cf53 2 = .ok (.if_icmp .gt 7, 3) := by decide +kernel
theorem dJ9_min_7cf53_5 : decode cJ9_min_7cf53 5 = .ok (.iload_n 0, 1) := by decide +kernel
theorem dJ9_min_7cf53_6 : decode cJ9_min_7cf53 6 = .ok (.goto 4, 3) := by decide +kernel
theorem dJ9_min_7cf53_9 : decode cJ9_min_7cf53 9 = .ok (.iload_n 1, 1) := by decide +kernel
theorem dJ9_min_7cf53_10 : decode cJ9_min_7cf53 10 = .ok (.ireturn, 1) := by decide +kernel
end
section
theorem dX5_init_0 : decode cX5_init 0 = .ok (.aload_n 0, 1) := by decide +kernel
theorem dX5_init_1 : decode cX5_init 1 = .ok (.invokespecial 3, 3) := by decide +kernel
theorem dX5_init_4 : decode cX5_init 4 = .ok (.aload_n 0, 1) := by decide +kernel
theorem dX5_init_5 : decode cX5_init 5 = .ok (.new 9, 3) := by decide +kernel
theorem dX5_init_8 : decode cX5_init 8 = .ok (.dup, 1) := by decide +kernel
theorem dX5_init_9 : decode cX5_init 9 = .ok (.invokespecial 11, 3) := by decide +kernel
theorem dX5_init_12 : decode cX5_init 12 = .ok (.putfield 12, 3) := by decide +kernel
theorem dX5_init_15 : decode cX5_init 15 = .ok (.aload_n 0, 1) := by decide +kernel
theorem dX5_init_16 : decode cX5_init 16 = .ok (.new 16, 3) := by decide +kernel
theorem dX5_init_19 : decode cX5_init 19 = .ok (.dup, 1) := by decide +kernel
theorem dX5_init_20 : decode cX5_init 20 = .ok (.invokespecial 18, 3) := by decide +kernel
theorem dX5_init_23 : decode cX5_init 23 = .ok (.putfield 19, 3) := by decide +kernel
theorem dX5_init_26 : decode cX5_init 26 = .ok (.aload_n 0, 1) := by decide +kernel
theorem dX5_init_27 : decode cX5_init 27 = .ok (.new 16, 3) := by decide +kernel
theorem dX5_init_30 : decode cX5_init 30 = .ok (.dup, 1) := by decide +kernel
theorem dX5_init_31 : decode cX5_init 31 = .ok (.invokespecial 18, 3) := by decide +kernel
theorem dX5_init_34 : decode cX5_init 34 = .ok (.putfield 23, 3) := by decide +kernel
theorem dX5_init_37 : decode cX5_init 37 = .ok (.aload_n 0, 1) := by decide +kernel
theorem dX5_init_38 : decode cX5_init 38 = .ok (.new 16, 3) := by decide +kernel
theorem dX5_init_41 : decode cX5_init 41 = .ok (.dup, 1) := by decide +kernel
theorem dX5_init_42 : decode cX5_init 42 = .ok (.invokespecial 18, 3) := by decide +kernel
theorem dX5_init_45 : decode cX5_init 45 = .ok (.putfield 26, 3) := by decide +kernel
theorem dX5_init_48 : decode cX5_init 48 = .ok (.aload_n 0, 1) := by decide +kernel
theorem dX5_init_49 : decode cX5_init 49 = .ok (.new 29, 3) := by decide +kernel
theorem dX5_init_52 : decode cX5_init 52 = .ok (.dup, 1) := by decide +kernel
theorem dX5_init_53 : decode cX5_init 53 = .ok (.invokespecial 31, 3) := by decide +kernel
theorem dX5_init_56 : decode cX5_init 56 = .ok (.putfield 32, 3) := by decide +kernel
theorem dX5_init_59 : decode cX5_init 59 = .ok (.aload_n 0, 1) := by decide +kernel
theorem dX5_init_60 : decode cX5_init 60 = .ok (.bipush 20, 2) := by decide +kernel
theorem dX5_init_62 : decode cX5_init 62 = .ok (.newarray .int, 2) := by decide +kernel
theorem dX5_init_64 : decode cX5_init 64 = .ok (.putfield 36, 3) := by decide +kernel
theorem dX5_init_67 : decode cX5_init 67 = .ok (.aload_n 0, 1) := by decide +kernel
theorem dX5_init_68 : decode cX5_init 68 = .ok (.bipush 20, 2) := by decide +kernel
theorem dX5_init_70 : decode cX5_init 70 = .ok (.newarray .int, 2) := by decide +kernel
theorem dX5_init_72 : decode cX5_init 72 = .ok (.putfield 40, 3) := by decide +kernel
theorem dX5_init_75 : decode cX5_init 75 = .ok (.aload_n 0, 1) := by decide +kernel
theorem dX5_init_76 : decode cX5_init 76 = .ok (.iconst 4, 1) := by decide +kernel
theorem dX5_init_77 : decode cX5_init 77 = .ok (.anewarray 43, 3) := by decide +kernel
theorem dX5_init_80 : decode cX5_init 80 = .ok (.putfield 45, 3) := by decide +kernel
theorem dX5_init_83 : decode cX5_init 83 = .ok (.aload_n 0, 1) := by decide +kernel
theorem dX5_init_84 : decode cX5_init 84 = .ok (.bipush 30, 2) := by decide +kernel
theorem dX5_init_86 : decode cX5_init 86 = .ok (.newarray .int, 2) := by decide +kernel
theorem dX5_init_88 : decode cX5_init 88 = .ok (.putfield 49, 3) := by decide +kernel
theorem dX5_init_91 : decode cX5_init 91 = .ok (.aload_n 0, 1) := by decide +kernel
theorem dX5_init_92 : decode cX5_init 92 = .ok (.iconst (-1), 1) := by decide +kernel
theorem dX5_init_93 : decode cX5_init 93 = .ok (.putfield 52, 3) := by decide +kernel
theorem dX5_init_96 : decode cX5_init 96 = .ok (.iconst 0, 1) := by decide +kernel
theorem dX5_init_97 : decode cX5_init 97 = .ok (.istore_n 1, 1) := by decide +kernel
theorem dX5_init_98 : decode cX5_init 98 = .ok (.iload_n 1, 1) := by decide +kernel
theorem dX5_init_99 : decode cX5_init 99 = .ok (.iconst 4, 1) := by decide +kernel
theorem dX5_init_100 : decode cX5_init 100 = .ok (.if_icmp .ge 22, 3) := by decide +kernel
theorem dX5_init_103 : decode cX5_init 103 = .ok (.aload_n 0, 1) := by decide +kernel
theorem dX5_init_104 : decode cX5_init 104 = .ok (.getfield 45, 3) := by decide +kernel
theorem dX5_init_107 : decode cX5_init 107 = .ok (.iload_n 1, 1) := by decide +kernel
theorem dX5_init_108 : decode cX5_init 108 = .ok (.new 43, 3) := by decide +kernel
theorem dX5_init_111 : decode cX5_init 111 = .ok (.dup, 1) := by decide +kernel
theorem dX5_init_112 : decode cX5_init 112 = .ok (.invokespecial 56, 3) := by decide +kernel
theorem dX5_init_115 : decode cX5_init 115 = .ok (.aastore, 1) := by decide +kernel
theorem dX5_init_116 : decode cX5_init 116 = .ok (.iinc 1 1, 3) := by decide +kernel
theorem dX5_init_119 : decode cX5_init 119 = .ok (.goto (-21), 3) := by decide +kernel
theorem dX5_init_122 : decode cX5_init 122 = .ok (.return_, 1) := by decide +kernel
theorem dX5_feed_0 : decode cX5_feed 0 = .ok (.iload_n 3, 1) := by decide +kernel
theorem dX5_feed_1 : decode cX5_feed 1 = .ok (.iconst 1, 1) := by decide +kernel
theorem dX5_feed_2 : decode cX5_feed 2 = .ok (.if_icmp .lt 23, 3) := by decide +kernel
theorem dX5_feed_5 : decode cX5_feed 5 = .ok (.iload_n 3, 1) := by decide +kernel
theorem dX5_feed_6 : decode cX5_feed 6 = .ok (.bipush 8, 2) := by decide +kernel
theorem dX5_feed_8 : decode cX5_feed 8 = .ok (.if_icmp .gt 17, 3) := by decide +kernel
theorem dX5_feed_11 : decode cX5_feed 11 = .ok (.aload_n 0, 1) := by decide +kernel
theorem dX5_feed_12 : decode cX5_feed 12 = .ok (.getfield 12, 3) := by decide +kernel
theorem dX5_feed_15 : decode cX5_feed 15 = .ok (.getfield 57, 3) := by decide +kernel
theorem dX5_feed_18 : decode cX5_feed 18 = .ok (.iload_n 3, 1) := by decide +kernel
theorem dX5_feed_19 : decode cX5_feed 19 = .ok (.iadd, 1) := by decide +kernel
theorem dX5_feed_20 : decode cX5_feed 20 = .ok (.bipush 100, 2) := by decide +kernel
theorem dX5_feed_22 : decode cX5_feed 22 = .ok (.if_icmp .le 7, 3) := by decide +kernel
theorem dX5_feed_25 : decode cX5_feed 25 = .ok (.sipush (-1002), 3) := by decide +kernel
theorem dX5_feed_28 : decode cX5_feed 28 = .ok (.ireturn, 1) := by decide +kernel
theorem dX5_feed_29 : decode cX5_feed 29 = .ok (.iconst 0, 1) := by decide +kernel
theorem dX5_feed_30 : decode cX5_feed 30 = .ok (.istore 4, 2) := by decide +kernel
theorem dX5_feed_32 : decode cX5_feed 32 = .ok (.iload 4, 2) := by decide +kernel
theorem dX5_feed_34 : decode cX5_feed 34 = .ok (.iload_n 3, 1) := by decide +kernel
theorem dX5_feed_35 : decode cX5_feed 35 = .ok (.if_icmp .ge 25, 3) := by decide +kernel
theorem dX5_feed_38 : decode cX5_feed 38 = .ok (.aload_n 0, 1) := by decide +kernel
theorem dX5_feed_39 : decode cX5_feed 39 = .ok (.getfield 12, 3) := by decide +kernel
theorem dX5_feed_42 : decode cX5_feed 42 = .ok (.lload_n 1, 1) := by decide +kernel
theorem dX5_feed_43 : decode cX5_feed 43 = .ok (.bipush 8, 2) := by decide +kernel
theorem dX5_feed_45 : decode cX5_feed 45 = .ok (.iload 4, 2) := by decide +kernel
theorem dX5_feed_47 : decode cX5_feed 47 = .ok (.imul, 1) := by decide +kernel
theorem dX5_feed_48 : decode cX5_feed 48 = .ok (.lushr, 1) := by decide +kernel
theorem dX5_feed_49 : decode cX5_feed 49 = .ok (.l2i, 1) := by decide +kernel
theorem dX5_feed_50 : decode cX5_feed 50 = .ok (.i2b, 1) := by decide +kernel
theorem dX5_feed_51 : decode cX5_feed 51 = .ok (.invokevirtual 60, 3) := by decide +kernel
theorem dX5_feed_54 : decode cX5_feed 54 = .ok (.iinc 4 1, 3) := by decide +kernel
theorem dX5_feed_57 : decode cX5_feed 57 = .ok (.goto (-25), 3) := by decide +kernel
theorem dX5_feed_60 : decode cX5_feed 60 = .ok (.aload_n 0, 1) := by decide +kernel
theorem dX5_feed_61 : decode cX5_feed 61 = .ok (.getfield 12, 3) := by decide +kernel
theorem dX5_feed_64 : decode cX5_feed 64 = .ok (.getfield 57, 3) := by decide +kernel
theorem dX5_feed_67 : decode cX5_feed 67 = .ok (.ireturn, 1) := by decide +kernel
theorem dX5_scene_0 : decode cX5_scene 0 = .ok (.iload_n 1, 1) := by decide +kernel
theorem dX5_scene_1 : decode cX5_scene 1 = .ok (.invokestatic 64, 3) := by decide +kernel
theorem dX5_scene_4 : decode cX5_scene 4 = .ok (.ifCond .eq 17, 3) := by decide +kernel
theorem dX5_scene_7 : decode cX5_scene 7 = .ok (.iload_n 2, 1) := by decide +kernel
theorem dX5_scene_8 : decode cX5_scene 8 = .ok (.iconst (-1), 1) := by decide +kernel
theorem dX5_scene_9 : decode cX5_scene 9 = .ok (.if_icmp .lt 12, 3) := by decide +kernel
theorem dX5_scene_12 : decode cX5_scene 12 = .ok (.iload_n 2, 1) := by decide +kernel
theorem dX5_scene_13 : decode cX5_scene 13 = .ok (.iconst 4, 1) := by decide +kernel
theorem dX5_scene_14 : decode cX5_scene 14 = .ok (.if_icmp .gt 7, 3) := by decide +kernel
theorem dX5_scene_17 : decode cX5_scene 17 = .ok (.iconst 1, 1) := by decide +kernel
theorem dX5_scene_18 : decode cX5_scene 18 = .ok (.goto 4, 3) := by decide +kernel
theorem dX5_scene_21 : decode cX5_scene 21 = .ok (.iconst 0, 1) := by decide +kernel
theorem dX5_scene_22 : decode cX5_scene 22 = .ok (.istore_n 3, 1) := by decide +kernel
theorem dX5_scene_23 : decode cX5_scene 23 = .ok (.iload_n 3, 1) := by decide +kernel
theorem dX5_scene_24 : decode cX5_scene 24 = .ok (.ifCond .eq 12, 3) := by decide +kernel
theorem dX5_scene_27 : decode cX5_scene 27 = .ok (.aload_n 0, 1) := by decide +kernel
theorem dX5_scene_28 : decode cX5_scene 28 = .ok (.iload_n 1, 1) := by decide +kernel
theorem dX5_scene_29 : decode cX5_scene 29 = .ok (.iload_n 2, 1) := by decide +kernel
theorem dX5_scene_30 : decode cX5_scene 30 = .ok (.invokevirtual 68, 3) := by decide +kernel
theorem dX5_scene_33 : decode cX5_scene 33 = .ok (.goto 6, 3) := by decide +kernel
theorem dX5_scene_36 : decode cX5_scene 36 = .ok (.sipush (-1002), 3) := by decide +kernel
theorem dX5_scene_39 : decode cX5_scene 39 = .ok (.istore 4, 2) := by decide +kernel
theorem dX5_scene_41 : decode cX5_scene 41 = .ok (.aload_n 0, 1) := by decide +kernel
theorem dX5_scene_42 : decode cX5_scene 42 = .ok (.getfield 12, 3) := by decide +kernel
theorem dX5_scene_45 : decode cX5_scene 45 = .ok (.iconst 0, 1) := by decide +kernel
theorem dX5_scene_46 : decode cX5_scene 46 = .ok (.putfield 57, 3) := by decide +kernel
theorem dX5_scene_49 : decode cX5_scene 49 = .ok (.iload 4, 2) := by decide +kernel
theorem dX5_scene_51 : decode cX5_scene 51 = .ok (.ireturn, 1) := by decide +kernel
theorem dX5_putScene_0 : decode cX5_putScene 0 = .ok (.iload_n 2, 1) := by decide +kernel
theorem dX5_putScene_1 : decode cX5_putScene 1 = .ok (.iconst 1, 1) := by decide +kernel
theorem dX5_putScene_2 : decode cX5_putScene 2 = .ok (.if_icmp .eq 13, 3) := by decide +kernel
theorem dX5_putScene_5 : decode cX5_putScene 5 = .ok (.iload_n 2, 1) := by decide +kernel
theorem dX5_putScene_6 : decode cX5_putScene 6 = .ok (.iconst 2, 1) := by decide +kernel
theorem dX5_putScene_7 : decode cX5_putScene 7 = .ok (.if_icmp .eq 8, 3) := by decide +kernel
theorem dX5_putScene_10 : decode cX5_putScene 10 = .ok (.iload_n 2, 1) := by decide +kernel
theorem dX5_putScene_11 : decode cX5_putScene 11 = .ok (.iconst 4, 1) := by decide +kernel
theorem dX5_putScene_12 : decode cX5_putScene 12 = .ok (.if_icmp .ne 7, 3) := by decide +kernel
theorem dX5_putScene_15 : decode cX5_putScene 15 = .ok (.iconst 1, 1) := by decide +kernel
theorem dX5_putScene_16 : decode cX5_putScene 16 = .ok (.goto 4, 3) := by decide +kernel
theorem dX5_putScene_19 : decode cX5_putScene 19 = .ok (.iconst 0, 1) := by decide +kernel
theorem dX5_putScene_20 : decode cX5_putScene 20 = .ok (.istore_n 3, 1) := by decide +kernel
theorem dX5_putScene_21 : decode cX5_putScene 21 = .ok (.iload_n 3, 1) := by decide +kernel
theorem dX5_putScene_22 : decode cX5_putScene 22 = .ok (.ifCond .eq 13, 3) := by decide +kernel
theorem dX5_putScene_25 : decode cX5_putScene 25 = .ok (.aload_n 0, 1) := by decide +kernel
theorem dX5_putScene_26 : decode cX5_putScene 26 = .ok (.getfield 12, 3) := by decide +kernel
theorem dX5_putScene_29 : decode cX5_putScene 29 = .ok (.invokevirtual 72, 3) := by decide +kernel
theorem dX5_putScene_32 : decode cX5_putScene 32 = .ok (.goto 4, 3) := by decide +kernel
theorem dX5_putScene_35 : decode cX5_putScene 35 = .ok (.iconst (-1), 1) := by decide +kernel
theorem dX5_putScene_36 : decode cX5_putScene 36 = .ok (.istore 4, 2) := by decide +kernel
theorem dX5_putScene_38 : decode cX5_putScene 38 = .ok (.iload 4, 2) := by decide +kernel
theorem dX5_putScene_40 : decode cX5_putScene 40 = .ok (.iconst (-1), 1) := by decide +kernel
theorem dX5_putScene_41 : decode cX5_putScene 41 = .ok (.if_icmp .eq 10, 3) := by decide +kernel
theorem dX5_putScene_44 : decode cX5_putScene 44 = .ok (.sipush (-1100), 3) := by decide +kernel
theorem dX5_putScene_47 : decode cX5_putScene 47 = .ok (.iload 4, 2) := by decide +kernel
theorem dX5_putScene_49 : decode cX5_putScene 49 = .ok (.isub, 1) := by decide +kernel
theorem dX5_putScene_50 : decode cX5_putScene 50 = .ok (.ireturn, 1) := by decide +kernel
theorem dX5_putScene_51 : decode cX5_putScene 51 = .ok (.aload_n 0, 1) := by decide +kernel
theorem dX5_putScene_52 : decode cX5_putScene 52 = .ok (.getfield 19, 3) := by decide +kernel
theorem dX5_putScene_55 : decode cX5_putScene 55 = .ok (.iload_n 1, 1) := by decide +kernel
theorem dX5_putScene_56 : decode cX5_putScene 56 = .ok (.invokevirtual 76, 3) := by decide +kernel
theorem dX5_putScene_59 : decode cX5_putScene 59 = .ok (.astore 5, 2) := by decide +kernel
theorem dX5_putScene_61 : decode cX5_putScene 61 = .ok (.aload 5, 2) := by decide +kernel
theorem dX5_putScene_63 : decode cX5_putScene 63 = .ok (.getfield 80, 3) := by decide +kernel
theorem dX5_putScene_66 : decode cX5_putScene 66 = .ok (.istore 6, 2) := by decide +kernel
theorem dX5_putScene_68 : decode cX5_putScene 68 = .ok (.aload 5, 2) := by decide +kernel
theorem dX5_putScene_70 : decode cX5_putScene 70 = .ok (.iload_n 2, 1) := by decide +kernel
theorem dX5_putScene_71 : decode cX5_putScene 71 = .ok (.invokevirtual 85, 3) := by decide +kernel
theorem dX5_putScene_74 : decode cX5_putScene 74 = .ok (.iload_n 3, 1) := by decide +kernel
theorem dX5_putScene_75 : decode cX5_putScene 75 = .ok (.ifCond .eq 15, 3) := by decide +kernel
theorem dX5_putScene_78 : decode cX5_putScene 78 = .ok (.aload 5, 2) := by decide +kernel
theorem dX5_putScene_80 : decode cX5_putScene 80 = .ok (.aload_n 0, 1) := by decide +kernel
theorem dX5_putScene_81 : decode cX5_putScene 81 = .ok (.getfield 12, 3) := by decide +kernel
theorem dX5_putScene_84 : decode cX5_putScene 84 = .ok (.getfield 89, 3) := by decide +kernel
theorem dX5_putScene_87 : decode cX5_putScene 87 = .ok (.invokevirtual 93, 3) := by decide +kernel
theorem dX5_putScene_90 : decode cX5_putScene 90 = .ok (.iload_n 2, 1) := by decide +kernel
theorem dX5_putScene_91 : decode cX5_putScene 91 = .ok (.iconst (-1), 1) := by decide +kernel
theorem dX5_putScene_92 : decode cX5_putScene 92 = .ok (.if_icmp .ne 11, 3) := by decide +kernel
theorem dX5_putScene_95 : decode cX5_putScene 95 = .ok (.aload_n 0, 1) := by decide +kernel
theorem dX5_putScene_96 : decode cX5_putScene 96 = .ok (.getfield 19, 3) := by decide +kernel
theorem dX5_putScene_99 : decode cX5_putScene 99 = .ok (.iload_n 1, 1) := by decide +kernel
theorem dX5_putScene_100 : decode cX5_putScene 100 = .ok (.invokevirtual 97, 3) := by decide +kernel
theorem dX5_putScene_103 : decode cX5_putScene 103 = .ok (.aload_n 0, 1) := by decide +kernel
theorem dX5_putScene_104 : decode cX5_putScene 104 = .ok (.iconst 0, 1) := by decide +kernel
theorem dX5_putScene_105 : decode cX5_putScene 105 = .ok (.putfield 100, 3) := by decide +kernel
theorem dX5_putScene_108 : decode cX5_putScene 108 = .ok (.iload 6, 2) := by decide +kernel
theorem dX5_putScene_110 : decode cX5_putScene 110 = .ok (.ireturn, 1) := by decide +kernel
theorem dX5_loss_0 : decode cX5_loss 0 = .ok (.iload_n 1, 1) := by decide +kernel
theorem dX5_loss_1 : decode cX5_loss 1 = .ok (.invokestatic 64, 3) := by decide +kernel
theorem dX5_loss_4 : decode cX5_loss 4 = .ok (.ifCond .eq 10, 3) := by decide +kernel
theorem dX5_loss_7 : decode cX5_loss 7 = .ok (.iload_n 2, 1) := by decide +kernel
theorem dX5_loss_8 : decode cX5_loss 8 = .ok (.invokestatic 104, 3) := by decide +kernel
theorem dX5_loss_11 : decode cX5_loss 11 = .ok (.ifCond .ne 7, 3) := by decide +kernel
theorem dX5_loss_14 : decode cX5_loss 14 = .ok (.sipush (-1002), 3) := by decide +kernel
theorem dX5_loss_17 : decode cX5_loss 17 = .ok (.ireturn, 1) := by decide +kernel
theorem dX5_loss_18 : decode cX5_loss 18 = .ok (.aload_n 0, 1) := by decide +kernel
theorem dX5_loss_19 : decode cX5_loss 19 = .ok (.getfield 19, 3) := by decide +kernel
theorem dX5_loss_22 : decode cX5_loss 22 = .ok (.iload_n 1, 1) := by decide +kernel
theorem dX5_loss_23 : decode cX5_loss 23 = .ok (.invokevirtual 76, 3) := by decide +kernel
theorem dX5_loss_26 : decode cX5_loss 26 = .ok (.astore_n 3, 1) := by decide +kernel
theorem dX5_loss_27 : decode cX5_loss 27 = .ok (.aload_n 3, 1) := by decide +kernel
theorem dX5_loss_28 : decode cX5_loss 28 = .ok (.invokevirtual 107, 3) := by decide +kernel
theorem dX5_loss_31 : decode cX5_loss 31 = .ok (.ifCond .ne 11, 3) := by decide +kernel
theorem dX5_loss_34 : decode cX5_loss 34 = .ok (.aload_n 0, 1) := by decide +kernel
theorem dX5_loss_35 : decode cX5_loss 35 = .ok (.sipush (-1010), 3) := by decide +kernel
theorem dX5_loss_38 : decode cX5_loss 38 = .ok (.invokevirtual 111, 3) := by decide +kernel
theorem dX5_loss_41 : decode cX5_loss 41 = .ok (.ireturn, 1) := by decide +kernel
theorem dX5_loss_42 : decode cX5_loss 42 = .ok (.aload_n 3, 1) := by decide +kernel
theorem dX5_loss_43 : decode cX5_loss 43 = .ok (.getfield 80, 3) := by decide +kernel
theorem dX5_loss_46 : decode cX5_loss 46 = .ok (.iconst 2, 1) := by decide +kernel
theorem dX5_loss_47 : decode cX5_loss 47 = .ok (.if_icmp .eq 11, 3) := by decide +kernel
theorem dX5_loss_50 : decode cX5_loss 50 = .ok (.aload_n 0, 1) := by decide +kernel
theorem dX5_loss_51 : decode cX5_loss 51 = .ok (.sipush (-1012), 3) := by decide +kernel
theorem dX5_loss_54 : decode cX5_loss 54 = .ok (.invokevirtual 111, 3) := by decide +kernel
theorem dX5_loss_57 : decode cX5_loss 57 = .ok (.ireturn, 1) := by decide +kernel
theorem dX5_loss_58 : decode cX5_loss 58 = .ok (.aload_n 3, 1) := by decide +kernel
theorem dX5_loss_59 : decode cX5_loss 59 = .ok (.getfield 115, 3) := by decide +kernel
theorem dX5_loss_62 : decode cX5_loss 62 = .ok (.istore 4, 2) := by decide +kernel
theorem dX5_loss_64 : decode cX5_loss 64 = .ok (.aload_n 3, 1) := by decide +kernel
theorem dX5_loss_65 : decode cX5_loss 65 = .ok (.iload_n 2, 1) := by decide +kernel
theorem dX5_loss_66 : decode cX5_loss 66 = .ok (.putfield 115, 3) := by decide +kernel
theorem dX5_loss_69 : decode cX5_loss 69 = .ok (.aload_n 0, 1) := by decide +kernel
theorem dX5_loss_70 : decode cX5_loss 70 = .ok (.iconst 0, 1) := by decide +kernel
theorem dX5_loss_71 : decode cX5_loss 71 = .ok (.putfield 100, 3) := by decide +kernel
theorem dX5_loss_74 : decode cX5_loss 74 = .ok (.iload 4, 2) := by decide +kernel
theorem dX5_loss_76 : decode cX5_loss 76 = .ok (.ireturn, 1) := by decide +kernel
theorem dX5_choice_0 : decode cX5_choice 0 = .ok (.iload_n 1, 1) := by decide +kernel
theorem dX5_choice_1 : decode cX5_choice 1 = .ok (.invokestatic 64, 3) := by decide +kernel
theorem dX5_choice_4 : decode cX5_choice 4 = .ok (.ifCond .eq 21, 3) := by decide +kernel
theorem dX5_choice_7 : decode cX5_choice 7 = .ok (.iload_n 2, 1) := by decide +kernel
theorem dX5_choice_8 : decode cX5_choice 8 = .ok (.invokestatic 118, 3) := by decide +kernel
theorem dX5_choice_11 : decode cX5_choice 11 = .ok (.ifCond .eq 14, 3) := by decide +kernel
theorem dX5_choice_14 : decode cX5_choice 14 = .ok (.iload_n 3, 1) := by decide +kernel
theorem dX5_choice_15 : decode cX5_choice 15 = .ok (.invokestatic 64, 3) := by decide +kernel
theorem dX5_choice_18 : decode cX5_choice 18 = .ok (.ifCond .eq 7, 3) := by decide +kernel
theorem dX5_choice_21 : decode cX5_choice 21 = .ok (.iconst 1, 1) := by decide +kernel
theorem dX5_choice_22 : decode cX5_choice 22 = .ok (.goto 4, 3) := by decide +kernel
theorem dX5_choice_25 : decode cX5_choice 25 = .ok (.iconst 0, 1) := by decide +kernel
theorem dX5_choice_26 : decode cX5_choice 26 = .ok (.istore 4, 2) := by decide +kernel
theorem dX5_choice_28 : decode cX5_choice 28 = .ok (.iload 4, 2) := by decide +kernel
theorem dX5_choice_30 : decode cX5_choice 30 = .ok (.ifCond .eq 13, 3) := by decide +kernel
theorem dX5_choice_33 : decode cX5_choice 33 = .ok (.aload_n 0, 1) := by decide +kernel
theorem dX5_choice_34 : decode cX5_choice 34 = .ok (.iload_n 1, 1) := by decide +kernel
theorem dX5_choice_35 : decode cX5_choice 35 = .ok (.iload_n 2, 1) := by decide +kernel
theorem dX5_choice_36 : decode cX5_choice 36 = .ok (.iload_n 3, 1) := by decide +kernel
theorem dX5_choice_37 : decode cX5_choice 37 = .ok (.invokevirtual 121, 3) := by decide +kernel
theorem dX5_choice_40 : decode cX5_choice 40 = .ok (.goto 6, 3) := by decide +kernel
theorem dX5_choice_43 : decode cX5_choice 43 = .ok (.sipush (-1002), 3) := by decide +kernel
theorem dX5_choice_46 : decode cX5_choice 46 = .ok (.istore 5, 2) := by decide +kernel
theorem dX5_choice_48 : decode cX5_choice 48 = .ok (.aload_n 0, 1) := by decide +kernel
theorem dX5_choice_49 : decode cX5_choice 49 = .ok (.getfield 12, 3) := by decide +kernel
theorem dX5_choice_52 : decode cX5_choice 52 = .ok (.iconst 0, 1) := by decide +kernel
theorem dX5_choice_53 : decode cX5_choice 53 = .ok (.putfield 57, 3) := by decide +kernel
theorem dX5_choice_56 : decode cX5_choice 56 = .ok (.iload 5, 2) := by decide +kernel
theorem dX5_choice_58 : decode cX5_choice 58 = .ok (.ireturn, 1) := by decide +kernel
theorem dX5_putChoice_0 : decode cX5_putChoice 0 = .ok (.aload_n 0, 1) := by decide +kernel
theorem dX5_putChoice_1 : decode cX5_putChoice 1 = .ok (.getfield 19, 3) := by decide +kernel
theorem dX5_putChoice_4 : decode cX5_putChoice 4 = .ok (.iload_n 1, 1) := by decide +kernel
theorem dX5_putChoice_5 : decode cX5_putChoice 5 = .ok (.invokevirtual 76, 3) := by decide +kernel
theorem dX5_putChoice_8 : decode cX5_putChoice 8 = .ok (.invokevirtual 107, 3) := by decide +kernel
theorem dX5_putChoice_11 : decode cX5_putChoice 11 = .ok (.ifCond .ne 11, 3) := by decide +kernel
theorem dX5_putChoice_14 : decode cX5_putChoice 14 = .ok (.aload_n 0, 1) := by decide +kernel
theorem dX5_putChoice_15 : decode cX5_putChoice 15 = .ok (.sipush (-1010), 3) := by decide +kernel
theorem dX5_putChoice_18 : decode cX5_putChoice 18 = .ok (.invokevirtual 111, 3) := by decide +kernel
theorem dX5_putChoice_21 : decode cX5_putChoice 21 = .ok (.ireturn, 1) := by decide +kernel
theorem dX5_putChoice_22 : decode cX5_putChoice 22 = .ok (.aload_n 0, 1) := by decide +kernel
theorem dX5_putChoice_23 : decode cX5_putChoice 23 = .ok (.getfield 12, 3) := by decide +kernel
theorem dX5_putChoice_26 : decode cX5_putChoice 26 = .ok (.invokevirtual 72, 3) := by decide +kernel
theorem dX5_putChoice_29 : decode cX5_putChoice 29 = .ok (.istore 4, 2) := by decide +kernel
theorem dX5_putChoice_31 : decode cX5_putChoice 31 = .ok (.iload 4, 2) := by decide +kernel
theorem dX5_putChoice_33 : decode cX5_putChoice 33 = .ok (.iconst (-1), 1) := by decide +kernel
theorem dX5_putChoice_34 : decode cX5_putChoice 34 = .ok (.if_icmp .eq 10, 3) := by decide +kernel
theorem dX5_putChoice_37 : decode cX5_putChoice 37 = .ok (.sipush (-1100), 3) := by decide +kernel
theorem dX5_putChoice_40 : decode cX5_putChoice 40 = .ok (.iload 4, 2) := by decide +kernel
theorem dX5_putChoice_42 : decode cX5_putChoice 42 = .ok (.isub, 1) := by decide +kernel
theorem dX5_putChoice_43 : decode cX5_putChoice 43 = .ok (.ireturn, 1) := by decide +kernel
theorem dX5_putChoice_44 : decode cX5_putChoice 44 = .ok (.aload_n 0, 1) := by decide +kernel
theorem dX5_putChoice_45 : decode cX5_putChoice 45 = .ok (.getfield 19, 3) := by decide +kernel
theorem dX5_putChoice_48 : decode cX5_putChoice 48 = .ok (.iload_n 1, 1) := by decide +kernel
theorem dX5_putChoice_49 : decode cX5_putChoice 49 = .ok (.iload_n 2, 1) := by decide +kernel
theorem dX5_putChoice_50 : decode cX5_putChoice 50 = .ok (.invokevirtual 125, 3) := by decide +kernel
theorem dX5_putChoice_53 : decode cX5_putChoice 53 = .ok (.astore 5, 2) := by decide +kernel
theorem dX5_putChoice_55 : decode cX5_putChoice 55 = .ok (.aload 5, 2) := by decide +kernel
theorem dX5_putChoice_57 : decode cX5_putChoice 57 = .ok (.invokevirtual 107, 3) := by decide +kernel
theorem dX5_putChoice_60 : decode cX5_putChoice 60 = .ok (.ifCond .eq 7, 3) := by decide +kernel
theorem dX5_putChoice_63 : decode cX5_putChoice 63 = .ok (.iconst 1, 1) := by decide +kernel
theorem dX5_putChoice_64 : decode cX5_putChoice 64 = .ok (.goto 4, 3) := by decide +kernel
theorem dX5_putChoice_67 : decode cX5_putChoice 67 = .ok (.iconst 0, 1) := by decide +kernel
theorem dX5_putChoice_68 : decode cX5_putChoice 68 = .ok (.istore 6, 2) := by decide +kernel
theorem dX5_putChoice_70 : decode cX5_putChoice 70 = .ok (.aload 5, 2) := by decide +kernel
theorem dX5_putChoice_72 : decode cX5_putChoice 72 = .ok (.iload_n 3, 1) := by decide +kernel
theorem dX5_putChoice_73 : decode cX5_putChoice 73 = .ok (.invokevirtual 85, 3) := by decide +kernel
theorem dX5_putChoice_76 : decode cX5_putChoice 76 = .ok (.aload 5, 2) := by decide +kernel
theorem dX5_putChoice_78 : decode cX5_putChoice 78 = .ok (.aload_n 0, 1) := by decide +kernel
theorem dX5_putChoice_79 : decode cX5_putChoice 79 = .ok (.getfield 12, 3) := by decide +kernel
theorem dX5_putChoice_82 : decode cX5_putChoice 82 = .ok (.getfield 89, 3) := by decide +kernel
theorem dX5_putChoice_85 : decode cX5_putChoice 85 = .ok (.invokevirtual 93, 3) := by decide +kernel
theorem dX5_putChoice_88 : decode cX5_putChoice 88 = .ok (.aload_n 0, 1) := by decide +kernel
theorem dX5_putChoice_89 : decode cX5_putChoice 89 = .ok (.iconst 0, 1) := by decide +kernel
theorem dX5_putChoice_90 : decode cX5_putChoice 90 = .ok (.putfield 100, 3) := by decide +kernel
theorem dX5_putChoice_93 : decode cX5_putChoice 93 = .ok (.iload 6, 2) := by decide +kernel
theorem dX5_putChoice_95 : decode cX5_putChoice 95 = .ok (.ireturn, 1) := by decide +kernel
theorem dX5_gives_0 : decode cX5_gives 0 = .ok (.iload_n 1, 1) := by decide +kernel
theorem dX5_gives_1 : decode cX5_gives 1 = .ok (.invokestatic 64, 3) := by decide +kernel
theorem dX5_gives_4 : decode cX5_gives 4 = .ok (.ifCond .eq 32, 3) := by decide +kernel
theorem dX5_gives_7 : decode cX5_gives 7 = .ok (.iload_n 2, 1) := by decide +kernel
theorem dX5_gives_8 : decode cX5_gives 8 = .ok (.invokestatic 118, 3) := by decide +kernel
theorem dX5_gives_11 : decode cX5_gives 11 = .ok (.ifCond .eq 25, 3) := by decide +kernel
theorem dX5_gives_14 : decode cX5_gives 14 = .ok (.iload_n 3, 1) := by decide +kernel
theorem dX5_gives_15 : decode cX5_gives 15 = .ok (.invokestatic 104, 3) := by decide +kernel
theorem dX5_gives_18 : decode cX5_gives 18 = .ok (.ifCond .eq 18, 3) := by decide +kernel
theorem dX5_gives_21 : decode cX5_gives 21 = .ok (.iload 4, 2) := by decide +kernel
theorem dX5_gives_23 : decode cX5_gives 23 = .ok (.invokestatic 104, 3) := by decide +kernel
theorem dX5_gives_26 : decode cX5_gives 26 = .ok (.ifCond .eq 10, 3) := by decide +kernel
theorem dX5_gives_29 : decode cX5_gives 29 = .ok (.iload_n 3, 1) := by decide +kernel
theorem dX5_gives_30 : decode cX5_gives 30 = .ok (.iload 4, 2) := by decide +kernel
theorem dX5_gives_32 : decode cX5_gives 32 = .ok (.iand, 1) := by decide +kernel
theorem dX5_gives_33 : decode cX5_gives 33 = .ok (.ifCond .eq 7, 3) := by decide +kernel
theorem dX5_gives_36 : decode cX5_gives 36 = .ok (.sipush (-1002), 3) := by decide +kernel
theorem dX5_gives_39 : decode cX5_gives 39 = .ok (.ireturn, 1) := by decide +kernel
theorem dX5_gives_40 : decode cX5_gives 40 = .ok (.aload_n 0, 1) := by decide +kernel
theorem dX5_gives_41 : decode cX5_gives 41 = .ok (.getfield 19, 3) := by decide +kernel
theorem dX5_gives_44 : decode cX5_gives 44 = .ok (.iload_n 1, 1) := by decide +kernel
theorem dX5_gives_45 : decode cX5_gives 45 = .ok (.iload_n 2, 1) := by decide +kernel
theorem dX5_gives_46 : decode cX5_gives 46 = .ok (.invokevirtual 125, 3) := by decide +kernel
theorem dX5_gives_49 : decode cX5_gives 49 = .ok (.astore 5, 2) := by decide +kernel
theorem dX5_gives_51 : decode cX5_gives 51 = .ok (.aload 5, 2) := by decide +kernel
theorem dX5_gives_53 : decode cX5_gives 53 = .ok (.invokevirtual 107, 3) := by decide +kernel
theorem dX5_gives_56 : decode cX5_gives 56 = .ok (.ifCond .ne 11, 3) := by decide +kernel
theorem dX5_gives_59 : decode cX5_gives 59 = .ok (.aload_n 0, 1) := by decide +kernel
theorem dX5_gives_60 : decode cX5_gives 60 = .ok (.sipush (-1010), 3) := by decide +kernel
theorem dX5_gives_63 : decode cX5_gives 63 = .ok (.invokevirtual 111, 3) := by decide +kernel
theorem dX5_gives_66 : decode cX5_gives 66 = .ok (.ireturn, 1) := by decide +kernel
theorem dX5_gives_67 : decode cX5_gives 67 = .ok (.aload 5, 2) := by decide +kernel
theorem dX5_gives_69 : decode cX5_gives 69 = .ok (.iload_n 3, 1) := by decide +kernel
theorem dX5_gives_70 : decode cX5_gives 70 = .ok (.putfield 129, 3) := by decide +kernel
theorem dX5_gives_73 : decode cX5_gives 73 = .ok (.aload 5, 2) := by decide +kernel
theorem dX5_gives_75 : decode cX5_gives 75 = .ok (.iload 4, 2) := by decide +kernel
theorem dX5_gives_77 : decode cX5_gives 77 = .ok (.putfield 115, 3) := by decide +kernel
theorem dX5_gives_80 : decode cX5_gives 80 = .ok (.aload_n 0, 1) := by decide +kernel
theorem dX5_gives_81 : decode cX5_gives 81 = .ok (.iconst 0, 1) := by decide +kernel
theorem dX5_gives_82 : decode cX5_gives 82 = .ok (.putfield 100, 3) := by decide +kernel
theorem dX5_gives_85 : decode cX5_gives 85 = .ok (.iconst 1, 1) := by decide +kernel
theorem dX5_gives_86 : decode cX5_gives 86 = .ok (.ireturn, 1) := by decide +kernel
theorem dX5_line_0 : decode cX5_line 0 = .ok (.iload_n 1, 1) := by decide +kernel
theorem dX5_line_1 : decode cX5_line 1 = .ok (.invokestatic 64, 3) := by decide +kernel
theorem dX5_line_4 : decode cX5_line 4 = .ok (.ifCond .eq 28, 3) := by decide +kernel
theorem dX5_line_7 : decode cX5_line 7 = .ok (.iload_n 2, 1) := by decide +kernel
theorem dX5_line_8 : decode cX5_line 8 = .ok (.invokestatic 118, 3) := by decide +kernel
theorem dX5_line_11 : decode cX5_line 11 = .ok (.ifCond .eq 21, 3) := by decide +kernel
theorem dX5_line_14 : decode cX5_line 14 = .ok (.iload_n 3, 1) := by decide +kernel
theorem dX5_line_15 : decode cX5_line 15 = .ok (.ifCond .lt 17, 3) := by decide +kernel
theorem dX5_line_18 : decode cX5_line 18 = .ok (.iload_n 3, 1) := by decide +kernel
theorem dX5_line_19 : decode cX5_line 19 = .ok (.bipush 99, 2) := by decide +kernel
theorem dX5_line_21 : decode cX5_line 21 = .ok (.if_icmp .gt 11, 3) := by decide +kernel
theorem dX5_line_24 : decode cX5_line 24 = .ok (.iload 4, 2) := by decide +kernel
theorem dX5_line_26 : decode cX5_line 26 = .ok (.invokestatic 132, 3) := by decide +kernel
theorem dX5_line_29 : decode cX5_line 29 = .ok (.ifCond .ne 7, 3) := by decide +kernel
theorem dX5_line_32 : decode cX5_line 32 = .ok (.sipush (-1002), 3) := by decide +kernel
theorem dX5_line_35 : decode cX5_line 35 = .ok (.ireturn, 1) := by decide +kernel
theorem dX5_line_36 : decode cX5_line 36 = .ok (.aload_n 0, 1) := by decide +kernel
theorem dX5_line_37 : decode cX5_line 37 = .ok (.getfield 19, 3) := by decide +kernel
theorem dX5_line_40 : decode cX5_line 40 = .ok (.iload_n 1, 1) := by decide +kernel
theorem dX5_line_41 : decode cX5_line 41 = .ok (.iload_n 2, 1) := by decide +kernel
theorem dX5_line_42 : decode cX5_line 42 = .ok (.invokevirtual 125, 3) := by decide +kernel
theorem dX5_line_45 : decode cX5_line 45 = .ok (.astore 5, 2) := by decide +kernel
theorem dX5_line_47 : decode cX5_line 47 = .ok (.aload 5, 2) := by decide +kernel
theorem dX5_line_49 : decode cX5_line 49 = .ok (.invokevirtual 107, 3) := by decide +kernel
theorem dX5_line_52 : decode cX5_line 52 = .ok (.ifCond .ne 11, 3) := by decide +kernel
theorem dX5_line_55 : decode cX5_line 55 = .ok (.aload_n 0, 1) := by decide +kernel
theorem dX5_line_56 : decode cX5_line 56 = .ok (.sipush (-1010), 3) := by decide +kernel
theorem dX5_line_59 : decode cX5_line 59 = .ok (.invokevirtual 111, 3) := by decide +kernel
theorem dX5_line_62 : decode cX5_line 62 = .ok (.ireturn, 1) := by decide +kernel
theorem dX5_line_63 : decode cX5_line 63 = .ok (.aload 5, 2) := by decide +kernel
theorem dX5_line_65 : decode cX5_line 65 = .ok (.iload_n 3, 1) := by decide +kernel
theorem dX5_line_66 : decode cX5_line 66 = .ok (.putfield 135, 3) := by decide +kernel
theorem dX5_line_69 : decode cX5_line 69 = .ok (.aload 5, 2) := by decide +kernel
theorem dX5_line_71 : decode cX5_line 71 = .ok (.iload 4, 2) := by decide +kernel
theorem dX5_line_73 : decode cX5_line 73 = .ok (.putfield 138, 3) := by decide +kernel
theorem dX5_line_76 : decode cX5_line 76 = .ok (.iconst 1, 1) := by decide +kernel
theorem dX5_line_77 : decode cX5_line 77 = .ok (.ireturn, 1) := by decide +kernel
theorem dX5_drop_0 : decode cX5_drop 0 = .ok (.iload_n 1, 1) := by decide +kernel
theorem dX5_drop_1 : decode cX5_drop 1 = .ok (.invokestatic 64, 3) := by decide +kernel
theorem dX5_drop_4 : decode cX5_drop 4 = .ok (.ifCond .eq 10, 3) := by decide +kernel
theorem dX5_drop_7 : decode cX5_drop 7 = .ok (.iload_n 2, 1) := by decide +kernel
theorem dX5_drop_8 : decode cX5_drop 8 = .ok (.invokestatic 118, 3) := by decide +kernel
theorem dX5_drop_11 : decode cX5_drop 11 = .ok (.ifCond .ne 7, 3) := by decide +kernel
theorem dX5_drop_14 : decode cX5_drop 14 = .ok (.sipush (-1002), 3) := by decide +kernel
theorem dX5_drop_17 : decode cX5_drop 17 = .ok (.ireturn, 1) := by decide +kernel
theorem dX5_drop_18 : decode cX5_drop 18 = .ok (.aload_n 0, 1) := by decide +kernel
theorem dX5_drop_19 : decode cX5_drop 19 = .ok (.getfield 19, 3) := by decide +kernel
theorem dX5_drop_22 : decode cX5_drop 22 = .ok (.iload_n 1, 1) := by decide +kernel
theorem dX5_drop_23 : decode cX5_drop 23 = .ok (.iload_n 2, 1) := by decide +kernel
theorem dX5_drop_24 : decode cX5_drop 24 = .ok (.invokevirtual 125, 3) := by decide +kernel
theorem dX5_drop_27 : decode cX5_drop 27 = .ok (.astore_n 3, 1) := by decide +kernel
theorem dX5_drop_28 : decode cX5_drop 28 = .ok (.aload_n 3, 1) := by decide +kernel
theorem dX5_drop_29 : decode cX5_drop 29 = .ok (.invokevirtual 107, 3) := by decide +kernel
theorem dX5_drop_32 : decode cX5_drop 32 = .ok (.ifCond .eq 7, 3) := by decide +kernel
theorem dX5_drop_35 : decode cX5_drop 35 = .ok (.iconst 1, 1) := by decide +kernel
theorem dX5_drop_36 : decode cX5_drop 36 = .ok (.goto 4, 3) := by decide +kernel
theorem dX5_drop_39 : decode cX5_drop 39 = .ok (.iconst 0, 1) := by decide +kernel
theorem dX5_drop_40 : decode cX5_drop 40 = .ok (.istore 4, 2) := by decide +kernel
theorem dX5_drop_42 : decode cX5_drop 42 = .ok (.aload_n 3, 1) := by decide +kernel
theorem dX5_drop_43 : decode cX5_drop 43 = .ok (.iconst (-1), 1) := by decide +kernel
theorem dX5_drop_44 : decode cX5_drop 44 = .ok (.invokevirtual 85, 3) := by decide +kernel
theorem dX5_drop_47 : decode cX5_drop 47 = .ok (.aload_n 0, 1) := by decide +kernel
theorem dX5_drop_48 : decode cX5_drop 48 = .ok (.iconst 0, 1) := by decide +kernel
theorem dX5_drop_49 : decode cX5_drop 49 = .ok (.putfield 100, 3) := by decide +kernel
theorem dX5_drop_52 : decode cX5_drop 52 = .ok (.iload 4, 2) := by decide +kernel
theorem dX5_drop_54 : decode cX5_drop 54 = .ok (.ireturn, 1) := by decide +kernel
theorem dX5_start_0 : decode cX5_start 0 = .ok (.iload_n 1, 1) := by decide +kernel
theorem dX5_start_1 : decode cX5_start 1 = .ok (.invokestatic 104, 3) := by decide +kernel
theorem dX5_start_4 : decode cX5_start 4 = .ok (.ifCond .ne 7, 3) := by decide +kernel
theorem dX5_start_7 : decode cX5_start 7 = .ok (.sipush (-1002), 3) := by decide +kernel
theorem dX5_start_10 : decode cX5_start 10 = .ok (.ireturn, 1) := by decide +kernel
theorem dX5_start_11 : decode cX5_start 11 = .ok (.aload_n 0, 1) := by decide +kernel
theorem dX5_start_12 : decode cX5_start 12 = .ok (.getfield 19, 3) := by decide +kernel
theorem dX5_start_15 : decode cX5_start 15 = .ok (.invokevirtual 141, 3) := by decide +kernel
theorem dX5_start_18 : decode cX5_start 18 = .ok (.astore_n 2, 1) := by decide +kernel
theorem dX5_start_19 : decode cX5_start 19 = .ok (.aload_n 2, 1) := by decide +kernel
theorem dX5_start_20 : decode cX5_start 20 = .ok (.getfield 80, 3) := by decide +kernel
theorem dX5_start_23 : decode cX5_start 23 = .ok (.istore_n 3, 1) := by decide +kernel
theorem dX5_start_24 : decode cX5_start 24 = .ok (.aload_n 2, 1) := by decide +kernel
theorem dX5_start_25 : decode cX5_start 25 = .ok (.iload_n 1, 1) := by decide +kernel
theorem dX5_start_26 : decode cX5_start 26 = .ok (.putfield 80, 3) := by decide +kernel
theorem dX5_start_29 : decode cX5_start 29 = .ok (.aload_n 0, 1) := by decide +kernel
theorem dX5_start_30 : decode cX5_start 30 = .ok (.iconst 0, 1) := by decide +kernel
theorem dX5_start_31 : decode cX5_start 31 = .ok (.putfield 100, 3) := by decide +kernel
theorem dX5_start_34 : decode cX5_start 34 = .ok (.iload_n 3, 1) := by decide +kernel
theorem dX5_start_35 : decode cX5_start 35 = .ok (.ireturn, 1) := by decide +kernel
theorem dX5_of_0 : decode cX5_of 0 = .ok (.iload_n 1, 1) := by decide +kernel
theorem dX5_of_1 : decode cX5_of 1 = .ok (.invokestatic 64, 3) := by decide +kernel
theorem dX5_of_4 : decode cX5_of 4 = .ok (.ifCond .eq 12, 3) := by decide +kernel
theorem dX5_of_7 : decode cX5_of 7 = .ok (.iload_n 2, 1) := by decide +kernel
theorem dX5_of_8 : decode cX5_of 8 = .ok (.ifCond .lt 8, 3) := by decide +kernel
theorem dX5_of_11 : decode cX5_of 11 = .ok (.iload_n 2, 1) := by decide +kernel
theorem dX5_of_12 : decode cX5_of 12 = .ok (.iconst 5, 1) := by decide +kernel
theorem dX5_of_13 : decode cX5_of 13 = .ok (.if_icmp .le 7, 3) := by decide +kernel
theorem dX5_of_16 : decode cX5_of 16 = .ok (.sipush (-1002), 3) := by decide +kernel
theorem dX5_of_19 : decode cX5_of 19 = .ok (.ireturn, 1) := by decide +kernel
theorem dX5_of_20 : decode cX5_of 20 = .ok (.aload_n 0, 1) := by decide +kernel
theorem dX5_of_21 : decode cX5_of 21 = .ok (.getfield 19, 3) := by decide +kernel
theorem dX5_of_24 : decode cX5_of 24 = .ok (.iload_n 1, 1) := by decide +kernel
theorem dX5_of_25 : decode cX5_of 25 = .ok (.invokevirtual 76, 3) := by decide +kernel
theorem dX5_of_28 : decode cX5_of 28 = .ok (.astore_n 3, 1) := by decide +kernel
theorem dX5_of_29 : decode cX5_of 29 = .ok (.iload_n 2, 1) := by decide +kernel
theorem dX5_of_30 : decode cX5_of 30 = .ok (.ifCond .ne 8, 3) := by decide +kernel
theorem dX5_of_33 : decode cX5_of 33 = .ok (.aload_n 3, 1) := by decide +kernel
theorem dX5_of_34 : decode cX5_of 34 = .ok (.getfield 80, 3) := by decide +kernel
theorem dX5_of_37 : decode cX5_of 37 = .ok (.ireturn, 1) := by decide +kernel
theorem dX5_of_38 : decode cX5_of 38 = .ok (.iload_n 2, 1) := by decide +kernel
theorem dX5_of_39 : decode cX5_of 39 = .ok (.iconst 1, 1) := by decide +kernel
theorem dX5_of_40 : decode cX5_of 40 = .ok (.if_icmp .ne 17, 3) := by decide +kernel
theorem dX5_of_43 : decode cX5_of 43 = .ok (.aload_n 0, 1) := by decide +kernel
theorem dX5_of_44 : decode cX5_of 44 = .ok (.iload_n 1, 1) := by decide +kernel
theorem dX5_of_45 : decode cX5_of 45 = .ok (.invokevirtual 145, 3) := by decide +kernel
theorem dX5_of_48 : decode cX5_of 48 = .ok (.ifCond .eq 7, 3) := by decide +kernel
theorem dX5_of_51 : decode cX5_of 51 = .ok (.iconst 1, 1) := by decide +kernel
theorem dX5_of_52 : decode cX5_of 52 = .ok (.goto 4, 3) := by decide +kernel
theorem dX5_of_55 : decode cX5_of 55 = .ok (.iconst 0, 1) := by decide +kernel
theorem dX5_of_56 : decode cX5_of 56 = .ok (.ireturn, 1) := by decide +kernel
theorem dX5_of_57 : decode cX5_of 57 = .ok (.aload_n 3, 1) := by decide +kernel
theorem dX5_of_58 : decode cX5_of 58 = .ok (.invokevirtual 107, 3) := by decide +kernel
theorem dX5_of_61 : decode cX5_of 61 = .ok (.ifCond .ne 11, 3) := by decide +kernel
theorem dX5_of_64 : decode cX5_of 64 = .ok (.aload_n 0, 1) := by decide +kernel
theorem dX5_of_65 : decode cX5_of 65 = .ok (.sipush (-1010), 3) := by decide +kernel
theorem dX5_of_68 : decode cX5_of 68 = .ok (.invokevirtual 111, 3) := by decide +kernel
theorem dX5_of_71 : decode cX5_of 71 = .ok (.ireturn, 1) := by decide +kernel
theorem dX5_of_72 : decode cX5_of 72 = .ok (.iload_n 2, 1) := by decide +kernel
theorem dX5_of_73 : decode cX5_of 73 = .ok (.tableswitch 42 2 4 #[27, 32, 37], 27) := by decide +kernel
theorem dX5_of_100 : decode cX5_of 100 = .ok (.aload_n 3, 1) := by decide +kernel
theorem dX5_of_101 : decode cX5_of 101 = .ok (.getfield 148, 3) := by decide +kernel
theorem dX5_of_104 : decode cX5_of 104 = .ok (.ireturn, 1) := by decide +kernel
theorem dX5_of_105 : decode cX5_of 105 = .ok (.aload_n 3, 1) := by decide +kernel
theorem dX5_of_106 : decode cX5_of 106 = .ok (.invokevirtual 151, 3) := by decide +kernel
theorem dX5_of_109 : decode cX5_of 109 = .ok (.ireturn, 1) := by decide +kernel
theorem dX5_of_110 : decode cX5_of 110 = .ok (.aload_n 3, 1) := by decide +kernel
theorem dX5_of_111 : decode cX5_of 111 = .ok (.getfield 115, 3) := by decide +kernel
theorem dX5_of_114 : decode cX5_of 114 = .ok (.ireturn, 1) := by decide +kernel
theorem dX5_of_115 : decode cX5_of 115 = .ok (.aload_n 0, 1) := by decide +kernel
theorem dX5_of_116 : decode cX5_of 116 = .ok (.getfield 19, 3) := by decide +kernel
theorem dX5_of_119 : decode cX5_of 119 = .ok (.iload_n 1, 1) := by decide +kernel
theorem dX5_of_120 : decode cX5_of 120 = .ok (.invokevirtual 154, 3) := by decide +kernel
theorem dX5_of_123 : decode cX5_of 123 = .ok (.ireturn, 1) := by decide +kernel
theorem dX5_about_0 : decode cX5_about 0 = .ok (.iload_n 1, 1) := by decide +kernel
theorem dX5_about_1 : decode cX5_about 1 = .ok (.invokestatic 64, 3) := by decide +kernel
theorem dX5_about_4 : decode cX5_about 4 = .ok (.ifCond .eq 20, 3) := by decide +kernel
theorem dX5_about_7 : decode cX5_about 7 = .ok (.iload_n 2, 1) := by decide +kernel
theorem dX5_about_8 : decode cX5_about 8 = .ok (.invokestatic 118, 3) := by decide +kernel
theorem dX5_about_11 : decode cX5_about 11 = .ok (.ifCond .eq 13, 3) := by decide +kernel
theorem dX5_about_14 : decode cX5_about 14 = .ok (.iload_n 3, 1) := by decide +kernel
theorem dX5_about_15 : decode cX5_about 15 = .ok (.ifCond .lt 9, 3) := by decide +kernel
theorem dX5_about_18 : decode cX5_about 18 = .ok (.iload_n 3, 1) := by decide +kernel
theorem dX5_about_19 : decode cX5_about 19 = .ok (.bipush 6, 2) := by decide +kernel
theorem dX5_about_21 : decode cX5_about 21 = .ok (.if_icmp .le 7, 3) := by decide +kernel
theorem dX5_about_24 : decode cX5_about 24 = .ok (.sipush (-1002), 3) := by decide +kernel
theorem dX5_about_27 : decode cX5_about 27 = .ok (.ireturn, 1) := by decide +kernel
theorem dX5_about_28 : decode cX5_about 28 = .ok (.aload_n 0, 1) := by decide +kernel
theorem dX5_about_29 : decode cX5_about 29 = .ok (.getfield 19, 3) := by decide +kernel
theorem dX5_about_32 : decode cX5_about 32 = .ok (.iload_n 1, 1) := by decide +kernel
theorem dX5_about_33 : decode cX5_about 33 = .ok (.iload_n 2, 1) := by decide +kernel
theorem dX5_about_34 : decode cX5_about 34 = .ok (.invokevirtual 125, 3) := by decide +kernel
theorem dX5_about_37 : decode cX5_about 37 = .ok (.astore 4, 2) := by decide +kernel
theorem dX5_about_39 : decode cX5_about 39 = .ok (.aload 4, 2) := by decide +kernel
theorem dX5_about_41 : decode cX5_about 41 = .ok (.invokevirtual 107, 3) := by decide +kernel
theorem dX5_about_44 : decode cX5_about 44 = .ok (.ifCond .ne 11, 3) := by decide +kernel
theorem dX5_about_47 : decode cX5_about 47 = .ok (.aload_n 0, 1) := by decide +kernel
theorem dX5_about_48 : decode cX5_about 48 = .ok (.sipush (-1010), 3) := by decide +kernel
theorem dX5_about_51 : decode cX5_about 51 = .ok (.invokevirtual 111, 3) := by decide +kernel
theorem dX5_about_54 : decode cX5_about 54 = .ok (.ireturn, 1) := by decide +kernel
theorem dX5_about_55 : decode cX5_about 55 = .ok (.iload_n 3, 1) := by decide +kernel
theorem dX5_about_56 : decode cX5_about 56 = .ok (.tableswitch 76 0 5 #[40, 46, 52, 58, 64, 70], 40) := by decide +kernel
theorem dX5_about_96 : decode cX5_about 96 = .ok (.aload 4, 2) := by decide +kernel
theorem dX5_about_98 : decode cX5_about 98 = .ok (.getfield 80, 3) := by decide +kernel
theorem dX5_about_101 : decode cX5_about 101 = .ok (.ireturn, 1) := by decide +kernel
theorem dX5_about_102 : decode cX5_about 102 = .ok (.aload 4, 2) := by decide +kernel
theorem dX5_about_104 : decode cX5_about 104 = .ok (.getfield 148, 3) := by decide +kernel
theorem dX5_about_107 : decode cX5_about 107 = .ok (.ireturn, 1) := by decide +kernel
theorem dX5_about_108 : decode cX5_about 108 = .ok (.aload 4, 2) := by decide +kernel
theorem dX5_about_110 : decode cX5_about 110 = .ok (.invokevirtual 151, 3) := by decide +kernel
theorem dX5_about_113 : decode cX5_about 113 = .ok (.ireturn, 1) := by decide +kernel
theorem dX5_about_114 : decode cX5_about 114 = .ok (.aload 4, 2) := by decide +kernel
theorem dX5_about_116 : decode cX5_about 116 = .ok (.getfield 129, 3) := by decide +kernel
theorem dX5_about_119 : decode cX5_about 119 = .ok (.ireturn, 1) := by decide +kernel
theorem dX5_about_120 : decode cX5_about 120 = .ok (.aload 4, 2) := by decide +kernel
theorem dX5_about_122 : decode cX5_about 122 = .ok (.getfield 115, 3) := by decide +kernel
theorem dX5_about_125 : decode cX5_about 125 = .ok (.ireturn, 1) := by decide +kernel
theorem dX5_about_126 : decode cX5_about 126 = .ok (.aload 4, 2) := by decide +kernel
theorem dX5_about_128 : decode cX5_about 128 = .ok (.getfield 135, 3) := by decide +kernel
theorem dX5_about_131 : decode cX5_about 131 = .ok (.ireturn, 1) := by decide +kernel
theorem dX5_about_132 : decode cX5_about 132 = .ok (.aload 4, 2) := by decide +kernel
theorem dX5_about_134 : decode cX5_about 134 = .ok (.getfield 138, 3) := by decide +kernel
theorem dX5_about_137 : decode cX5_about 137 = .ok (.ireturn, 1) := by decide +kernel
theorem dX5_states_0 : decode cX5_states 0 = .ok (.iload_n 1, 1) := by decide +kernel
theorem dX5_states_1 : decode cX5_states 1 = .ok (.ifCond .lt 8, 3) := by decide +kernel
theorem dX5_states_4 : decode cX5_states 4 = .ok (.iload_n 1, 1) := by decide +kernel
theorem dX5_states_5 : decode cX5_states 5 = .ok (.iconst 4, 1) := by decide +kernel
theorem dX5_states_6 : decode cX5_states 6 = .ok (.if_icmp .le 7, 3) := by decide +kernel
theorem dX5_states_9 : decode cX5_states 9 = .ok (.sipush (-1002), 3) := by decide +kernel
theorem dX5_states_12 : decode cX5_states 12 = .ok (.ireturn, 1) := by decide +kernel
theorem dX5_states_13 : decode cX5_states 13 = .ok (.aload_n 0, 1) := by decide +kernel
theorem dX5_states_14 : decode cX5_states 14 = .ok (.invokevirtual 157, 3) := by decide +kernel
theorem dX5_states_17 : decode cX5_states 17 = .ok (.iload_n 1, 1) := by decide +kernel
theorem dX5_states_18 : decode cX5_states 18 = .ok (.tableswitch 53 0 3 #[30, 38, 43, 48], 30) := by decide +kernel
theorem dX5_states_48 : decode cX5_states 48 = .ok (.aload_n 0, 1) := by decide +kernel
theorem dX5_states_49 : decode cX5_states 49 = .ok (.getfield 32, 3) := by decide +kernel
theorem dX5_states_52 : decode cX5_states 52 = .ok (.getfield 160, 3) := by decide +kernel
theorem dX5_states_55 : decode cX5_states 55 = .ok (.ireturn, 1) := by decide +kernel
theorem dX5_states_56 : decode cX5_states 56 = .ok (.aload_n 0, 1) := by decide +kernel
theorem dX5_states_57 : decode cX5_states 57 = .ok (.invokevirtual 163, 3) := by decide +kernel
theorem dX5_states_60 : decode cX5_states 60 = .ok (.ireturn, 1) := by decide +kernel
theorem dX5_states_61 : decode cX5_states 61 = .ok (.aload_n 0, 1) := by decide +kernel
theorem dX5_states_62 : decode cX5_states 62 = .ok (.invokevirtual 166, 3) := by decide +kernel
theorem dX5_states_65 : decode cX5_states 65 = .ok (.ireturn, 1) := by decide +kernel
theorem dX5_states_66 : decode cX5_states 66 = .ok (.aload_n 0, 1) := by decide +kernel
theorem dX5_states_67 : decode cX5_states 67 = .ok (.invokevirtual 169, 3) := by decide +kernel
theorem dX5_states_70 : decode cX5_states 70 = .ok (.ireturn, 1) := by decide +kernel
theorem dX5_states_71 : decode cX5_states 71 = .ok (.aload_n 0, 1) := by decide +kernel
theorem dX5_states_72 : decode cX5_states 72 = .ok (.getfield 19, 3) := by decide +kernel
theorem dX5_states_75 : decode cX5_states 75 = .ok (.aload_n 0, 1) := by decide +kernel
theorem dX5_states_76 : decode cX5_states 76 = .ok (.getfield 36, 3) := by decide +kernel
theorem dX5_states_79 : decode cX5_states 79 = .ok (.invokevirtual 172, 3) := by decide +kernel
theorem dX5_states_82 : decode cX5_states 82 = .ok (.aload_n 0, 1) := by decide +kernel
theorem dX5_states_83 : decode cX5_states 83 = .ok (.getfield 32, 3) := by decide +kernel
theorem dX5_states_86 : decode cX5_states 86 = .ok (.aload_n 0, 1) := by decide +kernel
theorem dX5_states_87 : decode cX5_states 87 = .ok (.getfield 36, 3) := by decide +kernel
theorem dX5_states_90 : decode cX5_states 90 = .ok (.invokevirtual 176, 3) := by decide +kernel
theorem dX5_states_93 : decode cX5_states 93 = .ok (.ireturn, 1) := by decide +kernel
theorem dX5_countEndings_0 : decode cX5_countEndings 0 = .ok (.iconst 0, 1) := by decide +kernel
theorem dX5_countEndings_1 : decode cX5_countEndings 1 = .ok (.istore_n 1, 1) := by decide +kernel
theorem dX5_countEndings_2 : decode cX5_countEndings 2 = .ok (.iconst 0, 1) := by decide +kernel
theorem dX5_countEndings_3 : decode cX5_countEndings 3 = .ok (.istore_n 2, 1) := by decide +kernel
theorem dX5_countEndings_4 : decode cX5_countEndings 4 = .ok (.iload_n 2, 1) := by decide +kernel
theorem dX5_countEndings_5 : decode cX5_countEndings 5 = .ok (.aload_n 0, 1) := by decide +kernel
theorem dX5_countEndings_6 : decode cX5_countEndings 6 = .ok (.getfield 32, 3) := by decide +kernel
theorem dX5_countEndings_9 : decode cX5_countEndings 9 = .ok (.getfield 160, 3) := by decide +kernel
theorem dX5_countEndings_12 : decode cX5_countEndings 12 = .ok (.if_icmp .ge 31, 3) := by decide +kernel
theorem dX5_countEndings_15 : decode cX5_countEndings 15 = .ok (.aload_n 0, 1) := by decide +kernel
theorem dX5_countEndings_16 : decode cX5_countEndings 16 = .ok (.getfield 19, 3) := by decide +kernel
theorem dX5_countEndings_19 : decode cX5_countEndings 19 = .ok (.aload_n 0, 1) := by decide +kernel
theorem dX5_countEndings_20 : decode cX5_countEndings 20 = .ok (.getfield 32, 3) := by decide +kernel
theorem dX5_countEndings_23 : decode cX5_countEndings 23 = .ok (.getfield 180, 3) := by decide +kernel
theorem dX5_countEndings_26 : decode cX5_countEndings 26 = .ok (.iload_n 2, 1) := by decide +kernel
theorem dX5_countEndings_27 : decode cX5_countEndings 27 = .ok (.iaload, 1) := by decide +kernel
theorem dX5_countEndings_28 : decode cX5_countEndings 28 = .ok (.invokevirtual 183, 3) := by decide +kernel
theorem dX5_countEndings_31 : decode cX5_countEndings 31 = .ok (.ifCond .eq 6, 3) := by decide +kernel
theorem dX5_countEndings_34 : decode cX5_countEndings 34 = .ok (.iinc 1 1, 3) := by decide +kernel
theorem dX5_countEndings_37 : decode cX5_countEndings 37 = .ok (.iinc 2 1, 3) := by decide +kernel
theorem dX5_countEndings_40 : decode cX5_countEndings 40 = .ok (.goto (-36), 3) := by decide +kernel
theorem dX5_countEndings_43 : decode cX5_countEndings 43 = .ok (.iload_n 1, 1) := by decide +kernel
theorem dX5_countEndings_44 : decode cX5_countEndings 44 = .ok (.ireturn, 1) := by decide +kernel
theorem dX5_countStuck_0 : decode cX5_countStuck 0 = .ok (.iconst 0, 1) := by decide +kernel
theorem dX5_countStuck_1 : decode cX5_countStuck 1 = .ok (.istore_n 1, 1) := by decide +kernel
theorem dX5_countStuck_2 : decode cX5_countStuck 2 = .ok (.iconst 0, 1) := by decide +kernel
theorem dX5_countStuck_3 : decode cX5_countStuck 3 = .ok (.istore_n 2, 1) := by decide +kernel
theorem dX5_countStuck_4 : decode cX5_countStuck 4 = .ok (.iload_n 2, 1) := by decide +kernel
theorem dX5_countStuck_5 : decode cX5_countStuck 5 = .ok (.aload_n 0, 1) := by decide +kernel
theorem dX5_countStuck_6 : decode cX5_countStuck 6 = .ok (.getfield 32, 3) := by decide +kernel
theorem dX5_countStuck_9 : decode cX5_countStuck 9 = .ok (.getfield 160, 3) := by decide +kernel
theorem dX5_countStuck_12 : decode cX5_countStuck 12 = .ok (.if_icmp .ge 44, 3) := by decide +kernel
theorem dX5_countStuck_15 : decode cX5_countStuck 15 = .ok (.aload_n 0, 1) := by decide +kernel
theorem dX5_countStuck_16 : decode cX5_countStuck 16 = .ok (.getfield 32, 3) := by decide +kernel
theorem dX5_countStuck_19 : decode cX5_countStuck 19 = .ok (.getfield 180, 3) := by decide +kernel
theorem dX5_countStuck_22 : decode cX5_countStuck 22 = .ok (.iload_n 2, 1) := by decide +kernel
theorem dX5_countStuck_23 : decode cX5_countStuck 23 = .ok (.iaload, 1) := by decide +kernel
theorem dX5_countStuck_24 : decode cX5_countStuck 24 = .ok (.istore_n 3, 1) := by decide +kernel
theorem dX5_countStuck_25 : decode cX5_countStuck 25 = .ok (.aload_n 0, 1) := by decide +kernel
theorem dX5_countStuck_26 : decode cX5_countStuck 26 = .ok (.getfield 19, 3) := by decide +kernel
theorem dX5_countStuck_29 : decode cX5_countStuck 29 = .ok (.iload_n 3, 1) := by decide +kernel
theorem dX5_countStuck_30 : decode cX5_countStuck 30 = .ok (.invokevirtual 183, 3) := by decide +kernel
theorem dX5_countStuck_33 : decode cX5_countStuck 33 = .ok (.ifCond .ne 17, 3) := by decide +kernel
theorem dX5_countStuck_36 : decode cX5_countStuck 36 = .ok (.aload_n 0, 1) := by decide +kernel
theorem dX5_countStuck_37 : decode cX5_countStuck 37 = .ok (.getfield 32, 3) := by decide +kernel
theorem dX5_countStuck_40 : decode cX5_countStuck 40 = .ok (.iload_n 3, 1) := by decide +kernel
theorem dX5_countStuck_41 : decode cX5_countStuck 41 = .ok (.invokevirtual 186, 3) := by decide +kernel
theorem dX5_countStuck_44 : decode cX5_countStuck 44 = .ok (.ifCond .ne 6, 3) := by decide +kernel
theorem dX5_countStuck_47 : decode cX5_countStuck 47 = .ok (.iinc 1 1, 3) := by decide +kernel
theorem dX5_countStuck_50 : decode cX5_countStuck 50 = .ok (.iinc 2 1, 3) := by decide +kernel
theorem dX5_countStuck_53 : decode cX5_countStuck 53 = .ok (.goto (-49), 3) := by decide +kernel
theorem dX5_countStuck_56 : decode cX5_countStuck 56 = .ok (.iload_n 1, 1) := by decide +kernel
theorem dX5_countStuck_57 : decode cX5_countStuck 57 = .ok (.ireturn, 1) := by decide +kernel
theorem dX5_countHopeless_0 : decode cX5_countHopeless 0 = .ok (.iconst 0, 1) := by decide +kernel
theorem dX5_countHopeless_1 : decode cX5_countHopeless 1 = .ok (.istore_n 1, 1) := by decide +kernel
theorem dX5_countHopeless_2 : decode cX5_countHopeless 2 = .ok (.iconst 0, 1) := by decide +kernel
theorem dX5_countHopeless_3 : decode cX5_countHopeless 3 = .ok (.istore_n 2, 1) := by decide +kernel
theorem dX5_countHopeless_4 : decode cX5_countHopeless 4 = .ok (.iload_n 2, 1) := by decide +kernel
theorem dX5_countHopeless_5 : decode cX5_countHopeless 5 = .ok (.aload_n 0, 1) := by decide +kernel
theorem dX5_countHopeless_6 : decode cX5_countHopeless 6 = .ok (.getfield 32, 3) := by decide +kernel
theorem dX5_countHopeless_9 : decode cX5_countHopeless 9 = .ok (.getfield 160, 3) := by decide +kernel
theorem dX5_countHopeless_12 : decode cX5_countHopeless 12 = .ok (.if_icmp .ge 28, 3) := by decide +kernel
theorem dX5_countHopeless_15 : decode cX5_countHopeless 15 = .ok (.aload_n 0, 1) := by decide +kernel
theorem dX5_countHopeless_16 : decode cX5_countHopeless 16 = .ok (.aload_n 0, 1) := by decide +kernel
theorem dX5_countHopeless_17 : decode cX5_countHopeless 17 = .ok (.getfield 32, 3) := by decide +kernel
theorem dX5_countHopeless_20 : decode cX5_countHopeless 20 = .ok (.getfield 180, 3) := by decide +kernel
theorem dX5_countHopeless_23 : decode cX5_countHopeless 23 = .ok (.iload_n 2, 1) := by decide +kernel
theorem dX5_countHopeless_24 : decode cX5_countHopeless 24 = .ok (.iaload, 1) := by decide +kernel
theorem dX5_countHopeless_25 : decode cX5_countHopeless 25 = .ok (.invokevirtual 189, 3) := by decide +kernel
theorem dX5_countHopeless_28 : decode cX5_countHopeless 28 = .ok (.ifCond .eq 6, 3) := by decide +kernel
theorem dX5_countHopeless_31 : decode cX5_countHopeless 31 = .ok (.iinc 1 1, 3) := by decide +kernel
theorem dX5_countHopeless_34 : decode cX5_countHopeless 34 = .ok (.iinc 2 1, 3) := by decide +kernel
theorem dX5_countHopeless_37 : decode cX5_countHopeless 37 = .ok (.goto (-33), 3) := by decide +kernel
theorem dX5_countHopeless_40 : decode cX5_countHopeless 40 = .ok (.iload_n 1, 1) := by decide +kernel
theorem dX5_countHopeless_41 : decode cX5_countHopeless 41 = .ok (.ireturn, 1) := by decide +kernel
theorem dX5_isHopeless_0 : decode cX5_isHopeless 0 = .ok (.aload_n 0, 1) := by decide +kernel
theorem dX5_isHopeless_1 : decode cX5_isHopeless 1 = .ok (.getfield 32, 3) := by decide +kernel
theorem dX5_isHopeless_4 : decode cX5_isHopeless 4 = .ok (.getfield 192, 3) := by decide +kernel
theorem dX5_isHopeless_7 : decode cX5_isHopeless 7 = .ok (.iload_n 1, 1) := by decide +kernel
theorem dX5_isHopeless_8 : decode cX5_isHopeless 8 = .ok (.iaload, 1) := by decide +kernel
theorem dX5_isHopeless_9 : decode cX5_isHopeless 9 = .ok (.ifCond .ne 7, 3) := by decide +kernel
theorem dX5_isHopeless_12 : decode cX5_isHopeless 12 = .ok (.iconst 1, 1) := by decide +kernel
theorem dX5_isHopeless_13 : decode cX5_isHopeless 13 = .ok (.goto 4, 3) := by decide +kernel
theorem dX5_isHopeless_16 : decode cX5_isHopeless 16 = .ok (.iconst 0, 1) := by decide +kernel
theorem dX5_isHopeless_17 : decode cX5_isHopeless 17 = .ok (.ireturn, 1) := by decide +kernel
theorem dX5_reached_0 : decode cX5_reached 0 = .ok (.iload_n 1, 1) := by decide +kernel
theorem dX5_reached_1 : decode cX5_reached 1 = .ok (.invokestatic 64, 3) := by decide +kernel
theorem dX5_reached_4 : decode cX5_reached 4 = .ok (.ifCond .ne 7, 3) := by decide +kernel
theorem dX5_reached_7 : decode cX5_reached 7 = .ok (.sipush (-1002), 3) := by decide +kernel
theorem dX5_reached_10 : decode cX5_reached 10 = .ok (.ireturn, 1) := by decide +kernel
theorem dX5_reached_11 : decode cX5_reached 11 = .ok (.aload_n 0, 1) := by decide +kernel
theorem dX5_reached_12 : decode cX5_reached 12 = .ok (.invokevirtual 157, 3) := by decide +kernel
theorem dX5_reached_15 : decode cX5_reached 15 = .ok (.iconst 0, 1) := by decide +kernel
theorem dX5_reached_16 : decode cX5_reached 16 = .ok (.istore_n 2, 1) := by decide +kernel
theorem dX5_reached_17 : decode cX5_reached 17 = .ok (.iconst 0, 1) := by decide +kernel
theorem dX5_reached_18 : decode cX5_reached 18 = .ok (.istore_n 3, 1) := by decide +kernel
theorem dX5_reached_19 : decode cX5_reached 19 = .ok (.iload_n 3, 1) := by decide +kernel
theorem dX5_reached_20 : decode cX5_reached 20 = .ok (.aload_n 0, 1) := by decide +kernel
theorem dX5_reached_21 : decode cX5_reached 21 = .ok (.getfield 32, 3) := by decide +kernel
theorem dX5_reached_24 : decode cX5_reached 24 = .ok (.getfield 160, 3) := by decide +kernel
theorem dX5_reached_27 : decode cX5_reached 27 = .ok (.if_icmp .ge 28, 3) := by decide +kernel
theorem dX5_reached_30 : decode cX5_reached 30 = .ok (.aload_n 0, 1) := by decide +kernel
theorem dX5_reached_31 : decode cX5_reached 31 = .ok (.getfield 32, 3) := by decide +kernel
theorem dX5_reached_34 : decode cX5_reached 34 = .ok (.getfield 180, 3) := by decide +kernel
theorem dX5_reached_37 : decode cX5_reached 37 = .ok (.iload_n 3, 1) := by decide +kernel
theorem dX5_reached_38 : decode cX5_reached 38 = .ok (.iaload, 1) := by decide +kernel
theorem dX5_reached_39 : decode cX5_reached 39 = .ok (.invokestatic 195, 3) := by decide +kernel
theorem dX5_reached_42 : decode cX5_reached 42 = .ok (.iload_n 1, 1) := by decide +kernel
theorem dX5_reached_43 : decode cX5_reached 43 = .ok (.if_icmp .ne 6, 3) := by decide +kernel
theorem dX5_reached_46 : decode cX5_reached 46 = .ok (.iinc 2 1, 3) := by decide +kernel
theorem dX5_reached_49 : decode cX5_reached 49 = .ok (.iinc 3 1, 3) := by decide +kernel
theorem dX5_reached_52 : decode cX5_reached 52 = .ok (.goto (-33), 3) := by decide +kernel
theorem dX5_reached_55 : decode cX5_reached 55 = .ok (.iload_n 2, 1) := by decide +kernel
theorem dX5_reached_56 : decode cX5_reached 56 = .ok (.ireturn, 1) := by decide +kernel
theorem dX5_live_0 : decode cX5_live 0 = .ok (.iload_n 1, 1) := by decide +kernel
theorem dX5_live_1 : decode cX5_live 1 = .ok (.invokestatic 64, 3) := by decide +kernel
theorem dX5_live_4 : decode cX5_live 4 = .ok (.ifCond .ne 7, 3) := by decide +kernel
theorem dX5_live_7 : decode cX5_live 7 = .ok (.sipush (-1002), 3) := by decide +kernel
theorem dX5_live_10 : decode cX5_live 10 = .ok (.ireturn, 1) := by decide +kernel
theorem dX5_live_11 : decode cX5_live 11 = .ok (.aload_n 0, 1) := by decide +kernel
theorem dX5_live_12 : decode cX5_live 12 = .ok (.getfield 19, 3) := by decide +kernel
theorem dX5_live_15 : decode cX5_live 15 = .ok (.iload_n 1, 1) := by decide +kernel
theorem dX5_live_16 : decode cX5_live 16 = .ok (.invokevirtual 76, 3) := by decide +kernel
theorem dX5_live_19 : decode cX5_live 19 = .ok (.invokevirtual 107, 3) := by decide +kernel
theorem dX5_live_22 : decode cX5_live 22 = .ok (.ifCond .ne 11, 3) := by decide +kernel
theorem dX5_live_25 : decode cX5_live 25 = .ok (.aload_n 0, 1) := by decide +kernel
theorem dX5_live_26 : decode cX5_live 26 = .ok (.sipush (-1010), 3) := by decide +kernel
theorem dX5_live_29 : decode cX5_live 29 = .ok (.invokevirtual 111, 3) := by decide +kernel
theorem dX5_live_32 : decode cX5_live 32 = .ok (.ireturn, 1) := by decide +kernel
theorem dX5_live_33 : decode cX5_live 33 = .ok (.aload_n 0, 1) := by decide +kernel
theorem dX5_live_34 : decode cX5_live 34 = .ok (.getfield 19, 3) := by decide +kernel
theorem dX5_live_37 : decode cX5_live 37 = .ok (.aload_n 0, 1) := by decide +kernel
theorem dX5_live_38 : decode cX5_live 38 = .ok (.getfield 36, 3) := by decide +kernel
theorem dX5_live_41 : decode cX5_live 41 = .ok (.invokevirtual 172, 3) := by decide +kernel
theorem dX5_live_44 : decode cX5_live 44 = .ok (.aload_n 0, 1) := by decide +kernel
theorem dX5_live_45 : decode cX5_live 45 = .ok (.getfield 36, 3) := by decide +kernel
theorem dX5_live_48 : decode cX5_live 48 = .ok (.iload_n 1, 1) := by decide +kernel
theorem dX5_live_49 : decode cX5_live 49 = .ok (.iaload, 1) := by decide +kernel
theorem dX5_live_50 : decode cX5_live 50 = .ok (.ireturn, 1) := by decide +kernel
theorem dX5_open_0 : decode cX5_open 0 = .ok (.iload_n 1, 1) := by decide +kernel
theorem dX5_open_1 : decode cX5_open 1 = .ok (.invokestatic 64, 3) := by decide +kernel
theorem dX5_open_4 : decode cX5_open 4 = .ok (.ifCond .eq 10, 3) := by decide +kernel
theorem dX5_open_7 : decode cX5_open 7 = .ok (.iload_n 2, 1) := by decide +kernel
theorem dX5_open_8 : decode cX5_open 8 = .ok (.invokestatic 118, 3) := by decide +kernel
theorem dX5_open_11 : decode cX5_open 11 = .ok (.ifCond .ne 7, 3) := by decide +kernel
theorem dX5_open_14 : decode cX5_open 14 = .ok (.sipush (-1002), 3) := by decide +kernel
theorem dX5_open_17 : decode cX5_open 17 = .ok (.ireturn, 1) := by decide +kernel
theorem dX5_open_18 : decode cX5_open 18 = .ok (.aload_n 0, 1) := by decide +kernel
theorem dX5_open_19 : decode cX5_open 19 = .ok (.getfield 19, 3) := by decide +kernel
theorem dX5_open_22 : decode cX5_open 22 = .ok (.iload_n 1, 1) := by decide +kernel
theorem dX5_open_23 : decode cX5_open 23 = .ok (.iload_n 2, 1) := by decide +kernel
theorem dX5_open_24 : decode cX5_open 24 = .ok (.invokevirtual 125, 3) := by decide +kernel
theorem dX5_open_27 : decode cX5_open 27 = .ok (.invokevirtual 107, 3) := by decide +kernel
theorem dX5_open_30 : decode cX5_open 30 = .ok (.ifCond .ne 11, 3) := by decide +kernel
theorem dX5_open_33 : decode cX5_open 33 = .ok (.aload_n 0, 1) := by decide +kernel
theorem dX5_open_34 : decode cX5_open 34 = .ok (.sipush (-1010), 3) := by decide +kernel
theorem dX5_open_37 : decode cX5_open 37 = .ok (.invokevirtual 111, 3) := by decide +kernel
theorem dX5_open_40 : decode cX5_open 40 = .ok (.ireturn, 1) := by decide +kernel
theorem dX5_open_41 : decode cX5_open 41 = .ok (.aload_n 0, 1) := by decide +kernel
theorem dX5_open_42 : decode cX5_open 42 = .ok (.invokevirtual 157, 3) := by decide +kernel
theorem dX5_open_45 : decode cX5_open 45 = .ok (.iconst 0, 1) := by decide +kernel
theorem dX5_open_46 : decode cX5_open 46 = .ok (.istore_n 3, 1) := by decide +kernel
theorem dX5_open_47 : decode cX5_open 47 = .ok (.iconst 0, 1) := by decide +kernel
theorem dX5_open_48 : decode cX5_open 48 = .ok (.istore 4, 2) := by decide +kernel
theorem dX5_open_50 : decode cX5_open 50 = .ok (.iload 4, 2) := by decide +kernel
theorem dX5_open_52 : decode cX5_open 52 = .ok (.aload_n 0, 1) := by decide +kernel
theorem dX5_open_53 : decode cX5_open 53 = .ok (.getfield 32, 3) := by decide +kernel
theorem dX5_open_56 : decode cX5_open 56 = .ok (.getfield 160, 3) := by decide +kernel
theorem dX5_open_59 : decode cX5_open 59 = .ok (.if_icmp .ge 52, 3) := by decide +kernel
theorem dX5_open_62 : decode cX5_open 62 = .ok (.aload_n 0, 1) := by decide +kernel
theorem dX5_open_63 : decode cX5_open 63 = .ok (.getfield 32, 3) := by decide +kernel
theorem dX5_open_66 : decode cX5_open 66 = .ok (.getfield 180, 3) := by decide +kernel
theorem dX5_open_69 : decode cX5_open 69 = .ok (.iload 4, 2) := by decide +kernel
theorem dX5_open_71 : decode cX5_open 71 = .ok (.iaload, 1) := by decide +kernel
theorem dX5_open_72 : decode cX5_open 72 = .ok (.istore 5, 2) := by decide +kernel
theorem dX5_open_74 : decode cX5_open 74 = .ok (.iload 5, 2) := by decide +kernel
theorem dX5_open_76 : decode cX5_open 76 = .ok (.invokestatic 195, 3) := by decide +kernel
theorem dX5_open_79 : decode cX5_open 79 = .ok (.iload_n 1, 1) := by decide +kernel
theorem dX5_open_80 : decode cX5_open 80 = .ok (.if_icmp .ne 25, 3) := by decide +kernel
theorem dX5_open_83 : decode cX5_open 83 = .ok (.aload_n 0, 1) := by decide +kernel
theorem dX5_open_84 : decode cX5_open 84 = .ok (.getfield 32, 3) := by decide +kernel
theorem dX5_open_87 : decode cX5_open 87 = .ok (.getfield 198, 3) := by decide +kernel
theorem dX5_open_90 : decode cX5_open 90 = .ok (.iload 5, 2) := by decide +kernel
theorem dX5_open_92 : decode cX5_open 92 = .ok (.bipush 6, 2) := by decide +kernel
theorem dX5_open_94 : decode cX5_open 94 = .ok (.imul, 1) := by decide +kernel
theorem dX5_open_95 : decode cX5_open 95 = .ok (.iload_n 2, 1) := by decide +kernel
theorem dX5_open_96 : decode cX5_open 96 = .ok (.iadd, 1) := by decide +kernel
theorem dX5_open_97 : decode cX5_open 97 = .ok (.iaload, 1) := by decide +kernel
theorem dX5_open_98 : decode cX5_open 98 = .ok (.iconst (-1), 1) := by decide +kernel
theorem dX5_open_99 : decode cX5_open 99 = .ok (.if_icmp .eq 6, 3) := by decide +kernel
theorem dX5_open_102 : decode cX5_open 102 = .ok (.iinc 3 1, 3) := by decide +kernel
theorem dX5_open_105 : decode cX5_open 105 = .ok (.iinc 4 1, 3) := by decide +kernel
theorem dX5_open_108 : decode cX5_open 108 = .ok (.goto (-58), 3) := by decide +kernel
theorem dX5_open_111 : decode cX5_open 111 = .ok (.iload_n 3, 1) := by decide +kernel
theorem dX5_open_112 : decode cX5_open 112 = .ok (.ireturn, 1) := by decide +kernel
theorem dX5_trap_0 : decode cX5_trap 0 = .ok (.iload_n 1, 1) := by decide +kernel
theorem dX5_trap_1 : decode cX5_trap 1 = .ok (.ifCond .ge 7, 3) := by decide +kernel
theorem dX5_trap_4 : decode cX5_trap 4 = .ok (.sipush (-1003), 3) := by decide +kernel
theorem dX5_trap_7 : decode cX5_trap 7 = .ok (.ireturn, 1) := by decide +kernel
theorem dX5_trap_8 : decode cX5_trap 8 = .ok (.aload_n 0, 1) := by decide +kernel
theorem dX5_trap_9 : decode cX5_trap 9 = .ok (.invokevirtual 157, 3) := by decide +kernel
theorem dX5_trap_12 : decode cX5_trap 12 = .ok (.aload_n 0, 1) := by decide +kernel
theorem dX5_trap_13 : decode cX5_trap 13 = .ok (.invokevirtual 201, 3) := by decide +kernel
theorem dX5_trap_16 : decode cX5_trap 16 = .ok (.iload_n 1, 1) := by decide +kernel
theorem dX5_trap_17 : decode cX5_trap 17 = .ok (.istore_n 2, 1) := by decide +kernel
theorem dX5_trap_18 : decode cX5_trap 18 = .ok (.iconst 0, 1) := by decide +kernel
theorem dX5_trap_19 : decode cX5_trap 19 = .ok (.istore_n 3, 1) := by decide +kernel
theorem dX5_trap_20 : decode cX5_trap 20 = .ok (.iload_n 3, 1) := by decide +kernel
theorem dX5_trap_21 : decode cX5_trap 21 = .ok (.bipush 20, 2) := by decide +kernel
theorem dX5_trap_23 : decode cX5_trap 23 = .ok (.if_icmp .ge 57, 3) := by decide +kernel
theorem dX5_trap_26 : decode cX5_trap 26 = .ok (.iconst 0, 1) := by decide +kernel
theorem dX5_trap_27 : decode cX5_trap 27 = .ok (.istore 4, 2) := by decide +kernel
theorem dX5_trap_29 : decode cX5_trap 29 = .ok (.iload 4, 2) := by decide +kernel
theorem dX5_trap_31 : decode cX5_trap 31 = .ok (.bipush 6, 2) := by decide +kernel
theorem dX5_trap_33 : decode cX5_trap 33 = .ok (.if_icmp .ge 41, 3) := by decide +kernel
theorem dX5_trap_36 : decode cX5_trap 36 = .ok (.aload_n 0, 1) := by decide +kernel
theorem dX5_trap_37 : decode cX5_trap 37 = .ok (.getfield 40, 3) := by decide +kernel
theorem dX5_trap_40 : decode cX5_trap 40 = .ok (.iload_n 3, 1) := by decide +kernel
theorem dX5_trap_41 : decode cX5_trap 41 = .ok (.iaload, 1) := by decide +kernel
theorem dX5_trap_42 : decode cX5_trap 42 = .ok (.iload 4, 2) := by decide +kernel
theorem dX5_trap_44 : decode cX5_trap 44 = .ok (.ishr, 1) := by decide +kernel
theorem dX5_trap_45 : decode cX5_trap 45 = .ok (.iconst 1, 1) := by decide +kernel
theorem dX5_trap_46 : decode cX5_trap 46 = .ok (.iand, 1) := by decide +kernel
theorem dX5_trap_47 : decode cX5_trap 47 = .ok (.ifCond .ne 6, 3) := by decide +kernel
theorem dX5_trap_50 : decode cX5_trap 50 = .ok (.goto 18, 3) := by decide +kernel
theorem dX5_trap_53 : decode cX5_trap 53 = .ok (.iload_n 2, 1) := by decide +kernel
theorem dX5_trap_54 : decode cX5_trap 54 = .ok (.ifCond .ne 11, 3) := by decide +kernel
theorem dX5_trap_57 : decode cX5_trap 57 = .ok (.bipush 10, 2) := by decide +kernel
theorem dX5_trap_59 : decode cX5_trap 59 = .ok (.iload_n 3, 1) := by decide +kernel
theorem dX5_trap_60 : decode cX5_trap 60 = .ok (.imul, 1) := by decide +kernel
theorem dX5_trap_61 : decode cX5_trap 61 = .ok (.iload 4, 2) := by decide +kernel
theorem dX5_trap_63 : decode cX5_trap 63 = .ok (.iadd, 1) := by decide +kernel
theorem dX5_trap_64 : decode cX5_trap 64 = .ok (.ireturn, 1) := by decide +kernel
theorem dX5_trap_65 : decode cX5_trap 65 = .ok (.iinc 2 (-1), 3) := by decide +kernel
theorem dX5_trap_68 : decode cX5_trap 68 = .ok (.iinc 4 1, 3) := by decide +kernel
theorem dX5_trap_71 : decode cX5_trap 71 = .ok (.goto (-42), 3) := by decide +kernel
theorem dX5_trap_74 : decode cX5_trap 74 = .ok (.iinc 3 1, 3) := by decide +kernel
theorem dX5_trap_77 : decode cX5_trap 77 = .ok (.goto (-57), 3) := by decide +kernel
theorem dX5_trap_80 : decode cX5_trap 80 = .ok (.sipush (-1003), 3) := by decide +kernel
theorem dX5_trap_83 : decode cX5_trap 83 = .ok (.ireturn, 1) := by decide +kernel
theorem dX5_findTraps_0 : decode cX5_findTraps 0 = .ok (.iconst 0, 1) := by decide +kernel
theorem dX5_findTraps_1 : decode cX5_findTraps 1 = .ok (.istore_n 1, 1) := by decide +kernel
theorem dX5_findTraps_2 : decode cX5_findTraps 2 = .ok (.iload_n 1, 1) := by decide +kernel
theorem dX5_findTraps_3 : decode cX5_findTraps 3 = .ok (.bipush 20, 2) := by decide +kernel
theorem dX5_findTraps_5 : decode cX5_findTraps 5 = .ok (.if_icmp .ge 16, 3) := by decide +kernel
theorem dX5_findTraps_8 : decode cX5_findTraps 8 = .ok (.aload_n 0, 1) := by decide +kernel
theorem dX5_findTraps_9 : decode cX5_findTraps 9 = .ok (.getfield 40, 3) := by decide +kernel
theorem dX5_findTraps_12 : decode cX5_findTraps 12 = .ok (.iload_n 1, 1) := by decide +kernel
theorem dX5_findTraps_13 : decode cX5_findTraps 13 = .ok (.iconst 0, 1) := by decide +kernel
theorem dX5_findTraps_14 : decode cX5_findTraps 14 = .ok (.iastore, 1) := by decide +kernel
theorem dX5_findTraps_15 : decode cX5_findTraps 15 = .ok (.iinc 1 1, 3) := by decide +kernel
theorem dX5_findTraps_18 : decode cX5_findTraps 18 = .ok (.goto (-16), 3) := by decide +kernel
theorem dX5_findTraps_21 : decode cX5_findTraps 21 = .ok (.iconst 0, 1) := by decide +kernel
theorem dX5_findTraps_22 : decode cX5_findTraps 22 = .ok (.istore_n 1, 1) := by decide +kernel
theorem dX5_findTraps_23 : decode cX5_findTraps 23 = .ok (.iload_n 1, 1) := by decide +kernel
theorem dX5_findTraps_24 : decode cX5_findTraps 24 = .ok (.aload_n 0, 1) := by decide +kernel
theorem dX5_findTraps_25 : decode cX5_findTraps 25 = .ok (.getfield 32, 3) := by decide +kernel
theorem dX5_findTraps_28 : decode cX5_findTraps 28 = .ok (.getfield 160, 3) := by decide +kernel
theorem dX5_findTraps_31 : decode cX5_findTraps 31 = .ok (.if_icmp .ge 44, 3) := by decide +kernel
theorem dX5_findTraps_34 : decode cX5_findTraps 34 = .ok (.aload_n 0, 1) := by decide +kernel
theorem dX5_findTraps_35 : decode cX5_findTraps 35 = .ok (.getfield 32, 3) := by decide +kernel
theorem dX5_findTraps_38 : decode cX5_findTraps 38 = .ok (.getfield 180, 3) := by decide +kernel
theorem dX5_findTraps_41 : decode cX5_findTraps 41 = .ok (.iload_n 1, 1) := by decide +kernel
theorem dX5_findTraps_42 : decode cX5_findTraps 42 = .ok (.iaload, 1) := by decide +kernel
theorem dX5_findTraps_43 : decode cX5_findTraps 43 = .ok (.istore_n 2, 1) := by decide +kernel
theorem dX5_findTraps_44 : decode cX5_findTraps 44 = .ok (.aload_n 0, 1) := by decide +kernel
theorem dX5_findTraps_45 : decode cX5_findTraps 45 = .ok (.iload_n 2, 1) := by decide +kernel
theorem dX5_findTraps_46 : decode cX5_findTraps 46 = .ok (.invokevirtual 189, 3) := by decide +kernel
theorem dX5_findTraps_49 : decode cX5_findTraps 49 = .ok (.ifCond .ne 20, 3) := by decide +kernel
theorem dX5_findTraps_52 : decode cX5_findTraps 52 = .ok (.aload_n 0, 1) := by decide +kernel
theorem dX5_findTraps_53 : decode cX5_findTraps 53 = .ok (.getfield 40, 3) := by decide +kernel
theorem dX5_findTraps_56 : decode cX5_findTraps 56 = .ok (.iload_n 2, 1) := by decide +kernel
theorem dX5_findTraps_57 : decode cX5_findTraps 57 = .ok (.invokestatic 195, 3) := by decide +kernel
theorem dX5_findTraps_60 : decode cX5_findTraps 60 = .ok (.dup2, 1) := by decide +kernel
theorem dX5_findTraps_61 : decode cX5_findTraps 61 = .ok (.iaload, 1) := by decide +kernel
theorem dX5_findTraps_62 : decode cX5_findTraps 62 = .ok (.aload_n 0, 1) := by decide +kernel
theorem dX5_findTraps_63 : decode cX5_findTraps 63 = .ok (.iload_n 2, 1) := by decide +kernel
theorem dX5_findTraps_64 : decode cX5_findTraps 64 = .ok (.invokevirtual 204, 3) := by decide +kernel
theorem dX5_findTraps_67 : decode cX5_findTraps 67 = .ok (.ior, 1) := by decide +kernel
theorem dX5_findTraps_68 : decode cX5_findTraps 68 = .ok (.iastore, 1) := by decide +kernel
theorem dX5_findTraps_69 : decode cX5_findTraps 69 = .ok (.iinc 1 1, 3) := by decide +kernel
theorem dX5_findTraps_72 : decode cX5_findTraps 72 = .ok (.goto (-49), 3) := by decide +kernel
theorem dX5_findTraps_75 : decode cX5_findTraps 75 = .ok (.return_, 1) := by decide +kernel
theorem dX5_trapsOf_0 : decode cX5_trapsOf 0 = .ok (.iconst 0, 1) := by decide +kernel
theorem dX5_trapsOf_1 : decode cX5_trapsOf 1 = .ok (.istore_n 2, 1) := by decide +kernel
theorem dX5_trapsOf_2 : decode cX5_trapsOf 2 = .ok (.iconst 0, 1) := by decide +kernel
theorem dX5_trapsOf_3 : decode cX5_trapsOf 3 = .ok (.istore_n 3, 1) := by decide +kernel
theorem dX5_trapsOf_4 : decode cX5_trapsOf 4 = .ok (.iload_n 3, 1) := by decide +kernel
theorem dX5_trapsOf_5 : decode cX5_trapsOf 5 = .ok (.bipush 6, 2) := by decide +kernel
theorem dX5_trapsOf_7 : decode cX5_trapsOf 7 = .ok (.if_icmp .ge 46, 3) := by decide +kernel
theorem dX5_trapsOf_10 : decode cX5_trapsOf 10 = .ok (.aload_n 0, 1) := by decide +kernel
theorem dX5_trapsOf_11 : decode cX5_trapsOf 11 = .ok (.getfield 32, 3) := by decide +kernel
theorem dX5_trapsOf_14 : decode cX5_trapsOf 14 = .ok (.getfield 198, 3) := by decide +kernel
theorem dX5_trapsOf_17 : decode cX5_trapsOf 17 = .ok (.iload_n 1, 1) := by decide +kernel
theorem dX5_trapsOf_18 : decode cX5_trapsOf 18 = .ok (.bipush 6, 2) := by decide +kernel
theorem dX5_trapsOf_20 : decode cX5_trapsOf 20 = .ok (.imul, 1) := by decide +kernel
theorem dX5_trapsOf_21 : decode cX5_trapsOf 21 = .ok (.iload_n 3, 1) := by decide +kernel
theorem dX5_trapsOf_22 : decode cX5_trapsOf 22 = .ok (.iadd, 1) := by decide +kernel
theorem dX5_trapsOf_23 : decode cX5_trapsOf 23 = .ok (.iaload, 1) := by decide +kernel
theorem dX5_trapsOf_24 : decode cX5_trapsOf 24 = .ok (.istore 4, 2) := by decide +kernel
theorem dX5_trapsOf_26 : decode cX5_trapsOf 26 = .ok (.iload 4, 2) := by decide +kernel
theorem dX5_trapsOf_28 : decode cX5_trapsOf 28 = .ok (.iconst (-1), 1) := by decide +kernel
theorem dX5_trapsOf_29 : decode cX5_trapsOf 29 = .ok (.if_icmp .eq 18, 3) := by decide +kernel
theorem dX5_trapsOf_32 : decode cX5_trapsOf 32 = .ok (.aload_n 0, 1) := by decide +kernel
theorem dX5_trapsOf_33 : decode cX5_trapsOf 33 = .ok (.iload 4, 2) := by decide +kernel
theorem dX5_trapsOf_35 : decode cX5_trapsOf 35 = .ok (.invokevirtual 189, 3) := by decide +kernel
theorem dX5_trapsOf_38 : decode cX5_trapsOf 38 = .ok (.ifCond .eq 9, 3) := by decide +kernel
theorem dX5_trapsOf_41 : decode cX5_trapsOf 41 = .ok (.iload_n 2, 1) := by decide +kernel
theorem dX5_trapsOf_42 : decode cX5_trapsOf 42 = .ok (.iconst 1, 1) := by decide +kernel
theorem dX5_trapsOf_43 : decode cX5_trapsOf 43 = .ok (.iload_n 3, 1) := by decide +kernel
theorem dX5_trapsOf_44 : decode cX5_trapsOf 44 = .ok (.ishl, 1) := by decide +kernel
theorem dX5_trapsOf_45 : decode cX5_trapsOf 45 = .ok (.ior, 1) := by decide +kernel
theorem dX5_trapsOf_46 : decode cX5_trapsOf 46 = .ok (.istore_n 2, 1) := by decide +kernel
theorem dX5_trapsOf_47 : decode cX5_trapsOf 47 = .ok (.iinc 3 1, 3) := by decide +kernel
theorem dX5_trapsOf_50 : decode cX5_trapsOf 50 = .ok (.goto (-46), 3) := by decide +kernel
theorem dX5_trapsOf_53 : decode cX5_trapsOf 53 = .ok (.iload_n 2, 1) := by decide +kernel
theorem dX5_trapsOf_54 : decode cX5_trapsOf 54 = .ok (.ireturn, 1) := by decide +kernel
theorem dX5_way_0 : decode cX5_way 0 = .ok (.iload_n 1, 1) := by decide +kernel
theorem dX5_way_1 : decode cX5_way 1 = .ok (.invokestatic 64, 3) := by decide +kernel
theorem dX5_way_4 : decode cX5_way 4 = .ok (.ifCond .ne 7, 3) := by decide +kernel
theorem dX5_way_7 : decode cX5_way 7 = .ok (.sipush (-1002), 3) := by decide +kernel
theorem dX5_way_10 : decode cX5_way 10 = .ok (.ireturn, 1) := by decide +kernel
theorem dX5_way_11 : decode cX5_way 11 = .ok (.aload_n 0, 1) := by decide +kernel
theorem dX5_way_12 : decode cX5_way 12 = .ok (.invokevirtual 157, 3) := by decide +kernel
theorem dX5_way_15 : decode cX5_way 15 = .ok (.aload_n 0, 1) := by decide +kernel
theorem dX5_way_16 : decode cX5_way 16 = .ok (.getfield 32, 3) := by decide +kernel
theorem dX5_way_19 : decode cX5_way 19 = .ok (.iload_n 1, 1) := by decide +kernel
theorem dX5_way_20 : decode cX5_way 20 = .ok (.invokevirtual 207, 3) := by decide +kernel
theorem dX5_way_23 : decode cX5_way 23 = .ok (.istore_n 2, 1) := by decide +kernel
theorem dX5_way_24 : decode cX5_way 24 = .ok (.iload_n 2, 1) := by decide +kernel
theorem dX5_way_25 : decode cX5_way 25 = .ok (.iconst (-1), 1) := by decide +kernel
theorem dX5_way_26 : decode cX5_way 26 = .ok (.if_icmp .ne 9, 3) := by decide +kernel
theorem dX5_way_29 : decode cX5_way 29 = .ok (.sipush (-1003), 3) := by decide +kernel
theorem dX5_way_32 : decode cX5_way 32 = .ok (.goto 12, 3) := by decide +kernel
theorem dX5_way_35 : decode cX5_way 35 = .ok (.aload_n 0, 1) := by decide +kernel
theorem dX5_way_36 : decode cX5_way 36 = .ok (.getfield 32, 3) := by decide +kernel
theorem dX5_way_39 : decode cX5_way 39 = .ok (.getfield 210, 3) := by decide +kernel
theorem dX5_way_42 : decode cX5_way 42 = .ok (.iload_n 2, 1) := by decide +kernel
theorem dX5_way_43 : decode cX5_way 43 = .ok (.iaload, 1) := by decide +kernel
theorem dX5_way_44 : decode cX5_way 44 = .ok (.ireturn, 1) := by decide +kernel
theorem dX5_step_0 : decode cX5_step 0 = .ok (.iload_n 1, 1) := by decide +kernel
theorem dX5_step_1 : decode cX5_step 1 = .ok (.invokestatic 64, 3) := by decide +kernel
theorem dX5_step_4 : decode cX5_step 4 = .ok (.ifCond .eq 7, 3) := by decide +kernel
theorem dX5_step_7 : decode cX5_step 7 = .ok (.iload_n 2, 1) := by decide +kernel
theorem dX5_step_8 : decode cX5_step 8 = .ok (.ifCond .ge 7, 3) := by decide +kernel
theorem dX5_step_11 : decode cX5_step 11 = .ok (.sipush (-1002), 3) := by decide +kernel
theorem dX5_step_14 : decode cX5_step 14 = .ok (.ireturn, 1) := by decide +kernel
theorem dX5_step_15 : decode cX5_step 15 = .ok (.aload_n 0, 1) := by decide +kernel
theorem dX5_step_16 : decode cX5_step 16 = .ok (.invokevirtual 157, 3) := by decide +kernel
theorem dX5_step_19 : decode cX5_step 19 = .ok (.aload_n 0, 1) := by decide +kernel
theorem dX5_step_20 : decode cX5_step 20 = .ok (.getfield 32, 3) := by decide +kernel
theorem dX5_step_23 : decode cX5_step 23 = .ok (.iload_n 1, 1) := by decide +kernel
theorem dX5_step_24 : decode cX5_step 24 = .ok (.invokevirtual 207, 3) := by decide +kernel
theorem dX5_step_27 : decode cX5_step 27 = .ok (.istore_n 3, 1) := by decide +kernel
theorem dX5_step_28 : decode cX5_step 28 = .ok (.iload_n 3, 1) := by decide +kernel
theorem dX5_step_29 : decode cX5_step 29 = .ok (.iconst (-1), 1) := by decide +kernel
theorem dX5_step_30 : decode cX5_step 30 = .ok (.if_icmp .ne 9, 3) := by decide +kernel
theorem dX5_step_33 : decode cX5_step 33 = .ok (.sipush (-1003), 3) := by decide +kernel
theorem dX5_step_36 : decode cX5_step 36 = .ok (.goto 12, 3) := by decide +kernel
theorem dX5_step_39 : decode cX5_step 39 = .ok (.aload_n 0, 1) := by decide +kernel
theorem dX5_step_40 : decode cX5_step 40 = .ok (.getfield 32, 3) := by decide +kernel
theorem dX5_step_43 : decode cX5_step 43 = .ok (.iload_n 3, 1) := by decide +kernel
theorem dX5_step_44 : decode cX5_step 44 = .ok (.iload_n 2, 1) := by decide +kernel
theorem dX5_step_45 : decode cX5_step 45 = .ok (.invokevirtual 213, 3) := by decide +kernel
theorem dX5_step_48 : decode cX5_step 48 = .ok (.ireturn, 1) := by decide +kernel
theorem dX5_ways_0 : decode cX5_ways 0 = .ok (.iload_n 1, 1) := by decide +kernel
theorem dX5_ways_1 : decode cX5_ways 1 = .ok (.ifCond .lt 9, 3) := by decide +kernel
theorem dX5_ways_4 : decode cX5_ways 4 = .ok (.iload_n 1, 1) := by decide +kernel
theorem dX5_ways_5 : decode cX5_ways 5 = .ok (.bipush 20, 2) := by decide +kernel
theorem dX5_ways_7 : decode cX5_ways 7 = .ok (.if_icmp .le 7, 3) := by decide +kernel
theorem dX5_ways_10 : decode cX5_ways 10 = .ok (.ldc2_w 216, 3) := by decide +kernel
theorem dX5_ways_13 : decode cX5_ways 13 = .ok (.lreturn, 1) := by decide +kernel
theorem dX5_ways_14 : decode cX5_ways 14 = .ok (.aload_n 0, 1) := by decide +kernel
theorem dX5_ways_15 : decode cX5_ways 15 = .ok (.invokevirtual 157, 3) := by decide +kernel
theorem dX5_ways_18 : decode cX5_ways 18 = .ok (.aload_n 0, 1) := by decide +kernel
theorem dX5_ways_19 : decode cX5_ways 19 = .ok (.getfield 32, 3) := by decide +kernel
theorem dX5_ways_22 : decode cX5_ways 22 = .ok (.iload_n 1, 1) := by decide +kernel
theorem dX5_ways_23 : decode cX5_ways 23 = .ok (.invokevirtual 218, 3) := by decide +kernel
theorem dX5_ways_26 : decode cX5_ways 26 = .ok (.lconst 0, 1) := by decide +kernel
theorem dX5_ways_27 : decode cX5_ways 27 = .ok (.lstore_n 2, 1) := by decide +kernel
theorem dX5_ways_28 : decode cX5_ways 28 = .ok (.iconst 0, 1) := by decide +kernel
theorem dX5_ways_29 : decode cX5_ways 29 = .ok (.istore 4, 2) := by decide +kernel
theorem dX5_ways_31 : decode cX5_ways 31 = .ok (.iload 4, 2) := by decide +kernel
theorem dX5_ways_33 : decode cX5_ways 33 = .ok (.aload_n 0, 1) := by decide +kernel
theorem dX5_ways_34 : decode cX5_ways 34 = .ok (.getfield 32, 3) := by decide +kernel
theorem dX5_ways_37 : decode cX5_ways 37 = .ok (.getfield 160, 3) := by decide +kernel
theorem dX5_ways_40 : decode cX5_ways 40 = .ok (.if_icmp .ge 46, 3) := by decide +kernel
theorem dX5_ways_43 : decode cX5_ways 43 = .ok (.aload_n 0, 1) := by decide +kernel
theorem dX5_ways_44 : decode cX5_ways 44 = .ok (.getfield 32, 3) := by decide +kernel
theorem dX5_ways_47 : decode cX5_ways 47 = .ok (.getfield 180, 3) := by decide +kernel
theorem dX5_ways_50 : decode cX5_ways 50 = .ok (.iload 4, 2) := by decide +kernel
theorem dX5_ways_52 : decode cX5_ways 52 = .ok (.iaload, 1) := by decide +kernel
theorem dX5_ways_53 : decode cX5_ways 53 = .ok (.istore 5, 2) := by decide +kernel
theorem dX5_ways_55 : decode cX5_ways 55 = .ok (.aload_n 0, 1) := by decide +kernel
theorem dX5_ways_56 : decode cX5_ways 56 = .ok (.getfield 19, 3) := by decide +kernel
theorem dX5_ways_59 : decode cX5_ways 59 = .ok (.iload 5, 2) := by decide +kernel
theorem dX5_ways_61 : decode cX5_ways 61 = .ok (.invokevirtual 183, 3) := by decide +kernel
theorem dX5_ways_64 : decode cX5_ways 64 = .ok (.ifCond .eq 16, 3) := by decide +kernel
theorem dX5_ways_67 : decode cX5_ways 67 = .ok (.lload_n 2, 1) := by decide +kernel
theorem dX5_ways_68 : decode cX5_ways 68 = .ok (.aload_n 0, 1) := by decide +kernel
theorem dX5_ways_69 : decode cX5_ways 69 = .ok (.getfield 32, 3) := by decide +kernel
theorem dX5_ways_72 : decode cX5_ways 72 = .ok (.getfield 221, 3) := by decide +kernel
theorem dX5_ways_75 : decode cX5_ways 75 = .ok (.iload 5, 2) := by decide +kernel
theorem dX5_ways_77 : decode cX5_ways 77 = .ok (.laload, 1) := by decide +kernel
theorem dX5_ways_78 : decode cX5_ways 78 = .ok (.ladd, 1) := by decide +kernel
theorem dX5_ways_79 : decode cX5_ways 79 = .ok (.lstore_n 2, 1) := by decide +kernel
theorem dX5_ways_80 : decode cX5_ways 80 = .ok (.iinc 4 1, 3) := by decide +kernel
theorem dX5_ways_83 : decode cX5_ways 83 = .ok (.goto (-52), 3) := by decide +kernel
theorem dX5_ways_86 : decode cX5_ways 86 = .ok (.lload_n 2, 1) := by decide +kernel
theorem dX5_ways_87 : decode cX5_ways 87 = .ok (.lreturn, 1) := by decide +kernel
theorem dX5_freshenWeb_0 : decode cX5_freshenWeb 0 = .ok (.aload_n 0, 1) := by decide +kernel
theorem dX5_freshenWeb_1 : decode cX5_freshenWeb 1 = .ok (.getfield 100, 3) := by decide +kernel
theorem dX5_freshenWeb_4 : decode cX5_freshenWeb 4 = .ok (.ifCond .eq 4, 3) := by decide +kernel
theorem dX5_freshenWeb_7 : decode cX5_freshenWeb 7 = .ok (.return_, 1) := by decide +kernel
theorem dX5_freshenWeb_8 : decode cX5_freshenWeb 8 = .ok (.aload_n 0, 1) := by decide +kernel
theorem dX5_freshenWeb_9 : decode cX5_freshenWeb 9 = .ok (.aload_n 0, 1) := by decide +kernel
theorem dX5_freshenWeb_10 : decode cX5_freshenWeb 10 = .ok (.getfield 224, 3) := by decide +kernel
theorem dX5_freshenWeb_13 : decode cX5_freshenWeb 13 = .ok (.invokevirtual 227, 3) := by decide +kernel
theorem dX5_freshenWeb_16 : decode cX5_freshenWeb 16 = .ok (.iconst 0, 1) := by decide +kernel
theorem dX5_freshenWeb_17 : decode cX5_freshenWeb 17 = .ok (.istore_n 1, 1) := by decide +kernel
theorem dX5_freshenWeb_18 : decode cX5_freshenWeb 18 = .ok (.iload_n 1, 1) := by decide +kernel
theorem dX5_freshenWeb_19 : decode cX5_freshenWeb 19 = .ok (.aload_n 0, 1) := by decide +kernel
theorem dX5_freshenWeb_20 : decode cX5_freshenWeb 20 = .ok (.getfield 32, 3) := by decide +kernel
theorem dX5_freshenWeb_23 : decode cX5_freshenWeb 23 = .ok (.getfield 160, 3) := by decide +kernel
theorem dX5_freshenWeb_26 : decode cX5_freshenWeb 26 = .ok (.if_icmp .ge 44, 3) := by decide +kernel
theorem dX5_freshenWeb_29 : decode cX5_freshenWeb 29 = .ok (.aload_n 0, 1) := by decide +kernel
theorem dX5_freshenWeb_30 : decode cX5_freshenWeb 30 = .ok (.getfield 32, 3) := by decide +kernel
theorem dX5_freshenWeb_33 : decode cX5_freshenWeb 33 = .ok (.getfield 180, 3) := by decide +kernel
theorem dX5_freshenWeb_36 : decode cX5_freshenWeb 36 = .ok (.iload_n 1, 1) := by decide +kernel
theorem dX5_freshenWeb_37 : decode cX5_freshenWeb 37 = .ok (.iaload, 1) := by decide +kernel
theorem dX5_freshenWeb_38 : decode cX5_freshenWeb 38 = .ok (.istore_n 2, 1) := by decide +kernel
theorem dX5_freshenWeb_39 : decode cX5_freshenWeb 39 = .ok (.aload_n 0, 1) := by decide +kernel
theorem dX5_freshenWeb_40 : decode cX5_freshenWeb 40 = .ok (.getfield 32, 3) := by decide +kernel
theorem dX5_freshenWeb_43 : decode cX5_freshenWeb 43 = .ok (.getfield 192, 3) := by decide +kernel
theorem dX5_freshenWeb_46 : decode cX5_freshenWeb 46 = .ok (.iload_n 2, 1) := by decide +kernel
theorem dX5_freshenWeb_47 : decode cX5_freshenWeb 47 = .ok (.aload_n 0, 1) := by decide +kernel
theorem dX5_freshenWeb_48 : decode cX5_freshenWeb 48 = .ok (.getfield 19, 3) := by decide +kernel
theorem dX5_freshenWeb_51 : decode cX5_freshenWeb 51 = .ok (.iload_n 2, 1) := by decide +kernel
theorem dX5_freshenWeb_52 : decode cX5_freshenWeb 52 = .ok (.invokevirtual 183, 3) := by decide +kernel
theorem dX5_freshenWeb_55 : decode cX5_freshenWeb 55 = .ok (.ifCond .eq 7, 3) := by decide +kernel
theorem dX5_freshenWeb_58 : decode cX5_freshenWeb 58 = .ok (.iconst 1, 1) := by decide +kernel
theorem dX5_freshenWeb_59 : decode cX5_freshenWeb 59 = .ok (.goto 4, 3) := by decide +kernel
theorem dX5_freshenWeb_62 : decode cX5_freshenWeb 62 = .ok (.iconst 0, 1) := by decide +kernel
theorem dX5_freshenWeb_63 : decode cX5_freshenWeb 63 = .ok (.iastore, 1) := by decide +kernel
theorem dX5_freshenWeb_64 : decode cX5_freshenWeb 64 = .ok (.iinc 1 1, 3) := by decide +kernel
theorem dX5_freshenWeb_67 : decode cX5_freshenWeb 67 = .ok (.goto (-49), 3) := by decide +kernel
theorem dX5_freshenWeb_70 : decode cX5_freshenWeb 70 = .ok (.aload_n 0, 1) := by decide +kernel
theorem dX5_freshenWeb_71 : decode cX5_freshenWeb 71 = .ok (.getfield 32, 3) := by decide +kernel
theorem dX5_freshenWeb_74 : decode cX5_freshenWeb 74 = .ok (.invokevirtual 230, 3) := by decide +kernel
theorem dX5_freshenWeb_77 : decode cX5_freshenWeb 77 = .ok (.aload_n 0, 1) := by decide +kernel
theorem dX5_freshenWeb_78 : decode cX5_freshenWeb 78 = .ok (.iconst 1, 1) := by decide +kernel
theorem dX5_freshenWeb_79 : decode cX5_freshenWeb 79 = .ok (.putfield 100, 3) := by decide +kernel
theorem dX5_freshenWeb_82 : decode cX5_freshenWeb 82 = .ok (.return_, 1) := by decide +kernel
theorem dX5_weaveFromBeginning_0 : decode cX5_weaveFromBeginning 0 = .ok (.aload_n 0, 1) := by decide +kernel
theorem dX5_weaveFromBeginning_1 : decode cX5_weaveFromBeginning 1 = .ok (.iconst 0, 1) := by decide +kernel
theorem dX5_weaveFromBeginning_2 : decode cX5_weaveFromBeginning 2 = .ok (.putfield 100, 3) := by decide +kernel
theorem dX5_weaveFromBeginning_5 : decode cX5_weaveFromBeginning 5 = .ok (.aload_n 0, 1) := by decide +kernel
theorem dX5_weaveFromBeginning_6 : decode cX5_weaveFromBeginning 6 = .ok (.getfield 32, 3) := by decide +kernel
theorem dX5_weaveFromBeginning_9 : decode cX5_weaveFromBeginning 9 = .ok (.invokevirtual 233, 3) := by decide +kernel
theorem dX5_weaveFromBeginning_12 : decode cX5_weaveFromBeginning 12 = .ok (.aload_n 0, 1) := by decide +kernel
theorem dX5_weaveFromBeginning_13 : decode cX5_weaveFromBeginning 13 = .ok (.getfield 19, 3) := by decide +kernel
theorem dX5_weaveFromBeginning_16 : decode cX5_weaveFromBeginning 16 = .ok (.iload_n 1, 1) := by decide +kernel
theorem dX5_weaveFromBeginning_17 : decode cX5_weaveFromBeginning 17 = .ok (.invokevirtual 236, 3) := by decide +kernel
theorem dX5_weaveFromBeginning_20 : decode cX5_weaveFromBeginning 20 = .ok (.ifCond .eq 19, 3) := by decide +kernel
theorem dX5_weaveFromBeginning_23 : decode cX5_weaveFromBeginning 23 = .ok (.aload_n 0, 1) := by decide +kernel
theorem dX5_weaveFromBeginning_24 : decode cX5_weaveFromBeginning 24 = .ok (.getfield 32, 3) := by decide +kernel
theorem dX5_weaveFromBeginning_27 : decode cX5_weaveFromBeginning 27 = .ok (.aload_n 0, 1) := by decide +kernel
theorem dX5_weaveFromBeginning_28 : decode cX5_weaveFromBeginning 28 = .ok (.getfield 19, 3) := by decide +kernel
theorem dX5_weaveFromBeginning_31 : decode cX5_weaveFromBeginning 31 = .ok (.iconst 0, 1) := by decide +kernel
theorem dX5_weaveFromBeginning_32 : decode cX5_weaveFromBeginning 32 = .ok (.invokevirtual 239, 3) := by decide +kernel
theorem dX5_weaveFromBeginning_35 : decode cX5_weaveFromBeginning 35 = .ok (.iconst (-1), 1) := by decide +kernel
theorem dX5_weaveFromBeginning_36 : decode cX5_weaveFromBeginning 36 = .ok (.invokevirtual 242, 3) := by decide +kernel
theorem dX5_weaveFromBeginning_39 : decode cX5_weaveFromBeginning 39 = .ok (.aload_n 0, 1) := by decide +kernel
theorem dX5_weaveFromBeginning_40 : decode cX5_weaveFromBeginning 40 = .ok (.getfield 32, 3) := by decide +kernel
theorem dX5_weaveFromBeginning_43 : decode cX5_weaveFromBeginning 43 = .ok (.aload_n 0, 1) := by decide +kernel
theorem dX5_weaveFromBeginning_44 : decode cX5_weaveFromBeginning 44 = .ok (.getfield 19, 3) := by decide +kernel
theorem dX5_weaveFromBeginning_47 : decode cX5_weaveFromBeginning 47 = .ok (.iload_n 1, 1) := by decide +kernel
theorem dX5_weaveFromBeginning_48 : decode cX5_weaveFromBeginning 48 = .ok (.invokevirtual 246, 3) := by decide +kernel
theorem dX5_weaveFromBeginning_51 : decode cX5_weaveFromBeginning 51 = .ok (.return_, 1) := by decide +kernel
theorem dX5_cut_0 : decode cX5_cut 0 = .ok (.iload_n 1, 1) := by decide +kernel
theorem dX5_cut_1 : decode cX5_cut 1 = .ok (.invokestatic 64, 3) := by decide +kernel
theorem dX5_cut_4 : decode cX5_cut 4 = .ok (.ifCond .ne 7, 3) := by decide +kernel
theorem dX5_cut_7 : decode cX5_cut 7 = .ok (.sipush (-1002), 3) := by decide +kernel
theorem dX5_cut_10 : decode cX5_cut 10 = .ok (.ireturn, 1) := by decide +kernel
theorem dX5_cut_11 : decode cX5_cut 11 = .ok (.aload_n 0, 1) := by decide +kernel
theorem dX5_cut_12 : decode cX5_cut 12 = .ok (.iload_n 1, 1) := by decide +kernel
theorem dX5_cut_13 : decode cX5_cut 13 = .ok (.invokevirtual 145, 3) := by decide +kernel
theorem dX5_cut_16 : decode cX5_cut 16 = .ok (.ifCond .eq 7, 3) := by decide +kernel
theorem dX5_cut_19 : decode cX5_cut 19 = .ok (.iconst 1, 1) := by decide +kernel
theorem dX5_cut_20 : decode cX5_cut 20 = .ok (.goto 4, 3) := by decide +kernel
theorem dX5_cut_23 : decode cX5_cut 23 = .ok (.iconst 0, 1) := by decide +kernel
theorem dX5_cut_24 : decode cX5_cut 24 = .ok (.istore_n 3, 1) := by decide +kernel
theorem dX5_cut_25 : decode cX5_cut 25 = .ok (.iload_n 2, 1) := by decide +kernel
theorem dX5_cut_26 : decode cX5_cut 26 = .ok (.ifCond .eq 18, 3) := by decide +kernel
theorem dX5_cut_29 : decode cX5_cut 29 = .ok (.aload_n 0, 1) := by decide +kernel
theorem dX5_cut_30 : decode cX5_cut 30 = .ok (.dup, 1) := by decide +kernel
theorem dX5_cut_31 : decode cX5_cut 31 = .ok (.getfield 224, 3) := by decide +kernel
theorem dX5_cut_34 : decode cX5_cut 34 = .ok (.iconst 1, 1) := by decide +kernel
theorem dX5_cut_35 : decode cX5_cut 35 = .ok (.iload_n 1, 1) := by decide +kernel
theorem dX5_cut_36 : decode cX5_cut 36 = .ok (.ishl, 1) := by decide +kernel
theorem dX5_cut_37 : decode cX5_cut 37 = .ok (.ior, 1) := by decide +kernel
theorem dX5_cut_38 : decode cX5_cut 38 = .ok (.putfield 224, 3) := by decide +kernel
theorem dX5_cut_41 : decode cX5_cut 41 = .ok (.goto 17, 3) := by decide +kernel
theorem dX5_cut_44 : decode cX5_cut 44 = .ok (.aload_n 0, 1) := by decide +kernel
theorem dX5_cut_45 : decode cX5_cut 45 = .ok (.dup, 1) := by decide +kernel
theorem dX5_cut_46 : decode cX5_cut 46 = .ok (.getfield 224, 3) := by decide +kernel
theorem dX5_cut_49 : decode cX5_cut 49 = .ok (.iconst 1, 1) := by decide +kernel
theorem dX5_cut_50 : decode cX5_cut 50 = .ok (.iload_n 1, 1) := by decide +kernel
theorem dX5_cut_51 : decode cX5_cut 51 = .ok (.ishl, 1) := by decide +kernel
theorem dX5_cut_52 : decode cX5_cut 52 = .ok (.iconst (-1), 1) := by decide +kernel
theorem dX5_cut_53 : decode cX5_cut 53 = .ok (.ixor, 1) := by decide +kernel
theorem dX5_cut_54 : decode cX5_cut 54 = .ok (.iand, 1) := by decide +kernel
theorem dX5_cut_55 : decode cX5_cut 55 = .ok (.putfield 224, 3) := by decide +kernel
theorem dX5_cut_58 : decode cX5_cut 58 = .ok (.aload_n 0, 1) := by decide +kernel
theorem dX5_cut_59 : decode cX5_cut 59 = .ok (.iconst 0, 1) := by decide +kernel
theorem dX5_cut_60 : decode cX5_cut 60 = .ok (.putfield 100, 3) := by decide +kernel
theorem dX5_cut_63 : decode cX5_cut 63 = .ok (.iload_n 3, 1) := by decide +kernel
theorem dX5_cut_64 : decode cX5_cut 64 = .ok (.ireturn, 1) := by decide +kernel
theorem dX5_mend_0 : decode cX5_mend 0 = .ok (.aload_n 0, 1) := by decide +kernel
theorem dX5_mend_1 : decode cX5_mend 1 = .ok (.invokevirtual 157, 3) := by decide +kernel
theorem dX5_mend_4 : decode cX5_mend 4 = .ok (.aload_n 0, 1) := by decide +kernel
theorem dX5_mend_5 : decode cX5_mend 5 = .ok (.getfield 32, 3) := by decide +kernel
theorem dX5_mend_8 : decode cX5_mend 8 = .ok (.invokevirtual 250, 3) := by decide +kernel
theorem dX5_mend_11 : decode cX5_mend 11 = .ok (.istore_n 1, 1) := by decide +kernel
theorem dX5_mend_12 : decode cX5_mend 12 = .ok (.aload_n 0, 1) := by decide +kernel
theorem dX5_mend_13 : decode cX5_mend 13 = .ok (.iconst 0, 1) := by decide +kernel
theorem dX5_mend_14 : decode cX5_mend 14 = .ok (.invokevirtual 227, 3) := by decide +kernel
theorem dX5_mend_17 : decode cX5_mend 17 = .ok (.aload_n 0, 1) := by decide +kernel
theorem dX5_mend_18 : decode cX5_mend 18 = .ok (.getfield 32, 3) := by decide +kernel
theorem dX5_mend_21 : decode cX5_mend 21 = .ok (.invokevirtual 250, 3) := by decide +kernel
theorem dX5_mend_24 : decode cX5_mend 24 = .ok (.aload_n 0, 1) := by decide +kernel
theorem dX5_mend_25 : decode cX5_mend 25 = .ok (.getfield 224, 3) := by decide +kernel
theorem dX5_mend_28 : decode cX5_mend 28 = .ok (.iconst (-1), 1) := by decide +kernel
theorem dX5_mend_29 : decode cX5_mend 29 = .ok (.ixor, 1) := by decide +kernel
theorem dX5_mend_30 : decode cX5_mend 30 = .ok (.iand, 1) := by decide +kernel
theorem dX5_mend_31 : decode cX5_mend 31 = .ok (.istore_n 2, 1) := by decide +kernel
theorem dX5_mend_32 : decode cX5_mend 32 = .ok (.iload_n 2, 1) := by decide +kernel
theorem dX5_mend_33 : decode cX5_mend 33 = .ok (.iload_n 1, 1) := by decide +kernel
theorem dX5_mend_34 : decode cX5_mend 34 = .ok (.iconst (-1), 1) := by decide +kernel
theorem dX5_mend_35 : decode cX5_mend 35 = .ok (.ixor, 1) := by decide +kernel
theorem dX5_mend_36 : decode cX5_mend 36 = .ok (.iand, 1) := by decide +kernel
theorem dX5_mend_37 : decode cX5_mend 37 = .ok (.ifCond .ne 5, 3) := by decide +kernel
theorem dX5_mend_40 : decode cX5_mend 40 = .ok (.iconst 0, 1) := by decide +kernel
theorem dX5_mend_41 : decode cX5_mend 41 = .ok (.ireturn, 1) := by decide +kernel
theorem dX5_mend_42 : decode cX5_mend 42 = .ok (.aload_n 0, 1) := by decide +kernel
theorem dX5_mend_43 : decode cX5_mend 43 = .ok (.getfield 19, 3) := by decide +kernel
theorem dX5_mend_46 : decode cX5_mend 46 = .ok (.aload_n 0, 1) := by decide +kernel
theorem dX5_mend_47 : decode cX5_mend 47 = .ok (.getfield 224, 3) := by decide +kernel
theorem dX5_mend_50 : decode cX5_mend 50 = .ok (.invokevirtual 236, 3) := by decide +kernel
theorem dX5_mend_53 : decode cX5_mend 53 = .ok (.ifCond .ne 7, 3) := by decide +kernel
theorem dX5_mend_56 : decode cX5_mend 56 = .ok (.sipush (-1003), 3) := by decide +kernel
theorem dX5_mend_59 : decode cX5_mend 59 = .ok (.ireturn, 1) := by decide +kernel
theorem dX5_mend_60 : decode cX5_mend 60 = .ok (.aload_n 0, 1) := by decide +kernel
theorem dX5_mend_61 : decode cX5_mend 61 = .ok (.invokevirtual 253, 3) := by decide +kernel
theorem dX5_mend_64 : decode cX5_mend 64 = .ok (.iconst 0, 1) := by decide +kernel
theorem dX5_mend_65 : decode cX5_mend 65 = .ok (.istore_n 3, 1) := by decide +kernel
theorem dX5_mend_66 : decode cX5_mend 66 = .ok (.iload_n 3, 1) := by decide +kernel
theorem dX5_mend_67 : decode cX5_mend 67 = .ok (.aload_n 0, 1) := by decide +kernel
theorem dX5_mend_68 : decode cX5_mend 68 = .ok (.getfield 32, 3) := by decide +kernel
theorem dX5_mend_71 : decode cX5_mend 71 = .ok (.getfield 160, 3) := by decide +kernel
theorem dX5_mend_74 : decode cX5_mend 74 = .ok (.if_icmp .ge 39, 3) := by decide +kernel
theorem dX5_mend_77 : decode cX5_mend 77 = .ok (.aload_n 0, 1) := by decide +kernel
theorem dX5_mend_78 : decode cX5_mend 78 = .ok (.getfield 32, 3) := by decide +kernel
theorem dX5_mend_81 : decode cX5_mend 81 = .ok (.getfield 180, 3) := by decide +kernel
theorem dX5_mend_84 : decode cX5_mend 84 = .ok (.iload_n 3, 1) := by decide +kernel
theorem dX5_mend_85 : decode cX5_mend 85 = .ok (.iaload, 1) := by decide +kernel
theorem dX5_mend_86 : decode cX5_mend 86 = .ok (.istore 4, 2) := by decide +kernel
theorem dX5_mend_88 : decode cX5_mend 88 = .ok (.aload_n 0, 1) := by decide +kernel
theorem dX5_mend_89 : decode cX5_mend 89 = .ok (.getfield 32, 3) := by decide +kernel
theorem dX5_mend_92 : decode cX5_mend 92 = .ok (.getfield 192, 3) := by decide +kernel
theorem dX5_mend_95 : decode cX5_mend 95 = .ok (.iload 4, 2) := by decide +kernel
theorem dX5_mend_97 : decode cX5_mend 97 = .ok (.iload_n 2, 1) := by decide +kernel
theorem dX5_mend_98 : decode cX5_mend 98 = .ok (.iconst 1, 1) := by decide +kernel
theorem dX5_mend_99 : decode cX5_mend 99 = .ok (.iload 4, 2) := by decide +kernel
theorem dX5_mend_101 : decode cX5_mend 101 = .ok (.invokestatic 195, 3) := by decide +kernel
theorem dX5_mend_104 : decode cX5_mend 104 = .ok (.ishl, 1) := by decide +kernel
theorem dX5_mend_105 : decode cX5_mend 105 = .ok (.iand, 1) := by decide +kernel
theorem dX5_mend_106 : decode cX5_mend 106 = .ok (.iastore, 1) := by decide +kernel
theorem dX5_mend_107 : decode cX5_mend 107 = .ok (.iinc 3 1, 3) := by decide +kernel
theorem dX5_mend_110 : decode cX5_mend 110 = .ok (.goto (-44), 3) := by decide +kernel
theorem dX5_mend_113 : decode cX5_mend 113 = .ok (.aload_n 0, 1) := by decide +kernel
theorem dX5_mend_114 : decode cX5_mend 114 = .ok (.getfield 32, 3) := by decide +kernel
theorem dX5_mend_117 : decode cX5_mend 117 = .ok (.invokevirtual 230, 3) := by decide +kernel
theorem dX5_mend_120 : decode cX5_mend 120 = .ok (.aload_n 0, 1) := by decide +kernel
theorem dX5_mend_121 : decode cX5_mend 121 = .ok (.iload_n 2, 1) := by decide +kernel
theorem dX5_mend_122 : decode cX5_mend 122 = .ok (.invokevirtual 256, 3) := by decide +kernel
theorem dX5_mend_125 : decode cX5_mend 125 = .ok (.ireturn, 1) := by decide +kernel
theorem dX5_weaveFromEachMending_0 : decode cX5_weaveFromEachMending 0 = .ok (.aload_n 0, 1) := by decide +kernel
theorem dX5_weaveFromEachMending_1 : decode cX5_weaveFromEachMending 1 = .ok (.getfield 32, 3) := by decide +kernel
theorem dX5_weaveFromEachMending_4 : decode cX5_weaveFromEachMending 4 = .ok (.invokevirtual 233, 3) := by decide +kernel
theorem dX5_weaveFromEachMending_7 : decode cX5_weaveFromEachMending 7 = .ok (.iconst 0, 1) := by decide +kernel
theorem dX5_weaveFromEachMending_8 : decode cX5_weaveFromEachMending 8 = .ok (.istore_n 1, 1) := by decide +kernel
theorem dX5_weaveFromEachMending_9 : decode cX5_weaveFromEachMending 9 = .ok (.iload_n 1, 1) := by decide +kernel
theorem dX5_weaveFromEachMending_10 : decode cX5_weaveFromEachMending 10 = .ok (.sipush 256, 3) := by decide +kernel
theorem dX5_weaveFromEachMending_13 : decode cX5_weaveFromEachMending 13 = .ok (.if_icmp .ge 25, 3) := by decide +kernel
theorem dX5_weaveFromEachMending_16 : decode cX5_weaveFromEachMending 16 = .ok (.aload_n 0, 1) := by decide +kernel
theorem dX5_weaveFromEachMending_17 : decode cX5_weaveFromEachMending 17 = .ok (.getfield 32, 3) := by decide +kernel
theorem dX5_weaveFromEachMending_20 : decode cX5_weaveFromEachMending 20 = .ok (.aload_n 0, 1) := by decide +kernel
theorem dX5_weaveFromEachMending_21 : decode cX5_weaveFromEachMending 21 = .ok (.getfield 19, 3) := by decide +kernel
theorem dX5_weaveFromEachMending_24 : decode cX5_weaveFromEachMending 24 = .ok (.iload_n 1, 1) := by decide +kernel
theorem dX5_weaveFromEachMending_25 : decode cX5_weaveFromEachMending 25 = .ok (.invokevirtual 239, 3) := by decide +kernel
theorem dX5_weaveFromEachMending_28 : decode cX5_weaveFromEachMending 28 = .ok (.iconst (-1), 1) := by decide +kernel
theorem dX5_weaveFromEachMending_29 : decode cX5_weaveFromEachMending 29 = .ok (.invokevirtual 242, 3) := by decide +kernel
theorem dX5_weaveFromEachMending_32 : decode cX5_weaveFromEachMending 32 = .ok (.iinc 1 1, 3) := by decide +kernel
theorem dX5_weaveFromEachMending_35 : decode cX5_weaveFromEachMending 35 = .ok (.goto (-26), 3) := by decide +kernel
theorem dX5_weaveFromEachMending_38 : decode cX5_weaveFromEachMending 38 = .ok (.aload_n 0, 1) := by decide +kernel
theorem dX5_weaveFromEachMending_39 : decode cX5_weaveFromEachMending 39 = .ok (.getfield 32, 3) := by decide +kernel
theorem dX5_weaveFromEachMending_42 : decode cX5_weaveFromEachMending 42 = .ok (.aload_n 0, 1) := by decide +kernel
theorem dX5_weaveFromEachMending_43 : decode cX5_weaveFromEachMending 43 = .ok (.getfield 19, 3) := by decide +kernel
theorem dX5_weaveFromEachMending_46 : decode cX5_weaveFromEachMending 46 = .ok (.aload_n 0, 1) := by decide +kernel
theorem dX5_weaveFromEachMending_47 : decode cX5_weaveFromEachMending 47 = .ok (.getfield 224, 3) := by decide +kernel
theorem dX5_weaveFromEachMending_50 : decode cX5_weaveFromEachMending 50 = .ok (.invokevirtual 246, 3) := by decide +kernel
theorem dX5_weaveFromEachMending_53 : decode cX5_weaveFromEachMending 53 = .ok (.return_, 1) := by decide +kernel
theorem dX5_leastMending_0 : decode cX5_leastMending 0 = .ok (.sipush (-1003), 3) := by decide +kernel
theorem dX5_leastMending_3 : decode cX5_leastMending 3 = .ok (.istore_n 2, 1) := by decide +kernel
theorem dX5_leastMending_4 : decode cX5_leastMending 4 = .ok (.bipush 9, 2) := by decide +kernel
theorem dX5_leastMending_6 : decode cX5_leastMending 6 = .ok (.istore_n 3, 1) := by decide +kernel
theorem dX5_leastMending_7 : decode cX5_leastMending 7 = .ok (.iconst 0, 1) := by decide +kernel
theorem dX5_leastMending_8 : decode cX5_leastMending 8 = .ok (.istore 4, 2) := by decide +kernel
theorem dX5_leastMending_10 : decode cX5_leastMending 10 = .ok (.iload 4, 2) := by decide +kernel
theorem dX5_leastMending_12 : decode cX5_leastMending 12 = .ok (.sipush 256, 3) := by decide +kernel
theorem dX5_leastMending_15 : decode cX5_leastMending 15 = .ok (.if_icmp .ge 60, 3) := by decide +kernel
theorem dX5_leastMending_18 : decode cX5_leastMending 18 = .ok (.aload_n 0, 1) := by decide +kernel
theorem dX5_leastMending_19 : decode cX5_leastMending 19 = .ok (.getfield 32, 3) := by decide +kernel
theorem dX5_leastMending_22 : decode cX5_leastMending 22 = .ok (.getfield 192, 3) := by decide +kernel
theorem dX5_leastMending_25 : decode cX5_leastMending 25 = .ok (.aload_n 0, 1) := by decide +kernel
theorem dX5_leastMending_26 : decode cX5_leastMending 26 = .ok (.getfield 19, 3) := by decide +kernel
theorem dX5_leastMending_29 : decode cX5_leastMending 29 = .ok (.iload 4, 2) := by decide +kernel
theorem dX5_leastMending_31 : decode cX5_leastMending 31 = .ok (.invokevirtual 239, 3) := by decide +kernel
theorem dX5_leastMending_34 : decode cX5_leastMending 34 = .ok (.iaload, 1) := by decide +kernel
theorem dX5_leastMending_35 : decode cX5_leastMending 35 = .ok (.iload_n 1, 1) := by decide +kernel
theorem dX5_leastMending_36 : decode cX5_leastMending 36 = .ok (.if_icmp .ne 7, 3) := by decide +kernel
theorem dX5_leastMending_39 : decode cX5_leastMending 39 = .ok (.iconst 1, 1) := by decide +kernel
theorem dX5_leastMending_40 : decode cX5_leastMending 40 = .ok (.goto 4, 3) := by decide +kernel
theorem dX5_leastMending_43 : decode cX5_leastMending 43 = .ok (.iconst 0, 1) := by decide +kernel
theorem dX5_leastMending_44 : decode cX5_leastMending 44 = .ok (.istore 5, 2) := by decide +kernel
theorem dX5_leastMending_46 : decode cX5_leastMending 46 = .ok (.iload 5, 2) := by decide +kernel
theorem dX5_leastMending_48 : decode cX5_leastMending 48 = .ok (.ifCond .eq 21, 3) := by decide +kernel
theorem dX5_leastMending_51 : decode cX5_leastMending 51 = .ok (.iload 4, 2) := by decide +kernel
theorem dX5_leastMending_53 : decode cX5_leastMending 53 = .ok (.invokestatic 259, 3) := by decide +kernel
theorem dX5_leastMending_56 : decode cX5_leastMending 56 = .ok (.iload_n 3, 1) := by decide +kernel
theorem dX5_leastMending_57 : decode cX5_leastMending 57 = .ok (.if_icmp .ge 12, 3) := by decide +kernel
theorem dX5_leastMending_60 : decode cX5_leastMending 60 = .ok (.iload 4, 2) := by decide +kernel
theorem dX5_leastMending_62 : decode cX5_leastMending 62 = .ok (.istore_n 2, 1) := by decide +kernel
theorem dX5_leastMending_63 : decode cX5_leastMending 63 = .ok (.iload 4, 2) := by decide +kernel
theorem dX5_leastMending_65 : decode cX5_leastMending 65 = .ok (.invokestatic 259, 3) := by decide +kernel
theorem dX5_leastMending_68 : decode cX5_leastMending 68 = .ok (.istore_n 3, 1) := by decide +kernel
theorem dX5_leastMending_69 : decode cX5_leastMending 69 = .ok (.iinc 4 1, 3) := by decide +kernel
theorem dX5_leastMending_72 : decode cX5_leastMending 72 = .ok (.goto (-62), 3) := by decide +kernel
theorem dX5_leastMending_75 : decode cX5_leastMending 75 = .ok (.iload_n 2, 1) := by decide +kernel
theorem dX5_leastMending_76 : decode cX5_leastMending 76 = .ok (.ireturn, 1) := by decide +kernel
theorem dX5_sheet_0 : decode cX5_sheet 0 = .ok (.iload_n 1, 1) := by decide +kernel
theorem dX5_sheet_1 : decode cX5_sheet 1 = .ok (.invokestatic 264, 3) := by decide +kernel
theorem dX5_sheet_4 : decode cX5_sheet 4 = .ok (.ifCond .eq 16, 3) := by decide +kernel
theorem dX5_sheet_7 : decode cX5_sheet 7 = .ok (.iload_n 2, 1) := by decide +kernel
theorem dX5_sheet_8 : decode cX5_sheet 8 = .ok (.invokestatic 267, 3) := by decide +kernel
theorem dX5_sheet_11 : decode cX5_sheet 11 = .ok (.ifCond .eq 9, 3) := by decide +kernel
theorem dX5_sheet_14 : decode cX5_sheet 14 = .ok (.iload_n 3, 1) := by decide +kernel
theorem dX5_sheet_15 : decode cX5_sheet 15 = .ok (.bipush 30, 2) := by decide +kernel
theorem dX5_sheet_17 : decode cX5_sheet 17 = .ok (.if_icmp .le 7, 3) := by decide +kernel
theorem dX5_sheet_20 : decode cX5_sheet 20 = .ok (.sipush (-1002), 3) := by decide +kernel
theorem dX5_sheet_23 : decode cX5_sheet 23 = .ok (.ireturn, 1) := by decide +kernel
theorem dX5_sheet_24 : decode cX5_sheet 24 = .ok (.iload_n 3, 1) := by decide +kernel
theorem dX5_sheet_25 : decode cX5_sheet 25 = .ok (.ifCond .ge 11, 3) := by decide +kernel
theorem dX5_sheet_28 : decode cX5_sheet 28 = .ok (.aload_n 0, 1) := by decide +kernel
theorem dX5_sheet_29 : decode cX5_sheet 29 = .ok (.sipush (-1013), 3) := by decide +kernel
theorem dX5_sheet_32 : decode cX5_sheet 32 = .ok (.invokevirtual 111, 3) := by decide +kernel
theorem dX5_sheet_35 : decode cX5_sheet 35 = .ok (.ireturn, 1) := by decide +kernel
theorem dX5_sheet_36 : decode cX5_sheet 36 = .ok (.aload_n 0, 1) := by decide +kernel
theorem dX5_sheet_37 : decode cX5_sheet 37 = .ok (.getfield 45, 3) := by decide +kernel
theorem dX5_sheet_40 : decode cX5_sheet 40 = .ok (.iload_n 1, 1) := by decide +kernel
theorem dX5_sheet_41 : decode cX5_sheet 41 = .ok (.aaload, 1) := by decide +kernel
theorem dX5_sheet_42 : decode cX5_sheet 42 = .ok (.iload_n 2, 1) := by decide +kernel
theorem dX5_sheet_43 : decode cX5_sheet 43 = .ok (.iload_n 3, 1) := by decide +kernel
theorem dX5_sheet_44 : decode cX5_sheet 44 = .ok (.invokevirtual 270, 3) := by decide +kernel
theorem dX5_sheet_47 : decode cX5_sheet 47 = .ok (.iload_n 3, 1) := by decide +kernel
theorem dX5_sheet_48 : decode cX5_sheet 48 = .ok (.ireturn, 1) := by decide +kernel
theorem dX5_write_0 : decode cX5_write 0 = .ok (.iload_n 1, 1) := by decide +kernel
theorem dX5_write_1 : decode cX5_write 1 = .ok (.invokestatic 264, 3) := by decide +kernel
theorem dX5_write_4 : decode cX5_write 4 = .ok (.ifCond .ne 7, 3) := by decide +kernel
theorem dX5_write_7 : decode cX5_write 7 = .ok (.sipush (-1002), 3) := by decide +kernel
theorem dX5_write_10 : decode cX5_write 10 = .ok (.ireturn, 1) := by decide +kernel
theorem dX5_write_11 : decode cX5_write 11 = .ok (.aload_n 0, 1) := by decide +kernel
theorem dX5_write_12 : decode cX5_write 12 = .ok (.getfield 45, 3) := by decide +kernel
theorem dX5_write_15 : decode cX5_write 15 = .ok (.iload_n 1, 1) := by decide +kernel
theorem dX5_write_16 : decode cX5_write 16 = .ok (.aaload, 1) := by decide +kernel
theorem dX5_write_17 : decode cX5_write 17 = .ok (.astore 4, 2) := by decide +kernel
theorem dX5_write_19 : decode cX5_write 19 = .ok (.aload 4, 2) := by decide +kernel
theorem dX5_write_21 : decode cX5_write 21 = .ok (.invokevirtual 273, 3) := by decide +kernel
theorem dX5_write_24 : decode cX5_write 24 = .ok (.ifCond .eq 11, 3) := by decide +kernel
theorem dX5_write_27 : decode cX5_write 27 = .ok (.aload_n 0, 1) := by decide +kernel
theorem dX5_write_28 : decode cX5_write 28 = .ok (.sipush (-1010), 3) := by decide +kernel
theorem dX5_write_31 : decode cX5_write 31 = .ok (.invokevirtual 111, 3) := by decide +kernel
theorem dX5_write_34 : decode cX5_write 34 = .ok (.ireturn, 1) := by decide +kernel
theorem dX5_write_35 : decode cX5_write 35 = .ok (.aload 4, 2) := by decide +kernel
theorem dX5_write_37 : decode cX5_write 37 = .ok (.iload_n 2, 1) := by decide +kernel
theorem dX5_write_38 : decode cX5_write 38 = .ok (.invokevirtual 276, 3) := by decide +kernel
theorem dX5_write_41 : decode cX5_write 41 = .ok (.ifCond .ne 11, 3) := by decide +kernel
theorem dX5_write_44 : decode cX5_write 44 = .ok (.aload_n 0, 1) := by decide +kernel
theorem dX5_write_45 : decode cX5_write 45 = .ok (.sipush (-1011), 3) := by decide +kernel
theorem dX5_write_48 : decode cX5_write 48 = .ok (.invokevirtual 111, 3) := by decide +kernel
theorem dX5_write_51 : decode cX5_write 51 = .ok (.ireturn, 1) := by decide +kernel
theorem dX5_write_52 : decode cX5_write 52 = .ok (.aload 4, 2) := by decide +kernel
theorem dX5_write_54 : decode cX5_write 54 = .ok (.getfield 279, 3) := by decide +kernel
theorem dX5_write_57 : decode cX5_write 57 = .ok (.iload_n 2, 1) := by decide +kernel
theorem dX5_write_58 : decode cX5_write 58 = .ok (.iaload, 1) := by decide +kernel
theorem dX5_write_59 : decode cX5_write 59 = .ok (.istore 5, 2) := by decide +kernel
theorem dX5_write_61 : decode cX5_write 61 = .ok (.aload 4, 2) := by decide +kernel
theorem dX5_write_63 : decode cX5_write 63 = .ok (.getfield 279, 3) := by decide +kernel
theorem dX5_write_66 : decode cX5_write 66 = .ok (.iload_n 2, 1) := by decide +kernel
theorem dX5_write_67 : decode cX5_write 67 = .ok (.aload 4, 2) := by decide +kernel
theorem dX5_write_69 : decode cX5_write 69 = .ok (.iload_n 3, 1) := by decide +kernel
theorem dX5_write_70 : decode cX5_write 70 = .ok (.invokevirtual 282, 3) := by decide +kernel
theorem dX5_write_73 : decode cX5_write 73 = .ok (.iastore, 1) := by decide +kernel
theorem dX5_write_74 : decode cX5_write 74 = .ok (.iload 5, 2) := by decide +kernel
theorem dX5_write_76 : decode cX5_write 76 = .ok (.ireturn, 1) := by decide +kernel
theorem dX5_words_0 : decode cX5_words 0 = .ok (.iload_n 1, 1) := by decide +kernel
theorem dX5_words_1 : decode cX5_words 1 = .ok (.invokestatic 64, 3) := by decide +kernel
theorem dX5_words_4 : decode cX5_words 4 = .ok (.ifCond .eq 17, 3) := by decide +kernel
theorem dX5_words_7 : decode cX5_words 7 = .ok (.iload_n 2, 1) := by decide +kernel
theorem dX5_words_8 : decode cX5_words 8 = .ok (.invokestatic 264, 3) := by decide +kernel
theorem dX5_words_11 : decode cX5_words 11 = .ok (.ifCond .eq 10, 3) := by decide +kernel
theorem dX5_words_14 : decode cX5_words 14 = .ok (.iload_n 3, 1) := by decide +kernel
theorem dX5_words_15 : decode cX5_words 15 = .ok (.invokestatic 267, 3) := by decide +kernel
theorem dX5_words_18 : decode cX5_words 18 = .ok (.ifCond .ne 7, 3) := by decide +kernel
theorem dX5_words_21 : decode cX5_words 21 = .ok (.sipush (-1002), 3) := by decide +kernel
theorem dX5_words_24 : decode cX5_words 24 = .ok (.ireturn, 1) := by decide +kernel
theorem dX5_words_25 : decode cX5_words 25 = .ok (.aload_n 0, 1) := by decide +kernel
theorem dX5_words_26 : decode cX5_words 26 = .ok (.getfield 45, 3) := by decide +kernel
theorem dX5_words_29 : decode cX5_words 29 = .ok (.iload_n 2, 1) := by decide +kernel
theorem dX5_words_30 : decode cX5_words 30 = .ok (.aaload, 1) := by decide +kernel
theorem dX5_words_31 : decode cX5_words 31 = .ok (.astore 5, 2) := by decide +kernel
theorem dX5_words_33 : decode cX5_words 33 = .ok (.aload_n 0, 1) := by decide +kernel
theorem dX5_words_34 : decode cX5_words 34 = .ok (.getfield 19, 3) := by decide +kernel
theorem dX5_words_37 : decode cX5_words 37 = .ok (.iload_n 1, 1) := by decide +kernel
theorem dX5_words_38 : decode cX5_words 38 = .ok (.invokevirtual 76, 3) := by decide +kernel
theorem dX5_words_41 : decode cX5_words 41 = .ok (.invokevirtual 107, 3) := by decide +kernel
theorem dX5_words_44 : decode cX5_words 44 = .ok (.ifCond .eq 11, 3) := by decide +kernel
theorem dX5_words_47 : decode cX5_words 47 = .ok (.aload 5, 2) := by decide +kernel
theorem dX5_words_49 : decode cX5_words 49 = .ok (.invokevirtual 273, 3) := by decide +kernel
theorem dX5_words_52 : decode cX5_words 52 = .ok (.ifCond .eq 11, 3) := by decide +kernel
theorem dX5_words_55 : decode cX5_words 55 = .ok (.aload_n 0, 1) := by decide +kernel
theorem dX5_words_56 : decode cX5_words 56 = .ok (.sipush (-1010), 3) := by decide +kernel
theorem dX5_words_59 : decode cX5_words 59 = .ok (.invokevirtual 111, 3) := by decide +kernel
theorem dX5_words_62 : decode cX5_words 62 = .ok (.ireturn, 1) := by decide +kernel
theorem dX5_words_63 : decode cX5_words 63 = .ok (.aload 5, 2) := by decide +kernel
theorem dX5_words_65 : decode cX5_words 65 = .ok (.getfield 285, 3) := by decide +kernel
theorem dX5_words_68 : decode cX5_words 68 = .ok (.iload_n 3, 1) := by decide +kernel
theorem dX5_words_69 : decode cX5_words 69 = .ok (.if_icmp .eq 11, 3) := by decide +kernel
theorem dX5_words_72 : decode cX5_words 72 = .ok (.aload_n 0, 1) := by decide +kernel
theorem dX5_words_73 : decode cX5_words 73 = .ok (.sipush (-1012), 3) := by decide +kernel
theorem dX5_words_76 : decode cX5_words 76 = .ok (.invokevirtual 111, 3) := by decide +kernel
theorem dX5_words_79 : decode cX5_words 79 = .ok (.ireturn, 1) := by decide +kernel
theorem dX5_words_80 : decode cX5_words 80 = .ok (.iconst 0, 1) := by decide +kernel
theorem dX5_words_81 : decode cX5_words 81 = .ok (.istore 6, 2) := by decide +kernel
theorem dX5_words_83 : decode cX5_words 83 = .ok (.iload 6, 2) := by decide +kernel
theorem dX5_words_85 : decode cX5_words 85 = .ok (.bipush 6, 2) := by decide +kernel
theorem dX5_words_87 : decode cX5_words 87 = .ok (.if_icmp .ge 46, 3) := by decide +kernel
theorem dX5_words_90 : decode cX5_words 90 = .ok (.aload_n 0, 1) := by decide +kernel
theorem dX5_words_91 : decode cX5_words 91 = .ok (.getfield 19, 3) := by decide +kernel
theorem dX5_words_94 : decode cX5_words 94 = .ok (.iload_n 1, 1) := by decide +kernel
theorem dX5_words_95 : decode cX5_words 95 = .ok (.iload 6, 2) := by decide +kernel
theorem dX5_words_97 : decode cX5_words 97 = .ok (.invokevirtual 125, 3) := by decide +kernel
theorem dX5_words_100 : decode cX5_words 100 = .ok (.invokevirtual 107, 3) := by decide +kernel
theorem dX5_words_103 : decode cX5_words 103 = .ok (.ifCond .eq 24, 3) := by decide +kernel
theorem dX5_words_106 : decode cX5_words 106 = .ok (.aload 5, 2) := by decide +kernel
theorem dX5_words_108 : decode cX5_words 108 = .ok (.iload 4, 2) := by decide +kernel
theorem dX5_words_110 : decode cX5_words 110 = .ok (.iload 6, 2) := by decide +kernel
theorem dX5_words_112 : decode cX5_words 112 = .ok (.iadd, 1) := by decide +kernel
theorem dX5_words_113 : decode cX5_words 113 = .ok (.invokevirtual 276, 3) := by decide +kernel
theorem dX5_words_116 : decode cX5_words 116 = .ok (.ifCond .ne 11, 3) := by decide +kernel
theorem dX5_words_119 : decode cX5_words 119 = .ok (.aload_n 0, 1) := by decide +kernel
theorem dX5_words_120 : decode cX5_words 120 = .ok (.sipush (-1011), 3) := by decide +kernel
theorem dX5_words_123 : decode cX5_words 123 = .ok (.invokevirtual 111, 3) := by decide +kernel
theorem dX5_words_126 : decode cX5_words 126 = .ok (.ireturn, 1) := by decide +kernel
theorem dX5_words_127 : decode cX5_words 127 = .ok (.iinc 6 1, 3) := by decide +kernel
theorem dX5_words_130 : decode cX5_words 130 = .ok (.goto (-47), 3) := by decide +kernel
theorem dX5_words_133 : decode cX5_words 133 = .ok (.aload_n 0, 1) := by decide +kernel
theorem dX5_words_134 : decode cX5_words 134 = .ok (.iload_n 1, 1) := by decide +kernel
theorem dX5_words_135 : decode cX5_words 135 = .ok (.aload 5, 2) := by decide +kernel
theorem dX5_words_137 : decode cX5_words 137 = .ok (.iload 4, 2) := by decide +kernel
theorem dX5_words_139 : decode cX5_words 139 = .ok (.invokevirtual 288, 3) := by decide +kernel
theorem dX5_words_142 : decode cX5_words 142 = .ok (.ireturn, 1) := by decide +kernel
theorem dX5_takeWords_0 : decode cX5_takeWords 0 = .ok (.iconst 0, 1) := by decide +kernel
theorem dX5_takeWords_1 : decode cX5_takeWords 1 = .ok (.istore 4, 2) := by decide +kernel
theorem dX5_takeWords_3 : decode cX5_takeWords 3 = .ok (.iconst 0, 1) := by decide +kernel
theorem dX5_takeWords_4 : decode cX5_takeWords 4 = .ok (.istore 5, 2) := by decide +kernel
theorem dX5_takeWords_6 : decode cX5_takeWords 6 = .ok (.iload 5, 2) := by decide +kernel
theorem dX5_takeWords_8 : decode cX5_takeWords 8 = .ok (.bipush 6, 2) := by decide +kernel
theorem dX5_takeWords_10 : decode cX5_takeWords 10 = .ok (.if_icmp .ge 87, 3) := by decide +kernel
theorem dX5_takeWords_13 : decode cX5_takeWords 13 = .ok (.aload_n 0, 1) := by decide +kernel
theorem dX5_takeWords_14 : decode cX5_takeWords 14 = .ok (.getfield 19, 3) := by decide +kernel
theorem dX5_takeWords_17 : decode cX5_takeWords 17 = .ok (.iload_n 1, 1) := by decide +kernel
theorem dX5_takeWords_18 : decode cX5_takeWords 18 = .ok (.iload 5, 2) := by decide +kernel
theorem dX5_takeWords_20 : decode cX5_takeWords 20 = .ok (.invokevirtual 125, 3) := by decide +kernel
theorem dX5_takeWords_23 : decode cX5_takeWords 23 = .ok (.astore 6, 2) := by decide +kernel
theorem dX5_takeWords_25 : decode cX5_takeWords 25 = .ok (.aload 6, 2) := by decide +kernel
theorem dX5_takeWords_27 : decode cX5_takeWords 27 = .ok (.invokevirtual 107, 3) := by decide +kernel
theorem dX5_takeWords_30 : decode cX5_takeWords 30 = .ok (.ifCond .eq 61, 3) := by decide +kernel
theorem dX5_takeWords_33 : decode cX5_takeWords 33 = .ok (.aload_n 2, 1) := by decide +kernel
theorem dX5_takeWords_34 : decode cX5_takeWords 34 = .ok (.iload_n 3, 1) := by decide +kernel
theorem dX5_takeWords_35 : decode cX5_takeWords 35 = .ok (.iload 5, 2) := by decide +kernel
theorem dX5_takeWords_37 : decode cX5_takeWords 37 = .ok (.iadd, 1) := by decide +kernel
theorem dX5_takeWords_38 : decode cX5_takeWords 38 = .ok (.invokevirtual 276, 3) := by decide +kernel
theorem dX5_takeWords_41 : decode cX5_takeWords 41 = .ok (.ifCond .eq 50, 3) := by decide +kernel
theorem dX5_takeWords_44 : decode cX5_takeWords 44 = .ok (.aload_n 2, 1) := by decide +kernel
theorem dX5_takeWords_45 : decode cX5_takeWords 45 = .ok (.getfield 279, 3) := by decide +kernel
theorem dX5_takeWords_48 : decode cX5_takeWords 48 = .ok (.iload_n 3, 1) := by decide +kernel
theorem dX5_takeWords_49 : decode cX5_takeWords 49 = .ok (.iload 5, 2) := by decide +kernel
theorem dX5_takeWords_51 : decode cX5_takeWords 51 = .ok (.iadd, 1) := by decide +kernel
theorem dX5_takeWords_52 : decode cX5_takeWords 52 = .ok (.iaload, 1) := by decide +kernel
theorem dX5_takeWords_53 : decode cX5_takeWords 53 = .ok (.istore 7, 2) := by decide +kernel
theorem dX5_takeWords_55 : decode cX5_takeWords 55 = .ok (.aload 6, 2) := by decide +kernel
theorem dX5_takeWords_57 : decode cX5_takeWords 57 = .ok (.iconst 0, 1) := by decide +kernel
theorem dX5_takeWords_58 : decode cX5_takeWords 58 = .ok (.bipush 99, 2) := by decide +kernel
theorem dX5_takeWords_60 : decode cX5_takeWords 60 = .ok (.iload 7, 2) := by decide +kernel
theorem dX5_takeWords_62 : decode cX5_takeWords 62 = .ok (.invokestatic 292, 3) := by decide +kernel
theorem dX5_takeWords_65 : decode cX5_takeWords 65 = .ok (.invokestatic 297, 3) := by decide +kernel
theorem dX5_takeWords_68 : decode cX5_takeWords 68 = .ok (.putfield 135, 3) := by decide +kernel
theorem dX5_takeWords_71 : decode cX5_takeWords 71 = .ok (.iload 4, 2) := by decide +kernel
theorem dX5_takeWords_73 : decode cX5_takeWords 73 = .ok (.aload 6, 2) := by decide +kernel
theorem dX5_takeWords_75 : decode cX5_takeWords 75 = .ok (.getfield 135, 3) := by decide +kernel
theorem dX5_takeWords_78 : decode cX5_takeWords 78 = .ok (.iload 7, 2) := by decide +kernel
theorem dX5_takeWords_80 : decode cX5_takeWords 80 = .ok (.if_icmp .ne 7, 3) := by decide +kernel
theorem dX5_takeWords_83 : decode cX5_takeWords 83 = .ok (.iconst 0, 1) := by decide +kernel
theorem dX5_takeWords_84 : decode cX5_takeWords 84 = .ok (.goto 4, 3) := by decide +kernel
theorem dX5_takeWords_87 : decode cX5_takeWords 87 = .ok (.iconst 1, 1) := by decide +kernel
theorem dX5_takeWords_88 : decode cX5_takeWords 88 = .ok (.iadd, 1) := by decide +kernel
theorem dX5_takeWords_89 : decode cX5_takeWords 89 = .ok (.istore 4, 2) := by decide +kernel
theorem dX5_takeWords_91 : decode cX5_takeWords 91 = .ok (.iinc 5 1, 3) := by decide +kernel
theorem dX5_takeWords_94 : decode cX5_takeWords 94 = .ok (.goto (-88), 3) := by decide +kernel
theorem dX5_takeWords_97 : decode cX5_takeWords 97 = .ok (.iload 4, 2) := by decide +kernel
theorem dX5_takeWords_99 : decode cX5_takeWords 99 = .ok (.ireturn, 1) := by decide +kernel
theorem dX5_sessions_0 : decode cX5_sessions 0 = .ok (.iload_n 1, 1) := by decide +kernel
theorem dX5_sessions_1 : decode cX5_sessions 1 = .ok (.invokestatic 132, 3) := by decide +kernel
theorem dX5_sessions_4 : decode cX5_sessions 4 = .ok (.ifCond .eq 15, 3) := by decide +kernel
theorem dX5_sessions_7 : decode cX5_sessions 7 = .ok (.iload_n 2, 1) := by decide +kernel
theorem dX5_sessions_8 : decode cX5_sessions 8 = .ok (.iconst 1, 1) := by decide +kernel
theorem dX5_sessions_9 : decode cX5_sessions 9 = .ok (.if_icmp .lt 10, 3) := by decide +kernel
theorem dX5_sessions_12 : decode cX5_sessions 12 = .ok (.iload_n 2, 1) := by decide +kernel
theorem dX5_sessions_13 : decode cX5_sessions 13 = .ok (.sipush 1000, 3) := by decide +kernel
theorem dX5_sessions_16 : decode cX5_sessions 16 = .ok (.if_icmp .le 7, 3) := by decide +kernel
theorem dX5_sessions_19 : decode cX5_sessions 19 = .ok (.sipush (-1002), 3) := by decide +kernel
theorem dX5_sessions_22 : decode cX5_sessions 22 = .ok (.ireturn, 1) := by decide +kernel
theorem dX5_sessions_23 : decode cX5_sessions 23 = .ok (.iconst 0, 1) := by decide +kernel
theorem dX5_sessions_24 : decode cX5_sessions 24 = .ok (.istore_n 3, 1) := by decide +kernel
theorem dX5_sessions_25 : decode cX5_sessions 25 = .ok (.iconst 0, 1) := by decide +kernel
theorem dX5_sessions_26 : decode cX5_sessions 26 = .ok (.istore 4, 2) := by decide +kernel
theorem dX5_sessions_28 : decode cX5_sessions 28 = .ok (.iconst 0, 1) := by decide +kernel
theorem dX5_sessions_29 : decode cX5_sessions 29 = .ok (.istore 5, 2) := by decide +kernel
theorem dX5_sessions_31 : decode cX5_sessions 31 = .ok (.iload 5, 2) := by decide +kernel
theorem dX5_sessions_33 : decode cX5_sessions 33 = .ok (.bipush 20, 2) := by decide +kernel
theorem dX5_sessions_35 : decode cX5_sessions 35 = .ok (.if_icmp .ge 105, 3) := by decide +kernel
theorem dX5_sessions_38 : decode cX5_sessions 38 = .ok (.iconst 0, 1) := by decide +kernel
theorem dX5_sessions_39 : decode cX5_sessions 39 = .ok (.istore 6, 2) := by decide +kernel
theorem dX5_sessions_41 : decode cX5_sessions 41 = .ok (.iload 6, 2) := by decide +kernel
theorem dX5_sessions_43 : decode cX5_sessions 43 = .ok (.bipush 6, 2) := by decide +kernel
theorem dX5_sessions_45 : decode cX5_sessions 45 = .ok (.if_icmp .ge 89, 3) := by decide +kernel
theorem dX5_sessions_48 : decode cX5_sessions 48 = .ok (.aload_n 0, 1) := by decide +kernel
theorem dX5_sessions_49 : decode cX5_sessions 49 = .ok (.getfield 19, 3) := by decide +kernel
theorem dX5_sessions_52 : decode cX5_sessions 52 = .ok (.iload 5, 2) := by decide +kernel
theorem dX5_sessions_54 : decode cX5_sessions 54 = .ok (.iload 6, 2) := by decide +kernel
theorem dX5_sessions_56 : decode cX5_sessions 56 = .ok (.invokevirtual 125, 3) := by decide +kernel
theorem dX5_sessions_59 : decode cX5_sessions 59 = .ok (.astore 7, 2) := by decide +kernel
theorem dX5_sessions_61 : decode cX5_sessions 61 = .ok (.aload 7, 2) := by decide +kernel
theorem dX5_sessions_63 : decode cX5_sessions 63 = .ok (.invokevirtual 107, 3) := by decide +kernel
theorem dX5_sessions_66 : decode cX5_sessions 66 = .ok (.ifCond .eq 62, 3) := by decide +kernel
theorem dX5_sessions_69 : decode cX5_sessions 69 = .ok (.aload 7, 2) := by decide +kernel
theorem dX5_sessions_71 : decode cX5_sessions 71 = .ok (.getfield 138, 3) := by decide +kernel
theorem dX5_sessions_74 : decode cX5_sessions 74 = .ok (.iload_n 1, 1) := by decide +kernel
theorem dX5_sessions_75 : decode cX5_sessions 75 = .ok (.if_icmp .ne 53, 3) := by decide +kernel
theorem dX5_sessions_78 : decode cX5_sessions 78 = .ok (.aload 7, 2) := by decide +kernel
theorem dX5_sessions_80 : decode cX5_sessions 80 = .ok (.getfield 135, 3) := by decide +kernel
theorem dX5_sessions_83 : decode cX5_sessions 83 = .ok (.ifCond .ne 6, 3) := by decide +kernel
theorem dX5_sessions_86 : decode cX5_sessions 86 = .ok (.goto 42, 3) := by decide +kernel
theorem dX5_sessions_89 : decode cX5_sessions 89 = .ok (.aload 7, 2) := by decide +kernel
theorem dX5_sessions_91 : decode cX5_sessions 91 = .ok (.getfield 135, 3) := by decide +kernel
theorem dX5_sessions_94 : decode cX5_sessions 94 = .ok (.iload_n 2, 1) := by decide +kernel
theorem dX5_sessions_95 : decode cX5_sessions 95 = .ok (.if_icmp .le 7, 3) := by decide +kernel
theorem dX5_sessions_98 : decode cX5_sessions 98 = .ok (.sipush (-1003), 3) := by decide +kernel
theorem dX5_sessions_101 : decode cX5_sessions 101 = .ok (.ireturn, 1) := by decide +kernel
theorem dX5_sessions_102 : decode cX5_sessions 102 = .ok (.aload 7, 2) := by decide +kernel
theorem dX5_sessions_104 : decode cX5_sessions 104 = .ok (.getfield 135, 3) := by decide +kernel
theorem dX5_sessions_107 : decode cX5_sessions 107 = .ok (.iload 4, 2) := by decide +kernel
theorem dX5_sessions_109 : decode cX5_sessions 109 = .ok (.if_icmp .le 9, 3) := by decide +kernel
theorem dX5_sessions_112 : decode cX5_sessions 112 = .ok (.iinc 3 1, 3) := by decide +kernel
theorem dX5_sessions_115 : decode cX5_sessions 115 = .ok (.iload_n 2, 1) := by decide +kernel
theorem dX5_sessions_116 : decode cX5_sessions 116 = .ok (.istore 4, 2) := by decide +kernel
theorem dX5_sessions_118 : decode cX5_sessions 118 = .ok (.iload 4, 2) := by decide +kernel
theorem dX5_sessions_120 : decode cX5_sessions 120 = .ok (.aload 7, 2) := by decide +kernel
theorem dX5_sessions_122 : decode cX5_sessions 122 = .ok (.getfield 135, 3) := by decide +kernel
theorem dX5_sessions_125 : decode cX5_sessions 125 = .ok (.isub, 1) := by decide +kernel
theorem dX5_sessions_126 : decode cX5_sessions 126 = .ok (.istore 4, 2) := by decide +kernel
theorem dX5_sessions_128 : decode cX5_sessions 128 = .ok (.iinc 6 1, 3) := by decide +kernel
theorem dX5_sessions_131 : decode cX5_sessions 131 = .ok (.goto (-90), 3) := by decide +kernel
theorem dX5_sessions_134 : decode cX5_sessions 134 = .ok (.iinc 5 1, 3) := by decide +kernel
theorem dX5_sessions_137 : decode cX5_sessions 137 = .ok (.goto (-106), 3) := by decide +kernel
theorem dX5_sessions_140 : decode cX5_sessions 140 = .ok (.iload_n 3, 1) := by decide +kernel
theorem dX5_sessions_141 : decode cX5_sessions 141 = .ok (.ireturn, 1) := by decide +kernel
theorem dX5_tell_0 : decode cX5_tell 0 = .ok (.aload_n 0, 1) := by decide +kernel
theorem dX5_tell_1 : decode cX5_tell 1 = .ok (.getfield 300, 3) := by decide +kernel
theorem dX5_tell_4 : decode cX5_tell 4 = .ok (.bipush 30, 2) := by decide +kernel
theorem dX5_tell_6 : decode cX5_tell 6 = .ok (.if_icmp .lt 7, 3) := by decide +kernel
theorem dX5_tell_9 : decode cX5_tell 9 = .ok (.sipush (-1002), 3) := by decide +kernel
theorem dX5_tell_12 : decode cX5_tell 12 = .ok (.ireturn, 1) := by decide +kernel
theorem dX5_tell_13 : decode cX5_tell 13 = .ok (.aload_n 0, 1) := by decide +kernel
theorem dX5_tell_14 : decode cX5_tell 14 = .ok (.getfield 49, 3) := by decide +kernel
theorem dX5_tell_17 : decode cX5_tell 17 = .ok (.aload_n 0, 1) := by decide +kernel
theorem dX5_tell_18 : decode cX5_tell 18 = .ok (.getfield 300, 3) := by decide +kernel
theorem dX5_tell_21 : decode cX5_tell 21 = .ok (.iload_n 1, 1) := by decide +kernel
theorem dX5_tell_22 : decode cX5_tell 22 = .ok (.iastore, 1) := by decide +kernel
theorem dX5_tell_23 : decode cX5_tell 23 = .ok (.aload_n 0, 1) := by decide +kernel
theorem dX5_tell_24 : decode cX5_tell 24 = .ok (.dup, 1) := by decide +kernel
theorem dX5_tell_25 : decode cX5_tell 25 = .ok (.getfield 300, 3) := by decide +kernel
theorem dX5_tell_28 : decode cX5_tell 28 = .ok (.iconst 1, 1) := by decide +kernel
theorem dX5_tell_29 : decode cX5_tell 29 = .ok (.iadd, 1) := by decide +kernel
theorem dX5_tell_30 : decode cX5_tell 30 = .ok (.putfield 300, 3) := by decide +kernel
theorem dX5_tell_33 : decode cX5_tell 33 = .ok (.aload_n 0, 1) := by decide +kernel
theorem dX5_tell_34 : decode cX5_tell 34 = .ok (.getfield 300, 3) := by decide +kernel
theorem dX5_tell_37 : decode cX5_tell 37 = .ok (.ireturn, 1) := by decide +kernel
theorem dX5_play_0 : decode cX5_play 0 = .ok (.aload_n 0, 1) := by decide +kernel
theorem dX5_play_1 : decode cX5_play 1 = .ok (.getfield 300, 3) := by decide +kernel
theorem dX5_play_4 : decode cX5_play 4 = .ok (.istore_n 1, 1) := by decide +kernel
theorem dX5_play_5 : decode cX5_play 5 = .ok (.aload_n 0, 1) := by decide +kernel
theorem dX5_play_6 : decode cX5_play 6 = .ok (.iconst 0, 1) := by decide +kernel
theorem dX5_play_7 : decode cX5_play 7 = .ok (.putfield 300, 3) := by decide +kernel
theorem dX5_play_10 : decode cX5_play 10 = .ok (.aload_n 0, 1) := by decide +kernel
theorem dX5_play_11 : decode cX5_play 11 = .ok (.getfield 19, 3) := by decide +kernel
theorem dX5_play_14 : decode cX5_play 14 = .ok (.aload_n 0, 1) := by decide +kernel
theorem dX5_play_15 : decode cX5_play 15 = .ok (.getfield 224, 3) := by decide +kernel
theorem dX5_play_18 : decode cX5_play 18 = .ok (.invokevirtual 236, 3) := by decide +kernel
theorem dX5_play_21 : decode cX5_play 21 = .ok (.ifCond .ne 7, 3) := by decide +kernel
theorem dX5_play_24 : decode cX5_play 24 = .ok (.sipush (-1003), 3) := by decide +kernel
theorem dX5_play_27 : decode cX5_play 27 = .ok (.ireturn, 1) := by decide +kernel
theorem dX5_play_28 : decode cX5_play 28 = .ok (.aload_n 0, 1) := by decide +kernel
theorem dX5_play_29 : decode cX5_play 29 = .ok (.aload_n 0, 1) := by decide +kernel
theorem dX5_play_30 : decode cX5_play 30 = .ok (.getfield 19, 3) := by decide +kernel
theorem dX5_play_33 : decode cX5_play 33 = .ok (.iconst 0, 1) := by decide +kernel
theorem dX5_play_34 : decode cX5_play 34 = .ok (.invokevirtual 239, 3) := by decide +kernel
theorem dX5_play_37 : decode cX5_play 37 = .ok (.putfield 52, 3) := by decide +kernel
theorem dX5_play_40 : decode cX5_play 40 = .ok (.iconst 0, 1) := by decide +kernel
theorem dX5_play_41 : decode cX5_play 41 = .ok (.istore_n 2, 1) := by decide +kernel
theorem dX5_play_42 : decode cX5_play 42 = .ok (.iload_n 2, 1) := by decide +kernel
theorem dX5_play_43 : decode cX5_play 43 = .ok (.iload_n 1, 1) := by decide +kernel
theorem dX5_play_44 : decode cX5_play 44 = .ok (.if_icmp .ge 59, 3) := by decide +kernel
theorem dX5_play_47 : decode cX5_play 47 = .ok (.aload_n 0, 1) := by decide +kernel
theorem dX5_play_48 : decode cX5_play 48 = .ok (.getfield 49, 3) := by decide +kernel
theorem dX5_play_51 : decode cX5_play 51 = .ok (.iload_n 2, 1) := by decide +kernel
theorem dX5_play_52 : decode cX5_play 52 = .ok (.iaload, 1) := by decide +kernel
theorem dX5_play_53 : decode cX5_play 53 = .ok (.istore_n 3, 1) := by decide +kernel
theorem dX5_play_54 : decode cX5_play 54 = .ok (.iload_n 3, 1) := by decide +kernel
theorem dX5_play_55 : decode cX5_play 55 = .ok (.invokestatic 118, 3) := by decide +kernel
theorem dX5_play_58 : decode cX5_play 58 = .ok (.ifCond .eq 22, 3) := by decide +kernel
theorem dX5_play_61 : decode cX5_play 61 = .ok (.aload_n 0, 1) := by decide +kernel
theorem dX5_play_62 : decode cX5_play 62 = .ok (.getfield 19, 3) := by decide +kernel
theorem dX5_play_65 : decode cX5_play 65 = .ok (.aload_n 0, 1) := by decide +kernel
theorem dX5_play_66 : decode cX5_play 66 = .ok (.getfield 52, 3) := by decide +kernel
theorem dX5_play_69 : decode cX5_play 69 = .ok (.iload_n 3, 1) := by decide +kernel
theorem dX5_play_70 : decode cX5_play 70 = .ok (.aload_n 0, 1) := by decide +kernel
theorem dX5_play_71 : decode cX5_play 71 = .ok (.getfield 224, 3) := by decide +kernel
theorem dX5_play_74 : decode cX5_play 74 = .ok (.invokevirtual 303, 3) := by decide +kernel
theorem dX5_play_77 : decode cX5_play 77 = .ok (.goto 4, 3) := by decide +kernel
theorem dX5_play_80 : decode cX5_play 80 = .ok (.iconst (-1), 1) := by decide +kernel
theorem dX5_play_81 : decode cX5_play 81 = .ok (.istore 4, 2) := by decide +kernel
theorem dX5_play_83 : decode cX5_play 83 = .ok (.iload 4, 2) := by decide +kernel
theorem dX5_play_85 : decode cX5_play 85 = .ok (.iconst (-1), 1) := by decide +kernel
theorem dX5_play_86 : decode cX5_play 86 = .ok (.if_icmp .ne 5, 3) := by decide +kernel
theorem dX5_play_89 : decode cX5_play 89 = .ok (.iload_n 2, 1) := by decide +kernel
theorem dX5_play_90 : decode cX5_play 90 = .ok (.ireturn, 1) := by decide +kernel
theorem dX5_play_91 : decode cX5_play 91 = .ok (.aload_n 0, 1) := by decide +kernel
theorem dX5_play_92 : decode cX5_play 92 = .ok (.iload 4, 2) := by decide +kernel
theorem dX5_play_94 : decode cX5_play 94 = .ok (.putfield 52, 3) := by decide +kernel
theorem dX5_play_97 : decode cX5_play 97 = .ok (.iinc 2 1, 3) := by decide +kernel
theorem dX5_play_100 : decode cX5_play 100 = .ok (.goto (-58), 3) := by decide +kernel
theorem dX5_play_103 : decode cX5_play 103 = .ok (.iload_n 1, 1) := by decide +kernel
theorem dX5_play_104 : decode cX5_play 104 = .ok (.ireturn, 1) := by decide +kernel
theorem dX5_at_0 : decode cX5_at 0 = .ok (.aload_n 0, 1) := by decide +kernel
theorem dX5_at_1 : decode cX5_at 1 = .ok (.getfield 52, 3) := by decide +kernel
theorem dX5_at_4 : decode cX5_at 4 = .ok (.iconst (-1), 1) := by decide +kernel
theorem dX5_at_5 : decode cX5_at 5 = .ok (.if_icmp .ne 7, 3) := by decide +kernel
theorem dX5_at_8 : decode cX5_at 8 = .ok (.sipush (-1003), 3) := by decide +kernel
theorem dX5_at_11 : decode cX5_at 11 = .ok (.ireturn, 1) := by decide +kernel
theorem dX5_at_12 : decode cX5_at 12 = .ok (.iload_n 1, 1) := by decide +kernel
theorem dX5_at_13 : decode cX5_at 13 = .ok (.ifCond .ne 11, 3) := by decide +kernel
theorem dX5_at_16 : decode cX5_at 16 = .ok (.aload_n 0, 1) := by decide +kernel
theorem dX5_at_17 : decode cX5_at 17 = .ok (.getfield 52, 3) := by decide +kernel
theorem dX5_at_20 : decode cX5_at 20 = .ok (.invokestatic 195, 3) := by decide +kernel
theorem dX5_at_23 : decode cX5_at 23 = .ok (.ireturn, 1) := by decide +kernel
theorem dX5_at_24 : decode cX5_at 24 = .ok (.iload_n 1, 1) := by decide +kernel
theorem dX5_at_25 : decode cX5_at 25 = .ok (.iconst 1, 1) := by decide +kernel
theorem dX5_at_26 : decode cX5_at 26 = .ok (.if_icmp .ne 13, 3) := by decide +kernel
theorem dX5_at_29 : decode cX5_at 29 = .ok (.aload_n 0, 1) := by decide +kernel
theorem dX5_at_30 : decode cX5_at 30 = .ok (.getfield 52, 3) := by decide +kernel
theorem dX5_at_33 : decode cX5_at 33 = .ok (.invokestatic 306, 3) := by decide +kernel
theorem dX5_at_36 : decode cX5_at 36 = .ok (.goto 6, 3) := by decide +kernel
theorem dX5_at_39 : decode cX5_at 39 = .ok (.sipush (-1002), 3) := by decide +kernel
theorem dX5_at_42 : decode cX5_at 42 = .ok (.ireturn, 1) := by decide +kernel
theorem dX5_keep_0 : decode cX5_keep 0 = .ok (.iload_n 1, 1) := by decide +kernel
theorem dX5_keep_1 : decode cX5_keep 1 = .ok (.ifCond .eq 12, 3) := by decide +kernel
theorem dX5_keep_4 : decode cX5_keep 4 = .ok (.iload_n 1, 1) := by decide +kernel
theorem dX5_keep_5 : decode cX5_keep 5 = .ok (.iconst 1, 1) := by decide +kernel
theorem dX5_keep_6 : decode cX5_keep 6 = .ok (.if_icmp .eq 7, 3) := by decide +kernel
theorem dX5_keep_9 : decode cX5_keep 9 = .ok (.sipush (-1002), 3) := by decide +kernel
theorem dX5_keep_12 : decode cX5_keep 12 = .ok (.ireturn, 1) := by decide +kernel
theorem dX5_keep_13 : decode cX5_keep 13 = .ok (.iload_n 1, 1) := by decide +kernel
theorem dX5_keep_14 : decode cX5_keep 14 = .ok (.ifCond .ne 22, 3) := by decide +kernel
theorem dX5_keep_17 : decode cX5_keep 17 = .ok (.aload_n 0, 1) := by decide +kernel
theorem dX5_keep_18 : decode cX5_keep 18 = .ok (.getfield 23, 3) := by decide +kernel
theorem dX5_keep_21 : decode cX5_keep 21 = .ok (.aload_n 0, 1) := by decide +kernel
theorem dX5_keep_22 : decode cX5_keep 22 = .ok (.getfield 19, 3) := by decide +kernel
theorem dX5_keep_25 : decode cX5_keep 25 = .ok (.invokevirtual 309, 3) := by decide +kernel
theorem dX5_keep_28 : decode cX5_keep 28 = .ok (.aload_n 0, 1) := by decide +kernel
theorem dX5_keep_29 : decode cX5_keep 29 = .ok (.iconst 1, 1) := by decide +kernel
theorem dX5_keep_30 : decode cX5_keep 30 = .ok (.putfield 313, 3) := by decide +kernel
theorem dX5_keep_33 : decode cX5_keep 33 = .ok (.goto 19, 3) := by decide +kernel
theorem dX5_keep_36 : decode cX5_keep 36 = .ok (.aload_n 0, 1) := by decide +kernel
theorem dX5_keep_37 : decode cX5_keep 37 = .ok (.getfield 26, 3) := by decide +kernel
theorem dX5_keep_40 : decode cX5_keep 40 = .ok (.aload_n 0, 1) := by decide +kernel
theorem dX5_keep_41 : decode cX5_keep 41 = .ok (.getfield 19, 3) := by decide +kernel
theorem dX5_keep_44 : decode cX5_keep 44 = .ok (.invokevirtual 309, 3) := by decide +kernel
theorem dX5_keep_47 : decode cX5_keep 47 = .ok (.aload_n 0, 1) := by decide +kernel
theorem dX5_keep_48 : decode cX5_keep 48 = .ok (.iconst 1, 1) := by decide +kernel
theorem dX5_keep_49 : decode cX5_keep 49 = .ok (.putfield 316, 3) := by decide +kernel
theorem dX5_keep_52 : decode cX5_keep 52 = .ok (.iconst 1, 1) := by decide +kernel
theorem dX5_keep_53 : decode cX5_keep 53 = .ok (.ireturn, 1) := by decide +kernel
theorem dX5_back_0 : decode cX5_back 0 = .ok (.iload_n 1, 1) := by decide +kernel
theorem dX5_back_1 : decode cX5_back 1 = .ok (.ifCond .eq 12, 3) := by decide +kernel
theorem dX5_back_4 : decode cX5_back 4 = .ok (.iload_n 1, 1) := by decide +kernel
theorem dX5_back_5 : decode cX5_back 5 = .ok (.iconst 1, 1) := by decide +kernel
theorem dX5_back_6 : decode cX5_back 6 = .ok (.if_icmp .eq 7, 3) := by decide +kernel
theorem dX5_back_9 : decode cX5_back 9 = .ok (.sipush (-1002), 3) := by decide +kernel
theorem dX5_back_12 : decode cX5_back 12 = .ok (.ireturn, 1) := by decide +kernel
theorem dX5_back_13 : decode cX5_back 13 = .ok (.iload_n 1, 1) := by decide +kernel
theorem dX5_back_14 : decode cX5_back 14 = .ok (.ifCond .ne 13, 3) := by decide +kernel
theorem dX5_back_17 : decode cX5_back 17 = .ok (.aload_n 0, 1) := by decide +kernel
theorem dX5_back_18 : decode cX5_back 18 = .ok (.getfield 313, 3) := by decide +kernel
theorem dX5_back_21 : decode cX5_back 21 = .ok (.ifCond .eq 13, 3) := by decide +kernel
theorem dX5_back_24 : decode cX5_back 24 = .ok (.goto 18, 3) := by decide +kernel
theorem dX5_back_27 : decode cX5_back 27 = .ok (.aload_n 0, 1) := by decide +kernel
theorem dX5_back_28 : decode cX5_back 28 = .ok (.getfield 316, 3) := by decide +kernel
theorem dX5_back_31 : decode cX5_back 31 = .ok (.ifCond .ne 11, 3) := by decide +kernel
theorem dX5_back_34 : decode cX5_back 34 = .ok (.aload_n 0, 1) := by decide +kernel
theorem dX5_back_35 : decode cX5_back 35 = .ok (.sipush (-1010), 3) := by decide +kernel
theorem dX5_back_38 : decode cX5_back 38 = .ok (.invokevirtual 111, 3) := by decide +kernel
theorem dX5_back_41 : decode cX5_back 41 = .ok (.ireturn, 1) := by decide +kernel
theorem dX5_back_42 : decode cX5_back 42 = .ok (.aload_n 0, 1) := by decide +kernel
theorem dX5_back_43 : decode cX5_back 43 = .ok (.getfield 19, 3) := by decide +kernel
theorem dX5_back_46 : decode cX5_back 46 = .ok (.iload_n 1, 1) := by decide +kernel
theorem dX5_back_47 : decode cX5_back 47 = .ok (.ifCond .ne 10, 3) := by decide +kernel
theorem dX5_back_50 : decode cX5_back 50 = .ok (.aload_n 0, 1) := by decide +kernel
theorem dX5_back_51 : decode cX5_back 51 = .ok (.getfield 23, 3) := by decide +kernel
theorem dX5_back_54 : decode cX5_back 54 = .ok (.goto 7, 3) := by decide +kernel
theorem dX5_back_57 : decode cX5_back 57 = .ok (.aload_n 0, 1) := by decide +kernel
theorem dX5_back_58 : decode cX5_back 58 = .ok (.getfield 26, 3) := by decide +kernel
theorem dX5_back_61 : decode cX5_back 61 = .ok (.invokevirtual 309, 3) := by decide +kernel
theorem dX5_back_64 : decode cX5_back 64 = .ok (.aload_n 0, 1) := by decide +kernel
theorem dX5_back_65 : decode cX5_back 65 = .ok (.iconst 0, 1) := by decide +kernel
theorem dX5_back_66 : decode cX5_back 66 = .ok (.putfield 100, 3) := by decide +kernel
theorem dX5_back_69 : decode cX5_back 69 = .ok (.iconst 1, 1) := by decide +kernel
theorem dX5_back_70 : decode cX5_back 70 = .ok (.ireturn, 1) := by decide +kernel
theorem dX5_melt_0 : decode cX5_melt 0 = .ok (.aload_n 0, 1) := by decide +kernel
theorem dX5_melt_1 : decode cX5_melt 1 = .ok (.getfield 313, 3) := by decide +kernel
theorem dX5_melt_4 : decode cX5_melt 4 = .ok (.ifCond .eq 10, 3) := by decide +kernel
theorem dX5_melt_7 : decode cX5_melt 7 = .ok (.aload_n 0, 1) := by decide +kernel
theorem dX5_melt_8 : decode cX5_melt 8 = .ok (.getfield 316, 3) := by decide +kernel
theorem dX5_melt_11 : decode cX5_melt 11 = .ok (.ifCond .ne 11, 3) := by decide +kernel
theorem dX5_melt_14 : decode cX5_melt 14 = .ok (.aload_n 0, 1) := by decide +kernel
theorem dX5_melt_15 : decode cX5_melt 15 = .ok (.sipush (-1010), 3) := by decide +kernel
theorem dX5_melt_18 : decode cX5_melt 18 = .ok (.invokevirtual 111, 3) := by decide +kernel
theorem dX5_melt_21 : decode cX5_melt 21 = .ok (.ireturn, 1) := by decide +kernel
theorem dX5_melt_22 : decode cX5_melt 22 = .ok (.aload_n 0, 1) := by decide +kernel
theorem dX5_melt_23 : decode cX5_melt 23 = .ok (.iconst 0, 1) := by decide +kernel
theorem dX5_melt_24 : decode cX5_melt 24 = .ok (.invokevirtual 319, 3) := by decide +kernel
theorem dX5_melt_27 : decode cX5_melt 27 = .ok (.sipush (-1003), 3) := by decide +kernel
theorem dX5_melt_30 : decode cX5_melt 30 = .ok (.if_icmp .eq 7, 3) := by decide +kernel
theorem dX5_melt_33 : decode cX5_melt 33 = .ok (.sipush (-1004), 3) := by decide +kernel
theorem dX5_melt_36 : decode cX5_melt 36 = .ok (.ireturn, 1) := by decide +kernel
theorem dX5_melt_37 : decode cX5_melt 37 = .ok (.iconst 0, 1) := by decide +kernel
theorem dX5_melt_38 : decode cX5_melt 38 = .ok (.istore_n 1, 1) := by decide +kernel
theorem dX5_melt_39 : decode cX5_melt 39 = .ok (.iconst 0, 1) := by decide +kernel
theorem dX5_melt_40 : decode cX5_melt 40 = .ok (.istore_n 2, 1) := by decide +kernel
theorem dX5_melt_41 : decode cX5_melt 41 = .ok (.iload_n 2, 1) := by decide +kernel
theorem dX5_melt_42 : decode cX5_melt 42 = .ok (.sipush 141, 3) := by decide +kernel
theorem dX5_melt_45 : decode cX5_melt 45 = .ok (.if_icmp .ge 67, 3) := by decide +kernel
theorem dX5_melt_48 : decode cX5_melt 48 = .ok (.aload_n 0, 1) := by decide +kernel
theorem dX5_melt_49 : decode cX5_melt 49 = .ok (.getfield 26, 3) := by decide +kernel
theorem dX5_melt_52 : decode cX5_melt 52 = .ok (.getfield 322, 3) := by decide +kernel
theorem dX5_melt_55 : decode cX5_melt 55 = .ok (.iload_n 2, 1) := by decide +kernel
theorem dX5_melt_56 : decode cX5_melt 56 = .ok (.aaload, 1) := by decide +kernel
theorem dX5_melt_57 : decode cX5_melt 57 = .ok (.astore_n 3, 1) := by decide +kernel
theorem dX5_melt_58 : decode cX5_melt 58 = .ok (.aload_n 3, 1) := by decide +kernel
theorem dX5_melt_59 : decode cX5_melt 59 = .ok (.aload_n 0, 1) := by decide +kernel
theorem dX5_melt_60 : decode cX5_melt 60 = .ok (.getfield 23, 3) := by decide +kernel
theorem dX5_melt_63 : decode cX5_melt 63 = .ok (.getfield 322, 3) := by decide +kernel
theorem dX5_melt_66 : decode cX5_melt 66 = .ok (.iload_n 2, 1) := by decide +kernel
theorem dX5_melt_67 : decode cX5_melt 67 = .ok (.aaload, 1) := by decide +kernel
theorem dX5_melt_68 : decode cX5_melt 68 = .ok (.invokevirtual 326, 3) := by decide +kernel
theorem dX5_melt_71 : decode cX5_melt 71 = .ok (.ifCond .ne 35, 3) := by decide +kernel
theorem dX5_melt_74 : decode cX5_melt 74 = .ok (.aload_n 3, 1) := by decide +kernel
theorem dX5_melt_75 : decode cX5_melt 75 = .ok (.aload_n 0, 1) := by decide +kernel
theorem dX5_melt_76 : decode cX5_melt 76 = .ok (.getfield 19, 3) := by decide +kernel
theorem dX5_melt_79 : decode cX5_melt 79 = .ok (.getfield 322, 3) := by decide +kernel
theorem dX5_melt_82 : decode cX5_melt 82 = .ok (.iload_n 2, 1) := by decide +kernel
theorem dX5_melt_83 : decode cX5_melt 83 = .ok (.aaload, 1) := by decide +kernel
theorem dX5_melt_84 : decode cX5_melt 84 = .ok (.invokevirtual 326, 3) := by decide +kernel
theorem dX5_melt_87 : decode cX5_melt 87 = .ok (.ifCond .ne 19, 3) := by decide +kernel
theorem dX5_melt_90 : decode cX5_melt 90 = .ok (.aload_n 0, 1) := by decide +kernel
theorem dX5_melt_91 : decode cX5_melt 91 = .ok (.getfield 19, 3) := by decide +kernel
theorem dX5_melt_94 : decode cX5_melt 94 = .ok (.getfield 322, 3) := by decide +kernel
theorem dX5_melt_97 : decode cX5_melt 97 = .ok (.iload_n 2, 1) := by decide +kernel
theorem dX5_melt_98 : decode cX5_melt 98 = .ok (.aaload, 1) := by decide +kernel
theorem dX5_melt_99 : decode cX5_melt 99 = .ok (.aload_n 3, 1) := by decide +kernel
theorem dX5_melt_100 : decode cX5_melt 100 = .ok (.invokevirtual 330, 3) := by decide +kernel
theorem dX5_melt_103 : decode cX5_melt 103 = .ok (.iinc 1 1, 3) := by decide +kernel
theorem dX5_melt_106 : decode cX5_melt 106 = .ok (.iinc 2 1, 3) := by decide +kernel
theorem dX5_melt_109 : decode cX5_melt 109 = .ok (.goto (-68), 3) := by decide +kernel
theorem dX5_melt_112 : decode cX5_melt 112 = .ok (.aload_n 0, 1) := by decide +kernel
theorem dX5_melt_113 : decode cX5_melt 113 = .ok (.getfield 19, 3) := by decide +kernel
theorem dX5_melt_116 : decode cX5_melt 116 = .ok (.invokevirtual 333, 3) := by decide +kernel
theorem dX5_melt_119 : decode cX5_melt 119 = .ok (.aload_n 0, 1) := by decide +kernel
theorem dX5_melt_120 : decode cX5_melt 120 = .ok (.iconst 0, 1) := by decide +kernel
theorem dX5_melt_121 : decode cX5_melt 121 = .ok (.putfield 100, 3) := by decide +kernel
theorem dX5_melt_124 : decode cX5_melt 124 = .ok (.iload_n 1, 1) := by decide +kernel
theorem dX5_melt_125 : decode cX5_melt 125 = .ok (.ireturn, 1) := by decide +kernel
theorem dX5_clash_0 : decode cX5_clash 0 = .ok (.aload_n 0, 1) := by decide +kernel
theorem dX5_clash_1 : decode cX5_clash 1 = .ok (.getfield 313, 3) := by decide +kernel
theorem dX5_clash_4 : decode cX5_clash 4 = .ok (.ifCond .eq 10, 3) := by decide +kernel
theorem dX5_clash_7 : decode cX5_clash 7 = .ok (.aload_n 0, 1) := by decide +kernel
theorem dX5_clash_8 : decode cX5_clash 8 = .ok (.getfield 316, 3) := by decide +kernel
theorem dX5_clash_11 : decode cX5_clash 11 = .ok (.ifCond .ne 11, 3) := by decide +kernel
theorem dX5_clash_14 : decode cX5_clash 14 = .ok (.aload_n 0, 1) := by decide +kernel
theorem dX5_clash_15 : decode cX5_clash 15 = .ok (.sipush (-1010), 3) := by decide +kernel
theorem dX5_clash_18 : decode cX5_clash 18 = .ok (.invokevirtual 111, 3) := by decide +kernel
theorem dX5_clash_21 : decode cX5_clash 21 = .ok (.ireturn, 1) := by decide +kernel
theorem dX5_clash_22 : decode cX5_clash 22 = .ok (.iload_n 1, 1) := by decide +kernel
theorem dX5_clash_23 : decode cX5_clash 23 = .ok (.ifCond .ge 9, 3) := by decide +kernel
theorem dX5_clash_26 : decode cX5_clash 26 = .ok (.sipush (-1003), 3) := by decide +kernel
theorem dX5_clash_29 : decode cX5_clash 29 = .ok (.goto 8, 3) := by decide +kernel
theorem dX5_clash_32 : decode cX5_clash 32 = .ok (.aload_n 0, 1) := by decide +kernel
theorem dX5_clash_33 : decode cX5_clash 33 = .ok (.iload_n 1, 1) := by decide +kernel
theorem dX5_clash_34 : decode cX5_clash 34 = .ok (.invokevirtual 319, 3) := by decide +kernel
theorem dX5_clash_37 : decode cX5_clash 37 = .ok (.ireturn, 1) := by decide +kernel
theorem dX5_clashingItem_0 : decode cX5_clashingItem 0 = .ok (.iload_n 1, 1) := by decide +kernel
theorem dX5_clashingItem_1 : decode cX5_clashingItem 1 = .ok (.istore_n 2, 1) := by decide +kernel
theorem dX5_clashingItem_2 : decode cX5_clashingItem 2 = .ok (.iconst 0, 1) := by decide +kernel
theorem dX5_clashingItem_3 : decode cX5_clashingItem 3 = .ok (.istore_n 3, 1) := by decide +kernel
theorem dX5_clashingItem_4 : decode cX5_clashingItem 4 = .ok (.iload_n 3, 1) := by decide +kernel
theorem dX5_clashingItem_5 : decode cX5_clashingItem 5 = .ok (.sipush 141, 3) := by decide +kernel
theorem dX5_clashingItem_8 : decode cX5_clashingItem 8 = .ok (.if_icmp .ge 54, 3) := by decide +kernel
theorem dX5_clashingItem_11 : decode cX5_clashingItem 11 = .ok (.aload_n 0, 1) := by decide +kernel
theorem dX5_clashingItem_12 : decode cX5_clashingItem 12 = .ok (.getfield 19, 3) := by decide +kernel
theorem dX5_clashingItem_15 : decode cX5_clashingItem 15 = .ok (.getfield 322, 3) := by decide +kernel
theorem dX5_clashingItem_18 : decode cX5_clashingItem 18 = .ok (.iload_n 3, 1) := by decide +kernel
theorem dX5_clashingItem_19 : decode cX5_clashingItem 19 = .ok (.aaload, 1) := by decide +kernel
theorem dX5_clashingItem_20 : decode cX5_clashingItem 20 = .ok (.aload_n 0, 1) := by decide +kernel
theorem dX5_clashingItem_21 : decode cX5_clashingItem 21 = .ok (.getfield 26, 3) := by decide +kernel
theorem dX5_clashingItem_24 : decode cX5_clashingItem 24 = .ok (.getfield 322, 3) := by decide +kernel
theorem dX5_clashingItem_27 : decode cX5_clashingItem 27 = .ok (.iload_n 3, 1) := by decide +kernel
theorem dX5_clashingItem_28 : decode cX5_clashingItem 28 = .ok (.aaload, 1) := by decide +kernel
theorem dX5_clashingItem_29 : decode cX5_clashingItem 29 = .ok (.aload_n 0, 1) := by decide +kernel
theorem dX5_clashingItem_30 : decode cX5_clashingItem 30 = .ok (.getfield 23, 3) := by decide +kernel
theorem dX5_clashingItem_33 : decode cX5_clashingItem 33 = .ok (.getfield 322, 3) := by decide +kernel
theorem dX5_clashingItem_36 : decode cX5_clashingItem 36 = .ok (.iload_n 3, 1) := by decide +kernel
theorem dX5_clashingItem_37 : decode cX5_clashingItem 37 = .ok (.aaload, 1) := by decide +kernel
theorem dX5_clashingItem_38 : decode cX5_clashingItem 38 = .ok (.invokestatic 336, 3) := by decide +kernel
theorem dX5_clashingItem_41 : decode cX5_clashingItem 41 = .ok (.ifCond .ne 6, 3) := by decide +kernel
theorem dX5_clashingItem_44 : decode cX5_clashingItem 44 = .ok (.goto 12, 3) := by decide +kernel
theorem dX5_clashingItem_47 : decode cX5_clashingItem 47 = .ok (.iload_n 2, 1) := by decide +kernel
theorem dX5_clashingItem_48 : decode cX5_clashingItem 48 = .ok (.ifCond .ne 5, 3) := by decide +kernel
theorem dX5_clashingItem_51 : decode cX5_clashingItem 51 = .ok (.iload_n 3, 1) := by decide +kernel
theorem dX5_clashingItem_52 : decode cX5_clashingItem 52 = .ok (.ireturn, 1) := by decide +kernel
theorem dX5_clashingItem_53 : decode cX5_clashingItem 53 = .ok (.iinc 2 (-1), 3) := by decide +kernel
theorem dX5_clashingItem_56 : decode cX5_clashingItem 56 = .ok (.iinc 3 1, 3) := by decide +kernel
theorem dX5_clashingItem_59 : decode cX5_clashingItem 59 = .ok (.goto (-55), 3) := by decide +kernel
theorem dX5_clashingItem_62 : decode cX5_clashingItem 62 = .ok (.sipush (-1003), 3) := by decide +kernel
theorem dX5_clashingItem_65 : decode cX5_clashingItem 65 = .ok (.ireturn, 1) := by decide +kernel
theorem dX5_isClashing_0 : decode cX5_isClashing 0 = .ok (.aload_n 0, 1) := by decide +kernel
theorem dX5_isClashing_1 : decode cX5_isClashing 1 = .ok (.aload_n 1, 1) := by decide +kernel
theorem dX5_isClashing_2 : decode cX5_isClashing 2 = .ok (.invokevirtual 326, 3) := by decide +kernel
theorem dX5_isClashing_5 : decode cX5_isClashing 5 = .ok (.ifCond .ne 23, 3) := by decide +kernel
theorem dX5_isClashing_8 : decode cX5_isClashing 8 = .ok (.aload_n 0, 1) := by decide +kernel
theorem dX5_isClashing_9 : decode cX5_isClashing 9 = .ok (.aload_n 2, 1) := by decide +kernel
theorem dX5_isClashing_10 : decode cX5_isClashing 10 = .ok (.invokevirtual 326, 3) := by decide +kernel
theorem dX5_isClashing_13 : decode cX5_isClashing 13 = .ok (.ifCond .ne 15, 3) := by decide +kernel
theorem dX5_isClashing_16 : decode cX5_isClashing 16 = .ok (.aload_n 1, 1) := by decide +kernel
theorem dX5_isClashing_17 : decode cX5_isClashing 17 = .ok (.aload_n 2, 1) := by decide +kernel
theorem dX5_isClashing_18 : decode cX5_isClashing 18 = .ok (.invokevirtual 326, 3) := by decide +kernel
theorem dX5_isClashing_21 : decode cX5_isClashing 21 = .ok (.ifCond .ne 7, 3) := by decide +kernel
theorem dX5_isClashing_24 : decode cX5_isClashing 24 = .ok (.iconst 1, 1) := by decide +kernel
theorem dX5_isClashing_25 : decode cX5_isClashing 25 = .ok (.goto 4, 3) := by decide +kernel
theorem dX5_isClashing_28 : decode cX5_isClashing 28 = .ok (.iconst 0, 1) := by decide +kernel
theorem dX5_isClashing_29 : decode cX5_isClashing 29 = .ok (.ireturn, 1) := by decide +kernel
theorem dX5_count_0 : decode cX5_count 0 = .ok (.iload_n 1, 1) := by decide +kernel
theorem dX5_count_1 : decode cX5_count 1 = .ok (.tableswitch 84 0 5 #[39, 47, 55, 63, 68, 73], 39) := by decide +kernel
theorem dX5_count_40 : decode cX5_count 40 = .ok (.aload_n 0, 1) := by decide +kernel
theorem dX5_count_41 : decode cX5_count 41 = .ok (.getfield 19, 3) := by decide +kernel
theorem dX5_count_44 : decode cX5_count 44 = .ok (.invokevirtual 340, 3) := by decide +kernel
theorem dX5_count_47 : decode cX5_count 47 = .ok (.ireturn, 1) := by decide +kernel
theorem dX5_count_48 : decode cX5_count 48 = .ok (.aload_n 0, 1) := by decide +kernel
theorem dX5_count_49 : decode cX5_count 49 = .ok (.getfield 19, 3) := by decide +kernel
theorem dX5_count_52 : decode cX5_count 52 = .ok (.invokevirtual 343, 3) := by decide +kernel
theorem dX5_count_55 : decode cX5_count 55 = .ok (.ireturn, 1) := by decide +kernel
theorem dX5_count_56 : decode cX5_count 56 = .ok (.aload_n 0, 1) := by decide +kernel
theorem dX5_count_57 : decode cX5_count 57 = .ok (.getfield 12, 3) := by decide +kernel
theorem dX5_count_60 : decode cX5_count 60 = .ok (.getfield 57, 3) := by decide +kernel
theorem dX5_count_63 : decode cX5_count 63 = .ok (.ireturn, 1) := by decide +kernel
theorem dX5_count_64 : decode cX5_count 64 = .ok (.aload_n 0, 1) := by decide +kernel
theorem dX5_count_65 : decode cX5_count 65 = .ok (.getfield 300, 3) := by decide +kernel
theorem dX5_count_68 : decode cX5_count 68 = .ok (.ireturn, 1) := by decide +kernel
theorem dX5_count_69 : decode cX5_count 69 = .ok (.aload_n 0, 1) := by decide +kernel
theorem dX5_count_70 : decode cX5_count 70 = .ok (.getfield 346, 3) := by decide +kernel
theorem dX5_count_73 : decode cX5_count 73 = .ok (.ireturn, 1) := by decide +kernel
theorem dX5_count_74 : decode cX5_count 74 = .ok (.aload_n 0, 1) := by decide +kernel
theorem dX5_count_75 : decode cX5_count 75 = .ok (.getfield 19, 3) := by decide +kernel
theorem dX5_count_78 : decode cX5_count 78 = .ok (.invokevirtual 141, 3) := by decide +kernel
theorem dX5_count_81 : decode cX5_count 81 = .ok (.getfield 80, 3) := by decide +kernel
theorem dX5_count_84 : decode cX5_count 84 = .ok (.ireturn, 1) := by decide +kernel
theorem dX5_count_85 : decode cX5_count 85 = .ok (.sipush (-1002), 3) := by decide +kernel
theorem dX5_count_88 : decode cX5_count 88 = .ok (.ireturn, 1) := by decide +kernel
theorem dX5_hostFinding_0 : decode cX5_hostFinding 0 = .ok (.aload_n 0, 1) := by decide +kernel
theorem dX5_hostFinding_1 : decode cX5_hostFinding 1 = .ok (.dup, 1) := by decide +kernel
theorem dX5_hostFinding_2 : decode cX5_hostFinding 2 = .ok (.getfield 346, 3) := by decide +kernel
theorem dX5_hostFinding_5 : decode cX5_hostFinding 5 = .ok (.iconst 1, 1) := by decide +kernel
theorem dX5_hostFinding_6 : decode cX5_hostFinding 6 = .ok (.iadd, 1) := by decide +kernel
theorem dX5_hostFinding_7 : decode cX5_hostFinding 7 = .ok (.putfield 346, 3) := by decide +kernel
theorem dX5_hostFinding_10 : decode cX5_hostFinding 10 = .ok (.iload_n 1, 1) := by decide +kernel
theorem dX5_hostFinding_11 : decode cX5_hostFinding 11 = .ok (.ireturn, 1) := by decide +kernel
theorem dX5_isCut_0 : decode cX5_isCut 0 = .ok (.aload_n 0, 1) := by decide +kernel
theorem dX5_isCut_1 : decode cX5_isCut 1 = .ok (.getfield 224, 3) := by decide +kernel
theorem dX5_isCut_4 : decode cX5_isCut 4 = .ok (.iload_n 1, 1) := by decide +kernel
theorem dX5_isCut_5 : decode cX5_isCut 5 = .ok (.ishr, 1) := by decide +kernel
theorem dX5_isCut_6 : decode cX5_isCut 6 = .ok (.iconst 1, 1) := by decide +kernel
theorem dX5_isCut_7 : decode cX5_isCut 7 = .ok (.iand, 1) := by decide +kernel
theorem dX5_isCut_8 : decode cX5_isCut 8 = .ok (.ifCond .eq 7, 3) := by decide +kernel
theorem dX5_isCut_11 : decode cX5_isCut 11 = .ok (.iconst 1, 1) := by decide +kernel
theorem dX5_isCut_12 : decode cX5_isCut 12 = .ok (.goto 4, 3) := by decide +kernel
theorem dX5_isCut_15 : decode cX5_isCut 15 = .ok (.iconst 0, 1) := by decide +kernel
theorem dX5_isCut_16 : decode cX5_isCut 16 = .ok (.ireturn, 1) := by decide +kernel
theorem dX5_isScene_0 : decode cX5_isScene 0 = .ok (.iload_n 0, 1) := by decide +kernel
theorem dX5_isScene_1 : decode cX5_isScene 1 = .ok (.ifCond .lt 13, 3) := by decide +kernel
theorem dX5_isScene_4 : decode cX5_isScene 4 = .ok (.iload_n 0, 1) := by decide +kernel
theorem dX5_isScene_5 : decode cX5_isScene 5 = .ok (.bipush 20, 2) := by decide +kernel
theorem dX5_isScene_7 : decode cX5_isScene 7 = .ok (.if_icmp .ge 7, 3) := by decide +kernel
theorem dX5_isScene_10 : decode cX5_isScene 10 = .ok (.iconst 1, 1) := by decide +kernel
theorem dX5_isScene_11 : decode cX5_isScene 11 = .ok (.goto 4, 3) := by decide +kernel
theorem dX5_isScene_14 : decode cX5_isScene 14 = .ok (.iconst 0, 1) := by decide +kernel
theorem dX5_isScene_15 : decode cX5_isScene 15 = .ok (.ireturn, 1) := by decide +kernel
theorem dX5_isChoice_0 : decode cX5_isChoice 0 = .ok (.iload_n 0, 1) := by decide +kernel
theorem dX5_isChoice_1 : decode cX5_isChoice 1 = .ok (.ifCond .lt 13, 3) := by decide +kernel
theorem dX5_isChoice_4 : decode cX5_isChoice 4 = .ok (.iload_n 0, 1) := by decide +kernel
theorem dX5_isChoice_5 : decode cX5_isChoice 5 = .ok (.bipush 6, 2) := by decide +kernel
theorem dX5_isChoice_7 : decode cX5_isChoice 7 = .ok (.if_icmp .ge 7, 3) := by decide +kernel
theorem dX5_isChoice_10 : decode cX5_isChoice 10 = .ok (.iconst 1, 1) := by decide +kernel
theorem dX5_isChoice_11 : decode cX5_isChoice 11 = .ok (.goto 4, 3) := by decide +kernel
theorem dX5_isChoice_14 : decode cX5_isChoice 14 = .ok (.iconst 0, 1) := by decide +kernel
theorem dX5_isChoice_15 : decode cX5_isChoice 15 = .ok (.ireturn, 1) := by decide +kernel
theorem dX5_isSet_0 : decode cX5_isSet 0 = .ok (.iload_n 0, 1) := by decide +kernel
theorem dX5_isSet_1 : decode cX5_isSet 1 = .ok (.ifCond .lt 14, 3) := by decide +kernel
theorem dX5_isSet_4 : decode cX5_isSet 4 = .ok (.iload_n 0, 1) := by decide +kernel
theorem dX5_isSet_5 : decode cX5_isSet 5 = .ok (.sipush 256, 3) := by decide +kernel
theorem dX5_isSet_8 : decode cX5_isSet 8 = .ok (.if_icmp .ge 7, 3) := by decide +kernel
theorem dX5_isSet_11 : decode cX5_isSet 11 = .ok (.iconst 1, 1) := by decide +kernel
theorem dX5_isSet_12 : decode cX5_isSet 12 = .ok (.goto 4, 3) := by decide +kernel
theorem dX5_isSet_15 : decode cX5_isSet 15 = .ok (.iconst 0, 1) := by decide +kernel
theorem dX5_isSet_16 : decode cX5_isSet 16 = .ok (.ireturn, 1) := by decide +kernel
theorem dX5_isVoice_0 : decode cX5_isVoice 0 = .ok (.iload_n 0, 1) := by decide +kernel
theorem dX5_isVoice_1 : decode cX5_isVoice 1 = .ok (.ifCond .lt 12, 3) := by decide +kernel
theorem dX5_isVoice_4 : decode cX5_isVoice 4 = .ok (.iload_n 0, 1) := by decide +kernel
theorem dX5_isVoice_5 : decode cX5_isVoice 5 = .ok (.iconst 4, 1) := by decide +kernel
theorem dX5_isVoice_6 : decode cX5_isVoice 6 = .ok (.if_icmp .ge 7, 3) := by decide +kernel
theorem dX5_isVoice_9 : decode cX5_isVoice 9 = .ok (.iconst 1, 1) := by decide +kernel
theorem dX5_isVoice_10 : decode cX5_isVoice 10 = .ok (.goto 4, 3) := by decide +kernel
theorem dX5_isVoice_13 : decode cX5_isVoice 13 = .ok (.iconst 0, 1) := by decide +kernel
theorem dX5_isVoice_14 : decode cX5_isVoice 14 = .ok (.ireturn, 1) := by decide +kernel
theorem dX5_isSheet_0 : decode cX5_isSheet 0 = .ok (.iload_n 0, 1) := by decide +kernel
theorem dX5_isSheet_1 : decode cX5_isSheet 1 = .ok (.ifCond .lt 12, 3) := by decide +kernel
theorem dX5_isSheet_4 : decode cX5_isSheet 4 = .ok (.iload_n 0, 1) := by decide +kernel
theorem dX5_isSheet_5 : decode cX5_isSheet 5 = .ok (.iconst 4, 1) := by decide +kernel
theorem dX5_isSheet_6 : decode cX5_isSheet 6 = .ok (.if_icmp .ge 7, 3) := by decide +kernel
theorem dX5_isSheet_9 : decode cX5_isSheet 9 = .ok (.iconst 1, 1) := by decide +kernel
theorem dX5_isSheet_10 : decode cX5_isSheet 10 = .ok (.goto 4, 3) := by decide +kernel
theorem dX5_isSheet_13 : decode cX5_isSheet 13 = .ok (.iconst 0, 1) := by decide +kernel
theorem dX5_isSheet_14 : decode cX5_isSheet 14 = .ok (.ireturn, 1) := by decide +kernel
theorem dX5_isSort_0 : decode cX5_isSort 0 = .ok (.iload_n 0, 1) := by decide +kernel
theorem dX5_isSort_1 : decode cX5_isSort 1 = .ok (.ifCond .lt 12, 3) := by decide +kernel
theorem dX5_isSort_4 : decode cX5_isSort 4 = .ok (.iload_n 0, 1) := by decide +kernel
theorem dX5_isSort_5 : decode cX5_isSort 5 = .ok (.iconst 3, 1) := by decide +kernel
theorem dX5_isSort_6 : decode cX5_isSort 6 = .ok (.if_icmp .ge 7, 3) := by decide +kernel
theorem dX5_isSort_9 : decode cX5_isSort 9 = .ok (.iconst 1, 1) := by decide +kernel
theorem dX5_isSort_10 : decode cX5_isSort 10 = .ok (.goto 4, 3) := by decide +kernel
theorem dX5_isSort_13 : decode cX5_isSort 13 = .ok (.iconst 0, 1) := by decide +kernel
theorem dX5_isSort_14 : decode cX5_isSort 14 = .ok (.ireturn, 1) := by decide +kernel
theorem dX5_stateOf_0 : decode cX5_stateOf 0 = .ok (.iload_n 0, 1) := by decide +kernel
theorem dX5_stateOf_1 : decode cX5_stateOf 1 = .ok (.sipush 256, 3) := by decide +kernel
theorem dX5_stateOf_4 : decode cX5_stateOf 4 = .ok (.imul, 1) := by decide +kernel
theorem dX5_stateOf_5 : decode cX5_stateOf 5 = .ok (.iload_n 1, 1) := by decide +kernel
theorem dX5_stateOf_6 : decode cX5_stateOf 6 = .ok (.iadd, 1) := by decide +kernel
theorem dX5_stateOf_7 : decode cX5_stateOf 7 = .ok (.ireturn, 1) := by decide +kernel
theorem dX5_sceneOf_0 : decode cX5_sceneOf 0 = .ok (.iload_n 0, 1) := by decide +kernel
theorem dX5_sceneOf_1 : decode cX5_sceneOf 1 = .ok (.sipush 256, 3) := by decide +kernel
theorem dX5_sceneOf_4 : decode cX5_sceneOf 4 = .ok (.idiv, 1) := by decide +kernel
theorem dX5_sceneOf_5 : decode cX5_sceneOf 5 = .ok (.ireturn, 1) := by decide +kernel
theorem dX5_factsOf_0 : decode cX5_factsOf 0 = .ok (.iload_n 0, 1) := by decide +kernel
theorem dX5_factsOf_1 : decode cX5_factsOf 1 = .ok (.sipush 256, 3) := by decide +kernel
theorem dX5_factsOf_4 : decode cX5_factsOf 4 = .ok (.irem, 1) := by decide +kernel
theorem dX5_factsOf_5 : decode cX5_factsOf 5 = .ok (.ireturn, 1) := by decide +kernel
end
section
theorem dX6_init_0 : decode cX6_init 0 = .ok (.aload_n 0, 1) := by decide +kernel
theorem dX6_init_1 : decode cX6_init 1 = .ok (.invokespecial 1, 3) := by decide +kernel
theorem dX6_init_4 : decode cX6_init 4 = .ok (.aload_n 0, 1) := by decide +kernel
theorem dX6_init_5 : decode cX6_init 5 = .ok (.sipush 1881, 3) := by decide +kernel
theorem dX6_init_8 : decode cX6_init 8 = .ok (.newarray .int, 2) := by decide +kernel
theorem dX6_init_10 : decode cX6_init 10 = .ok (.putfield 7, 3) := by decide +kernel
theorem dX6_init_13 : decode cX6_init 13 = .ok (.aload_n 0, 1) := by decide +kernel
theorem dX6_init_14 : decode cX6_init 14 = .ok (.sipush 1881, 3) := by decide +kernel
theorem dX6_init_17 : decode cX6_init 17 = .ok (.newarray .int, 2) := by decide +kernel
theorem dX6_init_19 : decode cX6_init 19 = .ok (.putfield 13, 3) := by decide +kernel
theorem dX6_init_22 : decode cX6_init 22 = .ok (.aload_n 0, 1) := by decide +kernel
theorem dX6_init_23 : decode cX6_init 23 = .ok (.sipush 1881, 3) := by decide +kernel
theorem dX6_init_26 : decode cX6_init 26 = .ok (.newarray .int, 2) := by decide +kernel
theorem dX6_init_28 : decode cX6_init 28 = .ok (.putfield 16, 3) := by decide +kernel
theorem dX6_init_31 : decode cX6_init 31 = .ok (.aload_n 0, 1) := by decide +kernel
theorem dX6_init_32 : decode cX6_init 32 = .ok (.bipush 20, 2) := by decide +kernel
theorem dX6_init_34 : decode cX6_init 34 = .ok (.newarray .boolean, 2) := by decide +kernel
theorem dX6_init_36 : decode cX6_init 36 = .ok (.putfield 19, 3) := by decide +kernel
theorem dX6_init_39 : decode cX6_init 39 = .ok (.aload_n 0, 1) := by decide +kernel
theorem dX6_init_40 : decode cX6_init 40 = .ok (.bipush 100, 2) := by decide +kernel
theorem dX6_init_42 : decode cX6_init 42 = .ok (.newarray .int, 2) := by decide +kernel
theorem dX6_init_44 : decode cX6_init 44 = .ok (.putfield 23, 3) := by decide +kernel
theorem dX6_init_47 : decode cX6_init 47 = .ok (.aload_n 0, 1) := by decide +kernel
theorem dX6_init_48 : decode cX6_init 48 = .ok (.iconst 4, 1) := by decide +kernel
theorem dX6_init_49 : decode cX6_init 49 = .ok (.newarray .int, 2) := by decide +kernel
theorem dX6_init_51 : decode cX6_init 51 = .ok (.putfield 26, 3) := by decide +kernel
theorem dX6_init_54 : decode cX6_init 54 = .ok (.aload_n 0, 1) := by decide +kernel
theorem dX6_init_55 : decode cX6_init 55 = .ok (.iconst 4, 1) := by decide +kernel
theorem dX6_init_56 : decode cX6_init 56 = .ok (.newarray .int, 2) := by decide +kernel
theorem dX6_init_58 : decode cX6_init 58 = .ok (.putfield 29, 3) := by decide +kernel
theorem dX6_init_61 : decode cX6_init 61 = .ok (.aload_n 0, 1) := by decide +kernel
theorem dX6_init_62 : decode cX6_init 62 = .ok (.bipush 120, 2) := by decide +kernel
theorem dX6_init_64 : decode cX6_init 64 = .ok (.newarray .int, 2) := by decide +kernel
theorem dX6_init_66 : decode cX6_init 66 = .ok (.putfield 32, 3) := by decide +kernel
theorem dX6_init_69 : decode cX6_init 69 = .ok (.aload_n 0, 1) := by decide +kernel
theorem dX6_init_70 : decode cX6_init 70 = .ok (.bipush 30, 2) := by decide +kernel
theorem dX6_init_72 : decode cX6_init 72 = .ok (.newarray .int, 2) := by decide +kernel
theorem dX6_init_74 : decode cX6_init 74 = .ok (.putfield 35, 3) := by decide +kernel
theorem dX6_init_77 : decode cX6_init 77 = .ok (.aload_n 0, 1) := by decide +kernel
theorem dX6_init_78 : decode cX6_init 78 = .ok (.bipush 8, 2) := by decide +kernel
theorem dX6_init_80 : decode cX6_init 80 = .ok (.newarray .int, 2) := by decide +kernel
theorem dX6_init_82 : decode cX6_init 82 = .ok (.putfield 38, 3) := by decide +kernel
theorem dX6_init_85 : decode cX6_init 85 = .ok (.aload_n 0, 1) := by decide +kernel
theorem dX6_init_86 : decode cX6_init 86 = .ok (.sipush 5120, 3) := by decide +kernel
theorem dX6_init_89 : decode cX6_init 89 = .ok (.newarray .int, 2) := by decide +kernel
theorem dX6_init_91 : decode cX6_init 91 = .ok (.putfield 41, 3) := by decide +kernel
theorem dX6_init_94 : decode cX6_init 94 = .ok (.aload_n 0, 1) := by decide +kernel
theorem dX6_init_95 : decode cX6_init 95 = .ok (.sipush 5120, 3) := by decide +kernel
theorem dX6_init_98 : decode cX6_init 98 = .ok (.newarray .int, 2) := by decide +kernel
theorem dX6_init_100 : decode cX6_init 100 = .ok (.putfield 44, 3) := by decide +kernel
theorem dX6_init_103 : decode cX6_init 103 = .ok (.aload_n 0, 1) := by decide +kernel
theorem dX6_init_104 : decode cX6_init 104 = .ok (.sipush 5120, 3) := by decide +kernel
theorem dX6_init_107 : decode cX6_init 107 = .ok (.newarray .boolean, 2) := by decide +kernel
theorem dX6_init_109 : decode cX6_init 109 = .ok (.putfield 47, 3) := by decide +kernel
theorem dX6_init_112 : decode cX6_init 112 = .ok (.aload_n 0, 1) := by decide +kernel
theorem dX6_init_113 : decode cX6_init 113 = .ok (.bipush 20, 2) := by decide +kernel
theorem dX6_init_115 : decode cX6_init 115 = .ok (.newarray .int, 2) := by decide +kernel
theorem dX6_init_117 : decode cX6_init 117 = .ok (.putfield 50, 3) := by decide +kernel
theorem dX6_init_120 : decode cX6_init 120 = .ok (.aload_n 0, 1) := by decide +kernel
theorem dX6_init_121 : decode cX6_init 121 = .ok (.sipush 5120, 3) := by decide +kernel
theorem dX6_init_124 : decode cX6_init 124 = .ok (.newarray .boolean, 2) := by decide +kernel
theorem dX6_init_126 : decode cX6_init 126 = .ok (.putfield 53, 3) := by decide +kernel
theorem dX6_init_129 : decode cX6_init 129 = .ok (.aload_n 0, 1) := by decide +kernel
theorem dX6_init_130 : decode cX6_init 130 = .ok (.sipush 5120, 3) := by decide +kernel
theorem dX6_init_133 : decode cX6_init 133 = .ok (.newarray .long, 2) := by decide +kernel
theorem dX6_init_135 : decode cX6_init 135 = .ok (.putfield 56, 3) := by decide +kernel
theorem dX6_init_138 : decode cX6_init 138 = .ok (.aload_n 0, 1) := by decide +kernel
theorem dX6_init_139 : decode cX6_init 139 = .ok (.sipush 5120, 3) := by decide +kernel
theorem dX6_init_142 : decode cX6_init 142 = .ok (.newarray .long, 2) := by decide +kernel
theorem dX6_init_144 : decode cX6_init 144 = .ok (.putfield 60, 3) := by decide +kernel
theorem dX6_init_147 : decode cX6_init 147 = .ok (.iconst 0, 1) := by decide +kernel
theorem dX6_init_148 : decode cX6_init 148 = .ok (.istore_n 1, 1) := by decide +kernel
theorem dX6_init_149 : decode cX6_init 149 = .ok (.iload_n 1, 1) := by decide +kernel
theorem dX6_init_150 : decode cX6_init 150 = .ok (.iconst 4, 1) := by decide +kernel
theorem dX6_init_151 : decode cX6_init 151 = .ok (.if_icmp .ge 16, 3) := by decide +kernel
theorem dX6_init_154 : decode cX6_init 154 = .ok (.aload_n 0, 1) := by decide +kernel
theorem dX6_init_155 : decode cX6_init 155 = .ok (.getfield 29, 3) := by decide +kernel
theorem dX6_init_158 : decode cX6_init 158 = .ok (.iload_n 1, 1) := by decide +kernel
theorem dX6_init_159 : decode cX6_init 159 = .ok (.iconst (-1), 1) := by decide +kernel
theorem dX6_init_160 : decode cX6_init 160 = .ok (.iastore, 1) := by decide +kernel
theorem dX6_init_161 : decode cX6_init 161 = .ok (.iinc 1 1, 3) := by decide +kernel
theorem dX6_init_164 : decode cX6_init 164 = .ok (.goto (-15), 3) := by decide +kernel
theorem dX6_init_167 : decode cX6_init 167 = .ok (.return_, 1) := by decide +kernel
theorem dX6_meet_0 : decode cX6_meet 0 = .ok (.aload_n 0, 1) := by decide +kernel
theorem dX6_meet_1 : decode cX6_meet 1 = .ok (.dup, 1) := by decide +kernel
theorem dX6_meet_2 : decode cX6_meet 2 = .ok (.getfield 63, 3) := by decide +kernel
theorem dX6_meet_5 : decode cX6_meet 5 = .ok (.iconst 1, 1) := by decide +kernel
theorem dX6_meet_6 : decode cX6_meet 6 = .ok (.iadd, 1) := by decide +kernel
theorem dX6_meet_7 : decode cX6_meet 7 = .ok (.putfield 63, 3) := by decide +kernel
theorem dX6_meet_10 : decode cX6_meet 10 = .ok (.iload_n 1, 1) := by decide +kernel
theorem dX6_meet_11 : decode cX6_meet 11 = .ok (.ireturn, 1) := by decide +kernel
theorem dX6_isIn_0 : decode cX6_isIn 0 = .ok (.iload_n 0, 1) := by decide +kernel
theorem dX6_isIn_1 : decode cX6_isIn 1 = .ok (.iload_n 1, 1) := by decide +kernel
theorem dX6_isIn_2 : decode cX6_isIn 2 = .ok (.if_icmp .lt 12, 3) := by decide +kernel
theorem dX6_isIn_5 : decode cX6_isIn 5 = .ok (.iload_n 0, 1) := by decide +kernel
theorem dX6_isIn_6 : decode cX6_isIn 6 = .ok (.iload_n 2, 1) := by decide +kernel
theorem dX6_isIn_7 : decode cX6_isIn 7 = .ok (.if_icmp .gt 7, 3) := by decide +kernel
theorem dX6_isIn_10 : decode cX6_isIn 10 = .ok (.iconst 1, 1) := by decide +kernel
theorem dX6_isIn_11 : decode cX6_isIn 11 = .ok (.goto 4, 3) := by decide +kernel
theorem dX6_isIn_14 : decode cX6_isIn 14 = .ok (.iconst 0, 1) := by decide +kernel
theorem dX6_isIn_15 : decode cX6_isIn 15 = .ok (.ireturn, 1) := by decide +kernel
theorem dX6_isScene_0 : decode cX6_isScene 0 = .ok (.iload_n 0, 1) := by decide +kernel
theorem dX6_isScene_1 : decode cX6_isScene 1 = .ok (.iconst 0, 1) := by decide +kernel
theorem dX6_isScene_2 : decode cX6_isScene 2 = .ok (.bipush 19, 2) := by decide +kernel
theorem dX6_isScene_4 : decode cX6_isScene 4 = .ok (.invokestatic 67, 3) := by decide +kernel
theorem dX6_isScene_7 : decode cX6_isScene 7 = .ok (.ireturn, 1) := by decide +kernel
theorem dX6_isPlace_0 : decode cX6_isPlace 0 = .ok (.iload_n 0, 1) := by decide +kernel
theorem dX6_isPlace_1 : decode cX6_isPlace 1 = .ok (.invokestatic 71, 3) := by decide +kernel
theorem dX6_isPlace_4 : decode cX6_isPlace 4 = .ok (.ifCond .eq 16, 3) := by decide +kernel
theorem dX6_isPlace_7 : decode cX6_isPlace 7 = .ok (.iload_n 1, 1) := by decide +kernel
theorem dX6_isPlace_8 : decode cX6_isPlace 8 = .ok (.iconst 0, 1) := by decide +kernel
theorem dX6_isPlace_9 : decode cX6_isPlace 9 = .ok (.iconst 5, 1) := by decide +kernel
theorem dX6_isPlace_10 : decode cX6_isPlace 10 = .ok (.invokestatic 67, 3) := by decide +kernel
theorem dX6_isPlace_13 : decode cX6_isPlace 13 = .ok (.ifCond .eq 7, 3) := by decide +kernel
theorem dX6_isPlace_16 : decode cX6_isPlace 16 = .ok (.iconst 1, 1) := by decide +kernel
theorem dX6_isPlace_17 : decode cX6_isPlace 17 = .ok (.goto 4, 3) := by decide +kernel
theorem dX6_isPlace_20 : decode cX6_isPlace 20 = .ok (.iconst 0, 1) := by decide +kernel
theorem dX6_isPlace_21 : decode cX6_isPlace 21 = .ok (.ireturn, 1) := by decide +kernel
theorem dX6_isSet_0 : decode cX6_isSet 0 = .ok (.iload_n 0, 1) := by decide +kernel
theorem dX6_isSet_1 : decode cX6_isSet 1 = .ok (.iconst 0, 1) := by decide +kernel
theorem dX6_isSet_2 : decode cX6_isSet 2 = .ok (.sipush 255, 3) := by decide +kernel
theorem dX6_isSet_5 : decode cX6_isSet 5 = .ok (.invokestatic 67, 3) := by decide +kernel
theorem dX6_isSet_8 : decode cX6_isSet 8 = .ok (.ireturn, 1) := by decide +kernel
theorem dX6_kindOf_0 : decode cX6_kindOf 0 = .ok (.aload_n 0, 1) := by decide +kernel
theorem dX6_kindOf_1 : decode cX6_kindOf 1 = .ok (.getfield 7, 3) := by decide +kernel
theorem dX6_kindOf_4 : decode cX6_kindOf 4 = .ok (.bipush 10, 2) := by decide +kernel
theorem dX6_kindOf_6 : decode cX6_kindOf 6 = .ok (.iload_n 1, 1) := by decide +kernel
theorem dX6_kindOf_7 : decode cX6_kindOf 7 = .ok (.imul, 1) := by decide +kernel
theorem dX6_kindOf_8 : decode cX6_kindOf 8 = .ok (.iaload, 1) := by decide +kernel
theorem dX6_kindOf_9 : decode cX6_kindOf 9 = .ok (.iconst 1, 1) := by decide +kernel
theorem dX6_kindOf_10 : decode cX6_kindOf 10 = .ok (.isub, 1) := by decide +kernel
theorem dX6_kindOf_11 : decode cX6_kindOf 11 = .ok (.ireturn, 1) := by decide +kernel
theorem dX6_isThere_0 : decode cX6_isThere 0 = .ok (.aload_n 0, 1) := by decide +kernel
theorem dX6_isThere_1 : decode cX6_isThere 1 = .ok (.getfield 7, 3) := by decide +kernel
theorem dX6_isThere_4 : decode cX6_isThere 4 = .ok (.bipush 10, 2) := by decide +kernel
theorem dX6_isThere_6 : decode cX6_isThere 6 = .ok (.iload_n 1, 1) := by decide +kernel
theorem dX6_isThere_7 : decode cX6_isThere 7 = .ok (.imul, 1) := by decide +kernel
theorem dX6_isThere_8 : decode cX6_isThere 8 = .ok (.iaload, 1) := by decide +kernel
theorem dX6_isThere_9 : decode cX6_isThere 9 = .ok (.ifCond .le 7, 3) := by decide +kernel
theorem dX6_isThere_12 : decode cX6_isThere 12 = .ok (.iconst 1, 1) := by decide +kernel
theorem dX6_isThere_13 : decode cX6_isThere 13 = .ok (.goto 4, 3) := by decide +kernel
theorem dX6_isThere_16 : decode cX6_isThere 16 = .ok (.iconst 0, 1) := by decide +kernel
theorem dX6_isThere_17 : decode cX6_isThere 17 = .ok (.ireturn, 1) := by decide +kernel
theorem dX6_at_0 : decode cX6_at 0 = .ok (.sipush 200, 3) := by decide +kernel
theorem dX6_at_3 : decode cX6_at 3 = .ok (.bipush 14, 2) := by decide +kernel
theorem dX6_at_5 : decode cX6_at 5 = .ok (.bipush 6, 2) := by decide +kernel
theorem dX6_at_7 : decode cX6_at 7 = .ok (.iload_n 0, 1) := by decide +kernel
theorem dX6_at_8 : decode cX6_at 8 = .ok (.imul, 1) := by decide +kernel
theorem dX6_at_9 : decode cX6_at 9 = .ok (.iload_n 1, 1) := by decide +kernel
theorem dX6_at_10 : decode cX6_at 10 = .ok (.iadd, 1) := by decide +kernel
theorem dX6_at_11 : decode cX6_at 11 = .ok (.imul, 1) := by decide +kernel
theorem dX6_at_12 : decode cX6_at 12 = .ok (.iadd, 1) := by decide +kernel
theorem dX6_at_13 : decode cX6_at 13 = .ok (.ireturn, 1) := by decide +kernel
theorem dX6_hasChoice_0 : decode cX6_hasChoice 0 = .ok (.aload_n 0, 1) := by decide +kernel
theorem dX6_hasChoice_1 : decode cX6_hasChoice 1 = .ok (.getfield 7, 3) := by decide +kernel
theorem dX6_hasChoice_4 : decode cX6_hasChoice 4 = .ok (.iload_n 1, 1) := by decide +kernel
theorem dX6_hasChoice_5 : decode cX6_hasChoice 5 = .ok (.iload_n 2, 1) := by decide +kernel
theorem dX6_hasChoice_6 : decode cX6_hasChoice 6 = .ok (.invokestatic 75, 3) := by decide +kernel
theorem dX6_hasChoice_9 : decode cX6_hasChoice 9 = .ok (.iaload, 1) := by decide +kernel
theorem dX6_hasChoice_10 : decode cX6_hasChoice 10 = .ok (.ifCond .le 7, 3) := by decide +kernel
theorem dX6_hasChoice_13 : decode cX6_hasChoice 13 = .ok (.iconst 1, 1) := by decide +kernel
theorem dX6_hasChoice_14 : decode cX6_hasChoice 14 = .ok (.goto 4, 3) := by decide +kernel
theorem dX6_hasChoice_17 : decode cX6_hasChoice 17 = .ok (.iconst 0, 1) := by decide +kernel
theorem dX6_hasChoice_18 : decode cX6_hasChoice 18 = .ok (.ireturn, 1) := by decide +kernel
theorem dX6_holds_0 : decode cX6_holds 0 = .ok (.aload_n 0, 1) := by decide +kernel
theorem dX6_holds_1 : decode cX6_holds 1 = .ok (.getfield 7, 3) := by decide +kernel
theorem dX6_holds_4 : decode cX6_holds 4 = .ok (.iload_n 1, 1) := by decide +kernel
theorem dX6_holds_5 : decode cX6_holds 5 = .ok (.iload_n 2, 1) := by decide +kernel
theorem dX6_holds_6 : decode cX6_holds 6 = .ok (.bipush 32, 2) := by decide +kernel
theorem dX6_holds_8 : decode cX6_holds 8 = .ok (.idiv, 1) := by decide +kernel
theorem dX6_holds_9 : decode cX6_holds 9 = .ok (.iadd, 1) := by decide +kernel
theorem dX6_holds_10 : decode cX6_holds 10 = .ok (.iaload, 1) := by decide +kernel
theorem dX6_holds_11 : decode cX6_holds 11 = .ok (.iload_n 2, 1) := by decide +kernel
theorem dX6_holds_12 : decode cX6_holds 12 = .ok (.bipush 32, 2) := by decide +kernel
theorem dX6_holds_14 : decode cX6_holds 14 = .ok (.irem, 1) := by decide +kernel
theorem dX6_holds_15 : decode cX6_holds 15 = .ok (.ishr, 1) := by decide +kernel
theorem dX6_holds_16 : decode cX6_holds 16 = .ok (.iconst 1, 1) := by decide +kernel
theorem dX6_holds_17 : decode cX6_holds 17 = .ok (.iand, 1) := by decide +kernel
theorem dX6_holds_18 : decode cX6_holds 18 = .ok (.iconst 1, 1) := by decide +kernel
theorem dX6_holds_19 : decode cX6_holds 19 = .ok (.if_icmp .ne 7, 3) := by decide +kernel
theorem dX6_holds_22 : decode cX6_holds 22 = .ok (.iconst 1, 1) := by decide +kernel
theorem dX6_holds_23 : decode cX6_holds 23 = .ok (.goto 4, 3) := by decide +kernel
theorem dX6_holds_26 : decode cX6_holds 26 = .ok (.iconst 0, 1) := by decide +kernel
theorem dX6_holds_27 : decode cX6_holds 27 = .ok (.ireturn, 1) := by decide +kernel
theorem dX6_readBy_0 : decode cX6_readBy 0 = .ok (.iconst 0, 1) := by decide +kernel
theorem dX6_readBy_1 : decode cX6_readBy 1 = .ok (.istore_n 2, 1) := by decide +kernel
theorem dX6_readBy_2 : decode cX6_readBy 2 = .ok (.iconst 0, 1) := by decide +kernel
theorem dX6_readBy_3 : decode cX6_readBy 3 = .ok (.istore_n 3, 1) := by decide +kernel
theorem dX6_readBy_4 : decode cX6_readBy 4 = .ok (.iload_n 3, 1) := by decide +kernel
theorem dX6_readBy_5 : decode cX6_readBy 5 = .ok (.sipush 256, 3) := by decide +kernel
theorem dX6_readBy_8 : decode cX6_readBy 8 = .ok (.if_icmp .ge 56, 3) := by decide +kernel
theorem dX6_readBy_11 : decode cX6_readBy 11 = .ok (.iconst 0, 1) := by decide +kernel
theorem dX6_readBy_12 : decode cX6_readBy 12 = .ok (.istore 4, 2) := by decide +kernel
theorem dX6_readBy_14 : decode cX6_readBy 14 = .ok (.iload 4, 2) := by decide +kernel
theorem dX6_readBy_16 : decode cX6_readBy 16 = .ok (.bipush 8, 2) := by decide +kernel
theorem dX6_readBy_18 : decode cX6_readBy 18 = .ok (.if_icmp .ge 40, 3) := by decide +kernel
theorem dX6_readBy_21 : decode cX6_readBy 21 = .ok (.iload_n 2, 1) := by decide +kernel
theorem dX6_readBy_22 : decode cX6_readBy 22 = .ok (.aload_n 0, 1) := by decide +kernel
theorem dX6_readBy_23 : decode cX6_readBy 23 = .ok (.iload_n 1, 1) := by decide +kernel
theorem dX6_readBy_24 : decode cX6_readBy 24 = .ok (.iload_n 3, 1) := by decide +kernel
theorem dX6_readBy_25 : decode cX6_readBy 25 = .ok (.invokevirtual 79, 3) := by decide +kernel
theorem dX6_readBy_28 : decode cX6_readBy 28 = .ok (.aload_n 0, 1) := by decide +kernel
theorem dX6_readBy_29 : decode cX6_readBy 29 = .ok (.iload_n 1, 1) := by decide +kernel
theorem dX6_readBy_30 : decode cX6_readBy 30 = .ok (.iload_n 3, 1) := by decide +kernel
theorem dX6_readBy_31 : decode cX6_readBy 31 = .ok (.iconst 1, 1) := by decide +kernel
theorem dX6_readBy_32 : decode cX6_readBy 32 = .ok (.iload 4, 2) := by decide +kernel
theorem dX6_readBy_34 : decode cX6_readBy 34 = .ok (.ishl, 1) := by decide +kernel
theorem dX6_readBy_35 : decode cX6_readBy 35 = .ok (.ixor, 1) := by decide +kernel
theorem dX6_readBy_36 : decode cX6_readBy 36 = .ok (.invokevirtual 79, 3) := by decide +kernel
theorem dX6_readBy_39 : decode cX6_readBy 39 = .ok (.if_icmp .eq 10, 3) := by decide +kernel
theorem dX6_readBy_42 : decode cX6_readBy 42 = .ok (.iconst 1, 1) := by decide +kernel
theorem dX6_readBy_43 : decode cX6_readBy 43 = .ok (.iload 4, 2) := by decide +kernel
theorem dX6_readBy_45 : decode cX6_readBy 45 = .ok (.ishl, 1) := by decide +kernel
theorem dX6_readBy_46 : decode cX6_readBy 46 = .ok (.goto 4, 3) := by decide +kernel
theorem dX6_readBy_49 : decode cX6_readBy 49 = .ok (.iconst 0, 1) := by decide +kernel
theorem dX6_readBy_50 : decode cX6_readBy 50 = .ok (.ior, 1) := by decide +kernel
theorem dX6_readBy_51 : decode cX6_readBy 51 = .ok (.istore_n 2, 1) := by decide +kernel
theorem dX6_readBy_52 : decode cX6_readBy 52 = .ok (.iinc 4 1, 3) := by decide +kernel
theorem dX6_readBy_55 : decode cX6_readBy 55 = .ok (.goto (-41), 3) := by decide +kernel
theorem dX6_readBy_58 : decode cX6_readBy 58 = .ok (.iinc 3 1, 3) := by decide +kernel
theorem dX6_readBy_61 : decode cX6_readBy 61 = .ok (.goto (-57), 3) := by decide +kernel
theorem dX6_readBy_64 : decode cX6_readBy 64 = .ok (.iload_n 2, 1) := by decide +kernel
theorem dX6_readBy_65 : decode cX6_readBy 65 = .ok (.ireturn, 1) := by decide +kernel
theorem dX6_holdsFor_0 : decode cX6_holdsFor 0 = .ok (.iconst 0, 1) := by decide +kernel
theorem dX6_holdsFor_1 : decode cX6_holdsFor 1 = .ok (.istore_n 2, 1) := by decide +kernel
theorem dX6_holdsFor_2 : decode cX6_holdsFor 2 = .ok (.iconst 0, 1) := by decide +kernel
theorem dX6_holdsFor_3 : decode cX6_holdsFor 3 = .ok (.istore_n 3, 1) := by decide +kernel
theorem dX6_holdsFor_4 : decode cX6_holdsFor 4 = .ok (.iload_n 3, 1) := by decide +kernel
theorem dX6_holdsFor_5 : decode cX6_holdsFor 5 = .ok (.sipush 256, 3) := by decide +kernel
theorem dX6_holdsFor_8 : decode cX6_holdsFor 8 = .ok (.if_icmp .ge 26, 3) := by decide +kernel
theorem dX6_holdsFor_11 : decode cX6_holdsFor 11 = .ok (.iload_n 2, 1) := by decide +kernel
theorem dX6_holdsFor_12 : decode cX6_holdsFor 12 = .ok (.aload_n 0, 1) := by decide +kernel
theorem dX6_holdsFor_13 : decode cX6_holdsFor 13 = .ok (.iload_n 1, 1) := by decide +kernel
theorem dX6_holdsFor_14 : decode cX6_holdsFor 14 = .ok (.iload_n 3, 1) := by decide +kernel
theorem dX6_holdsFor_15 : decode cX6_holdsFor 15 = .ok (.invokevirtual 79, 3) := by decide +kernel
theorem dX6_holdsFor_18 : decode cX6_holdsFor 18 = .ok (.ifCond .eq 7, 3) := by decide +kernel
theorem dX6_holdsFor_21 : decode cX6_holdsFor 21 = .ok (.iconst 1, 1) := by decide +kernel
theorem dX6_holdsFor_22 : decode cX6_holdsFor 22 = .ok (.goto 4, 3) := by decide +kernel
theorem dX6_holdsFor_25 : decode cX6_holdsFor 25 = .ok (.iconst 0, 1) := by decide +kernel
theorem dX6_holdsFor_26 : decode cX6_holdsFor 26 = .ok (.iadd, 1) := by decide +kernel
theorem dX6_holdsFor_27 : decode cX6_holdsFor 27 = .ok (.istore_n 2, 1) := by decide +kernel
theorem dX6_holdsFor_28 : decode cX6_holdsFor 28 = .ok (.iinc 3 1, 3) := by decide +kernel
theorem dX6_holdsFor_31 : decode cX6_holdsFor 31 = .ok (.goto (-27), 3) := by decide +kernel
theorem dX6_holdsFor_34 : decode cX6_holdsFor 34 = .ok (.iload_n 2, 1) := by decide +kernel
theorem dX6_holdsFor_35 : decode cX6_holdsFor 35 = .ok (.ireturn, 1) := by decide +kernel
theorem dX6_feed_0 : decode cX6_feed 0 = .ok (.iload_n 3, 1) := by decide +kernel
theorem dX6_feed_1 : decode cX6_feed 1 = .ok (.iconst 1, 1) := by decide +kernel
theorem dX6_feed_2 : decode cX6_feed 2 = .ok (.bipush 8, 2) := by decide +kernel
theorem dX6_feed_4 : decode cX6_feed 4 = .ok (.invokestatic 67, 3) := by decide +kernel
theorem dX6_feed_7 : decode cX6_feed 7 = .ok (.ifCond .eq 14, 3) := by decide +kernel
theorem dX6_feed_10 : decode cX6_feed 10 = .ok (.aload_n 0, 1) := by decide +kernel
theorem dX6_feed_11 : decode cX6_feed 11 = .ok (.getfield 83, 3) := by decide +kernel
theorem dX6_feed_14 : decode cX6_feed 14 = .ok (.iload_n 3, 1) := by decide +kernel
theorem dX6_feed_15 : decode cX6_feed 15 = .ok (.iadd, 1) := by decide +kernel
theorem dX6_feed_16 : decode cX6_feed 16 = .ok (.bipush 100, 2) := by decide +kernel
theorem dX6_feed_18 : decode cX6_feed 18 = .ok (.if_icmp .le 7, 3) := by decide +kernel
theorem dX6_feed_21 : decode cX6_feed 21 = .ok (.sipush (-1002), 3) := by decide +kernel
theorem dX6_feed_24 : decode cX6_feed 24 = .ok (.ireturn, 1) := by decide +kernel
theorem dX6_feed_25 : decode cX6_feed 25 = .ok (.iconst 0, 1) := by decide +kernel
theorem dX6_feed_26 : decode cX6_feed 26 = .ok (.istore 4, 2) := by decide +kernel
theorem dX6_feed_28 : decode cX6_feed 28 = .ok (.iload 4, 2) := by decide +kernel
theorem dX6_feed_30 : decode cX6_feed 30 = .ok (.iload_n 3, 1) := by decide +kernel
theorem dX6_feed_31 : decode cX6_feed 31 = .ok (.if_icmp .ge 40, 3) := by decide +kernel
theorem dX6_feed_34 : decode cX6_feed 34 = .ok (.aload_n 0, 1) := by decide +kernel
theorem dX6_feed_35 : decode cX6_feed 35 = .ok (.getfield 23, 3) := by decide +kernel
theorem dX6_feed_38 : decode cX6_feed 38 = .ok (.aload_n 0, 1) := by decide +kernel
theorem dX6_feed_39 : decode cX6_feed 39 = .ok (.getfield 83, 3) := by decide +kernel
theorem dX6_feed_42 : decode cX6_feed 42 = .ok (.lload_n 1, 1) := by decide +kernel
theorem dX6_feed_43 : decode cX6_feed 43 = .ok (.bipush 8, 2) := by decide +kernel
theorem dX6_feed_45 : decode cX6_feed 45 = .ok (.iload 4, 2) := by decide +kernel
theorem dX6_feed_47 : decode cX6_feed 47 = .ok (.imul, 1) := by decide +kernel
theorem dX6_feed_48 : decode cX6_feed 48 = .ok (.lshr, 1) := by decide +kernel
theorem dX6_feed_49 : decode cX6_feed 49 = .ok (.l2i, 1) := by decide +kernel
theorem dX6_feed_50 : decode cX6_feed 50 = .ok (.sipush 255, 3) := by decide +kernel
theorem dX6_feed_53 : decode cX6_feed 53 = .ok (.iand, 1) := by decide +kernel
theorem dX6_feed_54 : decode cX6_feed 54 = .ok (.iastore, 1) := by decide +kernel
theorem dX6_feed_55 : decode cX6_feed 55 = .ok (.aload_n 0, 1) := by decide +kernel
theorem dX6_feed_56 : decode cX6_feed 56 = .ok (.dup, 1) := by decide +kernel
theorem dX6_feed_57 : decode cX6_feed 57 = .ok (.getfield 83, 3) := by decide +kernel
theorem dX6_feed_60 : decode cX6_feed 60 = .ok (.iconst 1, 1) := by decide +kernel
theorem dX6_feed_61 : decode cX6_feed 61 = .ok (.iadd, 1) := by decide +kernel
theorem dX6_feed_62 : decode cX6_feed 62 = .ok (.putfield 83, 3) := by decide +kernel
theorem dX6_feed_65 : decode cX6_feed 65 = .ok (.iinc 4 1, 3) := by decide +kernel
theorem dX6_feed_68 : decode cX6_feed 68 = .ok (.goto (-40), 3) := by decide +kernel
theorem dX6_feed_71 : decode cX6_feed 71 = .ok (.aload_n 0, 1) := by decide +kernel
theorem dX6_feed_72 : decode cX6_feed 72 = .ok (.getfield 83, 3) := by decide +kernel
theorem dX6_feed_75 : decode cX6_feed 75 = .ok (.ireturn, 1) := by decide +kernel
theorem dX6_here_0 : decode cX6_here 0 = .ok (.aload_n 0, 1) := by decide +kernel
theorem dX6_here_1 : decode cX6_here 1 = .ok (.getfield 86, 3) := by decide +kernel
theorem dX6_here_4 : decode cX6_here 4 = .ok (.aload_n 0, 1) := by decide +kernel
theorem dX6_here_5 : decode cX6_here 5 = .ok (.getfield 83, 3) := by decide +kernel
theorem dX6_here_8 : decode cX6_here 8 = .ok (.if_icmp .ge 15, 3) := by decide +kernel
theorem dX6_here_11 : decode cX6_here 11 = .ok (.aload_n 0, 1) := by decide +kernel
theorem dX6_here_12 : decode cX6_here 12 = .ok (.getfield 23, 3) := by decide +kernel
theorem dX6_here_15 : decode cX6_here 15 = .ok (.aload_n 0, 1) := by decide +kernel
theorem dX6_here_16 : decode cX6_here 16 = .ok (.getfield 86, 3) := by decide +kernel
theorem dX6_here_19 : decode cX6_here 19 = .ok (.iaload, 1) := by decide +kernel
theorem dX6_here_20 : decode cX6_here 20 = .ok (.goto 4, 3) := by decide +kernel
theorem dX6_here_23 : decode cX6_here 23 = .ok (.iconst (-1), 1) := by decide +kernel
theorem dX6_here_24 : decode cX6_here 24 = .ok (.ireturn, 1) := by decide +kernel
theorem dX6_either_0 : decode cX6_either 0 = .ok (.aload_n 0, 1) := by decide +kernel
theorem dX6_either_1 : decode cX6_either 1 = .ok (.invokevirtual 89, 3) := by decide +kernel
theorem dX6_either_4 : decode cX6_either 4 = .ok (.istore_n 1, 1) := by decide +kernel
theorem dX6_either_5 : decode cX6_either 5 = .ok (.aload_n 0, 1) := by decide +kernel
theorem dX6_either_6 : decode cX6_either 6 = .ok (.getfield 93, 3) := by decide +kernel
theorem dX6_either_9 : decode cX6_either 9 = .ok (.ifCond .ne 34, 3) := by decide +kernel
theorem dX6_either_12 : decode cX6_either 12 = .ok (.aload_n 0, 1) := by decide +kernel
theorem dX6_either_13 : decode cX6_either 13 = .ok (.invokevirtual 97, 3) := by decide +kernel
theorem dX6_either_16 : decode cX6_either 16 = .ok (.bipush 124, 2) := by decide +kernel
theorem dX6_either_18 : decode cX6_either 18 = .ok (.if_icmp .ne 25, 3) := by decide +kernel
theorem dX6_either_21 : decode cX6_either 21 = .ok (.aload_n 0, 1) := by decide +kernel
theorem dX6_either_22 : decode cX6_either 22 = .ok (.dup, 1) := by decide +kernel
theorem dX6_either_23 : decode cX6_either 23 = .ok (.getfield 86, 3) := by decide +kernel
theorem dX6_either_26 : decode cX6_either 26 = .ok (.iconst 1, 1) := by decide +kernel
theorem dX6_either_27 : decode cX6_either 27 = .ok (.iadd, 1) := by decide +kernel
theorem dX6_either_28 : decode cX6_either 28 = .ok (.putfield 86, 3) := by decide +kernel
theorem dX6_either_31 : decode cX6_either 31 = .ok (.aload_n 0, 1) := by decide +kernel
theorem dX6_either_32 : decode cX6_either 32 = .ok (.invokevirtual 89, 3) := by decide +kernel
theorem dX6_either_35 : decode cX6_either 35 = .ok (.istore_n 2, 1) := by decide +kernel
theorem dX6_either_36 : decode cX6_either 36 = .ok (.iload_n 1, 1) := by decide +kernel
theorem dX6_either_37 : decode cX6_either 37 = .ok (.iload_n 2, 1) := by decide +kernel
theorem dX6_either_38 : decode cX6_either 38 = .ok (.ior, 1) := by decide +kernel
theorem dX6_either_39 : decode cX6_either 39 = .ok (.istore_n 1, 1) := by decide +kernel
theorem dX6_either_40 : decode cX6_either 40 = .ok (.goto (-35), 3) := by decide +kernel
theorem dX6_either_43 : decode cX6_either 43 = .ok (.iload_n 1, 1) := by decide +kernel
theorem dX6_either_44 : decode cX6_either 44 = .ok (.ireturn, 1) := by decide +kernel
theorem dX6_both_0 : decode cX6_both 0 = .ok (.aload_n 0, 1) := by decide +kernel
theorem dX6_both_1 : decode cX6_both 1 = .ok (.invokevirtual 101, 3) := by decide +kernel
theorem dX6_both_4 : decode cX6_both 4 = .ok (.istore_n 1, 1) := by decide +kernel
theorem dX6_both_5 : decode cX6_both 5 = .ok (.aload_n 0, 1) := by decide +kernel
theorem dX6_both_6 : decode cX6_both 6 = .ok (.getfield 93, 3) := by decide +kernel
theorem dX6_both_9 : decode cX6_both 9 = .ok (.ifCond .ne 34, 3) := by decide +kernel
theorem dX6_both_12 : decode cX6_both 12 = .ok (.aload_n 0, 1) := by decide +kernel
theorem dX6_both_13 : decode cX6_both 13 = .ok (.invokevirtual 97, 3) := by decide +kernel
theorem dX6_both_16 : decode cX6_both 16 = .ok (.bipush 38, 2) := by decide +kernel
theorem dX6_both_18 : decode cX6_both 18 = .ok (.if_icmp .ne 25, 3) := by decide +kernel
theorem dX6_both_21 : decode cX6_both 21 = .ok (.aload_n 0, 1) := by decide +kernel
theorem dX6_both_22 : decode cX6_both 22 = .ok (.dup, 1) := by decide +kernel
theorem dX6_both_23 : decode cX6_both 23 = .ok (.getfield 86, 3) := by decide +kernel
theorem dX6_both_26 : decode cX6_both 26 = .ok (.iconst 1, 1) := by decide +kernel
theorem dX6_both_27 : decode cX6_both 27 = .ok (.iadd, 1) := by decide +kernel
theorem dX6_both_28 : decode cX6_both 28 = .ok (.putfield 86, 3) := by decide +kernel
theorem dX6_both_31 : decode cX6_both 31 = .ok (.aload_n 0, 1) := by decide +kernel
theorem dX6_both_32 : decode cX6_both 32 = .ok (.invokevirtual 101, 3) := by decide +kernel
theorem dX6_both_35 : decode cX6_both 35 = .ok (.istore_n 2, 1) := by decide +kernel
theorem dX6_both_36 : decode cX6_both 36 = .ok (.iload_n 1, 1) := by decide +kernel
theorem dX6_both_37 : decode cX6_both 37 = .ok (.iload_n 2, 1) := by decide +kernel
theorem dX6_both_38 : decode cX6_both 38 = .ok (.iand, 1) := by decide +kernel
theorem dX6_both_39 : decode cX6_both 39 = .ok (.istore_n 1, 1) := by decide +kernel
theorem dX6_both_40 : decode cX6_both 40 = .ok (.goto (-35), 3) := by decide +kernel
theorem dX6_both_43 : decode cX6_both 43 = .ok (.iload_n 1, 1) := by decide +kernel
theorem dX6_both_44 : decode cX6_both 44 = .ok (.ireturn, 1) := by decide +kernel
theorem dX6_one_0 : decode cX6_one 0 = .ok (.aload_n 0, 1) := by decide +kernel
theorem dX6_one_1 : decode cX6_one 1 = .ok (.invokevirtual 97, 3) := by decide +kernel
theorem dX6_one_4 : decode cX6_one 4 = .ok (.istore_n 1, 1) := by decide +kernel
theorem dX6_one_5 : decode cX6_one 5 = .ok (.iload_n 1, 1) := by decide +kernel
theorem dX6_one_6 : decode cX6_one 6 = .ok (.bipush 97, 2) := by decide +kernel
theorem dX6_one_8 : decode cX6_one 8 = .ok (.if_icmp .lt 40, 3) := by decide +kernel
theorem dX6_one_11 : decode cX6_one 11 = .ok (.iload_n 1, 1) := by decide +kernel
theorem dX6_one_12 : decode cX6_one 12 = .ok (.bipush 104, 2) := by decide +kernel
theorem dX6_one_14 : decode cX6_one 14 = .ok (.if_icmp .gt 34, 3) := by decide +kernel
theorem dX6_one_17 : decode cX6_one 17 = .ok (.aload_n 0, 1) := by decide +kernel
theorem dX6_one_18 : decode cX6_one 18 = .ok (.dup, 1) := by decide +kernel
theorem dX6_one_19 : decode cX6_one 19 = .ok (.getfield 86, 3) := by decide +kernel
theorem dX6_one_22 : decode cX6_one 22 = .ok (.iconst 1, 1) := by decide +kernel
theorem dX6_one_23 : decode cX6_one 23 = .ok (.iadd, 1) := by decide +kernel
theorem dX6_one_24 : decode cX6_one 24 = .ok (.putfield 86, 3) := by decide +kernel
theorem dX6_one_27 : decode cX6_one 27 = .ok (.aload_n 0, 1) := by decide +kernel
theorem dX6_one_28 : decode cX6_one 28 = .ok (.getfield 104, 3) := by decide +kernel
theorem dX6_one_31 : decode cX6_one 31 = .ok (.iload_n 1, 1) := by decide +kernel
theorem dX6_one_32 : decode cX6_one 32 = .ok (.bipush 97, 2) := by decide +kernel
theorem dX6_one_34 : decode cX6_one 34 = .ok (.isub, 1) := by decide +kernel
theorem dX6_one_35 : decode cX6_one 35 = .ok (.ishr, 1) := by decide +kernel
theorem dX6_one_36 : decode cX6_one 36 = .ok (.iconst 1, 1) := by decide +kernel
theorem dX6_one_37 : decode cX6_one 37 = .ok (.iand, 1) := by decide +kernel
theorem dX6_one_38 : decode cX6_one 38 = .ok (.iconst 1, 1) := by decide +kernel
theorem dX6_one_39 : decode cX6_one 39 = .ok (.if_icmp .ne 7, 3) := by decide +kernel
theorem dX6_one_42 : decode cX6_one 42 = .ok (.iconst 1, 1) := by decide +kernel
theorem dX6_one_43 : decode cX6_one 43 = .ok (.goto 4, 3) := by decide +kernel
theorem dX6_one_46 : decode cX6_one 46 = .ok (.iconst 0, 1) := by decide +kernel
theorem dX6_one_47 : decode cX6_one 47 = .ok (.ireturn, 1) := by decide +kernel
theorem dX6_one_48 : decode cX6_one 48 = .ok (.iload_n 1, 1) := by decide +kernel
theorem dX6_one_49 : decode cX6_one 49 = .ok (.bipush 48, 2) := by decide +kernel
theorem dX6_one_51 : decode cX6_one 51 = .ok (.if_icmp .eq 9, 3) := by decide +kernel
theorem dX6_one_54 : decode cX6_one 54 = .ok (.iload_n 1, 1) := by decide +kernel
theorem dX6_one_55 : decode cX6_one 55 = .ok (.bipush 49, 2) := by decide +kernel
theorem dX6_one_57 : decode cX6_one 57 = .ok (.if_icmp .ne 25, 3) := by decide +kernel
theorem dX6_one_60 : decode cX6_one 60 = .ok (.aload_n 0, 1) := by decide +kernel
theorem dX6_one_61 : decode cX6_one 61 = .ok (.dup, 1) := by decide +kernel
theorem dX6_one_62 : decode cX6_one 62 = .ok (.getfield 86, 3) := by decide +kernel
theorem dX6_one_65 : decode cX6_one 65 = .ok (.iconst 1, 1) := by decide +kernel
theorem dX6_one_66 : decode cX6_one 66 = .ok (.iadd, 1) := by decide +kernel
theorem dX6_one_67 : decode cX6_one 67 = .ok (.putfield 86, 3) := by decide +kernel
theorem dX6_one_70 : decode cX6_one 70 = .ok (.iload_n 1, 1) := by decide +kernel
theorem dX6_one_71 : decode cX6_one 71 = .ok (.bipush 49, 2) := by decide +kernel
theorem dX6_one_73 : decode cX6_one 73 = .ok (.if_icmp .ne 7, 3) := by decide +kernel
theorem dX6_one_76 : decode cX6_one 76 = .ok (.iconst 1, 1) := by decide +kernel
theorem dX6_one_77 : decode cX6_one 77 = .ok (.goto 4, 3) := by decide +kernel
theorem dX6_one_80 : decode cX6_one 80 = .ok (.iconst 0, 1) := by decide +kernel
theorem dX6_one_81 : decode cX6_one 81 = .ok (.ireturn, 1) := by decide +kernel
theorem dX6_one_82 : decode cX6_one 82 = .ok (.iload_n 1, 1) := by decide +kernel
theorem dX6_one_83 : decode cX6_one 83 = .ok (.bipush 33, 2) := by decide +kernel
theorem dX6_one_85 : decode cX6_one 85 = .ok (.if_icmp .eq 9, 3) := by decide +kernel
theorem dX6_one_88 : decode cX6_one 88 = .ok (.iload_n 1, 1) := by decide +kernel
theorem dX6_one_89 : decode cX6_one 89 = .ok (.bipush 40, 2) := by decide +kernel
theorem dX6_one_91 : decode cX6_one 91 = .ok (.if_icmp .ne 12, 3) := by decide +kernel
theorem dX6_one_94 : decode cX6_one 94 = .ok (.aload_n 0, 1) := by decide +kernel
theorem dX6_one_95 : decode cX6_one 95 = .ok (.getfield 107, 3) := by decide +kernel
theorem dX6_one_98 : decode cX6_one 98 = .ok (.bipush 12, 2) := by decide +kernel
theorem dX6_one_100 : decode cX6_one 100 = .ok (.if_icmp .ne 10, 3) := by decide +kernel
theorem dX6_one_103 : decode cX6_one 103 = .ok (.aload_n 0, 1) := by decide +kernel
theorem dX6_one_104 : decode cX6_one 104 = .ok (.iconst 1, 1) := by decide +kernel
theorem dX6_one_105 : decode cX6_one 105 = .ok (.putfield 93, 3) := by decide +kernel
theorem dX6_one_108 : decode cX6_one 108 = .ok (.iconst 0, 1) := by decide +kernel
theorem dX6_one_109 : decode cX6_one 109 = .ok (.ireturn, 1) := by decide +kernel
theorem dX6_one_110 : decode cX6_one 110 = .ok (.aload_n 0, 1) := by decide +kernel
theorem dX6_one_111 : decode cX6_one 111 = .ok (.dup, 1) := by decide +kernel
theorem dX6_one_112 : decode cX6_one 112 = .ok (.getfield 86, 3) := by decide +kernel
theorem dX6_one_115 : decode cX6_one 115 = .ok (.iconst 1, 1) := by decide +kernel
theorem dX6_one_116 : decode cX6_one 116 = .ok (.iadd, 1) := by decide +kernel
theorem dX6_one_117 : decode cX6_one 117 = .ok (.putfield 86, 3) := by decide +kernel
theorem dX6_one_120 : decode cX6_one 120 = .ok (.aload_n 0, 1) := by decide +kernel
theorem dX6_one_121 : decode cX6_one 121 = .ok (.dup, 1) := by decide +kernel
theorem dX6_one_122 : decode cX6_one 122 = .ok (.getfield 107, 3) := by decide +kernel
theorem dX6_one_125 : decode cX6_one 125 = .ok (.iconst 1, 1) := by decide +kernel
theorem dX6_one_126 : decode cX6_one 126 = .ok (.iadd, 1) := by decide +kernel
theorem dX6_one_127 : decode cX6_one 127 = .ok (.putfield 107, 3) := by decide +kernel
theorem dX6_one_130 : decode cX6_one 130 = .ok (.iload_n 1, 1) := by decide +kernel
theorem dX6_one_131 : decode cX6_one 131 = .ok (.bipush 33, 2) := by decide +kernel
theorem dX6_one_133 : decode cX6_one 133 = .ok (.if_icmp .ne 18, 3) := by decide +kernel
theorem dX6_one_136 : decode cX6_one 136 = .ok (.aload_n 0, 1) := by decide +kernel
theorem dX6_one_137 : decode cX6_one 137 = .ok (.invokevirtual 101, 3) := by decide +kernel
theorem dX6_one_140 : decode cX6_one 140 = .ok (.ifCond .ne 7, 3) := by decide +kernel
theorem dX6_one_143 : decode cX6_one 143 = .ok (.iconst 1, 1) := by decide +kernel
theorem dX6_one_144 : decode cX6_one 144 = .ok (.goto 11, 3) := by decide +kernel
theorem dX6_one_147 : decode cX6_one 147 = .ok (.iconst 0, 1) := by decide +kernel
theorem dX6_one_148 : decode cX6_one 148 = .ok (.goto 7, 3) := by decide +kernel
theorem dX6_one_151 : decode cX6_one 151 = .ok (.aload_n 0, 1) := by decide +kernel
theorem dX6_one_152 : decode cX6_one 152 = .ok (.invokevirtual 110, 3) := by decide +kernel
theorem dX6_one_155 : decode cX6_one 155 = .ok (.istore_n 2, 1) := by decide +kernel
theorem dX6_one_156 : decode cX6_one 156 = .ok (.aload_n 0, 1) := by decide +kernel
theorem dX6_one_157 : decode cX6_one 157 = .ok (.dup, 1) := by decide +kernel
theorem dX6_one_158 : decode cX6_one 158 = .ok (.getfield 107, 3) := by decide +kernel
theorem dX6_one_161 : decode cX6_one 161 = .ok (.iconst 1, 1) := by decide +kernel
theorem dX6_one_162 : decode cX6_one 162 = .ok (.isub, 1) := by decide +kernel
theorem dX6_one_163 : decode cX6_one 163 = .ok (.putfield 107, 3) := by decide +kernel
theorem dX6_one_166 : decode cX6_one 166 = .ok (.iload_n 1, 1) := by decide +kernel
theorem dX6_one_167 : decode cX6_one 167 = .ok (.bipush 40, 2) := by decide +kernel
theorem dX6_one_169 : decode cX6_one 169 = .ok (.if_icmp .ne 49, 3) := by decide +kernel
theorem dX6_one_172 : decode cX6_one 172 = .ok (.aload_n 0, 1) := by decide +kernel
theorem dX6_one_173 : decode cX6_one 173 = .ok (.getfield 93, 3) := by decide +kernel
theorem dX6_one_176 : decode cX6_one 176 = .ok (.ifCond .ne 42, 3) := by decide +kernel
theorem dX6_one_179 : decode cX6_one 179 = .ok (.aload_n 0, 1) := by decide +kernel
theorem dX6_one_180 : decode cX6_one 180 = .ok (.aload_n 0, 1) := by decide +kernel
theorem dX6_one_181 : decode cX6_one 181 = .ok (.invokevirtual 97, 3) := by decide +kernel
theorem dX6_one_184 : decode cX6_one 184 = .ok (.bipush 41, 2) := by decide +kernel
theorem dX6_one_186 : decode cX6_one 186 = .ok (.if_icmp .eq 7, 3) := by decide +kernel
theorem dX6_one_189 : decode cX6_one 189 = .ok (.iconst 1, 1) := by decide +kernel
theorem dX6_one_190 : decode cX6_one 190 = .ok (.goto 4, 3) := by decide +kernel
theorem dX6_one_193 : decode cX6_one 193 = .ok (.iconst 0, 1) := by decide +kernel
theorem dX6_one_194 : decode cX6_one 194 = .ok (.putfield 93, 3) := by decide +kernel
theorem dX6_one_197 : decode cX6_one 197 = .ok (.aload_n 0, 1) := by decide +kernel
theorem dX6_one_198 : decode cX6_one 198 = .ok (.dup, 1) := by decide +kernel
theorem dX6_one_199 : decode cX6_one 199 = .ok (.getfield 86, 3) := by decide +kernel
theorem dX6_one_202 : decode cX6_one 202 = .ok (.aload_n 0, 1) := by decide +kernel
theorem dX6_one_203 : decode cX6_one 203 = .ok (.getfield 93, 3) := by decide +kernel
theorem dX6_one_206 : decode cX6_one 206 = .ok (.ifCond .eq 7, 3) := by decide +kernel
theorem dX6_one_209 : decode cX6_one 209 = .ok (.iconst 0, 1) := by decide +kernel
theorem dX6_one_210 : decode cX6_one 210 = .ok (.goto 4, 3) := by decide +kernel
theorem dX6_one_213 : decode cX6_one 213 = .ok (.iconst 1, 1) := by decide +kernel
theorem dX6_one_214 : decode cX6_one 214 = .ok (.iadd, 1) := by decide +kernel
theorem dX6_one_215 : decode cX6_one 215 = .ok (.putfield 86, 3) := by decide +kernel
theorem dX6_one_218 : decode cX6_one 218 = .ok (.iload_n 2, 1) := by decide +kernel
theorem dX6_one_219 : decode cX6_one 219 = .ok (.ireturn, 1) := by decide +kernel
theorem dX6_read_0 : decode cX6_read 0 = .ok (.aload_n 0, 1) := by decide +kernel
theorem dX6_read_1 : decode cX6_read 1 = .ok (.iconst 0, 1) := by decide +kernel
theorem dX6_read_2 : decode cX6_read 2 = .ok (.putfield 86, 3) := by decide +kernel
theorem dX6_read_5 : decode cX6_read 5 = .ok (.aload_n 0, 1) := by decide +kernel
theorem dX6_read_6 : decode cX6_read 6 = .ok (.iconst 0, 1) := by decide +kernel
theorem dX6_read_7 : decode cX6_read 7 = .ok (.putfield 93, 3) := by decide +kernel
theorem dX6_read_10 : decode cX6_read 10 = .ok (.aload_n 0, 1) := by decide +kernel
theorem dX6_read_11 : decode cX6_read 11 = .ok (.iload_n 1, 1) := by decide +kernel
theorem dX6_read_12 : decode cX6_read 12 = .ok (.putfield 104, 3) := by decide +kernel
theorem dX6_read_15 : decode cX6_read 15 = .ok (.aload_n 0, 1) := by decide +kernel
theorem dX6_read_16 : decode cX6_read 16 = .ok (.iconst 0, 1) := by decide +kernel
theorem dX6_read_17 : decode cX6_read 17 = .ok (.putfield 107, 3) := by decide +kernel
theorem dX6_read_20 : decode cX6_read 20 = .ok (.aload_n 0, 1) := by decide +kernel
theorem dX6_read_21 : decode cX6_read 21 = .ok (.invokevirtual 110, 3) := by decide +kernel
theorem dX6_read_24 : decode cX6_read 24 = .ok (.ireturn, 1) := by decide +kernel
theorem dX6_readNeed_0 : decode cX6_readNeed 0 = .ok (.iconst 0, 1) := by decide +kernel
theorem dX6_readNeed_1 : decode cX6_readNeed 1 = .ok (.istore_n 1, 1) := by decide +kernel
theorem dX6_readNeed_2 : decode cX6_readNeed 2 = .ok (.iload_n 1, 1) := by decide +kernel
theorem dX6_readNeed_3 : decode cX6_readNeed 3 = .ok (.bipush 8, 2) := by decide +kernel
theorem dX6_readNeed_5 : decode cX6_readNeed 5 = .ok (.if_icmp .ge 27, 3) := by decide +kernel
theorem dX6_readNeed_8 : decode cX6_readNeed 8 = .ok (.aload_n 0, 1) := by decide +kernel
theorem dX6_readNeed_9 : decode cX6_readNeed 9 = .ok (.getfield 38, 3) := by decide +kernel
theorem dX6_readNeed_12 : decode cX6_readNeed 12 = .ok (.iload_n 1, 1) := by decide +kernel
theorem dX6_readNeed_13 : decode cX6_readNeed 13 = .ok (.aload_n 0, 1) := by decide +kernel
theorem dX6_readNeed_14 : decode cX6_readNeed 14 = .ok (.getfield 83, 3) := by decide +kernel
theorem dX6_readNeed_17 : decode cX6_readNeed 17 = .ok (.ifCond .ne 7, 3) := by decide +kernel
theorem dX6_readNeed_20 : decode cX6_readNeed 20 = .ok (.iconst (-1), 1) := by decide +kernel
theorem dX6_readNeed_21 : decode cX6_readNeed 21 = .ok (.goto 4, 3) := by decide +kernel
theorem dX6_readNeed_24 : decode cX6_readNeed 24 = .ok (.iconst 0, 1) := by decide +kernel
theorem dX6_readNeed_25 : decode cX6_readNeed 25 = .ok (.iastore, 1) := by decide +kernel
theorem dX6_readNeed_26 : decode cX6_readNeed 26 = .ok (.iinc 1 1, 3) := by decide +kernel
theorem dX6_readNeed_29 : decode cX6_readNeed 29 = .ok (.goto (-27), 3) := by decide +kernel
theorem dX6_readNeed_32 : decode cX6_readNeed 32 = .ok (.aload_n 0, 1) := by decide +kernel
theorem dX6_readNeed_33 : decode cX6_readNeed 33 = .ok (.getfield 83, 3) := by decide +kernel
theorem dX6_readNeed_36 : decode cX6_readNeed 36 = .ok (.ifCond .ne 5, 3) := by decide +kernel
theorem dX6_readNeed_39 : decode cX6_readNeed 39 = .ok (.iconst 0, 1) := by decide +kernel
theorem dX6_readNeed_40 : decode cX6_readNeed 40 = .ok (.ireturn, 1) := by decide +kernel
theorem dX6_readNeed_41 : decode cX6_readNeed 41 = .ok (.aload_n 0, 1) := by decide +kernel
theorem dX6_readNeed_42 : decode cX6_readNeed 42 = .ok (.getfield 83, 3) := by decide +kernel
theorem dX6_readNeed_45 : decode cX6_readNeed 45 = .ok (.bipush 60, 2) := by decide +kernel
theorem dX6_readNeed_47 : decode cX6_readNeed 47 = .ok (.if_icmp .le 7, 3) := by decide +kernel
theorem dX6_readNeed_50 : decode cX6_readNeed 50 = .ok (.sipush (-1160), 3) := by decide +kernel
theorem dX6_readNeed_53 : decode cX6_readNeed 53 = .ok (.ireturn, 1) := by decide +kernel
theorem dX6_readNeed_54 : decode cX6_readNeed 54 = .ok (.aload_n 0, 1) := by decide +kernel
theorem dX6_readNeed_55 : decode cX6_readNeed 55 = .ok (.iconst 0, 1) := by decide +kernel
theorem dX6_readNeed_56 : decode cX6_readNeed 56 = .ok (.invokevirtual 113, 3) := by decide +kernel
theorem dX6_readNeed_59 : decode cX6_readNeed 59 = .ok (.istore_n 1, 1) := by decide +kernel
theorem dX6_readNeed_60 : decode cX6_readNeed 60 = .ok (.aload_n 0, 1) := by decide +kernel
theorem dX6_readNeed_61 : decode cX6_readNeed 61 = .ok (.getfield 93, 3) := by decide +kernel
theorem dX6_readNeed_64 : decode cX6_readNeed 64 = .ok (.ifCond .ne 14, 3) := by decide +kernel
theorem dX6_readNeed_67 : decode cX6_readNeed 67 = .ok (.aload_n 0, 1) := by decide +kernel
theorem dX6_readNeed_68 : decode cX6_readNeed 68 = .ok (.getfield 86, 3) := by decide +kernel
theorem dX6_readNeed_71 : decode cX6_readNeed 71 = .ok (.aload_n 0, 1) := by decide +kernel
theorem dX6_readNeed_72 : decode cX6_readNeed 72 = .ok (.getfield 83, 3) := by decide +kernel
theorem dX6_readNeed_75 : decode cX6_readNeed 75 = .ok (.if_icmp .ge 12, 3) := by decide +kernel
theorem dX6_readNeed_78 : decode cX6_readNeed 78 = .ok (.sipush (-1100), 3) := by decide +kernel
theorem dX6_readNeed_81 : decode cX6_readNeed 81 = .ok (.aload_n 0, 1) := by decide +kernel
theorem dX6_readNeed_82 : decode cX6_readNeed 82 = .ok (.getfield 86, 3) := by decide +kernel
theorem dX6_readNeed_85 : decode cX6_readNeed 85 = .ok (.isub, 1) := by decide +kernel
theorem dX6_readNeed_86 : decode cX6_readNeed 86 = .ok (.ireturn, 1) := by decide +kernel
theorem dX6_readNeed_87 : decode cX6_readNeed 87 = .ok (.iconst 0, 1) := by decide +kernel
theorem dX6_readNeed_88 : decode cX6_readNeed 88 = .ok (.istore_n 2, 1) := by decide +kernel
theorem dX6_readNeed_89 : decode cX6_readNeed 89 = .ok (.iload_n 2, 1) := by decide +kernel
theorem dX6_readNeed_90 : decode cX6_readNeed 90 = .ok (.sipush 256, 3) := by decide +kernel
theorem dX6_readNeed_93 : decode cX6_readNeed 93 = .ok (.if_icmp .ge 49, 3) := by decide +kernel
theorem dX6_readNeed_96 : decode cX6_readNeed 96 = .ok (.iload_n 2, 1) := by decide +kernel
theorem dX6_readNeed_97 : decode cX6_readNeed 97 = .ok (.ifCond .ne 7, 3) := by decide +kernel
theorem dX6_readNeed_100 : decode cX6_readNeed 100 = .ok (.iload_n 1, 1) := by decide +kernel
theorem dX6_readNeed_101 : decode cX6_readNeed 101 = .ok (.goto 8, 3) := by decide +kernel
theorem dX6_readNeed_104 : decode cX6_readNeed 104 = .ok (.aload_n 0, 1) := by decide +kernel
theorem dX6_readNeed_105 : decode cX6_readNeed 105 = .ok (.iload_n 2, 1) := by decide +kernel
theorem dX6_readNeed_106 : decode cX6_readNeed 106 = .ok (.invokevirtual 113, 3) := by decide +kernel
theorem dX6_readNeed_109 : decode cX6_readNeed 109 = .ok (.istore_n 3, 1) := by decide +kernel
theorem dX6_readNeed_110 : decode cX6_readNeed 110 = .ok (.aload_n 0, 1) := by decide +kernel
theorem dX6_readNeed_111 : decode cX6_readNeed 111 = .ok (.getfield 38, 3) := by decide +kernel
theorem dX6_readNeed_114 : decode cX6_readNeed 114 = .ok (.iload_n 2, 1) := by decide +kernel
theorem dX6_readNeed_115 : decode cX6_readNeed 115 = .ok (.bipush 32, 2) := by decide +kernel
theorem dX6_readNeed_117 : decode cX6_readNeed 117 = .ok (.idiv, 1) := by decide +kernel
theorem dX6_readNeed_118 : decode cX6_readNeed 118 = .ok (.dup2, 1) := by decide +kernel
theorem dX6_readNeed_119 : decode cX6_readNeed 119 = .ok (.iaload, 1) := by decide +kernel
theorem dX6_readNeed_120 : decode cX6_readNeed 120 = .ok (.iload_n 3, 1) := by decide +kernel
theorem dX6_readNeed_121 : decode cX6_readNeed 121 = .ok (.ifCond .eq 12, 3) := by decide +kernel
theorem dX6_readNeed_124 : decode cX6_readNeed 124 = .ok (.iconst 1, 1) := by decide +kernel
theorem dX6_readNeed_125 : decode cX6_readNeed 125 = .ok (.iload_n 2, 1) := by decide +kernel
theorem dX6_readNeed_126 : decode cX6_readNeed 126 = .ok (.bipush 32, 2) := by decide +kernel
theorem dX6_readNeed_128 : decode cX6_readNeed 128 = .ok (.irem, 1) := by decide +kernel
theorem dX6_readNeed_129 : decode cX6_readNeed 129 = .ok (.ishl, 1) := by decide +kernel
theorem dX6_readNeed_130 : decode cX6_readNeed 130 = .ok (.goto 4, 3) := by decide +kernel
theorem dX6_readNeed_133 : decode cX6_readNeed 133 = .ok (.iconst 0, 1) := by decide +kernel
theorem dX6_readNeed_134 : decode cX6_readNeed 134 = .ok (.ior, 1) := by decide +kernel
theorem dX6_readNeed_135 : decode cX6_readNeed 135 = .ok (.iastore, 1) := by decide +kernel
theorem dX6_readNeed_136 : decode cX6_readNeed 136 = .ok (.iinc 2 1, 3) := by decide +kernel
theorem dX6_readNeed_139 : decode cX6_readNeed 139 = .ok (.goto (-50), 3) := by decide +kernel
theorem dX6_readNeed_142 : decode cX6_readNeed 142 = .ok (.iconst 0, 1) := by decide +kernel
theorem dX6_readNeed_143 : decode cX6_readNeed 143 = .ok (.ireturn, 1) := by decide +kernel
theorem dX6_lay_0 : decode cX6_lay 0 = .ok (.iconst 0, 1) := by decide +kernel
theorem dX6_lay_1 : decode cX6_lay 1 = .ok (.istore_n 2, 1) := by decide +kernel
theorem dX6_lay_2 : decode cX6_lay 2 = .ok (.iload_n 2, 1) := by decide +kernel
theorem dX6_lay_3 : decode cX6_lay 3 = .ok (.bipush 8, 2) := by decide +kernel
theorem dX6_lay_5 : decode cX6_lay 5 = .ok (.if_icmp .ge 23, 3) := by decide +kernel
theorem dX6_lay_8 : decode cX6_lay 8 = .ok (.aload_n 0, 1) := by decide +kernel
theorem dX6_lay_9 : decode cX6_lay 9 = .ok (.getfield 7, 3) := by decide +kernel
theorem dX6_lay_12 : decode cX6_lay 12 = .ok (.iload_n 1, 1) := by decide +kernel
theorem dX6_lay_13 : decode cX6_lay 13 = .ok (.iload_n 2, 1) := by decide +kernel
theorem dX6_lay_14 : decode cX6_lay 14 = .ok (.iadd, 1) := by decide +kernel
theorem dX6_lay_15 : decode cX6_lay 15 = .ok (.aload_n 0, 1) := by decide +kernel
theorem dX6_lay_16 : decode cX6_lay 16 = .ok (.getfield 38, 3) := by decide +kernel
theorem dX6_lay_19 : decode cX6_lay 19 = .ok (.iload_n 2, 1) := by decide +kernel
theorem dX6_lay_20 : decode cX6_lay 20 = .ok (.iaload, 1) := by decide +kernel
theorem dX6_lay_21 : decode cX6_lay 21 = .ok (.iastore, 1) := by decide +kernel
theorem dX6_lay_22 : decode cX6_lay 22 = .ok (.iinc 2 1, 3) := by decide +kernel
theorem dX6_lay_25 : decode cX6_lay 25 = .ok (.goto (-23), 3) := by decide +kernel
theorem dX6_lay_28 : decode cX6_lay 28 = .ok (.return_, 1) := by decide +kernel
theorem dX6_clearChoice_0 : decode cX6_clearChoice 0 = .ok (.iconst 0, 1) := by decide +kernel
theorem dX6_clearChoice_1 : decode cX6_clearChoice 1 = .ok (.istore_n 3, 1) := by decide +kernel
theorem dX6_clearChoice_2 : decode cX6_clearChoice 2 = .ok (.iload_n 3, 1) := by decide +kernel
theorem dX6_clearChoice_3 : decode cX6_clearChoice 3 = .ok (.bipush 14, 2) := by decide +kernel
theorem dX6_clearChoice_5 : decode cX6_clearChoice 5 = .ok (.if_icmp .ge 22, 3) := by decide +kernel
theorem dX6_clearChoice_8 : decode cX6_clearChoice 8 = .ok (.aload_n 0, 1) := by decide +kernel
theorem dX6_clearChoice_9 : decode cX6_clearChoice 9 = .ok (.getfield 7, 3) := by decide +kernel
theorem dX6_clearChoice_12 : decode cX6_clearChoice 12 = .ok (.iload_n 1, 1) := by decide +kernel
theorem dX6_clearChoice_13 : decode cX6_clearChoice 13 = .ok (.iload_n 2, 1) := by decide +kernel
theorem dX6_clearChoice_14 : decode cX6_clearChoice 14 = .ok (.invokestatic 75, 3) := by decide +kernel
theorem dX6_clearChoice_17 : decode cX6_clearChoice 17 = .ok (.iload_n 3, 1) := by decide +kernel
theorem dX6_clearChoice_18 : decode cX6_clearChoice 18 = .ok (.iadd, 1) := by decide +kernel
theorem dX6_clearChoice_19 : decode cX6_clearChoice 19 = .ok (.iconst 0, 1) := by decide +kernel
theorem dX6_clearChoice_20 : decode cX6_clearChoice 20 = .ok (.iastore, 1) := by decide +kernel
theorem dX6_clearChoice_21 : decode cX6_clearChoice 21 = .ok (.iinc 3 1, 3) := by decide +kernel
theorem dX6_clearChoice_24 : decode cX6_clearChoice 24 = .ok (.goto (-22), 3) := by decide +kernel
theorem dX6_clearChoice_27 : decode cX6_clearChoice 27 = .ok (.return_, 1) := by decide +kernel
theorem dX6_clearChoices_0 : decode cX6_clearChoices 0 = .ok (.iconst 0, 1) := by decide +kernel
theorem dX6_clearChoices_1 : decode cX6_clearChoices 1 = .ok (.istore_n 2, 1) := by decide +kernel
theorem dX6_clearChoices_2 : decode cX6_clearChoices 2 = .ok (.iload_n 2, 1) := by decide +kernel
theorem dX6_clearChoices_3 : decode cX6_clearChoices 3 = .ok (.bipush 6, 2) := by decide +kernel
theorem dX6_clearChoices_5 : decode cX6_clearChoices 5 = .ok (.if_icmp .ge 15, 3) := by decide +kernel
theorem dX6_clearChoices_8 : decode cX6_clearChoices 8 = .ok (.aload_n 0, 1) := by decide +kernel
theorem dX6_clearChoices_9 : decode cX6_clearChoices 9 = .ok (.iload_n 1, 1) := by decide +kernel
theorem dX6_clearChoices_10 : decode cX6_clearChoices 10 = .ok (.iload_n 2, 1) := by decide +kernel
theorem dX6_clearChoices_11 : decode cX6_clearChoices 11 = .ok (.invokevirtual 116, 3) := by decide +kernel
theorem dX6_clearChoices_14 : decode cX6_clearChoices 14 = .ok (.iinc 2 1, 3) := by decide +kernel
theorem dX6_clearChoices_17 : decode cX6_clearChoices 17 = .ok (.goto (-15), 3) := by decide +kernel
theorem dX6_clearChoices_20 : decode cX6_clearChoices 20 = .ok (.return_, 1) := by decide +kernel
theorem dX6_hasNeed_0 : decode cX6_hasNeed 0 = .ok (.iload_n 0, 1) := by decide +kernel
theorem dX6_hasNeed_1 : decode cX6_hasNeed 1 = .ok (.iconst 1, 1) := by decide +kernel
theorem dX6_hasNeed_2 : decode cX6_hasNeed 2 = .ok (.if_icmp .eq 13, 3) := by decide +kernel
theorem dX6_hasNeed_5 : decode cX6_hasNeed 5 = .ok (.iload_n 0, 1) := by decide +kernel
theorem dX6_hasNeed_6 : decode cX6_hasNeed 6 = .ok (.iconst 2, 1) := by decide +kernel
theorem dX6_hasNeed_7 : decode cX6_hasNeed 7 = .ok (.if_icmp .eq 8, 3) := by decide +kernel
theorem dX6_hasNeed_10 : decode cX6_hasNeed 10 = .ok (.iload_n 0, 1) := by decide +kernel
theorem dX6_hasNeed_11 : decode cX6_hasNeed 11 = .ok (.iconst 4, 1) := by decide +kernel
theorem dX6_hasNeed_12 : decode cX6_hasNeed 12 = .ok (.if_icmp .ne 7, 3) := by decide +kernel
theorem dX6_hasNeed_15 : decode cX6_hasNeed 15 = .ok (.iconst 1, 1) := by decide +kernel
theorem dX6_hasNeed_16 : decode cX6_hasNeed 16 = .ok (.goto 4, 3) := by decide +kernel
theorem dX6_hasNeed_19 : decode cX6_hasNeed 19 = .ok (.iconst 0, 1) := by decide +kernel
theorem dX6_hasNeed_20 : decode cX6_hasNeed 20 = .ok (.ireturn, 1) := by decide +kernel
theorem dX6_scene_0 : decode cX6_scene 0 = .ok (.iload_n 1, 1) := by decide +kernel
theorem dX6_scene_1 : decode cX6_scene 1 = .ok (.invokestatic 71, 3) := by decide +kernel
theorem dX6_scene_4 : decode cX6_scene 4 = .ok (.ifCond .eq 16, 3) := by decide +kernel
theorem dX6_scene_7 : decode cX6_scene 7 = .ok (.iload_n 2, 1) := by decide +kernel
theorem dX6_scene_8 : decode cX6_scene 8 = .ok (.iconst (-1), 1) := by decide +kernel
theorem dX6_scene_9 : decode cX6_scene 9 = .ok (.iconst 4, 1) := by decide +kernel
theorem dX6_scene_10 : decode cX6_scene 10 = .ok (.invokestatic 67, 3) := by decide +kernel
theorem dX6_scene_13 : decode cX6_scene 13 = .ok (.ifCond .eq 7, 3) := by decide +kernel
theorem dX6_scene_16 : decode cX6_scene 16 = .ok (.iconst 1, 1) := by decide +kernel
theorem dX6_scene_17 : decode cX6_scene 17 = .ok (.goto 4, 3) := by decide +kernel
theorem dX6_scene_20 : decode cX6_scene 20 = .ok (.iconst 0, 1) := by decide +kernel
theorem dX6_scene_21 : decode cX6_scene 21 = .ok (.istore_n 3, 1) := by decide +kernel
theorem dX6_scene_22 : decode cX6_scene 22 = .ok (.iload_n 3, 1) := by decide +kernel
theorem dX6_scene_23 : decode cX6_scene 23 = .ok (.ifCond .eq 17, 3) := by decide +kernel
theorem dX6_scene_26 : decode cX6_scene 26 = .ok (.iload_n 2, 1) := by decide +kernel
theorem dX6_scene_27 : decode cX6_scene 27 = .ok (.invokestatic 120, 3) := by decide +kernel
theorem dX6_scene_30 : decode cX6_scene 30 = .ok (.ifCond .eq 10, 3) := by decide +kernel
theorem dX6_scene_33 : decode cX6_scene 33 = .ok (.aload_n 0, 1) := by decide +kernel
theorem dX6_scene_34 : decode cX6_scene 34 = .ok (.invokevirtual 123, 3) := by decide +kernel
theorem dX6_scene_37 : decode cX6_scene 37 = .ok (.goto 4, 3) := by decide +kernel
theorem dX6_scene_40 : decode cX6_scene 40 = .ok (.iconst 0, 1) := by decide +kernel
theorem dX6_scene_41 : decode cX6_scene 41 = .ok (.istore 4, 2) := by decide +kernel
theorem dX6_scene_43 : decode cX6_scene 43 = .ok (.aload_n 0, 1) := by decide +kernel
theorem dX6_scene_44 : decode cX6_scene 44 = .ok (.iconst 0, 1) := by decide +kernel
theorem dX6_scene_45 : decode cX6_scene 45 = .ok (.putfield 83, 3) := by decide +kernel
theorem dX6_scene_48 : decode cX6_scene 48 = .ok (.iload_n 3, 1) := by decide +kernel
theorem dX6_scene_49 : decode cX6_scene 49 = .ok (.ifCond .eq 8, 3) := by decide +kernel
theorem dX6_scene_52 : decode cX6_scene 52 = .ok (.iload 4, 2) := by decide +kernel
theorem dX6_scene_54 : decode cX6_scene 54 = .ok (.ifCond .ge 16, 3) := by decide +kernel
theorem dX6_scene_57 : decode cX6_scene 57 = .ok (.iload_n 3, 1) := by decide +kernel
theorem dX6_scene_58 : decode cX6_scene 58 = .ok (.ifCond .eq 8, 3) := by decide +kernel
theorem dX6_scene_61 : decode cX6_scene 61 = .ok (.iload 4, 2) := by decide +kernel
theorem dX6_scene_63 : decode cX6_scene 63 = .ok (.goto 6, 3) := by decide +kernel
theorem dX6_scene_66 : decode cX6_scene 66 = .ok (.sipush (-1002), 3) := by decide +kernel
theorem dX6_scene_69 : decode cX6_scene 69 = .ok (.ireturn, 1) := by decide +kernel
theorem dX6_scene_70 : decode cX6_scene 70 = .ok (.aload_n 0, 1) := by decide +kernel
theorem dX6_scene_71 : decode cX6_scene 71 = .ok (.iload_n 1, 1) := by decide +kernel
theorem dX6_scene_72 : decode cX6_scene 72 = .ok (.invokevirtual 126, 3) := by decide +kernel
theorem dX6_scene_75 : decode cX6_scene 75 = .ok (.istore 5, 2) := by decide +kernel
theorem dX6_scene_77 : decode cX6_scene 77 = .ok (.iconst 0, 1) := by decide +kernel
theorem dX6_scene_78 : decode cX6_scene 78 = .ok (.istore 6, 2) := by decide +kernel
theorem dX6_scene_80 : decode cX6_scene 80 = .ok (.iload 6, 2) := by decide +kernel
theorem dX6_scene_82 : decode cX6_scene 82 = .ok (.bipush 10, 2) := by decide +kernel
theorem dX6_scene_84 : decode cX6_scene 84 = .ok (.if_icmp .ge 22, 3) := by decide +kernel
theorem dX6_scene_87 : decode cX6_scene 87 = .ok (.aload_n 0, 1) := by decide +kernel
theorem dX6_scene_88 : decode cX6_scene 88 = .ok (.getfield 7, 3) := by decide +kernel
theorem dX6_scene_91 : decode cX6_scene 91 = .ok (.bipush 10, 2) := by decide +kernel
theorem dX6_scene_93 : decode cX6_scene 93 = .ok (.iload_n 1, 1) := by decide +kernel
theorem dX6_scene_94 : decode cX6_scene 94 = .ok (.imul, 1) := by decide +kernel
theorem dX6_scene_95 : decode cX6_scene 95 = .ok (.iload 6, 2) := by decide +kernel
theorem dX6_scene_97 : decode cX6_scene 97 = .ok (.iadd, 1) := by decide +kernel
theorem dX6_scene_98 : decode cX6_scene 98 = .ok (.iconst 0, 1) := by decide +kernel
theorem dX6_scene_99 : decode cX6_scene 99 = .ok (.iastore, 1) := by decide +kernel
theorem dX6_scene_100 : decode cX6_scene 100 = .ok (.iinc 6 1, 3) := by decide +kernel
theorem dX6_scene_103 : decode cX6_scene 103 = .ok (.goto (-23), 3) := by decide +kernel
theorem dX6_scene_106 : decode cX6_scene 106 = .ok (.iload_n 2, 1) := by decide +kernel
theorem dX6_scene_107 : decode cX6_scene 107 = .ok (.ifCond .ge 11, 3) := by decide +kernel
theorem dX6_scene_110 : decode cX6_scene 110 = .ok (.aload_n 0, 1) := by decide +kernel
theorem dX6_scene_111 : decode cX6_scene 111 = .ok (.iload_n 1, 1) := by decide +kernel
theorem dX6_scene_112 : decode cX6_scene 112 = .ok (.invokevirtual 130, 3) := by decide +kernel
theorem dX6_scene_115 : decode cX6_scene 115 = .ok (.iload 5, 2) := by decide +kernel
theorem dX6_scene_117 : decode cX6_scene 117 = .ok (.ireturn, 1) := by decide +kernel
theorem dX6_scene_118 : decode cX6_scene 118 = .ok (.aload_n 0, 1) := by decide +kernel
theorem dX6_scene_119 : decode cX6_scene 119 = .ok (.getfield 7, 3) := by decide +kernel
theorem dX6_scene_122 : decode cX6_scene 122 = .ok (.bipush 10, 2) := by decide +kernel
theorem dX6_scene_124 : decode cX6_scene 124 = .ok (.iload_n 1, 1) := by decide +kernel
theorem dX6_scene_125 : decode cX6_scene 125 = .ok (.imul, 1) := by decide +kernel
theorem dX6_scene_126 : decode cX6_scene 126 = .ok (.iload_n 2, 1) := by decide +kernel
theorem dX6_scene_127 : decode cX6_scene 127 = .ok (.iconst 1, 1) := by decide +kernel
theorem dX6_scene_128 : decode cX6_scene 128 = .ok (.iadd, 1) := by decide +kernel
theorem dX6_scene_129 : decode cX6_scene 129 = .ok (.iastore, 1) := by decide +kernel
theorem dX6_scene_130 : decode cX6_scene 130 = .ok (.iconst 0, 1) := by decide +kernel
theorem dX6_scene_131 : decode cX6_scene 131 = .ok (.istore 6, 2) := by decide +kernel
theorem dX6_scene_133 : decode cX6_scene 133 = .ok (.iload 6, 2) := by decide +kernel
theorem dX6_scene_135 : decode cX6_scene 135 = .ok (.bipush 8, 2) := by decide +kernel
theorem dX6_scene_137 : decode cX6_scene 137 = .ok (.if_icmp .ge 41, 3) := by decide +kernel
theorem dX6_scene_140 : decode cX6_scene 140 = .ok (.aload_n 0, 1) := by decide +kernel
theorem dX6_scene_141 : decode cX6_scene 141 = .ok (.getfield 7, 3) := by decide +kernel
theorem dX6_scene_144 : decode cX6_scene 144 = .ok (.bipush 10, 2) := by decide +kernel
theorem dX6_scene_146 : decode cX6_scene 146 = .ok (.iload_n 1, 1) := by decide +kernel
theorem dX6_scene_147 : decode cX6_scene 147 = .ok (.imul, 1) := by decide +kernel
theorem dX6_scene_148 : decode cX6_scene 148 = .ok (.iconst 2, 1) := by decide +kernel
theorem dX6_scene_149 : decode cX6_scene 149 = .ok (.iadd, 1) := by decide +kernel
theorem dX6_scene_150 : decode cX6_scene 150 = .ok (.iload 6, 2) := by decide +kernel
theorem dX6_scene_152 : decode cX6_scene 152 = .ok (.iadd, 1) := by decide +kernel
theorem dX6_scene_153 : decode cX6_scene 153 = .ok (.iload_n 2, 1) := by decide +kernel
theorem dX6_scene_154 : decode cX6_scene 154 = .ok (.invokestatic 120, 3) := by decide +kernel
theorem dX6_scene_157 : decode cX6_scene 157 = .ok (.ifCond .eq 13, 3) := by decide +kernel
theorem dX6_scene_160 : decode cX6_scene 160 = .ok (.aload_n 0, 1) := by decide +kernel
theorem dX6_scene_161 : decode cX6_scene 161 = .ok (.getfield 38, 3) := by decide +kernel
theorem dX6_scene_164 : decode cX6_scene 164 = .ok (.iload 6, 2) := by decide +kernel
theorem dX6_scene_166 : decode cX6_scene 166 = .ok (.iaload, 1) := by decide +kernel
theorem dX6_scene_167 : decode cX6_scene 167 = .ok (.goto 4, 3) := by decide +kernel
theorem dX6_scene_170 : decode cX6_scene 170 = .ok (.iconst (-1), 1) := by decide +kernel
theorem dX6_scene_171 : decode cX6_scene 171 = .ok (.iastore, 1) := by decide +kernel
theorem dX6_scene_172 : decode cX6_scene 172 = .ok (.iinc 6 1, 3) := by decide +kernel
theorem dX6_scene_175 : decode cX6_scene 175 = .ok (.goto (-42), 3) := by decide +kernel
theorem dX6_scene_178 : decode cX6_scene 178 = .ok (.iload 5, 2) := by decide +kernel
theorem dX6_scene_180 : decode cX6_scene 180 = .ok (.ireturn, 1) := by decide +kernel
theorem dX6_loss_0 : decode cX6_loss 0 = .ok (.iload_n 1, 1) := by decide +kernel
theorem dX6_loss_1 : decode cX6_loss 1 = .ok (.invokestatic 71, 3) := by decide +kernel
theorem dX6_loss_4 : decode cX6_loss 4 = .ok (.ifCond .eq 10, 3) := by decide +kernel
theorem dX6_loss_7 : decode cX6_loss 7 = .ok (.iload_n 2, 1) := by decide +kernel
theorem dX6_loss_8 : decode cX6_loss 8 = .ok (.invokestatic 134, 3) := by decide +kernel
theorem dX6_loss_11 : decode cX6_loss 11 = .ok (.ifCond .ne 7, 3) := by decide +kernel
theorem dX6_loss_14 : decode cX6_loss 14 = .ok (.sipush (-1002), 3) := by decide +kernel
theorem dX6_loss_17 : decode cX6_loss 17 = .ok (.ireturn, 1) := by decide +kernel
theorem dX6_loss_18 : decode cX6_loss 18 = .ok (.aload_n 0, 1) := by decide +kernel
theorem dX6_loss_19 : decode cX6_loss 19 = .ok (.iload_n 1, 1) := by decide +kernel
theorem dX6_loss_20 : decode cX6_loss 20 = .ok (.invokevirtual 137, 3) := by decide +kernel
theorem dX6_loss_23 : decode cX6_loss 23 = .ok (.ifCond .ne 11, 3) := by decide +kernel
theorem dX6_loss_26 : decode cX6_loss 26 = .ok (.aload_n 0, 1) := by decide +kernel
theorem dX6_loss_27 : decode cX6_loss 27 = .ok (.sipush (-1010), 3) := by decide +kernel
theorem dX6_loss_30 : decode cX6_loss 30 = .ok (.invokevirtual 140, 3) := by decide +kernel
theorem dX6_loss_33 : decode cX6_loss 33 = .ok (.ireturn, 1) := by decide +kernel
theorem dX6_loss_34 : decode cX6_loss 34 = .ok (.aload_n 0, 1) := by decide +kernel
theorem dX6_loss_35 : decode cX6_loss 35 = .ok (.iload_n 1, 1) := by decide +kernel
theorem dX6_loss_36 : decode cX6_loss 36 = .ok (.invokevirtual 126, 3) := by decide +kernel
theorem dX6_loss_39 : decode cX6_loss 39 = .ok (.iconst 2, 1) := by decide +kernel
theorem dX6_loss_40 : decode cX6_loss 40 = .ok (.if_icmp .eq 11, 3) := by decide +kernel
theorem dX6_loss_43 : decode cX6_loss 43 = .ok (.aload_n 0, 1) := by decide +kernel
theorem dX6_loss_44 : decode cX6_loss 44 = .ok (.sipush (-1012), 3) := by decide +kernel
theorem dX6_loss_47 : decode cX6_loss 47 = .ok (.invokevirtual 140, 3) := by decide +kernel
theorem dX6_loss_50 : decode cX6_loss 50 = .ok (.ireturn, 1) := by decide +kernel
theorem dX6_loss_51 : decode cX6_loss 51 = .ok (.aload_n 0, 1) := by decide +kernel
theorem dX6_loss_52 : decode cX6_loss 52 = .ok (.getfield 7, 3) := by decide +kernel
theorem dX6_loss_55 : decode cX6_loss 55 = .ok (.bipush 10, 2) := by decide +kernel
theorem dX6_loss_57 : decode cX6_loss 57 = .ok (.iload_n 1, 1) := by decide +kernel
theorem dX6_loss_58 : decode cX6_loss 58 = .ok (.imul, 1) := by decide +kernel
theorem dX6_loss_59 : decode cX6_loss 59 = .ok (.iconst 1, 1) := by decide +kernel
theorem dX6_loss_60 : decode cX6_loss 60 = .ok (.iadd, 1) := by decide +kernel
theorem dX6_loss_61 : decode cX6_loss 61 = .ok (.iaload, 1) := by decide +kernel
theorem dX6_loss_62 : decode cX6_loss 62 = .ok (.istore_n 3, 1) := by decide +kernel
theorem dX6_loss_63 : decode cX6_loss 63 = .ok (.aload_n 0, 1) := by decide +kernel
theorem dX6_loss_64 : decode cX6_loss 64 = .ok (.getfield 7, 3) := by decide +kernel
theorem dX6_loss_67 : decode cX6_loss 67 = .ok (.bipush 10, 2) := by decide +kernel
theorem dX6_loss_69 : decode cX6_loss 69 = .ok (.iload_n 1, 1) := by decide +kernel
theorem dX6_loss_70 : decode cX6_loss 70 = .ok (.imul, 1) := by decide +kernel
theorem dX6_loss_71 : decode cX6_loss 71 = .ok (.iconst 1, 1) := by decide +kernel
theorem dX6_loss_72 : decode cX6_loss 72 = .ok (.iadd, 1) := by decide +kernel
theorem dX6_loss_73 : decode cX6_loss 73 = .ok (.iload_n 2, 1) := by decide +kernel
theorem dX6_loss_74 : decode cX6_loss 74 = .ok (.iastore, 1) := by decide +kernel
theorem dX6_loss_75 : decode cX6_loss 75 = .ok (.iload_n 3, 1) := by decide +kernel
theorem dX6_loss_76 : decode cX6_loss 76 = .ok (.ireturn, 1) := by decide +kernel
theorem dX6_choice_0 : decode cX6_choice 0 = .ok (.iload_n 1, 1) := by decide +kernel
theorem dX6_choice_1 : decode cX6_choice 1 = .ok (.iload_n 2, 1) := by decide +kernel
theorem dX6_choice_2 : decode cX6_choice 2 = .ok (.invokestatic 143, 3) := by decide +kernel
theorem dX6_choice_5 : decode cX6_choice 5 = .ok (.ifCond .eq 14, 3) := by decide +kernel
theorem dX6_choice_8 : decode cX6_choice 8 = .ok (.iload_n 3, 1) := by decide +kernel
theorem dX6_choice_9 : decode cX6_choice 9 = .ok (.invokestatic 71, 3) := by decide +kernel
theorem dX6_choice_12 : decode cX6_choice 12 = .ok (.ifCond .eq 7, 3) := by decide +kernel
theorem dX6_choice_15 : decode cX6_choice 15 = .ok (.iconst 1, 1) := by decide +kernel
theorem dX6_choice_16 : decode cX6_choice 16 = .ok (.goto 4, 3) := by decide +kernel
theorem dX6_choice_19 : decode cX6_choice 19 = .ok (.iconst 0, 1) := by decide +kernel
theorem dX6_choice_20 : decode cX6_choice 20 = .ok (.istore 4, 2) := by decide +kernel
theorem dX6_choice_22 : decode cX6_choice 22 = .ok (.iload 4, 2) := by decide +kernel
theorem dX6_choice_24 : decode cX6_choice 24 = .ok (.ifCond .eq 15, 3) := by decide +kernel
theorem dX6_choice_27 : decode cX6_choice 27 = .ok (.aload_n 0, 1) := by decide +kernel
theorem dX6_choice_28 : decode cX6_choice 28 = .ok (.iload_n 1, 1) := by decide +kernel
theorem dX6_choice_29 : decode cX6_choice 29 = .ok (.invokevirtual 137, 3) := by decide +kernel
theorem dX6_choice_32 : decode cX6_choice 32 = .ok (.ifCond .eq 7, 3) := by decide +kernel
theorem dX6_choice_35 : decode cX6_choice 35 = .ok (.iconst 1, 1) := by decide +kernel
theorem dX6_choice_36 : decode cX6_choice 36 = .ok (.goto 4, 3) := by decide +kernel
theorem dX6_choice_39 : decode cX6_choice 39 = .ok (.iconst 0, 1) := by decide +kernel
theorem dX6_choice_40 : decode cX6_choice 40 = .ok (.istore 5, 2) := by decide +kernel
theorem dX6_choice_42 : decode cX6_choice 42 = .ok (.iload 5, 2) := by decide +kernel
theorem dX6_choice_44 : decode cX6_choice 44 = .ok (.ifCond .eq 10, 3) := by decide +kernel
theorem dX6_choice_47 : decode cX6_choice 47 = .ok (.aload_n 0, 1) := by decide +kernel
theorem dX6_choice_48 : decode cX6_choice 48 = .ok (.invokevirtual 123, 3) := by decide +kernel
theorem dX6_choice_51 : decode cX6_choice 51 = .ok (.goto 4, 3) := by decide +kernel
theorem dX6_choice_54 : decode cX6_choice 54 = .ok (.iconst 0, 1) := by decide +kernel
theorem dX6_choice_55 : decode cX6_choice 55 = .ok (.istore 6, 2) := by decide +kernel
theorem dX6_choice_57 : decode cX6_choice 57 = .ok (.aload_n 0, 1) := by decide +kernel
theorem dX6_choice_58 : decode cX6_choice 58 = .ok (.iconst 0, 1) := by decide +kernel
theorem dX6_choice_59 : decode cX6_choice 59 = .ok (.putfield 83, 3) := by decide +kernel
theorem dX6_choice_62 : decode cX6_choice 62 = .ok (.iload 4, 2) := by decide +kernel
theorem dX6_choice_64 : decode cX6_choice 64 = .ok (.ifCond .ne 7, 3) := by decide +kernel
theorem dX6_choice_67 : decode cX6_choice 67 = .ok (.sipush (-1002), 3) := by decide +kernel
theorem dX6_choice_70 : decode cX6_choice 70 = .ok (.ireturn, 1) := by decide +kernel
theorem dX6_choice_71 : decode cX6_choice 71 = .ok (.iload 5, 2) := by decide +kernel
theorem dX6_choice_73 : decode cX6_choice 73 = .ok (.ifCond .ne 11, 3) := by decide +kernel
theorem dX6_choice_76 : decode cX6_choice 76 = .ok (.aload_n 0, 1) := by decide +kernel
theorem dX6_choice_77 : decode cX6_choice 77 = .ok (.sipush (-1010), 3) := by decide +kernel
theorem dX6_choice_80 : decode cX6_choice 80 = .ok (.invokevirtual 140, 3) := by decide +kernel
theorem dX6_choice_83 : decode cX6_choice 83 = .ok (.ireturn, 1) := by decide +kernel
theorem dX6_choice_84 : decode cX6_choice 84 = .ok (.iload 6, 2) := by decide +kernel
theorem dX6_choice_86 : decode cX6_choice 86 = .ok (.ifCond .ge 6, 3) := by decide +kernel
theorem dX6_choice_89 : decode cX6_choice 89 = .ok (.iload 6, 2) := by decide +kernel
theorem dX6_choice_91 : decode cX6_choice 91 = .ok (.ireturn, 1) := by decide +kernel
theorem dX6_choice_92 : decode cX6_choice 92 = .ok (.aload_n 0, 1) := by decide +kernel
theorem dX6_choice_93 : decode cX6_choice 93 = .ok (.iload_n 1, 1) := by decide +kernel
theorem dX6_choice_94 : decode cX6_choice 94 = .ok (.iload_n 2, 1) := by decide +kernel
theorem dX6_choice_95 : decode cX6_choice 95 = .ok (.invokevirtual 146, 3) := by decide +kernel
theorem dX6_choice_98 : decode cX6_choice 98 = .ok (.ifCond .eq 7, 3) := by decide +kernel
theorem dX6_choice_101 : decode cX6_choice 101 = .ok (.iconst 1, 1) := by decide +kernel
theorem dX6_choice_102 : decode cX6_choice 102 = .ok (.goto 4, 3) := by decide +kernel
theorem dX6_choice_105 : decode cX6_choice 105 = .ok (.iconst 0, 1) := by decide +kernel
theorem dX6_choice_106 : decode cX6_choice 106 = .ok (.istore 7, 2) := by decide +kernel
theorem dX6_choice_108 : decode cX6_choice 108 = .ok (.aload_n 0, 1) := by decide +kernel
theorem dX6_choice_109 : decode cX6_choice 109 = .ok (.iload_n 1, 1) := by decide +kernel
theorem dX6_choice_110 : decode cX6_choice 110 = .ok (.iload_n 2, 1) := by decide +kernel
theorem dX6_choice_111 : decode cX6_choice 111 = .ok (.invokevirtual 116, 3) := by decide +kernel
theorem dX6_choice_114 : decode cX6_choice 114 = .ok (.aload_n 0, 1) := by decide +kernel
theorem dX6_choice_115 : decode cX6_choice 115 = .ok (.getfield 7, 3) := by decide +kernel
theorem dX6_choice_118 : decode cX6_choice 118 = .ok (.iload_n 1, 1) := by decide +kernel
theorem dX6_choice_119 : decode cX6_choice 119 = .ok (.iload_n 2, 1) := by decide +kernel
theorem dX6_choice_120 : decode cX6_choice 120 = .ok (.invokestatic 75, 3) := by decide +kernel
theorem dX6_choice_123 : decode cX6_choice 123 = .ok (.iconst 1, 1) := by decide +kernel
theorem dX6_choice_124 : decode cX6_choice 124 = .ok (.iastore, 1) := by decide +kernel
theorem dX6_choice_125 : decode cX6_choice 125 = .ok (.aload_n 0, 1) := by decide +kernel
theorem dX6_choice_126 : decode cX6_choice 126 = .ok (.getfield 7, 3) := by decide +kernel
theorem dX6_choice_129 : decode cX6_choice 129 = .ok (.iload_n 1, 1) := by decide +kernel
theorem dX6_choice_130 : decode cX6_choice 130 = .ok (.iload_n 2, 1) := by decide +kernel
theorem dX6_choice_131 : decode cX6_choice 131 = .ok (.invokestatic 75, 3) := by decide +kernel
theorem dX6_choice_134 : decode cX6_choice 134 = .ok (.iconst 1, 1) := by decide +kernel
theorem dX6_choice_135 : decode cX6_choice 135 = .ok (.iadd, 1) := by decide +kernel
theorem dX6_choice_136 : decode cX6_choice 136 = .ok (.iload_n 3, 1) := by decide +kernel
theorem dX6_choice_137 : decode cX6_choice 137 = .ok (.iastore, 1) := by decide +kernel
theorem dX6_choice_138 : decode cX6_choice 138 = .ok (.aload_n 0, 1) := by decide +kernel
theorem dX6_choice_139 : decode cX6_choice 139 = .ok (.iload_n 1, 1) := by decide +kernel
theorem dX6_choice_140 : decode cX6_choice 140 = .ok (.iload_n 2, 1) := by decide +kernel
theorem dX6_choice_141 : decode cX6_choice 141 = .ok (.invokestatic 75, 3) := by decide +kernel
theorem dX6_choice_144 : decode cX6_choice 144 = .ok (.bipush 6, 2) := by decide +kernel
theorem dX6_choice_146 : decode cX6_choice 146 = .ok (.iadd, 1) := by decide +kernel
theorem dX6_choice_147 : decode cX6_choice 147 = .ok (.invokevirtual 149, 3) := by decide +kernel
theorem dX6_choice_150 : decode cX6_choice 150 = .ok (.iload 7, 2) := by decide +kernel
theorem dX6_choice_152 : decode cX6_choice 152 = .ok (.ireturn, 1) := by decide +kernel
theorem dX6_gives_0 : decode cX6_gives 0 = .ok (.iload_n 1, 1) := by decide +kernel
theorem dX6_gives_1 : decode cX6_gives 1 = .ok (.iload_n 2, 1) := by decide +kernel
theorem dX6_gives_2 : decode cX6_gives 2 = .ok (.invokestatic 143, 3) := by decide +kernel
theorem dX6_gives_5 : decode cX6_gives 5 = .ok (.ifCond .eq 25, 3) := by decide +kernel
theorem dX6_gives_8 : decode cX6_gives 8 = .ok (.iload_n 3, 1) := by decide +kernel
theorem dX6_gives_9 : decode cX6_gives 9 = .ok (.invokestatic 134, 3) := by decide +kernel
theorem dX6_gives_12 : decode cX6_gives 12 = .ok (.ifCond .eq 18, 3) := by decide +kernel
theorem dX6_gives_15 : decode cX6_gives 15 = .ok (.iload 4, 2) := by decide +kernel
theorem dX6_gives_17 : decode cX6_gives 17 = .ok (.invokestatic 134, 3) := by decide +kernel
theorem dX6_gives_20 : decode cX6_gives 20 = .ok (.ifCond .eq 10, 3) := by decide +kernel
theorem dX6_gives_23 : decode cX6_gives 23 = .ok (.iload_n 3, 1) := by decide +kernel
theorem dX6_gives_24 : decode cX6_gives 24 = .ok (.iload 4, 2) := by decide +kernel
theorem dX6_gives_26 : decode cX6_gives 26 = .ok (.iand, 1) := by decide +kernel
theorem dX6_gives_27 : decode cX6_gives 27 = .ok (.ifCond .eq 7, 3) := by decide +kernel
theorem dX6_gives_30 : decode cX6_gives 30 = .ok (.sipush (-1002), 3) := by decide +kernel
theorem dX6_gives_33 : decode cX6_gives 33 = .ok (.ireturn, 1) := by decide +kernel
theorem dX6_gives_34 : decode cX6_gives 34 = .ok (.aload_n 0, 1) := by decide +kernel
theorem dX6_gives_35 : decode cX6_gives 35 = .ok (.iload_n 1, 1) := by decide +kernel
theorem dX6_gives_36 : decode cX6_gives 36 = .ok (.iload_n 2, 1) := by decide +kernel
theorem dX6_gives_37 : decode cX6_gives 37 = .ok (.invokevirtual 146, 3) := by decide +kernel
theorem dX6_gives_40 : decode cX6_gives 40 = .ok (.ifCond .ne 11, 3) := by decide +kernel
theorem dX6_gives_43 : decode cX6_gives 43 = .ok (.aload_n 0, 1) := by decide +kernel
theorem dX6_gives_44 : decode cX6_gives 44 = .ok (.sipush (-1010), 3) := by decide +kernel
theorem dX6_gives_47 : decode cX6_gives 47 = .ok (.invokevirtual 140, 3) := by decide +kernel
theorem dX6_gives_50 : decode cX6_gives 50 = .ok (.ireturn, 1) := by decide +kernel
theorem dX6_gives_51 : decode cX6_gives 51 = .ok (.aload_n 0, 1) := by decide +kernel
theorem dX6_gives_52 : decode cX6_gives 52 = .ok (.getfield 7, 3) := by decide +kernel
theorem dX6_gives_55 : decode cX6_gives 55 = .ok (.iload_n 1, 1) := by decide +kernel
theorem dX6_gives_56 : decode cX6_gives 56 = .ok (.iload_n 2, 1) := by decide +kernel
theorem dX6_gives_57 : decode cX6_gives 57 = .ok (.invokestatic 75, 3) := by decide +kernel
theorem dX6_gives_60 : decode cX6_gives 60 = .ok (.iconst 2, 1) := by decide +kernel
theorem dX6_gives_61 : decode cX6_gives 61 = .ok (.iadd, 1) := by decide +kernel
theorem dX6_gives_62 : decode cX6_gives 62 = .ok (.iload_n 3, 1) := by decide +kernel
theorem dX6_gives_63 : decode cX6_gives 63 = .ok (.iastore, 1) := by decide +kernel
theorem dX6_gives_64 : decode cX6_gives 64 = .ok (.aload_n 0, 1) := by decide +kernel
theorem dX6_gives_65 : decode cX6_gives 65 = .ok (.getfield 7, 3) := by decide +kernel
theorem dX6_gives_68 : decode cX6_gives 68 = .ok (.iload_n 1, 1) := by decide +kernel
theorem dX6_gives_69 : decode cX6_gives 69 = .ok (.iload_n 2, 1) := by decide +kernel
theorem dX6_gives_70 : decode cX6_gives 70 = .ok (.invokestatic 75, 3) := by decide +kernel
theorem dX6_gives_73 : decode cX6_gives 73 = .ok (.iconst 3, 1) := by decide +kernel
theorem dX6_gives_74 : decode cX6_gives 74 = .ok (.iadd, 1) := by decide +kernel
theorem dX6_gives_75 : decode cX6_gives 75 = .ok (.iload 4, 2) := by decide +kernel
theorem dX6_gives_77 : decode cX6_gives 77 = .ok (.iastore, 1) := by decide +kernel
theorem dX6_gives_78 : decode cX6_gives 78 = .ok (.iconst 1, 1) := by decide +kernel
theorem dX6_gives_79 : decode cX6_gives 79 = .ok (.ireturn, 1) := by decide +kernel
theorem dX6_line_0 : decode cX6_line 0 = .ok (.iload_n 1, 1) := by decide +kernel
theorem dX6_line_1 : decode cX6_line 1 = .ok (.iload_n 2, 1) := by decide +kernel
theorem dX6_line_2 : decode cX6_line 2 = .ok (.invokestatic 143, 3) := by decide +kernel
theorem dX6_line_5 : decode cX6_line 5 = .ok (.ifCond .eq 23, 3) := by decide +kernel
theorem dX6_line_8 : decode cX6_line 8 = .ok (.iload_n 3, 1) := by decide +kernel
theorem dX6_line_9 : decode cX6_line 9 = .ok (.iconst 0, 1) := by decide +kernel
theorem dX6_line_10 : decode cX6_line 10 = .ok (.bipush 99, 2) := by decide +kernel
theorem dX6_line_12 : decode cX6_line 12 = .ok (.invokestatic 67, 3) := by decide +kernel
theorem dX6_line_15 : decode cX6_line 15 = .ok (.ifCond .eq 13, 3) := by decide +kernel
theorem dX6_line_18 : decode cX6_line 18 = .ok (.iload 4, 2) := by decide +kernel
theorem dX6_line_20 : decode cX6_line 20 = .ok (.iconst 0, 1) := by decide +kernel
theorem dX6_line_21 : decode cX6_line 21 = .ok (.iconst 3, 1) := by decide +kernel
theorem dX6_line_22 : decode cX6_line 22 = .ok (.invokestatic 67, 3) := by decide +kernel
theorem dX6_line_25 : decode cX6_line 25 = .ok (.ifCond .ne 7, 3) := by decide +kernel
theorem dX6_line_28 : decode cX6_line 28 = .ok (.sipush (-1002), 3) := by decide +kernel
theorem dX6_line_31 : decode cX6_line 31 = .ok (.ireturn, 1) := by decide +kernel
theorem dX6_line_32 : decode cX6_line 32 = .ok (.aload_n 0, 1) := by decide +kernel
theorem dX6_line_33 : decode cX6_line 33 = .ok (.iload_n 1, 1) := by decide +kernel
theorem dX6_line_34 : decode cX6_line 34 = .ok (.iload_n 2, 1) := by decide +kernel
theorem dX6_line_35 : decode cX6_line 35 = .ok (.invokevirtual 146, 3) := by decide +kernel
theorem dX6_line_38 : decode cX6_line 38 = .ok (.ifCond .ne 11, 3) := by decide +kernel
theorem dX6_line_41 : decode cX6_line 41 = .ok (.aload_n 0, 1) := by decide +kernel
theorem dX6_line_42 : decode cX6_line 42 = .ok (.sipush (-1010), 3) := by decide +kernel
theorem dX6_line_45 : decode cX6_line 45 = .ok (.invokevirtual 140, 3) := by decide +kernel
theorem dX6_line_48 : decode cX6_line 48 = .ok (.ireturn, 1) := by decide +kernel
theorem dX6_line_49 : decode cX6_line 49 = .ok (.aload_n 0, 1) := by decide +kernel
theorem dX6_line_50 : decode cX6_line 50 = .ok (.getfield 7, 3) := by decide +kernel
theorem dX6_line_53 : decode cX6_line 53 = .ok (.iload_n 1, 1) := by decide +kernel
theorem dX6_line_54 : decode cX6_line 54 = .ok (.iload_n 2, 1) := by decide +kernel
theorem dX6_line_55 : decode cX6_line 55 = .ok (.invokestatic 75, 3) := by decide +kernel
theorem dX6_line_58 : decode cX6_line 58 = .ok (.iconst 4, 1) := by decide +kernel
theorem dX6_line_59 : decode cX6_line 59 = .ok (.iadd, 1) := by decide +kernel
theorem dX6_line_60 : decode cX6_line 60 = .ok (.iload_n 3, 1) := by decide +kernel
theorem dX6_line_61 : decode cX6_line 61 = .ok (.iastore, 1) := by decide +kernel
theorem dX6_line_62 : decode cX6_line 62 = .ok (.aload_n 0, 1) := by decide +kernel
theorem dX6_line_63 : decode cX6_line 63 = .ok (.getfield 7, 3) := by decide +kernel
theorem dX6_line_66 : decode cX6_line 66 = .ok (.iload_n 1, 1) := by decide +kernel
theorem dX6_line_67 : decode cX6_line 67 = .ok (.iload_n 2, 1) := by decide +kernel
theorem dX6_line_68 : decode cX6_line 68 = .ok (.invokestatic 75, 3) := by decide +kernel
theorem dX6_line_71 : decode cX6_line 71 = .ok (.iconst 5, 1) := by decide +kernel
theorem dX6_line_72 : decode cX6_line 72 = .ok (.iadd, 1) := by decide +kernel
theorem dX6_line_73 : decode cX6_line 73 = .ok (.iload 4, 2) := by decide +kernel
theorem dX6_line_75 : decode cX6_line 75 = .ok (.iastore, 1) := by decide +kernel
theorem dX6_line_76 : decode cX6_line 76 = .ok (.iconst 1, 1) := by decide +kernel
theorem dX6_line_77 : decode cX6_line 77 = .ok (.ireturn, 1) := by decide +kernel
theorem dX6_drop_0 : decode cX6_drop 0 = .ok (.iload_n 1, 1) := by decide +kernel
theorem dX6_drop_1 : decode cX6_drop 1 = .ok (.iload_n 2, 1) := by decide +kernel
theorem dX6_drop_2 : decode cX6_drop 2 = .ok (.invokestatic 143, 3) := by decide +kernel
theorem dX6_drop_5 : decode cX6_drop 5 = .ok (.ifCond .ne 7, 3) := by decide +kernel
theorem dX6_drop_8 : decode cX6_drop 8 = .ok (.sipush (-1002), 3) := by decide +kernel
theorem dX6_drop_11 : decode cX6_drop 11 = .ok (.ireturn, 1) := by decide +kernel
theorem dX6_drop_12 : decode cX6_drop 12 = .ok (.aload_n 0, 1) := by decide +kernel
theorem dX6_drop_13 : decode cX6_drop 13 = .ok (.iload_n 1, 1) := by decide +kernel
theorem dX6_drop_14 : decode cX6_drop 14 = .ok (.iload_n 2, 1) := by decide +kernel
theorem dX6_drop_15 : decode cX6_drop 15 = .ok (.invokevirtual 146, 3) := by decide +kernel
theorem dX6_drop_18 : decode cX6_drop 18 = .ok (.ifCond .eq 7, 3) := by decide +kernel
theorem dX6_drop_21 : decode cX6_drop 21 = .ok (.iconst 1, 1) := by decide +kernel
theorem dX6_drop_22 : decode cX6_drop 22 = .ok (.goto 4, 3) := by decide +kernel
theorem dX6_drop_25 : decode cX6_drop 25 = .ok (.iconst 0, 1) := by decide +kernel
theorem dX6_drop_26 : decode cX6_drop 26 = .ok (.istore_n 3, 1) := by decide +kernel
theorem dX6_drop_27 : decode cX6_drop 27 = .ok (.aload_n 0, 1) := by decide +kernel
theorem dX6_drop_28 : decode cX6_drop 28 = .ok (.iload_n 1, 1) := by decide +kernel
theorem dX6_drop_29 : decode cX6_drop 29 = .ok (.iload_n 2, 1) := by decide +kernel
theorem dX6_drop_30 : decode cX6_drop 30 = .ok (.invokevirtual 116, 3) := by decide +kernel
theorem dX6_drop_33 : decode cX6_drop 33 = .ok (.iload_n 3, 1) := by decide +kernel
theorem dX6_drop_34 : decode cX6_drop 34 = .ok (.ireturn, 1) := by decide +kernel
theorem dX6_start_0 : decode cX6_start 0 = .ok (.iload_n 1, 1) := by decide +kernel
theorem dX6_start_1 : decode cX6_start 1 = .ok (.invokestatic 134, 3) := by decide +kernel
theorem dX6_start_4 : decode cX6_start 4 = .ok (.ifCond .ne 7, 3) := by decide +kernel
theorem dX6_start_7 : decode cX6_start 7 = .ok (.sipush (-1002), 3) := by decide +kernel
theorem dX6_start_10 : decode cX6_start 10 = .ok (.ireturn, 1) := by decide +kernel
theorem dX6_start_11 : decode cX6_start 11 = .ok (.aload_n 0, 1) := by decide +kernel
theorem dX6_start_12 : decode cX6_start 12 = .ok (.getfield 7, 3) := by decide +kernel
theorem dX6_start_15 : decode cX6_start 15 = .ok (.sipush 1880, 3) := by decide +kernel
theorem dX6_start_18 : decode cX6_start 18 = .ok (.iaload, 1) := by decide +kernel
theorem dX6_start_19 : decode cX6_start 19 = .ok (.istore_n 2, 1) := by decide +kernel
theorem dX6_start_20 : decode cX6_start 20 = .ok (.aload_n 0, 1) := by decide +kernel
theorem dX6_start_21 : decode cX6_start 21 = .ok (.getfield 7, 3) := by decide +kernel
theorem dX6_start_24 : decode cX6_start 24 = .ok (.sipush 1880, 3) := by decide +kernel
theorem dX6_start_27 : decode cX6_start 27 = .ok (.iload_n 1, 1) := by decide +kernel
theorem dX6_start_28 : decode cX6_start 28 = .ok (.iastore, 1) := by decide +kernel
theorem dX6_start_29 : decode cX6_start 29 = .ok (.iload_n 2, 1) := by decide +kernel
theorem dX6_start_30 : decode cX6_start 30 = .ok (.ireturn, 1) := by decide +kernel
theorem dX6_of_0 : decode cX6_of 0 = .ok (.iload_n 1, 1) := by decide +kernel
theorem dX6_of_1 : decode cX6_of 1 = .ok (.invokestatic 71, 3) := by decide +kernel
theorem dX6_of_4 : decode cX6_of 4 = .ok (.ifCond .eq 12, 3) := by decide +kernel
theorem dX6_of_7 : decode cX6_of 7 = .ok (.iload_n 2, 1) := by decide +kernel
theorem dX6_of_8 : decode cX6_of 8 = .ok (.iconst 0, 1) := by decide +kernel
theorem dX6_of_9 : decode cX6_of 9 = .ok (.iconst 5, 1) := by decide +kernel
theorem dX6_of_10 : decode cX6_of 10 = .ok (.invokestatic 67, 3) := by decide +kernel
theorem dX6_of_13 : decode cX6_of 13 = .ok (.ifCond .ne 7, 3) := by decide +kernel
theorem dX6_of_16 : decode cX6_of 16 = .ok (.sipush (-1002), 3) := by decide +kernel
theorem dX6_of_19 : decode cX6_of 19 = .ok (.ireturn, 1) := by decide +kernel
theorem dX6_of_20 : decode cX6_of 20 = .ok (.iload_n 2, 1) := by decide +kernel
theorem dX6_of_21 : decode cX6_of 21 = .ok (.iconst 2, 1) := by decide +kernel
theorem dX6_of_22 : decode cX6_of 22 = .ok (.if_icmp .ge 30, 3) := by decide +kernel
theorem dX6_of_25 : decode cX6_of 25 = .ok (.iload_n 2, 1) := by decide +kernel
theorem dX6_of_26 : decode cX6_of 26 = .ok (.ifCond .ne 11, 3) := by decide +kernel
theorem dX6_of_29 : decode cX6_of 29 = .ok (.aload_n 0, 1) := by decide +kernel
theorem dX6_of_30 : decode cX6_of 30 = .ok (.iload_n 1, 1) := by decide +kernel
theorem dX6_of_31 : decode cX6_of 31 = .ok (.invokevirtual 126, 3) := by decide +kernel
theorem dX6_of_34 : decode cX6_of 34 = .ok (.goto 17, 3) := by decide +kernel
theorem dX6_of_37 : decode cX6_of 37 = .ok (.aload_n 0, 1) := by decide +kernel
theorem dX6_of_38 : decode cX6_of 38 = .ok (.getfield 19, 3) := by decide +kernel
theorem dX6_of_41 : decode cX6_of 41 = .ok (.iload_n 1, 1) := by decide +kernel
theorem dX6_of_42 : decode cX6_of 42 = .ok (.baload, 1) := by decide +kernel
theorem dX6_of_43 : decode cX6_of 43 = .ok (.ifCond .eq 7, 3) := by decide +kernel
theorem dX6_of_46 : decode cX6_of 46 = .ok (.iconst 1, 1) := by decide +kernel
theorem dX6_of_47 : decode cX6_of 47 = .ok (.goto 4, 3) := by decide +kernel
theorem dX6_of_50 : decode cX6_of 50 = .ok (.iconst 0, 1) := by decide +kernel
theorem dX6_of_51 : decode cX6_of 51 = .ok (.ireturn, 1) := by decide +kernel
theorem dX6_of_52 : decode cX6_of 52 = .ok (.aload_n 0, 1) := by decide +kernel
theorem dX6_of_53 : decode cX6_of 53 = .ok (.iload_n 1, 1) := by decide +kernel
theorem dX6_of_54 : decode cX6_of 54 = .ok (.invokevirtual 137, 3) := by decide +kernel
theorem dX6_of_57 : decode cX6_of 57 = .ok (.ifCond .ne 11, 3) := by decide +kernel
theorem dX6_of_60 : decode cX6_of 60 = .ok (.aload_n 0, 1) := by decide +kernel
theorem dX6_of_61 : decode cX6_of 61 = .ok (.sipush (-1010), 3) := by decide +kernel
theorem dX6_of_64 : decode cX6_of 64 = .ok (.invokevirtual 140, 3) := by decide +kernel
theorem dX6_of_67 : decode cX6_of 67 = .ok (.ireturn, 1) := by decide +kernel
theorem dX6_of_68 : decode cX6_of 68 = .ok (.iload_n 2, 1) := by decide +kernel
theorem dX6_of_69 : decode cX6_of 69 = .ok (.tableswitch 61 2 4 #[27, 38, 49], 27) := by decide +kernel
theorem dX6_of_96 : decode cX6_of 96 = .ok (.aload_n 0, 1) := by decide +kernel
theorem dX6_of_97 : decode cX6_of 97 = .ok (.bipush 10, 2) := by decide +kernel
theorem dX6_of_99 : decode cX6_of 99 = .ok (.iload_n 1, 1) := by decide +kernel
theorem dX6_of_100 : decode cX6_of 100 = .ok (.imul, 1) := by decide +kernel
theorem dX6_of_101 : decode cX6_of 101 = .ok (.iconst 2, 1) := by decide +kernel
theorem dX6_of_102 : decode cX6_of 102 = .ok (.iadd, 1) := by decide +kernel
theorem dX6_of_103 : decode cX6_of 103 = .ok (.invokevirtual 152, 3) := by decide +kernel
theorem dX6_of_106 : decode cX6_of 106 = .ok (.ireturn, 1) := by decide +kernel
theorem dX6_of_107 : decode cX6_of 107 = .ok (.aload_n 0, 1) := by decide +kernel
theorem dX6_of_108 : decode cX6_of 108 = .ok (.bipush 10, 2) := by decide +kernel
theorem dX6_of_110 : decode cX6_of 110 = .ok (.iload_n 1, 1) := by decide +kernel
theorem dX6_of_111 : decode cX6_of 111 = .ok (.imul, 1) := by decide +kernel
theorem dX6_of_112 : decode cX6_of 112 = .ok (.iconst 2, 1) := by decide +kernel
theorem dX6_of_113 : decode cX6_of 113 = .ok (.iadd, 1) := by decide +kernel
theorem dX6_of_114 : decode cX6_of 114 = .ok (.invokevirtual 155, 3) := by decide +kernel
theorem dX6_of_117 : decode cX6_of 117 = .ok (.ireturn, 1) := by decide +kernel
theorem dX6_of_118 : decode cX6_of 118 = .ok (.aload_n 0, 1) := by decide +kernel
theorem dX6_of_119 : decode cX6_of 119 = .ok (.getfield 7, 3) := by decide +kernel
theorem dX6_of_122 : decode cX6_of 122 = .ok (.bipush 10, 2) := by decide +kernel
theorem dX6_of_124 : decode cX6_of 124 = .ok (.iload_n 1, 1) := by decide +kernel
theorem dX6_of_125 : decode cX6_of 125 = .ok (.imul, 1) := by decide +kernel
theorem dX6_of_126 : decode cX6_of 126 = .ok (.iconst 1, 1) := by decide +kernel
theorem dX6_of_127 : decode cX6_of 127 = .ok (.iadd, 1) := by decide +kernel
theorem dX6_of_128 : decode cX6_of 128 = .ok (.iaload, 1) := by decide +kernel
theorem dX6_of_129 : decode cX6_of 129 = .ok (.ireturn, 1) := by decide +kernel
theorem dX6_of_130 : decode cX6_of 130 = .ok (.iconst 0, 1) := by decide +kernel
theorem dX6_of_131 : decode cX6_of 131 = .ok (.istore_n 3, 1) := by decide +kernel
theorem dX6_of_132 : decode cX6_of 132 = .ok (.iconst 0, 1) := by decide +kernel
theorem dX6_of_133 : decode cX6_of 133 = .ok (.istore 4, 2) := by decide +kernel
theorem dX6_of_135 : decode cX6_of 135 = .ok (.iload 4, 2) := by decide +kernel
theorem dX6_of_137 : decode cX6_of 137 = .ok (.bipush 6, 2) := by decide +kernel
theorem dX6_of_139 : decode cX6_of 139 = .ok (.if_icmp .ge 30, 3) := by decide +kernel
theorem dX6_of_142 : decode cX6_of 142 = .ok (.iload_n 3, 1) := by decide +kernel
theorem dX6_of_143 : decode cX6_of 143 = .ok (.aload_n 0, 1) := by decide +kernel
theorem dX6_of_144 : decode cX6_of 144 = .ok (.iload_n 1, 1) := by decide +kernel
theorem dX6_of_145 : decode cX6_of 145 = .ok (.iload 4, 2) := by decide +kernel
theorem dX6_of_147 : decode cX6_of 147 = .ok (.invokevirtual 146, 3) := by decide +kernel
theorem dX6_of_150 : decode cX6_of 150 = .ok (.ifCond .eq 10, 3) := by decide +kernel
theorem dX6_of_153 : decode cX6_of 153 = .ok (.iconst 1, 1) := by decide +kernel
theorem dX6_of_154 : decode cX6_of 154 = .ok (.iload 4, 2) := by decide +kernel
theorem dX6_of_156 : decode cX6_of 156 = .ok (.ishl, 1) := by decide +kernel
theorem dX6_of_157 : decode cX6_of 157 = .ok (.goto 4, 3) := by decide +kernel
theorem dX6_of_160 : decode cX6_of 160 = .ok (.iconst 0, 1) := by decide +kernel
theorem dX6_of_161 : decode cX6_of 161 = .ok (.ior, 1) := by decide +kernel
theorem dX6_of_162 : decode cX6_of 162 = .ok (.istore_n 3, 1) := by decide +kernel
theorem dX6_of_163 : decode cX6_of 163 = .ok (.iinc 4 1, 3) := by decide +kernel
theorem dX6_of_166 : decode cX6_of 166 = .ok (.goto (-31), 3) := by decide +kernel
theorem dX6_of_169 : decode cX6_of 169 = .ok (.iload_n 3, 1) := by decide +kernel
theorem dX6_of_170 : decode cX6_of 170 = .ok (.ireturn, 1) := by decide +kernel
theorem dX6_about_0 : decode cX6_about 0 = .ok (.iload_n 1, 1) := by decide +kernel
theorem dX6_about_1 : decode cX6_about 1 = .ok (.iload_n 2, 1) := by decide +kernel
theorem dX6_about_2 : decode cX6_about 2 = .ok (.invokestatic 143, 3) := by decide +kernel
theorem dX6_about_5 : decode cX6_about 5 = .ok (.ifCond .eq 13, 3) := by decide +kernel
theorem dX6_about_8 : decode cX6_about 8 = .ok (.iload_n 3, 1) := by decide +kernel
theorem dX6_about_9 : decode cX6_about 9 = .ok (.iconst 0, 1) := by decide +kernel
theorem dX6_about_10 : decode cX6_about 10 = .ok (.bipush 6, 2) := by decide +kernel
theorem dX6_about_12 : decode cX6_about 12 = .ok (.invokestatic 67, 3) := by decide +kernel
theorem dX6_about_15 : decode cX6_about 15 = .ok (.ifCond .ne 7, 3) := by decide +kernel
theorem dX6_about_18 : decode cX6_about 18 = .ok (.sipush (-1002), 3) := by decide +kernel
theorem dX6_about_21 : decode cX6_about 21 = .ok (.ireturn, 1) := by decide +kernel
theorem dX6_about_22 : decode cX6_about 22 = .ok (.aload_n 0, 1) := by decide +kernel
theorem dX6_about_23 : decode cX6_about 23 = .ok (.iload_n 1, 1) := by decide +kernel
theorem dX6_about_24 : decode cX6_about 24 = .ok (.iload_n 2, 1) := by decide +kernel
theorem dX6_about_25 : decode cX6_about 25 = .ok (.invokevirtual 146, 3) := by decide +kernel
theorem dX6_about_28 : decode cX6_about 28 = .ok (.ifCond .ne 11, 3) := by decide +kernel
theorem dX6_about_31 : decode cX6_about 31 = .ok (.aload_n 0, 1) := by decide +kernel
theorem dX6_about_32 : decode cX6_about 32 = .ok (.sipush (-1010), 3) := by decide +kernel
theorem dX6_about_35 : decode cX6_about 35 = .ok (.invokevirtual 140, 3) := by decide +kernel
theorem dX6_about_38 : decode cX6_about 38 = .ok (.ireturn, 1) := by decide +kernel
theorem dX6_about_39 : decode cX6_about 39 = .ok (.iload_n 1, 1) := by decide +kernel
theorem dX6_about_40 : decode cX6_about 40 = .ok (.iload_n 2, 1) := by decide +kernel
theorem dX6_about_41 : decode cX6_about 41 = .ok (.invokestatic 75, 3) := by decide +kernel
theorem dX6_about_44 : decode cX6_about 44 = .ok (.istore 4, 2) := by decide +kernel
theorem dX6_about_46 : decode cX6_about 46 = .ok (.iload_n 3, 1) := by decide +kernel
theorem dX6_about_47 : decode cX6_about 47 = .ok (.tableswitch 55 0 2 #[25, 35, 45], 25) := by decide +kernel
theorem dX6_about_72 : decode cX6_about 72 = .ok (.aload_n 0, 1) := by decide +kernel
theorem dX6_about_73 : decode cX6_about 73 = .ok (.getfield 7, 3) := by decide +kernel
theorem dX6_about_76 : decode cX6_about 76 = .ok (.iload 4, 2) := by decide +kernel
theorem dX6_about_78 : decode cX6_about 78 = .ok (.iconst 1, 1) := by decide +kernel
theorem dX6_about_79 : decode cX6_about 79 = .ok (.iadd, 1) := by decide +kernel
theorem dX6_about_80 : decode cX6_about 80 = .ok (.iaload, 1) := by decide +kernel
theorem dX6_about_81 : decode cX6_about 81 = .ok (.ireturn, 1) := by decide +kernel
theorem dX6_about_82 : decode cX6_about 82 = .ok (.aload_n 0, 1) := by decide +kernel
theorem dX6_about_83 : decode cX6_about 83 = .ok (.iload 4, 2) := by decide +kernel
theorem dX6_about_85 : decode cX6_about 85 = .ok (.bipush 6, 2) := by decide +kernel
theorem dX6_about_87 : decode cX6_about 87 = .ok (.iadd, 1) := by decide +kernel
theorem dX6_about_88 : decode cX6_about 88 = .ok (.invokevirtual 152, 3) := by decide +kernel
theorem dX6_about_91 : decode cX6_about 91 = .ok (.ireturn, 1) := by decide +kernel
theorem dX6_about_92 : decode cX6_about 92 = .ok (.aload_n 0, 1) := by decide +kernel
theorem dX6_about_93 : decode cX6_about 93 = .ok (.iload 4, 2) := by decide +kernel
theorem dX6_about_95 : decode cX6_about 95 = .ok (.bipush 6, 2) := by decide +kernel
theorem dX6_about_97 : decode cX6_about 97 = .ok (.iadd, 1) := by decide +kernel
theorem dX6_about_98 : decode cX6_about 98 = .ok (.invokevirtual 155, 3) := by decide +kernel
theorem dX6_about_101 : decode cX6_about 101 = .ok (.ireturn, 1) := by decide +kernel
theorem dX6_about_102 : decode cX6_about 102 = .ok (.aload_n 0, 1) := by decide +kernel
theorem dX6_about_103 : decode cX6_about 103 = .ok (.getfield 7, 3) := by decide +kernel
theorem dX6_about_106 : decode cX6_about 106 = .ok (.iload 4, 2) := by decide +kernel
theorem dX6_about_108 : decode cX6_about 108 = .ok (.iload_n 3, 1) := by decide +kernel
theorem dX6_about_109 : decode cX6_about 109 = .ok (.iadd, 1) := by decide +kernel
theorem dX6_about_110 : decode cX6_about 110 = .ok (.iconst 1, 1) := by decide +kernel
theorem dX6_about_111 : decode cX6_about 111 = .ok (.isub, 1) := by decide +kernel
theorem dX6_about_112 : decode cX6_about 112 = .ok (.iaload, 1) := by decide +kernel
theorem dX6_about_113 : decode cX6_about 113 = .ok (.ireturn, 1) := by decide +kernel
theorem dX6_isEnding_0 : decode cX6_isEnding 0 = .ok (.aload_n 0, 1) := by decide +kernel
theorem dX6_isEnding_1 : decode cX6_isEnding 1 = .ok (.iload_n 1, 1) := by decide +kernel
theorem dX6_isEnding_2 : decode cX6_isEnding 2 = .ok (.invokevirtual 126, 3) := by decide +kernel
theorem dX6_isEnding_5 : decode cX6_isEnding 5 = .ok (.iconst 3, 1) := by decide +kernel
theorem dX6_isEnding_6 : decode cX6_isEnding 6 = .ok (.if_icmp .eq 12, 3) := by decide +kernel
theorem dX6_isEnding_9 : decode cX6_isEnding 9 = .ok (.aload_n 0, 1) := by decide +kernel
theorem dX6_isEnding_10 : decode cX6_isEnding 10 = .ok (.iload_n 1, 1) := by decide +kernel
theorem dX6_isEnding_11 : decode cX6_isEnding 11 = .ok (.invokevirtual 126, 3) := by decide +kernel
theorem dX6_isEnding_14 : decode cX6_isEnding 14 = .ok (.iconst 4, 1) := by decide +kernel
theorem dX6_isEnding_15 : decode cX6_isEnding 15 = .ok (.if_icmp .ne 7, 3) := by decide +kernel
theorem dX6_isEnding_18 : decode cX6_isEnding 18 = .ok (.iconst 1, 1) := by decide +kernel
theorem dX6_isEnding_19 : decode cX6_isEnding 19 = .ok (.goto 4, 3) := by decide +kernel
theorem dX6_isEnding_22 : decode cX6_isEnding 22 = .ok (.iconst 0, 1) := by decide +kernel
theorem dX6_isEnding_23 : decode cX6_isEnding 23 = .ok (.ireturn, 1) := by decide +kernel
theorem dX6_isShut_0 : decode cX6_isShut 0 = .ok (.aload_n 0, 1) := by decide +kernel
theorem dX6_isShut_1 : decode cX6_isShut 1 = .ok (.iload_n 1, 1) := by decide +kernel
theorem dX6_isShut_2 : decode cX6_isShut 2 = .ok (.invokevirtual 137, 3) := by decide +kernel
theorem dX6_isShut_5 : decode cX6_isShut 5 = .ok (.ifCond .eq 16, 3) := by decide +kernel
theorem dX6_isShut_8 : decode cX6_isShut 8 = .ok (.iload_n 2, 1) := by decide +kernel
theorem dX6_isShut_9 : decode cX6_isShut 9 = .ok (.ifCond .eq 16, 3) := by decide +kernel
theorem dX6_isShut_12 : decode cX6_isShut 12 = .ok (.aload_n 0, 1) := by decide +kernel
theorem dX6_isShut_13 : decode cX6_isShut 13 = .ok (.getfield 19, 3) := by decide +kernel
theorem dX6_isShut_16 : decode cX6_isShut 16 = .ok (.iload_n 1, 1) := by decide +kernel
theorem dX6_isShut_17 : decode cX6_isShut 17 = .ok (.baload, 1) := by decide +kernel
theorem dX6_isShut_18 : decode cX6_isShut 18 = .ok (.ifCond .eq 7, 3) := by decide +kernel
theorem dX6_isShut_21 : decode cX6_isShut 21 = .ok (.iconst 1, 1) := by decide +kernel
theorem dX6_isShut_22 : decode cX6_isShut 22 = .ok (.goto 4, 3) := by decide +kernel
theorem dX6_isShut_25 : decode cX6_isShut 25 = .ok (.iconst 0, 1) := by decide +kernel
theorem dX6_isShut_26 : decode cX6_isShut 26 = .ok (.ireturn, 1) := by decide +kernel
theorem dX6_leads_0 : decode cX6_leads 0 = .ok (.iload_n 1, 1) := by decide +kernel
theorem dX6_leads_1 : decode cX6_leads 1 = .ok (.sipush 256, 3) := by decide +kernel
theorem dX6_leads_4 : decode cX6_leads 4 = .ok (.idiv, 1) := by decide +kernel
theorem dX6_leads_5 : decode cX6_leads 5 = .ok (.istore 4, 2) := by decide +kernel
theorem dX6_leads_7 : decode cX6_leads 7 = .ok (.iload_n 1, 1) := by decide +kernel
theorem dX6_leads_8 : decode cX6_leads 8 = .ok (.sipush 256, 3) := by decide +kernel
theorem dX6_leads_11 : decode cX6_leads 11 = .ok (.irem, 1) := by decide +kernel
theorem dX6_leads_12 : decode cX6_leads 12 = .ok (.istore 5, 2) := by decide +kernel
theorem dX6_leads_14 : decode cX6_leads 14 = .ok (.aload_n 0, 1) := by decide +kernel
theorem dX6_leads_15 : decode cX6_leads 15 = .ok (.iload 4, 2) := by decide +kernel
theorem dX6_leads_17 : decode cX6_leads 17 = .ok (.invokevirtual 158, 3) := by decide +kernel
theorem dX6_leads_20 : decode cX6_leads 20 = .ok (.ifCond .ne 13, 3) := by decide +kernel
theorem dX6_leads_23 : decode cX6_leads 23 = .ok (.aload_n 0, 1) := by decide +kernel
theorem dX6_leads_24 : decode cX6_leads 24 = .ok (.iload 4, 2) := by decide +kernel
theorem dX6_leads_26 : decode cX6_leads 26 = .ok (.iload_n 2, 1) := by decide +kernel
theorem dX6_leads_27 : decode cX6_leads 27 = .ok (.invokevirtual 146, 3) := by decide +kernel
theorem dX6_leads_30 : decode cX6_leads 30 = .ok (.ifCond .ne 5, 3) := by decide +kernel
theorem dX6_leads_33 : decode cX6_leads 33 = .ok (.iconst (-1), 1) := by decide +kernel
theorem dX6_leads_34 : decode cX6_leads 34 = .ok (.ireturn, 1) := by decide +kernel
theorem dX6_leads_35 : decode cX6_leads 35 = .ok (.iload 4, 2) := by decide +kernel
theorem dX6_leads_37 : decode cX6_leads 37 = .ok (.iload_n 2, 1) := by decide +kernel
theorem dX6_leads_38 : decode cX6_leads 38 = .ok (.invokestatic 75, 3) := by decide +kernel
theorem dX6_leads_41 : decode cX6_leads 41 = .ok (.istore 6, 2) := by decide +kernel
theorem dX6_leads_43 : decode cX6_leads 43 = .ok (.aload_n 0, 1) := by decide +kernel
theorem dX6_leads_44 : decode cX6_leads 44 = .ok (.getfield 7, 3) := by decide +kernel
theorem dX6_leads_47 : decode cX6_leads 47 = .ok (.iload 6, 2) := by decide +kernel
theorem dX6_leads_49 : decode cX6_leads 49 = .ok (.iconst 1, 1) := by decide +kernel
theorem dX6_leads_50 : decode cX6_leads 50 = .ok (.iadd, 1) := by decide +kernel
theorem dX6_leads_51 : decode cX6_leads 51 = .ok (.iaload, 1) := by decide +kernel
theorem dX6_leads_52 : decode cX6_leads 52 = .ok (.istore 7, 2) := by decide +kernel
theorem dX6_leads_54 : decode cX6_leads 54 = .ok (.iload 5, 2) := by decide +kernel
theorem dX6_leads_56 : decode cX6_leads 56 = .ok (.aload_n 0, 1) := by decide +kernel
theorem dX6_leads_57 : decode cX6_leads 57 = .ok (.getfield 7, 3) := by decide +kernel
theorem dX6_leads_60 : decode cX6_leads 60 = .ok (.iload 6, 2) := by decide +kernel
theorem dX6_leads_62 : decode cX6_leads 62 = .ok (.iconst 3, 1) := by decide +kernel
theorem dX6_leads_63 : decode cX6_leads 63 = .ok (.iadd, 1) := by decide +kernel
theorem dX6_leads_64 : decode cX6_leads 64 = .ok (.iaload, 1) := by decide +kernel
theorem dX6_leads_65 : decode cX6_leads 65 = .ok (.iconst (-1), 1) := by decide +kernel
theorem dX6_leads_66 : decode cX6_leads 66 = .ok (.ixor, 1) := by decide +kernel
theorem dX6_leads_67 : decode cX6_leads 67 = .ok (.iand, 1) := by decide +kernel
theorem dX6_leads_68 : decode cX6_leads 68 = .ok (.aload_n 0, 1) := by decide +kernel
theorem dX6_leads_69 : decode cX6_leads 69 = .ok (.getfield 7, 3) := by decide +kernel
theorem dX6_leads_72 : decode cX6_leads 72 = .ok (.iload 6, 2) := by decide +kernel
theorem dX6_leads_74 : decode cX6_leads 74 = .ok (.iconst 2, 1) := by decide +kernel
theorem dX6_leads_75 : decode cX6_leads 75 = .ok (.iadd, 1) := by decide +kernel
theorem dX6_leads_76 : decode cX6_leads 76 = .ok (.iaload, 1) := by decide +kernel
theorem dX6_leads_77 : decode cX6_leads 77 = .ok (.ior, 1) := by decide +kernel
theorem dX6_leads_78 : decode cX6_leads 78 = .ok (.istore 8, 2) := by decide +kernel
theorem dX6_leads_80 : decode cX6_leads 80 = .ok (.aload_n 0, 1) := by decide +kernel
theorem dX6_leads_81 : decode cX6_leads 81 = .ok (.iload 6, 2) := by decide +kernel
theorem dX6_leads_83 : decode cX6_leads 83 = .ok (.bipush 6, 2) := by decide +kernel
theorem dX6_leads_85 : decode cX6_leads 85 = .ok (.iadd, 1) := by decide +kernel
theorem dX6_leads_86 : decode cX6_leads 86 = .ok (.iload 5, 2) := by decide +kernel
theorem dX6_leads_88 : decode cX6_leads 88 = .ok (.invokevirtual 79, 3) := by decide +kernel
theorem dX6_leads_91 : decode cX6_leads 91 = .ok (.ifCond .eq 29, 3) := by decide +kernel
theorem dX6_leads_94 : decode cX6_leads 94 = .ok (.aload_n 0, 1) := by decide +kernel
theorem dX6_leads_95 : decode cX6_leads 95 = .ok (.iload 7, 2) := by decide +kernel
theorem dX6_leads_97 : decode cX6_leads 97 = .ok (.iload_n 3, 1) := by decide +kernel
theorem dX6_leads_98 : decode cX6_leads 98 = .ok (.invokevirtual 161, 3) := by decide +kernel
theorem dX6_leads_101 : decode cX6_leads 101 = .ok (.ifCond .ne 19, 3) := by decide +kernel
theorem dX6_leads_104 : decode cX6_leads 104 = .ok (.aload_n 0, 1) := by decide +kernel
theorem dX6_leads_105 : decode cX6_leads 105 = .ok (.bipush 10, 2) := by decide +kernel
theorem dX6_leads_107 : decode cX6_leads 107 = .ok (.iload 7, 2) := by decide +kernel
theorem dX6_leads_109 : decode cX6_leads 109 = .ok (.imul, 1) := by decide +kernel
theorem dX6_leads_110 : decode cX6_leads 110 = .ok (.iconst 2, 1) := by decide +kernel
theorem dX6_leads_111 : decode cX6_leads 111 = .ok (.iadd, 1) := by decide +kernel
theorem dX6_leads_112 : decode cX6_leads 112 = .ok (.iload 8, 2) := by decide +kernel
theorem dX6_leads_114 : decode cX6_leads 114 = .ok (.invokevirtual 79, 3) := by decide +kernel
theorem dX6_leads_117 : decode cX6_leads 117 = .ok (.ifCond .ne 5, 3) := by decide +kernel
theorem dX6_leads_120 : decode cX6_leads 120 = .ok (.iconst (-1), 1) := by decide +kernel
theorem dX6_leads_121 : decode cX6_leads 121 = .ok (.ireturn, 1) := by decide +kernel
theorem dX6_leads_122 : decode cX6_leads 122 = .ok (.sipush 256, 3) := by decide +kernel
theorem dX6_leads_125 : decode cX6_leads 125 = .ok (.iload 7, 2) := by decide +kernel
theorem dX6_leads_127 : decode cX6_leads 127 = .ok (.imul, 1) := by decide +kernel
theorem dX6_leads_128 : decode cX6_leads 128 = .ok (.iload 8, 2) := by decide +kernel
theorem dX6_leads_130 : decode cX6_leads 130 = .ok (.aload_n 0, 1) := by decide +kernel
theorem dX6_leads_131 : decode cX6_leads 131 = .ok (.getfield 7, 3) := by decide +kernel
theorem dX6_leads_134 : decode cX6_leads 134 = .ok (.bipush 10, 2) := by decide +kernel
theorem dX6_leads_136 : decode cX6_leads 136 = .ok (.iload 7, 2) := by decide +kernel
theorem dX6_leads_138 : decode cX6_leads 138 = .ok (.imul, 1) := by decide +kernel
theorem dX6_leads_139 : decode cX6_leads 139 = .ok (.iconst 1, 1) := by decide +kernel
theorem dX6_leads_140 : decode cX6_leads 140 = .ok (.iadd, 1) := by decide +kernel
theorem dX6_leads_141 : decode cX6_leads 141 = .ok (.iaload, 1) := by decide +kernel
theorem dX6_leads_142 : decode cX6_leads 142 = .ok (.iconst (-1), 1) := by decide +kernel
theorem dX6_leads_143 : decode cX6_leads 143 = .ok (.ixor, 1) := by decide +kernel
theorem dX6_leads_144 : decode cX6_leads 144 = .ok (.iand, 1) := by decide +kernel
theorem dX6_leads_145 : decode cX6_leads 145 = .ok (.iadd, 1) := by decide +kernel
theorem dX6_leads_146 : decode cX6_leads 146 = .ok (.ireturn, 1) := by decide +kernel
theorem dX6_reach_0 : decode cX6_reach 0 = .ok (.iconst 0, 1) := by decide +kernel
theorem dX6_reach_1 : decode cX6_reach 1 = .ok (.istore_n 3, 1) := by decide +kernel
theorem dX6_reach_2 : decode cX6_reach 2 = .ok (.iload_n 3, 1) := by decide +kernel
theorem dX6_reach_3 : decode cX6_reach 3 = .ok (.sipush 5120, 3) := by decide +kernel
theorem dX6_reach_6 : decode cX6_reach 6 = .ok (.if_icmp .ge 16, 3) := by decide +kernel
theorem dX6_reach_9 : decode cX6_reach 9 = .ok (.aload_n 0, 1) := by decide +kernel
theorem dX6_reach_10 : decode cX6_reach 10 = .ok (.getfield 41, 3) := by decide +kernel
theorem dX6_reach_13 : decode cX6_reach 13 = .ok (.iload_n 3, 1) := by decide +kernel
theorem dX6_reach_14 : decode cX6_reach 14 = .ok (.iconst (-1), 1) := by decide +kernel
theorem dX6_reach_15 : decode cX6_reach 15 = .ok (.iastore, 1) := by decide +kernel
theorem dX6_reach_16 : decode cX6_reach 16 = .ok (.iinc 3 1, 3) := by decide +kernel
theorem dX6_reach_19 : decode cX6_reach 19 = .ok (.goto (-17), 3) := by decide +kernel
theorem dX6_reach_22 : decode cX6_reach 22 = .ok (.aload_n 0, 1) := by decide +kernel
theorem dX6_reach_23 : decode cX6_reach 23 = .ok (.iconst 0, 1) := by decide +kernel
theorem dX6_reach_24 : decode cX6_reach 24 = .ok (.putfield 165, 3) := by decide +kernel
theorem dX6_reach_27 : decode cX6_reach 27 = .ok (.aload_n 0, 1) := by decide +kernel
theorem dX6_reach_28 : decode cX6_reach 28 = .ok (.iconst 0, 1) := by decide +kernel
theorem dX6_reach_29 : decode cX6_reach 29 = .ok (.iload_n 2, 1) := by decide +kernel
theorem dX6_reach_30 : decode cX6_reach 30 = .ok (.invokevirtual 161, 3) := by decide +kernel
theorem dX6_reach_33 : decode cX6_reach 33 = .ok (.ifCond .eq 4, 3) := by decide +kernel
theorem dX6_reach_36 : decode cX6_reach 36 = .ok (.return_, 1) := by decide +kernel
theorem dX6_reach_37 : decode cX6_reach 37 = .ok (.aload_n 0, 1) := by decide +kernel
theorem dX6_reach_38 : decode cX6_reach 38 = .ok (.getfield 41, 3) := by decide +kernel
theorem dX6_reach_41 : decode cX6_reach 41 = .ok (.iload_n 1, 1) := by decide +kernel
theorem dX6_reach_42 : decode cX6_reach 42 = .ok (.iconst 0, 1) := by decide +kernel
theorem dX6_reach_43 : decode cX6_reach 43 = .ok (.iastore, 1) := by decide +kernel
theorem dX6_reach_44 : decode cX6_reach 44 = .ok (.aload_n 0, 1) := by decide +kernel
theorem dX6_reach_45 : decode cX6_reach 45 = .ok (.getfield 44, 3) := by decide +kernel
theorem dX6_reach_48 : decode cX6_reach 48 = .ok (.iconst 0, 1) := by decide +kernel
theorem dX6_reach_49 : decode cX6_reach 49 = .ok (.iload_n 1, 1) := by decide +kernel
theorem dX6_reach_50 : decode cX6_reach 50 = .ok (.iastore, 1) := by decide +kernel
theorem dX6_reach_51 : decode cX6_reach 51 = .ok (.aload_n 0, 1) := by decide +kernel
theorem dX6_reach_52 : decode cX6_reach 52 = .ok (.iconst 1, 1) := by decide +kernel
theorem dX6_reach_53 : decode cX6_reach 53 = .ok (.putfield 165, 3) := by decide +kernel
theorem dX6_reach_56 : decode cX6_reach 56 = .ok (.iconst 0, 1) := by decide +kernel
theorem dX6_reach_57 : decode cX6_reach 57 = .ok (.istore_n 3, 1) := by decide +kernel
theorem dX6_reach_58 : decode cX6_reach 58 = .ok (.iload_n 3, 1) := by decide +kernel
theorem dX6_reach_59 : decode cX6_reach 59 = .ok (.aload_n 0, 1) := by decide +kernel
theorem dX6_reach_60 : decode cX6_reach 60 = .ok (.getfield 165, 3) := by decide +kernel
theorem dX6_reach_63 : decode cX6_reach 63 = .ok (.if_icmp .ge 96, 3) := by decide +kernel
theorem dX6_reach_66 : decode cX6_reach 66 = .ok (.iconst 0, 1) := by decide +kernel
theorem dX6_reach_67 : decode cX6_reach 67 = .ok (.istore 4, 2) := by decide +kernel
theorem dX6_reach_69 : decode cX6_reach 69 = .ok (.iload 4, 2) := by decide +kernel
theorem dX6_reach_71 : decode cX6_reach 71 = .ok (.bipush 6, 2) := by decide +kernel
theorem dX6_reach_73 : decode cX6_reach 73 = .ok (.if_icmp .ge 80, 3) := by decide +kernel
theorem dX6_reach_76 : decode cX6_reach 76 = .ok (.aload_n 0, 1) := by decide +kernel
theorem dX6_reach_77 : decode cX6_reach 77 = .ok (.aload_n 0, 1) := by decide +kernel
theorem dX6_reach_78 : decode cX6_reach 78 = .ok (.getfield 44, 3) := by decide +kernel
theorem dX6_reach_81 : decode cX6_reach 81 = .ok (.iload_n 3, 1) := by decide +kernel
theorem dX6_reach_82 : decode cX6_reach 82 = .ok (.iaload, 1) := by decide +kernel
theorem dX6_reach_83 : decode cX6_reach 83 = .ok (.iload 4, 2) := by decide +kernel
theorem dX6_reach_85 : decode cX6_reach 85 = .ok (.iload_n 2, 1) := by decide +kernel
theorem dX6_reach_86 : decode cX6_reach 86 = .ok (.invokevirtual 168, 3) := by decide +kernel
theorem dX6_reach_89 : decode cX6_reach 89 = .ok (.istore 5, 2) := by decide +kernel
theorem dX6_reach_91 : decode cX6_reach 91 = .ok (.iload 5, 2) := by decide +kernel
theorem dX6_reach_93 : decode cX6_reach 93 = .ok (.ifCond .lt 54, 3) := by decide +kernel
theorem dX6_reach_96 : decode cX6_reach 96 = .ok (.aload_n 0, 1) := by decide +kernel
theorem dX6_reach_97 : decode cX6_reach 97 = .ok (.getfield 41, 3) := by decide +kernel
theorem dX6_reach_100 : decode cX6_reach 100 = .ok (.iload 5, 2) := by decide +kernel
theorem dX6_reach_102 : decode cX6_reach 102 = .ok (.iaload, 1) := by decide +kernel
theorem dX6_reach_103 : decode cX6_reach 103 = .ok (.ifCond .ge 44, 3) := by decide +kernel
theorem dX6_reach_106 : decode cX6_reach 106 = .ok (.aload_n 0, 1) := by decide +kernel
theorem dX6_reach_107 : decode cX6_reach 107 = .ok (.getfield 41, 3) := by decide +kernel
theorem dX6_reach_110 : decode cX6_reach 110 = .ok (.iload 5, 2) := by decide +kernel
theorem dX6_reach_112 : decode cX6_reach 112 = .ok (.aload_n 0, 1) := by decide +kernel
theorem dX6_reach_113 : decode cX6_reach 113 = .ok (.getfield 41, 3) := by decide +kernel
theorem dX6_reach_116 : decode cX6_reach 116 = .ok (.aload_n 0, 1) := by decide +kernel
theorem dX6_reach_117 : decode cX6_reach 117 = .ok (.getfield 44, 3) := by decide +kernel
theorem dX6_reach_120 : decode cX6_reach 120 = .ok (.iload_n 3, 1) := by decide +kernel
theorem dX6_reach_121 : decode cX6_reach 121 = .ok (.iaload, 1) := by decide +kernel
theorem dX6_reach_122 : decode cX6_reach 122 = .ok (.iaload, 1) := by decide +kernel
theorem dX6_reach_123 : decode cX6_reach 123 = .ok (.iconst 1, 1) := by decide +kernel
theorem dX6_reach_124 : decode cX6_reach 124 = .ok (.iadd, 1) := by decide +kernel
theorem dX6_reach_125 : decode cX6_reach 125 = .ok (.iastore, 1) := by decide +kernel
theorem dX6_reach_126 : decode cX6_reach 126 = .ok (.aload_n 0, 1) := by decide +kernel
theorem dX6_reach_127 : decode cX6_reach 127 = .ok (.getfield 44, 3) := by decide +kernel
theorem dX6_reach_130 : decode cX6_reach 130 = .ok (.aload_n 0, 1) := by decide +kernel
theorem dX6_reach_131 : decode cX6_reach 131 = .ok (.getfield 165, 3) := by decide +kernel
theorem dX6_reach_134 : decode cX6_reach 134 = .ok (.iload 5, 2) := by decide +kernel
theorem dX6_reach_136 : decode cX6_reach 136 = .ok (.iastore, 1) := by decide +kernel
theorem dX6_reach_137 : decode cX6_reach 137 = .ok (.aload_n 0, 1) := by decide +kernel
theorem dX6_reach_138 : decode cX6_reach 138 = .ok (.dup, 1) := by decide +kernel
theorem dX6_reach_139 : decode cX6_reach 139 = .ok (.getfield 165, 3) := by decide +kernel
theorem dX6_reach_142 : decode cX6_reach 142 = .ok (.iconst 1, 1) := by decide +kernel
theorem dX6_reach_143 : decode cX6_reach 143 = .ok (.iadd, 1) := by decide +kernel
theorem dX6_reach_144 : decode cX6_reach 144 = .ok (.putfield 165, 3) := by decide +kernel
theorem dX6_reach_147 : decode cX6_reach 147 = .ok (.iinc 4 1, 3) := by decide +kernel
theorem dX6_reach_150 : decode cX6_reach 150 = .ok (.goto (-81), 3) := by decide +kernel
theorem dX6_reach_153 : decode cX6_reach 153 = .ok (.iinc 3 1, 3) := by decide +kernel
theorem dX6_reach_156 : decode cX6_reach 156 = .ok (.goto (-98), 3) := by decide +kernel
theorem dX6_reach_159 : decode cX6_reach 159 = .ok (.return_, 1) := by decide +kernel
theorem dX6_reach__0 : decode cX6_reach_ 0 = .ok (.aload_n 0, 1) := by decide +kernel
theorem dX6_reach__1 : decode cX6_reach_ 1 = .ok (.aload_n 0, 1) := by decide +kernel
theorem dX6_reach__2 : decode cX6_reach_ 2 = .ok (.getfield 7, 3) := by decide +kernel
theorem dX6_reach__5 : decode cX6_reach_ 5 = .ok (.sipush 1880, 3) := by decide +kernel
theorem dX6_reach__8 : decode cX6_reach_ 8 = .ok (.iaload, 1) := by decide +kernel
theorem dX6_reach__9 : decode cX6_reach_ 9 = .ok (.iconst 1, 1) := by decide +kernel
theorem dX6_reach__10 : decode cX6_reach_ 10 = .ok (.invokevirtual 172, 3) := by decide +kernel
theorem dX6_reach__13 : decode cX6_reach_ 13 = .ok (.return_, 1) := by decide +kernel
theorem dX6_isStuck_0 : decode cX6_isStuck 0 = .ok (.aload_n 0, 1) := by decide +kernel
theorem dX6_isStuck_1 : decode cX6_isStuck 1 = .ok (.iload_n 1, 1) := by decide +kernel
theorem dX6_isStuck_2 : decode cX6_isStuck 2 = .ok (.sipush 256, 3) := by decide +kernel
theorem dX6_isStuck_5 : decode cX6_isStuck 5 = .ok (.idiv, 1) := by decide +kernel
theorem dX6_isStuck_6 : decode cX6_isStuck 6 = .ok (.invokevirtual 158, 3) := by decide +kernel
theorem dX6_isStuck_9 : decode cX6_isStuck 9 = .ok (.istore_n 2, 1) := by decide +kernel
theorem dX6_isStuck_10 : decode cX6_isStuck 10 = .ok (.iconst 0, 1) := by decide +kernel
theorem dX6_isStuck_11 : decode cX6_isStuck 11 = .ok (.istore_n 3, 1) := by decide +kernel
theorem dX6_isStuck_12 : decode cX6_isStuck 12 = .ok (.iload_n 3, 1) := by decide +kernel
theorem dX6_isStuck_13 : decode cX6_isStuck 13 = .ok (.bipush 6, 2) := by decide +kernel
theorem dX6_isStuck_15 : decode cX6_isStuck 15 = .ok (.if_icmp .ge 27, 3) := by decide +kernel
theorem dX6_isStuck_18 : decode cX6_isStuck 18 = .ok (.iload_n 2, 1) := by decide +kernel
theorem dX6_isStuck_19 : decode cX6_isStuck 19 = .ok (.aload_n 0, 1) := by decide +kernel
theorem dX6_isStuck_20 : decode cX6_isStuck 20 = .ok (.iload_n 1, 1) := by decide +kernel
theorem dX6_isStuck_21 : decode cX6_isStuck 21 = .ok (.iload_n 3, 1) := by decide +kernel
theorem dX6_isStuck_22 : decode cX6_isStuck 22 = .ok (.iconst 1, 1) := by decide +kernel
theorem dX6_isStuck_23 : decode cX6_isStuck 23 = .ok (.invokevirtual 168, 3) := by decide +kernel
theorem dX6_isStuck_26 : decode cX6_isStuck 26 = .ok (.ifCond .lt 7, 3) := by decide +kernel
theorem dX6_isStuck_29 : decode cX6_isStuck 29 = .ok (.iconst 1, 1) := by decide +kernel
theorem dX6_isStuck_30 : decode cX6_isStuck 30 = .ok (.goto 4, 3) := by decide +kernel
theorem dX6_isStuck_33 : decode cX6_isStuck 33 = .ok (.iconst 0, 1) := by decide +kernel
theorem dX6_isStuck_34 : decode cX6_isStuck 34 = .ok (.ior, 1) := by decide +kernel
theorem dX6_isStuck_35 : decode cX6_isStuck 35 = .ok (.istore_n 2, 1) := by decide +kernel
theorem dX6_isStuck_36 : decode cX6_isStuck 36 = .ok (.iinc 3 1, 3) := by decide +kernel
theorem dX6_isStuck_39 : decode cX6_isStuck 39 = .ok (.goto (-27), 3) := by decide +kernel
theorem dX6_isStuck_42 : decode cX6_isStuck 42 = .ok (.iload_n 2, 1) := by decide +kernel
theorem dX6_isStuck_43 : decode cX6_isStuck 43 = .ok (.ifCond .ne 7, 3) := by decide +kernel
theorem dX6_isStuck_46 : decode cX6_isStuck 46 = .ok (.iconst 1, 1) := by decide +kernel
theorem dX6_isStuck_47 : decode cX6_isStuck 47 = .ok (.goto 4, 3) := by decide +kernel
theorem dX6_isStuck_50 : decode cX6_isStuck 50 = .ok (.iconst 0, 1) := by decide +kernel
theorem dX6_isStuck_51 : decode cX6_isStuck 51 = .ok (.ireturn, 1) := by decide +kernel
theorem dX6_tellHope_0 : decode cX6_tellHope 0 = .ok (.iconst 0, 1) := by decide +kernel
theorem dX6_tellHope_1 : decode cX6_tellHope 1 = .ok (.istore_n 1, 1) := by decide +kernel
theorem dX6_tellHope_2 : decode cX6_tellHope 2 = .ok (.iload_n 1, 1) := by decide +kernel
theorem dX6_tellHope_3 : decode cX6_tellHope 3 = .ok (.sipush 5120, 3) := by decide +kernel
theorem dX6_tellHope_6 : decode cX6_tellHope 6 = .ok (.if_icmp .ge 41, 3) := by decide +kernel
theorem dX6_tellHope_9 : decode cX6_tellHope 9 = .ok (.aload_n 0, 1) := by decide +kernel
theorem dX6_tellHope_10 : decode cX6_tellHope 10 = .ok (.getfield 47, 3) := by decide +kernel
theorem dX6_tellHope_13 : decode cX6_tellHope 13 = .ok (.iload_n 1, 1) := by decide +kernel
theorem dX6_tellHope_14 : decode cX6_tellHope 14 = .ok (.aload_n 0, 1) := by decide +kernel
theorem dX6_tellHope_15 : decode cX6_tellHope 15 = .ok (.getfield 41, 3) := by decide +kernel
theorem dX6_tellHope_18 : decode cX6_tellHope 18 = .ok (.iload_n 1, 1) := by decide +kernel
theorem dX6_tellHope_19 : decode cX6_tellHope 19 = .ok (.iaload, 1) := by decide +kernel
theorem dX6_tellHope_20 : decode cX6_tellHope 20 = .ok (.ifCond .lt 19, 3) := by decide +kernel
theorem dX6_tellHope_23 : decode cX6_tellHope 23 = .ok (.aload_n 0, 1) := by decide +kernel
theorem dX6_tellHope_24 : decode cX6_tellHope 24 = .ok (.iload_n 1, 1) := by decide +kernel
theorem dX6_tellHope_25 : decode cX6_tellHope 25 = .ok (.sipush 256, 3) := by decide +kernel
theorem dX6_tellHope_28 : decode cX6_tellHope 28 = .ok (.idiv, 1) := by decide +kernel
theorem dX6_tellHope_29 : decode cX6_tellHope 29 = .ok (.invokevirtual 158, 3) := by decide +kernel
theorem dX6_tellHope_32 : decode cX6_tellHope 32 = .ok (.ifCond .eq 7, 3) := by decide +kernel
theorem dX6_tellHope_35 : decode cX6_tellHope 35 = .ok (.iconst 1, 1) := by decide +kernel
theorem dX6_tellHope_36 : decode cX6_tellHope 36 = .ok (.goto 4, 3) := by decide +kernel
theorem dX6_tellHope_39 : decode cX6_tellHope 39 = .ok (.iconst 0, 1) := by decide +kernel
theorem dX6_tellHope_40 : decode cX6_tellHope 40 = .ok (.bastore, 1) := by decide +kernel
theorem dX6_tellHope_41 : decode cX6_tellHope 41 = .ok (.iinc 1 1, 3) := by decide +kernel
theorem dX6_tellHope_44 : decode cX6_tellHope 44 = .ok (.goto (-42), 3) := by decide +kernel
theorem dX6_tellHope_47 : decode cX6_tellHope 47 = .ok (.iconst 1, 1) := by decide +kernel
theorem dX6_tellHope_48 : decode cX6_tellHope 48 = .ok (.istore_n 1, 1) := by decide +kernel
theorem dX6_tellHope_49 : decode cX6_tellHope 49 = .ok (.iload_n 1, 1) := by decide +kernel
theorem dX6_tellHope_50 : decode cX6_tellHope 50 = .ok (.ifCond .eq 96, 3) := by decide +kernel
theorem dX6_tellHope_53 : decode cX6_tellHope 53 = .ok (.iconst 0, 1) := by decide +kernel
theorem dX6_tellHope_54 : decode cX6_tellHope 54 = .ok (.istore_n 1, 1) := by decide +kernel
theorem dX6_tellHope_55 : decode cX6_tellHope 55 = .ok (.aload_n 0, 1) := by decide +kernel
theorem dX6_tellHope_56 : decode cX6_tellHope 56 = .ok (.getfield 165, 3) := by decide +kernel
theorem dX6_tellHope_59 : decode cX6_tellHope 59 = .ok (.iconst 1, 1) := by decide +kernel
theorem dX6_tellHope_60 : decode cX6_tellHope 60 = .ok (.isub, 1) := by decide +kernel
theorem dX6_tellHope_61 : decode cX6_tellHope 61 = .ok (.istore_n 2, 1) := by decide +kernel
theorem dX6_tellHope_62 : decode cX6_tellHope 62 = .ok (.iload_n 2, 1) := by decide +kernel
theorem dX6_tellHope_63 : decode cX6_tellHope 63 = .ok (.ifCond .lt 80, 3) := by decide +kernel
theorem dX6_tellHope_66 : decode cX6_tellHope 66 = .ok (.iconst 0, 1) := by decide +kernel
theorem dX6_tellHope_67 : decode cX6_tellHope 67 = .ok (.istore_n 3, 1) := by decide +kernel
theorem dX6_tellHope_68 : decode cX6_tellHope 68 = .ok (.iload_n 3, 1) := by decide +kernel
theorem dX6_tellHope_69 : decode cX6_tellHope 69 = .ok (.bipush 6, 2) := by decide +kernel
theorem dX6_tellHope_71 : decode cX6_tellHope 71 = .ok (.if_icmp .ge 66, 3) := by decide +kernel
theorem dX6_tellHope_74 : decode cX6_tellHope 74 = .ok (.aload_n 0, 1) := by decide +kernel
theorem dX6_tellHope_75 : decode cX6_tellHope 75 = .ok (.getfield 47, 3) := by decide +kernel
theorem dX6_tellHope_78 : decode cX6_tellHope 78 = .ok (.aload_n 0, 1) := by decide +kernel
theorem dX6_tellHope_79 : decode cX6_tellHope 79 = .ok (.getfield 44, 3) := by decide +kernel
theorem dX6_tellHope_82 : decode cX6_tellHope 82 = .ok (.iload_n 2, 1) := by decide +kernel
theorem dX6_tellHope_83 : decode cX6_tellHope 83 = .ok (.iaload, 1) := by decide +kernel
theorem dX6_tellHope_84 : decode cX6_tellHope 84 = .ok (.baload, 1) := by decide +kernel
theorem dX6_tellHope_85 : decode cX6_tellHope 85 = .ok (.ifCond .ne 52, 3) := by decide +kernel
theorem dX6_tellHope_88 : decode cX6_tellHope 88 = .ok (.aload_n 0, 1) := by decide +kernel
theorem dX6_tellHope_89 : decode cX6_tellHope 89 = .ok (.aload_n 0, 1) := by decide +kernel
theorem dX6_tellHope_90 : decode cX6_tellHope 90 = .ok (.getfield 44, 3) := by decide +kernel
theorem dX6_tellHope_93 : decode cX6_tellHope 93 = .ok (.iload_n 2, 1) := by decide +kernel
theorem dX6_tellHope_94 : decode cX6_tellHope 94 = .ok (.iaload, 1) := by decide +kernel
theorem dX6_tellHope_95 : decode cX6_tellHope 95 = .ok (.iload_n 3, 1) := by decide +kernel
theorem dX6_tellHope_96 : decode cX6_tellHope 96 = .ok (.iconst 1, 1) := by decide +kernel
theorem dX6_tellHope_97 : decode cX6_tellHope 97 = .ok (.invokevirtual 168, 3) := by decide +kernel
theorem dX6_tellHope_100 : decode cX6_tellHope 100 = .ok (.istore 4, 2) := by decide +kernel
theorem dX6_tellHope_102 : decode cX6_tellHope 102 = .ok (.iload 4, 2) := by decide +kernel
theorem dX6_tellHope_104 : decode cX6_tellHope 104 = .ok (.ifCond .lt 27, 3) := by decide +kernel
theorem dX6_tellHope_107 : decode cX6_tellHope 107 = .ok (.aload_n 0, 1) := by decide +kernel
theorem dX6_tellHope_108 : decode cX6_tellHope 108 = .ok (.getfield 47, 3) := by decide +kernel
theorem dX6_tellHope_111 : decode cX6_tellHope 111 = .ok (.iload 4, 2) := by decide +kernel
theorem dX6_tellHope_113 : decode cX6_tellHope 113 = .ok (.baload, 1) := by decide +kernel
theorem dX6_tellHope_114 : decode cX6_tellHope 114 = .ok (.ifCond .eq 17, 3) := by decide +kernel
theorem dX6_tellHope_117 : decode cX6_tellHope 117 = .ok (.aload_n 0, 1) := by decide +kernel
theorem dX6_tellHope_118 : decode cX6_tellHope 118 = .ok (.getfield 47, 3) := by decide +kernel
theorem dX6_tellHope_121 : decode cX6_tellHope 121 = .ok (.aload_n 0, 1) := by decide +kernel
theorem dX6_tellHope_122 : decode cX6_tellHope 122 = .ok (.getfield 44, 3) := by decide +kernel
theorem dX6_tellHope_125 : decode cX6_tellHope 125 = .ok (.iload_n 2, 1) := by decide +kernel
theorem dX6_tellHope_126 : decode cX6_tellHope 126 = .ok (.iaload, 1) := by decide +kernel
theorem dX6_tellHope_127 : decode cX6_tellHope 127 = .ok (.iconst 1, 1) := by decide +kernel
theorem dX6_tellHope_128 : decode cX6_tellHope 128 = .ok (.bastore, 1) := by decide +kernel
theorem dX6_tellHope_129 : decode cX6_tellHope 129 = .ok (.iconst 1, 1) := by decide +kernel
theorem dX6_tellHope_130 : decode cX6_tellHope 130 = .ok (.istore_n 1, 1) := by decide +kernel
theorem dX6_tellHope_131 : decode cX6_tellHope 131 = .ok (.iinc 3 1, 3) := by decide +kernel
theorem dX6_tellHope_134 : decode cX6_tellHope 134 = .ok (.goto (-66), 3) := by decide +kernel
theorem dX6_tellHope_137 : decode cX6_tellHope 137 = .ok (.iinc 2 (-1), 3) := by decide +kernel
theorem dX6_tellHope_140 : decode cX6_tellHope 140 = .ok (.goto (-78), 3) := by decide +kernel
theorem dX6_tellHope_143 : decode cX6_tellHope 143 = .ok (.goto (-94), 3) := by decide +kernel
theorem dX6_tellHope_146 : decode cX6_tellHope 146 = .ok (.return_, 1) := by decide +kernel
theorem dX6_tellLives_0 : decode cX6_tellLives 0 = .ok (.iconst 0, 1) := by decide +kernel
theorem dX6_tellLives_1 : decode cX6_tellLives 1 = .ok (.istore_n 1, 1) := by decide +kernel
theorem dX6_tellLives_2 : decode cX6_tellLives 2 = .ok (.iload_n 1, 1) := by decide +kernel
theorem dX6_tellLives_3 : decode cX6_tellLives 3 = .ok (.bipush 20, 2) := by decide +kernel
theorem dX6_tellLives_5 : decode cX6_tellLives 5 = .ok (.if_icmp .ge 16, 3) := by decide +kernel
theorem dX6_tellLives_8 : decode cX6_tellLives 8 = .ok (.aload_n 0, 1) := by decide +kernel
theorem dX6_tellLives_9 : decode cX6_tellLives 9 = .ok (.getfield 50, 3) := by decide +kernel
theorem dX6_tellLives_12 : decode cX6_tellLives 12 = .ok (.iload_n 1, 1) := by decide +kernel
theorem dX6_tellLives_13 : decode cX6_tellLives 13 = .ok (.iconst 0, 1) := by decide +kernel
theorem dX6_tellLives_14 : decode cX6_tellLives 14 = .ok (.iastore, 1) := by decide +kernel
theorem dX6_tellLives_15 : decode cX6_tellLives 15 = .ok (.iinc 1 1, 3) := by decide +kernel
theorem dX6_tellLives_18 : decode cX6_tellLives 18 = .ok (.goto (-16), 3) := by decide +kernel
theorem dX6_tellLives_21 : decode cX6_tellLives 21 = .ok (.iconst 1, 1) := by decide +kernel
theorem dX6_tellLives_22 : decode cX6_tellLives 22 = .ok (.istore_n 1, 1) := by decide +kernel
theorem dX6_tellLives_23 : decode cX6_tellLives 23 = .ok (.iload_n 1, 1) := by decide +kernel
theorem dX6_tellLives_24 : decode cX6_tellLives 24 = .ok (.ifCond .eq 73, 3) := by decide +kernel
theorem dX6_tellLives_27 : decode cX6_tellLives 27 = .ok (.iconst 0, 1) := by decide +kernel
theorem dX6_tellLives_28 : decode cX6_tellLives 28 = .ok (.istore_n 1, 1) := by decide +kernel
theorem dX6_tellLives_29 : decode cX6_tellLives 29 = .ok (.iconst 0, 1) := by decide +kernel
theorem dX6_tellLives_30 : decode cX6_tellLives 30 = .ok (.istore_n 2, 1) := by decide +kernel
theorem dX6_tellLives_31 : decode cX6_tellLives 31 = .ok (.iload_n 2, 1) := by decide +kernel
theorem dX6_tellLives_32 : decode cX6_tellLives 32 = .ok (.bipush 20, 2) := by decide +kernel
theorem dX6_tellLives_34 : decode cX6_tellLives 34 = .ok (.if_icmp .ge 60, 3) := by decide +kernel
theorem dX6_tellLives_37 : decode cX6_tellLives 37 = .ok (.aload_n 0, 1) := by decide +kernel
theorem dX6_tellLives_38 : decode cX6_tellLives 38 = .ok (.iload_n 2, 1) := by decide +kernel
theorem dX6_tellLives_39 : decode cX6_tellLives 39 = .ok (.invokevirtual 137, 3) := by decide +kernel
theorem dX6_tellLives_42 : decode cX6_tellLives 42 = .ok (.ifCond .eq 19, 3) := by decide +kernel
theorem dX6_tellLives_45 : decode cX6_tellLives 45 = .ok (.aload_n 0, 1) := by decide +kernel
theorem dX6_tellLives_46 : decode cX6_tellLives 46 = .ok (.iload_n 2, 1) := by decide +kernel
theorem dX6_tellLives_47 : decode cX6_tellLives 47 = .ok (.invokevirtual 158, 3) := by decide +kernel
theorem dX6_tellLives_50 : decode cX6_tellLives 50 = .ok (.ifCond .ne 11, 3) := by decide +kernel
theorem dX6_tellLives_53 : decode cX6_tellLives 53 = .ok (.aload_n 0, 1) := by decide +kernel
theorem dX6_tellLives_54 : decode cX6_tellLives 54 = .ok (.iload_n 2, 1) := by decide +kernel
theorem dX6_tellLives_55 : decode cX6_tellLives 55 = .ok (.invokevirtual 176, 3) := by decide +kernel
theorem dX6_tellLives_58 : decode cX6_tellLives 58 = .ok (.goto 4, 3) := by decide +kernel
theorem dX6_tellLives_61 : decode cX6_tellLives 61 = .ok (.iconst 0, 1) := by decide +kernel
theorem dX6_tellLives_62 : decode cX6_tellLives 62 = .ok (.istore_n 3, 1) := by decide +kernel
theorem dX6_tellLives_63 : decode cX6_tellLives 63 = .ok (.iload_n 1, 1) := by decide +kernel
theorem dX6_tellLives_64 : decode cX6_tellLives 64 = .ok (.iload_n 3, 1) := by decide +kernel
theorem dX6_tellLives_65 : decode cX6_tellLives 65 = .ok (.aload_n 0, 1) := by decide +kernel
theorem dX6_tellLives_66 : decode cX6_tellLives 66 = .ok (.getfield 50, 3) := by decide +kernel
theorem dX6_tellLives_69 : decode cX6_tellLives 69 = .ok (.iload_n 2, 1) := by decide +kernel
theorem dX6_tellLives_70 : decode cX6_tellLives 70 = .ok (.iaload, 1) := by decide +kernel
theorem dX6_tellLives_71 : decode cX6_tellLives 71 = .ok (.if_icmp .eq 7, 3) := by decide +kernel
theorem dX6_tellLives_74 : decode cX6_tellLives 74 = .ok (.iconst 1, 1) := by decide +kernel
theorem dX6_tellLives_75 : decode cX6_tellLives 75 = .ok (.goto 4, 3) := by decide +kernel
theorem dX6_tellLives_78 : decode cX6_tellLives 78 = .ok (.iconst 0, 1) := by decide +kernel
theorem dX6_tellLives_79 : decode cX6_tellLives 79 = .ok (.ior, 1) := by decide +kernel
theorem dX6_tellLives_80 : decode cX6_tellLives 80 = .ok (.istore_n 1, 1) := by decide +kernel
theorem dX6_tellLives_81 : decode cX6_tellLives 81 = .ok (.aload_n 0, 1) := by decide +kernel
theorem dX6_tellLives_82 : decode cX6_tellLives 82 = .ok (.getfield 50, 3) := by decide +kernel
theorem dX6_tellLives_85 : decode cX6_tellLives 85 = .ok (.iload_n 2, 1) := by decide +kernel
theorem dX6_tellLives_86 : decode cX6_tellLives 86 = .ok (.iload_n 3, 1) := by decide +kernel
theorem dX6_tellLives_87 : decode cX6_tellLives 87 = .ok (.iastore, 1) := by decide +kernel
theorem dX6_tellLives_88 : decode cX6_tellLives 88 = .ok (.iinc 2 1, 3) := by decide +kernel
theorem dX6_tellLives_91 : decode cX6_tellLives 91 = .ok (.goto (-60), 3) := by decide +kernel
theorem dX6_tellLives_94 : decode cX6_tellLives 94 = .ok (.goto (-71), 3) := by decide +kernel
theorem dX6_tellLives_97 : decode cX6_tellLives 97 = .ok (.return_, 1) := by decide +kernel
theorem dX6_liveAt_0 : decode cX6_liveAt 0 = .ok (.iconst 0, 1) := by decide +kernel
theorem dX6_liveAt_1 : decode cX6_liveAt 1 = .ok (.istore_n 2, 1) := by decide +kernel
theorem dX6_liveAt_2 : decode cX6_liveAt 2 = .ok (.iconst 0, 1) := by decide +kernel
theorem dX6_liveAt_3 : decode cX6_liveAt 3 = .ok (.istore_n 3, 1) := by decide +kernel
theorem dX6_liveAt_4 : decode cX6_liveAt 4 = .ok (.iload_n 3, 1) := by decide +kernel
theorem dX6_liveAt_5 : decode cX6_liveAt 5 = .ok (.bipush 6, 2) := by decide +kernel
theorem dX6_liveAt_7 : decode cX6_liveAt 7 = .ok (.if_icmp .ge 118, 3) := by decide +kernel
theorem dX6_liveAt_10 : decode cX6_liveAt 10 = .ok (.iload_n 1, 1) := by decide +kernel
theorem dX6_liveAt_11 : decode cX6_liveAt 11 = .ok (.iload_n 3, 1) := by decide +kernel
theorem dX6_liveAt_12 : decode cX6_liveAt 12 = .ok (.invokestatic 75, 3) := by decide +kernel
theorem dX6_liveAt_15 : decode cX6_liveAt 15 = .ok (.istore 4, 2) := by decide +kernel
theorem dX6_liveAt_17 : decode cX6_liveAt 17 = .ok (.aload_n 0, 1) := by decide +kernel
theorem dX6_liveAt_18 : decode cX6_liveAt 18 = .ok (.getfield 7, 3) := by decide +kernel
theorem dX6_liveAt_21 : decode cX6_liveAt 21 = .ok (.iload 4, 2) := by decide +kernel
theorem dX6_liveAt_23 : decode cX6_liveAt 23 = .ok (.iconst 1, 1) := by decide +kernel
theorem dX6_liveAt_24 : decode cX6_liveAt 24 = .ok (.iadd, 1) := by decide +kernel
theorem dX6_liveAt_25 : decode cX6_liveAt 25 = .ok (.iaload, 1) := by decide +kernel
theorem dX6_liveAt_26 : decode cX6_liveAt 26 = .ok (.istore 5, 2) := by decide +kernel
theorem dX6_liveAt_28 : decode cX6_liveAt 28 = .ok (.aload_n 0, 1) := by decide +kernel
theorem dX6_liveAt_29 : decode cX6_liveAt 29 = .ok (.iload_n 1, 1) := by decide +kernel
theorem dX6_liveAt_30 : decode cX6_liveAt 30 = .ok (.iload_n 3, 1) := by decide +kernel
theorem dX6_liveAt_31 : decode cX6_liveAt 31 = .ok (.invokevirtual 146, 3) := by decide +kernel
theorem dX6_liveAt_34 : decode cX6_liveAt 34 = .ok (.ifCond .eq 85, 3) := by decide +kernel
theorem dX6_liveAt_37 : decode cX6_liveAt 37 = .ok (.aload_n 0, 1) := by decide +kernel
theorem dX6_liveAt_38 : decode cX6_liveAt 38 = .ok (.iload 5, 2) := by decide +kernel
theorem dX6_liveAt_40 : decode cX6_liveAt 40 = .ok (.invokevirtual 137, 3) := by decide +kernel
theorem dX6_liveAt_43 : decode cX6_liveAt 43 = .ok (.ifCond .eq 76, 3) := by decide +kernel
theorem dX6_liveAt_46 : decode cX6_liveAt 46 = .ok (.aload_n 0, 1) := by decide +kernel
theorem dX6_liveAt_47 : decode cX6_liveAt 47 = .ok (.bipush 10, 2) := by decide +kernel
theorem dX6_liveAt_49 : decode cX6_liveAt 49 = .ok (.iload 5, 2) := by decide +kernel
theorem dX6_liveAt_51 : decode cX6_liveAt 51 = .ok (.imul, 1) := by decide +kernel
theorem dX6_liveAt_52 : decode cX6_liveAt 52 = .ok (.iconst 2, 1) := by decide +kernel
theorem dX6_liveAt_53 : decode cX6_liveAt 53 = .ok (.iadd, 1) := by decide +kernel
theorem dX6_liveAt_54 : decode cX6_liveAt 54 = .ok (.invokevirtual 152, 3) := by decide +kernel
theorem dX6_liveAt_57 : decode cX6_liveAt 57 = .ok (.aload_n 0, 1) := by decide +kernel
theorem dX6_liveAt_58 : decode cX6_liveAt 58 = .ok (.getfield 50, 3) := by decide +kernel
theorem dX6_liveAt_61 : decode cX6_liveAt 61 = .ok (.iload 5, 2) := by decide +kernel
theorem dX6_liveAt_63 : decode cX6_liveAt 63 = .ok (.iaload, 1) := by decide +kernel
theorem dX6_liveAt_64 : decode cX6_liveAt 64 = .ok (.aload_n 0, 1) := by decide +kernel
theorem dX6_liveAt_65 : decode cX6_liveAt 65 = .ok (.getfield 7, 3) := by decide +kernel
theorem dX6_liveAt_68 : decode cX6_liveAt 68 = .ok (.bipush 10, 2) := by decide +kernel
theorem dX6_liveAt_70 : decode cX6_liveAt 70 = .ok (.iload 5, 2) := by decide +kernel
theorem dX6_liveAt_72 : decode cX6_liveAt 72 = .ok (.imul, 1) := by decide +kernel
theorem dX6_liveAt_73 : decode cX6_liveAt 73 = .ok (.iconst 1, 1) := by decide +kernel
theorem dX6_liveAt_74 : decode cX6_liveAt 74 = .ok (.iadd, 1) := by decide +kernel
theorem dX6_liveAt_75 : decode cX6_liveAt 75 = .ok (.iaload, 1) := by decide +kernel
theorem dX6_liveAt_76 : decode cX6_liveAt 76 = .ok (.iconst (-1), 1) := by decide +kernel
theorem dX6_liveAt_77 : decode cX6_liveAt 77 = .ok (.ixor, 1) := by decide +kernel
theorem dX6_liveAt_78 : decode cX6_liveAt 78 = .ok (.iand, 1) := by decide +kernel
theorem dX6_liveAt_79 : decode cX6_liveAt 79 = .ok (.ior, 1) := by decide +kernel
theorem dX6_liveAt_80 : decode cX6_liveAt 80 = .ok (.istore 6, 2) := by decide +kernel
theorem dX6_liveAt_82 : decode cX6_liveAt 82 = .ok (.iload_n 2, 1) := by decide +kernel
theorem dX6_liveAt_83 : decode cX6_liveAt 83 = .ok (.aload_n 0, 1) := by decide +kernel
theorem dX6_liveAt_84 : decode cX6_liveAt 84 = .ok (.iload 4, 2) := by decide +kernel
theorem dX6_liveAt_86 : decode cX6_liveAt 86 = .ok (.bipush 6, 2) := by decide +kernel
theorem dX6_liveAt_88 : decode cX6_liveAt 88 = .ok (.iadd, 1) := by decide +kernel
theorem dX6_liveAt_89 : decode cX6_liveAt 89 = .ok (.invokevirtual 152, 3) := by decide +kernel
theorem dX6_liveAt_92 : decode cX6_liveAt 92 = .ok (.iload 6, 2) := by decide +kernel
theorem dX6_liveAt_94 : decode cX6_liveAt 94 = .ok (.aload_n 0, 1) := by decide +kernel
theorem dX6_liveAt_95 : decode cX6_liveAt 95 = .ok (.getfield 7, 3) := by decide +kernel
theorem dX6_liveAt_98 : decode cX6_liveAt 98 = .ok (.iload 4, 2) := by decide +kernel
theorem dX6_liveAt_100 : decode cX6_liveAt 100 = .ok (.iconst 2, 1) := by decide +kernel
theorem dX6_liveAt_101 : decode cX6_liveAt 101 = .ok (.iadd, 1) := by decide +kernel
theorem dX6_liveAt_102 : decode cX6_liveAt 102 = .ok (.iaload, 1) := by decide +kernel
theorem dX6_liveAt_103 : decode cX6_liveAt 103 = .ok (.aload_n 0, 1) := by decide +kernel
theorem dX6_liveAt_104 : decode cX6_liveAt 104 = .ok (.getfield 7, 3) := by decide +kernel
theorem dX6_liveAt_107 : decode cX6_liveAt 107 = .ok (.iload 4, 2) := by decide +kernel
theorem dX6_liveAt_109 : decode cX6_liveAt 109 = .ok (.iconst 3, 1) := by decide +kernel
theorem dX6_liveAt_110 : decode cX6_liveAt 110 = .ok (.iadd, 1) := by decide +kernel
theorem dX6_liveAt_111 : decode cX6_liveAt 111 = .ok (.iaload, 1) := by decide +kernel
theorem dX6_liveAt_112 : decode cX6_liveAt 112 = .ok (.ior, 1) := by decide +kernel
theorem dX6_liveAt_113 : decode cX6_liveAt 113 = .ok (.iconst (-1), 1) := by decide +kernel
theorem dX6_liveAt_114 : decode cX6_liveAt 114 = .ok (.ixor, 1) := by decide +kernel
theorem dX6_liveAt_115 : decode cX6_liveAt 115 = .ok (.iand, 1) := by decide +kernel
theorem dX6_liveAt_116 : decode cX6_liveAt 116 = .ok (.ior, 1) := by decide +kernel
theorem dX6_liveAt_117 : decode cX6_liveAt 117 = .ok (.ior, 1) := by decide +kernel
theorem dX6_liveAt_118 : decode cX6_liveAt 118 = .ok (.istore_n 2, 1) := by decide +kernel
theorem dX6_liveAt_119 : decode cX6_liveAt 119 = .ok (.iinc 3 1, 3) := by decide +kernel
theorem dX6_liveAt_122 : decode cX6_liveAt 122 = .ok (.goto (-118), 3) := by decide +kernel
theorem dX6_liveAt_125 : decode cX6_liveAt 125 = .ok (.iload_n 2, 1) := by decide +kernel
theorem dX6_liveAt_126 : decode cX6_liveAt 126 = .ok (.ireturn, 1) := by decide +kernel
theorem dX6_states_0 : decode cX6_states 0 = .ok (.iload_n 1, 1) := by decide +kernel
theorem dX6_states_1 : decode cX6_states 1 = .ok (.iconst 0, 1) := by decide +kernel
theorem dX6_states_2 : decode cX6_states 2 = .ok (.iconst 4, 1) := by decide +kernel
theorem dX6_states_3 : decode cX6_states 3 = .ok (.invokestatic 67, 3) := by decide +kernel
theorem dX6_states_6 : decode cX6_states 6 = .ok (.ifCond .ne 7, 3) := by decide +kernel
theorem dX6_states_9 : decode cX6_states 9 = .ok (.sipush (-1002), 3) := by decide +kernel
theorem dX6_states_12 : decode cX6_states 12 = .ok (.ireturn, 1) := by decide +kernel
theorem dX6_states_13 : decode cX6_states 13 = .ok (.aload_n 0, 1) := by decide +kernel
theorem dX6_states_14 : decode cX6_states 14 = .ok (.invokevirtual 179, 3) := by decide +kernel
theorem dX6_states_17 : decode cX6_states 17 = .ok (.iload_n 1, 1) := by decide +kernel
theorem dX6_states_18 : decode cX6_states 18 = .ok (.iconst 3, 1) := by decide +kernel
theorem dX6_states_19 : decode cX6_states 19 = .ok (.if_icmp .ne 7, 3) := by decide +kernel
theorem dX6_states_22 : decode cX6_states 22 = .ok (.aload_n 0, 1) := by decide +kernel
theorem dX6_states_23 : decode cX6_states 23 = .ok (.invokevirtual 181, 3) := by decide +kernel
theorem dX6_states_26 : decode cX6_states 26 = .ok (.iload_n 1, 1) := by decide +kernel
theorem dX6_states_27 : decode cX6_states 27 = .ok (.iconst 4, 1) := by decide +kernel
theorem dX6_states_28 : decode cX6_states 28 = .ok (.if_icmp .ne 7, 3) := by decide +kernel
theorem dX6_states_31 : decode cX6_states 31 = .ok (.aload_n 0, 1) := by decide +kernel
theorem dX6_states_32 : decode cX6_states 32 = .ok (.invokevirtual 184, 3) := by decide +kernel
theorem dX6_states_35 : decode cX6_states 35 = .ok (.iconst 0, 1) := by decide +kernel
theorem dX6_states_36 : decode cX6_states 36 = .ok (.istore_n 2, 1) := by decide +kernel
theorem dX6_states_37 : decode cX6_states 37 = .ok (.iload_n 2, 1) := by decide +kernel
theorem dX6_states_38 : decode cX6_states 38 = .ok (.sipush 5120, 3) := by decide +kernel
theorem dX6_states_41 : decode cX6_states 41 = .ok (.if_icmp .ge 16, 3) := by decide +kernel
theorem dX6_states_44 : decode cX6_states 44 = .ok (.aload_n 0, 1) := by decide +kernel
theorem dX6_states_45 : decode cX6_states 45 = .ok (.getfield 53, 3) := by decide +kernel
theorem dX6_states_48 : decode cX6_states 48 = .ok (.iload_n 2, 1) := by decide +kernel
theorem dX6_states_49 : decode cX6_states 49 = .ok (.iconst 0, 1) := by decide +kernel
theorem dX6_states_50 : decode cX6_states 50 = .ok (.bastore, 1) := by decide +kernel
theorem dX6_states_51 : decode cX6_states 51 = .ok (.iinc 2 1, 3) := by decide +kernel
theorem dX6_states_54 : decode cX6_states 54 = .ok (.goto (-17), 3) := by decide +kernel
theorem dX6_states_57 : decode cX6_states 57 = .ok (.iconst 0, 1) := by decide +kernel
theorem dX6_states_58 : decode cX6_states 58 = .ok (.istore_n 2, 1) := by decide +kernel
theorem dX6_states_59 : decode cX6_states 59 = .ok (.iconst 0, 1) := by decide +kernel
theorem dX6_states_60 : decode cX6_states 60 = .ok (.istore_n 3, 1) := by decide +kernel
theorem dX6_states_61 : decode cX6_states 61 = .ok (.iload_n 3, 1) := by decide +kernel
theorem dX6_states_62 : decode cX6_states 62 = .ok (.aload_n 0, 1) := by decide +kernel
theorem dX6_states_63 : decode cX6_states 63 = .ok (.getfield 165, 3) := by decide +kernel
theorem dX6_states_66 : decode cX6_states 66 = .ok (.if_icmp .ge 142, 3) := by decide +kernel
theorem dX6_states_69 : decode cX6_states 69 = .ok (.aload_n 0, 1) := by decide +kernel
theorem dX6_states_70 : decode cX6_states 70 = .ok (.getfield 44, 3) := by decide +kernel
theorem dX6_states_73 : decode cX6_states 73 = .ok (.iload_n 3, 1) := by decide +kernel
theorem dX6_states_74 : decode cX6_states 74 = .ok (.iaload, 1) := by decide +kernel
theorem dX6_states_75 : decode cX6_states 75 = .ok (.istore 4, 2) := by decide +kernel
theorem dX6_states_77 : decode cX6_states 77 = .ok (.iload 4, 2) := by decide +kernel
theorem dX6_states_79 : decode cX6_states 79 = .ok (.sipush 256, 3) := by decide +kernel
theorem dX6_states_82 : decode cX6_states 82 = .ok (.idiv, 1) := by decide +kernel
theorem dX6_states_83 : decode cX6_states 83 = .ok (.sipush 256, 3) := by decide +kernel
theorem dX6_states_86 : decode cX6_states 86 = .ok (.imul, 1) := by decide +kernel
theorem dX6_states_87 : decode cX6_states 87 = .ok (.iload 4, 2) := by decide +kernel
theorem dX6_states_89 : decode cX6_states 89 = .ok (.sipush 256, 3) := by decide +kernel
theorem dX6_states_92 : decode cX6_states 92 = .ok (.irem, 1) := by decide +kernel
theorem dX6_states_93 : decode cX6_states 93 = .ok (.aload_n 0, 1) := by decide +kernel
theorem dX6_states_94 : decode cX6_states 94 = .ok (.getfield 50, 3) := by decide +kernel
theorem dX6_states_97 : decode cX6_states 97 = .ok (.iload 4, 2) := by decide +kernel
theorem dX6_states_99 : decode cX6_states 99 = .ok (.sipush 256, 3) := by decide +kernel
theorem dX6_states_102 : decode cX6_states 102 = .ok (.idiv, 1) := by decide +kernel
theorem dX6_states_103 : decode cX6_states 103 = .ok (.iaload, 1) := by decide +kernel
theorem dX6_states_104 : decode cX6_states 104 = .ok (.iand, 1) := by decide +kernel
theorem dX6_states_105 : decode cX6_states 105 = .ok (.iadd, 1) := by decide +kernel
theorem dX6_states_106 : decode cX6_states 106 = .ok (.istore 5, 2) := by decide +kernel
theorem dX6_states_108 : decode cX6_states 108 = .ok (.iload_n 1, 1) := by decide +kernel
theorem dX6_states_109 : decode cX6_states 109 = .ok (.ifCond .eq 65, 3) := by decide +kernel
theorem dX6_states_112 : decode cX6_states 112 = .ok (.iload_n 1, 1) := by decide +kernel
theorem dX6_states_113 : decode cX6_states 113 = .ok (.iconst 1, 1) := by decide +kernel
theorem dX6_states_114 : decode cX6_states 114 = .ok (.if_icmp .ne 16, 3) := by decide +kernel
theorem dX6_states_117 : decode cX6_states 117 = .ok (.aload_n 0, 1) := by decide +kernel
theorem dX6_states_118 : decode cX6_states 118 = .ok (.iload 4, 2) := by decide +kernel
theorem dX6_states_120 : decode cX6_states 120 = .ok (.sipush 256, 3) := by decide +kernel
theorem dX6_states_123 : decode cX6_states 123 = .ok (.idiv, 1) := by decide +kernel
theorem dX6_states_124 : decode cX6_states 124 = .ok (.invokevirtual 158, 3) := by decide +kernel
theorem dX6_states_127 : decode cX6_states 127 = .ok (.ifCond .ne 47, 3) := by decide +kernel
theorem dX6_states_130 : decode cX6_states 130 = .ok (.iload_n 1, 1) := by decide +kernel
theorem dX6_states_131 : decode cX6_states 131 = .ok (.iconst 2, 1) := by decide +kernel
theorem dX6_states_132 : decode cX6_states 132 = .ok (.if_icmp .ne 12, 3) := by decide +kernel
theorem dX6_states_135 : decode cX6_states 135 = .ok (.aload_n 0, 1) := by decide +kernel
theorem dX6_states_136 : decode cX6_states 136 = .ok (.iload 4, 2) := by decide +kernel
theorem dX6_states_138 : decode cX6_states 138 = .ok (.invokevirtual 187, 3) := by decide +kernel
theorem dX6_states_141 : decode cX6_states 141 = .ok (.ifCond .ne 33, 3) := by decide +kernel
theorem dX6_states_144 : decode cX6_states 144 = .ok (.iload_n 1, 1) := by decide +kernel
theorem dX6_states_145 : decode cX6_states 145 = .ok (.iconst 3, 1) := by decide +kernel
theorem dX6_states_146 : decode cX6_states 146 = .ok (.if_icmp .ne 13, 3) := by decide +kernel
theorem dX6_states_149 : decode cX6_states 149 = .ok (.aload_n 0, 1) := by decide +kernel
theorem dX6_states_150 : decode cX6_states 150 = .ok (.getfield 47, 3) := by decide +kernel
theorem dX6_states_153 : decode cX6_states 153 = .ok (.iload 4, 2) := by decide +kernel
theorem dX6_states_155 : decode cX6_states 155 = .ok (.baload, 1) := by decide +kernel
theorem dX6_states_156 : decode cX6_states 156 = .ok (.ifCond .eq 18, 3) := by decide +kernel
theorem dX6_states_159 : decode cX6_states 159 = .ok (.iload_n 1, 1) := by decide +kernel
theorem dX6_states_160 : decode cX6_states 160 = .ok (.iconst 4, 1) := by decide +kernel
theorem dX6_states_161 : decode cX6_states 161 = .ok (.if_icmp .ne 17, 3) := by decide +kernel
theorem dX6_states_164 : decode cX6_states 164 = .ok (.aload_n 0, 1) := by decide +kernel
theorem dX6_states_165 : decode cX6_states 165 = .ok (.getfield 53, 3) := by decide +kernel
theorem dX6_states_168 : decode cX6_states 168 = .ok (.iload 5, 2) := by decide +kernel
theorem dX6_states_170 : decode cX6_states 170 = .ok (.baload, 1) := by decide +kernel
theorem dX6_states_171 : decode cX6_states 171 = .ok (.ifCond .ne 7, 3) := by decide +kernel
theorem dX6_states_174 : decode cX6_states 174 = .ok (.iconst 1, 1) := by decide +kernel
theorem dX6_states_175 : decode cX6_states 175 = .ok (.goto 4, 3) := by decide +kernel
theorem dX6_states_178 : decode cX6_states 178 = .ok (.iconst 0, 1) := by decide +kernel
theorem dX6_states_179 : decode cX6_states 179 = .ok (.istore 6, 2) := by decide +kernel
theorem dX6_states_181 : decode cX6_states 181 = .ok (.aload_n 0, 1) := by decide +kernel
theorem dX6_states_182 : decode cX6_states 182 = .ok (.getfield 53, 3) := by decide +kernel
theorem dX6_states_185 : decode cX6_states 185 = .ok (.iload 5, 2) := by decide +kernel
theorem dX6_states_187 : decode cX6_states 187 = .ok (.iconst 1, 1) := by decide +kernel
theorem dX6_states_188 : decode cX6_states 188 = .ok (.bastore, 1) := by decide +kernel
theorem dX6_states_189 : decode cX6_states 189 = .ok (.iload_n 2, 1) := by decide +kernel
theorem dX6_states_190 : decode cX6_states 190 = .ok (.iload 6, 2) := by decide +kernel
theorem dX6_states_192 : decode cX6_states 192 = .ok (.ifCond .eq 7, 3) := by decide +kernel
theorem dX6_states_195 : decode cX6_states 195 = .ok (.iconst 1, 1) := by decide +kernel
theorem dX6_states_196 : decode cX6_states 196 = .ok (.goto 4, 3) := by decide +kernel
theorem dX6_states_199 : decode cX6_states 199 = .ok (.iconst 0, 1) := by decide +kernel
theorem dX6_states_200 : decode cX6_states 200 = .ok (.iadd, 1) := by decide +kernel
theorem dX6_states_201 : decode cX6_states 201 = .ok (.istore_n 2, 1) := by decide +kernel
theorem dX6_states_202 : decode cX6_states 202 = .ok (.iinc 3 1, 3) := by decide +kernel
theorem dX6_states_205 : decode cX6_states 205 = .ok (.goto (-144), 3) := by decide +kernel
theorem dX6_states_208 : decode cX6_states 208 = .ok (.iload_n 2, 1) := by decide +kernel
theorem dX6_states_209 : decode cX6_states 209 = .ok (.ireturn, 1) := by decide +kernel
theorem dX6_reached_0 : decode cX6_reached 0 = .ok (.iload_n 1, 1) := by decide +kernel
theorem dX6_reached_1 : decode cX6_reached 1 = .ok (.invokestatic 71, 3) := by decide +kernel
theorem dX6_reached_4 : decode cX6_reached 4 = .ok (.ifCond .ne 7, 3) := by decide +kernel
theorem dX6_reached_7 : decode cX6_reached 7 = .ok (.sipush (-1002), 3) := by decide +kernel
theorem dX6_reached_10 : decode cX6_reached 10 = .ok (.ireturn, 1) := by decide +kernel
theorem dX6_reached_11 : decode cX6_reached 11 = .ok (.aload_n 0, 1) := by decide +kernel
theorem dX6_reached_12 : decode cX6_reached 12 = .ok (.invokevirtual 179, 3) := by decide +kernel
theorem dX6_reached_15 : decode cX6_reached 15 = .ok (.iconst 0, 1) := by decide +kernel
theorem dX6_reached_16 : decode cX6_reached 16 = .ok (.istore_n 2, 1) := by decide +kernel
theorem dX6_reached_17 : decode cX6_reached 17 = .ok (.iconst 0, 1) := by decide +kernel
theorem dX6_reached_18 : decode cX6_reached 18 = .ok (.istore_n 3, 1) := by decide +kernel
theorem dX6_reached_19 : decode cX6_reached 19 = .ok (.iload_n 3, 1) := by decide +kernel
theorem dX6_reached_20 : decode cX6_reached 20 = .ok (.sipush 256, 3) := by decide +kernel
theorem dX6_reached_23 : decode cX6_reached 23 = .ok (.if_icmp .ge 32, 3) := by decide +kernel
theorem dX6_reached_26 : decode cX6_reached 26 = .ok (.iload_n 2, 1) := by decide +kernel
theorem dX6_reached_27 : decode cX6_reached 27 = .ok (.aload_n 0, 1) := by decide +kernel
theorem dX6_reached_28 : decode cX6_reached 28 = .ok (.getfield 41, 3) := by decide +kernel
theorem dX6_reached_31 : decode cX6_reached 31 = .ok (.sipush 256, 3) := by decide +kernel
theorem dX6_reached_34 : decode cX6_reached 34 = .ok (.iload_n 1, 1) := by decide +kernel
theorem dX6_reached_35 : decode cX6_reached 35 = .ok (.imul, 1) := by decide +kernel
theorem dX6_reached_36 : decode cX6_reached 36 = .ok (.iload_n 3, 1) := by decide +kernel
theorem dX6_reached_37 : decode cX6_reached 37 = .ok (.iadd, 1) := by decide +kernel
theorem dX6_reached_38 : decode cX6_reached 38 = .ok (.iaload, 1) := by decide +kernel
theorem dX6_reached_39 : decode cX6_reached 39 = .ok (.ifCond .lt 7, 3) := by decide +kernel
theorem dX6_reached_42 : decode cX6_reached 42 = .ok (.iconst 1, 1) := by decide +kernel
theorem dX6_reached_43 : decode cX6_reached 43 = .ok (.goto 4, 3) := by decide +kernel
theorem dX6_reached_46 : decode cX6_reached 46 = .ok (.iconst 0, 1) := by decide +kernel
theorem dX6_reached_47 : decode cX6_reached 47 = .ok (.iadd, 1) := by decide +kernel
theorem dX6_reached_48 : decode cX6_reached 48 = .ok (.istore_n 2, 1) := by decide +kernel
theorem dX6_reached_49 : decode cX6_reached 49 = .ok (.iinc 3 1, 3) := by decide +kernel
theorem dX6_reached_52 : decode cX6_reached 52 = .ok (.goto (-33), 3) := by decide +kernel
theorem dX6_reached_55 : decode cX6_reached 55 = .ok (.iload_n 2, 1) := by decide +kernel
theorem dX6_reached_56 : decode cX6_reached 56 = .ok (.ireturn, 1) := by decide +kernel
theorem dX6_live_0 : decode cX6_live 0 = .ok (.iload_n 1, 1) := by decide +kernel
theorem dX6_live_1 : decode cX6_live 1 = .ok (.invokestatic 71, 3) := by decide +kernel
theorem dX6_live_4 : decode cX6_live 4 = .ok (.ifCond .ne 7, 3) := by decide +kernel
theorem dX6_live_7 : decode cX6_live 7 = .ok (.sipush (-1002), 3) := by decide +kernel
theorem dX6_live_10 : decode cX6_live 10 = .ok (.ireturn, 1) := by decide +kernel
theorem dX6_live_11 : decode cX6_live 11 = .ok (.aload_n 0, 1) := by decide +kernel
theorem dX6_live_12 : decode cX6_live 12 = .ok (.iload_n 1, 1) := by decide +kernel
theorem dX6_live_13 : decode cX6_live 13 = .ok (.invokevirtual 137, 3) := by decide +kernel
theorem dX6_live_16 : decode cX6_live 16 = .ok (.ifCond .ne 11, 3) := by decide +kernel
theorem dX6_live_19 : decode cX6_live 19 = .ok (.aload_n 0, 1) := by decide +kernel
theorem dX6_live_20 : decode cX6_live 20 = .ok (.sipush (-1010), 3) := by decide +kernel
theorem dX6_live_23 : decode cX6_live 23 = .ok (.invokevirtual 140, 3) := by decide +kernel
theorem dX6_live_26 : decode cX6_live 26 = .ok (.ireturn, 1) := by decide +kernel
theorem dX6_live_27 : decode cX6_live 27 = .ok (.aload_n 0, 1) := by decide +kernel
theorem dX6_live_28 : decode cX6_live 28 = .ok (.invokevirtual 184, 3) := by decide +kernel
theorem dX6_live_31 : decode cX6_live 31 = .ok (.aload_n 0, 1) := by decide +kernel
theorem dX6_live_32 : decode cX6_live 32 = .ok (.getfield 50, 3) := by decide +kernel
theorem dX6_live_35 : decode cX6_live 35 = .ok (.iload_n 1, 1) := by decide +kernel
theorem dX6_live_36 : decode cX6_live 36 = .ok (.iaload, 1) := by decide +kernel
theorem dX6_live_37 : decode cX6_live 37 = .ok (.ireturn, 1) := by decide +kernel
theorem dX6_open_0 : decode cX6_open 0 = .ok (.iload_n 1, 1) := by decide +kernel
theorem dX6_open_1 : decode cX6_open 1 = .ok (.iload_n 2, 1) := by decide +kernel
theorem dX6_open_2 : decode cX6_open 2 = .ok (.invokestatic 143, 3) := by decide +kernel
theorem dX6_open_5 : decode cX6_open 5 = .ok (.ifCond .ne 7, 3) := by decide +kernel
theorem dX6_open_8 : decode cX6_open 8 = .ok (.sipush (-1002), 3) := by decide +kernel
theorem dX6_open_11 : decode cX6_open 11 = .ok (.ireturn, 1) := by decide +kernel
theorem dX6_open_12 : decode cX6_open 12 = .ok (.aload_n 0, 1) := by decide +kernel
theorem dX6_open_13 : decode cX6_open 13 = .ok (.iload_n 1, 1) := by decide +kernel
theorem dX6_open_14 : decode cX6_open 14 = .ok (.iload_n 2, 1) := by decide +kernel
theorem dX6_open_15 : decode cX6_open 15 = .ok (.invokevirtual 146, 3) := by decide +kernel
theorem dX6_open_18 : decode cX6_open 18 = .ok (.ifCond .ne 11, 3) := by decide +kernel
theorem dX6_open_21 : decode cX6_open 21 = .ok (.aload_n 0, 1) := by decide +kernel
theorem dX6_open_22 : decode cX6_open 22 = .ok (.sipush (-1010), 3) := by decide +kernel
theorem dX6_open_25 : decode cX6_open 25 = .ok (.invokevirtual 140, 3) := by decide +kernel
theorem dX6_open_28 : decode cX6_open 28 = .ok (.ireturn, 1) := by decide +kernel
theorem dX6_open_29 : decode cX6_open 29 = .ok (.aload_n 0, 1) := by decide +kernel
theorem dX6_open_30 : decode cX6_open 30 = .ok (.invokevirtual 179, 3) := by decide +kernel
theorem dX6_open_33 : decode cX6_open 33 = .ok (.iconst 0, 1) := by decide +kernel
theorem dX6_open_34 : decode cX6_open 34 = .ok (.istore_n 3, 1) := by decide +kernel
theorem dX6_open_35 : decode cX6_open 35 = .ok (.iconst 0, 1) := by decide +kernel
theorem dX6_open_36 : decode cX6_open 36 = .ok (.istore 4, 2) := by decide +kernel
theorem dX6_open_38 : decode cX6_open 38 = .ok (.iload 4, 2) := by decide +kernel
theorem dX6_open_40 : decode cX6_open 40 = .ok (.sipush 256, 3) := by decide +kernel
theorem dX6_open_43 : decode cX6_open 43 = .ok (.if_icmp .ge 50, 3) := by decide +kernel
theorem dX6_open_46 : decode cX6_open 46 = .ok (.iload_n 3, 1) := by decide +kernel
theorem dX6_open_47 : decode cX6_open 47 = .ok (.aload_n 0, 1) := by decide +kernel
theorem dX6_open_48 : decode cX6_open 48 = .ok (.getfield 41, 3) := by decide +kernel
theorem dX6_open_51 : decode cX6_open 51 = .ok (.sipush 256, 3) := by decide +kernel
theorem dX6_open_54 : decode cX6_open 54 = .ok (.iload_n 1, 1) := by decide +kernel
theorem dX6_open_55 : decode cX6_open 55 = .ok (.imul, 1) := by decide +kernel
theorem dX6_open_56 : decode cX6_open 56 = .ok (.iload 4, 2) := by decide +kernel
theorem dX6_open_58 : decode cX6_open 58 = .ok (.iadd, 1) := by decide +kernel
theorem dX6_open_59 : decode cX6_open 59 = .ok (.iaload, 1) := by decide +kernel
theorem dX6_open_60 : decode cX6_open 60 = .ok (.ifCond .lt 24, 3) := by decide +kernel
theorem dX6_open_63 : decode cX6_open 63 = .ok (.aload_n 0, 1) := by decide +kernel
theorem dX6_open_64 : decode cX6_open 64 = .ok (.sipush 256, 3) := by decide +kernel
theorem dX6_open_67 : decode cX6_open 67 = .ok (.iload_n 1, 1) := by decide +kernel
theorem dX6_open_68 : decode cX6_open 68 = .ok (.imul, 1) := by decide +kernel
theorem dX6_open_69 : decode cX6_open 69 = .ok (.iload 4, 2) := by decide +kernel
theorem dX6_open_71 : decode cX6_open 71 = .ok (.iadd, 1) := by decide +kernel
theorem dX6_open_72 : decode cX6_open 72 = .ok (.iload_n 2, 1) := by decide +kernel
theorem dX6_open_73 : decode cX6_open 73 = .ok (.iconst 1, 1) := by decide +kernel
theorem dX6_open_74 : decode cX6_open 74 = .ok (.invokevirtual 168, 3) := by decide +kernel
theorem dX6_open_77 : decode cX6_open 77 = .ok (.ifCond .lt 7, 3) := by decide +kernel
theorem dX6_open_80 : decode cX6_open 80 = .ok (.iconst 1, 1) := by decide +kernel
theorem dX6_open_81 : decode cX6_open 81 = .ok (.goto 4, 3) := by decide +kernel
theorem dX6_open_84 : decode cX6_open 84 = .ok (.iconst 0, 1) := by decide +kernel
theorem dX6_open_85 : decode cX6_open 85 = .ok (.iadd, 1) := by decide +kernel
theorem dX6_open_86 : decode cX6_open 86 = .ok (.istore_n 3, 1) := by decide +kernel
theorem dX6_open_87 : decode cX6_open 87 = .ok (.iinc 4 1, 3) := by decide +kernel
theorem dX6_open_90 : decode cX6_open 90 = .ok (.goto (-52), 3) := by decide +kernel
theorem dX6_open_93 : decode cX6_open 93 = .ok (.iload_n 3, 1) := by decide +kernel
theorem dX6_open_94 : decode cX6_open 94 = .ok (.ireturn, 1) := by decide +kernel
theorem dX6_isTrap_0 : decode cX6_isTrap 0 = .ok (.iconst 0, 1) := by decide +kernel
theorem dX6_isTrap_1 : decode cX6_isTrap 1 = .ok (.istore_n 3, 1) := by decide +kernel
theorem dX6_isTrap_2 : decode cX6_isTrap 2 = .ok (.iconst 0, 1) := by decide +kernel
theorem dX6_isTrap_3 : decode cX6_isTrap 3 = .ok (.istore 4, 2) := by decide +kernel
theorem dX6_isTrap_5 : decode cX6_isTrap 5 = .ok (.iload 4, 2) := by decide +kernel
theorem dX6_isTrap_7 : decode cX6_isTrap 7 = .ok (.sipush 256, 3) := by decide +kernel
theorem dX6_isTrap_10 : decode cX6_isTrap 10 = .ok (.if_icmp .ge 66, 3) := by decide +kernel
theorem dX6_isTrap_13 : decode cX6_isTrap 13 = .ok (.sipush 256, 3) := by decide +kernel
theorem dX6_isTrap_16 : decode cX6_isTrap 16 = .ok (.iload_n 1, 1) := by decide +kernel
theorem dX6_isTrap_17 : decode cX6_isTrap 17 = .ok (.imul, 1) := by decide +kernel
theorem dX6_isTrap_18 : decode cX6_isTrap 18 = .ok (.iload 4, 2) := by decide +kernel
theorem dX6_isTrap_20 : decode cX6_isTrap 20 = .ok (.iadd, 1) := by decide +kernel
theorem dX6_isTrap_21 : decode cX6_isTrap 21 = .ok (.istore 5, 2) := by decide +kernel
theorem dX6_isTrap_23 : decode cX6_isTrap 23 = .ok (.aload_n 0, 1) := by decide +kernel
theorem dX6_isTrap_24 : decode cX6_isTrap 24 = .ok (.getfield 47, 3) := by decide +kernel
theorem dX6_isTrap_27 : decode cX6_isTrap 27 = .ok (.iload 5, 2) := by decide +kernel
theorem dX6_isTrap_29 : decode cX6_isTrap 29 = .ok (.baload, 1) := by decide +kernel
theorem dX6_isTrap_30 : decode cX6_isTrap 30 = .ok (.ifCond .eq 14, 3) := by decide +kernel
theorem dX6_isTrap_33 : decode cX6_isTrap 33 = .ok (.aload_n 0, 1) := by decide +kernel
theorem dX6_isTrap_34 : decode cX6_isTrap 34 = .ok (.iload 5, 2) := by decide +kernel
theorem dX6_isTrap_36 : decode cX6_isTrap 36 = .ok (.iload_n 2, 1) := by decide +kernel
theorem dX6_isTrap_37 : decode cX6_isTrap 37 = .ok (.iconst 1, 1) := by decide +kernel
theorem dX6_isTrap_38 : decode cX6_isTrap 38 = .ok (.invokevirtual 168, 3) := by decide +kernel
theorem dX6_isTrap_41 : decode cX6_isTrap 41 = .ok (.goto 4, 3) := by decide +kernel
theorem dX6_isTrap_44 : decode cX6_isTrap 44 = .ok (.iconst (-1), 1) := by decide +kernel
theorem dX6_isTrap_45 : decode cX6_isTrap 45 = .ok (.istore 6, 2) := by decide +kernel
theorem dX6_isTrap_47 : decode cX6_isTrap 47 = .ok (.iload_n 3, 1) := by decide +kernel
theorem dX6_isTrap_48 : decode cX6_isTrap 48 = .ok (.iload 6, 2) := by decide +kernel
theorem dX6_isTrap_50 : decode cX6_isTrap 50 = .ok (.ifCond .lt 17, 3) := by decide +kernel
theorem dX6_isTrap_53 : decode cX6_isTrap 53 = .ok (.aload_n 0, 1) := by decide +kernel
theorem dX6_isTrap_54 : decode cX6_isTrap 54 = .ok (.getfield 47, 3) := by decide +kernel
theorem dX6_isTrap_57 : decode cX6_isTrap 57 = .ok (.iload 6, 2) := by decide +kernel
theorem dX6_isTrap_59 : decode cX6_isTrap 59 = .ok (.baload, 1) := by decide +kernel
theorem dX6_isTrap_60 : decode cX6_isTrap 60 = .ok (.ifCond .ne 7, 3) := by decide +kernel
theorem dX6_isTrap_63 : decode cX6_isTrap 63 = .ok (.iconst 1, 1) := by decide +kernel
theorem dX6_isTrap_64 : decode cX6_isTrap 64 = .ok (.goto 4, 3) := by decide +kernel
theorem dX6_isTrap_67 : decode cX6_isTrap 67 = .ok (.iconst 0, 1) := by decide +kernel
theorem dX6_isTrap_68 : decode cX6_isTrap 68 = .ok (.ior, 1) := by decide +kernel
theorem dX6_isTrap_69 : decode cX6_isTrap 69 = .ok (.istore_n 3, 1) := by decide +kernel
theorem dX6_isTrap_70 : decode cX6_isTrap 70 = .ok (.iinc 4 1, 3) := by decide +kernel
theorem dX6_isTrap_73 : decode cX6_isTrap 73 = .ok (.goto (-68), 3) := by decide +kernel
theorem dX6_isTrap_76 : decode cX6_isTrap 76 = .ok (.iload_n 3, 1) := by decide +kernel
theorem dX6_isTrap_77 : decode cX6_isTrap 77 = .ok (.ireturn, 1) := by decide +kernel
theorem dX6_trap_0 : decode cX6_trap 0 = .ok (.aload_n 0, 1) := by decide +kernel
theorem dX6_trap_1 : decode cX6_trap 1 = .ok (.invokevirtual 179, 3) := by decide +kernel
theorem dX6_trap_4 : decode cX6_trap 4 = .ok (.aload_n 0, 1) := by decide +kernel
theorem dX6_trap_5 : decode cX6_trap 5 = .ok (.invokevirtual 181, 3) := by decide +kernel
theorem dX6_trap_8 : decode cX6_trap 8 = .ok (.iconst 0, 1) := by decide +kernel
theorem dX6_trap_9 : decode cX6_trap 9 = .ok (.istore_n 2, 1) := by decide +kernel
theorem dX6_trap_10 : decode cX6_trap 10 = .ok (.iconst 0, 1) := by decide +kernel
theorem dX6_trap_11 : decode cX6_trap 11 = .ok (.istore_n 3, 1) := by decide +kernel
theorem dX6_trap_12 : decode cX6_trap 12 = .ok (.iload_n 3, 1) := by decide +kernel
theorem dX6_trap_13 : decode cX6_trap 13 = .ok (.bipush 20, 2) := by decide +kernel
theorem dX6_trap_15 : decode cX6_trap 15 = .ok (.if_icmp .ge 55, 3) := by decide +kernel
theorem dX6_trap_18 : decode cX6_trap 18 = .ok (.iload_n 1, 1) := by decide +kernel
theorem dX6_trap_19 : decode cX6_trap 19 = .ok (.ifCond .lt 51, 3) := by decide +kernel
theorem dX6_trap_22 : decode cX6_trap 22 = .ok (.iconst 0, 1) := by decide +kernel
theorem dX6_trap_23 : decode cX6_trap 23 = .ok (.istore 4, 2) := by decide +kernel
theorem dX6_trap_25 : decode cX6_trap 25 = .ok (.iload 4, 2) := by decide +kernel
theorem dX6_trap_27 : decode cX6_trap 27 = .ok (.bipush 6, 2) := by decide +kernel
theorem dX6_trap_29 : decode cX6_trap 29 = .ok (.if_icmp .ge 35, 3) := by decide +kernel
theorem dX6_trap_32 : decode cX6_trap 32 = .ok (.aload_n 0, 1) := by decide +kernel
theorem dX6_trap_33 : decode cX6_trap 33 = .ok (.iload_n 3, 1) := by decide +kernel
theorem dX6_trap_34 : decode cX6_trap 34 = .ok (.iload 4, 2) := by decide +kernel
theorem dX6_trap_36 : decode cX6_trap 36 = .ok (.invokevirtual 190, 3) := by decide +kernel
theorem dX6_trap_39 : decode cX6_trap 39 = .ok (.ifCond .eq 19, 3) := by decide +kernel
theorem dX6_trap_42 : decode cX6_trap 42 = .ok (.iload_n 2, 1) := by decide +kernel
theorem dX6_trap_43 : decode cX6_trap 43 = .ok (.iload_n 1, 1) := by decide +kernel
theorem dX6_trap_44 : decode cX6_trap 44 = .ok (.if_icmp .ne 11, 3) := by decide +kernel
theorem dX6_trap_47 : decode cX6_trap 47 = .ok (.bipush 10, 2) := by decide +kernel
theorem dX6_trap_49 : decode cX6_trap 49 = .ok (.iload_n 3, 1) := by decide +kernel
theorem dX6_trap_50 : decode cX6_trap 50 = .ok (.imul, 1) := by decide +kernel
theorem dX6_trap_51 : decode cX6_trap 51 = .ok (.iload 4, 2) := by decide +kernel
theorem dX6_trap_53 : decode cX6_trap 53 = .ok (.iadd, 1) := by decide +kernel
theorem dX6_trap_54 : decode cX6_trap 54 = .ok (.ireturn, 1) := by decide +kernel
theorem dX6_trap_55 : decode cX6_trap 55 = .ok (.iinc 2 1, 3) := by decide +kernel
theorem dX6_trap_58 : decode cX6_trap 58 = .ok (.iinc 4 1, 3) := by decide +kernel
theorem dX6_trap_61 : decode cX6_trap 61 = .ok (.goto (-36), 3) := by decide +kernel
theorem dX6_trap_64 : decode cX6_trap 64 = .ok (.iinc 3 1, 3) := by decide +kernel
theorem dX6_trap_67 : decode cX6_trap 67 = .ok (.goto (-55), 3) := by decide +kernel
theorem dX6_trap_70 : decode cX6_trap 70 = .ok (.sipush (-1003), 3) := by decide +kernel
theorem dX6_trap_73 : decode cX6_trap 73 = .ok (.ireturn, 1) := by decide +kernel
theorem dX6_nearest_0 : decode cX6_nearest 0 = .ok (.iconst (-1), 1) := by decide +kernel
theorem dX6_nearest_1 : decode cX6_nearest 1 = .ok (.istore_n 2, 1) := by decide +kernel
theorem dX6_nearest_2 : decode cX6_nearest 2 = .ok (.iconst 0, 1) := by decide +kernel
theorem dX6_nearest_3 : decode cX6_nearest 3 = .ok (.istore_n 3, 1) := by decide +kernel
theorem dX6_nearest_4 : decode cX6_nearest 4 = .ok (.iload_n 3, 1) := by decide +kernel
theorem dX6_nearest_5 : decode cX6_nearest 5 = .ok (.sipush 256, 3) := by decide +kernel
theorem dX6_nearest_8 : decode cX6_nearest 8 = .ok (.if_icmp .ge 45, 3) := by decide +kernel
theorem dX6_nearest_11 : decode cX6_nearest 11 = .ok (.aload_n 0, 1) := by decide +kernel
theorem dX6_nearest_12 : decode cX6_nearest 12 = .ok (.getfield 41, 3) := by decide +kernel
theorem dX6_nearest_15 : decode cX6_nearest 15 = .ok (.sipush 256, 3) := by decide +kernel
theorem dX6_nearest_18 : decode cX6_nearest 18 = .ok (.iload_n 1, 1) := by decide +kernel
theorem dX6_nearest_19 : decode cX6_nearest 19 = .ok (.imul, 1) := by decide +kernel
theorem dX6_nearest_20 : decode cX6_nearest 20 = .ok (.iload_n 3, 1) := by decide +kernel
theorem dX6_nearest_21 : decode cX6_nearest 21 = .ok (.iadd, 1) := by decide +kernel
theorem dX6_nearest_22 : decode cX6_nearest 22 = .ok (.iaload, 1) := by decide +kernel
theorem dX6_nearest_23 : decode cX6_nearest 23 = .ok (.istore 4, 2) := by decide +kernel
theorem dX6_nearest_25 : decode cX6_nearest 25 = .ok (.iload 4, 2) := by decide +kernel
theorem dX6_nearest_27 : decode cX6_nearest 27 = .ok (.ifCond .lt 18, 3) := by decide +kernel
theorem dX6_nearest_30 : decode cX6_nearest 30 = .ok (.iload_n 2, 1) := by decide +kernel
theorem dX6_nearest_31 : decode cX6_nearest 31 = .ok (.ifCond .lt 9, 3) := by decide +kernel
theorem dX6_nearest_34 : decode cX6_nearest 34 = .ok (.iload 4, 2) := by decide +kernel
theorem dX6_nearest_36 : decode cX6_nearest 36 = .ok (.iload_n 2, 1) := by decide +kernel
theorem dX6_nearest_37 : decode cX6_nearest 37 = .ok (.if_icmp .ge 8, 3) := by decide +kernel
theorem dX6_nearest_40 : decode cX6_nearest 40 = .ok (.iload 4, 2) := by decide +kernel
theorem dX6_nearest_42 : decode cX6_nearest 42 = .ok (.goto 4, 3) := by decide +kernel
theorem dX6_nearest_45 : decode cX6_nearest 45 = .ok (.iload_n 2, 1) := by decide +kernel
theorem dX6_nearest_46 : decode cX6_nearest 46 = .ok (.istore_n 2, 1) := by decide +kernel
theorem dX6_nearest_47 : decode cX6_nearest 47 = .ok (.iinc 3 1, 3) := by decide +kernel
theorem dX6_nearest_50 : decode cX6_nearest 50 = .ok (.goto (-46), 3) := by decide +kernel
theorem dX6_nearest_53 : decode cX6_nearest 53 = .ok (.iload_n 2, 1) := by decide +kernel
theorem dX6_nearest_54 : decode cX6_nearest 54 = .ok (.ireturn, 1) := by decide +kernel
theorem dX6_way_0 : decode cX6_way 0 = .ok (.iload_n 1, 1) := by decide +kernel
theorem dX6_way_1 : decode cX6_way 1 = .ok (.invokestatic 71, 3) := by decide +kernel
theorem dX6_way_4 : decode cX6_way 4 = .ok (.ifCond .ne 7, 3) := by decide +kernel
theorem dX6_way_7 : decode cX6_way 7 = .ok (.sipush (-1002), 3) := by decide +kernel
theorem dX6_way_10 : decode cX6_way 10 = .ok (.ireturn, 1) := by decide +kernel
theorem dX6_way_11 : decode cX6_way 11 = .ok (.aload_n 0, 1) := by decide +kernel
theorem dX6_way_12 : decode cX6_way 12 = .ok (.invokevirtual 179, 3) := by decide +kernel
theorem dX6_way_15 : decode cX6_way 15 = .ok (.aload_n 0, 1) := by decide +kernel
theorem dX6_way_16 : decode cX6_way 16 = .ok (.iload_n 1, 1) := by decide +kernel
theorem dX6_way_17 : decode cX6_way 17 = .ok (.invokevirtual 193, 3) := by decide +kernel
theorem dX6_way_20 : decode cX6_way 20 = .ok (.istore_n 2, 1) := by decide +kernel
theorem dX6_way_21 : decode cX6_way 21 = .ok (.iload_n 2, 1) := by decide +kernel
theorem dX6_way_22 : decode cX6_way 22 = .ok (.ifCond .ge 9, 3) := by decide +kernel
theorem dX6_way_25 : decode cX6_way 25 = .ok (.sipush (-1003), 3) := by decide +kernel
theorem dX6_way_28 : decode cX6_way 28 = .ok (.goto 4, 3) := by decide +kernel
theorem dX6_way_31 : decode cX6_way 31 = .ok (.iload_n 2, 1) := by decide +kernel
theorem dX6_way_32 : decode cX6_way 32 = .ok (.ireturn, 1) := by decide +kernel
theorem dX6_step_0 : decode cX6_step 0 = .ok (.iload_n 1, 1) := by decide +kernel
theorem dX6_step_1 : decode cX6_step 1 = .ok (.invokestatic 71, 3) := by decide +kernel
theorem dX6_step_4 : decode cX6_step 4 = .ok (.ifCond .eq 7, 3) := by decide +kernel
theorem dX6_step_7 : decode cX6_step 7 = .ok (.iload_n 2, 1) := by decide +kernel
theorem dX6_step_8 : decode cX6_step 8 = .ok (.ifCond .ge 7, 3) := by decide +kernel
theorem dX6_step_11 : decode cX6_step 11 = .ok (.sipush (-1002), 3) := by decide +kernel
theorem dX6_step_14 : decode cX6_step 14 = .ok (.ireturn, 1) := by decide +kernel
theorem dX6_step_15 : decode cX6_step 15 = .ok (.aload_n 0, 1) := by decide +kernel
theorem dX6_step_16 : decode cX6_step 16 = .ok (.invokevirtual 179, 3) := by decide +kernel
theorem dX6_step_19 : decode cX6_step 19 = .ok (.aload_n 0, 1) := by decide +kernel
theorem dX6_step_20 : decode cX6_step 20 = .ok (.iload_n 1, 1) := by decide +kernel
theorem dX6_step_21 : decode cX6_step 21 = .ok (.invokevirtual 193, 3) := by decide +kernel
theorem dX6_step_24 : decode cX6_step 24 = .ok (.istore_n 3, 1) := by decide +kernel
theorem dX6_step_25 : decode cX6_step 25 = .ok (.iload_n 3, 1) := by decide +kernel
theorem dX6_step_26 : decode cX6_step 26 = .ok (.ifCond .ge 7, 3) := by decide +kernel
theorem dX6_step_29 : decode cX6_step 29 = .ok (.sipush (-1003), 3) := by decide +kernel
theorem dX6_step_32 : decode cX6_step 32 = .ok (.ireturn, 1) := by decide +kernel
theorem dX6_step_33 : decode cX6_step 33 = .ok (.iload_n 2, 1) := by decide +kernel
theorem dX6_step_34 : decode cX6_step 34 = .ok (.iload_n 3, 1) := by decide +kernel
theorem dX6_step_35 : decode cX6_step 35 = .ok (.if_icmp .lt 5, 3) := by decide +kernel
theorem dX6_step_38 : decode cX6_step 38 = .ok (.iconst (-1), 1) := by decide +kernel
theorem dX6_step_39 : decode cX6_step 39 = .ok (.ireturn, 1) := by decide +kernel
theorem dX6_step_40 : decode cX6_step 40 = .ok (.iconst 0, 1) := by decide +kernel
theorem dX6_step_41 : decode cX6_step 41 = .ok (.istore 4, 2) := by decide +kernel
theorem dX6_step_43 : decode cX6_step 43 = .ok (.iload 4, 2) := by decide +kernel
theorem dX6_step_45 : decode cX6_step 45 = .ok (.sipush 5120, 3) := by decide +kernel
theorem dX6_step_48 : decode cX6_step 48 = .ok (.if_icmp .ge 42, 3) := by decide +kernel
theorem dX6_step_51 : decode cX6_step 51 = .ok (.aload_n 0, 1) := by decide +kernel
theorem dX6_step_52 : decode cX6_step 52 = .ok (.getfield 53, 3) := by decide +kernel
theorem dX6_step_55 : decode cX6_step 55 = .ok (.iload 4, 2) := by decide +kernel
theorem dX6_step_57 : decode cX6_step 57 = .ok (.iload 4, 2) := by decide +kernel
theorem dX6_step_59 : decode cX6_step 59 = .ok (.sipush 256, 3) := by decide +kernel
theorem dX6_step_62 : decode cX6_step 62 = .ok (.idiv, 1) := by decide +kernel
theorem dX6_step_63 : decode cX6_step 63 = .ok (.iload_n 1, 1) := by decide +kernel
theorem dX6_step_64 : decode cX6_step 64 = .ok (.if_icmp .ne 18, 3) := by decide +kernel
theorem dX6_step_67 : decode cX6_step 67 = .ok (.aload_n 0, 1) := by decide +kernel
theorem dX6_step_68 : decode cX6_step 68 = .ok (.getfield 41, 3) := by decide +kernel
theorem dX6_step_71 : decode cX6_step 71 = .ok (.iload 4, 2) := by decide +kernel
theorem dX6_step_73 : decode cX6_step 73 = .ok (.iaload, 1) := by decide +kernel
theorem dX6_step_74 : decode cX6_step 74 = .ok (.iload_n 3, 1) := by decide +kernel
theorem dX6_step_75 : decode cX6_step 75 = .ok (.if_icmp .ne 7, 3) := by decide +kernel
theorem dX6_step_78 : decode cX6_step 78 = .ok (.iconst 1, 1) := by decide +kernel
theorem dX6_step_79 : decode cX6_step 79 = .ok (.goto 4, 3) := by decide +kernel
theorem dX6_step_82 : decode cX6_step 82 = .ok (.iconst 0, 1) := by decide +kernel
theorem dX6_step_83 : decode cX6_step 83 = .ok (.bastore, 1) := by decide +kernel
theorem dX6_step_84 : decode cX6_step 84 = .ok (.iinc 4 1, 3) := by decide +kernel
theorem dX6_step_87 : decode cX6_step 87 = .ok (.goto (-44), 3) := by decide +kernel
theorem dX6_step_90 : decode cX6_step 90 = .ok (.iload_n 3, 1) := by decide +kernel
theorem dX6_step_91 : decode cX6_step 91 = .ok (.iconst 1, 1) := by decide +kernel
theorem dX6_step_92 : decode cX6_step 92 = .ok (.isub, 1) := by decide +kernel
theorem dX6_step_93 : decode cX6_step 93 = .ok (.istore 4, 2) := by decide +kernel
theorem dX6_step_95 : decode cX6_step 95 = .ok (.iload 4, 2) := by decide +kernel
theorem dX6_step_97 : decode cX6_step 97 = .ok (.ifCond .lt 125, 3) := by decide +kernel
theorem dX6_step_100 : decode cX6_step 100 = .ok (.iconst 0, 1) := by decide +kernel
theorem dX6_step_101 : decode cX6_step 101 = .ok (.istore 5, 2) := by decide +kernel
theorem dX6_step_103 : decode cX6_step 103 = .ok (.iload 5, 2) := by decide +kernel
theorem dX6_step_105 : decode cX6_step 105 = .ok (.aload_n 0, 1) := by decide +kernel
theorem dX6_step_106 : decode cX6_step 106 = .ok (.getfield 165, 3) := by decide +kernel
theorem dX6_step_109 : decode cX6_step 109 = .ok (.if_icmp .ge 107, 3) := by decide +kernel
theorem dX6_step_112 : decode cX6_step 112 = .ok (.iconst 0, 1) := by decide +kernel
theorem dX6_step_113 : decode cX6_step 113 = .ok (.istore 6, 2) := by decide +kernel
theorem dX6_step_115 : decode cX6_step 115 = .ok (.iload 6, 2) := by decide +kernel
theorem dX6_step_117 : decode cX6_step 117 = .ok (.bipush 6, 2) := by decide +kernel
theorem dX6_step_119 : decode cX6_step 119 = .ok (.if_icmp .ge 91, 3) := by decide +kernel
theorem dX6_step_122 : decode cX6_step 122 = .ok (.aload_n 0, 1) := by decide +kernel
theorem dX6_step_123 : decode cX6_step 123 = .ok (.getfield 41, 3) := by decide +kernel
theorem dX6_step_126 : decode cX6_step 126 = .ok (.aload_n 0, 1) := by decide +kernel
theorem dX6_step_127 : decode cX6_step 127 = .ok (.getfield 44, 3) := by decide +kernel
theorem dX6_step_130 : decode cX6_step 130 = .ok (.iload 5, 2) := by decide +kernel
theorem dX6_step_132 : decode cX6_step 132 = .ok (.iaload, 1) := by decide +kernel
theorem dX6_step_133 : decode cX6_step 133 = .ok (.iaload, 1) := by decide +kernel
theorem dX6_step_134 : decode cX6_step 134 = .ok (.iload 4, 2) := by decide +kernel
theorem dX6_step_136 : decode cX6_step 136 = .ok (.if_icmp .ne 74, 3) := by decide +kernel
theorem dX6_step_139 : decode cX6_step 139 = .ok (.aload_n 0, 1) := by decide +kernel
theorem dX6_step_140 : decode cX6_step 140 = .ok (.aload_n 0, 1) := by decide +kernel
theorem dX6_step_141 : decode cX6_step 141 = .ok (.getfield 44, 3) := by decide +kernel
theorem dX6_step_144 : decode cX6_step 144 = .ok (.iload 5, 2) := by decide +kernel
theorem dX6_step_146 : decode cX6_step 146 = .ok (.iaload, 1) := by decide +kernel
theorem dX6_step_147 : decode cX6_step 147 = .ok (.iload 6, 2) := by decide +kernel
theorem dX6_step_149 : decode cX6_step 149 = .ok (.iconst 1, 1) := by decide +kernel
theorem dX6_step_150 : decode cX6_step 150 = .ok (.invokevirtual 168, 3) := by decide +kernel
theorem dX6_step_153 : decode cX6_step 153 = .ok (.istore 7, 2) := by decide +kernel
theorem dX6_step_155 : decode cX6_step 155 = .ok (.aload_n 0, 1) := by decide +kernel
theorem dX6_step_156 : decode cX6_step 156 = .ok (.getfield 53, 3) := by decide +kernel
theorem dX6_step_159 : decode cX6_step 159 = .ok (.aload_n 0, 1) := by decide +kernel
theorem dX6_step_160 : decode cX6_step 160 = .ok (.getfield 44, 3) := by decide +kernel
theorem dX6_step_163 : decode cX6_step 163 = .ok (.iload 5, 2) := by decide +kernel
theorem dX6_step_165 : decode cX6_step 165 = .ok (.iaload, 1) := by decide +kernel
theorem dX6_step_166 : decode cX6_step 166 = .ok (.dup2, 1) := by decide +kernel
theorem dX6_step_167 : decode cX6_step 167 = .ok (.baload, 1) := by decide +kernel
theorem dX6_step_168 : decode cX6_step 168 = .ok (.iload 7, 2) := by decide +kernel
theorem dX6_step_170 : decode cX6_step 170 = .ok (.ifCond .lt 31, 3) := by decide +kernel
theorem dX6_step_173 : decode cX6_step 173 = .ok (.aload_n 0, 1) := by decide +kernel
theorem dX6_step_174 : decode cX6_step 174 = .ok (.getfield 41, 3) := by decide +kernel
theorem dX6_step_177 : decode cX6_step 177 = .ok (.iload 7, 2) := by decide +kernel
theorem dX6_step_179 : decode cX6_step 179 = .ok (.iaload, 1) := by decide +kernel
theorem dX6_step_180 : decode cX6_step 180 = .ok (.iload 4, 2) := by decide +kernel
theorem dX6_step_182 : decode cX6_step 182 = .ok (.iconst 1, 1) := by decide +kernel
theorem dX6_step_183 : decode cX6_step 183 = .ok (.iadd, 1) := by decide +kernel
theorem dX6_step_184 : decode cX6_step 184 = .ok (.if_icmp .ne 17, 3) := by decide +kernel
theorem dX6_step_187 : decode cX6_step 187 = .ok (.aload_n 0, 1) := by decide +kernel
theorem dX6_step_188 : decode cX6_step 188 = .ok (.getfield 53, 3) := by decide +kernel
theorem dX6_step_191 : decode cX6_step 191 = .ok (.iload 7, 2) := by decide +kernel
theorem dX6_step_193 : decode cX6_step 193 = .ok (.baload, 1) := by decide +kernel
theorem dX6_step_194 : decode cX6_step 194 = .ok (.ifCond .eq 7, 3) := by decide +kernel
theorem dX6_step_197 : decode cX6_step 197 = .ok (.iconst 1, 1) := by decide +kernel
theorem dX6_step_198 : decode cX6_step 198 = .ok (.goto 4, 3) := by decide +kernel
theorem dX6_step_201 : decode cX6_step 201 = .ok (.iconst 0, 1) := by decide +kernel
theorem dX6_step_202 : decode cX6_step 202 = .ok (.ior, 1) := by decide +kernel
theorem dX6_step_203 : decode cX6_step 203 = .ok (.bastore, 1) := by decide +kernel
theorem dX6_step_204 : decode cX6_step 204 = .ok (.iinc 6 1, 3) := by decide +kernel
theorem dX6_step_207 : decode cX6_step 207 = .ok (.goto (-92), 3) := by decide +kernel
theorem dX6_step_210 : decode cX6_step 210 = .ok (.iinc 5 1, 3) := by decide +kernel
theorem dX6_step_213 : decode cX6_step 213 = .ok (.goto (-110), 3) := by decide +kernel
theorem dX6_step_216 : decode cX6_step 216 = .ok (.iinc 4 (-1), 3) := by decide +kernel
theorem dX6_step_219 : decode cX6_step 219 = .ok (.goto (-124), 3) := by decide +kernel
theorem dX6_step_222 : decode cX6_step 222 = .ok (.aload_n 0, 1) := by decide +kernel
theorem dX6_step_223 : decode cX6_step 223 = .ok (.getfield 7, 3) := by decide +kernel
theorem dX6_step_226 : decode cX6_step 226 = .ok (.sipush 1880, 3) := by decide +kernel
theorem dX6_step_229 : decode cX6_step 229 = .ok (.iaload, 1) := by decide +kernel
theorem dX6_step_230 : decode cX6_step 230 = .ok (.istore 4, 2) := by decide +kernel
theorem dX6_step_232 : decode cX6_step 232 = .ok (.iconst 0, 1) := by decide +kernel
theorem dX6_step_233 : decode cX6_step 233 = .ok (.istore 5, 2) := by decide +kernel
theorem dX6_step_235 : decode cX6_step 235 = .ok (.iconst 0, 1) := by decide +kernel
theorem dX6_step_236 : decode cX6_step 236 = .ok (.istore 6, 2) := by decide +kernel
theorem dX6_step_238 : decode cX6_step 238 = .ok (.iload 6, 2) := by decide +kernel
theorem dX6_step_240 : decode cX6_step 240 = .ok (.iload_n 2, 1) := by decide +kernel
theorem dX6_step_241 : decode cX6_step 241 = .ok (.if_icmp .gt 44, 3) := by decide +kernel
theorem dX6_step_244 : decode cX6_step 244 = .ok (.iconst 0, 1) := by decide +kernel
theorem dX6_step_245 : decode cX6_step 245 = .ok (.istore 5, 2) := by decide +kernel
theorem dX6_step_247 : decode cX6_step 247 = .ok (.aload_n 0, 1) := by decide +kernel
theorem dX6_step_248 : decode cX6_step 248 = .ok (.iload 4, 2) := by decide +kernel
theorem dX6_step_250 : decode cX6_step 250 = .ok (.iload 5, 2) := by decide +kernel
theorem dX6_step_252 : decode cX6_step 252 = .ok (.iload 6, 2) := by decide +kernel
theorem dX6_step_254 : decode cX6_step 254 = .ok (.iconst 1, 1) := by decide +kernel
theorem dX6_step_255 : decode cX6_step 255 = .ok (.iadd, 1) := by decide +kernel
theorem dX6_step_256 : decode cX6_step 256 = .ok (.invokevirtual 196, 3) := by decide +kernel
theorem dX6_step_259 : decode cX6_step 259 = .ok (.ifCond .ne 9, 3) := by decide +kernel
theorem dX6_step_262 : decode cX6_step 262 = .ok (.iinc 5 1, 3) := by decide +kernel
theorem dX6_step_265 : decode cX6_step 265 = .ok (.goto (-18), 3) := by decide +kernel
theorem dX6_step_268 : decode cX6_step 268 = .ok (.aload_n 0, 1) := by decide +kernel
theorem dX6_step_269 : decode cX6_step 269 = .ok (.iload 4, 2) := by decide +kernel
theorem dX6_step_271 : decode cX6_step 271 = .ok (.iload 5, 2) := by decide +kernel
theorem dX6_step_273 : decode cX6_step 273 = .ok (.iconst 1, 1) := by decide +kernel
theorem dX6_step_274 : decode cX6_step 274 = .ok (.invokevirtual 168, 3) := by decide +kernel
theorem dX6_step_277 : decode cX6_step 277 = .ok (.istore 4, 2) := by decide +kernel
theorem dX6_step_279 : decode cX6_step 279 = .ok (.iinc 6 1, 3) := by decide +kernel
theorem dX6_step_282 : decode cX6_step 282 = .ok (.goto (-44), 3) := by decide +kernel
theorem dX6_step_285 : decode cX6_step 285 = .ok (.iload 5, 2) := by decide +kernel
theorem dX6_step_287 : decode cX6_step 287 = .ok (.ireturn, 1) := by decide +kernel
theorem dX6_goesOn_0 : decode cX6_goesOn 0 = .ok (.aload_n 0, 1) := by decide +kernel
theorem dX6_goesOn_1 : decode cX6_goesOn 1 = .ok (.iload_n 1, 1) := by decide +kernel
theorem dX6_goesOn_2 : decode cX6_goesOn 2 = .ok (.iload_n 2, 1) := by decide +kernel
theorem dX6_goesOn_3 : decode cX6_goesOn 3 = .ok (.iconst 1, 1) := by decide +kernel
theorem dX6_goesOn_4 : decode cX6_goesOn 4 = .ok (.invokevirtual 168, 3) := by decide +kernel
theorem dX6_goesOn_7 : decode cX6_goesOn 7 = .ok (.istore 4, 2) := by decide +kernel
theorem dX6_goesOn_9 : decode cX6_goesOn 9 = .ok (.iload 4, 2) := by decide +kernel
theorem dX6_goesOn_11 : decode cX6_goesOn 11 = .ok (.ifCond .lt 28, 3) := by decide +kernel
theorem dX6_goesOn_14 : decode cX6_goesOn 14 = .ok (.aload_n 0, 1) := by decide +kernel
theorem dX6_goesOn_15 : decode cX6_goesOn 15 = .ok (.getfield 41, 3) := by decide +kernel
theorem dX6_goesOn_18 : decode cX6_goesOn 18 = .ok (.iload 4, 2) := by decide +kernel
theorem dX6_goesOn_20 : decode cX6_goesOn 20 = .ok (.iaload, 1) := by decide +kernel
theorem dX6_goesOn_21 : decode cX6_goesOn 21 = .ok (.iload_n 3, 1) := by decide +kernel
theorem dX6_goesOn_22 : decode cX6_goesOn 22 = .ok (.if_icmp .ne 17, 3) := by decide +kernel
theorem dX6_goesOn_25 : decode cX6_goesOn 25 = .ok (.aload_n 0, 1) := by decide +kernel
theorem dX6_goesOn_26 : decode cX6_goesOn 26 = .ok (.getfield 53, 3) := by decide +kernel
theorem dX6_goesOn_29 : decode cX6_goesOn 29 = .ok (.iload 4, 2) := by decide +kernel
theorem dX6_goesOn_31 : decode cX6_goesOn 31 = .ok (.baload, 1) := by decide +kernel
theorem dX6_goesOn_32 : decode cX6_goesOn 32 = .ok (.ifCond .eq 7, 3) := by decide +kernel
theorem dX6_goesOn_35 : decode cX6_goesOn 35 = .ok (.iconst 1, 1) := by decide +kernel
theorem dX6_goesOn_36 : decode cX6_goesOn 36 = .ok (.goto 4, 3) := by decide +kernel
theorem dX6_goesOn_39 : decode cX6_goesOn 39 = .ok (.iconst 0, 1) := by decide +kernel
theorem dX6_goesOn_40 : decode cX6_goesOn 40 = .ok (.ireturn, 1) := by decide +kernel
theorem dX6_ways_0 : decode cX6_ways 0 = .ok (.iload_n 1, 1) := by decide +kernel
theorem dX6_ways_1 : decode cX6_ways 1 = .ok (.iconst 0, 1) := by decide +kernel
theorem dX6_ways_2 : decode cX6_ways 2 = .ok (.bipush 20, 2) := by decide +kernel
theorem dX6_ways_4 : decode cX6_ways 4 = .ok (.invokestatic 67, 3) := by decide +kernel
theorem dX6_ways_7 : decode cX6_ways 7 = .ok (.ifCond .ne 7, 3) := by decide +kernel
theorem dX6_ways_10 : decode cX6_ways 10 = .ok (.ldc2_w 199, 3) := by decide +kernel
theorem dX6_ways_13 : decode cX6_ways 13 = .ok (.lreturn, 1) := by decide +kernel
theorem dX6_ways_14 : decode cX6_ways 14 = .ok (.aload_n 0, 1) := by decide +kernel
theorem dX6_ways_15 : decode cX6_ways 15 = .ok (.invokevirtual 179, 3) := by decide +kernel
theorem dX6_ways_18 : decode cX6_ways 18 = .ok (.iconst 0, 1) := by decide +kernel
theorem dX6_ways_19 : decode cX6_ways 19 = .ok (.istore_n 2, 1) := by decide +kernel
theorem dX6_ways_20 : decode cX6_ways 20 = .ok (.iload_n 2, 1) := by decide +kernel
theorem dX6_ways_21 : decode cX6_ways 21 = .ok (.sipush 5120, 3) := by decide +kernel
theorem dX6_ways_24 : decode cX6_ways 24 = .ok (.if_icmp .ge 39, 3) := by decide +kernel
theorem dX6_ways_27 : decode cX6_ways 27 = .ok (.aload_n 0, 1) := by decide +kernel
theorem dX6_ways_28 : decode cX6_ways 28 = .ok (.getfield 56, 3) := by decide +kernel
theorem dX6_ways_31 : decode cX6_ways 31 = .ok (.iload_n 2, 1) := by decide +kernel
theorem dX6_ways_32 : decode cX6_ways 32 = .ok (.aload_n 0, 1) := by decide +kernel
theorem dX6_ways_33 : decode cX6_ways 33 = .ok (.getfield 165, 3) := by decide +kernel
theorem dX6_ways_36 : decode cX6_ways 36 = .ok (.ifCond .le 19, 3) := by decide +kernel
theorem dX6_ways_39 : decode cX6_ways 39 = .ok (.iload_n 2, 1) := by decide +kernel
theorem dX6_ways_40 : decode cX6_ways 40 = .ok (.aload_n 0, 1) := by decide +kernel
theorem dX6_ways_41 : decode cX6_ways 41 = .ok (.getfield 7, 3) := by decide +kernel
theorem dX6_ways_44 : decode cX6_ways 44 = .ok (.sipush 1880, 3) := by decide +kernel
theorem dX6_ways_47 : decode cX6_ways 47 = .ok (.iaload, 1) := by decide +kernel
theorem dX6_ways_48 : decode cX6_ways 48 = .ok (.if_icmp .ne 7, 3) := by decide +kernel
theorem dX6_ways_51 : decode cX6_ways 51 = .ok (.lconst 1, 1) := by decide +kernel
theorem dX6_ways_52 : decode cX6_ways 52 = .ok (.goto 4, 3) := by decide +kernel
theorem dX6_ways_55 : decode cX6_ways 55 = .ok (.lconst 0, 1) := by decide +kernel
theorem dX6_ways_56 : decode cX6_ways 56 = .ok (.lastore, 1) := by decide +kernel
theorem dX6_ways_57 : decode cX6_ways 57 = .ok (.iinc 2 1, 3) := by decide +kernel
theorem dX6_ways_60 : decode cX6_ways 60 = .ok (.goto (-40), 3) := by decide +kernel
theorem dX6_ways_63 : decode cX6_ways 63 = .ok (.iconst 0, 1) := by decide +kernel
theorem dX6_ways_64 : decode cX6_ways 64 = .ok (.istore_n 2, 1) := by decide +kernel
theorem dX6_ways_65 : decode cX6_ways 65 = .ok (.iload_n 2, 1) := by decide +kernel
theorem dX6_ways_66 : decode cX6_ways 66 = .ok (.iload_n 1, 1) := by decide +kernel
theorem dX6_ways_67 : decode cX6_ways 67 = .ok (.if_icmp .ge 147, 3) := by decide +kernel
theorem dX6_ways_70 : decode cX6_ways 70 = .ok (.iconst 0, 1) := by decide +kernel
theorem dX6_ways_71 : decode cX6_ways 71 = .ok (.istore_n 3, 1) := by decide +kernel
theorem dX6_ways_72 : decode cX6_ways 72 = .ok (.iload_n 3, 1) := by decide +kernel
theorem dX6_ways_73 : decode cX6_ways 73 = .ok (.sipush 5120, 3) := by decide +kernel
theorem dX6_ways_76 : decode cX6_ways 76 = .ok (.if_icmp .ge 16, 3) := by decide +kernel
theorem dX6_ways_79 : decode cX6_ways 79 = .ok (.aload_n 0, 1) := by decide +kernel
theorem dX6_ways_80 : decode cX6_ways 80 = .ok (.getfield 60, 3) := by decide +kernel
theorem dX6_ways_83 : decode cX6_ways 83 = .ok (.iload_n 3, 1) := by decide +kernel
theorem dX6_ways_84 : decode cX6_ways 84 = .ok (.lconst 0, 1) := by decide +kernel
theorem dX6_ways_85 : decode cX6_ways 85 = .ok (.lastore, 1) := by decide +kernel
theorem dX6_ways_86 : decode cX6_ways 86 = .ok (.iinc 3 1, 3) := by decide +kernel
theorem dX6_ways_89 : decode cX6_ways 89 = .ok (.goto (-17), 3) := by decide +kernel
theorem dX6_ways_92 : decode cX6_ways 92 = .ok (.iconst 0, 1) := by decide +kernel
theorem dX6_ways_93 : decode cX6_ways 93 = .ok (.istore_n 3, 1) := by decide +kernel
theorem dX6_ways_94 : decode cX6_ways 94 = .ok (.iload_n 3, 1) := by decide +kernel
theorem dX6_ways_95 : decode cX6_ways 95 = .ok (.aload_n 0, 1) := by decide +kernel
theorem dX6_ways_96 : decode cX6_ways 96 = .ok (.getfield 165, 3) := by decide +kernel
theorem dX6_ways_99 : decode cX6_ways 99 = .ok (.if_icmp .ge 82, 3) := by decide +kernel
theorem dX6_ways_102 : decode cX6_ways 102 = .ok (.iconst 0, 1) := by decide +kernel
theorem dX6_ways_103 : decode cX6_ways 103 = .ok (.istore 4, 2) := by decide +kernel
theorem dX6_ways_105 : decode cX6_ways 105 = .ok (.iload 4, 2) := by decide +kernel
theorem dX6_ways_107 : decode cX6_ways 107 = .ok (.bipush 6, 2) := by decide +kernel
theorem dX6_ways_109 : decode cX6_ways 109 = .ok (.if_icmp .ge 66, 3) := by decide +kernel
theorem dX6_ways_112 : decode cX6_ways 112 = .ok (.aload_n 0, 1) := by decide +kernel
theorem dX6_ways_113 : decode cX6_ways 113 = .ok (.getfield 56, 3) := by decide +kernel
theorem dX6_ways_116 : decode cX6_ways 116 = .ok (.aload_n 0, 1) := by decide +kernel
theorem dX6_ways_117 : decode cX6_ways 117 = .ok (.getfield 44, 3) := by decide +kernel
theorem dX6_ways_120 : decode cX6_ways 120 = .ok (.iload_n 3, 1) := by decide +kernel
theorem dX6_ways_121 : decode cX6_ways 121 = .ok (.iaload, 1) := by decide +kernel
theorem dX6_ways_122 : decode cX6_ways 122 = .ok (.laload, 1) := by decide +kernel
theorem dX6_ways_123 : decode cX6_ways 123 = .ok (.lconst 0, 1) := by decide +kernel
theorem dX6_ways_124 : decode cX6_ways 124 = .ok (.lcmp, 1) := by decide +kernel
theorem dX6_ways_125 : decode cX6_ways 125 = .ok (.ifCond .le 50, 3) := by decide +kernel
theorem dX6_ways_128 : decode cX6_ways 128 = .ok (.aload_n 0, 1) := by decide +kernel
theorem dX6_ways_129 : decode cX6_ways 129 = .ok (.aload_n 0, 1) := by decide +kernel
theorem dX6_ways_130 : decode cX6_ways 130 = .ok (.getfield 44, 3) := by decide +kernel
theorem dX6_ways_133 : decode cX6_ways 133 = .ok (.iload_n 3, 1) := by decide +kernel
theorem dX6_ways_134 : decode cX6_ways 134 = .ok (.iaload, 1) := by decide +kernel
theorem dX6_ways_135 : decode cX6_ways 135 = .ok (.iload 4, 2) := by decide +kernel
theorem dX6_ways_137 : decode cX6_ways 137 = .ok (.iconst 1, 1) := by decide +kernel
theorem dX6_ways_138 : decode cX6_ways 138 = .ok (.invokevirtual 168, 3) := by decide +kernel
theorem dX6_ways_141 : decode cX6_ways 141 = .ok (.istore 5, 2) := by decide +kernel
theorem dX6_ways_143 : decode cX6_ways 143 = .ok (.iload 5, 2) := by decide +kernel
theorem dX6_ways_145 : decode cX6_ways 145 = .ok (.ifCond .lt 24, 3) := by decide +kernel
theorem dX6_ways_148 : decode cX6_ways 148 = .ok (.aload_n 0, 1) := by decide +kernel
theorem dX6_ways_149 : decode cX6_ways 149 = .ok (.getfield 60, 3) := by decide +kernel
theorem dX6_ways_152 : decode cX6_ways 152 = .ok (.iload 5, 2) := by decide +kernel
theorem dX6_ways_154 : decode cX6_ways 154 = .ok (.dup2, 1) := by decide +kernel
theorem dX6_ways_155 : decode cX6_ways 155 = .ok (.laload, 1) := by decide +kernel
theorem dX6_ways_156 : decode cX6_ways 156 = .ok (.aload_n 0, 1) := by decide +kernel
theorem dX6_ways_157 : decode cX6_ways 157 = .ok (.getfield 56, 3) := by decide +kernel
theorem dX6_ways_160 : decode cX6_ways 160 = .ok (.aload_n 0, 1) := by decide +kernel
theorem dX6_ways_161 : decode cX6_ways 161 = .ok (.getfield 44, 3) := by decide +kernel
theorem dX6_ways_164 : decode cX6_ways 164 = .ok (.iload_n 3, 1) := by decide +kernel
theorem dX6_ways_165 : decode cX6_ways 165 = .ok (.iaload, 1) := by decide +kernel
theorem dX6_ways_166 : decode cX6_ways 166 = .ok (.laload, 1) := by decide +kernel
theorem dX6_ways_167 : decode cX6_ways 167 = .ok (.ladd, 1) := by decide +kernel
theorem dX6_ways_168 : decode cX6_ways 168 = .ok (.lastore, 1) := by decide +kernel
theorem dX6_ways_169 : decode cX6_ways 169 = .ok (.iinc 4 1, 3) := by decide +kernel
theorem dX6_ways_172 : decode cX6_ways 172 = .ok (.goto (-67), 3) := by decide +kernel
theorem dX6_ways_175 : decode cX6_ways 175 = .ok (.iinc 3 1, 3) := by decide +kernel
theorem dX6_ways_178 : decode cX6_ways 178 = .ok (.goto (-84), 3) := by decide +kernel
theorem dX6_ways_181 : decode cX6_ways 181 = .ok (.iconst 0, 1) := by decide +kernel
theorem dX6_ways_182 : decode cX6_ways 182 = .ok (.istore_n 3, 1) := by decide +kernel
theorem dX6_ways_183 : decode cX6_ways 183 = .ok (.iload_n 3, 1) := by decide +kernel
theorem dX6_ways_184 : decode cX6_ways 184 = .ok (.sipush 5120, 3) := by decide +kernel
theorem dX6_ways_187 : decode cX6_ways 187 = .ok (.if_icmp .ge 21, 3) := by decide +kernel
theorem dX6_ways_190 : decode cX6_ways 190 = .ok (.aload_n 0, 1) := by decide +kernel
theorem dX6_ways_191 : decode cX6_ways 191 = .ok (.getfield 56, 3) := by decide +kernel
theorem dX6_ways_194 : decode cX6_ways 194 = .ok (.iload_n 3, 1) := by decide +kernel
theorem dX6_ways_195 : decode cX6_ways 195 = .ok (.aload_n 0, 1) := by decide +kernel
theorem dX6_ways_196 : decode cX6_ways 196 = .ok (.getfield 60, 3) := by decide +kernel
theorem dX6_ways_199 : decode cX6_ways 199 = .ok (.iload_n 3, 1) := by decide +kernel
theorem dX6_ways_200 : decode cX6_ways 200 = .ok (.laload, 1) := by decide +kernel
theorem dX6_ways_201 : decode cX6_ways 201 = .ok (.lastore, 1) := by decide +kernel
theorem dX6_ways_202 : decode cX6_ways 202 = .ok (.iinc 3 1, 3) := by decide +kernel
theorem dX6_ways_205 : decode cX6_ways 205 = .ok (.goto (-22), 3) := by decide +kernel
theorem dX6_ways_208 : decode cX6_ways 208 = .ok (.iinc 2 1, 3) := by decide +kernel
theorem dX6_ways_211 : decode cX6_ways 211 = .ok (.goto (-146), 3) := by decide +kernel
theorem dX6_ways_214 : decode cX6_ways 214 = .ok (.lconst 0, 1) := by decide +kernel
theorem dX6_ways_215 : decode cX6_ways 215 = .ok (.lstore_n 2, 1) := by decide +kernel
theorem dX6_ways_216 : decode cX6_ways 216 = .ok (.iconst 0, 1) := by decide +kernel
theorem dX6_ways_217 : decode cX6_ways 217 = .ok (.istore 4, 2) := by decide +kernel
theorem dX6_ways_219 : decode cX6_ways 219 = .ok (.iload 4, 2) := by decide +kernel
theorem dX6_ways_221 : decode cX6_ways 221 = .ok (.sipush 5120, 3) := by decide +kernel
theorem dX6_ways_224 : decode cX6_ways 224 = .ok (.if_icmp .ge 48, 3) := by decide +kernel
theorem dX6_ways_227 : decode cX6_ways 227 = .ok (.lload_n 2, 1) := by decide +kernel
theorem dX6_ways_228 : decode cX6_ways 228 = .ok (.aload_n 0, 1) := by decide +kernel
theorem dX6_ways_229 : decode cX6_ways 229 = .ok (.getfield 56, 3) := by decide +kernel
theorem dX6_ways_232 : decode cX6_ways 232 = .ok (.iload 4, 2) := by decide +kernel
theorem dX6_ways_234 : decode cX6_ways 234 = .ok (.laload, 1) := by decide +kernel
theorem dX6_ways_235 : decode cX6_ways 235 = .ok (.lconst 0, 1) := by decide +kernel
theorem dX6_ways_236 : decode cX6_ways 236 = .ok (.lcmp, 1) := by decide +kernel
theorem dX6_ways_237 : decode cX6_ways 237 = .ok (.ifCond .le 26, 3) := by decide +kernel
theorem dX6_ways_240 : decode cX6_ways 240 = .ok (.aload_n 0, 1) := by decide +kernel
theorem dX6_ways_241 : decode cX6_ways 241 = .ok (.iload 4, 2) := by decide +kernel
theorem dX6_ways_243 : decode cX6_ways 243 = .ok (.sipush 256, 3) := by decide +kernel
theorem dX6_ways_246 : decode cX6_ways 246 = .ok (.idiv, 1) := by decide +kernel
theorem dX6_ways_247 : decode cX6_ways 247 = .ok (.invokevirtual 158, 3) := by decide +kernel
theorem dX6_ways_250 : decode cX6_ways 250 = .ok (.ifCond .eq 13, 3) := by decide +kernel
theorem dX6_ways_253 : decode cX6_ways 253 = .ok (.aload_n 0, 1) := by decide +kernel
theorem dX6_ways_254 : decode cX6_ways 254 = .ok (.getfield 56, 3) := by decide +kernel
theorem dX6_ways_257 : decode cX6_ways 257 = .ok (.iload 4, 2) := by decide +kernel
theorem dX6_ways_259 : decode cX6_ways 259 = .ok (.laload, 1) := by decide +kernel
theorem dX6_ways_260 : decode cX6_ways 260 = .ok (.goto 4, 3) := by decide +kernel
theorem dX6_ways_263 : decode cX6_ways 263 = .ok (.lconst 0, 1) := by decide +kernel
theorem dX6_ways_264 : decode cX6_ways 264 = .ok (.ladd, 1) := by decide +kernel
theorem dX6_ways_265 : decode cX6_ways 265 = .ok (.lstore_n 2, 1) := by decide +kernel
theorem dX6_ways_266 : decode cX6_ways 266 = .ok (.iinc 4 1, 3) := by decide +kernel
theorem dX6_ways_269 : decode cX6_ways 269 = .ok (.goto (-50), 3) := by decide +kernel
theorem dX6_ways_272 : decode cX6_ways 272 = .ok (.lload_n 2, 1) := by decide +kernel
theorem dX6_ways_273 : decode cX6_ways 273 = .ok (.lreturn, 1) := by decide +kernel
theorem dX6_cut_0 : decode cX6_cut 0 = .ok (.iload_n 1, 1) := by decide +kernel
theorem dX6_cut_1 : decode cX6_cut 1 = .ok (.invokestatic 71, 3) := by decide +kernel
theorem dX6_cut_4 : decode cX6_cut 4 = .ok (.ifCond .ne 7, 3) := by decide +kernel
theorem dX6_cut_7 : decode cX6_cut 7 = .ok (.sipush (-1002), 3) := by decide +kernel
theorem dX6_cut_10 : decode cX6_cut 10 = .ok (.ireturn, 1) := by decide +kernel
theorem dX6_cut_11 : decode cX6_cut 11 = .ok (.aload_n 0, 1) := by decide +kernel
theorem dX6_cut_12 : decode cX6_cut 12 = .ok (.getfield 19, 3) := by decide +kernel
theorem dX6_cut_15 : decode cX6_cut 15 = .ok (.iload_n 1, 1) := by decide +kernel
theorem dX6_cut_16 : decode cX6_cut 16 = .ok (.baload, 1) := by decide +kernel
theorem dX6_cut_17 : decode cX6_cut 17 = .ok (.ifCond .eq 7, 3) := by decide +kernel
theorem dX6_cut_20 : decode cX6_cut 20 = .ok (.iconst 1, 1) := by decide +kernel
theorem dX6_cut_21 : decode cX6_cut 21 = .ok (.goto 4, 3) := by decide +kernel
theorem dX6_cut_24 : decode cX6_cut 24 = .ok (.iconst 0, 1) := by decide +kernel
theorem dX6_cut_25 : decode cX6_cut 25 = .ok (.istore_n 3, 1) := by decide +kernel
theorem dX6_cut_26 : decode cX6_cut 26 = .ok (.aload_n 0, 1) := by decide +kernel
theorem dX6_cut_27 : decode cX6_cut 27 = .ok (.getfield 19, 3) := by decide +kernel
theorem dX6_cut_30 : decode cX6_cut 30 = .ok (.iload_n 1, 1) := by decide +kernel
theorem dX6_cut_31 : decode cX6_cut 31 = .ok (.iload_n 2, 1) := by decide +kernel
theorem dX6_cut_32 : decode cX6_cut 32 = .ok (.bastore, 1) := by decide +kernel
theorem dX6_cut_33 : decode cX6_cut 33 = .ok (.iload_n 3, 1) := by decide +kernel
theorem dX6_cut_34 : decode cX6_cut 34 = .ok (.ireturn, 1) := by decide +kernel
theorem dX6_reachedScenes_0 : decode cX6_reachedScenes 0 = .ok (.iconst 0, 1) := by decide +kernel
theorem dX6_reachedScenes_1 : decode cX6_reachedScenes 1 = .ok (.istore_n 1, 1) := by decide +kernel
theorem dX6_reachedScenes_2 : decode cX6_reachedScenes 2 = .ok (.iconst 0, 1) := by decide +kernel
theorem dX6_reachedScenes_3 : decode cX6_reachedScenes 3 = .ok (.istore_n 2, 1) := by decide +kernel
theorem dX6_reachedScenes_4 : decode cX6_reachedScenes 4 = .ok (.iload_n 2, 1) := by decide +kernel
theorem dX6_reachedScenes_5 : decode cX6_reachedScenes 5 = .ok (.aload_n 0, 1) := by decide +kernel
theorem dX6_reachedScenes_6 : decode cX6_reachedScenes 6 = .ok (.getfield 165, 3) := by decide +kernel
theorem dX6_reachedScenes_9 : decode cX6_reachedScenes 9 = .ok (.if_icmp .ge 24, 3) := by decide +kernel
theorem dX6_reachedScenes_12 : decode cX6_reachedScenes 12 = .ok (.iload_n 1, 1) := by decide +kernel
theorem dX6_reachedScenes_13 : decode cX6_reachedScenes 13 = .ok (.iconst 1, 1) := by decide +kernel
theorem dX6_reachedScenes_14 : decode cX6_reachedScenes 14 = .ok (.aload_n 0, 1) := by decide +kernel
theorem dX6_reachedScenes_15 : decode cX6_reachedScenes 15 = .ok (.getfield 44, 3) := by decide +kernel
theorem dX6_reachedScenes_18 : decode cX6_reachedScenes 18 = .ok (.iload_n 2, 1) := by decide +kernel
theorem dX6_reachedScenes_19 : decode cX6_reachedScenes 19 = .ok (.iaload, 1) := by decide +kernel
theorem dX6_reachedScenes_20 : decode cX6_reachedScenes 20 = .ok (.sipush 256, 3) := by decide +kernel
theorem dX6_reachedScenes_23 : decode cX6_reachedScenes 23 = .ok (.idiv, 1) := by decide +kernel
theorem dX6_reachedScenes_24 : decode cX6_reachedScenes 24 = .ok (.ishl, 1) := by decide +kernel
theorem dX6_reachedScenes_25 : decode cX6_reachedScenes 25 = .ok (.ior, 1) := by decide +kernel
theorem dX6_reachedScenes_26 : decode cX6_reachedScenes 26 = .ok (.istore_n 1, 1) := by decide +kernel
theorem dX6_reachedScenes_27 : decode cX6_reachedScenes 27 = .ok (.iinc 2 1, 3) := by decide +kernel
theorem dX6_reachedScenes_30 : decode cX6_reachedScenes 30 = .ok (.goto (-26), 3) := by decide +kernel
theorem dX6_reachedScenes_33 : decode cX6_reachedScenes 33 = .ok (.iload_n 1, 1) := by decide +kernel
theorem dX6_reachedScenes_34 : decode cX6_reachedScenes 34 = .ok (.ireturn, 1) := by decide +kernel
theorem dX6_size_0 : decode cX6_size 0 = .ok (.iconst 0, 1) := by decide +kernel
theorem dX6_size_1 : decode cX6_size 1 = .ok (.istore_n 1, 1) := by decide +kernel
theorem dX6_size_2 : decode cX6_size 2 = .ok (.iconst 0, 1) := by decide +kernel
theorem dX6_size_3 : decode cX6_size 3 = .ok (.istore_n 2, 1) := by decide +kernel
theorem dX6_size_4 : decode cX6_size 4 = .ok (.iload_n 2, 1) := by decide +kernel
theorem dX6_size_5 : decode cX6_size 5 = .ok (.bipush 8, 2) := by decide +kernel
theorem dX6_size_7 : decode cX6_size 7 = .ok (.if_icmp .ge 17, 3) := by decide +kernel
theorem dX6_size_10 : decode cX6_size 10 = .ok (.iload_n 1, 1) := by decide +kernel
theorem dX6_size_11 : decode cX6_size 11 = .ok (.iload_n 0, 1) := by decide +kernel
theorem dX6_size_12 : decode cX6_size 12 = .ok (.iload_n 2, 1) := by decide +kernel
theorem dX6_size_13 : decode cX6_size 13 = .ok (.ishr, 1) := by decide +kernel
theorem dX6_size_14 : decode cX6_size 14 = .ok (.iconst 1, 1) := by decide +kernel
theorem dX6_size_15 : decode cX6_size 15 = .ok (.iand, 1) := by decide +kernel
theorem dX6_size_16 : decode cX6_size 16 = .ok (.iadd, 1) := by decide +kernel
theorem dX6_size_17 : decode cX6_size 17 = .ok (.istore_n 1, 1) := by decide +kernel
theorem dX6_size_18 : decode cX6_size 18 = .ok (.iinc 2 1, 3) := by decide +kernel
theorem dX6_size_21 : decode cX6_size 21 = .ok (.goto (-17), 3) := by decide +kernel
theorem dX6_size_24 : decode cX6_size 24 = .ok (.iload_n 1, 1) := by decide +kernel
theorem dX6_size_25 : decode cX6_size 25 = .ok (.ireturn, 1) := by decide +kernel
theorem dX6_mend_0 : decode cX6_mend 0 = .ok (.aload_n 0, 1) := by decide +kernel
theorem dX6_mend_1 : decode cX6_mend 1 = .ok (.aload_n 0, 1) := by decide +kernel
theorem dX6_mend_2 : decode cX6_mend 2 = .ok (.getfield 7, 3) := by decide +kernel
theorem dX6_mend_5 : decode cX6_mend 5 = .ok (.sipush 1880, 3) := by decide +kernel
theorem dX6_mend_8 : decode cX6_mend 8 = .ok (.iaload, 1) := by decide +kernel
theorem dX6_mend_9 : decode cX6_mend 9 = .ok (.iconst 0, 1) := by decide +kernel
theorem dX6_mend_10 : decode cX6_mend 10 = .ok (.invokevirtual 172, 3) := by decide +kernel
theorem dX6_mend_13 : decode cX6_mend 13 = .ok (.aload_n 0, 1) := by decide +kernel
theorem dX6_mend_14 : decode cX6_mend 14 = .ok (.invokevirtual 201, 3) := by decide +kernel
theorem dX6_mend_17 : decode cX6_mend 17 = .ok (.istore_n 1, 1) := by decide +kernel
theorem dX6_mend_18 : decode cX6_mend 18 = .ok (.iconst 0, 1) := by decide +kernel
theorem dX6_mend_19 : decode cX6_mend 19 = .ok (.istore_n 2, 1) := by decide +kernel
theorem dX6_mend_20 : decode cX6_mend 20 = .ok (.iload_n 2, 1) := by decide +kernel
theorem dX6_mend_21 : decode cX6_mend 21 = .ok (.bipush 20, 2) := by decide +kernel
theorem dX6_mend_23 : decode cX6_mend 23 = .ok (.if_icmp .ge 30, 3) := by decide +kernel
theorem dX6_mend_26 : decode cX6_mend 26 = .ok (.iload_n 1, 1) := by decide +kernel
theorem dX6_mend_27 : decode cX6_mend 27 = .ok (.aload_n 0, 1) := by decide +kernel
theorem dX6_mend_28 : decode cX6_mend 28 = .ok (.getfield 19, 3) := by decide +kernel
theorem dX6_mend_31 : decode cX6_mend 31 = .ok (.iload_n 2, 1) := by decide +kernel
theorem dX6_mend_32 : decode cX6_mend 32 = .ok (.baload, 1) := by decide +kernel
theorem dX6_mend_33 : decode cX6_mend 33 = .ok (.ifCond .eq 11, 3) := by decide +kernel
theorem dX6_mend_36 : decode cX6_mend 36 = .ok (.iconst 1, 1) := by decide +kernel
theorem dX6_mend_37 : decode cX6_mend 37 = .ok (.iload_n 2, 1) := by decide +kernel
theorem dX6_mend_38 : decode cX6_mend 38 = .ok (.ishl, 1) := by decide +kernel
theorem dX6_mend_39 : decode cX6_mend 39 = .ok (.iconst (-1), 1) := by decide +kernel
theorem dX6_mend_40 : decode cX6_mend 40 = .ok (.ixor, 1) := by decide +kernel
theorem dX6_mend_41 : decode cX6_mend 41 = .ok (.goto 4, 3) := by decide +kernel
theorem dX6_mend_44 : decode cX6_mend 44 = .ok (.iconst (-1), 1) := by decide +kernel
theorem dX6_mend_45 : decode cX6_mend 45 = .ok (.iand, 1) := by decide +kernel
theorem dX6_mend_46 : decode cX6_mend 46 = .ok (.istore_n 1, 1) := by decide +kernel
theorem dX6_mend_47 : decode cX6_mend 47 = .ok (.iinc 2 1, 3) := by decide +kernel
theorem dX6_mend_50 : decode cX6_mend 50 = .ok (.goto (-30), 3) := by decide +kernel
theorem dX6_mend_53 : decode cX6_mend 53 = .ok (.iconst 0, 1) := by decide +kernel
theorem dX6_mend_54 : decode cX6_mend 54 = .ok (.istore_n 2, 1) := by decide +kernel
theorem dX6_mend_55 : decode cX6_mend 55 = .ok (.iload_n 2, 1) := by decide +kernel
theorem dX6_mend_56 : decode cX6_mend 56 = .ok (.bipush 8, 2) := by decide +kernel
theorem dX6_mend_58 : decode cX6_mend 58 = .ok (.if_icmp .gt 60, 3) := by decide +kernel
theorem dX6_mend_61 : decode cX6_mend 61 = .ok (.iconst 0, 1) := by decide +kernel
theorem dX6_mend_62 : decode cX6_mend 62 = .ok (.istore_n 3, 1) := by decide +kernel
theorem dX6_mend_63 : decode cX6_mend 63 = .ok (.iload_n 3, 1) := by decide +kernel
theorem dX6_mend_64 : decode cX6_mend 64 = .ok (.sipush 256, 3) := by decide +kernel
theorem dX6_mend_67 : decode cX6_mend 67 = .ok (.if_icmp .ge 45, 3) := by decide +kernel
theorem dX6_mend_70 : decode cX6_mend 70 = .ok (.iload_n 3, 1) := by decide +kernel
theorem dX6_mend_71 : decode cX6_mend 71 = .ok (.invokestatic 204, 3) := by decide +kernel
theorem dX6_mend_74 : decode cX6_mend 74 = .ok (.iload_n 2, 1) := by decide +kernel
theorem dX6_mend_75 : decode cX6_mend 75 = .ok (.if_icmp .ne 31, 3) := by decide +kernel
theorem dX6_mend_78 : decode cX6_mend 78 = .ok (.aload_n 0, 1) := by decide +kernel
theorem dX6_mend_79 : decode cX6_mend 79 = .ok (.aload_n 0, 1) := by decide +kernel
theorem dX6_mend_80 : decode cX6_mend 80 = .ok (.getfield 7, 3) := by decide +kernel
theorem dX6_mend_83 : decode cX6_mend 83 = .ok (.sipush 1880, 3) := by decide +kernel
theorem dX6_mend_86 : decode cX6_mend 86 = .ok (.iaload, 1) := by decide +kernel
theorem dX6_mend_87 : decode cX6_mend 87 = .ok (.iload_n 3, 1) := by decide +kernel
theorem dX6_mend_88 : decode cX6_mend 88 = .ok (.ior, 1) := by decide +kernel
theorem dX6_mend_89 : decode cX6_mend 89 = .ok (.iconst 1, 1) := by decide +kernel
theorem dX6_mend_90 : decode cX6_mend 90 = .ok (.invokevirtual 172, 3) := by decide +kernel
theorem dX6_mend_93 : decode cX6_mend 93 = .ok (.iload_n 1, 1) := by decide +kernel
theorem dX6_mend_94 : decode cX6_mend 94 = .ok (.aload_n 0, 1) := by decide +kernel
theorem dX6_mend_95 : decode cX6_mend 95 = .ok (.invokevirtual 201, 3) := by decide +kernel
theorem dX6_mend_98 : decode cX6_mend 98 = .ok (.iconst (-1), 1) := by decide +kernel
theorem dX6_mend_99 : decode cX6_mend 99 = .ok (.ixor, 1) := by decide +kernel
theorem dX6_mend_100 : decode cX6_mend 100 = .ok (.iand, 1) := by decide +kernel
theorem dX6_mend_101 : decode cX6_mend 101 = .ok (.ifCond .ne 5, 3) := by decide +kernel
theorem dX6_mend_104 : decode cX6_mend 104 = .ok (.iload_n 3, 1) := by decide +kernel
theorem dX6_mend_105 : decode cX6_mend 105 = .ok (.ireturn, 1) := by decide +kernel
theorem dX6_mend_106 : decode cX6_mend 106 = .ok (.iinc 3 1, 3) := by decide +kernel
theorem dX6_mend_109 : decode cX6_mend 109 = .ok (.goto (-46), 3) := by decide +kernel
theorem dX6_mend_112 : decode cX6_mend 112 = .ok (.iinc 2 1, 3) := by decide +kernel
theorem dX6_mend_115 : decode cX6_mend 115 = .ok (.goto (-60), 3) := by decide +kernel
theorem dX6_mend_118 : decode cX6_mend 118 = .ok (.sipush (-1003), 3) := by decide +kernel
theorem dX6_mend_121 : decode cX6_mend 121 = .ok (.ireturn, 1) := by decide +kernel
theorem dX6_isSheet_0 : decode cX6_isSheet 0 = .ok (.iload_n 0, 1) := by decide +kernel
theorem dX6_isSheet_1 : decode cX6_isSheet 1 = .ok (.iconst 0, 1) := by decide +kernel
theorem dX6_isSheet_2 : decode cX6_isSheet 2 = .ok (.iconst 3, 1) := by decide +kernel
theorem dX6_isSheet_3 : decode cX6_isSheet 3 = .ok (.invokestatic 67, 3) := by decide +kernel
theorem dX6_isSheet_6 : decode cX6_isSheet 6 = .ok (.ireturn, 1) := by decide +kernel
theorem dX6_sheet_0 : decode cX6_sheet 0 = .ok (.iload_n 1, 1) := by decide +kernel
theorem dX6_sheet_1 : decode cX6_sheet 1 = .ok (.invokestatic 207, 3) := by decide +kernel
theorem dX6_sheet_4 : decode cX6_sheet 4 = .ok (.ifCond .eq 18, 3) := by decide +kernel
theorem dX6_sheet_7 : decode cX6_sheet 7 = .ok (.iload_n 2, 1) := by decide +kernel
theorem dX6_sheet_8 : decode cX6_sheet 8 = .ok (.iconst 0, 1) := by decide +kernel
theorem dX6_sheet_9 : decode cX6_sheet 9 = .ok (.iconst 2, 1) := by decide +kernel
theorem dX6_sheet_10 : decode cX6_sheet 10 = .ok (.invokestatic 67, 3) := by decide +kernel
theorem dX6_sheet_13 : decode cX6_sheet 13 = .ok (.ifCond .eq 9, 3) := by decide +kernel
theorem dX6_sheet_16 : decode cX6_sheet 16 = .ok (.iload_n 3, 1) := by decide +kernel
theorem dX6_sheet_17 : decode cX6_sheet 17 = .ok (.bipush 30, 2) := by decide +kernel
theorem dX6_sheet_19 : decode cX6_sheet 19 = .ok (.if_icmp .le 7, 3) := by decide +kernel
theorem dX6_sheet_22 : decode cX6_sheet 22 = .ok (.sipush (-1002), 3) := by decide +kernel
theorem dX6_sheet_25 : decode cX6_sheet 25 = .ok (.ireturn, 1) := by decide +kernel
theorem dX6_sheet_26 : decode cX6_sheet 26 = .ok (.iload_n 3, 1) := by decide +kernel
theorem dX6_sheet_27 : decode cX6_sheet 27 = .ok (.ifCond .ge 11, 3) := by decide +kernel
theorem dX6_sheet_30 : decode cX6_sheet 30 = .ok (.aload_n 0, 1) := by decide +kernel
theorem dX6_sheet_31 : decode cX6_sheet 31 = .ok (.sipush (-1013), 3) := by decide +kernel
theorem dX6_sheet_34 : decode cX6_sheet 34 = .ok (.invokevirtual 140, 3) := by decide +kernel
theorem dX6_sheet_37 : decode cX6_sheet 37 = .ok (.ireturn, 1) := by decide +kernel
theorem dX6_sheet_38 : decode cX6_sheet 38 = .ok (.aload_n 0, 1) := by decide +kernel
theorem dX6_sheet_39 : decode cX6_sheet 39 = .ok (.getfield 26, 3) := by decide +kernel
theorem dX6_sheet_42 : decode cX6_sheet 42 = .ok (.iload_n 1, 1) := by decide +kernel
theorem dX6_sheet_43 : decode cX6_sheet 43 = .ok (.iload_n 2, 1) := by decide +kernel
theorem dX6_sheet_44 : decode cX6_sheet 44 = .ok (.iastore, 1) := by decide +kernel
theorem dX6_sheet_45 : decode cX6_sheet 45 = .ok (.aload_n 0, 1) := by decide +kernel
theorem dX6_sheet_46 : decode cX6_sheet 46 = .ok (.getfield 29, 3) := by decide +kernel
theorem dX6_sheet_49 : decode cX6_sheet 49 = .ok (.iload_n 1, 1) := by decide +kernel
theorem dX6_sheet_50 : decode cX6_sheet 50 = .ok (.iload_n 3, 1) := by decide +kernel
theorem dX6_sheet_51 : decode cX6_sheet 51 = .ok (.iastore, 1) := by decide +kernel
theorem dX6_sheet_52 : decode cX6_sheet 52 = .ok (.iconst 0, 1) := by decide +kernel
theorem dX6_sheet_53 : decode cX6_sheet 53 = .ok (.istore 4, 2) := by decide +kernel
theorem dX6_sheet_55 : decode cX6_sheet 55 = .ok (.iload 4, 2) := by decide +kernel
theorem dX6_sheet_57 : decode cX6_sheet 57 = .ok (.iload_n 3, 1) := by decide +kernel
theorem dX6_sheet_58 : decode cX6_sheet 58 = .ok (.if_icmp .ge 22, 3) := by decide +kernel
theorem dX6_sheet_61 : decode cX6_sheet 61 = .ok (.aload_n 0, 1) := by decide +kernel
theorem dX6_sheet_62 : decode cX6_sheet 62 = .ok (.getfield 32, 3) := by decide +kernel
theorem dX6_sheet_65 : decode cX6_sheet 65 = .ok (.bipush 30, 2) := by decide +kernel
theorem dX6_sheet_67 : decode cX6_sheet 67 = .ok (.iload_n 1, 1) := by decide +kernel
theorem dX6_sheet_68 : decode cX6_sheet 68 = .ok (.imul, 1) := by decide +kernel
theorem dX6_sheet_69 : decode cX6_sheet 69 = .ok (.iload 4, 2) := by decide +kernel
theorem dX6_sheet_71 : decode cX6_sheet 71 = .ok (.iadd, 1) := by decide +kernel
theorem dX6_sheet_72 : decode cX6_sheet 72 = .ok (.iconst 0, 1) := by decide +kernel
theorem dX6_sheet_73 : decode cX6_sheet 73 = .ok (.iastore, 1) := by decide +kernel
theorem dX6_sheet_74 : decode cX6_sheet 74 = .ok (.iinc 4 1, 3) := by decide +kernel
theorem dX6_sheet_77 : decode cX6_sheet 77 = .ok (.goto (-22), 3) := by decide +kernel
theorem dX6_sheet_80 : decode cX6_sheet 80 = .ok (.iload_n 3, 1) := by decide +kernel
theorem dX6_sheet_81 : decode cX6_sheet 81 = .ok (.ireturn, 1) := by decide +kernel
theorem dX6_write_0 : decode cX6_write 0 = .ok (.iload_n 1, 1) := by decide +kernel
theorem dX6_write_1 : decode cX6_write 1 = .ok (.invokestatic 207, 3) := by decide +kernel
theorem dX6_write_4 : decode cX6_write 4 = .ok (.ifCond .ne 7, 3) := by decide +kernel
theorem dX6_write_7 : decode cX6_write 7 = .ok (.sipush (-1002), 3) := by decide +kernel
theorem dX6_write_10 : decode cX6_write 10 = .ok (.ireturn, 1) := by decide +kernel
theorem dX6_write_11 : decode cX6_write 11 = .ok (.aload_n 0, 1) := by decide +kernel
theorem dX6_write_12 : decode cX6_write 12 = .ok (.getfield 29, 3) := by decide +kernel
theorem dX6_write_15 : decode cX6_write 15 = .ok (.iload_n 1, 1) := by decide +kernel
theorem dX6_write_16 : decode cX6_write 16 = .ok (.iaload, 1) := by decide +kernel
theorem dX6_write_17 : decode cX6_write 17 = .ok (.ifCond .ge 11, 3) := by decide +kernel
theorem dX6_write_20 : decode cX6_write 20 = .ok (.aload_n 0, 1) := by decide +kernel
theorem dX6_write_21 : decode cX6_write 21 = .ok (.sipush (-1010), 3) := by decide +kernel
theorem dX6_write_24 : decode cX6_write 24 = .ok (.invokevirtual 140, 3) := by decide +kernel
theorem dX6_write_27 : decode cX6_write 27 = .ok (.ireturn, 1) := by decide +kernel
theorem dX6_write_28 : decode cX6_write 28 = .ok (.iload_n 2, 1) := by decide +kernel
theorem dX6_write_29 : decode cX6_write 29 = .ok (.ifCond .lt 13, 3) := by decide +kernel
theorem dX6_write_32 : decode cX6_write 32 = .ok (.iload_n 2, 1) := by decide +kernel
theorem dX6_write_33 : decode cX6_write 33 = .ok (.aload_n 0, 1) := by decide +kernel
theorem dX6_write_34 : decode cX6_write 34 = .ok (.getfield 29, 3) := by decide +kernel
theorem dX6_write_37 : decode cX6_write 37 = .ok (.iload_n 1, 1) := by decide +kernel
theorem dX6_write_38 : decode cX6_write 38 = .ok (.iaload, 1) := by decide +kernel
theorem dX6_write_39 : decode cX6_write 39 = .ok (.if_icmp .lt 11, 3) := by decide +kernel
theorem dX6_write_42 : decode cX6_write 42 = .ok (.aload_n 0, 1) := by decide +kernel
theorem dX6_write_43 : decode cX6_write 43 = .ok (.sipush (-1011), 3) := by decide +kernel
theorem dX6_write_46 : decode cX6_write 46 = .ok (.invokevirtual 140, 3) := by decide +kernel
theorem dX6_write_49 : decode cX6_write 49 = .ok (.ireturn, 1) := by decide +kernel
theorem dX6_write_50 : decode cX6_write 50 = .ok (.aload_n 0, 1) := by decide +kernel
theorem dX6_write_51 : decode cX6_write 51 = .ok (.getfield 32, 3) := by decide +kernel
theorem dX6_write_54 : decode cX6_write 54 = .ok (.bipush 30, 2) := by decide +kernel
theorem dX6_write_56 : decode cX6_write 56 = .ok (.iload_n 1, 1) := by decide +kernel
theorem dX6_write_57 : decode cX6_write 57 = .ok (.imul, 1) := by decide +kernel
theorem dX6_write_58 : decode cX6_write 58 = .ok (.iload_n 2, 1) := by decide +kernel
theorem dX6_write_59 : decode cX6_write 59 = .ok (.iadd, 1) := by decide +kernel
theorem dX6_write_60 : decode cX6_write 60 = .ok (.iaload, 1) := by decide +kernel
theorem dX6_write_61 : decode cX6_write 61 = .ok (.istore 4, 2) := by decide +kernel
theorem dX6_write_63 : decode cX6_write 63 = .ok (.aload_n 0, 1) := by decide +kernel
theorem dX6_write_64 : decode cX6_write 64 = .ok (.getfield 32, 3) := by decide +kernel
theorem dX6_write_67 : decode cX6_write 67 = .ok (.bipush 30, 2) := by decide +kernel
theorem dX6_write_69 : decode cX6_write 69 = .ok (.iload_n 1, 1) := by decide +kernel
theorem dX6_write_70 : decode cX6_write 70 = .ok (.imul, 1) := by decide +kernel
theorem dX6_write_71 : decode cX6_write 71 = .ok (.iload_n 2, 1) := by decide +kernel
theorem dX6_write_72 : decode cX6_write 72 = .ok (.iadd, 1) := by decide +kernel
theorem dX6_write_73 : decode cX6_write 73 = .ok (.aload_n 0, 1) := by decide +kernel
theorem dX6_write_74 : decode cX6_write 74 = .ok (.getfield 26, 3) := by decide +kernel
theorem dX6_write_77 : decode cX6_write 77 = .ok (.iload_n 1, 1) := by decide +kernel
theorem dX6_write_78 : decode cX6_write 78 = .ok (.iaload, 1) := by decide +kernel
theorem dX6_write_79 : decode cX6_write 79 = .ok (.ifCond .ne 8, 3) := by decide +kernel
theorem dX6_write_82 : decode cX6_write 82 = .ok (.iload_n 3, 1) := by decide +kernel
theorem dX6_write_83 : decode cX6_write 83 = .ok (.i2b, 1) := by decide +kernel
theorem dX6_write_84 : decode cX6_write 84 = .ok (.goto 19, 3) := by decide +kernel
theorem dX6_write_87 : decode cX6_write 87 = .ok (.aload_n 0, 1) := by decide +kernel
theorem dX6_write_88 : decode cX6_write 88 = .ok (.getfield 26, 3) := by decide +kernel
theorem dX6_write_91 : decode cX6_write 91 = .ok (.iload_n 1, 1) := by decide +kernel
theorem dX6_write_92 : decode cX6_write 92 = .ok (.iaload, 1) := by decide +kernel
theorem dX6_write_93 : decode cX6_write 93 = .ok (.iconst 1, 1) := by decide +kernel
theorem dX6_write_94 : decode cX6_write 94 = .ok (.if_icmp .ne 8, 3) := by decide +kernel
theorem dX6_write_97 : decode cX6_write 97 = .ok (.iload_n 3, 1) := by decide +kernel
theorem dX6_write_98 : decode cX6_write 98 = .ok (.i2s, 1) := by decide +kernel
theorem dX6_write_99 : decode cX6_write 99 = .ok (.goto 4, 3) := by decide +kernel
theorem dX6_write_102 : decode cX6_write 102 = .ok (.iload_n 3, 1) := by decide +kernel
theorem dX6_write_103 : decode cX6_write 103 = .ok (.iastore, 1) := by decide +kernel
theorem dX6_write_104 : decode cX6_write 104 = .ok (.iload 4, 2) := by decide +kernel
theorem dX6_write_106 : decode cX6_write 106 = .ok (.ireturn, 1) := by decide +kernel
theorem dX6_words_0 : decode cX6_words 0 = .ok (.iload_n 1, 1) := by decide +kernel
theorem dX6_words_1 : decode cX6_words 1 = .ok (.invokestatic 71, 3) := by decide +kernel
theorem dX6_words_4 : decode cX6_words 4 = .ok (.ifCond .eq 19, 3) := by decide +kernel
theorem dX6_words_7 : decode cX6_words 7 = .ok (.iload_n 2, 1) := by decide +kernel
theorem dX6_words_8 : decode cX6_words 8 = .ok (.invokestatic 207, 3) := by decide +kernel
theorem dX6_words_11 : decode cX6_words 11 = .ok (.ifCond .eq 12, 3) := by decide +kernel
theorem dX6_words_14 : decode cX6_words 14 = .ok (.iload_n 3, 1) := by decide +kernel
theorem dX6_words_15 : decode cX6_words 15 = .ok (.iconst 0, 1) := by decide +kernel
theorem dX6_words_16 : decode cX6_words 16 = .ok (.iconst 2, 1) := by decide +kernel
theorem dX6_words_17 : decode cX6_words 17 = .ok (.invokestatic 67, 3) := by decide +kernel
theorem dX6_words_20 : decode cX6_words 20 = .ok (.ifCond .ne 7, 3) := by decide +kernel
theorem dX6_words_23 : decode cX6_words 23 = .ok (.sipush (-1002), 3) := by decide +kernel
theorem dX6_words_26 : decode cX6_words 26 = .ok (.ireturn, 1) := by decide +kernel
theorem dX6_words_27 : decode cX6_words 27 = .ok (.aload_n 0, 1) := by decide +kernel
theorem dX6_words_28 : decode cX6_words 28 = .ok (.iload_n 1, 1) := by decide +kernel
theorem dX6_words_29 : decode cX6_words 29 = .ok (.invokevirtual 137, 3) := by decide +kernel
theorem dX6_words_32 : decode cX6_words 32 = .ok (.ifCond .eq 12, 3) := by decide +kernel
theorem dX6_words_35 : decode cX6_words 35 = .ok (.aload_n 0, 1) := by decide +kernel
theorem dX6_words_36 : decode cX6_words 36 = .ok (.getfield 29, 3) := by decide +kernel
theorem dX6_words_39 : decode cX6_words 39 = .ok (.iload_n 2, 1) := by decide +kernel
theorem dX6_words_40 : decode cX6_words 40 = .ok (.iaload, 1) := by decide +kernel
theorem dX6_words_41 : decode cX6_words 41 = .ok (.ifCond .ge 11, 3) := by decide +kernel
theorem dX6_words_44 : decode cX6_words 44 = .ok (.aload_n 0, 1) := by decide +kernel
theorem dX6_words_45 : decode cX6_words 45 = .ok (.sipush (-1010), 3) := by decide +kernel
theorem dX6_words_48 : decode cX6_words 48 = .ok (.invokevirtual 140, 3) := by decide +kernel
theorem dX6_words_51 : decode cX6_words 51 = .ok (.ireturn, 1) := by decide +kernel
theorem dX6_words_52 : decode cX6_words 52 = .ok (.aload_n 0, 1) := by decide +kernel
theorem dX6_words_53 : decode cX6_words 53 = .ok (.getfield 26, 3) := by decide +kernel
theorem dX6_words_56 : decode cX6_words 56 = .ok (.iload_n 2, 1) := by decide +kernel
theorem dX6_words_57 : decode cX6_words 57 = .ok (.iaload, 1) := by decide +kernel
theorem dX6_words_58 : decode cX6_words 58 = .ok (.iload_n 3, 1) := by decide +kernel
theorem dX6_words_59 : decode cX6_words 59 = .ok (.if_icmp .eq 11, 3) := by decide +kernel
theorem dX6_words_62 : decode cX6_words 62 = .ok (.aload_n 0, 1) := by decide +kernel
theorem dX6_words_63 : decode cX6_words 63 = .ok (.sipush (-1012), 3) := by decide +kernel
theorem dX6_words_66 : decode cX6_words 66 = .ok (.invokevirtual 140, 3) := by decide +kernel
theorem dX6_words_69 : decode cX6_words 69 = .ok (.ireturn, 1) := by decide +kernel
theorem dX6_words_70 : decode cX6_words 70 = .ok (.iconst 0, 1) := by decide +kernel
theorem dX6_words_71 : decode cX6_words 71 = .ok (.istore 5, 2) := by decide +kernel
theorem dX6_words_73 : decode cX6_words 73 = .ok (.iload 5, 2) := by decide +kernel
theorem dX6_words_75 : decode cX6_words 75 = .ok (.bipush 6, 2) := by decide +kernel
theorem dX6_words_77 : decode cX6_words 77 = .ok (.if_icmp .ge 56, 3) := by decide +kernel
theorem dX6_words_80 : decode cX6_words 80 = .ok (.iload 4, 2) := by decide +kernel
theorem dX6_words_82 : decode cX6_words 82 = .ok (.i2l, 1) := by decide +kernel
theorem dX6_words_83 : decode cX6_words 83 = .ok (.iload 5, 2) := by decide +kernel
theorem dX6_words_85 : decode cX6_words 85 = .ok (.i2l, 1) := by decide +kernel
theorem dX6_words_86 : decode cX6_words 86 = .ok (.ladd, 1) := by decide +kernel
theorem dX6_words_87 : decode cX6_words 87 = .ok (.lstore 6, 2) := by decide +kernel
theorem dX6_words_89 : decode cX6_words 89 = .ok (.aload_n 0, 1) := by decide +kernel
theorem dX6_words_90 : decode cX6_words 90 = .ok (.iload_n 1, 1) := by decide +kernel
theorem dX6_words_91 : decode cX6_words 91 = .ok (.iload 5, 2) := by decide +kernel
theorem dX6_words_93 : decode cX6_words 93 = .ok (.invokevirtual 146, 3) := by decide +kernel
theorem dX6_words_96 : decode cX6_words 96 = .ok (.ifCond .eq 31, 3) := by decide +kernel
theorem dX6_words_99 : decode cX6_words 99 = .ok (.lload 6, 2) := by decide +kernel
theorem dX6_words_101 : decode cX6_words 101 = .ok (.lconst 0, 1) := by decide +kernel
theorem dX6_words_102 : decode cX6_words 102 = .ok (.lcmp, 1) := by decide +kernel
theorem dX6_words_103 : decode cX6_words 103 = .ok (.ifCond .lt 16, 3) := by decide +kernel
theorem dX6_words_106 : decode cX6_words 106 = .ok (.lload 6, 2) := by decide +kernel
theorem dX6_words_108 : decode cX6_words 108 = .ok (.aload_n 0, 1) := by decide +kernel
theorem dX6_words_109 : decode cX6_words 109 = .ok (.getfield 29, 3) := by decide +kernel
theorem dX6_words_112 : decode cX6_words 112 = .ok (.iload_n 2, 1) := by decide +kernel
theorem dX6_words_113 : decode cX6_words 113 = .ok (.iaload, 1) := by decide +kernel
theorem dX6_words_114 : decode cX6_words 114 = .ok (.i2l, 1) := by decide +kernel
theorem dX6_words_115 : decode cX6_words 115 = .ok (.lcmp, 1) := by decide +kernel
theorem dX6_words_116 : decode cX6_words 116 = .ok (.ifCond .lt 11, 3) := by decide +kernel
theorem dX6_words_119 : decode cX6_words 119 = .ok (.aload_n 0, 1) := by decide +kernel
theorem dX6_words_120 : decode cX6_words 120 = .ok (.sipush (-1011), 3) := by decide +kernel
theorem dX6_words_123 : decode cX6_words 123 = .ok (.invokevirtual 140, 3) := by decide +kernel
theorem dX6_words_126 : decode cX6_words 126 = .ok (.ireturn, 1) := by decide +kernel
theorem dX6_words_127 : decode cX6_words 127 = .ok (.iinc 5 1, 3) := by decide +kernel
theorem dX6_words_130 : decode cX6_words 130 = .ok (.goto (-57), 3) := by decide +kernel
theorem dX6_words_133 : decode cX6_words 133 = .ok (.iconst 0, 1) := by decide +kernel
theorem dX6_words_134 : decode cX6_words 134 = .ok (.istore 5, 2) := by decide +kernel
theorem dX6_words_136 : decode cX6_words 136 = .ok (.iconst 0, 1) := by decide +kernel
theorem dX6_words_137 : decode cX6_words 137 = .ok (.istore 6, 2) := by decide +kernel
theorem dX6_words_139 : decode cX6_words 139 = .ok (.iload 6, 2) := by decide +kernel
theorem dX6_words_141 : decode cX6_words 141 = .ok (.bipush 6, 2) := by decide +kernel
theorem dX6_words_143 : decode cX6_words 143 = .ok (.if_icmp .ge 94, 3) := by decide +kernel
theorem dX6_words_146 : decode cX6_words 146 = .ok (.aload_n 0, 1) := by decide +kernel
theorem dX6_words_147 : decode cX6_words 147 = .ok (.iload_n 1, 1) := by decide +kernel
theorem dX6_words_148 : decode cX6_words 148 = .ok (.iload 6, 2) := by decide +kernel
theorem dX6_words_150 : decode cX6_words 150 = .ok (.invokevirtual 146, 3) := by decide +kernel
theorem dX6_words_153 : decode cX6_words 153 = .ok (.ifCond .eq 78, 3) := by decide +kernel
theorem dX6_words_156 : decode cX6_words 156 = .ok (.aload_n 0, 1) := by decide +kernel
theorem dX6_words_157 : decode cX6_words 157 = .ok (.getfield 32, 3) := by decide +kernel
theorem dX6_words_160 : decode cX6_words 160 = .ok (.bipush 30, 2) := by decide +kernel
theorem dX6_words_162 : decode cX6_words 162 = .ok (.iload_n 2, 1) := by decide +kernel
theorem dX6_words_163 : decode cX6_words 163 = .ok (.imul, 1) := by decide +kernel
theorem dX6_words_164 : decode cX6_words 164 = .ok (.iload 4, 2) := by decide +kernel
theorem dX6_words_166 : decode cX6_words 166 = .ok (.iadd, 1) := by decide +kernel
theorem dX6_words_167 : decode cX6_words 167 = .ok (.iload 6, 2) := by decide +kernel
theorem dX6_words_169 : decode cX6_words 169 = .ok (.iadd, 1) := by decide +kernel
theorem dX6_words_170 : decode cX6_words 170 = .ok (.iaload, 1) := by decide +kernel
theorem dX6_words_171 : decode cX6_words 171 = .ok (.istore 7, 2) := by decide +kernel
theorem dX6_words_173 : decode cX6_words 173 = .ok (.iload 5, 2) := by decide +kernel
theorem dX6_words_175 : decode cX6_words 175 = .ok (.iload 7, 2) := by decide +kernel
theorem dX6_words_177 : decode cX6_words 177 = .ok (.ifCond .lt 10, 3) := by decide +kernel
theorem dX6_words_180 : decode cX6_words 180 = .ok (.iload 7, 2) := by decide +kernel
theorem dX6_words_182 : decode cX6_words 182 = .ok (.bipush 99, 2) := by decide +kernel
theorem dX6_words_184 : decode cX6_words 184 = .ok (.if_icmp .le 7, 3) := by decide +kernel
theorem dX6_words_187 : decode cX6_words 187 = .ok (.iconst 1, 1) := by decide +kernel
theorem dX6_words_188 : decode cX6_words 188 = .ok (.goto 4, 3) := by decide +kernel
theorem dX6_words_191 : decode cX6_words 191 = .ok (.iconst 0, 1) := by decide +kernel
theorem dX6_words_192 : decode cX6_words 192 = .ok (.iadd, 1) := by decide +kernel
theorem dX6_words_193 : decode cX6_words 193 = .ok (.istore 5, 2) := by decide +kernel
theorem dX6_words_195 : decode cX6_words 195 = .ok (.aload_n 0, 1) := by decide +kernel
theorem dX6_words_196 : decode cX6_words 196 = .ok (.getfield 7, 3) := by decide +kernel
theorem dX6_words_199 : decode cX6_words 199 = .ok (.iload_n 1, 1) := by decide +kernel
theorem dX6_words_200 : decode cX6_words 200 = .ok (.iload 6, 2) := by decide +kernel
theorem dX6_words_202 : decode cX6_words 202 = .ok (.invokestatic 75, 3) := by decide +kernel
theorem dX6_words_205 : decode cX6_words 205 = .ok (.iconst 4, 1) := by decide +kernel
theorem dX6_words_206 : decode cX6_words 206 = .ok (.iadd, 1) := by decide +kernel
theorem dX6_words_207 : decode cX6_words 207 = .ok (.iload 7, 2) := by decide +kernel
theorem dX6_words_209 : decode cX6_words 209 = .ok (.ifCond .ge 7, 3) := by decide +kernel
theorem dX6_words_212 : decode cX6_words 212 = .ok (.iconst 0, 1) := by decide +kernel
theorem dX6_words_213 : decode cX6_words 213 = .ok (.goto 17, 3) := by decide +kernel
theorem dX6_words_216 : decode cX6_words 216 = .ok (.iload 7, 2) := by decide +kernel
theorem dX6_words_218 : decode cX6_words 218 = .ok (.bipush 99, 2) := by decide +kernel
theorem dX6_words_220 : decode cX6_words 220 = .ok (.if_icmp .le 8, 3) := by decide +kernel
theorem dX6_words_223 : decode cX6_words 223 = .ok (.bipush 99, 2) := by decide +kernel
theorem dX6_words_225 : decode cX6_words 225 = .ok (.goto 5, 3) := by decide +kernel
theorem dX6_words_228 : decode cX6_words 228 = .ok (.iload 7, 2) := by decide +kernel
theorem dX6_words_230 : decode cX6_words 230 = .ok (.iastore, 1) := by decide +kernel
theorem dX6_words_231 : decode cX6_words 231 = .ok (.iinc 6 1, 3) := by decide +kernel
theorem dX6_words_234 : decode cX6_words 234 = .ok (.goto (-95), 3) := by decide +kernel
theorem dX6_words_237 : decode cX6_words 237 = .ok (.iload 5, 2) := by decide +kernel
theorem dX6_words_239 : decode cX6_words 239 = .ok (.ireturn, 1) := by decide +kernel
theorem dX6_sessions_0 : decode cX6_sessions 0 = .ok (.iload_n 1, 1) := by decide +kernel
theorem dX6_sessions_1 : decode cX6_sessions 1 = .ok (.iconst 0, 1) := by decide +kernel
theorem dX6_sessions_2 : decode cX6_sessions 2 = .ok (.iconst 3, 1) := by decide +kernel
theorem dX6_sessions_3 : decode cX6_sessions 3 = .ok (.invokestatic 67, 3) := by decide +kernel
theorem dX6_sessions_6 : decode cX6_sessions 6 = .ok (.ifCond .eq 14, 3) := by decide +kernel
theorem dX6_sessions_9 : decode cX6_sessions 9 = .ok (.iload_n 2, 1) := by decide +kernel
theorem dX6_sessions_10 : decode cX6_sessions 10 = .ok (.iconst 1, 1) := by decide +kernel
theorem dX6_sessions_11 : decode cX6_sessions 11 = .ok (.sipush 1000, 3) := by decide +kernel
theorem dX6_sessions_14 : decode cX6_sessions 14 = .ok (.invokestatic 67, 3) := by decide +kernel
theorem dX6_sessions_17 : decode cX6_sessions 17 = .ok (.ifCond .ne 7, 3) := by decide +kernel
theorem dX6_sessions_20 : decode cX6_sessions 20 = .ok (.sipush (-1002), 3) := by decide +kernel
theorem dX6_sessions_23 : decode cX6_sessions 23 = .ok (.ireturn, 1) := by decide +kernel
theorem dX6_sessions_24 : decode cX6_sessions 24 = .ok (.iconst 0, 1) := by decide +kernel
theorem dX6_sessions_25 : decode cX6_sessions 25 = .ok (.istore_n 3, 1) := by decide +kernel
theorem dX6_sessions_26 : decode cX6_sessions 26 = .ok (.iconst 0, 1) := by decide +kernel
theorem dX6_sessions_27 : decode cX6_sessions 27 = .ok (.istore 4, 2) := by decide +kernel
theorem dX6_sessions_29 : decode cX6_sessions 29 = .ok (.iconst 0, 1) := by decide +kernel
theorem dX6_sessions_30 : decode cX6_sessions 30 = .ok (.istore 5, 2) := by decide +kernel
theorem dX6_sessions_32 : decode cX6_sessions 32 = .ok (.iload 5, 2) := by decide +kernel
theorem dX6_sessions_34 : decode cX6_sessions 34 = .ok (.bipush 120, 2) := by decide +kernel
theorem dX6_sessions_36 : decode cX6_sessions 36 = .ok (.if_icmp .ge 92, 3) := by decide +kernel
theorem dX6_sessions_39 : decode cX6_sessions 39 = .ok (.iload 5, 2) := by decide +kernel
theorem dX6_sessions_41 : decode cX6_sessions 41 = .ok (.bipush 6, 2) := by decide +kernel
theorem dX6_sessions_43 : decode cX6_sessions 43 = .ok (.idiv, 1) := by decide +kernel
theorem dX6_sessions_44 : decode cX6_sessions 44 = .ok (.iload 5, 2) := by decide +kernel
theorem dX6_sessions_46 : decode cX6_sessions 46 = .ok (.bipush 6, 2) := by decide +kernel
theorem dX6_sessions_48 : decode cX6_sessions 48 = .ok (.irem, 1) := by decide +kernel
theorem dX6_sessions_49 : decode cX6_sessions 49 = .ok (.invokestatic 75, 3) := by decide +kernel
theorem dX6_sessions_52 : decode cX6_sessions 52 = .ok (.istore 6, 2) := by decide +kernel
theorem dX6_sessions_54 : decode cX6_sessions 54 = .ok (.aload_n 0, 1) := by decide +kernel
theorem dX6_sessions_55 : decode cX6_sessions 55 = .ok (.getfield 7, 3) := by decide +kernel
theorem dX6_sessions_58 : decode cX6_sessions 58 = .ok (.iload 6, 2) := by decide +kernel
theorem dX6_sessions_60 : decode cX6_sessions 60 = .ok (.iaload, 1) := by decide +kernel
theorem dX6_sessions_61 : decode cX6_sessions 61 = .ok (.ifCond .le 28, 3) := by decide +kernel
theorem dX6_sessions_64 : decode cX6_sessions 64 = .ok (.aload_n 0, 1) := by decide +kernel
theorem dX6_sessions_65 : decode cX6_sessions 65 = .ok (.getfield 7, 3) := by decide +kernel
theorem dX6_sessions_68 : decode cX6_sessions 68 = .ok (.iload 6, 2) := by decide +kernel
theorem dX6_sessions_70 : decode cX6_sessions 70 = .ok (.iconst 5, 1) := by decide +kernel
theorem dX6_sessions_71 : decode cX6_sessions 71 = .ok (.iadd, 1) := by decide +kernel
theorem dX6_sessions_72 : decode cX6_sessions 72 = .ok (.iaload, 1) := by decide +kernel
theorem dX6_sessions_73 : decode cX6_sessions 73 = .ok (.iload_n 1, 1) := by decide +kernel
theorem dX6_sessions_74 : decode cX6_sessions 74 = .ok (.if_icmp .ne 15, 3) := by decide +kernel
theorem dX6_sessions_77 : decode cX6_sessions 77 = .ok (.aload_n 0, 1) := by decide +kernel
theorem dX6_sessions_78 : decode cX6_sessions 78 = .ok (.getfield 7, 3) := by decide +kernel
theorem dX6_sessions_81 : decode cX6_sessions 81 = .ok (.iload 6, 2) := by decide +kernel
theorem dX6_sessions_83 : decode cX6_sessions 83 = .ok (.iconst 4, 1) := by decide +kernel
theorem dX6_sessions_84 : decode cX6_sessions 84 = .ok (.iadd, 1) := by decide +kernel
theorem dX6_sessions_85 : decode cX6_sessions 85 = .ok (.iaload, 1) := by decide +kernel
theorem dX6_sessions_86 : decode cX6_sessions 86 = .ok (.goto 4, 3) := by decide +kernel
theorem dX6_sessions_89 : decode cX6_sessions 89 = .ok (.iconst 0, 1) := by decide +kernel
theorem dX6_sessions_90 : decode cX6_sessions 90 = .ok (.istore 7, 2) := by decide +kernel
theorem dX6_sessions_92 : decode cX6_sessions 92 = .ok (.iload 7, 2) := by decide +kernel
theorem dX6_sessions_94 : decode cX6_sessions 94 = .ok (.iload_n 2, 1) := by decide +kernel
theorem dX6_sessions_95 : decode cX6_sessions 95 = .ok (.if_icmp .le 7, 3) := by decide +kernel
theorem dX6_sessions_98 : decode cX6_sessions 98 = .ok (.sipush (-1003), 3) := by decide +kernel
theorem dX6_sessions_101 : decode cX6_sessions 101 = .ok (.ireturn, 1) := by decide +kernel
theorem dX6_sessions_102 : decode cX6_sessions 102 = .ok (.iload 7, 2) := by decide +kernel
theorem dX6_sessions_104 : decode cX6_sessions 104 = .ok (.iload 4, 2) := by decide +kernel
theorem dX6_sessions_106 : decode cX6_sessions 106 = .ok (.if_icmp .le 9, 3) := by decide +kernel
theorem dX6_sessions_109 : decode cX6_sessions 109 = .ok (.iinc 3 1, 3) := by decide +kernel
theorem dX6_sessions_112 : decode cX6_sessions 112 = .ok (.iload_n 2, 1) := by decide +kernel
theorem dX6_sessions_113 : decode cX6_sessions 113 = .ok (.istore 4, 2) := by decide +kernel
theorem dX6_sessions_115 : decode cX6_sessions 115 = .ok (.iload 4, 2) := by decide +kernel
theorem dX6_sessions_117 : decode cX6_sessions 117 = .ok (.iload 7, 2) := by decide +kernel
theorem dX6_sessions_119 : decode cX6_sessions 119 = .ok (.isub, 1) := by decide +kernel
theorem dX6_sessions_120 : decode cX6_sessions 120 = .ok (.istore 4, 2) := by decide +kernel
theorem dX6_sessions_122 : decode cX6_sessions 122 = .ok (.iinc 5 1, 3) := by decide +kernel
theorem dX6_sessions_125 : decode cX6_sessions 125 = .ok (.goto (-93), 3) := by decide +kernel
theorem dX6_sessions_128 : decode cX6_sessions 128 = .ok (.iload_n 3, 1) := by decide +kernel
theorem dX6_sessions_129 : decode cX6_sessions 129 = .ok (.ireturn, 1) := by decide +kernel
theorem dX6_tell_0 : decode cX6_tell 0 = .ok (.aload_n 0, 1) := by decide +kernel
theorem dX6_tell_1 : decode cX6_tell 1 = .ok (.getfield 210, 3) := by decide +kernel
theorem dX6_tell_4 : decode cX6_tell 4 = .ok (.bipush 30, 2) := by decide +kernel
theorem dX6_tell_6 : decode cX6_tell 6 = .ok (.if_icmp .ne 7, 3) := by decide +kernel
theorem dX6_tell_9 : decode cX6_tell 9 = .ok (.sipush (-1002), 3) := by decide +kernel
theorem dX6_tell_12 : decode cX6_tell 12 = .ok (.ireturn, 1) := by decide +kernel
theorem dX6_tell_13 : decode cX6_tell 13 = .ok (.aload_n 0, 1) := by decide +kernel
theorem dX6_tell_14 : decode cX6_tell 14 = .ok (.getfield 35, 3) := by decide +kernel
theorem dX6_tell_17 : decode cX6_tell 17 = .ok (.aload_n 0, 1) := by decide +kernel
theorem dX6_tell_18 : decode cX6_tell 18 = .ok (.getfield 210, 3) := by decide +kernel
theorem dX6_tell_21 : decode cX6_tell 21 = .ok (.iload_n 1, 1) := by decide +kernel
theorem dX6_tell_22 : decode cX6_tell 22 = .ok (.iastore, 1) := by decide +kernel
theorem dX6_tell_23 : decode cX6_tell 23 = .ok (.aload_n 0, 1) := by decide +kernel
theorem dX6_tell_24 : decode cX6_tell 24 = .ok (.dup, 1) := by decide +kernel
theorem dX6_tell_25 : decode cX6_tell 25 = .ok (.getfield 210, 3) := by decide +kernel
theorem dX6_tell_28 : decode cX6_tell 28 = .ok (.iconst 1, 1) := by decide +kernel
theorem dX6_tell_29 : decode cX6_tell 29 = .ok (.iadd, 1) := by decide +kernel
theorem dX6_tell_30 : decode cX6_tell 30 = .ok (.putfield 210, 3) := by decide +kernel
theorem dX6_tell_33 : decode cX6_tell 33 = .ok (.aload_n 0, 1) := by decide +kernel
theorem dX6_tell_34 : decode cX6_tell 34 = .ok (.getfield 210, 3) := by decide +kernel
theorem dX6_tell_37 : decode cX6_tell 37 = .ok (.ireturn, 1) := by decide +kernel
theorem dX6_play_0 : decode cX6_play 0 = .ok (.aload_n 0, 1) := by decide +kernel
theorem dX6_play_1 : decode cX6_play 1 = .ok (.getfield 210, 3) := by decide +kernel
theorem dX6_play_4 : decode cX6_play 4 = .ok (.istore_n 1, 1) := by decide +kernel
theorem dX6_play_5 : decode cX6_play 5 = .ok (.aload_n 0, 1) := by decide +kernel
theorem dX6_play_6 : decode cX6_play 6 = .ok (.iconst 0, 1) := by decide +kernel
theorem dX6_play_7 : decode cX6_play 7 = .ok (.putfield 210, 3) := by decide +kernel
theorem dX6_play_10 : decode cX6_play 10 = .ok (.aload_n 0, 1) := by decide +kernel
theorem dX6_play_11 : decode cX6_play 11 = .ok (.iconst 0, 1) := by decide +kernel
theorem dX6_play_12 : decode cX6_play 12 = .ok (.iconst 1, 1) := by decide +kernel
theorem dX6_play_13 : decode cX6_play 13 = .ok (.invokevirtual 161, 3) := by decide +kernel
theorem dX6_play_16 : decode cX6_play 16 = .ok (.ifCond .eq 7, 3) := by decide +kernel
theorem dX6_play_19 : decode cX6_play 19 = .ok (.sipush (-1003), 3) := by decide +kernel
theorem dX6_play_22 : decode cX6_play 22 = .ok (.ireturn, 1) := by decide +kernel
theorem dX6_play_23 : decode cX6_play 23 = .ok (.aload_n 0, 1) := by decide +kernel
theorem dX6_play_24 : decode cX6_play 24 = .ok (.getfield 7, 3) := by decide +kernel
theorem dX6_play_27 : decode cX6_play 27 = .ok (.sipush 1880, 3) := by decide +kernel
theorem dX6_play_30 : decode cX6_play 30 = .ok (.iaload, 1) := by decide +kernel
theorem dX6_play_31 : decode cX6_play 31 = .ok (.istore_n 2, 1) := by decide +kernel
theorem dX6_play_32 : decode cX6_play 32 = .ok (.iconst 0, 1) := by decide +kernel
theorem dX6_play_33 : decode cX6_play 33 = .ok (.istore_n 3, 1) := by decide +kernel
theorem dX6_play_34 : decode cX6_play 34 = .ok (.iconst 1, 1) := by decide +kernel
theorem dX6_play_35 : decode cX6_play 35 = .ok (.istore 4, 2) := by decide +kernel
theorem dX6_play_37 : decode cX6_play 37 = .ok (.iconst 0, 1) := by decide +kernel
theorem dX6_play_38 : decode cX6_play 38 = .ok (.istore 5, 2) := by decide +kernel
theorem dX6_play_40 : decode cX6_play 40 = .ok (.iload 5, 2) := by decide +kernel
theorem dX6_play_42 : decode cX6_play 42 = .ok (.iload_n 1, 1) := by decide +kernel
theorem dX6_play_43 : decode cX6_play 43 = .ok (.if_icmp .ge 85, 3) := by decide +kernel
theorem dX6_play_46 : decode cX6_play 46 = .ok (.iload 4, 2) := by decide +kernel
theorem dX6_play_48 : decode cX6_play 48 = .ok (.ifCond .eq 80, 3) := by decide +kernel
theorem dX6_play_51 : decode cX6_play 51 = .ok (.aload_n 0, 1) := by decide +kernel
theorem dX6_play_52 : decode cX6_play 52 = .ok (.getfield 35, 3) := by decide +kernel
theorem dX6_play_55 : decode cX6_play 55 = .ok (.iload 5, 2) := by decide +kernel
theorem dX6_play_57 : decode cX6_play 57 = .ok (.iaload, 1) := by decide +kernel
theorem dX6_play_58 : decode cX6_play 58 = .ok (.iconst 0, 1) := by decide +kernel
theorem dX6_play_59 : decode cX6_play 59 = .ok (.iconst 5, 1) := by decide +kernel
theorem dX6_play_60 : decode cX6_play 60 = .ok (.invokestatic 67, 3) := by decide +kernel
theorem dX6_play_63 : decode cX6_play 63 = .ok (.ifCond .eq 19, 3) := by decide +kernel
theorem dX6_play_66 : decode cX6_play 66 = .ok (.aload_n 0, 1) := by decide +kernel
theorem dX6_play_67 : decode cX6_play 67 = .ok (.iload_n 2, 1) := by decide +kernel
theorem dX6_play_68 : decode cX6_play 68 = .ok (.aload_n 0, 1) := by decide +kernel
theorem dX6_play_69 : decode cX6_play 69 = .ok (.getfield 35, 3) := by decide +kernel
theorem dX6_play_72 : decode cX6_play 72 = .ok (.iload 5, 2) := by decide +kernel
theorem dX6_play_74 : decode cX6_play 74 = .ok (.iaload, 1) := by decide +kernel
theorem dX6_play_75 : decode cX6_play 75 = .ok (.iconst 1, 1) := by decide +kernel
theorem dX6_play_76 : decode cX6_play 76 = .ok (.invokevirtual 168, 3) := by decide +kernel
theorem dX6_play_79 : decode cX6_play 79 = .ok (.goto 4, 3) := by decide +kernel
theorem dX6_play_82 : decode cX6_play 82 = .ok (.iconst (-1), 1) := by decide +kernel
theorem dX6_play_83 : decode cX6_play 83 = .ok (.istore 6, 2) := by decide +kernel
theorem dX6_play_85 : decode cX6_play 85 = .ok (.iload 6, 2) := by decide +kernel
theorem dX6_play_87 : decode cX6_play 87 = .ok (.ifCond .lt 7, 3) := by decide +kernel
theorem dX6_play_90 : decode cX6_play 90 = .ok (.iconst 1, 1) := by decide +kernel
theorem dX6_play_91 : decode cX6_play 91 = .ok (.goto 4, 3) := by decide +kernel
theorem dX6_play_94 : decode cX6_play 94 = .ok (.iconst 0, 1) := by decide +kernel
theorem dX6_play_95 : decode cX6_play 95 = .ok (.istore 4, 2) := by decide +kernel
theorem dX6_play_97 : decode cX6_play 97 = .ok (.iload 4, 2) := by decide +kernel
theorem dX6_play_99 : decode cX6_play 99 = .ok (.ifCond .eq 8, 3) := by decide +kernel
theorem dX6_play_102 : decode cX6_play 102 = .ok (.iload 6, 2) := by decide +kernel
theorem dX6_play_104 : decode cX6_play 104 = .ok (.goto 4, 3) := by decide +kernel
theorem dX6_play_107 : decode cX6_play 107 = .ok (.iload_n 2, 1) := by decide +kernel
theorem dX6_play_108 : decode cX6_play 108 = .ok (.istore_n 2, 1) := by decide +kernel
theorem dX6_play_109 : decode cX6_play 109 = .ok (.iload_n 3, 1) := by decide +kernel
theorem dX6_play_110 : decode cX6_play 110 = .ok (.iload 4, 2) := by decide +kernel
theorem dX6_play_112 : decode cX6_play 112 = .ok (.ifCond .eq 7, 3) := by decide +kernel
theorem dX6_play_115 : decode cX6_play 115 = .ok (.iconst 1, 1) := by decide +kernel
theorem dX6_play_116 : decode cX6_play 116 = .ok (.goto 4, 3) := by decide +kernel
theorem dX6_play_119 : decode cX6_play 119 = .ok (.iconst 0, 1) := by decide +kernel
theorem dX6_play_120 : decode cX6_play 120 = .ok (.iadd, 1) := by decide +kernel
theorem dX6_play_121 : decode cX6_play 121 = .ok (.istore_n 3, 1) := by decide +kernel
theorem dX6_play_122 : decode cX6_play 122 = .ok (.iinc 5 1, 3) := by decide +kernel
theorem dX6_play_125 : decode cX6_play 125 = .ok (.goto (-85), 3) := by decide +kernel
theorem dX6_play_128 : decode cX6_play 128 = .ok (.aload_n 0, 1) := by decide +kernel
theorem dX6_play_129 : decode cX6_play 129 = .ok (.iconst 1, 1) := by decide +kernel
theorem dX6_play_130 : decode cX6_play 130 = .ok (.putfield 213, 3) := by decide +kernel
theorem dX6_play_133 : decode cX6_play 133 = .ok (.aload_n 0, 1) := by decide +kernel
theorem dX6_play_134 : decode cX6_play 134 = .ok (.iload_n 2, 1) := by decide +kernel
theorem dX6_play_135 : decode cX6_play 135 = .ok (.sipush 256, 3) := by decide +kernel
theorem dX6_play_138 : decode cX6_play 138 = .ok (.idiv, 1) := by decide +kernel
theorem dX6_play_139 : decode cX6_play 139 = .ok (.putfield 216, 3) := by decide +kernel
theorem dX6_play_142 : decode cX6_play 142 = .ok (.aload_n 0, 1) := by decide +kernel
theorem dX6_play_143 : decode cX6_play 143 = .ok (.iload_n 2, 1) := by decide +kernel
theorem dX6_play_144 : decode cX6_play 144 = .ok (.sipush 256, 3) := by decide +kernel
theorem dX6_play_147 : decode cX6_play 147 = .ok (.irem, 1) := by decide +kernel
theorem dX6_play_148 : decode cX6_play 148 = .ok (.putfield 219, 3) := by decide +kernel
theorem dX6_play_151 : decode cX6_play 151 = .ok (.iload_n 3, 1) := by decide +kernel
theorem dX6_play_152 : decode cX6_play 152 = .ok (.ireturn, 1) := by decide +kernel
theorem dX6_at__0 : decode cX6_at_ 0 = .ok (.aload_n 0, 1) := by decide +kernel
theorem dX6_at__1 : decode cX6_at_ 1 = .ok (.getfield 213, 3) := by decide +kernel
theorem dX6_at__4 : decode cX6_at_ 4 = .ok (.ifCond .ne 7, 3) := by decide +kernel
theorem dX6_at__7 : decode cX6_at_ 7 = .ok (.sipush (-1003), 3) := by decide +kernel
theorem dX6_at__10 : decode cX6_at_ 10 = .ok (.ireturn, 1) := by decide +kernel
theorem dX6_at__11 : decode cX6_at_ 11 = .ok (.iload_n 1, 1) := by decide +kernel
theorem dX6_at__12 : decode cX6_at_ 12 = .ok (.ifCond .ne 10, 3) := by decide +kernel
theorem dX6_at__15 : decode cX6_at_ 15 = .ok (.aload_n 0, 1) := by decide +kernel
theorem dX6_at__16 : decode cX6_at_ 16 = .ok (.getfield 216, 3) := by decide +kernel
theorem dX6_at__19 : decode cX6_at_ 19 = .ok (.goto 18, 3) := by decide +kernel
theorem dX6_at__22 : decode cX6_at_ 22 = .ok (.iload_n 1, 1) := by decide +kernel
theorem dX6_at__23 : decode cX6_at_ 23 = .ok (.iconst 1, 1) := by decide +kernel
theorem dX6_at__24 : decode cX6_at_ 24 = .ok (.if_icmp .ne 10, 3) := by decide +kernel
theorem dX6_at__27 : decode cX6_at_ 27 = .ok (.aload_n 0, 1) := by decide +kernel
theorem dX6_at__28 : decode cX6_at_ 28 = .ok (.getfield 219, 3) := by decide +kernel
theorem dX6_at__31 : decode cX6_at_ 31 = .ok (.goto 6, 3) := by decide +kernel
theorem dX6_at__34 : decode cX6_at_ 34 = .ok (.sipush (-1002), 3) := by decide +kernel
theorem dX6_at__37 : decode cX6_at_ 37 = .ok (.ireturn, 1) := by decide +kernel
theorem dX6_carry_0 : decode cX6_carry 0 = .ok (.iconst 0, 1) := by decide +kernel
theorem dX6_carry_1 : decode cX6_carry 1 = .ok (.istore_n 2, 1) := by decide +kernel
theorem dX6_carry_2 : decode cX6_carry 2 = .ok (.iload_n 2, 1) := by decide +kernel
theorem dX6_carry_3 : decode cX6_carry 3 = .ok (.sipush 1881, 3) := by decide +kernel
theorem dX6_carry_6 : decode cX6_carry 6 = .ok (.if_icmp .ge 15, 3) := by decide +kernel
theorem dX6_carry_9 : decode cX6_carry 9 = .ok (.aload_n 1, 1) := by decide +kernel
theorem dX6_carry_10 : decode cX6_carry 10 = .ok (.iload_n 2, 1) := by decide +kernel
theorem dX6_carry_11 : decode cX6_carry 11 = .ok (.aload_n 0, 1) := by decide +kernel
theorem dX6_carry_12 : decode cX6_carry 12 = .ok (.iload_n 2, 1) := by decide +kernel
theorem dX6_carry_13 : decode cX6_carry 13 = .ok (.iaload, 1) := by decide +kernel
theorem dX6_carry_14 : decode cX6_carry 14 = .ok (.iastore, 1) := by decide +kernel
theorem dX6_carry_15 : decode cX6_carry 15 = .ok (.iinc 2 1, 3) := by decide +kernel
theorem dX6_carry_18 : decode cX6_carry 18 = .ok (.goto (-16), 3) := by decide +kernel
theorem dX6_carry_21 : decode cX6_carry 21 = .ok (.return_, 1) := by decide +kernel
theorem dX6_keep_0 : decode cX6_keep 0 = .ok (.iload_n 1, 1) := by decide +kernel
theorem dX6_keep_1 : decode cX6_keep 1 = .ok (.iconst 0, 1) := by decide +kernel
theorem dX6_keep_2 : decode cX6_keep 2 = .ok (.iconst 1, 1) := by decide +kernel
theorem dX6_keep_3 : decode cX6_keep 3 = .ok (.invokestatic 67, 3) := by decide +kernel
theorem dX6_keep_6 : decode cX6_keep 6 = .ok (.ifCond .ne 7, 3) := by decide +kernel
theorem dX6_keep_9 : decode cX6_keep 9 = .ok (.sipush (-1002), 3) := by decide +kernel
theorem dX6_keep_12 : decode cX6_keep 12 = .ok (.ireturn, 1) := by decide +kernel
theorem dX6_keep_13 : decode cX6_keep 13 = .ok (.aload_n 0, 1) := by decide +kernel
theorem dX6_keep_14 : decode cX6_keep 14 = .ok (.getfield 7, 3) := by decide +kernel
theorem dX6_keep_17 : decode cX6_keep 17 = .ok (.iload_n 1, 1) := by decide +kernel
theorem dX6_keep_18 : decode cX6_keep 18 = .ok (.ifCond .ne 10, 3) := by decide +kernel
theorem dX6_keep_21 : decode cX6_keep 21 = .ok (.aload_n 0, 1) := by decide +kernel
theorem dX6_keep_22 : decode cX6_keep 22 = .ok (.getfield 13, 3) := by decide +kernel
theorem dX6_keep_25 : decode cX6_keep 25 = .ok (.goto 7, 3) := by decide +kernel
theorem dX6_keep_28 : decode cX6_keep 28 = .ok (.aload_n 0, 1) := by decide +kernel
theorem dX6_keep_29 : decode cX6_keep 29 = .ok (.getfield 16, 3) := by decide +kernel
theorem dX6_keep_32 : decode cX6_keep 32 = .ok (.invokestatic 222, 3) := by decide +kernel
theorem dX6_keep_35 : decode cX6_keep 35 = .ok (.aload_n 0, 1) := by decide +kernel
theorem dX6_keep_36 : decode cX6_keep 36 = .ok (.dup, 1) := by decide +kernel
theorem dX6_keep_37 : decode cX6_keep 37 = .ok (.getfield 226, 3) := by decide +kernel
theorem dX6_keep_40 : decode cX6_keep 40 = .ok (.iload_n 1, 1) := by decide +kernel
theorem dX6_keep_41 : decode cX6_keep 41 = .ok (.ifCond .ne 7, 3) := by decide +kernel
theorem dX6_keep_44 : decode cX6_keep 44 = .ok (.iconst 1, 1) := by decide +kernel
theorem dX6_keep_45 : decode cX6_keep 45 = .ok (.goto 4, 3) := by decide +kernel
theorem dX6_keep_48 : decode cX6_keep 48 = .ok (.iconst 0, 1) := by decide +kernel
theorem dX6_keep_49 : decode cX6_keep 49 = .ok (.ior, 1) := by decide +kernel
theorem dX6_keep_50 : decode cX6_keep 50 = .ok (.putfield 226, 3) := by decide +kernel
theorem dX6_keep_53 : decode cX6_keep 53 = .ok (.aload_n 0, 1) := by decide +kernel
theorem dX6_keep_54 : decode cX6_keep 54 = .ok (.dup, 1) := by decide +kernel
theorem dX6_keep_55 : decode cX6_keep 55 = .ok (.getfield 229, 3) := by decide +kernel
theorem dX6_keep_58 : decode cX6_keep 58 = .ok (.iload_n 1, 1) := by decide +kernel
theorem dX6_keep_59 : decode cX6_keep 59 = .ok (.iconst 1, 1) := by decide +kernel
theorem dX6_keep_60 : decode cX6_keep 60 = .ok (.if_icmp .ne 7, 3) := by decide +kernel
theorem dX6_keep_63 : decode cX6_keep 63 = .ok (.iconst 1, 1) := by decide +kernel
theorem dX6_keep_64 : decode cX6_keep 64 = .ok (.goto 4, 3) := by decide +kernel
theorem dX6_keep_67 : decode cX6_keep 67 = .ok (.iconst 0, 1) := by decide +kernel
theorem dX6_keep_68 : decode cX6_keep 68 = .ok (.ior, 1) := by decide +kernel
theorem dX6_keep_69 : decode cX6_keep 69 = .ok (.putfield 229, 3) := by decide +kernel
theorem dX6_keep_72 : decode cX6_keep 72 = .ok (.iconst 1, 1) := by decide +kernel
theorem dX6_keep_73 : decode cX6_keep 73 = .ok (.ireturn, 1) := by decide +kernel
theorem dX6_back_0 : decode cX6_back 0 = .ok (.iload_n 1, 1) := by decide +kernel
theorem dX6_back_1 : decode cX6_back 1 = .ok (.iconst 0, 1) := by decide +kernel
theorem dX6_back_2 : decode cX6_back 2 = .ok (.iconst 1, 1) := by decide +kernel
theorem dX6_back_3 : decode cX6_back 3 = .ok (.invokestatic 67, 3) := by decide +kernel
theorem dX6_back_6 : decode cX6_back 6 = .ok (.ifCond .ne 7, 3) := by decide +kernel
theorem dX6_back_9 : decode cX6_back 9 = .ok (.sipush (-1002), 3) := by decide +kernel
theorem dX6_back_12 : decode cX6_back 12 = .ok (.ireturn, 1) := by decide +kernel
theorem dX6_back_13 : decode cX6_back 13 = .ok (.iload_n 1, 1) := by decide +kernel
theorem dX6_back_14 : decode cX6_back 14 = .ok (.ifCond .ne 13, 3) := by decide +kernel
theorem dX6_back_17 : decode cX6_back 17 = .ok (.aload_n 0, 1) := by decide +kernel
theorem dX6_back_18 : decode cX6_back 18 = .ok (.getfield 226, 3) := by decide +kernel
theorem dX6_back_21 : decode cX6_back 21 = .ok (.ifCond .ne 21, 3) := by decide +kernel
theorem dX6_back_24 : decode cX6_back 24 = .ok (.goto 10, 3) := by decide +kernel
theorem dX6_back_27 : decode cX6_back 27 = .ok (.aload_n 0, 1) := by decide +kernel
theorem dX6_back_28 : decode cX6_back 28 = .ok (.getfield 229, 3) := by decide +kernel
theorem dX6_back_31 : decode cX6_back 31 = .ok (.ifCond .ne 11, 3) := by decide +kernel
theorem dX6_back_34 : decode cX6_back 34 = .ok (.aload_n 0, 1) := by decide +kernel
theorem dX6_back_35 : decode cX6_back 35 = .ok (.sipush (-1010), 3) := by decide +kernel
theorem dX6_back_38 : decode cX6_back 38 = .ok (.invokevirtual 140, 3) := by decide +kernel
theorem dX6_back_41 : decode cX6_back 41 = .ok (.ireturn, 1) := by decide +kernel
theorem dX6_back_42 : decode cX6_back 42 = .ok (.iload_n 1, 1) := by decide +kernel
theorem dX6_back_43 : decode cX6_back 43 = .ok (.ifCond .ne 10, 3) := by decide +kernel
theorem dX6_back_46 : decode cX6_back 46 = .ok (.aload_n 0, 1) := by decide +kernel
theorem dX6_back_47 : decode cX6_back 47 = .ok (.getfield 13, 3) := by decide +kernel
theorem dX6_back_50 : decode cX6_back 50 = .ok (.goto 7, 3) := by decide +kernel
theorem dX6_back_53 : decode cX6_back 53 = .ok (.aload_n 0, 1) := by decide +kernel
theorem dX6_back_54 : decode cX6_back 54 = .ok (.getfield 16, 3) := by decide +kernel
theorem dX6_back_57 : decode cX6_back 57 = .ok (.aload_n 0, 1) := by decide +kernel
theorem dX6_back_58 : decode cX6_back 58 = .ok (.getfield 7, 3) := by decide +kernel
theorem dX6_back_61 : decode cX6_back 61 = .ok (.invokestatic 222, 3) := by decide +kernel
theorem dX6_back_64 : decode cX6_back 64 = .ok (.iconst 1, 1) := by decide +kernel
theorem dX6_back_65 : decode cX6_back 65 = .ok (.ireturn, 1) := by decide +kernel
theorem dX6_itemFrom_0 : decode cX6_itemFrom 0 = .ok (.iload_n 0, 1) := by decide +kernel
theorem dX6_itemFrom_1 : decode cX6_itemFrom 1 = .ok (.sipush 140, 3) := by decide +kernel
theorem dX6_itemFrom_4 : decode cX6_itemFrom 4 = .ok (.if_icmp .ne 9, 3) := by decide +kernel
theorem dX6_itemFrom_7 : decode cX6_itemFrom 7 = .ok (.sipush 1880, 3) := by decide +kernel
theorem dX6_itemFrom_10 : decode cX6_itemFrom 10 = .ok (.goto 33, 3) := by decide +kernel
theorem dX6_itemFrom_13 : decode cX6_itemFrom 13 = .ok (.iload_n 0, 1) := by decide +kernel
theorem dX6_itemFrom_14 : decode cX6_itemFrom 14 = .ok (.bipush 7, 2) := by decide +kernel
theorem dX6_itemFrom_16 : decode cX6_itemFrom 16 = .ok (.irem, 1) := by decide +kernel
theorem dX6_itemFrom_17 : decode cX6_itemFrom 17 = .ok (.ifCond .ne 13, 3) := by decide +kernel
theorem dX6_itemFrom_20 : decode cX6_itemFrom 20 = .ok (.bipush 10, 2) := by decide +kernel
theorem dX6_itemFrom_22 : decode cX6_itemFrom 22 = .ok (.iload_n 0, 1) := by decide +kernel
theorem dX6_itemFrom_23 : decode cX6_itemFrom 23 = .ok (.bipush 7, 2) := by decide +kernel
theorem dX6_itemFrom_25 : decode cX6_itemFrom 25 = .ok (.idiv, 1) := by decide +kernel
theorem dX6_itemFrom_26 : decode cX6_itemFrom 26 = .ok (.imul, 1) := by decide +kernel
theorem dX6_itemFrom_27 : decode cX6_itemFrom 27 = .ok (.goto 16, 3) := by decide +kernel
theorem dX6_itemFrom_30 : decode cX6_itemFrom 30 = .ok (.iload_n 0, 1) := by decide +kernel
theorem dX6_itemFrom_31 : decode cX6_itemFrom 31 = .ok (.bipush 7, 2) := by decide +kernel
theorem dX6_itemFrom_33 : decode cX6_itemFrom 33 = .ok (.idiv, 1) := by decide +kernel
theorem dX6_itemFrom_34 : decode cX6_itemFrom 34 = .ok (.iload_n 0, 1) := by decide +kernel
theorem dX6_itemFrom_35 : decode cX6_itemFrom 35 = .ok (.bipush 7, 2) := by decide +kernel
theorem dX6_itemFrom_37 : decode cX6_itemFrom 37 = .ok (.irem, 1) := by decide +kernel
theorem dX6_itemFrom_38 : decode cX6_itemFrom 38 = .ok (.iconst 1, 1) := by decide +kernel
theorem dX6_itemFrom_39 : decode cX6_itemFrom 39 = .ok (.isub, 1) := by decide +kernel
theorem dX6_itemFrom_40 : decode cX6_itemFrom 40 = .ok (.invokestatic 75, 3) := by decide +kernel
theorem dX6_itemFrom_43 : decode cX6_itemFrom 43 = .ok (.ireturn, 1) := by decide +kernel
theorem dX6_itemWide_0 : decode cX6_itemWide 0 = .ok (.iload_n 0, 1) := by decide +kernel
theorem dX6_itemWide_1 : decode cX6_itemWide 1 = .ok (.sipush 140, 3) := by decide +kernel
theorem dX6_itemWide_4 : decode cX6_itemWide 4 = .ok (.if_icmp .ne 7, 3) := by decide +kernel
theorem dX6_itemWide_7 : decode cX6_itemWide 7 = .ok (.iconst 1, 1) := by decide +kernel
theorem dX6_itemWide_8 : decode cX6_itemWide 8 = .ok (.goto 17, 3) := by decide +kernel
theorem dX6_itemWide_11 : decode cX6_itemWide 11 = .ok (.iload_n 0, 1) := by decide +kernel
theorem dX6_itemWide_12 : decode cX6_itemWide 12 = .ok (.bipush 7, 2) := by decide +kernel
theorem dX6_itemWide_14 : decode cX6_itemWide 14 = .ok (.irem, 1) := by decide +kernel
theorem dX6_itemWide_15 : decode cX6_itemWide 15 = .ok (.ifCond .ne 8, 3) := by decide +kernel
theorem dX6_itemWide_18 : decode cX6_itemWide 18 = .ok (.bipush 10, 2) := by decide +kernel
theorem dX6_itemWide_20 : decode cX6_itemWide 20 = .ok (.goto 5, 3) := by decide +kernel
theorem dX6_itemWide_23 : decode cX6_itemWide 23 = .ok (.bipush 14, 2) := by decide +kernel
theorem dX6_itemWide_25 : decode cX6_itemWide 25 = .ok (.ireturn, 1) := by decide +kernel
theorem dX6_differs_0 : decode cX6_differs 0 = .ok (.iconst 0, 1) := by decide +kernel
theorem dX6_differs_1 : decode cX6_differs 1 = .ok (.istore_n 3, 1) := by decide +kernel
theorem dX6_differs_2 : decode cX6_differs 2 = .ok (.iload_n 0, 1) := by decide +kernel
theorem dX6_differs_3 : decode cX6_differs 3 = .ok (.invokestatic 232, 3) := by decide +kernel
theorem dX6_differs_6 : decode cX6_differs 6 = .ok (.istore 4, 2) := by decide +kernel
theorem dX6_differs_8 : decode cX6_differs 8 = .ok (.iload 4, 2) := by decide +kernel
theorem dX6_differs_10 : decode cX6_differs 10 = .ok (.istore 5, 2) := by decide +kernel
theorem dX6_differs_12 : decode cX6_differs 12 = .ok (.iload 5, 2) := by decide +kernel
theorem dX6_differs_14 : decode cX6_differs 14 = .ok (.iload 4, 2) := by decide +kernel
theorem dX6_differs_16 : decode cX6_differs 16 = .ok (.iload_n 0, 1) := by decide +kernel
theorem dX6_differs_17 : decode cX6_differs 17 = .ok (.invokestatic 235, 3) := by decide +kernel
theorem dX6_differs_20 : decode cX6_differs 20 = .ok (.iadd, 1) := by decide +kernel
theorem dX6_differs_21 : decode cX6_differs 21 = .ok (.if_icmp .ge 28, 3) := by decide +kernel
theorem dX6_differs_24 : decode cX6_differs 24 = .ok (.iload_n 3, 1) := by decide +kernel
theorem dX6_differs_25 : decode cX6_differs 25 = .ok (.aload_n 1, 1) := by decide +kernel
theorem dX6_differs_26 : decode cX6_differs 26 = .ok (.iload 5, 2) := by decide +kernel
theorem dX6_differs_28 : decode cX6_differs 28 = .ok (.iaload, 1) := by decide +kernel
theorem dX6_differs_29 : decode cX6_differs 29 = .ok (.aload_n 2, 1) := by decide +kernel
theorem dX6_differs_30 : decode cX6_differs 30 = .ok (.iload 5, 2) := by decide +kernel
theorem dX6_differs_32 : decode cX6_differs 32 = .ok (.iaload, 1) := by decide +kernel
theorem dX6_differs_33 : decode cX6_differs 33 = .ok (.if_icmp .eq 7, 3) := by decide +kernel
theorem dX6_differs_36 : decode cX6_differs 36 = .ok (.iconst 1, 1) := by decide +kernel
theorem dX6_differs_37 : decode cX6_differs 37 = .ok (.goto 4, 3) := by decide +kernel
theorem dX6_differs_40 : decode cX6_differs 40 = .ok (.iconst 0, 1) := by decide +kernel
theorem dX6_differs_41 : decode cX6_differs 41 = .ok (.ior, 1) := by decide +kernel
theorem dX6_differs_42 : decode cX6_differs 42 = .ok (.istore_n 3, 1) := by decide +kernel
theorem dX6_differs_43 : decode cX6_differs 43 = .ok (.iinc 5 1, 3) := by decide +kernel
theorem dX6_differs_46 : decode cX6_differs 46 = .ok (.goto (-34), 3) := by decide +kernel
theorem dX6_differs_49 : decode cX6_differs 49 = .ok (.iload_n 3, 1) := by decide +kernel
theorem dX6_differs_50 : decode cX6_differs 50 = .ok (.ireturn, 1) := by decide +kernel
theorem dX6_clashes_0 : decode cX6_clashes 0 = .ok (.iload_n 1, 1) := by decide +kernel
theorem dX6_clashes_1 : decode cX6_clashes 1 = .ok (.aload_n 0, 1) := by decide +kernel
theorem dX6_clashes_2 : decode cX6_clashes 2 = .ok (.getfield 7, 3) := by decide +kernel
theorem dX6_clashes_5 : decode cX6_clashes 5 = .ok (.aload_n 0, 1) := by decide +kernel
theorem dX6_clashes_6 : decode cX6_clashes 6 = .ok (.getfield 16, 3) := by decide +kernel
theorem dX6_clashes_9 : decode cX6_clashes 9 = .ok (.invokestatic 238, 3) := by decide +kernel
theorem dX6_clashes_12 : decode cX6_clashes 12 = .ok (.ifCond .eq 37, 3) := by decide +kernel
theorem dX6_clashes_15 : decode cX6_clashes 15 = .ok (.iload_n 1, 1) := by decide +kernel
theorem dX6_clashes_16 : decode cX6_clashes 16 = .ok (.aload_n 0, 1) := by decide +kernel
theorem dX6_clashes_17 : decode cX6_clashes 17 = .ok (.getfield 7, 3) := by decide +kernel
theorem dX6_clashes_20 : decode cX6_clashes 20 = .ok (.aload_n 0, 1) := by decide +kernel
theorem dX6_clashes_21 : decode cX6_clashes 21 = .ok (.getfield 13, 3) := by decide +kernel
theorem dX6_clashes_24 : decode cX6_clashes 24 = .ok (.invokestatic 238, 3) := by decide +kernel
theorem dX6_clashes_27 : decode cX6_clashes 27 = .ok (.ifCond .eq 22, 3) := by decide +kernel
theorem dX6_clashes_30 : decode cX6_clashes 30 = .ok (.iload_n 1, 1) := by decide +kernel
theorem dX6_clashes_31 : decode cX6_clashes 31 = .ok (.aload_n 0, 1) := by decide +kernel
theorem dX6_clashes_32 : decode cX6_clashes 32 = .ok (.getfield 16, 3) := by decide +kernel
theorem dX6_clashes_35 : decode cX6_clashes 35 = .ok (.aload_n 0, 1) := by decide +kernel
theorem dX6_clashes_36 : decode cX6_clashes 36 = .ok (.getfield 13, 3) := by decide +kernel
theorem dX6_clashes_39 : decode cX6_clashes 39 = .ok (.invokestatic 238, 3) := by decide +kernel
theorem dX6_clashes_42 : decode cX6_clashes 42 = .ok (.ifCond .eq 7, 3) := by decide +kernel
theorem dX6_clashes_45 : decode cX6_clashes 45 = .ok (.iconst 1, 1) := by decide +kernel
theorem dX6_clashes_46 : decode cX6_clashes 46 = .ok (.goto 4, 3) := by decide +kernel
theorem dX6_clashes_49 : decode cX6_clashes 49 = .ok (.iconst 0, 1) := by decide +kernel
theorem dX6_clashes_50 : decode cX6_clashes 50 = .ok (.ireturn, 1) := by decide +kernel
theorem dX6_melt_0 : decode cX6_melt 0 = .ok (.aload_n 0, 1) := by decide +kernel
theorem dX6_melt_1 : decode cX6_melt 1 = .ok (.getfield 226, 3) := by decide +kernel
theorem dX6_melt_4 : decode cX6_melt 4 = .ok (.ifCond .eq 10, 3) := by decide +kernel
theorem dX6_melt_7 : decode cX6_melt 7 = .ok (.aload_n 0, 1) := by decide +kernel
theorem dX6_melt_8 : decode cX6_melt 8 = .ok (.getfield 229, 3) := by decide +kernel
theorem dX6_melt_11 : decode cX6_melt 11 = .ok (.ifCond .ne 11, 3) := by decide +kernel
theorem dX6_melt_14 : decode cX6_melt 14 = .ok (.aload_n 0, 1) := by decide +kernel
theorem dX6_melt_15 : decode cX6_melt 15 = .ok (.sipush (-1010), 3) := by decide +kernel
theorem dX6_melt_18 : decode cX6_melt 18 = .ok (.invokevirtual 140, 3) := by decide +kernel
theorem dX6_melt_21 : decode cX6_melt 21 = .ok (.ireturn, 1) := by decide +kernel
theorem dX6_melt_22 : decode cX6_melt 22 = .ok (.iconst 0, 1) := by decide +kernel
theorem dX6_melt_23 : decode cX6_melt 23 = .ok (.istore_n 1, 1) := by decide +kernel
theorem dX6_melt_24 : decode cX6_melt 24 = .ok (.iload_n 1, 1) := by decide +kernel
theorem dX6_melt_25 : decode cX6_melt 25 = .ok (.sipush 141, 3) := by decide +kernel
theorem dX6_melt_28 : decode cX6_melt 28 = .ok (.if_icmp .ge 21, 3) := by decide +kernel
theorem dX6_melt_31 : decode cX6_melt 31 = .ok (.aload_n 0, 1) := by decide +kernel
theorem dX6_melt_32 : decode cX6_melt 32 = .ok (.iload_n 1, 1) := by decide +kernel
theorem dX6_melt_33 : decode cX6_melt 33 = .ok (.invokevirtual 242, 3) := by decide +kernel
theorem dX6_melt_36 : decode cX6_melt 36 = .ok (.ifCond .eq 7, 3) := by decide +kernel
theorem dX6_melt_39 : decode cX6_melt 39 = .ok (.sipush (-1004), 3) := by decide +kernel
theorem dX6_melt_42 : decode cX6_melt 42 = .ok (.ireturn, 1) := by decide +kernel
theorem dX6_melt_43 : decode cX6_melt 43 = .ok (.iinc 1 1, 3) := by decide +kernel
theorem dX6_melt_46 : decode cX6_melt 46 = .ok (.goto (-22), 3) := by decide +kernel
theorem dX6_melt_49 : decode cX6_melt 49 = .ok (.iconst 0, 1) := by decide +kernel
theorem dX6_melt_50 : decode cX6_melt 50 = .ok (.istore_n 1, 1) := by decide +kernel
theorem dX6_melt_51 : decode cX6_melt 51 = .ok (.iconst 0, 1) := by decide +kernel
theorem dX6_melt_52 : decode cX6_melt 52 = .ok (.istore_n 2, 1) := by decide +kernel
theorem dX6_melt_53 : decode cX6_melt 53 = .ok (.iload_n 2, 1) := by decide +kernel
theorem dX6_melt_54 : decode cX6_melt 54 = .ok (.sipush 141, 3) := by decide +kernel
theorem dX6_melt_57 : decode cX6_melt 57 = .ok (.if_icmp .ge 86, 3) := by decide +kernel
theorem dX6_melt_60 : decode cX6_melt 60 = .ok (.iload_n 2, 1) := by decide +kernel
theorem dX6_melt_61 : decode cX6_melt 61 = .ok (.aload_n 0, 1) := by decide +kernel
theorem dX6_melt_62 : decode cX6_melt 62 = .ok (.getfield 16, 3) := by decide +kernel
theorem dX6_melt_65 : decode cX6_melt 65 = .ok (.aload_n 0, 1) := by decide +kernel
theorem dX6_melt_66 : decode cX6_melt 66 = .ok (.getfield 13, 3) := by decide +kernel
theorem dX6_melt_69 : decode cX6_melt 69 = .ok (.invokestatic 238, 3) := by decide +kernel
theorem dX6_melt_72 : decode cX6_melt 72 = .ok (.ifCond .eq 65, 3) := by decide +kernel
theorem dX6_melt_75 : decode cX6_melt 75 = .ok (.iload_n 1, 1) := by decide +kernel
theorem dX6_melt_76 : decode cX6_melt 76 = .ok (.iload_n 2, 1) := by decide +kernel
theorem dX6_melt_77 : decode cX6_melt 77 = .ok (.aload_n 0, 1) := by decide +kernel
theorem dX6_melt_78 : decode cX6_melt 78 = .ok (.getfield 16, 3) := by decide +kernel
theorem dX6_melt_81 : decode cX6_melt 81 = .ok (.aload_n 0, 1) := by decide +kernel
theorem dX6_melt_82 : decode cX6_melt 82 = .ok (.getfield 7, 3) := by decide +kernel
theorem dX6_melt_85 : decode cX6_melt 85 = .ok (.invokestatic 238, 3) := by decide +kernel
theorem dX6_melt_88 : decode cX6_melt 88 = .ok (.ifCond .eq 7, 3) := by decide +kernel
theorem dX6_melt_91 : decode cX6_melt 91 = .ok (.iconst 1, 1) := by decide +kernel
theorem dX6_melt_92 : decode cX6_melt 92 = .ok (.goto 4, 3) := by decide +kernel
theorem dX6_melt_95 : decode cX6_melt 95 = .ok (.iconst 0, 1) := by decide +kernel
theorem dX6_melt_96 : decode cX6_melt 96 = .ok (.iadd, 1) := by decide +kernel
theorem dX6_melt_97 : decode cX6_melt 97 = .ok (.istore_n 1, 1) := by decide +kernel
theorem dX6_melt_98 : decode cX6_melt 98 = .ok (.iload_n 2, 1) := by decide +kernel
theorem dX6_melt_99 : decode cX6_melt 99 = .ok (.invokestatic 232, 3) := by decide +kernel
theorem dX6_melt_102 : decode cX6_melt 102 = .ok (.istore_n 3, 1) := by decide +kernel
theorem dX6_melt_103 : decode cX6_melt 103 = .ok (.iload_n 3, 1) := by decide +kernel
theorem dX6_melt_104 : decode cX6_melt 104 = .ok (.istore 4, 2) := by decide +kernel
theorem dX6_melt_106 : decode cX6_melt 106 = .ok (.iload 4, 2) := by decide +kernel
theorem dX6_melt_108 : decode cX6_melt 108 = .ok (.iload_n 3, 1) := by decide +kernel
theorem dX6_melt_109 : decode cX6_melt 109 = .ok (.iload_n 2, 1) := by decide +kernel
theorem dX6_melt_110 : decode cX6_melt 110 = .ok (.invokestatic 235, 3) := by decide +kernel
theorem dX6_melt_113 : decode cX6_melt 113 = .ok (.iadd, 1) := by decide +kernel
theorem dX6_melt_114 : decode cX6_melt 114 = .ok (.if_icmp .ge 23, 3) := by decide +kernel
theorem dX6_melt_117 : decode cX6_melt 117 = .ok (.aload_n 0, 1) := by decide +kernel
theorem dX6_melt_118 : decode cX6_melt 118 = .ok (.getfield 7, 3) := by decide +kernel
theorem dX6_melt_121 : decode cX6_melt 121 = .ok (.iload 4, 2) := by decide +kernel
theorem dX6_melt_123 : decode cX6_melt 123 = .ok (.aload_n 0, 1) := by decide +kernel
theorem dX6_melt_124 : decode cX6_melt 124 = .ok (.getfield 16, 3) := by decide +kernel
theorem dX6_melt_127 : decode cX6_melt 127 = .ok (.iload 4, 2) := by decide +kernel
theorem dX6_melt_129 : decode cX6_melt 129 = .ok (.iaload, 1) := by decide +kernel
theorem dX6_melt_130 : decode cX6_melt 130 = .ok (.iastore, 1) := by decide +kernel
theorem dX6_melt_131 : decode cX6_melt 131 = .ok (.iinc 4 1, 3) := by decide +kernel
theorem dX6_melt_134 : decode cX6_melt 134 = .ok (.goto (-28), 3) := by decide +kernel
theorem dX6_melt_137 : decode cX6_melt 137 = .ok (.iinc 2 1, 3) := by decide +kernel
theorem dX6_melt_140 : decode cX6_melt 140 = .ok (.goto (-87), 3) := by decide +kernel
theorem dX6_melt_143 : decode cX6_melt 143 = .ok (.iconst 0, 1) := by decide +kernel
theorem dX6_melt_144 : decode cX6_melt 144 = .ok (.istore_n 2, 1) := by decide +kernel
theorem dX6_melt_145 : decode cX6_melt 145 = .ok (.iload_n 2, 1) := by decide +kernel
theorem dX6_melt_146 : decode cX6_melt 146 = .ok (.bipush 20, 2) := by decide +kernel
theorem dX6_melt_148 : decode cX6_melt 148 = .ok (.if_icmp .ge 22, 3) := by decide +kernel
theorem dX6_melt_151 : decode cX6_melt 151 = .ok (.aload_n 0, 1) := by decide +kernel
theorem dX6_melt_152 : decode cX6_melt 152 = .ok (.iload_n 2, 1) := by decide +kernel
theorem dX6_melt_153 : decode cX6_melt 153 = .ok (.invokevirtual 137, 3) := by decide +kernel
theorem dX6_melt_156 : decode cX6_melt 156 = .ok (.ifCond .ne 8, 3) := by decide +kernel
theorem dX6_melt_159 : decode cX6_melt 159 = .ok (.aload_n 0, 1) := by decide +kernel
theorem dX6_melt_160 : decode cX6_melt 160 = .ok (.iload_n 2, 1) := by decide +kernel
theorem dX6_melt_161 : decode cX6_melt 161 = .ok (.invokevirtual 130, 3) := by decide +kernel
theorem dX6_melt_164 : decode cX6_melt 164 = .ok (.iinc 2 1, 3) := by decide +kernel
theorem dX6_melt_167 : decode cX6_melt 167 = .ok (.goto (-22), 3) := by decide +kernel
theorem dX6_melt_170 : decode cX6_melt 170 = .ok (.iload_n 1, 1) := by decide +kernel
theorem dX6_melt_171 : decode cX6_melt 171 = .ok (.ireturn, 1) := by decide +kernel
theorem dX6_clash_0 : decode cX6_clash 0 = .ok (.aload_n 0, 1) := by decide +kernel
theorem dX6_clash_1 : decode cX6_clash 1 = .ok (.getfield 226, 3) := by decide +kernel
theorem dX6_clash_4 : decode cX6_clash 4 = .ok (.ifCond .eq 10, 3) := by decide +kernel
theorem dX6_clash_7 : decode cX6_clash 7 = .ok (.aload_n 0, 1) := by decide +kernel
theorem dX6_clash_8 : decode cX6_clash 8 = .ok (.getfield 229, 3) := by decide +kernel
theorem dX6_clash_11 : decode cX6_clash 11 = .ok (.ifCond .ne 11, 3) := by decide +kernel
theorem dX6_clash_14 : decode cX6_clash 14 = .ok (.aload_n 0, 1) := by decide +kernel
theorem dX6_clash_15 : decode cX6_clash 15 = .ok (.sipush (-1010), 3) := by decide +kernel
theorem dX6_clash_18 : decode cX6_clash 18 = .ok (.invokevirtual 140, 3) := by decide +kernel
theorem dX6_clash_21 : decode cX6_clash 21 = .ok (.ireturn, 1) := by decide +kernel
theorem dX6_clash_22 : decode cX6_clash 22 = .ok (.iconst 0, 1) := by decide +kernel
theorem dX6_clash_23 : decode cX6_clash 23 = .ok (.istore_n 2, 1) := by decide +kernel
theorem dX6_clash_24 : decode cX6_clash 24 = .ok (.iconst 0, 1) := by decide +kernel
theorem dX6_clash_25 : decode cX6_clash 25 = .ok (.istore_n 3, 1) := by decide +kernel
theorem dX6_clash_26 : decode cX6_clash 26 = .ok (.iload_n 3, 1) := by decide +kernel
theorem dX6_clash_27 : decode cX6_clash 27 = .ok (.sipush 141, 3) := by decide +kernel
theorem dX6_clash_30 : decode cX6_clash 30 = .ok (.if_icmp .ge 31, 3) := by decide +kernel
theorem dX6_clash_33 : decode cX6_clash 33 = .ok (.iload_n 1, 1) := by decide +kernel
theorem dX6_clash_34 : decode cX6_clash 34 = .ok (.ifCond .lt 27, 3) := by decide +kernel
theorem dX6_clash_37 : decode cX6_clash 37 = .ok (.aload_n 0, 1) := by decide +kernel
theorem dX6_clash_38 : decode cX6_clash 38 = .ok (.iload_n 3, 1) := by decide +kernel
theorem dX6_clash_39 : decode cX6_clash 39 = .ok (.invokevirtual 242, 3) := by decide +kernel
theorem dX6_clash_42 : decode cX6_clash 42 = .ok (.ifCond .eq 13, 3) := by decide +kernel
theorem dX6_clash_45 : decode cX6_clash 45 = .ok (.iload_n 2, 1) := by decide +kernel
theorem dX6_clash_46 : decode cX6_clash 46 = .ok (.iload_n 1, 1) := by decide +kernel
theorem dX6_clash_47 : decode cX6_clash 47 = .ok (.if_icmp .ne 5, 3) := by decide +kernel
theorem dX6_clash_50 : decode cX6_clash 50 = .ok (.iload_n 3, 1) := by decide +kernel
theorem dX6_clash_51 : decode cX6_clash 51 = .ok (.ireturn, 1) := by decide +kernel
theorem dX6_clash_52 : decode cX6_clash 52 = .ok (.iinc 2 1, 3) := by decide +kernel
theorem dX6_clash_55 : decode cX6_clash 55 = .ok (.iinc 3 1, 3) := by decide +kernel
theorem dX6_clash_58 : decode cX6_clash 58 = .ok (.goto (-32), 3) := by decide +kernel
theorem dX6_clash_61 : decode cX6_clash 61 = .ok (.sipush (-1003), 3) := by decide +kernel
theorem dX6_clash_64 : decode cX6_clash 64 = .ok (.ireturn, 1) := by decide +kernel
theorem dX6_count_0 : decode cX6_count 0 = .ok (.iconst 0, 1) := by decide +kernel
theorem dX6_count_1 : decode cX6_count 1 = .ok (.istore_n 2, 1) := by decide +kernel
theorem dX6_count_2 : decode cX6_count 2 = .ok (.iconst 0, 1) := by decide +kernel
theorem dX6_count_3 : decode cX6_count 3 = .ok (.istore_n 3, 1) := by decide +kernel
theorem dX6_count_4 : decode cX6_count 4 = .ok (.iconst 0, 1) := by decide +kernel
theorem dX6_count_5 : decode cX6_count 5 = .ok (.istore 4, 2) := by decide +kernel
theorem dX6_count_7 : decode cX6_count 7 = .ok (.iload 4, 2) := by decide +kernel
theorem dX6_count_9 : decode cX6_count 9 = .ok (.bipush 20, 2) := by decide +kernel
theorem dX6_count_11 : decode cX6_count 11 = .ok (.if_icmp .ge 61, 3) := by decide +kernel
theorem dX6_count_14 : decode cX6_count 14 = .ok (.iload_n 2, 1) := by decide +kernel
theorem dX6_count_15 : decode cX6_count 15 = .ok (.aload_n 0, 1) := by decide +kernel
theorem dX6_count_16 : decode cX6_count 16 = .ok (.iload 4, 2) := by decide +kernel
theorem dX6_count_18 : decode cX6_count 18 = .ok (.invokevirtual 137, 3) := by decide +kernel
theorem dX6_count_21 : decode cX6_count 21 = .ok (.ifCond .eq 7, 3) := by decide +kernel
theorem dX6_count_24 : decode cX6_count 24 = .ok (.iconst 1, 1) := by decide +kernel
theorem dX6_count_25 : decode cX6_count 25 = .ok (.goto 4, 3) := by decide +kernel
theorem dX6_count_28 : decode cX6_count 28 = .ok (.iconst 0, 1) := by decide +kernel
theorem dX6_count_29 : decode cX6_count 29 = .ok (.iadd, 1) := by decide +kernel
theorem dX6_count_30 : decode cX6_count 30 = .ok (.istore_n 2, 1) := by decide +kernel
theorem dX6_count_31 : decode cX6_count 31 = .ok (.iconst 0, 1) := by decide +kernel
theorem dX6_count_32 : decode cX6_count 32 = .ok (.istore 5, 2) := by decide +kernel
theorem dX6_count_34 : decode cX6_count 34 = .ok (.iload 5, 2) := by decide +kernel
theorem dX6_count_36 : decode cX6_count 36 = .ok (.bipush 6, 2) := by decide +kernel
theorem dX6_count_38 : decode cX6_count 38 = .ok (.if_icmp .ge 28, 3) := by decide +kernel
theorem dX6_count_41 : decode cX6_count 41 = .ok (.iload_n 3, 1) := by decide +kernel
theorem dX6_count_42 : decode cX6_count 42 = .ok (.aload_n 0, 1) := by decide +kernel
theorem dX6_count_43 : decode cX6_count 43 = .ok (.iload 4, 2) := by decide +kernel
theorem dX6_count_45 : decode cX6_count 45 = .ok (.iload 5, 2) := by decide +kernel
theorem dX6_count_47 : decode cX6_count 47 = .ok (.invokevirtual 146, 3) := by decide +kernel
theorem dX6_count_50 : decode cX6_count 50 = .ok (.ifCond .eq 7, 3) := by decide +kernel
theorem dX6_count_53 : decode cX6_count 53 = .ok (.iconst 1, 1) := by decide +kernel
theorem dX6_count_54 : decode cX6_count 54 = .ok (.goto 4, 3) := by decide +kernel
theorem dX6_count_57 : decode cX6_count 57 = .ok (.iconst 0, 1) := by decide +kernel
theorem dX6_count_58 : decode cX6_count 58 = .ok (.iadd, 1) := by decide +kernel
theorem dX6_count_59 : decode cX6_count 59 = .ok (.istore_n 3, 1) := by decide +kernel
theorem dX6_count_60 : decode cX6_count 60 = .ok (.iinc 5 1, 3) := by decide +kernel
theorem dX6_count_63 : decode cX6_count 63 = .ok (.goto (-29), 3) := by decide +kernel
theorem dX6_count_66 : decode cX6_count 66 = .ok (.iinc 4 1, 3) := by decide +kernel
theorem dX6_count_69 : decode cX6_count 69 = .ok (.goto (-62), 3) := by decide +kernel
theorem dX6_count_72 : decode cX6_count 72 = .ok (.iload_n 1, 1) := by decide +kernel
theorem dX6_count_73 : decode cX6_count 73 = .ok (.tableswitch 67 0 5 #[39, 41, 43, 48, 53, 58], 39) := by decide +kernel
theorem dX6_count_112 : decode cX6_count 112 = .ok (.iload_n 2, 1) := by decide +kernel
theorem dX6_count_113 : decode cX6_count 113 = .ok (.ireturn, 1) := by decide +kernel
theorem dX6_count_114 : decode cX6_count 114 = .ok (.iload_n 3, 1) := by decide +kernel
theorem dX6_count_115 : decode cX6_count 115 = .ok (.ireturn, 1) := by decide +kernel
theorem dX6_count_116 : decode cX6_count 116 = .ok (.aload_n 0, 1) := by decide +kernel
theorem dX6_count_117 : decode cX6_count 117 = .ok (.getfield 83, 3) := by decide +kernel
theorem dX6_count_120 : decode cX6_count 120 = .ok (.ireturn, 1) := by decide +kernel
theorem dX6_count_121 : decode cX6_count 121 = .ok (.aload_n 0, 1) := by decide +kernel
theorem dX6_count_122 : decode cX6_count 122 = .ok (.getfield 210, 3) := by decide +kernel
theorem dX6_count_125 : decode cX6_count 125 = .ok (.ireturn, 1) := by decide +kernel
theorem dX6_count_126 : decode cX6_count 126 = .ok (.aload_n 0, 1) := by decide +kernel
theorem dX6_count_127 : decode cX6_count 127 = .ok (.getfield 63, 3) := by decide +kernel
theorem dX6_count_130 : decode cX6_count 130 = .ok (.ireturn, 1) := by decide +kernel
theorem dX6_count_131 : decode cX6_count 131 = .ok (.aload_n 0, 1) := by decide +kernel
theorem dX6_count_132 : decode cX6_count 132 = .ok (.getfield 7, 3) := by decide +kernel
theorem dX6_count_135 : decode cX6_count 135 = .ok (.sipush 1880, 3) := by decide +kernel
theorem dX6_count_138 : decode cX6_count 138 = .ok (.iaload, 1) := by decide +kernel
theorem dX6_count_139 : decode cX6_count 139 = .ok (.ireturn, 1) := by decide +kernel
theorem dX6_count_140 : decode cX6_count 140 = .ok (.sipush (-1002), 3) := by decide +kernel
theorem dX6_count_143 : decode cX6_count 143 = .ok (.ireturn, 1) := by decide +kernel
end
section
theorem dL_law_0 : decode cL_law 0 = .ok (.new 7, 3) := by decide +kernel
theorem dL_law_3 : decode cL_law 3 = .ok (.dup, 1) := by decide +kernel
theorem dL_law_4 : decode cL_law 4 = .ok (.invokespecial 9, 3) := by decide +kernel
theorem dL_law_7 : decode cL_law 7 = .ok (.astore_n 1, 1) := by decide +kernel
theorem dL_law_8 : decode cL_law 8 = .ok (.new 10, 3) := by decide +kernel
theorem dL_law_11 : decode cL_law 11 = .ok (.dup, 1) := by decide +kernel
theorem dL_law_12 : decode cL_law 12 = .ok (.invokespecial 12, 3) := by decide +kernel
theorem dL_law_15 : decode cL_law 15 = .ok (.astore_n 2, 1) := by decide +kernel
theorem dL_law_16 : decode cL_law 16 = .ok (.iconst 0, 1) := by decide +kernel
theorem dL_law_17 : decode cL_law 17 = .ok (.istore_n 3, 1) := by decide +kernel
theorem dL_law_18 : decode cL_law 18 = .ok (.iload_n 3, 1) := by decide +kernel
theorem dL_law_19 : decode cL_law 19 = .ok (.aload_n 0, 1) := by decide +kernel
theorem dL_law_20 : decode cL_law 20 = .ok (.arraylength, 1) := by decide +kernel
theorem dL_law_21 : decode cL_law 21 = .ok (.iconst 5, 1) := by decide +kernel
theorem dL_law_22 : decode cL_law 22 = .ok (.isub, 1) := by decide +kernel
theorem dL_law_23 : decode cL_law 23 = .ok (.if_icmp .gt 1172, 3) := by decide +kernel
theorem dL_law_26 : decode cL_law 26 = .ok (.aload_n 0, 1) := by decide +kernel
theorem dL_law_27 : decode cL_law 27 = .ok (.iload_n 3, 1) := by decide +kernel
theorem dL_law_28 : decode cL_law 28 = .ok (.iaload, 1) := by decide +kernel
theorem dL_law_29 : decode cL_law 29 = .ok (.bipush 31, 2) := by decide +kernel
theorem dL_law_31 : decode cL_law 31 = .ok (.iand, 1) := by decide +kernel
theorem dL_law_32 : decode cL_law 32 = .ok (.tableswitch 1157 0 31 #[144, 207, 240, 273, 316, 369, 422, 455, 478, 511, 554, 577, 600, 623, 656, 679, 702, 735, 759, 808, 821, 864, 907, 960, 993, 1016, 1029, 1052, 1075, 1098, 1111, 1134], 144) := by decide +kernel
theorem dL_law_176 : decode cL_law 176 = .ok (.aload_n 1, 1) := by decide +kernel
theorem dL_law_177 : decode cL_law 177 = .ok (.aload_n 0, 1) := by decide +kernel
theorem dL_law_178 : decode cL_law 178 = .ok (.iload_n 3, 1) := by decide +kernel
theorem dL_law_179 : decode cL_law 179 = .ok (.iconst 1, 1) := by decide +kernel
theorem dL_law_180 : decode cL_law 180 = .ok (.iadd, 1) := by decide +kernel
theorem dL_law_181 : decode cL_law 181 = .ok (.iaload, 1) := by decide +kernel
theorem dL_law_182 : decode cL_law 182 = .ok (.i2l, 1) := by decide +kernel
theorem dL_law_183 : decode cL_law 183 = .ok (.bipush 32, 2) := by decide +kernel
theorem dL_law_185 : decode cL_law 185 = .ok (.lshl, 1) := by decide +kernel
theorem dL_law_186 : decode cL_law 186 = .ok (.aload_n 0, 1) := by decide +kernel
theorem dL_law_187 : decode cL_law 187 = .ok (.iload_n 3, 1) := by decide +kernel
theorem dL_law_188 : decode cL_law 188 = .ok (.iconst 2, 1) := by decide +kernel
theorem dL_law_189 : decode cL_law 189 = .ok (.iadd, 1) := by decide +kernel
theorem dL_law_190 : decode cL_law 190 = .ok (.iaload, 1) := by decide +kernel
theorem dL_law_191 : decode cL_law 191 = .ok (.i2l, 1) := by decide +kernel
theorem dL_law_192 : decode cL_law 192 = .ok (.ldc2_w 13, 3) := by decide +kernel
theorem dL_law_195 : decode cL_law 195 = .ok (.land, 1) := by decide +kernel
theorem dL_law_196 : decode cL_law 196 = .ok (.lor, 1) := by decide +kernel
theorem dL_law_197 : decode cL_law 197 = .ok (.aload_n 0, 1) := by decide +kernel
theorem dL_law_198 : decode cL_law 198 = .ok (.iload_n 3, 1) := by decide +kernel
theorem dL_law_199 : decode cL_law 199 = .ok (.iconst 3, 1) := by decide +kernel
theorem dL_law_200 : decode cL_law 200 = .ok (.iadd, 1) := by decide +kernel
theorem dL_law_201 : decode cL_law 201 = .ok (.iaload, 1) := by decide +kernel
theorem dL_law_202 : decode cL_law 202 = .ok (.invokevirtual 15, 3) := by decide +kernel
theorem dL_law_205 : decode cL_law 205 = .ok (.aload_n 2, 1) := by decide +kernel
theorem dL_law_206 : decode cL_law 206 = .ok (.aload_n 0, 1) := by decide +kernel
theorem dL_law_207 : decode cL_law 207 = .ok (.iload_n 3, 1) := by decide +kernel
theorem dL_law_208 : decode cL_law 208 = .ok (.iconst 1, 1) := by decide +kernel
theorem dL_law_209 : decode cL_law 209 = .ok (.iadd, 1) := by decide +kernel
theorem dL_law_210 : decode cL_law 210 = .ok (.iaload, 1) := by decide +kernel
theorem dL_law_211 : decode cL_law 211 = .ok (.i2l, 1) := by decide +kernel
theorem dL_law_212 : decode cL_law 212 = .ok (.bipush 32, 2) := by decide +kernel
theorem dL_law_214 : decode cL_law 214 = .ok (.lshl, 1) := by decide +kernel
theorem dL_law_215 : decode cL_law 215 = .ok (.aload_n 0, 1) := by decide +kernel
theorem dL_law_216 : decode cL_law 216 = .ok (.iload_n 3, 1) := by decide +kernel
theorem dL_law_217 : decode cL_law 217 = .ok (.iconst 2, 1) := by decide +kernel
theorem dL_law_218 : decode cL_law 218 = .ok (.iadd, 1) := by decide +kernel
theorem dL_law_219 : decode cL_law 219 = .ok (.iaload, 1) := by decide +kernel
theorem dL_law_220 : decode cL_law 220 = .ok (.i2l, 1) := by decide +kernel
theorem dL_law_221 : decode cL_law 221 = .ok (.ldc2_w 13, 3) := by decide +kernel
theorem dL_law_224 : decode cL_law 224 = .ok (.land, 1) := by decide +kernel
theorem dL_law_225 : decode cL_law 225 = .ok (.lor, 1) := by decide +kernel
theorem dL_law_226 : decode cL_law 226 = .ok (.aload_n 0, 1) := by decide +kernel
theorem dL_law_227 : decode cL_law 227 = .ok (.iload_n 3, 1) := by decide +kernel
theorem dL_law_228 : decode cL_law 228 = .ok (.iconst 3, 1) := by decide +kernel
theorem dL_law_229 : decode cL_law 229 = .ok (.iadd, 1) := by decide +kernel
theorem dL_law_230 : decode cL_law 230 = .ok (.iaload, 1) := by decide +kernel
theorem dL_law_231 : decode cL_law 231 = .ok (.invokevirtual 19, 3) := by decide +kernel
theorem dL_law_234 : decode cL_law 234 = .ok (.if_icmp .eq 955, 3) := by decide +kernel
theorem dL_law_237 : decode cL_law 237 = .ok (.iconst 0, 1) := by decide +kernel
theorem dL_law_238 : decode cL_law 238 = .ok (.ireturn, 1) := by decide +kernel
theorem dL_law_239 : decode cL_law 239 = .ok (.aload_n 1, 1) := by decide +kernel
theorem dL_law_240 : decode cL_law 240 = .ok (.aload_n 0, 1) := by decide +kernel
theorem dL_law_241 : decode cL_law 241 = .ok (.iload_n 3, 1) := by decide +kernel
theorem dL_law_242 : decode cL_law 242 = .ok (.iconst 1, 1) := by decide +kernel
theorem dL_law_243 : decode cL_law 243 = .ok (.iadd, 1) := by decide +kernel
theorem dL_law_244 : decode cL_law 244 = .ok (.iaload, 1) := by decide +kernel
theorem dL_law_245 : decode cL_law 245 = .ok (.aload_n 0, 1) := by decide +kernel
theorem dL_law_246 : decode cL_law 246 = .ok (.iload_n 3, 1) := by decide +kernel
theorem dL_law_247 : decode cL_law 247 = .ok (.iconst 2, 1) := by decide +kernel
theorem dL_law_248 : decode cL_law 248 = .ok (.iadd, 1) := by decide +kernel
theorem dL_law_249 : decode cL_law 249 = .ok (.iaload, 1) := by decide +kernel
theorem dL_law_250 : decode cL_law 250 = .ok (.invokevirtual 20, 3) := by decide +kernel
theorem dL_law_253 : decode cL_law 253 = .ok (.aload_n 2, 1) := by decide +kernel
theorem dL_law_254 : decode cL_law 254 = .ok (.aload_n 0, 1) := by decide +kernel
theorem dL_law_255 : decode cL_law 255 = .ok (.iload_n 3, 1) := by decide +kernel
theorem dL_law_256 : decode cL_law 256 = .ok (.iconst 1, 1) := by decide +kernel
theorem dL_law_257 : decode cL_law 257 = .ok (.iadd, 1) := by decide +kernel
theorem dL_law_258 : decode cL_law 258 = .ok (.iaload, 1) := by decide +kernel
theorem dL_law_259 : decode cL_law 259 = .ok (.aload_n 0, 1) := by decide +kernel
theorem dL_law_260 : decode cL_law 260 = .ok (.iload_n 3, 1) := by decide +kernel
theorem dL_law_261 : decode cL_law 261 = .ok (.iconst 2, 1) := by decide +kernel
theorem dL_law_262 : decode cL_law 262 = .ok (.iadd, 1) := by decide +kernel
theorem dL_law_263 : decode cL_law 263 = .ok (.iaload, 1) := by decide +kernel
theorem dL_law_264 : decode cL_law 264 = .ok (.invokevirtual 24, 3) := by decide +kernel
theorem dL_law_267 : decode cL_law 267 = .ok (.if_icmp .eq 922, 3) := by decide +kernel
theorem dL_law_270 : decode cL_law 270 = .ok (.iconst 0, 1) := by decide +kernel
theorem dL_law_271 : decode cL_law 271 = .ok (.ireturn, 1) := by decide +kernel
theorem dL_law_272 : decode cL_law 272 = .ok (.aload_n 1, 1) := by decide +kernel
theorem dL_law_273 : decode cL_law 273 = .ok (.aload_n 0, 1) := by decide +kernel
theorem dL_law_274 : decode cL_law 274 = .ok (.iload_n 3, 1) := by decide +kernel
theorem dL_law_275 : decode cL_law 275 = .ok (.iconst 1, 1) := by decide +kernel
theorem dL_law_276 : decode cL_law 276 = .ok (.iadd, 1) := by decide +kernel
theorem dL_law_277 : decode cL_law 277 = .ok (.iaload, 1) := by decide +kernel
theorem dL_law_278 : decode cL_law 278 = .ok (.aload_n 0, 1) := by decide +kernel
theorem dL_law_279 : decode cL_law 279 = .ok (.iload_n 3, 1) := by decide +kernel
theorem dL_law_280 : decode cL_law 280 = .ok (.iconst 2, 1) := by decide +kernel
theorem dL_law_281 : decode cL_law 281 = .ok (.iadd, 1) := by decide +kernel
theorem dL_law_282 : decode cL_law 282 = .ok (.iaload, 1) := by decide +kernel
theorem dL_law_283 : decode cL_law 283 = .ok (.invokevirtual 25, 3) := by decide +kernel
theorem dL_law_286 : decode cL_law 286 = .ok (.aload_n 2, 1) := by decide +kernel
theorem dL_law_287 : decode cL_law 287 = .ok (.aload_n 0, 1) := by decide +kernel
theorem dL_law_288 : decode cL_law 288 = .ok (.iload_n 3, 1) := by decide +kernel
theorem dL_law_289 : decode cL_law 289 = .ok (.iconst 1, 1) := by decide +kernel
theorem dL_law_290 : decode cL_law 290 = .ok (.iadd, 1) := by decide +kernel
theorem dL_law_291 : decode cL_law 291 = .ok (.iaload, 1) := by decide +kernel
theorem dL_law_292 : decode cL_law 292 = .ok (.aload_n 0, 1) := by decide +kernel
theorem dL_law_293 : decode cL_law 293 = .ok (.iload_n 3, 1) := by decide +kernel
theorem dL_law_294 : decode cL_law 294 = .ok (.iconst 2, 1) := by decide +kernel
theorem dL_law_295 : decode cL_law 295 = .ok (.iadd, 1) := by decide +kernel
theorem dL_law_296 : decode cL_law 296 = .ok (.iaload, 1) := by decide +kernel
theorem dL_law_297 : decode cL_law 297 = .ok (.invokevirtual 28, 3) := by decide +kernel
theorem dL_law_300 : decode cL_law 300 = .ok (.if_icmp .eq 889, 3) := by decide +kernel
theorem dL_law_303 : decode cL_law 303 = .ok (.iconst 0, 1) := by decide +kernel
theorem dL_law_304 : decode cL_law 304 = .ok (.ireturn, 1) := by decide +kernel
theorem dL_law_305 : decode cL_law 305 = .ok (.aload_n 1, 1) := by decide +kernel
theorem dL_law_306 : decode cL_law 306 = .ok (.aload_n 0, 1) := by decide +kernel
theorem dL_law_307 : decode cL_law 307 = .ok (.iload_n 3, 1) := by decide +kernel
theorem dL_law_308 : decode cL_law 308 = .ok (.iconst 1, 1) := by decide +kernel
theorem dL_law_309 : decode cL_law 309 = .ok (.iadd, 1) := by decide +kernel
theorem dL_law_310 : decode cL_law 310 = .ok (.iaload, 1) := by decide +kernel
theorem dL_law_311 : decode cL_law 311 = .ok (.aload_n 0, 1) := by decide +kernel
theorem dL_law_312 : decode cL_law 312 = .ok (.iload_n 3, 1) := by decide +kernel
theorem dL_law_313 : decode cL_law 313 = .ok (.iconst 2, 1) := by decide +kernel
theorem dL_law_314 : decode cL_law 314 = .ok (.iadd, 1) := by decide +kernel
theorem dL_law_315 : decode cL_law 315 = .ok (.iaload, 1) := by decide +kernel
theorem dL_law_316 : decode cL_law 316 = .ok (.aload_n 0, 1) := by decide +kernel
theorem dL_law_317 : decode cL_law 317 = .ok (.iload_n 3, 1) := by decide +kernel
theorem dL_law_318 : decode cL_law 318 = .ok (.iconst 3, 1) := by decide +kernel
theorem dL_law_319 : decode cL_law 319 = .ok (.iadd, 1) := by decide +kernel
theorem dL_law_320 : decode cL_law 320 = .ok (.iaload, 1) := by decide +kernel
theorem dL_law_321 : decode cL_law 321 = .ok (.invokevirtual 29, 3) := by decide +kernel
theorem dL_law_324 : decode cL_law 324 = .ok (.aload_n 2, 1) := by decide +kernel
theorem dL_law_325 : decode cL_law 325 = .ok (.aload_n 0, 1) := by decide +kernel
theorem dL_law_326 : decode cL_law 326 = .ok (.iload_n 3, 1) := by decide +kernel
theorem dL_law_327 : decode cL_law 327 = .ok (.iconst 1, 1) := by decide +kernel
theorem dL_law_328 : decode cL_law 328 = .ok (.iadd, 1) := by decide +kernel
theorem dL_law_329 : decode cL_law 329 = .ok (.iaload, 1) := by decide +kernel
theorem dL_law_330 : decode cL_law 330 = .ok (.aload_n 0, 1) := by decide +kernel
theorem dL_law_331 : decode cL_law 331 = .ok (.iload_n 3, 1) := by decide +kernel
theorem dL_law_332 : decode cL_law 332 = .ok (.iconst 2, 1) := by decide +kernel
theorem dL_law_333 : decode cL_law 333 = .ok (.iadd, 1) := by decide +kernel
theorem dL_law_334 : decode cL_law 334 = .ok (.iaload, 1) := by decide +kernel
theorem dL_law_335 : decode cL_law 335 = .ok (.aload_n 0, 1) := by decide +kernel
theorem dL_law_336 : decode cL_law 336 = .ok (.iload_n 3, 1) := by decide +kernel
theorem dL_law_337 : decode cL_law 337 = .ok (.iconst 3, 1) := by decide +kernel
theorem dL_law_338 : decode cL_law 338 = .ok (.iadd, 1) := by decide +kernel
theorem dL_law_339 : decode cL_law 339 = .ok (.iaload, 1) := by decide +kernel
theorem dL_law_340 : decode cL_law 340 = .ok (.invokevirtual 33, 3) := by decide +kernel
theorem dL_law_343 : decode cL_law 343 = .ok (.if_icmp .eq 846, 3) := by decide +kernel
theorem dL_law_346 : decode cL_law 346 = .ok (.iconst 0, 1) := by decide +kernel
theorem dL_law_347 : decode cL_law 347 = .ok (.ireturn, 1) := by decide +kernel
theorem dL_law_348 : decode cL_law 348 = .ok (.aload_n 1, 1) := by decide +kernel
theorem dL_law_349 : decode cL_law 349 = .ok (.aload_n 0, 1) := by decide +kernel
theorem dL_law_350 : decode cL_law 350 = .ok (.iload_n 3, 1) := by decide +kernel
theorem dL_law_351 : decode cL_law 351 = .ok (.iconst 1, 1) := by decide +kernel
theorem dL_law_352 : decode cL_law 352 = .ok (.iadd, 1) := by decide +kernel
theorem dL_law_353 : decode cL_law 353 = .ok (.iaload, 1) := by decide +kernel
theorem dL_law_354 : decode cL_law 354 = .ok (.aload_n 0, 1) := by decide +kernel
theorem dL_law_355 : decode cL_law 355 = .ok (.iload_n 3, 1) := by decide +kernel
theorem dL_law_356 : decode cL_law 356 = .ok (.iconst 2, 1) := by decide +kernel
theorem dL_law_357 : decode cL_law 357 = .ok (.iadd, 1) := by decide +kernel
theorem dL_law_358 : decode cL_law 358 = .ok (.iaload, 1) := by decide +kernel
theorem dL_law_359 : decode cL_law 359 = .ok (.aload_n 0, 1) := by decide +kernel
theorem dL_law_360 : decode cL_law 360 = .ok (.iload_n 3, 1) := by decide +kernel
theorem dL_law_361 : decode cL_law 361 = .ok (.iconst 3, 1) := by decide +kernel
theorem dL_law_362 : decode cL_law 362 = .ok (.iadd, 1) := by decide +kernel
theorem dL_law_363 : decode cL_law 363 = .ok (.iaload, 1) := by decide +kernel
theorem dL_law_364 : decode cL_law 364 = .ok (.aload_n 0, 1) := by decide +kernel
theorem dL_law_365 : decode cL_law 365 = .ok (.iload_n 3, 1) := by decide +kernel
theorem dL_law_366 : decode cL_law 366 = .ok (.iconst 4, 1) := by decide +kernel
theorem dL_law_367 : decode cL_law 367 = .ok (.iadd, 1) := by decide +kernel
theorem dL_law_368 : decode cL_law 368 = .ok (.iaload, 1) := by decide +kernel
theorem dL_law_369 : decode cL_law 369 = .ok (.invokevirtual 34, 3) := by decide +kernel
theorem dL_law_372 : decode cL_law 372 = .ok (.aload_n 2, 1) := by decide +kernel
theorem dL_law_373 : decode cL_law 373 = .ok (.aload_n 0, 1) := by decide +kernel
theorem dL_law_374 : decode cL_law 374 = .ok (.iload_n 3, 1) := by decide +kernel
theorem dL_law_375 : decode cL_law 375 = .ok (.iconst 1, 1) := by decide +kernel
theorem dL_law_376 : decode cL_law 376 = .ok (.iadd, 1) := by decide +kernel
theorem dL_law_377 : decode cL_law 377 = .ok (.iaload, 1) := by decide +kernel
theorem dL_law_378 : decode cL_law 378 = .ok (.aload_n 0, 1) := by decide +kernel
theorem dL_law_379 : decode cL_law 379 = .ok (.iload_n 3, 1) := by decide +kernel
theorem dL_law_380 : decode cL_law 380 = .ok (.iconst 2, 1) := by decide +kernel
theorem dL_law_381 : decode cL_law 381 = .ok (.iadd, 1) := by decide +kernel
theorem dL_law_382 : decode cL_law 382 = .ok (.iaload, 1) := by decide +kernel
theorem dL_law_383 : decode cL_law 383 = .ok (.aload_n 0, 1) := by decide +kernel
theorem dL_law_384 : decode cL_law 384 = .ok (.iload_n 3, 1) := by decide +kernel
theorem dL_law_385 : decode cL_law 385 = .ok (.iconst 3, 1) := by decide +kernel
theorem dL_law_386 : decode cL_law 386 = .ok (.iadd, 1) := by decide +kernel
theorem dL_law_387 : decode cL_law 387 = .ok (.iaload, 1) := by decide +kernel
theorem dL_law_388 : decode cL_law 388 = .ok (.aload_n 0, 1) := by decide +kernel
theorem dL_law_389 : decode cL_law 389 = .ok (.iload_n 3, 1) := by decide +kernel
theorem dL_law_390 : decode cL_law 390 = .ok (.iconst 4, 1) := by decide +kernel
theorem dL_law_391 : decode cL_law 391 = .ok (.iadd, 1) := by decide +kernel
theorem dL_law_392 : decode cL_law 392 = .ok (.iaload, 1) := by decide +kernel
theorem dL_law_393 : decode cL_law 393 = .ok (.invokevirtual 38, 3) := by decide +kernel
theorem dL_law_396 : decode cL_law 396 = .ok (.if_icmp .eq 793, 3) := by decide +kernel
theorem dL_law_399 : decode cL_law 399 = .ok (.iconst 0, 1) := by decide +kernel
theorem dL_law_400 : decode cL_law 400 = .ok (.ireturn, 1) := by decide +kernel
theorem dL_law_401 : decode cL_law 401 = .ok (.aload_n 1, 1) := by decide +kernel
theorem dL_law_402 : decode cL_law 402 = .ok (.aload_n 0, 1) := by decide +kernel
theorem dL_law_403 : decode cL_law 403 = .ok (.iload_n 3, 1) := by decide +kernel
theorem dL_law_404 : decode cL_law 404 = .ok (.iconst 1, 1) := by decide +kernel
theorem dL_law_405 : decode cL_law 405 = .ok (.iadd, 1) := by decide +kernel
theorem dL_law_406 : decode cL_law 406 = .ok (.iaload, 1) := by decide +kernel
theorem dL_law_407 : decode cL_law 407 = .ok (.aload_n 0, 1) := by decide +kernel
theorem dL_law_408 : decode cL_law 408 = .ok (.iload_n 3, 1) := by decide +kernel
theorem dL_law_409 : decode cL_law 409 = .ok (.iconst 2, 1) := by decide +kernel
theorem dL_law_410 : decode cL_law 410 = .ok (.iadd, 1) := by decide +kernel
theorem dL_law_411 : decode cL_law 411 = .ok (.iaload, 1) := by decide +kernel
theorem dL_law_412 : decode cL_law 412 = .ok (.aload_n 0, 1) := by decide +kernel
theorem dL_law_413 : decode cL_law 413 = .ok (.iload_n 3, 1) := by decide +kernel
theorem dL_law_414 : decode cL_law 414 = .ok (.iconst 3, 1) := by decide +kernel
theorem dL_law_415 : decode cL_law 415 = .ok (.iadd, 1) := by decide +kernel
theorem dL_law_416 : decode cL_law 416 = .ok (.iaload, 1) := by decide +kernel
theorem dL_law_417 : decode cL_law 417 = .ok (.aload_n 0, 1) := by decide +kernel
theorem dL_law_418 : decode cL_law 418 = .ok (.iload_n 3, 1) := by decide +kernel
theorem dL_law_419 : decode cL_law 419 = .ok (.iconst 4, 1) := by decide +kernel
theorem dL_law_420 : decode cL_law 420 = .ok (.iadd, 1) := by decide +kernel
theorem dL_law_421 : decode cL_law 421 = .ok (.iaload, 1) := by decide +kernel
theorem dL_law_422 : decode cL_law 422 = .ok (.invokevirtual 39, 3) := by decide +kernel
theorem dL_law_425 : decode cL_law 425 = .ok (.aload_n 2, 1) := by decide +kernel
theorem dL_law_426 : decode cL_law 426 = .ok (.aload_n 0, 1) := by decide +kernel
theorem dL_law_427 : decode cL_law 427 = .ok (.iload_n 3, 1) := by decide +kernel
theorem dL_law_428 : decode cL_law 428 = .ok (.iconst 1, 1) := by decide +kernel
theorem dL_law_429 : decode cL_law 429 = .ok (.iadd, 1) := by decide +kernel
theorem dL_law_430 : decode cL_law 430 = .ok (.iaload, 1) := by decide +kernel
theorem dL_law_431 : decode cL_law 431 = .ok (.aload_n 0, 1) := by decide +kernel
theorem dL_law_432 : decode cL_law 432 = .ok (.iload_n 3, 1) := by decide +kernel
theorem dL_law_433 : decode cL_law 433 = .ok (.iconst 2, 1) := by decide +kernel
theorem dL_law_434 : decode cL_law 434 = .ok (.iadd, 1) := by decide +kernel
theorem dL_law_435 : decode cL_law 435 = .ok (.iaload, 1) := by decide +kernel
theorem dL_law_436 : decode cL_law 436 = .ok (.aload_n 0, 1) := by decide +kernel
theorem dL_law_437 : decode cL_law 437 = .ok (.iload_n 3, 1) := by decide +kernel
theorem dL_law_438 : decode cL_law 438 = .ok (.iconst 3, 1) := by decide +kernel
theorem dL_law_439 : decode cL_law 439 = .ok (.iadd, 1) := by decide +kernel
theorem dL_law_440 : decode cL_law 440 = .ok (.iaload, 1) := by decide +kernel
theorem dL_law_441 : decode cL_law 441 = .ok (.aload_n 0, 1) := by decide +kernel
theorem dL_law_442 : decode cL_law 442 = .ok (.iload_n 3, 1) := by decide +kernel
theorem dL_law_443 : decode cL_law 443 = .ok (.iconst 4, 1) := by decide +kernel
theorem dL_law_444 : decode cL_law 444 = .ok (.iadd, 1) := by decide +kernel
theorem dL_law_445 : decode cL_law 445 = .ok (.iaload, 1) := by decide +kernel
theorem dL_law_446 : decode cL_law 446 = .ok (.invokevirtual 42, 3) := by decide +kernel
theorem dL_law_449 : decode cL_law 449 = .ok (.if_icmp .eq 740, 3) := by decide +kernel
theorem dL_law_452 : decode cL_law 452 = .ok (.iconst 0, 1) := by decide +kernel
theorem dL_law_453 : decode cL_law 453 = .ok (.ireturn, 1) := by decide +kernel
theorem dL_law_454 : decode cL_law 454 = .ok (.aload_n 1, 1) := by decide +kernel
theorem dL_law_455 : decode cL_law 455 = .ok (.aload_n 0, 1) := by decide +kernel
theorem dL_law_456 : decode cL_law 456 = .ok (.iload_n 3, 1) := by decide +kernel
theorem dL_law_457 : decode cL_law 457 = .ok (.iconst 1, 1) := by decide +kernel
theorem dL_law_458 : decode cL_law 458 = .ok (.iadd, 1) := by decide +kernel
theorem dL_law_459 : decode cL_law 459 = .ok (.iaload, 1) := by decide +kernel
theorem dL_law_460 : decode cL_law 460 = .ok (.aload_n 0, 1) := by decide +kernel
theorem dL_law_461 : decode cL_law 461 = .ok (.iload_n 3, 1) := by decide +kernel
theorem dL_law_462 : decode cL_law 462 = .ok (.iconst 2, 1) := by decide +kernel
theorem dL_law_463 : decode cL_law 463 = .ok (.iadd, 1) := by decide +kernel
theorem dL_law_464 : decode cL_law 464 = .ok (.iaload, 1) := by decide +kernel
theorem dL_law_465 : decode cL_law 465 = .ok (.invokevirtual 43, 3) := by decide +kernel
theorem dL_law_468 : decode cL_law 468 = .ok (.aload_n 2, 1) := by decide +kernel
theorem dL_law_469 : decode cL_law 469 = .ok (.aload_n 0, 1) := by decide +kernel
theorem dL_law_470 : decode cL_law 470 = .ok (.iload_n 3, 1) := by decide +kernel
theorem dL_law_471 : decode cL_law 471 = .ok (.iconst 1, 1) := by decide +kernel
theorem dL_law_472 : decode cL_law 472 = .ok (.iadd, 1) := by decide +kernel
theorem dL_law_473 : decode cL_law 473 = .ok (.iaload, 1) := by decide +kernel
theorem dL_law_474 : decode cL_law 474 = .ok (.aload_n 0, 1) := by decide +kernel
theorem dL_law_475 : decode cL_law 475 = .ok (.iload_n 3, 1) := by decide +kernel
theorem dL_law_476 : decode cL_law 476 = .ok (.iconst 2, 1) := by decide +kernel
theorem dL_law_477 : decode cL_law 477 = .ok (.iadd, 1) := by decide +kernel
theorem dL_law_478 : decode cL_law 478 = .ok (.iaload, 1) := by decide +kernel
theorem dL_law_479 : decode cL_law 479 = .ok (.invokevirtual 46, 3) := by decide +kernel
theorem dL_law_482 : decode cL_law 482 = .ok (.if_icmp .eq 707, 3) := by decide +kernel
theorem dL_law_485 : decode cL_law 485 = .ok (.iconst 0, 1) := by decide +kernel
theorem dL_law_486 : decode cL_law 486 = .ok (.ireturn, 1) := by decide +kernel
theorem dL_law_487 : decode cL_law 487 = .ok (.aload_n 1, 1) := by decide +kernel
theorem dL_law_488 : decode cL_law 488 = .ok (.aload_n 0, 1) := by decide +kernel
theorem dL_law_489 : decode cL_law 489 = .ok (.iload_n 3, 1) := by decide +kernel
theorem dL_law_490 : decode cL_law 490 = .ok (.iconst 1, 1) := by decide +kernel
theorem dL_law_491 : decode cL_law 491 = .ok (.iadd, 1) := by decide +kernel
theorem dL_law_492 : decode cL_law 492 = .ok (.iaload, 1) := by decide +kernel
theorem dL_law_493 : decode cL_law 493 = .ok (.invokevirtual 47, 3) := by decide +kernel
theorem dL_law_496 : decode cL_law 496 = .ok (.aload_n 2, 1) := by decide +kernel
theorem dL_law_497 : decode cL_law 497 = .ok (.aload_n 0, 1) := by decide +kernel
theorem dL_law_498 : decode cL_law 498 = .ok (.iload_n 3, 1) := by decide +kernel
theorem dL_law_499 : decode cL_law 499 = .ok (.iconst 1, 1) := by decide +kernel
theorem dL_law_500 : decode cL_law 500 = .ok (.iadd, 1) := by decide +kernel
theorem dL_law_501 : decode cL_law 501 = .ok (.iaload, 1) := by decide +kernel
theorem dL_law_502 : decode cL_law 502 = .ok (.invokevirtual 51, 3) := by decide +kernel
theorem dL_law_505 : decode cL_law 505 = .ok (.if_icmp .eq 684, 3) := by decide +kernel
theorem dL_law_508 : decode cL_law 508 = .ok (.iconst 0, 1) := by decide +kernel
theorem dL_law_509 : decode cL_law 509 = .ok (.ireturn, 1) := by decide +kernel
theorem dL_law_510 : decode cL_law 510 = .ok (.aload_n 1, 1) := by decide +kernel
theorem dL_law_511 : decode cL_law 511 = .ok (.aload_n 0, 1) := by decide +kernel
theorem dL_law_512 : decode cL_law 512 = .ok (.iload_n 3, 1) := by decide +kernel
theorem dL_law_513 : decode cL_law 513 = .ok (.iconst 1, 1) := by decide +kernel
theorem dL_law_514 : decode cL_law 514 = .ok (.iadd, 1) := by decide +kernel
theorem dL_law_515 : decode cL_law 515 = .ok (.iaload, 1) := by decide +kernel
theorem dL_law_516 : decode cL_law 516 = .ok (.aload_n 0, 1) := by decide +kernel
theorem dL_law_517 : decode cL_law 517 = .ok (.iload_n 3, 1) := by decide +kernel
theorem dL_law_518 : decode cL_law 518 = .ok (.iconst 2, 1) := by decide +kernel
theorem dL_law_519 : decode cL_law 519 = .ok (.iadd, 1) := by decide +kernel
theorem dL_law_520 : decode cL_law 520 = .ok (.iaload, 1) := by decide +kernel
theorem dL_law_521 : decode cL_law 521 = .ok (.invokevirtual 52, 3) := by decide +kernel
theorem dL_law_524 : decode cL_law 524 = .ok (.aload_n 2, 1) := by decide +kernel
theorem dL_law_525 : decode cL_law 525 = .ok (.aload_n 0, 1) := by decide +kernel
theorem dL_law_526 : decode cL_law 526 = .ok (.iload_n 3, 1) := by decide +kernel
theorem dL_law_527 : decode cL_law 527 = .ok (.iconst 1, 1) := by decide +kernel
theorem dL_law_528 : decode cL_law 528 = .ok (.iadd, 1) := by decide +kernel
theorem dL_law_529 : decode cL_law 529 = .ok (.iaload, 1) := by decide +kernel
theorem dL_law_530 : decode cL_law 530 = .ok (.aload_n 0, 1) := by decide +kernel
theorem dL_law_531 : decode cL_law 531 = .ok (.iload_n 3, 1) := by decide +kernel
theorem dL_law_532 : decode cL_law 532 = .ok (.iconst 2, 1) := by decide +kernel
theorem dL_law_533 : decode cL_law 533 = .ok (.iadd, 1) := by decide +kernel
theorem dL_law_534 : decode cL_law 534 = .ok (.iaload, 1) := by decide +kernel
theorem dL_law_535 : decode cL_law 535 = .ok (.invokevirtual 55, 3) := by decide +kernel
theorem dL_law_538 : decode cL_law 538 = .ok (.if_icmp .eq 651, 3) := by decide +kernel
theorem dL_law_541 : decode cL_law 541 = .ok (.iconst 0, 1) := by decide +kernel
theorem dL_law_542 : decode cL_law 542 = .ok (.ireturn, 1) := by decide +kernel
theorem dL_law_543 : decode cL_law 543 = .ok (.aload_n 1, 1) := by decide +kernel
theorem dL_law_544 : decode cL_law 544 = .ok (.aload_n 0, 1) := by decide +kernel
theorem dL_law_545 : decode cL_law 545 = .ok (.iload_n 3, 1) := by decide +kernel
theorem dL_law_546 : decode cL_law 546 = .ok (.iconst 1, 1) := by decide +kernel
theorem dL_law_547 : decode cL_law 547 = .ok (.iadd, 1) := by decide +kernel
theorem dL_law_548 : decode cL_law 548 = .ok (.iaload, 1) := by decide +kernel
theorem dL_law_549 : decode cL_law 549 = .ok (.aload_n 0, 1) := by decide +kernel
theorem dL_law_550 : decode cL_law 550 = .ok (.iload_n 3, 1) := by decide +kernel
theorem dL_law_551 : decode cL_law 551 = .ok (.iconst 2, 1) := by decide +kernel
theorem dL_law_552 : decode cL_law 552 = .ok (.iadd, 1) := by decide +kernel
theorem dL_law_553 : decode cL_law 553 = .ok (.iaload, 1) := by decide +kernel
theorem dL_law_554 : decode cL_law 554 = .ok (.aload_n 0, 1) := by decide +kernel
theorem dL_law_555 : decode cL_law 555 = .ok (.iload_n 3, 1) := by decide +kernel
theorem dL_law_556 : decode cL_law 556 = .ok (.iconst 3, 1) := by decide +kernel
theorem dL_law_557 : decode cL_law 557 = .ok (.iadd, 1) := by decide +kernel
theorem dL_law_558 : decode cL_law 558 = .ok (.iaload, 1) := by decide +kernel
theorem dL_law_559 : decode cL_law 559 = .ok (.invokevirtual 56, 3) := by decide +kernel
theorem dL_law_562 : decode cL_law 562 = .ok (.aload_n 2, 1) := by decide +kernel
theorem dL_law_563 : decode cL_law 563 = .ok (.aload_n 0, 1) := by decide +kernel
theorem dL_law_564 : decode cL_law 564 = .ok (.iload_n 3, 1) := by decide +kernel
theorem dL_law_565 : decode cL_law 565 = .ok (.iconst 1, 1) := by decide +kernel
theorem dL_law_566 : decode cL_law 566 = .ok (.iadd, 1) := by decide +kernel
theorem dL_law_567 : decode cL_law 567 = .ok (.iaload, 1) := by decide +kernel
theorem dL_law_568 : decode cL_law 568 = .ok (.aload_n 0, 1) := by decide +kernel
theorem dL_law_569 : decode cL_law 569 = .ok (.iload_n 3, 1) := by decide +kernel
theorem dL_law_570 : decode cL_law 570 = .ok (.iconst 2, 1) := by decide +kernel
theorem dL_law_571 : decode cL_law 571 = .ok (.iadd, 1) := by decide +kernel
theorem dL_law_572 : decode cL_law 572 = .ok (.iaload, 1) := by decide +kernel
theorem dL_law_573 : decode cL_law 573 = .ok (.aload_n 0, 1) := by decide +kernel
theorem dL_law_574 : decode cL_law 574 = .ok (.iload_n 3, 1) := by decide +kernel
theorem dL_law_575 : decode cL_law 575 = .ok (.iconst 3, 1) := by decide +kernel
theorem dL_law_576 : decode cL_law 576 = .ok (.iadd, 1) := by decide +kernel
theorem dL_law_577 : decode cL_law 577 = .ok (.iaload, 1) := by decide +kernel
theorem dL_law_578 : decode cL_law 578 = .ok (.invokevirtual 59, 3) := by decide +kernel
theorem dL_law_581 : decode cL_law 581 = .ok (.if_icmp .eq 608, 3) := by decide +kernel
theorem dL_law_584 : decode cL_law 584 = .ok (.iconst 0, 1) := by decide +kernel
theorem dL_law_585 : decode cL_law 585 = .ok (.ireturn, 1) := by decide +kernel
theorem dL_law_586 : decode cL_law 586 = .ok (.aload_n 1, 1) := by decide +kernel
theorem dL_law_587 : decode cL_law 587 = .ok (.aload_n 0, 1) := by decide +kernel
theorem dL_law_588 : decode cL_law 588 = .ok (.iload_n 3, 1) := by decide +kernel
theorem dL_law_589 : decode cL_law 589 = .ok (.iconst 1, 1) := by decide +kernel
theorem dL_law_590 : decode cL_law 590 = .ok (.iadd, 1) := by decide +kernel
theorem dL_law_591 : decode cL_law 591 = .ok (.iaload, 1) := by decide +kernel
theorem dL_law_592 : decode cL_law 592 = .ok (.invokevirtual 60, 3) := by decide +kernel
theorem dL_law_595 : decode cL_law 595 = .ok (.aload_n 2, 1) := by decide +kernel
theorem dL_law_596 : decode cL_law 596 = .ok (.aload_n 0, 1) := by decide +kernel
theorem dL_law_597 : decode cL_law 597 = .ok (.iload_n 3, 1) := by decide +kernel
theorem dL_law_598 : decode cL_law 598 = .ok (.iconst 1, 1) := by decide +kernel
theorem dL_law_599 : decode cL_law 599 = .ok (.iadd, 1) := by decide +kernel
theorem dL_law_600 : decode cL_law 600 = .ok (.iaload, 1) := by decide +kernel
theorem dL_law_601 : decode cL_law 601 = .ok (.invokevirtual 63, 3) := by decide +kernel
theorem dL_law_604 : decode cL_law 604 = .ok (.if_icmp .eq 585, 3) := by decide +kernel
theorem dL_law_607 : decode cL_law 607 = .ok (.iconst 0, 1) := by decide +kernel
theorem dL_law_608 : decode cL_law 608 = .ok (.ireturn, 1) := by decide +kernel
theorem dL_law_609 : decode cL_law 609 = .ok (.aload_n 1, 1) := by decide +kernel
theorem dL_law_610 : decode cL_law 610 = .ok (.aload_n 0, 1) := by decide +kernel
theorem dL_law_611 : decode cL_law 611 = .ok (.iload_n 3, 1) := by decide +kernel
theorem dL_law_612 : decode cL_law 612 = .ok (.iconst 1, 1) := by decide +kernel
theorem dL_law_613 : decode cL_law 613 = .ok (.iadd, 1) := by decide +kernel
theorem dL_law_614 : decode cL_law 614 = .ok (.iaload, 1) := by decide +kernel
theorem dL_law_615 : decode cL_law 615 = .ok (.invokevirtual 64, 3) := by decide +kernel
theorem dL_law_618 : decode cL_law 618 = .ok (.aload_n 2, 1) := by decide +kernel
theorem dL_law_619 : decode cL_law 619 = .ok (.aload_n 0, 1) := by decide +kernel
theorem dL_law_620 : decode cL_law 620 = .ok (.iload_n 3, 1) := by decide +kernel
theorem dL_law_621 : decode cL_law 621 = .ok (.iconst 1, 1) := by decide +kernel
theorem dL_law_622 : decode cL_law 622 = .ok (.iadd, 1) := by decide +kernel
theorem dL_law_623 : decode cL_law 623 = .ok (.iaload, 1) := by decide +kernel
theorem dL_law_624 : decode cL_law 624 = .ok (.invokevirtual 67, 3) := by decide +kernel
theorem dL_law_627 : decode cL_law 627 = .ok (.if_icmp .eq 562, 3) := by decide +kernel
theorem dL_law_630 : decode cL_law 630 = .ok (.iconst 0, 1) := by decide +kernel
theorem dL_law_631 : decode cL_law 631 = .ok (.ireturn, 1) := by decide +kernel
theorem dL_law_632 : decode cL_law 632 = .ok (.aload_n 1, 1) := by decide +kernel
theorem dL_law_633 : decode cL_law 633 = .ok (.aload_n 0, 1) := by decide +kernel
theorem dL_law_634 : decode cL_law 634 = .ok (.iload_n 3, 1) := by decide +kernel
theorem dL_law_635 : decode cL_law 635 = .ok (.iconst 1, 1) := by decide +kernel
theorem dL_law_636 : decode cL_law 636 = .ok (.iadd, 1) := by decide +kernel
theorem dL_law_637 : decode cL_law 637 = .ok (.iaload, 1) := by decide +kernel
theorem dL_law_638 : decode cL_law 638 = .ok (.invokevirtual 68, 3) := by decide +kernel
theorem dL_law_641 : decode cL_law 641 = .ok (.aload_n 2, 1) := by decide +kernel
theorem dL_law_642 : decode cL_law 642 = .ok (.aload_n 0, 1) := by decide +kernel
theorem dL_law_643 : decode cL_law 643 = .ok (.iload_n 3, 1) := by decide +kernel
theorem dL_law_644 : decode cL_law 644 = .ok (.iconst 1, 1) := by decide +kernel
theorem dL_law_645 : decode cL_law 645 = .ok (.iadd, 1) := by decide +kernel
theorem dL_law_646 : decode cL_law 646 = .ok (.iaload, 1) := by decide +kernel
theorem dL_law_647 : decode cL_law 647 = .ok (.invokevirtual 71, 3) := by decide +kernel
theorem dL_law_650 : decode cL_law 650 = .ok (.if_icmp .eq 539, 3) := by decide +kernel
theorem dL_law_653 : decode cL_law 653 = .ok (.iconst 0, 1) := by decide +kernel
theorem dL_law_654 : decode cL_law 654 = .ok (.ireturn, 1) := by decide +kernel
theorem dL_law_655 : decode cL_law 655 = .ok (.aload_n 1, 1) := by decide +kernel
theorem dL_law_656 : decode cL_law 656 = .ok (.aload_n 0, 1) := by decide +kernel
theorem dL_law_657 : decode cL_law 657 = .ok (.iload_n 3, 1) := by decide +kernel
theorem dL_law_658 : decode cL_law 658 = .ok (.iconst 1, 1) := by decide +kernel
theorem dL_law_659 : decode cL_law 659 = .ok (.iadd, 1) := by decide +kernel
theorem dL_law_660 : decode cL_law 660 = .ok (.iaload, 1) := by decide +kernel
theorem dL_law_661 : decode cL_law 661 = .ok (.aload_n 0, 1) := by decide +kernel
theorem dL_law_662 : decode cL_law 662 = .ok (.iload_n 3, 1) := by decide +kernel
theorem dL_law_663 : decode cL_law 663 = .ok (.iconst 2, 1) := by decide +kernel
theorem dL_law_664 : decode cL_law 664 = .ok (.iadd, 1) := by decide +kernel
theorem dL_law_665 : decode cL_law 665 = .ok (.iaload, 1) := by decide +kernel
theorem dL_law_666 : decode cL_law 666 = .ok (.invokevirtual 72, 3) := by decide +kernel
theorem dL_law_669 : decode cL_law 669 = .ok (.aload_n 2, 1) := by decide +kernel
theorem dL_law_670 : decode cL_law 670 = .ok (.aload_n 0, 1) := by decide +kernel
theorem dL_law_671 : decode cL_law 671 = .ok (.iload_n 3, 1) := by decide +kernel
theorem dL_law_672 : decode cL_law 672 = .ok (.iconst 1, 1) := by decide +kernel
theorem dL_law_673 : decode cL_law 673 = .ok (.iadd, 1) := by decide +kernel
theorem dL_law_674 : decode cL_law 674 = .ok (.iaload, 1) := by decide +kernel
theorem dL_law_675 : decode cL_law 675 = .ok (.aload_n 0, 1) := by decide +kernel
theorem dL_law_676 : decode cL_law 676 = .ok (.iload_n 3, 1) := by decide +kernel
theorem dL_law_677 : decode cL_law 677 = .ok (.iconst 2, 1) := by decide +kernel
theorem dL_law_678 : decode cL_law 678 = .ok (.iadd, 1) := by decide +kernel
theorem dL_law_679 : decode cL_law 679 = .ok (.iaload, 1) := by decide +kernel
theorem dL_law_680 : decode cL_law 680 = .ok (.invokevirtual 75, 3) := by decide +kernel
theorem dL_law_683 : decode cL_law 683 = .ok (.if_icmp .eq 506, 3) := by decide +kernel
theorem dL_law_686 : decode cL_law 686 = .ok (.iconst 0, 1) := by decide +kernel
theorem dL_law_687 : decode cL_law 687 = .ok (.ireturn, 1) := by decide +kernel
theorem dL_law_688 : decode cL_law 688 = .ok (.aload_n 1, 1) := by decide +kernel
theorem dL_law_689 : decode cL_law 689 = .ok (.aload_n 0, 1) := by decide +kernel
theorem dL_law_690 : decode cL_law 690 = .ok (.iload_n 3, 1) := by decide +kernel
theorem dL_law_691 : decode cL_law 691 = .ok (.iconst 1, 1) := by decide +kernel
theorem dL_law_692 : decode cL_law 692 = .ok (.iadd, 1) := by decide +kernel
theorem dL_law_693 : decode cL_law 693 = .ok (.iaload, 1) := by decide +kernel
theorem dL_law_694 : decode cL_law 694 = .ok (.invokevirtual 76, 3) := by decide +kernel
theorem dL_law_697 : decode cL_law 697 = .ok (.aload_n 2, 1) := by decide +kernel
theorem dL_law_698 : decode cL_law 698 = .ok (.aload_n 0, 1) := by decide +kernel
theorem dL_law_699 : decode cL_law 699 = .ok (.iload_n 3, 1) := by decide +kernel
theorem dL_law_700 : decode cL_law 700 = .ok (.iconst 1, 1) := by decide +kernel
theorem dL_law_701 : decode cL_law 701 = .ok (.iadd, 1) := by decide +kernel
theorem dL_law_702 : decode cL_law 702 = .ok (.iaload, 1) := by decide +kernel
theorem dL_law_703 : decode cL_law 703 = .ok (.invokevirtual 79, 3) := by decide +kernel
theorem dL_law_706 : decode cL_law 706 = .ok (.if_icmp .eq 483, 3) := by decide +kernel
theorem dL_law_709 : decode cL_law 709 = .ok (.iconst 0, 1) := by decide +kernel
theorem dL_law_710 : decode cL_law 710 = .ok (.ireturn, 1) := by decide +kernel
theorem dL_law_711 : decode cL_law 711 = .ok (.aload_n 1, 1) := by decide +kernel
theorem dL_law_712 : decode cL_law 712 = .ok (.aload_n 0, 1) := by decide +kernel
theorem dL_law_713 : decode cL_law 713 = .ok (.iload_n 3, 1) := by decide +kernel
theorem dL_law_714 : decode cL_law 714 = .ok (.iconst 1, 1) := by decide +kernel
theorem dL_law_715 : decode cL_law 715 = .ok (.iadd, 1) := by decide +kernel
theorem dL_law_716 : decode cL_law 716 = .ok (.iaload, 1) := by decide +kernel
theorem dL_law_717 : decode cL_law 717 = .ok (.invokevirtual 80, 3) := by decide +kernel
theorem dL_law_720 : decode cL_law 720 = .ok (.aload_n 2, 1) := by decide +kernel
theorem dL_law_721 : decode cL_law 721 = .ok (.aload_n 0, 1) := by decide +kernel
theorem dL_law_722 : decode cL_law 722 = .ok (.iload_n 3, 1) := by decide +kernel
theorem dL_law_723 : decode cL_law 723 = .ok (.iconst 1, 1) := by decide +kernel
theorem dL_law_724 : decode cL_law 724 = .ok (.iadd, 1) := by decide +kernel
theorem dL_law_725 : decode cL_law 725 = .ok (.iaload, 1) := by decide +kernel
theorem dL_law_726 : decode cL_law 726 = .ok (.invokevirtual 83, 3) := by decide +kernel
theorem dL_law_729 : decode cL_law 729 = .ok (.if_icmp .eq 460, 3) := by decide +kernel
theorem dL_law_732 : decode cL_law 732 = .ok (.iconst 0, 1) := by decide +kernel
theorem dL_law_733 : decode cL_law 733 = .ok (.ireturn, 1) := by decide +kernel
theorem dL_law_734 : decode cL_law 734 = .ok (.aload_n 1, 1) := by decide +kernel
theorem dL_law_735 : decode cL_law 735 = .ok (.aload_n 0, 1) := by decide +kernel
theorem dL_law_736 : decode cL_law 736 = .ok (.iload_n 3, 1) := by decide +kernel
theorem dL_law_737 : decode cL_law 737 = .ok (.iconst 1, 1) := by decide +kernel
theorem dL_law_738 : decode cL_law 738 = .ok (.iadd, 1) := by decide +kernel
theorem dL_law_739 : decode cL_law 739 = .ok (.iaload, 1) := by decide +kernel
theorem dL_law_740 : decode cL_law 740 = .ok (.aload_n 0, 1) := by decide +kernel
theorem dL_law_741 : decode cL_law 741 = .ok (.iload_n 3, 1) := by decide +kernel
theorem dL_law_742 : decode cL_law 742 = .ok (.iconst 2, 1) := by decide +kernel
theorem dL_law_743 : decode cL_law 743 = .ok (.iadd, 1) := by decide +kernel
theorem dL_law_744 : decode cL_law 744 = .ok (.iaload, 1) := by decide +kernel
theorem dL_law_745 : decode cL_law 745 = .ok (.invokevirtual 84, 3) := by decide +kernel
theorem dL_law_748 : decode cL_law 748 = .ok (.aload_n 2, 1) := by decide +kernel
theorem dL_law_749 : decode cL_law 749 = .ok (.aload_n 0, 1) := by decide +kernel
theorem dL_law_750 : decode cL_law 750 = .ok (.iload_n 3, 1) := by decide +kernel
theorem dL_law_751 : decode cL_law 751 = .ok (.iconst 1, 1) := by decide +kernel
theorem dL_law_752 : decode cL_law 752 = .ok (.iadd, 1) := by decide +kernel
theorem dL_law_753 : decode cL_law 753 = .ok (.iaload, 1) := by decide +kernel
theorem dL_law_754 : decode cL_law 754 = .ok (.aload_n 0, 1) := by decide +kernel
theorem dL_law_755 : decode cL_law 755 = .ok (.iload_n 3, 1) := by decide +kernel
theorem dL_law_756 : decode cL_law 756 = .ok (.iconst 2, 1) := by decide +kernel
theorem dL_law_757 : decode cL_law 757 = .ok (.iadd, 1) := by decide +kernel
theorem dL_law_758 : decode cL_law 758 = .ok (.iaload, 1) := by decide +kernel
theorem dL_law_759 : decode cL_law 759 = .ok (.invokevirtual 87, 3) := by decide +kernel
theorem dL_law_762 : decode cL_law 762 = .ok (.if_icmp .eq 427, 3) := by decide +kernel
theorem dL_law_765 : decode cL_law 765 = .ok (.iconst 0, 1) := by decide +kernel
theorem dL_law_766 : decode cL_law 766 = .ok (.ireturn, 1) := by decide +kernel
theorem dL_law_767 : decode cL_law 767 = .ok (.aload_n 1, 1) := by decide +kernel
theorem dL_law_768 : decode cL_law 768 = .ok (.aload_n 0, 1) := by decide +kernel
theorem dL_law_769 : decode cL_law 769 = .ok (.iload_n 3, 1) := by decide +kernel
theorem dL_law_770 : decode cL_law 770 = .ok (.iconst 1, 1) := by decide +kernel
theorem dL_law_771 : decode cL_law 771 = .ok (.iadd, 1) := by decide +kernel
theorem dL_law_772 : decode cL_law 772 = .ok (.iaload, 1) := by decide +kernel
theorem dL_law_773 : decode cL_law 773 = .ok (.invokevirtual 88, 3) := by decide +kernel
theorem dL_law_776 : decode cL_law 776 = .ok (.aload_n 2, 1) := by decide +kernel
theorem dL_law_777 : decode cL_law 777 = .ok (.aload_n 0, 1) := by decide +kernel
theorem dL_law_778 : decode cL_law 778 = .ok (.iload_n 3, 1) := by decide +kernel
theorem dL_law_779 : decode cL_law 779 = .ok (.iconst 1, 1) := by decide +kernel
theorem dL_law_780 : decode cL_law 780 = .ok (.iadd, 1) := by decide +kernel
theorem dL_law_781 : decode cL_law 781 = .ok (.iaload, 1) := by decide +kernel
theorem dL_law_782 : decode cL_law 782 = .ok (.invokevirtual 92, 3) := by decide +kernel
theorem dL_law_785 : decode cL_law 785 = .ok (.lcmp, 1) := by decide +kernel
theorem dL_law_786 : decode cL_law 786 = .ok (.ifCond .eq 403, 3) := by decide +kernel
theorem dL_law_789 : decode cL_law 789 = .ok (.iconst 0, 1) := by decide +kernel
theorem dL_law_790 : decode cL_law 790 = .ok (.ireturn, 1) := by decide +kernel
theorem dL_law_791 : decode cL_law 791 = .ok (.aload_n 1, 1) := by decide +kernel
theorem dL_law_792 : decode cL_law 792 = .ok (.aload_n 0, 1) := by decide +kernel
theorem dL_law_793 : decode cL_law 793 = .ok (.iload_n 3, 1) := by decide +kernel
theorem dL_law_794 : decode cL_law 794 = .ok (.iconst 1, 1) := by decide +kernel
theorem dL_law_795 : decode cL_law 795 = .ok (.iadd, 1) := by decide +kernel
theorem dL_law_796 : decode cL_law 796 = .ok (.iaload, 1) := by decide +kernel
theorem dL_law_797 : decode cL_law 797 = .ok (.aload_n 0, 1) := by decide +kernel
theorem dL_law_798 : decode cL_law 798 = .ok (.iload_n 3, 1) := by decide +kernel
theorem dL_law_799 : decode cL_law 799 = .ok (.iconst 2, 1) := by decide +kernel
theorem dL_law_800 : decode cL_law 800 = .ok (.iadd, 1) := by decide +kernel
theorem dL_law_801 : decode cL_law 801 = .ok (.iaload, 1) := by decide +kernel
theorem dL_law_802 : decode cL_law 802 = .ok (.ifCond .eq 7, 3) := by decide +kernel
theorem dL_law_805 : decode cL_law 805 = .ok (.iconst 1, 1) := by decide +kernel
theorem dL_law_806 : decode cL_law 806 = .ok (.goto 4, 3) := by decide +kernel
theorem dL_law_809 : decode cL_law 809 = .ok (.iconst 0, 1) := by decide +kernel
theorem dL_law_810 : decode cL_law 810 = .ok (.invokevirtual 93, 3) := by decide +kernel
theorem dL_law_813 : decode cL_law 813 = .ok (.aload_n 2, 1) := by decide +kernel
theorem dL_law_814 : decode cL_law 814 = .ok (.aload_n 0, 1) := by decide +kernel
theorem dL_law_815 : decode cL_law 815 = .ok (.iload_n 3, 1) := by decide +kernel
theorem dL_law_816 : decode cL_law 816 = .ok (.iconst 1, 1) := by decide +kernel
theorem dL_law_817 : decode cL_law 817 = .ok (.iadd, 1) := by decide +kernel
theorem dL_law_818 : decode cL_law 818 = .ok (.iaload, 1) := by decide +kernel
theorem dL_law_819 : decode cL_law 819 = .ok (.aload_n 0, 1) := by decide +kernel
theorem dL_law_820 : decode cL_law 820 = .ok (.iload_n 3, 1) := by decide +kernel
theorem dL_law_821 : decode cL_law 821 = .ok (.iconst 2, 1) := by decide +kernel
theorem dL_law_822 : decode cL_law 822 = .ok (.iadd, 1) := by decide +kernel
theorem dL_law_823 : decode cL_law 823 = .ok (.iaload, 1) := by decide +kernel
theorem dL_law_824 : decode cL_law 824 = .ok (.ifCond .eq 7, 3) := by decide +kernel
theorem dL_law_827 : decode cL_law 827 = .ok (.iconst 1, 1) := by decide +kernel
theorem dL_law_828 : decode cL_law 828 = .ok (.goto 4, 3) := by decide +kernel
theorem dL_law_831 : decode cL_law 831 = .ok (.iconst 0, 1) := by decide +kernel
theorem dL_law_832 : decode cL_law 832 = .ok (.invokevirtual 97, 3) := by decide +kernel
theorem dL_law_835 : decode cL_law 835 = .ok (.if_icmp .eq 354, 3) := by decide +kernel
theorem dL_law_838 : decode cL_law 838 = .ok (.iconst 0, 1) := by decide +kernel
theorem dL_law_839 : decode cL_law 839 = .ok (.ireturn, 1) := by decide +kernel
theorem dL_law_840 : decode cL_law 840 = .ok (.aload_n 1, 1) := by decide +kernel
theorem dL_law_841 : decode cL_law 841 = .ok (.invokevirtual 98, 3) := by decide +kernel
theorem dL_law_844 : decode cL_law 844 = .ok (.aload_n 2, 1) := by decide +kernel
theorem dL_law_845 : decode cL_law 845 = .ok (.invokevirtual 102, 3) := by decide +kernel
theorem dL_law_848 : decode cL_law 848 = .ok (.if_icmp .eq 341, 3) := by decide +kernel
theorem dL_law_851 : decode cL_law 851 = .ok (.iconst 0, 1) := by decide +kernel
theorem dL_law_852 : decode cL_law 852 = .ok (.ireturn, 1) := by decide +kernel
theorem dL_law_853 : decode cL_law 853 = .ok (.aload_n 1, 1) := by decide +kernel
theorem dL_law_854 : decode cL_law 854 = .ok (.aload_n 0, 1) := by decide +kernel
theorem dL_law_855 : decode cL_law 855 = .ok (.iload_n 3, 1) := by decide +kernel
theorem dL_law_856 : decode cL_law 856 = .ok (.iconst 1, 1) := by decide +kernel
theorem dL_law_857 : decode cL_law 857 = .ok (.iadd, 1) := by decide +kernel
theorem dL_law_858 : decode cL_law 858 = .ok (.iaload, 1) := by decide +kernel
theorem dL_law_859 : decode cL_law 859 = .ok (.aload_n 0, 1) := by decide +kernel
theorem dL_law_860 : decode cL_law 860 = .ok (.iload_n 3, 1) := by decide +kernel
theorem dL_law_861 : decode cL_law 861 = .ok (.iconst 2, 1) := by decide +kernel
theorem dL_law_862 : decode cL_law 862 = .ok (.iadd, 1) := by decide +kernel
theorem dL_law_863 : decode cL_law 863 = .ok (.iaload, 1) := by decide +kernel
theorem dL_law_864 : decode cL_law 864 = .ok (.aload_n 0, 1) := by decide +kernel
theorem dL_law_865 : decode cL_law 865 = .ok (.iload_n 3, 1) := by decide +kernel
theorem dL_law_866 : decode cL_law 866 = .ok (.iconst 3, 1) := by decide +kernel
theorem dL_law_867 : decode cL_law 867 = .ok (.iadd, 1) := by decide +kernel
theorem dL_law_868 : decode cL_law 868 = .ok (.iaload, 1) := by decide +kernel
theorem dL_law_869 : decode cL_law 869 = .ok (.invokevirtual 103, 3) := by decide +kernel
theorem dL_law_872 : decode cL_law 872 = .ok (.aload_n 2, 1) := by decide +kernel
theorem dL_law_873 : decode cL_law 873 = .ok (.aload_n 0, 1) := by decide +kernel
theorem dL_law_874 : decode cL_law 874 = .ok (.iload_n 3, 1) := by decide +kernel
theorem dL_law_875 : decode cL_law 875 = .ok (.iconst 1, 1) := by decide +kernel
theorem dL_law_876 : decode cL_law 876 = .ok (.iadd, 1) := by decide +kernel
theorem dL_law_877 : decode cL_law 877 = .ok (.iaload, 1) := by decide +kernel
theorem dL_law_878 : decode cL_law 878 = .ok (.aload_n 0, 1) := by decide +kernel
theorem dL_law_879 : decode cL_law 879 = .ok (.iload_n 3, 1) := by decide +kernel
theorem dL_law_880 : decode cL_law 880 = .ok (.iconst 2, 1) := by decide +kernel
theorem dL_law_881 : decode cL_law 881 = .ok (.iadd, 1) := by decide +kernel
theorem dL_law_882 : decode cL_law 882 = .ok (.iaload, 1) := by decide +kernel
theorem dL_law_883 : decode cL_law 883 = .ok (.aload_n 0, 1) := by decide +kernel
theorem dL_law_884 : decode cL_law 884 = .ok (.iload_n 3, 1) := by decide +kernel
theorem dL_law_885 : decode cL_law 885 = .ok (.iconst 3, 1) := by decide +kernel
theorem dL_law_886 : decode cL_law 886 = .ok (.iadd, 1) := by decide +kernel
theorem dL_law_887 : decode cL_law 887 = .ok (.iaload, 1) := by decide +kernel
theorem dL_law_888 : decode cL_law 888 = .ok (.invokevirtual 106, 3) := by decide +kernel
theorem dL_law_891 : decode cL_law 891 = .ok (.if_icmp .eq 298, 3) := by decide +kernel
theorem dL_law_894 : decode cL_law 894 = .ok (.iconst 0, 1) := by decide +kernel
theorem dL_law_895 : decode cL_law 895 = .ok (.ireturn, 1) := by decide +kernel
theorem dL_law_896 : decode cL_law 896 = .ok (.aload_n 1, 1) := by decide +kernel
theorem dL_law_897 : decode cL_law 897 = .ok (.aload_n 0, 1) := by decide +kernel
theorem dL_law_898 : decode cL_law 898 = .ok (.iload_n 3, 1) := by decide +kernel
theorem dL_law_899 : decode cL_law 899 = .ok (.iconst 1, 1) := by decide +kernel
theorem dL_law_900 : decode cL_law 900 = .ok (.iadd, 1) := by decide +kernel
theorem dL_law_901 : decode cL_law 901 = .ok (.iaload, 1) := by decide +kernel
theorem dL_law_902 : decode cL_law 902 = .ok (.aload_n 0, 1) := by decide +kernel
theorem dL_law_903 : decode cL_law 903 = .ok (.iload_n 3, 1) := by decide +kernel
theorem dL_law_904 : decode cL_law 904 = .ok (.iconst 2, 1) := by decide +kernel
theorem dL_law_905 : decode cL_law 905 = .ok (.iadd, 1) := by decide +kernel
theorem dL_law_906 : decode cL_law 906 = .ok (.iaload, 1) := by decide +kernel
theorem dL_law_907 : decode cL_law 907 = .ok (.aload_n 0, 1) := by decide +kernel
theorem dL_law_908 : decode cL_law 908 = .ok (.iload_n 3, 1) := by decide +kernel
theorem dL_law_909 : decode cL_law 909 = .ok (.iconst 3, 1) := by decide +kernel
theorem dL_law_910 : decode cL_law 910 = .ok (.iadd, 1) := by decide +kernel
theorem dL_law_911 : decode cL_law 911 = .ok (.iaload, 1) := by decide +kernel
theorem dL_law_912 : decode cL_law 912 = .ok (.invokevirtual 107, 3) := by decide +kernel
theorem dL_law_915 : decode cL_law 915 = .ok (.aload_n 2, 1) := by decide +kernel
theorem dL_law_916 : decode cL_law 916 = .ok (.aload_n 0, 1) := by decide +kernel
theorem dL_law_917 : decode cL_law 917 = .ok (.iload_n 3, 1) := by decide +kernel
theorem dL_law_918 : decode cL_law 918 = .ok (.iconst 1, 1) := by decide +kernel
theorem dL_law_919 : decode cL_law 919 = .ok (.iadd, 1) := by decide +kernel
theorem dL_law_920 : decode cL_law 920 = .ok (.iaload, 1) := by decide +kernel
theorem dL_law_921 : decode cL_law 921 = .ok (.aload_n 0, 1) := by decide +kernel
theorem dL_law_922 : decode cL_law 922 = .ok (.iload_n 3, 1) := by decide +kernel
theorem dL_law_923 : decode cL_law 923 = .ok (.iconst 2, 1) := by decide +kernel
theorem dL_law_924 : decode cL_law 924 = .ok (.iadd, 1) := by decide +kernel
theorem dL_law_925 : decode cL_law 925 = .ok (.iaload, 1) := by decide +kernel
theorem dL_law_926 : decode cL_law 926 = .ok (.aload_n 0, 1) := by decide +kernel
theorem dL_law_927 : decode cL_law 927 = .ok (.iload_n 3, 1) := by decide +kernel
theorem dL_law_928 : decode cL_law 928 = .ok (.iconst 3, 1) := by decide +kernel
theorem dL_law_929 : decode cL_law 929 = .ok (.iadd, 1) := by decide +kernel
theorem dL_law_930 : decode cL_law 930 = .ok (.iaload, 1) := by decide +kernel
theorem dL_law_931 : decode cL_law 931 = .ok (.invokevirtual 110, 3) := by decide +kernel
theorem dL_law_934 : decode cL_law 934 = .ok (.if_icmp .eq 255, 3) := by decide +kernel
theorem dL_law_937 : decode cL_law 937 = .ok (.iconst 0, 1) := by decide +kernel
theorem dL_law_938 : decode cL_law 938 = .ok (.ireturn, 1) := by decide +kernel
theorem dL_law_939 : decode cL_law 939 = .ok (.aload_n 1, 1) := by decide +kernel
theorem dL_law_940 : decode cL_law 940 = .ok (.aload_n 0, 1) := by decide +kernel
theorem dL_law_941 : decode cL_law 941 = .ok (.iload_n 3, 1) := by decide +kernel
theorem dL_law_942 : decode cL_law 942 = .ok (.iconst 1, 1) := by decide +kernel
theorem dL_law_943 : decode cL_law 943 = .ok (.iadd, 1) := by decide +kernel
theorem dL_law_944 : decode cL_law 944 = .ok (.iaload, 1) := by decide +kernel
theorem dL_law_945 : decode cL_law 945 = .ok (.aload_n 0, 1) := by decide +kernel
theorem dL_law_946 : decode cL_law 946 = .ok (.iload_n 3, 1) := by decide +kernel
theorem dL_law_947 : decode cL_law 947 = .ok (.iconst 2, 1) := by decide +kernel
theorem dL_law_948 : decode cL_law 948 = .ok (.iadd, 1) := by decide +kernel
theorem dL_law_949 : decode cL_law 949 = .ok (.iaload, 1) := by decide +kernel
theorem dL_law_950 : decode cL_law 950 = .ok (.aload_n 0, 1) := by decide +kernel
theorem dL_law_951 : decode cL_law 951 = .ok (.iload_n 3, 1) := by decide +kernel
theorem dL_law_952 : decode cL_law 952 = .ok (.iconst 3, 1) := by decide +kernel
theorem dL_law_953 : decode cL_law 953 = .ok (.iadd, 1) := by decide +kernel
theorem dL_law_954 : decode cL_law 954 = .ok (.iaload, 1) := by decide +kernel
theorem dL_law_955 : decode cL_law 955 = .ok (.aload_n 0, 1) := by decide +kernel
theorem dL_law_956 : decode cL_law 956 = .ok (.iload_n 3, 1) := by decide +kernel
theorem dL_law_957 : decode cL_law 957 = .ok (.iconst 4, 1) := by decide +kernel
theorem dL_law_958 : decode cL_law 958 = .ok (.iadd, 1) := by decide +kernel
theorem dL_law_959 : decode cL_law 959 = .ok (.iaload, 1) := by decide +kernel
theorem dL_law_960 : decode cL_law 960 = .ok (.invokevirtual 111, 3) := by decide +kernel
theorem dL_law_963 : decode cL_law 963 = .ok (.aload_n 2, 1) := by decide +kernel
theorem dL_law_964 : decode cL_law 964 = .ok (.aload_n 0, 1) := by decide +kernel
theorem dL_law_965 : decode cL_law 965 = .ok (.iload_n 3, 1) := by decide +kernel
theorem dL_law_966 : decode cL_law 966 = .ok (.iconst 1, 1) := by decide +kernel
theorem dL_law_967 : decode cL_law 967 = .ok (.iadd, 1) := by decide +kernel
theorem dL_law_968 : decode cL_law 968 = .ok (.iaload, 1) := by decide +kernel
theorem dL_law_969 : decode cL_law 969 = .ok (.aload_n 0, 1) := by decide +kernel
theorem dL_law_970 : decode cL_law 970 = .ok (.iload_n 3, 1) := by decide +kernel
theorem dL_law_971 : decode cL_law 971 = .ok (.iconst 2, 1) := by decide +kernel
theorem dL_law_972 : decode cL_law 972 = .ok (.iadd, 1) := by decide +kernel
theorem dL_law_973 : decode cL_law 973 = .ok (.iaload, 1) := by decide +kernel
theorem dL_law_974 : decode cL_law 974 = .ok (.aload_n 0, 1) := by decide +kernel
theorem dL_law_975 : decode cL_law 975 = .ok (.iload_n 3, 1) := by decide +kernel
theorem dL_law_976 : decode cL_law 976 = .ok (.iconst 3, 1) := by decide +kernel
theorem dL_law_977 : decode cL_law 977 = .ok (.iadd, 1) := by decide +kernel
theorem dL_law_978 : decode cL_law 978 = .ok (.iaload, 1) := by decide +kernel
theorem dL_law_979 : decode cL_law 979 = .ok (.aload_n 0, 1) := by decide +kernel
theorem dL_law_980 : decode cL_law 980 = .ok (.iload_n 3, 1) := by decide +kernel
theorem dL_law_981 : decode cL_law 981 = .ok (.iconst 4, 1) := by decide +kernel
theorem dL_law_982 : decode cL_law 982 = .ok (.iadd, 1) := by decide +kernel
theorem dL_law_983 : decode cL_law 983 = .ok (.iaload, 1) := by decide +kernel
theorem dL_law_984 : decode cL_law 984 = .ok (.invokevirtual 114, 3) := by decide +kernel
theorem dL_law_987 : decode cL_law 987 = .ok (.if_icmp .eq 202, 3) := by decide +kernel
theorem dL_law_990 : decode cL_law 990 = .ok (.iconst 0, 1) := by decide +kernel
theorem dL_law_991 : decode cL_law 991 = .ok (.ireturn, 1) := by decide +kernel
theorem dL_law_992 : decode cL_law 992 = .ok (.aload_n 1, 1) := by decide +kernel
theorem dL_law_993 : decode cL_law 993 = .ok (.aload_n 0, 1) := by decide +kernel
theorem dL_law_994 : decode cL_law 994 = .ok (.iload_n 3, 1) := by decide +kernel
theorem dL_law_995 : decode cL_law 995 = .ok (.iconst 1, 1) := by decide +kernel
theorem dL_law_996 : decode cL_law 996 = .ok (.iadd, 1) := by decide +kernel
theorem dL_law_997 : decode cL_law 997 = .ok (.iaload, 1) := by decide +kernel
theorem dL_law_998 : decode cL_law 998 = .ok (.aload_n 0, 1) := by decide +kernel
theorem dL_law_999 : decode cL_law 999 = .ok (.iload_n 3, 1) := by decide +kernel
theorem dL_law_1000 : decode cL_law 1000 = .ok (.iconst 2, 1) := by decide +kernel
theorem dL_law_1001 : decode cL_law 1001 = .ok (.iadd, 1) := by decide +kernel
theorem dL_law_1002 : decode cL_law 1002 = .ok (.iaload, 1) := by decide +kernel
theorem dL_law_1003 : decode cL_law 1003 = .ok (.invokevirtual 115, 3) := by decide +kernel
theorem dL_law_1006 : decode cL_law 1006 = .ok (.aload_n 2, 1) := by decide +kernel
theorem dL_law_1007 : decode cL_law 1007 = .ok (.aload_n 0, 1) := by decide +kernel
theorem dL_law_1008 : decode cL_law 1008 = .ok (.iload_n 3, 1) := by decide +kernel
theorem dL_law_1009 : decode cL_law 1009 = .ok (.iconst 1, 1) := by decide +kernel
theorem dL_law_1010 : decode cL_law 1010 = .ok (.iadd, 1) := by decide +kernel
theorem dL_law_1011 : decode cL_law 1011 = .ok (.iaload, 1) := by decide +kernel
theorem dL_law_1012 : decode cL_law 1012 = .ok (.aload_n 0, 1) := by decide +kernel
theorem dL_law_1013 : decode cL_law 1013 = .ok (.iload_n 3, 1) := by decide +kernel
theorem dL_law_1014 : decode cL_law 1014 = .ok (.iconst 2, 1) := by decide +kernel
theorem dL_law_1015 : decode cL_law 1015 = .ok (.iadd, 1) := by decide +kernel
theorem dL_law_1016 : decode cL_law 1016 = .ok (.iaload, 1) := by decide +kernel
theorem dL_law_1017 : decode cL_law 1017 = .ok (.invokevirtual 118, 3) := by decide +kernel
theorem dL_law_1020 : decode cL_law 1020 = .ok (.if_icmp .eq 169, 3) := by decide +kernel
theorem dL_law_1023 : decode cL_law 1023 = .ok (.iconst 0, 1) := by decide +kernel
theorem dL_law_1024 : decode cL_law 1024 = .ok (.ireturn, 1) := by decide +kernel
theorem dL_law_1025 : decode cL_law 1025 = .ok (.aload_n 1, 1) := by decide +kernel
theorem dL_law_1026 : decode cL_law 1026 = .ok (.aload_n 0, 1) := by decide +kernel
theorem dL_law_1027 : decode cL_law 1027 = .ok (.iload_n 3, 1) := by decide +kernel
theorem dL_law_1028 : decode cL_law 1028 = .ok (.iconst 1, 1) := by decide +kernel
theorem dL_law_1029 : decode cL_law 1029 = .ok (.iadd, 1) := by decide +kernel
theorem dL_law_1030 : decode cL_law 1030 = .ok (.iaload, 1) := by decide +kernel
theorem dL_law_1031 : decode cL_law 1031 = .ok (.invokevirtual 119, 3) := by decide +kernel
theorem dL_law_1034 : decode cL_law 1034 = .ok (.aload_n 2, 1) := by decide +kernel
theorem dL_law_1035 : decode cL_law 1035 = .ok (.aload_n 0, 1) := by decide +kernel
theorem dL_law_1036 : decode cL_law 1036 = .ok (.iload_n 3, 1) := by decide +kernel
theorem dL_law_1037 : decode cL_law 1037 = .ok (.iconst 1, 1) := by decide +kernel
theorem dL_law_1038 : decode cL_law 1038 = .ok (.iadd, 1) := by decide +kernel
theorem dL_law_1039 : decode cL_law 1039 = .ok (.iaload, 1) := by decide +kernel
theorem dL_law_1040 : decode cL_law 1040 = .ok (.invokevirtual 122, 3) := by decide +kernel
theorem dL_law_1043 : decode cL_law 1043 = .ok (.if_icmp .eq 146, 3) := by decide +kernel
theorem dL_law_1046 : decode cL_law 1046 = .ok (.iconst 0, 1) := by decide +kernel
theorem dL_law_1047 : decode cL_law 1047 = .ok (.ireturn, 1) := by decide +kernel
theorem dL_law_1048 : decode cL_law 1048 = .ok (.aload_n 1, 1) := by decide +kernel
theorem dL_law_1049 : decode cL_law 1049 = .ok (.invokevirtual 123, 3) := by decide +kernel
theorem dL_law_1052 : decode cL_law 1052 = .ok (.aload_n 2, 1) := by decide +kernel
theorem dL_law_1053 : decode cL_law 1053 = .ok (.invokevirtual 126, 3) := by decide +kernel
theorem dL_law_1056 : decode cL_law 1056 = .ok (.if_icmp .eq 133, 3) := by decide +kernel
theorem dL_law_1059 : decode cL_law 1059 = .ok (.iconst 0, 1) := by decide +kernel
theorem dL_law_1060 : decode cL_law 1060 = .ok (.ireturn, 1) := by decide +kernel
theorem dL_law_1061 : decode cL_law 1061 = .ok (.aload_n 1, 1) := by decide +kernel
theorem dL_law_1062 : decode cL_law 1062 = .ok (.aload_n 0, 1) := by decide +kernel
theorem dL_law_1063 : decode cL_law 1063 = .ok (.iload_n 3, 1) := by decide +kernel
theorem dL_law_1064 : decode cL_law 1064 = .ok (.iconst 1, 1) := by decide +kernel
theorem dL_law_1065 : decode cL_law 1065 = .ok (.iadd, 1) := by decide +kernel
theorem dL_law_1066 : decode cL_law 1066 = .ok (.iaload, 1) := by decide +kernel
theorem dL_law_1067 : decode cL_law 1067 = .ok (.invokevirtual 127, 3) := by decide +kernel
theorem dL_law_1070 : decode cL_law 1070 = .ok (.aload_n 2, 1) := by decide +kernel
theorem dL_law_1071 : decode cL_law 1071 = .ok (.aload_n 0, 1) := by decide +kernel
theorem dL_law_1072 : decode cL_law 1072 = .ok (.iload_n 3, 1) := by decide +kernel
theorem dL_law_1073 : decode cL_law 1073 = .ok (.iconst 1, 1) := by decide +kernel
theorem dL_law_1074 : decode cL_law 1074 = .ok (.iadd, 1) := by decide +kernel
theorem dL_law_1075 : decode cL_law 1075 = .ok (.iaload, 1) := by decide +kernel
theorem dL_law_1076 : decode cL_law 1076 = .ok (.invokevirtual 130, 3) := by decide +kernel
theorem dL_law_1079 : decode cL_law 1079 = .ok (.if_icmp .eq 110, 3) := by decide +kernel
theorem dL_law_1082 : decode cL_law 1082 = .ok (.iconst 0, 1) := by decide +kernel
theorem dL_law_1083 : decode cL_law 1083 = .ok (.ireturn, 1) := by decide +kernel
theorem dL_law_1084 : decode cL_law 1084 = .ok (.aload_n 1, 1) := by decide +kernel
theorem dL_law_1085 : decode cL_law 1085 = .ok (.aload_n 0, 1) := by decide +kernel
theorem dL_law_1086 : decode cL_law 1086 = .ok (.iload_n 3, 1) := by decide +kernel
theorem dL_law_1087 : decode cL_law 1087 = .ok (.iconst 1, 1) := by decide +kernel
theorem dL_law_1088 : decode cL_law 1088 = .ok (.iadd, 1) := by decide +kernel
theorem dL_law_1089 : decode cL_law 1089 = .ok (.iaload, 1) := by decide +kernel
theorem dL_law_1090 : decode cL_law 1090 = .ok (.invokevirtual 131, 3) := by decide +kernel
theorem dL_law_1093 : decode cL_law 1093 = .ok (.aload_n 2, 1) := by decide +kernel
theorem dL_law_1094 : decode cL_law 1094 = .ok (.aload_n 0, 1) := by decide +kernel
theorem dL_law_1095 : decode cL_law 1095 = .ok (.iload_n 3, 1) := by decide +kernel
theorem dL_law_1096 : decode cL_law 1096 = .ok (.iconst 1, 1) := by decide +kernel
theorem dL_law_1097 : decode cL_law 1097 = .ok (.iadd, 1) := by decide +kernel
theorem dL_law_1098 : decode cL_law 1098 = .ok (.iaload, 1) := by decide +kernel
theorem dL_law_1099 : decode cL_law 1099 = .ok (.invokevirtual 134, 3) := by decide +kernel
theorem dL_law_1102 : decode cL_law 1102 = .ok (.if_icmp .eq 87, 3) := by decide +kernel
theorem dL_law_1105 : decode cL_law 1105 = .ok (.iconst 0, 1) := by decide +kernel
theorem dL_law_1106 : decode cL_law 1106 = .ok (.ireturn, 1) := by decide +kernel
theorem dL_law_1107 : decode cL_law 1107 = .ok (.aload_n 1, 1) := by decide +kernel
theorem dL_law_1108 : decode cL_law 1108 = .ok (.aload_n 0, 1) := by decide +kernel
theorem dL_law_1109 : decode cL_law 1109 = .ok (.iload_n 3, 1) := by decide +kernel
theorem dL_law_1110 : decode cL_law 1110 = .ok (.iconst 1, 1) := by decide +kernel
theorem dL_law_1111 : decode cL_law 1111 = .ok (.iadd, 1) := by decide +kernel
theorem dL_law_1112 : decode cL_law 1112 = .ok (.iaload, 1) := by decide +kernel
theorem dL_law_1113 : decode cL_law 1113 = .ok (.invokevirtual 135, 3) := by decide +kernel
theorem dL_law_1116 : decode cL_law 1116 = .ok (.aload_n 2, 1) := by decide +kernel
theorem dL_law_1117 : decode cL_law 1117 = .ok (.aload_n 0, 1) := by decide +kernel
theorem dL_law_1118 : decode cL_law 1118 = .ok (.iload_n 3, 1) := by decide +kernel
theorem dL_law_1119 : decode cL_law 1119 = .ok (.iconst 1, 1) := by decide +kernel
theorem dL_law_1120 : decode cL_law 1120 = .ok (.iadd, 1) := by decide +kernel
theorem dL_law_1121 : decode cL_law 1121 = .ok (.iaload, 1) := by decide +kernel
theorem dL_law_1122 : decode cL_law 1122 = .ok (.invokevirtual 138, 3) := by decide +kernel
theorem dL_law_1125 : decode cL_law 1125 = .ok (.if_icmp .eq 64, 3) := by decide +kernel
theorem dL_law_1128 : decode cL_law 1128 = .ok (.iconst 0, 1) := by decide +kernel
theorem dL_law_1129 : decode cL_law 1129 = .ok (.ireturn, 1) := by decide +kernel
theorem dL_law_1130 : decode cL_law 1130 = .ok (.aload_n 1, 1) := by decide +kernel
theorem dL_law_1131 : decode cL_law 1131 = .ok (.invokevirtual 139, 3) := by decide +kernel
theorem dL_law_1134 : decode cL_law 1134 = .ok (.aload_n 2, 1) := by decide +kernel
theorem dL_law_1135 : decode cL_law 1135 = .ok (.invokevirtual 142, 3) := by decide +kernel
theorem dL_law_1138 : decode cL_law 1138 = .ok (.if_icmp .eq 51, 3) := by decide +kernel
theorem dL_law_1141 : decode cL_law 1141 = .ok (.iconst 0, 1) := by decide +kernel
theorem dL_law_1142 : decode cL_law 1142 = .ok (.ireturn, 1) := by decide +kernel
theorem dL_law_1143 : decode cL_law 1143 = .ok (.aload_n 1, 1) := by decide +kernel
theorem dL_law_1144 : decode cL_law 1144 = .ok (.aload_n 0, 1) := by decide +kernel
theorem dL_law_1145 : decode cL_law 1145 = .ok (.iload_n 3, 1) := by decide +kernel
theorem dL_law_1146 : decode cL_law 1146 = .ok (.iconst 1, 1) := by decide +kernel
theorem dL_law_1147 : decode cL_law 1147 = .ok (.iadd, 1) := by decide +kernel
theorem dL_law_1148 : decode cL_law 1148 = .ok (.iaload, 1) := by decide +kernel
theorem dL_law_1149 : decode cL_law 1149 = .ok (.invokevirtual 143, 3) := by decide +kernel
theorem dL_law_1152 : decode cL_law 1152 = .ok (.aload_n 2, 1) := by decide +kernel
theorem dL_law_1153 : decode cL_law 1153 = .ok (.aload_n 0, 1) := by decide +kernel
theorem dL_law_1154 : decode cL_law 1154 = .ok (.iload_n 3, 1) := by decide +kernel
theorem dL_law_1155 : decode cL_law 1155 = .ok (.iconst 1, 1) := by decide +kernel
theorem dL_law_1156 : decode cL_law 1156 = .ok (.iadd, 1) := by decide +kernel
theorem dL_law_1157 : decode cL_law 1157 = .ok (.iaload, 1) := by decide +kernel
theorem dL_law_1158 : decode cL_law 1158 = .ok (.invokevirtual 146, 3) := by decide +kernel
theorem dL_law_1161 : decode cL_law 1161 = .ok (.if_icmp .eq 28, 3) := by decide +kernel
theorem dL_law_1164 : decode cL_law 1164 = .ok (.iconst 0, 1) := by decide +kernel
theorem dL_law_1165 : decode cL_law 1165 = .ok (.ireturn, 1) := by decide +kernel
theorem dL_law_1166 : decode cL_law 1166 = .ok (.aload_n 1, 1) := by decide +kernel
theorem dL_law_1167 : decode cL_law 1167 = .ok (.aload_n 0, 1) := by decide +kernel
theorem dL_law_1168 : decode cL_law 1168 = .ok (.iload_n 3, 1) := by decide +kernel
theorem dL_law_1169 : decode cL_law 1169 = .ok (.iconst 1, 1) := by decide +kernel
theorem dL_law_1170 : decode cL_law 1170 = .ok (.iadd, 1) := by decide +kernel
theorem dL_law_1171 : decode cL_law 1171 = .ok (.iaload, 1) := by decide +kernel
theorem dL_law_1172 : decode cL_law 1172 = .ok (.invokevirtual 147, 3) := by decide +kernel
theorem dL_law_1175 : decode cL_law 1175 = .ok (.aload_n 2, 1) := by decide +kernel
theorem dL_law_1176 : decode cL_law 1176 = .ok (.aload_n 0, 1) := by decide +kernel
theorem dL_law_1177 : decode cL_law 1177 = .ok (.iload_n 3, 1) := by decide +kernel
theorem dL_law_1178 : decode cL_law 1178 = .ok (.iconst 1, 1) := by decide +kernel
theorem dL_law_1179 : decode cL_law 1179 = .ok (.iadd, 1) := by decide +kernel
theorem dL_law_1180 : decode cL_law 1180 = .ok (.iaload, 1) := by decide +kernel
theorem dL_law_1181 : decode cL_law 1181 = .ok (.invokevirtual 150, 3) := by decide +kernel
theorem dL_law_1184 : decode cL_law 1184 = .ok (.if_icmp .eq 5, 3) := by decide +kernel
theorem dL_law_1187 : decode cL_law 1187 = .ok (.iconst 0, 1) := by decide +kernel
theorem dL_law_1188 : decode cL_law 1188 = .ok (.ireturn, 1) := by decide +kernel
theorem dL_law_1189 : decode cL_law 1189 = .ok (.iinc 3 5, 3) := by decide +kernel
theorem dL_law_1192 : decode cL_law 1192 = .ok (.goto (-1174), 3) := by decide +kernel
theorem dL_law_1195 : decode cL_law 1195 = .ok (.iconst 1, 1) := by decide +kernel
theorem dL_law_1196 : decode cL_law 1196 = .ok (.ireturn, 1) := by decide +kernel
end
section

/-! ===== abstract heaps: ints, longs, references, shapes; addresses count from the law's entry on ===== -/
abbrev aI : Type := Nat → Nat → Int32
abbrev aL : Type := Nat → Nat → Int64
/-- references (by address and slot), shapes (kind, length), how many cells -/
abbrev aG : Type := (Nat → Nat → Option Nat) × (Nat → Nat × Nat) × Nat
/-- the run's constants: base, LOW_FACTS, script; numbers of classes; array classes int, long, byte, boolean, Item, Sheet -/
abbrev aE : Type := (Nat × Nat × Nat) × va_G × (ClassId × ClassId × ClassId × ClassId × ClassId × ClassId)
/-- a method: name, code, locals, answer -/
abbrev aM : Type := MethodName × ByteArray × Nat × Option FieldType
abbrev aQ : Type := aI → aL → aG → Option Value → Prop
def am_v (E : aE) : Value → Value
  | .ref a => .ref (E.1.1 + a)
  | .retAddr k => .ref (if k = 1 then E.1.2.1 else E.1.2.2)
  | v => v
def am_tys (E : aE) : List (ClassId × FieldType) := [(E.2.2.1, .int), (E.2.2.2.1, .long), (E.2.2.2.2.1, .byte), (E.2.2.2.2.2.1, .boolean), (E.2.2.2.2.2.2.1, .object RX0), (E.2.2.2.2.2.2.2, .object RX1)]
def am_ty (ci k : Nat) : FieldType := match ci with
  | 0 => tyX0 k
  | 1 => tyX1 k
  | 2 => tyX2 k
  | 3 => tyX3 k
  | 4 => tyX4 k
  | 5 => tyX5 k
  | _ => tyX6 k
def am_T (ci : Nat) : u_T := match ci with
  | 0 => TX0
  | 1 => TX1
  | 2 => TX2
  | 3 => TX3
  | 4 => TX4
  | 5 => TX5
  | _ => TX6
def am_R (ci : Nat) : String := match ci with
  | 0 => RX0
  | 1 => RX1
  | 2 => RX2
  | 3 => RX3
  | 4 => RX4
  | 5 => RX5
  | _ => RX6
def am_n (ci : Nat) : Nat := match ci with
  | 0 => 7
  | 1 => 3
  | 2 => 1
  | 3 => 6
  | 4 => 12
  | 5 => 16
  | _ => 30
def am_isR (t : FieldType) : Bool := match t with
  | .object _ => true
  | .array _ => true
  | _ => false
def am_rf (E : aE) (r : Option Nat) : Option Nat := r.map (fun a => E.1.1 + a)
def am_f (E : aE) (ci k : Nat) (x : Int32) (r : Option Nat) : Value := if am_isR (am_ty ci k) = true then va_rf (am_rf E r) else .int x
def am_fs (E : aE) (ci : Nat) (x : Nat → Int32) (r : Nat → Option Nat) : List Value := (List.range (am_n ci)).map (fun k => am_f E ci k (x k) (r k))
/-- what a cell is: kinds 0 to 6 objects of that class, 10 ints, 11 longs, 12 bytes, 13 booleans, 14 Items, 15 Sheets -/
def am_e (E : aE) (x : Nat → Int32) (y : Nat → Int64) (r : Nat → Option Nat) (q : Nat × Nat) : va_E :=
  if q.1 < 10 then .inr (q.1, am_fs E q.1 x r)
  else if q.1 = 10 then .inl (E.2.2.1, q.2, .inl x)
  else if q.1 = 11 then .inl (E.2.2.2.1, q.2, .inr (.inl y))
  else if q.1 = 12 then .inl (E.2.2.2.2.1, q.2, .inl x)
  else if q.1 = 13 then .inl (E.2.2.2.2.2.1, q.2, .inl x)
  else if q.1 = 14 then .inl (E.2.2.2.2.2.2.1, q.2, .inr (.inr (.inr (.inr (fun i => am_rf E (r i))))))
  else .inl (E.2.2.2.2.2.2.2, q.2, .inr (.inr (.inr (.inr (fun i => am_rf E (r i))))))
def am_W (E : aE) (I : aI) (L : aL) (G : aG) : va_W := (List.range G.2.2).map (fun a => (E.1.1 + a, am_e E (I a) (L a) (G.1 a) (G.2.1 a)))
def am_A (E : aE) : Nat → Prop := fun q => E.1.1 ≤ q
def am_u {α : Type} (f : Nat → Nat → α) (a k : Nat) (v : α) : Nat → Nat → α := fun b j => if b = a ∧ j = k then v else f b j
def am_low : Nat → Value := fun j => match j with
  | 0 => .long (-6148914691236517206)
  | 1 => .long (-3689348814741910324)
  | 2 => .long (-1085102592571150096)
  | 3 => .long (-71777214294589696)
  | 4 => .long (-281470681808896)
  | _ => .long (-4294967296)
def am_lowv : Nat → Int64 := fun j => match j with
  | 0 => (-6148914691236517206)
  | 1 => (-3689348814741910324)
  | 2 => (-1085102592571150096)
  | 3 => (-71777214294589696)
  | 4 => (-281470681808896)
  | _ => (-4294967296)
theorem am_low_eq (j : Nat) : am_low j = .long (am_lowv j) := by
  unfold am_low am_lowv
  split <;> rfl
/-- the words that hold at every method's entry -/
def am_ws : List Cond := lw_tbl.filter goodWord
/-- words on nest mates and arrays of objects: carried by hand -/
def am_nM : List (String × Nat × MethodName × String) := [(RX5, 11, yX3_init, RX5), (RX5, 56, yX1_init, RX5), (RX2, 59, yX5_stateOf, RX5), (RX2, 63, yX5_sceneOf, RX5), (RX2, 69, yX5_factsOf, RX5), (RX4, 65, yX5_sceneOf, RX5), (RX4, 73, yX5_factsOf, RX5), (RX4, 76, yX5_stateOf, RX5)]
def am_Nw (U : State) : Prop := (∀ q ∈ am_nM, va_Nw (.methodLinkNest q.1 q.2.1 q.2.2.1 q.2.2.2) U) ∧ va_Nw (.fieldLinkNest RX0 44 RX3 "LOW_FACTS" "[J" RX5) U ∧ va_AO RX0 U ∧ va_AO RX1 U
/-- what is known of a state at a method's entry -/
def am_C (E : aE) (s : State) : Prop := va_K E.2.1 vwCl (am_tys E) s ∧ va_Z RX3 "LOW_FACTS" "[J" (.ref E.1.2.1) (am_A E) s s.heap ∧ va_T .long E.1.2.1 6 am_low (am_A E) s s.heap ∧ am_Nw s ∧ E.1.1 ≤ s.heap.size
def am_X (E : aE) (sc : Option (Nat × (Nat → Int32))) (s : State) : Prop := match sc with
  | none => True
  | some q => va_X E.1.2.2 q.1 q.2 s s.heap ∧ E.1.2.2 < s.heap.size ∧ ¬ am_A E E.1.2.2
def am_At (E : aE) (sc : Option (Nat × (Nat → Int32))) (X : aM) (p : Program) (s : State) (m : MethodId) (args : Array Value) (meth : Method) (c : Code) : Prop :=
  p.tables.exec = Jvm.exec ∧ c.code = X.2.1 ∧ c.maxLocals = X.2.2.1 ∧ meth.sig.returnType = X.2.2.2 ∧ meth.locks = false ∧ s.vm.findClass X.1.cls = some m.cls ∧ (X.1.name = "<init>" → meth.name = "<init>") ∧ (∀ w ∈ am_ws, w.before args s = true) ∧ am_C E s ∧ am_X E sc s
/-- the heap holds the picture; nothing old was changed outside -/
def am_H (E : aE) (I : aI) (L : aL) (G : aG) (s : State) (H : Heap) (locs : List Loc) : Prop := H.size = E.1.1 + G.2.2 ∧ va_P E.2.1 vwCl (am_W E I L G) H ∧ va_S (am_A E) s.heap H locs
/-- the locals: one value a place; retAddr 0: not known -/
def am_l (E : aE) (lr : Array Slot) (nL : Nat) (ls : List Value) : Prop := lr.size = nL ∧ lv_wf lr ∧ ls.length = nL ∧ ∀ (i : Nat) (v : Value), ls[i]? = some v → v ≠ .retAddr 0 → lr[i]? = some (.val (am_v E v))
/-- how a method ends -/
def am_Rt (X : aM) (pc : Nat) (v : Option Value) : Prop :=
  (decode X.2.1 pc = .ok (.ireturn, 1) ∧ ∃ (x : Int32) (ty : FieldType), v = some (.int x) ∧ X.2.2.2 = some ty ∧ narrow ty (.int x) = .int x)
  ∨ (decode X.2.1 pc = .ok (.lreturn, 1) ∧ X.2.2.2 = some .long ∧ ∃ x : Int64, v = some (.long x))
  ∨ (decode X.2.1 pc = .ok (.areturn, 1) ∧ (∃ C, X.2.2.2 = some (.object C)) ∧ ∃ a : Nat, v = some (.ref a))
  ∨ (decode X.2.1 pc = .ok (.return_, 1) ∧ X.2.2.2 = none ∧ v = none)
def am_End (E : aE) (X : aM) (Q : aQ) (p : Program) (l : Launch) (e : Env) (R : Room) (s : State) (m : MethodId) (args : Array Value) (below : List Frame) (meth : Method) (c : Code) (Z : State → Prop) (mc ms : Nat) : Prop :=
  ∀ (I : aI) (L : aL) (G : aG) (v : Option Value) (H : Heap) (locs : List Loc) (pc : Nat) (lr : Array Slot), Q I L G v → am_H E I L G s H locs → am_Rt X pc v → W p l e R s m args below meth c H locs mc ms Z (F0 m pc lr ((v.toList).map (am_v E)))
/-- the abstract judgement: method X stands at pc with these locals, this stack, this heap; d calls deep, k cells and n slots may be made; it ends with Q -/
def aB (sc : Option (Nat × (Nat → Int32))) (X : aM) (d k n : Nat) (pc : Nat) (ls st : List Value) (I : aI) (L : aL) (G : aG) (Q : aQ) : Prop :=
  ∀ (E : aE) (p : Program) (l : Launch) (e : Env) (R : Room) (s : State) (m : MethodId) (args : Array Value) (below : List Frame) (meth : Method) (c : Code) (Z : State → Prop) (mc ms : Nat),
    am_At E sc X p s m args meth c → am_End E X Q p l e R s m args below meth c Z mc ms → d ≤ R.frames → 64 * d ≤ R.locals → mc ≤ R.cells → ms ≤ R.slots →
    ∀ (H : Heap) (locs : List Loc) (cells slots : Nat) (lr : Array Slot), cells + k ≤ mc → slots + n ≤ ms → am_l E lr X.2.2.1 ls → am_H E I L G s H locs →
      W p l e R s m args below meth c H locs cells slots Z (F0 m pc lr (st.map (am_v E)))
/-! ===== the picture ===== -/
theorem am_W_get {E : aE} {I : aI} {L : aL} {G : aG} {a : Nat} (h : a < G.2.2) : (am_W E I L G)[a]? = some (E.1.1 + a, am_e E (I a) (L a) (G.1 a) (G.2.1 a)) := by
  simp [am_W, h]
theorem am_W_len {E : aE} {I : aI} {L : aL} {G : aG} : (am_W E I L G).length = G.2.2 := by simp [am_W]
theorem am_W_set {E : aE} {I I' : aI} {L L' : aL} {R R' : Nat → Nat → Option Nat} {S : Nat → Nat × Nat} {z a : Nat} {x : va_E} (hx : x = am_e E (I' a) (L' a) (R' a) (S a))
    (ho : ∀ j, j ≠ a → I' j = I j ∧ L' j = L j ∧ R' j = R j) : (am_W E I L (R, S, z)).set a (E.1.1 + a, x) = am_W E I' L' (R', S, z) := by
  apply List.ext_getElem?
  intro j
  rw [List.getElem?_set]
  by_cases hj : a = j
  · subst hj
    rw [if_pos rfl, am_W_len]
    by_cases hz : a < z
    · rw [if_pos hz, am_W_get (G := (R', S, z)) hz, hx]
    · rw [if_neg hz]
      symm
      apply List.getElem?_eq_none
      rw [am_W_len]
      exact Nat.not_lt.mp hz
  · rw [if_neg hj]
    by_cases hz : j < z
    · rw [am_W_get (G := (R', S, z)) hz, am_W_get (G := (R, S, z)) hz]
      obtain ⟨h1, h2, h3⟩ := ho j (fun q => hj q.symm)
      show some (_, am_e E (I j) (L j) (R j) (S j)) = some (_, am_e E (I' j) (L' j) (R' j) (S j))
      rw [h1, h2, h3]
    · rw [List.getElem?_eq_none (by rw [am_W_len]; exact Nat.not_lt.mp hz), List.getElem?_eq_none (by rw [am_W_len]; exact Nat.not_lt.mp hz)]
theorem am_D {E : aE} {I : aI} {L : aL} {G : aG} : va_D (am_A E) (am_W E I L G) := by
  refine ⟨fun i j p q hi hj h => ?_, fun k q hk => ?_⟩
  · have li : i < G.2.2 := by have := (List.getElem?_eq_some_iff.mp hi).1; rwa [am_W_len] at this
    have lj : j < G.2.2 := by have := (List.getElem?_eq_some_iff.mp hj).1; rwa [am_W_len] at this
    rw [am_W_get li] at hi
    rw [am_W_get lj] at hj
    cases hi
    cases hj
    exact Nat.add_left_cancel h
  · have li : k < G.2.2 := by have := (List.getElem?_eq_some_iff.mp hk).1; rwa [am_W_len] at this
    rw [am_W_get li] at hk
    cases hk
    exact Nat.le_add_right _ _
theorem am_u_row {α : Type} (f : Nat → Nat → α) (a k : Nat) (v : α) : am_u f a k v a = fun j => if j = k then v else f a j := by
  funext j
  simp [am_u]
theorem am_u_ne {α : Type} (f : Nat → Nat → α) {a k b : Nat} (v : α) (h : b ≠ a) : am_u f a k v b = f b := by
  funext j
  simp [am_u, h]
theorem am_cat (E : aE) (v : Value) : (am_v E v).category = v.category := by
  cases v <;> rfl
theorem am_cats (E : aE) (st : List Value) : ((st.map (am_v E)).map fun v => v.category).sum = (st.map fun v => v.category).sum := by
  rw [List.map_map]
  congr 1
  apply List.map_congr_left
  intro v _
  exact am_cat E v
/-! ===== locals ===== -/
theorem am_l_at {E : aE} {lr : Array Slot} {nL : Nat} {ls : List Value} (h : am_l E lr nL ls) {i : Nat} {v : Value} (hi : ls[i]? = some v) (hv : v ≠ .retAddr 0) : lr[i]? = some (.val (am_v E v)) := h.2.2.2 i v hi hv
/-- the listed pairs -/
def am_ps (E : aE) : Nat → List Value → List (Nat × Value)
  | _, [] => []
  | i, v :: vs => if v = .retAddr 0 then am_ps E (i + 1) vs else (i, am_v E v) :: am_ps E (i + 1) vs
theorem am_ps_mem (E : aE) (vs : List Value) : ∀ (i : Nat) (q : Nat × Value), q ∈ am_ps E i vs ↔ ∃ (j : Nat) (v : Value), vs[j]? = some v ∧ v ≠ .retAddr 0 ∧ q = (i + j, am_v E v) := by
  induction vs with
  | nil => intro i q; simp [am_ps]
  | cons v vs ih =>
    intro i q
    unfold am_ps
    by_cases hv : v = .retAddr 0
    · rw [if_pos hv, ih (i + 1) q]
      constructor
      · rintro ⟨j, w, h1, h2, h3⟩
        exact ⟨j + 1, w, by simpa using h1, h2, by rw [h3]; congr 1; omega⟩
      · rintro ⟨j, w, h1, h2, h3⟩
        cases j with
        | zero => simp at h1; exact absurd (h1 ▸ hv) h2
        | succ j => exact ⟨j, w, by simpa using h1, h2, by rw [h3]; congr 1; omega⟩
    · rw [if_neg hv, List.mem_cons, ih (i + 1) q]
      constructor
      · rintro (h | ⟨j, w, h1, h2, h3⟩)
        · exact ⟨0, v, by simp, hv, by rw [h]; rfl⟩
        · exact ⟨j + 1, w, by simpa using h1, h2, by rw [h3]; congr 1; omega⟩
      · rintro ⟨j, w, h1, h2, h3⟩
        cases j with
        | zero => simp at h1; left; rw [h3, ← h1]; rfl
        | succ j => right; exact ⟨j, w, by simpa using h1, h2, by rw [h3]; congr 1; omega⟩
theorem am_l_has {E : aE} {lr : Array Slot} {nL : Nat} {ls : List Value} (h : am_l E lr nL ls) : lv_has lr nL (am_ps E 0 ls) := by
  refine ⟨h.1, h.2.1, fun q hq => ?_⟩
  obtain ⟨j, v, h1, h2, h3⟩ := (am_ps_mem E ls 0 q).mp hq
  rw [h3]
  simpa using h.2.2.2 j v h1 h2
/-- locals behind a store of one word, of two words -/
def am_pre (ls : List Value) (i : Nat) : List Value := match i with
  | 0 => ls
  | j + 1 => if (ls.getD j (.retAddr 0)).category = 2 then ls.set j (.retAddr 0) else ls
def am_s1 (ls : List Value) (i : Nat) (v : Value) : List Value := (am_pre ls i).set i v
def am_s2 (ls : List Value) (i : Nat) (v : Value) : List Value := ((am_pre ls i).set i v).set (i + 1) (.retAddr 0)
theorem am_pre_len (ls : List Value) (i : Nat) : (am_pre ls i).length = ls.length := by
  unfold am_pre
  split
  · rfl
  · split <;> simp
theorem am_pre_at {ls : List Value} {i j : Nat} {v : Value} (h : (am_pre ls i)[j]? = some v) (hv : v ≠ .retAddr 0) : ls[j]? = some v ∧ (j + 1 = i → v.category ≠ 2) := by
  unfold am_pre at h
  split at h
  · exact ⟨h, fun q => by omega⟩
  · rename_i k
    split at h
    · rename_i hc
      rw [List.getElem?_set] at h
      by_cases hk : k = j
      · rw [if_pos hk] at h
        by_cases hl : k < ls.length
        · rw [if_pos hl] at h
          cases h
          exact absurd rfl hv
        · rw [if_neg hl] at h
          cases h
      · rw [if_neg hk] at h
        exact ⟨h, fun q => by omega⟩
    · rename_i hc
      refine ⟨h, fun q => ?_⟩
      have : j = k := by omega
      subst this
      intro h2
      apply hc
      simp [List.getD, h, h2]
theorem am_l_s1 {E : aE} {lr' : Array Slot} {nL : Nat} {ls : List Value} {i : Nat} {v : Value} (hlen : ls.length = nL) (hv0 : v ≠ .retAddr 0)
    (h : lv_has lr' nL ((i, am_v E v) :: (am_ps E 0 ls).filter (fun q => !(q.1 == i) && !(q.1 + 1 == i && q.2.category == 2)))) : am_l E lr' nL (am_s1 ls i v) := by
  refine ⟨h.1, h.2.1, by simp [am_s1, am_pre_len, hlen], fun j w hj hw => ?_⟩
  unfold am_s1 at hj
  rw [List.getElem?_set] at hj
  by_cases hi : i = j
  · subst hi
    rw [if_pos rfl] at hj
    by_cases hl : i < (am_pre ls i).length
    · rw [if_pos hl] at hj
      cases hj
      exact h.2.2 _ List.mem_cons_self
    · rw [if_neg hl] at hj
      cases hj
  · rw [if_neg hi] at hj
    obtain ⟨h1, h2⟩ := am_pre_at hj hw
    refine h.2.2 (j, am_v E w) (List.mem_cons_of_mem _ (List.mem_filter.mpr ⟨(am_ps_mem E ls 0 _).mpr ⟨j, w, h1, hw, by simp⟩, ?_⟩))
    have hc := am_cat E w
    simp only [Bool.and_eq_true, Bool.not_eq_true', beq_eq_false_iff_ne, Bool.and_eq_false_iff, ne_eq]
    refine ⟨fun q => hi q.symm, ?_⟩
    by_cases hj1 : j + 1 = i
    · right
      rw [hc]
      exact h2 hj1
    · left
      exact hj1
theorem am_l_s2 {E : aE} {lr' : Array Slot} {nL : Nat} {ls : List Value} {i : Nat} {v : Value} (hlen : ls.length = nL) (hv0 : v ≠ .retAddr 0)
    (h : lv_has lr' nL ((i, am_v E v) :: (am_ps E 0 ls).filter (fun q => !(q.1 == i) && (!(q.1 == i + 1) && !(q.1 + 1 == i && q.2.category == 2))))) : am_l E lr' nL (am_s2 ls i v) := by
  refine ⟨h.1, h.2.1, by simp [am_s2, am_pre_len, hlen], fun j w hj hw => ?_⟩
  unfold am_s2 at hj
  rw [List.getElem?_set] at hj
  by_cases hi1 : i + 1 = j
  · rw [if_pos hi1] at hj
    split at hj
    · cases hj
      exact absurd rfl hw
    · cases hj
  · rw [if_neg hi1, List.getElem?_set] at hj
    by_cases hi : i = j
    · subst hi
      rw [if_pos rfl] at hj
      by_cases hl : i < (am_pre ls i).length
      · rw [if_pos hl] at hj
        cases hj
        exact h.2.2 _ List.mem_cons_self
      · rw [if_neg hl] at hj
        cases hj
    · rw [if_neg hi] at hj
      obtain ⟨h1, h2⟩ := am_pre_at hj hw
      refine h.2.2 (j, am_v E w) (List.mem_cons_of_mem _ (List.mem_filter.mpr ⟨(am_ps_mem E ls 0 _).mpr ⟨j, w, h1, hw, by simp⟩, ?_⟩))
      have hc := am_cat E w
      simp only [Bool.and_eq_true, Bool.not_eq_true', beq_eq_false_iff_ne, Bool.and_eq_false_iff, ne_eq]
      refine ⟨fun q => hi q.symm, fun q => hi1 q.symm, ?_⟩
      by_cases hj1 : j + 1 = i
      · right
        rw [hc]
        exact h2 hj1
      · left
        exact hj1
end
section
theorem ar_iconst {sc : Option (Nat × (Nat → Int32))} {X : aM} {d k n pc : Nat} {ls st : List Value} {I : aI} {L : aL} {G : aG} {Q : aQ} {i : Int} {v : Int32} (hd : decode X.2.1 pc = .ok (.iconst i, 1))  (hv : Int32.ofInt i = v) (kk : aB sc X d k n (pc + 1) ls (.int v :: st) I L G Q) : aB sc X d k n pc ls st I L G Q := by
  intro E p l e R s m args below meth c Z mc ms C hE hf hlo hmc hms H locs cells slots lr hc hs hl hH
  subst hv
  refine lv_iconst C.1 C.2.1 hd rfl ?_
  exact kk E p l e R s m args below meth c Z mc ms C hE hf hlo hmc hms H locs cells slots lr hc hs hl hH
theorem ar_bipush {sc : Option (Nat × (Nat → Int32))} {X : aM} {d k n pc : Nat} {ls st : List Value} {I : aI} {L : aL} {G : aG} {Q : aQ} {i : Int} {v : Int32} (hd : decode X.2.1 pc = .ok (.bipush i, 2))  (hv : (Int8.ofInt i).toInt32 = v) (kk : aB sc X d k n (pc + 2) ls (.int v :: st) I L G Q) : aB sc X d k n pc ls st I L G Q := by
  intro E p l e R s m args below meth c Z mc ms C hE hf hlo hmc hms H locs cells slots lr hc hs hl hH
  subst hv
  refine lv_bipush C.1 C.2.1 hd rfl ?_
  exact kk E p l e R s m args below meth c Z mc ms C hE hf hlo hmc hms H locs cells slots lr hc hs hl hH
theorem ar_sipush {sc : Option (Nat × (Nat → Int32))} {X : aM} {d k n pc : Nat} {ls st : List Value} {I : aI} {L : aL} {G : aG} {Q : aQ} {i : Int} {v : Int32} (hd : decode X.2.1 pc = .ok (.sipush i, 3))  (hv : (Int16.ofInt i).toInt32 = v) (kk : aB sc X d k n (pc + 3) ls (.int v :: st) I L G Q) : aB sc X d k n pc ls st I L G Q := by
  intro E p l e R s m args below meth c Z mc ms C hE hf hlo hmc hms H locs cells slots lr hc hs hl hH
  subst hv
  refine lv_sipush C.1 C.2.1 hd rfl ?_
  exact kk E p l e R s m args below meth c Z mc ms C hE hf hlo hmc hms H locs cells slots lr hc hs hl hH
theorem ar_lconst {sc : Option (Nat × (Nat → Int32))} {X : aM} {d k n pc : Nat} {ls st : List Value} {I : aI} {L : aL} {G : aG} {Q : aQ} {i : Fin 2} {v : Int64} (hd : decode X.2.1 pc = .ok (.lconst i, 1))  (hv : Int64.ofNat (i : Nat) = v) (kk : aB sc X d k n (pc + 1) ls (.long v :: st) I L G Q) : aB sc X d k n pc ls st I L G Q := by
  intro E p l e R s m args below meth c Z mc ms C hE hf hlo hmc hms H locs cells slots lr hc hs hl hH
  subst hv
  refine lv_lconst C.1 C.2.1 hd rfl ?_
  exact kk E p l e R s m args below meth c Z mc ms C hE hf hlo hmc hms H locs cells slots lr hc hs hl hH
theorem ar_ldc {sc : Option (Nat × (Nat → Int32))} {X : aM} {d k n pc : Nat} {ls st : List Value} {I : aI} {L : aL} {G : aG} {Q : aQ} {i : Nat} {v : Int32} (hd : decode X.2.1 pc = .ok (.ldc i, 2)) (hw : Cond.constant X.1.cls i v ∈ am_ws) (kk : aB sc X d k n (pc + 2) ls (.int v :: st) I L G Q) : aB sc X d k n pc ls st I L G Q := by
  intro E p l e R s m args below meth c Z mc ms C hE hf hlo hmc hms H locs cells slots lr hc hs hl hH
  refine lv_ldc C.1 C.2.1 C.2.2.2.2.2.1 (C.2.2.2.2.2.2.2.1 _ hw) hd ?_
  exact kk E p l e R s m args below meth c Z mc ms C hE hf hlo hmc hms H locs cells slots lr hc hs hl hH
theorem ar_ldcw {sc : Option (Nat × (Nat → Int32))} {X : aM} {d k n pc : Nat} {ls st : List Value} {I : aI} {L : aL} {G : aG} {Q : aQ} {i : Nat} {v : Int32} (hd : decode X.2.1 pc = .ok (.ldc_w i, 3)) (hw : Cond.constant X.1.cls i v ∈ am_ws) (kk : aB sc X d k n (pc + 3) ls (.int v :: st) I L G Q) : aB sc X d k n pc ls st I L G Q := by
  intro E p l e R s m args below meth c Z mc ms C hE hf hlo hmc hms H locs cells slots lr hc hs hl hH
  refine lv_ldcw C.1 C.2.1 C.2.2.2.2.2.1 (C.2.2.2.2.2.2.2.1 _ hw) hd ?_
  exact kk E p l e R s m args below meth c Z mc ms C hE hf hlo hmc hms H locs cells slots lr hc hs hl hH
theorem ar_ldc2 {sc : Option (Nat × (Nat → Int32))} {X : aM} {d k n pc : Nat} {ls st : List Value} {I : aI} {L : aL} {G : aG} {Q : aQ} {i : Nat} {v : Int64} (hd : decode X.2.1 pc = .ok (.ldc2_w i, 3)) (hw : Cond.constantLong X.1.cls i v ∈ am_ws) (kk : aB sc X d k n (pc + 3) ls (.long v :: st) I L G Q) : aB sc X d k n pc ls st I L G Q := by
  intro E p l e R s m args below meth c Z mc ms C hE hf hlo hmc hms H locs cells slots lr hc hs hl hH
  refine lv_ldc2 C.1 C.2.1 C.2.2.2.2.2.1 (C.2.2.2.2.2.2.2.1 _ hw) hd ?_
  exact kk E p l e R s m args below meth c Z mc ms C hE hf hlo hmc hms H locs cells slots lr hc hs hl hH
theorem ar_iload_n {sc : Option (Nat × (Nat → Int32))} {X : aM} {d k n pc : Nat} {ls st : List Value} {I : aI} {L : aL} {G : aG} {Q : aQ} {i : Fin 4} {x : Int32} (hd : decode X.2.1 pc = .ok (.iload_n i, 1)) (hx : ls[(i : Nat)]? = some (.int x)) (kk : aB sc X d k n (pc + 1) ls (.int x :: st) I L G Q) : aB sc X d k n pc ls st I L G Q := by
  intro E p l e R s m args below meth c Z mc ms C hE hf hlo hmc hms H locs cells slots lr hc hs hl hH
  refine lv_iload_n C.1 C.2.1 hd rfl (am_l_at hl hx (by intro h; cases h)) ?_
  exact kk E p l e R s m args below meth c Z mc ms C hE hf hlo hmc hms H locs cells slots lr hc hs hl hH
theorem ar_iload {sc : Option (Nat × (Nat → Int32))} {X : aM} {d k n pc : Nat} {ls st : List Value} {I : aI} {L : aL} {G : aG} {Q : aQ} {i : Nat} {x : Int32} (hd : decode X.2.1 pc = .ok (.iload i, 2)) (hx : ls[i]? = some (.int x)) (kk : aB sc X d k n (pc + 2) ls (.int x :: st) I L G Q) : aB sc X d k n pc ls st I L G Q := by
  intro E p l e R s m args below meth c Z mc ms C hE hf hlo hmc hms H locs cells slots lr hc hs hl hH
  refine lv_iload C.1 C.2.1 hd (am_l_at hl hx (by intro h; cases h)) ?_
  exact kk E p l e R s m args below meth c Z mc ms C hE hf hlo hmc hms H locs cells slots lr hc hs hl hH
theorem ar_lload_n {sc : Option (Nat × (Nat → Int32))} {X : aM} {d k n pc : Nat} {ls st : List Value} {I : aI} {L : aL} {G : aG} {Q : aQ} {i : Fin 4} {x : Int64} (hd : decode X.2.1 pc = .ok (.lload_n i, 1)) (hx : ls[(i : Nat)]? = some (.long x)) (kk : aB sc X d k n (pc + 1) ls (.long x :: st) I L G Q) : aB sc X d k n pc ls st I L G Q := by
  intro E p l e R s m args below meth c Z mc ms C hE hf hlo hmc hms H locs cells slots lr hc hs hl hH
  refine lv_lload_n C.1 C.2.1 hd rfl (am_l_at hl hx (by intro h; cases h)) ?_
  exact kk E p l e R s m args below meth c Z mc ms C hE hf hlo hmc hms H locs cells slots lr hc hs hl hH
theorem ar_lload {sc : Option (Nat × (Nat → Int32))} {X : aM} {d k n pc : Nat} {ls st : List Value} {I : aI} {L : aL} {G : aG} {Q : aQ} {i : Nat} {x : Int64} (hd : decode X.2.1 pc = .ok (.lload i, 2)) (hx : ls[i]? = some (.long x)) (kk : aB sc X d k n (pc + 2) ls (.long x :: st) I L G Q) : aB sc X d k n pc ls st I L G Q := by
  intro E p l e R s m args below meth c Z mc ms C hE hf hlo hmc hms H locs cells slots lr hc hs hl hH
  refine lv_lload C.1 C.2.1 hd (am_l_at hl hx (by intro h; cases h)) ?_
  exact kk E p l e R s m args below meth c Z mc ms C hE hf hlo hmc hms H locs cells slots lr hc hs hl hH
theorem ar_aload_n {sc : Option (Nat × (Nat → Int32))} {X : aM} {d k n pc : Nat} {ls st : List Value} {I : aI} {L : aL} {G : aG} {Q : aQ} {i : Fin 4} {x : Nat} (hd : decode X.2.1 pc = .ok (.aload_n i, 1)) (hx : ls[(i : Nat)]? = some (.ref x)) (kk : aB sc X d k n (pc + 1) ls (.ref x :: st) I L G Q) : aB sc X d k n pc ls st I L G Q := by
  intro E p l e R s m args below meth c Z mc ms C hE hf hlo hmc hms H locs cells slots lr hc hs hl hH
  refine lv_aload_n C.1 C.2.1 hd rfl (am_l_at hl hx (by intro h; cases h)) ?_
  exact kk E p l e R s m args below meth c Z mc ms C hE hf hlo hmc hms H locs cells slots lr hc hs hl hH
theorem ar_aload {sc : Option (Nat × (Nat → Int32))} {X : aM} {d k n pc : Nat} {ls st : List Value} {I : aI} {L : aL} {G : aG} {Q : aQ} {i : Nat} {x : Nat} (hd : decode X.2.1 pc = .ok (.aload i, 2)) (hx : ls[i]? = some (.ref x)) (kk : aB sc X d k n (pc + 2) ls (.ref x :: st) I L G Q) : aB sc X d k n pc ls st I L G Q := by
  intro E p l e R s m args below meth c Z mc ms C hE hf hlo hmc hms H locs cells slots lr hc hs hl hH
  refine lv_aload C.1 C.2.1 hd (am_l_at hl hx (by intro h; cases h)) ?_
  exact kk E p l e R s m args below meth c Z mc ms C hE hf hlo hmc hms H locs cells slots lr hc hs hl hH
theorem ar_sload_n {sc : Option (Nat × (Nat → Int32))} {X : aM} {d k n pc : Nat} {ls st : List Value} {I : aI} {L : aL} {G : aG} {Q : aQ} {i : Fin 4} {x : Nat} (hd : decode X.2.1 pc = .ok (.aload_n i, 1)) (hx : ls[(i : Nat)]? = some (.retAddr (x + 1))) (kk : aB sc X d k n (pc + 1) ls (.retAddr (x + 1) :: st) I L G Q) : aB sc X d k n pc ls st I L G Q := by
  intro E p l e R s m args below meth c Z mc ms C hE hf hlo hmc hms H locs cells slots lr hc hs hl hH
  refine lv_aload_n C.1 C.2.1 hd rfl (am_l_at hl hx (by intro h; cases h)) ?_
  exact kk E p l e R s m args below meth c Z mc ms C hE hf hlo hmc hms H locs cells slots lr hc hs hl hH
theorem ar_istore_n {sc : Option (Nat × (Nat → Int32))} {X : aM} {d k n pc : Nat} {ls st : List Value} {I : aI} {L : aL} {G : aG} {Q : aQ} {i : Fin 4} {x : Int32} {ls' : List Value} (hd : decode X.2.1 pc = .ok (.istore_n i, 1)) (hi : (i : Nat) < X.2.2.1) (hv : am_s1 ls (i : Nat) (.int x) = ls') (kk : aB sc X d k n (pc + 1) ls' st I L G Q) : aB sc X d k n pc ls (.int x :: st) I L G Q := by
  intro E p l e R s m args below meth c Z mc ms C hE hf hlo hmc hms H locs cells slots lr hc hs hl hH
  subst hv
  refine lv_istore_n C.1 C.2.1 hd rfl (am_l_has hl) hi rfl (fun lr' hl' => ?_)
  have hl' : am_l E lr' X.2.2.1 (am_s1 ls (i : Nat) (.int x)) := am_l_s1 hl.2.2.1 (by intro h; cases h) hl'
  exact kk E p l e R s m args below meth c Z mc ms C hE hf hlo hmc hms H locs cells slots lr' hc hs hl' hH
theorem ar_istore {sc : Option (Nat × (Nat → Int32))} {X : aM} {d k n pc : Nat} {ls st : List Value} {I : aI} {L : aL} {G : aG} {Q : aQ} {i : Nat} {x : Int32} {ls' : List Value} (hd : decode X.2.1 pc = .ok (.istore i, 2)) (hi : i < X.2.2.1) (hv : am_s1 ls i (.int x) = ls') (kk : aB sc X d k n (pc + 2) ls' st I L G Q) : aB sc X d k n pc ls (.int x :: st) I L G Q := by
  intro E p l e R s m args below meth c Z mc ms C hE hf hlo hmc hms H locs cells slots lr hc hs hl hH
  subst hv
  refine lv_istore C.1 C.2.1 hd (am_l_has hl) hi rfl (fun lr' hl' => ?_)
  have hl' : am_l E lr' X.2.2.1 (am_s1 ls i (.int x)) := am_l_s1 hl.2.2.1 (by intro h; cases h) hl'
  exact kk E p l e R s m args below meth c Z mc ms C hE hf hlo hmc hms H locs cells slots lr' hc hs hl' hH
theorem ar_astore_n {sc : Option (Nat × (Nat → Int32))} {X : aM} {d k n pc : Nat} {ls st : List Value} {I : aI} {L : aL} {G : aG} {Q : aQ} {i : Fin 4} {x : Nat} {ls' : List Value} (hd : decode X.2.1 pc = .ok (.astore_n i, 1)) (hi : (i : Nat) < X.2.2.1) (hv : am_s1 ls (i : Nat) (.ref x) = ls') (kk : aB sc X d k n (pc + 1) ls' st I L G Q) : aB sc X d k n pc ls (.ref x :: st) I L G Q := by
  intro E p l e R s m args below meth c Z mc ms C hE hf hlo hmc hms H locs cells slots lr hc hs hl hH
  subst hv
  refine lv_astore_n C.1 C.2.1 hd rfl (am_l_has hl) hi rfl (fun lr' hl' => ?_)
  have hl' : am_l E lr' X.2.2.1 (am_s1 ls (i : Nat) (.ref x)) := am_l_s1 hl.2.2.1 (by intro h; cases h) hl'
  exact kk E p l e R s m args below meth c Z mc ms C hE hf hlo hmc hms H locs cells slots lr' hc hs hl' hH
theorem ar_astore {sc : Option (Nat × (Nat → Int32))} {X : aM} {d k n pc : Nat} {ls st : List Value} {I : aI} {L : aL} {G : aG} {Q : aQ} {i : Nat} {x : Nat} {ls' : List Value} (hd : decode X.2.1 pc = .ok (.astore i, 2)) (hi : i < X.2.2.1) (hv : am_s1 ls i (.ref x) = ls') (kk : aB sc X d k n (pc + 2) ls' st I L G Q) : aB sc X d k n pc ls (.ref x :: st) I L G Q := by
  intro E p l e R s m args below meth c Z mc ms C hE hf hlo hmc hms H locs cells slots lr hc hs hl hH
  subst hv
  refine lv_astore C.1 C.2.1 hd (am_l_has hl) hi rfl (fun lr' hl' => ?_)
  have hl' : am_l E lr' X.2.2.1 (am_s1 ls i (.ref x)) := am_l_s1 hl.2.2.1 (by intro h; cases h) hl'
  exact kk E p l e R s m args below meth c Z mc ms C hE hf hlo hmc hms H locs cells slots lr' hc hs hl' hH
theorem ar_lstore_n {sc : Option (Nat × (Nat → Int32))} {X : aM} {d k n pc : Nat} {ls st : List Value} {I : aI} {L : aL} {G : aG} {Q : aQ} {i : Fin 4} {x : Int64} {ls' : List Value} (hd : decode X.2.1 pc = .ok (.lstore_n i, 1)) (hi : (i : Nat) + 1 < X.2.2.1) (hv : am_s2 ls (i : Nat) (.long x) = ls') (kk : aB sc X d k n (pc + 1) ls' st I L G Q) : aB sc X d k n pc ls (.long x :: st) I L G Q := by
  intro E p l e R s m args below meth c Z mc ms C hE hf hlo hmc hms H locs cells slots lr hc hs hl hH
  subst hv
  refine lv_lstore_n C.1 C.2.1 hd rfl (am_l_has hl) hi rfl (fun lr' hl' => ?_)
  have hl' : am_l E lr' X.2.2.1 (am_s2 ls (i : Nat) (.long x)) := am_l_s2 hl.2.2.1 (by intro h; cases h) hl'
  exact kk E p l e R s m args below meth c Z mc ms C hE hf hlo hmc hms H locs cells slots lr' hc hs hl' hH
theorem ar_lstore {sc : Option (Nat × (Nat → Int32))} {X : aM} {d k n pc : Nat} {ls st : List Value} {I : aI} {L : aL} {G : aG} {Q : aQ} {i : Nat} {x : Int64} {ls' : List Value} (hd : decode X.2.1 pc = .ok (.lstore i, 2)) (hi : i + 1 < X.2.2.1) (hv : am_s2 ls i (.long x) = ls') (kk : aB sc X d k n (pc + 2) ls' st I L G Q) : aB sc X d k n pc ls (.long x :: st) I L G Q := by
  intro E p l e R s m args below meth c Z mc ms C hE hf hlo hmc hms H locs cells slots lr hc hs hl hH
  subst hv
  refine lv_lstore C.1 C.2.1 hd (am_l_has hl) hi rfl (fun lr' hl' => ?_)
  have hl' : am_l E lr' X.2.2.1 (am_s2 ls i (.long x)) := am_l_s2 hl.2.2.1 (by intro h; cases h) hl'
  exact kk E p l e R s m args below meth c Z mc ms C hE hf hlo hmc hms H locs cells slots lr' hc hs hl' hH
theorem ar_iinc {sc : Option (Nat × (Nat → Int32))} {X : aM} {d k n pc : Nat} {ls st : List Value} {I : aI} {L : aL} {G : aG} {Q : aQ} {i : Nat} {a : Int} {x v : Int32} {ls' : List Value} (hd : decode X.2.1 pc = .ok (.iinc i a, 3)) (hx : ls[i]? = some (.int x)) (he : x + Int32.ofInt a = v) (hv : am_s1 ls i (.int v) = ls') (kk : aB sc X d k n (pc + 3) ls' st I L G Q) : aB sc X d k n pc ls st I L G Q := by
  intro E p l e R s m args below meth c Z mc ms C hE hf hlo hmc hms H locs cells slots lr hc hs hl hH
  subst hv
  have hi : i < X.2.2.1 := by have := (List.getElem?_eq_some_iff.mp hx).1; rw [hl.2.2.1] at this; exact this
  obtain ⟨j, hj⟩ := List.getElem?_of_mem ((am_ps_mem E ls 0 (i, am_v E (.int x))).mpr ⟨i, _, hx, (by intro h; cases h), by simp⟩)
  refine lv_iinc (k := j) C.1 C.2.1 hd (am_l_has hl) hj he hi rfl (fun lr' hl' => ?_)
  have hl' : am_l E lr' X.2.2.1 (am_s1 ls i (.int v)) := am_l_s1 hl.2.2.1 (by intro h; cases h) hl'
  exact kk E p l e R s m args below meth c Z mc ms C hE hf hlo hmc hms H locs cells slots lr' hc hs hl' hH
theorem ar_iadd {sc : Option (Nat × (Nat → Int32))} {X : aM} {d k n pc : Nat} {ls st : List Value} {I : aI} {L : aL} {G : aG} {Q : aQ} {x y v : Int32} (hd : decode X.2.1 pc = .ok (.iadd, 1))  (hv : x + y = v) (kk : aB sc X d k n (pc + 1) ls (.int v :: st) I L G Q) : aB sc X d k n pc ls (.int y :: .int x :: st) I L G Q := by
  intro E p l e R s m args below meth c Z mc ms C hE hf hlo hmc hms H locs cells slots lr hc hs hl hH
  subst hv
  refine lv_iadd C.1 C.2.1 hd  ?_
  exact kk E p l e R s m args below meth c Z mc ms C hE hf hlo hmc hms H locs cells slots lr hc hs hl hH
theorem ar_isub {sc : Option (Nat × (Nat → Int32))} {X : aM} {d k n pc : Nat} {ls st : List Value} {I : aI} {L : aL} {G : aG} {Q : aQ} {x y v : Int32} (hd : decode X.2.1 pc = .ok (.isub, 1))  (hv : x - y = v) (kk : aB sc X d k n (pc + 1) ls (.int v :: st) I L G Q) : aB sc X d k n pc ls (.int y :: .int x :: st) I L G Q := by
  intro E p l e R s m args below meth c Z mc ms C hE hf hlo hmc hms H locs cells slots lr hc hs hl hH
  subst hv
  refine lv_isub C.1 C.2.1 hd  ?_
  exact kk E p l e R s m args below meth c Z mc ms C hE hf hlo hmc hms H locs cells slots lr hc hs hl hH
theorem ar_imul {sc : Option (Nat × (Nat → Int32))} {X : aM} {d k n pc : Nat} {ls st : List Value} {I : aI} {L : aL} {G : aG} {Q : aQ} {x y v : Int32} (hd : decode X.2.1 pc = .ok (.imul, 1))  (hv : x * y = v) (kk : aB sc X d k n (pc + 1) ls (.int v :: st) I L G Q) : aB sc X d k n pc ls (.int y :: .int x :: st) I L G Q := by
  intro E p l e R s m args below meth c Z mc ms C hE hf hlo hmc hms H locs cells slots lr hc hs hl hH
  subst hv
  refine lv_imul C.1 C.2.1 hd  ?_
  exact kk E p l e R s m args below meth c Z mc ms C hE hf hlo hmc hms H locs cells slots lr hc hs hl hH
theorem ar_iand {sc : Option (Nat × (Nat → Int32))} {X : aM} {d k n pc : Nat} {ls st : List Value} {I : aI} {L : aL} {G : aG} {Q : aQ} {x y v : Int32} (hd : decode X.2.1 pc = .ok (.iand, 1))  (hv : x &&& y = v) (kk : aB sc X d k n (pc + 1) ls (.int v :: st) I L G Q) : aB sc X d k n pc ls (.int y :: .int x :: st) I L G Q := by
  intro E p l e R s m args below meth c Z mc ms C hE hf hlo hmc hms H locs cells slots lr hc hs hl hH
  subst hv
  refine lv_iand C.1 C.2.1 hd  ?_
  exact kk E p l e R s m args below meth c Z mc ms C hE hf hlo hmc hms H locs cells slots lr hc hs hl hH
theorem ar_ior {sc : Option (Nat × (Nat → Int32))} {X : aM} {d k n pc : Nat} {ls st : List Value} {I : aI} {L : aL} {G : aG} {Q : aQ} {x y v : Int32} (hd : decode X.2.1 pc = .ok (.ior, 1))  (hv : x ||| y = v) (kk : aB sc X d k n (pc + 1) ls (.int v :: st) I L G Q) : aB sc X d k n pc ls (.int y :: .int x :: st) I L G Q := by
  intro E p l e R s m args below meth c Z mc ms C hE hf hlo hmc hms H locs cells slots lr hc hs hl hH
  subst hv
  refine lv_ior C.1 C.2.1 hd  ?_
  exact kk E p l e R s m args below meth c Z mc ms C hE hf hlo hmc hms H locs cells slots lr hc hs hl hH
theorem ar_ixor {sc : Option (Nat × (Nat → Int32))} {X : aM} {d k n pc : Nat} {ls st : List Value} {I : aI} {L : aL} {G : aG} {Q : aQ} {x y v : Int32} (hd : decode X.2.1 pc = .ok (.ixor, 1))  (hv : x ^^^ y = v) (kk : aB sc X d k n (pc + 1) ls (.int v :: st) I L G Q) : aB sc X d k n pc ls (.int y :: .int x :: st) I L G Q := by
  intro E p l e R s m args below meth c Z mc ms C hE hf hlo hmc hms H locs cells slots lr hc hs hl hH
  subst hv
  refine lv_ixor C.1 C.2.1 hd  ?_
  exact kk E p l e R s m args below meth c Z mc ms C hE hf hlo hmc hms H locs cells slots lr hc hs hl hH
theorem ar_ishl {sc : Option (Nat × (Nat → Int32))} {X : aM} {d k n pc : Nat} {ls st : List Value} {I : aI} {L : aL} {G : aG} {Q : aQ} {x y v : Int32} (hd : decode X.2.1 pc = .ok (.ishl, 1))  (hv : x <<< (y &&& 31) = v) (kk : aB sc X d k n (pc + 1) ls (.int v :: st) I L G Q) : aB sc X d k n pc ls (.int y :: .int x :: st) I L G Q := by
  intro E p l e R s m args below meth c Z mc ms C hE hf hlo hmc hms H locs cells slots lr hc hs hl hH
  subst hv
  refine lv_ishl C.1 C.2.1 hd  ?_
  exact kk E p l e R s m args below meth c Z mc ms C hE hf hlo hmc hms H locs cells slots lr hc hs hl hH
theorem ar_ishr {sc : Option (Nat × (Nat → Int32))} {X : aM} {d k n pc : Nat} {ls st : List Value} {I : aI} {L : aL} {G : aG} {Q : aQ} {x y v : Int32} (hd : decode X.2.1 pc = .ok (.ishr, 1))  (hv : x >>> (y &&& 31) = v) (kk : aB sc X d k n (pc + 1) ls (.int v :: st) I L G Q) : aB sc X d k n pc ls (.int y :: .int x :: st) I L G Q := by
  intro E p l e R s m args below meth c Z mc ms C hE hf hlo hmc hms H locs cells slots lr hc hs hl hH
  subst hv
  refine lv_ishr C.1 C.2.1 hd  ?_
  exact kk E p l e R s m args below meth c Z mc ms C hE hf hlo hmc hms H locs cells slots lr hc hs hl hH
theorem ar_iushr {sc : Option (Nat × (Nat → Int32))} {X : aM} {d k n pc : Nat} {ls st : List Value} {I : aI} {L : aL} {G : aG} {Q : aQ} {x y v : Int32} (hd : decode X.2.1 pc = .ok (.iushr, 1))  (hv : (x.toUInt32 >>> (y.toUInt32 &&& Int32.toUInt32 31)).toInt32 = v) (kk : aB sc X d k n (pc + 1) ls (.int v :: st) I L G Q) : aB sc X d k n pc ls (.int y :: .int x :: st) I L G Q := by
  intro E p l e R s m args below meth c Z mc ms C hE hf hlo hmc hms H locs cells slots lr hc hs hl hH
  subst hv
  refine lv_iushr C.1 C.2.1 hd rfl ?_
  exact kk E p l e R s m args below meth c Z mc ms C hE hf hlo hmc hms H locs cells slots lr hc hs hl hH
theorem ar_idiv {sc : Option (Nat × (Nat → Int32))} {X : aM} {d k n pc : Nat} {ls st : List Value} {I : aI} {L : aL} {G : aG} {Q : aQ} {x y v : Int32} (hd : decode X.2.1 pc = .ok (.idiv, 1)) (hne : ¬ y = 0) (hv : x / y = v) (kk : aB sc X d k n (pc + 1) ls (.int v :: st) I L G Q) : aB sc X d k n pc ls (.int y :: .int x :: st) I L G Q := by
  intro E p l e R s m args below meth c Z mc ms C hE hf hlo hmc hms H locs cells slots lr hc hs hl hH
  subst hv
  refine lv_idiv C.1 C.2.1 hd hne ?_
  exact kk E p l e R s m args below meth c Z mc ms C hE hf hlo hmc hms H locs cells slots lr hc hs hl hH
theorem ar_irem {sc : Option (Nat × (Nat → Int32))} {X : aM} {d k n pc : Nat} {ls st : List Value} {I : aI} {L : aL} {G : aG} {Q : aQ} {x y v : Int32} (hd : decode X.2.1 pc = .ok (.irem, 1)) (hne : ¬ y = 0) (hv : x - x / y * y = v) (kk : aB sc X d k n (pc + 1) ls (.int v :: st) I L G Q) : aB sc X d k n pc ls (.int y :: .int x :: st) I L G Q := by
  intro E p l e R s m args below meth c Z mc ms C hE hf hlo hmc hms H locs cells slots lr hc hs hl hH
  subst hv
  refine lv_irem C.1 C.2.1 hd hne ?_
  exact kk E p l e R s m args below meth c Z mc ms C hE hf hlo hmc hms H locs cells slots lr hc hs hl hH
theorem ar_ladd {sc : Option (Nat × (Nat → Int32))} {X : aM} {d k n pc : Nat} {ls st : List Value} {I : aI} {L : aL} {G : aG} {Q : aQ} {x y v : Int64} (hd : decode X.2.1 pc = .ok (.ladd, 1))  (hv : x + y = v) (kk : aB sc X d k n (pc + 1) ls (.long v :: st) I L G Q) : aB sc X d k n pc ls (.long y :: .long x :: st) I L G Q := by
  intro E p l e R s m args below meth c Z mc ms C hE hf hlo hmc hms H locs cells slots lr hc hs hl hH
  subst hv
  refine lv_ladd C.1 C.2.1 hd  ?_
  exact kk E p l e R s m args below meth c Z mc ms C hE hf hlo hmc hms H locs cells slots lr hc hs hl hH
theorem ar_lsub {sc : Option (Nat × (Nat → Int32))} {X : aM} {d k n pc : Nat} {ls st : List Value} {I : aI} {L : aL} {G : aG} {Q : aQ} {x y v : Int64} (hd : decode X.2.1 pc = .ok (.lsub, 1))  (hv : x - y = v) (kk : aB sc X d k n (pc + 1) ls (.long v :: st) I L G Q) : aB sc X d k n pc ls (.long y :: .long x :: st) I L G Q := by
  intro E p l e R s m args below meth c Z mc ms C hE hf hlo hmc hms H locs cells slots lr hc hs hl hH
  subst hv
  refine lv_lsub C.1 C.2.1 hd  ?_
  exact kk E p l e R s m args below meth c Z mc ms C hE hf hlo hmc hms H locs cells slots lr hc hs hl hH
theorem ar_land {sc : Option (Nat × (Nat → Int32))} {X : aM} {d k n pc : Nat} {ls st : List Value} {I : aI} {L : aL} {G : aG} {Q : aQ} {x y v : Int64} (hd : decode X.2.1 pc = .ok (.land, 1))  (hv : x &&& y = v) (kk : aB sc X d k n (pc + 1) ls (.long v :: st) I L G Q) : aB sc X d k n pc ls (.long y :: .long x :: st) I L G Q := by
  intro E p l e R s m args below meth c Z mc ms C hE hf hlo hmc hms H locs cells slots lr hc hs hl hH
  subst hv
  refine lv_land C.1 C.2.1 hd  ?_
  exact kk E p l e R s m args below meth c Z mc ms C hE hf hlo hmc hms H locs cells slots lr hc hs hl hH
theorem ar_lor {sc : Option (Nat × (Nat → Int32))} {X : aM} {d k n pc : Nat} {ls st : List Value} {I : aI} {L : aL} {G : aG} {Q : aQ} {x y v : Int64} (hd : decode X.2.1 pc = .ok (.lor, 1))  (hv : x ||| y = v) (kk : aB sc X d k n (pc + 1) ls (.long v :: st) I L G Q) : aB sc X d k n pc ls (.long y :: .long x :: st) I L G Q := by
  intro E p l e R s m args below meth c Z mc ms C hE hf hlo hmc hms H locs cells slots lr hc hs hl hH
  subst hv
  refine lv_lor C.1 C.2.1 hd  ?_
  exact kk E p l e R s m args below meth c Z mc ms C hE hf hlo hmc hms H locs cells slots lr hc hs hl hH
theorem ar_lxor {sc : Option (Nat × (Nat → Int32))} {X : aM} {d k n pc : Nat} {ls st : List Value} {I : aI} {L : aL} {G : aG} {Q : aQ} {x y v : Int64} (hd : decode X.2.1 pc = .ok (.lxor, 1))  (hv : x ^^^ y = v) (kk : aB sc X d k n (pc + 1) ls (.long v :: st) I L G Q) : aB sc X d k n pc ls (.long y :: .long x :: st) I L G Q := by
  intro E p l e R s m args below meth c Z mc ms C hE hf hlo hmc hms H locs cells slots lr hc hs hl hH
  subst hv
  refine lv_lxor C.1 C.2.1 hd  ?_
  exact kk E p l e R s m args below meth c Z mc ms C hE hf hlo hmc hms H locs cells slots lr hc hs hl hH
theorem ar_lushr {sc : Option (Nat × (Nat → Int32))} {X : aM} {d k n pc : Nat} {ls st : List Value} {I : aI} {L : aL} {G : aG} {Q : aQ} {x v : Int64} {y : Int32} (hd : decode X.2.1 pc = .ok (.lushr, 1))  (hv : (x.toUInt64 >>> (y.toInt64.toUInt64 &&& Int64.toUInt64 63)).toInt64 = v) (kk : aB sc X d k n (pc + 1) ls (.long v :: st) I L G Q) : aB sc X d k n pc ls (.int y :: .long x :: st) I L G Q := by
  intro E p l e R s m args below meth c Z mc ms C hE hf hlo hmc hms H locs cells slots lr hc hs hl hH
  subst hv
  refine lv_lushr C.1 C.2.1 hd rfl ?_
  exact kk E p l e R s m args below meth c Z mc ms C hE hf hlo hmc hms H locs cells slots lr hc hs hl hH
theorem ar_lshl {sc : Option (Nat × (Nat → Int32))} {X : aM} {d k n pc : Nat} {ls st : List Value} {I : aI} {L : aL} {G : aG} {Q : aQ} {x v : Int64} {y : Int32} (hd : decode X.2.1 pc = .ok (.lshl, 1))  (hv : x <<< (y.toInt64 &&& 63) = v) (kk : aB sc X d k n (pc + 1) ls (.long v :: st) I L G Q) : aB sc X d k n pc ls (.int y :: .long x :: st) I L G Q := by
  intro E p l e R s m args below meth c Z mc ms C hE hf hlo hmc hms H locs cells slots lr hc hs hl hH
  subst hv
  refine lv_lshl C.1 C.2.1 hd rfl ?_
  exact kk E p l e R s m args below meth c Z mc ms C hE hf hlo hmc hms H locs cells slots lr hc hs hl hH
theorem ar_lshr {sc : Option (Nat × (Nat → Int32))} {X : aM} {d k n pc : Nat} {ls st : List Value} {I : aI} {L : aL} {G : aG} {Q : aQ} {x v : Int64} {y : Int32} (hd : decode X.2.1 pc = .ok (.lshr, 1))  (hv : x >>> (y.toInt64 &&& 63) = v) (kk : aB sc X d k n (pc + 1) ls (.long v :: st) I L G Q) : aB sc X d k n pc ls (.int y :: .long x :: st) I L G Q := by
  intro E p l e R s m args below meth c Z mc ms C hE hf hlo hmc hms H locs cells slots lr hc hs hl hH
  subst hv
  refine lv_lshr C.1 C.2.1 hd rfl ?_
  exact kk E p l e R s m args below meth c Z mc ms C hE hf hlo hmc hms H locs cells slots lr hc hs hl hH
theorem ar_i2l {sc : Option (Nat × (Nat → Int32))} {X : aM} {d k n pc : Nat} {ls st : List Value} {I : aI} {L : aL} {G : aG} {Q : aQ} {x : Int32} {v : Int64} (hd : decode X.2.1 pc = .ok (.i2l, 1))  (hv : x.toInt64 = v) (kk : aB sc X d k n (pc + 1) ls (.long v :: st) I L G Q) : aB sc X d k n pc ls (.int x :: st) I L G Q := by
  intro E p l e R s m args below meth c Z mc ms C hE hf hlo hmc hms H locs cells slots lr hc hs hl hH
  subst hv
  refine lv_i2l C.1 C.2.1 hd rfl ?_
  exact kk E p l e R s m args below meth c Z mc ms C hE hf hlo hmc hms H locs cells slots lr hc hs hl hH
theorem ar_l2i {sc : Option (Nat × (Nat → Int32))} {X : aM} {d k n pc : Nat} {ls st : List Value} {I : aI} {L : aL} {G : aG} {Q : aQ} {x : Int64} {v : Int32} (hd : decode X.2.1 pc = .ok (.l2i, 1))  (hv : x.toInt32 = v) (kk : aB sc X d k n (pc + 1) ls (.int v :: st) I L G Q) : aB sc X d k n pc ls (.long x :: st) I L G Q := by
  intro E p l e R s m args below meth c Z mc ms C hE hf hlo hmc hms H locs cells slots lr hc hs hl hH
  subst hv
  refine lv_l2i C.1 C.2.1 hd rfl ?_
  exact kk E p l e R s m args below meth c Z mc ms C hE hf hlo hmc hms H locs cells slots lr hc hs hl hH
theorem ar_i2b {sc : Option (Nat × (Nat → Int32))} {X : aM} {d k n pc : Nat} {ls st : List Value} {I : aI} {L : aL} {G : aG} {Q : aQ} {x v : Int32} (hd : decode X.2.1 pc = .ok (.i2b, 1))  (hv : x.toInt8.toInt32 = v) (kk : aB sc X d k n (pc + 1) ls (.int v :: st) I L G Q) : aB sc X d k n pc ls (.int x :: st) I L G Q := by
  intro E p l e R s m args below meth c Z mc ms C hE hf hlo hmc hms H locs cells slots lr hc hs hl hH
  subst hv
  refine lv_i2b C.1 C.2.1 hd rfl ?_
  exact kk E p l e R s m args below meth c Z mc ms C hE hf hlo hmc hms H locs cells slots lr hc hs hl hH
theorem ar_i2s {sc : Option (Nat × (Nat → Int32))} {X : aM} {d k n pc : Nat} {ls st : List Value} {I : aI} {L : aL} {G : aG} {Q : aQ} {x v : Int32} (hd : decode X.2.1 pc = .ok (.i2s, 1))  (hv : x.toInt16.toInt32 = v) (kk : aB sc X d k n (pc + 1) ls (.int v :: st) I L G Q) : aB sc X d k n pc ls (.int x :: st) I L G Q := by
  intro E p l e R s m args below meth c Z mc ms C hE hf hlo hmc hms H locs cells slots lr hc hs hl hH
  subst hv
  refine lv_i2s C.1 C.2.1 hd rfl ?_
  exact kk E p l e R s m args below meth c Z mc ms C hE hf hlo hmc hms H locs cells slots lr hc hs hl hH
theorem ar_lcmp {sc : Option (Nat × (Nat → Int32))} {X : aM} {d k n pc : Nat} {ls st : List Value} {I : aI} {L : aL} {G : aG} {Q : aQ} {x y : Int64} {v : Int32} (hd : decode X.2.1 pc = .ok (.lcmp, 1))  (hv : lg_cmp x y = v) (kk : aB sc X d k n (pc + 1) ls (.int v :: st) I L G Q) : aB sc X d k n pc ls (.long y :: .long x :: st) I L G Q := by
  intro E p l e R s m args below meth c Z mc ms C hE hf hlo hmc hms H locs cells slots lr hc hs hl hH
  subst hv
  refine W.lcmp C.1 C.2.1 hd  ?_
  exact kk E p l e R s m args below meth c Z mc ms C hE hf hlo hmc hms H locs cells slots lr hc hs hl hH
theorem ar_dup {sc : Option (Nat × (Nat → Int32))} {X : aM} {d k n pc : Nat} {ls st : List Value} {I : aI} {L : aL} {G : aG} {Q : aQ} {x : Value} (hd : decode X.2.1 pc = .ok (.dup, 1)) (hc1 : x.category = 1) (kk : aB sc X d k n (pc + 1) ls (x :: x :: st) I L G Q) : aB sc X d k n pc ls (x :: st) I L G Q := by
  intro E p l e R s m args below meth c Z mc ms C hE hf hlo hmc hms H locs cells slots lr hc hs hl hH
  refine lv_dup C.1 C.2.1 hd ((am_cat E x).trans hc1) ?_
  exact kk E p l e R s m args below meth c Z mc ms C hE hf hlo hmc hms H locs cells slots lr hc hs hl hH
theorem ar_dup2 {sc : Option (Nat × (Nat → Int32))} {X : aM} {d k n pc : Nat} {ls st : List Value} {I : aI} {L : aL} {G : aG} {Q : aQ} {x y : Value} (hd : decode X.2.1 pc = .ok (.dup2, 1)) (hc1 : x.category = 1) (hc2 : y.category = 1) (kk : aB sc X d k n (pc + 1) ls (x :: y :: x :: y :: st) I L G Q) : aB sc X d k n pc ls (x :: y :: st) I L G Q := by
  intro E p l e R s m args below meth c Z mc ms C hE hf hlo hmc hms H locs cells slots lr hc hs hl hH
  refine lv_dup2_11 C.1 C.2.1 hd ((am_cat E x).trans hc1) ((am_cat E y).trans hc2) ?_
  exact kk E p l e R s m args below meth c Z mc ms C hE hf hlo hmc hms H locs cells slots lr hc hs hl hH
theorem ar_if_eq {sc : Option (Nat × (Nat → Int32))} {X : aM} {d k n pc : Nat} {ls st : List Value} {I : aI} {L : aL} {G : aG} {Q : aQ} {x : Int32} {off : Int} {tgt : Nat} (hd : decode X.2.1 pc = .ok (.ifCond .eq off, 3)) (ht : (pc : Int) + off = (tgt : Int)) (kt : x = 0 → aB sc X d k n tgt ls st I L G Q) (kf : ¬ x = 0 → aB sc X d k n (pc + 3) ls st I L G Q) : aB sc X d k n pc ls (.int x :: st) I L G Q := by
  intro E p l e R s m args below meth c Z mc ms C hE hf hlo hmc hms H locs cells slots lr hc hs hl hH
  refine lv_if_eq C.1 C.2.1 hd ht (fun h => ?_) (fun h => ?_)
  · exact kt h E p l e R s m args below meth c Z mc ms C hE hf hlo hmc hms H locs cells slots lr hc hs hl hH
  · exact kf h E p l e R s m args below meth c Z mc ms C hE hf hlo hmc hms H locs cells slots lr hc hs hl hH
theorem ar_if_ne {sc : Option (Nat × (Nat → Int32))} {X : aM} {d k n pc : Nat} {ls st : List Value} {I : aI} {L : aL} {G : aG} {Q : aQ} {x : Int32} {off : Int} {tgt : Nat} (hd : decode X.2.1 pc = .ok (.ifCond .ne off, 3)) (ht : (pc : Int) + off = (tgt : Int)) (kt : ¬ x = 0 → aB sc X d k n tgt ls st I L G Q) (kf : x = 0 → aB sc X d k n (pc + 3) ls st I L G Q) : aB sc X d k n pc ls (.int x :: st) I L G Q := by
  intro E p l e R s m args below meth c Z mc ms C hE hf hlo hmc hms H locs cells slots lr hc hs hl hH
  refine lv_if_ne C.1 C.2.1 hd ht (fun h => ?_) (fun h => ?_)
  · exact kt h E p l e R s m args below meth c Z mc ms C hE hf hlo hmc hms H locs cells slots lr hc hs hl hH
  · exact kf h E p l e R s m args below meth c Z mc ms C hE hf hlo hmc hms H locs cells slots lr hc hs hl hH
theorem ar_if_lt {sc : Option (Nat × (Nat → Int32))} {X : aM} {d k n pc : Nat} {ls st : List Value} {I : aI} {L : aL} {G : aG} {Q : aQ} {x : Int32} {off : Int} {tgt : Nat} (hd : decode X.2.1 pc = .ok (.ifCond .lt off, 3)) (ht : (pc : Int) + off = (tgt : Int)) (kt : x < 0 → aB sc X d k n tgt ls st I L G Q) (kf : ¬ x < 0 → aB sc X d k n (pc + 3) ls st I L G Q) : aB sc X d k n pc ls (.int x :: st) I L G Q := by
  intro E p l e R s m args below meth c Z mc ms C hE hf hlo hmc hms H locs cells slots lr hc hs hl hH
  refine lv_if_lt C.1 C.2.1 hd ht (fun h => ?_) (fun h => ?_)
  · exact kt h E p l e R s m args below meth c Z mc ms C hE hf hlo hmc hms H locs cells slots lr hc hs hl hH
  · exact kf h E p l e R s m args below meth c Z mc ms C hE hf hlo hmc hms H locs cells slots lr hc hs hl hH
theorem ar_if_ge {sc : Option (Nat × (Nat → Int32))} {X : aM} {d k n pc : Nat} {ls st : List Value} {I : aI} {L : aL} {G : aG} {Q : aQ} {x : Int32} {off : Int} {tgt : Nat} (hd : decode X.2.1 pc = .ok (.ifCond .ge off, 3)) (ht : (pc : Int) + off = (tgt : Int)) (kt : 0 ≤ x → aB sc X d k n tgt ls st I L G Q) (kf : ¬ 0 ≤ x → aB sc X d k n (pc + 3) ls st I L G Q) : aB sc X d k n pc ls (.int x :: st) I L G Q := by
  intro E p l e R s m args below meth c Z mc ms C hE hf hlo hmc hms H locs cells slots lr hc hs hl hH
  refine lv_if_ge C.1 C.2.1 hd ht (fun h => ?_) (fun h => ?_)
  · exact kt h E p l e R s m args below meth c Z mc ms C hE hf hlo hmc hms H locs cells slots lr hc hs hl hH
  · exact kf h E p l e R s m args below meth c Z mc ms C hE hf hlo hmc hms H locs cells slots lr hc hs hl hH
theorem ar_if_gt {sc : Option (Nat × (Nat → Int32))} {X : aM} {d k n pc : Nat} {ls st : List Value} {I : aI} {L : aL} {G : aG} {Q : aQ} {x : Int32} {off : Int} {tgt : Nat} (hd : decode X.2.1 pc = .ok (.ifCond .gt off, 3)) (ht : (pc : Int) + off = (tgt : Int)) (kt : 0 < x → aB sc X d k n tgt ls st I L G Q) (kf : ¬ 0 < x → aB sc X d k n (pc + 3) ls st I L G Q) : aB sc X d k n pc ls (.int x :: st) I L G Q := by
  intro E p l e R s m args below meth c Z mc ms C hE hf hlo hmc hms H locs cells slots lr hc hs hl hH
  refine lv_if_gt C.1 C.2.1 hd ht (fun h => ?_) (fun h => ?_)
  · exact kt h E p l e R s m args below meth c Z mc ms C hE hf hlo hmc hms H locs cells slots lr hc hs hl hH
  · exact kf h E p l e R s m args below meth c Z mc ms C hE hf hlo hmc hms H locs cells slots lr hc hs hl hH
theorem ar_if_le {sc : Option (Nat × (Nat → Int32))} {X : aM} {d k n pc : Nat} {ls st : List Value} {I : aI} {L : aL} {G : aG} {Q : aQ} {x : Int32} {off : Int} {tgt : Nat} (hd : decode X.2.1 pc = .ok (.ifCond .le off, 3)) (ht : (pc : Int) + off = (tgt : Int)) (kt : x ≤ 0 → aB sc X d k n tgt ls st I L G Q) (kf : ¬ x ≤ 0 → aB sc X d k n (pc + 3) ls st I L G Q) : aB sc X d k n pc ls (.int x :: st) I L G Q := by
  intro E p l e R s m args below meth c Z mc ms C hE hf hlo hmc hms H locs cells slots lr hc hs hl hH
  refine lv_if_le C.1 C.2.1 hd ht (fun h => ?_) (fun h => ?_)
  · exact kt h E p l e R s m args below meth c Z mc ms C hE hf hlo hmc hms H locs cells slots lr hc hs hl hH
  · exact kf h E p l e R s m args below meth c Z mc ms C hE hf hlo hmc hms H locs cells slots lr hc hs hl hH
theorem ar_icmp_eq {sc : Option (Nat × (Nat → Int32))} {X : aM} {d k n pc : Nat} {ls st : List Value} {I : aI} {L : aL} {G : aG} {Q : aQ} {x y : Int32} {off : Int} {tgt : Nat} (hd : decode X.2.1 pc = .ok (.if_icmp .eq off, 3)) (ht : (pc : Int) + off = (tgt : Int)) (kt : x = y → aB sc X d k n tgt ls st I L G Q) (kf : ¬ x = y → aB sc X d k n (pc + 3) ls st I L G Q) : aB sc X d k n pc ls (.int y :: .int x :: st) I L G Q := by
  intro E p l e R s m args below meth c Z mc ms C hE hf hlo hmc hms H locs cells slots lr hc hs hl hH
  refine lv_icmp_eq C.1 C.2.1 hd ht (fun h => ?_) (fun h => ?_)
  · exact kt h E p l e R s m args below meth c Z mc ms C hE hf hlo hmc hms H locs cells slots lr hc hs hl hH
  · exact kf h E p l e R s m args below meth c Z mc ms C hE hf hlo hmc hms H locs cells slots lr hc hs hl hH
theorem ar_icmp_ne {sc : Option (Nat × (Nat → Int32))} {X : aM} {d k n pc : Nat} {ls st : List Value} {I : aI} {L : aL} {G : aG} {Q : aQ} {x y : Int32} {off : Int} {tgt : Nat} (hd : decode X.2.1 pc = .ok (.if_icmp .ne off, 3)) (ht : (pc : Int) + off = (tgt : Int)) (kt : ¬ x = y → aB sc X d k n tgt ls st I L G Q) (kf : x = y → aB sc X d k n (pc + 3) ls st I L G Q) : aB sc X d k n pc ls (.int y :: .int x :: st) I L G Q := by
  intro E p l e R s m args below meth c Z mc ms C hE hf hlo hmc hms H locs cells slots lr hc hs hl hH
  refine lv_icmp_ne C.1 C.2.1 hd ht (fun h => ?_) (fun h => ?_)
  · exact kt h E p l e R s m args below meth c Z mc ms C hE hf hlo hmc hms H locs cells slots lr hc hs hl hH
  · exact kf h E p l e R s m args below meth c Z mc ms C hE hf hlo hmc hms H locs cells slots lr hc hs hl hH
theorem ar_icmp_lt {sc : Option (Nat × (Nat → Int32))} {X : aM} {d k n pc : Nat} {ls st : List Value} {I : aI} {L : aL} {G : aG} {Q : aQ} {x y : Int32} {off : Int} {tgt : Nat} (hd : decode X.2.1 pc = .ok (.if_icmp .lt off, 3)) (ht : (pc : Int) + off = (tgt : Int)) (kt : x < y → aB sc X d k n tgt ls st I L G Q) (kf : ¬ x < y → aB sc X d k n (pc + 3) ls st I L G Q) : aB sc X d k n pc ls (.int y :: .int x :: st) I L G Q := by
  intro E p l e R s m args below meth c Z mc ms C hE hf hlo hmc hms H locs cells slots lr hc hs hl hH
  refine lv_icmp_lt C.1 C.2.1 hd ht (fun h => ?_) (fun h => ?_)
  · exact kt h E p l e R s m args below meth c Z mc ms C hE hf hlo hmc hms H locs cells slots lr hc hs hl hH
  · exact kf h E p l e R s m args below meth c Z mc ms C hE hf hlo hmc hms H locs cells slots lr hc hs hl hH
theorem ar_icmp_ge {sc : Option (Nat × (Nat → Int32))} {X : aM} {d k n pc : Nat} {ls st : List Value} {I : aI} {L : aL} {G : aG} {Q : aQ} {x y : Int32} {off : Int} {tgt : Nat} (hd : decode X.2.1 pc = .ok (.if_icmp .ge off, 3)) (ht : (pc : Int) + off = (tgt : Int)) (kt : y ≤ x → aB sc X d k n tgt ls st I L G Q) (kf : ¬ y ≤ x → aB sc X d k n (pc + 3) ls st I L G Q) : aB sc X d k n pc ls (.int y :: .int x :: st) I L G Q := by
  intro E p l e R s m args below meth c Z mc ms C hE hf hlo hmc hms H locs cells slots lr hc hs hl hH
  refine lv_icmp_ge C.1 C.2.1 hd ht (fun h => ?_) (fun h => ?_)
  · exact kt h E p l e R s m args below meth c Z mc ms C hE hf hlo hmc hms H locs cells slots lr hc hs hl hH
  · exact kf h E p l e R s m args below meth c Z mc ms C hE hf hlo hmc hms H locs cells slots lr hc hs hl hH
theorem ar_icmp_gt {sc : Option (Nat × (Nat → Int32))} {X : aM} {d k n pc : Nat} {ls st : List Value} {I : aI} {L : aL} {G : aG} {Q : aQ} {x y : Int32} {off : Int} {tgt : Nat} (hd : decode X.2.1 pc = .ok (.if_icmp .gt off, 3)) (ht : (pc : Int) + off = (tgt : Int)) (kt : y < x → aB sc X d k n tgt ls st I L G Q) (kf : ¬ y < x → aB sc X d k n (pc + 3) ls st I L G Q) : aB sc X d k n pc ls (.int y :: .int x :: st) I L G Q := by
  intro E p l e R s m args below meth c Z mc ms C hE hf hlo hmc hms H locs cells slots lr hc hs hl hH
  refine lv_icmp_gt C.1 C.2.1 hd ht (fun h => ?_) (fun h => ?_)
  · exact kt h E p l e R s m args below meth c Z mc ms C hE hf hlo hmc hms H locs cells slots lr hc hs hl hH
  · exact kf h E p l e R s m args below meth c Z mc ms C hE hf hlo hmc hms H locs cells slots lr hc hs hl hH
theorem ar_icmp_le {sc : Option (Nat × (Nat → Int32))} {X : aM} {d k n pc : Nat} {ls st : List Value} {I : aI} {L : aL} {G : aG} {Q : aQ} {x y : Int32} {off : Int} {tgt : Nat} (hd : decode X.2.1 pc = .ok (.if_icmp .le off, 3)) (ht : (pc : Int) + off = (tgt : Int)) (kt : x ≤ y → aB sc X d k n tgt ls st I L G Q) (kf : ¬ x ≤ y → aB sc X d k n (pc + 3) ls st I L G Q) : aB sc X d k n pc ls (.int y :: .int x :: st) I L G Q := by
  intro E p l e R s m args below meth c Z mc ms C hE hf hlo hmc hms H locs cells slots lr hc hs hl hH
  refine lv_icmp_le C.1 C.2.1 hd ht (fun h => ?_) (fun h => ?_)
  · exact kt h E p l e R s m args below meth c Z mc ms C hE hf hlo hmc hms H locs cells slots lr hc hs hl hH
  · exact kf h E p l e R s m args below meth c Z mc ms C hE hf hlo hmc hms H locs cells slots lr hc hs hl hH
theorem ar_goto {sc : Option (Nat × (Nat → Int32))} {X : aM} {d k n pc : Nat} {ls st : List Value} {I : aI} {L : aL} {G : aG} {Q : aQ} {off : Int} {tgt : Nat} (hd : decode X.2.1 pc = .ok (.goto off, 3)) (ht : (pc : Int) + off = (tgt : Int)) (kk : aB sc X d k n tgt ls st I L G Q) : aB sc X d k n pc ls st I L G Q := by
  intro E p l e R s m args below meth c Z mc ms C hE hf hlo hmc hms H locs cells slots lr hc hs hl hH
  refine lv_goto C.1 C.2.1 hd ht ?_
  exact kk E p l e R s m args below meth c Z mc ms C hE hf hlo hmc hms H locs cells slots lr hc hs hl hH
theorem ar_tabIn {sc : Option (Nat × (Nat → Int32))} {X : aM} {d k n pc : Nat} {ls st : List Value} {I : aI} {L : aL} {G : aG} {Q : aQ} {dflt lo hi off : Int} {offs : Array Int} {len tgt : Nat} {x : Int32} (hd : decode X.2.1 pc = .ok (.tableswitch dflt lo hi offs, len)) (h1 : ¬ x.toInt < lo) (h2 : ¬ hi < x.toInt) (ho : offs[(x.toInt - lo).toNat]? = some off) (ht : (pc : Int) + off = (tgt : Int)) (kk : aB sc X d k n tgt ls st I L G Q) : aB sc X d k n pc ls (.int x :: st) I L G Q := by
  intro E p l e R s m args below meth c Z mc ms C hE hf hlo hmc hms H locs cells slots lr hc hs hl hH
  refine lv_tableIn C.1 C.2.1 hd h1 h2 ho ht ?_
  exact kk E p l e R s m args below meth c Z mc ms C hE hf hlo hmc hms H locs cells slots lr hc hs hl hH
theorem ar_tabOut {sc : Option (Nat × (Nat → Int32))} {X : aM} {d k n pc : Nat} {ls st : List Value} {I : aI} {L : aL} {G : aG} {Q : aQ} {dflt lo hi : Int} {offs : Array Int} {len tgt : Nat} {x : Int32} (hd : decode X.2.1 pc = .ok (.tableswitch dflt lo hi offs, len)) (h1 : x.toInt < lo ∨ hi < x.toInt) (ht : (pc : Int) + dflt = (tgt : Int)) (kk : aB sc X d k n tgt ls st I L G Q) : aB sc X d k n pc ls (.int x :: st) I L G Q := by
  intro E p l e R s m args below meth c Z mc ms C hE hf hlo hmc hms H locs cells slots lr hc hs hl hH
  refine lv_tableOut C.1 C.2.1 hd h1 ht ?_
  exact kk E p l e R s m args below meth c Z mc ms C hE hf hlo hmc hms H locs cells slots lr hc hs hl hH
/-- field kf of class ci, by entry idx of the class own -/
def am_FL (own : String) (idx ci kf : Nat) : Prop := ci < 7 ∧ kf < am_n ci ∧ Cond.fieldLink own idx (am_T ci kf).1 (am_T ci kf).2.1 (am_T ci kf).2.2.1 ∈ am_ws
set_option maxRecDepth 100000 in
theorem am_in0 : ∀ ci, ci < 7 → (u_ws (am_R ci) (am_T ci) (am_n ci)).all (fun w => decide (w ∈ am_ws)) = true := by decide +kernel
theorem am_in {ci : Nat} (h : ci < 7) : ∀ w ∈ u_ws (am_R ci) (am_T ci) (am_n ci), w ∈ am_ws := fun w hw => of_decide_eq_true (List.all_eq_true.mp (am_in0 ci h) w hw)
theorem am_cl : ∀ ci, ci < 7 → vwCl[ci]? = some (am_R ci, am_T ci, am_n ci)
  | 0, _ => rfl
  | 1, _ => rfl
  | 2, _ => rfl
  | 3, _ => rfl
  | 4, _ => rfl
  | 5, _ => rfl
  | 6, _ => rfl
  | k + 7, h => absurd h (by omega)
theorem am_nm : ∀ ci, ci < 7 → ∀ a, a < am_n ci → ∀ b, b < am_n ci → a ≠ b → (am_T ci a).2.1 ≠ (am_T ci b).2.1
  | 0, _ => nmX0
  | 1, _ => nmX1
  | 2, _ => nmX2
  | 3, _ => nmX3
  | 4, _ => nmX4
  | 5, _ => nmX5
  | 6, _ => nmX6
  | k + 7, h => absurd h (by omega)
theorem am_tyok : ∀ ci, ci < 7 → ∀ k, k < am_n ci → parseFieldDescriptor (am_T ci k).2.2.1 = some (am_ty ci k)
  | 0, _ => tyX0_ok
  | 1, _ => tyX1_ok
  | 2, _ => tyX2_ok
  | 3, _ => tyX3_ok
  | 4, _ => tyX4_ok
  | 5, _ => tyX5_ok
  | 6, _ => tyX6_ok
  | k + 7, h => absurd h (by omega)
theorem am_fs_get {E : aE} {ci kf : Nat} {x : Nat → Int32} {r : Nat → Option Nat} (h : kf < am_n ci) : (am_fs E ci x r)[kf]? = some (am_f E ci kf (x kf) (r kf)) := by simp [am_fs, h]
theorem am_fs_len {E : aE} {ci : Nat} {x : Nat → Int32} {r : Nat → Option Nat} : (am_fs E ci x r).length = am_n ci := by simp [am_fs]
theorem am_fs_set {E : aE} {ci kf : Nat} {x x' : Nat → Int32} {r r' : Nat → Option Nat} {v : Value} (hv : v = am_f E ci kf (x' kf) (r' kf)) (ho : ∀ j, j ≠ kf → x' j = x j ∧ r' j = r j) : (am_fs E ci x r).set kf v = am_fs E ci x' r' := by
  apply List.ext_getElem?
  intro j
  rw [List.getElem?_set, am_fs_len]
  by_cases hj : kf = j
  · subst hj
    rw [if_pos rfl]
    by_cases hl : kf < am_n ci
    · rw [if_pos hl, am_fs_get hl, hv]
    · rw [if_neg hl, List.getElem?_eq_none (by rw [am_fs_len]; omega)]
  · rw [if_neg hj]
    by_cases hl : j < am_n ci
    · rw [am_fs_get hl, am_fs_get hl, (ho j (fun q => hj q.symm)).1, (ho j (fun q => hj q.symm)).2]
    · rw [List.getElem?_eq_none (by rw [am_fs_len]; omega), List.getElem?_eq_none (by rw [am_fs_len]; omega)]
theorem am_e_obj {E : aE} {x : Nat → Int32} {y : Nat → Int64} {r : Nat → Option Nat} {q : Nat × Nat} {ci : Nat} (hq : q.1 = ci) (h : ci < 7) : am_e E x y r q = .inr (ci, am_fs E ci x r) := by
  unfold am_e
  rw [hq, if_pos (by omega)]
theorem am_e_I {E : aE} {x : Nat → Int32} {y : Nat → Int64} {r : Nat → Option Nat} {q : Nat × Nat} {N : Nat} (hq : q = (10, N)) : am_e E x y r q = .inl (E.2.2.1, N, .inl x) := by subst hq; rfl
theorem am_e_J {E : aE} {x : Nat → Int32} {y : Nat → Int64} {r : Nat → Option Nat} {q : Nat × Nat} {N : Nat} (hq : q = (11, N)) : am_e E x y r q = .inl (E.2.2.2.1, N, .inr (.inl y)) := by subst hq; rfl
theorem am_e_B {E : aE} {x : Nat → Int32} {y : Nat → Int64} {r : Nat → Option Nat} {q : Nat × Nat} {N : Nat} (hq : q = (12, N)) : am_e E x y r q = .inl (E.2.2.2.2.1, N, .inl x) := by subst hq; rfl
theorem am_e_Z {E : aE} {x : Nat → Int32} {y : Nat → Int64} {r : Nat → Option Nat} {q : Nat × Nat} {N : Nat} (hq : q = (13, N)) : am_e E x y r q = .inl (E.2.2.2.2.2.1, N, .inl x) := by subst hq; rfl
theorem am_e_0 {E : aE} {x : Nat → Int32} {y : Nat → Int64} {r : Nat → Option Nat} {q : Nat × Nat} {N : Nat} (hq : q = (14, N)) : am_e E x y r q = .inl (E.2.2.2.2.2.2.1, N, .inr (.inr (.inr (.inr (fun i => am_rf E (r i)))))) := by subst hq; rfl
theorem am_e_1 {E : aE} {x : Nat → Int32} {y : Nat → Int64} {r : Nat → Option Nat} {q : Nat × Nat} {N : Nat} (hq : q = (15, N)) : am_e E x y r q = .inl (E.2.2.2.2.2.2.2, N, .inr (.inr (.inr (.inr (fun i => am_rf E (r i)))))) := by subst hq; rfl
theorem ar_getI {sc : Option (Nat × (Nat → Int32))} {X : aM} {d k n pc : Nat} {ls st : List Value} {I : aI} {L : aL} {G : aG} {Q : aQ} {idx ci kf a : Nat} {v : Int32} (hd : decode X.2.1 pc = .ok (.getfield idx, 3)) (hfl : am_FL X.1.cls idx ci kf) (ha : a < G.2.2) (hsh : (G.2.1 a).1 = ci) (hty : am_isR (am_ty ci kf) = false) (hv : I a kf = v) (kk : aB sc X d k n (pc + 3) ls (.int v :: st) I L G Q) : aB sc X d k n pc ls (.ref a :: st) I L G Q := by
  intro E p l e R s m args below meth c Z mc ms C hE hf hlo hmc hms H locs cells slots lr hc hs hl hH
  subst hv
  obtain ⟨hci, hkf, hw⟩ := hfl
  have he := am_W_get (E := E) (I := I) (L := L) (G := G) ha
  rw [am_e_obj hsh hci] at he
  refine va_get (v := .int (I a kf)) C.1 C.2.1 C.2.2.2.2.2.2.2.1 (am_in hci) C.2.2.2.2.2.1 C.2.2.2.2.2.2.2.2.1.1 hH.2.1 a he (am_cl ci hci) kf hkf (C.2.2.2.2.2.2.2.1 _ hw) (fun _ h9 => h9) ?_ hd ?_
  · rw [am_fs_get hkf]; unfold am_f; rw [hty]; rfl
  exact kk E p l e R s m args below meth c Z mc ms C hE hf hlo hmc hms H locs cells slots lr hc hs hl hH
theorem ar_getR {sc : Option (Nat × (Nat → Int32))} {X : aM} {d k n pc : Nat} {ls st : List Value} {I : aI} {L : aL} {G : aG} {Q : aQ} {idx ci kf a b : Nat} (hd : decode X.2.1 pc = .ok (.getfield idx, 3)) (hfl : am_FL X.1.cls idx ci kf) (ha : a < G.2.2) (hsh : (G.2.1 a).1 = ci) (hty : am_isR (am_ty ci kf) = true) (hv : G.1 a kf = some b) (kk : aB sc X d k n (pc + 3) ls (.ref b :: st) I L G Q) : aB sc X d k n pc ls (.ref a :: st) I L G Q := by
  intro E p l e R s m args below meth c Z mc ms C hE hf hlo hmc hms H locs cells slots lr hc hs hl hH
  obtain ⟨hci, hkf, hw⟩ := hfl
  have he := am_W_get (E := E) (I := I) (L := L) (G := G) ha
  rw [am_e_obj hsh hci] at he
  refine va_get (v := .ref (E.1.1 + b)) C.1 C.2.1 C.2.2.2.2.2.2.2.1 (am_in hci) C.2.2.2.2.2.1 C.2.2.2.2.2.2.2.2.1.1 hH.2.1 a he (am_cl ci hci) kf hkf (C.2.2.2.2.2.2.2.1 _ hw) (fun _ h9 => h9) ?_ hd ?_
  · rw [am_fs_get hkf, hv]; unfold am_f; rw [hty]; rfl
  exact kk E p l e R s m args below meth c Z mc ms C hE hf hlo hmc hms H locs cells slots lr hc hs hl hH
/-! stores that also tell that no cell came -/
section AMP
variable {p : Program} {l : Launch} {e : Env} {R : Room} {s : State} {m : MethodId} {args : Array Value} {below : List Frame} {meth : Method} {c : Code} {H : Heap} {locs : List Loc} {cells slots : Nat} {Q : State → Prop}
variable {cc : ByteArray} {pc : Nat} {ls : Array Slot} {rest : List Value} {D : va_G} {cl : List vw_C} {A : Nat → Prop} {a : Nat} {tys : List (ClassId × FieldType)} {ws : va_W} {H0 : Heap}
theorem am_put0 (hexec : p.tables.exec = Jvm.exec) (hb : c.code = cc) {own ref C : String} {T : u_T} {N ci index : Nat} {Ts : List Cond} (hts : ∀ w ∈ Ts, w.before args s = true) (hin : ∀ w ∈ u_ws C T N, w ∈ Ts) (ty0 : Nat → FieldType) (hty : ∀ k, k < N → parseFieldDescriptor (T k).2.2.1 = some (ty0 k)) (hnm : ∀ a, a < N → ∀ b, b < N → a ≠ b → (T a).2.1 ≠ (T b).2.1) (hown : s.vm.findClass own = some m.cls) (hK : va_K D cl tys s) (hP : va_P D cl ws H) (hD : va_D A ws) (hS0 : va_S A H0 H locs) (q0 : Nat) {fs : List Value} (he : ws[q0]? = some (a, .inr (ci, fs))) (hc : cl[ci]? = some (C, T, N)) (k : Nat) (hk : k < N) (hlink : (Cond.fieldLink own index ref (T k).2.1 (T k).2.2.1).before args s = true) (hsame : ∀ x, s.fieldFound? (T k).1 (T k).2.1 (T k).2.2.1 = some x → s.fieldFound? ref (T k).2.1 (T k).2.2.1 = some x) (hfin : (T k).2.2.2 = false) {ty : FieldType} {v : Value} (hd : parseFieldDescriptor (T k).2.2.1 = some ty) (hn : narrow ty v = v) (hfit : fits ty v = true) (hl : k < fs.length)
    (hdg : decode cc pc = .ok (.putfield index, 3)) (kk : ∀ (H1 : Heap) (locs1 : List Loc), H1.size = H.size → va_P D cl (ws.set q0 (a, .inr (ci, fs.set k v))) H1 → va_S A H0 H1 locs1 → W p l e R s m args below meth c H1 locs1 cells slots Q (F0 m (pc + 3) ls rest)) : W p l e R s m args below meth c H locs cells slots Q (F0 m pc ls (v :: .ref a :: rest)) := by
  have hap := va_apart (own := own) hts hin ty0 hty hnm hK hc
  obtain ⟨r, h1, cell, q1, q2, q3, q4⟩ := hP q0 _ he
  have hr : r = (C, T, N) := Option.some.inj (h1.symm.trans hc)
  subst hr
  obtain ⟨hS, hfc, kC, hkC, hkind⟩ := hK.1 ci _ hc
  obtain ⟨cf, kf, fi, f, hi, hsl⟩ := hS k hk
  have hlay := hts _ (hin _ (u_in_lay hk))
  unfold u_lay at hlay
  rw [if_neg (by rw [hfin]; decide)] at hlay
  have hst := (u_facts hfc hkC (u_lays hts hin hk) hi).1
  have h6 := u_store hfc hkC hkind hlay hi hd hn hfit
  refine W.putK hexec hb (f := f) ⟨hown, hlink, ⟨_, _, _, hsame _ hi⟩, hst⟩ (by rw [q2]; exact h6) q1 q3 (by rw [hsl]; exact k2_hasslot (q4 k hk)) rfl rfl hdg fun H' e1 e2 e3 => ?_
  rw [hsl] at e1 ⊢
  exact kk H' _ e2 (hP.set hD he ⟨_, hc, t_OB.to (V := updV (vp_V fs) k v) ⟨_, e1, q2, q3, t_set q4 hap hk v⟩ (fun j _ => vp_updV_set hl v j)⟩ e3) (hS0.put e2 e3 (hD.2 q0 _ he))
theorem am_put0F (hexec : p.tables.exec = Jvm.exec) (hb : c.code = cc) {own ref C : String} {T : u_T} {N ci index : Nat} {Ts : List Cond} (hts : ∀ w ∈ Ts, w.before args s = true) (hin : ∀ w ∈ u_ws C T N, w ∈ Ts) (ty0 : Nat → FieldType) (hty : ∀ k, k < N → parseFieldDescriptor (T k).2.2.1 = some (ty0 k)) (hnm : ∀ a, a < N → ∀ b, b < N → a ≠ b → (T a).2.1 ≠ (T b).2.1) (hown : s.vm.findClass own = some m.cls) (hK : va_K D cl tys s) (hP : va_P D cl ws H) (hD : va_D A ws) (hS0 : va_S A H0 H locs) (q0 : Nat) {fs : List Value} (he : ws[q0]? = some (a, .inr (ci, fs))) (hc : cl[ci]? = some (C, T, N)) (k : Nat) (hk : k < N) (hlink : (Cond.fieldLink own index ref (T k).2.1 (T k).2.2.1).before args s = true) (hsame : ∀ x, s.fieldFound? (T k).1 (T k).2.1 (T k).2.2.1 = some x → s.fieldFound? ref (T k).2.1 (T k).2.2.1 = some x) (hfin : (T k).2.2.2 = true) (hin2 : meth.name = "<init>") (hdecl : (T k).1 = own) {ty : FieldType} {v : Value} (hd : parseFieldDescriptor (T k).2.2.1 = some ty) (hn : narrow ty v = v) (hfit : fits ty v = true) (hl : k < fs.length)
    (hdg : decode cc pc = .ok (.putfield index, 3)) (kk : ∀ (H1 : Heap) (locs1 : List Loc), H1.size = H.size → va_P D cl (ws.set q0 (a, .inr (ci, fs.set k v))) H1 → va_S A H0 H1 locs1 → W p l e R s m args below meth c H1 locs1 cells slots Q (F0 m (pc + 3) ls rest)) : W p l e R s m args below meth c H locs cells slots Q (F0 m pc ls (v :: .ref a :: rest)) := by
  have hap := va_apart (own := own) hts hin ty0 hty hnm hK hc
  obtain ⟨r, h1, cell, q1, q2, q3, q4⟩ := hP q0 _ he
  have hr : r = (C, T, N) := Option.some.inj (h1.symm.trans hc)
  subst hr
  obtain ⟨hS, hfc, kC, hkC, hkind⟩ := hK.1 ci _ hc
  obtain ⟨cf, kf, fi, f, hi, hsl⟩ := hS k hk
  have hlay := hts _ (hin _ (u_in_lay hk))
  unfold u_lay at hlay
  rw [if_pos hfin] at hlay
  have hst := (u_facts hfc hkC (u_lays hts hin hk) hi).1
  have hcf : m.cls = cf := by
    obtain ⟨_, _, c', _, _, _, -, -, hf', -, -, -, hown2, -⟩ := Cond.laysFinal_spec hlay
    have e1 : c' = cf := by have := hi.symm.trans hf'; simp at this; exact this.1.symm
    rw [hdecl] at hown2
    rw [← e1]; exact Option.some.inj (hown.symm.trans hown2)
  have h6 := u_fits hfc hkC hkind (Or.inr hlay) hi hd hn hfit
  refine W.putFinK hexec hb hown hlink (hsame _ hi) hst hcf hin2 (by rw [q2]; exact h6) q1 q3 (by rw [hsl]; exact k2_hasslot (q4 k hk)) rfl rfl hdg fun H' e1 e2 e3 => ?_
  rw [hsl] at e1 ⊢
  exact kk H' _ e2 (hP.set hD he ⟨_, hc, t_OB.to (V := updV (vp_V fs) k v) ⟨_, e1, q2, q3, t_set q4 hap hk v⟩ (fun j _ => vp_updV_set hl v j)⟩ e3) (hS0.put e2 e3 (hD.2 q0 _ he))
theorem am_ist0 (hexec : p.tables.exec = Jvm.exec) (hb : c.code = cc) (hK : va_K D cl tys s) (hP : va_P D cl ws H) (hD : va_D A ws) (hS : va_S A H0 H locs) (q0 t0 : Nat) {cA : ClassId} {n : Nat} {f : Nat → Int32} (ha : ws[q0]? = some (a, .inl (cA, n, .inl f))) (ht : tys[t0]? = some (cA, .int)) {i : Int32} {x : Int32} (hin : vp_in i n) (hdg : decode cc pc = .ok (.iastore, 1))
    (kk : ∀ (H1 : Heap) (locs1 : List Loc), H1.size = H.size → va_P D cl (ws.set q0 (a, .inl (cA, n, .inl (upd f i.toNatClampNeg x)))) H1 → va_S A H0 H1 locs1 → W p l e R s m args below meth c H1 locs1 cells slots Q (F0 m (pc + 1) ls rest)) : W p l e R s m args below meth c H locs cells slots Q (F0 m pc ls (.int x :: .int i :: .ref a :: rest)) := by
  refine W.iast hexec hb (hP q0 _ ha) ((hK.2 t0 _ ht).1 n (fun j => .int (f j))) (fun q => by cases q) (by show ¬ (i < 0 ∨ (arrV _ _ _).slots.size ≤ _); rw [arrV_size]; exact hin) rfl rfl hdg fun H1 e z oq => ?_
  refine kk H1 _ z (hP.set hD ha ?_ oq) (hS.put z oq (hD.2 q0 _ ha))
  show H1[a]? = some (vp_cell _ _)
  rw [e, vp_cell_i, vp_cell_i, arrV_store]
  congr 2
  funext q
  by_cases hq : q = i.toNatClampNeg
  · subst hq
    simp [updV, upd, vp_updL, vp_nar]
    try rfl
  · simp [updV, upd, vp_updL, hq]
theorem am_bst0 (hexec : p.tables.exec = Jvm.exec) (hb : c.code = cc) (hK : va_K D cl tys s) (hP : va_P D cl ws H) (hD : va_D A ws) (hS : va_S A H0 H locs) (q0 t0 : Nat) {cA : ClassId} {n : Nat} {f : Nat → Int32} (ha : ws[q0]? = some (a, .inl (cA, n, .inl f))) (ht : tys[t0]? = some (cA, .byte)) {i : Int32} {x : Int32} (hin : vp_in i n) (hdg : decode cc pc = .ok (.bastore, 1))
    (kk : ∀ (H1 : Heap) (locs1 : List Loc), H1.size = H.size → va_P D cl (ws.set q0 (a, .inl (cA, n, .inl (upd f i.toNatClampNeg (vp_nar .byte x))))) H1 → va_S A H0 H1 locs1 → W p l e R s m args below meth c H1 locs1 cells slots Q (F0 m (pc + 1) ls rest)) : W p l e R s m args below meth c H locs cells slots Q (F0 m pc ls (.int x :: .int i :: .ref a :: rest)) := by
  refine W.bast hexec hb (hP q0 _ ha) ((hK.2 t0 _ ht).1 n (fun j => .int (f j))) (fun q => by cases q) (by show ¬ (i < 0 ∨ (arrV _ _ _).slots.size ≤ _); rw [arrV_size]; exact hin) rfl rfl hdg fun H1 e z oq => ?_
  refine kk H1 _ z (hP.set hD ha ?_ oq) (hS.put z oq (hD.2 q0 _ ha))
  show H1[a]? = some (vp_cell _ _)
  rw [e, vp_cell_i, vp_cell_i, arrV_store]
  congr 2
  funext q
  by_cases hq : q = i.toNatClampNeg
  · subst hq
    simp [updV, upd, vp_updL, vp_nar]
    try rfl
  · simp [updV, upd, vp_updL, hq]
theorem am_zst0 (hexec : p.tables.exec = Jvm.exec) (hb : c.code = cc) (hK : va_K D cl tys s) (hP : va_P D cl ws H) (hD : va_D A ws) (hS : va_S A H0 H locs) (q0 t0 : Nat) {cA : ClassId} {n : Nat} {f : Nat → Int32} (ha : ws[q0]? = some (a, .inl (cA, n, .inl f))) (ht : tys[t0]? = some (cA, .boolean)) {i : Int32} {x : Int32} (hin : vp_in i n) (hdg : decode cc pc = .ok (.bastore, 1))
    (kk : ∀ (H1 : Heap) (locs1 : List Loc), H1.size = H.size → va_P D cl (ws.set q0 (a, .inl (cA, n, .inl (upd f i.toNatClampNeg (vp_nar .boolean x))))) H1 → va_S A H0 H1 locs1 → W p l e R s m args below meth c H1 locs1 cells slots Q (F0 m (pc + 1) ls rest)) : W p l e R s m args below meth c H locs cells slots Q (F0 m pc ls (.int x :: .int i :: .ref a :: rest)) := by
  refine W.zast hexec hb (hP q0 _ ha) ((hK.2 t0 _ ht).1 n (fun j => .int (f j))) (fun q => by cases q) (by show ¬ (i < 0 ∨ (arrV _ _ _).slots.size ≤ _); rw [arrV_size]; exact hin) rfl rfl hdg fun H1 e z oq => ?_
  refine kk H1 _ z (hP.set hD ha ?_ oq) (hS.put z oq (hD.2 q0 _ ha))
  show H1[a]? = some (vp_cell _ _)
  rw [e, vp_cell_i, vp_cell_i, arrV_store]
  congr 2
  funext q
  by_cases hq : q = i.toNatClampNeg
  · subst hq
    simp [updV, upd, vp_updL, vp_nar]
    try rfl
  · simp [updV, upd, vp_updL, hq]
theorem am_lst0 (hexec : p.tables.exec = Jvm.exec) (hb : c.code = cc) (hK : va_K D cl tys s) (hP : va_P D cl ws H) (hD : va_D A ws) (hS : va_S A H0 H locs) (q0 t0 : Nat) {cA : ClassId} {n : Nat} {f : Nat → Int64} (ha : ws[q0]? = some (a, .inl (cA, n, .inr (.inl f)))) (ht : tys[t0]? = some (cA, .long)) {i : Int32} {x : Int64} (hin : vp_in i n) (hdg : decode cc pc = .ok (.lastore, 1))
    (kk : ∀ (H1 : Heap) (locs1 : List Loc), H1.size = H.size → va_P D cl (ws.set q0 (a, .inl (cA, n, .inr (.inl (vp_updL f i.toNatClampNeg x))))) H1 → va_S A H0 H1 locs1 → W p l e R s m args below meth c H1 locs1 cells slots Q (F0 m (pc + 1) ls rest)) : W p l e R s m args below meth c H locs cells slots Q (F0 m pc ls (.long x :: .int i :: .ref a :: rest)) := by
  refine W.last hexec hb (hP q0 _ ha) ((hK.2 t0 _ ht).1 n (fun j => .long (f j))) (fun q => by cases q) (by show ¬ (i < 0 ∨ (arrV _ _ _).slots.size ≤ _); rw [arrV_size]; exact hin) rfl rfl hdg fun H1 e z oq => ?_
  refine kk H1 _ z (hP.set hD ha ?_ oq) (hS.put z oq (hD.2 q0 _ ha))
  show H1[a]? = some (vp_cell _ _)
  rw [e, vp_cell_l, vp_cell_l, arrV_store]
  congr 2
  funext q
  by_cases hq : q = i.toNatClampNeg
  · subst hq
    simp [updV, upd, vp_updL, vp_nar]
    try rfl
  · simp [updV, upd, vp_updL, hq]
theorem am_ast0 (hexec : p.tables.exec = Jvm.exec) (hb : c.code = cc) (hK : va_K D cl tys s) (hP : va_P D cl ws H) (hD : va_D A ws) (hS : va_S A H0 H locs) (q0 t0 qk ci : Nat) {cA : ClassId} {r : vw_C} {n v : Nat} {vs : List Value} {f : Nat → Option Nat} (ha : ws[q0]? = some (a, .inl (cA, n, .inr (.inr (.inr (.inr f)))))) (ht : tys[t0]? = some (cA, .object r.1)) (hv : ws[qk]? = some (v, .inr (ci, vs))) (hc : cl[ci]? = some r) {i : Int32} (hin : vp_in i n) (hdg : decode cc pc = .ok (.aastore, 1))
    (kk : ∀ (H1 : Heap) (locs1 : List Loc), H1.size = H.size → va_P D cl (ws.set q0 (a, .inl (cA, n, .inr (.inr (.inr (.inr (va_up f i.toNatClampNeg (some v)))))))) H1 → va_S A H0 H1 locs1 → W p l e R s m args below meth c H1 locs1 cells slots Q (F0 m (pc + 1) ls rest)) : W p l e R s m args below meth c H locs cells slots Q (F0 m pc ls (.ref v :: .int i :: .ref a :: rest)) := by
  have hlt : i.toNatClampNeg < n := Nat.not_le.mp fun q => hin (Or.inr q)
  have h0 : ¬ i < 0 := fun q => hin (Or.inl q)
  obtain ⟨r', hr', cellV, g1, g2, g3, -⟩ := hP qk _ hv
  have hcls := (hK.1 ci r hc).2
  obtain ⟨kA, comp, k1, k2, k3, -⟩ := (hK.2 t0 _ ht).2
  have hcomp : comp = D.1 ci := Option.some.inj (k3.symm.trans hcls.1)
  subst hcomp
  obtain ⟨kC, hkC, -⟩ := hcls.2
  refine W.aast hexec hb (hP q0 _ ha) (fun q h => by cases h) (fun h => by cases h) k1 k2 rfl hkC ⟨h0, by show _ < (arrV _ _ _).slots.size; rw [arrV_size]; exact hlt⟩ g1 (fun q h => by rw [g3] at h; cases h) (by rw [g2]; exact hkC) (by rw [g2]; exact va_assign hcls) rfl rfl hdg fun H1 e z oq => ?_
  refine kk H1 _ z (hP.set hD ha ?_ oq) (hS.put z oq (hD.2 q0 _ ha))
  show H1[a]? = some (vp_cell _ _)
  rw [e, vp_cell_q, vp_cell_q, arrV_store]
  congr 2
  funext q
  by_cases hq : q = i.toNatClampNeg
  · subst hq
    simp [updV, va_up, va_rf]
  · simp [updV, va_up, hq]
end AMP
theorem ar_putI {sc : Option (Nat × (Nat → Int32))} {X : aM} {d k n pc : Nat} {ls st : List Value} {I : aI} {L : aL} {G : aG} {Q : aQ} {idx ci kf a : Nat} {x : Int32} (hd : decode X.2.1 pc = .ok (.putfield idx, 3)) (hfl : am_FL X.1.cls idx ci kf) (ha : a < G.2.2) (hsh : (G.2.1 a).1 = ci) (hfin : (am_T ci kf).2.2.2 = false) (hty : am_isR (am_ty ci kf) = false) (hna : narrow (am_ty ci kf) (.int x) = .int x) (hfi : fits (am_ty ci kf) (.int x) = true) (kk : aB sc X d k n (pc + 3) ls st (am_u I a kf x) L G Q) : aB sc X d k n pc ls (.int x :: .ref a :: st) I L G Q := by
  intro E p l e R s m args below meth c Z mc ms C hE hf hlo hmc hms H locs cells slots lr hc hs hl hH
  obtain ⟨hci, hkf, hw⟩ := hfl
  have he := am_W_get (E := E) (I := I) (L := L) (G := G) ha
  rw [am_e_obj hsh hci] at he
  refine am_put0 (v := .int x) C.1 C.2.1 C.2.2.2.2.2.2.2.1 (am_in hci) (am_ty ci) (am_tyok ci hci) (am_nm ci hci) C.2.2.2.2.2.1 C.2.2.2.2.2.2.2.2.1.1 hH.2.1 am_D hH.2.2 a he (am_cl ci hci) kf hkf (C.2.2.2.2.2.2.2.1 _ hw) (fun _ h9 => h9) hfin (am_tyok ci hci kf hkf) hna hfi (by rw [am_fs_len]; exact hkf) hd (fun H1 locs1 hz1 hP1 hS1 => ?_)
  have hw2 : (am_W E I L G).set a (E.1.1 + a, .inr (ci, (am_fs E ci (I a) (G.1 a)).set kf (.int x))) = am_W E (am_u I a kf x) L G := by
    refine am_W_set (R := G.1) (R' := G.1) (S := G.2.1) (z := G.2.2) ?_ (fun j hj => ⟨am_u_ne I x hj, rfl, rfl⟩)
    rw [am_e_obj hsh hci, am_fs_set (x' := am_u I a kf x a) (r' := G.1 a)]
    · unfold am_f; rw [hty]; simp [am_u]
    · intro j hj; simp [am_u, hj]
  have hP2 : va_P E.2.1 vwCl (am_W E (am_u I a kf x) L G) H1 := hw2 ▸ hP1
  exact kk E p l e R s m args below meth c Z mc ms C hE hf hlo hmc hms H1 locs1 cells slots lr hc hs hl ⟨hz1.trans hH.1, hP2, hS1⟩
theorem ar_putR {sc : Option (Nat × (Nat → Int32))} {X : aM} {d k n pc : Nat} {ls st : List Value} {I : aI} {L : aL} {G : aG} {Q : aQ} {idx ci kf a b : Nat} (hd : decode X.2.1 pc = .ok (.putfield idx, 3)) (hfl : am_FL X.1.cls idx ci kf) (ha : a < G.2.2) (hsh : (G.2.1 a).1 = ci) (hfin : (am_T ci kf).2.2.2 = false) (hty : am_isR (am_ty ci kf) = true) (kk : aB sc X d k n (pc + 3) ls st I L (am_u G.1 a kf (some b), G.2) Q) : aB sc X d k n pc ls (.ref b :: .ref a :: st) I L G Q := by
  intro E p l e R s m args below meth c Z mc ms C hE hf hlo hmc hms H locs cells slots lr hc hs hl hH
  obtain ⟨hci, hkf, hw⟩ := hfl
  have he := am_W_get (E := E) (I := I) (L := L) (G := G) ha
  rw [am_e_obj hsh hci] at he
  have hna : narrow (am_ty ci kf) (.ref (E.1.1 + b)) = .ref (E.1.1 + b) := by cases h : am_ty ci kf <;> rw [h] at hty <;> first | rfl | cases hty
  have hfi : fits (am_ty ci kf) (.ref (E.1.1 + b)) = true := by cases h : am_ty ci kf <;> rw [h] at hty <;> first | rfl | cases hty
  refine am_put0 (v := .ref (E.1.1 + b)) C.1 C.2.1 C.2.2.2.2.2.2.2.1 (am_in hci) (am_ty ci) (am_tyok ci hci) (am_nm ci hci) C.2.2.2.2.2.1 C.2.2.2.2.2.2.2.2.1.1 hH.2.1 am_D hH.2.2 a he (am_cl ci hci) kf hkf (C.2.2.2.2.2.2.2.1 _ hw) (fun _ h9 => h9) hfin (am_tyok ci hci kf hkf) hna hfi (by rw [am_fs_len]; exact hkf) hd (fun H1 locs1 hz1 hP1 hS1 => ?_)
  have hw2 : (am_W E I L G).set a (E.1.1 + a, .inr (ci, (am_fs E ci (I a) (G.1 a)).set kf (.ref (E.1.1 + b)))) = am_W E I L (am_u G.1 a kf (some b), G.2) := by
    refine am_W_set (R := G.1) (R' := am_u G.1 a kf (some b)) (S := G.2.1) (z := G.2.2) ?_ (fun j hj => ⟨rfl, rfl, am_u_ne G.1 (some b) hj⟩)
    rw [am_e_obj hsh hci, am_fs_set (x' := I a) (r' := am_u G.1 a kf (some b) a)]
    · unfold am_f; rw [hty]; simp [am_u, am_rf, va_rf]
    · intro j hj; simp [am_u, hj]
  have hP2 : va_P E.2.1 vwCl (am_W E I L (am_u G.1 a kf (some b), G.2)) H1 := hw2 ▸ hP1
  exact kk E p l e R s m args below meth c Z mc ms C hE hf hlo hmc hms H1 locs1 cells slots lr hc hs hl ⟨hz1.trans hH.1, hP2, hS1⟩
theorem ar_putIF {sc : Option (Nat × (Nat → Int32))} {X : aM} {d k n pc : Nat} {ls st : List Value} {I : aI} {L : aL} {G : aG} {Q : aQ} {idx ci kf a : Nat} {x : Int32} (hd : decode X.2.1 pc = .ok (.putfield idx, 3)) (hfl : am_FL X.1.cls idx ci kf) (ha : a < G.2.2) (hsh : (G.2.1 a).1 = ci) (hfin : (am_T ci kf).2.2.2 = true) (hini : X.1.name = "<init>") (hdecl : (am_T ci kf).1 = X.1.cls) (hty : am_isR (am_ty ci kf) = false) (hna : narrow (am_ty ci kf) (.int x) = .int x) (hfi : fits (am_ty ci kf) (.int x) = true) (kk : aB sc X d k n (pc + 3) ls st (am_u I a kf x) L G Q) : aB sc X d k n pc ls (.int x :: .ref a :: st) I L G Q := by
  intro E p l e R s m args below meth c Z mc ms C hE hf hlo hmc hms H locs cells slots lr hc hs hl hH
  obtain ⟨hci, hkf, hw⟩ := hfl
  have he := am_W_get (E := E) (I := I) (L := L) (G := G) ha
  rw [am_e_obj hsh hci] at he
  refine am_put0F (v := .int x) C.1 C.2.1 C.2.2.2.2.2.2.2.1 (am_in hci) (am_ty ci) (am_tyok ci hci) (am_nm ci hci) C.2.2.2.2.2.1 C.2.2.2.2.2.2.2.2.1.1 hH.2.1 am_D hH.2.2 a he (am_cl ci hci) kf hkf (C.2.2.2.2.2.2.2.1 _ hw) (fun _ h9 => h9) hfin (C.2.2.2.2.2.2.1 hini) hdecl (am_tyok ci hci kf hkf) hna hfi (by rw [am_fs_len]; exact hkf) hd (fun H1 locs1 hz1 hP1 hS1 => ?_)
  have hw2 : (am_W E I L G).set a (E.1.1 + a, .inr (ci, (am_fs E ci (I a) (G.1 a)).set kf (.int x))) = am_W E (am_u I a kf x) L G := by
    refine am_W_set (R := G.1) (R' := G.1) (S := G.2.1) (z := G.2.2) ?_ (fun j hj => ⟨am_u_ne I x hj, rfl, rfl⟩)
    rw [am_e_obj hsh hci, am_fs_set (x' := am_u I a kf x a) (r' := G.1 a)]
    · unfold am_f; rw [hty]; simp [am_u]
    · intro j hj; simp [am_u, hj]
  have hP2 : va_P E.2.1 vwCl (am_W E (am_u I a kf x) L G) H1 := hw2 ▸ hP1
  exact kk E p l e R s m args below meth c Z mc ms C hE hf hlo hmc hms H1 locs1 cells slots lr hc hs hl ⟨hz1.trans hH.1, hP2, hS1⟩
theorem ar_putRF {sc : Option (Nat × (Nat → Int32))} {X : aM} {d k n pc : Nat} {ls st : List Value} {I : aI} {L : aL} {G : aG} {Q : aQ} {idx ci kf a b : Nat} (hd : decode X.2.1 pc = .ok (.putfield idx, 3)) (hfl : am_FL X.1.cls idx ci kf) (ha : a < G.2.2) (hsh : (G.2.1 a).1 = ci) (hfin : (am_T ci kf).2.2.2 = true) (hini : X.1.name = "<init>") (hdecl : (am_T ci kf).1 = X.1.cls) (hty : am_isR (am_ty ci kf) = true) (kk : aB sc X d k n (pc + 3) ls st I L (am_u G.1 a kf (some b), G.2) Q) : aB sc X d k n pc ls (.ref b :: .ref a :: st) I L G Q := by
  intro E p l e R s m args below meth c Z mc ms C hE hf hlo hmc hms H locs cells slots lr hc hs hl hH
  obtain ⟨hci, hkf, hw⟩ := hfl
  have he := am_W_get (E := E) (I := I) (L := L) (G := G) ha
  rw [am_e_obj hsh hci] at he
  have hna : narrow (am_ty ci kf) (.ref (E.1.1 + b)) = .ref (E.1.1 + b) := by cases h : am_ty ci kf <;> rw [h] at hty <;> first | rfl | cases hty
  have hfi : fits (am_ty ci kf) (.ref (E.1.1 + b)) = true := by cases h : am_ty ci kf <;> rw [h] at hty <;> first | rfl | cases hty
  refine am_put0F (v := .ref (E.1.1 + b)) C.1 C.2.1 C.2.2.2.2.2.2.2.1 (am_in hci) (am_ty ci) (am_tyok ci hci) (am_nm ci hci) C.2.2.2.2.2.1 C.2.2.2.2.2.2.2.2.1.1 hH.2.1 am_D hH.2.2 a he (am_cl ci hci) kf hkf (C.2.2.2.2.2.2.2.1 _ hw) (fun _ h9 => h9) hfin (C.2.2.2.2.2.2.1 hini) hdecl (am_tyok ci hci kf hkf) hna hfi (by rw [am_fs_len]; exact hkf) hd (fun H1 locs1 hz1 hP1 hS1 => ?_)
  have hw2 : (am_W E I L G).set a (E.1.1 + a, .inr (ci, (am_fs E ci (I a) (G.1 a)).set kf (.ref (E.1.1 + b)))) = am_W E I L (am_u G.1 a kf (some b), G.2) := by
    refine am_W_set (R := G.1) (R' := am_u G.1 a kf (some b)) (S := G.2.1) (z := G.2.2) ?_ (fun j hj => ⟨rfl, rfl, am_u_ne G.1 (some b) hj⟩)
    rw [am_e_obj hsh hci, am_fs_set (x' := I a) (r' := am_u G.1 a kf (some b) a)]
    · unfold am_f; rw [hty]; simp [am_u, am_rf, va_rf]
    · intro j hj; simp [am_u, hj]
  have hP2 : va_P E.2.1 vwCl (am_W E I L (am_u G.1 a kf (some b), G.2)) H1 := hw2 ▸ hP1
  exact kk E p l e R s m args below meth c Z mc ms C hE hf hlo hmc hms H1 locs1 cells slots lr hc hs hl ⟨hz1.trans hH.1, hP2, hS1⟩
theorem ar_iald {sc : Option (Nat × (Nat → Int32))} {X : aM} {d k n pc : Nat} {ls st : List Value} {I : aI} {L : aL} {G : aG} {Q : aQ} {a N j : Nat} {i : Int32} {v : Int32} (hd : decode X.2.1 pc = .ok (.iaload, 1)) (ha : a < G.2.2) (hsh : G.2.1 a = (10, N)) (hi : vp_in i N) (hj : i.toNatClampNeg = j) (hv : I a j = v) (kk : aB sc X d k n (pc + 1) ls (.int v :: st) I L G Q) : aB sc X d k n pc ls (.int i :: .ref a :: st) I L G Q := by
  intro E p l e R s m args below meth c Z mc ms C hE hf hlo hmc hms H locs cells slots lr hc hs hl hH
  subst hv
  subst hj
  have he := am_W_get (E := E) (I := I) (L := L) (G := G) ha
  rw [am_e_I hsh] at he
  refine va_iald C.1 C.2.1 C.2.2.2.2.2.2.2.2.1.1 hH.2.1 a 0 he rfl hi hd ?_
  exact kk E p l e R s m args below meth c Z mc ms C hE hf hlo hmc hms H locs cells slots lr hc hs hl hH
theorem ar_bald {sc : Option (Nat × (Nat → Int32))} {X : aM} {d k n pc : Nat} {ls st : List Value} {I : aI} {L : aL} {G : aG} {Q : aQ} {a N j : Nat} {i : Int32} {v : Int32} (hd : decode X.2.1 pc = .ok (.baload, 1)) (ha : a < G.2.2) (hsh : G.2.1 a = (12, N)) (hi : vp_in i N) (hj : i.toNatClampNeg = j) (hv : I a j = v) (kk : aB sc X d k n (pc + 1) ls (.int v :: st) I L G Q) : aB sc X d k n pc ls (.int i :: .ref a :: st) I L G Q := by
  intro E p l e R s m args below meth c Z mc ms C hE hf hlo hmc hms H locs cells slots lr hc hs hl hH
  subst hv
  subst hj
  have he := am_W_get (E := E) (I := I) (L := L) (G := G) ha
  rw [am_e_B hsh] at he
  refine va_bald C.1 C.2.1 C.2.2.2.2.2.2.2.2.1.1 hH.2.1 a 2 he rfl hi hd ?_
  exact kk E p l e R s m args below meth c Z mc ms C hE hf hlo hmc hms H locs cells slots lr hc hs hl hH
theorem ar_zald {sc : Option (Nat × (Nat → Int32))} {X : aM} {d k n pc : Nat} {ls st : List Value} {I : aI} {L : aL} {G : aG} {Q : aQ} {a N j : Nat} {i : Int32} {v : Int32} (hd : decode X.2.1 pc = .ok (.baload, 1)) (ha : a < G.2.2) (hsh : G.2.1 a = (13, N)) (hi : vp_in i N) (hj : i.toNatClampNeg = j) (hv : I a j = v) (kk : aB sc X d k n (pc + 1) ls (.int v :: st) I L G Q) : aB sc X d k n pc ls (.int i :: .ref a :: st) I L G Q := by
  intro E p l e R s m args below meth c Z mc ms C hE hf hlo hmc hms H locs cells slots lr hc hs hl hH
  subst hv
  subst hj
  have he := am_W_get (E := E) (I := I) (L := L) (G := G) ha
  rw [am_e_Z hsh] at he
  refine va_zald C.1 C.2.1 C.2.2.2.2.2.2.2.2.1.1 hH.2.1 a 3 he rfl hi hd ?_
  exact kk E p l e R s m args below meth c Z mc ms C hE hf hlo hmc hms H locs cells slots lr hc hs hl hH
theorem ar_lald {sc : Option (Nat × (Nat → Int32))} {X : aM} {d k n pc : Nat} {ls st : List Value} {I : aI} {L : aL} {G : aG} {Q : aQ} {a N j : Nat} {i : Int32} {v : Int64} (hd : decode X.2.1 pc = .ok (.laload, 1)) (ha : a < G.2.2) (hsh : G.2.1 a = (11, N)) (hi : vp_in i N) (hj : i.toNatClampNeg = j) (hv : L a j = v) (kk : aB sc X d k n (pc + 1) ls (.long v :: st) I L G Q) : aB sc X d k n pc ls (.int i :: .ref a :: st) I L G Q := by
  intro E p l e R s m args below meth c Z mc ms C hE hf hlo hmc hms H locs cells slots lr hc hs hl hH
  subst hv
  subst hj
  have he := am_W_get (E := E) (I := I) (L := L) (G := G) ha
  rw [am_e_J hsh] at he
  refine va_lald C.1 C.2.1 C.2.2.2.2.2.2.2.2.1.1 hH.2.1 a 1 he rfl hi hd ?_
  exact kk E p l e R s m args below meth c Z mc ms C hE hf hlo hmc hms H locs cells slots lr hc hs hl hH
theorem ar_aald0 {sc : Option (Nat × (Nat → Int32))} {X : aM} {d k n pc : Nat} {ls st : List Value} {I : aI} {L : aL} {G : aG} {Q : aQ} {a N j b : Nat} {i : Int32} (hd : decode X.2.1 pc = .ok (.aaload, 1)) (ha : a < G.2.2) (hsh : G.2.1 a = (14, N)) (hi : vp_in i N) (hj : i.toNatClampNeg = j) (hv : G.1 a j = some b) (kk : aB sc X d k n (pc + 1) ls (.ref b :: st) I L G Q) : aB sc X d k n pc ls (.int i :: .ref a :: st) I L G Q := by
  intro E p l e R s m args below meth c Z mc ms C hE hf hlo hmc hms H locs cells slots lr hc hs hl hH
  subst hj
  have he := am_W_get (E := E) (I := I) (L := L) (G := G) ha
  rw [am_e_0 hsh] at he
  refine va_aldq C.1 C.2.1 C.2.2.2.2.2.2.2.2.1.1 hH.2.1 a 4 he rfl hi hd ?_
  have hr : va_rf (am_rf E (G.1 a i.toNatClampNeg)) = .ref (E.1.1 + b) := by rw [hv]; rfl
  rw [hr]
  exact kk E p l e R s m args below meth c Z mc ms C hE hf hlo hmc hms H locs cells slots lr hc hs hl hH
theorem ar_aald1 {sc : Option (Nat × (Nat → Int32))} {X : aM} {d k n pc : Nat} {ls st : List Value} {I : aI} {L : aL} {G : aG} {Q : aQ} {a N j b : Nat} {i : Int32} (hd : decode X.2.1 pc = .ok (.aaload, 1)) (ha : a < G.2.2) (hsh : G.2.1 a = (15, N)) (hi : vp_in i N) (hj : i.toNatClampNeg = j) (hv : G.1 a j = some b) (kk : aB sc X d k n (pc + 1) ls (.ref b :: st) I L G Q) : aB sc X d k n pc ls (.int i :: .ref a :: st) I L G Q := by
  intro E p l e R s m args below meth c Z mc ms C hE hf hlo hmc hms H locs cells slots lr hc hs hl hH
  subst hj
  have he := am_W_get (E := E) (I := I) (L := L) (G := G) ha
  rw [am_e_1 hsh] at he
  refine va_aldq C.1 C.2.1 C.2.2.2.2.2.2.2.2.1.1 hH.2.1 a 5 he rfl hi hd ?_
  have hr : va_rf (am_rf E (G.1 a i.toNatClampNeg)) = .ref (E.1.1 + b) := by rw [hv]; rfl
  rw [hr]
  exact kk E p l e R s m args below meth c Z mc ms C hE hf hlo hmc hms H locs cells slots lr hc hs hl hH
theorem ar_iast {sc : Option (Nat × (Nat → Int32))} {X : aM} {d k n pc : Nat} {ls st : List Value} {I : aI} {L : aL} {G : aG} {Q : aQ} {a N j : Nat} {i : Int32} {x y : Int32} (hd : decode X.2.1 pc = .ok (.iastore, 1)) (ha : a < G.2.2) (hsh : G.2.1 a = (10, N)) (hi : vp_in i N) (hj : i.toNatClampNeg = j) (hy : x = y) (kk : aB sc X d k n (pc + 1) ls st (am_u I a j y) L G Q) : aB sc X d k n pc ls (.int x :: .int i :: .ref a :: st) I L G Q := by
  intro E p l e R s m args below meth c Z mc ms C hE hf hlo hmc hms H locs cells slots lr hc hs hl hH
  subst hj
  subst hy
  have he := am_W_get (E := E) (I := I) (L := L) (G := G) ha
  rw [am_e_I hsh] at he
  refine am_ist0 C.1 C.2.1 C.2.2.2.2.2.2.2.2.1.1 hH.2.1 am_D hH.2.2 a 0 he rfl hi hd (fun H1 locs1 hz1 hP1 hS1 => ?_)
  have hw2 : (am_W E I L G).set a (E.1.1 + a, .inl (E.2.2.1, N, .inl (upd (I a) i.toNatClampNeg x))) = am_W E (am_u I a i.toNatClampNeg x) L G := by
    refine am_W_set (R := G.1) (R' := G.1) (S := G.2.1) (z := G.2.2) ?_ (fun j hj => ⟨am_u_ne I _ hj, rfl, rfl⟩)
    rw [am_e_I hsh, am_u_row]
    rfl
  have hP2 : va_P E.2.1 vwCl (am_W E (am_u I a i.toNatClampNeg x) L G) H1 := hw2 ▸ hP1
  exact kk E p l e R s m args below meth c Z mc ms C hE hf hlo hmc hms H1 locs1 cells slots lr hc hs hl ⟨hz1.trans hH.1, hP2, hS1⟩
theorem ar_bast {sc : Option (Nat × (Nat → Int32))} {X : aM} {d k n pc : Nat} {ls st : List Value} {I : aI} {L : aL} {G : aG} {Q : aQ} {a N j : Nat} {i : Int32} {x y : Int32} (hd : decode X.2.1 pc = .ok (.bastore, 1)) (ha : a < G.2.2) (hsh : G.2.1 a = (12, N)) (hi : vp_in i N) (hj : i.toNatClampNeg = j) (hy : (vp_nar .byte x) = y) (kk : aB sc X d k n (pc + 1) ls st (am_u I a j y) L G Q) : aB sc X d k n pc ls (.int x :: .int i :: .ref a :: st) I L G Q := by
  intro E p l e R s m args below meth c Z mc ms C hE hf hlo hmc hms H locs cells slots lr hc hs hl hH
  subst hj
  subst hy
  have he := am_W_get (E := E) (I := I) (L := L) (G := G) ha
  rw [am_e_B hsh] at he
  refine am_bst0 C.1 C.2.1 C.2.2.2.2.2.2.2.2.1.1 hH.2.1 am_D hH.2.2 a 2 he rfl hi hd (fun H1 locs1 hz1 hP1 hS1 => ?_)
  have hw2 : (am_W E I L G).set a (E.1.1 + a, .inl (E.2.2.2.2.1, N, .inl (upd (I a) i.toNatClampNeg (vp_nar .byte x)))) = am_W E (am_u I a i.toNatClampNeg (vp_nar .byte x)) L G := by
    refine am_W_set (R := G.1) (R' := G.1) (S := G.2.1) (z := G.2.2) ?_ (fun j hj => ⟨am_u_ne I _ hj, rfl, rfl⟩)
    rw [am_e_B hsh, am_u_row]
    rfl
  have hP2 : va_P E.2.1 vwCl (am_W E (am_u I a i.toNatClampNeg (vp_nar .byte x)) L G) H1 := hw2 ▸ hP1
  exact kk E p l e R s m args below meth c Z mc ms C hE hf hlo hmc hms H1 locs1 cells slots lr hc hs hl ⟨hz1.trans hH.1, hP2, hS1⟩
theorem ar_zast {sc : Option (Nat × (Nat → Int32))} {X : aM} {d k n pc : Nat} {ls st : List Value} {I : aI} {L : aL} {G : aG} {Q : aQ} {a N j : Nat} {i : Int32} {x y : Int32} (hd : decode X.2.1 pc = .ok (.bastore, 1)) (ha : a < G.2.2) (hsh : G.2.1 a = (13, N)) (hi : vp_in i N) (hj : i.toNatClampNeg = j) (hy : (vp_nar .boolean x) = y) (kk : aB sc X d k n (pc + 1) ls st (am_u I a j y) L G Q) : aB sc X d k n pc ls (.int x :: .int i :: .ref a :: st) I L G Q := by
  intro E p l e R s m args below meth c Z mc ms C hE hf hlo hmc hms H locs cells slots lr hc hs hl hH
  subst hj
  subst hy
  have he := am_W_get (E := E) (I := I) (L := L) (G := G) ha
  rw [am_e_Z hsh] at he
  refine am_zst0 C.1 C.2.1 C.2.2.2.2.2.2.2.2.1.1 hH.2.1 am_D hH.2.2 a 3 he rfl hi hd (fun H1 locs1 hz1 hP1 hS1 => ?_)
  have hw2 : (am_W E I L G).set a (E.1.1 + a, .inl (E.2.2.2.2.2.1, N, .inl (upd (I a) i.toNatClampNeg (vp_nar .boolean x)))) = am_W E (am_u I a i.toNatClampNeg (vp_nar .boolean x)) L G := by
    refine am_W_set (R := G.1) (R' := G.1) (S := G.2.1) (z := G.2.2) ?_ (fun j hj => ⟨am_u_ne I _ hj, rfl, rfl⟩)
    rw [am_e_Z hsh, am_u_row]
    rfl
  have hP2 : va_P E.2.1 vwCl (am_W E (am_u I a i.toNatClampNeg (vp_nar .boolean x)) L G) H1 := hw2 ▸ hP1
  exact kk E p l e R s m args below meth c Z mc ms C hE hf hlo hmc hms H1 locs1 cells slots lr hc hs hl ⟨hz1.trans hH.1, hP2, hS1⟩
theorem ar_last {sc : Option (Nat × (Nat → Int32))} {X : aM} {d k n pc : Nat} {ls st : List Value} {I : aI} {L : aL} {G : aG} {Q : aQ} {a N j : Nat} {i : Int32} {x y : Int64} (hd : decode X.2.1 pc = .ok (.lastore, 1)) (ha : a < G.2.2) (hsh : G.2.1 a = (11, N)) (hi : vp_in i N) (hj : i.toNatClampNeg = j) (hy : x = y) (kk : aB sc X d k n (pc + 1) ls st I (am_u L a j y) G Q) : aB sc X d k n pc ls (.long x :: .int i :: .ref a :: st) I L G Q := by
  intro E p l e R s m args below meth c Z mc ms C hE hf hlo hmc hms H locs cells slots lr hc hs hl hH
  subst hj
  subst hy
  have he := am_W_get (E := E) (I := I) (L := L) (G := G) ha
  rw [am_e_J hsh] at he
  refine am_lst0 C.1 C.2.1 C.2.2.2.2.2.2.2.2.1.1 hH.2.1 am_D hH.2.2 a 1 he rfl hi hd (fun H1 locs1 hz1 hP1 hS1 => ?_)
  have hw2 : (am_W E I L G).set a (E.1.1 + a, .inl (E.2.2.2.1, N, .inr (.inl (vp_updL (L a) i.toNatClampNeg x)))) = am_W E I (am_u L a i.toNatClampNeg x) G := by
    refine am_W_set (R := G.1) (R' := G.1) (S := G.2.1) (z := G.2.2) ?_ (fun j hj => ⟨rfl, am_u_ne L _ hj, rfl⟩)
    rw [am_e_J hsh, am_u_row]
    rfl
  have hP2 : va_P E.2.1 vwCl (am_W E I (am_u L a i.toNatClampNeg x) G) H1 := hw2 ▸ hP1
  exact kk E p l e R s m args below meth c Z mc ms C hE hf hlo hmc hms H1 locs1 cells slots lr hc hs hl ⟨hz1.trans hH.1, hP2, hS1⟩
theorem ar_aast0 {sc : Option (Nat × (Nat → Int32))} {X : aM} {d k n pc : Nat} {ls st : List Value} {I : aI} {L : aL} {G : aG} {Q : aQ} {a N j b : Nat} {i : Int32} (hd : decode X.2.1 pc = .ok (.aastore, 1)) (ha : a < G.2.2) (hsh : G.2.1 a = (14, N)) (hi : vp_in i N) (hj : i.toNatClampNeg = j) (hb : b < G.2.2) (hbs : (G.2.1 b).1 = 0) (kk : aB sc X d k n (pc + 1) ls st I L (am_u G.1 a j (some b), G.2) Q) : aB sc X d k n pc ls (.ref b :: .int i :: .ref a :: st) I L G Q := by
  intro E p l e R s m args below meth c Z mc ms C hE hf hlo hmc hms H locs cells slots lr hc hs hl hH
  subst hj
  have he := am_W_get (E := E) (I := I) (L := L) (G := G) ha
  rw [am_e_0 hsh] at he
  have hf2 := am_W_get (E := E) (I := I) (L := L) (G := G) hb
  rw [am_e_obj hbs (by decide)] at hf2
  refine am_ast0 C.1 C.2.1 C.2.2.2.2.2.2.2.2.1.1 hH.2.1 am_D hH.2.2 a 4 b 0 he (r := (am_R 0, am_T 0, am_n 0)) rfl hf2 (am_cl 0 (by decide)) hi hd (fun H1 locs1 hz1 hP1 hS1 => ?_)
  have hw2 : (am_W E I L G).set a (E.1.1 + a, .inl (E.2.2.2.2.2.2.1, N, .inr (.inr (.inr (.inr (va_up (fun i => am_rf E (G.1 a i)) i.toNatClampNeg (some (E.1.1 + b)))))))) = am_W E I L (am_u G.1 a i.toNatClampNeg (some b), G.2) := by
    refine am_W_set (R := G.1) (R' := am_u G.1 a i.toNatClampNeg (some b)) (S := G.2.1) (z := G.2.2) ?_ (fun j hj => ⟨rfl, rfl, am_u_ne G.1 _ hj⟩)
    rw [am_e_0 hsh]
    congr 7
    funext q
    by_cases hq : q = i.toNatClampNeg
    · subst hq
      simp [va_up, am_u, am_rf]
    · simp [va_up, am_u, hq]
  have hP2 : va_P E.2.1 vwCl (am_W E I L (am_u G.1 a i.toNatClampNeg (some b), G.2)) H1 := hw2 ▸ hP1
  exact kk E p l e R s m args below meth c Z mc ms C hE hf hlo hmc hms H1 locs1 cells slots lr hc hs hl ⟨hz1.trans hH.1, hP2, hS1⟩
theorem ar_aast1 {sc : Option (Nat × (Nat → Int32))} {X : aM} {d k n pc : Nat} {ls st : List Value} {I : aI} {L : aL} {G : aG} {Q : aQ} {a N j b : Nat} {i : Int32} (hd : decode X.2.1 pc = .ok (.aastore, 1)) (ha : a < G.2.2) (hsh : G.2.1 a = (15, N)) (hi : vp_in i N) (hj : i.toNatClampNeg = j) (hb : b < G.2.2) (hbs : (G.2.1 b).1 = 1) (kk : aB sc X d k n (pc + 1) ls st I L (am_u G.1 a j (some b), G.2) Q) : aB sc X d k n pc ls (.ref b :: .int i :: .ref a :: st) I L G Q := by
  intro E p l e R s m args below meth c Z mc ms C hE hf hlo hmc hms H locs cells slots lr hc hs hl hH
  subst hj
  have he := am_W_get (E := E) (I := I) (L := L) (G := G) ha
  rw [am_e_1 hsh] at he
  have hf2 := am_W_get (E := E) (I := I) (L := L) (G := G) hb
  rw [am_e_obj hbs (by decide)] at hf2
  refine am_ast0 C.1 C.2.1 C.2.2.2.2.2.2.2.2.1.1 hH.2.1 am_D hH.2.2 a 5 b 1 he (r := (am_R 1, am_T 1, am_n 1)) rfl hf2 (am_cl 1 (by decide)) hi hd (fun H1 locs1 hz1 hP1 hS1 => ?_)
  have hw2 : (am_W E I L G).set a (E.1.1 + a, .inl (E.2.2.2.2.2.2.2, N, .inr (.inr (.inr (.inr (va_up (fun i => am_rf E (G.1 a i)) i.toNatClampNeg (some (E.1.1 + b)))))))) = am_W E I L (am_u G.1 a i.toNatClampNeg (some b), G.2) := by
    refine am_W_set (R := G.1) (R' := am_u G.1 a i.toNatClampNeg (some b)) (S := G.2.1) (z := G.2.2) ?_ (fun j hj => ⟨rfl, rfl, am_u_ne G.1 _ hj⟩)
    rw [am_e_1 hsh]
    congr 7
    funext q
    by_cases hq : q = i.toNatClampNeg
    · subst hq
      simp [va_up, am_u, am_rf]
    · simp [va_up, am_u, hq]
  have hP2 : va_P E.2.1 vwCl (am_W E I L (am_u G.1 a i.toNatClampNeg (some b), G.2)) H1 := hw2 ▸ hP1
  exact kk E p l e R s m args below meth c Z mc ms C hE hf hlo hmc hms H1 locs1 cells slots lr hc hs hl ⟨hz1.trans hH.1, hP2, hS1⟩
theorem ar_alenJ {sc : Option (Nat × (Nat → Int32))} {X : aM} {d k n pc : Nat} {ls st : List Value} {I : aI} {L : aL} {G : aG} {Q : aQ} {a N : Nat} (hd : decode X.2.1 pc = .ok (.arraylength, 1)) (ha : a < G.2.2) (hsh : G.2.1 a = (11, N)) (kk : aB sc X d k n (pc + 1) ls (.int (nI N) :: st) I L G Q) : aB sc X d k n pc ls (.ref a :: st) I L G Q := by
  intro E p l e R s m args below meth c Z mc ms C hE hf hlo hmc hms H locs cells slots lr hc hs hl hH
  have he := am_W_get (E := E) (I := I) (L := L) (G := G) ha
  rw [am_e_J hsh] at he
  refine va_alen C.1 C.2.1 C.2.2.2.2.2.2.2.2.1.1 hH.2.1 a 1 he rfl rfl hd ?_
  exact kk E p l e R s m args below meth c Z mc ms C hE hf hlo hmc hms H locs cells slots lr hc hs hl hH
theorem ar_alenI {sc : Option (Nat × (Nat → Int32))} {X : aM} {d k n pc : Nat} {ls st : List Value} {I : aI} {L : aL} {G : aG} {Q : aQ} {a N : Nat} (hd : decode X.2.1 pc = .ok (.arraylength, 1)) (ha : a < G.2.2) (hsh : G.2.1 a = (10, N)) (kk : aB sc X d k n (pc + 1) ls (.int (nI N) :: st) I L G Q) : aB sc X d k n pc ls (.ref a :: st) I L G Q := by
  intro E p l e R s m args below meth c Z mc ms C hE hf hlo hmc hms H locs cells slots lr hc hs hl hH
  have he := am_W_get (E := E) (I := I) (L := L) (G := G) ha
  rw [am_e_I hsh] at he
  refine va_alen C.1 C.2.1 C.2.2.2.2.2.2.2.2.1.1 hH.2.1 a 0 he rfl rfl hd ?_
  exact kk E p l e R s m args below meth c Z mc ms C hE hf hlo hmc hms H locs cells slots lr hc hs hl hH
theorem ar_lowlen {sc : Option (Nat × (Nat → Int32))} {X : aM} {d k n pc : Nat} {ls st : List Value} {I : aI} {L : aL} {G : aG} {Q : aQ} (hd : decode X.2.1 pc = .ok (.arraylength, 1)) (kk : aB sc X d k n (pc + 1) ls (.int 6 :: st) I L G Q) : aB sc X d k n pc ls (.retAddr 1 :: st) I L G Q := by
  intro E p l e R s m args below meth c Z mc ms C hE hf hlo hmc hms H locs cells slots lr hc hs hl hH
  refine va_tlen C.1 C.2.1 C.2.2.2.2.2.2.2.2.1.2.2.1 hH.2.2 (v := 6) rfl hd ?_
  exact kk E p l e R s m args below meth c Z mc ms C hE hf hlo hmc hms H locs cells slots lr hc hs hl hH
theorem ar_lowald {sc : Option (Nat × (Nat → Int32))} {X : aM} {d k n pc : Nat} {ls st : List Value} {I : aI} {L : aL} {G : aG} {Q : aQ} {i : Int32} {j : Nat} (hd : decode X.2.1 pc = .ok (.laload, 1)) (hi : vp_in i 6) (hj : i.toNatClampNeg = j) (kk : aB sc X d k n (pc + 1) ls (.long (am_lowv j) :: st) I L G Q) : aB sc X d k n pc ls (.int i :: .retAddr 1 :: st) I L G Q := by
  intro E p l e R s m args below meth c Z mc ms C hE hf hlo hmc hms H locs cells slots lr hc hs hl hH
  subst hj
  refine va_tl C.1 C.2.1 C.2.2.2.2.2.2.2.2.1.2.2.1 hH.2.2 hi (am_low_eq _) hd ?_
  exact kk E p l e R s m args below meth c Z mc ms C hE hf hlo hmc hms H locs cells slots lr hc hs hl hH
theorem ar_lowget {sc : Option (Nat × (Nat → Int32))} {X : aM} {d k n pc : Nat} {ls st : List Value} {I : aI} {L : aL} {G : aG} {Q : aQ} {idx : Nat} (hd : decode X.2.1 pc = .ok (.getstatic idx, 3)) (hw : Cond.fieldLink X.1.cls idx RX3 "LOW_FACTS" "[J" ∈ am_ws) (kk : aB sc X d k n (pc + 3) ls (.retAddr 1 :: st) I L G Q) : aB sc X d k n pc ls st I L G Q := by
  intro E p l e R s m args below meth c Z mc ms C hE hf hlo hmc hms H locs cells slots lr hc hs hl hH
  refine va_gets C.1 C.2.1 C.2.2.2.2.2.2.2.2.1.2.1 hH.2.2 C.2.2.2.2.2.1 (C.2.2.2.2.2.2.2.1 _ hw) (fun _ h9 => h9) hd ?_
  exact kk E p l e R s m args below meth c Z mc ms C hE hf hlo hmc hms H locs cells slots lr hc hs hl hH
theorem ar_lowgetN {sc : Option (Nat × (Nat → Int32))} {X : aM} {d k n pc : Nat} {ls st : List Value} {I : aI} {L : aL} {G : aG} {Q : aQ} (hd : decode X.2.1 pc = .ok (.getstatic 44, 3)) (hX : X.1.cls = RX0) (kk : aB sc X d k n (pc + 3) ls (.retAddr 1 :: st) I L G Q) : aB sc X d k n pc ls st I L G Q := by
  intro E p l e R s m args below meth c Z mc ms C hE hf hlo hmc hms H locs cells slots lr hc hs hl hH
  refine va_getsN C.1 C.2.1 C.2.2.2.2.2.2.2.2.1.2.1 hH.2.2 C.2.2.2.2.2.1 (own := X.1.cls) (index := 44) (ref := RX3) (host := RX5) (by rw [hX]; exact va_Nw.use rfl C.2.2.2.2.2.2.2.2.1.2.2.2.1.2.1) (fun _ h9 => h9) hd ?_
  exact kk E p l e R s m args below meth c Z mc ms C hE hf hlo hmc hms H locs cells slots lr hc hs hl hH
theorem ar_slen {xl : Nat} {xs : Nat → Int32} {X : aM} {d k n pc : Nat} {ls st : List Value} {I : aI} {L : aL} {G : aG} {Q : aQ} (hd : decode X.2.1 pc = .ok (.arraylength, 1)) (kk : aB (some (xl, xs)) X d k n (pc + 1) ls (.int (nI xl) :: st) I L G Q) : aB (some (xl, xs)) X d k n pc ls (.retAddr 2 :: st) I L G Q := by
  intro E p l e R s m args below meth c Z mc ms C hE hf hlo hmc hms H locs cells slots lr hc hs hl hH
  obtain ⟨hx1, hx2, hx3⟩ : va_X E.1.2.2 xl xs s s.heap ∧ E.1.2.2 < s.heap.size ∧ ¬ am_A E E.1.2.2 := C.2.2.2.2.2.2.2.2.2
  refine va_slen C.1 C.2.1 hx1 hx2 hx3 hH.2.2 hd ?_
  exact kk E p l e R s m args below meth c Z mc ms C hE hf hlo hmc hms H locs cells slots lr hc hs hl hH
theorem ar_sald {xl : Nat} {xs : Nat → Int32} {X : aM} {d k n pc : Nat} {ls st : List Value} {I : aI} {L : aL} {G : aG} {Q : aQ} {i : Int32} {j : Nat} (hd : decode X.2.1 pc = .ok (.iaload, 1)) (hi : vp_in i xl) (hj : i.toNatClampNeg = j) (kk : aB (some (xl, xs)) X d k n (pc + 1) ls (.int (xs j) :: st) I L G Q) : aB (some (xl, xs)) X d k n pc ls (.int i :: .retAddr 2 :: st) I L G Q := by
  intro E p l e R s m args below meth c Z mc ms C hE hf hlo hmc hms H locs cells slots lr hc hs hl hH
  subst hj
  obtain ⟨hx1, hx2, hx3⟩ : va_X E.1.2.2 xl xs s s.heap ∧ E.1.2.2 < s.heap.size ∧ ¬ am_A E E.1.2.2 := C.2.2.2.2.2.2.2.2.2
  refine va_sld C.1 C.2.1 hx1 hx2 hx3 hH.2.2 hi hd ?_
  exact kk E p l e R s m args below meth c Z mc ms C hE hf hlo hmc hms H locs cells slots lr hc hs hl hH
theorem ar_iret {sc : Option (Nat × (Nat → Int32))} {X : aM} {d k n pc : Nat} {ls : List Value} {I : aI} {L : aL} {G : aG} {Q : aQ} {x : Int32} {ty : FieldType} (hr : X.2.2.2 = some ty) (hn : narrow ty (.int x) = .int x) (hd : decode X.2.1 pc = .ok (.ireturn, 1)) (hq : Q I L G (some (.int x))) : aB sc X d k n pc ls [(.int x)] I L G Q := by
  intro E p l e R s m args below meth c Z mc ms C hE hf hlo hmc hms H locs cells slots lr hc hs hl hH
  refine W.widen (k := mc) (n := ms) (Nat.le_trans (Nat.le_add_right _ _) hc) (Nat.le_trans (Nat.le_add_right _ _) hs) ?_
  exact hE I L G (some (.int x)) H locs pc lr hq hH (Or.inl ⟨hd, x, ty, rfl, hr, hn⟩)
theorem ar_lret {sc : Option (Nat × (Nat → Int32))} {X : aM} {d k n pc : Nat} {ls : List Value} {I : aI} {L : aL} {G : aG} {Q : aQ} {x : Int64} (hr : X.2.2.2 = some .long) (hd : decode X.2.1 pc = .ok (.lreturn, 1)) (hq : Q I L G (some (.long x))) : aB sc X d k n pc ls [(.long x)] I L G Q := by
  intro E p l e R s m args below meth c Z mc ms C hE hf hlo hmc hms H locs cells slots lr hc hs hl hH
  refine W.widen (k := mc) (n := ms) (Nat.le_trans (Nat.le_add_right _ _) hc) (Nat.le_trans (Nat.le_add_right _ _) hs) ?_
  exact hE I L G (some (.long x)) H locs pc lr hq hH (Or.inr (Or.inl ⟨hd, hr, x, rfl⟩))
theorem ar_aret {sc : Option (Nat × (Nat → Int32))} {X : aM} {d k n pc : Nat} {ls : List Value} {I : aI} {L : aL} {G : aG} {Q : aQ} {x : Nat} {CN : String} (hr : X.2.2.2 = some (.object CN)) (hd : decode X.2.1 pc = .ok (.areturn, 1)) (hq : Q I L G (some (.ref x))) : aB sc X d k n pc ls [(.ref x)] I L G Q := by
  intro E p l e R s m args below meth c Z mc ms C hE hf hlo hmc hms H locs cells slots lr hc hs hl hH
  refine W.widen (k := mc) (n := ms) (Nat.le_trans (Nat.le_add_right _ _) hc) (Nat.le_trans (Nat.le_add_right _ _) hs) ?_
  exact hE I L G (some (.ref x)) H locs pc lr hq hH (Or.inr (Or.inr (Or.inl ⟨hd, ⟨CN, hr⟩, x, rfl⟩)))
theorem ar_vret {sc : Option (Nat × (Nat → Int32))} {X : aM} {d k n pc : Nat} {ls : List Value} {I : aI} {L : aL} {G : aG} {Q : aQ} (hd : decode X.2.1 pc = .ok (.return_, 1)) (hr : X.2.2.2 = none) (hq : Q I L G none) : aB sc X d k n pc ls [] I L G Q := by
  intro E p l e R s m args below meth c Z mc ms C hE hf hlo hmc hms H locs cells slots lr hc hs hl hH
  refine W.widen (k := mc) (n := ms) (Nat.le_trans (Nat.le_add_right _ _) hc) (Nat.le_trans (Nat.le_add_right _ _) hs) ?_
  exact hE I L G none H locs pc lr hq hH (Or.inr (Or.inr (Or.inr ⟨hd, hr, rfl⟩)))
end
section
theorem am_W_push {E : aE} {I : aI} {L : aL} {G : aG} {q : Nat × Nat} : am_W E I L (G.1, va_up G.2.1 G.2.2 q, G.2.2 + 1) = am_W E I L G ++ [(E.1.1 + G.2.2, am_e E (I G.2.2) (L G.2.2) (G.1 G.2.2) q)] := by
  apply List.ext_getElem?
  intro j
  by_cases h1 : j < G.2.2
  · rw [List.getElem?_append_left (by rw [am_W_len]; exact h1), am_W_get h1, am_W_get (G := (G.1, va_up G.2.1 G.2.2 q, G.2.2 + 1)) (Nat.lt_succ_of_lt h1)]
    have : va_up G.2.1 G.2.2 q j = G.2.1 j := by simp [va_up, Nat.ne_of_lt h1]
    show some (_, am_e E (I j) (L j) (G.1 j) (va_up G.2.1 G.2.2 q j)) = _
    rw [this]
  · rw [List.getElem?_append_right (by rw [am_W_len]; omega), am_W_len]
    by_cases h2 : j = G.2.2
    · subst h2
      rw [am_W_get (G := (G.1, va_up G.2.1 G.2.2 q, G.2.2 + 1)) (Nat.lt_succ_self _), Nat.sub_self]
      have : va_up G.2.1 G.2.2 q G.2.2 = q := by simp [va_up]
      show some (_, am_e E (I G.2.2) (L G.2.2) (G.1 G.2.2) (va_up G.2.1 G.2.2 q G.2.2)) = _
      rw [this]
      rfl
    · rw [List.getElem?_eq_none (by rw [am_W_len]; show G.2.2 + 1 ≤ j; omega), List.getElem?_eq_none (by simp; omega)]
theorem am_P_push {E : aE} {I : aI} {L : aL} {G : aG} {q : Nat × Nat} {H H1 : Heap} (hP : va_P E.2.1 vwCl (am_W E I L G) H) (hs : H.size = E.1.1 + G.2.2) (ho : ∀ x, x < H.size → H1[x]? = H[x]?)
    (hn : va_at E.2.1 vwCl (E.1.1 + G.2.2, am_e E (I G.2.2) (L G.2.2) (G.1 G.2.2) q) H1) : va_P E.2.1 vwCl (am_W E I L (G.1, va_up G.2.1 G.2.2 q, G.2.2 + 1)) H1 := by
  rw [am_W_push]
  refine (hP.kept fun k x hx => ho x.1 ((hP k x hx).lt)).app (fun k x hx => ?_)
  have hz : k < 1 := (List.getElem?_eq_some_iff.mp hx).1
  rw [show k = 0 by omega] at hx
  cases hx
  exact hn
theorem am_S_push {A : Nat → Prop} {H0 H H1 : Heap} {locs : List Loc} (hS : va_S A H0 H locs) (hz : H.size ≤ H1.size) (ho : ∀ x, x < H.size → H1[x]? = H[x]?) : va_S A H0 H1 locs :=
  ⟨Nat.le_trans hS.1 hz, fun x h1 h2 => (ho x (Nat.lt_of_lt_of_le h1 hS.1)).trans (hS.2.1 x h1 h2), hS.2.2⟩
theorem am_def {E : aE} : ∀ ci, ci < 7 → ∀ j, j < am_n ci → defaultValue (am_ty ci j) = vp_V (am_fs E ci (fun _ => 0) (fun _ => none)) j := by
  intro ci hci j hj
  unfold vp_V
  rw [List.getD_eq_getElem?_getD, am_fs_get hj]
  show _ = am_f E ci j 0 none
  have key : ∀ ci, ci < 7 → ∀ j, j < am_n ci → (am_isR (am_ty ci j) = true ∧ defaultValue (am_ty ci j) = .null) ∨ (am_isR (am_ty ci j) = false ∧ defaultValue (am_ty ci j) = .int 0) := by decide +kernel
  rcases key ci hci j hj with ⟨h1, h2⟩ | ⟨h1, h2⟩
  · rw [h2]; unfold am_f; rw [h1]; rfl
  · rw [h2]; unfold am_f; rw [h1]; rfl
theorem ar_new {sc : Option (Nat × (Nat → Int32))} {X : aM} {d k n pc : Nat} {ls st : List Value} {I : aI} {L : aL} {G : aG} {Q : aQ} {idx ci : Nat} {k2 n2 : Nat} (hd : decode X.2.1 pc = .ok (.new idx, 3)) (hcl : Cond.classLink X.1.cls idx (am_R ci) ∈ am_ws) (hci : ci < 7) (hins : Cond.instantiable (am_R ci) (am_n ci) ∈ am_ws) (hini : Cond.initialized (am_R ci) ∈ am_ws) (h0 : ∀ j, I G.2.2 j = 0) (r0 : ∀ j, G.1 G.2.2 j = none) (hk : k2 + 1 ≤ k) (hn : n2 + am_n ci ≤ n) (kk : aB sc X d k2 n2 (pc + 3) ls (.ref G.2.2 :: st) I L (G.1, va_up G.2.1 G.2.2 (ci, 0), G.2.2 + 1) Q) : aB sc X d k n pc ls st I L G Q := by
  intro E p l e R s m args below meth c Z mc ms C hE hf hlo hmc hms H locs cells slots lr hc hs hl hH
  have hKn := C.2.2.2.2.2.2.2.2.1.1.1 ci _ (am_cl ci hci)
  refine W.newcK C.1 C.2.1 C.2.2.2.2.2.1 (C.2.2.2.2.2.2.2.1 _ hcl) (C.2.2.2.2.2.2.2.1 _ hins) (C.2.2.2.2.2.2.2.1 _ hini) rfl hd (by omega) (by omega) hKn.2.1 hH.1 fun H1 kC hkC e1 z1 o1 => ?_
  have o2 : ∀ x, x < H.size → H1[x]? = H[x]? := fun x hx => o1 x (by rw [← hH.1]; exact hx)
  have hP1 : va_P E.2.1 vwCl (am_W E I L (G.1, va_up G.2.1 G.2.2 (ci, 0), G.2.2 + 1)) H1 := by
    refine am_P_push hH.2.1 hH.1 o2 ?_
    rw [am_e_obj (q := (ci, 0)) rfl hci]
    refine ⟨_, am_cl ci hci, (u_born (am_ty ci) C.2.2.2.2.2.2.2.1 (am_in hci) hKn hkC e1 (am_tyok ci hci)).to fun j hj => ?_⟩
    rw [am_def (E := E) ci hci j hj, show I G.2.2 = fun _ => 0 from funext h0, show G.1 G.2.2 = fun _ => none from funext r0]
  exact kk E p l e R s m args below meth c Z mc ms C hE hf hlo hmc hms H1 locs (cells + 1) (slots + am_n ci) lr (by omega) (by omega) hl ⟨by rw [z1]; rfl, hP1, am_S_push hH.2.2 (by rw [z1, hH.1]; omega) o2⟩
theorem ar_newaI {sc : Option (Nat × (Nat → Int32))} {X : aM} {d k n pc : Nat} {ls st : List Value} {I : aI} {L : aL} {G : aG} {Q : aQ} {x : Int32} {N : Nat} {k2 n2 : Nat} (hd : decode X.2.1 pc = .ok (.newarray .int, 2)) (hw : Cond.arrayClass .int ∈ am_ws) (hx : ¬ x < 0) (hN : x.toNatClampNeg = N) (hby : N ≤ 100000) (h0 : ∀ j, I G.2.2 j = 0) (hk : k2 + 1 ≤ k) (hn : n2 + N ≤ n) (kk : aB sc X d k2 n2 (pc + 2) ls (.ref G.2.2 :: st) I L (G.1, va_up G.2.1 G.2.2 (10, N), G.2.2 + 1) Q) : aB sc X d k n pc ls (.int x :: st) I L G Q := by
  intro E p l e R s m args below meth c Z mc ms C hE hf hlo hmc hms H locs cells slots lr hc hs hl hH
  refine va_newaK (atype := .int) C.1 C.2.1 (C.2.2.2.2.2.2.2.1 _ hw) rfl hd rfl hx hN (by show N * _ ≤ _; first | exact Nat.le_trans (Nat.mul_le_mul_right _ hby) (by decide)) (by omega) (by omega) hH.1 fun H1 cA e1 z1 o1 hAr hNm => ?_
  have hcA : cA = E.2.2.1 := by
    have h2 := (C.2.2.2.2.2.2.2.2.1.1.2 0 _ rfl).2
    exact Option.some.inj (hNm.symm.trans h2)
  subst hcA
  have o2 : ∀ x, x < H.size → H1[x]? = H[x]? := fun x hx => o1 x (by rw [← hH.1]; exact hx)
  have hP1 : va_P E.2.1 vwCl (am_W E I L (G.1, va_up G.2.1 G.2.2 (10, N), G.2.2 + 1)) H1 := by
    refine am_P_push hH.2.1 hH.1 o2 ?_
    rw [am_e_I rfl]
    show H1[E.1.1 + G.2.2]? = some (vp_cell _ _)
    rw [e1, vp_cell_i, show I G.2.2 = fun _ => 0 from funext h0]
    rfl
  exact kk E p l e R s m args below meth c Z mc ms C hE hf hlo hmc hms H1 locs (cells + 1) (slots + N) lr (by omega) (by omega) hl ⟨by rw [z1]; rfl, hP1, am_S_push hH.2.2 (by rw [z1, hH.1]; omega) o2⟩
theorem ar_newaJ {sc : Option (Nat × (Nat → Int32))} {X : aM} {d k n pc : Nat} {ls st : List Value} {I : aI} {L : aL} {G : aG} {Q : aQ} {x : Int32} {N : Nat} {k2 n2 : Nat} (hd : decode X.2.1 pc = .ok (.newarray .long, 2)) (hw : Cond.arrayClass .long ∈ am_ws) (hx : ¬ x < 0) (hN : x.toNatClampNeg = N) (hby : N ≤ 100000) (h0 : ∀ j, L G.2.2 j = 0) (hk : k2 + 1 ≤ k) (hn : n2 + N ≤ n) (kk : aB sc X d k2 n2 (pc + 2) ls (.ref G.2.2 :: st) I L (G.1, va_up G.2.1 G.2.2 (11, N), G.2.2 + 1) Q) : aB sc X d k n pc ls (.int x :: st) I L G Q := by
  intro E p l e R s m args below meth c Z mc ms C hE hf hlo hmc hms H locs cells slots lr hc hs hl hH
  refine va_newaK (atype := .long) C.1 C.2.1 (C.2.2.2.2.2.2.2.1 _ hw) rfl hd rfl hx hN (by show N * _ ≤ _; first | exact Nat.le_trans (Nat.mul_le_mul_right _ hby) (by decide)) (by omega) (by omega) hH.1 fun H1 cA e1 z1 o1 hAr hNm => ?_
  have hcA : cA = E.2.2.2.1 := by
    have h2 := (C.2.2.2.2.2.2.2.2.1.1.2 1 _ rfl).2
    exact Option.some.inj (hNm.symm.trans h2)
  subst hcA
  have o2 : ∀ x, x < H.size → H1[x]? = H[x]? := fun x hx => o1 x (by rw [← hH.1]; exact hx)
  have hP1 : va_P E.2.1 vwCl (am_W E I L (G.1, va_up G.2.1 G.2.2 (11, N), G.2.2 + 1)) H1 := by
    refine am_P_push hH.2.1 hH.1 o2 ?_
    rw [am_e_J rfl]
    show H1[E.1.1 + G.2.2]? = some (vp_cell _ _)
    rw [e1, vp_cell_l, show L G.2.2 = fun _ => 0 from funext h0]
    rfl
  exact kk E p l e R s m args below meth c Z mc ms C hE hf hlo hmc hms H1 locs (cells + 1) (slots + N) lr (by omega) (by omega) hl ⟨by rw [z1]; rfl, hP1, am_S_push hH.2.2 (by rw [z1, hH.1]; omega) o2⟩
theorem ar_newaB {sc : Option (Nat × (Nat → Int32))} {X : aM} {d k n pc : Nat} {ls st : List Value} {I : aI} {L : aL} {G : aG} {Q : aQ} {x : Int32} {N : Nat} {k2 n2 : Nat} (hd : decode X.2.1 pc = .ok (.newarray .byte, 2)) (hw : Cond.arrayClass .byte ∈ am_ws) (hx : ¬ x < 0) (hN : x.toNatClampNeg = N) (hby : N ≤ 100000) (h0 : ∀ j, I G.2.2 j = 0) (hk : k2 + 1 ≤ k) (hn : n2 + N ≤ n) (kk : aB sc X d k2 n2 (pc + 2) ls (.ref G.2.2 :: st) I L (G.1, va_up G.2.1 G.2.2 (12, N), G.2.2 + 1) Q) : aB sc X d k n pc ls (.int x :: st) I L G Q := by
  intro E p l e R s m args below meth c Z mc ms C hE hf hlo hmc hms H locs cells slots lr hc hs hl hH
  refine va_newaK (atype := .byte) C.1 C.2.1 (C.2.2.2.2.2.2.2.1 _ hw) rfl hd rfl hx hN (by show N * _ ≤ _; first | exact Nat.le_trans (Nat.mul_le_mul_right _ hby) (by decide)) (by omega) (by omega) hH.1 fun H1 cA e1 z1 o1 hAr hNm => ?_
  have hcA : cA = E.2.2.2.2.1 := by
    have h2 := (C.2.2.2.2.2.2.2.2.1.1.2 2 _ rfl).2
    exact Option.some.inj (hNm.symm.trans h2)
  subst hcA
  have o2 : ∀ x, x < H.size → H1[x]? = H[x]? := fun x hx => o1 x (by rw [← hH.1]; exact hx)
  have hP1 : va_P E.2.1 vwCl (am_W E I L (G.1, va_up G.2.1 G.2.2 (12, N), G.2.2 + 1)) H1 := by
    refine am_P_push hH.2.1 hH.1 o2 ?_
    rw [am_e_B rfl]
    show H1[E.1.1 + G.2.2]? = some (vp_cell _ _)
    rw [e1, vp_cell_i, show I G.2.2 = fun _ => 0 from funext h0]
    rfl
  exact kk E p l e R s m args below meth c Z mc ms C hE hf hlo hmc hms H1 locs (cells + 1) (slots + N) lr (by omega) (by omega) hl ⟨by rw [z1]; rfl, hP1, am_S_push hH.2.2 (by rw [z1, hH.1]; omega) o2⟩
theorem ar_newaZ {sc : Option (Nat × (Nat → Int32))} {X : aM} {d k n pc : Nat} {ls st : List Value} {I : aI} {L : aL} {G : aG} {Q : aQ} {x : Int32} {N : Nat} {k2 n2 : Nat} (hd : decode X.2.1 pc = .ok (.newarray .boolean, 2)) (hw : Cond.arrayClass .boolean ∈ am_ws) (hx : ¬ x < 0) (hN : x.toNatClampNeg = N) (hby : N ≤ 100000) (h0 : ∀ j, I G.2.2 j = 0) (hk : k2 + 1 ≤ k) (hn : n2 + N ≤ n) (kk : aB sc X d k2 n2 (pc + 2) ls (.ref G.2.2 :: st) I L (G.1, va_up G.2.1 G.2.2 (13, N), G.2.2 + 1) Q) : aB sc X d k n pc ls (.int x :: st) I L G Q := by
  intro E p l e R s m args below meth c Z mc ms C hE hf hlo hmc hms H locs cells slots lr hc hs hl hH
  refine va_newaK (atype := .boolean) C.1 C.2.1 (C.2.2.2.2.2.2.2.1 _ hw) rfl hd rfl hx hN (by show N * _ ≤ _; first | exact Nat.le_trans (Nat.mul_le_mul_right _ hby) (by decide)) (by omega) (by omega) hH.1 fun H1 cA e1 z1 o1 hAr hNm => ?_
  have hcA : cA = E.2.2.2.2.2.1 := by
    have h2 := (C.2.2.2.2.2.2.2.2.1.1.2 3 _ rfl).2
    exact Option.some.inj (hNm.symm.trans h2)
  subst hcA
  have o2 : ∀ x, x < H.size → H1[x]? = H[x]? := fun x hx => o1 x (by rw [← hH.1]; exact hx)
  have hP1 : va_P E.2.1 vwCl (am_W E I L (G.1, va_up G.2.1 G.2.2 (13, N), G.2.2 + 1)) H1 := by
    refine am_P_push hH.2.1 hH.1 o2 ?_
    rw [am_e_Z rfl]
    show H1[E.1.1 + G.2.2]? = some (vp_cell _ _)
    rw [e1, vp_cell_i, show I G.2.2 = fun _ => 0 from funext h0]
    rfl
  exact kk E p l e R s m args below meth c Z mc ms C hE hf hlo hmc hms H1 locs (cells + 1) (slots + N) lr (by omega) (by omega) hl ⟨by rw [z1]; rfl, hP1, am_S_push hH.2.2 (by rw [z1, hH.1]; omega) o2⟩
theorem ar_newq0 {sc : Option (Nat × (Nat → Int32))} {X : aM} {d k n pc : Nat} {ls st : List Value} {I : aI} {L : aL} {G : aG} {Q : aQ} {x : Int32} {idx N : Nat} {k2 n2 : Nat} (hd : decode X.2.1 pc = .ok (.anewarray idx, 3)) (hcl : Cond.classLink X.1.cls idx RX0 ∈ am_ws) (hx : ¬ x < 0) (hN : x.toNatClampNeg = N) (hby : N ≤ 100000) (r0 : ∀ j, G.1 G.2.2 j = none) (hk : k2 + 1 ≤ k) (hn : n2 + N ≤ n) (kk : aB sc X d k2 n2 (pc + 3) ls (.ref G.2.2 :: st) I L (G.1, va_up G.2.1 G.2.2 (14, N), G.2.2 + 1) Q) : aB sc X d k n pc ls (.int x :: st) I L G Q := by
  intro E p l e R s m args below meth c Z mc ms C hE hf hlo hmc hms H locs cells slots lr hc hs hl hH
  subst hN
  refine W.anew C.1 C.2.1 C.2.2.2.2.2.1 (C.2.2.2.2.2.2.2.1 _ hcl) (va_AO.use C.2.2.2.2.2.2.2.2.1.2.2.2.1.2.2.1) rfl hd rfl hx (by omega) (by omega) (by omega) fun cA kA comp f1 f2 f3 f4 => ?_
  have hcA : cA = E.2.2.2.2.2.2.1 := by
    obtain ⟨kA2, comp2, g1, g2, g3, g4⟩ := (C.2.2.2.2.2.2.2.2.1.1.2 4 _ rfl).2
    exact Option.some.inj (f1.symm.trans g4)
  subst hcA
  generalize hH1 : H.push ({ cls := E.2.2.2.2.2.2.1, slots := Array.replicate x.toNatClampNeg .null, vm := .none } : Cell) = H1
  have z1 : H1.size = H.size + 1 := by rw [← hH1, Array.size_push]
  have e1 : H1[H.size]? = some (arrV E.2.2.2.2.2.2.1 x.toNatClampNeg (fun _ => .null)) := by rw [← hH1, Array.getElem?_push_size, ← arrV_new]
  have o2 : ∀ q : Nat, q < H.size → H1[q]? = H[q]? := fun q hq => by rw [← hH1, Array.getElem?_push, if_neg (Nat.ne_of_lt hq)]
  have hP1 : va_P E.2.1 vwCl (am_W E I L (G.1, va_up G.2.1 G.2.2 (14, x.toNatClampNeg), G.2.2 + 1)) H1 := by
    refine am_P_push hH.2.1 hH.1 o2 ?_
    rw [am_e_0 rfl]
    show H1[E.1.1 + G.2.2]? = some (vp_cell _ _)
    rw [← hH.1, e1, vp_cell_q, show G.1 G.2.2 = fun _ => none from funext r0]
    rfl
  have e3 : Value.ref H.size = am_v E (.ref G.2.2) := by rw [hH.1]; rfl
  refine W.eq (g2 := F0 m (pc + 3) lr (.ref (E.1.1 + G.2.2) :: st.map (am_v E))) (by rw [hH.1]) ?_
  exact kk E p l e R s m args below meth c Z mc ms C hE hf hlo hmc hms H1 locs (cells + 1) (slots + x.toNatClampNeg) lr (by omega) (by omega) hl ⟨by rw [z1, hH.1]; rfl, hP1, am_S_push hH.2.2 (by rw [z1]; omega) o2⟩
theorem ar_newq1 {sc : Option (Nat × (Nat → Int32))} {X : aM} {d k n pc : Nat} {ls st : List Value} {I : aI} {L : aL} {G : aG} {Q : aQ} {x : Int32} {idx N : Nat} {k2 n2 : Nat} (hd : decode X.2.1 pc = .ok (.anewarray idx, 3)) (hcl : Cond.classLink X.1.cls idx RX1 ∈ am_ws) (hx : ¬ x < 0) (hN : x.toNatClampNeg = N) (hby : N ≤ 100000) (r0 : ∀ j, G.1 G.2.2 j = none) (hk : k2 + 1 ≤ k) (hn : n2 + N ≤ n) (kk : aB sc X d k2 n2 (pc + 3) ls (.ref G.2.2 :: st) I L (G.1, va_up G.2.1 G.2.2 (15, N), G.2.2 + 1) Q) : aB sc X d k n pc ls (.int x :: st) I L G Q := by
  intro E p l e R s m args below meth c Z mc ms C hE hf hlo hmc hms H locs cells slots lr hc hs hl hH
  subst hN
  refine W.anew C.1 C.2.1 C.2.2.2.2.2.1 (C.2.2.2.2.2.2.2.1 _ hcl) (va_AO.use C.2.2.2.2.2.2.2.2.1.2.2.2.1.2.2.2) rfl hd rfl hx (by omega) (by omega) (by omega) fun cA kA comp f1 f2 f3 f4 => ?_
  have hcA : cA = E.2.2.2.2.2.2.2 := by
    obtain ⟨kA2, comp2, g1, g2, g3, g4⟩ := (C.2.2.2.2.2.2.2.2.1.1.2 5 _ rfl).2
    exact Option.some.inj (f1.symm.trans g4)
  subst hcA
  generalize hH1 : H.push ({ cls := E.2.2.2.2.2.2.2, slots := Array.replicate x.toNatClampNeg .null, vm := .none } : Cell) = H1
  have z1 : H1.size = H.size + 1 := by rw [← hH1, Array.size_push]
  have e1 : H1[H.size]? = some (arrV E.2.2.2.2.2.2.2 x.toNatClampNeg (fun _ => .null)) := by rw [← hH1, Array.getElem?_push_size, ← arrV_new]
  have o2 : ∀ q : Nat, q < H.size → H1[q]? = H[q]? := fun q hq => by rw [← hH1, Array.getElem?_push, if_neg (Nat.ne_of_lt hq)]
  have hP1 : va_P E.2.1 vwCl (am_W E I L (G.1, va_up G.2.1 G.2.2 (15, x.toNatClampNeg), G.2.2 + 1)) H1 := by
    refine am_P_push hH.2.1 hH.1 o2 ?_
    rw [am_e_1 rfl]
    show H1[E.1.1 + G.2.2]? = some (vp_cell _ _)
    rw [← hH.1, e1, vp_cell_q, show G.1 G.2.2 = fun _ => none from funext r0]
    rfl
  have e3 : Value.ref H.size = am_v E (.ref G.2.2) := by rw [hH.1]; rfl
  refine W.eq (g2 := F0 m (pc + 3) lr (.ref (E.1.1 + G.2.2) :: st.map (am_v E))) (by rw [hH.1]) ?_
  exact kk E p l e R s m args below meth c Z mc ms C hE hf hlo hmc hms H1 locs (cells + 1) (slots + x.toNatClampNeg) lr (by omega) (by omega) hl ⟨by rw [z1, hH.1]; rfl, hP1, am_S_push hH.2.2 (by rw [z1]; omega) o2⟩
theorem am_oI : Cond.instanceMethod objectInit ∈ am_ws := by decide +kernel
theorem am_oC : Cond.code objectInit ⟨#[0xb1]⟩ 1 none ∈ am_ws := by decide +kernel
theorem ar_objInit {sc : Option (Nat × (Nat → Int32))} {X : aM} {d k n pc : Nat} {ls st : List Value} {I : aI} {L : aL} {G : aG} {Q : aQ} {idx a : Nat} (hd : decode X.2.1 pc = .ok (.invokespecial idx, 3)) (hw : Cond.methodLink X.1.cls idx objectInit ∈ am_ws) (hdd : 1 ≤ d) (hcat : (st.map fun v => v.category).sum ≤ 8) (kk : aB sc X d k n (pc + 3) ls st I L G Q) : aB sc X d k n pc ls (.ref a :: st) I L G Q := by
  intro E p l e R s m args below meth c Z mc ms C hE hf hlo hmc hms H locs cells slots lr hc hs hl hH
  refine W.objInit C.1 C.2.1 C.2.2.2.2.2.1 (C.2.2.2.2.2.2.2.1 _ hw) (C.2.2.2.2.2.2.2.1 _ am_oI) (C.2.2.2.2.2.2.2.1 _ am_oC) (g := F0 m pc lr ((.ref a :: st).map (am_v E))) rfl (by rw [C.2.2.1]; exact hl.1) rfl hd (Nat.le_trans hdd hf) ?_ ?_
  · show 2 * 0 + ((st.map (am_v E)).map fun v => v.category).sum + 12 ≤ _
    rw [am_cats]
    omega
  exact kk E p l e R s m args below meth c Z mc ms C hE hf hlo hmc hms H locs cells slots lr hc hs hl hH
/-! ===== contracts ===== -/
def am_Qc (E : aE) (Q : aQ) : Array Value → State → Outcome → State → Prop := fun _ st oc t => ∃ (I : aI) (L : aL) (G : aG) (v : Option Value), Q I L G v ∧ oc = .returned (v.map (am_v E)) ∧ t.heap.size = E.1.1 + G.2.2 ∧ va_P E.2.1 vwCl (am_W E I L G) t.heap ∧ va_F (am_A E) st t
def am_Pc (E : aE) (vs : List Value) (I : aI) (L : aL) (G : aG) : Array Value → State → Prop := va_Pc (vs.map (am_v E)) (fun U => am_C E U ∧ U.heap.size = E.1.1 + G.2.2 ∧ va_P E.2.1 vwCl (am_W E I L G) U.heap)
def aC (X : aM) (d k n : Nat) (vs : List Value) (I : aI) (L : aL) (G : aG) (Q : aQ) : Prop :=
  ∀ (E : aE) (l : Launch), Met l X.1 (Cond.code X.1 X.2.1 X.2.2.1 X.2.2.2 :: am_ws) ({ frames := d, cells := k, slots := n, locals := 64 * d } : Room) (am_Pc E vs I L G) (am_Qc E Q) k n (am_A E)
/-- the locals at a method's entry -/
def am_en (vs : List Value) : List Value := vs.flatMap fun v => if v.category = 2 then [v, .retAddr 0] else [v]
theorem am_en_args (E : aE) (vs : List Value) : ∀ (i j : Nat) (v : Value), (am_en vs)[j]? = some v → v ≠ .retAddr 0 → (i + j, am_v E v) ∈ lv_args i (vs.map (am_v E)) := by
  induction vs with
  | nil => intro i j v h; simp [am_en] at h
  | cons w ws ih =>
    intro i j v h hv
    have hcat := am_cat E w
    have e1 : am_en (w :: ws) = (if w.category = 2 then [w, .retAddr 0] else [w]) ++ am_en ws := by simp [am_en]
    rw [e1] at h
    by_cases hc : w.category = 2
    · rw [if_pos hc] at h
      match j, h with
      | 0, h =>
        simp at h
        subst h
        simp [lv_args]
      | 1, h =>
        simp at h
        exact absurd h.symm hv
      | j + 2, h =>
        have h2 : (am_en ws)[j]? = some v := by simpa using h
        have := ih (i + 2) j v h2 hv
        simp only [List.map_cons, lv_args, hcat, hc, if_true]
        exact List.mem_cons_of_mem _ (by rw [show i + (j + 2) = i + 2 + j by omega]; exact this)
    · rw [if_neg hc] at h
      match j, h with
      | 0, h =>
        simp at h
        subst h
        simp [lv_args]
      | j + 1, h =>
        have h2 : (am_en ws)[j]? = some v := by simpa using h
        have := ih (i + 1) j v h2 hv
        simp only [List.map_cons, lv_args, hcat, hc, if_false]
        exact List.mem_cons_of_mem _ (by rw [show i + (j + 1) = i + 1 + j by omega]; exact this)
theorem am_sl_len (E : aE) (vs : List Value) : (lg_sl (vs.map (am_v E))).length = (am_en vs).length := by
  induction vs with
  | nil => rfl
  | cons w ws ih =>
    have hcat := am_cat E w
    have e1 : am_en (w :: ws) = (if w.category = 2 then [w, .retAddr 0] else [w]) ++ am_en ws := by simp [am_en]
    have e2 : lg_sl ((w :: ws).map (am_v E)) = (if (am_v E w).category = 2 then [.val (am_v E w), .second] else [.val (am_v E w)]) ++ lg_sl (ws.map (am_v E)) := by simp [lg_sl]
    rw [e1, e2, hcat, List.length_append, List.length_append, ih]
    by_cases hc : w.category = 2
    · rw [if_pos hc, if_pos hc]; rfl
    · rw [if_neg hc, if_neg hc]; rfl
set_option maxHeartbeats 4000000 in
/-- a contract out of a walk of the body -/
theorem aC_of {X : aM} {d k n : Nat} {vs ls : List Value} {I : aI} {L : aL} {G : aG} {Q : aQ} (hpl : plainFor X.1 = true) (hls : ls = am_en vs ++ List.replicate (X.2.2.1 - (am_en vs).length) (.retAddr 0)) (hlen : (am_en vs).length ≤ X.2.2.1)
    (h : aB none X d k n 0 ls [] I L G Q) : aC X d k n vs I L G Q := by
  intro E l
  refine MetFree.of_bodySF (code := X.2.1) (maxLocals := X.2.2.1) (ret := X.2.2.2) hpl ?_ ?_
  · intro args s m hp hn
    obtain ⟨meth, c, h1, h2, h3, h4, h5, h6, -, -⟩ := Cond.code_spec hn (atoms_spec (ws := Cond.code X.1 X.2.1 X.2.2.1 X.2.2.2 :: am_ws) hp _ List.mem_cons_self)
    exact ⟨meth, c, h1, h2, h3, h4, h5, h6⟩
  · intro p e s m args below meth c s₁ B hml hP _
    obtain ⟨rfl, hC, hz, hPP⟩ := hP
    have hts := atoms_spec (ws := Cond.code X.1 X.2.1 X.2.2.1 X.2.2.2 :: am_ws) B.pre
    have hh0 : s₁.heap = s.heap := by rw [B.state]; rfl
    have hAt : am_At E none X p s m (vs.map (am_v E)).toArray meth c := ⟨B.exec, B.bytes, hml, B.returns, B.notSynchronized, findClass_of_methodNamed B.named, fun hi => by rw [← hi]; exact (name_of_methodNamed B.named B.method).1, fun w hw => hts w (List.mem_cons_of_mem _ hw), hC, trivial⟩
    have hl : am_l E ((lg_sl (vs.map (am_v E)) ++ List.replicate (X.2.2.1 - (lg_sl (vs.map (am_v E))).length) Slot.unset).toArray) X.2.2.1 ls := by
      have h9 := lv_entry (vs.map (am_v E)) (n := X.2.2.1) (by rw [am_sl_len]; exact hlen)
      refine ⟨h9.1, h9.2.1, by rw [hls]; simp; omega, fun i v hi hv => ?_⟩
      rw [hls, List.getElem?_append] at hi
      split at hi
      · have := am_en_args E vs 0 i v hi hv
        rw [Nat.zero_add] at this
        exact h9.2.2 _ this
      · rw [List.getElem?_replicate] at hi
        split at hi
        · cases hi
          exact absurd rfl hv
        · cases hi
    have hEnd : am_End E X Q p l e ({ frames := d, cells := k, slots := n, locals := 64 * d } : Room) s m (vs.map (am_v E)).toArray below meth c (MQ below (am_Qc E Q) (vs.map (am_v E)).toArray s k n (am_A E)) k n := by
      intro I1 L1 G1 v H locs pc lr hq hH hR
      have hlk := B.notSynchronized
      have hQ : ∀ t : State, t.heap = H → s.WarmedH t.vm → am_Qc E Q (vs.map (am_v E)).toArray s (.returned (v.map (am_v E))) t := fun t ht hW => ⟨I1, L1, G1, v, hq, rfl, by rw [ht]; exact hH.1, by rw [ht]; exact hH.2.1, by rw [va_F, ht]; exact ⟨hH.2.2.1, hH.2.2.2.1⟩⟩
      rcases hR with ⟨hd, x, ty, rfl, hr, hn⟩ | ⟨hd, hr, x, rfl⟩ | ⟨hd, ⟨CN, hr⟩, a, rfl⟩ | ⟨hd, hr, rfl⟩
      · exact W.zret (v := x) (ty := ty) B.exec B.bytes (B.returns.trans hr) hn hQ hH.2.2.2.2 hd hlk
      · exact W.lret (v := x) B.exec B.bytes (B.returns.trans hr) hQ hH.2.2.2.2 hd hlk
      · exact W.aret (v := .ref (E.1.1 + a)) (rt := .object CN) B.exec B.bytes (B.returns.trans hr) (Or.inl ⟨CN, rfl⟩) (Or.inr ⟨_, rfl⟩) hQ hH.2.2.2.2 hd hlk
      · exact W.vret B.exec B.bytes (B.returns.trans hr) hQ hH.2.2.2.2 hd hlk
    have K := h E p l e ({ frames := d, cells := k, slots := n, locals := 64 * d } : Room) s m (vs.map (am_v E)).toArray below meth c _ k n hAt hEnd (Nat.le_refl _) (Nat.le_refl _) (Nat.le_refl _) (Nat.le_refl _) s.heap [] 0 0 _ (by omega) (by omega) hl ⟨hz, hPP, va_S.rf⟩
    obtain ⟨t, a1, o, b1, b2, b3⟩ := K s₁ hh0 (Stand.of_body B)
    rw [lg_entry_eq]
    exact ⟨t, o, a1, b1, b2, ⟨b3.1, b3.2⟩⟩
end
section
theorem am_good {Y : aM} (h : Cond.code Y.1 Y.2.1 Y.2.2.1 Y.2.2.2 ∈ am_ws) : GoodIn am_ws (Cond.code Y.1 Y.2.1 Y.2.2.1 Y.2.2.2 :: am_ws) := by
  intro w hw
  have hm : w ∈ am_ws := by
    rcases List.mem_cons.mp hw with rfl | hw
    · exact h
    · exact hw
  exact ⟨hm, good_of_word (List.mem_filter.mp hm).2⟩
theorem am_C_calling {E : aE} {U : State} {g : JFrame} {mk : MethodId} {a : Array Value} (h : am_C E U) : am_C E (U.calling g mk a) := by
  obtain ⟨h1, h2, h3, ⟨n1, n2, n3, n4⟩, h5⟩ := h
  refine ⟨va_K.moved (u := U) (U := U.calling g mk a) (Vm.Alike.refl U.vm) h1, va_Z.moved (u := U) (U := U.calling g mk a) (Vm.Alike.refl U.vm) h2, va_T.moved (u := U) (U := U.calling g mk a) (Vm.Alike.refl U.vm) h3, ⟨fun q hq => va_Nw.same (u := U) rfl rfl (n1 q hq), va_Nw.same (u := U) rfl rfl n2, va_AO.moved (u := U) (U := U.calling g mk a) (Vm.Alike.refl U.vm) n3, va_AO.moved (u := U) (U := U.calling g mk a) (Vm.Alike.refl U.vm) n4⟩, h5⟩
theorem am_C_warm {E : aE} {s U : State} (h : am_C E s) (hW : s.WarmedH U.vm) (hq : ∀ a : Nat, a < s.heap.size → ¬ am_A E a → U.heap[a]? = s.heap[a]?) (hz : E.1.1 ≤ U.heap.size) : am_C E U := by
  obtain ⟨h1, h2, h3, ⟨n1, n2, n3, n4⟩, h5⟩ := h
  exact ⟨h1.moved hW.alike, (h2.kept hq).moved hW.alike, (h3.kept hq).moved hW.alike, ⟨fun q hq => va_Nw.warmM hW (n1 q hq), va_Nw.warmF hW n2, va_AO.moved hW.alike n3, va_AO.moved hW.alike n4⟩, hz⟩
theorem am_pre0 {E : aE} {s : State} {H : Heap} {locs : List Loc} {I : aI} {L : aL} {G : aG} {vs : List Value} (C : am_C E s) (hH : am_H E I L G s H locs) : FrameBlind (am_Pc E vs I L G) ∧ ∀ U : State, U.heap = H → s.WarmedH U.vm → am_Pc E vs I L G (vs.map (am_v E)).toArray U := by
  refine ⟨fun a U g mk ⟨h1, h2, h3, h4⟩ => ⟨h1, am_C_calling h2, h3, h4⟩, fun U hU hW => ⟨rfl, ?_, ?_, ?_⟩⟩
  · exact am_C_warm C hW (fun a h1 h2 => by rw [hU]; exact hH.2.2.2.1 a h1 h2) (by rw [hU, hH.1]; exact Nat.le_add_right _ _)
  · rw [hU]; exact hH.1
  · rw [hU]; exact hH.2.1
/-- facts of a callee -/
def am_MC (Y : aM) (np : Nat) : Prop := Cond.code Y.1 Y.2.1 Y.2.2.1 Y.2.2.2 ∈ am_ws ∧ Cond.initialized Y.1.cls ∈ am_ws ∧ (Y.1.cls ≠ "java/lang/invoke/MethodHandle" ∧ Y.1.cls ≠ "java/lang/invoke/VarHandle" ∧ (parseMethodDescriptor Y.1.desc).map (fun d => d.parameters.length) = some np) ∧ Y.2.2.1 ≤ 40
def am_MV (Y : aM) (np ci : Nat) : Prop := am_MC Y np ∧ Cond.instanceMethod Y.1 ∈ am_ws ∧ Cond.selects Y.1.cls Y.1 Y.1 ∈ am_ws ∧ Y.1.cls = am_R ci ∧ ci < 7
def am_MS (Y : aM) (np : Nat) : Prop := am_MC Y np ∧ Cond.static Y.1 ∈ am_ws
def am_MI (Y : aM) (np : Nat) : Prop := am_MC Y np ∧ Y.1.name = "<init>" ∧ Cond.instanceMethod Y.1 ∈ am_ws
set_option maxHeartbeats 1000000 in
theorem am_cont {sc : Option (Nat × (Nat → Int32))} {X : aM} {d k2 n2 pc : Nat} {ls st : List Value} {st0 : List Value} {I : aI} {L : aL} {G : aG} {Q Q1 : aQ} {E : aE} {p : Program} {l : Launch} {e : Env} {R : Room} {s : State} {m : MethodId} {args a1 : Array Value} {below : List Frame} {meth : Method} {c : Code} {Z : State → Prop} {mc ms k1 n1 : Nat} {H : Heap} {locs : List Loc} {cells slots : Nat} {lr : Array Slot}
    (hr : va_Run p l e R s m args below meth c H locs cells slots k1 n1 (F0 m pc lr st0) (st.map (am_v E)) (am_Qc E Q1 a1) (am_A E))
    (C : am_At E sc X p s m args meth c) (hE : am_End E X Q p l e R s m args below meth c Z mc ms) (hf : d ≤ R.frames) (hlo : 64 * d ≤ R.locals) (hmc : mc ≤ R.cells) (hms : ms ≤ R.slots) (hc : cells + k1 + k2 ≤ mc) (hs : slots + n1 + n2 ≤ ms) (hl : am_l E lr X.2.2.1 ls) (hH : am_H E I L G s H locs)
    (kk : ∀ (I1 : aI) (L1 : aL) (G1 : aG) (v : Option Value), Q1 I1 L1 G1 v → aB sc X d k2 n2 (pc + 3) ls (v.toList ++ st) I1 L1 G1 Q) : W p l e R s m args below meth c H locs cells slots Z (F0 m pc lr st0) := by
  intro T hT X0
  obtain ⟨v, st₀, t, T', Lc, h0, X', hL, e1, e2, ⟨I1, L1, G1, v1, hq, hv, hz, hP, hF1, hF2⟩, stp⟩ := hr T hT X0
  have hv' : v = v1.map (am_v E) := by injection hv
  subst hv'
  rw [h0] at hF1 hF2
  have hS' : va_S (am_A E) s.heap T'.heap (locs ++ Lc) := by
    refine ⟨Nat.le_trans hH.2.2.1 (by rw [e1]; exact hF1), fun q h1 h2 => ?_, fun q hq => ?_⟩
    · rw [e1, hF2 q (Nat.lt_of_lt_of_le h1 hH.2.2.1) h2]
      exact hH.2.2.2.1 q h1 h2
    · rcases List.mem_append.mp hq with h | h
      · exact hH.2.2.2.2 q h
      · exact hL q h
  obtain ⟨t2, x1, x2⟩ := kk I1 L1 G1 v1 hq E p l e R s m args below meth c Z mc ms C hE hf hlo hmc hms T'.heap (locs ++ Lc) (cells + k1) (slots + n1) lr hc hs hl ⟨by rw [e1]; exact hz, by rw [e1]; exact hP, hS'⟩ T' rfl X'
  refine ⟨t2, stp t2 ?_, x2⟩
  have hfr : (F0 m (pc + 3) lr ((v1.toList ++ st).map (am_v E))) = { (F0 m pc lr st0) with pc := (F0 m pc lr st0).pc + 3, stack := (v1.map (am_v E)).toList ++ st.map (am_v E) } := by
    cases v1 <;> rfl
  rw [← hfr]
  exact x1
set_option maxHeartbeats 1000000 in
theorem ar_callV {sc : Option (Nat × (Nat → Int32))} {X : aM} {d k n pc : Nat} {ls st : List Value} {I : aI} {L : aL} {G : aG} {Q : aQ} {k1 n1 k2 n2 d1 : Nat} {Q1 : aQ} {Y : aM} {vs : List Value} {idx : Nat} {b : Nat} {stk : List Value} (hd : decode X.2.1 pc = .ok (.invokevirtual idx, 3)) (hlk : Cond.methodLink X.1.cls idx Y.1 ∈ am_ws) {ci : Nat} (hb : b < G.2.2) (hbs : (G.2.1 b).1 = ci) (hY : am_MV Y vs.length ci) (hstk : vs.reverse ++ .ref b :: st = stk) (hC : aC Y d1 k1 n1 (.ref b :: vs) I L G Q1) (hd1 : d1 + 1 ≤ d) (hcat : (st.map fun v => v.category).sum ≤ 8) (hk : k1 + k2 ≤ k) (hn : n1 + n2 ≤ n) (kk : ∀ (I1 : aI) (L1 : aL) (G1 : aG) (v : Option Value), Q1 I1 L1 G1 v → aB sc X d k2 n2 (pc + 3) ls (v.toList ++ st) I1 L1 G1 Q) : aB sc X d k n pc ls stk I L G Q := by
  intro E p l e R s m args below meth c Z mc ms C hE hf hlo hmc hms H locs cells slots lr hc hs hl hH
  have hroom : d1 + 1 ≤ R.frames ∧ 8 + (Y.2.2.1 + 11) + 64 * d1 ≤ R.locals := ⟨Nat.le_trans hd1 hf, by have := hY.1.2.2.2; omega⟩

  have hst2 : stk.map (am_v E) = (vs.map (am_v E)).reverse ++ .ref (E.1.1 + b) :: st.map (am_v E) := by rw [← hstk]; simp [am_v]
  have hW8 : 2 * (F0 m pc lr (stk.map (am_v E))).monitorRoom + ((st.map (am_v E)).map fun v => v.category).sum ≤ 8 := by
    rw [am_cats]; show 2 * 0 + _ ≤ 8; omega
  have he := am_W_get (E := E) (I := I) (L := L) (G := G) hb
  rw [am_e_obj hbs hY.2.2.2.2] at he
  have hrecv := va_recv C.2.2.2.2.2.2.2.2.1.1 hH.2.1 (am_cl ci hY.2.2.2.2) he
  have h7 := C.2.2.2.2.2.2.2.1 _ hY.2.2.1
  rw [hY.2.2.2.1] at h7
  refine am_cont (va_runV (C := am_R ci) (g := F0 m pc lr (stk.map (am_v E))) (As := vs.map (am_v E)) (b := E.1.1 + b) (rest := st.map (am_v E)) ⟨C.1, C.2.1, C.2.2.1, C.2.2.2.2.2.1, C.2.2.2.2.2.2.2.1⟩ (hC E l) ⟨(callB_of (mc := k1) (ms := n1) _ C.2.2.2.2.2.2.2.1 (am_good hY.1.1) rfl rfl rfl (C.2.2.2.2.2.2.2.1 _ hY.1.2.1) (C.2.2.2.2.2.2.2.1 _ hlk) hY.1.2.2.1 hroom), C.2.2.2.2.2.2.2.1 _ hY.2.1, h7⟩ ⟨(am_pre0 (vs := .ref b :: vs) C.2.2.2.2.2.2.2.2.1 hH).1, hrecv, (am_pre0 (vs := .ref b :: vs) C.2.2.2.2.2.2.2.2.1 hH).2⟩ rfl (by simp) hl.1 hst2 hW8 hd ⟨by omega, by omega⟩) C hE hf hlo hmc hms (k2 := k2) (n2 := n2) (by omega) (by omega) hl hH kk
set_option maxHeartbeats 1000000 in
theorem ar_callS {sc : Option (Nat × (Nat → Int32))} {X : aM} {d k n pc : Nat} {ls st : List Value} {I : aI} {L : aL} {G : aG} {Q : aQ} {k1 n1 k2 n2 d1 : Nat} {Q1 : aQ} {Y : aM} {vs : List Value} {idx : Nat} {stk : List Value} (hd : decode X.2.1 pc = .ok (.invokestatic idx, 3)) (hlk : Cond.methodLink X.1.cls idx Y.1 ∈ am_ws) (hY : am_MS Y vs.length) (hstk : vs.reverse ++ st = stk) (hC : aC Y d1 k1 n1 vs I L G Q1) (hd1 : d1 + 1 ≤ d) (hcat : (st.map fun v => v.category).sum ≤ 8) (hk : k1 + k2 ≤ k) (hn : n1 + n2 ≤ n) (kk : ∀ (I1 : aI) (L1 : aL) (G1 : aG) (v : Option Value), Q1 I1 L1 G1 v → aB sc X d k2 n2 (pc + 3) ls (v.toList ++ st) I1 L1 G1 Q) : aB sc X d k n pc ls stk I L G Q := by
  intro E p l e R s m args below meth c Z mc ms C hE hf hlo hmc hms H locs cells slots lr hc hs hl hH
  have hroom : d1 + 1 ≤ R.frames ∧ 8 + (Y.2.2.1 + 11) + 64 * d1 ≤ R.locals := ⟨Nat.le_trans hd1 hf, by have := hY.1.2.2.2; omega⟩

  have hst2 : stk.map (am_v E) = (vs.map (am_v E)).reverse ++ st.map (am_v E) := by rw [← hstk]; simp [am_v]
  have hW8 : 2 * (F0 m pc lr (stk.map (am_v E))).monitorRoom + ((st.map (am_v E)).map fun v => v.category).sum ≤ 8 := by
    rw [am_cats]; show 2 * 0 + _ ≤ 8; omega
  refine am_cont (va_runS (g := F0 m pc lr (stk.map (am_v E))) (As := vs.map (am_v E)) (rest := st.map (am_v E)) ⟨C.1, C.2.1, C.2.2.1, C.2.2.2.2.2.1, C.2.2.2.2.2.2.2.1⟩ (hC E l) ⟨(callB_of (mc := k1) (ms := n1) _ C.2.2.2.2.2.2.2.1 (am_good hY.1.1) rfl rfl rfl (C.2.2.2.2.2.2.2.1 _ hY.1.2.1) (C.2.2.2.2.2.2.2.1 _ hlk) hY.1.2.2.1 hroom), C.2.2.2.2.2.2.2.1 _ hY.2⟩ (am_pre0 (vs := vs) C.2.2.2.2.2.2.2.2.1 hH) rfl (by simp) hl.1 hst2 hW8 hd ⟨by omega, by omega⟩) C hE hf hlo hmc hms (k2 := k2) (n2 := n2) (by omega) (by omega) hl hH kk
set_option maxHeartbeats 1000000 in
theorem ar_callI {sc : Option (Nat × (Nat → Int32))} {X : aM} {d k n pc : Nat} {ls st : List Value} {I : aI} {L : aL} {G : aG} {Q : aQ} {k1 n1 k2 n2 d1 : Nat} {Q1 : aQ} {Y : aM} {vs : List Value} {idx : Nat} {b : Nat} {stk : List Value} (hd : decode X.2.1 pc = .ok (.invokespecial idx, 3)) (hlk : Cond.methodLink X.1.cls idx Y.1 ∈ am_ws) (hvoid : Y.2.2.2 = none) (hY : am_MI Y vs.length) (hstk : vs.reverse ++ .ref b :: st = stk) (hC : aC Y d1 k1 n1 (.ref b :: vs) I L G Q1) (hd1 : d1 + 1 ≤ d) (hcat : (st.map fun v => v.category).sum ≤ 8) (hk : k1 + k2 ≤ k) (hn : n1 + n2 ≤ n) (kk : ∀ (I1 : aI) (L1 : aL) (G1 : aG) (v : Option Value), Q1 I1 L1 G1 v → aB sc X d k2 n2 (pc + 3) ls (v.toList ++ st) I1 L1 G1 Q) : aB sc X d k n pc ls stk I L G Q := by
  intro E p l e R s m args below meth c Z mc ms C hE hf hlo hmc hms H locs cells slots lr hc hs hl hH
  have hroom : d1 + 1 ≤ R.frames ∧ 8 + (Y.2.2.1 + 11) + 64 * d1 ≤ R.locals := ⟨Nat.le_trans hd1 hf, by have := hY.1.2.2.2; omega⟩
  obtain ⟨y1, c1, mL1, rt1⟩ := Y
  have hvoid : rt1 = none := hvoid
  subst hvoid

  have hst2 : stk.map (am_v E) = (vs.map (am_v E)).reverse ++ .ref (E.1.1 + b) :: st.map (am_v E) := by rw [← hstk]; simp [am_v]
  have hW8 : 2 * (F0 m pc lr (stk.map (am_v E))).monitorRoom + ((st.map (am_v E)).map fun v => v.category).sum ≤ 8 := by
    rw [am_cats]; show 2 * 0 + _ ≤ 8; omega
  refine am_cont (va_runI (g := F0 m pc lr (stk.map (am_v E))) (As := vs.map (am_v E)) (b := E.1.1 + b) (rest := st.map (am_v E)) ⟨C.1, C.2.1, C.2.2.1, C.2.2.2.2.2.1, C.2.2.2.2.2.2.2.1⟩ (hC E l) ⟨(callB_of (mc := k1) (ms := n1) _ C.2.2.2.2.2.2.2.1 (am_good hY.1.1) rfl rfl rfl (C.2.2.2.2.2.2.2.1 _ hY.1.2.1) (C.2.2.2.2.2.2.2.1 _ hlk) hY.1.2.2.1 hroom), hY.2.1, C.2.2.2.2.2.2.2.1 _ hY.2.2⟩ (am_pre0 (vs := .ref b :: vs) C.2.2.2.2.2.2.2.2.1 hH) rfl (by simp) hl.1 hst2 hW8 hd ⟨by omega, by omega⟩) C hE hf hlo hmc hms (k2 := k2) (n2 := n2) (by omega) (by omega) hl hH kk
set_option maxHeartbeats 1000000 in
theorem ar_callSN {sc : Option (Nat × (Nat → Int32))} {X : aM} {d k n pc : Nat} {ls st : List Value} {I : aI} {L : aL} {G : aG} {Q : aQ} {k1 n1 k2 n2 d1 : Nat} {Q1 : aQ} {Y : aM} {vs : List Value} {idx : Nat} {stk : List Value} (hd : decode X.2.1 pc = .ok (.invokestatic idx, 3)) (hlk : (X.1.cls, idx, Y.1, RX5) ∈ am_nM) (hY : am_MS Y vs.length) (hstk : vs.reverse ++ st = stk) (hC : aC Y d1 k1 n1 vs I L G Q1) (hd1 : d1 + 1 ≤ d) (hcat : (st.map fun v => v.category).sum ≤ 8) (hk : k1 + k2 ≤ k) (hn : n1 + n2 ≤ n) (kk : ∀ (I1 : aI) (L1 : aL) (G1 : aG) (v : Option Value), Q1 I1 L1 G1 v → aB sc X d k2 n2 (pc + 3) ls (v.toList ++ st) I1 L1 G1 Q) : aB sc X d k n pc ls stk I L G Q := by
  intro E p l e R s m args below meth c Z mc ms C hE hf hlo hmc hms H locs cells slots lr hc hs hl hH
  have hroom : d1 + 1 ≤ R.frames ∧ 8 + (Y.2.2.1 + 11) + 64 * d1 ≤ R.locals := ⟨Nat.le_trans hd1 hf, by have := hY.1.2.2.2; omega⟩

  have hst2 : stk.map (am_v E) = (vs.map (am_v E)).reverse ++ st.map (am_v E) := by rw [← hstk]; simp [am_v]
  have hW8 : 2 * (F0 m pc lr (stk.map (am_v E))).monitorRoom + ((st.map (am_v E)).map fun v => v.category).sum ≤ 8 := by
    rw [am_cats]; show 2 * 0 + _ ≤ 8; omega
  refine am_cont (va_runSN (host := RX5) (g := F0 m pc lr (stk.map (am_v E))) (As := vs.map (am_v E)) (rest := st.map (am_v E)) ⟨C.1, C.2.1, C.2.2.1, C.2.2.2.2.2.1, C.2.2.2.2.2.2.2.1⟩ (hC E l) ⟨(va_cnB (mc := k1) (ms := n1) (host := RX5) _ C.2.2.2.2.2.2.2.1 (am_good hY.1.1) rfl rfl rfl (C.2.2.2.2.2.2.2.2.1.2.2.2.1.1 _ hlk) (C.2.2.2.2.2.2.2.1 _ hY.1.2.1) hY.1.2.2.1 hroom), C.2.2.2.2.2.2.2.1 _ hY.2, trivial⟩ (am_pre0 (vs := vs) C.2.2.2.2.2.2.2.2.1 hH) rfl (by simp) hl.1 hst2 hW8 hd ⟨by omega, by omega⟩) C hE hf hlo hmc hms (k2 := k2) (n2 := n2) (by omega) (by omega) hl hH kk
set_option maxHeartbeats 1000000 in
theorem ar_callIN {sc : Option (Nat × (Nat → Int32))} {X : aM} {d k n pc : Nat} {ls st : List Value} {I : aI} {L : aL} {G : aG} {Q : aQ} {k1 n1 k2 n2 d1 : Nat} {Q1 : aQ} {Y : aM} {vs : List Value} {idx : Nat} {b : Nat} {stk : List Value} (hd : decode X.2.1 pc = .ok (.invokespecial idx, 3)) (hlk : (X.1.cls, idx, Y.1, RX5) ∈ am_nM) (hvoid : Y.2.2.2 = none) (hY : am_MI Y vs.length) (hstk : vs.reverse ++ .ref b :: st = stk) (hC : aC Y d1 k1 n1 (.ref b :: vs) I L G Q1) (hd1 : d1 + 1 ≤ d) (hcat : (st.map fun v => v.category).sum ≤ 8) (hk : k1 + k2 ≤ k) (hn : n1 + n2 ≤ n) (kk : ∀ (I1 : aI) (L1 : aL) (G1 : aG) (v : Option Value), Q1 I1 L1 G1 v → aB sc X d k2 n2 (pc + 3) ls (v.toList ++ st) I1 L1 G1 Q) : aB sc X d k n pc ls stk I L G Q := by
  intro E p l e R s m args below meth c Z mc ms C hE hf hlo hmc hms H locs cells slots lr hc hs hl hH
  have hroom : d1 + 1 ≤ R.frames ∧ 8 + (Y.2.2.1 + 11) + 64 * d1 ≤ R.locals := ⟨Nat.le_trans hd1 hf, by have := hY.1.2.2.2; omega⟩
  obtain ⟨y1, c1, mL1, rt1⟩ := Y
  have hvoid : rt1 = none := hvoid
  subst hvoid

  have hst2 : stk.map (am_v E) = (vs.map (am_v E)).reverse ++ .ref (E.1.1 + b) :: st.map (am_v E) := by rw [← hstk]; simp [am_v]
  have hW8 : 2 * (F0 m pc lr (stk.map (am_v E))).monitorRoom + ((st.map (am_v E)).map fun v => v.category).sum ≤ 8 := by
    rw [am_cats]; show 2 * 0 + _ ≤ 8; omega
  refine am_cont (va_runIN (host := RX5) (g := F0 m pc lr (stk.map (am_v E))) (As := vs.map (am_v E)) (b := E.1.1 + b) (rest := st.map (am_v E)) ⟨C.1, C.2.1, C.2.2.1, C.2.2.2.2.2.1, C.2.2.2.2.2.2.2.1⟩ (hC E l) ⟨(va_cnB (mc := k1) (ms := n1) (host := RX5) _ C.2.2.2.2.2.2.2.1 (am_good hY.1.1) rfl rfl rfl (C.2.2.2.2.2.2.2.2.1.2.2.2.1.1 _ hlk) (C.2.2.2.2.2.2.2.1 _ hY.1.2.1) hY.1.2.2.1 hroom), hY.2.1, C.2.2.2.2.2.2.2.1 _ hY.2.2⟩ (am_pre0 (vs := .ref b :: vs) C.2.2.2.2.2.2.2.2.1 hH) rfl (by simp) hl.1 hst2 hW8 hd ⟨by omega, by omega⟩) C hE hf hlo hmc hms (k2 := k2) (n2 := n2) (by omega) (by omega) hl hH kk
end
section
/-! THE CLAIM OUT OF ONE WALK OF THE LAW'S BODY. Your part is whole_start (and what it stands on); all else here is the same for every law, but numbers. -/
def R_law : String := "TaleBenchLaw"
def lw_P (b : Addr) (xs : List Int32) (args : Array Value) (s : State) : Prop := args = #[.ref b] ∧ s.IntsAt b xs ∧ xs.length ≤ 2560 ∧ (Jvm.Cond.and given_1 narrow_1).before args s = true
def lw_Q (_ : Array Value) (s : State) (o : Outcome) (t : State) : Prop := o = .returned (some (.int 1)) ∧ Framed s o t [] 600000 7302250
def lw_Z (below : List Frame) (a : Array Value) (s : State) : State → Prop := fun t => ∃ o, t.status = .running ∧ Ended t below o ∧ lw_Q a s o t
/-- the law's own end, with 1 on the stack, nothing written that was there before, its room as the claim has it -/
theorem lw_ret {p : Program} {l : Launch} {e : Env} {s : State} {m : MethodId} {below : List Frame} {meth : Method} {c : Code} {b : Nat} (hx : p.tables.exec = Jvm.exec) (hb : c.code = code) (hr : meth.sig.returnType = ret) (hlocks : meth.locks = false) {pc : Nat} {H : Heap} {ls : Array Slot} (hdg : decode code pc = .ok (.ireturn, 1)) : W p l e room_1 s m #[Value.ref b] below meth c H [] 600000 7302250 (lw_Z below #[Value.ref b] s) (F0 m pc ls [.int 1]) := by
  intro T hT X
  obtain ⟨fs, hret, hrun, hended, hW, hframe⟩ := X.leave (v := some (.int 1)) (hlocks := hlocks) (fun h => by rw [hr] at h; cases h)
  have hmeth' : T.vm.method? m = some meth := X.method'
  refine ⟨T.setFrames fs, ?_, .returned (some (.int 1)), hrun, hended, rfl, ⟨_, rfl⟩, hW, hframe⟩
  jvm_step X.here [X.here.top, hx, hb, hdg, hmeth', hr, ret, narrow_b1]
  (try refine ⟨rfl, ?_⟩); (try refine ⟨rfl, ?_⟩)
  first | (intro acts; rw [hret _ acts rfl rfl rfl]) | rw [hret _ _ rfl rfl rfl]
  exact Steps.refl _
/-- what holds at the law's entry: the machine, the code, the tables' words (any of lw_tbl by 'hts w (by decide +kernel)'), the script of L ints xs at the cell b, what the Statement gives of the start (any of its parts by flat_of_before) -/
def lw_At (p : Program) (s : State) (m : MethodId) (meth : Method) (c : Code) (b L : Nat) (xs : Nat → Int32) : Prop :=
  p.tables.exec = Jvm.exec ∧ c.code = code ∧ meth.sig.returnType = ret ∧ c.maxLocals = 4 ∧ s.vm.findClass R_law = some m.cls ∧ (∀ w ∈ lw_tbl, w.before #[Value.ref b] s = true) ∧ va_X b L xs s s.heap ∧ b < s.heap.size ∧ meth.locks = false ∧ (Jvm.Cond.and given_1 narrow_1).before #[Value.ref b] s = true

abbrev mL_law : aM := (yL_law, cL_law, 4, some .boolean)
def am_G0 : aG := ((fun _ _ => none), (fun _ => (0, 0)), 0)
theorem am_low_el : ∀ j, j < 6 → Cond.eq (.elem (.static "TaleBench$Tape" "LOW_FACTS" "[J") (.int (Int32.ofNat j))) (.long (am_lowv j)) ∈ flatC (Jvm.Cond.and given_1 narrow_1) := by decide +kernel
theorem am_arrT {s : State} {args : Array Value} {ty : FieldType} {cA : ClassId} {kA : Class} {comp : ClassId} (h1 : s.vm.classes[cA]? = some kA) (h2 : kA.kind = .array comp ty) : ArrOfT s cA ty := fun n z => ⟨fun k h => (by cases h), kA, h1, comp, h2⟩
theorem am_nin : ∀ q ∈ am_nM, Cond.methodLinkNest q.1 q.2.1 q.2.2.1 q.2.2.2 ∈ lw_tbl := by decide +kernel
theorem am_insin : ∀ ci, ci < 7 → Cond.instantiable (am_R ci) (am_n ci) ∈ am_ws := by decide +kernel
set_option maxHeartbeats 4000000 in
set_option maxRecDepth 100000 in
theorem am_whole {p : Program} {e : Env} {s : State} {m : MethodId} {below : List Frame} {meth : Method} {c : Code} (l : Launch) {b L : Nat} {xs : Nat → Int32} (C0 : lw_At p s m meth c b L xs)
    (hB : aB (some (L, xs)) mL_law 1000 5000 500000 0 [.retAddr 2, .retAddr 0, .retAddr 0, .retAddr 0] [] (fun _ _ => 0) (fun _ _ => 0) am_G0 (fun _ _ _ v => v = some (.int 1))) :
    W p l e room_1 s m #[Value.ref b] below meth c s.heap [] 0 0 (lw_Z below #[Value.ref b] s) (entryFrame m ([Value.ref b] : List Value).toArray 4) := by
  obtain ⟨hx, hb, hr, hml, hown, hts, hX, hbl, hlocks, hgv⟩ := C0
  have hts2 : ∀ w ∈ am_ws, w.before #[Value.ref b] s = true := fun w hw => hts w (List.mem_filter.mp hw).1
  have hflat := flat_of_before _ hgv
  -- classes
  have hcls : ∀ ci, ∃ (cC : ClassId) (iS : Nat → Nat), ci < 7 → u_Kn s (am_R ci) (am_T ci) (am_n ci) cC iS := by
    intro ci
    by_cases h : ci < 7
    · obtain ⟨cC, iS, hK⟩ := u_known (C := am_R ci) (T := am_T ci) (N := am_n ci) (n := am_n ci) hts2 (am_in h) (hts2 _ (am_insin ci h))
      exact ⟨cC, iS, fun _ => hK⟩
    · exact ⟨0, fun _ => 0, fun h2 => absurd h2 h⟩
  obtain ⟨dC, hdC⟩ := Classical.axiomOfChoice hcls
  obtain ⟨dI, hdI⟩ := Classical.axiomOfChoice hdC
  -- arrays
  obtain ⟨cI, kI, compI, aI1, aI2, aI3⟩ := Cond.arrayClass_spec (hts2 (.arrayClass .int) (by decide +kernel))
  obtain ⟨cJ, kJ, compJ, aJ1, aJ2, aJ3⟩ := Cond.arrayClass_spec (hts2 (.arrayClass .long) (by decide +kernel))
  obtain ⟨cB, kB, compB, aB1, aB2, aB3⟩ := Cond.arrayClass_spec (hts2 (.arrayClass .byte) (by decide +kernel))
  obtain ⟨cZ, kZ, compZ, aZ1, aZ2, aZ3⟩ := Cond.arrayClass_spec (hts2 (.arrayClass .boolean) (by decide +kernel))
  have hO0 := hts (.arrayOver (.object RX0)) (by decide +kernel)
  have hO1 := hts (.arrayOver (.object RX1)) (by decide +kernel)
  obtain ⟨comp0, c0, k0, a01, -, a02, a03, a04⟩ := Cond.arrayOver_spec hO0
  obtain ⟨comp1, c1, k1, a11, -, a12, a13, a14⟩ := Cond.arrayOver_spec hO1
  -- LOW_FACTS
  have hnA : ∀ a : Nat, a < s.heap.size → ¬ (fun q : Nat => s.heap.size ≤ q) a := fun a h1 h2 => absurd h1 (Nat.not_lt.mpr h2)
  have hlen : (Term.length (.static "TaleBench$Tape" "LOW_FACTS" "[J")).eval #[Value.ref b] s none [] s = some (.int (Int32.ofNat 6)) := va_eqt (hflat _ (by decide +kernel))
  obtain ⟨t0, ht0, hT0⟩ := va_Tof (tm := .static "TaleBench$Tape" "LOW_FACTS" "[J") (ty := .long) (N := 6) (f := am_low) (A := fun q : Nat => s.heap.size ≤ q) (by decide) (hflat (.arrayOf (.static "TaleBench$Tape" "LOW_FACTS" "[J") .long) (by decide +kernel)) hlen (fun j hj => by rw [am_low_eq]; exact va_eqtl (hflat _ (am_low_el j hj))) hnA
  have hZ0 : va_Z RX3 "LOW_FACTS" "[J" (.ref t0) (fun q : Nat => s.heap.size ≤ q) s s.heap := va_Zof (hts (.laysStatic RX3 "LOW_FACTS" "[J") (by decide +kernel)) (hts (.initialized RX3) (by decide +kernel)) ht0 hnA
  let E : aE := ((s.heap.size, t0, b), (dC, dI), (cI, cJ, cB, cZ, c0, c1))
  have hC : am_C E s := by
    refine ⟨⟨fun k q hk => ?_, fun k q hk => ?_⟩, hZ0, hT0, ⟨fun q hq => va_Nw.of rfl (hts _ (am_nin q hq)), va_Nw.of rfl (hts _ (by decide +kernel)), va_AO.of hO0, va_AO.of hO1⟩, Nat.le_refl _⟩
    · have hk7 : k < 7 := (List.getElem?_eq_some_iff.mp hk).1
      rw [am_cl k hk7] at hk
      cases hk
      exact hdI k hk7
    · have hk6 : k < 6 := (List.getElem?_eq_some_iff.mp hk).1
      match k, hk, hk6 with
      | 0, hk, _ => cases hk; exact ⟨am_arrT (args := #[]) aI2 aI3, aI1⟩
      | 1, hk, _ => cases hk; exact ⟨am_arrT (args := #[]) aJ2 aJ3, aJ1⟩
      | 2, hk, _ => cases hk; exact ⟨am_arrT (args := #[]) aB2 aB3, aB1⟩
      | 3, hk, _ => cases hk; exact ⟨am_arrT (args := #[]) aZ2 aZ3, aZ1⟩
      | 4, hk, _ => cases hk; exact ⟨am_arrT (args := #[]) a02 a03, ⟨k0, comp0, a02, a03, a01, a04⟩⟩
      | 5, hk, _ => cases hk; exact ⟨am_arrT (args := #[]) a12 a13, ⟨k1, comp1, a12, a13, a11, a14⟩⟩
      | k + 6, _, h => exact absurd h (by omega)
  have hAt : am_At E (some (L, xs)) mL_law p s m #[Value.ref b] meth c := ⟨hx, hb, hml, hr, hlocks, hown, fun h => absurd h (by decide +kernel), hts2, hC, hX, hbl, hnA b hbl⟩
  have hEnd : am_End E mL_law (fun _ _ _ v => v = some (.int 1)) p l e room_1 s m #[Value.ref b] below meth c (lw_Z below #[Value.ref b] s) 600000 7302250 := by
    intro I1 L1 G1 v H locs pc lr hq hH hR
    subst hq
    refine va_forget (fun q hq => hH.2.2.2.2 q hq) ?_
    rcases hR with ⟨hd, -⟩ | ⟨-, hr9, -⟩ | ⟨-, ⟨CN, hr9⟩, -⟩ | ⟨-, hr9, -⟩
    · exact lw_ret hx hb hr hlocks hd
    · cases hr9
    · cases hr9
    · cases hr9
  rw [lg_entry_eq]
  have hl : am_l E ((lg_sl [Value.ref b] ++ List.replicate (4 - (lg_sl [Value.ref b]).length) Slot.unset).toArray) 4 [.retAddr 2, .retAddr 0, .retAddr 0, .retAddr 0] := by
    have h9 := lv_entry [Value.ref b] (n := 4) (Nat.le_of_ble_eq_true rfl)
    refine ⟨h9.1, h9.2.1, rfl, fun i v hi hv => ?_⟩
    match i, hi with
    | 0, hi => cases hi; exact h9.2.2 (0, .ref b) (by simp [lv_args])
    | 1, hi => cases hi; exact absurd rfl hv
    | 2, hi => cases hi; exact absurd rfl hv
    | 3, hi => cases hi; exact absurd rfl hv
    | i + 4, hi => simp at hi
  have hH : am_H E (fun _ _ => 0) (fun _ _ => 0) am_G0 s s.heap [] := ⟨rfl, fun k q h => by simp [am_W, am_G0] at h, va_S.rf⟩
  exact hB E p l e room_1 s m #[Value.ref b] below meth c _ 600000 7302250 hAt hEnd (by decide) (by decide) (by decide) (by decide) s.heap [] 0 0 _ (by decide) (by decide) hl hH
end
section
/-! ===== the two objects as they lie behind their constructors ===== -/
def cf_S (a : Nat) : Nat × Nat :=
  if a < 4 then (if a = 0 then (5, 0) else if a = 1 then (3, 0) else if a = 2 then (12, 100) else (11, 4))
  else if a < 856 then (if (a - 4) % 284 = 0 then (2, 0) else if (a - 4) % 284 = 1 then (14, 141) else if a % 2 = 0 then (0, 0) else (11, 4))
  else if a = 856 then (4, 0) else if a = 857 then (10, 5120) else if a = 858 then (10, 5120) else if a = 859 then (10, 5120) else if a = 860 then (10, 30720) else if a = 861 then (10, 5120) else if a = 862 then (10, 30720) else if a = 863 then (10, 5120) else if a = 864 then (10, 5120) else if a = 865 then (13, 5120) else if a = 866 then (11, 5120) else if a = 867 then (11, 5120)
  else if a = 868 then (10, 20) else if a = 869 then (10, 20) else if a = 870 then (15, 4) else if a = 871 then (10, 30)
  else if a < 880 then (if a % 2 = 0 then (1, 0) else (10, 30))
  else if a = 880 then (6, 0) else if a < 884 then (10, 1881) else if a = 884 then (13, 20) else if a = 885 then (10, 100) else if a = 886 then (10, 4) else if a = 887 then (10, 4) else if a = 888 then (10, 120) else if a = 889 then (10, 30) else if a = 890 then (10, 8) else if a = 891 then (10, 5120) else if a = 892 then (10, 5120) else if a = 893 then (13, 5120) else if a = 894 then (10, 20) else if a = 895 then (13, 5120) else if a = 896 then (11, 5120) else if a = 897 then (11, 5120) else (0, 0)
def cf_R (g : Int32) (a k : Nat) : Option Nat :=
  if a < 4 then (if a = 0 then (if k = 0 then some 1 else if k = 1 then some 4 else if k = 2 then some 288 else if k = 3 then some 572 else if k = 7 then some 856 else if k = 9 then some 868 else if k = 10 then some 869 else if k = 11 then some 870 else if k = 12 then some 871 else none) else if a = 1 then (if k = 0 then some 2 else if k = 2 then some 3 else none) else none)
  else if a < 856 then (if (a - 4) % 284 = 0 then (if k = 0 then some (a + 1) else none) else if (a - 4) % 284 = 1 then (if k < 141 then some (a + 1 + 2 * k) else none) else if a % 2 = 0 then (if k = 5 then some (a + 1) else none) else none)
  else if a = 856 then (if k = 0 then some 857 else if k = 2 then some 858 else if k = 3 then some 859 else if k = 4 then some 860 else if k = 5 then some 861 else if k = 6 then some 862 else if k = 7 then some 863 else if k = 8 then some 864 else if k = 9 then some 865 else if k = 10 then some (if g = 0 then 866 else 867) else if k = 11 then some (if g = 0 then 867 else 866) else none)
  else if a = 870 then (if k < 4 then some (872 + 2 * k) else none)
  else if a < 872 then none
  else if a < 880 then (if a % 2 = 0 then (if k = 2 then some (a + 1) else none) else none)
  else if a = 880 then (if k = 0 then some 881 else if k = 1 then some 882 else if k = 2 then some 883 else if k = 5 then some 884 else if k = 6 then some 885 else if k = 8 then some 886 else if k = 9 then some 887 else if k = 10 then some 888 else if k = 12 then some 889 else if k = 21 then some 890 else if k = 22 then some 891 else if k = 23 then some 892 else if k = 25 then some 893 else if k = 26 then some 894 else if k = 27 then some 895 else if k = 28 then some 896 else if k = 29 then some 897 else none)
  else none
def cf_G (g : Int32) : aG := (cf_R g, cf_S, 898)
abbrev aTl (t : Nat) : Nat := 4 + 284 * t
abbrev aTI (t : Nat) : Nat := 5 + 284 * t
abbrev aIt (t i : Nat) : Nat := 6 + 284 * t + 2 * i
abbrev aNd (t i : Nat) : Nat := 7 + 284 * t + 2 * i
abbrev aSh (j : Nat) : Nat := 872 + 2 * j
abbrev aSn (j : Nat) : Nat := 873 + 2 * j
def aRw (g : Int32) : Nat := if g = 0 then 866 else 867
def aRl (g : Int32) : Nat := if g = 0 then 867 else 866
theorem cf_lTl {t : Nat} (h : t < 3) : aTl t < 898 := by unfold aTl; omega
theorem cf_lTI {t : Nat} (h : t < 3) : aTI t < 898 := by unfold aTI; omega
theorem cf_lIt {t i : Nat} (h : t < 3) (hi : i < 141) : aIt t i < 898 := by unfold aIt; omega
theorem cf_lNd {t i : Nat} (h : t < 3) (hi : i < 141) : aNd t i < 898 := by unfold aNd; omega
theorem cf_lSh {j : Nat} (h : j < 4) : aSh j < 898 := by unfold aSh; omega
theorem cf_lSn {j : Nat} (h : j < 4) : aSn j < 898 := by unfold aSn; omega
theorem cf_lM {a : Nat} (h : 881 ≤ a ∧ a ≤ 883) : a < 898 := by omega
theorem cf_lRw (g : Int32) : aRw g < 898 := by unfold aRw; split <;> omega
theorem cf_lRl (g : Int32) : aRl g < 898 := by unfold aRl; split <;> omega
theorem cf_sTl {t : Nat} (h : t < 3) : cf_S (aTl t) = (2, 0) := by
  unfold cf_S aTl
  rw [if_neg (by omega), if_pos (by omega), if_pos (by omega)]
theorem cf_sTI {t : Nat} (h : t < 3) : cf_S (aTI t) = (14, 141) := by
  unfold cf_S aTI
  rw [if_neg (by omega), if_pos (by omega), if_neg (by omega), if_pos (by omega)]
theorem cf_sIt {t i : Nat} (h : t < 3) (hi : i < 141) : cf_S (aIt t i) = (0, 0) := by
  unfold cf_S aIt
  rw [if_neg (by omega), if_pos (by omega), if_neg (by omega), if_neg (by omega), if_pos (by omega)]
theorem cf_sNd {t i : Nat} (h : t < 3) (hi : i < 141) : cf_S (aNd t i) = (11, 4) := by
  unfold cf_S aNd
  rw [if_neg (by omega), if_pos (by omega), if_neg (by omega), if_neg (by omega), if_neg (by omega)]
theorem cf_sSh : ∀ {j : Nat}, j < 4 → cf_S (aSh j) = (1, 0) := by decide +kernel
theorem cf_sSn : ∀ {j : Nat}, j < 4 → cf_S (aSn j) = (10, 30) := by decide +kernel
theorem cf_sM {a : Nat} (h : 881 ≤ a ∧ a ≤ 883) : cf_S a = (10, 1881) := by
  obtain ⟨h1, h2⟩ := h
  rcases (show a = 881 ∨ a = 882 ∨ a = 883 by omega) with rfl | rfl | rfl <;> rfl
theorem cf_sRw (g : Int32) : cf_S (aRw g) = (11, 5120) := by unfold aRw; split <;> rfl
theorem cf_sRl (g : Int32) : cf_S (aRl g) = (11, 5120) := by unfold aRl; split <;> rfl
theorem cf_rTl {g : Int32} {t : Nat} (h : t < 3) : cf_R g (aTl t) 0 = some (aTI t) := by
  unfold cf_R aTl aTI
  rw [if_neg (by omega), if_pos (by omega), if_pos (by omega), if_pos rfl]
  congr 1
  omega
theorem cf_rTI {g : Int32} {t j : Nat} (h : t < 3) (hj : j < 141) : cf_R g (aTI t) j = some (aIt t j) := by
  unfold cf_R aIt aTI
  rw [if_neg (by omega), if_pos (by omega), if_neg (by omega), if_pos (by omega), if_pos hj]
  congr 1
  omega
theorem cf_rIt {g : Int32} {t i : Nat} (h : t < 3) (hi : i < 141) : cf_R g (aIt t i) 5 = some (aNd t i) := by
  unfold cf_R aIt aNd
  rw [if_neg (by omega), if_pos (by omega), if_neg (by omega), if_neg (by omega), if_pos (by omega), if_pos rfl]
  congr 1
  omega
theorem cf_rS {g : Int32} {j : Nat} (h : j < 4) : cf_R g 870 j = some (aSh j) := by
  unfold cf_R
  rw [if_neg (by omega), if_neg (by omega), if_neg (by omega), if_pos rfl, if_pos h]
theorem cf_rSh {g : Int32} : ∀ {j : Nat}, j < 4 → cf_R g (aSh j) 2 = some (aSn j)
  | 0, _ => rfl
  | 1, _ => rfl
  | 2, _ => rfl
  | 3, _ => rfl
  | j + 4, h => absurd h (by omega)
theorem cf_rRw {g : Int32} : cf_R g 856 10 = some (aRw g) := rfl
theorem cf_rRl {g : Int32} : cf_R g 856 11 = some (aRl g) := rfl
/-! ===== typed ends, and the rules over this heap ===== -/
abbrev aP (X : aM) (d pc : Nat) (ls st : List Value) (I : aI) (L : aL) (Q : aQ) : Prop := aB none X d 0 0 pc ls st I L (cf_G (I 856 10)) Q
abbrev aK (X : aM) (d : Nat) (vs : List Value) (I : aI) (L : aL) (Q : aQ) : Prop := aC X d 0 0 vs I L (cf_G (I 856 10)) Q
def qI (Q : aI → aL → Int32 → Prop) : aQ := fun I L G v => G = cf_G (I 856 10) ∧ ∃ r, v = some (.int r) ∧ Q I L r
def qL (Q : aI → aL → Int64 → Prop) : aQ := fun I L G v => G = cf_G (I 856 10) ∧ ∃ r, v = some (.long r) ∧ Q I L r
def qV (Q : aI → aL → Prop) : aQ := fun I L G v => G = cf_G (I 856 10) ∧ v = none ∧ Q I L
def qA (t : Nat) (Q : aI → aL → Nat → Prop) : aQ := fun I L G v => G = cf_G (I 856 10) ∧ ∃ i, i < 141 ∧ v = some (.ref (aIt t i)) ∧ Q I L i
section PR
variable {sc : Option (Nat × (Nat → Int32))} {X : aM} {d k n pc : Nat} {ls st : List Value} {I : aI} {L : aL} {G : aG} {Q : aQ}
theorem pr_top {x : Int32} (kk : ∀ y : Int32, y = x → aB sc X d k n pc ls (.int y :: st) I L G Q) : aB sc X d k n pc ls (.int x :: st) I L G Q := kk x rfl
theorem pr_topl {x : Int64} (kk : ∀ y : Int64, y = x → aB sc X d k n pc ls (.long y :: st) I L G Q) : aB sc X d k n pc ls (.long x :: st) I L G Q := kk x rfl
def am_le : List Value → List Value → Prop
  | [], [] => True
  | v :: vs, w :: ws => (w = .retAddr 0 ∨ w = v) ∧ am_le vs ws
  | _, _ => False
theorem am_le_at : ∀ {ls ls' : List Value}, am_le ls ls' → ls.length = ls'.length ∧ ∀ (i : Nat) (v : Value), ls'[i]? = some v → v ≠ .retAddr 0 → ls[i]? = some v
  | [], [], _ => ⟨rfl, fun i v h => by simp at h⟩
  | v :: vs, w :: ws, h => by
    obtain ⟨h1, h2⟩ := am_le_at h.2
    refine ⟨by simp [h1], fun i u hi hu => ?_⟩
    cases i with
    | zero =>
      simp at hi
      subst hi
      rcases h.1 with h0 | h0
      · exact absurd h0 hu
      · simp [h0]
    | succ i => simpa using h2 i u (by simpa using hi) hu
  | [], w :: ws, h => h.elim
  | v :: vs, [], h => h.elim
theorem pr_weak {ls' : List Value} (h : am_le ls ls') (kk : aB sc X d k n pc ls' st I L G Q) : aB sc X d k n pc ls st I L G Q := by
  intro E p l e R s m args below meth c Z mc ms C hE hf hlo hmc hms H locs cells slots lr hc hs hl hH
  obtain ⟨h1, h2⟩ := am_le_at h
  exact kk E p l e R s m args below meth c Z mc ms C hE hf hlo hmc hms H locs cells slots lr hc hs ⟨hl.1, hl.2.1, h1 ▸ hl.2.2.1, fun i v hi hv => hl.2.2.2 i v (h2 i v hi hv) hv⟩ hH
theorem am_u_g {I : aI} {a kf : Nat} {x : Int32} (h : ¬ (a = 856 ∧ kf = 10)) : am_u I a kf x 856 10 = I 856 10 := by
  unfold am_u
  rw [if_neg]
  rintro ⟨h1, h2⟩
  exact h ⟨h1.symm, h2.symm⟩
theorem pr_getI {idx ci kf a : Nat} {v : Int32} (hd : decode X.2.1 pc = .ok (.getfield idx, 3)) (hfl : am_FL X.1.cls idx ci kf) (ha : a < 898) (hsh : cf_S a = (ci, 0)) (hty : am_isR (am_ty ci kf) = false) (hv : I a kf = v) {g : Int32}
    (kk : aB sc X d k n (pc + 3) ls (.int v :: st) I L (cf_G g) Q) : aB sc X d k n pc ls (.ref a :: st) I L (cf_G g) Q :=
  ar_getI (G := cf_G g) hd hfl ha (congrArg Prod.fst hsh) hty hv kk
theorem pr_getR {idx ci kf a b : Nat} {g : Int32} (hd : decode X.2.1 pc = .ok (.getfield idx, 3)) (hfl : am_FL X.1.cls idx ci kf) (ha : a < 898) (hsh : cf_S a = (ci, 0)) (hty : am_isR (am_ty ci kf) = true) (hv : cf_R g a kf = some b)
    (kk : aB sc X d k n (pc + 3) ls (.ref b :: st) I L (cf_G g) Q) : aB sc X d k n pc ls (.ref a :: st) I L (cf_G g) Q :=
  ar_getR (G := cf_G g) hd hfl ha (congrArg Prod.fst hsh) hty hv kk
theorem pr_putI {idx ci kf a : Nat} {x : Int32} (hd : decode X.2.1 pc = .ok (.putfield idx, 3)) (hfl : am_FL X.1.cls idx ci kf) (ha : a < 898) (hsh : cf_S a = (ci, 0)) (hfin : (am_T ci kf).2.2.2 = false) (hty : am_isR (am_ty ci kf) = false) (hna : narrow (am_ty ci kf) (.int x) = .int x) (hfi : fits (am_ty ci kf) (.int x) = true)
    (kk : aB sc X d k n (pc + 3) ls st (am_u I a kf x) L (cf_G (am_u I a kf x 856 10)) Q) : aB sc X d k n pc ls (.int x :: .ref a :: st) I L (cf_G (I 856 10)) Q := by
  have hg : am_u I a kf x 856 10 = I 856 10 := am_u_g (fun h => by
    obtain ⟨h1, h2⟩ := h
    subst h1
    subst h2
    have e : (4, 0) = (ci, 0) := hsh
    cases e
    cases hty)
  rw [hg] at kk
  exact ar_putI (G := cf_G (I 856 10)) hd hfl ha (congrArg Prod.fst hsh) hfin hty hna hfi kk
theorem am_arr_ne {a kd N : Nat} (hsh : cf_S a = (kd, N)) (hk : 10 ≤ kd) : ¬ a = 856 := by
  intro h
  subst h
  have e : (4, 0) = (kd, N) := hsh
  cases e
  omega
theorem pr_iald {a N j : Nat} {i v g : Int32} (hd : decode X.2.1 pc = .ok (.iaload, 1)) (ha : a < 898) (hsh : cf_S a = (10, N)) (hN : N < 2 ^ 31) (hj : j < N) (hi : i = nI j) (hv : I a j = v)
    (kk : aB sc X d k n (pc + 1) ls (.int v :: st) I L (cf_G g) Q) : aB sc X d k n pc ls (.int i :: .ref a :: st) I L (cf_G g) Q := by
  subst hi
  exact ar_iald (G := cf_G g) hd ha hsh (vp_in_nI hj hN) (nI_clamp (Nat.lt_trans hj hN)) hv kk
theorem pr_bald {a N j : Nat} {i v g : Int32} (hd : decode X.2.1 pc = .ok (.baload, 1)) (ha : a < 898) (hsh : cf_S a = (12, N)) (hN : N < 2 ^ 31) (hj : j < N) (hi : i = nI j) (hv : I a j = v)
    (kk : aB sc X d k n (pc + 1) ls (.int v :: st) I L (cf_G g) Q) : aB sc X d k n pc ls (.int i :: .ref a :: st) I L (cf_G g) Q := by
  subst hi
  exact ar_bald (G := cf_G g) hd ha hsh (vp_in_nI hj hN) (nI_clamp (Nat.lt_trans hj hN)) hv kk
theorem pr_zald {a N j : Nat} {i v g : Int32} (hd : decode X.2.1 pc = .ok (.baload, 1)) (ha : a < 898) (hsh : cf_S a = (13, N)) (hN : N < 2 ^ 31) (hj : j < N) (hi : i = nI j) (hv : I a j = v)
    (kk : aB sc X d k n (pc + 1) ls (.int v :: st) I L (cf_G g) Q) : aB sc X d k n pc ls (.int i :: .ref a :: st) I L (cf_G g) Q := by
  subst hi
  exact ar_zald (G := cf_G g) hd ha hsh (vp_in_nI hj hN) (nI_clamp (Nat.lt_trans hj hN)) hv kk
theorem pr_lald {a N j : Nat} {i g : Int32} {v : Int64} (hd : decode X.2.1 pc = .ok (.laload, 1)) (ha : a < 898) (hsh : cf_S a = (11, N)) (hN : N < 2 ^ 31) (hj : j < N) (hi : i = nI j) (hv : L a j = v)
    (kk : aB sc X d k n (pc + 1) ls (.long v :: st) I L (cf_G g) Q) : aB sc X d k n pc ls (.int i :: .ref a :: st) I L (cf_G g) Q := by
  subst hi
  exact ar_lald (G := cf_G g) hd ha hsh (vp_in_nI hj hN) (nI_clamp (Nat.lt_trans hj hN)) hv kk
theorem pr_lowald {j : Nat} {i : Int32} (hd : decode X.2.1 pc = .ok (.laload, 1)) (hj : j < 6) (hi : i = nI j)
    (kk : aB sc X d k n (pc + 1) ls (.long (am_lowv j) :: st) I L G Q) : aB sc X d k n pc ls (.int i :: .retAddr 1 :: st) I L G Q := by
  subst hi
  exact ar_lowald hd (vp_in_nI hj (by decide)) (nI_clamp (Nat.lt_trans hj (by decide))) kk
theorem pr_aald0 {t j : Nat} {i g : Int32} (hd : decode X.2.1 pc = .ok (.aaload, 1)) (ht : t < 3) (hj : j < 141) (hi : i = nI j)
    (kk : aB sc X d k n (pc + 1) ls (.ref (aIt t j) :: st) I L (cf_G g) Q) : aB sc X d k n pc ls (.int i :: .ref (aTI t) :: st) I L (cf_G g) Q := by
  subst hi
  exact ar_aald0 (G := cf_G g) hd (cf_lTI ht) (cf_sTI ht) (vp_in_nI hj (by decide)) (nI_clamp (Nat.lt_trans hj (by decide))) (cf_rTI ht hj) kk
theorem pr_aald1 {j : Nat} {i g : Int32} (hd : decode X.2.1 pc = .ok (.aaload, 1)) (hj : j < 4) (hi : i = nI j)
    (kk : aB sc X d k n (pc + 1) ls (.ref (aSh j) :: st) I L (cf_G g) Q) : aB sc X d k n pc ls (.int i :: .ref 870 :: st) I L (cf_G g) Q := by
  subst hi
  exact ar_aald1 (N := 4) (G := cf_G g) hd (by show 870 < 898; decide) (by show cf_S 870 = (15, 4); rfl) (vp_in_nI hj (by decide)) (nI_clamp (Nat.lt_trans hj (by decide))) (cf_rS (g := g) hj) kk
theorem pr_iast {a N j : Nat} {i x : Int32} (hd : decode X.2.1 pc = .ok (.iastore, 1)) (ha : a < 898) (hsh : cf_S a = (10, N)) (hN : N < 2 ^ 31) (hj : j < N) (hi : i = nI j)
    (kk : aB sc X d k n (pc + 1) ls st (am_u I a j x) L (cf_G (am_u I a j x 856 10)) Q) : aB sc X d k n pc ls (.int x :: .int i :: .ref a :: st) I L (cf_G (I 856 10)) Q := by
  subst hi
  rw [am_u_g (fun h => am_arr_ne hsh (by decide) h.1)] at kk
  exact ar_iast (G := cf_G (I 856 10)) hd ha hsh (vp_in_nI hj hN) (nI_clamp (Nat.lt_trans hj hN)) rfl kk
theorem pr_bast {a N j : Nat} {i x y : Int32} (hd : decode X.2.1 pc = .ok (.bastore, 1)) (ha : a < 898) (hsh : cf_S a = (12, N)) (hN : N < 2 ^ 31) (hj : j < N) (hi : i = nI j) (hy : vp_nar .byte x = y)
    (kk : aB sc X d k n (pc + 1) ls st (am_u I a j y) L (cf_G (am_u I a j y 856 10)) Q) : aB sc X d k n pc ls (.int x :: .int i :: .ref a :: st) I L (cf_G (I 856 10)) Q := by
  subst hi
  rw [am_u_g (fun h => am_arr_ne hsh (by decide) h.1)] at kk
  exact ar_bast (G := cf_G (I 856 10)) hd ha hsh (vp_in_nI hj hN) (nI_clamp (Nat.lt_trans hj hN)) hy kk
theorem pr_zast {a N j : Nat} {i x y : Int32} (hd : decode X.2.1 pc = .ok (.bastore, 1)) (ha : a < 898) (hsh : cf_S a = (13, N)) (hN : N < 2 ^ 31) (hj : j < N) (hi : i = nI j) (hy : vp_nar .boolean x = y)
    (kk : aB sc X d k n (pc + 1) ls st (am_u I a j y) L (cf_G (am_u I a j y 856 10)) Q) : aB sc X d k n pc ls (.int x :: .int i :: .ref a :: st) I L (cf_G (I 856 10)) Q := by
  subst hi
  rw [am_u_g (fun h => am_arr_ne hsh (by decide) h.1)] at kk
  exact ar_zast (G := cf_G (I 856 10)) hd ha hsh (vp_in_nI hj hN) (nI_clamp (Nat.lt_trans hj hN)) hy kk
theorem pr_last {a N j : Nat} {i g : Int32} {x : Int64} (hd : decode X.2.1 pc = .ok (.lastore, 1)) (ha : a < 898) (hsh : cf_S a = (11, N)) (hN : N < 2 ^ 31) (hj : j < N) (hi : i = nI j)
    (kk : aB sc X d k n (pc + 1) ls st I (am_u L a j x) (cf_G g) Q) : aB sc X d k n pc ls (.long x :: .int i :: .ref a :: st) I L (cf_G g) Q := by
  subst hi
  exact ar_last (G := cf_G g) hd ha hsh (vp_in_nI hj hN) (nI_clamp (Nat.lt_trans hj hN)) rfl kk
/-- the two rows change places: the ghost in slot 10 tells which is which -/
theorem pr_ghost {v : Int32} (kk : aB sc X d k n pc ls st (am_u I 856 10 v) L G Q) (hz : 856 < G.2.2 → (G.2.1 856).1 = 4) : aB sc X d k n pc ls st I L G Q := by
  intro E p l e R s m args below meth c Z mc ms C hE hf hlo hmc hms H locs cells slots lr hc hs hl hH
  have hw : am_W E (am_u I 856 10 v) L G = am_W E I L G := by
    apply List.ext_getElem?
    intro j
    by_cases hj : j < G.2.2
    · rw [am_W_get hj, am_W_get hj]
      by_cases h8 : j = 856
      · subst h8
        rw [am_e_obj (hz hj) (by decide), am_e_obj (hz hj) (by decide)]
        have e9 : am_fs E 4 (am_u I 856 10 v 856) (G.1 856) = am_fs E 4 (I 856) (G.1 856) := rfl
        rw [e9]
      · rw [am_u_ne I v h8]
    · rw [List.getElem?_eq_none (by rw [am_W_len]; omega), List.getElem?_eq_none (by rw [am_W_len]; omega)]
  exact kk E p l e R s m args below meth c Z mc ms C hE hf hlo hmc hms H locs cells slots lr hc hs hl ⟨hH.1, by rw [hw]; exact hH.2.1, hH.2.2⟩
end PR
/-- a switch's number: below, above, or one of its cases -/
theorem am_tab (x : Int32) (lo : Int) (n : Nat) : (x.toInt < lo ∨ lo + n ≤ x.toInt) ∨ ∃ j : Nat, j < n ∧ x.toInt = lo + j := by
  by_cases h1 : x.toInt < lo
  · exact Or.inl (Or.inl h1)
  · by_cases h2 : lo + n ≤ x.toInt
    · exact Or.inl (Or.inr h2)
    · exact Or.inr ⟨(x.toInt - lo).toNat, by omega, by omega⟩

section PR2
variable {sc : Option (Nat × (Nat → Int32))} {X : aM} {d k n pc : Nat} {ls st : List Value} {I : aI} {L : aL} {G : aG} {Q : aQ}
theorem pr_nmI (kk : ∀ J : aI, J = I → aB sc X d k n pc ls st J L (cf_G (J 856 10)) Q) : aB sc X d k n pc ls st I L (cf_G (I 856 10)) Q := kk I rfl
theorem pr_nmL (kk : ∀ J : aL, J = L → aB sc X d k n pc ls st I J G Q) : aB sc X d k n pc ls st I L G Q := kk L rfl
theorem am_nb {x : Int32} (h : x = 0 ∨ x = 1) : narrow .boolean (.int x) = .int x := by rcases h with rfl | rfl <;> rfl
theorem am_fb {x : Int32} (h : x = 0 ∨ x = 1) : fits .boolean (.int x) = true := by rcases h with rfl | rfl <;> rfl
theorem pr_alenJ {a N : Nat} {v g : Int32} (hd : decode X.2.1 pc = .ok (.arraylength, 1)) (ha : a < 898) (hsh : cf_S a = (11, N)) (hv : nI N = v) (kk : aB sc X d k n (pc + 1) ls (.int v :: st) I L (cf_G g) Q) : aB sc X d k n pc ls (.ref a :: st) I L (cf_G g) Q := by
  subst hv
  exact ar_alenJ (G := cf_G g) hd ha hsh kk
theorem pr_alenI {a N : Nat} {v g : Int32} (hd : decode X.2.1 pc = .ok (.arraylength, 1)) (ha : a < 898) (hsh : cf_S a = (10, N)) (hv : nI N = v) (kk : aB sc X d k n (pc + 1) ls (.int v :: st) I L (cf_G g) Q) : aB sc X d k n pc ls (.ref a :: st) I L (cf_G g) Q := by
  subst hv
  exact ar_alenI (G := cf_G g) hd ha hsh kk
theorem cf_swap (g : Int32) : am_u (am_u (cf_R g) 856 10 (some (aRl g))) 856 11 (some (aRw g)) = cf_R (if g = 0 then 1 else 0) := by
  funext a j
  by_cases ha : a = 856
  · subst ha
    by_cases h10 : j = 10
    · subst h10
      by_cases hg : g = 0
      · subst hg; rfl
      · simp [am_u, aRl, cf_R, hg]
    · by_cases h11 : j = 11
      · subst h11
        by_cases hg : g = 0
        · subst hg; rfl
        · simp [am_u, aRw, cf_R, hg]
      · simp [am_u, h10, h11, cf_R]
  · rw [am_u_ne _ _ ha, am_u_ne _ _ ha]
    unfold cf_R
    simp only [ha, if_false]
theorem pr_swap (kk : ∀ J : aI, J = am_u I 856 10 (if I 856 10 = 0 then 1 else 0) → aB sc X d k n pc ls st J L (cf_G (J 856 10)) Q) :
    aB sc X d k n pc ls st I L (am_u (am_u (cf_G (I 856 10)).1 856 10 (some (aRl (I 856 10))), (cf_G (I 856 10)).2).1 856 11 (some (aRw (I 856 10))), (am_u (cf_G (I 856 10)).1 856 10 (some (aRl (I 856 10))), (cf_G (I 856 10)).2).2) Q := by
  have e : (am_u (am_u (cf_G (I 856 10)).1 856 10 (some (aRl (I 856 10))), (cf_G (I 856 10)).2).1 856 11 (some (aRw (I 856 10))), (am_u (cf_G (I 856 10)).1 856 10 (some (aRl (I 856 10))), (cf_G (I 856 10)).2).2) = cf_G (if I 856 10 = 0 then 1 else 0) := by
    show ((am_u (am_u (cf_R (I 856 10)) 856 10 (some (aRl (I 856 10)))) 856 11 (some (aRw (I 856 10))), cf_S, 898) : aG) = _
    rw [cf_swap]
    rfl
  rw [e]
  refine pr_ghost (v := if I 856 10 = 0 then 1 else 0) ?_ (fun _ => rfl)
  have h := kk _ rfl
  have e2 : am_u I 856 10 (if I 856 10 = 0 then 1 else 0) 856 10 = if I 856 10 = 0 then 1 else 0 := by simp [am_u]
  rw [e2] at h
  exact h
end PR2
theorem pr_callVi {sc : Option (Nat × (Nat → Int32))} {X : aM} {d k n pc : Nat} {ls st : List Value} {I : aI} {L : aL} {Q : aQ} {d1 idx : Nat} {Q1 : aI → aL → Int32 → Prop} {Y : aM} {vs stk : List Value} {b ci : Nat} (hd : decode X.2.1 pc = .ok (.invokevirtual idx, 3)) (hlk : Cond.methodLink X.1.cls idx Y.1 ∈ am_ws) (hb : b < 898) (hbs : cf_S b = (ci, 0)) (hY : am_MV Y vs.length ci) (hstk : vs.reverse ++ .ref b :: st = stk) (hC : aK Y d1 (.ref b :: vs) I L (qI Q1)) (hd1 : d1 + 1 ≤ d) (hcat : (st.map fun v => v.category).sum ≤ 8)
    (kk : ∀ (I1 : aI) (L1 : aL) (r : Int32), Q1 I1 L1 r → aB sc X d k n (pc + 3) ls (.int r :: st) I1 L1 (cf_G (I1 856 10)) Q) : aB sc X d k n pc ls stk I L (cf_G (I 856 10)) Q := by
  refine ar_callV (G := cf_G (I 856 10)) (k2 := k) (n2 := n) hd hlk hb (congrArg Prod.fst hbs) hY hstk hC hd1 hcat (by omega) (by omega) (fun I1 L1 G1 v hq => ?_)
  obtain ⟨rfl, r, rfl, h⟩ := hq
  exact kk I1 L1 r h
theorem pr_callVl {sc : Option (Nat × (Nat → Int32))} {X : aM} {d k n pc : Nat} {ls st : List Value} {I : aI} {L : aL} {Q : aQ} {d1 idx : Nat} {Q1 : aI → aL → Int64 → Prop} {Y : aM} {vs stk : List Value} {b ci : Nat} (hd : decode X.2.1 pc = .ok (.invokevirtual idx, 3)) (hlk : Cond.methodLink X.1.cls idx Y.1 ∈ am_ws) (hb : b < 898) (hbs : cf_S b = (ci, 0)) (hY : am_MV Y vs.length ci) (hstk : vs.reverse ++ .ref b :: st = stk) (hC : aK Y d1 (.ref b :: vs) I L (qL Q1)) (hd1 : d1 + 1 ≤ d) (hcat : (st.map fun v => v.category).sum ≤ 8)
    (kk : ∀ (I1 : aI) (L1 : aL) (r : Int64), Q1 I1 L1 r → aB sc X d k n (pc + 3) ls (.long r :: st) I1 L1 (cf_G (I1 856 10)) Q) : aB sc X d k n pc ls stk I L (cf_G (I 856 10)) Q := by
  refine ar_callV (G := cf_G (I 856 10)) (k2 := k) (n2 := n) hd hlk hb (congrArg Prod.fst hbs) hY hstk hC hd1 hcat (by omega) (by omega) (fun I1 L1 G1 v hq => ?_)
  obtain ⟨rfl, r, rfl, h⟩ := hq
  exact kk I1 L1 r h
theorem pr_callVv {sc : Option (Nat × (Nat → Int32))} {X : aM} {d k n pc : Nat} {ls st : List Value} {I : aI} {L : aL} {Q : aQ} {d1 idx : Nat} {Q1 : aI → aL → Prop} {Y : aM} {vs stk : List Value} {b ci : Nat} (hd : decode X.2.1 pc = .ok (.invokevirtual idx, 3)) (hlk : Cond.methodLink X.1.cls idx Y.1 ∈ am_ws) (hb : b < 898) (hbs : cf_S b = (ci, 0)) (hY : am_MV Y vs.length ci) (hstk : vs.reverse ++ .ref b :: st = stk) (hC : aK Y d1 (.ref b :: vs) I L (qV Q1)) (hd1 : d1 + 1 ≤ d) (hcat : (st.map fun v => v.category).sum ≤ 8)
    (kk : ∀ (I1 : aI) (L1 : aL), Q1 I1 L1 → aB sc X d k n (pc + 3) ls st I1 L1 (cf_G (I1 856 10)) Q) : aB sc X d k n pc ls stk I L (cf_G (I 856 10)) Q := by
  refine ar_callV (G := cf_G (I 856 10)) (k2 := k) (n2 := n) hd hlk hb (congrArg Prod.fst hbs) hY hstk hC hd1 hcat (by omega) (by omega) (fun I1 L1 G1 v hq => ?_)
  obtain ⟨rfl, rfl, h⟩ := hq
  exact kk I1 L1 h
theorem pr_callVa {sc : Option (Nat × (Nat → Int32))} {X : aM} {d k n pc : Nat} {ls st : List Value} {I : aI} {L : aL} {Q : aQ} {d1 idx : Nat} {Q1 : aI → aL → Nat → Prop} {Y : aM} {vs stk : List Value} {b ci : Nat} {t : Nat} (hd : decode X.2.1 pc = .ok (.invokevirtual idx, 3)) (hlk : Cond.methodLink X.1.cls idx Y.1 ∈ am_ws) (hb : b < 898) (hbs : cf_S b = (ci, 0)) (hY : am_MV Y vs.length ci) (hstk : vs.reverse ++ .ref b :: st = stk) (hC : aK Y d1 (.ref b :: vs) I L (qA t Q1)) (hd1 : d1 + 1 ≤ d) (hcat : (st.map fun v => v.category).sum ≤ 8)
    (kk : ∀ (I1 : aI) (L1 : aL) (r : Nat), r < 141 → Q1 I1 L1 r → aB sc X d k n (pc + 3) ls (.ref (aIt t r) :: st) I1 L1 (cf_G (I1 856 10)) Q) : aB sc X d k n pc ls stk I L (cf_G (I 856 10)) Q := by
  refine ar_callV (G := cf_G (I 856 10)) (k2 := k) (n2 := n) hd hlk hb (congrArg Prod.fst hbs) hY hstk hC hd1 hcat (by omega) (by omega) (fun I1 L1 G1 v hq => ?_)
  obtain ⟨rfl, r, hr, rfl, h⟩ := hq
  exact kk I1 L1 r hr h
theorem pr_callSi {sc : Option (Nat × (Nat → Int32))} {X : aM} {d k n pc : Nat} {ls st : List Value} {I : aI} {L : aL} {Q : aQ} {d1 idx : Nat} {Q1 : aI → aL → Int32 → Prop} {Y : aM} {vs stk : List Value}  (hd : decode X.2.1 pc = .ok (.invokestatic idx, 3)) (hlk : Cond.methodLink X.1.cls idx Y.1 ∈ am_ws) (hY : am_MS Y vs.length) (hstk : vs.reverse ++ st = stk) (hC : aK Y d1 vs I L (qI Q1)) (hd1 : d1 + 1 ≤ d) (hcat : (st.map fun v => v.category).sum ≤ 8)
    (kk : ∀ (I1 : aI) (L1 : aL) (r : Int32), Q1 I1 L1 r → aB sc X d k n (pc + 3) ls (.int r :: st) I1 L1 (cf_G (I1 856 10)) Q) : aB sc X d k n pc ls stk I L (cf_G (I 856 10)) Q := by
  refine ar_callS (G := cf_G (I 856 10)) (k2 := k) (n2 := n) hd hlk hY hstk hC hd1 hcat (by omega) (by omega) (fun I1 L1 G1 v hq => ?_)
  obtain ⟨rfl, r, rfl, h⟩ := hq
  exact kk I1 L1 r h
theorem pr_callSl {sc : Option (Nat × (Nat → Int32))} {X : aM} {d k n pc : Nat} {ls st : List Value} {I : aI} {L : aL} {Q : aQ} {d1 idx : Nat} {Q1 : aI → aL → Int64 → Prop} {Y : aM} {vs stk : List Value}  (hd : decode X.2.1 pc = .ok (.invokestatic idx, 3)) (hlk : Cond.methodLink X.1.cls idx Y.1 ∈ am_ws) (hY : am_MS Y vs.length) (hstk : vs.reverse ++ st = stk) (hC : aK Y d1 vs I L (qL Q1)) (hd1 : d1 + 1 ≤ d) (hcat : (st.map fun v => v.category).sum ≤ 8)
    (kk : ∀ (I1 : aI) (L1 : aL) (r : Int64), Q1 I1 L1 r → aB sc X d k n (pc + 3) ls (.long r :: st) I1 L1 (cf_G (I1 856 10)) Q) : aB sc X d k n pc ls stk I L (cf_G (I 856 10)) Q := by
  refine ar_callS (G := cf_G (I 856 10)) (k2 := k) (n2 := n) hd hlk hY hstk hC hd1 hcat (by omega) (by omega) (fun I1 L1 G1 v hq => ?_)
  obtain ⟨rfl, r, rfl, h⟩ := hq
  exact kk I1 L1 r h
theorem pr_callSv {sc : Option (Nat × (Nat → Int32))} {X : aM} {d k n pc : Nat} {ls st : List Value} {I : aI} {L : aL} {Q : aQ} {d1 idx : Nat} {Q1 : aI → aL → Prop} {Y : aM} {vs stk : List Value}  (hd : decode X.2.1 pc = .ok (.invokestatic idx, 3)) (hlk : Cond.methodLink X.1.cls idx Y.1 ∈ am_ws) (hY : am_MS Y vs.length) (hstk : vs.reverse ++ st = stk) (hC : aK Y d1 vs I L (qV Q1)) (hd1 : d1 + 1 ≤ d) (hcat : (st.map fun v => v.category).sum ≤ 8)
    (kk : ∀ (I1 : aI) (L1 : aL), Q1 I1 L1 → aB sc X d k n (pc + 3) ls st I1 L1 (cf_G (I1 856 10)) Q) : aB sc X d k n pc ls stk I L (cf_G (I 856 10)) Q := by
  refine ar_callS (G := cf_G (I 856 10)) (k2 := k) (n2 := n) hd hlk hY hstk hC hd1 hcat (by omega) (by omega) (fun I1 L1 G1 v hq => ?_)
  obtain ⟨rfl, rfl, h⟩ := hq
  exact kk I1 L1 h
theorem pr_callSa {sc : Option (Nat × (Nat → Int32))} {X : aM} {d k n pc : Nat} {ls st : List Value} {I : aI} {L : aL} {Q : aQ} {d1 idx : Nat} {Q1 : aI → aL → Nat → Prop} {Y : aM} {vs stk : List Value}  {t : Nat} (hd : decode X.2.1 pc = .ok (.invokestatic idx, 3)) (hlk : Cond.methodLink X.1.cls idx Y.1 ∈ am_ws) (hY : am_MS Y vs.length) (hstk : vs.reverse ++ st = stk) (hC : aK Y d1 vs I L (qA t Q1)) (hd1 : d1 + 1 ≤ d) (hcat : (st.map fun v => v.category).sum ≤ 8)
    (kk : ∀ (I1 : aI) (L1 : aL) (r : Nat), r < 141 → Q1 I1 L1 r → aB sc X d k n (pc + 3) ls (.ref (aIt t r) :: st) I1 L1 (cf_G (I1 856 10)) Q) : aB sc X d k n pc ls stk I L (cf_G (I 856 10)) Q := by
  refine ar_callS (G := cf_G (I 856 10)) (k2 := k) (n2 := n) hd hlk hY hstk hC hd1 hcat (by omega) (by omega) (fun I1 L1 G1 v hq => ?_)
  obtain ⟨rfl, r, hr, rfl, h⟩ := hq
  exact kk I1 L1 r hr h
theorem pr_callSNi {sc : Option (Nat × (Nat → Int32))} {X : aM} {d k n pc : Nat} {ls st : List Value} {I : aI} {L : aL} {Q : aQ} {d1 idx : Nat} {Q1 : aI → aL → Int32 → Prop} {Y : aM} {vs stk : List Value}  (hd : decode X.2.1 pc = .ok (.invokestatic idx, 3)) (hlk : (X.1.cls, idx, Y.1, RX5) ∈ am_nM) (hY : am_MS Y vs.length) (hstk : vs.reverse ++ st = stk) (hC : aK Y d1 vs I L (qI Q1)) (hd1 : d1 + 1 ≤ d) (hcat : (st.map fun v => v.category).sum ≤ 8)
    (kk : ∀ (I1 : aI) (L1 : aL) (r : Int32), Q1 I1 L1 r → aB sc X d k n (pc + 3) ls (.int r :: st) I1 L1 (cf_G (I1 856 10)) Q) : aB sc X d k n pc ls stk I L (cf_G (I 856 10)) Q := by
  refine ar_callSN (G := cf_G (I 856 10)) (k2 := k) (n2 := n) hd hlk hY hstk hC hd1 hcat (by omega) (by omega) (fun I1 L1 G1 v hq => ?_)
  obtain ⟨rfl, r, rfl, h⟩ := hq
  exact kk I1 L1 r h
theorem pr_callSNl {sc : Option (Nat × (Nat → Int32))} {X : aM} {d k n pc : Nat} {ls st : List Value} {I : aI} {L : aL} {Q : aQ} {d1 idx : Nat} {Q1 : aI → aL → Int64 → Prop} {Y : aM} {vs stk : List Value}  (hd : decode X.2.1 pc = .ok (.invokestatic idx, 3)) (hlk : (X.1.cls, idx, Y.1, RX5) ∈ am_nM) (hY : am_MS Y vs.length) (hstk : vs.reverse ++ st = stk) (hC : aK Y d1 vs I L (qL Q1)) (hd1 : d1 + 1 ≤ d) (hcat : (st.map fun v => v.category).sum ≤ 8)
    (kk : ∀ (I1 : aI) (L1 : aL) (r : Int64), Q1 I1 L1 r → aB sc X d k n (pc + 3) ls (.long r :: st) I1 L1 (cf_G (I1 856 10)) Q) : aB sc X d k n pc ls stk I L (cf_G (I 856 10)) Q := by
  refine ar_callSN (G := cf_G (I 856 10)) (k2 := k) (n2 := n) hd hlk hY hstk hC hd1 hcat (by omega) (by omega) (fun I1 L1 G1 v hq => ?_)
  obtain ⟨rfl, r, rfl, h⟩ := hq
  exact kk I1 L1 r h
theorem pr_callSNv {sc : Option (Nat × (Nat → Int32))} {X : aM} {d k n pc : Nat} {ls st : List Value} {I : aI} {L : aL} {Q : aQ} {d1 idx : Nat} {Q1 : aI → aL → Prop} {Y : aM} {vs stk : List Value}  (hd : decode X.2.1 pc = .ok (.invokestatic idx, 3)) (hlk : (X.1.cls, idx, Y.1, RX5) ∈ am_nM) (hY : am_MS Y vs.length) (hstk : vs.reverse ++ st = stk) (hC : aK Y d1 vs I L (qV Q1)) (hd1 : d1 + 1 ≤ d) (hcat : (st.map fun v => v.category).sum ≤ 8)
    (kk : ∀ (I1 : aI) (L1 : aL), Q1 I1 L1 → aB sc X d k n (pc + 3) ls st I1 L1 (cf_G (I1 856 10)) Q) : aB sc X d k n pc ls stk I L (cf_G (I 856 10)) Q := by
  refine ar_callSN (G := cf_G (I 856 10)) (k2 := k) (n2 := n) hd hlk hY hstk hC hd1 hcat (by omega) (by omega) (fun I1 L1 G1 v hq => ?_)
  obtain ⟨rfl, rfl, h⟩ := hq
  exact kk I1 L1 h
theorem pr_callSNa {sc : Option (Nat × (Nat → Int32))} {X : aM} {d k n pc : Nat} {ls st : List Value} {I : aI} {L : aL} {Q : aQ} {d1 idx : Nat} {Q1 : aI → aL → Nat → Prop} {Y : aM} {vs stk : List Value}  {t : Nat} (hd : decode X.2.1 pc = .ok (.invokestatic idx, 3)) (hlk : (X.1.cls, idx, Y.1, RX5) ∈ am_nM) (hY : am_MS Y vs.length) (hstk : vs.reverse ++ st = stk) (hC : aK Y d1 vs I L (qA t Q1)) (hd1 : d1 + 1 ≤ d) (hcat : (st.map fun v => v.category).sum ≤ 8)
    (kk : ∀ (I1 : aI) (L1 : aL) (r : Nat), r < 141 → Q1 I1 L1 r → aB sc X d k n (pc + 3) ls (.ref (aIt t r) :: st) I1 L1 (cf_G (I1 856 10)) Q) : aB sc X d k n pc ls stk I L (cf_G (I 856 10)) Q := by
  refine ar_callSN (G := cf_G (I 856 10)) (k2 := k) (n2 := n) hd hlk hY hstk hC hd1 hcat (by omega) (by omega) (fun I1 L1 G1 v hq => ?_)
  obtain ⟨rfl, r, hr, rfl, h⟩ := hq
  exact kk I1 L1 r hr h
end
section
abbrev mX0_init : aM := (yX0_init, cX0_init, 2, none)
abbrev mX0_isThere : aM := (yX0_isThere, cX0_isThere, 1, (some .boolean))
abbrev mX0_isEnding : aM := (yX0_isEnding, cX0_isEnding, 1, (some .boolean))
abbrev mX0_become : aM := (yX0_become, cX0_become, 3, none)
abbrev mX0_copyFrom : aM := (yX0_copyFrom, cX0_copyFrom, 3, none)
abbrev mX0_sameAs : aM := (yX0_sameAs, cX0_sameAs, 3, (some .boolean))
abbrev mX0_putNeed : aM := (yX0_putNeed, cX0_putNeed, 3, none)
abbrev mX0_readsFact : aM := (yX0_readsFact, cX0_readsFact, 8, (some .boolean))
abbrev mX0_holdsFor : aM := (yX0_holdsFor, cX0_holdsFor, 2, (some .boolean))
abbrev mX0_countHolding : aM := (yX0_countHolding, cX0_countHolding, 3, (some .int))
abbrev mX1_init : aM := (yX1_init, cX1_init, 1, none)
abbrev mX1_isMissing : aM := (yX1_isMissing, cX1_isMissing, 1, (some .boolean))
abbrev mX1_hasPlace : aM := (yX1_hasPlace, cX1_hasPlace, 2, (some .boolean))
abbrev mX1_lay : aM := (yX1_lay, cX1_lay, 4, none)
abbrev mX1_narrowed : aM := (yX1_narrowed, cX1_narrowed, 2, (some .int))
abbrev mX2_init : aM := (yX2_init, cX2_init, 2, none)
abbrev mX2_sceneItem : aM := (yX2_sceneItem, cX2_sceneItem, 2, (some (.object "TaleBench$Item")))
abbrev mX2_choiceItem : aM := (yX2_choiceItem, cX2_choiceItem, 3, (some (.object "TaleBench$Item")))
abbrev mX2_startItem : aM := (yX2_startItem, cX2_startItem, 1, (some (.object "TaleBench$Item")))
abbrev mX2_copyFrom : aM := (yX2_copyFrom, cX2_copyFrom, 3, none)
abbrev mX2_removeChoices : aM := (yX2_removeChoices, cX2_removeChoices, 3, none)
abbrev mX2_removeLooseChoices : aM := (yX2_removeLooseChoices, cX2_removeLooseChoices, 2, none)
abbrev mX2_choiceBits : aM := (yX2_choiceBits, cX2_choiceBits, 4, (some .int))
abbrev mX2_countScenes : aM := (yX2_countScenes, cX2_countScenes, 3, (some .int))
abbrev mX2_countChoices : aM := (yX2_countChoices, cX2_countChoices, 3, (some .int))
abbrev mX2_hasBeginning : aM := (yX2_hasBeginning, cX2_hasBeginning, 2, (some .boolean))
abbrev mX2_beginningWith : aM := (yX2_beginningWith, cX2_beginningWith, 2, (some .int))
abbrev mX2_isEndingState : aM := (yX2_isEndingState, cX2_isEndingState, 2, (some .boolean))
abbrev mX2_leadsTo : aM := (yX2_leadsTo, cX2_leadsTo, 11, (some .int))
abbrev mX2_findLive : aM := (yX2_findLive, cX2_findLive, 6, none)
abbrev mX2_liveAt : aM := (yX2_liveAt, cX2_liveAt, 8, (some .int))
abbrev mX3_init : aM := (yX3_init, cX3_init, 1, none)
abbrev mX3_add : aM := (yX3_add, cX3_add, 2, none)
abbrev mX3_readNeed : aM := (yX3_readNeed, cX3_readNeed, 4, (some .int))
abbrev mX3_readEither : aM := (yX3_readEither, cX3_readEither, 5, (some .long))
abbrev mX3_readBoth : aM := (yX3_readBoth, cX3_readBoth, 5, (some .long))
abbrev mX3_readOne : aM := (yX3_readOne, cX3_readOne, 3, (some .long))
abbrev mX3_readClosed : aM := (yX3_readClosed, cX3_readClosed, 4, (some .long))
abbrev mX3_sign : aM := (yX3_sign, cX3_sign, 1, (some .int))
abbrev mX3_factBits : aM := (yX3_factBits, cX3_factBits, 2, (some .long))
abbrev mX4_init : aM := (yX4_init, cX4_init, 2, none)
abbrev mX4_clear : aM := (yX4_clear, cX4_clear, 2, none)
abbrev mX4_come : aM := (yX4_come, cX4_come, 3, none)
abbrev mX4_weave : aM := (yX4_weave, cX4_weave, 7, none)
abbrev mX4_spreadMarks : aM := (yX4_spreadMarks, cX4_spreadMarks, 5, none)
abbrev mX4_spreadFrom : aM := (yX4_spreadFrom, cX4_spreadFrom, 9, (some .int))
abbrev mX4_leadsOn : aM := (yX4_leadsOn, cX4_leadsOn, 3, (some .boolean))
abbrev mX4_scenesCome : aM := (yX4_scenesCome, cX4_scenesCome, 3, (some .int))
abbrev mX4_firstOf : aM := (yX4_firstOf, cX4_firstOf, 3, (some .int))
abbrev mX4_choiceOfWay : aM := (yX4_choiceOfWay, cX4_choiceOfWay, 6, (some .int))
abbrev mX4_countPairs : aM := (yX4_countPairs, cX4_countPairs, 5, (some .int))
abbrev mX4_pairOf : aM := (yX4_pairOf, cX4_pairOf, 3, (some .int))
abbrev mX4_countRows : aM := (yX4_countRows, cX4_countRows, 4, none)
abbrev mX4_passRowsOn : aM := (yX4_passRowsOn, cX4_passRowsOn, 4, none)
abbrev mX5_init : aM := (yX5_init, cX5_init, 2, none)
abbrev mX5_feed : aM := (yX5_feed, cX5_feed, 5, (some .int))
abbrev mX5_scene : aM := (yX5_scene, cX5_scene, 5, (some .int))
abbrev mX5_putScene : aM := (yX5_putScene, cX5_putScene, 7, (some .int))
abbrev mX5_loss : aM := (yX5_loss, cX5_loss, 5, (some .int))
abbrev mX5_choice : aM := (yX5_choice, cX5_choice, 6, (some .int))
abbrev mX5_putChoice : aM := (yX5_putChoice, cX5_putChoice, 7, (some .int))
abbrev mX5_gives : aM := (yX5_gives, cX5_gives, 6, (some .int))
abbrev mX5_line : aM := (yX5_line, cX5_line, 6, (some .int))
abbrev mX5_drop : aM := (yX5_drop, cX5_drop, 5, (some .int))
abbrev mX5_start : aM := (yX5_start, cX5_start, 4, (some .int))
abbrev mX5_of : aM := (yX5_of, cX5_of, 4, (some .int))
abbrev mX5_about : aM := (yX5_about, cX5_about, 5, (some .int))
abbrev mX5_states : aM := (yX5_states, cX5_states, 2, (some .int))
abbrev mX5_countEndings : aM := (yX5_countEndings, cX5_countEndings, 3, (some .int))
abbrev mX5_countStuck : aM := (yX5_countStuck, cX5_countStuck, 4, (some .int))
abbrev mX5_countHopeless : aM := (yX5_countHopeless, cX5_countHopeless, 3, (some .int))
abbrev mX5_isHopeless : aM := (yX5_isHopeless, cX5_isHopeless, 2, (some .boolean))
abbrev mX5_reached : aM := (yX5_reached, cX5_reached, 4, (some .int))
abbrev mX5_live : aM := (yX5_live, cX5_live, 2, (some .int))
abbrev mX5_open : aM := (yX5_open, cX5_open, 6, (some .int))
abbrev mX5_trap : aM := (yX5_trap, cX5_trap, 5, (some .int))
abbrev mX5_findTraps : aM := (yX5_findTraps, cX5_findTraps, 3, none)
abbrev mX5_trapsOf : aM := (yX5_trapsOf, cX5_trapsOf, 5, (some .int))
abbrev mX5_way : aM := (yX5_way, cX5_way, 3, (some .int))
abbrev mX5_step : aM := (yX5_step, cX5_step, 4, (some .int))
abbrev mX5_ways : aM := (yX5_ways, cX5_ways, 6, (some .long))
abbrev mX5_freshenWeb : aM := (yX5_freshenWeb, cX5_freshenWeb, 3, none)
abbrev mX5_weaveFromBeginning : aM := (yX5_weaveFromBeginning, cX5_weaveFromBeginning, 2, none)
abbrev mX5_cut : aM := (yX5_cut, cX5_cut, 4, (some .int))
abbrev mX5_mend : aM := (yX5_mend, cX5_mend, 5, (some .int))
abbrev mX5_weaveFromEachMending : aM := (yX5_weaveFromEachMending, cX5_weaveFromEachMending, 2, none)
abbrev mX5_leastMending : aM := (yX5_leastMending, cX5_leastMending, 6, (some .int))
abbrev mX5_sheet : aM := (yX5_sheet, cX5_sheet, 4, (some .int))
abbrev mX5_write : aM := (yX5_write, cX5_write, 6, (some .int))
abbrev mX5_words : aM := (yX5_words, cX5_words, 7, (some .int))
abbrev mX5_takeWords : aM := (yX5_takeWords, cX5_takeWords, 8, (some .int))
abbrev mX5_sessions : aM := (yX5_sessions, cX5_sessions, 8, (some .int))
abbrev mX5_tell : aM := (yX5_tell, cX5_tell, 2, (some .int))
abbrev mX5_play : aM := (yX5_play, cX5_play, 5, (some .int))
abbrev mX5_at : aM := (yX5_at, cX5_at, 2, (some .int))
abbrev mX5_keep : aM := (yX5_keep, cX5_keep, 2, (some .int))
abbrev mX5_back : aM := (yX5_back, cX5_back, 2, (some .int))
abbrev mX5_melt : aM := (yX5_melt, cX5_melt, 4, (some .int))
abbrev mX5_clash : aM := (yX5_clash, cX5_clash, 2, (some .int))
abbrev mX5_clashingItem : aM := (yX5_clashingItem, cX5_clashingItem, 4, (some .int))
abbrev mX5_isClashing : aM := (yX5_isClashing, cX5_isClashing, 3, (some .boolean))
abbrev mX5_count : aM := (yX5_count, cX5_count, 2, (some .int))
abbrev mX5_hostFinding : aM := (yX5_hostFinding, cX5_hostFinding, 2, (some .int))
abbrev mX5_isCut : aM := (yX5_isCut, cX5_isCut, 2, (some .boolean))
abbrev mX5_isScene : aM := (yX5_isScene, cX5_isScene, 1, (some .boolean))
abbrev mX5_isChoice : aM := (yX5_isChoice, cX5_isChoice, 1, (some .boolean))
abbrev mX5_isSet : aM := (yX5_isSet, cX5_isSet, 1, (some .boolean))
abbrev mX5_isVoice : aM := (yX5_isVoice, cX5_isVoice, 1, (some .boolean))
abbrev mX5_isSheet : aM := (yX5_isSheet, cX5_isSheet, 1, (some .boolean))
abbrev mX5_isSort : aM := (yX5_isSort, cX5_isSort, 1, (some .boolean))
abbrev mX5_stateOf : aM := (yX5_stateOf, cX5_stateOf, 2, (some .int))
abbrev mX5_sceneOf : aM := (yX5_sceneOf, cX5_sceneOf, 1, (some .int))
abbrev mX5_factsOf : aM := (yX5_factsOf, cX5_factsOf, 1, (some .int))
abbrev mX6_init : aM := (yX6_init, cX6_init, 2, none)
abbrev mX6_meet : aM := (yX6_meet, cX6_meet, 2, (some .int))
abbrev mX6_isIn : aM := (yX6_isIn, cX6_isIn, 3, (some .boolean))
abbrev mX6_isScene : aM := (yX6_isScene, cX6_isScene, 1, (some .boolean))
abbrev mX6_isPlace : aM := (yX6_isPlace, cX6_isPlace, 2, (some .boolean))
abbrev mX6_isSet : aM := (yX6_isSet, cX6_isSet, 1, (some .boolean))
abbrev mX6_kindOf : aM := (yX6_kindOf, cX6_kindOf, 2, (some .int))
abbrev mX6_isThere : aM := (yX6_isThere, cX6_isThere, 2, (some .boolean))
abbrev mX6_at : aM := (yX6_at, cX6_at, 2, (some .int))
abbrev mX6_hasChoice : aM := (yX6_hasChoice, cX6_hasChoice, 3, (some .boolean))
abbrev mX6_holds : aM := (yX6_holds, cX6_holds, 3, (some .boolean))
abbrev mX6_readBy : aM := (yX6_readBy, cX6_readBy, 5, (some .int))
abbrev mX6_holdsFor : aM := (yX6_holdsFor, cX6_holdsFor, 4, (some .int))
abbrev mX6_feed : aM := (yX6_feed, cX6_feed, 5, (some .int))
abbrev mX6_here : aM := (yX6_here, cX6_here, 1, (some .int))
abbrev mX6_either : aM := (yX6_either, cX6_either, 3, (some .boolean))
abbrev mX6_both : aM := (yX6_both, cX6_both, 3, (some .boolean))
abbrev mX6_one : aM := (yX6_one, cX6_one, 3, (some .boolean))
abbrev mX6_read : aM := (yX6_read, cX6_read, 2, (some .boolean))
abbrev mX6_readNeed : aM := (yX6_readNeed, cX6_readNeed, 4, (some .int))
abbrev mX6_lay : aM := (yX6_lay, cX6_lay, 3, none)
abbrev mX6_clearChoice : aM := (yX6_clearChoice, cX6_clearChoice, 4, none)
abbrev mX6_clearChoices : aM := (yX6_clearChoices, cX6_clearChoices, 3, none)
abbrev mX6_hasNeed : aM := (yX6_hasNeed, cX6_hasNeed, 1, (some .boolean))
abbrev mX6_scene : aM := (yX6_scene, cX6_scene, 7, (some .int))
abbrev mX6_loss : aM := (yX6_loss, cX6_loss, 4, (some .int))
abbrev mX6_choice : aM := (yX6_choice, cX6_choice, 8, (some .int))
abbrev mX6_gives : aM := (yX6_gives, cX6_gives, 5, (some .int))
abbrev mX6_line : aM := (yX6_line, cX6_line, 5, (some .int))
abbrev mX6_drop : aM := (yX6_drop, cX6_drop, 4, (some .int))
abbrev mX6_start : aM := (yX6_start, cX6_start, 3, (some .int))
abbrev mX6_of : aM := (yX6_of, cX6_of, 5, (some .int))
abbrev mX6_about : aM := (yX6_about, cX6_about, 5, (some .int))
abbrev mX6_isEnding : aM := (yX6_isEnding, cX6_isEnding, 2, (some .boolean))
abbrev mX6_isShut : aM := (yX6_isShut, cX6_isShut, 3, (some .boolean))
abbrev mX6_leads : aM := (yX6_leads, cX6_leads, 9, (some .int))
abbrev mX6_reach : aM := (yX6_reach, cX6_reach, 6, none)
abbrev mX6_reach_ : aM := (yX6_reach_, cX6_reach_, 1, none)
abbrev mX6_isStuck : aM := (yX6_isStuck, cX6_isStuck, 4, (some .boolean))
abbrev mX6_tellHope : aM := (yX6_tellHope, cX6_tellHope, 5, none)
abbrev mX6_tellLives : aM := (yX6_tellLives, cX6_tellLives, 4, none)
abbrev mX6_liveAt : aM := (yX6_liveAt, cX6_liveAt, 7, (some .int))
abbrev mX6_states : aM := (yX6_states, cX6_states, 7, (some .int))
abbrev mX6_reached : aM := (yX6_reached, cX6_reached, 4, (some .int))
abbrev mX6_live : aM := (yX6_live, cX6_live, 2, (some .int))
abbrev mX6_open : aM := (yX6_open, cX6_open, 5, (some .int))
abbrev mX6_isTrap : aM := (yX6_isTrap, cX6_isTrap, 7, (some .boolean))
abbrev mX6_trap : aM := (yX6_trap, cX6_trap, 5, (some .int))
abbrev mX6_nearest : aM := (yX6_nearest, cX6_nearest, 5, (some .int))
abbrev mX6_way : aM := (yX6_way, cX6_way, 3, (some .int))
abbrev mX6_step : aM := (yX6_step, cX6_step, 8, (some .int))
abbrev mX6_goesOn : aM := (yX6_goesOn, cX6_goesOn, 5, (some .boolean))
abbrev mX6_ways : aM := (yX6_ways, cX6_ways, 6, (some .long))
abbrev mX6_cut : aM := (yX6_cut, cX6_cut, 4, (some .int))
abbrev mX6_reachedScenes : aM := (yX6_reachedScenes, cX6_reachedScenes, 3, (some .int))
abbrev mX6_size : aM := (yX6_size, cX6_size, 3, (some .int))
abbrev mX6_mend : aM := (yX6_mend, cX6_mend, 4, (some .int))
abbrev mX6_isSheet : aM := (yX6_isSheet, cX6_isSheet, 1, (some .boolean))
abbrev mX6_sheet : aM := (yX6_sheet, cX6_sheet, 5, (some .int))
abbrev mX6_write : aM := (yX6_write, cX6_write, 5, (some .int))
abbrev mX6_words : aM := (yX6_words, cX6_words, 8, (some .int))
abbrev mX6_sessions : aM := (yX6_sessions, cX6_sessions, 8, (some .int))
abbrev mX6_tell : aM := (yX6_tell, cX6_tell, 2, (some .int))
abbrev mX6_play : aM := (yX6_play, cX6_play, 7, (some .int))
abbrev mX6_at_ : aM := (yX6_at_, cX6_at_, 2, (some .int))
abbrev mX6_carry : aM := (yX6_carry, cX6_carry, 3, none)
abbrev mX6_keep : aM := (yX6_keep, cX6_keep, 2, (some .int))
abbrev mX6_back : aM := (yX6_back, cX6_back, 2, (some .int))
abbrev mX6_itemFrom : aM := (yX6_itemFrom, cX6_itemFrom, 1, (some .int))
abbrev mX6_itemWide : aM := (yX6_itemWide, cX6_itemWide, 1, (some .int))
abbrev mX6_differs : aM := (yX6_differs, cX6_differs, 6, (some .boolean))
abbrev mX6_clashes : aM := (yX6_clashes, cX6_clashes, 2, (some .boolean))
abbrev mX6_melt : aM := (yX6_melt, cX6_melt, 5, (some .int))
abbrev mX6_clash : aM := (yX6_clash, cX6_clash, 4, (some .int))
abbrev mX6_count : aM := (yX6_count, cX6_count, 6, (some .int))
abbrev mJ6_bitCount_0f7a4 : aM := (yJ6_bitCount_0f7a4, cJ6_bitCount_0f7a4, 1, (some .int))
abbrev mJ13_bitCount_95d88 : aM := (yJ13_bitCount_95d88, cJ13_bitCount_95d88, 2, (some .int))
abbrev mJ9_max_7cf53 : aM := (yJ9_max_7cf53, cJ9_max_7cf53, 2, (some .int))
abbrev mJ9_min_7cf53 : aM := (yJ9_min_7cf53, cJ9_min_7cf53, 2, (some .int))
theorem MX0_init : am_MI mX0_init 1 := ⟨⟨by decide +kernel, by decide +kernel, ⟨by decide +kernel, by decide +kernel, by decide +kernel⟩, by decide⟩, by decide +kernel, by decide +kernel⟩
theorem MX0_isThere : am_MV mX0_isThere 0 0 := ⟨⟨by decide +kernel, by decide +kernel, ⟨by decide +kernel, by decide +kernel, by decide +kernel⟩, by decide⟩, by decide +kernel, by decide +kernel, rfl, by decide⟩
theorem MX0_isEnding : am_MV mX0_isEnding 0 0 := ⟨⟨by decide +kernel, by decide +kernel, ⟨by decide +kernel, by decide +kernel, by decide +kernel⟩, by decide⟩, by decide +kernel, by decide +kernel, rfl, by decide⟩
theorem MX0_become : am_MV mX0_become 1 0 := ⟨⟨by decide +kernel, by decide +kernel, ⟨by decide +kernel, by decide +kernel, by decide +kernel⟩, by decide⟩, by decide +kernel, by decide +kernel, rfl, by decide⟩
theorem MX0_copyFrom : am_MV mX0_copyFrom 1 0 := ⟨⟨by decide +kernel, by decide +kernel, ⟨by decide +kernel, by decide +kernel, by decide +kernel⟩, by decide⟩, by decide +kernel, by decide +kernel, rfl, by decide⟩
theorem MX0_sameAs : am_MV mX0_sameAs 1 0 := ⟨⟨by decide +kernel, by decide +kernel, ⟨by decide +kernel, by decide +kernel, by decide +kernel⟩, by decide⟩, by decide +kernel, by decide +kernel, rfl, by decide⟩
theorem MX0_putNeed : am_MV mX0_putNeed 1 0 := ⟨⟨by decide +kernel, by decide +kernel, ⟨by decide +kernel, by decide +kernel, by decide +kernel⟩, by decide⟩, by decide +kernel, by decide +kernel, rfl, by decide⟩
theorem MX0_readsFact : am_MV mX0_readsFact 1 0 := ⟨⟨by decide +kernel, by decide +kernel, ⟨by decide +kernel, by decide +kernel, by decide +kernel⟩, by decide⟩, by decide +kernel, by decide +kernel, rfl, by decide⟩
theorem MX0_holdsFor : am_MV mX0_holdsFor 1 0 := ⟨⟨by decide +kernel, by decide +kernel, ⟨by decide +kernel, by decide +kernel, by decide +kernel⟩, by decide⟩, by decide +kernel, by decide +kernel, rfl, by decide⟩
theorem MX0_countHolding : am_MV mX0_countHolding 0 0 := ⟨⟨by decide +kernel, by decide +kernel, ⟨by decide +kernel, by decide +kernel, by decide +kernel⟩, by decide⟩, by decide +kernel, by decide +kernel, rfl, by decide⟩
theorem MX1_init : am_MI mX1_init 0 := ⟨⟨by decide +kernel, by decide +kernel, ⟨by decide +kernel, by decide +kernel, by decide +kernel⟩, by decide⟩, by decide +kernel, by decide +kernel⟩
theorem MX1_isMissing : am_MV mX1_isMissing 0 1 := ⟨⟨by decide +kernel, by decide +kernel, ⟨by decide +kernel, by decide +kernel, by decide +kernel⟩, by decide⟩, by decide +kernel, by decide +kernel, rfl, by decide⟩
theorem MX1_hasPlace : am_MV mX1_hasPlace 1 1 := ⟨⟨by decide +kernel, by decide +kernel, ⟨by decide +kernel, by decide +kernel, by decide +kernel⟩, by decide⟩, by decide +kernel, by decide +kernel, rfl, by decide⟩
theorem MX1_lay : am_MV mX1_lay 2 1 := ⟨⟨by decide +kernel, by decide +kernel, ⟨by decide +kernel, by decide +kernel, by decide +kernel⟩, by decide⟩, by decide +kernel, by decide +kernel, rfl, by decide⟩
theorem MX1_narrowed : am_MV mX1_narrowed 1 1 := ⟨⟨by decide +kernel, by decide +kernel, ⟨by decide +kernel, by decide +kernel, by decide +kernel⟩, by decide⟩, by decide +kernel, by decide +kernel, rfl, by decide⟩
theorem MX2_init : am_MI mX2_init 0 := ⟨⟨by decide +kernel, by decide +kernel, ⟨by decide +kernel, by decide +kernel, by decide +kernel⟩, by decide⟩, by decide +kernel, by decide +kernel⟩
theorem MX2_sceneItem : am_MV mX2_sceneItem 1 2 := ⟨⟨by decide +kernel, by decide +kernel, ⟨by decide +kernel, by decide +kernel, by decide +kernel⟩, by decide⟩, by decide +kernel, by decide +kernel, rfl, by decide⟩
theorem MX2_choiceItem : am_MV mX2_choiceItem 2 2 := ⟨⟨by decide +kernel, by decide +kernel, ⟨by decide +kernel, by decide +kernel, by decide +kernel⟩, by decide⟩, by decide +kernel, by decide +kernel, rfl, by decide⟩
theorem MX2_startItem : am_MV mX2_startItem 0 2 := ⟨⟨by decide +kernel, by decide +kernel, ⟨by decide +kernel, by decide +kernel, by decide +kernel⟩, by decide⟩, by decide +kernel, by decide +kernel, rfl, by decide⟩
theorem MX2_copyFrom : am_MV mX2_copyFrom 1 2 := ⟨⟨by decide +kernel, by decide +kernel, ⟨by decide +kernel, by decide +kernel, by decide +kernel⟩, by decide⟩, by decide +kernel, by decide +kernel, rfl, by decide⟩
theorem MX2_removeChoices : am_MV mX2_removeChoices 1 2 := ⟨⟨by decide +kernel, by decide +kernel, ⟨by decide +kernel, by decide +kernel, by decide +kernel⟩, by decide⟩, by decide +kernel, by decide +kernel, rfl, by decide⟩
theorem MX2_removeLooseChoices : am_MV mX2_removeLooseChoices 0 2 := ⟨⟨by decide +kernel, by decide +kernel, ⟨by decide +kernel, by decide +kernel, by decide +kernel⟩, by decide⟩, by decide +kernel, by decide +kernel, rfl, by decide⟩
theorem MX2_choiceBits : am_MV mX2_choiceBits 1 2 := ⟨⟨by decide +kernel, by decide +kernel, ⟨by decide +kernel, by decide +kernel, by decide +kernel⟩, by decide⟩, by decide +kernel, by decide +kernel, rfl, by decide⟩
theorem MX2_countScenes : am_MV mX2_countScenes 0 2 := ⟨⟨by decide +kernel, by decide +kernel, ⟨by decide +kernel, by decide +kernel, by decide +kernel⟩, by decide⟩, by decide +kernel, by decide +kernel, rfl, by decide⟩
theorem MX2_countChoices : am_MV mX2_countChoices 0 2 := ⟨⟨by decide +kernel, by decide +kernel, ⟨by decide +kernel, by decide +kernel, by decide +kernel⟩, by decide⟩, by decide +kernel, by decide +kernel, rfl, by decide⟩
theorem MX2_hasBeginning : am_MV mX2_hasBeginning 1 2 := ⟨⟨by decide +kernel, by decide +kernel, ⟨by decide +kernel, by decide +kernel, by decide +kernel⟩, by decide⟩, by decide +kernel, by decide +kernel, rfl, by decide⟩
theorem MX2_beginningWith : am_MV mX2_beginningWith 1 2 := ⟨⟨by decide +kernel, by decide +kernel, ⟨by decide +kernel, by decide +kernel, by decide +kernel⟩, by decide⟩, by decide +kernel, by decide +kernel, rfl, by decide⟩
theorem MX2_isEndingState : am_MV mX2_isEndingState 1 2 := ⟨⟨by decide +kernel, by decide +kernel, ⟨by decide +kernel, by decide +kernel, by decide +kernel⟩, by decide⟩, by decide +kernel, by decide +kernel, rfl, by decide⟩
theorem MX2_leadsTo : am_MV mX2_leadsTo 3 2 := ⟨⟨by decide +kernel, by decide +kernel, ⟨by decide +kernel, by decide +kernel, by decide +kernel⟩, by decide⟩, by decide +kernel, by decide +kernel, rfl, by decide⟩
theorem MX2_findLive : am_MV mX2_findLive 1 2 := ⟨⟨by decide +kernel, by decide +kernel, ⟨by decide +kernel, by decide +kernel, by decide +kernel⟩, by decide⟩, by decide +kernel, by decide +kernel, rfl, by decide⟩
theorem MX2_liveAt : am_MV mX2_liveAt 2 2 := ⟨⟨by decide +kernel, by decide +kernel, ⟨by decide +kernel, by decide +kernel, by decide +kernel⟩, by decide⟩, by decide +kernel, by decide +kernel, rfl, by decide⟩
theorem MX3_init : am_MI mX3_init 0 := ⟨⟨by decide +kernel, by decide +kernel, ⟨by decide +kernel, by decide +kernel, by decide +kernel⟩, by decide⟩, by decide +kernel, by decide +kernel⟩
theorem MX3_add : am_MV mX3_add 1 3 := ⟨⟨by decide +kernel, by decide +kernel, ⟨by decide +kernel, by decide +kernel, by decide +kernel⟩, by decide⟩, by decide +kernel, by decide +kernel, rfl, by decide⟩
theorem MX3_readNeed : am_MV mX3_readNeed 0 3 := ⟨⟨by decide +kernel, by decide +kernel, ⟨by decide +kernel, by decide +kernel, by decide +kernel⟩, by decide⟩, by decide +kernel, by decide +kernel, rfl, by decide⟩
theorem MX3_readEither : am_MV mX3_readEither 1 3 := ⟨⟨by decide +kernel, by decide +kernel, ⟨by decide +kernel, by decide +kernel, by decide +kernel⟩, by decide⟩, by decide +kernel, by decide +kernel, rfl, by decide⟩
theorem MX3_readBoth : am_MV mX3_readBoth 1 3 := ⟨⟨by decide +kernel, by decide +kernel, ⟨by decide +kernel, by decide +kernel, by decide +kernel⟩, by decide⟩, by decide +kernel, by decide +kernel, rfl, by decide⟩
theorem MX3_readOne : am_MV mX3_readOne 1 3 := ⟨⟨by decide +kernel, by decide +kernel, ⟨by decide +kernel, by decide +kernel, by decide +kernel⟩, by decide⟩, by decide +kernel, by decide +kernel, rfl, by decide⟩
theorem MX3_readClosed : am_MV mX3_readClosed 1 3 := ⟨⟨by decide +kernel, by decide +kernel, ⟨by decide +kernel, by decide +kernel, by decide +kernel⟩, by decide⟩, by decide +kernel, by decide +kernel, rfl, by decide⟩
theorem MX3_sign : am_MV mX3_sign 0 3 := ⟨⟨by decide +kernel, by decide +kernel, ⟨by decide +kernel, by decide +kernel, by decide +kernel⟩, by decide⟩, by decide +kernel, by decide +kernel, rfl, by decide⟩
theorem MX3_factBits : am_MV mX3_factBits 1 3 := ⟨⟨by decide +kernel, by decide +kernel, ⟨by decide +kernel, by decide +kernel, by decide +kernel⟩, by decide⟩, by decide +kernel, by decide +kernel, rfl, by decide⟩
theorem MX4_init : am_MI mX4_init 0 := ⟨⟨by decide +kernel, by decide +kernel, ⟨by decide +kernel, by decide +kernel, by decide +kernel⟩, by decide⟩, by decide +kernel, by decide +kernel⟩
theorem MX4_clear : am_MV mX4_clear 0 4 := ⟨⟨by decide +kernel, by decide +kernel, ⟨by decide +kernel, by decide +kernel, by decide +kernel⟩, by decide⟩, by decide +kernel, by decide +kernel, rfl, by decide⟩
theorem MX4_come : am_MV mX4_come 2 4 := ⟨⟨by decide +kernel, by decide +kernel, ⟨by decide +kernel, by decide +kernel, by decide +kernel⟩, by decide⟩, by decide +kernel, by decide +kernel, rfl, by decide⟩
theorem MX4_weave : am_MV mX4_weave 2 4 := ⟨⟨by decide +kernel, by decide +kernel, ⟨by decide +kernel, by decide +kernel, by decide +kernel⟩, by decide⟩, by decide +kernel, by decide +kernel, rfl, by decide⟩
theorem MX4_spreadMarks : am_MV mX4_spreadMarks 0 4 := ⟨⟨by decide +kernel, by decide +kernel, ⟨by decide +kernel, by decide +kernel, by decide +kernel⟩, by decide⟩, by decide +kernel, by decide +kernel, rfl, by decide⟩
theorem MX4_spreadFrom : am_MV mX4_spreadFrom 3 4 := ⟨⟨by decide +kernel, by decide +kernel, ⟨by decide +kernel, by decide +kernel, by decide +kernel⟩, by decide⟩, by decide +kernel, by decide +kernel, rfl, by decide⟩
theorem MX4_leadsOn : am_MV mX4_leadsOn 1 4 := ⟨⟨by decide +kernel, by decide +kernel, ⟨by decide +kernel, by decide +kernel, by decide +kernel⟩, by decide⟩, by decide +kernel, by decide +kernel, rfl, by decide⟩
theorem MX4_scenesCome : am_MV mX4_scenesCome 0 4 := ⟨⟨by decide +kernel, by decide +kernel, ⟨by decide +kernel, by decide +kernel, by decide +kernel⟩, by decide⟩, by decide +kernel, by decide +kernel, rfl, by decide⟩
theorem MX4_firstOf : am_MV mX4_firstOf 1 4 := ⟨⟨by decide +kernel, by decide +kernel, ⟨by decide +kernel, by decide +kernel, by decide +kernel⟩, by decide⟩, by decide +kernel, by decide +kernel, rfl, by decide⟩
theorem MX4_choiceOfWay : am_MV mX4_choiceOfWay 2 4 := ⟨⟨by decide +kernel, by decide +kernel, ⟨by decide +kernel, by decide +kernel, by decide +kernel⟩, by decide⟩, by decide +kernel, by decide +kernel, rfl, by decide⟩
theorem MX4_countPairs : am_MV mX4_countPairs 1 4 := ⟨⟨by decide +kernel, by decide +kernel, ⟨by decide +kernel, by decide +kernel, by decide +kernel⟩, by decide⟩, by decide +kernel, by decide +kernel, rfl, by decide⟩
theorem MX4_pairOf : am_MS mX4_pairOf 2 := ⟨⟨by decide +kernel, by decide +kernel, ⟨by decide +kernel, by decide +kernel, by decide +kernel⟩, by decide⟩, by decide +kernel⟩
theorem MX4_countRows : am_MV mX4_countRows 1 4 := ⟨⟨by decide +kernel, by decide +kernel, ⟨by decide +kernel, by decide +kernel, by decide +kernel⟩, by decide⟩, by decide +kernel, by decide +kernel, rfl, by decide⟩
theorem MX4_passRowsOn : am_MV mX4_passRowsOn 1 4 := ⟨⟨by decide +kernel, by decide +kernel, ⟨by decide +kernel, by decide +kernel, by decide +kernel⟩, by decide⟩, by decide +kernel, by decide +kernel, rfl, by decide⟩
theorem MX5_init : am_MI mX5_init 0 := ⟨⟨by decide +kernel, by decide +kernel, ⟨by decide +kernel, by decide +kernel, by decide +kernel⟩, by decide⟩, by decide +kernel, by decide +kernel⟩
theorem MX5_feed : am_MV mX5_feed 2 5 := ⟨⟨by decide +kernel, by decide +kernel, ⟨by decide +kernel, by decide +kernel, by decide +kernel⟩, by decide⟩, by decide +kernel, by decide +kernel, rfl, by decide⟩
theorem MX5_scene : am_MV mX5_scene 2 5 := ⟨⟨by decide +kernel, by decide +kernel, ⟨by decide +kernel, by decide +kernel, by decide +kernel⟩, by decide⟩, by decide +kernel, by decide +kernel, rfl, by decide⟩
theorem MX5_putScene : am_MV mX5_putScene 2 5 := ⟨⟨by decide +kernel, by decide +kernel, ⟨by decide +kernel, by decide +kernel, by decide +kernel⟩, by decide⟩, by decide +kernel, by decide +kernel, rfl, by decide⟩
theorem MX5_loss : am_MV mX5_loss 2 5 := ⟨⟨by decide +kernel, by decide +kernel, ⟨by decide +kernel, by decide +kernel, by decide +kernel⟩, by decide⟩, by decide +kernel, by decide +kernel, rfl, by decide⟩
theorem MX5_choice : am_MV mX5_choice 3 5 := ⟨⟨by decide +kernel, by decide +kernel, ⟨by decide +kernel, by decide +kernel, by decide +kernel⟩, by decide⟩, by decide +kernel, by decide +kernel, rfl, by decide⟩
theorem MX5_putChoice : am_MV mX5_putChoice 3 5 := ⟨⟨by decide +kernel, by decide +kernel, ⟨by decide +kernel, by decide +kernel, by decide +kernel⟩, by decide⟩, by decide +kernel, by decide +kernel, rfl, by decide⟩
theorem MX5_gives : am_MV mX5_gives 4 5 := ⟨⟨by decide +kernel, by decide +kernel, ⟨by decide +kernel, by decide +kernel, by decide +kernel⟩, by decide⟩, by decide +kernel, by decide +kernel, rfl, by decide⟩
theorem MX5_line : am_MV mX5_line 4 5 := ⟨⟨by decide +kernel, by decide +kernel, ⟨by decide +kernel, by decide +kernel, by decide +kernel⟩, by decide⟩, by decide +kernel, by decide +kernel, rfl, by decide⟩
theorem MX5_drop : am_MV mX5_drop 2 5 := ⟨⟨by decide +kernel, by decide +kernel, ⟨by decide +kernel, by decide +kernel, by decide +kernel⟩, by decide⟩, by decide +kernel, by decide +kernel, rfl, by decide⟩
theorem MX5_start : am_MV mX5_start 1 5 := ⟨⟨by decide +kernel, by decide +kernel, ⟨by decide +kernel, by decide +kernel, by decide +kernel⟩, by decide⟩, by decide +kernel, by decide +kernel, rfl, by decide⟩
theorem MX5_of : am_MV mX5_of 2 5 := ⟨⟨by decide +kernel, by decide +kernel, ⟨by decide +kernel, by decide +kernel, by decide +kernel⟩, by decide⟩, by decide +kernel, by decide +kernel, rfl, by decide⟩
theorem MX5_about : am_MV mX5_about 3 5 := ⟨⟨by decide +kernel, by decide +kernel, ⟨by decide +kernel, by decide +kernel, by decide +kernel⟩, by decide⟩, by decide +kernel, by decide +kernel, rfl, by decide⟩
theorem MX5_states : am_MV mX5_states 1 5 := ⟨⟨by decide +kernel, by decide +kernel, ⟨by decide +kernel, by decide +kernel, by decide +kernel⟩, by decide⟩, by decide +kernel, by decide +kernel, rfl, by decide⟩
theorem MX5_countEndings : am_MV mX5_countEndings 0 5 := ⟨⟨by decide +kernel, by decide +kernel, ⟨by decide +kernel, by decide +kernel, by decide +kernel⟩, by decide⟩, by decide +kernel, by decide +kernel, rfl, by decide⟩
theorem MX5_countStuck : am_MV mX5_countStuck 0 5 := ⟨⟨by decide +kernel, by decide +kernel, ⟨by decide +kernel, by decide +kernel, by decide +kernel⟩, by decide⟩, by decide +kernel, by decide +kernel, rfl, by decide⟩
theorem MX5_countHopeless : am_MV mX5_countHopeless 0 5 := ⟨⟨by decide +kernel, by decide +kernel, ⟨by decide +kernel, by decide +kernel, by decide +kernel⟩, by decide⟩, by decide +kernel, by decide +kernel, rfl, by decide⟩
theorem MX5_isHopeless : am_MV mX5_isHopeless 1 5 := ⟨⟨by decide +kernel, by decide +kernel, ⟨by decide +kernel, by decide +kernel, by decide +kernel⟩, by decide⟩, by decide +kernel, by decide +kernel, rfl, by decide⟩
theorem MX5_reached : am_MV mX5_reached 1 5 := ⟨⟨by decide +kernel, by decide +kernel, ⟨by decide +kernel, by decide +kernel, by decide +kernel⟩, by decide⟩, by decide +kernel, by decide +kernel, rfl, by decide⟩
theorem MX5_live : am_MV mX5_live 1 5 := ⟨⟨by decide +kernel, by decide +kernel, ⟨by decide +kernel, by decide +kernel, by decide +kernel⟩, by decide⟩, by decide +kernel, by decide +kernel, rfl, by decide⟩
theorem MX5_open : am_MV mX5_open 2 5 := ⟨⟨by decide +kernel, by decide +kernel, ⟨by decide +kernel, by decide +kernel, by decide +kernel⟩, by decide⟩, by decide +kernel, by decide +kernel, rfl, by decide⟩
theorem MX5_trap : am_MV mX5_trap 1 5 := ⟨⟨by decide +kernel, by decide +kernel, ⟨by decide +kernel, by decide +kernel, by decide +kernel⟩, by decide⟩, by decide +kernel, by decide +kernel, rfl, by decide⟩
theorem MX5_findTraps : am_MV mX5_findTraps 0 5 := ⟨⟨by decide +kernel, by decide +kernel, ⟨by decide +kernel, by decide +kernel, by decide +kernel⟩, by decide⟩, by decide +kernel, by decide +kernel, rfl, by decide⟩
theorem MX5_trapsOf : am_MV mX5_trapsOf 1 5 := ⟨⟨by decide +kernel, by decide +kernel, ⟨by decide +kernel, by decide +kernel, by decide +kernel⟩, by decide⟩, by decide +kernel, by decide +kernel, rfl, by decide⟩
theorem MX5_way : am_MV mX5_way 1 5 := ⟨⟨by decide +kernel, by decide +kernel, ⟨by decide +kernel, by decide +kernel, by decide +kernel⟩, by decide⟩, by decide +kernel, by decide +kernel, rfl, by decide⟩
theorem MX5_step : am_MV mX5_step 2 5 := ⟨⟨by decide +kernel, by decide +kernel, ⟨by decide +kernel, by decide +kernel, by decide +kernel⟩, by decide⟩, by decide +kernel, by decide +kernel, rfl, by decide⟩
theorem MX5_ways : am_MV mX5_ways 1 5 := ⟨⟨by decide +kernel, by decide +kernel, ⟨by decide +kernel, by decide +kernel, by decide +kernel⟩, by decide⟩, by decide +kernel, by decide +kernel, rfl, by decide⟩
theorem MX5_freshenWeb : am_MV mX5_freshenWeb 0 5 := ⟨⟨by decide +kernel, by decide +kernel, ⟨by decide +kernel, by decide +kernel, by decide +kernel⟩, by decide⟩, by decide +kernel, by decide +kernel, rfl, by decide⟩
theorem MX5_weaveFromBeginning : am_MV mX5_weaveFromBeginning 1 5 := ⟨⟨by decide +kernel, by decide +kernel, ⟨by decide +kernel, by decide +kernel, by decide +kernel⟩, by decide⟩, by decide +kernel, by decide +kernel, rfl, by decide⟩
theorem MX5_cut : am_MV mX5_cut 2 5 := ⟨⟨by decide +kernel, by decide +kernel, ⟨by decide +kernel, by decide +kernel, by decide +kernel⟩, by decide⟩, by decide +kernel, by decide +kernel, rfl, by decide⟩
theorem MX5_mend : am_MV mX5_mend 0 5 := ⟨⟨by decide +kernel, by decide +kernel, ⟨by decide +kernel, by decide +kernel, by decide +kernel⟩, by decide⟩, by decide +kernel, by decide +kernel, rfl, by decide⟩
theorem MX5_weaveFromEachMending : am_MV mX5_weaveFromEachMending 0 5 := ⟨⟨by decide +kernel, by decide +kernel, ⟨by decide +kernel, by decide +kernel, by decide +kernel⟩, by decide⟩, by decide +kernel, by decide +kernel, rfl, by decide⟩
theorem MX5_leastMending : am_MV mX5_leastMending 1 5 := ⟨⟨by decide +kernel, by decide +kernel, ⟨by decide +kernel, by decide +kernel, by decide +kernel⟩, by decide⟩, by decide +kernel, by decide +kernel, rfl, by decide⟩
theorem MX5_sheet : am_MV mX5_sheet 3 5 := ⟨⟨by decide +kernel, by decide +kernel, ⟨by decide +kernel, by decide +kernel, by decide +kernel⟩, by decide⟩, by decide +kernel, by decide +kernel, rfl, by decide⟩
theorem MX5_write : am_MV mX5_write 3 5 := ⟨⟨by decide +kernel, by decide +kernel, ⟨by decide +kernel, by decide +kernel, by decide +kernel⟩, by decide⟩, by decide +kernel, by decide +kernel, rfl, by decide⟩
theorem MX5_words : am_MV mX5_words 4 5 := ⟨⟨by decide +kernel, by decide +kernel, ⟨by decide +kernel, by decide +kernel, by decide +kernel⟩, by decide⟩, by decide +kernel, by decide +kernel, rfl, by decide⟩
theorem MX5_takeWords : am_MV mX5_takeWords 3 5 := ⟨⟨by decide +kernel, by decide +kernel, ⟨by decide +kernel, by decide +kernel, by decide +kernel⟩, by decide⟩, by decide +kernel, by decide +kernel, rfl, by decide⟩
theorem MX5_sessions : am_MV mX5_sessions 2 5 := ⟨⟨by decide +kernel, by decide +kernel, ⟨by decide +kernel, by decide +kernel, by decide +kernel⟩, by decide⟩, by decide +kernel, by decide +kernel, rfl, by decide⟩
theorem MX5_tell : am_MV mX5_tell 1 5 := ⟨⟨by decide +kernel, by decide +kernel, ⟨by decide +kernel, by decide +kernel, by decide +kernel⟩, by decide⟩, by decide +kernel, by decide +kernel, rfl, by decide⟩
theorem MX5_play : am_MV mX5_play 0 5 := ⟨⟨by decide +kernel, by decide +kernel, ⟨by decide +kernel, by decide +kernel, by decide +kernel⟩, by decide⟩, by decide +kernel, by decide +kernel, rfl, by decide⟩
theorem MX5_at : am_MV mX5_at 1 5 := ⟨⟨by decide +kernel, by decide +kernel, ⟨by decide +kernel, by decide +kernel, by decide +kernel⟩, by decide⟩, by decide +kernel, by decide +kernel, rfl, by decide⟩
theorem MX5_keep : am_MV mX5_keep 1 5 := ⟨⟨by decide +kernel, by decide +kernel, ⟨by decide +kernel, by decide +kernel, by decide +kernel⟩, by decide⟩, by decide +kernel, by decide +kernel, rfl, by decide⟩
theorem MX5_back : am_MV mX5_back 1 5 := ⟨⟨by decide +kernel, by decide +kernel, ⟨by decide +kernel, by decide +kernel, by decide +kernel⟩, by decide⟩, by decide +kernel, by decide +kernel, rfl, by decide⟩
theorem MX5_melt : am_MV mX5_melt 0 5 := ⟨⟨by decide +kernel, by decide +kernel, ⟨by decide +kernel, by decide +kernel, by decide +kernel⟩, by decide⟩, by decide +kernel, by decide +kernel, rfl, by decide⟩
theorem MX5_clash : am_MV mX5_clash 1 5 := ⟨⟨by decide +kernel, by decide +kernel, ⟨by decide +kernel, by decide +kernel, by decide +kernel⟩, by decide⟩, by decide +kernel, by decide +kernel, rfl, by decide⟩
theorem MX5_clashingItem : am_MV mX5_clashingItem 1 5 := ⟨⟨by decide +kernel, by decide +kernel, ⟨by decide +kernel, by decide +kernel, by decide +kernel⟩, by decide⟩, by decide +kernel, by decide +kernel, rfl, by decide⟩
theorem MX5_isClashing : am_MS mX5_isClashing 3 := ⟨⟨by decide +kernel, by decide +kernel, ⟨by decide +kernel, by decide +kernel, by decide +kernel⟩, by decide⟩, by decide +kernel⟩
theorem MX5_count : am_MV mX5_count 1 5 := ⟨⟨by decide +kernel, by decide +kernel, ⟨by decide +kernel, by decide +kernel, by decide +kernel⟩, by decide⟩, by decide +kernel, by decide +kernel, rfl, by decide⟩
theorem MX5_hostFinding : am_MV mX5_hostFinding 1 5 := ⟨⟨by decide +kernel, by decide +kernel, ⟨by decide +kernel, by decide +kernel, by decide +kernel⟩, by decide⟩, by decide +kernel, by decide +kernel, rfl, by decide⟩
theorem MX5_isCut : am_MV mX5_isCut 1 5 := ⟨⟨by decide +kernel, by decide +kernel, ⟨by decide +kernel, by decide +kernel, by decide +kernel⟩, by decide⟩, by decide +kernel, by decide +kernel, rfl, by decide⟩
theorem MX5_isScene : am_MS mX5_isScene 1 := ⟨⟨by decide +kernel, by decide +kernel, ⟨by decide +kernel, by decide +kernel, by decide +kernel⟩, by decide⟩, by decide +kernel⟩
theorem MX5_isChoice : am_MS mX5_isChoice 1 := ⟨⟨by decide +kernel, by decide +kernel, ⟨by decide +kernel, by decide +kernel, by decide +kernel⟩, by decide⟩, by decide +kernel⟩
theorem MX5_isSet : am_MS mX5_isSet 1 := ⟨⟨by decide +kernel, by decide +kernel, ⟨by decide +kernel, by decide +kernel, by decide +kernel⟩, by decide⟩, by decide +kernel⟩
theorem MX5_isVoice : am_MS mX5_isVoice 1 := ⟨⟨by decide +kernel, by decide +kernel, ⟨by decide +kernel, by decide +kernel, by decide +kernel⟩, by decide⟩, by decide +kernel⟩
theorem MX5_isSheet : am_MS mX5_isSheet 1 := ⟨⟨by decide +kernel, by decide +kernel, ⟨by decide +kernel, by decide +kernel, by decide +kernel⟩, by decide⟩, by decide +kernel⟩
theorem MX5_isSort : am_MS mX5_isSort 1 := ⟨⟨by decide +kernel, by decide +kernel, ⟨by decide +kernel, by decide +kernel, by decide +kernel⟩, by decide⟩, by decide +kernel⟩
theorem MX5_stateOf : am_MS mX5_stateOf 2 := ⟨⟨by decide +kernel, by decide +kernel, ⟨by decide +kernel, by decide +kernel, by decide +kernel⟩, by decide⟩, by decide +kernel⟩
theorem MX5_sceneOf : am_MS mX5_sceneOf 1 := ⟨⟨by decide +kernel, by decide +kernel, ⟨by decide +kernel, by decide +kernel, by decide +kernel⟩, by decide⟩, by decide +kernel⟩
theorem MX5_factsOf : am_MS mX5_factsOf 1 := ⟨⟨by decide +kernel, by decide +kernel, ⟨by decide +kernel, by decide +kernel, by decide +kernel⟩, by decide⟩, by decide +kernel⟩
theorem MX6_init : am_MI mX6_init 0 := ⟨⟨by decide +kernel, by decide +kernel, ⟨by decide +kernel, by decide +kernel, by decide +kernel⟩, by decide⟩, by decide +kernel, by decide +kernel⟩
theorem MX6_meet : am_MV mX6_meet 1 6 := ⟨⟨by decide +kernel, by decide +kernel, ⟨by decide +kernel, by decide +kernel, by decide +kernel⟩, by decide⟩, by decide +kernel, by decide +kernel, rfl, by decide⟩
theorem MX6_isIn : am_MS mX6_isIn 3 := ⟨⟨by decide +kernel, by decide +kernel, ⟨by decide +kernel, by decide +kernel, by decide +kernel⟩, by decide⟩, by decide +kernel⟩
theorem MX6_isScene : am_MS mX6_isScene 1 := ⟨⟨by decide +kernel, by decide +kernel, ⟨by decide +kernel, by decide +kernel, by decide +kernel⟩, by decide⟩, by decide +kernel⟩
theorem MX6_isPlace : am_MS mX6_isPlace 2 := ⟨⟨by decide +kernel, by decide +kernel, ⟨by decide +kernel, by decide +kernel, by decide +kernel⟩, by decide⟩, by decide +kernel⟩
theorem MX6_isSet : am_MS mX6_isSet 1 := ⟨⟨by decide +kernel, by decide +kernel, ⟨by decide +kernel, by decide +kernel, by decide +kernel⟩, by decide⟩, by decide +kernel⟩
theorem MX6_kindOf : am_MV mX6_kindOf 1 6 := ⟨⟨by decide +kernel, by decide +kernel, ⟨by decide +kernel, by decide +kernel, by decide +kernel⟩, by decide⟩, by decide +kernel, by decide +kernel, rfl, by decide⟩
theorem MX6_isThere : am_MV mX6_isThere 1 6 := ⟨⟨by decide +kernel, by decide +kernel, ⟨by decide +kernel, by decide +kernel, by decide +kernel⟩, by decide⟩, by decide +kernel, by decide +kernel, rfl, by decide⟩
theorem MX6_at : am_MS mX6_at 2 := ⟨⟨by decide +kernel, by decide +kernel, ⟨by decide +kernel, by decide +kernel, by decide +kernel⟩, by decide⟩, by decide +kernel⟩
theorem MX6_hasChoice : am_MV mX6_hasChoice 2 6 := ⟨⟨by decide +kernel, by decide +kernel, ⟨by decide +kernel, by decide +kernel, by decide +kernel⟩, by decide⟩, by decide +kernel, by decide +kernel, rfl, by decide⟩
theorem MX6_holds : am_MV mX6_holds 2 6 := ⟨⟨by decide +kernel, by decide +kernel, ⟨by decide +kernel, by decide +kernel, by decide +kernel⟩, by decide⟩, by decide +kernel, by decide +kernel, rfl, by decide⟩
theorem MX6_readBy : am_MV mX6_readBy 1 6 := ⟨⟨by decide +kernel, by decide +kernel, ⟨by decide +kernel, by decide +kernel, by decide +kernel⟩, by decide⟩, by decide +kernel, by decide +kernel, rfl, by decide⟩
theorem MX6_holdsFor : am_MV mX6_holdsFor 1 6 := ⟨⟨by decide +kernel, by decide +kernel, ⟨by decide +kernel, by decide +kernel, by decide +kernel⟩, by decide⟩, by decide +kernel, by decide +kernel, rfl, by decide⟩
theorem MX6_feed : am_MV mX6_feed 2 6 := ⟨⟨by decide +kernel, by decide +kernel, ⟨by decide +kernel, by decide +kernel, by decide +kernel⟩, by decide⟩, by decide +kernel, by decide +kernel, rfl, by decide⟩
theorem MX6_here : am_MV mX6_here 0 6 := ⟨⟨by decide +kernel, by decide +kernel, ⟨by decide +kernel, by decide +kernel, by decide +kernel⟩, by decide⟩, by decide +kernel, by decide +kernel, rfl, by decide⟩
theorem MX6_either : am_MV mX6_either 0 6 := ⟨⟨by decide +kernel, by decide +kernel, ⟨by decide +kernel, by decide +kernel, by decide +kernel⟩, by decide⟩, by decide +kernel, by decide +kernel, rfl, by decide⟩
theorem MX6_both : am_MV mX6_both 0 6 := ⟨⟨by decide +kernel, by decide +kernel, ⟨by decide +kernel, by decide +kernel, by decide +kernel⟩, by decide⟩, by decide +kernel, by decide +kernel, rfl, by decide⟩
theorem MX6_one : am_MV mX6_one 0 6 := ⟨⟨by decide +kernel, by decide +kernel, ⟨by decide +kernel, by decide +kernel, by decide +kernel⟩, by decide⟩, by decide +kernel, by decide +kernel, rfl, by decide⟩
theorem MX6_read : am_MV mX6_read 1 6 := ⟨⟨by decide +kernel, by decide +kernel, ⟨by decide +kernel, by decide +kernel, by decide +kernel⟩, by decide⟩, by decide +kernel, by decide +kernel, rfl, by decide⟩
theorem MX6_readNeed : am_MV mX6_readNeed 0 6 := ⟨⟨by decide +kernel, by decide +kernel, ⟨by decide +kernel, by decide +kernel, by decide +kernel⟩, by decide⟩, by decide +kernel, by decide +kernel, rfl, by decide⟩
theorem MX6_lay : am_MV mX6_lay 1 6 := ⟨⟨by decide +kernel, by decide +kernel, ⟨by decide +kernel, by decide +kernel, by decide +kernel⟩, by decide⟩, by decide +kernel, by decide +kernel, rfl, by decide⟩
theorem MX6_clearChoice : am_MV mX6_clearChoice 2 6 := ⟨⟨by decide +kernel, by decide +kernel, ⟨by decide +kernel, by decide +kernel, by decide +kernel⟩, by decide⟩, by decide +kernel, by decide +kernel, rfl, by decide⟩
theorem MX6_clearChoices : am_MV mX6_clearChoices 1 6 := ⟨⟨by decide +kernel, by decide +kernel, ⟨by decide +kernel, by decide +kernel, by decide +kernel⟩, by decide⟩, by decide +kernel, by decide +kernel, rfl, by decide⟩
theorem MX6_hasNeed : am_MS mX6_hasNeed 1 := ⟨⟨by decide +kernel, by decide +kernel, ⟨by decide +kernel, by decide +kernel, by decide +kernel⟩, by decide⟩, by decide +kernel⟩
theorem MX6_scene : am_MV mX6_scene 2 6 := ⟨⟨by decide +kernel, by decide +kernel, ⟨by decide +kernel, by decide +kernel, by decide +kernel⟩, by decide⟩, by decide +kernel, by decide +kernel, rfl, by decide⟩
theorem MX6_loss : am_MV mX6_loss 2 6 := ⟨⟨by decide +kernel, by decide +kernel, ⟨by decide +kernel, by decide +kernel, by decide +kernel⟩, by decide⟩, by decide +kernel, by decide +kernel, rfl, by decide⟩
theorem MX6_choice : am_MV mX6_choice 3 6 := ⟨⟨by decide +kernel, by decide +kernel, ⟨by decide +kernel, by decide +kernel, by decide +kernel⟩, by decide⟩, by decide +kernel, by decide +kernel, rfl, by decide⟩
theorem MX6_gives : am_MV mX6_gives 4 6 := ⟨⟨by decide +kernel, by decide +kernel, ⟨by decide +kernel, by decide +kernel, by decide +kernel⟩, by decide⟩, by decide +kernel, by decide +kernel, rfl, by decide⟩
theorem MX6_line : am_MV mX6_line 4 6 := ⟨⟨by decide +kernel, by decide +kernel, ⟨by decide +kernel, by decide +kernel, by decide +kernel⟩, by decide⟩, by decide +kernel, by decide +kernel, rfl, by decide⟩
theorem MX6_drop : am_MV mX6_drop 2 6 := ⟨⟨by decide +kernel, by decide +kernel, ⟨by decide +kernel, by decide +kernel, by decide +kernel⟩, by decide⟩, by decide +kernel, by decide +kernel, rfl, by decide⟩
theorem MX6_start : am_MV mX6_start 1 6 := ⟨⟨by decide +kernel, by decide +kernel, ⟨by decide +kernel, by decide +kernel, by decide +kernel⟩, by decide⟩, by decide +kernel, by decide +kernel, rfl, by decide⟩
theorem MX6_of : am_MV mX6_of 2 6 := ⟨⟨by decide +kernel, by decide +kernel, ⟨by decide +kernel, by decide +kernel, by decide +kernel⟩, by decide⟩, by decide +kernel, by decide +kernel, rfl, by decide⟩
theorem MX6_about : am_MV mX6_about 3 6 := ⟨⟨by decide +kernel, by decide +kernel, ⟨by decide +kernel, by decide +kernel, by decide +kernel⟩, by decide⟩, by decide +kernel, by decide +kernel, rfl, by decide⟩
theorem MX6_isEnding : am_MV mX6_isEnding 1 6 := ⟨⟨by decide +kernel, by decide +kernel, ⟨by decide +kernel, by decide +kernel, by decide +kernel⟩, by decide⟩, by decide +kernel, by decide +kernel, rfl, by decide⟩
theorem MX6_isShut : am_MV mX6_isShut 2 6 := ⟨⟨by decide +kernel, by decide +kernel, ⟨by decide +kernel, by decide +kernel, by decide +kernel⟩, by decide⟩, by decide +kernel, by decide +kernel, rfl, by decide⟩
theorem MX6_leads : am_MV mX6_leads 3 6 := ⟨⟨by decide +kernel, by decide +kernel, ⟨by decide +kernel, by decide +kernel, by decide +kernel⟩, by decide⟩, by decide +kernel, by decide +kernel, rfl, by decide⟩
theorem MX6_reach : am_MV mX6_reach 2 6 := ⟨⟨by decide +kernel, by decide +kernel, ⟨by decide +kernel, by decide +kernel, by decide +kernel⟩, by decide⟩, by decide +kernel, by decide +kernel, rfl, by decide⟩
theorem MX6_reach_ : am_MV mX6_reach_ 0 6 := ⟨⟨by decide +kernel, by decide +kernel, ⟨by decide +kernel, by decide +kernel, by decide +kernel⟩, by decide⟩, by decide +kernel, by decide +kernel, rfl, by decide⟩
theorem MX6_isStuck : am_MV mX6_isStuck 1 6 := ⟨⟨by decide +kernel, by decide +kernel, ⟨by decide +kernel, by decide +kernel, by decide +kernel⟩, by decide⟩, by decide +kernel, by decide +kernel, rfl, by decide⟩
theorem MX6_tellHope : am_MV mX6_tellHope 0 6 := ⟨⟨by decide +kernel, by decide +kernel, ⟨by decide +kernel, by decide +kernel, by decide +kernel⟩, by decide⟩, by decide +kernel, by decide +kernel, rfl, by decide⟩
theorem MX6_tellLives : am_MV mX6_tellLives 0 6 := ⟨⟨by decide +kernel, by decide +kernel, ⟨by decide +kernel, by decide +kernel, by decide +kernel⟩, by decide⟩, by decide +kernel, by decide +kernel, rfl, by decide⟩
theorem MX6_liveAt : am_MV mX6_liveAt 1 6 := ⟨⟨by decide +kernel, by decide +kernel, ⟨by decide +kernel, by decide +kernel, by decide +kernel⟩, by decide⟩, by decide +kernel, by decide +kernel, rfl, by decide⟩
theorem MX6_states : am_MV mX6_states 1 6 := ⟨⟨by decide +kernel, by decide +kernel, ⟨by decide +kernel, by decide +kernel, by decide +kernel⟩, by decide⟩, by decide +kernel, by decide +kernel, rfl, by decide⟩
theorem MX6_reached : am_MV mX6_reached 1 6 := ⟨⟨by decide +kernel, by decide +kernel, ⟨by decide +kernel, by decide +kernel, by decide +kernel⟩, by decide⟩, by decide +kernel, by decide +kernel, rfl, by decide⟩
theorem MX6_live : am_MV mX6_live 1 6 := ⟨⟨by decide +kernel, by decide +kernel, ⟨by decide +kernel, by decide +kernel, by decide +kernel⟩, by decide⟩, by decide +kernel, by decide +kernel, rfl, by decide⟩
theorem MX6_open : am_MV mX6_open 2 6 := ⟨⟨by decide +kernel, by decide +kernel, ⟨by decide +kernel, by decide +kernel, by decide +kernel⟩, by decide⟩, by decide +kernel, by decide +kernel, rfl, by decide⟩
theorem MX6_isTrap : am_MV mX6_isTrap 2 6 := ⟨⟨by decide +kernel, by decide +kernel, ⟨by decide +kernel, by decide +kernel, by decide +kernel⟩, by decide⟩, by decide +kernel, by decide +kernel, rfl, by decide⟩
theorem MX6_trap : am_MV mX6_trap 1 6 := ⟨⟨by decide +kernel, by decide +kernel, ⟨by decide +kernel, by decide +kernel, by decide +kernel⟩, by decide⟩, by decide +kernel, by decide +kernel, rfl, by decide⟩
theorem MX6_nearest : am_MV mX6_nearest 1 6 := ⟨⟨by decide +kernel, by decide +kernel, ⟨by decide +kernel, by decide +kernel, by decide +kernel⟩, by decide⟩, by decide +kernel, by decide +kernel, rfl, by decide⟩
theorem MX6_way : am_MV mX6_way 1 6 := ⟨⟨by decide +kernel, by decide +kernel, ⟨by decide +kernel, by decide +kernel, by decide +kernel⟩, by decide⟩, by decide +kernel, by decide +kernel, rfl, by decide⟩
theorem MX6_step : am_MV mX6_step 2 6 := ⟨⟨by decide +kernel, by decide +kernel, ⟨by decide +kernel, by decide +kernel, by decide +kernel⟩, by decide⟩, by decide +kernel, by decide +kernel, rfl, by decide⟩
theorem MX6_goesOn : am_MV mX6_goesOn 3 6 := ⟨⟨by decide +kernel, by decide +kernel, ⟨by decide +kernel, by decide +kernel, by decide +kernel⟩, by decide⟩, by decide +kernel, by decide +kernel, rfl, by decide⟩
theorem MX6_ways : am_MV mX6_ways 1 6 := ⟨⟨by decide +kernel, by decide +kernel, ⟨by decide +kernel, by decide +kernel, by decide +kernel⟩, by decide⟩, by decide +kernel, by decide +kernel, rfl, by decide⟩
theorem MX6_cut : am_MV mX6_cut 2 6 := ⟨⟨by decide +kernel, by decide +kernel, ⟨by decide +kernel, by decide +kernel, by decide +kernel⟩, by decide⟩, by decide +kernel, by decide +kernel, rfl, by decide⟩
theorem MX6_reachedScenes : am_MV mX6_reachedScenes 0 6 := ⟨⟨by decide +kernel, by decide +kernel, ⟨by decide +kernel, by decide +kernel, by decide +kernel⟩, by decide⟩, by decide +kernel, by decide +kernel, rfl, by decide⟩
theorem MX6_size : am_MS mX6_size 1 := ⟨⟨by decide +kernel, by decide +kernel, ⟨by decide +kernel, by decide +kernel, by decide +kernel⟩, by decide⟩, by decide +kernel⟩
theorem MX6_mend : am_MV mX6_mend 0 6 := ⟨⟨by decide +kernel, by decide +kernel, ⟨by decide +kernel, by decide +kernel, by decide +kernel⟩, by decide⟩, by decide +kernel, by decide +kernel, rfl, by decide⟩
theorem MX6_isSheet : am_MS mX6_isSheet 1 := ⟨⟨by decide +kernel, by decide +kernel, ⟨by decide +kernel, by decide +kernel, by decide +kernel⟩, by decide⟩, by decide +kernel⟩
theorem MX6_sheet : am_MV mX6_sheet 3 6 := ⟨⟨by decide +kernel, by decide +kernel, ⟨by decide +kernel, by decide +kernel, by decide +kernel⟩, by decide⟩, by decide +kernel, by decide +kernel, rfl, by decide⟩
theorem MX6_write : am_MV mX6_write 3 6 := ⟨⟨by decide +kernel, by decide +kernel, ⟨by decide +kernel, by decide +kernel, by decide +kernel⟩, by decide⟩, by decide +kernel, by decide +kernel, rfl, by decide⟩
theorem MX6_words : am_MV mX6_words 4 6 := ⟨⟨by decide +kernel, by decide +kernel, ⟨by decide +kernel, by decide +kernel, by decide +kernel⟩, by decide⟩, by decide +kernel, by decide +kernel, rfl, by decide⟩
theorem MX6_sessions : am_MV mX6_sessions 2 6 := ⟨⟨by decide +kernel, by decide +kernel, ⟨by decide +kernel, by decide +kernel, by decide +kernel⟩, by decide⟩, by decide +kernel, by decide +kernel, rfl, by decide⟩
theorem MX6_tell : am_MV mX6_tell 1 6 := ⟨⟨by decide +kernel, by decide +kernel, ⟨by decide +kernel, by decide +kernel, by decide +kernel⟩, by decide⟩, by decide +kernel, by decide +kernel, rfl, by decide⟩
theorem MX6_play : am_MV mX6_play 0 6 := ⟨⟨by decide +kernel, by decide +kernel, ⟨by decide +kernel, by decide +kernel, by decide +kernel⟩, by decide⟩, by decide +kernel, by decide +kernel, rfl, by decide⟩
theorem MX6_at_ : am_MV mX6_at_ 1 6 := ⟨⟨by decide +kernel, by decide +kernel, ⟨by decide +kernel, by decide +kernel, by decide +kernel⟩, by decide⟩, by decide +kernel, by decide +kernel, rfl, by decide⟩
theorem MX6_carry : am_MS mX6_carry 2 := ⟨⟨by decide +kernel, by decide +kernel, ⟨by decide +kernel, by decide +kernel, by decide +kernel⟩, by decide⟩, by decide +kernel⟩
theorem MX6_keep : am_MV mX6_keep 1 6 := ⟨⟨by decide +kernel, by decide +kernel, ⟨by decide +kernel, by decide +kernel, by decide +kernel⟩, by decide⟩, by decide +kernel, by decide +kernel, rfl, by decide⟩
theorem MX6_back : am_MV mX6_back 1 6 := ⟨⟨by decide +kernel, by decide +kernel, ⟨by decide +kernel, by decide +kernel, by decide +kernel⟩, by decide⟩, by decide +kernel, by decide +kernel, rfl, by decide⟩
theorem MX6_itemFrom : am_MS mX6_itemFrom 1 := ⟨⟨by decide +kernel, by decide +kernel, ⟨by decide +kernel, by decide +kernel, by decide +kernel⟩, by decide⟩, by decide +kernel⟩
theorem MX6_itemWide : am_MS mX6_itemWide 1 := ⟨⟨by decide +kernel, by decide +kernel, ⟨by decide +kernel, by decide +kernel, by decide +kernel⟩, by decide⟩, by decide +kernel⟩
theorem MX6_differs : am_MS mX6_differs 3 := ⟨⟨by decide +kernel, by decide +kernel, ⟨by decide +kernel, by decide +kernel, by decide +kernel⟩, by decide⟩, by decide +kernel⟩
theorem MX6_clashes : am_MV mX6_clashes 1 6 := ⟨⟨by decide +kernel, by decide +kernel, ⟨by decide +kernel, by decide +kernel, by decide +kernel⟩, by decide⟩, by decide +kernel, by decide +kernel, rfl, by decide⟩
theorem MX6_melt : am_MV mX6_melt 0 6 := ⟨⟨by decide +kernel, by decide +kernel, ⟨by decide +kernel, by decide +kernel, by decide +kernel⟩, by decide⟩, by decide +kernel, by decide +kernel, rfl, by decide⟩
theorem MX6_clash : am_MV mX6_clash 1 6 := ⟨⟨by decide +kernel, by decide +kernel, ⟨by decide +kernel, by decide +kernel, by decide +kernel⟩, by decide⟩, by decide +kernel, by decide +kernel, rfl, by decide⟩
theorem MX6_count : am_MV mX6_count 1 6 := ⟨⟨by decide +kernel, by decide +kernel, ⟨by decide +kernel, by decide +kernel, by decide +kernel⟩, by decide⟩, by decide +kernel, by decide +kernel, rfl, by decide⟩
theorem MJ6_bitCount_0f7a4 : am_MS mJ6_bitCount_0f7a4 1 := ⟨⟨by decide +kernel, by decide +kernel, ⟨by decide +kernel, by decide +kernel, by decide +kernel⟩, by decide⟩, by decide +kernel⟩
theorem MJ13_bitCount_95d88 : am_MS mJ13_bitCount_95d88 1 := ⟨⟨by decide +kernel, by decide +kernel, ⟨by decide +kernel, by decide +kernel, by decide +kernel⟩, by decide⟩, by decide +kernel⟩
theorem MJ9_max_7cf53 : am_MS mJ9_max_7cf53 2 := ⟨⟨by decide +kernel, by decide +kernel, ⟨by decide +kernel, by decide +kernel, by decide +kernel⟩, by decide⟩, by decide +kernel⟩
theorem MJ9_min_7cf53 : am_MS mJ9_min_7cf53 2 := ⟨⟨by decide +kernel, by decide +kernel, ⟨by decide +kernel, by decide +kernel, by decide +kernel⟩, by decide⟩, by decide +kernel⟩
theorem flX0_9 : am_FL RX0 9 0 5 := ⟨by decide, by decide, by decide +kernel⟩
theorem flX0_19 : am_FL RX0 19 0 0 := ⟨by decide, by decide, by decide +kernel⟩
theorem flX0_23 : am_FL RX0 23 0 1 := ⟨by decide, by decide, by decide +kernel⟩
theorem flX0_26 : am_FL RX0 26 0 2 := ⟨by decide, by decide, by decide +kernel⟩
theorem flX0_29 : am_FL RX0 29 0 3 := ⟨by decide, by decide, by decide +kernel⟩
theorem flX0_32 : am_FL RX0 32 0 4 := ⟨by decide, by decide, by decide +kernel⟩
theorem flX0_35 : am_FL RX0 35 0 6 := ⟨by decide, by decide, by decide +kernel⟩
theorem flX1_11 : am_FL RX1 11 1 1 := ⟨by decide, by decide, by decide +kernel⟩
theorem flX1_15 : am_FL RX1 15 1 2 := ⟨by decide, by decide, by decide +kernel⟩
theorem flX1_19 : am_FL RX1 19 1 0 := ⟨by decide, by decide, by decide +kernel⟩
theorem flX2_11 : am_FL RX2 11 2 0 := ⟨by decide, by decide, by decide +kernel⟩
theorem flX2_55 : am_FL RX2 55 0 0 := ⟨by decide, by decide, by decide +kernel⟩
theorem flX2_76 : am_FL RX2 76 0 2 := ⟨by decide, by decide, by decide +kernel⟩
theorem flX2_79 : am_FL RX2 79 0 1 := ⟨by decide, by decide, by decide +kernel⟩
theorem flX2_86 : am_FL RX2 86 0 6 := ⟨by decide, by decide, by decide +kernel⟩
theorem flX3_11 : am_FL RX3 11 3 0 := ⟨by decide, by decide, by decide +kernel⟩
theorem flX3_15 : am_FL RX3 15 3 2 := ⟨by decide, by decide, by decide +kernel⟩
theorem flX3_19 : am_FL RX3 19 3 1 := ⟨by decide, by decide, by decide +kernel⟩
theorem flX3_23 : am_FL RX3 23 3 5 := ⟨by decide, by decide, by decide +kernel⟩
theorem flX3_26 : am_FL RX3 26 3 3 := ⟨by decide, by decide, by decide +kernel⟩
theorem flX3_29 : am_FL RX3 29 3 4 := ⟨by decide, by decide, by decide +kernel⟩
theorem flX4_9 : am_FL RX4 9 4 0 := ⟨by decide, by decide, by decide +kernel⟩
theorem flX4_15 : am_FL RX4 15 4 2 := ⟨by decide, by decide, by decide +kernel⟩
theorem flX4_18 : am_FL RX4 18 4 3 := ⟨by decide, by decide, by decide +kernel⟩
theorem flX4_21 : am_FL RX4 21 4 4 := ⟨by decide, by decide, by decide +kernel⟩
theorem flX4_24 : am_FL RX4 24 4 5 := ⟨by decide, by decide, by decide +kernel⟩
theorem flX4_27 : am_FL RX4 27 4 6 := ⟨by decide, by decide, by decide +kernel⟩
theorem flX4_30 : am_FL RX4 30 4 7 := ⟨by decide, by decide, by decide +kernel⟩
theorem flX4_33 : am_FL RX4 33 4 8 := ⟨by decide, by decide, by decide +kernel⟩
theorem flX4_36 : am_FL RX4 36 4 9 := ⟨by decide, by decide, by decide +kernel⟩
theorem flX4_40 : am_FL RX4 40 4 10 := ⟨by decide, by decide, by decide +kernel⟩
theorem flX4_44 : am_FL RX4 44 4 11 := ⟨by decide, by decide, by decide +kernel⟩
theorem flX4_47 : am_FL RX4 47 4 1 := ⟨by decide, by decide, by decide +kernel⟩
theorem flX5_12 : am_FL RX5 12 5 0 := ⟨by decide, by decide, by decide +kernel⟩
theorem flX5_19 : am_FL RX5 19 5 1 := ⟨by decide, by decide, by decide +kernel⟩
theorem flX5_23 : am_FL RX5 23 5 2 := ⟨by decide, by decide, by decide +kernel⟩
theorem flX5_26 : am_FL RX5 26 5 3 := ⟨by decide, by decide, by decide +kernel⟩
theorem flX5_32 : am_FL RX5 32 5 7 := ⟨by decide, by decide, by decide +kernel⟩
theorem flX5_36 : am_FL RX5 36 5 9 := ⟨by decide, by decide, by decide +kernel⟩
theorem flX5_40 : am_FL RX5 40 5 10 := ⟨by decide, by decide, by decide +kernel⟩
theorem flX5_45 : am_FL RX5 45 5 11 := ⟨by decide, by decide, by decide +kernel⟩
theorem flX5_49 : am_FL RX5 49 5 12 := ⟨by decide, by decide, by decide +kernel⟩
theorem flX5_52 : am_FL RX5 52 5 14 := ⟨by decide, by decide, by decide +kernel⟩
theorem flX5_57 : am_FL RX5 57 3 1 := ⟨by decide, by decide, by decide +kernel⟩
theorem flX5_80 : am_FL RX5 80 0 0 := ⟨by decide, by decide, by decide +kernel⟩
theorem flX5_89 : am_FL RX5 89 3 2 := ⟨by decide, by decide, by decide +kernel⟩
theorem flX5_100 : am_FL RX5 100 5 8 := ⟨by decide, by decide, by decide +kernel⟩
theorem flX5_115 : am_FL RX5 115 0 2 := ⟨by decide, by decide, by decide +kernel⟩
theorem flX5_129 : am_FL RX5 129 0 1 := ⟨by decide, by decide, by decide +kernel⟩
theorem flX5_135 : am_FL RX5 135 0 3 := ⟨by decide, by decide, by decide +kernel⟩
theorem flX5_138 : am_FL RX5 138 0 4 := ⟨by decide, by decide, by decide +kernel⟩
theorem flX5_148 : am_FL RX5 148 0 6 := ⟨by decide, by decide, by decide +kernel⟩
theorem flX5_160 : am_FL RX5 160 4 1 := ⟨by decide, by decide, by decide +kernel⟩
theorem flX5_180 : am_FL RX5 180 4 0 := ⟨by decide, by decide, by decide +kernel⟩
theorem flX5_192 : am_FL RX5 192 4 7 := ⟨by decide, by decide, by decide +kernel⟩
theorem flX5_198 : am_FL RX5 198 4 4 := ⟨by decide, by decide, by decide +kernel⟩
theorem flX5_210 : am_FL RX5 210 4 3 := ⟨by decide, by decide, by decide +kernel⟩
theorem flX5_221 : am_FL RX5 221 4 10 := ⟨by decide, by decide, by decide +kernel⟩
theorem flX5_224 : am_FL RX5 224 5 6 := ⟨by decide, by decide, by decide +kernel⟩
theorem flX5_279 : am_FL RX5 279 1 2 := ⟨by decide, by decide, by decide +kernel⟩
theorem flX5_285 : am_FL RX5 285 1 0 := ⟨by decide, by decide, by decide +kernel⟩
theorem flX5_300 : am_FL RX5 300 5 13 := ⟨by decide, by decide, by decide +kernel⟩
theorem flX5_313 : am_FL RX5 313 5 4 := ⟨by decide, by decide, by decide +kernel⟩
theorem flX5_316 : am_FL RX5 316 5 5 := ⟨by decide, by decide, by decide +kernel⟩
theorem flX5_322 : am_FL RX5 322 2 0 := ⟨by decide, by decide, by decide +kernel⟩
theorem flX5_346 : am_FL RX5 346 5 15 := ⟨by decide, by decide, by decide +kernel⟩
theorem flX6_7 : am_FL RX6 7 6 0 := ⟨by decide, by decide, by decide +kernel⟩
theorem flX6_13 : am_FL RX6 13 6 1 := ⟨by decide, by decide, by decide +kernel⟩
theorem flX6_16 : am_FL RX6 16 6 2 := ⟨by decide, by decide, by decide +kernel⟩
theorem flX6_19 : am_FL RX6 19 6 5 := ⟨by decide, by decide, by decide +kernel⟩
theorem flX6_23 : am_FL RX6 23 6 6 := ⟨by decide, by decide, by decide +kernel⟩
theorem flX6_26 : am_FL RX6 26 6 8 := ⟨by decide, by decide, by decide +kernel⟩
theorem flX6_29 : am_FL RX6 29 6 9 := ⟨by decide, by decide, by decide +kernel⟩
theorem flX6_32 : am_FL RX6 32 6 10 := ⟨by decide, by decide, by decide +kernel⟩
theorem flX6_35 : am_FL RX6 35 6 12 := ⟨by decide, by decide, by decide +kernel⟩
theorem flX6_38 : am_FL RX6 38 6 21 := ⟨by decide, by decide, by decide +kernel⟩
theorem flX6_41 : am_FL RX6 41 6 22 := ⟨by decide, by decide, by decide +kernel⟩
theorem flX6_44 : am_FL RX6 44 6 23 := ⟨by decide, by decide, by decide +kernel⟩
theorem flX6_47 : am_FL RX6 47 6 25 := ⟨by decide, by decide, by decide +kernel⟩
theorem flX6_50 : am_FL RX6 50 6 26 := ⟨by decide, by decide, by decide +kernel⟩
theorem flX6_53 : am_FL RX6 53 6 27 := ⟨by decide, by decide, by decide +kernel⟩
theorem flX6_56 : am_FL RX6 56 6 28 := ⟨by decide, by decide, by decide +kernel⟩
theorem flX6_60 : am_FL RX6 60 6 29 := ⟨by decide, by decide, by decide +kernel⟩
theorem flX6_63 : am_FL RX6 63 6 16 := ⟨by decide, by decide, by decide +kernel⟩
theorem flX6_83 : am_FL RX6 83 6 7 := ⟨by decide, by decide, by decide +kernel⟩
theorem flX6_86 : am_FL RX6 86 6 17 := ⟨by decide, by decide, by decide +kernel⟩
theorem flX6_93 : am_FL RX6 93 6 18 := ⟨by decide, by decide, by decide +kernel⟩
theorem flX6_104 : am_FL RX6 104 6 19 := ⟨by decide, by decide, by decide +kernel⟩
theorem flX6_107 : am_FL RX6 107 6 20 := ⟨by decide, by decide, by decide +kernel⟩
theorem flX6_165 : am_FL RX6 165 6 24 := ⟨by decide, by decide, by decide +kernel⟩
theorem flX6_210 : am_FL RX6 210 6 11 := ⟨by decide, by decide, by decide +kernel⟩
theorem flX6_213 : am_FL RX6 213 6 13 := ⟨by decide, by decide, by decide +kernel⟩
theorem flX6_216 : am_FL RX6 216 6 14 := ⟨by decide, by decide, by decide +kernel⟩
theorem flX6_219 : am_FL RX6 219 6 15 := ⟨by decide, by decide, by decide +kernel⟩
theorem flX6_226 : am_FL RX6 226 6 3 := ⟨by decide, by decide, by decide +kernel⟩
theorem flX6_229 : am_FL RX6 229 6 4 := ⟨by decide, by decide, by decide +kernel⟩
theorem lkL_9 : Cond.methodLink RL 9 mX5_init.1 ∈ am_ws := by decide +kernel
theorem lkL_12 : Cond.methodLink RL 12 mX6_init.1 ∈ am_ws := by decide +kernel
theorem lkL_15 : Cond.methodLink RL 15 mX5_feed.1 ∈ am_ws := by decide +kernel
theorem lkL_19 : Cond.methodLink RL 19 mX6_feed.1 ∈ am_ws := by decide +kernel
theorem lkL_20 : Cond.methodLink RL 20 mX5_scene.1 ∈ am_ws := by decide +kernel
theorem lkL_24 : Cond.methodLink RL 24 mX6_scene.1 ∈ am_ws := by decide +kernel
theorem lkL_25 : Cond.methodLink RL 25 mX5_loss.1 ∈ am_ws := by decide +kernel
theorem lkL_28 : Cond.methodLink RL 28 mX6_loss.1 ∈ am_ws := by decide +kernel
theorem lkL_29 : Cond.methodLink RL 29 mX5_choice.1 ∈ am_ws := by decide +kernel
theorem lkL_33 : Cond.methodLink RL 33 mX6_choice.1 ∈ am_ws := by decide +kernel
theorem lkL_34 : Cond.methodLink RL 34 mX5_gives.1 ∈ am_ws := by decide +kernel
theorem lkL_38 : Cond.methodLink RL 38 mX6_gives.1 ∈ am_ws := by decide +kernel
theorem lkL_39 : Cond.methodLink RL 39 mX5_line.1 ∈ am_ws := by decide +kernel
theorem lkL_42 : Cond.methodLink RL 42 mX6_line.1 ∈ am_ws := by decide +kernel
theorem lkL_43 : Cond.methodLink RL 43 mX5_drop.1 ∈ am_ws := by decide +kernel
theorem lkL_46 : Cond.methodLink RL 46 mX6_drop.1 ∈ am_ws := by decide +kernel
theorem lkL_47 : Cond.methodLink RL 47 mX5_start.1 ∈ am_ws := by decide +kernel
theorem lkL_51 : Cond.methodLink RL 51 mX6_start.1 ∈ am_ws := by decide +kernel
theorem lkL_52 : Cond.methodLink RL 52 mX5_of.1 ∈ am_ws := by decide +kernel
theorem lkL_55 : Cond.methodLink RL 55 mX6_of.1 ∈ am_ws := by decide +kernel
theorem lkL_56 : Cond.methodLink RL 56 mX5_about.1 ∈ am_ws := by decide +kernel
theorem lkL_59 : Cond.methodLink RL 59 mX6_about.1 ∈ am_ws := by decide +kernel
theorem lkL_60 : Cond.methodLink RL 60 mX5_states.1 ∈ am_ws := by decide +kernel
theorem lkL_63 : Cond.methodLink RL 63 mX6_states.1 ∈ am_ws := by decide +kernel
theorem lkL_64 : Cond.methodLink RL 64 mX5_reached.1 ∈ am_ws := by decide +kernel
theorem lkL_67 : Cond.methodLink RL 67 mX6_reached.1 ∈ am_ws := by decide +kernel
theorem lkL_68 : Cond.methodLink RL 68 mX5_live.1 ∈ am_ws := by decide +kernel
theorem lkL_71 : Cond.methodLink RL 71 mX6_live.1 ∈ am_ws := by decide +kernel
theorem lkL_72 : Cond.methodLink RL 72 mX5_open.1 ∈ am_ws := by decide +kernel
theorem lkL_75 : Cond.methodLink RL 75 mX6_open.1 ∈ am_ws := by decide +kernel
theorem lkL_76 : Cond.methodLink RL 76 mX5_trap.1 ∈ am_ws := by decide +kernel
theorem lkL_79 : Cond.methodLink RL 79 mX6_trap.1 ∈ am_ws := by decide +kernel
theorem lkL_80 : Cond.methodLink RL 80 mX5_way.1 ∈ am_ws := by decide +kernel
theorem lkL_83 : Cond.methodLink RL 83 mX6_way.1 ∈ am_ws := by decide +kernel
theorem lkL_84 : Cond.methodLink RL 84 mX5_step.1 ∈ am_ws := by decide +kernel
theorem lkL_87 : Cond.methodLink RL 87 mX6_step.1 ∈ am_ws := by decide +kernel
theorem lkL_88 : Cond.methodLink RL 88 mX5_ways.1 ∈ am_ws := by decide +kernel
theorem lkL_92 : Cond.methodLink RL 92 mX6_ways.1 ∈ am_ws := by decide +kernel
theorem lkL_93 : Cond.methodLink RL 93 mX5_cut.1 ∈ am_ws := by decide +kernel
theorem lkL_97 : Cond.methodLink RL 97 mX6_cut.1 ∈ am_ws := by decide +kernel
theorem lkL_98 : Cond.methodLink RL 98 mX5_mend.1 ∈ am_ws := by decide +kernel
theorem lkL_102 : Cond.methodLink RL 102 mX6_mend.1 ∈ am_ws := by decide +kernel
theorem lkL_103 : Cond.methodLink RL 103 mX5_sheet.1 ∈ am_ws := by decide +kernel
theorem lkL_106 : Cond.methodLink RL 106 mX6_sheet.1 ∈ am_ws := by decide +kernel
theorem lkL_107 : Cond.methodLink RL 107 mX5_write.1 ∈ am_ws := by decide +kernel
theorem lkL_110 : Cond.methodLink RL 110 mX6_write.1 ∈ am_ws := by decide +kernel
theorem lkL_111 : Cond.methodLink RL 111 mX5_words.1 ∈ am_ws := by decide +kernel
theorem lkL_114 : Cond.methodLink RL 114 mX6_words.1 ∈ am_ws := by decide +kernel
theorem lkL_115 : Cond.methodLink RL 115 mX5_sessions.1 ∈ am_ws := by decide +kernel
theorem lkL_118 : Cond.methodLink RL 118 mX6_sessions.1 ∈ am_ws := by decide +kernel
theorem lkL_119 : Cond.methodLink RL 119 mX5_tell.1 ∈ am_ws := by decide +kernel
theorem lkL_122 : Cond.methodLink RL 122 mX6_tell.1 ∈ am_ws := by decide +kernel
theorem lkL_123 : Cond.methodLink RL 123 mX5_play.1 ∈ am_ws := by decide +kernel
theorem lkL_126 : Cond.methodLink RL 126 mX6_play.1 ∈ am_ws := by decide +kernel
theorem lkL_127 : Cond.methodLink RL 127 mX5_at.1 ∈ am_ws := by decide +kernel
theorem lkL_130 : Cond.methodLink RL 130 mX6_at_.1 ∈ am_ws := by decide +kernel
theorem lkL_131 : Cond.methodLink RL 131 mX5_keep.1 ∈ am_ws := by decide +kernel
theorem lkL_134 : Cond.methodLink RL 134 mX6_keep.1 ∈ am_ws := by decide +kernel
theorem lkL_135 : Cond.methodLink RL 135 mX5_back.1 ∈ am_ws := by decide +kernel
theorem lkL_138 : Cond.methodLink RL 138 mX6_back.1 ∈ am_ws := by decide +kernel
theorem lkL_139 : Cond.methodLink RL 139 mX5_melt.1 ∈ am_ws := by decide +kernel
theorem lkL_142 : Cond.methodLink RL 142 mX6_melt.1 ∈ am_ws := by decide +kernel
theorem lkL_143 : Cond.methodLink RL 143 mX5_clash.1 ∈ am_ws := by decide +kernel
theorem lkL_146 : Cond.methodLink RL 146 mX6_clash.1 ∈ am_ws := by decide +kernel
theorem lkL_147 : Cond.methodLink RL 147 mX5_count.1 ∈ am_ws := by decide +kernel
theorem lkL_150 : Cond.methodLink RL 150 mX6_count.1 ∈ am_ws := by decide +kernel
theorem lkX0_15 : Cond.methodLink RX0 15 mX0_become.1 ∈ am_ws := by decide +kernel
theorem lkX0_40 : Cond.methodLink RX0 40 mX0_readsFact.1 ∈ am_ws := by decide +kernel
theorem lkX0_49 : Cond.methodLink RX0 49 mJ13_bitCount_95d88.1 ∈ am_ws := by decide +kernel
theorem lkX2_17 : Cond.methodLink RX2 17 mX0_init.1 ∈ am_ws := by decide +kernel
theorem lkX2_20 : Cond.methodLink RX2 20 mX0_copyFrom.1 ∈ am_ws := by decide +kernel
theorem lkX2_24 : Cond.methodLink RX2 24 mX2_choiceItem.1 ∈ am_ws := by decide +kernel
theorem lkX2_28 : Cond.methodLink RX2 28 mX0_become.1 ∈ am_ws := by decide +kernel
theorem lkX2_31 : Cond.methodLink RX2 31 mX2_sceneItem.1 ∈ am_ws := by decide +kernel
theorem lkX2_35 : Cond.methodLink RX2 35 mX0_isThere.1 ∈ am_ws := by decide +kernel
theorem lkX2_39 : Cond.methodLink RX2 39 mX2_removeChoices.1 ∈ am_ws := by decide +kernel
theorem lkX2_42 : Cond.methodLink RX2 42 mX2_choiceBits.1 ∈ am_ws := by decide +kernel
theorem lkX2_46 : Cond.methodLink RX2 46 mJ6_bitCount_0f7a4.1 ∈ am_ws := by decide +kernel
theorem lkX2_51 : Cond.methodLink RX2 51 mX2_startItem.1 ∈ am_ws := by decide +kernel
theorem lkX2_66 : Cond.methodLink RX2 66 mX0_isEnding.1 ∈ am_ws := by decide +kernel
theorem lkX2_72 : Cond.methodLink RX2 72 mX0_holdsFor.1 ∈ am_ws := by decide +kernel
theorem lkX2_82 : Cond.methodLink RX2 82 mX2_liveAt.1 ∈ am_ws := by decide +kernel
theorem lkX3_34 : Cond.methodLink RX3 34 mX3_readEither.1 ∈ am_ws := by decide +kernel
theorem lkX3_38 : Cond.methodLink RX3 38 mX3_readBoth.1 ∈ am_ws := by decide +kernel
theorem lkX3_41 : Cond.methodLink RX3 41 mX3_sign.1 ∈ am_ws := by decide +kernel
theorem lkX3_45 : Cond.methodLink RX3 45 mX3_readOne.1 ∈ am_ws := by decide +kernel
theorem lkX3_48 : Cond.methodLink RX3 48 mX3_factBits.1 ∈ am_ws := by decide +kernel
theorem lkX3_51 : Cond.methodLink RX3 51 mX3_readClosed.1 ∈ am_ws := by decide +kernel
theorem lkX4_51 : Cond.methodLink RX4 51 mX2_leadsTo.1 ∈ am_ws := by decide +kernel
theorem lkX4_57 : Cond.methodLink RX4 57 mX4_come.1 ∈ am_ws := by decide +kernel
theorem lkX4_62 : Cond.methodLink RX4 62 mX4_spreadFrom.1 ∈ am_ws := by decide +kernel
theorem lkX4_69 : Cond.methodLink RX4 69 mX4_pairOf.1 ∈ am_ws := by decide +kernel
theorem lkX4_80 : Cond.methodLink RX4 80 mX4_passRowsOn.1 ∈ am_ws := by decide +kernel
theorem lkX5_18 : Cond.methodLink RX5 18 mX2_init.1 ∈ am_ws := by decide +kernel
theorem lkX5_31 : Cond.methodLink RX5 31 mX4_init.1 ∈ am_ws := by decide +kernel
theorem lkX5_60 : Cond.methodLink RX5 60 mX3_add.1 ∈ am_ws := by decide +kernel
theorem lkX5_64 : Cond.methodLink RX5 64 mX5_isScene.1 ∈ am_ws := by decide +kernel
theorem lkX5_68 : Cond.methodLink RX5 68 mX5_putScene.1 ∈ am_ws := by decide +kernel
theorem lkX5_72 : Cond.methodLink RX5 72 mX3_readNeed.1 ∈ am_ws := by decide +kernel
theorem lkX5_76 : Cond.methodLink RX5 76 mX2_sceneItem.1 ∈ am_ws := by decide +kernel
theorem lkX5_85 : Cond.methodLink RX5 85 mX0_become.1 ∈ am_ws := by decide +kernel
theorem lkX5_93 : Cond.methodLink RX5 93 mX0_putNeed.1 ∈ am_ws := by decide +kernel
theorem lkX5_97 : Cond.methodLink RX5 97 mX2_removeChoices.1 ∈ am_ws := by decide +kernel
theorem lkX5_104 : Cond.methodLink RX5 104 mX5_isSet.1 ∈ am_ws := by decide +kernel
theorem lkX5_107 : Cond.methodLink RX5 107 mX0_isThere.1 ∈ am_ws := by decide +kernel
theorem lkX5_111 : Cond.methodLink RX5 111 mX5_hostFinding.1 ∈ am_ws := by decide +kernel
theorem lkX5_118 : Cond.methodLink RX5 118 mX5_isChoice.1 ∈ am_ws := by decide +kernel
theorem lkX5_121 : Cond.methodLink RX5 121 mX5_putChoice.1 ∈ am_ws := by decide +kernel
theorem lkX5_125 : Cond.methodLink RX5 125 mX2_choiceItem.1 ∈ am_ws := by decide +kernel
theorem lkX5_132 : Cond.methodLink RX5 132 mX5_isVoice.1 ∈ am_ws := by decide +kernel
theorem lkX5_141 : Cond.methodLink RX5 141 mX2_startItem.1 ∈ am_ws := by decide +kernel
theorem lkX5_145 : Cond.methodLink RX5 145 mX5_isCut.1 ∈ am_ws := by decide +kernel
theorem lkX5_151 : Cond.methodLink RX5 151 mX0_countHolding.1 ∈ am_ws := by decide +kernel
theorem lkX5_154 : Cond.methodLink RX5 154 mX2_choiceBits.1 ∈ am_ws := by decide +kernel
theorem lkX5_157 : Cond.methodLink RX5 157 mX5_freshenWeb.1 ∈ am_ws := by decide +kernel
theorem lkX5_163 : Cond.methodLink RX5 163 mX5_countEndings.1 ∈ am_ws := by decide +kernel
theorem lkX5_166 : Cond.methodLink RX5 166 mX5_countStuck.1 ∈ am_ws := by decide +kernel
theorem lkX5_169 : Cond.methodLink RX5 169 mX5_countHopeless.1 ∈ am_ws := by decide +kernel
theorem lkX5_172 : Cond.methodLink RX5 172 mX2_findLive.1 ∈ am_ws := by decide +kernel
theorem lkX5_176 : Cond.methodLink RX5 176 mX4_countPairs.1 ∈ am_ws := by decide +kernel
theorem lkX5_183 : Cond.methodLink RX5 183 mX2_isEndingState.1 ∈ am_ws := by decide +kernel
theorem lkX5_186 : Cond.methodLink RX5 186 mX4_leadsOn.1 ∈ am_ws := by decide +kernel
theorem lkX5_189 : Cond.methodLink RX5 189 mX5_isHopeless.1 ∈ am_ws := by decide +kernel
theorem lkX5_195 : Cond.methodLink RX5 195 mX5_sceneOf.1 ∈ am_ws := by decide +kernel
theorem lkX5_201 : Cond.methodLink RX5 201 mX5_findTraps.1 ∈ am_ws := by decide +kernel
theorem lkX5_204 : Cond.methodLink RX5 204 mX5_trapsOf.1 ∈ am_ws := by decide +kernel
theorem lkX5_207 : Cond.methodLink RX5 207 mX4_firstOf.1 ∈ am_ws := by decide +kernel
theorem lkX5_213 : Cond.methodLink RX5 213 mX4_choiceOfWay.1 ∈ am_ws := by decide +kernel
theorem lkX5_218 : Cond.methodLink RX5 218 mX4_countRows.1 ∈ am_ws := by decide +kernel
theorem lkX5_227 : Cond.methodLink RX5 227 mX5_weaveFromBeginning.1 ∈ am_ws := by decide +kernel
theorem lkX5_230 : Cond.methodLink RX5 230 mX4_spreadMarks.1 ∈ am_ws := by decide +kernel
theorem lkX5_233 : Cond.methodLink RX5 233 mX4_clear.1 ∈ am_ws := by decide +kernel
theorem lkX5_236 : Cond.methodLink RX5 236 mX2_hasBeginning.1 ∈ am_ws := by decide +kernel
theorem lkX5_239 : Cond.methodLink RX5 239 mX2_beginningWith.1 ∈ am_ws := by decide +kernel
theorem lkX5_242 : Cond.methodLink RX5 242 mX4_come.1 ∈ am_ws := by decide +kernel
theorem lkX5_246 : Cond.methodLink RX5 246 mX4_weave.1 ∈ am_ws := by decide +kernel
theorem lkX5_250 : Cond.methodLink RX5 250 mX4_scenesCome.1 ∈ am_ws := by decide +kernel
theorem lkX5_253 : Cond.methodLink RX5 253 mX5_weaveFromEachMending.1 ∈ am_ws := by decide +kernel
theorem lkX5_256 : Cond.methodLink RX5 256 mX5_leastMending.1 ∈ am_ws := by decide +kernel
theorem lkX5_259 : Cond.methodLink RX5 259 mJ6_bitCount_0f7a4.1 ∈ am_ws := by decide +kernel
theorem lkX5_264 : Cond.methodLink RX5 264 mX5_isSheet.1 ∈ am_ws := by decide +kernel
theorem lkX5_267 : Cond.methodLink RX5 267 mX5_isSort.1 ∈ am_ws := by decide +kernel
theorem lkX5_270 : Cond.methodLink RX5 270 mX1_lay.1 ∈ am_ws := by decide +kernel
theorem lkX5_273 : Cond.methodLink RX5 273 mX1_isMissing.1 ∈ am_ws := by decide +kernel
theorem lkX5_276 : Cond.methodLink RX5 276 mX1_hasPlace.1 ∈ am_ws := by decide +kernel
theorem lkX5_282 : Cond.methodLink RX5 282 mX1_narrowed.1 ∈ am_ws := by decide +kernel
theorem lkX5_288 : Cond.methodLink RX5 288 mX5_takeWords.1 ∈ am_ws := by decide +kernel
theorem lkX5_292 : Cond.methodLink RX5 292 mJ9_min_7cf53.1 ∈ am_ws := by decide +kernel
theorem lkX5_297 : Cond.methodLink RX5 297 mJ9_max_7cf53.1 ∈ am_ws := by decide +kernel
theorem lkX5_303 : Cond.methodLink RX5 303 mX2_leadsTo.1 ∈ am_ws := by decide +kernel
theorem lkX5_306 : Cond.methodLink RX5 306 mX5_factsOf.1 ∈ am_ws := by decide +kernel
theorem lkX5_309 : Cond.methodLink RX5 309 mX2_copyFrom.1 ∈ am_ws := by decide +kernel
theorem lkX5_319 : Cond.methodLink RX5 319 mX5_clashingItem.1 ∈ am_ws := by decide +kernel
theorem lkX5_326 : Cond.methodLink RX5 326 mX0_sameAs.1 ∈ am_ws := by decide +kernel
theorem lkX5_330 : Cond.methodLink RX5 330 mX0_copyFrom.1 ∈ am_ws := by decide +kernel
theorem lkX5_333 : Cond.methodLink RX5 333 mX2_removeLooseChoices.1 ∈ am_ws := by decide +kernel
theorem lkX5_336 : Cond.methodLink RX5 336 mX5_isClashing.1 ∈ am_ws := by decide +kernel
theorem lkX5_340 : Cond.methodLink RX5 340 mX2_countScenes.1 ∈ am_ws := by decide +kernel
theorem lkX5_343 : Cond.methodLink RX5 343 mX2_countChoices.1 ∈ am_ws := by decide +kernel
theorem lkX6_67 : Cond.methodLink RX6 67 mX6_isIn.1 ∈ am_ws := by decide +kernel
theorem lkX6_71 : Cond.methodLink RX6 71 mX6_isScene.1 ∈ am_ws := by decide +kernel
theorem lkX6_75 : Cond.methodLink RX6 75 mX6_at.1 ∈ am_ws := by decide +kernel
theorem lkX6_79 : Cond.methodLink RX6 79 mX6_holds.1 ∈ am_ws := by decide +kernel
theorem lkX6_89 : Cond.methodLink RX6 89 mX6_both.1 ∈ am_ws := by decide +kernel
theorem lkX6_97 : Cond.methodLink RX6 97 mX6_here.1 ∈ am_ws := by decide +kernel
theorem lkX6_101 : Cond.methodLink RX6 101 mX6_one.1 ∈ am_ws := by decide +kernel
theorem lkX6_110 : Cond.methodLink RX6 110 mX6_either.1 ∈ am_ws := by decide +kernel
theorem lkX6_113 : Cond.methodLink RX6 113 mX6_read.1 ∈ am_ws := by decide +kernel
theorem lkX6_116 : Cond.methodLink RX6 116 mX6_clearChoice.1 ∈ am_ws := by decide +kernel
theorem lkX6_120 : Cond.methodLink RX6 120 mX6_hasNeed.1 ∈ am_ws := by decide +kernel
theorem lkX6_123 : Cond.methodLink RX6 123 mX6_readNeed.1 ∈ am_ws := by decide +kernel
theorem lkX6_126 : Cond.methodLink RX6 126 mX6_kindOf.1 ∈ am_ws := by decide +kernel
theorem lkX6_130 : Cond.methodLink RX6 130 mX6_clearChoices.1 ∈ am_ws := by decide +kernel
theorem lkX6_134 : Cond.methodLink RX6 134 mX6_isSet.1 ∈ am_ws := by decide +kernel
theorem lkX6_137 : Cond.methodLink RX6 137 mX6_isThere.1 ∈ am_ws := by decide +kernel
theorem lkX6_140 : Cond.methodLink RX6 140 mX6_meet.1 ∈ am_ws := by decide +kernel
theorem lkX6_143 : Cond.methodLink RX6 143 mX6_isPlace.1 ∈ am_ws := by decide +kernel
theorem lkX6_146 : Cond.methodLink RX6 146 mX6_hasChoice.1 ∈ am_ws := by decide +kernel
theorem lkX6_149 : Cond.methodLink RX6 149 mX6_lay.1 ∈ am_ws := by decide +kernel
theorem lkX6_152 : Cond.methodLink RX6 152 mX6_readBy.1 ∈ am_ws := by decide +kernel
theorem lkX6_155 : Cond.methodLink RX6 155 mX6_holdsFor.1 ∈ am_ws := by decide +kernel
theorem lkX6_158 : Cond.methodLink RX6 158 mX6_isEnding.1 ∈ am_ws := by decide +kernel
theorem lkX6_161 : Cond.methodLink RX6 161 mX6_isShut.1 ∈ am_ws := by decide +kernel
theorem lkX6_168 : Cond.methodLink RX6 168 mX6_leads.1 ∈ am_ws := by decide +kernel
theorem lkX6_172 : Cond.methodLink RX6 172 mX6_reach.1 ∈ am_ws := by decide +kernel
theorem lkX6_176 : Cond.methodLink RX6 176 mX6_liveAt.1 ∈ am_ws := by decide +kernel
theorem lkX6_179 : Cond.methodLink RX6 179 mX6_reach_.1 ∈ am_ws := by decide +kernel
theorem lkX6_181 : Cond.methodLink RX6 181 mX6_tellHope.1 ∈ am_ws := by decide +kernel
theorem lkX6_184 : Cond.methodLink RX6 184 mX6_tellLives.1 ∈ am_ws := by decide +kernel
theorem lkX6_187 : Cond.methodLink RX6 187 mX6_isStuck.1 ∈ am_ws := by decide +kernel
theorem lkX6_190 : Cond.methodLink RX6 190 mX6_isTrap.1 ∈ am_ws := by decide +kernel
theorem lkX6_193 : Cond.methodLink RX6 193 mX6_nearest.1 ∈ am_ws := by decide +kernel
theorem lkX6_196 : Cond.methodLink RX6 196 mX6_goesOn.1 ∈ am_ws := by decide +kernel
theorem lkX6_201 : Cond.methodLink RX6 201 mX6_reachedScenes.1 ∈ am_ws := by decide +kernel
theorem lkX6_204 : Cond.methodLink RX6 204 mX6_size.1 ∈ am_ws := by decide +kernel
theorem lkX6_207 : Cond.methodLink RX6 207 mX6_isSheet.1 ∈ am_ws := by decide +kernel
theorem lkX6_222 : Cond.methodLink RX6 222 mX6_carry.1 ∈ am_ws := by decide +kernel
theorem lkX6_232 : Cond.methodLink RX6 232 mX6_itemFrom.1 ∈ am_ws := by decide +kernel
theorem lkX6_235 : Cond.methodLink RX6 235 mX6_itemWide.1 ∈ am_ws := by decide +kernel
theorem lkX6_238 : Cond.methodLink RX6 238 mX6_differs.1 ∈ am_ws := by decide +kernel
theorem lkX6_242 : Cond.methodLink RX6 242 mX6_clashes.1 ∈ am_ws := by decide +kernel
end
