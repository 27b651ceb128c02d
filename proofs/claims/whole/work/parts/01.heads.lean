-- ===== PART A: goes FIRST, ahead of the names: the tables' words, and 'selects' of the private methods out of them =====
/-- a private method of a class that the tables say can be made, by its rows of tables_1 -/
def lw_okq (q : MethodName × Nat) : Prop := (q.1.cls ≠ "java/lang/invoke/MethodHandle" ∧ q.1.cls ≠ "java/lang/invoke/VarHandle") ∧ Cond.instantiable q.1.cls q.2 ∈ tables_1 ∧ Cond.privateMethod q.1 ∈ tables_1 ∧ Cond.instanceMethod q.1 ∈ tables_1
theorem lw_p0 : lw_okq (⟨"JudgesByLoss$Reader", "scan", "()V"⟩, 8) := ⟨⟨by decide +kernel, by decide +kernel⟩, List.mem_of_getElem? (i := 25) (by decide +kernel), List.mem_of_getElem? (i := 222) (by decide +kernel), List.mem_of_getElem? (i := 223) (by decide +kernel)⟩
theorem lw_p1 : lw_okq (⟨"JudgesByLoss$Reader", "endOfToken", "(I)I"⟩, 8) := ⟨⟨by decide +kernel, by decide +kernel⟩, List.mem_of_getElem? (i := 25) (by decide +kernel), List.mem_of_getElem? (i := 226) (by decide +kernel), List.mem_of_getElem? (i := 227) (by decide +kernel)⟩
theorem lw_p2 : lw_okq (⟨"JudgesByLoss$Reader", "isLetter", "(I)Z"⟩, 8) := ⟨⟨by decide +kernel, by decide +kernel⟩, List.mem_of_getElem? (i := 25) (by decide +kernel), List.mem_of_getElem? (i := 230) (by decide +kernel), List.mem_of_getElem? (i := 231) (by decide +kernel)⟩
theorem lw_p3 : lw_okq (⟨"JudgesByLoss$Reader", "isDigit", "(I)Z"⟩, 8) := ⟨⟨by decide +kernel, by decide +kernel⟩, List.mem_of_getElem? (i := 25) (by decide +kernel), List.mem_of_getElem? (i := 234) (by decide +kernel), List.mem_of_getElem? (i := 235) (by decide +kernel)⟩
theorem lw_p4 : lw_okq (⟨"JudgesByLoss$Reader", "tokenBetween", "(II)I"⟩, 8) := ⟨⟨by decide +kernel, by decide +kernel⟩, List.mem_of_getElem? (i := 25) (by decide +kernel), List.mem_of_getElem? (i := 238) (by decide +kernel), List.mem_of_getElem? (i := 239) (by decide +kernel)⟩
theorem lw_p5 : lw_okq (⟨"JudgesByLoss$Reader", "wordBetween", "(II)I"⟩, 8) := ⟨⟨by decide +kernel, by decide +kernel⟩, List.mem_of_getElem? (i := 25) (by decide +kernel), List.mem_of_getElem? (i := 242) (by decide +kernel), List.mem_of_getElem? (i := 243) (by decide +kernel)⟩
theorem lw_p6 : lw_okq (⟨"JudgesByLoss$Reader", "isWord", "(Ljava/lang/String;II)Z"⟩, 8) := ⟨⟨by decide +kernel, by decide +kernel⟩, List.mem_of_getElem? (i := 25) (by decide +kernel), List.mem_of_getElem? (i := 247) (by decide +kernel), List.mem_of_getElem? (i := 248) (by decide +kernel)⟩
theorem lw_p7 : lw_okq (⟨"JudgesByLoss$Reader", "numberBetween", "(II)I"⟩, 8) := ⟨⟨by decide +kernel, by decide +kernel⟩, List.mem_of_getElem? (i := 25) (by decide +kernel), List.mem_of_getElem? (i := 310) (by decide +kernel), List.mem_of_getElem? (i := 311) (by decide +kernel)⟩
theorem lw_p8 : lw_okq (⟨"JudgesByLoss$Reader", "readPart", "(I)Z"⟩, 8) := ⟨⟨by decide +kernel, by decide +kernel⟩, List.mem_of_getElem? (i := 25) (by decide +kernel), List.mem_of_getElem? (i := 317) (by decide +kernel), List.mem_of_getElem? (i := 318) (by decide +kernel)⟩
theorem lw_p9 : lw_okq (⟨"JudgesByLoss$Reader", "skip", "(I)Z"⟩, 8) := ⟨⟨by decide +kernel, by decide +kernel⟩, List.mem_of_getElem? (i := 25) (by decide +kernel), List.mem_of_getElem? (i := 321) (by decide +kernel), List.mem_of_getElem? (i := 322) (by decide +kernel)⟩
theorem lw_p10 : lw_okq (⟨"JudgesByLoss$Reader", "token", "()I"⟩, 8) := ⟨⟨by decide +kernel, by decide +kernel⟩, List.mem_of_getElem? (i := 25) (by decide +kernel), List.mem_of_getElem? (i := 325) (by decide +kernel), List.mem_of_getElem? (i := 326) (by decide +kernel)⟩
theorem lw_p11 : lw_okq (⟨"JudgesByLoss$Reader", "add", "(I)V"⟩, 8) := ⟨⟨by decide +kernel, by decide +kernel⟩, List.mem_of_getElem? (i := 25) (by decide +kernel), List.mem_of_getElem? (i := 338) (by decide +kernel), List.mem_of_getElem? (i := 339) (by decide +kernel)⟩
theorem lw_p12 : lw_okq (⟨"JudgesByLoss$Reader", "place", "()I"⟩, 8) := ⟨⟨by decide +kernel, by decide +kernel⟩, List.mem_of_getElem? (i := 25) (by decide +kernel), List.mem_of_getElem? (i := 345) (by decide +kernel), List.mem_of_getElem? (i := 346) (by decide +kernel)⟩
theorem lw_p13 : lw_okq (⟨"JudgesByLoss", "canRunTell", "(I)Z"⟩, 9) := ⟨⟨by decide +kernel, by decide +kernel⟩, List.mem_of_getElem? (i := 15) (by decide +kernel), List.mem_of_getElem? (i := 491) (by decide +kernel), List.mem_of_getElem? (i := 492) (by decide +kernel)⟩
theorem lw_p14 : lw_okq (⟨"JudgesByLoss", "think", "()V"⟩, 9) := ⟨⟨by decide +kernel, by decide +kernel⟩, List.mem_of_getElem? (i := 15) (by decide +kernel), List.mem_of_getElem? (i := 495) (by decide +kernel), List.mem_of_getElem? (i := 496) (by decide +kernel)⟩
theorem lw_p15 : lw_okq (⟨"JudgesByLoss", "heardInThought", "(I)I"⟩, 9) := ⟨⟨by decide +kernel, by decide +kernel⟩, List.mem_of_getElem? (i := 15) (by decide +kernel), List.mem_of_getElem? (i := 504) (by decide +kernel), List.mem_of_getElem? (i := 505) (by decide +kernel)⟩
def lw_privs_1 : List (MethodName × Nat) := [(⟨"JudgesByLoss$Reader", "scan", "()V"⟩, 8), (⟨"JudgesByLoss$Reader", "endOfToken", "(I)I"⟩, 8), (⟨"JudgesByLoss$Reader", "isLetter", "(I)Z"⟩, 8), (⟨"JudgesByLoss$Reader", "isDigit", "(I)Z"⟩, 8), (⟨"JudgesByLoss$Reader", "tokenBetween", "(II)I"⟩, 8), (⟨"JudgesByLoss$Reader", "wordBetween", "(II)I"⟩, 8), (⟨"JudgesByLoss$Reader", "isWord", "(Ljava/lang/String;II)Z"⟩, 8), (⟨"JudgesByLoss$Reader", "numberBetween", "(II)I"⟩, 8), (⟨"JudgesByLoss$Reader", "readPart", "(I)Z"⟩, 8), (⟨"JudgesByLoss$Reader", "skip", "(I)Z"⟩, 8), (⟨"JudgesByLoss$Reader", "token", "()I"⟩, 8), (⟨"JudgesByLoss$Reader", "add", "(I)V"⟩, 8), (⟨"JudgesByLoss$Reader", "place", "()I"⟩, 8), (⟨"JudgesByLoss", "canRunTell", "(I)Z"⟩, 9), (⟨"JudgesByLoss", "think", "()V"⟩, 9), (⟨"JudgesByLoss", "heardInThought", "(I)I"⟩, 9)]
theorem lw_r1 : ∀ q ∈ lw_privs_1, lw_okq q := List.forall_mem_cons.mpr ⟨lw_p0, List.forall_mem_cons.mpr ⟨lw_p1, List.forall_mem_cons.mpr ⟨lw_p2, List.forall_mem_cons.mpr ⟨lw_p3, List.forall_mem_cons.mpr ⟨lw_p4, List.forall_mem_cons.mpr ⟨lw_p5, List.forall_mem_cons.mpr ⟨lw_p6, List.forall_mem_cons.mpr ⟨lw_p7, List.forall_mem_cons.mpr ⟨lw_p8, List.forall_mem_cons.mpr ⟨lw_p9, List.forall_mem_cons.mpr ⟨lw_p10, List.forall_mem_cons.mpr ⟨lw_p11, List.forall_mem_cons.mpr ⟨lw_p12, List.forall_mem_cons.mpr ⟨lw_p13, List.forall_mem_cons.mpr ⟨lw_p14, List.forall_mem_cons.mpr ⟨lw_p15, fun _ h => absurd h List.not_mem_nil⟩⟩⟩⟩⟩⟩⟩⟩⟩⟩⟩⟩⟩⟩⟩⟩
theorem lw_p16 : lw_okq (⟨"JudgesByLoss", "fillMost", "()V"⟩, 9) := ⟨⟨by decide +kernel, by decide +kernel⟩, List.mem_of_getElem? (i := 15) (by decide +kernel), List.mem_of_getElem? (i := 520) (by decide +kernel), List.mem_of_getElem? (i := 521) (by decide +kernel)⟩
theorem lw_p17 : lw_okq (⟨"JudgesByLoss", "mostBehind", "(II)I"⟩, 9) := ⟨⟨by decide +kernel, by decide +kernel⟩, List.mem_of_getElem? (i := 15) (by decide +kernel), List.mem_of_getElem? (i := 529) (by decide +kernel), List.mem_of_getElem? (i := 530) (by decide +kernel)⟩
theorem lw_p18 : lw_okq (⟨"JudgesByLoss", "leastDigit", "(II)I"⟩, 9) := ⟨⟨by decide +kernel, by decide +kernel⟩, List.mem_of_getElem? (i := 15) (by decide +kernel), List.mem_of_getElem? (i := 534) (by decide +kernel), List.mem_of_getElem? (i := 535) (by decide +kernel)⟩
theorem lw_p19 : lw_okq (⟨"JudgesByLoss", "fewestLosses", "(II)I"⟩, 9) := ⟨⟨by decide +kernel, by decide +kernel⟩, List.mem_of_getElem? (i := 15) (by decide +kernel), List.mem_of_getElem? (i := 546) (by decide +kernel), List.mem_of_getElem? (i := 547) (by decide +kernel)⟩
theorem lw_p20 : lw_okq (⟨"JudgesByLoss", "refusalOfTold", "(I)I"⟩, 9) := ⟨⟨by decide +kernel, by decide +kernel⟩, List.mem_of_getElem? (i := 15) (by decide +kernel), List.mem_of_getElem? (i := 573) (by decide +kernel), List.mem_of_getElem? (i := 574) (by decide +kernel)⟩
theorem lw_p21 : lw_okq (⟨"JudgesByLoss", "firstOther", "(I)I"⟩, 9) := ⟨⟨by decide +kernel, by decide +kernel⟩, List.mem_of_getElem? (i := 15) (by decide +kernel), List.mem_of_getElem? (i := 581) (by decide +kernel), List.mem_of_getElem? (i := 582) (by decide +kernel)⟩
theorem lw_p22 : lw_okq (⟨"JudgesByLoss", "refusalOfTold", "(II)I"⟩, 9) := ⟨⟨by decide +kernel, by decide +kernel⟩, List.mem_of_getElem? (i := 15) (by decide +kernel), List.mem_of_getElem? (i := 589) (by decide +kernel), List.mem_of_getElem? (i := 590) (by decide +kernel)⟩
theorem lw_p23 : lw_okq (⟨"JudgesByLoss", "heardAmongBurglars", "(I)I"⟩, 9) := ⟨⟨by decide +kernel, by decide +kernel⟩, List.mem_of_getElem? (i := 15) (by decide +kernel), List.mem_of_getElem? (i := 624) (by decide +kernel), List.mem_of_getElem? (i := 625) (by decide +kernel)⟩
theorem lw_p24 : lw_okq (⟨"JudgesByLossModel", "next", "()V"⟩, 35) := ⟨⟨by decide +kernel, by decide +kernel⟩, List.mem_of_getElem? (i := 683) (by decide +kernel), List.mem_of_getElem? (i := 693) (by decide +kernel), List.mem_of_getElem? (i := 694) (by decide +kernel)⟩
theorem lw_p25 : lw_okq (⟨"JudgesByLossModel", "wordFrom", "(II)I"⟩, 35) := ⟨⟨by decide +kernel, by decide +kernel⟩, List.mem_of_getElem? (i := 683) (by decide +kernel), List.mem_of_getElem? (i := 700) (by decide +kernel), List.mem_of_getElem? (i := 701) (by decide +kernel)⟩
theorem lw_p26 : lw_okq (⟨"JudgesByLossModel", "eRead", "()Z"⟩, 35) := ⟨⟨by decide +kernel, by decide +kernel⟩, List.mem_of_getElem? (i := 683) (by decide +kernel), List.mem_of_getElem? (i := 704) (by decide +kernel), List.mem_of_getElem? (i := 705) (by decide +kernel)⟩
theorem lw_p27 : lw_okq (⟨"JudgesByLossModel", "puts", "(I)V"⟩, 35) := ⟨⟨by decide +kernel, by decide +kernel⟩, List.mem_of_getElem? (i := 683) (by decide +kernel), List.mem_of_getElem? (i := 709) (by decide +kernel), List.mem_of_getElem? (i := 710) (by decide +kernel)⟩
theorem lw_p28 : lw_okq (⟨"JudgesByLossModel", "unwinds", "(I)V"⟩, 35) := ⟨⟨by decide +kernel, by decide +kernel⟩, List.mem_of_getElem? (i := 683) (by decide +kernel), List.mem_of_getElem? (i := 713) (by decide +kernel), List.mem_of_getElem? (i := 714) (by decide +kernel)⟩
theorem lw_p29 : lw_okq (⟨"JudgesByLossModel", "opensOne", "(I)Z"⟩, 35) := ⟨⟨by decide +kernel, by decide +kernel⟩, List.mem_of_getElem? (i := 683) (by decide +kernel), List.mem_of_getElem? (i := 720) (by decide +kernel), List.mem_of_getElem? (i := 721) (by decide +kernel)⟩
theorem lw_p30 : lw_okq (⟨"JudgesByLossModel", "holds", "(I)V"⟩, 35) := ⟨⟨by decide +kernel, by decide +kernel⟩, List.mem_of_getElem? (i := 683) (by decide +kernel), List.mem_of_getElem? (i := 724) (by decide +kernel), List.mem_of_getElem? (i := 725) (by decide +kernel)⟩
theorem lw_p31 : lw_okq (⟨"JudgesByLossModel", "signOf", "()I"⟩, 35) := ⟨⟨by decide +kernel, by decide +kernel⟩, List.mem_of_getElem? (i := 683) (by decide +kernel), List.mem_of_getElem? (i := 728) (by decide +kernel), List.mem_of_getElem? (i := 729) (by decide +kernel)⟩
def lw_privs_2 : List (MethodName × Nat) := [(⟨"JudgesByLoss", "fillMost", "()V"⟩, 9), (⟨"JudgesByLoss", "mostBehind", "(II)I"⟩, 9), (⟨"JudgesByLoss", "leastDigit", "(II)I"⟩, 9), (⟨"JudgesByLoss", "fewestLosses", "(II)I"⟩, 9), (⟨"JudgesByLoss", "refusalOfTold", "(I)I"⟩, 9), (⟨"JudgesByLoss", "firstOther", "(I)I"⟩, 9), (⟨"JudgesByLoss", "refusalOfTold", "(II)I"⟩, 9), (⟨"JudgesByLoss", "heardAmongBurglars", "(I)I"⟩, 9), (⟨"JudgesByLossModel", "next", "()V"⟩, 35), (⟨"JudgesByLossModel", "wordFrom", "(II)I"⟩, 35), (⟨"JudgesByLossModel", "eRead", "()Z"⟩, 35), (⟨"JudgesByLossModel", "puts", "(I)V"⟩, 35), (⟨"JudgesByLossModel", "unwinds", "(I)V"⟩, 35), (⟨"JudgesByLossModel", "opensOne", "(I)Z"⟩, 35), (⟨"JudgesByLossModel", "holds", "(I)V"⟩, 35), (⟨"JudgesByLossModel", "signOf", "()I"⟩, 35)]
theorem lw_r2 : ∀ q ∈ lw_privs_2, lw_okq q := List.forall_mem_cons.mpr ⟨lw_p16, List.forall_mem_cons.mpr ⟨lw_p17, List.forall_mem_cons.mpr ⟨lw_p18, List.forall_mem_cons.mpr ⟨lw_p19, List.forall_mem_cons.mpr ⟨lw_p20, List.forall_mem_cons.mpr ⟨lw_p21, List.forall_mem_cons.mpr ⟨lw_p22, List.forall_mem_cons.mpr ⟨lw_p23, List.forall_mem_cons.mpr ⟨lw_p24, List.forall_mem_cons.mpr ⟨lw_p25, List.forall_mem_cons.mpr ⟨lw_p26, List.forall_mem_cons.mpr ⟨lw_p27, List.forall_mem_cons.mpr ⟨lw_p28, List.forall_mem_cons.mpr ⟨lw_p29, List.forall_mem_cons.mpr ⟨lw_p30, List.forall_mem_cons.mpr ⟨lw_p31, fun _ h => absurd h List.not_mem_nil⟩⟩⟩⟩⟩⟩⟩⟩⟩⟩⟩⟩⟩⟩⟩⟩
theorem lw_p32 : lw_okq (⟨"JudgesByLossModel", "between", "(I)Z"⟩, 35) := ⟨⟨by decide +kernel, by decide +kernel⟩, List.mem_of_getElem? (i := 683) (by decide +kernel), List.mem_of_getElem? (i := 732) (by decide +kernel), List.mem_of_getElem? (i := 733) (by decide +kernel)⟩
theorem lw_p33 : lw_okq (⟨"JudgesByLossModel", "caseSet", "()I"⟩, 35) := ⟨⟨by decide +kernel, by decide +kernel⟩, List.mem_of_getElem? (i := 683) (by decide +kernel), List.mem_of_getElem? (i := 846) (by decide +kernel), List.mem_of_getElem? (i := 847) (by decide +kernel)⟩
theorem lw_p34 : lw_okq (⟨"JudgesByLossModel", "isThere", "(I)Z"⟩, 35) := ⟨⟨by decide +kernel, by decide +kernel⟩, List.mem_of_getElem? (i := 683) (by decide +kernel), List.mem_of_getElem? (i := 850) (by decide +kernel), List.mem_of_getElem? (i := 851) (by decide +kernel)⟩
theorem lw_p35 : lw_okq (⟨"JudgesByLossModel", "isOne", "(I)Z"⟩, 35) := ⟨⟨by decide +kernel, by decide +kernel⟩, List.mem_of_getElem? (i := 683) (by decide +kernel), List.mem_of_getElem? (i := 880) (by decide +kernel), List.mem_of_getElem? (i := 881) (by decide +kernel)⟩
theorem lw_p36 : lw_okq (⟨"JudgesByLossModel", "asksOf", "(III)I"⟩, 35) := ⟨⟨by decide +kernel, by decide +kernel⟩, List.mem_of_getElem? (i := 683) (by decide +kernel), List.mem_of_getElem? (i := 884) (by decide +kernel), List.mem_of_getElem? (i := 885) (by decide +kernel)⟩
theorem lw_p37 : lw_okq (⟨"JudgesByLossModel", "says", "(I)I"⟩, 35) := ⟨⟨by decide +kernel, by decide +kernel⟩, List.mem_of_getElem? (i := 683) (by decide +kernel), List.mem_of_getElem? (i := 888) (by decide +kernel), List.mem_of_getElem? (i := 889) (by decide +kernel)⟩
theorem lw_p38 : lw_okq (⟨"JudgesByLossModel", "mayHear", "(I)I"⟩, 35) := ⟨⟨by decide +kernel, by decide +kernel⟩, List.mem_of_getElem? (i := 683) (by decide +kernel), List.mem_of_getElem? (i := 911) (by decide +kernel), List.mem_of_getElem? (i := 912) (by decide +kernel)⟩
theorem lw_p39 : lw_okq (⟨"JudgesByLossModel", "may", "(II)Z"⟩, 35) := ⟨⟨by decide +kernel, by decide +kernel⟩, List.mem_of_getElem? (i := 683) (by decide +kernel), List.mem_of_getElem? (i := 915) (by decide +kernel), List.mem_of_getElem? (i := 916) (by decide +kernel)⟩
theorem lw_p40 : lw_okq (⟨"JudgesByLossModel", "whoMay", "(I)I"⟩, 35) := ⟨⟨by decide +kernel, by decide +kernel⟩, List.mem_of_getElem? (i := 683) (by decide +kernel), List.mem_of_getElem? (i := 923) (by decide +kernel), List.mem_of_getElem? (i := 924) (by decide +kernel)⟩
theorem lw_p41 : lw_okq (⟨"JudgesByLossModel", "takesOf", "(II)I"⟩, 35) := ⟨⟨by decide +kernel, by decide +kernel⟩, List.mem_of_getElem? (i := 683) (by decide +kernel), List.mem_of_getElem? (i := 931) (by decide +kernel), List.mem_of_getElem? (i := 932) (by decide +kernel)⟩
theorem lw_p42 : lw_okq (⟨"JudgesByLossModel", "judgesOf", "(II)I"⟩, 35) := ⟨⟨by decide +kernel, by decide +kernel⟩, List.mem_of_getElem? (i := 683) (by decide +kernel), List.mem_of_getElem? (i := 935) (by decide +kernel), List.mem_of_getElem? (i := 936) (by decide +kernel)⟩
theorem lw_p43 : lw_okq (⟨"JudgesByLossModel", "can", "(II)Z"⟩, 35) := ⟨⟨by decide +kernel, by decide +kernel⟩, List.mem_of_getElem? (i := 683) (by decide +kernel), List.mem_of_getElem? (i := 943) (by decide +kernel), List.mem_of_getElem? (i := 944) (by decide +kernel)⟩
theorem lw_p44 : lw_okq (⟨"JudgesByLossModel", "hears", "(II)I"⟩, 35) := ⟨⟨by decide +kernel, by decide +kernel⟩, List.mem_of_getElem? (i := 683) (by decide +kernel), List.mem_of_getElem? (i := 947) (by decide +kernel), List.mem_of_getElem? (i := 948) (by decide +kernel)⟩
theorem lw_p45 : lw_okq (⟨"JudgesByLossModel", "dayOf", "()I"⟩, 35) := ⟨⟨by decide +kernel, by decide +kernel⟩, List.mem_of_getElem? (i := 683) (by decide +kernel), List.mem_of_getElem? (i := 959) (by decide +kernel), List.mem_of_getElem? (i := 960) (by decide +kernel)⟩
theorem lw_p46 : lw_okq (⟨"JudgesByLossModel", "isHeard", "(I)Z"⟩, 35) := ⟨⟨by decide +kernel, by decide +kernel⟩, List.mem_of_getElem? (i := 683) (by decide +kernel), List.mem_of_getElem? (i := 963) (by decide +kernel), List.mem_of_getElem? (i := 964) (by decide +kernel)⟩
theorem lw_p47 : lw_okq (⟨"JudgesByLossModel", "keeps", "()V"⟩, 35) := ⟨⟨by decide +kernel, by decide +kernel⟩, List.mem_of_getElem? (i := 683) (by decide +kernel), List.mem_of_getElem? (i := 971) (by decide +kernel), List.mem_of_getElem? (i := 972) (by decide +kernel)⟩
def lw_privs_3 : List (MethodName × Nat) := [(⟨"JudgesByLossModel", "between", "(I)Z"⟩, 35), (⟨"JudgesByLossModel", "caseSet", "()I"⟩, 35), (⟨"JudgesByLossModel", "isThere", "(I)Z"⟩, 35), (⟨"JudgesByLossModel", "isOne", "(I)Z"⟩, 35), (⟨"JudgesByLossModel", "asksOf", "(III)I"⟩, 35), (⟨"JudgesByLossModel", "says", "(I)I"⟩, 35), (⟨"JudgesByLossModel", "mayHear", "(I)I"⟩, 35), (⟨"JudgesByLossModel", "may", "(II)Z"⟩, 35), (⟨"JudgesByLossModel", "whoMay", "(I)I"⟩, 35), (⟨"JudgesByLossModel", "takesOf", "(II)I"⟩, 35), (⟨"JudgesByLossModel", "judgesOf", "(II)I"⟩, 35), (⟨"JudgesByLossModel", "can", "(II)Z"⟩, 35), (⟨"JudgesByLossModel", "hears", "(II)I"⟩, 35), (⟨"JudgesByLossModel", "dayOf", "()I"⟩, 35), (⟨"JudgesByLossModel", "isHeard", "(I)Z"⟩, 35), (⟨"JudgesByLossModel", "keeps", "()V"⟩, 35)]
theorem lw_r3 : ∀ q ∈ lw_privs_3, lw_okq q := List.forall_mem_cons.mpr ⟨lw_p32, List.forall_mem_cons.mpr ⟨lw_p33, List.forall_mem_cons.mpr ⟨lw_p34, List.forall_mem_cons.mpr ⟨lw_p35, List.forall_mem_cons.mpr ⟨lw_p36, List.forall_mem_cons.mpr ⟨lw_p37, List.forall_mem_cons.mpr ⟨lw_p38, List.forall_mem_cons.mpr ⟨lw_p39, List.forall_mem_cons.mpr ⟨lw_p40, List.forall_mem_cons.mpr ⟨lw_p41, List.forall_mem_cons.mpr ⟨lw_p42, List.forall_mem_cons.mpr ⟨lw_p43, List.forall_mem_cons.mpr ⟨lw_p44, List.forall_mem_cons.mpr ⟨lw_p45, List.forall_mem_cons.mpr ⟨lw_p46, List.forall_mem_cons.mpr ⟨lw_p47, fun _ h => absurd h List.not_mem_nil⟩⟩⟩⟩⟩⟩⟩⟩⟩⟩⟩⟩⟩⟩⟩⟩
theorem lw_p48 : lw_okq (⟨"JudgesByLossModel", "goes", "(I)I"⟩, 35) := ⟨⟨by decide +kernel, by decide +kernel⟩, List.mem_of_getElem? (i := 683) (by decide +kernel), List.mem_of_getElem? (i := 975) (by decide +kernel), List.mem_of_getElem? (i := 976) (by decide +kernel)⟩
theorem lw_p49 : lw_okq (⟨"JudgesByLossModel", "waitedAll", "()I"⟩, 35) := ⟨⟨by decide +kernel, by decide +kernel⟩, List.mem_of_getElem? (i := 683) (by decide +kernel), List.mem_of_getElem? (i := 979) (by decide +kernel), List.mem_of_getElem? (i := 980) (by decide +kernel)⟩
theorem lw_p50 : lw_okq (⟨"JudgesByLossModel", "lays", "()V"⟩, 35) := ⟨⟨by decide +kernel, by decide +kernel⟩, List.mem_of_getElem? (i := 683) (by decide +kernel), List.mem_of_getElem? (i := 983) (by decide +kernel), List.mem_of_getElem? (i := 984) (by decide +kernel)⟩
theorem lw_p51 : lw_okq (⟨"JudgesByLossModel", "tellsSittings", "()V"⟩, 35) := ⟨⟨by decide +kernel, by decide +kernel⟩, List.mem_of_getElem? (i := 683) (by decide +kernel), List.mem_of_getElem? (i := 995) (by decide +kernel), List.mem_of_getElem? (i := 996) (by decide +kernel)⟩
theorem lw_p52 : lw_okq (⟨"JudgesByLossModel", "leastSitting", "()I"⟩, 35) := ⟨⟨by decide +kernel, by decide +kernel⟩, List.mem_of_getElem? (i := 683) (by decide +kernel), List.mem_of_getElem? (i := 999) (by decide +kernel), List.mem_of_getElem? (i := 1000) (by decide +kernel)⟩
theorem lw_p53 : lw_okq (⟨"JudgesByLossModel", "sheetWrong", "(I)I"⟩, 35) := ⟨⟨by decide +kernel, by decide +kernel⟩, List.mem_of_getElem? (i := 683) (by decide +kernel), List.mem_of_getElem? (i := 1031) (by decide +kernel), List.mem_of_getElem? (i := 1032) (by decide +kernel)⟩
theorem lw_p54 : lw_okq (⟨"JudgesByLossModel", "unlike", "(I)I"⟩, 35) := ⟨⟨by decide +kernel, by decide +kernel⟩, List.mem_of_getElem? (i := 683) (by decide +kernel), List.mem_of_getElem? (i := 1035) (by decide +kernel), List.mem_of_getElem? (i := 1036) (by decide +kernel)⟩
theorem lw_p55 : lw_okq (⟨"JudgesByLossModel", "burglars", "(I)I"⟩, 35) := ⟨⟨by decide +kernel, by decide +kernel⟩, List.mem_of_getElem? (i := 683) (by decide +kernel), List.mem_of_getElem? (i := 1068) (by decide +kernel), List.mem_of_getElem? (i := 1069) (by decide +kernel)⟩
def lw_privs_4 : List (MethodName × Nat) := [(⟨"JudgesByLossModel", "goes", "(I)I"⟩, 35), (⟨"JudgesByLossModel", "waitedAll", "()I"⟩, 35), (⟨"JudgesByLossModel", "lays", "()V"⟩, 35), (⟨"JudgesByLossModel", "tellsSittings", "()V"⟩, 35), (⟨"JudgesByLossModel", "leastSitting", "()I"⟩, 35), (⟨"JudgesByLossModel", "sheetWrong", "(I)I"⟩, 35), (⟨"JudgesByLossModel", "unlike", "(I)I"⟩, 35), (⟨"JudgesByLossModel", "burglars", "(I)I"⟩, 35)]
theorem lw_r4 : ∀ q ∈ lw_privs_4, lw_okq q := List.forall_mem_cons.mpr ⟨lw_p48, List.forall_mem_cons.mpr ⟨lw_p49, List.forall_mem_cons.mpr ⟨lw_p50, List.forall_mem_cons.mpr ⟨lw_p51, List.forall_mem_cons.mpr ⟨lw_p52, List.forall_mem_cons.mpr ⟨lw_p53, List.forall_mem_cons.mpr ⟨lw_p54, List.forall_mem_cons.mpr ⟨lw_p55, fun _ h => absurd h List.not_mem_nil⟩⟩⟩⟩⟩⟩⟩⟩
def lw_privs : List (MethodName × Nat) := lw_privs_1 ++ (lw_privs_2 ++ (lw_privs_3 ++ (lw_privs_4)))
def lw_tbl : List Cond := k2_sels lw_privs ++ tables_1
theorem lw_privs_ok : ∀ q ∈ lw_privs, lw_okq q := by
  show ∀ q ∈ lw_privs_1 ++ (lw_privs_2 ++ (lw_privs_3 ++ (lw_privs_4))), lw_okq q
  exact List.forall_mem_append.mpr ⟨lw_r1, List.forall_mem_append.mpr ⟨lw_r2, List.forall_mem_append.mpr ⟨lw_r3, lw_r4⟩⟩⟩
/-! ===== BEGIN words of one list among another's, by their places ===== -/
theorem goodIn_r {big : List Cond} (ws : List Cond) (ps : List Nat) (hp : ws = ps.filterMap (fun i => big[i]?)) (h : ws.all goodWord = true) : GoodIn big ws := by
  intro w hw
  have h1 := List.all_eq_true.mp h w hw
  rw [hp] at hw
  obtain ⟨i, -, hi⟩ := List.mem_filterMap.mp hw
  have hm : w ∈ big := by first | exact List.mem_of_getElem? hi | exact List.getElem?_mem hi
  exact ⟨hm, good_of_word h1⟩
theorem goodIn_app {big a b : List Cond} (ha : GoodIn big a) (hb : GoodIn big b) : GoodIn big (a ++ b) := fun w h => (List.mem_append.mp h).elim (ha w) (hb w)
theorem goodIn_ca {big a b : List Cond} {c : Cond} (ha : GoodIn big (c :: a)) (hb : GoodIn big b) : GoodIn big (c :: (a ++ b)) := fun w h => (List.mem_cons.mp h).elim (fun e => ha w (List.mem_cons.mpr (Or.inl e))) (fun h => (List.mem_append.mp h).elim (fun h => ha w (List.mem_cons.mpr (Or.inr h))) (hb w))
theorem goodIn_sub {big ws : List Cond} (hm : ∀ w ∈ ws, w ∈ big) (h : ws.all goodWord = true) : GoodIn big ws := fun w hw => ⟨hm w hw, good_of_word (List.all_eq_true.mp h w hw)⟩
/-! ===== END ===== -/

/-! ===== BEGIN printed: names, fields, word lists, decode rows ===== -/
def RX0 : String := "JudgesByLoss$Bench"
def TX0 : u_T := fun k => match k with
  | 0 => ("JudgesByLoss$Bench", "kind", "[I", true)
  | 1 => ("JudgesByLoss$Bench", "more", "[I", true)
  | 2 => ("JudgesByLoss$Bench", "lost", "[I", true)
  | 3 => ("JudgesByLoss$Bench", "mind", "[I", true)
  | 4 => ("JudgesByLoss$Bench", "busy", "[I", true)
  | 5 => ("JudgesByLoss$Bench", "about", "[I", true)
  | 6 => ("JudgesByLoss$Bench", "hard", "[I", true)
  | 7 => ("JudgesByLoss$Bench", "waited", "[I", true)
  | 8 => ("JudgesByLoss$Bench", "facts", "[I", true)
  | 9 => ("JudgesByLoss$Bench", "judges", "I", false)
  | 10 => ("JudgesByLoss$Bench", "there", "I", false)
  | 11 => ("JudgesByLoss$Bench", "day", "I", false)
  | 12 => ("JudgesByLoss$Bench", "heard", "I", false)
  | 13 => ("JudgesByLoss$Bench", "lawNumber", "I", false)
  | _ => ("JudgesByLoss$Bench", "law", "LJudgesByLoss$Text;", false)
def tyX0 : Nat → FieldType := fun k => match k with
  | 0 => .array .int
  | 1 => .array .int
  | 2 => .array .int
  | 3 => .array .int
  | 4 => .array .int
  | 5 => .array .int
  | 6 => .array .int
  | 7 => .array .int
  | 8 => .array .int
  | 9 => .int
  | 10 => .int
  | 11 => .int
  | 12 => .int
  | 13 => .int
  | _ => .object "JudgesByLoss$Text"
abbrev wsX00 : List Cond := u_ws RX0 TX0 15
theorem nmX0 : ∀ a, a < 15 → ∀ b, b < 15 → a ≠ b → (TX0 a).2.1 ≠ (TX0 b).2.1 := by decide +kernel
theorem tyX0_ok : ∀ k, k < 15 → parseFieldDescriptor (TX0 k).2.2.1 = some (tyX0 k) := by decide +kernel
abbrev cX0_init : ByteArray := prog_2_method_1_code
def yX0_init : MethodName := ⟨RX0, "<init>", "(LJudgesByLoss$Text;)V"⟩
abbrev cX0_obey : ByteArray := prog_2_method_2_code
def yX0_obey : MethodName := ⟨RX0, "obey", "(LJudgesByLoss$Text;I)V"⟩
abbrev cX0_become : ByteArray := prog_2_method_3_code
def yX0_become : MethodName := ⟨RX0, "become", "(LJudgesByLoss$Bench;)V"⟩
abbrev cX0_hasJudge : ByteArray := prog_2_method_4_code
def yX0_hasJudge : MethodName := ⟨RX0, "hasJudge", "(I)Z"⟩
abbrev cX0_hasCase : ByteArray := prog_2_method_5_code
def yX0_hasCase : MethodName := ⟨RX0, "hasCase", "(I)Z"⟩
abbrev cX0_isOf : ByteArray := prog_2_method_6_code
def yX0_isOf : MethodName := ⟨RX0, "isOf", "(II)Z"⟩
abbrev cX0_says : ByteArray := prog_2_method_7_code
def yX0_says : MethodName := ⟨RX0, "says", "(III)I"⟩
abbrev cX0_burden : ByteArray := prog_2_method_8_code
def yX0_burden : MethodName := ⟨RX0, "burden", "(II)I"⟩
abbrev cX0_may : ByteArray := prog_2_method_9_code
def yX0_may : MethodName := ⟨RX0, "may", "(II)Z"⟩
abbrev cX0_can : ByteArray := prog_2_method_10_code
def yX0_can : MethodName := ⟨RX0, "can", "(II)Z"⟩
abbrev cX0_daysFor : ByteArray := prog_2_method_11_code
def yX0_daysFor : MethodName := ⟨RX0, "daysFor", "(II)I"⟩
abbrev cX0_hardnessOf : ByteArray := prog_2_method_12_code
def yX0_hardnessOf : MethodName := ⟨RX0, "hardnessOf", "(II)I"⟩
abbrev cX0_casesFor : ByteArray := prog_2_method_13_code
def yX0_casesFor : MethodName := ⟨RX0, "casesFor", "(I)I"⟩
abbrev cX0_judgesFor : ByteArray := prog_2_method_14_code
def yX0_judgesFor : MethodName := ⟨RX0, "judgesFor", "(I)I"⟩
abbrev cX0_whoCan : ByteArray := prog_2_method_15_code
def yX0_whoCan : MethodName := ⟨RX0, "whoCan", "(I)I"⟩
abbrev cX0_firstWhoCan : ByteArray := prog_2_method_16_code
def yX0_firstWhoCan : MethodName := ⟨RX0, "firstWhoCan", "(I)I"⟩
abbrev cX0_allWaited : ByteArray := prog_2_method_17_code
def yX0_allWaited : MethodName := ⟨RX0, "allWaited", "()I"⟩
abbrev cX0_hold : ByteArray := prog_2_method_18_code
def yX0_hold : MethodName := ⟨RX0, "hold", "(II)I"⟩
abbrev cX0_passDay : ByteArray := prog_2_method_19_code
def yX0_passDay : MethodName := ⟨RX0, "passDay", "()I"⟩
def RX1 : String := "JudgesByLoss$Reader"
def TX1 : u_T := fun k => match k with
  | 0 => ("JudgesByLoss$Reader", "tape", "[I", true)
  | 1 => ("JudgesByLoss$Reader", "tokens", "[I", true)
  | 2 => ("JudgesByLoss$Reader", "places", "[I", true)
  | 3 => ("JudgesByLoss$Reader", "code", "[I", true)
  | 4 => ("JudgesByLoss$Reader", "ends", "[I", true)
  | 5 => ("JudgesByLoss$Reader", "tapeSize", "I", false)
  | 6 => ("JudgesByLoss$Reader", "at", "I", false)
  | _ => ("JudgesByLoss$Reader", "codeSize", "I", false)
def tyX1 : Nat → FieldType := fun k => match k with
  | 0 => .array .int
  | 1 => .array .int
  | 2 => .array .int
  | 3 => .array .int
  | 4 => .array .int
  | 5 => .int
  | 6 => .int
  | _ => .int
abbrev wsX10 : List Cond := u_ws RX1 TX1 8
theorem nmX1 : ∀ a, a < 8 → ∀ b, b < 8 → a ≠ b → (TX1 a).2.1 ≠ (TX1 b).2.1 := by decide +kernel
theorem tyX1_ok : ∀ k, k < 8 → parseFieldDescriptor (TX1 k).2.2.1 = some (tyX1 k) := by decide +kernel
abbrev cX1_init : ByteArray := prog_3_method_1_code
def yX1_init : MethodName := ⟨RX1, "<init>", "()V"⟩
abbrev cX1_addByte : ByteArray := prog_3_method_2_code
def yX1_addByte : MethodName := ⟨RX1, "addByte", "(I)V"⟩
abbrev cX1_faultOfTape : ByteArray := prog_3_method_3_code
def yX1_faultOfTape : MethodName := ⟨RX1, "faultOfTape", "()I"⟩
abbrev cX1_whatWasRead : ByteArray := prog_3_method_4_code
def yX1_whatWasRead : MethodName := ⟨RX1, "whatWasRead", "()LJudgesByLoss$Text;"⟩
abbrev cX1_token : ByteArray := prog_3_method_5_code
def yX1_token : MethodName := ⟨RX1, "token", "()I"⟩
abbrev cX1_place : ByteArray := prog_3_method_6_code
def yX1_place : MethodName := ⟨RX1, "place", "()I"⟩
abbrev cX1_skip : ByteArray := prog_3_method_7_code
def yX1_skip : MethodName := ⟨RX1, "skip", "(I)Z"⟩
abbrev cX1_add : ByteArray := prog_3_method_8_code
def yX1_add : MethodName := ⟨RX1, "add", "(I)V"⟩
abbrev cX1_readPart : ByteArray := prog_3_method_9_code
def yX1_readPart : MethodName := ⟨RX1, "readPart", "(I)Z"⟩
abbrev cX1_readLevel : ByteArray := prog_3_method_10_code
def yX1_readLevel : MethodName := ⟨RX1, "readLevel", "(LJudgesByLoss$Reader;II)Z"⟩
abbrev cX1_readOne : ByteArray := prog_3_method_11_code
def yX1_readOne : MethodName := ⟨RX1, "readOne", "(LJudgesByLoss$Reader;I)Z"⟩
abbrev cX1_readPrefixed : ByteArray := prog_3_method_12_code
def yX1_readPrefixed : MethodName := ⟨RX1, "readPrefixed", "(LJudgesByLoss$Reader;III)Z"⟩
abbrev cX1_joins : ByteArray := prog_3_method_13_code
def yX1_joins : MethodName := ⟨RX1, "joins", "(II)Z"⟩
abbrev cX1_scan : ByteArray := prog_3_method_14_code
def yX1_scan : MethodName := ⟨RX1, "scan", "()V"⟩
abbrev cX1_isLetter : ByteArray := prog_3_method_15_code
def yX1_isLetter : MethodName := ⟨RX1, "isLetter", "(I)Z"⟩
abbrev cX1_isDigit : ByteArray := prog_3_method_16_code
def yX1_isDigit : MethodName := ⟨RX1, "isDigit", "(I)Z"⟩
abbrev cX1_endOfToken : ByteArray := prog_3_method_17_code
def yX1_endOfToken : MethodName := ⟨RX1, "endOfToken", "(I)I"⟩
abbrev cX1_tokenBetween : ByteArray := prog_3_method_18_code
def yX1_tokenBetween : MethodName := ⟨RX1, "tokenBetween", "(II)I"⟩
abbrev cX1_numberBetween : ByteArray := prog_3_method_19_code
def yX1_numberBetween : MethodName := ⟨RX1, "numberBetween", "(II)I"⟩
abbrev cX1_signOf : ByteArray := prog_3_method_20_code
def yX1_signOf : MethodName := ⟨RX1, "signOf", "(I)I"⟩
abbrev cX1_wordBetween : ByteArray := prog_3_method_21_code
def yX1_wordBetween : MethodName := ⟨RX1, "wordBetween", "(II)I"⟩
abbrev cX1_isWord : ByteArray := prog_3_method_22_code
def yX1_isWord : MethodName := ⟨RX1, "isWord", "(Ljava/lang/String;II)Z"⟩
def RX2 : String := "JudgesByLoss$Sheet"
def TX2 : u_T := fun k => match k with
  | 0 => ("JudgesByLoss$Sheet", "cells", "[I", true)
  | 1 => ("JudgesByLoss$Sheet", "sort", "I", false)
  | _ => ("JudgesByLoss$Sheet", "size", "I", false)
def tyX2 : Nat → FieldType := fun k => match k with
  | 0 => .array .int
  | 1 => .int
  | _ => .int
abbrev wsX20 : List Cond := u_ws RX2 TX2 3
theorem nmX2 : ∀ a, a < 3 → ∀ b, b < 3 → a ≠ b → (TX2 a).2.1 ≠ (TX2 b).2.1 := by decide +kernel
theorem tyX2_ok : ∀ k, k < 3 → parseFieldDescriptor (TX2 k).2.2.1 = some (tyX2 k) := by decide +kernel
abbrev cX2_init : ByteArray := prog_4_method_1_code
def yX2_init : MethodName := ⟨RX2, "<init>", "()V"⟩
abbrev cX2_isMissing : ByteArray := prog_4_method_2_code
def yX2_isMissing : MethodName := ⟨RX2, "isMissing", "()Z"⟩
abbrev cX2_renew : ByteArray := prog_4_method_3_code
def yX2_renew : MethodName := ⟨RX2, "renew", "(II)V"⟩
abbrev cX2_cut : ByteArray := prog_4_method_4_code
def yX2_cut : MethodName := ⟨RX2, "cut", "(I)I"⟩
abbrev cX2_holds : ByteArray := prog_4_method_5_code
def yX2_holds : MethodName := ⟨RX2, "holds", "(II)Z"⟩
def RX3 : String := "JudgesByLoss$Text"
def TX3 : u_T := fun k => match k with
  | 0 => ("JudgesByLoss$Text", "code", "[I", true)
  | 1 => ("JudgesByLoss$Text", "ends", "[I", true)
  | _ => ("JudgesByLoss$Text", "stack", "[I", true)
def tyX3 : Nat → FieldType := fun k => match k with
  | 0 => .array .int
  | 1 => .array .int
  | _ => .array .int
abbrev wsX30 : List Cond := u_ws RX3 TX3 3
theorem nmX3 : ∀ a, a < 3 → ∀ b, b < 3 → a ≠ b → (TX3 a).2.1 ≠ (TX3 b).2.1 := by decide +kernel
theorem tyX3_ok : ∀ k, k < 3 → parseFieldDescriptor (TX3 k).2.2.1 = some (tyX3 k) := by decide +kernel
abbrev cX3_init : ByteArray := prog_5_method_1_code
def yX3_init : MethodName := ⟨RX3, "<init>", "([I[I)V"⟩
abbrev cX3_valueOf : ByteArray := prog_5_method_2_code
def yX3_valueOf : MethodName := ⟨RX3, "valueOf", "(I[I)I"⟩
def RX4 : String := "JudgesByLoss"
def TX4 : u_T := fun k => match k with
  | 0 => ("JudgesByLoss", "truth", "LJudgesByLoss$Bench;", true)
  | 1 => ("JudgesByLoss", "thought", "LJudgesByLoss$Bench;", true)
  | 2 => ("JudgesByLoss", "kept", "LJudgesByLoss$Bench;", true)
  | 3 => ("JudgesByLoss", "imaged", "Z", false)
  | 4 => ("JudgesByLoss", "texts", "[LJudgesByLoss$Text;", true)
  | 5 => ("JudgesByLoss", "textCount", "I", false)
  | 6 => ("JudgesByLoss", "reader", "LJudgesByLoss$Reader;", true)
  | 7 => ("JudgesByLoss", "sheets", "[LJudgesByLoss$Sheet;", true)
  | _ => ("JudgesByLoss", "most", "[I", true)
def tyX4 : Nat → FieldType := fun k => match k with
  | 0 => .object "JudgesByLoss$Bench"
  | 1 => .object "JudgesByLoss$Bench"
  | 2 => .object "JudgesByLoss$Bench"
  | 3 => .boolean
  | 4 => .array (.object "JudgesByLoss$Text")
  | 5 => .int
  | 6 => .object "JudgesByLoss$Reader"
  | 7 => .array (.object "JudgesByLoss$Sheet")
  | _ => .array .int
abbrev wsX40 : List Cond := u_ws RX4 TX4 9
theorem nmX4 : ∀ a, a < 9 → ∀ b, b < 9 → a ≠ b → (TX4 a).2.1 ≠ (TX4 b).2.1 := by decide +kernel
theorem tyX4_ok : ∀ k, k < 9 → parseFieldDescriptor (TX4 k).2.2.1 = some (tyX4 k) := by decide +kernel
abbrev cX4_init : ByteArray := prog_1_method_1_code
def yX4_init : MethodName := ⟨RX4, "<init>", "()V"⟩
abbrev cX4_count : ByteArray := prog_1_method_2_code
def yX4_count : MethodName := ⟨RX4, "count", "(I)I"⟩
abbrev cX4_dawn : ByteArray := prog_1_method_3_code
def yX4_dawn : MethodName := ⟨RX4, "dawn", "(I)I"⟩
abbrev cX4_feed : ByteArray := prog_1_method_4_code
def yX4_feed : MethodName := ⟨RX4, "feed", "(IIIIII)I"⟩
abbrev cX4_text : ByteArray := prog_1_method_5_code
def yX4_text : MethodName := ⟨RX4, "text", "()I"⟩
abbrev cX4_force : ByteArray := prog_1_method_6_code
def yX4_force : MethodName := ⟨RX4, "force", "(I)I"⟩
abbrev cX4_asks : ByteArray := prog_1_method_7_code
def yX4_asks : MethodName := ⟨RX4, "asks", "(III)I"⟩
abbrev cX4_judge : ByteArray := prog_1_method_8_code
def yX4_judge : MethodName := ⟨RX4, "judge", "(III)I"⟩
abbrev cX4_file : ByteArray := prog_1_method_9_code
def yX4_file : MethodName := ⟨RX4, "file", "(II)I"⟩
abbrev cX4_put : ByteArray := prog_1_method_10_code
def yX4_put : MethodName := ⟨RX4, "put", "(III)I"⟩
abbrev cX4_told : ByteArray := prog_1_method_11_code
def yX4_told : MethodName := ⟨RX4, "told", "(II)I"⟩
abbrev cX4_paper : ByteArray := prog_1_method_12_code
def yX4_paper : MethodName := ⟨RX4, "paper", "(II)I"⟩
abbrev cX4_hearing : ByteArray := prog_1_method_13_code
def yX4_hearing : MethodName := ⟨RX4, "hearing", "(III)I"⟩
abbrev cX4_hear : ByteArray := prog_1_method_14_code
def yX4_hear : MethodName := ⟨RX4, "hear", "(II)I"⟩
abbrev cX4_rob : ByteArray := prog_1_method_15_code
def yX4_rob : MethodName := ⟨RX4, "rob", "(II)I"⟩
abbrev cX4_day : ByteArray := prog_1_method_16_code
def yX4_day : MethodName := ⟨RX4, "day", "()I"⟩
abbrev cX4_run : ByteArray := prog_1_method_17_code
def yX4_run : MethodName := ⟨RX4, "run", "(II)I"⟩
abbrev cX4_when : ByteArray := prog_1_method_18_code
def yX4_when : MethodName := ⟨RX4, "when", "(I)I"⟩
abbrev cX4_sitting : ByteArray := prog_1_method_19_code
def yX4_sitting : MethodName := ⟨RX4, "sitting", "(I)I"⟩
abbrev cX4_burglary : ByteArray := prog_1_method_20_code
def yX4_burglary : MethodName := ⟨RX4, "burglary", "(II)I"⟩
abbrev cX4_wants : ByteArray := prog_1_method_21_code
def yX4_wants : MethodName := ⟨RX4, "wants", "(III)I"⟩
abbrev cX4_fullest : ByteArray := prog_1_method_22_code
def yX4_fullest : MethodName := ⟨RX4, "fullest", "(I)I"⟩
abbrev cX4_cruel : ByteArray := prog_1_method_23_code
def yX4_cruel : MethodName := ⟨RX4, "cruel", "()I"⟩
abbrev cX4_ruin : ByteArray := prog_1_method_24_code
def yX4_ruin : MethodName := ⟨RX4, "ruin", "(I)J"⟩
abbrev cX4_tells : ByteArray := prog_1_method_25_code
def yX4_tells : MethodName := ⟨RX4, "tells", "(I)I"⟩
abbrev cX4_kinds : ByteArray := prog_1_method_26_code
def yX4_kinds : MethodName := ⟨RX4, "kinds", "(III)I"⟩
abbrev cX4_turned : ByteArray := prog_1_method_27_code
def yX4_turned : MethodName := ⟨RX4, "turned", "(II)I"⟩
abbrev cX4_states : ByteArray := prog_1_method_28_code
def yX4_states : MethodName := ⟨RX4, "states", "(IIII)I"⟩
abbrev cX4_dropped : ByteArray := prog_1_method_29_code
def yX4_dropped : MethodName := ⟨RX4, "dropped", "(I)I"⟩
abbrev cX4_laws : ByteArray := prog_1_method_30_code
def yX4_laws : MethodName := ⟨RX4, "laws", "(I)I"⟩
abbrev cX4_film : ByteArray := prog_1_method_31_code
def yX4_film : MethodName := ⟨RX4, "film", "(II)I"⟩
abbrev cX4_drawn : ByteArray := prog_1_method_32_code
def yX4_drawn : MethodName := ⟨RX4, "drawn", "(II)I"⟩
abbrev cX4_odds : ByteArray := prog_1_method_33_code
def yX4_odds : MethodName := ⟨RX4, "odds", "(IIII)J"⟩
abbrev cX4_image : ByteArray := prog_1_method_34_code
def yX4_image : MethodName := ⟨RX4, "image", "()I"⟩
abbrev cX4_back : ByteArray := prog_1_method_35_code
def yX4_back : MethodName := ⟨RX4, "back", "()I"⟩
abbrev cX4_sheet : ByteArray := prog_1_method_36_code
def yX4_sheet : MethodName := ⟨RX4, "sheet", "(III)I"⟩
abbrev cX4_cell : ByteArray := prog_1_method_37_code
def yX4_cell : MethodName := ⟨RX4, "cell", "(III)I"⟩
abbrev cX4_copy : ByteArray := prog_1_method_38_code
def yX4_copy : MethodName := ⟨RX4, "copy", "(IIIII)I"⟩
abbrev cX4_judgesBy : ByteArray := prog_1_method_39_code
def yX4_judgesBy : MethodName := ⟨RX4, "judgesBy", "(IIII)I"⟩
abbrev cX4_taken : ByteArray := prog_1_method_40_code
def yX4_taken : MethodName := ⟨RX4, "taken", "(II)I"⟩
abbrev cX4_within : ByteArray := prog_1_method_41_code
def yX4_within : MethodName := ⟨RX4, "within", "(III)Z"⟩
abbrev cX4_isSet : ByteArray := prog_1_method_42_code
def yX4_isSet : MethodName := ⟨RX4, "isSet", "(I)Z"⟩
abbrev cX4_isByte : ByteArray := prog_1_method_43_code
def yX4_isByte : MethodName := ⟨RX4, "isByte", "(I)Z"⟩
abbrev cX4_commonDivisor : ByteArray := prog_1_method_44_code
def yX4_commonDivisor : MethodName := ⟨RX4, "commonDivisor", "(II)I"⟩
abbrev cX4_partOfFraction : ByteArray := prog_1_method_45_code
def yX4_partOfFraction : MethodName := ⟨RX4, "partOfFraction", "(III)J"⟩
abbrev cX4_think : ByteArray := prog_1_method_46_code
def yX4_think : MethodName := ⟨RX4, "think", "()V"⟩
abbrev cX4_heardInThought : ByteArray := prog_1_method_47_code
def yX4_heardInThought : MethodName := ⟨RX4, "heardInThought", "(I)I"⟩
abbrev cX4_canRunTell : ByteArray := prog_1_method_48_code
def yX4_canRunTell : MethodName := ⟨RX4, "canRunTell", "(I)Z"⟩
abbrev cX4_fewestLosses : ByteArray := prog_1_method_49_code
def yX4_fewestLosses : MethodName := ⟨RX4, "fewestLosses", "(II)I"⟩
abbrev cX4_nextLot : ByteArray := prog_1_method_50_code
def yX4_nextLot : MethodName := ⟨RX4, "nextLot", "(J)J"⟩
abbrev cX4_heardAmongBurglars : ByteArray := prog_1_method_51_code
def yX4_heardAmongBurglars : MethodName := ⟨RX4, "heardAmongBurglars", "(I)I"⟩
abbrev cX4_refusalOfTold : ByteArray := prog_1_method_52_code
def yX4_refusalOfTold : MethodName := ⟨RX4, "refusalOfTold", "(I)I"⟩
abbrev cX4_refusalOfTold_ : ByteArray := prog_1_method_53_code
def yX4_refusalOfTold_ : MethodName := ⟨RX4, "refusalOfTold", "(II)I"⟩
abbrev cX4_firstOther : ByteArray := prog_1_method_54_code
def yX4_firstOther : MethodName := ⟨RX4, "firstOther", "(I)I"⟩
abbrev cX4_fillMost : ByteArray := prog_1_method_55_code
def yX4_fillMost : MethodName := ⟨RX4, "fillMost", "()V"⟩
abbrev cX4_mostBehind : ByteArray := prog_1_method_56_code
def yX4_mostBehind : MethodName := ⟨RX4, "mostBehind", "(II)I"⟩
abbrev cX4_leastDigit : ByteArray := prog_1_method_57_code
def yX4_leastDigit : MethodName := ⟨RX4, "leastDigit", "(II)I"⟩
def RX5 : String := "JudgesByLossModel"
def TX5 : u_T := fun k => match k with
  | 0 => ("JudgesByLossModel", "judges", "I", false)
  | 1 => ("JudgesByLossModel", "kind", "[I", true)
  | 2 => ("JudgesByLossModel", "moreOf", "[I", true)
  | 3 => ("JudgesByLossModel", "rows", "[I", true)
  | 4 => ("JudgesByLossModel", "papers", "[I", true)
  | 5 => ("JudgesByLossModel", "days", "I", false)
  | 6 => ("JudgesByLossModel", "heard", "I", false)
  | 7 => ("JudgesByLossModel", "tape", "[I", true)
  | 8 => ("JudgesByLossModel", "taped", "I", false)
  | 9 => ("JudgesByLossModel", "codes", "[I", true)
  | 10 => ("JudgesByLossModel", "starts", "[I", true)
  | 11 => ("JudgesByLossModel", "texts", "I", false)
  | 12 => ("JudgesByLossModel", "rule", "I", false)
  | 13 => ("JudgesByLossModel", "hasImage", "Z", false)
  | 14 => ("JudgesByLossModel", "imageRows", "[I", true)
  | 15 => ("JudgesByLossModel", "imageHeld", "[I", true)
  | 16 => ("JudgesByLossModel", "sheetSort", "[I", true)
  | 17 => ("JudgesByLossModel", "sheetSize", "[I", true)
  | 18 => ("JudgesByLossModel", "cells", "[I", true)
  | 19 => ("JudgesByLossModel", "law", "[I", true)
  | 20 => ("JudgesByLossModel", "at", "I", false)
  | 21 => ("JudgesByLossModel", "begun", "I", false)
  | 22 => ("JudgesByLossModel", "token", "I", false)
  | 23 => ("JudgesByLossModel", "value", "I", false)
  | 24 => ("JudgesByLossModel", "words", "[I", true)
  | 25 => ("JudgesByLossModel", "held", "[I", true)
  | 26 => ("JudgesByLossModel", "heldMany", "I", false)
  | 27 => ("JudgesByLossModel", "opens", "I", false)
  | 28 => ("JudgesByLossModel", "out", "I", false)
  | 29 => ("JudgesByLossModel", "stack", "[I", true)
  | 30 => ("JudgesByLossModel", "named", "[I", true)
  | 31 => ("JudgesByLossModel", "kept", "[I", true)
  | 32 => ("JudgesByLossModel", "most", "[I", true)
  | 33 => ("JudgesByLossModel", "ableTo", "[I", true)
  | _ => ("JudgesByLossModel", "thereThen", "I", false)
def tyX5 : Nat → FieldType := fun k => match k with
  | 0 => .int
  | 1 => .array .int
  | 2 => .array .int
  | 3 => .array .int
  | 4 => .array .int
  | 5 => .int
  | 6 => .int
  | 7 => .array .int
  | 8 => .int
  | 9 => .array .int
  | 10 => .array .int
  | 11 => .int
  | 12 => .int
  | 13 => .boolean
  | 14 => .array .int
  | 15 => .array .int
  | 16 => .array .int
  | 17 => .array .int
  | 18 => .array .int
  | 19 => .array .int
  | 20 => .int
  | 21 => .int
  | 22 => .int
  | 23 => .int
  | 24 => .array .int
  | 25 => .array .int
  | 26 => .int
  | 27 => .int
  | 28 => .int
  | 29 => .array .int
  | 30 => .array .int
  | 31 => .array .int
  | 32 => .array .int
  | 33 => .array .int
  | _ => .int
abbrev wsX50 : List Cond := u_ws RX5 TX5 35
theorem nmX5 : ∀ a, a < 35 → ∀ b, b < 35 → a ≠ b → (TX5 a).2.1 ≠ (TX5 b).2.1 := by decide +kernel
theorem tyX5_ok : ∀ k, k < 35 → parseFieldDescriptor (TX5 k).2.2.1 = some (tyX5 k) := by decide +kernel
abbrev cX5_init : ByteArray := prog_7_method_1_code
def yX5_init : MethodName := ⟨RX5, "<init>", "()V"⟩
abbrev cX5_in : ByteArray := prog_7_method_3_code
def yX5_in : MethodName := ⟨RX5, "in", "(III)Z"⟩
abbrev cX5_within : ByteArray := prog_7_method_4_code
def yX5_within : MethodName := ⟨RX5, "within", "(III)I"⟩
abbrev cX5_onesOf : ByteArray := prog_7_method_5_code
def yX5_onesOf : MethodName := ⟨RX5, "onesOf", "(I)I"⟩
abbrev cX5_isOne : ByteArray := prog_7_method_6_code
def yX5_isOne : MethodName := ⟨RX5, "isOne", "(I)Z"⟩
abbrev cX5_isThere : ByteArray := prog_7_method_7_code
def yX5_isThere : MethodName := ⟨RX5, "isThere", "(I)Z"⟩
abbrev cX5_caseSet : ByteArray := prog_7_method_8_code
def yX5_caseSet : MethodName := ⟨RX5, "caseSet", "()I"⟩
abbrev cX5_count : ByteArray := prog_7_method_9_code
def yX5_count : MethodName := ⟨RX5, "count", "(I)I"⟩
abbrev cX5_dawn : ByteArray := prog_7_method_10_code
def yX5_dawn : MethodName := ⟨RX5, "dawn", "(I)I"⟩
abbrev cX5_isByte : ByteArray := prog_7_method_11_code
def yX5_isByte : MethodName := ⟨RX5, "isByte", "(I)Z"⟩
abbrev cX5_feed : ByteArray := prog_7_method_12_code
def yX5_feed : MethodName := ⟨RX5, "feed", "(IIIIII)I"⟩
abbrev cX5_wordFrom : ByteArray := prog_7_method_13_code
def yX5_wordFrom : MethodName := ⟨RX5, "wordFrom", "(II)I"⟩
abbrev cX5_next : ByteArray := prog_7_method_14_code
def yX5_next : MethodName := ⟨RX5, "next", "()V"⟩
abbrev cX5_rank : ByteArray := prog_7_method_15_code
def yX5_rank : MethodName := ⟨RX5, "rank", "(I)I"⟩
abbrev cX5_puts : ByteArray := prog_7_method_16_code
def yX5_puts : MethodName := ⟨RX5, "puts", "(I)V"⟩
abbrev cX5_unwinds : ByteArray := prog_7_method_17_code
def yX5_unwinds : MethodName := ⟨RX5, "unwinds", "(I)V"⟩
abbrev cX5_holds : ByteArray := prog_7_method_18_code
def yX5_holds : MethodName := ⟨RX5, "holds", "(I)V"⟩
abbrev cX5_opensOne : ByteArray := prog_7_method_19_code
def yX5_opensOne : MethodName := ⟨RX5, "opensOne", "(I)Z"⟩
abbrev cX5_between : ByteArray := prog_7_method_20_code
def yX5_between : MethodName := ⟨RX5, "between", "(I)Z"⟩
abbrev cX5_signOf : ByteArray := prog_7_method_21_code
def yX5_signOf : MethodName := ⟨RX5, "signOf", "()I"⟩
abbrev cX5_eRead : ByteArray := prog_7_method_22_code
def yX5_eRead : MethodName := ⟨RX5, "eRead", "()Z"⟩
abbrev cX5_text : ByteArray := prog_7_method_23_code
def yX5_text : MethodName := ⟨RX5, "text", "()I"⟩
abbrev cX5_two : ByteArray := prog_7_method_24_code
def yX5_two : MethodName := ⟨RX5, "two", "(III)I"⟩
abbrev cX5_says : ByteArray := prog_7_method_25_code
def yX5_says : MethodName := ⟨RX5, "says", "(I)I"⟩
abbrev cX5_force : ByteArray := prog_7_method_26_code
def yX5_force : MethodName := ⟨RX5, "force", "(I)I"⟩
abbrev cX5_asksOf : ByteArray := prog_7_method_27_code
def yX5_asksOf : MethodName := ⟨RX5, "asksOf", "(III)I"⟩
abbrev cX5_asks : ByteArray := prog_7_method_28_code
def yX5_asks : MethodName := ⟨RX5, "asks", "(III)I"⟩
abbrev cX5_judge : ByteArray := prog_7_method_29_code
def yX5_judge : MethodName := ⟨RX5, "judge", "(III)I"⟩
abbrev cX5_file : ByteArray := prog_7_method_30_code
def yX5_file : MethodName := ⟨RX5, "file", "(II)I"⟩
abbrev cX5_put : ByteArray := prog_7_method_31_code
def yX5_put : MethodName := ⟨RX5, "put", "(III)I"⟩
abbrev cX5_may : ByteArray := prog_7_method_32_code
def yX5_may : MethodName := ⟨RX5, "may", "(II)Z"⟩
abbrev cX5_takesOf : ByteArray := prog_7_method_33_code
def yX5_takesOf : MethodName := ⟨RX5, "takesOf", "(II)I"⟩
abbrev cX5_judgesOf : ByteArray := prog_7_method_34_code
def yX5_judgesOf : MethodName := ⟨RX5, "judgesOf", "(II)I"⟩
abbrev cX5_mayHear : ByteArray := prog_7_method_35_code
def yX5_mayHear : MethodName := ⟨RX5, "mayHear", "(I)I"⟩
abbrev cX5_whoMay : ByteArray := prog_7_method_36_code
def yX5_whoMay : MethodName := ⟨RX5, "whoMay", "(I)I"⟩
abbrev cX5_told : ByteArray := prog_7_method_37_code
def yX5_told : MethodName := ⟨RX5, "told", "(II)I"⟩
abbrev cX5_paper : ByteArray := prog_7_method_38_code
def yX5_paper : MethodName := ⟨RX5, "paper", "(II)I"⟩
abbrev cX5_hearing : ByteArray := prog_7_method_39_code
def yX5_hearing : MethodName := ⟨RX5, "hearing", "(III)I"⟩
abbrev cX5_can : ByteArray := prog_7_method_40_code
def yX5_can : MethodName := ⟨RX5, "can", "(II)Z"⟩
abbrev cX5_hears : ByteArray := prog_7_method_41_code
def yX5_hears : MethodName := ⟨RX5, "hears", "(II)I"⟩
abbrev cX5_hear : ByteArray := prog_7_method_42_code
def yX5_hear : MethodName := ⟨RX5, "hear", "(II)I"⟩
abbrev cX5_rob : ByteArray := prog_7_method_43_code
def yX5_rob : MethodName := ⟨RX5, "rob", "(II)I"⟩
abbrev cX5_isHeard : ByteArray := prog_7_method_44_code
def yX5_isHeard : MethodName := ⟨RX5, "isHeard", "(I)Z"⟩
abbrev cX5_dayOf : ByteArray := prog_7_method_45_code
def yX5_dayOf : MethodName := ⟨RX5, "dayOf", "()I"⟩
abbrev cX5_day : ByteArray := prog_7_method_46_code
def yX5_day : MethodName := ⟨RX5, "day", "()I"⟩
abbrev cX5_keeps : ByteArray := prog_7_method_47_code
def yX5_keeps : MethodName := ⟨RX5, "keeps", "()V"⟩
abbrev cX5_lays : ByteArray := prog_7_method_48_code
def yX5_lays : MethodName := ⟨RX5, "lays", "()V"⟩
abbrev cX5_goes : ByteArray := prog_7_method_49_code
def yX5_goes : MethodName := ⟨RX5, "goes", "(I)I"⟩
abbrev cX5_waitedAll : ByteArray := prog_7_method_50_code
def yX5_waitedAll : MethodName := ⟨RX5, "waitedAll", "()I"⟩
abbrev cX5_run : ByteArray := prog_7_method_51_code
def yX5_run : MethodName := ⟨RX5, "run", "(II)I"⟩
abbrev cX5_when : ByteArray := prog_7_method_52_code
def yX5_when : MethodName := ⟨RX5, "when", "(I)I"⟩
abbrev cX5_tellsSittings : ByteArray := prog_7_method_53_code
def yX5_tellsSittings : MethodName := ⟨RX5, "tellsSittings", "()V"⟩
abbrev cX5_leastSitting : ByteArray := prog_7_method_54_code
def yX5_leastSitting : MethodName := ⟨RX5, "leastSitting", "()I"⟩
abbrev cX5_sitting : ByteArray := prog_7_method_55_code
def yX5_sitting : MethodName := ⟨RX5, "sitting", "(I)I"⟩
abbrev cX5_burglary : ByteArray := prog_7_method_56_code
def yX5_burglary : MethodName := ⟨RX5, "burglary", "(II)I"⟩
abbrev cX5_wants : ByteArray := prog_7_method_57_code
def yX5_wants : MethodName := ⟨RX5, "wants", "(III)I"⟩
abbrev cX5_fullest : ByteArray := prog_7_method_58_code
def yX5_fullest : MethodName := ⟨RX5, "fullest", "(I)I"⟩
abbrev cX5_cruel : ByteArray := prog_7_method_59_code
def yX5_cruel : MethodName := ⟨RX5, "cruel", "()I"⟩
abbrev cX5_lowest : ByteArray := prog_7_method_60_code
def yX5_lowest : MethodName := ⟨RX5, "lowest", "(JJI)J"⟩
abbrev cX5_ruin : ByteArray := prog_7_method_61_code
def yX5_ruin : MethodName := ⟨RX5, "ruin", "(I)J"⟩
abbrev cX5_sheetWrong : ByteArray := prog_7_method_62_code
def yX5_sheetWrong : MethodName := ⟨RX5, "sheetWrong", "(I)I"⟩
abbrev cX5_unlike : ByteArray := prog_7_method_63_code
def yX5_unlike : MethodName := ⟨RX5, "unlike", "(I)I"⟩
abbrev cX5_tells : ByteArray := prog_7_method_64_code
def yX5_tells : MethodName := ⟨RX5, "tells", "(I)I"⟩
abbrev cX5_kinds : ByteArray := prog_7_method_65_code
def yX5_kinds : MethodName := ⟨RX5, "kinds", "(III)I"⟩
abbrev cX5_turned : ByteArray := prog_7_method_66_code
def yX5_turned : MethodName := ⟨RX5, "turned", "(II)I"⟩
abbrev cX5_states : ByteArray := prog_7_method_67_code
def yX5_states : MethodName := ⟨RX5, "states", "(IIII)I"⟩
abbrev cX5_dropped : ByteArray := prog_7_method_68_code
def yX5_dropped : MethodName := ⟨RX5, "dropped", "(I)I"⟩
abbrev cX5_laws : ByteArray := prog_7_method_69_code
def yX5_laws : MethodName := ⟨RX5, "laws", "(I)I"⟩
abbrev cX5_film : ByteArray := prog_7_method_70_code
def yX5_film : MethodName := ⟨RX5, "film", "(II)I"⟩
abbrev cX5_burglars : ByteArray := prog_7_method_71_code
def yX5_burglars : MethodName := ⟨RX5, "burglars", "(I)I"⟩
abbrev cX5_drawn : ByteArray := prog_7_method_72_code
def yX5_drawn : MethodName := ⟨RX5, "drawn", "(II)I"⟩
abbrev cX5_odds : ByteArray := prog_7_method_73_code
def yX5_odds : MethodName := ⟨RX5, "odds", "(IIII)J"⟩
abbrev cX5_image : ByteArray := prog_7_method_74_code
def yX5_image : MethodName := ⟨RX5, "image", "()I"⟩
abbrev cX5_back : ByteArray := prog_7_method_75_code
def yX5_back : MethodName := ⟨RX5, "back", "()I"⟩
abbrev cX5_sheet : ByteArray := prog_7_method_76_code
def yX5_sheet : MethodName := ⟨RX5, "sheet", "(III)I"⟩
abbrev cX5_cell : ByteArray := prog_7_method_77_code
def yX5_cell : MethodName := ⟨RX5, "cell", "(III)I"⟩
abbrev cX5_copy : ByteArray := prog_7_method_78_code
def yX5_copy : MethodName := ⟨RX5, "copy", "(IIIII)I"⟩
abbrev cX5_judgesBy : ByteArray := prog_7_method_79_code
def yX5_judgesBy : MethodName := ⟨RX5, "judgesBy", "(IIII)I"⟩
abbrev cX5_isUnder : ByteArray := prog_7_method_80_code
def yX5_isUnder : MethodName := ⟨RX5, "isUnder", "(II)Z"⟩
abbrev cX5_taken : ByteArray := prog_7_method_81_code
def yX5_taken : MethodName := ⟨RX5, "taken", "(II)I"⟩
def RJx8e188 : String := "java/lang/Cloneable"
def TJx8e188 : u_T := fun k => match k with
  | _ => ("", "", "", false)
def tyJx8e188 : Nat → FieldType := fun k => match k with
  | _ => .int
abbrev wsJx8e1880 : List Cond := u_ws RJx8e188 TJx8e188 0
theorem nmJx8e188 : ∀ a, a < 0 → ∀ b, b < 0 → a ≠ b → (TJx8e188 a).2.1 ≠ (TJx8e188 b).2.1 := by decide +kernel
theorem tyJx8e188_ok : ∀ k, k < 0 → parseFieldDescriptor (TJx8e188 k).2.2.1 = some (tyJx8e188 k) := by decide +kernel
def RJ6 : String := "java/lang/Integer"
def TJ6 : u_T := fun k => match k with
  | _ => ("", "", "", false)
def tyJ6 : Nat → FieldType := fun k => match k with
  | _ => .int
abbrev wsJ60 : List Cond := u_ws RJ6 TJ6 0
theorem nmJ6 : ∀ a, a < 0 → ∀ b, b < 0 → a ≠ b → (TJ6 a).2.1 ≠ (TJ6 b).2.1 := by decide +kernel
theorem tyJ6_ok : ∀ k, k < 0 → parseFieldDescriptor (TJ6 k).2.2.1 = some (tyJ6 k) := by decide +kernel
abbrev cJ6_bitCount_0f7a4 : ByteArray := prog_9_method_49_code
def yJ6_bitCount_0f7a4 : MethodName := ⟨RJ6, "bitCount", "(I)I"⟩
def RJ9 : String := "java/lang/Math"
def TJ9 : u_T := fun k => match k with
  | _ => ("", "", "", false)
def tyJ9 : Nat → FieldType := fun k => match k with
  | _ => .int
abbrev wsJ90 : List Cond := u_ws RJ9 TJ9 0
theorem nmJ9 : ∀ a, a < 0 → ∀ b, b < 0 → a ≠ b → (TJ9 a).2.1 ≠ (TJ9 b).2.1 := by decide +kernel
theorem tyJ9_ok : ∀ k, k < 0 → parseFieldDescriptor (TJ9 k).2.2.1 = some (tyJ9 k) := by decide +kernel
abbrev cJ9_max_7cf53 : ByteArray := prog_10_method_65_code
def yJ9_max_7cf53 : MethodName := ⟨RJ9, "max", "(II)I"⟩
abbrev cJ9_min_7cf53 : ByteArray := prog_10_method_69_code
def yJ9_min_7cf53 : MethodName := ⟨RJ9, "min", "(II)I"⟩
def RJ0 : String := "java/lang/String"
def TJ0 : u_T := fun k => match k with
  | _ => ("", "", "", false)
def tyJ0 : Nat → FieldType := fun k => match k with
  | _ => .int
abbrev wsJ00 : List Cond := u_ws RJ0 TJ0 0
theorem nmJ0 : ∀ a, a < 0 → ∀ b, b < 0 → a ≠ b → (TJ0 a).2.1 ≠ (TJ0 b).2.1 := by decide +kernel
theorem tyJ0_ok : ∀ k, k < 0 → parseFieldDescriptor (TJ0 k).2.2.1 = some (tyJ0 k) := by decide +kernel
abbrev cJ0_length_8abf5 : ByteArray := prog_11_method_54_code
def yJ0_length_8abf5 : MethodName := ⟨RJ0, "length", "()I"⟩
abbrev cJ0_charAt_5068e : ByteArray := prog_11_method_56_code
def yJ0_charAt_5068e : MethodName := ⟨RJ0, "charAt", "(I)C"⟩
abbrev cJ0_coder_7d493 : ByteArray := prog_11_method_152_code
def yJ0_coder_7d493 : MethodName := ⟨RJ0, "coder", "()B"⟩
abbrev cJ0_isLatin1_aae02 : ByteArray := prog_11_method_154_code
def yJ0_isLatin1_aae02 : MethodName := ⟨RJ0, "isLatin1", "()Z"⟩
abbrev cJ0_checkIndex_df160 : ByteArray := prog_11_method_155_code
def yJ0_checkIndex_df160 : MethodName := ⟨RJ0, "checkIndex", "(II)V"⟩
def RJ1 : String := "java/lang/StringLatin1"
def TJ1 : u_T := fun k => match k with
  | _ => ("", "", "", false)
def tyJ1 : Nat → FieldType := fun k => match k with
  | _ => .int
abbrev wsJ10 : List Cond := u_ws RJ1 TJ1 0
theorem nmJ1 : ∀ a, a < 0 → ∀ b, b < 0 → a ≠ b → (TJ1 a).2.1 ≠ (TJ1 b).2.1 := by decide +kernel
theorem tyJ1_ok : ∀ k, k < 0 → parseFieldDescriptor (TJ1 k).2.2.1 = some (tyJ1 k) := by decide +kernel
abbrev cJ1_charAt_3b067 : ByteArray := prog_12_method_2_code
def yJ1_charAt_3b067 : MethodName := ⟨RJ1, "charAt", "([BI)C"⟩
def RJ2 : String := "java/lang/StringUTF16"
def TJ2 : u_T := fun k => match k with
  | _ => ("", "", "", false)
def tyJ2 : Nat → FieldType := fun k => match k with
  | _ => .int
abbrev wsJ20 : List Cond := u_ws RJ2 TJ2 0
theorem nmJ2 : ∀ a, a < 0 → ∀ b, b < 0 → a ≠ b → (TJ2 a).2.1 ≠ (TJ2 b).2.1 := by decide +kernel
theorem tyJ2_ok : ∀ k, k < 0 → parseFieldDescriptor (TJ2 k).2.2.1 = some (tyJ2 k) := by decide +kernel
abbrev cJ2_getChar_3b067 : ByteArray := prog_13_method_5_code
def yJ2_getChar_3b067 : MethodName := ⟨RJ2, "getChar", "([BI)C"⟩
abbrev cJ2_length_9d52b : ByteArray := prog_13_method_6_code
def yJ2_length_9d52b : MethodName := ⟨RJ2, "length", "([B)I"⟩
abbrev cJ2_charAt_3b067 : ByteArray := prog_13_method_83_code
def yJ2_charAt_3b067 : MethodName := ⟨RJ2, "charAt", "([BI)C"⟩
abbrev cJ2_checkIndex_2214a : ByteArray := prog_13_method_91_code
def yJ2_checkIndex_2214a : MethodName := ⟨RJ2, "checkIndex", "(I[B)V"⟩
def RJ10 : String := "java/lang/System"
def TJ10 : u_T := fun k => match k with
  | _ => ("", "", "", false)
def tyJ10 : Nat → FieldType := fun k => match k with
  | _ => .int
abbrev wsJ100 : List Cond := u_ws RJ10 TJ10 0
theorem nmJ10 : ∀ a, a < 0 → ∀ b, b < 0 → a ≠ b → (TJ10 a).2.1 ≠ (TJ10 b).2.1 := by decide +kernel
theorem tyJ10_ok : ∀ k, k < 0 → parseFieldDescriptor (TJ10 k).2.2.1 = some (tyJ10 k) := by decide +kernel
def RJ3 : String := "jdk/internal/util/Preconditions"
def TJ3 : u_T := fun k => match k with
  | _ => ("", "", "", false)
def tyJ3 : Nat → FieldType := fun k => match k with
  | _ => .int
abbrev wsJ30 : List Cond := u_ws RJ3 TJ3 0
theorem nmJ3 : ∀ a, a < 0 → ∀ b, b < 0 → a ≠ b → (TJ3 a).2.1 ≠ (TJ3 b).2.1 := by decide +kernel
theorem tyJ3_ok : ∀ k, k < 0 → parseFieldDescriptor (TJ3 k).2.2.1 = some (tyJ3 k) := by decide +kernel
abbrev cJ3_checkIndex_8e157 : ByteArray := prog_15_method_11_code
def yJ3_checkIndex_8e157 : MethodName := ⟨RJ3, "checkIndex", "(IILjava/util/function/BiFunction;)I"⟩
def RL : String := "JudgesByLossLaw"
abbrev cL_law : ByteArray := code
def yL_law : MethodName := ⟨RL, "law", "([I)Z"⟩
abbrev vwCl : List vw_C := [(RX0, TX0, 15), (RX1, TX1, 8), (RX2, TX2, 3), (RX3, TX3, 3), (RX4, TX4, 9), (RX5, TX5, 35)]
