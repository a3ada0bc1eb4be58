section
-- ===== PART A: goes FIRST, ahead of the names: the tables' words, and 'selects' of the private methods out of them =====
/-- a private method of a class that the tables say can be made, by its rows of tables_1 -/
def lw_okq (q : MethodName × Nat) : Prop := (q.1.cls ≠ "java/lang/invoke/MethodHandle" ∧ q.1.cls ≠ "java/lang/invoke/VarHandle") ∧ Cond.instantiable q.1.cls q.2 ∈ tables_1 ∧ Cond.privateMethod q.1 ∈ tables_1 ∧ Cond.instanceMethod q.1 ∈ tables_1
theorem lw_p0 : lw_okq (⟨"PapersEarly$Reader", "advance", "()V"⟩, 8) := ⟨⟨by decide +kernel, by decide +kernel⟩, List.mem_of_getElem? (i := 41) (by decide +kernel), List.mem_of_getElem? (i := 232) (by decide +kernel), List.mem_of_getElem? (i := 233) (by decide +kernel)⟩
theorem lw_p1 : lw_okq (⟨"PapersEarly$Reader", "wordKind", "()I"⟩, 8) := ⟨⟨by decide +kernel, by decide +kernel⟩, List.mem_of_getElem? (i := 41) (by decide +kernel), List.mem_of_getElem? (i := 239) (by decide +kernel), List.mem_of_getElem? (i := 240) (by decide +kernel)⟩
theorem lw_p2 : lw_okq (⟨"PapersEarly$Reader", "spells", "(Ljava/lang/String;)Z"⟩, 8) := ⟨⟨by decide +kernel, by decide +kernel⟩, List.mem_of_getElem? (i := 41) (by decide +kernel), List.mem_of_getElem? (i := 244) (by decide +kernel), List.mem_of_getElem? (i := 245) (by decide +kernel)⟩
theorem lw_p3 : lw_okq (⟨"PapersEarly$Reader", "readDigits", "()V"⟩, 8) := ⟨⟨by decide +kernel, by decide +kernel⟩, List.mem_of_getElem? (i := 41) (by decide +kernel), List.mem_of_getElem? (i := 264) (by decide +kernel), List.mem_of_getElem? (i := 265) (by decide +kernel)⟩
theorem lw_p4 : lw_okq (⟨"PapersEarly$Reader", "part", "(I)Z"⟩, 8) := ⟨⟨by decide +kernel, by decide +kernel⟩, List.mem_of_getElem? (i := 41) (by decide +kernel), List.mem_of_getElem? (i := 271) (by decide +kernel), List.mem_of_getElem? (i := 272) (by decide +kernel)⟩
theorem lw_p5 : lw_okq (⟨"PapersEarly$Reader", "passed", "(I)Z"⟩, 8) := ⟨⟨by decide +kernel, by decide +kernel⟩, List.mem_of_getElem? (i := 41) (by decide +kernel), List.mem_of_getElem? (i := 275) (by decide +kernel), List.mem_of_getElem? (i := 276) (by decide +kernel)⟩
theorem lw_p6 : lw_okq (⟨"PapersEarly$Reader", "either", "(I)Z"⟩, 8) := ⟨⟨by decide +kernel, by decide +kernel⟩, List.mem_of_getElem? (i := 41) (by decide +kernel), List.mem_of_getElem? (i := 279) (by decide +kernel), List.mem_of_getElem? (i := 280) (by decide +kernel)⟩
theorem lw_p7 : lw_okq (⟨"PapersEarly$Reader", "both", "(I)Z"⟩, 8) := ⟨⟨by decide +kernel, by decide +kernel⟩, List.mem_of_getElem? (i := 41) (by decide +kernel), List.mem_of_getElem? (i := 283) (by decide +kernel), List.mem_of_getElem? (i := 284) (by decide +kernel)⟩
theorem lw_p8 : lw_okq (⟨"PapersEarly$Reader", "negated", "(I)Z"⟩, 8) := ⟨⟨by decide +kernel, by decide +kernel⟩, List.mem_of_getElem? (i := 41) (by decide +kernel), List.mem_of_getElem? (i := 287) (by decide +kernel), List.mem_of_getElem? (i := 288) (by decide +kernel)⟩
theorem lw_p9 : lw_okq (⟨"PapersEarly$Reader", "compared", "(I)Z"⟩, 8) := ⟨⟨by decide +kernel, by decide +kernel⟩, List.mem_of_getElem? (i := 41) (by decide +kernel), List.mem_of_getElem? (i := 291) (by decide +kernel), List.mem_of_getElem? (i := 292) (by decide +kernel)⟩
theorem lw_p10 : lw_okq (⟨"PapersEarly$Reader", "sum", "(I)Z"⟩, 8) := ⟨⟨by decide +kernel, by decide +kernel⟩, List.mem_of_getElem? (i := 41) (by decide +kernel), List.mem_of_getElem? (i := 295) (by decide +kernel), List.mem_of_getElem? (i := 296) (by decide +kernel)⟩
theorem lw_p11 : lw_okq (⟨"PapersEarly$Reader", "term", "(I)Z"⟩, 8) := ⟨⟨by decide +kernel, by decide +kernel⟩, List.mem_of_getElem? (i := 41) (by decide +kernel), List.mem_of_getElem? (i := 299) (by decide +kernel), List.mem_of_getElem? (i := 300) (by decide +kernel)⟩
theorem lw_p12 : lw_okq (⟨"PapersEarly$Reader", "one", "(I)Z"⟩, 8) := ⟨⟨by decide +kernel, by decide +kernel⟩, List.mem_of_getElem? (i := 41) (by decide +kernel), List.mem_of_getElem? (i := 303) (by decide +kernel), List.mem_of_getElem? (i := 304) (by decide +kernel)⟩
theorem lw_p13 : lw_okq (⟨"PapersEarly$Reader", "emit", "(I)Z"⟩, 8) := ⟨⟨by decide +kernel, by decide +kernel⟩, List.mem_of_getElem? (i := 41) (by decide +kernel), List.mem_of_getElem? (i := 307) (by decide +kernel), List.mem_of_getElem? (i := 308) (by decide +kernel)⟩
theorem lw_p14 : lw_okq (⟨"PapersEarly", "forgetBest", "()V"⟩, 19) := ⟨⟨by decide +kernel, by decide +kernel⟩, List.mem_of_getElem? (i := 22) (by decide +kernel), List.mem_of_getElem? (i := 526) (by decide +kernel), List.mem_of_getElem? (i := 527) (by decide +kernel)⟩
theorem lw_p15 : lw_okq (⟨"PapersEarly", "doorOf", "(I)LPapersEarly$Door;"⟩, 19) := ⟨⟨by decide +kernel, by decide +kernel⟩, List.mem_of_getElem? (i := 22) (by decide +kernel), List.mem_of_getElem? (i := 534) (by decide +kernel), List.mem_of_getElem? (i := 535) (by decide +kernel)⟩
def lw_privs_1 : List (MethodName × Nat) := [(⟨"PapersEarly$Reader", "advance", "()V"⟩, 8), (⟨"PapersEarly$Reader", "wordKind", "()I"⟩, 8), (⟨"PapersEarly$Reader", "spells", "(Ljava/lang/String;)Z"⟩, 8), (⟨"PapersEarly$Reader", "readDigits", "()V"⟩, 8), (⟨"PapersEarly$Reader", "part", "(I)Z"⟩, 8), (⟨"PapersEarly$Reader", "passed", "(I)Z"⟩, 8), (⟨"PapersEarly$Reader", "either", "(I)Z"⟩, 8), (⟨"PapersEarly$Reader", "both", "(I)Z"⟩, 8), (⟨"PapersEarly$Reader", "negated", "(I)Z"⟩, 8), (⟨"PapersEarly$Reader", "compared", "(I)Z"⟩, 8), (⟨"PapersEarly$Reader", "sum", "(I)Z"⟩, 8), (⟨"PapersEarly$Reader", "term", "(I)Z"⟩, 8), (⟨"PapersEarly$Reader", "one", "(I)Z"⟩, 8), (⟨"PapersEarly$Reader", "emit", "(I)Z"⟩, 8), (⟨"PapersEarly", "forgetBest", "()V"⟩, 19), (⟨"PapersEarly", "doorOf", "(I)LPapersEarly$Door;"⟩, 19)]
theorem lw_r1 : ∀ q ∈ lw_privs_1, lw_okq q := List.forall_mem_cons.mpr ⟨lw_p0, List.forall_mem_cons.mpr ⟨lw_p1, List.forall_mem_cons.mpr ⟨lw_p2, List.forall_mem_cons.mpr ⟨lw_p3, List.forall_mem_cons.mpr ⟨lw_p4, List.forall_mem_cons.mpr ⟨lw_p5, List.forall_mem_cons.mpr ⟨lw_p6, List.forall_mem_cons.mpr ⟨lw_p7, List.forall_mem_cons.mpr ⟨lw_p8, List.forall_mem_cons.mpr ⟨lw_p9, List.forall_mem_cons.mpr ⟨lw_p10, List.forall_mem_cons.mpr ⟨lw_p11, List.forall_mem_cons.mpr ⟨lw_p12, List.forall_mem_cons.mpr ⟨lw_p13, List.forall_mem_cons.mpr ⟨lw_p14, List.forall_mem_cons.mpr ⟨lw_p15, fun _ h => absurd h List.not_mem_nil⟩⟩⟩⟩⟩⟩⟩⟩⟩⟩⟩⟩⟩⟩⟩⟩
theorem lw_p16 : lw_okq (⟨"PapersEarly", "isHouse", "(I)Z"⟩, 19) := ⟨⟨by decide +kernel, by decide +kernel⟩, List.mem_of_getElem? (i := 22) (by decide +kernel), List.mem_of_getElem? (i := 538) (by decide +kernel), List.mem_of_getElem? (i := 539) (by decide +kernel)⟩
theorem lw_p17 : lw_okq (⟨"PapersEarly", "placeInList", "(I)I"⟩, 19) := ⟨⟨by decide +kernel, by decide +kernel⟩, List.mem_of_getElem? (i := 22) (by decide +kernel), List.mem_of_getElem? (i := 584) (by decide +kernel), List.mem_of_getElem? (i := 585) (by decide +kernel)⟩
theorem lw_p18 : lw_okq (⟨"PapersEarly", "wantedBy", "(LPapersEarly$Door;)I"⟩, 19) := ⟨⟨by decide +kernel, by decide +kernel⟩, List.mem_of_getElem? (i := 22) (by decide +kernel), List.mem_of_getElem? (i := 616) (by decide +kernel), List.mem_of_getElem? (i := 617) (by decide +kernel)⟩
theorem lw_p19 : lw_okq (⟨"PapersEarly$Rule", "answer", "(IILPapersEarly$Door;II)I"⟩, 4) := ⟨⟨by decide +kernel, by decide +kernel⟩, List.mem_of_getElem? (i := 311) (by decide +kernel), List.mem_of_getElem? (i := 624) (by decide +kernel), List.mem_of_getElem? (i := 625) (by decide +kernel)⟩
theorem lw_p20 : lw_okq (⟨"PapersEarly", "goList", "()I"⟩, 19) := ⟨⟨by decide +kernel, by decide +kernel⟩, List.mem_of_getElem? (i := 22) (by decide +kernel), List.mem_of_getElem? (i := 667) (by decide +kernel), List.mem_of_getElem? (i := 668) (by decide +kernel)⟩
theorem lw_p21 : lw_okq (⟨"PapersEarly", "goThrough", "([III)I"⟩, 19) := ⟨⟨by decide +kernel, by decide +kernel⟩, List.mem_of_getElem? (i := 22) (by decide +kernel), List.mem_of_getElem? (i := 671) (by decide +kernel), List.mem_of_getElem? (i := 672) (by decide +kernel)⟩
theorem lw_p22 : lw_okq (⟨"PapersEarly$Walk", "fill", "([I)V"⟩, 6) := ⟨⟨by decide +kernel, by decide +kernel⟩, List.mem_of_getElem? (i := 79) (by decide +kernel), List.mem_of_getElem? (i := 679) (by decide +kernel), List.mem_of_getElem? (i := 680) (by decide +kernel)⟩
theorem lw_p23 : lw_okq (⟨"PapersEarly$Walk", "go", "(I[I)V"⟩, 6) := ⟨⟨by decide +kernel, by decide +kernel⟩, List.mem_of_getElem? (i := 79) (by decide +kernel), List.mem_of_getElem? (i := 688) (by decide +kernel), List.mem_of_getElem? (i := 689) (by decide +kernel)⟩
theorem lw_p24 : lw_okq (⟨"PapersEarly", "lateness", "(LPapersEarly$Door;)I"⟩, 19) := ⟨⟨by decide +kernel, by decide +kernel⟩, List.mem_of_getElem? (i := 22) (by decide +kernel), List.mem_of_getElem? (i := 697) (by decide +kernel), List.mem_of_getElem? (i := 698) (by decide +kernel)⟩
theorem lw_p25 : lw_okq (⟨"PapersEarly", "giftOf", "(LPapersEarly$Door;)I"⟩, 19) := ⟨⟨by decide +kernel, by decide +kernel⟩, List.mem_of_getElem? (i := 22) (by decide +kernel), List.mem_of_getElem? (i := 702) (by decide +kernel), List.mem_of_getElem? (i := 703) (by decide +kernel)⟩
theorem lw_p26 : lw_okq (⟨"PapersEarly", "lateCount", "()I"⟩, 19) := ⟨⟨by decide +kernel, by decide +kernel⟩, List.mem_of_getElem? (i := 22) (by decide +kernel), List.mem_of_getElem? (i := 738) (by decide +kernel), List.mem_of_getElem? (i := 739) (by decide +kernel)⟩
theorem lw_p27 : lw_okq (⟨"PapersEarly", "ringing", "()I"⟩, 19) := ⟨⟨by decide +kernel, by decide +kernel⟩, List.mem_of_getElem? (i := 22) (by decide +kernel), List.mem_of_getElem? (i := 742) (by decide +kernel), List.mem_of_getElem? (i := 743) (by decide +kernel)⟩
theorem lw_p28 : lw_okq (⟨"PapersEarly", "purseWithout", "(I)I"⟩, 19) := ⟨⟨by decide +kernel, by decide +kernel⟩, List.mem_of_getElem? (i := 22) (by decide +kernel), List.mem_of_getElem? (i := 750) (by decide +kernel), List.mem_of_getElem? (i := 751) (by decide +kernel)⟩
theorem lw_p29 : lw_okq (⟨"PapersEarly", "wrongSorts", "(I)I"⟩, 19) := ⟨⟨by decide +kernel, by decide +kernel⟩, List.mem_of_getElem? (i := 22) (by decide +kernel), List.mem_of_getElem? (i := 758) (by decide +kernel), List.mem_of_getElem? (i := 759) (by decide +kernel)⟩
theorem lw_p30 : lw_okq (⟨"PapersEarly", "refusalOfTelling", "(I)I"⟩, 19) := ⟨⟨by decide +kernel, by decide +kernel⟩, List.mem_of_getElem? (i := 22) (by decide +kernel), List.mem_of_getElem? (i := 766) (by decide +kernel), List.mem_of_getElem? (i := 767) (by decide +kernel)⟩
theorem lw_p31 : lw_okq (⟨"PapersEarly", "tellsBits", "(LPapersEarly$Sheet;I)Z"⟩, 19) := ⟨⟨by decide +kernel, by decide +kernel⟩, List.mem_of_getElem? (i := 22) (by decide +kernel), List.mem_of_getElem? (i := 777) (by decide +kernel), List.mem_of_getElem? (i := 778) (by decide +kernel)⟩
def lw_privs_2 : List (MethodName × Nat) := [(⟨"PapersEarly", "isHouse", "(I)Z"⟩, 19), (⟨"PapersEarly", "placeInList", "(I)I"⟩, 19), (⟨"PapersEarly", "wantedBy", "(LPapersEarly$Door;)I"⟩, 19), (⟨"PapersEarly$Rule", "answer", "(IILPapersEarly$Door;II)I"⟩, 4), (⟨"PapersEarly", "goList", "()I"⟩, 19), (⟨"PapersEarly", "goThrough", "([III)I"⟩, 19), (⟨"PapersEarly$Walk", "fill", "([I)V"⟩, 6), (⟨"PapersEarly$Walk", "go", "(I[I)V"⟩, 6), (⟨"PapersEarly", "lateness", "(LPapersEarly$Door;)I"⟩, 19), (⟨"PapersEarly", "giftOf", "(LPapersEarly$Door;)I"⟩, 19), (⟨"PapersEarly", "lateCount", "()I"⟩, 19), (⟨"PapersEarly", "ringing", "()I"⟩, 19), (⟨"PapersEarly", "purseWithout", "(I)I"⟩, 19), (⟨"PapersEarly", "wrongSorts", "(I)I"⟩, 19), (⟨"PapersEarly", "refusalOfTelling", "(I)I"⟩, 19), (⟨"PapersEarly", "tellsBits", "(LPapersEarly$Sheet;I)Z"⟩, 19)]
theorem lw_r2 : ∀ q ∈ lw_privs_2, lw_okq q := List.forall_mem_cons.mpr ⟨lw_p16, List.forall_mem_cons.mpr ⟨lw_p17, List.forall_mem_cons.mpr ⟨lw_p18, List.forall_mem_cons.mpr ⟨lw_p19, List.forall_mem_cons.mpr ⟨lw_p20, List.forall_mem_cons.mpr ⟨lw_p21, List.forall_mem_cons.mpr ⟨lw_p22, List.forall_mem_cons.mpr ⟨lw_p23, List.forall_mem_cons.mpr ⟨lw_p24, List.forall_mem_cons.mpr ⟨lw_p25, List.forall_mem_cons.mpr ⟨lw_p26, List.forall_mem_cons.mpr ⟨lw_p27, List.forall_mem_cons.mpr ⟨lw_p28, List.forall_mem_cons.mpr ⟨lw_p29, List.forall_mem_cons.mpr ⟨lw_p30, List.forall_mem_cons.mpr ⟨lw_p31, fun _ h => absurd h List.not_mem_nil⟩⟩⟩⟩⟩⟩⟩⟩⟩⟩⟩⟩⟩⟩⟩⟩
theorem lw_p32 : lw_okq (⟨"PapersEarly", "searchOf", "(I)LPapersEarly$Search;"⟩, 19) := ⟨⟨by decide +kernel, by decide +kernel⟩, List.mem_of_getElem? (i := 22) (by decide +kernel), List.mem_of_getElem? (i := 793) (by decide +kernel), List.mem_of_getElem? (i := 794) (by decide +kernel)⟩
theorem lw_p33 : lw_okq (⟨"PapersEarly$Search", "fillGifts", "(LPapersEarly$Rule;)V"⟩, 12) := ⟨⟨by decide +kernel, by decide +kernel⟩, List.mem_of_getElem? (i := 107) (by decide +kernel), List.mem_of_getElem? (i := 802) (by decide +kernel), List.mem_of_getElem? (i := 803) (by decide +kernel)⟩
theorem lw_p34 : lw_okq (⟨"PapersEarly$Search", "grow", "(III)V"⟩, 12) := ⟨⟨by decide +kernel, by decide +kernel⟩, List.mem_of_getElem? (i := 107) (by decide +kernel), List.mem_of_getElem? (i := 812) (by decide +kernel), List.mem_of_getElem? (i := 813) (by decide +kernel)⟩
theorem lw_p35 : lw_okq (⟨"PapersEarly$Search", "hopeOf", "(III)I"⟩, 12) := ⟨⟨by decide +kernel, by decide +kernel⟩, List.mem_of_getElem? (i := 107) (by decide +kernel), List.mem_of_getElem? (i := 816) (by decide +kernel), List.mem_of_getElem? (i := 817) (by decide +kernel)⟩
theorem lw_p36 : lw_okq (⟨"PapersEarly$Search", "worth", "([III)I"⟩, 12) := ⟨⟨by decide +kernel, by decide +kernel⟩, List.mem_of_getElem? (i := 107) (by decide +kernel), List.mem_of_getElem? (i := 822) (by decide +kernel), List.mem_of_getElem? (i := 823) (by decide +kernel)⟩
theorem lw_p37 : lw_okq (⟨"PapersEarly", "wayRank", "(II)I"⟩, 19) := ⟨⟨by decide +kernel, by decide +kernel⟩, List.mem_of_getElem? (i := 22) (by decide +kernel), List.mem_of_getElem? (i := 841) (by decide +kernel), List.mem_of_getElem? (i := 842) (by decide +kernel)⟩
theorem lw_p38 : lw_okq (⟨"PapersEarly", "goWithout", "(I)I"⟩, 19) := ⟨⟨by decide +kernel, by decide +kernel⟩, List.mem_of_getElem? (i := 22) (by decide +kernel), List.mem_of_getElem? (i := 863) (by decide +kernel), List.mem_of_getElem? (i := 864) (by decide +kernel)⟩
theorem lw_p39 : lw_okq (⟨"PapersEarly", "thickTogether", "(I)I"⟩, 19) := ⟨⟨by decide +kernel, by decide +kernel⟩, List.mem_of_getElem? (i := 22) (by decide +kernel), List.mem_of_getElem? (i := 871) (by decide +kernel), List.mem_of_getElem? (i := 872) (by decide +kernel)⟩
theorem lw_p40 : lw_okq (⟨"PapersEarly", "lyingRight", "(II)I"⟩, 19) := ⟨⟨by decide +kernel, by decide +kernel⟩, List.mem_of_getElem? (i := 22) (by decide +kernel), List.mem_of_getElem? (i := 883) (by decide +kernel), List.mem_of_getElem? (i := 884) (by decide +kernel)⟩
theorem lw_p41 : lw_okq (⟨"PapersEarlyModel", "firstRule", "()V"⟩, 37) := ⟨⟨by decide +kernel, by decide +kernel⟩, List.mem_of_getElem? (i := 944) (by decide +kernel), List.mem_of_getElem? (i := 952) (by decide +kernel), List.mem_of_getElem? (i := 953) (by decide +kernel)⟩
theorem lw_p42 : lw_okq (⟨"PapersEarlyModel", "writes", "(I)V"⟩, 37) := ⟨⟨by decide +kernel, by decide +kernel⟩, List.mem_of_getElem? (i := 944) (by decide +kernel), List.mem_of_getElem? (i := 956) (by decide +kernel), List.mem_of_getElem? (i := 957) (by decide +kernel)⟩
theorem lw_p43 : lw_okq (⟨"PapersEarlyModel", "reads", "()V"⟩, 37) := ⟨⟨by decide +kernel, by decide +kernel⟩, List.mem_of_getElem? (i := 944) (by decide +kernel), List.mem_of_getElem? (i := 1083) (by decide +kernel), List.mem_of_getElem? (i := 1084) (by decide +kernel)⟩
theorem lw_p44 : lw_okq (⟨"PapersEarlyModel", "isAt", "(II)Z"⟩, 37) := ⟨⟨by decide +kernel, by decide +kernel⟩, List.mem_of_getElem? (i := 944) (by decide +kernel), List.mem_of_getElem? (i := 1087) (by decide +kernel), List.mem_of_getElem? (i := 1088) (by decide +kernel)⟩
theorem lw_p45 : lw_okq (⟨"PapersEarlyModel", "isWord", "([I)Z"⟩, 37) := ⟨⟨by decide +kernel, by decide +kernel⟩, List.mem_of_getElem? (i := 944) (by decide +kernel), List.mem_of_getElem? (i := 1091) (by decide +kernel), List.mem_of_getElem? (i := 1092) (by decide +kernel)⟩
theorem lw_p46 : lw_okq (⟨"PapersEarlyModel", "readsRow", "()Z"⟩, 37) := ⟨⟨by decide +kernel, by decide +kernel⟩, List.mem_of_getElem? (i := 944) (by decide +kernel), List.mem_of_getElem? (i := 1098) (by decide +kernel), List.mem_of_getElem? (i := 1099) (by decide +kernel)⟩
theorem lw_p47 : lw_okq (⟨"PapersEarlyModel", "ahead", "()I"⟩, 37) := ⟨⟨by decide +kernel, by decide +kernel⟩, List.mem_of_getElem? (i := 944) (by decide +kernel), List.mem_of_getElem? (i := 1102) (by decide +kernel), List.mem_of_getElem? (i := 1103) (by decide +kernel)⟩
def lw_privs_3 : List (MethodName × Nat) := [(⟨"PapersEarly", "searchOf", "(I)LPapersEarly$Search;"⟩, 19), (⟨"PapersEarly$Search", "fillGifts", "(LPapersEarly$Rule;)V"⟩, 12), (⟨"PapersEarly$Search", "grow", "(III)V"⟩, 12), (⟨"PapersEarly$Search", "hopeOf", "(III)I"⟩, 12), (⟨"PapersEarly$Search", "worth", "([III)I"⟩, 12), (⟨"PapersEarly", "wayRank", "(II)I"⟩, 19), (⟨"PapersEarly", "goWithout", "(I)I"⟩, 19), (⟨"PapersEarly", "thickTogether", "(I)I"⟩, 19), (⟨"PapersEarly", "lyingRight", "(II)I"⟩, 19), (⟨"PapersEarlyModel", "firstRule", "()V"⟩, 37), (⟨"PapersEarlyModel", "writes", "(I)V"⟩, 37), (⟨"PapersEarlyModel", "reads", "()V"⟩, 37), (⟨"PapersEarlyModel", "isAt", "(II)Z"⟩, 37), (⟨"PapersEarlyModel", "isWord", "([I)Z"⟩, 37), (⟨"PapersEarlyModel", "readsRow", "()Z"⟩, 37), (⟨"PapersEarlyModel", "ahead", "()I"⟩, 37)]
theorem lw_r3 : ∀ q ∈ lw_privs_3, lw_okq q := List.forall_mem_cons.mpr ⟨lw_p32, List.forall_mem_cons.mpr ⟨lw_p33, List.forall_mem_cons.mpr ⟨lw_p34, List.forall_mem_cons.mpr ⟨lw_p35, List.forall_mem_cons.mpr ⟨lw_p36, List.forall_mem_cons.mpr ⟨lw_p37, List.forall_mem_cons.mpr ⟨lw_p38, List.forall_mem_cons.mpr ⟨lw_p39, List.forall_mem_cons.mpr ⟨lw_p40, List.forall_mem_cons.mpr ⟨lw_p41, List.forall_mem_cons.mpr ⟨lw_p42, List.forall_mem_cons.mpr ⟨lw_p43, List.forall_mem_cons.mpr ⟨lw_p44, List.forall_mem_cons.mpr ⟨lw_p45, List.forall_mem_cons.mpr ⟨lw_p46, List.forall_mem_cons.mpr ⟨lw_p47, fun _ h => absurd h List.not_mem_nil⟩⟩⟩⟩⟩⟩⟩⟩⟩⟩⟩⟩⟩⟩⟩⟩
theorem lw_p48 : lw_okq (⟨"PapersEarlyModel", "mayNot", "()Z"⟩, 37) := ⟨⟨by decide +kernel, by decide +kernel⟩, List.mem_of_getElem? (i := 944) (by decide +kernel), List.mem_of_getElem? (i := 1106) (by decide +kernel), List.mem_of_getElem? (i := 1107) (by decide +kernel)⟩
theorem lw_p49 : lw_okq (⟨"PapersEarlyModel", "top", "()I"⟩, 37) := ⟨⟨by decide +kernel, by decide +kernel⟩, List.mem_of_getElem? (i := 944) (by decide +kernel), List.mem_of_getElem? (i := 1110) (by decide +kernel), List.mem_of_getElem? (i := 1111) (by decide +kernel)⟩
theorem lw_p50 : lw_okq (⟨"PapersEarlyModel", "holds", "(I)V"⟩, 37) := ⟨⟨by decide +kernel, by decide +kernel⟩, List.mem_of_getElem? (i := 944) (by decide +kernel), List.mem_of_getElem? (i := 1114) (by decide +kernel), List.mem_of_getElem? (i := 1115) (by decide +kernel)⟩
theorem lw_p51 : lw_okq (⟨"PapersEarlyModel", "behind", "()I"⟩, 37) := ⟨⟨by decide +kernel, by decide +kernel⟩, List.mem_of_getElem? (i := 944) (by decide +kernel), List.mem_of_getElem? (i := 1118) (by decide +kernel), List.mem_of_getElem? (i := 1119) (by decide +kernel)⟩
theorem lw_p52 : lw_okq (⟨"PapersEarlyModel", "letsFrom", "(I)V"⟩, 37) := ⟨⟨by decide +kernel, by decide +kernel⟩, List.mem_of_getElem? (i := 944) (by decide +kernel), List.mem_of_getElem? (i := 1122) (by decide +kernel), List.mem_of_getElem? (i := 1123) (by decide +kernel)⟩
theorem lw_p53 : lw_okq (⟨"PapersEarlyModel", "lets", "()V"⟩, 37) := ⟨⟨by decide +kernel, by decide +kernel⟩, List.mem_of_getElem? (i := 944) (by decide +kernel), List.mem_of_getElem? (i := 1129) (by decide +kernel), List.mem_of_getElem? (i := 1130) (by decide +kernel)⟩
theorem lw_p54 : lw_okq (⟨"PapersEarlyModel", "comes", "(III)I"⟩, 37) := ⟨⟨by decide +kernel, by decide +kernel⟩, List.mem_of_getElem? (i := 944) (by decide +kernel), List.mem_of_getElem? (i := 1144) (by decide +kernel), List.mem_of_getElem? (i := 1145) (by decide +kernel)⟩
theorem lw_p55 : lw_okq (⟨"PapersEarlyModel", "isHouse", "(I)Z"⟩, 37) := ⟨⟨by decide +kernel, by decide +kernel⟩, List.mem_of_getElem? (i := 944) (by decide +kernel), List.mem_of_getElem? (i := 1152) (by decide +kernel), List.mem_of_getElem? (i := 1153) (by decide +kernel)⟩
theorem lw_p56 : lw_okq (⟨"PapersEarlyModel", "placeInList", "(I)I"⟩, 37) := ⟨⟨by decide +kernel, by decide +kernel⟩, List.mem_of_getElem? (i := 944) (by decide +kernel), List.mem_of_getElem? (i := 1168) (by decide +kernel), List.mem_of_getElem? (i := 1169) (by decide +kernel)⟩
theorem lw_p57 : lw_okq (⟨"PapersEarlyModel", "takesOf", "(I)I"⟩, 37) := ⟨⟨by decide +kernel, by decide +kernel⟩, List.mem_of_getElem? (i := 944) (by decide +kernel), List.mem_of_getElem? (i := 1172) (by decide +kernel), List.mem_of_getElem? (i := 1173) (by decide +kernel)⟩
theorem lw_p58 : lw_okq (⟨"PapersEarlyModel", "thickOf", "(I)I"⟩, 37) := ⟨⟨by decide +kernel, by decide +kernel⟩, List.mem_of_getElem? (i := 944) (by decide +kernel), List.mem_of_getElem? (i := 1176) (by decide +kernel), List.mem_of_getElem? (i := 1177) (by decide +kernel)⟩
theorem lw_p59 : lw_okq (⟨"PapersEarlyModel", "byOf", "(I)I"⟩, 37) := ⟨⟨by decide +kernel, by decide +kernel⟩, List.mem_of_getElem? (i := 944) (by decide +kernel), List.mem_of_getElem? (i := 1180) (by decide +kernel), List.mem_of_getElem? (i := 1181) (by decide +kernel)⟩
theorem lw_p60 : lw_okq (⟨"PapersEarlyModel", "says", "(III)I"⟩, 37) := ⟨⟨by decide +kernel, by decide +kernel⟩, List.mem_of_getElem? (i := 944) (by decide +kernel), List.mem_of_getElem? (i := 1184) (by decide +kernel), List.mem_of_getElem? (i := 1185) (by decide +kernel)⟩
theorem lw_p61 : lw_okq (⟨"PapersEarlyModel", "named", "(III)I"⟩, 37) := ⟨⟨by decide +kernel, by decide +kernel⟩, List.mem_of_getElem? (i := 944) (by decide +kernel), List.mem_of_getElem? (i := 1188) (by decide +kernel), List.mem_of_getElem? (i := 1189) (by decide +kernel)⟩
theorem lw_p62 : lw_okq (⟨"PapersEarlyModel", "takesList", "()V"⟩, 37) := ⟨⟨by decide +kernel, by decide +kernel⟩, List.mem_of_getElem? (i := 944) (by decide +kernel), List.mem_of_getElem? (i := 1213) (by decide +kernel), List.mem_of_getElem? (i := 1214) (by decide +kernel)⟩
theorem lw_p63 : lw_okq (⟨"PapersEarlyModel", "walks", "()I"⟩, 37) := ⟨⟨by decide +kernel, by decide +kernel⟩, List.mem_of_getElem? (i := 944) (by decide +kernel), List.mem_of_getElem? (i := 1217) (by decide +kernel), List.mem_of_getElem? (i := 1218) (by decide +kernel)⟩
def lw_privs_4 : List (MethodName × Nat) := [(⟨"PapersEarlyModel", "mayNot", "()Z"⟩, 37), (⟨"PapersEarlyModel", "top", "()I"⟩, 37), (⟨"PapersEarlyModel", "holds", "(I)V"⟩, 37), (⟨"PapersEarlyModel", "behind", "()I"⟩, 37), (⟨"PapersEarlyModel", "letsFrom", "(I)V"⟩, 37), (⟨"PapersEarlyModel", "lets", "()V"⟩, 37), (⟨"PapersEarlyModel", "comes", "(III)I"⟩, 37), (⟨"PapersEarlyModel", "isHouse", "(I)Z"⟩, 37), (⟨"PapersEarlyModel", "placeInList", "(I)I"⟩, 37), (⟨"PapersEarlyModel", "takesOf", "(I)I"⟩, 37), (⟨"PapersEarlyModel", "thickOf", "(I)I"⟩, 37), (⟨"PapersEarlyModel", "byOf", "(I)I"⟩, 37), (⟨"PapersEarlyModel", "says", "(III)I"⟩, 37), (⟨"PapersEarlyModel", "named", "(III)I"⟩, 37), (⟨"PapersEarlyModel", "takesList", "()V"⟩, 37), (⟨"PapersEarlyModel", "walks", "()I"⟩, 37)]
theorem lw_r4 : ∀ q ∈ lw_privs_4, lw_okq q := List.forall_mem_cons.mpr ⟨lw_p48, List.forall_mem_cons.mpr ⟨lw_p49, List.forall_mem_cons.mpr ⟨lw_p50, List.forall_mem_cons.mpr ⟨lw_p51, List.forall_mem_cons.mpr ⟨lw_p52, List.forall_mem_cons.mpr ⟨lw_p53, List.forall_mem_cons.mpr ⟨lw_p54, List.forall_mem_cons.mpr ⟨lw_p55, List.forall_mem_cons.mpr ⟨lw_p56, List.forall_mem_cons.mpr ⟨lw_p57, List.forall_mem_cons.mpr ⟨lw_p58, List.forall_mem_cons.mpr ⟨lw_p59, List.forall_mem_cons.mpr ⟨lw_p60, List.forall_mem_cons.mpr ⟨lw_p61, List.forall_mem_cons.mpr ⟨lw_p62, List.forall_mem_cons.mpr ⟨lw_p63, fun _ h => absurd h List.not_mem_nil⟩⟩⟩⟩⟩⟩⟩⟩⟩⟩⟩⟩⟩⟩⟩⟩
theorem lw_p64 : lw_okq (⟨"PapersEarlyModel", "takesPapers", "(I)I"⟩, 37) := ⟨⟨by decide +kernel, by decide +kernel⟩, List.mem_of_getElem? (i := 944) (by decide +kernel), List.mem_of_getElem? (i := 1221) (by decide +kernel), List.mem_of_getElem? (i := 1222) (by decide +kernel)⟩
theorem lw_p65 : lw_okq (⟨"PapersEarlyModel", "far", "(II)I"⟩, 37) := ⟨⟨by decide +kernel, by decide +kernel⟩, List.mem_of_getElem? (i := 944) (by decide +kernel), List.mem_of_getElem? (i := 1225) (by decide +kernel), List.mem_of_getElem? (i := 1226) (by decide +kernel)⟩
theorem lw_p66 : lw_okq (⟨"PapersEarlyModel", "lateOf", "(I)I"⟩, 37) := ⟨⟨by decide +kernel, by decide +kernel⟩, List.mem_of_getElem? (i := 944) (by decide +kernel), List.mem_of_getElem? (i := 1229) (by decide +kernel), List.mem_of_getElem? (i := 1230) (by decide +kernel)⟩
theorem lw_p67 : lw_okq (⟨"PapersEarlyModel", "tipsOf", "(II)I"⟩, 37) := ⟨⟨by decide +kernel, by decide +kernel⟩, List.mem_of_getElem? (i := 944) (by decide +kernel), List.mem_of_getElem? (i := 1233) (by decide +kernel), List.mem_of_getElem? (i := 1234) (by decide +kernel)⟩
theorem lw_p68 : lw_okq (⟨"PapersEarlyModel", "lateMany", "()I"⟩, 37) := ⟨⟨by decide +kernel, by decide +kernel⟩, List.mem_of_getElem? (i := 944) (by decide +kernel), List.mem_of_getElem? (i := 1241) (by decide +kernel), List.mem_of_getElem? (i := 1242) (by decide +kernel)⟩
theorem lw_p69 : lw_okq (⟨"PapersEarlyModel", "ringing", "(I)I"⟩, 37) := ⟨⟨by decide +kernel, by decide +kernel⟩, List.mem_of_getElem? (i := 944) (by decide +kernel), List.mem_of_getElem? (i := 1245) (by decide +kernel), List.mem_of_getElem? (i := 1246) (by decide +kernel)⟩
theorem lw_p70 : lw_okq (⟨"PapersEarlyModel", "purse", "(I)I"⟩, 37) := ⟨⟨by decide +kernel, by decide +kernel⟩, List.mem_of_getElem? (i := 944) (by decide +kernel), List.mem_of_getElem? (i := 1249) (by decide +kernel), List.mem_of_getElem? (i := 1250) (by decide +kernel)⟩
theorem lw_p71 : lw_okq (⟨"PapersEarlyModel", "wrongBy", "(I)I"⟩, 37) := ⟨⟨by decide +kernel, by decide +kernel⟩, List.mem_of_getElem? (i := 944) (by decide +kernel), List.mem_of_getElem? (i := 1257) (by decide +kernel), List.mem_of_getElem? (i := 1258) (by decide +kernel)⟩
theorem lw_p72 : lw_okq (⟨"PapersEarlyModel", "isRinging", "(II)Z"⟩, 37) := ⟨⟨by decide +kernel, by decide +kernel⟩, List.mem_of_getElem? (i := 944) (by decide +kernel), List.mem_of_getElem? (i := 1268) (by decide +kernel), List.mem_of_getElem? (i := 1269) (by decide +kernel)⟩
theorem lw_p73 : lw_okq (⟨"PapersEarlyModel", "findBest", "(I)I"⟩, 37) := ⟨⟨by decide +kernel, by decide +kernel⟩, List.mem_of_getElem? (i := 944) (by decide +kernel), List.mem_of_getElem? (i := 1276) (by decide +kernel), List.mem_of_getElem? (i := 1277) (by decide +kernel)⟩
theorem lw_p74 : lw_okq (⟨"PapersEarlyModel", "nextOrder", "()Z"⟩, 37) := ⟨⟨by decide +kernel, by decide +kernel⟩, List.mem_of_getElem? (i := 944) (by decide +kernel), List.mem_of_getElem? (i := 1280) (by decide +kernel), List.mem_of_getElem? (i := 1281) (by decide +kernel)⟩
theorem lw_p75 : lw_okq (⟨"PapersEarlyModel", "changes", "(II)V"⟩, 37) := ⟨⟨by decide +kernel, by decide +kernel⟩, List.mem_of_getElem? (i := 944) (by decide +kernel), List.mem_of_getElem? (i := 1284) (by decide +kernel), List.mem_of_getElem? (i := 1285) (by decide +kernel)⟩
theorem lw_p76 : lw_okq (⟨"PapersEarlyModel", "isAhead", "(IIZ)Z"⟩, 37) := ⟨⟨by decide +kernel, by decide +kernel⟩, List.mem_of_getElem? (i := 944) (by decide +kernel), List.mem_of_getElem? (i := 1296) (by decide +kernel), List.mem_of_getElem? (i := 1297) (by decide +kernel)⟩
theorem lw_p77 : lw_okq (⟨"PapersEarlyModel", "endsPart", "(II)I"⟩, 37) := ⟨⟨by decide +kernel, by decide +kernel⟩, List.mem_of_getElem? (i := 944) (by decide +kernel), List.mem_of_getElem? (i := 1312) (by decide +kernel), List.mem_of_getElem? (i := 1313) (by decide +kernel)⟩
theorem lw_p78 : lw_okq (⟨"PapersEarlyModel", "endsWithout", "(I)I"⟩, 37) := ⟨⟨by decide +kernel, by decide +kernel⟩, List.mem_of_getElem? (i := 944) (by decide +kernel), List.mem_of_getElem? (i := 1320) (by decide +kernel), List.mem_of_getElem? (i := 1321) (by decide +kernel)⟩
theorem lw_p79 : lw_okq (⟨"PapersEarlyModel", "rightBy", "(II)I"⟩, 37) := ⟨⟨by decide +kernel, by decide +kernel⟩, List.mem_of_getElem? (i := 944) (by decide +kernel), List.mem_of_getElem? (i := 1336) (by decide +kernel), List.mem_of_getElem? (i := 1337) (by decide +kernel)⟩
def lw_privs_5 : List (MethodName × Nat) := [(⟨"PapersEarlyModel", "takesPapers", "(I)I"⟩, 37), (⟨"PapersEarlyModel", "far", "(II)I"⟩, 37), (⟨"PapersEarlyModel", "lateOf", "(I)I"⟩, 37), (⟨"PapersEarlyModel", "tipsOf", "(II)I"⟩, 37), (⟨"PapersEarlyModel", "lateMany", "()I"⟩, 37), (⟨"PapersEarlyModel", "ringing", "(I)I"⟩, 37), (⟨"PapersEarlyModel", "purse", "(I)I"⟩, 37), (⟨"PapersEarlyModel", "wrongBy", "(I)I"⟩, 37), (⟨"PapersEarlyModel", "isRinging", "(II)Z"⟩, 37), (⟨"PapersEarlyModel", "findBest", "(I)I"⟩, 37), (⟨"PapersEarlyModel", "nextOrder", "()Z"⟩, 37), (⟨"PapersEarlyModel", "changes", "(II)V"⟩, 37), (⟨"PapersEarlyModel", "isAhead", "(IIZ)Z"⟩, 37), (⟨"PapersEarlyModel", "endsPart", "(II)I"⟩, 37), (⟨"PapersEarlyModel", "endsWithout", "(I)I"⟩, 37), (⟨"PapersEarlyModel", "rightBy", "(II)I"⟩, 37)]
theorem lw_r5 : ∀ q ∈ lw_privs_5, lw_okq q := List.forall_mem_cons.mpr ⟨lw_p64, List.forall_mem_cons.mpr ⟨lw_p65, List.forall_mem_cons.mpr ⟨lw_p66, List.forall_mem_cons.mpr ⟨lw_p67, List.forall_mem_cons.mpr ⟨lw_p68, List.forall_mem_cons.mpr ⟨lw_p69, List.forall_mem_cons.mpr ⟨lw_p70, List.forall_mem_cons.mpr ⟨lw_p71, List.forall_mem_cons.mpr ⟨lw_p72, List.forall_mem_cons.mpr ⟨lw_p73, List.forall_mem_cons.mpr ⟨lw_p74, List.forall_mem_cons.mpr ⟨lw_p75, List.forall_mem_cons.mpr ⟨lw_p76, List.forall_mem_cons.mpr ⟨lw_p77, List.forall_mem_cons.mpr ⟨lw_p78, List.forall_mem_cons.mpr ⟨lw_p79, fun _ h => absurd h List.not_mem_nil⟩⟩⟩⟩⟩⟩⟩⟩⟩⟩⟩⟩⟩⟩⟩⟩
theorem lw_p80 : lw_okq (⟨"PapersEarlyModel", "passesAll", "(Z)V"⟩, 37) := ⟨⟨by decide +kernel, by decide +kernel⟩, List.mem_of_getElem? (i := 944) (by decide +kernel), List.mem_of_getElem? (i := 1353) (by decide +kernel), List.mem_of_getElem? (i := 1354) (by decide +kernel)⟩
theorem lw_p81 : lw_okq (⟨"PapersEarlyModel", "passes", "([I)V"⟩, 37) := ⟨⟨by decide +kernel, by decide +kernel⟩, List.mem_of_getElem? (i := 944) (by decide +kernel), List.mem_of_getElem? (i := 1357) (by decide +kernel), List.mem_of_getElem? (i := 1358) (by decide +kernel)⟩
theorem lw_p82 : lw_okq (⟨"PapersEarlyModel", "passOne", "(I)I"⟩, 37) := ⟨⟨by decide +kernel, by decide +kernel⟩, List.mem_of_getElem? (i := 944) (by decide +kernel), List.mem_of_getElem? (i := 1361) (by decide +kernel), List.mem_of_getElem? (i := 1362) (by decide +kernel)⟩
theorem lw_p83 : lw_okq (⟨"PapersEarlyModel", "hasCells", "(III)Z"⟩, 37) := ⟨⟨by decide +kernel, by decide +kernel⟩, List.mem_of_getElem? (i := 944) (by decide +kernel), List.mem_of_getElem? (i := 1385) (by decide +kernel), List.mem_of_getElem? (i := 1386) (by decide +kernel)⟩
def lw_privs_6 : List (MethodName × Nat) := [(⟨"PapersEarlyModel", "passesAll", "(Z)V"⟩, 37), (⟨"PapersEarlyModel", "passes", "([I)V"⟩, 37), (⟨"PapersEarlyModel", "passOne", "(I)I"⟩, 37), (⟨"PapersEarlyModel", "hasCells", "(III)Z"⟩, 37)]
theorem lw_r6 : ∀ q ∈ lw_privs_6, lw_okq q := List.forall_mem_cons.mpr ⟨lw_p80, List.forall_mem_cons.mpr ⟨lw_p81, List.forall_mem_cons.mpr ⟨lw_p82, List.forall_mem_cons.mpr ⟨lw_p83, fun _ h => absurd h List.not_mem_nil⟩⟩⟩⟩
def lw_privs : List (MethodName × Nat) := lw_privs_1 ++ (lw_privs_2 ++ (lw_privs_3 ++ (lw_privs_4 ++ (lw_privs_5 ++ (lw_privs_6)))))
def lw_tbl : List Cond := k2_sels lw_privs ++ tables_1
theorem lw_privs_ok : ∀ q ∈ lw_privs, lw_okq q := by
  show ∀ q ∈ lw_privs_1 ++ (lw_privs_2 ++ (lw_privs_3 ++ (lw_privs_4 ++ (lw_privs_5 ++ (lw_privs_6))))), lw_okq q
  exact List.forall_mem_append.mpr ⟨lw_r1, List.forall_mem_append.mpr ⟨lw_r2, List.forall_mem_append.mpr ⟨lw_r3, List.forall_mem_append.mpr ⟨lw_r4, List.forall_mem_append.mpr ⟨lw_r5, lw_r6⟩⟩⟩⟩⟩
end
section
def RX0 : String := "PapersEarly$Bell"
def TX0 : u_T := fun k => match k with
  | 0 => ("PapersEarly$Door", "index", "I", true)
  | 1 => ("PapersEarly$Door", "number", "I", false)
  | 2 => ("PapersEarly$Door", "place", "I", false)
  | 3 => ("PapersEarly$Door", "side", "I", false)
  | _ => ("PapersEarly$Door", "sort", "I", false)
def tyX0 : Nat → FieldType := fun k => match k with
  | 0 => .int
  | 1 => .int
  | 2 => .int
  | 3 => .int
  | _ => .int
abbrev wsX00 : List Cond := u_ws RX0 TX0 5
theorem nmX0 : ∀ a, a < 5 → ∀ b, b < 5 → a ≠ b → (TX0 a).2.1 ≠ (TX0 b).2.1 := by decide +kernel
theorem tyX0_ok : ∀ k, k < 5 → parseFieldDescriptor (TX0 k).2.2.1 = some (tyX0 k) := by decide +kernel
abbrev cX0_init : ByteArray := prog_2_method_1_code
def yX0_init : MethodName := ⟨RX0, "<init>", "(I)V"⟩
abbrev cX0_kind : ByteArray := prog_2_method_2_code
def yX0_kind : MethodName := ⟨RX0, "kind", "()I"⟩
abbrev cX0_takes : ByteArray := prog_2_method_3_code
def yX0_takes : MethodName := ⟨RX0, "takes", "(II)I"⟩
abbrev cX0_gives : ByteArray := prog_2_method_4_code
def yX0_gives : MethodName := ⟨RX0, "gives", "(III)I"⟩
def RX1 : String := "PapersEarly$Dog"
def TX1 : u_T := fun k => match k with
  | 0 => ("PapersEarly$Door", "index", "I", true)
  | 1 => ("PapersEarly$Door", "number", "I", false)
  | 2 => ("PapersEarly$Door", "place", "I", false)
  | 3 => ("PapersEarly$Door", "side", "I", false)
  | _ => ("PapersEarly$Door", "sort", "I", false)
def tyX1 : Nat → FieldType := fun k => match k with
  | 0 => .int
  | 1 => .int
  | 2 => .int
  | 3 => .int
  | _ => .int
abbrev wsX10 : List Cond := u_ws RX1 TX1 5
theorem nmX1 : ∀ a, a < 5 → ∀ b, b < 5 → a ≠ b → (TX1 a).2.1 ≠ (TX1 b).2.1 := by decide +kernel
theorem tyX1_ok : ∀ k, k < 5 → parseFieldDescriptor (TX1 k).2.2.1 = some (tyX1 k) := by decide +kernel
abbrev cX1_init : ByteArray := prog_3_method_1_code
def yX1_init : MethodName := ⟨RX1, "<init>", "(I)V"⟩
abbrev cX1_kind : ByteArray := prog_3_method_2_code
def yX1_kind : MethodName := ⟨RX1, "kind", "()I"⟩
abbrev cX1_takes : ByteArray := prog_3_method_3_code
def yX1_takes : MethodName := ⟨RX1, "takes", "(II)I"⟩
abbrev cX1_gives : ByteArray := prog_3_method_4_code
def yX1_gives : MethodName := ⟨RX1, "gives", "(III)I"⟩
def RX2 : String := "PapersEarly$Door"
def TX2 : u_T := fun k => match k with
  | 0 => ("PapersEarly$Door", "index", "I", true)
  | 1 => ("PapersEarly$Door", "number", "I", false)
  | 2 => ("PapersEarly$Door", "place", "I", false)
  | 3 => ("PapersEarly$Door", "side", "I", false)
  | _ => ("PapersEarly$Door", "sort", "I", false)
def tyX2 : Nat → FieldType := fun k => match k with
  | 0 => .int
  | 1 => .int
  | 2 => .int
  | 3 => .int
  | _ => .int
abbrev wsX20 : List Cond := u_ws RX2 TX2 5
theorem nmX2 : ∀ a, a < 5 → ∀ b, b < 5 → a ≠ b → (TX2 a).2.1 ≠ (TX2 b).2.1 := by decide +kernel
theorem tyX2_ok : ∀ k, k < 5 → parseFieldDescriptor (TX2 k).2.2.1 = some (tyX2 k) := by decide +kernel
abbrev cX2_init : ByteArray := prog_4_method_1_code
def yX2_init : MethodName := ⟨RX2, "<init>", "(I)V"⟩
abbrev cX2_kind : ByteArray := prog_4_method_2_code
def yX2_kind : MethodName := ⟨RX2, "kind", "()I"⟩
abbrev cX2_takes : ByteArray := prog_4_method_3_code
def yX2_takes : MethodName := ⟨RX2, "takes", "(II)I"⟩
abbrev cX2_gives : ByteArray := prog_4_method_4_code
def yX2_gives : MethodName := ⟨RX2, "gives", "(III)I"⟩
abbrev cX2_fact : ByteArray := prog_4_method_5_code
def yX2_fact : MethodName := ⟨RX2, "fact", "(I)I"⟩
abbrev cX2_change : ByteArray := prog_4_method_6_code
def yX2_change : MethodName := ⟨RX2, "change", "(II)V"⟩
def RX3 : String := "PapersEarly$Gate"
def TX3 : u_T := fun k => match k with
  | 0 => ("PapersEarly$Door", "index", "I", true)
  | 1 => ("PapersEarly$Door", "number", "I", false)
  | 2 => ("PapersEarly$Door", "place", "I", false)
  | 3 => ("PapersEarly$Door", "side", "I", false)
  | _ => ("PapersEarly$Door", "sort", "I", false)
def tyX3 : Nat → FieldType := fun k => match k with
  | 0 => .int
  | 1 => .int
  | 2 => .int
  | 3 => .int
  | _ => .int
abbrev wsX30 : List Cond := u_ws RX3 TX3 5
theorem nmX3 : ∀ a, a < 5 → ∀ b, b < 5 → a ≠ b → (TX3 a).2.1 ≠ (TX3 b).2.1 := by decide +kernel
theorem tyX3_ok : ∀ k, k < 5 → parseFieldDescriptor (TX3 k).2.2.1 = some (tyX3 k) := by decide +kernel
abbrev cX3_init : ByteArray := prog_5_method_1_code
def yX3_init : MethodName := ⟨RX3, "<init>", "(I)V"⟩
abbrev cX3_kind : ByteArray := prog_5_method_2_code
def yX3_kind : MethodName := ⟨RX3, "kind", "()I"⟩
abbrev cX3_takes : ByteArray := prog_5_method_3_code
def yX3_takes : MethodName := ⟨RX3, "takes", "(II)I"⟩
def RX4 : String := "PapersEarly$Reader"
def TX4 : u_T := fun k => match k with
  | 0 => ("PapersEarly$Reader", "size", "I", false)
  | 1 => ("PapersEarly$Reader", "start", "I", false)
  | 2 => ("PapersEarly$Reader", "tape", "[I", true)
  | 3 => ("PapersEarly$Reader", "code", "[I", true)
  | 4 => ("PapersEarly$Reader", "codeSize", "I", false)
  | 5 => ("PapersEarly$Reader", "spot", "I", false)
  | 6 => ("PapersEarly$Reader", "kind", "I", false)
  | _ => ("PapersEarly$Reader", "value", "I", false)
def tyX4 : Nat → FieldType := fun k => match k with
  | 0 => .int
  | 1 => .int
  | 2 => .array .int
  | 3 => .array .int
  | 4 => .int
  | 5 => .int
  | 6 => .int
  | _ => .int
abbrev wsX40 : List Cond := u_ws RX4 TX4 8
theorem nmX4 : ∀ a, a < 8 → ∀ b, b < 8 → a ≠ b → (TX4 a).2.1 ≠ (TX4 b).2.1 := by decide +kernel
theorem tyX4_ok : ∀ k, k < 8 → parseFieldDescriptor (TX4 k).2.2.1 = some (tyX4 k) := by decide +kernel
abbrev cX4_init : ByteArray := prog_6_method_1_code
def yX4_init : MethodName := ⟨RX4, "<init>", "()V"⟩
abbrev cX4_isJoint : ByteArray := prog_6_method_2_code
def yX4_isJoint : MethodName := ⟨RX4, "isJoint", "(I)Z"⟩
abbrev cX4_append : ByteArray := prog_6_method_3_code
def yX4_append : MethodName := ⟨RX4, "append", "(I)V"⟩
abbrev cX4_clear : ByteArray := prog_6_method_4_code
def yX4_clear : MethodName := ⟨RX4, "clear", "()V"⟩
abbrev cX4_read : ByteArray := prog_6_method_5_code
def yX4_read : MethodName := ⟨RX4, "read", "()LPapersEarly$Rule;"⟩
abbrev cX4_part : ByteArray := prog_6_method_6_code
def yX4_part : MethodName := ⟨RX4, "part", "(I)Z"⟩
abbrev cX4_either : ByteArray := prog_6_method_7_code
def yX4_either : MethodName := ⟨RX4, "either", "(I)Z"⟩
abbrev cX4_both : ByteArray := prog_6_method_8_code
def yX4_both : MethodName := ⟨RX4, "both", "(I)Z"⟩
abbrev cX4_negated : ByteArray := prog_6_method_9_code
def yX4_negated : MethodName := ⟨RX4, "negated", "(I)Z"⟩
abbrev cX4_compared : ByteArray := prog_6_method_10_code
def yX4_compared : MethodName := ⟨RX4, "compared", "(I)Z"⟩
abbrev cX4_sum : ByteArray := prog_6_method_11_code
def yX4_sum : MethodName := ⟨RX4, "sum", "(I)Z"⟩
abbrev cX4_term : ByteArray := prog_6_method_12_code
def yX4_term : MethodName := ⟨RX4, "term", "(I)Z"⟩
abbrev cX4_one : ByteArray := prog_6_method_13_code
def yX4_one : MethodName := ⟨RX4, "one", "(I)Z"⟩
abbrev cX4_emit : ByteArray := prog_6_method_14_code
def yX4_emit : MethodName := ⟨RX4, "emit", "(I)Z"⟩
abbrev cX4_passed : ByteArray := prog_6_method_15_code
def yX4_passed : MethodName := ⟨RX4, "passed", "(I)Z"⟩
abbrev cX4_advance : ByteArray := prog_6_method_16_code
def yX4_advance : MethodName := ⟨RX4, "advance", "()V"⟩
abbrev cX4_readDigits : ByteArray := prog_6_method_17_code
def yX4_readDigits : MethodName := ⟨RX4, "readDigits", "()V"⟩
abbrev cX4_isLetter : ByteArray := prog_6_method_18_code
def yX4_isLetter : MethodName := ⟨RX4, "isLetter", "(I)Z"⟩
abbrev cX4_isDigit : ByteArray := prog_6_method_19_code
def yX4_isDigit : MethodName := ⟨RX4, "isDigit", "(I)Z"⟩
abbrev cX4_signKind : ByteArray := prog_6_method_20_code
def yX4_signKind : MethodName := ⟨RX4, "signKind", "(I)I"⟩
abbrev cX4_wordKind : ByteArray := prog_6_method_21_code
def yX4_wordKind : MethodName := ⟨RX4, "wordKind", "()I"⟩
abbrev cX4_spells : ByteArray := prog_6_method_22_code
def yX4_spells : MethodName := ⟨RX4, "spells", "(Ljava/lang/String;)Z"⟩
def RX5 : String := "PapersEarly$Rule"
def TX5 : u_T := fun k => match k with
  | 0 => ("PapersEarly$Rule", "code", "[I", true)
  | 1 => ("PapersEarly$Rule", "ringsFrom", "I", true)
  | 2 => ("PapersEarly$Rule", "tipsFrom", "I", true)
  | _ => ("PapersEarly$Rule", "stack", "[I", true)
def tyX5 : Nat → FieldType := fun k => match k with
  | 0 => .array .int
  | 1 => .int
  | 2 => .int
  | _ => .array .int
abbrev wsX50 : List Cond := u_ws RX5 TX5 4
theorem nmX5 : ∀ a, a < 4 → ∀ b, b < 4 → a ≠ b → (TX5 a).2.1 ≠ (TX5 b).2.1 := by decide +kernel
theorem tyX5_ok : ∀ k, k < 4 → parseFieldDescriptor (TX5 k).2.2.1 = some (tyX5 k) := by decide +kernel
abbrev cX5_init : ByteArray := prog_7_method_1_code
def yX5_init : MethodName := ⟨RX5, "<init>", "([III)V"⟩
abbrev cX5_wantedBy : ByteArray := prog_7_method_2_code
def yX5_wantedBy : MethodName := ⟨RX5, "wantedBy", "(LPapersEarly$Door;I)I"⟩
abbrev cX5_rings : ByteArray := prog_7_method_3_code
def yX5_rings : MethodName := ⟨RX5, "rings", "(LPapersEarly$Door;II)Z"⟩
abbrev cX5_gift : ByteArray := prog_7_method_4_code
def yX5_gift : MethodName := ⟨RX5, "gift", "(LPapersEarly$Door;II)I"⟩
abbrev cX5_within : ByteArray := prog_7_method_5_code
def yX5_within : MethodName := ⟨RX5, "within", "(II)I"⟩
abbrev cX5_answer : ByteArray := prog_7_method_6_code
def yX5_answer : MethodName := ⟨RX5, "answer", "(IILPapersEarly$Door;II)I"⟩
abbrev cX5_bit : ByteArray := prog_7_method_7_code
def yX5_bit : MethodName := ⟨RX5, "bit", "(Z)I"⟩
abbrev cX5_joined : ByteArray := prog_7_method_8_code
def yX5_joined : MethodName := ⟨RX5, "joined", "(III)I"⟩
abbrev cX5_named : ByteArray := prog_7_method_9_code
def yX5_named : MethodName := ⟨RX5, "named", "(ILPapersEarly$Door;II)I"⟩
def RX6 : String := "PapersEarly$Search"
def TX6 : u_T := fun k => match k with
  | 0 => ("PapersEarly$Search", "order", "[I", true)
  | 1 => ("PapersEarly$Search", "score", "I", false)
  | 2 => ("PapersEarly$Search", "known", "Z", false)
  | 3 => ("PapersEarly$Search", "sort", "I", true)
  | 4 => ("PapersEarly$Search", "walks", "[LPapersEarly$Walk;", true)
  | 5 => ("PapersEarly$Search", "trial", "[I", true)
  | 6 => ("PapersEarly$Search", "wants", "[I", true)
  | 7 => ("PapersEarly$Search", "gifts", "[I", true)
  | 8 => ("PapersEarly$Search", "hopes", "[I", true)
  | 9 => ("PapersEarly$Search", "doors", "[LPapersEarly$Door;", false)
  | 10 => ("PapersEarly$Search", "houseCount", "I", false)
  | _ => ("PapersEarly$Search", "terms", "[I", false)
def tyX6 : Nat → FieldType := fun k => match k with
  | 0 => .array .int
  | 1 => .int
  | 2 => .boolean
  | 3 => .int
  | 4 => .array (.object "PapersEarly$Walk")
  | 5 => .array .int
  | 6 => .array .int
  | 7 => .array .int
  | 8 => .array .int
  | 9 => .array (.object "PapersEarly$Door")
  | 10 => .int
  | _ => .array .int
abbrev wsX60 : List Cond := u_ws RX6 TX6 12
theorem nmX6 : ∀ a, a < 12 → ∀ b, b < 12 → a ≠ b → (TX6 a).2.1 ≠ (TX6 b).2.1 := by decide +kernel
theorem tyX6_ok : ∀ k, k < 12 → parseFieldDescriptor (TX6 k).2.2.1 = some (tyX6 k) := by decide +kernel
abbrev cX6_init : ByteArray := prog_8_method_1_code
def yX6_init : MethodName := ⟨RX6, "<init>", "(I)V"⟩
abbrev cX6_find : ByteArray := prog_8_method_2_code
def yX6_find : MethodName := ⟨RX6, "find", "([LPapersEarly$Door;I[ILPapersEarly$Rule;)V"⟩
abbrev cX6_fillGifts : ByteArray := prog_8_method_3_code
def yX6_fillGifts : MethodName := ⟨RX6, "fillGifts", "(LPapersEarly$Rule;)V"⟩
abbrev cX6_grow : ByteArray := prog_8_method_4_code
def yX6_grow : MethodName := ⟨RX6, "grow", "(III)V"⟩
abbrev cX6_hopeOf : ByteArray := prog_8_method_5_code
def yX6_hopeOf : MethodName := ⟨RX6, "hopeOf", "(III)I"⟩
abbrev cX6_worth : ByteArray := prog_8_method_6_code
def yX6_worth : MethodName := ⟨RX6, "worth", "([III)I"⟩
def RX7 : String := "PapersEarly$Sheet"
def TX7 : u_T := fun k => match k with
  | 0 => ("PapersEarly$Sheet", "sort", "I", false)
  | 1 => ("PapersEarly$Sheet", "size", "I", false)
  | _ => ("PapersEarly$Sheet", "items", "[I", true)
def tyX7 : Nat → FieldType := fun k => match k with
  | 0 => .int
  | 1 => .int
  | _ => .array .int
abbrev wsX70 : List Cond := u_ws RX7 TX7 3
theorem nmX7 : ∀ a, a < 3 → ∀ b, b < 3 → a ≠ b → (TX7 a).2.1 ≠ (TX7 b).2.1 := by decide +kernel
theorem tyX7_ok : ∀ k, k < 3 → parseFieldDescriptor (TX7 k).2.2.1 = some (tyX7 k) := by decide +kernel
abbrev cX7_init : ByteArray := prog_9_method_1_code
def yX7_init : MethodName := ⟨RX7, "<init>", "()V"⟩
abbrev cX7_isMissing : ByteArray := prog_9_method_2_code
def yX7_isMissing : MethodName := ⟨RX7, "isMissing", "()Z"⟩
abbrev cX7_become : ByteArray := prog_9_method_3_code
def yX7_become : MethodName := ⟨RX7, "become", "(II)V"⟩
abbrev cX7_has : ByteArray := prog_9_method_4_code
def yX7_has : MethodName := ⟨RX7, "has", "(II)Z"⟩
abbrev cX7_item : ByteArray := prog_9_method_5_code
def yX7_item : MethodName := ⟨RX7, "item", "(I)I"⟩
abbrev cX7_put : ByteArray := prog_9_method_6_code
def yX7_put : MethodName := ⟨RX7, "put", "(II)V"⟩
def RX8 : String := "PapersEarly$Slot"
def TX8 : u_T := fun k => match k with
  | 0 => ("PapersEarly$Door", "index", "I", true)
  | 1 => ("PapersEarly$Door", "number", "I", false)
  | 2 => ("PapersEarly$Door", "place", "I", false)
  | 3 => ("PapersEarly$Door", "side", "I", false)
  | _ => ("PapersEarly$Door", "sort", "I", false)
def tyX8 : Nat → FieldType := fun k => match k with
  | 0 => .int
  | 1 => .int
  | 2 => .int
  | 3 => .int
  | _ => .int
abbrev wsX80 : List Cond := u_ws RX8 TX8 5
theorem nmX8 : ∀ a, a < 5 → ∀ b, b < 5 → a ≠ b → (TX8 a).2.1 ≠ (TX8 b).2.1 := by decide +kernel
theorem tyX8_ok : ∀ k, k < 5 → parseFieldDescriptor (TX8 k).2.2.1 = some (tyX8 k) := by decide +kernel
abbrev cX8_init : ByteArray := prog_10_method_1_code
def yX8_init : MethodName := ⟨RX8, "<init>", "(I)V"⟩
abbrev cX8_kind : ByteArray := prog_10_method_2_code
def yX8_kind : MethodName := ⟨RX8, "kind", "()I"⟩
abbrev cX8_takes : ByteArray := prog_10_method_3_code
def yX8_takes : MethodName := ⟨RX8, "takes", "(II)I"⟩
abbrev cX8_gives : ByteArray := prog_10_method_4_code
def yX8_gives : MethodName := ⟨RX8, "gives", "(III)I"⟩
def RX9 : String := "PapersEarly$Steps"
def TX9 : u_T := fun k => match k with
  | 0 => ("PapersEarly$Door", "index", "I", true)
  | 1 => ("PapersEarly$Door", "number", "I", false)
  | 2 => ("PapersEarly$Door", "place", "I", false)
  | 3 => ("PapersEarly$Door", "side", "I", false)
  | _ => ("PapersEarly$Door", "sort", "I", false)
def tyX9 : Nat → FieldType := fun k => match k with
  | 0 => .int
  | 1 => .int
  | 2 => .int
  | 3 => .int
  | _ => .int
abbrev wsX90 : List Cond := u_ws RX9 TX9 5
theorem nmX9 : ∀ a, a < 5 → ∀ b, b < 5 → a ≠ b → (TX9 a).2.1 ≠ (TX9 b).2.1 := by decide +kernel
theorem tyX9_ok : ∀ k, k < 5 → parseFieldDescriptor (TX9 k).2.2.1 = some (tyX9 k) := by decide +kernel
abbrev cX9_init : ByteArray := prog_11_method_1_code
def yX9_init : MethodName := ⟨RX9, "<init>", "(I)V"⟩
abbrev cX9_kind : ByteArray := prog_11_method_2_code
def yX9_kind : MethodName := ⟨RX9, "kind", "()I"⟩
abbrev cX9_takes : ByteArray := prog_11_method_3_code
def yX9_takes : MethodName := ⟨RX9, "takes", "(II)I"⟩
abbrev cX9_gives : ByteArray := prog_11_method_4_code
def yX9_gives : MethodName := ⟨RX9, "gives", "(III)I"⟩
def RX10 : String := "PapersEarly$Walk"
def TX10 : u_T := fun k => match k with
  | 0 => ("PapersEarly$Walk", "minute", "I", false)
  | 1 => ("PapersEarly$Walk", "backs", "I", false)
  | 2 => ("PapersEarly$Walk", "place", "I", false)
  | 3 => ("PapersEarly$Walk", "side", "I", false)
  | 4 => ("PapersEarly$Walk", "room", "I", false)
  | _ => ("PapersEarly$Walk", "atHeap", "Z", false)
def tyX10 : Nat → FieldType := fun k => match k with
  | 0 => .int
  | 1 => .int
  | 2 => .int
  | 3 => .int
  | 4 => .int
  | _ => .boolean
abbrev wsX100 : List Cond := u_ws RX10 TX10 6
theorem nmX10 : ∀ a, a < 6 → ∀ b, b < 6 → a ≠ b → (TX10 a).2.1 ≠ (TX10 b).2.1 := by decide +kernel
theorem tyX10_ok : ∀ k, k < 6 → parseFieldDescriptor (TX10 k).2.2.1 = some (tyX10 k) := by decide +kernel
abbrev cX10_init : ByteArray := prog_12_method_1_code
def yX10_init : MethodName := ⟨RX10, "<init>", "()V"⟩
abbrev cX10_start : ByteArray := prog_12_method_2_code
def yX10_start : MethodName := ⟨RX10, "start", "([I)V"⟩
abbrev cX10_follow : ByteArray := prog_12_method_3_code
def yX10_follow : MethodName := ⟨RX10, "follow", "(LPapersEarly$Walk;)V"⟩
abbrev cX10_visit : ByteArray := prog_12_method_4_code
def yX10_visit : MethodName := ⟨RX10, "visit", "(LPapersEarly$Door;[I)I"⟩
abbrev cX10_fill : ByteArray := prog_12_method_5_code
def yX10_fill : MethodName := ⟨RX10, "fill", "([I)V"⟩
abbrev cX10_go : ByteArray := prog_12_method_6_code
def yX10_go : MethodName := ⟨RX10, "go", "(I[I)V"⟩
def RX11 : String := "PapersEarly"
def TX11 : u_T := fun k => match k with
  | 0 => ("PapersEarly", "doors", "[LPapersEarly$Door;", true)
  | 1 => ("PapersEarly", "houseCount", "I", false)
  | 2 => ("PapersEarly", "list", "[I", true)
  | 3 => ("PapersEarly", "terms", "[I", true)
  | 4 => ("PapersEarly", "reader", "LPapersEarly$Reader;", true)
  | 5 => ("PapersEarly", "rules", "[LPapersEarly$Rule;", true)
  | 6 => ("PapersEarly", "ruleCount", "I", false)
  | 7 => ("PapersEarly", "ruleNow", "I", false)
  | 8 => ("PapersEarly", "sheets", "[LPapersEarly$Sheet;", true)
  | 9 => ("PapersEarly", "walk", "LPapersEarly$Walk;", true)
  | 10 => ("PapersEarly", "arrivals", "[I", true)
  | 11 => ("PapersEarly", "otherList", "[I", true)
  | 12 => ("PapersEarly", "soonest", "LPapersEarly$Search;", true)
  | 13 => ("PapersEarly", "richest", "LPapersEarly$Search;", true)
  | 14 => ("PapersEarly", "keptCount", "I", false)
  | 15 => ("PapersEarly", "keptRule", "I", false)
  | 16 => ("PapersEarly", "keptList", "[I", true)
  | 17 => ("PapersEarly", "keptTerms", "[I", true)
  | _ => ("PapersEarly", "keptFacts", "[I", true)
def tyX11 : Nat → FieldType := fun k => match k with
  | 0 => .array (.object "PapersEarly$Door")
  | 1 => .int
  | 2 => .array .int
  | 3 => .array .int
  | 4 => .object "PapersEarly$Reader"
  | 5 => .array (.object "PapersEarly$Rule")
  | 6 => .int
  | 7 => .int
  | 8 => .array (.object "PapersEarly$Sheet")
  | 9 => .object "PapersEarly$Walk"
  | 10 => .array .int
  | 11 => .array .int
  | 12 => .object "PapersEarly$Search"
  | 13 => .object "PapersEarly$Search"
  | 14 => .int
  | 15 => .int
  | 16 => .array .int
  | 17 => .array .int
  | _ => .array .int
abbrev wsX110 : List Cond := u_ws RX11 TX11 19
theorem nmX11 : ∀ a, a < 19 → ∀ b, b < 19 → a ≠ b → (TX11 a).2.1 ≠ (TX11 b).2.1 := by decide +kernel
theorem tyX11_ok : ∀ k, k < 19 → parseFieldDescriptor (TX11 k).2.2.1 = some (tyX11 k) := by decide +kernel
abbrev cX11_init : ByteArray := prog_1_method_1_code
def yX11_init : MethodName := ⟨RX11, "<init>", "()V"⟩
abbrev cX11_house : ByteArray := prog_1_method_2_code
def yX11_house : MethodName := ⟨RX11, "house", "(III)I"⟩
abbrev cX11_set : ByteArray := prog_1_method_3_code
def yX11_set : MethodName := ⟨RX11, "set", "(III)I"⟩
abbrev cX11_bag : ByteArray := prog_1_method_4_code
def yX11_bag : MethodName := ⟨RX11, "bag", "(II)I"⟩
abbrev cX11_told : ByteArray := prog_1_method_5_code
def yX11_told : MethodName := ⟨RX11, "told", "(II)I"⟩
abbrev cX11_swap : ByteArray := prog_1_method_6_code
def yX11_swap : MethodName := ⟨RX11, "swap", "(II)I"⟩
abbrev cX11_feed : ByteArray := prog_1_method_7_code
def yX11_feed : MethodName := ⟨RX11, "feed", "(I)I"⟩
abbrev cX11_text : ByteArray := prog_1_method_8_code
def yX11_text : MethodName := ⟨RX11, "text", "()I"⟩
abbrev cX11_force : ByteArray := prog_1_method_9_code
def yX11_force : MethodName := ⟨RX11, "force", "(I)I"⟩
abbrev cX11_at : ByteArray := prog_1_method_10_code
def yX11_at : MethodName := ⟨RX11, "at", "(II)I"⟩
abbrev cX11_round : ByteArray := prog_1_method_11_code
def yX11_round : MethodName := ⟨RX11, "round", "(I)I"⟩
abbrev cX11_shifted : ByteArray := prog_1_method_12_code
def yX11_shifted : MethodName := ⟨RX11, "shifted", "(II)I"⟩
abbrev cX11_where : ByteArray := prog_1_method_13_code
def yX11_where : MethodName := ⟨RX11, "where", "(II)I"⟩
abbrev cX11_best : ByteArray := prog_1_method_14_code
def yX11_best : MethodName := ⟨RX11, "best", "(II)I"⟩
abbrev cX11_arrange : ByteArray := prog_1_method_15_code
def yX11_arrange : MethodName := ⟨RX11, "arrange", "(I)I"⟩
abbrev cX11_ways : ByteArray := prog_1_method_16_code
def yX11_ways : MethodName := ⟨RX11, "ways", "(I)I"⟩
abbrev cX11_begin : ByteArray := prog_1_method_17_code
def yX11_begin : MethodName := ⟨RX11, "begin", "()I"⟩
abbrev cX11_heap : ByteArray := prog_1_method_18_code
def yX11_heap : MethodName := ⟨RX11, "heap", "(I)I"⟩
abbrev cX11_split : ByteArray := prog_1_method_19_code
def yX11_split : MethodName := ⟨RX11, "split", "(I)I"⟩
abbrev cX11_drop : ByteArray := prog_1_method_20_code
def yX11_drop : MethodName := ⟨RX11, "drop", "(I)I"⟩
abbrev cX11_away : ByteArray := prog_1_method_21_code
def yX11_away : MethodName := ⟨RX11, "away", "(II)I"⟩
abbrev cX11_judge : ByteArray := prog_1_method_22_code
def yX11_judge : MethodName := ⟨RX11, "judge", "(I)I"⟩
abbrev cX11_thrownBy : ByteArray := prog_1_method_23_code
def yX11_thrownBy : MethodName := ⟨RX11, "thrownBy", "(II)I"⟩
abbrev cX11_chance : ByteArray := prog_1_method_24_code
def yX11_chance : MethodName := ⟨RX11, "chance", "(IIII)J"⟩
abbrev cX11_image : ByteArray := prog_1_method_25_code
def yX11_image : MethodName := ⟨RX11, "image", "()I"⟩
abbrev cX11_back : ByteArray := prog_1_method_26_code
def yX11_back : MethodName := ⟨RX11, "back", "()I"⟩
abbrev cX11_count : ByteArray := prog_1_method_27_code
def yX11_count : MethodName := ⟨RX11, "count", "(I)I"⟩
abbrev cX11_sheet : ByteArray := prog_1_method_28_code
def yX11_sheet : MethodName := ⟨RX11, "sheet", "(III)I"⟩
abbrev cX11_cell : ByteArray := prog_1_method_29_code
def yX11_cell : MethodName := ⟨RX11, "cell", "(III)I"⟩
abbrev cX11_copy : ByteArray := prog_1_method_30_code
def yX11_copy : MethodName := ⟨RX11, "copy", "(IIIII)I"⟩
abbrev cX11_houses : ByteArray := prog_1_method_31_code
def yX11_houses : MethodName := ⟨RX11, "houses", "(IIII)I"⟩
abbrev cX11_taken : ByteArray := prog_1_method_32_code
def yX11_taken : MethodName := ⟨RX11, "taken", "(II)I"⟩
abbrev cX11_isHouse : ByteArray := prog_1_method_33_code
def yX11_isHouse : MethodName := ⟨RX11, "isHouse", "(I)Z"⟩
abbrev cX11_doorOf : ByteArray := prog_1_method_34_code
def yX11_doorOf : MethodName := ⟨RX11, "doorOf", "(I)LPapersEarly$Door;"⟩
abbrev cX11_isFact : ByteArray := prog_1_method_35_code
def yX11_isFact : MethodName := ⟨RX11, "isFact", "(II)Z"⟩
abbrev cX11_newDoor : ByteArray := prog_1_method_36_code
def yX11_newDoor : MethodName := ⟨RX11, "newDoor", "(II)LPapersEarly$Door;"⟩
abbrev cX11_isOfKind : ByteArray := prog_1_method_37_code
def yX11_isOfKind : MethodName := ⟨RX11, "isOfKind", "(LPapersEarly$Door;I)Z"⟩
abbrev cX11_thickOf : ByteArray := prog_1_method_38_code
def yX11_thickOf : MethodName := ⟨RX11, "thickOf", "([II)I"⟩
abbrev cX11_placeInList : ByteArray := prog_1_method_39_code
def yX11_placeInList : MethodName := ⟨RX11, "placeInList", "(I)I"⟩
abbrev cX11_thickTogether : ByteArray := prog_1_method_40_code
def yX11_thickTogether : MethodName := ⟨RX11, "thickTogether", "(I)I"⟩
abbrev cX11_forgetBest : ByteArray := prog_1_method_41_code
def yX11_forgetBest : MethodName := ⟨RX11, "forgetBest", "()V"⟩
abbrev cX11_searchOf : ByteArray := prog_1_method_42_code
def yX11_searchOf : MethodName := ⟨RX11, "searchOf", "(I)LPapersEarly$Search;"⟩
abbrev cX11_goList : ByteArray := prog_1_method_43_code
def yX11_goList : MethodName := ⟨RX11, "goList", "()I"⟩
abbrev cX11_goThrough : ByteArray := prog_1_method_44_code
def yX11_goThrough : MethodName := ⟨RX11, "goThrough", "([III)I"⟩
abbrev cX11_goWithout : ByteArray := prog_1_method_45_code
def yX11_goWithout : MethodName := ⟨RX11, "goWithout", "(I)I"⟩
abbrev cX11_wayRank : ByteArray := prog_1_method_46_code
def yX11_wayRank : MethodName := ⟨RX11, "wayRank", "(II)I"⟩
abbrev cX11_wantedBy : ByteArray := prog_1_method_47_code
def yX11_wantedBy : MethodName := ⟨RX11, "wantedBy", "(LPapersEarly$Door;)I"⟩
abbrev cX11_lateness : ByteArray := prog_1_method_48_code
def yX11_lateness : MethodName := ⟨RX11, "lateness", "(LPapersEarly$Door;)I"⟩
abbrev cX11_giftOf : ByteArray := prog_1_method_49_code
def yX11_giftOf : MethodName := ⟨RX11, "giftOf", "(LPapersEarly$Door;)I"⟩
abbrev cX11_lateCount : ByteArray := prog_1_method_50_code
def yX11_lateCount : MethodName := ⟨RX11, "lateCount", "()I"⟩
abbrev cX11_ringing : ByteArray := prog_1_method_51_code
def yX11_ringing : MethodName := ⟨RX11, "ringing", "()I"⟩
abbrev cX11_purseWithout : ByteArray := prog_1_method_52_code
def yX11_purseWithout : MethodName := ⟨RX11, "purseWithout", "(I)I"⟩
abbrev cX11_wrongSorts : ByteArray := prog_1_method_53_code
def yX11_wrongSorts : MethodName := ⟨RX11, "wrongSorts", "(I)I"⟩
abbrev cX11_tellsBits : ByteArray := prog_1_method_54_code
def yX11_tellsBits : MethodName := ⟨RX11, "tellsBits", "(LPapersEarly$Sheet;I)Z"⟩
abbrev cX11_lyingRight : ByteArray := prog_1_method_55_code
def yX11_lyingRight : MethodName := ⟨RX11, "lyingRight", "(II)I"⟩
abbrev cX11_commonDivisor : ByteArray := prog_1_method_56_code
def yX11_commonDivisor : MethodName := ⟨RX11, "commonDivisor", "(II)I"⟩
abbrev cX11_isSheet : ByteArray := prog_1_method_57_code
def yX11_isSheet : MethodName := ⟨RX11, "isSheet", "(I)Z"⟩
abbrev cX11_refusalOfTelling : ByteArray := prog_1_method_58_code
def yX11_refusalOfTelling : MethodName := ⟨RX11, "refusalOfTelling", "(I)I"⟩
def RX12 : String := "PapersEarlyModel"
def TX12 : u_T := fun k => match k with
  | 0 => ("PapersEarlyModel", "kind", "[I", true)
  | 1 => ("PapersEarlyModel", "number", "[I", true)
  | 2 => ("PapersEarlyModel", "place", "[I", true)
  | 3 => ("PapersEarlyModel", "side", "[I", true)
  | 4 => ("PapersEarlyModel", "paper", "[I", true)
  | 5 => ("PapersEarlyModel", "list", "[I", true)
  | 6 => ("PapersEarlyModel", "setting", "[I", true)
  | 7 => ("PapersEarlyModel", "houses", "I", false)
  | 8 => ("PapersEarlyModel", "theRule", "I", false)
  | 9 => ("PapersEarlyModel", "words", "[[I", true)
  | 10 => ("PapersEarlyModel", "tape", "[I", true)
  | 11 => ("PapersEarlyModel", "codes", "[I", true)
  | 12 => ("PapersEarlyModel", "codeLong", "[I", true)
  | 13 => ("PapersEarlyModel", "held", "[I", true)
  | 14 => ("PapersEarlyModel", "stack", "[I", true)
  | 15 => ("PapersEarlyModel", "taped", "I", false)
  | 16 => ("PapersEarlyModel", "texts", "I", false)
  | 17 => ("PapersEarlyModel", "next", "I", false)
  | 18 => ("PapersEarlyModel", "token", "I", false)
  | 19 => ("PapersEarlyModel", "tokenAt", "I", false)
  | 20 => ("PapersEarlyModel", "value", "I", false)
  | 21 => ("PapersEarlyModel", "open", "I", false)
  | 22 => ("PapersEarlyModel", "heldMany", "I", false)
  | 23 => ("PapersEarlyModel", "row", "I", false)
  | 24 => ("PapersEarlyModel", "order", "[I", true)
  | 25 => ("PapersEarlyModel", "there", "[I", true)
  | 26 => ("PapersEarlyModel", "orderMany", "I", false)
  | 27 => ("PapersEarlyModel", "backs", "I", false)
  | 28 => ("PapersEarlyModel", "bestOrder", "[I", true)
  | 29 => ("PapersEarlyModel", "kept", "[I", true)
  | 30 => ("PapersEarlyModel", "hasImage", "Z", false)
  | 31 => ("PapersEarlyModel", "isKeeping", "Z", false)
  | 32 => ("PapersEarlyModel", "cursor", "I", false)
  | 33 => ("PapersEarlyModel", "sort", "[I", true)
  | 34 => ("PapersEarlyModel", "size", "[I", true)
  | 35 => ("PapersEarlyModel", "cells", "[I", true)
  | _ => ("PapersEarlyModel", "moved", "[I", true)
def tyX12 : Nat → FieldType := fun k => match k with
  | 0 => .array .int
  | 1 => .array .int
  | 2 => .array .int
  | 3 => .array .int
  | 4 => .array .int
  | 5 => .array .int
  | 6 => .array .int
  | 7 => .int
  | 8 => .int
  | 9 => .array (.array .int)
  | 10 => .array .int
  | 11 => .array .int
  | 12 => .array .int
  | 13 => .array .int
  | 14 => .array .int
  | 15 => .int
  | 16 => .int
  | 17 => .int
  | 18 => .int
  | 19 => .int
  | 20 => .int
  | 21 => .int
  | 22 => .int
  | 23 => .int
  | 24 => .array .int
  | 25 => .array .int
  | 26 => .int
  | 27 => .int
  | 28 => .array .int
  | 29 => .array .int
  | 30 => .boolean
  | 31 => .boolean
  | 32 => .int
  | 33 => .array .int
  | 34 => .array .int
  | 35 => .array .int
  | _ => .array .int
abbrev wsX120 : List Cond := u_ws RX12 TX12 37
theorem nmX12 : ∀ a, a < 37 → ∀ b, b < 37 → a ≠ b → (TX12 a).2.1 ≠ (TX12 b).2.1 := by decide +kernel
theorem tyX12_ok : ∀ k, k < 37 → parseFieldDescriptor (TX12 k).2.2.1 = some (tyX12 k) := by decide +kernel
abbrev cX12_init : ByteArray := prog_14_method_1_code
def yX12_init : MethodName := ⟨RX12, "<init>", "()V"⟩
abbrev cX12_isIn : ByteArray := prog_14_method_2_code
def yX12_isIn : MethodName := ⟨RX12, "isIn", "(III)Z"⟩
abbrev cX12_isHouse : ByteArray := prog_14_method_3_code
def yX12_isHouse : MethodName := ⟨RX12, "isHouse", "(I)Z"⟩
abbrev cX12_writes : ByteArray := prog_14_method_4_code
def yX12_writes : MethodName := ⟨RX12, "writes", "(I)V"⟩
abbrev cX12_firstRule : ByteArray := prog_14_method_5_code
def yX12_firstRule : MethodName := ⟨RX12, "firstRule", "()V"⟩
abbrev cX12_feed : ByteArray := prog_14_method_6_code
def yX12_feed : MethodName := ⟨RX12, "feed", "(I)I"⟩
abbrev cX12_isAt : ByteArray := prog_14_method_7_code
def yX12_isAt : MethodName := ⟨RX12, "isAt", "(II)Z"⟩
abbrev cX12_isSign : ByteArray := prog_14_method_8_code
def yX12_isSign : MethodName := ⟨RX12, "isSign", "(I)Z"⟩
abbrev cX12_isWord : ByteArray := prog_14_method_9_code
def yX12_isWord : MethodName := ⟨RX12, "isWord", "([I)Z"⟩
abbrev cX12_reads : ByteArray := prog_14_method_10_code
def yX12_reads : MethodName := ⟨RX12, "reads", "()V"⟩
abbrev cX12_top : ByteArray := prog_14_method_11_code
def yX12_top : MethodName := ⟨RX12, "top", "()I"⟩
abbrev cX12_holds : ByteArray := prog_14_method_12_code
def yX12_holds : MethodName := ⟨RX12, "holds", "(I)V"⟩
abbrev cX12_lets : ByteArray := prog_14_method_13_code
def yX12_lets : MethodName := ⟨RX12, "lets", "()V"⟩
abbrev cX12_letsFrom : ByteArray := prog_14_method_14_code
def yX12_letsFrom : MethodName := ⟨RX12, "letsFrom", "(I)V"⟩
abbrev cX12_heightOf : ByteArray := prog_14_method_15_code
def yX12_heightOf : MethodName := ⟨RX12, "heightOf", "(I)I"⟩
abbrev cX12_mayNot : ByteArray := prog_14_method_16_code
def yX12_mayNot : MethodName := ⟨RX12, "mayNot", "()Z"⟩
abbrev cX12_ahead : ByteArray := prog_14_method_17_code
def yX12_ahead : MethodName := ⟨RX12, "ahead", "()I"⟩
abbrev cX12_deedOf : ByteArray := prog_14_method_18_code
def yX12_deedOf : MethodName := ⟨RX12, "deedOf", "(I)I"⟩
abbrev cX12_behind : ByteArray := prog_14_method_19_code
def yX12_behind : MethodName := ⟨RX12, "behind", "()I"⟩
abbrev cX12_readsRow : ByteArray := prog_14_method_20_code
def yX12_readsRow : MethodName := ⟨RX12, "readsRow", "()Z"⟩
abbrev cX12_text : ByteArray := prog_14_method_21_code
def yX12_text : MethodName := ⟨RX12, "text", "()I"⟩
abbrev cX12_force : ByteArray := prog_14_method_22_code
def yX12_force : MethodName := ⟨RX12, "force", "(I)I"⟩
abbrev cX12_named : ByteArray := prog_14_method_23_code
def yX12_named : MethodName := ⟨RX12, "named", "(III)I"⟩
abbrev cX12_done : ByteArray := prog_14_method_24_code
def yX12_done : MethodName := ⟨RX12, "done", "(III)I"⟩
abbrev cX12_says : ByteArray := prog_14_method_25_code
def yX12_says : MethodName := ⟨RX12, "says", "(III)I"⟩
abbrev cX12_bounded : ByteArray := prog_14_method_26_code
def yX12_bounded : MethodName := ⟨RX12, "bounded", "(III)I"⟩
abbrev cX12_byOf : ByteArray := prog_14_method_27_code
def yX12_byOf : MethodName := ⟨RX12, "byOf", "(I)I"⟩
abbrev cX12_thickOf : ByteArray := prog_14_method_28_code
def yX12_thickOf : MethodName := ⟨RX12, "thickOf", "(I)I"⟩
abbrev cX12_takesOf : ByteArray := prog_14_method_29_code
def yX12_takesOf : MethodName := ⟨RX12, "takesOf", "(I)I"⟩
abbrev cX12_tipsOf : ByteArray := prog_14_method_30_code
def yX12_tipsOf : MethodName := ⟨RX12, "tipsOf", "(II)I"⟩
abbrev cX12_comes : ByteArray := prog_14_method_31_code
def yX12_comes : MethodName := ⟨RX12, "comes", "(III)I"⟩
abbrev cX12_house : ByteArray := prog_14_method_32_code
def yX12_house : MethodName := ⟨RX12, "house", "(III)I"⟩
abbrev cX12_set : ByteArray := prog_14_method_33_code
def yX12_set : MethodName := ⟨RX12, "set", "(III)I"⟩
abbrev cX12_bag : ByteArray := prog_14_method_34_code
def yX12_bag : MethodName := ⟨RX12, "bag", "(II)I"⟩
abbrev cX12_placeInList : ByteArray := prog_14_method_35_code
def yX12_placeInList : MethodName := ⟨RX12, "placeInList", "(I)I"⟩
abbrev cX12_told : ByteArray := prog_14_method_36_code
def yX12_told : MethodName := ⟨RX12, "told", "(II)I"⟩
abbrev cX12_swap : ByteArray := prog_14_method_37_code
def yX12_swap : MethodName := ⟨RX12, "swap", "(II)I"⟩
abbrev cX12_isUnder : ByteArray := prog_14_method_38_code
def yX12_isUnder : MethodName := ⟨RX12, "isUnder", "(II)Z"⟩
abbrev cX12_taken : ByteArray := prog_14_method_39_code
def yX12_taken : MethodName := ⟨RX12, "taken", "(II)I"⟩
abbrev cX12_takesList : ByteArray := prog_14_method_40_code
def yX12_takesList : MethodName := ⟨RX12, "takesList", "()V"⟩
abbrev cX12_far : ByteArray := prog_14_method_41_code
def yX12_far : MethodName := ⟨RX12, "far", "(II)I"⟩
abbrev cX12_takesPapers : ByteArray := prog_14_method_42_code
def yX12_takesPapers : MethodName := ⟨RX12, "takesPapers", "(I)I"⟩
abbrev cX12_walks : ByteArray := prog_14_method_43_code
def yX12_walks : MethodName := ⟨RX12, "walks", "()I"⟩
abbrev cX12_lateOf : ByteArray := prog_14_method_44_code
def yX12_lateOf : MethodName := ⟨RX12, "lateOf", "(I)I"⟩
abbrev cX12_at : ByteArray := prog_14_method_45_code
def yX12_at : MethodName := ⟨RX12, "at", "(II)I"⟩
abbrev cX12_ringing : ByteArray := prog_14_method_46_code
def yX12_ringing : MethodName := ⟨RX12, "ringing", "(I)I"⟩
abbrev cX12_purse : ByteArray := prog_14_method_47_code
def yX12_purse : MethodName := ⟨RX12, "purse", "(I)I"⟩
abbrev cX12_lateMany : ByteArray := prog_14_method_48_code
def yX12_lateMany : MethodName := ⟨RX12, "lateMany", "()I"⟩
abbrev cX12_round : ByteArray := prog_14_method_49_code
def yX12_round : MethodName := ⟨RX12, "round", "(I)I"⟩
abbrev cX12_wrongBy : ByteArray := prog_14_method_50_code
def yX12_wrongBy : MethodName := ⟨RX12, "wrongBy", "(I)I"⟩
abbrev cX12_shifted : ByteArray := prog_14_method_51_code
def yX12_shifted : MethodName := ⟨RX12, "shifted", "(II)I"⟩
abbrev cX12_isRinging : ByteArray := prog_14_method_52_code
def yX12_isRinging : MethodName := ⟨RX12, "isRinging", "(II)Z"⟩
abbrev cX12_where : ByteArray := prog_14_method_53_code
def yX12_where : MethodName := ⟨RX12, "where", "(II)I"⟩
abbrev cX12_changes : ByteArray := prog_14_method_54_code
def yX12_changes : MethodName := ⟨RX12, "changes", "(II)V"⟩
abbrev cX12_nextOrder : ByteArray := prog_14_method_55_code
def yX12_nextOrder : MethodName := ⟨RX12, "nextOrder", "()Z"⟩
abbrev cX12_findBest : ByteArray := prog_14_method_56_code
def yX12_findBest : MethodName := ⟨RX12, "findBest", "(I)I"⟩
abbrev cX12_best : ByteArray := prog_14_method_57_code
def yX12_best : MethodName := ⟨RX12, "best", "(II)I"⟩
abbrev cX12_arrange : ByteArray := prog_14_method_58_code
def yX12_arrange : MethodName := ⟨RX12, "arrange", "(I)I"⟩
abbrev cX12_isAhead : ByteArray := prog_14_method_59_code
def yX12_isAhead : MethodName := ⟨RX12, "isAhead", "(IIZ)Z"⟩
abbrev cX12_ways : ByteArray := prog_14_method_60_code
def yX12_ways : MethodName := ⟨RX12, "ways", "(I)I"⟩
abbrev cX12_begin : ByteArray := prog_14_method_61_code
def yX12_begin : MethodName := ⟨RX12, "begin", "()I"⟩
abbrev cX12_heap : ByteArray := prog_14_method_62_code
def yX12_heap : MethodName := ⟨RX12, "heap", "(I)I"⟩
abbrev cX12_endsPart : ByteArray := prog_14_method_63_code
def yX12_endsPart : MethodName := ⟨RX12, "endsPart", "(II)I"⟩
abbrev cX12_split : ByteArray := prog_14_method_64_code
def yX12_split : MethodName := ⟨RX12, "split", "(I)I"⟩
abbrev cX12_endsWithout : ByteArray := prog_14_method_65_code
def yX12_endsWithout : MethodName := ⟨RX12, "endsWithout", "(I)I"⟩
abbrev cX12_drop : ByteArray := prog_14_method_66_code
def yX12_drop : MethodName := ⟨RX12, "drop", "(I)I"⟩
abbrev cX12_away : ByteArray := prog_14_method_67_code
def yX12_away : MethodName := ⟨RX12, "away", "(II)I"⟩
abbrev cX12_judge : ByteArray := prog_14_method_68_code
def yX12_judge : MethodName := ⟨RX12, "judge", "(I)I"⟩
abbrev cX12_rightBy : ByteArray := prog_14_method_69_code
def yX12_rightBy : MethodName := ⟨RX12, "rightBy", "(II)I"⟩
abbrev cX12_thrownBy : ByteArray := prog_14_method_70_code
def yX12_thrownBy : MethodName := ⟨RX12, "thrownBy", "(II)I"⟩
abbrev cX12_divisor : ByteArray := prog_14_method_71_code
def yX12_divisor : MethodName := ⟨RX12, "divisor", "(II)I"⟩
abbrev cX12_chance : ByteArray := prog_14_method_72_code
def yX12_chance : MethodName := ⟨RX12, "chance", "(IIII)J"⟩
abbrev cX12_passes : ByteArray := prog_14_method_73_code
def yX12_passes : MethodName := ⟨RX12, "passes", "([I)V"⟩
abbrev cX12_passOne : ByteArray := prog_14_method_74_code
def yX12_passOne : MethodName := ⟨RX12, "passOne", "(I)I"⟩
abbrev cX12_passesAll : ByteArray := prog_14_method_75_code
def yX12_passesAll : MethodName := ⟨RX12, "passesAll", "(Z)V"⟩
abbrev cX12_image : ByteArray := prog_14_method_76_code
def yX12_image : MethodName := ⟨RX12, "image", "()I"⟩
abbrev cX12_back : ByteArray := prog_14_method_77_code
def yX12_back : MethodName := ⟨RX12, "back", "()I"⟩
abbrev cX12_count : ByteArray := prog_14_method_78_code
def yX12_count : MethodName := ⟨RX12, "count", "(I)I"⟩
abbrev cX12_isSheet : ByteArray := prog_14_method_79_code
def yX12_isSheet : MethodName := ⟨RX12, "isSheet", "(I)Z"⟩
abbrev cX12_sheet : ByteArray := prog_14_method_80_code
def yX12_sheet : MethodName := ⟨RX12, "sheet", "(III)I"⟩
abbrev cX12_cell : ByteArray := prog_14_method_81_code
def yX12_cell : MethodName := ⟨RX12, "cell", "(III)I"⟩
abbrev cX12_hasCells : ByteArray := prog_14_method_82_code
def yX12_hasCells : MethodName := ⟨RX12, "hasCells", "(III)Z"⟩
abbrev cX12_copy : ByteArray := prog_14_method_83_code
def yX12_copy : MethodName := ⟨RX12, "copy", "(IIIII)I"⟩
abbrev cX12_houses : ByteArray := prog_14_method_84_code
def yX12_houses : MethodName := ⟨RX12, "houses", "(IIII)I"⟩
def RJx145de : String := "java/io/Serializable"
def TJx145de : u_T := fun k => match k with
  | _ => ("", "", "", false)
def tyJx145de : Nat → FieldType := fun k => match k with
  | _ => .int
theorem nmJx145de : ∀ a, a < 0 → ∀ b, b < 0 → a ≠ b → (TJx145de a).2.1 ≠ (TJx145de b).2.1 := by decide +kernel
theorem tyJx145de_ok : ∀ k, k < 0 → parseFieldDescriptor (TJx145de k).2.2.1 = some (tyJx145de k) := by decide +kernel
def RJx9f9b0 : String := "java/lang/CharSequence"
def TJx9f9b0 : u_T := fun k => match k with
  | _ => ("", "", "", false)
def tyJx9f9b0 : Nat → FieldType := fun k => match k with
  | _ => .int
theorem nmJx9f9b0 : ∀ a, a < 0 → ∀ b, b < 0 → a ≠ b → (TJx9f9b0 a).2.1 ≠ (TJx9f9b0 b).2.1 := by decide +kernel
theorem tyJx9f9b0_ok : ∀ k, k < 0 → parseFieldDescriptor (TJx9f9b0 k).2.2.1 = some (tyJx9f9b0 k) := by decide +kernel
def RJx8e188 : String := "java/lang/Cloneable"
def TJx8e188 : u_T := fun k => match k with
  | _ => ("", "", "", false)
def tyJx8e188 : Nat → FieldType := fun k => match k with
  | _ => .int
theorem nmJx8e188 : ∀ a, a < 0 → ∀ b, b < 0 → a ≠ b → (TJx8e188 a).2.1 ≠ (TJx8e188 b).2.1 := by decide +kernel
theorem tyJx8e188_ok : ∀ k, k < 0 → parseFieldDescriptor (TJx8e188 k).2.2.1 = some (tyJx8e188 k) := by decide +kernel
def RJxb160c : String := "java/lang/Comparable"
def TJxb160c : u_T := fun k => match k with
  | _ => ("", "", "", false)
def tyJxb160c : Nat → FieldType := fun k => match k with
  | _ => .int
theorem nmJxb160c : ∀ a, a < 0 → ∀ b, b < 0 → a ≠ b → (TJxb160c a).2.1 ≠ (TJxb160c b).2.1 := by decide +kernel
theorem tyJxb160c_ok : ∀ k, k < 0 → parseFieldDescriptor (TJxb160c k).2.2.1 = some (tyJxb160c k) := by decide +kernel
def RJ9 : String := "java/lang/Math"
def TJ9 : u_T := fun k => match k with
  | _ => ("", "", "", false)
def tyJ9 : Nat → FieldType := fun k => match k with
  | _ => .int
abbrev wsJ90 : List Cond := u_ws RJ9 TJ9 0
theorem nmJ9 : ∀ a, a < 0 → ∀ b, b < 0 → a ≠ b → (TJ9 a).2.1 ≠ (TJ9 b).2.1 := by decide +kernel
theorem tyJ9_ok : ∀ k, k < 0 → parseFieldDescriptor (TJ9 k).2.2.1 = some (tyJ9 k) := by decide +kernel
abbrev cJ9_abs_0f7a4 : ByteArray := prog_16_method_59_code
def yJ9_abs_0f7a4 : MethodName := ⟨RJ9, "abs", "(I)I"⟩
abbrev cJ9_max_7cf53 : ByteArray := prog_16_method_65_code
def yJ9_max_7cf53 : MethodName := ⟨RJ9, "max", "(II)I"⟩
abbrev cJ9_min_7cf53 : ByteArray := prog_16_method_69_code
def yJ9_min_7cf53 : MethodName := ⟨RJ9, "min", "(II)I"⟩
def RJ0 : String := "java/lang/String"
def TJ0 : u_T := fun k => match k with
  | _ => ("", "", "", false)
def tyJ0 : Nat → FieldType := fun k => match k with
  | _ => .int
abbrev wsJ00 : List Cond := u_ws RJ0 TJ0 0
theorem nmJ0 : ∀ a, a < 0 → ∀ b, b < 0 → a ≠ b → (TJ0 a).2.1 ≠ (TJ0 b).2.1 := by decide +kernel
theorem tyJ0_ok : ∀ k, k < 0 → parseFieldDescriptor (TJ0 k).2.2.1 = some (tyJ0 k) := by decide +kernel
abbrev cJ0_length_8abf5 : ByteArray := prog_17_method_54_code
def yJ0_length_8abf5 : MethodName := ⟨RJ0, "length", "()I"⟩
abbrev cJ0_charAt_5068e : ByteArray := prog_17_method_56_code
def yJ0_charAt_5068e : MethodName := ⟨RJ0, "charAt", "(I)C"⟩
abbrev cJ0_coder_7d493 : ByteArray := prog_17_method_152_code
def yJ0_coder_7d493 : MethodName := ⟨RJ0, "coder", "()B"⟩
abbrev cJ0_isLatin1_aae02 : ByteArray := prog_17_method_154_code
def yJ0_isLatin1_aae02 : MethodName := ⟨RJ0, "isLatin1", "()Z"⟩
abbrev cJ0_checkIndex_df160 : ByteArray := prog_17_method_155_code
def yJ0_checkIndex_df160 : MethodName := ⟨RJ0, "checkIndex", "(II)V"⟩
def RJ1 : String := "java/lang/StringLatin1"
def TJ1 : u_T := fun k => match k with
  | _ => ("", "", "", false)
def tyJ1 : Nat → FieldType := fun k => match k with
  | _ => .int
abbrev wsJ10 : List Cond := u_ws RJ1 TJ1 0
theorem nmJ1 : ∀ a, a < 0 → ∀ b, b < 0 → a ≠ b → (TJ1 a).2.1 ≠ (TJ1 b).2.1 := by decide +kernel
theorem tyJ1_ok : ∀ k, k < 0 → parseFieldDescriptor (TJ1 k).2.2.1 = some (tyJ1 k) := by decide +kernel
abbrev cJ1_charAt_3b067 : ByteArray := prog_18_method_2_code
def yJ1_charAt_3b067 : MethodName := ⟨RJ1, "charAt", "([BI)C"⟩
def RJ2 : String := "java/lang/StringUTF16"
def TJ2 : u_T := fun k => match k with
  | _ => ("", "", "", false)
def tyJ2 : Nat → FieldType := fun k => match k with
  | _ => .int
abbrev wsJ20 : List Cond := u_ws RJ2 TJ2 0
theorem nmJ2 : ∀ a, a < 0 → ∀ b, b < 0 → a ≠ b → (TJ2 a).2.1 ≠ (TJ2 b).2.1 := by decide +kernel
theorem tyJ2_ok : ∀ k, k < 0 → parseFieldDescriptor (TJ2 k).2.2.1 = some (tyJ2 k) := by decide +kernel
abbrev cJ2_getChar_3b067 : ByteArray := prog_19_method_5_code
def yJ2_getChar_3b067 : MethodName := ⟨RJ2, "getChar", "([BI)C"⟩
abbrev cJ2_length_9d52b : ByteArray := prog_19_method_6_code
def yJ2_length_9d52b : MethodName := ⟨RJ2, "length", "([B)I"⟩
abbrev cJ2_charAt_3b067 : ByteArray := prog_19_method_83_code
def yJ2_charAt_3b067 : MethodName := ⟨RJ2, "charAt", "([BI)C"⟩
abbrev cJ2_checkIndex_2214a : ByteArray := prog_19_method_91_code
def yJ2_checkIndex_2214a : MethodName := ⟨RJ2, "checkIndex", "(I[B)V"⟩
def RJ10 : String := "java/lang/System"
def TJ10 : u_T := fun k => match k with
  | _ => ("", "", "", false)
def tyJ10 : Nat → FieldType := fun k => match k with
  | _ => .int
abbrev wsJ100 : List Cond := u_ws RJ10 TJ10 0
theorem nmJ10 : ∀ a, a < 0 → ∀ b, b < 0 → a ≠ b → (TJ10 a).2.1 ≠ (TJ10 b).2.1 := by decide +kernel
theorem tyJ10_ok : ∀ k, k < 0 → parseFieldDescriptor (TJ10 k).2.2.1 = some (tyJ10 k) := by decide +kernel
def RJxfd54e : String := "java/lang/constant/Constable"
def TJxfd54e : u_T := fun k => match k with
  | _ => ("", "", "", false)
def tyJxfd54e : Nat → FieldType := fun k => match k with
  | _ => .int
theorem nmJxfd54e : ∀ a, a < 0 → ∀ b, b < 0 → a ≠ b → (TJxfd54e a).2.1 ≠ (TJxfd54e b).2.1 := by decide +kernel
theorem tyJxfd54e_ok : ∀ k, k < 0 → parseFieldDescriptor (TJxfd54e k).2.2.1 = some (tyJxfd54e k) := by decide +kernel
def RJx3cf43 : String := "java/lang/constant/ConstantDesc"
def TJx3cf43 : u_T := fun k => match k with
  | _ => ("", "", "", false)
def tyJx3cf43 : Nat → FieldType := fun k => match k with
  | _ => .int
theorem nmJx3cf43 : ∀ a, a < 0 → ∀ b, b < 0 → a ≠ b → (TJx3cf43 a).2.1 ≠ (TJx3cf43 b).2.1 := by decide +kernel
theorem tyJx3cf43_ok : ∀ k, k < 0 → parseFieldDescriptor (TJx3cf43 k).2.2.1 = some (tyJx3cf43 k) := by decide +kernel
def RJ7 : String := "java/util/Arrays"
def TJ7 : u_T := fun k => match k with
  | _ => ("", "", "", false)
def tyJ7 : Nat → FieldType := fun k => match k with
  | _ => .int
abbrev wsJ70 : List Cond := u_ws RJ7 TJ7 0
theorem nmJ7 : ∀ a, a < 0 → ∀ b, b < 0 → a ≠ b → (TJ7 a).2.1 ≠ (TJ7 b).2.1 := by decide +kernel
theorem tyJ7_ok : ∀ k, k < 0 → parseFieldDescriptor (TJ7 k).2.2.1 = some (tyJ7 k) := by decide +kernel
abbrev cJ7_fill_53178 : ByteArray := prog_21_method_103_code
def yJ7_fill_53178 : MethodName := ⟨RJ7, "fill", "([II)V"⟩
abbrev cJ7_copyOf_59c91 : ByteArray := prog_21_method_123_code
def yJ7_copyOf_59c91 : MethodName := ⟨RJ7, "copyOf", "([II)[I"⟩
def RJ3 : String := "jdk/internal/util/Preconditions"
def TJ3 : u_T := fun k => match k with
  | _ => ("", "", "", false)
def tyJ3 : Nat → FieldType := fun k => match k with
  | _ => .int
abbrev wsJ30 : List Cond := u_ws RJ3 TJ3 0
theorem nmJ3 : ∀ a, a < 0 → ∀ b, b < 0 → a ≠ b → (TJ3 a).2.1 ≠ (TJ3 b).2.1 := by decide +kernel
theorem tyJ3_ok : ∀ k, k < 0 → parseFieldDescriptor (TJ3 k).2.2.1 = some (tyJ3 k) := by decide +kernel
abbrev cJ3_checkIndex_8e157 : ByteArray := prog_22_method_11_code
def yJ3_checkIndex_8e157 : MethodName := ⟨RJ3, "checkIndex", "(IILjava/util/function/BiFunction;)I"⟩
def RL : String := "PapersEarlyLaw"
abbrev cL_law : ByteArray := code
def yL_law : MethodName := ⟨RL, "law", "([I)Z"⟩
abbrev vwCl : List vw_C := [(RX0, TX0, 5), (RX1, TX1, 5), (RX2, TX2, 5), (RX3, TX3, 5), (RX4, TX4, 8), (RX5, TX5, 4), (RX6, TX6, 12), (RX7, TX7, 3), (RX8, TX8, 5), (RX9, TX9, 5), (RX10, TX10, 6), (RX11, TX11, 19), (RX12, TX12, 37)]
end
section
theorem dX12_init_0 : decode cX12_init 0 = .ok (.aload_n 0, 1) := by decide +kernel
theorem dX12_init_1 : decode cX12_init 1 = .ok (.invokespecial 1, 3) := by decide +kernel
theorem dX12_init_4 : decode cX12_init 4 = .ok (.aload_n 0, 1) := by decide +kernel
theorem dX12_init_5 : decode cX12_init 5 = .ok (.bipush 7, 2) := by decide +kernel
theorem dX12_init_7 : decode cX12_init 7 = .ok (.newarray .int, 2) := by decide +kernel
theorem dX12_init_9 : decode cX12_init 9 = .ok (.putfield 7, 3) := by decide +kernel
theorem dX12_init_12 : decode cX12_init 12 = .ok (.aload_n 0, 1) := by decide +kernel
theorem dX12_init_13 : decode cX12_init 13 = .ok (.bipush 7, 2) := by decide +kernel
theorem dX12_init_15 : decode cX12_init 15 = .ok (.newarray .int, 2) := by decide +kernel
theorem dX12_init_17 : decode cX12_init 17 = .ok (.putfield 13, 3) := by decide +kernel
theorem dX12_init_20 : decode cX12_init 20 = .ok (.aload_n 0, 1) := by decide +kernel
theorem dX12_init_21 : decode cX12_init 21 = .ok (.bipush 7, 2) := by decide +kernel
theorem dX12_init_23 : decode cX12_init 23 = .ok (.newarray .int, 2) := by decide +kernel
theorem dX12_init_25 : decode cX12_init 25 = .ok (.putfield 16, 3) := by decide +kernel
theorem dX12_init_28 : decode cX12_init 28 = .ok (.aload_n 0, 1) := by decide +kernel
theorem dX12_init_29 : decode cX12_init 29 = .ok (.bipush 7, 2) := by decide +kernel
theorem dX12_init_31 : decode cX12_init 31 = .ok (.newarray .int, 2) := by decide +kernel
theorem dX12_init_33 : decode cX12_init 33 = .ok (.putfield 19, 3) := by decide +kernel
theorem dX12_init_36 : decode cX12_init 36 = .ok (.aload_n 0, 1) := by decide +kernel
theorem dX12_init_37 : decode cX12_init 37 = .ok (.bipush 7, 2) := by decide +kernel
theorem dX12_init_39 : decode cX12_init 39 = .ok (.newarray .int, 2) := by decide +kernel
theorem dX12_init_41 : decode cX12_init 41 = .ok (.putfield 22, 3) := by decide +kernel
theorem dX12_init_44 : decode cX12_init 44 = .ok (.aload_n 0, 1) := by decide +kernel
theorem dX12_init_45 : decode cX12_init 45 = .ok (.bipush 7, 2) := by decide +kernel
theorem dX12_init_47 : decode cX12_init 47 = .ok (.newarray .int, 2) := by decide +kernel
theorem dX12_init_49 : decode cX12_init 49 = .ok (.putfield 25, 3) := by decide +kernel
theorem dX12_init_52 : decode cX12_init 52 = .ok (.aload_n 0, 1) := by decide +kernel
theorem dX12_init_53 : decode cX12_init 53 = .ok (.bipush 10, 2) := by decide +kernel
theorem dX12_init_55 : decode cX12_init 55 = .ok (.newarray .int, 2) := by decide +kernel
theorem dX12_init_57 : decode cX12_init 57 = .ok (.dup, 1) := by decide +kernel
theorem dX12_init_58 : decode cX12_init 58 = .ok (.iconst 0, 1) := by decide +kernel
theorem dX12_init_59 : decode cX12_init 59 = .ok (.bipush 12, 2) := by decide +kernel
theorem dX12_init_61 : decode cX12_init 61 = .ok (.iastore, 1) := by decide +kernel
theorem dX12_init_62 : decode cX12_init 62 = .ok (.dup, 1) := by decide +kernel
theorem dX12_init_63 : decode cX12_init 63 = .ok (.iconst 1, 1) := by decide +kernel
theorem dX12_init_64 : decode cX12_init 64 = .ok (.iconst 0, 1) := by decide +kernel
theorem dX12_init_65 : decode cX12_init 65 = .ok (.iastore, 1) := by decide +kernel
theorem dX12_init_66 : decode cX12_init 66 = .ok (.dup, 1) := by decide +kernel
theorem dX12_init_67 : decode cX12_init 67 = .ok (.iconst 2, 1) := by decide +kernel
theorem dX12_init_68 : decode cX12_init 68 = .ok (.iconst 0, 1) := by decide +kernel
theorem dX12_init_69 : decode cX12_init 69 = .ok (.iastore, 1) := by decide +kernel
theorem dX12_init_70 : decode cX12_init 70 = .ok (.dup, 1) := by decide +kernel
theorem dX12_init_71 : decode cX12_init 71 = .ok (.iconst 3, 1) := by decide +kernel
theorem dX12_init_72 : decode cX12_init 72 = .ok (.iconst 4, 1) := by decide +kernel
theorem dX12_init_73 : decode cX12_init 73 = .ok (.iastore, 1) := by decide +kernel
theorem dX12_init_74 : decode cX12_init 74 = .ok (.dup, 1) := by decide +kernel
theorem dX12_init_75 : decode cX12_init 75 = .ok (.iconst 4, 1) := by decide +kernel
theorem dX12_init_76 : decode cX12_init 76 = .ok (.iconst 1, 1) := by decide +kernel
theorem dX12_init_77 : decode cX12_init 77 = .ok (.iastore, 1) := by decide +kernel
theorem dX12_init_78 : decode cX12_init 78 = .ok (.dup, 1) := by decide +kernel
theorem dX12_init_79 : decode cX12_init 79 = .ok (.iconst 5, 1) := by decide +kernel
theorem dX12_init_80 : decode cX12_init 80 = .ok (.iconst 0, 1) := by decide +kernel
theorem dX12_init_81 : decode cX12_init 81 = .ok (.iastore, 1) := by decide +kernel
theorem dX12_init_82 : decode cX12_init 82 = .ok (.dup, 1) := by decide +kernel
theorem dX12_init_83 : decode cX12_init 83 = .ok (.bipush 6, 2) := by decide +kernel
theorem dX12_init_85 : decode cX12_init 85 = .ok (.iconst 1, 1) := by decide +kernel
theorem dX12_init_86 : decode cX12_init 86 = .ok (.iastore, 1) := by decide +kernel
theorem dX12_init_87 : decode cX12_init 87 = .ok (.dup, 1) := by decide +kernel
theorem dX12_init_88 : decode cX12_init 88 = .ok (.bipush 7, 2) := by decide +kernel
theorem dX12_init_90 : decode cX12_init 90 = .ok (.iconst 2, 1) := by decide +kernel
theorem dX12_init_91 : decode cX12_init 91 = .ok (.iastore, 1) := by decide +kernel
theorem dX12_init_92 : decode cX12_init 92 = .ok (.dup, 1) := by decide +kernel
theorem dX12_init_93 : decode cX12_init 93 = .ok (.bipush 8, 2) := by decide +kernel
theorem dX12_init_95 : decode cX12_init 95 = .ok (.iconst 3, 1) := by decide +kernel
theorem dX12_init_96 : decode cX12_init 96 = .ok (.iastore, 1) := by decide +kernel
theorem dX12_init_97 : decode cX12_init 97 = .ok (.dup, 1) := by decide +kernel
theorem dX12_init_98 : decode cX12_init 98 = .ok (.bipush 9, 2) := by decide +kernel
theorem dX12_init_100 : decode cX12_init 100 = .ok (.iconst 4, 1) := by decide +kernel
theorem dX12_init_101 : decode cX12_init 101 = .ok (.iastore, 1) := by decide +kernel
theorem dX12_init_102 : decode cX12_init 102 = .ok (.putfield 28, 3) := by decide +kernel
theorem dX12_init_105 : decode cX12_init 105 = .ok (.aload_n 0, 1) := by decide +kernel
theorem dX12_init_106 : decode cX12_init 106 = .ok (.bipush 12, 2) := by decide +kernel
theorem dX12_init_108 : decode cX12_init 108 = .ok (.anewarray 31, 3) := by decide +kernel
theorem dX12_init_111 : decode cX12_init 111 = .ok (.dup, 1) := by decide +kernel
theorem dX12_init_112 : decode cX12_init 112 = .ok (.iconst 0, 1) := by decide +kernel
theorem dX12_init_113 : decode cX12_init 113 = .ok (.iconst 5, 1) := by decide +kernel
theorem dX12_init_114 : decode cX12_init 114 = .ok (.newarray .int, 2) := by decide +kernel
theorem dX12_init_116 : decode cX12_init 116 = .ok (.dup, 1) := by decide +kernel
theorem dX12_init_117 : decode cX12_init 117 = .ok (.iconst 0, 1) := by decide +kernel
theorem dX12_init_118 : decode cX12_init 118 = .ok (.bipush 112, 2) := by decide +kernel
theorem dX12_init_120 : decode cX12_init 120 = .ok (.iastore, 1) := by decide +kernel
theorem dX12_init_121 : decode cX12_init 121 = .ok (.dup, 1) := by decide +kernel
theorem dX12_init_122 : decode cX12_init 122 = .ok (.iconst 1, 1) := by decide +kernel
theorem dX12_init_123 : decode cX12_init 123 = .ok (.bipush 108, 2) := by decide +kernel
theorem dX12_init_125 : decode cX12_init 125 = .ok (.iastore, 1) := by decide +kernel
theorem dX12_init_126 : decode cX12_init 126 = .ok (.dup, 1) := by decide +kernel
theorem dX12_init_127 : decode cX12_init 127 = .ok (.iconst 2, 1) := by decide +kernel
theorem dX12_init_128 : decode cX12_init 128 = .ok (.bipush 97, 2) := by decide +kernel
theorem dX12_init_130 : decode cX12_init 130 = .ok (.iastore, 1) := by decide +kernel
theorem dX12_init_131 : decode cX12_init 131 = .ok (.dup, 1) := by decide +kernel
theorem dX12_init_132 : decode cX12_init 132 = .ok (.iconst 3, 1) := by decide +kernel
theorem dX12_init_133 : decode cX12_init 133 = .ok (.bipush 99, 2) := by decide +kernel
theorem dX12_init_135 : decode cX12_init 135 = .ok (.iastore, 1) := by decide +kernel
theorem dX12_init_136 : decode cX12_init 136 = .ok (.dup, 1) := by decide +kernel
theorem dX12_init_137 : decode cX12_init 137 = .ok (.iconst 4, 1) := by decide +kernel
theorem dX12_init_138 : decode cX12_init 138 = .ok (.bipush 101, 2) := by decide +kernel
theorem dX12_init_140 : decode cX12_init 140 = .ok (.iastore, 1) := by decide +kernel
theorem dX12_init_141 : decode cX12_init 141 = .ok (.aastore, 1) := by decide +kernel
theorem dX12_init_142 : decode cX12_init 142 = .ok (.dup, 1) := by decide +kernel
theorem dX12_init_143 : decode cX12_init 143 = .ok (.iconst 1, 1) := by decide +kernel
theorem dX12_init_144 : decode cX12_init 144 = .ok (.iconst 4, 1) := by decide +kernel
theorem dX12_init_145 : decode cX12_init 145 = .ok (.newarray .int, 2) := by decide +kernel
theorem dX12_init_147 : decode cX12_init 147 = .ok (.dup, 1) := by decide +kernel
theorem dX12_init_148 : decode cX12_init 148 = .ok (.iconst 0, 1) := by decide +kernel
theorem dX12_init_149 : decode cX12_init 149 = .ok (.bipush 115, 2) := by decide +kernel
theorem dX12_init_151 : decode cX12_init 151 = .ok (.iastore, 1) := by decide +kernel
theorem dX12_init_152 : decode cX12_init 152 = .ok (.dup, 1) := by decide +kernel
theorem dX12_init_153 : decode cX12_init 153 = .ok (.iconst 1, 1) := by decide +kernel
theorem dX12_init_154 : decode cX12_init 154 = .ok (.bipush 105, 2) := by decide +kernel
theorem dX12_init_156 : decode cX12_init 156 = .ok (.iastore, 1) := by decide +kernel
theorem dX12_init_157 : decode cX12_init 157 = .ok (.dup, 1) := by decide +kernel
theorem dX12_init_158 : decode cX12_init 158 = .ok (.iconst 2, 1) := by decide +kernel
theorem dX12_init_159 : decode cX12_init 159 = .ok (.bipush 100, 2) := by decide +kernel
theorem dX12_init_161 : decode cX12_init 161 = .ok (.iastore, 1) := by decide +kernel
theorem dX12_init_162 : decode cX12_init 162 = .ok (.dup, 1) := by decide +kernel
theorem dX12_init_163 : decode cX12_init 163 = .ok (.iconst 3, 1) := by decide +kernel
theorem dX12_init_164 : decode cX12_init 164 = .ok (.bipush 101, 2) := by decide +kernel
theorem dX12_init_166 : decode cX12_init 166 = .ok (.iastore, 1) := by decide +kernel
theorem dX12_init_167 : decode cX12_init 167 = .ok (.aastore, 1) := by decide +kernel
theorem dX12_init_168 : decode cX12_init 168 = .ok (.dup, 1) := by decide +kernel
theorem dX12_init_169 : decode cX12_init 169 = .ok (.iconst 2, 1) := by decide +kernel
theorem dX12_init_170 : decode cX12_init 170 = .ok (.iconst 4, 1) := by decide +kernel
theorem dX12_init_171 : decode cX12_init 171 = .ok (.newarray .int, 2) := by decide +kernel
theorem dX12_init_173 : decode cX12_init 173 = .ok (.dup, 1) := by decide +kernel
theorem dX12_init_174 : decode cX12_init 174 = .ok (.iconst 0, 1) := by decide +kernel
theorem dX12_init_175 : decode cX12_init 175 = .ok (.bipush 115, 2) := by decide +kernel
theorem dX12_init_177 : decode cX12_init 177 = .ok (.iastore, 1) := by decide +kernel
theorem dX12_init_178 : decode cX12_init 178 = .ok (.dup, 1) := by decide +kernel
theorem dX12_init_179 : decode cX12_init 179 = .ok (.iconst 1, 1) := by decide +kernel
theorem dX12_init_180 : decode cX12_init 180 = .ok (.bipush 111, 2) := by decide +kernel
theorem dX12_init_182 : decode cX12_init 182 = .ok (.iastore, 1) := by decide +kernel
theorem dX12_init_183 : decode cX12_init 183 = .ok (.dup, 1) := by decide +kernel
theorem dX12_init_184 : decode cX12_init 184 = .ok (.iconst 2, 1) := by decide +kernel
theorem dX12_init_185 : decode cX12_init 185 = .ok (.bipush 114, 2) := by decide +kernel
theorem dX12_init_187 : decode cX12_init 187 = .ok (.iastore, 1) := by decide +kernel
theorem dX12_init_188 : decode cX12_init 188 = .ok (.dup, 1) := by decide +kernel
theorem dX12_init_189 : decode cX12_init 189 = .ok (.iconst 3, 1) := by decide +kernel
theorem dX12_init_190 : decode cX12_init 190 = .ok (.bipush 116, 2) := by decide +kernel
theorem dX12_init_192 : decode cX12_init 192 = .ok (.iastore, 1) := by decide +kernel
theorem dX12_init_193 : decode cX12_init 193 = .ok (.aastore, 1) := by decide +kernel
theorem dX12_init_194 : decode cX12_init 194 = .ok (.dup, 1) := by decide +kernel
theorem dX12_init_195 : decode cX12_init 195 = .ok (.iconst 3, 1) := by decide +kernel
theorem dX12_init_196 : decode cX12_init 196 = .ok (.iconst 4, 1) := by decide +kernel
theorem dX12_init_197 : decode cX12_init 197 = .ok (.newarray .int, 2) := by decide +kernel
theorem dX12_init_199 : decode cX12_init 199 = .ok (.dup, 1) := by decide +kernel
theorem dX12_init_200 : decode cX12_init 200 = .ok (.iconst 0, 1) := by decide +kernel
theorem dX12_init_201 : decode cX12_init 201 = .ok (.bipush 108, 2) := by decide +kernel
theorem dX12_init_203 : decode cX12_init 203 = .ok (.iastore, 1) := by decide +kernel
theorem dX12_init_204 : decode cX12_init 204 = .ok (.dup, 1) := by decide +kernel
theorem dX12_init_205 : decode cX12_init 205 = .ok (.iconst 1, 1) := by decide +kernel
theorem dX12_init_206 : decode cX12_init 206 = .ok (.bipush 97, 2) := by decide +kernel
theorem dX12_init_208 : decode cX12_init 208 = .ok (.iastore, 1) := by decide +kernel
theorem dX12_init_209 : decode cX12_init 209 = .ok (.dup, 1) := by decide +kernel
theorem dX12_init_210 : decode cX12_init 210 = .ok (.iconst 2, 1) := by decide +kernel
theorem dX12_init_211 : decode cX12_init 211 = .ok (.bipush 116, 2) := by decide +kernel
theorem dX12_init_213 : decode cX12_init 213 = .ok (.iastore, 1) := by decide +kernel
theorem dX12_init_214 : decode cX12_init 214 = .ok (.dup, 1) := by decide +kernel
theorem dX12_init_215 : decode cX12_init 215 = .ok (.iconst 3, 1) := by decide +kernel
theorem dX12_init_216 : decode cX12_init 216 = .ok (.bipush 101, 2) := by decide +kernel
theorem dX12_init_218 : decode cX12_init 218 = .ok (.iastore, 1) := by decide +kernel
theorem dX12_init_219 : decode cX12_init 219 = .ok (.aastore, 1) := by decide +kernel
theorem dX12_init_220 : decode cX12_init 220 = .ok (.dup, 1) := by decide +kernel
theorem dX12_init_221 : decode cX12_init 221 = .ok (.iconst 4, 1) := by decide +kernel
theorem dX12_init_222 : decode cX12_init 222 = .ok (.iconst 4, 1) := by decide +kernel
theorem dX12_init_223 : decode cX12_init 223 = .ok (.newarray .int, 2) := by decide +kernel
theorem dX12_init_225 : decode cX12_init 225 = .ok (.dup, 1) := by decide +kernel
theorem dX12_init_226 : decode cX12_init 226 = .ok (.iconst 0, 1) := by decide +kernel
theorem dX12_init_227 : decode cX12_init 227 = .ok (.bipush 114, 2) := by decide +kernel
theorem dX12_init_229 : decode cX12_init 229 = .ok (.iastore, 1) := by decide +kernel
theorem dX12_init_230 : decode cX12_init 230 = .ok (.dup, 1) := by decide +kernel
theorem dX12_init_231 : decode cX12_init 231 = .ok (.iconst 1, 1) := by decide +kernel
theorem dX12_init_232 : decode cX12_init 232 = .ok (.bipush 97, 2) := by decide +kernel
theorem dX12_init_234 : decode cX12_init 234 = .ok (.iastore, 1) := by decide +kernel
theorem dX12_init_235 : decode cX12_init 235 = .ok (.dup, 1) := by decide +kernel
theorem dX12_init_236 : decode cX12_init 236 = .ok (.iconst 2, 1) := by decide +kernel
theorem dX12_init_237 : decode cX12_init 237 = .ok (.bipush 105, 2) := by decide +kernel
theorem dX12_init_239 : decode cX12_init 239 = .ok (.iastore, 1) := by decide +kernel
theorem dX12_init_240 : decode cX12_init 240 = .ok (.dup, 1) := by decide +kernel
theorem dX12_init_241 : decode cX12_init 241 = .ok (.iconst 3, 1) := by decide +kernel
theorem dX12_init_242 : decode cX12_init 242 = .ok (.bipush 110, 2) := by decide +kernel
theorem dX12_init_244 : decode cX12_init 244 = .ok (.iastore, 1) := by decide +kernel
theorem dX12_init_245 : decode cX12_init 245 = .ok (.aastore, 1) := by decide +kernel
theorem dX12_init_246 : decode cX12_init 246 = .ok (.dup, 1) := by decide +kernel
theorem dX12_init_247 : decode cX12_init 247 = .ok (.iconst 5, 1) := by decide +kernel
theorem dX12_init_248 : decode cX12_init 248 = .ok (.iconst 5, 1) := by decide +kernel
theorem dX12_init_249 : decode cX12_init 249 = .ok (.newarray .int, 2) := by decide +kernel
theorem dX12_init_251 : decode cX12_init 251 = .ok (.dup, 1) := by decide +kernel
theorem dX12_init_252 : decode cX12_init 252 = .ok (.iconst 0, 1) := by decide +kernel
theorem dX12_init_253 : decode cX12_init 253 = .ok (.bipush 104, 2) := by decide +kernel
theorem dX12_init_255 : decode cX12_init 255 = .ok (.iastore, 1) := by decide +kernel
theorem dX12_init_256 : decode cX12_init 256 = .ok (.dup, 1) := by decide +kernel
theorem dX12_init_257 : decode cX12_init 257 = .ok (.iconst 1, 1) := by decide +kernel
theorem dX12_init_258 : decode cX12_init 258 = .ok (.bipush 111, 2) := by decide +kernel
theorem dX12_init_260 : decode cX12_init 260 = .ok (.iastore, 1) := by decide +kernel
theorem dX12_init_261 : decode cX12_init 261 = .ok (.dup, 1) := by decide +kernel
theorem dX12_init_262 : decode cX12_init 262 = .ok (.iconst 2, 1) := by decide +kernel
theorem dX12_init_263 : decode cX12_init 263 = .ok (.bipush 117, 2) := by decide +kernel
theorem dX12_init_265 : decode cX12_init 265 = .ok (.iastore, 1) := by decide +kernel
theorem dX12_init_266 : decode cX12_init 266 = .ok (.dup, 1) := by decide +kernel
theorem dX12_init_267 : decode cX12_init 267 = .ok (.iconst 3, 1) := by decide +kernel
theorem dX12_init_268 : decode cX12_init 268 = .ok (.bipush 115, 2) := by decide +kernel
theorem dX12_init_270 : decode cX12_init 270 = .ok (.iastore, 1) := by decide +kernel
theorem dX12_init_271 : decode cX12_init 271 = .ok (.dup, 1) := by decide +kernel
theorem dX12_init_272 : decode cX12_init 272 = .ok (.iconst 4, 1) := by decide +kernel
theorem dX12_init_273 : decode cX12_init 273 = .ok (.bipush 101, 2) := by decide +kernel
theorem dX12_init_275 : decode cX12_init 275 = .ok (.iastore, 1) := by decide +kernel
theorem dX12_init_276 : decode cX12_init 276 = .ok (.aastore, 1) := by decide +kernel
theorem dX12_init_277 : decode cX12_init 277 = .ok (.dup, 1) := by decide +kernel
theorem dX12_init_278 : decode cX12_init 278 = .ok (.bipush 6, 2) := by decide +kernel
theorem dX12_init_280 : decode cX12_init 280 = .ok (.iconst 2, 1) := by decide +kernel
theorem dX12_init_281 : decode cX12_init 281 = .ok (.newarray .int, 2) := by decide +kernel
theorem dX12_init_283 : decode cX12_init 283 = .ok (.dup, 1) := by decide +kernel
theorem dX12_init_284 : decode cX12_init 284 = .ok (.iconst 0, 1) := by decide +kernel
theorem dX12_init_285 : decode cX12_init 285 = .ok (.bipush 98, 2) := by decide +kernel
theorem dX12_init_287 : decode cX12_init 287 = .ok (.iastore, 1) := by decide +kernel
theorem dX12_init_288 : decode cX12_init 288 = .ok (.dup, 1) := by decide +kernel
theorem dX12_init_289 : decode cX12_init 289 = .ok (.iconst 1, 1) := by decide +kernel
theorem dX12_init_290 : decode cX12_init 290 = .ok (.bipush 121, 2) := by decide +kernel
theorem dX12_init_292 : decode cX12_init 292 = .ok (.iastore, 1) := by decide +kernel
theorem dX12_init_293 : decode cX12_init 293 = .ok (.aastore, 1) := by decide +kernel
theorem dX12_init_294 : decode cX12_init 294 = .ok (.dup, 1) := by decide +kernel
theorem dX12_init_295 : decode cX12_init 295 = .ok (.bipush 7, 2) := by decide +kernel
theorem dX12_init_297 : decode cX12_init 297 = .ok (.iconst 5, 1) := by decide +kernel
theorem dX12_init_298 : decode cX12_init 298 = .ok (.newarray .int, 2) := by decide +kernel
theorem dX12_init_300 : decode cX12_init 300 = .ok (.dup, 1) := by decide +kernel
theorem dX12_init_301 : decode cX12_init 301 = .ok (.iconst 0, 1) := by decide +kernel
theorem dX12_init_302 : decode cX12_init 302 = .ok (.bipush 114, 2) := by decide +kernel
theorem dX12_init_304 : decode cX12_init 304 = .ok (.iastore, 1) := by decide +kernel
theorem dX12_init_305 : decode cX12_init 305 = .ok (.dup, 1) := by decide +kernel
theorem dX12_init_306 : decode cX12_init 306 = .ok (.iconst 1, 1) := by decide +kernel
theorem dX12_init_307 : decode cX12_init 307 = .ok (.bipush 105, 2) := by decide +kernel
theorem dX12_init_309 : decode cX12_init 309 = .ok (.iastore, 1) := by decide +kernel
theorem dX12_init_310 : decode cX12_init 310 = .ok (.dup, 1) := by decide +kernel
theorem dX12_init_311 : decode cX12_init 311 = .ok (.iconst 2, 1) := by decide +kernel
theorem dX12_init_312 : decode cX12_init 312 = .ok (.bipush 110, 2) := by decide +kernel
theorem dX12_init_314 : decode cX12_init 314 = .ok (.iastore, 1) := by decide +kernel
theorem dX12_init_315 : decode cX12_init 315 = .ok (.dup, 1) := by decide +kernel
theorem dX12_init_316 : decode cX12_init 316 = .ok (.iconst 3, 1) := by decide +kernel
theorem dX12_init_317 : decode cX12_init 317 = .ok (.bipush 103, 2) := by decide +kernel
theorem dX12_init_319 : decode cX12_init 319 = .ok (.iastore, 1) := by decide +kernel
theorem dX12_init_320 : decode cX12_init 320 = .ok (.dup, 1) := by decide +kernel
theorem dX12_init_321 : decode cX12_init 321 = .ok (.iconst 4, 1) := by decide +kernel
theorem dX12_init_322 : decode cX12_init 322 = .ok (.bipush 115, 2) := by decide +kernel
theorem dX12_init_324 : decode cX12_init 324 = .ok (.iastore, 1) := by decide +kernel
theorem dX12_init_325 : decode cX12_init 325 = .ok (.aastore, 1) := by decide +kernel
theorem dX12_init_326 : decode cX12_init 326 = .ok (.dup, 1) := by decide +kernel
theorem dX12_init_327 : decode cX12_init 327 = .ok (.bipush 8, 2) := by decide +kernel
theorem dX12_init_329 : decode cX12_init 329 = .ok (.iconst 4, 1) := by decide +kernel
theorem dX12_init_330 : decode cX12_init 330 = .ok (.newarray .int, 2) := by decide +kernel
theorem dX12_init_332 : decode cX12_init 332 = .ok (.dup, 1) := by decide +kernel
theorem dX12_init_333 : decode cX12_init 333 = .ok (.iconst 0, 1) := by decide +kernel
theorem dX12_init_334 : decode cX12_init 334 = .ok (.bipush 116, 2) := by decide +kernel
theorem dX12_init_336 : decode cX12_init 336 = .ok (.iastore, 1) := by decide +kernel
theorem dX12_init_337 : decode cX12_init 337 = .ok (.dup, 1) := by decide +kernel
theorem dX12_init_338 : decode cX12_init 338 = .ok (.iconst 1, 1) := by decide +kernel
theorem dX12_init_339 : decode cX12_init 339 = .ok (.bipush 105, 2) := by decide +kernel
theorem dX12_init_341 : decode cX12_init 341 = .ok (.iastore, 1) := by decide +kernel
theorem dX12_init_342 : decode cX12_init 342 = .ok (.dup, 1) := by decide +kernel
theorem dX12_init_343 : decode cX12_init 343 = .ok (.iconst 2, 1) := by decide +kernel
theorem dX12_init_344 : decode cX12_init 344 = .ok (.bipush 112, 2) := by decide +kernel
theorem dX12_init_346 : decode cX12_init 346 = .ok (.iastore, 1) := by decide +kernel
theorem dX12_init_347 : decode cX12_init 347 = .ok (.dup, 1) := by decide +kernel
theorem dX12_init_348 : decode cX12_init 348 = .ok (.iconst 3, 1) := by decide +kernel
theorem dX12_init_349 : decode cX12_init 349 = .ok (.bipush 115, 2) := by decide +kernel
theorem dX12_init_351 : decode cX12_init 351 = .ok (.iastore, 1) := by decide +kernel
theorem dX12_init_352 : decode cX12_init 352 = .ok (.aastore, 1) := by decide +kernel
theorem dX12_init_353 : decode cX12_init 353 = .ok (.dup, 1) := by decide +kernel
theorem dX12_init_354 : decode cX12_init 354 = .ok (.bipush 9, 2) := by decide +kernel
theorem dX12_init_356 : decode cX12_init 356 = .ok (.iconst 2, 1) := by decide +kernel
theorem dX12_init_357 : decode cX12_init 357 = .ok (.newarray .int, 2) := by decide +kernel
theorem dX12_init_359 : decode cX12_init 359 = .ok (.dup, 1) := by decide +kernel
theorem dX12_init_360 : decode cX12_init 360 = .ok (.iconst 0, 1) := by decide +kernel
theorem dX12_init_361 : decode cX12_init 361 = .ok (.bipush 111, 2) := by decide +kernel
theorem dX12_init_363 : decode cX12_init 363 = .ok (.iastore, 1) := by decide +kernel
theorem dX12_init_364 : decode cX12_init 364 = .ok (.dup, 1) := by decide +kernel
theorem dX12_init_365 : decode cX12_init 365 = .ok (.iconst 1, 1) := by decide +kernel
theorem dX12_init_366 : decode cX12_init 366 = .ok (.bipush 114, 2) := by decide +kernel
theorem dX12_init_368 : decode cX12_init 368 = .ok (.iastore, 1) := by decide +kernel
theorem dX12_init_369 : decode cX12_init 369 = .ok (.aastore, 1) := by decide +kernel
theorem dX12_init_370 : decode cX12_init 370 = .ok (.dup, 1) := by decide +kernel
theorem dX12_init_371 : decode cX12_init 371 = .ok (.bipush 10, 2) := by decide +kernel
theorem dX12_init_373 : decode cX12_init 373 = .ok (.iconst 3, 1) := by decide +kernel
theorem dX12_init_374 : decode cX12_init 374 = .ok (.newarray .int, 2) := by decide +kernel
theorem dX12_init_376 : decode cX12_init 376 = .ok (.dup, 1) := by decide +kernel
theorem dX12_init_377 : decode cX12_init 377 = .ok (.iconst 0, 1) := by decide +kernel
theorem dX12_init_378 : decode cX12_init 378 = .ok (.bipush 97, 2) := by decide +kernel
theorem dX12_init_380 : decode cX12_init 380 = .ok (.iastore, 1) := by decide +kernel
theorem dX12_init_381 : decode cX12_init 381 = .ok (.dup, 1) := by decide +kernel
theorem dX12_init_382 : decode cX12_init 382 = .ok (.iconst 1, 1) := by decide +kernel
theorem dX12_init_383 : decode cX12_init 383 = .ok (.bipush 110, 2) := by decide +kernel
theorem dX12_init_385 : decode cX12_init 385 = .ok (.iastore, 1) := by decide +kernel
theorem dX12_init_386 : decode cX12_init 386 = .ok (.dup, 1) := by decide +kernel
theorem dX12_init_387 : decode cX12_init 387 = .ok (.iconst 2, 1) := by decide +kernel
theorem dX12_init_388 : decode cX12_init 388 = .ok (.bipush 100, 2) := by decide +kernel
theorem dX12_init_390 : decode cX12_init 390 = .ok (.iastore, 1) := by decide +kernel
theorem dX12_init_391 : decode cX12_init 391 = .ok (.aastore, 1) := by decide +kernel
theorem dX12_init_392 : decode cX12_init 392 = .ok (.dup, 1) := by decide +kernel
theorem dX12_init_393 : decode cX12_init 393 = .ok (.bipush 11, 2) := by decide +kernel
theorem dX12_init_395 : decode cX12_init 395 = .ok (.iconst 3, 1) := by decide +kernel
theorem dX12_init_396 : decode cX12_init 396 = .ok (.newarray .int, 2) := by decide +kernel
theorem dX12_init_398 : decode cX12_init 398 = .ok (.dup, 1) := by decide +kernel
theorem dX12_init_399 : decode cX12_init 399 = .ok (.iconst 0, 1) := by decide +kernel
theorem dX12_init_400 : decode cX12_init 400 = .ok (.bipush 110, 2) := by decide +kernel
theorem dX12_init_402 : decode cX12_init 402 = .ok (.iastore, 1) := by decide +kernel
theorem dX12_init_403 : decode cX12_init 403 = .ok (.dup, 1) := by decide +kernel
theorem dX12_init_404 : decode cX12_init 404 = .ok (.iconst 1, 1) := by decide +kernel
theorem dX12_init_405 : decode cX12_init 405 = .ok (.bipush 111, 2) := by decide +kernel
theorem dX12_init_407 : decode cX12_init 407 = .ok (.iastore, 1) := by decide +kernel
theorem dX12_init_408 : decode cX12_init 408 = .ok (.dup, 1) := by decide +kernel
theorem dX12_init_409 : decode cX12_init 409 = .ok (.iconst 2, 1) := by decide +kernel
theorem dX12_init_410 : decode cX12_init 410 = .ok (.bipush 116, 2) := by decide +kernel
theorem dX12_init_412 : decode cX12_init 412 = .ok (.iastore, 1) := by decide +kernel
theorem dX12_init_413 : decode cX12_init 413 = .ok (.aastore, 1) := by decide +kernel
theorem dX12_init_414 : decode cX12_init 414 = .ok (.putfield 32, 3) := by decide +kernel
theorem dX12_init_417 : decode cX12_init 417 = .ok (.aload_n 0, 1) := by decide +kernel
theorem dX12_init_418 : decode cX12_init 418 = .ok (.sipush 160, 3) := by decide +kernel
theorem dX12_init_421 : decode cX12_init 421 = .ok (.newarray .int, 2) := by decide +kernel
theorem dX12_init_423 : decode cX12_init 423 = .ok (.putfield 36, 3) := by decide +kernel
theorem dX12_init_426 : decode cX12_init 426 = .ok (.aload_n 0, 1) := by decide +kernel
theorem dX12_init_427 : decode cX12_init 427 = .ok (.sipush 3060, 3) := by decide +kernel
theorem dX12_init_430 : decode cX12_init 430 = .ok (.newarray .int, 2) := by decide +kernel
theorem dX12_init_432 : decode cX12_init 432 = .ok (.putfield 39, 3) := by decide +kernel
theorem dX12_init_435 : decode cX12_init 435 = .ok (.aload_n 0, 1) := by decide +kernel
theorem dX12_init_436 : decode cX12_init 436 = .ok (.bipush 18, 2) := by decide +kernel
theorem dX12_init_438 : decode cX12_init 438 = .ok (.newarray .int, 2) := by decide +kernel
theorem dX12_init_440 : decode cX12_init 440 = .ok (.putfield 42, 3) := by decide +kernel
theorem dX12_init_443 : decode cX12_init 443 = .ok (.aload_n 0, 1) := by decide +kernel
theorem dX12_init_444 : decode cX12_init 444 = .ok (.sipush 200, 3) := by decide +kernel
theorem dX12_init_447 : decode cX12_init 447 = .ok (.newarray .int, 2) := by decide +kernel
theorem dX12_init_449 : decode cX12_init 449 = .ok (.putfield 45, 3) := by decide +kernel
theorem dX12_init_452 : decode cX12_init 452 = .ok (.aload_n 0, 1) := by decide +kernel
theorem dX12_init_453 : decode cX12_init 453 = .ok (.sipush 200, 3) := by decide +kernel
theorem dX12_init_456 : decode cX12_init 456 = .ok (.newarray .int, 2) := by decide +kernel
theorem dX12_init_458 : decode cX12_init 458 = .ok (.putfield 48, 3) := by decide +kernel
theorem dX12_init_461 : decode cX12_init 461 = .ok (.aload_n 0, 1) := by decide +kernel
theorem dX12_init_462 : decode cX12_init 462 = .ok (.iconst 1, 1) := by decide +kernel
theorem dX12_init_463 : decode cX12_init 463 = .ok (.putfield 51, 3) := by decide +kernel
theorem dX12_init_466 : decode cX12_init 466 = .ok (.aload_n 0, 1) := by decide +kernel
theorem dX12_init_467 : decode cX12_init 467 = .ok (.bipush 7, 2) := by decide +kernel
theorem dX12_init_469 : decode cX12_init 469 = .ok (.newarray .int, 2) := by decide +kernel
theorem dX12_init_471 : decode cX12_init 471 = .ok (.putfield 55, 3) := by decide +kernel
theorem dX12_init_474 : decode cX12_init 474 = .ok (.aload_n 0, 1) := by decide +kernel
theorem dX12_init_475 : decode cX12_init 475 = .ok (.bipush 7, 2) := by decide +kernel
theorem dX12_init_477 : decode cX12_init 477 = .ok (.newarray .int, 2) := by decide +kernel
theorem dX12_init_479 : decode cX12_init 479 = .ok (.putfield 58, 3) := by decide +kernel
theorem dX12_init_482 : decode cX12_init 482 = .ok (.aload_n 0, 1) := by decide +kernel
theorem dX12_init_483 : decode cX12_init 483 = .ok (.bipush 7, 2) := by decide +kernel
theorem dX12_init_485 : decode cX12_init 485 = .ok (.newarray .int, 2) := by decide +kernel
theorem dX12_init_487 : decode cX12_init 487 = .ok (.putfield 61, 3) := by decide +kernel
theorem dX12_init_490 : decode cX12_init 490 = .ok (.aload_n 0, 1) := by decide +kernel
theorem dX12_init_491 : decode cX12_init 491 = .ok (.bipush 60, 2) := by decide +kernel
theorem dX12_init_493 : decode cX12_init 493 = .ok (.newarray .int, 2) := by decide +kernel
theorem dX12_init_495 : decode cX12_init 495 = .ok (.putfield 64, 3) := by decide +kernel
theorem dX12_init_498 : decode cX12_init 498 = .ok (.aload_n 0, 1) := by decide +kernel
theorem dX12_init_499 : decode cX12_init 499 = .ok (.iconst 4, 1) := by decide +kernel
theorem dX12_init_500 : decode cX12_init 500 = .ok (.newarray .int, 2) := by decide +kernel
theorem dX12_init_502 : decode cX12_init 502 = .ok (.putfield 67, 3) := by decide +kernel
theorem dX12_init_505 : decode cX12_init 505 = .ok (.aload_n 0, 1) := by decide +kernel
theorem dX12_init_506 : decode cX12_init 506 = .ok (.iconst 4, 1) := by decide +kernel
theorem dX12_init_507 : decode cX12_init 507 = .ok (.newarray .int, 2) := by decide +kernel
theorem dX12_init_509 : decode cX12_init 509 = .ok (.putfield 70, 3) := by decide +kernel
theorem dX12_init_512 : decode cX12_init 512 = .ok (.aload_n 0, 1) := by decide +kernel
theorem dX12_init_513 : decode cX12_init 513 = .ok (.sipush 160, 3) := by decide +kernel
theorem dX12_init_516 : decode cX12_init 516 = .ok (.newarray .int, 2) := by decide +kernel
theorem dX12_init_518 : decode cX12_init 518 = .ok (.putfield 73, 3) := by decide +kernel
theorem dX12_init_521 : decode cX12_init 521 = .ok (.aload_n 0, 1) := by decide +kernel
theorem dX12_init_522 : decode cX12_init 522 = .ok (.bipush 40, 2) := by decide +kernel
theorem dX12_init_524 : decode cX12_init 524 = .ok (.newarray .int, 2) := by decide +kernel
theorem dX12_init_526 : decode cX12_init 526 = .ok (.putfield 76, 3) := by decide +kernel
theorem dX12_init_529 : decode cX12_init 529 = .ok (.iconst 0, 1) := by decide +kernel
theorem dX12_init_530 : decode cX12_init 530 = .ok (.istore_n 1, 1) := by decide +kernel
theorem dX12_init_531 : decode cX12_init 531 = .ok (.iload_n 1, 1) := by decide +kernel
theorem dX12_init_532 : decode cX12_init 532 = .ok (.iconst 4, 1) := by decide +kernel
theorem dX12_init_533 : decode cX12_init 533 = .ok (.if_icmp .ge 16, 3) := by decide +kernel
theorem dX12_init_536 : decode cX12_init 536 = .ok (.aload_n 0, 1) := by decide +kernel
theorem dX12_init_537 : decode cX12_init 537 = .ok (.getfield 67, 3) := by decide +kernel
theorem dX12_init_540 : decode cX12_init 540 = .ok (.iload_n 1, 1) := by decide +kernel
theorem dX12_init_541 : decode cX12_init 541 = .ok (.iconst (-1), 1) := by decide +kernel
theorem dX12_init_542 : decode cX12_init 542 = .ok (.iastore, 1) := by decide +kernel
theorem dX12_init_543 : decode cX12_init 543 = .ok (.iinc 1 1, 3) := by decide +kernel
theorem dX12_init_546 : decode cX12_init 546 = .ok (.goto (-15), 3) := by decide +kernel
theorem dX12_init_549 : decode cX12_init 549 = .ok (.aload_n 0, 1) := by decide +kernel
theorem dX12_init_550 : decode cX12_init 550 = .ok (.invokevirtual 79, 3) := by decide +kernel
theorem dX12_init_553 : decode cX12_init 553 = .ok (.return_, 1) := by decide +kernel
theorem dX12_isIn_0 : decode cX12_isIn 0 = .ok (.iload_n 0, 1) := by decide +kernel
theorem dX12_isIn_1 : decode cX12_isIn 1 = .ok (.iload_n 1, 1) := by decide +kernel
theorem dX12_isIn_2 : decode cX12_isIn 2 = .ok (.if_icmp .lt 12, 3) := by decide +kernel
theorem dX12_isIn_5 : decode cX12_isIn 5 = .ok (.iload_n 0, 1) := by decide +kernel
theorem dX12_isIn_6 : decode cX12_isIn 6 = .ok (.iload_n 2, 1) := by decide +kernel
theorem dX12_isIn_7 : decode cX12_isIn 7 = .ok (.if_icmp .gt 7, 3) := by decide +kernel
theorem dX12_isIn_10 : decode cX12_isIn 10 = .ok (.iconst 1, 1) := by decide +kernel
theorem dX12_isIn_11 : decode cX12_isIn 11 = .ok (.goto 4, 3) := by decide +kernel
theorem dX12_isIn_14 : decode cX12_isIn 14 = .ok (.iconst 0, 1) := by decide +kernel
theorem dX12_isIn_15 : decode cX12_isIn 15 = .ok (.ireturn, 1) := by decide +kernel
theorem dX12_isHouse_0 : decode cX12_isHouse 0 = .ok (.iload_n 1, 1) := by decide +kernel
theorem dX12_isHouse_1 : decode cX12_isHouse 1 = .ok (.ifCond .lt 15, 3) := by decide +kernel
theorem dX12_isHouse_4 : decode cX12_isHouse 4 = .ok (.iload_n 1, 1) := by decide +kernel
theorem dX12_isHouse_5 : decode cX12_isHouse 5 = .ok (.aload_n 0, 1) := by decide +kernel
theorem dX12_isHouse_6 : decode cX12_isHouse 6 = .ok (.getfield 82, 3) := by decide +kernel
theorem dX12_isHouse_9 : decode cX12_isHouse 9 = .ok (.if_icmp .ge 7, 3) := by decide +kernel
theorem dX12_isHouse_12 : decode cX12_isHouse 12 = .ok (.iconst 1, 1) := by decide +kernel
theorem dX12_isHouse_13 : decode cX12_isHouse 13 = .ok (.goto 4, 3) := by decide +kernel
theorem dX12_isHouse_16 : decode cX12_isHouse 16 = .ok (.iconst 0, 1) := by decide +kernel
theorem dX12_isHouse_17 : decode cX12_isHouse 17 = .ok (.ireturn, 1) := by decide +kernel
theorem dX12_writes_0 : decode cX12_writes 0 = .ok (.aload_n 0, 1) := by decide +kernel
theorem dX12_writes_1 : decode cX12_writes 1 = .ok (.getfield 39, 3) := by decide +kernel
theorem dX12_writes_4 : decode cX12_writes 4 = .ok (.sipush 170, 3) := by decide +kernel
theorem dX12_writes_7 : decode cX12_writes 7 = .ok (.aload_n 0, 1) := by decide +kernel
theorem dX12_writes_8 : decode cX12_writes 8 = .ok (.getfield 85, 3) := by decide +kernel
theorem dX12_writes_11 : decode cX12_writes 11 = .ok (.imul, 1) := by decide +kernel
theorem dX12_writes_12 : decode cX12_writes 12 = .ok (.aload_n 0, 1) := by decide +kernel
theorem dX12_writes_13 : decode cX12_writes 13 = .ok (.getfield 42, 3) := by decide +kernel
theorem dX12_writes_16 : decode cX12_writes 16 = .ok (.aload_n 0, 1) := by decide +kernel
theorem dX12_writes_17 : decode cX12_writes 17 = .ok (.getfield 85, 3) := by decide +kernel
theorem dX12_writes_20 : decode cX12_writes 20 = .ok (.iaload, 1) := by decide +kernel
theorem dX12_writes_21 : decode cX12_writes 21 = .ok (.iadd, 1) := by decide +kernel
theorem dX12_writes_22 : decode cX12_writes 22 = .ok (.iload_n 1, 1) := by decide +kernel
theorem dX12_writes_23 : decode cX12_writes 23 = .ok (.iastore, 1) := by decide +kernel
theorem dX12_writes_24 : decode cX12_writes 24 = .ok (.aload_n 0, 1) := by decide +kernel
theorem dX12_writes_25 : decode cX12_writes 25 = .ok (.getfield 42, 3) := by decide +kernel
theorem dX12_writes_28 : decode cX12_writes 28 = .ok (.aload_n 0, 1) := by decide +kernel
theorem dX12_writes_29 : decode cX12_writes 29 = .ok (.getfield 85, 3) := by decide +kernel
theorem dX12_writes_32 : decode cX12_writes 32 = .ok (.dup2, 1) := by decide +kernel
theorem dX12_writes_33 : decode cX12_writes 33 = .ok (.iaload, 1) := by decide +kernel
theorem dX12_writes_34 : decode cX12_writes 34 = .ok (.iconst 1, 1) := by decide +kernel
theorem dX12_writes_35 : decode cX12_writes 35 = .ok (.iadd, 1) := by decide +kernel
theorem dX12_writes_36 : decode cX12_writes 36 = .ok (.iastore, 1) := by decide +kernel
theorem dX12_writes_37 : decode cX12_writes 37 = .ok (.return_, 1) := by decide +kernel
theorem dX12_firstRule_0 : decode cX12_firstRule 0 = .ok (.aload_n 0, 1) := by decide +kernel
theorem dX12_firstRule_1 : decode cX12_firstRule 1 = .ok (.iconst 0, 1) := by decide +kernel
theorem dX12_firstRule_2 : decode cX12_firstRule 2 = .ok (.putfield 85, 3) := by decide +kernel
theorem dX12_firstRule_5 : decode cX12_firstRule 5 = .ok (.aload_n 0, 1) := by decide +kernel
theorem dX12_firstRule_6 : decode cX12_firstRule 6 = .ok (.bipush 30, 2) := by decide +kernel
theorem dX12_firstRule_8 : decode cX12_firstRule 8 = .ok (.invokevirtual 88, 3) := by decide +kernel
theorem dX12_firstRule_11 : decode cX12_firstRule 11 = .ok (.aload_n 0, 1) := by decide +kernel
theorem dX12_firstRule_12 : decode cX12_firstRule 12 = .ok (.sipush 20005, 3) := by decide +kernel
theorem dX12_firstRule_15 : decode cX12_firstRule 15 = .ok (.invokevirtual 88, 3) := by decide +kernel
theorem dX12_firstRule_18 : decode cX12_firstRule 18 = .ok (.aload_n 0, 1) := by decide +kernel
theorem dX12_firstRule_19 : decode cX12_firstRule 19 = .ok (.iconst 5, 1) := by decide +kernel
theorem dX12_firstRule_20 : decode cX12_firstRule 20 = .ok (.invokevirtual 88, 3) := by decide +kernel
theorem dX12_firstRule_23 : decode cX12_firstRule 23 = .ok (.aload_n 0, 1) := by decide +kernel
theorem dX12_firstRule_24 : decode cX12_firstRule 24 = .ok (.sipush 30003, 3) := by decide +kernel
theorem dX12_firstRule_27 : decode cX12_firstRule 27 = .ok (.invokevirtual 88, 3) := by decide +kernel
theorem dX12_firstRule_30 : decode cX12_firstRule 30 = .ok (.aload_n 0, 1) := by decide +kernel
theorem dX12_firstRule_31 : decode cX12_firstRule 31 = .ok (.sipush 30001, 3) := by decide +kernel
theorem dX12_firstRule_34 : decode cX12_firstRule 34 = .ok (.invokevirtual 88, 3) := by decide +kernel
theorem dX12_firstRule_37 : decode cX12_firstRule 37 = .ok (.aload_n 0, 1) := by decide +kernel
theorem dX12_firstRule_38 : decode cX12_firstRule 38 = .ok (.iconst 1, 1) := by decide +kernel
theorem dX12_firstRule_39 : decode cX12_firstRule 39 = .ok (.putfield 85, 3) := by decide +kernel
theorem dX12_firstRule_42 : decode cX12_firstRule 42 = .ok (.aload_n 0, 1) := by decide +kernel
theorem dX12_firstRule_43 : decode cX12_firstRule 43 = .ok (.iconst 5, 1) := by decide +kernel
theorem dX12_firstRule_44 : decode cX12_firstRule 44 = .ok (.invokevirtual 88, 3) := by decide +kernel
theorem dX12_firstRule_47 : decode cX12_firstRule 47 = .ok (.aload_n 0, 1) := by decide +kernel
theorem dX12_firstRule_48 : decode cX12_firstRule 48 = .ok (.sipush 20003, 3) := by decide +kernel
theorem dX12_firstRule_51 : decode cX12_firstRule 51 = .ok (.invokevirtual 88, 3) := by decide +kernel
theorem dX12_firstRule_54 : decode cX12_firstRule 54 = .ok (.aload_n 0, 1) := by decide +kernel
theorem dX12_firstRule_55 : decode cX12_firstRule 55 = .ok (.sipush 30004, 3) := by decide +kernel
theorem dX12_firstRule_58 : decode cX12_firstRule 58 = .ok (.invokevirtual 88, 3) := by decide +kernel
theorem dX12_firstRule_61 : decode cX12_firstRule 61 = .ok (.aload_n 0, 1) := by decide +kernel
theorem dX12_firstRule_62 : decode cX12_firstRule 62 = .ok (.iconst 2, 1) := by decide +kernel
theorem dX12_firstRule_63 : decode cX12_firstRule 63 = .ok (.putfield 85, 3) := by decide +kernel
theorem dX12_firstRule_66 : decode cX12_firstRule 66 = .ok (.aload_n 0, 1) := by decide +kernel
theorem dX12_firstRule_67 : decode cX12_firstRule 67 = .ok (.bipush 20, 2) := by decide +kernel
theorem dX12_firstRule_69 : decode cX12_firstRule 69 = .ok (.invokevirtual 88, 3) := by decide +kernel
theorem dX12_firstRule_72 : decode cX12_firstRule 72 = .ok (.aload_n 0, 1) := by decide +kernel
theorem dX12_firstRule_73 : decode cX12_firstRule 73 = .ok (.sipush 20003, 3) := by decide +kernel
theorem dX12_firstRule_76 : decode cX12_firstRule 76 = .ok (.invokevirtual 88, 3) := by decide +kernel
theorem dX12_firstRule_79 : decode cX12_firstRule 79 = .ok (.aload_n 0, 1) := by decide +kernel
theorem dX12_firstRule_80 : decode cX12_firstRule 80 = .ok (.sipush 30002, 3) := by decide +kernel
theorem dX12_firstRule_83 : decode cX12_firstRule 83 = .ok (.invokevirtual 88, 3) := by decide +kernel
theorem dX12_firstRule_86 : decode cX12_firstRule 86 = .ok (.return_, 1) := by decide +kernel
theorem dX12_feed_0 : decode cX12_feed 0 = .ok (.iload_n 1, 1) := by decide +kernel
theorem dX12_feed_1 : decode cX12_feed 1 = .ok (.iconst 0, 1) := by decide +kernel
theorem dX12_feed_2 : decode cX12_feed 2 = .ok (.sipush 255, 3) := by decide +kernel
theorem dX12_feed_5 : decode cX12_feed 5 = .ok (.invokestatic 92, 3) := by decide +kernel
theorem dX12_feed_8 : decode cX12_feed 8 = .ok (.ifCond .ne 6, 3) := by decide +kernel
theorem dX12_feed_11 : decode cX12_feed 11 = .ok (.bipush (-2), 2) := by decide +kernel
theorem dX12_feed_13 : decode cX12_feed 13 = .ok (.ireturn, 1) := by decide +kernel
theorem dX12_feed_14 : decode cX12_feed 14 = .ok (.aload_n 0, 1) := by decide +kernel
theorem dX12_feed_15 : decode cX12_feed 15 = .ok (.getfield 96, 3) := by decide +kernel
theorem dX12_feed_18 : decode cX12_feed 18 = .ok (.sipush 160, 3) := by decide +kernel
theorem dX12_feed_21 : decode cX12_feed 21 = .ok (.if_icmp .ne 6, 3) := by decide +kernel
theorem dX12_feed_24 : decode cX12_feed 24 = .ok (.bipush (-4), 2) := by decide +kernel
theorem dX12_feed_26 : decode cX12_feed 26 = .ok (.ireturn, 1) := by decide +kernel
theorem dX12_feed_27 : decode cX12_feed 27 = .ok (.aload_n 0, 1) := by decide +kernel
theorem dX12_feed_28 : decode cX12_feed 28 = .ok (.getfield 36, 3) := by decide +kernel
theorem dX12_feed_31 : decode cX12_feed 31 = .ok (.aload_n 0, 1) := by decide +kernel
theorem dX12_feed_32 : decode cX12_feed 32 = .ok (.getfield 96, 3) := by decide +kernel
theorem dX12_feed_35 : decode cX12_feed 35 = .ok (.iload_n 1, 1) := by decide +kernel
theorem dX12_feed_36 : decode cX12_feed 36 = .ok (.iastore, 1) := by decide +kernel
theorem dX12_feed_37 : decode cX12_feed 37 = .ok (.aload_n 0, 1) := by decide +kernel
theorem dX12_feed_38 : decode cX12_feed 38 = .ok (.dup, 1) := by decide +kernel
theorem dX12_feed_39 : decode cX12_feed 39 = .ok (.getfield 96, 3) := by decide +kernel
theorem dX12_feed_42 : decode cX12_feed 42 = .ok (.iconst 1, 1) := by decide +kernel
theorem dX12_feed_43 : decode cX12_feed 43 = .ok (.iadd, 1) := by decide +kernel
theorem dX12_feed_44 : decode cX12_feed 44 = .ok (.putfield 96, 3) := by decide +kernel
theorem dX12_feed_47 : decode cX12_feed 47 = .ok (.aload_n 0, 1) := by decide +kernel
theorem dX12_feed_48 : decode cX12_feed 48 = .ok (.getfield 96, 3) := by decide +kernel
theorem dX12_feed_51 : decode cX12_feed 51 = .ok (.ireturn, 1) := by decide +kernel
theorem dX12_isAt_0 : decode cX12_isAt 0 = .ok (.aload_n 0, 1) := by decide +kernel
theorem dX12_isAt_1 : decode cX12_isAt 1 = .ok (.getfield 99, 3) := by decide +kernel
theorem dX12_isAt_4 : decode cX12_isAt 4 = .ok (.aload_n 0, 1) := by decide +kernel
theorem dX12_isAt_5 : decode cX12_isAt 5 = .ok (.getfield 96, 3) := by decide +kernel
theorem dX12_isAt_8 : decode cX12_isAt 8 = .ok (.if_icmp .ge 24, 3) := by decide +kernel
theorem dX12_isAt_11 : decode cX12_isAt 11 = .ok (.aload_n 0, 1) := by decide +kernel
theorem dX12_isAt_12 : decode cX12_isAt 12 = .ok (.getfield 36, 3) := by decide +kernel
theorem dX12_isAt_15 : decode cX12_isAt 15 = .ok (.aload_n 0, 1) := by decide +kernel
theorem dX12_isAt_16 : decode cX12_isAt 16 = .ok (.getfield 99, 3) := by decide +kernel
theorem dX12_isAt_19 : decode cX12_isAt 19 = .ok (.iaload, 1) := by decide +kernel
theorem dX12_isAt_20 : decode cX12_isAt 20 = .ok (.iload_n 1, 1) := by decide +kernel
theorem dX12_isAt_21 : decode cX12_isAt 21 = .ok (.iload_n 2, 1) := by decide +kernel
theorem dX12_isAt_22 : decode cX12_isAt 22 = .ok (.invokestatic 92, 3) := by decide +kernel
theorem dX12_isAt_25 : decode cX12_isAt 25 = .ok (.ifCond .eq 7, 3) := by decide +kernel
theorem dX12_isAt_28 : decode cX12_isAt 28 = .ok (.iconst 1, 1) := by decide +kernel
theorem dX12_isAt_29 : decode cX12_isAt 29 = .ok (.goto 4, 3) := by decide +kernel
theorem dX12_isAt_32 : decode cX12_isAt 32 = .ok (.iconst 0, 1) := by decide +kernel
theorem dX12_isAt_33 : decode cX12_isAt 33 = .ok (.ireturn, 1) := by decide +kernel
theorem dX12_isSign_0 : decode cX12_isSign 0 = .ok (.iload_n 0, 1) := by decide +kernel
theorem dX12_isSign_1 : decode cX12_isSign 1 = .ok (.bipush 40, 2) := by decide +kernel
theorem dX12_isSign_3 : decode cX12_isSign 3 = .ok (.if_icmp .eq 45, 3) := by decide +kernel
theorem dX12_isSign_6 : decode cX12_isSign 6 = .ok (.iload_n 0, 1) := by decide +kernel
theorem dX12_isSign_7 : decode cX12_isSign 7 = .ok (.bipush 41, 2) := by decide +kernel
theorem dX12_isSign_9 : decode cX12_isSign 9 = .ok (.if_icmp .eq 39, 3) := by decide +kernel
theorem dX12_isSign_12 : decode cX12_isSign 12 = .ok (.iload_n 0, 1) := by decide +kernel
theorem dX12_isSign_13 : decode cX12_isSign 13 = .ok (.bipush 59, 2) := by decide +kernel
theorem dX12_isSign_15 : decode cX12_isSign 15 = .ok (.if_icmp .eq 33, 3) := by decide +kernel
theorem dX12_isSign_18 : decode cX12_isSign 18 = .ok (.iload_n 0, 1) := by decide +kernel
theorem dX12_isSign_19 : decode cX12_isSign 19 = .ok (.bipush 43, 2) := by decide +kernel
theorem dX12_isSign_21 : decode cX12_isSign 21 = .ok (.if_icmp .eq 27, 3) := by decide +kernel
theorem dX12_isSign_24 : decode cX12_isSign 24 = .ok (.iload_n 0, 1) := by decide +kernel
theorem dX12_isSign_25 : decode cX12_isSign 25 = .ok (.bipush 45, 2) := by decide +kernel
theorem dX12_isSign_27 : decode cX12_isSign 27 = .ok (.if_icmp .eq 21, 3) := by decide +kernel
theorem dX12_isSign_30 : decode cX12_isSign 30 = .ok (.iload_n 0, 1) := by decide +kernel
theorem dX12_isSign_31 : decode cX12_isSign 31 = .ok (.bipush 42, 2) := by decide +kernel
theorem dX12_isSign_33 : decode cX12_isSign 33 = .ok (.if_icmp .eq 15, 3) := by decide +kernel
theorem dX12_isSign_36 : decode cX12_isSign 36 = .ok (.iload_n 0, 1) := by decide +kernel
theorem dX12_isSign_37 : decode cX12_isSign 37 = .ok (.bipush 60, 2) := by decide +kernel
theorem dX12_isSign_39 : decode cX12_isSign 39 = .ok (.if_icmp .eq 9, 3) := by decide +kernel
theorem dX12_isSign_42 : decode cX12_isSign 42 = .ok (.iload_n 0, 1) := by decide +kernel
theorem dX12_isSign_43 : decode cX12_isSign 43 = .ok (.bipush 61, 2) := by decide +kernel
theorem dX12_isSign_45 : decode cX12_isSign 45 = .ok (.if_icmp .ne 7, 3) := by decide +kernel
theorem dX12_isSign_48 : decode cX12_isSign 48 = .ok (.iconst 1, 1) := by decide +kernel
theorem dX12_isSign_49 : decode cX12_isSign 49 = .ok (.goto 4, 3) := by decide +kernel
theorem dX12_isSign_52 : decode cX12_isSign 52 = .ok (.iconst 0, 1) := by decide +kernel
theorem dX12_isSign_53 : decode cX12_isSign 53 = .ok (.ireturn, 1) := by decide +kernel
theorem dX12_isWord_0 : decode cX12_isWord 0 = .ok (.aload_n 0, 1) := by decide +kernel
theorem dX12_isWord_1 : decode cX12_isWord 1 = .ok (.getfield 99, 3) := by decide +kernel
theorem dX12_isWord_4 : decode cX12_isWord 4 = .ok (.aload_n 0, 1) := by decide +kernel
theorem dX12_isWord_5 : decode cX12_isWord 5 = .ok (.getfield 102, 3) := by decide +kernel
theorem dX12_isWord_8 : decode cX12_isWord 8 = .ok (.isub, 1) := by decide +kernel
theorem dX12_isWord_9 : decode cX12_isWord 9 = .ok (.aload_n 1, 1) := by decide +kernel
theorem dX12_isWord_10 : decode cX12_isWord 10 = .ok (.arraylength, 1) := by decide +kernel
theorem dX12_isWord_11 : decode cX12_isWord 11 = .ok (.if_icmp .eq 5, 3) := by decide +kernel
theorem dX12_isWord_14 : decode cX12_isWord 14 = .ok (.iconst 0, 1) := by decide +kernel
theorem dX12_isWord_15 : decode cX12_isWord 15 = .ok (.ireturn, 1) := by decide +kernel
theorem dX12_isWord_16 : decode cX12_isWord 16 = .ok (.iconst 0, 1) := by decide +kernel
theorem dX12_isWord_17 : decode cX12_isWord 17 = .ok (.istore_n 2, 1) := by decide +kernel
theorem dX12_isWord_18 : decode cX12_isWord 18 = .ok (.iload_n 2, 1) := by decide +kernel
theorem dX12_isWord_19 : decode cX12_isWord 19 = .ok (.aload_n 1, 1) := by decide +kernel
theorem dX12_isWord_20 : decode cX12_isWord 20 = .ok (.arraylength, 1) := by decide +kernel
theorem dX12_isWord_21 : decode cX12_isWord 21 = .ok (.if_icmp .ge 28, 3) := by decide +kernel
theorem dX12_isWord_24 : decode cX12_isWord 24 = .ok (.aload_n 0, 1) := by decide +kernel
theorem dX12_isWord_25 : decode cX12_isWord 25 = .ok (.getfield 36, 3) := by decide +kernel
theorem dX12_isWord_28 : decode cX12_isWord 28 = .ok (.aload_n 0, 1) := by decide +kernel
theorem dX12_isWord_29 : decode cX12_isWord 29 = .ok (.getfield 102, 3) := by decide +kernel
theorem dX12_isWord_32 : decode cX12_isWord 32 = .ok (.iload_n 2, 1) := by decide +kernel
theorem dX12_isWord_33 : decode cX12_isWord 33 = .ok (.iadd, 1) := by decide +kernel
theorem dX12_isWord_34 : decode cX12_isWord 34 = .ok (.iaload, 1) := by decide +kernel
theorem dX12_isWord_35 : decode cX12_isWord 35 = .ok (.aload_n 1, 1) := by decide +kernel
theorem dX12_isWord_36 : decode cX12_isWord 36 = .ok (.iload_n 2, 1) := by decide +kernel
theorem dX12_isWord_37 : decode cX12_isWord 37 = .ok (.iaload, 1) := by decide +kernel
theorem dX12_isWord_38 : decode cX12_isWord 38 = .ok (.if_icmp .eq 5, 3) := by decide +kernel
theorem dX12_isWord_41 : decode cX12_isWord 41 = .ok (.iconst 0, 1) := by decide +kernel
theorem dX12_isWord_42 : decode cX12_isWord 42 = .ok (.ireturn, 1) := by decide +kernel
theorem dX12_isWord_43 : decode cX12_isWord 43 = .ok (.iinc 2 1, 3) := by decide +kernel
theorem dX12_isWord_46 : decode cX12_isWord 46 = .ok (.goto (-28), 3) := by decide +kernel
theorem dX12_isWord_49 : decode cX12_isWord 49 = .ok (.iconst 1, 1) := by decide +kernel
theorem dX12_isWord_50 : decode cX12_isWord 50 = .ok (.ireturn, 1) := by decide +kernel
theorem dX12_reads_0 : decode cX12_reads 0 = .ok (.aload_n 0, 1) := by decide +kernel
theorem dX12_reads_1 : decode cX12_reads 1 = .ok (.bipush 32, 2) := by decide +kernel
theorem dX12_reads_3 : decode cX12_reads 3 = .ok (.bipush 32, 2) := by decide +kernel
theorem dX12_reads_5 : decode cX12_reads 5 = .ok (.invokevirtual 105, 3) := by decide +kernel
theorem dX12_reads_8 : decode cX12_reads 8 = .ok (.ifCond .ne 14, 3) := by decide +kernel
theorem dX12_reads_11 : decode cX12_reads 11 = .ok (.aload_n 0, 1) := by decide +kernel
theorem dX12_reads_12 : decode cX12_reads 12 = .ok (.bipush 10, 2) := by decide +kernel
theorem dX12_reads_14 : decode cX12_reads 14 = .ok (.bipush 10, 2) := by decide +kernel
theorem dX12_reads_16 : decode cX12_reads 16 = .ok (.invokevirtual 105, 3) := by decide +kernel
theorem dX12_reads_19 : decode cX12_reads 19 = .ok (.ifCond .eq 16, 3) := by decide +kernel
theorem dX12_reads_22 : decode cX12_reads 22 = .ok (.aload_n 0, 1) := by decide +kernel
theorem dX12_reads_23 : decode cX12_reads 23 = .ok (.dup, 1) := by decide +kernel
theorem dX12_reads_24 : decode cX12_reads 24 = .ok (.getfield 99, 3) := by decide +kernel
theorem dX12_reads_27 : decode cX12_reads 27 = .ok (.iconst 1, 1) := by decide +kernel
theorem dX12_reads_28 : decode cX12_reads 28 = .ok (.iadd, 1) := by decide +kernel
theorem dX12_reads_29 : decode cX12_reads 29 = .ok (.putfield 99, 3) := by decide +kernel
theorem dX12_reads_32 : decode cX12_reads 32 = .ok (.goto (-32), 3) := by decide +kernel
theorem dX12_reads_35 : decode cX12_reads 35 = .ok (.aload_n 0, 1) := by decide +kernel
theorem dX12_reads_36 : decode cX12_reads 36 = .ok (.aload_n 0, 1) := by decide +kernel
theorem dX12_reads_37 : decode cX12_reads 37 = .ok (.getfield 99, 3) := by decide +kernel
theorem dX12_reads_40 : decode cX12_reads 40 = .ok (.putfield 102, 3) := by decide +kernel
theorem dX12_reads_43 : decode cX12_reads 43 = .ok (.aload_n 0, 1) := by decide +kernel
theorem dX12_reads_44 : decode cX12_reads 44 = .ok (.bipush 104, 2) := by decide +kernel
theorem dX12_reads_46 : decode cX12_reads 46 = .ok (.putfield 109, 3) := by decide +kernel
theorem dX12_reads_49 : decode cX12_reads 49 = .ok (.aload_n 0, 1) := by decide +kernel
theorem dX12_reads_50 : decode cX12_reads 50 = .ok (.iconst 0, 1) := by decide +kernel
theorem dX12_reads_51 : decode cX12_reads 51 = .ok (.putfield 112, 3) := by decide +kernel
theorem dX12_reads_54 : decode cX12_reads 54 = .ok (.aload_n 0, 1) := by decide +kernel
theorem dX12_reads_55 : decode cX12_reads 55 = .ok (.getfield 99, 3) := by decide +kernel
theorem dX12_reads_58 : decode cX12_reads 58 = .ok (.aload_n 0, 1) := by decide +kernel
theorem dX12_reads_59 : decode cX12_reads 59 = .ok (.getfield 96, 3) := by decide +kernel
theorem dX12_reads_62 : decode cX12_reads 62 = .ok (.if_icmp .ne 12, 3) := by decide +kernel
theorem dX12_reads_65 : decode cX12_reads 65 = .ok (.aload_n 0, 1) := by decide +kernel
theorem dX12_reads_66 : decode cX12_reads 66 = .ok (.bipush 103, 2) := by decide +kernel
theorem dX12_reads_68 : decode cX12_reads 68 = .ok (.putfield 109, 3) := by decide +kernel
theorem dX12_reads_71 : decode cX12_reads 71 = .ok (.goto 232, 3) := by decide +kernel
theorem dX12_reads_74 : decode cX12_reads 74 = .ok (.aload_n 0, 1) := by decide +kernel
theorem dX12_reads_75 : decode cX12_reads 75 = .ok (.bipush 48, 2) := by decide +kernel
theorem dX12_reads_77 : decode cX12_reads 77 = .ok (.bipush 57, 2) := by decide +kernel
theorem dX12_reads_79 : decode cX12_reads 79 = .ok (.invokevirtual 105, 3) := by decide +kernel
theorem dX12_reads_82 : decode cX12_reads 82 = .ok (.ifCond .eq 95, 3) := by decide +kernel
theorem dX12_reads_85 : decode cX12_reads 85 = .ok (.aload_n 0, 1) := by decide +kernel
theorem dX12_reads_86 : decode cX12_reads 86 = .ok (.bipush 48, 2) := by decide +kernel
theorem dX12_reads_88 : decode cX12_reads 88 = .ok (.bipush 57, 2) := by decide +kernel
theorem dX12_reads_90 : decode cX12_reads 90 = .ok (.invokevirtual 105, 3) := by decide +kernel
theorem dX12_reads_93 : decode cX12_reads 93 = .ok (.ifCond .eq 57, 3) := by decide +kernel
theorem dX12_reads_96 : decode cX12_reads 96 = .ok (.aload_n 0, 1) := by decide +kernel
theorem dX12_reads_97 : decode cX12_reads 97 = .ok (.aload_n 0, 1) := by decide +kernel
theorem dX12_reads_98 : decode cX12_reads 98 = .ok (.getfield 99, 3) := by decide +kernel
theorem dX12_reads_101 : decode cX12_reads 101 = .ok (.aload_n 0, 1) := by decide +kernel
theorem dX12_reads_102 : decode cX12_reads 102 = .ok (.getfield 102, 3) := by decide +kernel
theorem dX12_reads_105 : decode cX12_reads 105 = .ok (.isub, 1) := by decide +kernel
theorem dX12_reads_106 : decode cX12_reads 106 = .ok (.iconst 4, 1) := by decide +kernel
theorem dX12_reads_107 : decode cX12_reads 107 = .ok (.if_icmp .ge 26, 3) := by decide +kernel
theorem dX12_reads_110 : decode cX12_reads 110 = .ok (.bipush 10, 2) := by decide +kernel
theorem dX12_reads_112 : decode cX12_reads 112 = .ok (.aload_n 0, 1) := by decide +kernel
theorem dX12_reads_113 : decode cX12_reads 113 = .ok (.getfield 112, 3) := by decide +kernel
theorem dX12_reads_116 : decode cX12_reads 116 = .ok (.imul, 1) := by decide +kernel
theorem dX12_reads_117 : decode cX12_reads 117 = .ok (.aload_n 0, 1) := by decide +kernel
theorem dX12_reads_118 : decode cX12_reads 118 = .ok (.getfield 36, 3) := by decide +kernel
theorem dX12_reads_121 : decode cX12_reads 121 = .ok (.aload_n 0, 1) := by decide +kernel
theorem dX12_reads_122 : decode cX12_reads 122 = .ok (.getfield 99, 3) := by decide +kernel
theorem dX12_reads_125 : decode cX12_reads 125 = .ok (.iaload, 1) := by decide +kernel
theorem dX12_reads_126 : decode cX12_reads 126 = .ok (.iadd, 1) := by decide +kernel
theorem dX12_reads_127 : decode cX12_reads 127 = .ok (.bipush 48, 2) := by decide +kernel
theorem dX12_reads_129 : decode cX12_reads 129 = .ok (.isub, 1) := by decide +kernel
theorem dX12_reads_130 : decode cX12_reads 130 = .ok (.goto 4, 3) := by decide +kernel
theorem dX12_reads_133 : decode cX12_reads 133 = .ok (.iconst 0, 1) := by decide +kernel
theorem dX12_reads_134 : decode cX12_reads 134 = .ok (.putfield 112, 3) := by decide +kernel
theorem dX12_reads_137 : decode cX12_reads 137 = .ok (.aload_n 0, 1) := by decide +kernel
theorem dX12_reads_138 : decode cX12_reads 138 = .ok (.dup, 1) := by decide +kernel
theorem dX12_reads_139 : decode cX12_reads 139 = .ok (.getfield 99, 3) := by decide +kernel
theorem dX12_reads_142 : decode cX12_reads 142 = .ok (.iconst 1, 1) := by decide +kernel
theorem dX12_reads_143 : decode cX12_reads 143 = .ok (.iadd, 1) := by decide +kernel
theorem dX12_reads_144 : decode cX12_reads 144 = .ok (.putfield 99, 3) := by decide +kernel
theorem dX12_reads_147 : decode cX12_reads 147 = .ok (.goto (-62), 3) := by decide +kernel
theorem dX12_reads_150 : decode cX12_reads 150 = .ok (.aload_n 0, 1) := by decide +kernel
theorem dX12_reads_151 : decode cX12_reads 151 = .ok (.aload_n 0, 1) := by decide +kernel
theorem dX12_reads_152 : decode cX12_reads 152 = .ok (.getfield 99, 3) := by decide +kernel
theorem dX12_reads_155 : decode cX12_reads 155 = .ok (.aload_n 0, 1) := by decide +kernel
theorem dX12_reads_156 : decode cX12_reads 156 = .ok (.getfield 102, 3) := by decide +kernel
theorem dX12_reads_159 : decode cX12_reads 159 = .ok (.isub, 1) := by decide +kernel
theorem dX12_reads_160 : decode cX12_reads 160 = .ok (.iconst 4, 1) := by decide +kernel
theorem dX12_reads_161 : decode cX12_reads 161 = .ok (.if_icmp .le 8, 3) := by decide +kernel
theorem dX12_reads_164 : decode cX12_reads 164 = .ok (.bipush 104, 2) := by decide +kernel
theorem dX12_reads_166 : decode cX12_reads 166 = .ok (.goto 5, 3) := by decide +kernel
theorem dX12_reads_169 : decode cX12_reads 169 = .ok (.bipush 100, 2) := by decide +kernel
theorem dX12_reads_171 : decode cX12_reads 171 = .ok (.putfield 109, 3) := by decide +kernel
theorem dX12_reads_174 : decode cX12_reads 174 = .ok (.goto 129, 3) := by decide +kernel
theorem dX12_reads_177 : decode cX12_reads 177 = .ok (.aload_n 0, 1) := by decide +kernel
theorem dX12_reads_178 : decode cX12_reads 178 = .ok (.bipush 97, 2) := by decide +kernel
theorem dX12_reads_180 : decode cX12_reads 180 = .ok (.bipush 122, 2) := by decide +kernel
theorem dX12_reads_182 : decode cX12_reads 182 = .ok (.invokevirtual 105, 3) := by decide +kernel
theorem dX12_reads_185 : decode cX12_reads 185 = .ok (.ifCond .eq 74, 3) := by decide +kernel
theorem dX12_reads_188 : decode cX12_reads 188 = .ok (.aload_n 0, 1) := by decide +kernel
theorem dX12_reads_189 : decode cX12_reads 189 = .ok (.bipush 97, 2) := by decide +kernel
theorem dX12_reads_191 : decode cX12_reads 191 = .ok (.bipush 122, 2) := by decide +kernel
theorem dX12_reads_193 : decode cX12_reads 193 = .ok (.invokevirtual 105, 3) := by decide +kernel
theorem dX12_reads_196 : decode cX12_reads 196 = .ok (.ifCond .eq 16, 3) := by decide +kernel
theorem dX12_reads_199 : decode cX12_reads 199 = .ok (.aload_n 0, 1) := by decide +kernel
theorem dX12_reads_200 : decode cX12_reads 200 = .ok (.dup, 1) := by decide +kernel
theorem dX12_reads_201 : decode cX12_reads 201 = .ok (.getfield 99, 3) := by decide +kernel
theorem dX12_reads_204 : decode cX12_reads 204 = .ok (.iconst 1, 1) := by decide +kernel
theorem dX12_reads_205 : decode cX12_reads 205 = .ok (.iadd, 1) := by decide +kernel
theorem dX12_reads_206 : decode cX12_reads 206 = .ok (.putfield 99, 3) := by decide +kernel
theorem dX12_reads_209 : decode cX12_reads 209 = .ok (.goto (-21), 3) := by decide +kernel
theorem dX12_reads_212 : decode cX12_reads 212 = .ok (.iconst 0, 1) := by decide +kernel
theorem dX12_reads_213 : decode cX12_reads 213 = .ok (.istore_n 1, 1) := by decide +kernel
theorem dX12_reads_214 : decode cX12_reads 214 = .ok (.iload_n 1, 1) := by decide +kernel
theorem dX12_reads_215 : decode cX12_reads 215 = .ok (.aload_n 0, 1) := by decide +kernel
theorem dX12_reads_216 : decode cX12_reads 216 = .ok (.getfield 32, 3) := by decide +kernel
theorem dX12_reads_219 : decode cX12_reads 219 = .ok (.arraylength, 1) := by decide +kernel
theorem dX12_reads_220 : decode cX12_reads 220 = .ok (.if_icmp .ge 36, 3) := by decide +kernel
theorem dX12_reads_223 : decode cX12_reads 223 = .ok (.aload_n 0, 1) := by decide +kernel
theorem dX12_reads_224 : decode cX12_reads 224 = .ok (.aload_n 0, 1) := by decide +kernel
theorem dX12_reads_225 : decode cX12_reads 225 = .ok (.getfield 32, 3) := by decide +kernel
theorem dX12_reads_228 : decode cX12_reads 228 = .ok (.iload_n 1, 1) := by decide +kernel
theorem dX12_reads_229 : decode cX12_reads 229 = .ok (.aaload, 1) := by decide +kernel
theorem dX12_reads_230 : decode cX12_reads 230 = .ok (.invokevirtual 115, 3) := by decide +kernel
theorem dX12_reads_233 : decode cX12_reads 233 = .ok (.ifCond .ne 6, 3) := by decide +kernel
theorem dX12_reads_236 : decode cX12_reads 236 = .ok (.goto 14, 3) := by decide +kernel
theorem dX12_reads_239 : decode cX12_reads 239 = .ok (.aload_n 0, 1) := by decide +kernel
theorem dX12_reads_240 : decode cX12_reads 240 = .ok (.bipush 101, 2) := by decide +kernel
theorem dX12_reads_242 : decode cX12_reads 242 = .ok (.putfield 109, 3) := by decide +kernel
theorem dX12_reads_245 : decode cX12_reads 245 = .ok (.aload_n 0, 1) := by decide +kernel
theorem dX12_reads_246 : decode cX12_reads 246 = .ok (.iload_n 1, 1) := by decide +kernel
theorem dX12_reads_247 : decode cX12_reads 247 = .ok (.putfield 112, 3) := by decide +kernel
theorem dX12_reads_250 : decode cX12_reads 250 = .ok (.iinc 1 1, 3) := by decide +kernel
theorem dX12_reads_253 : decode cX12_reads 253 = .ok (.goto (-39), 3) := by decide +kernel
theorem dX12_reads_256 : decode cX12_reads 256 = .ok (.goto 47, 3) := by decide +kernel
theorem dX12_reads_259 : decode cX12_reads 259 = .ok (.aload_n 0, 1) := by decide +kernel
theorem dX12_reads_260 : decode cX12_reads 260 = .ok (.getfield 36, 3) := by decide +kernel
theorem dX12_reads_263 : decode cX12_reads 263 = .ok (.aload_n 0, 1) := by decide +kernel
theorem dX12_reads_264 : decode cX12_reads 264 = .ok (.getfield 99, 3) := by decide +kernel
theorem dX12_reads_267 : decode cX12_reads 267 = .ok (.iaload, 1) := by decide +kernel
theorem dX12_reads_268 : decode cX12_reads 268 = .ok (.invokestatic 119, 3) := by decide +kernel
theorem dX12_reads_271 : decode cX12_reads 271 = .ok (.ifCond .eq 32, 3) := by decide +kernel
theorem dX12_reads_274 : decode cX12_reads 274 = .ok (.aload_n 0, 1) := by decide +kernel
theorem dX12_reads_275 : decode cX12_reads 275 = .ok (.bipush 102, 2) := by decide +kernel
theorem dX12_reads_277 : decode cX12_reads 277 = .ok (.putfield 109, 3) := by decide +kernel
theorem dX12_reads_280 : decode cX12_reads 280 = .ok (.aload_n 0, 1) := by decide +kernel
theorem dX12_reads_281 : decode cX12_reads 281 = .ok (.aload_n 0, 1) := by decide +kernel
theorem dX12_reads_282 : decode cX12_reads 282 = .ok (.getfield 36, 3) := by decide +kernel
theorem dX12_reads_285 : decode cX12_reads 285 = .ok (.aload_n 0, 1) := by decide +kernel
theorem dX12_reads_286 : decode cX12_reads 286 = .ok (.getfield 99, 3) := by decide +kernel
theorem dX12_reads_289 : decode cX12_reads 289 = .ok (.iaload, 1) := by decide +kernel
theorem dX12_reads_290 : decode cX12_reads 290 = .ok (.putfield 112, 3) := by decide +kernel
theorem dX12_reads_293 : decode cX12_reads 293 = .ok (.aload_n 0, 1) := by decide +kernel
theorem dX12_reads_294 : decode cX12_reads 294 = .ok (.dup, 1) := by decide +kernel
theorem dX12_reads_295 : decode cX12_reads 295 = .ok (.getfield 99, 3) := by decide +kernel
theorem dX12_reads_298 : decode cX12_reads 298 = .ok (.iconst 1, 1) := by decide +kernel
theorem dX12_reads_299 : decode cX12_reads 299 = .ok (.iadd, 1) := by decide +kernel
theorem dX12_reads_300 : decode cX12_reads 300 = .ok (.putfield 99, 3) := by decide +kernel
theorem dX12_reads_303 : decode cX12_reads 303 = .ok (.return_, 1) := by decide +kernel
theorem dX12_top_0 : decode cX12_top 0 = .ok (.aload_n 0, 1) := by decide +kernel
theorem dX12_top_1 : decode cX12_top 1 = .ok (.getfield 123, 3) := by decide +kernel
theorem dX12_top_4 : decode cX12_top 4 = .ok (.ifCond .ne 7, 3) := by decide +kernel
theorem dX12_top_7 : decode cX12_top 7 = .ok (.iconst 0, 1) := by decide +kernel
theorem dX12_top_8 : decode cX12_top 8 = .ok (.goto 14, 3) := by decide +kernel
theorem dX12_top_11 : decode cX12_top 11 = .ok (.aload_n 0, 1) := by decide +kernel
theorem dX12_top_12 : decode cX12_top 12 = .ok (.getfield 45, 3) := by decide +kernel
theorem dX12_top_15 : decode cX12_top 15 = .ok (.aload_n 0, 1) := by decide +kernel
theorem dX12_top_16 : decode cX12_top 16 = .ok (.getfield 123, 3) := by decide +kernel
theorem dX12_top_19 : decode cX12_top 19 = .ok (.iconst 1, 1) := by decide +kernel
theorem dX12_top_20 : decode cX12_top 20 = .ok (.isub, 1) := by decide +kernel
theorem dX12_top_21 : decode cX12_top 21 = .ok (.iaload, 1) := by decide +kernel
theorem dX12_top_22 : decode cX12_top 22 = .ok (.ireturn, 1) := by decide +kernel
theorem dX12_holds_0 : decode cX12_holds 0 = .ok (.aload_n 0, 1) := by decide +kernel
theorem dX12_holds_1 : decode cX12_holds 1 = .ok (.getfield 45, 3) := by decide +kernel
theorem dX12_holds_4 : decode cX12_holds 4 = .ok (.aload_n 0, 1) := by decide +kernel
theorem dX12_holds_5 : decode cX12_holds 5 = .ok (.getfield 123, 3) := by decide +kernel
theorem dX12_holds_8 : decode cX12_holds 8 = .ok (.iload_n 1, 1) := by decide +kernel
theorem dX12_holds_9 : decode cX12_holds 9 = .ok (.iastore, 1) := by decide +kernel
theorem dX12_holds_10 : decode cX12_holds 10 = .ok (.aload_n 0, 1) := by decide +kernel
theorem dX12_holds_11 : decode cX12_holds 11 = .ok (.dup, 1) := by decide +kernel
theorem dX12_holds_12 : decode cX12_holds 12 = .ok (.getfield 123, 3) := by decide +kernel
theorem dX12_holds_15 : decode cX12_holds 15 = .ok (.iconst 1, 1) := by decide +kernel
theorem dX12_holds_16 : decode cX12_holds 16 = .ok (.iadd, 1) := by decide +kernel
theorem dX12_holds_17 : decode cX12_holds 17 = .ok (.putfield 123, 3) := by decide +kernel
theorem dX12_holds_20 : decode cX12_holds 20 = .ok (.return_, 1) := by decide +kernel
theorem dX12_lets_0 : decode cX12_lets 0 = .ok (.aload_n 0, 1) := by decide +kernel
theorem dX12_lets_1 : decode cX12_lets 1 = .ok (.dup, 1) := by decide +kernel
theorem dX12_lets_2 : decode cX12_lets 2 = .ok (.getfield 123, 3) := by decide +kernel
theorem dX12_lets_5 : decode cX12_lets 5 = .ok (.iconst 1, 1) := by decide +kernel
theorem dX12_lets_6 : decode cX12_lets 6 = .ok (.isub, 1) := by decide +kernel
theorem dX12_lets_7 : decode cX12_lets 7 = .ok (.putfield 123, 3) := by decide +kernel
theorem dX12_lets_10 : decode cX12_lets 10 = .ok (.aload_n 0, 1) := by decide +kernel
theorem dX12_lets_11 : decode cX12_lets 11 = .ok (.getfield 45, 3) := by decide +kernel
theorem dX12_lets_14 : decode cX12_lets 14 = .ok (.aload_n 0, 1) := by decide +kernel
theorem dX12_lets_15 : decode cX12_lets 15 = .ok (.getfield 123, 3) := by decide +kernel
theorem dX12_lets_18 : decode cX12_lets 18 = .ok (.iaload, 1) := by decide +kernel
theorem dX12_lets_19 : decode cX12_lets 19 = .ok (.istore_n 1, 1) := by decide +kernel
theorem dX12_lets_20 : decode cX12_lets 20 = .ok (.iload_n 1, 1) := by decide +kernel
theorem dX12_lets_21 : decode cX12_lets 21 = .ok (.bipush 8, 2) := by decide +kernel
theorem dX12_lets_23 : decode cX12_lets 23 = .ok (.if_icmp .eq 9, 3) := by decide +kernel
theorem dX12_lets_26 : decode cX12_lets 26 = .ok (.iload_n 1, 1) := by decide +kernel
theorem dX12_lets_27 : decode cX12_lets 27 = .ok (.bipush 9, 2) := by decide +kernel
theorem dX12_lets_29 : decode cX12_lets 29 = .ok (.if_icmp .ne 13, 3) := by decide +kernel
theorem dX12_lets_32 : decode cX12_lets 32 = .ok (.aload_n 0, 1) := by decide +kernel
theorem dX12_lets_33 : decode cX12_lets 33 = .ok (.dup, 1) := by decide +kernel
theorem dX12_lets_34 : decode cX12_lets 34 = .ok (.getfield 126, 3) := by decide +kernel
theorem dX12_lets_37 : decode cX12_lets 37 = .ok (.iconst 1, 1) := by decide +kernel
theorem dX12_lets_38 : decode cX12_lets 38 = .ok (.isub, 1) := by decide +kernel
theorem dX12_lets_39 : decode cX12_lets 39 = .ok (.putfield 126, 3) := by decide +kernel
theorem dX12_lets_42 : decode cX12_lets 42 = .ok (.aload_n 0, 1) := by decide +kernel
theorem dX12_lets_43 : decode cX12_lets 43 = .ok (.sipush 30000, 3) := by decide +kernel
theorem dX12_lets_46 : decode cX12_lets 46 = .ok (.iload_n 1, 1) := by decide +kernel
theorem dX12_lets_47 : decode cX12_lets 47 = .ok (.iadd, 1) := by decide +kernel
theorem dX12_lets_48 : decode cX12_lets 48 = .ok (.invokevirtual 88, 3) := by decide +kernel
theorem dX12_lets_51 : decode cX12_lets 51 = .ok (.return_, 1) := by decide +kernel
theorem dX12_letsFrom_0 : decode cX12_letsFrom 0 = .ok (.aload_n 0, 1) := by decide +kernel
theorem dX12_letsFrom_1 : decode cX12_letsFrom 1 = .ok (.getfield 123, 3) := by decide +kernel
theorem dX12_letsFrom_4 : decode cX12_letsFrom 4 = .ok (.ifCond .le 21, 3) := by decide +kernel
theorem dX12_letsFrom_7 : decode cX12_letsFrom 7 = .ok (.aload_n 0, 1) := by decide +kernel
theorem dX12_letsFrom_8 : decode cX12_letsFrom 8 = .ok (.invokevirtual 129, 3) := by decide +kernel
theorem dX12_letsFrom_11 : decode cX12_letsFrom 11 = .ok (.invokestatic 133, 3) := by decide +kernel
theorem dX12_letsFrom_14 : decode cX12_letsFrom 14 = .ok (.iload_n 1, 1) := by decide +kernel
theorem dX12_letsFrom_15 : decode cX12_letsFrom 15 = .ok (.if_icmp .lt 10, 3) := by decide +kernel
theorem dX12_letsFrom_18 : decode cX12_letsFrom 18 = .ok (.aload_n 0, 1) := by decide +kernel
theorem dX12_letsFrom_19 : decode cX12_letsFrom 19 = .ok (.invokevirtual 137, 3) := by decide +kernel
theorem dX12_letsFrom_22 : decode cX12_letsFrom 22 = .ok (.goto (-22), 3) := by decide +kernel
theorem dX12_letsFrom_25 : decode cX12_letsFrom 25 = .ok (.return_, 1) := by decide +kernel
theorem dX12_heightOf_0 : decode cX12_heightOf 0 = .ok (.iload_n 0, 1) := by decide +kernel
theorem dX12_heightOf_1 : decode cX12_heightOf 1 = .ok (.tableswitch 67 1 9 #[59, 59, 61, 57, 57, 53, 51, 55, 64], 51) := by decide +kernel
theorem dX12_heightOf_52 : decode cX12_heightOf 52 = .ok (.iconst 1, 1) := by decide +kernel
theorem dX12_heightOf_53 : decode cX12_heightOf 53 = .ok (.ireturn, 1) := by decide +kernel
theorem dX12_heightOf_54 : decode cX12_heightOf 54 = .ok (.iconst 2, 1) := by decide +kernel
theorem dX12_heightOf_55 : decode cX12_heightOf 55 = .ok (.ireturn, 1) := by decide +kernel
theorem dX12_heightOf_56 : decode cX12_heightOf 56 = .ok (.iconst 3, 1) := by decide +kernel
theorem dX12_heightOf_57 : decode cX12_heightOf 57 = .ok (.ireturn, 1) := by decide +kernel
theorem dX12_heightOf_58 : decode cX12_heightOf 58 = .ok (.iconst 4, 1) := by decide +kernel
theorem dX12_heightOf_59 : decode cX12_heightOf 59 = .ok (.ireturn, 1) := by decide +kernel
theorem dX12_heightOf_60 : decode cX12_heightOf 60 = .ok (.iconst 5, 1) := by decide +kernel
theorem dX12_heightOf_61 : decode cX12_heightOf 61 = .ok (.ireturn, 1) := by decide +kernel
theorem dX12_heightOf_62 : decode cX12_heightOf 62 = .ok (.bipush 6, 2) := by decide +kernel
theorem dX12_heightOf_64 : decode cX12_heightOf 64 = .ok (.ireturn, 1) := by decide +kernel
theorem dX12_heightOf_65 : decode cX12_heightOf 65 = .ok (.bipush 7, 2) := by decide +kernel
theorem dX12_heightOf_67 : decode cX12_heightOf 67 = .ok (.ireturn, 1) := by decide +kernel
theorem dX12_heightOf_68 : decode cX12_heightOf 68 = .ok (.iconst 0, 1) := by decide +kernel
theorem dX12_heightOf_69 : decode cX12_heightOf 69 = .ok (.ireturn, 1) := by decide +kernel
theorem dX12_mayNot_0 : decode cX12_mayNot 0 = .ok (.aload_n 0, 1) := by decide +kernel
theorem dX12_mayNot_1 : decode cX12_mayNot 1 = .ok (.invokevirtual 129, 3) := by decide +kernel
theorem dX12_mayNot_4 : decode cX12_mayNot 4 = .ok (.istore_n 1, 1) := by decide +kernel
theorem dX12_mayNot_5 : decode cX12_mayNot 5 = .ok (.aload_n 0, 1) := by decide +kernel
theorem dX12_mayNot_6 : decode cX12_mayNot 6 = .ok (.getfield 123, 3) := by decide +kernel
theorem dX12_mayNot_9 : decode cX12_mayNot 9 = .ok (.ifCond .eq 27, 3) := by decide +kernel
theorem dX12_mayNot_12 : decode cX12_mayNot 12 = .ok (.iload_n 1, 1) := by decide +kernel
theorem dX12_mayNot_13 : decode cX12_mayNot 13 = .ok (.bipush 10, 2) := by decide +kernel
theorem dX12_mayNot_15 : decode cX12_mayNot 15 = .ok (.if_icmp .eq 21, 3) := by decide +kernel
theorem dX12_mayNot_18 : decode cX12_mayNot 18 = .ok (.iload_n 1, 1) := by decide +kernel
theorem dX12_mayNot_19 : decode cX12_mayNot 19 = .ok (.bipush 7, 2) := by decide +kernel
theorem dX12_mayNot_21 : decode cX12_mayNot 21 = .ok (.if_icmp .eq 15, 3) := by decide +kernel
theorem dX12_mayNot_24 : decode cX12_mayNot 24 = .ok (.iload_n 1, 1) := by decide +kernel
theorem dX12_mayNot_25 : decode cX12_mayNot 25 = .ok (.bipush 6, 2) := by decide +kernel
theorem dX12_mayNot_27 : decode cX12_mayNot 27 = .ok (.if_icmp .eq 9, 3) := by decide +kernel
theorem dX12_mayNot_30 : decode cX12_mayNot 30 = .ok (.iload_n 1, 1) := by decide +kernel
theorem dX12_mayNot_31 : decode cX12_mayNot 31 = .ok (.bipush 8, 2) := by decide +kernel
theorem dX12_mayNot_33 : decode cX12_mayNot 33 = .ok (.if_icmp .ne 7, 3) := by decide +kernel
theorem dX12_mayNot_36 : decode cX12_mayNot 36 = .ok (.iconst 1, 1) := by decide +kernel
theorem dX12_mayNot_37 : decode cX12_mayNot 37 = .ok (.goto 4, 3) := by decide +kernel
theorem dX12_mayNot_40 : decode cX12_mayNot 40 = .ok (.iconst 0, 1) := by decide +kernel
theorem dX12_mayNot_41 : decode cX12_mayNot 41 = .ok (.ireturn, 1) := by decide +kernel
theorem dX12_ahead_0 : decode cX12_ahead 0 = .ok (.aload_n 0, 1) := by decide +kernel
theorem dX12_ahead_1 : decode cX12_ahead 1 = .ok (.getfield 109, 3) := by decide +kernel
theorem dX12_ahead_4 : decode cX12_ahead 4 = .ok (.bipush 100, 2) := by decide +kernel
theorem dX12_ahead_6 : decode cX12_ahead 6 = .ok (.if_icmp .eq 21, 3) := by decide +kernel
theorem dX12_ahead_9 : decode cX12_ahead 9 = .ok (.aload_n 0, 1) := by decide +kernel
theorem dX12_ahead_10 : decode cX12_ahead 10 = .ok (.getfield 109, 3) := by decide +kernel
theorem dX12_ahead_13 : decode cX12_ahead 13 = .ok (.bipush 101, 2) := by decide +kernel
theorem dX12_ahead_15 : decode cX12_ahead 15 = .ok (.if_icmp .ne 42, 3) := by decide +kernel
theorem dX12_ahead_18 : decode cX12_ahead 18 = .ok (.aload_n 0, 1) := by decide +kernel
theorem dX12_ahead_19 : decode cX12_ahead 19 = .ok (.getfield 112, 3) := by decide +kernel
theorem dX12_ahead_22 : decode cX12_ahead 22 = .ok (.bipush 6, 2) := by decide +kernel
theorem dX12_ahead_24 : decode cX12_ahead 24 = .ok (.if_icmp .ge 33, 3) := by decide +kernel
theorem dX12_ahead_27 : decode cX12_ahead 27 = .ok (.aload_n 0, 1) := by decide +kernel
theorem dX12_ahead_28 : decode cX12_ahead 28 = .ok (.aload_n 0, 1) := by decide +kernel
theorem dX12_ahead_29 : decode cX12_ahead 29 = .ok (.getfield 109, 3) := by decide +kernel
theorem dX12_ahead_32 : decode cX12_ahead 32 = .ok (.bipush 100, 2) := by decide +kernel
theorem dX12_ahead_34 : decode cX12_ahead 34 = .ok (.if_icmp .ne 10, 3) := by decide +kernel
theorem dX12_ahead_37 : decode cX12_ahead 37 = .ok (.aload_n 0, 1) := by decide +kernel
theorem dX12_ahead_38 : decode cX12_ahead 38 = .ok (.getfield 112, 3) := by decide +kernel
theorem dX12_ahead_41 : decode cX12_ahead 41 = .ok (.goto 11, 3) := by decide +kernel
theorem dX12_ahead_44 : decode cX12_ahead 44 = .ok (.sipush 20000, 3) := by decide +kernel
theorem dX12_ahead_47 : decode cX12_ahead 47 = .ok (.aload_n 0, 1) := by decide +kernel
theorem dX12_ahead_48 : decode cX12_ahead 48 = .ok (.getfield 112, 3) := by decide +kernel
theorem dX12_ahead_51 : decode cX12_ahead 51 = .ok (.iadd, 1) := by decide +kernel
theorem dX12_ahead_52 : decode cX12_ahead 52 = .ok (.invokevirtual 88, 3) := by decide +kernel
theorem dX12_ahead_55 : decode cX12_ahead 55 = .ok (.iconst 1, 1) := by decide +kernel
theorem dX12_ahead_56 : decode cX12_ahead 56 = .ok (.ireturn, 1) := by decide +kernel
theorem dX12_ahead_57 : decode cX12_ahead 57 = .ok (.aload_n 0, 1) := by decide +kernel
theorem dX12_ahead_58 : decode cX12_ahead 58 = .ok (.getfield 109, 3) := by decide +kernel
theorem dX12_ahead_61 : decode cX12_ahead 61 = .ok (.bipush 101, 2) := by decide +kernel
theorem dX12_ahead_63 : decode cX12_ahead 63 = .ok (.if_icmp .ne 24, 3) := by decide +kernel
theorem dX12_ahead_66 : decode cX12_ahead 66 = .ok (.aload_n 0, 1) := by decide +kernel
theorem dX12_ahead_67 : decode cX12_ahead 67 = .ok (.getfield 112, 3) := by decide +kernel
theorem dX12_ahead_70 : decode cX12_ahead 70 = .ok (.bipush 11, 2) := by decide +kernel
theorem dX12_ahead_72 : decode cX12_ahead 72 = .ok (.if_icmp .ne 15, 3) := by decide +kernel
theorem dX12_ahead_75 : decode cX12_ahead 75 = .ok (.aload_n 0, 1) := by decide +kernel
theorem dX12_ahead_76 : decode cX12_ahead 76 = .ok (.invokevirtual 140, 3) := by decide +kernel
theorem dX12_ahead_79 : decode cX12_ahead 79 = .ok (.ifCond .eq 8, 3) := by decide +kernel
theorem dX12_ahead_82 : decode cX12_ahead 82 = .ok (.bipush 8, 2) := by decide +kernel
theorem dX12_ahead_84 : decode cX12_ahead 84 = .ok (.goto 50, 3) := by decide +kernel
theorem dX12_ahead_87 : decode cX12_ahead 87 = .ok (.aload_n 0, 1) := by decide +kernel
theorem dX12_ahead_88 : decode cX12_ahead 88 = .ok (.getfield 109, 3) := by decide +kernel
theorem dX12_ahead_91 : decode cX12_ahead 91 = .ok (.bipush 102, 2) := by decide +kernel
theorem dX12_ahead_93 : decode cX12_ahead 93 = .ok (.if_icmp .ne 17, 3) := by decide +kernel
theorem dX12_ahead_96 : decode cX12_ahead 96 = .ok (.aload_n 0, 1) := by decide +kernel
theorem dX12_ahead_97 : decode cX12_ahead 97 = .ok (.getfield 112, 3) := by decide +kernel
theorem dX12_ahead_100 : decode cX12_ahead 100 = .ok (.bipush 45, 2) := by decide +kernel
theorem dX12_ahead_102 : decode cX12_ahead 102 = .ok (.if_icmp .ne 8, 3) := by decide +kernel
theorem dX12_ahead_105 : decode cX12_ahead 105 = .ok (.bipush 9, 2) := by decide +kernel
theorem dX12_ahead_107 : decode cX12_ahead 107 = .ok (.goto 27, 3) := by decide +kernel
theorem dX12_ahead_110 : decode cX12_ahead 110 = .ok (.aload_n 0, 1) := by decide +kernel
theorem dX12_ahead_111 : decode cX12_ahead 111 = .ok (.getfield 109, 3) := by decide +kernel
theorem dX12_ahead_114 : decode cX12_ahead 114 = .ok (.bipush 102, 2) := by decide +kernel
theorem dX12_ahead_116 : decode cX12_ahead 116 = .ok (.if_icmp .ne 17, 3) := by decide +kernel
theorem dX12_ahead_119 : decode cX12_ahead 119 = .ok (.aload_n 0, 1) := by decide +kernel
theorem dX12_ahead_120 : decode cX12_ahead 120 = .ok (.getfield 112, 3) := by decide +kernel
theorem dX12_ahead_123 : decode cX12_ahead 123 = .ok (.bipush 40, 2) := by decide +kernel
theorem dX12_ahead_125 : decode cX12_ahead 125 = .ok (.if_icmp .ne 8, 3) := by decide +kernel
theorem dX12_ahead_128 : decode cX12_ahead 128 = .ok (.bipush 10, 2) := by decide +kernel
theorem dX12_ahead_130 : decode cX12_ahead 130 = .ok (.goto 4, 3) := by decide +kernel
theorem dX12_ahead_133 : decode cX12_ahead 133 = .ok (.iconst 0, 1) := by decide +kernel
theorem dX12_ahead_134 : decode cX12_ahead 134 = .ok (.istore_n 1, 1) := by decide +kernel
theorem dX12_ahead_135 : decode cX12_ahead 135 = .ok (.iload_n 1, 1) := by decide +kernel
theorem dX12_ahead_136 : decode cX12_ahead 136 = .ok (.ifCond .eq 11, 3) := by decide +kernel
theorem dX12_ahead_139 : decode cX12_ahead 139 = .ok (.aload_n 0, 1) := by decide +kernel
theorem dX12_ahead_140 : decode cX12_ahead 140 = .ok (.getfield 126, 3) := by decide +kernel
theorem dX12_ahead_143 : decode cX12_ahead 143 = .ok (.iconst 5, 1) := by decide +kernel
theorem dX12_ahead_144 : decode cX12_ahead 144 = .ok (.if_icmp .ne 5, 3) := by decide +kernel
theorem dX12_ahead_147 : decode cX12_ahead 147 = .ok (.iconst (-1), 1) := by decide +kernel
theorem dX12_ahead_148 : decode cX12_ahead 148 = .ok (.ireturn, 1) := by decide +kernel
theorem dX12_ahead_149 : decode cX12_ahead 149 = .ok (.aload_n 0, 1) := by decide +kernel
theorem dX12_ahead_150 : decode cX12_ahead 150 = .ok (.dup, 1) := by decide +kernel
theorem dX12_ahead_151 : decode cX12_ahead 151 = .ok (.getfield 126, 3) := by decide +kernel
theorem dX12_ahead_154 : decode cX12_ahead 154 = .ok (.iconst 1, 1) := by decide +kernel
theorem dX12_ahead_155 : decode cX12_ahead 155 = .ok (.iadd, 1) := by decide +kernel
theorem dX12_ahead_156 : decode cX12_ahead 156 = .ok (.putfield 126, 3) := by decide +kernel
theorem dX12_ahead_159 : decode cX12_ahead 159 = .ok (.aload_n 0, 1) := by decide +kernel
theorem dX12_ahead_160 : decode cX12_ahead 160 = .ok (.iload_n 1, 1) := by decide +kernel
theorem dX12_ahead_161 : decode cX12_ahead 161 = .ok (.invokevirtual 144, 3) := by decide +kernel
theorem dX12_ahead_164 : decode cX12_ahead 164 = .ok (.iconst 0, 1) := by decide +kernel
theorem dX12_ahead_165 : decode cX12_ahead 165 = .ok (.ireturn, 1) := by decide +kernel
theorem dX12_deedOf_0 : decode cX12_deedOf 0 = .ok (.iload_n 0, 1) := by decide +kernel
theorem dX12_deedOf_1 : decode cX12_deedOf 1 = .ok (.bipush 43, 2) := by decide +kernel
theorem dX12_deedOf_3 : decode cX12_deedOf 3 = .ok (.if_icmp .ne 7, 3) := by decide +kernel
theorem dX12_deedOf_6 : decode cX12_deedOf 6 = .ok (.iconst 1, 1) := by decide +kernel
theorem dX12_deedOf_7 : decode cX12_deedOf 7 = .ok (.goto 44, 3) := by decide +kernel
theorem dX12_deedOf_10 : decode cX12_deedOf 10 = .ok (.iload_n 0, 1) := by decide +kernel
theorem dX12_deedOf_11 : decode cX12_deedOf 11 = .ok (.bipush 45, 2) := by decide +kernel
theorem dX12_deedOf_13 : decode cX12_deedOf 13 = .ok (.if_icmp .ne 7, 3) := by decide +kernel
theorem dX12_deedOf_16 : decode cX12_deedOf 16 = .ok (.iconst 2, 1) := by decide +kernel
theorem dX12_deedOf_17 : decode cX12_deedOf 17 = .ok (.goto 34, 3) := by decide +kernel
theorem dX12_deedOf_20 : decode cX12_deedOf 20 = .ok (.iload_n 0, 1) := by decide +kernel
theorem dX12_deedOf_21 : decode cX12_deedOf 21 = .ok (.bipush 42, 2) := by decide +kernel
theorem dX12_deedOf_23 : decode cX12_deedOf 23 = .ok (.if_icmp .ne 7, 3) := by decide +kernel
theorem dX12_deedOf_26 : decode cX12_deedOf 26 = .ok (.iconst 3, 1) := by decide +kernel
theorem dX12_deedOf_27 : decode cX12_deedOf 27 = .ok (.goto 24, 3) := by decide +kernel
theorem dX12_deedOf_30 : decode cX12_deedOf 30 = .ok (.iload_n 0, 1) := by decide +kernel
theorem dX12_deedOf_31 : decode cX12_deedOf 31 = .ok (.bipush 60, 2) := by decide +kernel
theorem dX12_deedOf_33 : decode cX12_deedOf 33 = .ok (.if_icmp .ne 7, 3) := by decide +kernel
theorem dX12_deedOf_36 : decode cX12_deedOf 36 = .ok (.iconst 4, 1) := by decide +kernel
theorem dX12_deedOf_37 : decode cX12_deedOf 37 = .ok (.goto 14, 3) := by decide +kernel
theorem dX12_deedOf_40 : decode cX12_deedOf 40 = .ok (.iload_n 0, 1) := by decide +kernel
theorem dX12_deedOf_41 : decode cX12_deedOf 41 = .ok (.bipush 61, 2) := by decide +kernel
theorem dX12_deedOf_43 : decode cX12_deedOf 43 = .ok (.if_icmp .ne 7, 3) := by decide +kernel
theorem dX12_deedOf_46 : decode cX12_deedOf 46 = .ok (.iconst 5, 1) := by decide +kernel
theorem dX12_deedOf_47 : decode cX12_deedOf 47 = .ok (.goto 4, 3) := by decide +kernel
theorem dX12_deedOf_50 : decode cX12_deedOf 50 = .ok (.iconst 0, 1) := by decide +kernel
theorem dX12_deedOf_51 : decode cX12_deedOf 51 = .ok (.ireturn, 1) := by decide +kernel
theorem dX12_behind_0 : decode cX12_behind 0 = .ok (.aload_n 0, 1) := by decide +kernel
theorem dX12_behind_1 : decode cX12_behind 1 = .ok (.bipush 7, 2) := by decide +kernel
theorem dX12_behind_3 : decode cX12_behind 3 = .ok (.invokevirtual 147, 3) := by decide +kernel
theorem dX12_behind_6 : decode cX12_behind 6 = .ok (.aload_n 0, 1) := by decide +kernel
theorem dX12_behind_7 : decode cX12_behind 7 = .ok (.getfield 109, 3) := by decide +kernel
theorem dX12_behind_10 : decode cX12_behind 10 = .ok (.bipush 102, 2) := by decide +kernel
theorem dX12_behind_12 : decode cX12_behind 12 = .ok (.if_icmp .ne 13, 3) := by decide +kernel
theorem dX12_behind_15 : decode cX12_behind 15 = .ok (.aload_n 0, 1) := by decide +kernel
theorem dX12_behind_16 : decode cX12_behind 16 = .ok (.getfield 112, 3) := by decide +kernel
theorem dX12_behind_19 : decode cX12_behind 19 = .ok (.invokestatic 150, 3) := by decide +kernel
theorem dX12_behind_22 : decode cX12_behind 22 = .ok (.goto 50, 3) := by decide +kernel
theorem dX12_behind_25 : decode cX12_behind 25 = .ok (.aload_n 0, 1) := by decide +kernel
theorem dX12_behind_26 : decode cX12_behind 26 = .ok (.getfield 109, 3) := by decide +kernel
theorem dX12_behind_29 : decode cX12_behind 29 = .ok (.bipush 101, 2) := by decide +kernel
theorem dX12_behind_31 : decode cX12_behind 31 = .ok (.if_icmp .ne 17, 3) := by decide +kernel
theorem dX12_behind_34 : decode cX12_behind 34 = .ok (.aload_n 0, 1) := by decide +kernel
theorem dX12_behind_35 : decode cX12_behind 35 = .ok (.getfield 112, 3) := by decide +kernel
theorem dX12_behind_38 : decode cX12_behind 38 = .ok (.bipush 9, 2) := by decide +kernel
theorem dX12_behind_40 : decode cX12_behind 40 = .ok (.if_icmp .ne 8, 3) := by decide +kernel
theorem dX12_behind_43 : decode cX12_behind 43 = .ok (.bipush 7, 2) := by decide +kernel
theorem dX12_behind_45 : decode cX12_behind 45 = .ok (.goto 27, 3) := by decide +kernel
theorem dX12_behind_48 : decode cX12_behind 48 = .ok (.aload_n 0, 1) := by decide +kernel
theorem dX12_behind_49 : decode cX12_behind 49 = .ok (.getfield 109, 3) := by decide +kernel
theorem dX12_behind_52 : decode cX12_behind 52 = .ok (.bipush 101, 2) := by decide +kernel
theorem dX12_behind_54 : decode cX12_behind 54 = .ok (.if_icmp .ne 17, 3) := by decide +kernel
theorem dX12_behind_57 : decode cX12_behind 57 = .ok (.aload_n 0, 1) := by decide +kernel
theorem dX12_behind_58 : decode cX12_behind 58 = .ok (.getfield 112, 3) := by decide +kernel
theorem dX12_behind_61 : decode cX12_behind 61 = .ok (.bipush 10, 2) := by decide +kernel
theorem dX12_behind_63 : decode cX12_behind 63 = .ok (.if_icmp .ne 8, 3) := by decide +kernel
theorem dX12_behind_66 : decode cX12_behind 66 = .ok (.bipush 6, 2) := by decide +kernel
theorem dX12_behind_68 : decode cX12_behind 68 = .ok (.goto 4, 3) := by decide +kernel
theorem dX12_behind_71 : decode cX12_behind 71 = .ok (.iconst 0, 1) := by decide +kernel
theorem dX12_behind_72 : decode cX12_behind 72 = .ok (.istore_n 1, 1) := by decide +kernel
theorem dX12_behind_73 : decode cX12_behind 73 = .ok (.iload_n 1, 1) := by decide +kernel
theorem dX12_behind_74 : decode cX12_behind 74 = .ok (.ifCond .eq 51, 3) := by decide +kernel
theorem dX12_behind_77 : decode cX12_behind 77 = .ok (.iload_n 1, 1) := by decide +kernel
theorem dX12_behind_78 : decode cX12_behind 78 = .ok (.iconst 4, 1) := by decide +kernel
theorem dX12_behind_79 : decode cX12_behind 79 = .ok (.if_icmp .eq 8, 3) := by decide +kernel
theorem dX12_behind_82 : decode cX12_behind 82 = .ok (.iload_n 1, 1) := by decide +kernel
theorem dX12_behind_83 : decode cX12_behind 83 = .ok (.iconst 5, 1) := by decide +kernel
theorem dX12_behind_84 : decode cX12_behind 84 = .ok (.if_icmp .ne 26, 3) := by decide +kernel
theorem dX12_behind_87 : decode cX12_behind 87 = .ok (.aload_n 0, 1) := by decide +kernel
theorem dX12_behind_88 : decode cX12_behind 88 = .ok (.iconst 5, 1) := by decide +kernel
theorem dX12_behind_89 : decode cX12_behind 89 = .ok (.invokevirtual 147, 3) := by decide +kernel
theorem dX12_behind_92 : decode cX12_behind 92 = .ok (.aload_n 0, 1) := by decide +kernel
theorem dX12_behind_93 : decode cX12_behind 93 = .ok (.invokevirtual 129, 3) := by decide +kernel
theorem dX12_behind_96 : decode cX12_behind 96 = .ok (.iconst 4, 1) := by decide +kernel
theorem dX12_behind_97 : decode cX12_behind 97 = .ok (.if_icmp .eq 11, 3) := by decide +kernel
theorem dX12_behind_100 : decode cX12_behind 100 = .ok (.aload_n 0, 1) := by decide +kernel
theorem dX12_behind_101 : decode cX12_behind 101 = .ok (.invokevirtual 129, 3) := by decide +kernel
theorem dX12_behind_104 : decode cX12_behind 104 = .ok (.iconst 5, 1) := by decide +kernel
theorem dX12_behind_105 : decode cX12_behind 105 = .ok (.if_icmp .ne 13, 3) := by decide +kernel
theorem dX12_behind_108 : decode cX12_behind 108 = .ok (.iconst (-1), 1) := by decide +kernel
theorem dX12_behind_109 : decode cX12_behind 109 = .ok (.ireturn, 1) := by decide +kernel
theorem dX12_behind_110 : decode cX12_behind 110 = .ok (.aload_n 0, 1) := by decide +kernel
theorem dX12_behind_111 : decode cX12_behind 111 = .ok (.iload_n 1, 1) := by decide +kernel
theorem dX12_behind_112 : decode cX12_behind 112 = .ok (.invokestatic 133, 3) := by decide +kernel
theorem dX12_behind_115 : decode cX12_behind 115 = .ok (.invokevirtual 147, 3) := by decide +kernel
theorem dX12_behind_118 : decode cX12_behind 118 = .ok (.aload_n 0, 1) := by decide +kernel
theorem dX12_behind_119 : decode cX12_behind 119 = .ok (.iload_n 1, 1) := by decide +kernel
theorem dX12_behind_120 : decode cX12_behind 120 = .ok (.invokevirtual 144, 3) := by decide +kernel
theorem dX12_behind_123 : decode cX12_behind 123 = .ok (.iconst 1, 1) := by decide +kernel
theorem dX12_behind_124 : decode cX12_behind 124 = .ok (.ireturn, 1) := by decide +kernel
theorem dX12_behind_125 : decode cX12_behind 125 = .ok (.aload_n 0, 1) := by decide +kernel
theorem dX12_behind_126 : decode cX12_behind 126 = .ok (.getfield 109, 3) := by decide +kernel
theorem dX12_behind_129 : decode cX12_behind 129 = .ok (.bipush 102, 2) := by decide +kernel
theorem dX12_behind_131 : decode cX12_behind 131 = .ok (.if_icmp .ne 21, 3) := by decide +kernel
theorem dX12_behind_134 : decode cX12_behind 134 = .ok (.aload_n 0, 1) := by decide +kernel
theorem dX12_behind_135 : decode cX12_behind 135 = .ok (.getfield 112, 3) := by decide +kernel
theorem dX12_behind_138 : decode cX12_behind 138 = .ok (.bipush 59, 2) := by decide +kernel
theorem dX12_behind_140 : decode cX12_behind 140 = .ok (.if_icmp .eq 14, 3) := by decide +kernel
theorem dX12_behind_143 : decode cX12_behind 143 = .ok (.aload_n 0, 1) := by decide +kernel
theorem dX12_behind_144 : decode cX12_behind 144 = .ok (.getfield 112, 3) := by decide +kernel
theorem dX12_behind_147 : decode cX12_behind 147 = .ok (.bipush 41, 2) := by decide +kernel
theorem dX12_behind_149 : decode cX12_behind 149 = .ok (.if_icmp .eq 5, 3) := by decide +kernel
theorem dX12_behind_152 : decode cX12_behind 152 = .ok (.iconst (-1), 1) := by decide +kernel
theorem dX12_behind_153 : decode cX12_behind 153 = .ok (.ireturn, 1) := by decide +kernel
theorem dX12_behind_154 : decode cX12_behind 154 = .ok (.aload_n 0, 1) := by decide +kernel
theorem dX12_behind_155 : decode cX12_behind 155 = .ok (.iconst 1, 1) := by decide +kernel
theorem dX12_behind_156 : decode cX12_behind 156 = .ok (.invokevirtual 147, 3) := by decide +kernel
theorem dX12_behind_159 : decode cX12_behind 159 = .ok (.aload_n 0, 1) := by decide +kernel
theorem dX12_behind_160 : decode cX12_behind 160 = .ok (.getfield 112, 3) := by decide +kernel
theorem dX12_behind_163 : decode cX12_behind 163 = .ok (.bipush 59, 2) := by decide +kernel
theorem dX12_behind_165 : decode cX12_behind 165 = .ok (.if_icmp .ne 16, 3) := by decide +kernel
theorem dX12_behind_168 : decode cX12_behind 168 = .ok (.aload_n 0, 1) := by decide +kernel
theorem dX12_behind_169 : decode cX12_behind 169 = .ok (.getfield 123, 3) := by decide +kernel
theorem dX12_behind_172 : decode cX12_behind 172 = .ok (.ifCond .ne 7, 3) := by decide +kernel
theorem dX12_behind_175 : decode cX12_behind 175 = .ok (.iconst 2, 1) := by decide +kernel
theorem dX12_behind_176 : decode cX12_behind 176 = .ok (.goto 4, 3) := by decide +kernel
theorem dX12_behind_179 : decode cX12_behind 179 = .ok (.iconst (-1), 1) := by decide +kernel
theorem dX12_behind_180 : decode cX12_behind 180 = .ok (.ireturn, 1) := by decide +kernel
theorem dX12_behind_181 : decode cX12_behind 181 = .ok (.aload_n 0, 1) := by decide +kernel
theorem dX12_behind_182 : decode cX12_behind 182 = .ok (.getfield 123, 3) := by decide +kernel
theorem dX12_behind_185 : decode cX12_behind 185 = .ok (.ifCond .ne 5, 3) := by decide +kernel
theorem dX12_behind_188 : decode cX12_behind 188 = .ok (.iconst (-1), 1) := by decide +kernel
theorem dX12_behind_189 : decode cX12_behind 189 = .ok (.ireturn, 1) := by decide +kernel
theorem dX12_behind_190 : decode cX12_behind 190 = .ok (.aload_n 0, 1) := by decide +kernel
theorem dX12_behind_191 : decode cX12_behind 191 = .ok (.dup, 1) := by decide +kernel
theorem dX12_behind_192 : decode cX12_behind 192 = .ok (.getfield 123, 3) := by decide +kernel
theorem dX12_behind_195 : decode cX12_behind 195 = .ok (.iconst 1, 1) := by decide +kernel
theorem dX12_behind_196 : decode cX12_behind 196 = .ok (.isub, 1) := by decide +kernel
theorem dX12_behind_197 : decode cX12_behind 197 = .ok (.putfield 123, 3) := by decide +kernel
theorem dX12_behind_200 : decode cX12_behind 200 = .ok (.aload_n 0, 1) := by decide +kernel
theorem dX12_behind_201 : decode cX12_behind 201 = .ok (.dup, 1) := by decide +kernel
theorem dX12_behind_202 : decode cX12_behind 202 = .ok (.getfield 126, 3) := by decide +kernel
theorem dX12_behind_205 : decode cX12_behind 205 = .ok (.iconst 1, 1) := by decide +kernel
theorem dX12_behind_206 : decode cX12_behind 206 = .ok (.isub, 1) := by decide +kernel
theorem dX12_behind_207 : decode cX12_behind 207 = .ok (.putfield 126, 3) := by decide +kernel
theorem dX12_behind_210 : decode cX12_behind 210 = .ok (.iconst 0, 1) := by decide +kernel
theorem dX12_behind_211 : decode cX12_behind 211 = .ok (.ireturn, 1) := by decide +kernel
theorem dX12_readsRow_0 : decode cX12_readsRow 0 = .ok (.aload_n 0, 1) := by decide +kernel
theorem dX12_readsRow_1 : decode cX12_readsRow 1 = .ok (.getfield 42, 3) := by decide +kernel
theorem dX12_readsRow_4 : decode cX12_readsRow 4 = .ok (.aload_n 0, 1) := by decide +kernel
theorem dX12_readsRow_5 : decode cX12_readsRow 5 = .ok (.getfield 85, 3) := by decide +kernel
theorem dX12_readsRow_8 : decode cX12_readsRow 8 = .ok (.iconst 0, 1) := by decide +kernel
theorem dX12_readsRow_9 : decode cX12_readsRow 9 = .ok (.iastore, 1) := by decide +kernel
theorem dX12_readsRow_10 : decode cX12_readsRow 10 = .ok (.aload_n 0, 1) := by decide +kernel
theorem dX12_readsRow_11 : decode cX12_readsRow 11 = .ok (.iconst 0, 1) := by decide +kernel
theorem dX12_readsRow_12 : decode cX12_readsRow 12 = .ok (.putfield 123, 3) := by decide +kernel
theorem dX12_readsRow_15 : decode cX12_readsRow 15 = .ok (.aload_n 0, 1) := by decide +kernel
theorem dX12_readsRow_16 : decode cX12_readsRow 16 = .ok (.iconst 0, 1) := by decide +kernel
theorem dX12_readsRow_17 : decode cX12_readsRow 17 = .ok (.putfield 126, 3) := by decide +kernel
theorem dX12_readsRow_20 : decode cX12_readsRow 20 = .ok (.iconst 1, 1) := by decide +kernel
theorem dX12_readsRow_21 : decode cX12_readsRow 21 = .ok (.istore_n 1, 1) := by decide +kernel
theorem dX12_readsRow_22 : decode cX12_readsRow 22 = .ok (.iload_n 1, 1) := by decide +kernel
theorem dX12_readsRow_23 : decode cX12_readsRow 23 = .ok (.ifCond .eq 10, 3) := by decide +kernel
theorem dX12_readsRow_26 : decode cX12_readsRow 26 = .ok (.aload_n 0, 1) := by decide +kernel
theorem dX12_readsRow_27 : decode cX12_readsRow 27 = .ok (.invokevirtual 153, 3) := by decide +kernel
theorem dX12_readsRow_30 : decode cX12_readsRow 30 = .ok (.goto 7, 3) := by decide +kernel
theorem dX12_readsRow_33 : decode cX12_readsRow 33 = .ok (.aload_n 0, 1) := by decide +kernel
theorem dX12_readsRow_34 : decode cX12_readsRow 34 = .ok (.invokevirtual 156, 3) := by decide +kernel
theorem dX12_readsRow_37 : decode cX12_readsRow 37 = .ok (.istore_n 2, 1) := by decide +kernel
theorem dX12_readsRow_38 : decode cX12_readsRow 38 = .ok (.iload_n 2, 1) := by decide +kernel
theorem dX12_readsRow_39 : decode cX12_readsRow 39 = .ok (.ifCond .ge 5, 3) := by decide +kernel
theorem dX12_readsRow_42 : decode cX12_readsRow 42 = .ok (.iconst 0, 1) := by decide +kernel
theorem dX12_readsRow_43 : decode cX12_readsRow 43 = .ok (.ireturn, 1) := by decide +kernel
theorem dX12_readsRow_44 : decode cX12_readsRow 44 = .ok (.iload_n 1, 1) := by decide +kernel
theorem dX12_readsRow_45 : decode cX12_readsRow 45 = .ok (.ifCond .ne 12, 3) := by decide +kernel
theorem dX12_readsRow_48 : decode cX12_readsRow 48 = .ok (.iload_n 2, 1) := by decide +kernel
theorem dX12_readsRow_49 : decode cX12_readsRow 49 = .ok (.iconst 2, 1) := by decide +kernel
theorem dX12_readsRow_50 : decode cX12_readsRow 50 = .ok (.if_icmp .ne 7, 3) := by decide +kernel
theorem dX12_readsRow_53 : decode cX12_readsRow 53 = .ok (.iconst 1, 1) := by decide +kernel
theorem dX12_readsRow_54 : decode cX12_readsRow 54 = .ok (.goto 4, 3) := by decide +kernel
theorem dX12_readsRow_57 : decode cX12_readsRow 57 = .ok (.iconst 0, 1) := by decide +kernel
theorem dX12_readsRow_58 : decode cX12_readsRow 58 = .ok (.istore_n 3, 1) := by decide +kernel
theorem dX12_readsRow_59 : decode cX12_readsRow 59 = .ok (.iload_n 1, 1) := by decide +kernel
theorem dX12_readsRow_60 : decode cX12_readsRow 60 = .ok (.ifCond .eq 15, 3) := by decide +kernel
theorem dX12_readsRow_63 : decode cX12_readsRow 63 = .ok (.iload_n 2, 1) := by decide +kernel
theorem dX12_readsRow_64 : decode cX12_readsRow 64 = .ok (.ifCond .ne 7, 3) := by decide +kernel
theorem dX12_readsRow_67 : decode cX12_readsRow 67 = .ok (.iconst 1, 1) := by decide +kernel
theorem dX12_readsRow_68 : decode cX12_readsRow 68 = .ok (.goto 17, 3) := by decide +kernel
theorem dX12_readsRow_71 : decode cX12_readsRow 71 = .ok (.iconst 0, 1) := by decide +kernel
theorem dX12_readsRow_72 : decode cX12_readsRow 72 = .ok (.goto 13, 3) := by decide +kernel
theorem dX12_readsRow_75 : decode cX12_readsRow 75 = .ok (.iload_n 2, 1) := by decide +kernel
theorem dX12_readsRow_76 : decode cX12_readsRow 76 = .ok (.iconst 1, 1) := by decide +kernel
theorem dX12_readsRow_77 : decode cX12_readsRow 77 = .ok (.if_icmp .ne 7, 3) := by decide +kernel
theorem dX12_readsRow_80 : decode cX12_readsRow 80 = .ok (.iconst 1, 1) := by decide +kernel
theorem dX12_readsRow_81 : decode cX12_readsRow 81 = .ok (.goto 4, 3) := by decide +kernel
theorem dX12_readsRow_84 : decode cX12_readsRow 84 = .ok (.iconst 0, 1) := by decide +kernel
theorem dX12_readsRow_85 : decode cX12_readsRow 85 = .ok (.istore_n 1, 1) := by decide +kernel
theorem dX12_readsRow_86 : decode cX12_readsRow 86 = .ok (.aload_n 0, 1) := by decide +kernel
theorem dX12_readsRow_87 : decode cX12_readsRow 87 = .ok (.invokevirtual 159, 3) := by decide +kernel
theorem dX12_readsRow_90 : decode cX12_readsRow 90 = .ok (.iload_n 3, 1) := by decide +kernel
theorem dX12_readsRow_91 : decode cX12_readsRow 91 = .ok (.ifCond .eq 5, 3) := by decide +kernel
theorem dX12_readsRow_94 : decode cX12_readsRow 94 = .ok (.iconst 1, 1) := by decide +kernel
theorem dX12_readsRow_95 : decode cX12_readsRow 95 = .ok (.ireturn, 1) := by decide +kernel
theorem dX12_readsRow_96 : decode cX12_readsRow 96 = .ok (.goto (-74), 3) := by decide +kernel
theorem dX12_text_0 : decode cX12_text 0 = .ok (.aload_n 0, 1) := by decide +kernel
theorem dX12_text_1 : decode cX12_text 1 = .ok (.getfield 51, 3) := by decide +kernel
theorem dX12_text_4 : decode cX12_text 4 = .ok (.bipush 6, 2) := by decide +kernel
theorem dX12_text_6 : decode cX12_text 6 = .ok (.if_icmp .ne 6, 3) := by decide +kernel
theorem dX12_text_9 : decode cX12_text 9 = .ok (.bipush (-4), 2) := by decide +kernel
theorem dX12_text_11 : decode cX12_text 11 = .ok (.ireturn, 1) := by decide +kernel
theorem dX12_text_12 : decode cX12_text 12 = .ok (.aload_n 0, 1) := by decide +kernel
theorem dX12_text_13 : decode cX12_text 13 = .ok (.iconst 0, 1) := by decide +kernel
theorem dX12_text_14 : decode cX12_text 14 = .ok (.putfield 99, 3) := by decide +kernel
theorem dX12_text_17 : decode cX12_text 17 = .ok (.aload_n 0, 1) := by decide +kernel
theorem dX12_text_18 : decode cX12_text 18 = .ok (.invokevirtual 159, 3) := by decide +kernel
theorem dX12_text_21 : decode cX12_text 21 = .ok (.iconst 1, 1) := by decide +kernel
theorem dX12_text_22 : decode cX12_text 22 = .ok (.istore_n 1, 1) := by decide +kernel
theorem dX12_text_23 : decode cX12_text 23 = .ok (.iconst 0, 1) := by decide +kernel
theorem dX12_text_24 : decode cX12_text 24 = .ok (.istore_n 2, 1) := by decide +kernel
theorem dX12_text_25 : decode cX12_text 25 = .ok (.iload_n 2, 1) := by decide +kernel
theorem dX12_text_26 : decode cX12_text 26 = .ok (.iconst 3, 1) := by decide +kernel
theorem dX12_text_27 : decode cX12_text 27 = .ok (.if_icmp .ge 67, 3) := by decide +kernel
theorem dX12_text_30 : decode cX12_text 30 = .ok (.iload_n 1, 1) := by decide +kernel
theorem dX12_text_31 : decode cX12_text 31 = .ok (.ifCond .eq 63, 3) := by decide +kernel
theorem dX12_text_34 : decode cX12_text 34 = .ok (.aload_n 0, 1) := by decide +kernel
theorem dX12_text_35 : decode cX12_text 35 = .ok (.getfield 109, 3) := by decide +kernel
theorem dX12_text_38 : decode cX12_text 38 = .ok (.bipush 101, 2) := by decide +kernel
theorem dX12_text_40 : decode cX12_text 40 = .ok (.if_icmp .ne 18, 3) := by decide +kernel
theorem dX12_text_43 : decode cX12_text 43 = .ok (.aload_n 0, 1) := by decide +kernel
theorem dX12_text_44 : decode cX12_text 44 = .ok (.getfield 112, 3) := by decide +kernel
theorem dX12_text_47 : decode cX12_text 47 = .ok (.bipush 6, 2) := by decide +kernel
theorem dX12_text_49 : decode cX12_text 49 = .ok (.iload_n 2, 1) := by decide +kernel
theorem dX12_text_50 : decode cX12_text 50 = .ok (.iadd, 1) := by decide +kernel
theorem dX12_text_51 : decode cX12_text 51 = .ok (.if_icmp .ne 7, 3) := by decide +kernel
theorem dX12_text_54 : decode cX12_text 54 = .ok (.iconst 1, 1) := by decide +kernel
theorem dX12_text_55 : decode cX12_text 55 = .ok (.goto 4, 3) := by decide +kernel
theorem dX12_text_58 : decode cX12_text 58 = .ok (.iconst 0, 1) := by decide +kernel
theorem dX12_text_59 : decode cX12_text 59 = .ok (.istore_n 1, 1) := by decide +kernel
theorem dX12_text_60 : decode cX12_text 60 = .ok (.iload_n 1, 1) := by decide +kernel
theorem dX12_text_61 : decode cX12_text 61 = .ok (.ifCond .ne 6, 3) := by decide +kernel
theorem dX12_text_64 : decode cX12_text 64 = .ok (.goto 24, 3) := by decide +kernel
theorem dX12_text_67 : decode cX12_text 67 = .ok (.aload_n 0, 1) := by decide +kernel
theorem dX12_text_68 : decode cX12_text 68 = .ok (.invokevirtual 159, 3) := by decide +kernel
theorem dX12_text_71 : decode cX12_text 71 = .ok (.aload_n 0, 1) := by decide +kernel
theorem dX12_text_72 : decode cX12_text 72 = .ok (.iconst 3, 1) := by decide +kernel
theorem dX12_text_73 : decode cX12_text 73 = .ok (.aload_n 0, 1) := by decide +kernel
theorem dX12_text_74 : decode cX12_text 74 = .ok (.getfield 51, 3) := by decide +kernel
theorem dX12_text_77 : decode cX12_text 77 = .ok (.imul, 1) := by decide +kernel
theorem dX12_text_78 : decode cX12_text 78 = .ok (.iload_n 2, 1) := by decide +kernel
theorem dX12_text_79 : decode cX12_text 79 = .ok (.iadd, 1) := by decide +kernel
theorem dX12_text_80 : decode cX12_text 80 = .ok (.putfield 85, 3) := by decide +kernel
theorem dX12_text_83 : decode cX12_text 83 = .ok (.aload_n 0, 1) := by decide +kernel
theorem dX12_text_84 : decode cX12_text 84 = .ok (.invokevirtual 162, 3) := by decide +kernel
theorem dX12_text_87 : decode cX12_text 87 = .ok (.istore_n 1, 1) := by decide +kernel
theorem dX12_text_88 : decode cX12_text 88 = .ok (.iinc 2 1, 3) := by decide +kernel
theorem dX12_text_91 : decode cX12_text 91 = .ok (.goto (-66), 3) := by decide +kernel
theorem dX12_text_94 : decode cX12_text 94 = .ok (.iload_n 1, 1) := by decide +kernel
theorem dX12_text_95 : decode cX12_text 95 = .ok (.ifCond .eq 16, 3) := by decide +kernel
theorem dX12_text_98 : decode cX12_text 98 = .ok (.aload_n 0, 1) := by decide +kernel
theorem dX12_text_99 : decode cX12_text 99 = .ok (.getfield 109, 3) := by decide +kernel
theorem dX12_text_102 : decode cX12_text 102 = .ok (.bipush 103, 2) := by decide +kernel
theorem dX12_text_104 : decode cX12_text 104 = .ok (.if_icmp .ne 7, 3) := by decide +kernel
theorem dX12_text_107 : decode cX12_text 107 = .ok (.iconst 1, 1) := by decide +kernel
theorem dX12_text_108 : decode cX12_text 108 = .ok (.goto 4, 3) := by decide +kernel
theorem dX12_text_111 : decode cX12_text 111 = .ok (.iconst 0, 1) := by decide +kernel
theorem dX12_text_112 : decode cX12_text 112 = .ok (.istore_n 1, 1) := by decide +kernel
theorem dX12_text_113 : decode cX12_text 113 = .ok (.aload_n 0, 1) := by decide +kernel
theorem dX12_text_114 : decode cX12_text 114 = .ok (.getfield 102, 3) := by decide +kernel
theorem dX12_text_117 : decode cX12_text 117 = .ok (.istore_n 2, 1) := by decide +kernel
theorem dX12_text_118 : decode cX12_text 118 = .ok (.aload_n 0, 1) := by decide +kernel
theorem dX12_text_119 : decode cX12_text 119 = .ok (.iconst 0, 1) := by decide +kernel
theorem dX12_text_120 : decode cX12_text 120 = .ok (.putfield 96, 3) := by decide +kernel
theorem dX12_text_123 : decode cX12_text 123 = .ok (.iload_n 1, 1) := by decide +kernel
theorem dX12_text_124 : decode cX12_text 124 = .ok (.ifCond .ne 8, 3) := by decide +kernel
theorem dX12_text_127 : decode cX12_text 127 = .ok (.bipush (-100), 2) := by decide +kernel
theorem dX12_text_129 : decode cX12_text 129 = .ok (.iload_n 2, 1) := by decide +kernel
theorem dX12_text_130 : decode cX12_text 130 = .ok (.isub, 1) := by decide +kernel
theorem dX12_text_131 : decode cX12_text 131 = .ok (.ireturn, 1) := by decide +kernel
theorem dX12_text_132 : decode cX12_text 132 = .ok (.aload_n 0, 1) := by decide +kernel
theorem dX12_text_133 : decode cX12_text 133 = .ok (.dup, 1) := by decide +kernel
theorem dX12_text_134 : decode cX12_text 134 = .ok (.getfield 51, 3) := by decide +kernel
theorem dX12_text_137 : decode cX12_text 137 = .ok (.iconst 1, 1) := by decide +kernel
theorem dX12_text_138 : decode cX12_text 138 = .ok (.iadd, 1) := by decide +kernel
theorem dX12_text_139 : decode cX12_text 139 = .ok (.putfield 51, 3) := by decide +kernel
theorem dX12_text_142 : decode cX12_text 142 = .ok (.aload_n 0, 1) := by decide +kernel
theorem dX12_text_143 : decode cX12_text 143 = .ok (.getfield 51, 3) := by decide +kernel
theorem dX12_text_146 : decode cX12_text 146 = .ok (.iconst 1, 1) := by decide +kernel
theorem dX12_text_147 : decode cX12_text 147 = .ok (.isub, 1) := by decide +kernel
theorem dX12_text_148 : decode cX12_text 148 = .ok (.ireturn, 1) := by decide +kernel
theorem dX12_force_0 : decode cX12_force 0 = .ok (.iload_n 1, 1) := by decide +kernel
theorem dX12_force_1 : decode cX12_force 1 = .ok (.iconst 0, 1) := by decide +kernel
theorem dX12_force_2 : decode cX12_force 2 = .ok (.aload_n 0, 1) := by decide +kernel
theorem dX12_force_3 : decode cX12_force 3 = .ok (.getfield 51, 3) := by decide +kernel
theorem dX12_force_6 : decode cX12_force 6 = .ok (.iconst 1, 1) := by decide +kernel
theorem dX12_force_7 : decode cX12_force 7 = .ok (.isub, 1) := by decide +kernel
theorem dX12_force_8 : decode cX12_force 8 = .ok (.invokestatic 92, 3) := by decide +kernel
theorem dX12_force_11 : decode cX12_force 11 = .ok (.ifCond .ne 6, 3) := by decide +kernel
theorem dX12_force_14 : decode cX12_force 14 = .ok (.bipush (-2), 2) := by decide +kernel
theorem dX12_force_16 : decode cX12_force 16 = .ok (.ireturn, 1) := by decide +kernel
theorem dX12_force_17 : decode cX12_force 17 = .ok (.aload_n 0, 1) := by decide +kernel
theorem dX12_force_18 : decode cX12_force 18 = .ok (.getfield 165, 3) := by decide +kernel
theorem dX12_force_21 : decode cX12_force 21 = .ok (.istore_n 2, 1) := by decide +kernel
theorem dX12_force_22 : decode cX12_force 22 = .ok (.aload_n 0, 1) := by decide +kernel
theorem dX12_force_23 : decode cX12_force 23 = .ok (.iload_n 1, 1) := by decide +kernel
theorem dX12_force_24 : decode cX12_force 24 = .ok (.putfield 165, 3) := by decide +kernel
theorem dX12_force_27 : decode cX12_force 27 = .ok (.iload_n 2, 1) := by decide +kernel
theorem dX12_force_28 : decode cX12_force 28 = .ok (.ireturn, 1) := by decide +kernel
theorem dX12_named_0 : decode cX12_named 0 = .ok (.iload_n 1, 1) := by decide +kernel
theorem dX12_named_1 : decode cX12_named 1 = .ok (.tableswitch 65 0 4 #[35, 42, 49, 56, 58], 35) := by decide +kernel
theorem dX12_named_36 : decode cX12_named 36 = .ok (.aload_n 0, 1) := by decide +kernel
theorem dX12_named_37 : decode cX12_named 37 = .ok (.getfield 16, 3) := by decide +kernel
theorem dX12_named_40 : decode cX12_named 40 = .ok (.iload_n 2, 1) := by decide +kernel
theorem dX12_named_41 : decode cX12_named 41 = .ok (.iaload, 1) := by decide +kernel
theorem dX12_named_42 : decode cX12_named 42 = .ok (.ireturn, 1) := by decide +kernel
theorem dX12_named_43 : decode cX12_named 43 = .ok (.aload_n 0, 1) := by decide +kernel
theorem dX12_named_44 : decode cX12_named 44 = .ok (.getfield 19, 3) := by decide +kernel
theorem dX12_named_47 : decode cX12_named 47 = .ok (.iload_n 2, 1) := by decide +kernel
theorem dX12_named_48 : decode cX12_named 48 = .ok (.iaload, 1) := by decide +kernel
theorem dX12_named_49 : decode cX12_named 49 = .ok (.ireturn, 1) := by decide +kernel
theorem dX12_named_50 : decode cX12_named 50 = .ok (.aload_n 0, 1) := by decide +kernel
theorem dX12_named_51 : decode cX12_named 51 = .ok (.getfield 22, 3) := by decide +kernel
theorem dX12_named_54 : decode cX12_named 54 = .ok (.iload_n 2, 1) := by decide +kernel
theorem dX12_named_55 : decode cX12_named 55 = .ok (.iaload, 1) := by decide +kernel
theorem dX12_named_56 : decode cX12_named 56 = .ok (.ireturn, 1) := by decide +kernel
theorem dX12_named_57 : decode cX12_named 57 = .ok (.iload_n 3, 1) := by decide +kernel
theorem dX12_named_58 : decode cX12_named 58 = .ok (.ireturn, 1) := by decide +kernel
theorem dX12_named_59 : decode cX12_named 59 = .ok (.aload_n 0, 1) := by decide +kernel
theorem dX12_named_60 : decode cX12_named 60 = .ok (.getfield 28, 3) := by decide +kernel
theorem dX12_named_63 : decode cX12_named 63 = .ok (.iconst 5, 1) := by decide +kernel
theorem dX12_named_64 : decode cX12_named 64 = .ok (.iaload, 1) := by decide +kernel
theorem dX12_named_65 : decode cX12_named 65 = .ok (.ireturn, 1) := by decide +kernel
theorem dX12_named_66 : decode cX12_named 66 = .ok (.iload_n 2, 1) := by decide +kernel
theorem dX12_named_67 : decode cX12_named 67 = .ok (.ireturn, 1) := by decide +kernel
theorem dX12_done_0 : decode cX12_done 0 = .ok (.iload_n 0, 1) := by decide +kernel
theorem dX12_done_1 : decode cX12_done 1 = .ok (.tableswitch 87 1 6 #[39, 43, 47, 51, 62, 73], 39) := by decide +kernel
theorem dX12_done_40 : decode cX12_done 40 = .ok (.iload_n 1, 1) := by decide +kernel
theorem dX12_done_41 : decode cX12_done 41 = .ok (.iload_n 2, 1) := by decide +kernel
theorem dX12_done_42 : decode cX12_done 42 = .ok (.iadd, 1) := by decide +kernel
theorem dX12_done_43 : decode cX12_done 43 = .ok (.ireturn, 1) := by decide +kernel
theorem dX12_done_44 : decode cX12_done 44 = .ok (.iload_n 1, 1) := by decide +kernel
theorem dX12_done_45 : decode cX12_done 45 = .ok (.iload_n 2, 1) := by decide +kernel
theorem dX12_done_46 : decode cX12_done 46 = .ok (.isub, 1) := by decide +kernel
theorem dX12_done_47 : decode cX12_done 47 = .ok (.ireturn, 1) := by decide +kernel
theorem dX12_done_48 : decode cX12_done 48 = .ok (.iload_n 1, 1) := by decide +kernel
theorem dX12_done_49 : decode cX12_done 49 = .ok (.iload_n 2, 1) := by decide +kernel
theorem dX12_done_50 : decode cX12_done 50 = .ok (.imul, 1) := by decide +kernel
theorem dX12_done_51 : decode cX12_done 51 = .ok (.ireturn, 1) := by decide +kernel
theorem dX12_done_52 : decode cX12_done 52 = .ok (.iload_n 1, 1) := by decide +kernel
theorem dX12_done_53 : decode cX12_done 53 = .ok (.iload_n 2, 1) := by decide +kernel
theorem dX12_done_54 : decode cX12_done 54 = .ok (.if_icmp .ge 7, 3) := by decide +kernel
theorem dX12_done_57 : decode cX12_done 57 = .ok (.iconst 1, 1) := by decide +kernel
theorem dX12_done_58 : decode cX12_done 58 = .ok (.goto 4, 3) := by decide +kernel
theorem dX12_done_61 : decode cX12_done 61 = .ok (.iconst 0, 1) := by decide +kernel
theorem dX12_done_62 : decode cX12_done 62 = .ok (.ireturn, 1) := by decide +kernel
theorem dX12_done_63 : decode cX12_done 63 = .ok (.iload_n 1, 1) := by decide +kernel
theorem dX12_done_64 : decode cX12_done 64 = .ok (.iload_n 2, 1) := by decide +kernel
theorem dX12_done_65 : decode cX12_done 65 = .ok (.if_icmp .ne 7, 3) := by decide +kernel
theorem dX12_done_68 : decode cX12_done 68 = .ok (.iconst 1, 1) := by decide +kernel
theorem dX12_done_69 : decode cX12_done 69 = .ok (.goto 4, 3) := by decide +kernel
theorem dX12_done_72 : decode cX12_done 72 = .ok (.iconst 0, 1) := by decide +kernel
theorem dX12_done_73 : decode cX12_done 73 = .ok (.ireturn, 1) := by decide +kernel
theorem dX12_done_74 : decode cX12_done 74 = .ok (.iload_n 1, 1) := by decide +kernel
theorem dX12_done_75 : decode cX12_done 75 = .ok (.ifCond .eq 11, 3) := by decide +kernel
theorem dX12_done_78 : decode cX12_done 78 = .ok (.iload_n 2, 1) := by decide +kernel
theorem dX12_done_79 : decode cX12_done 79 = .ok (.ifCond .eq 7, 3) := by decide +kernel
theorem dX12_done_82 : decode cX12_done 82 = .ok (.iconst 1, 1) := by decide +kernel
theorem dX12_done_83 : decode cX12_done 83 = .ok (.goto 4, 3) := by decide +kernel
theorem dX12_done_86 : decode cX12_done 86 = .ok (.iconst 0, 1) := by decide +kernel
theorem dX12_done_87 : decode cX12_done 87 = .ok (.ireturn, 1) := by decide +kernel
theorem dX12_done_88 : decode cX12_done 88 = .ok (.iload_n 1, 1) := by decide +kernel
theorem dX12_done_89 : decode cX12_done 89 = .ok (.ifCond .ne 7, 3) := by decide +kernel
theorem dX12_done_92 : decode cX12_done 92 = .ok (.iload_n 2, 1) := by decide +kernel
theorem dX12_done_93 : decode cX12_done 93 = .ok (.ifCond .eq 7, 3) := by decide +kernel
theorem dX12_done_96 : decode cX12_done 96 = .ok (.iconst 1, 1) := by decide +kernel
theorem dX12_done_97 : decode cX12_done 97 = .ok (.goto 4, 3) := by decide +kernel
theorem dX12_done_100 : decode cX12_done 100 = .ok (.iconst 0, 1) := by decide +kernel
theorem dX12_done_101 : decode cX12_done 101 = .ok (.ireturn, 1) := by decide +kernel
theorem dX12_says_0 : decode cX12_says 0 = .ok (.iconst 3, 1) := by decide +kernel
theorem dX12_says_1 : decode cX12_says 1 = .ok (.aload_n 0, 1) := by decide +kernel
theorem dX12_says_2 : decode cX12_says 2 = .ok (.getfield 165, 3) := by decide +kernel
theorem dX12_says_5 : decode cX12_says 5 = .ok (.imul, 1) := by decide +kernel
theorem dX12_says_6 : decode cX12_says 6 = .ok (.iload_n 1, 1) := by decide +kernel
theorem dX12_says_7 : decode cX12_says 7 = .ok (.iadd, 1) := by decide +kernel
theorem dX12_says_8 : decode cX12_says 8 = .ok (.istore 4, 2) := by decide +kernel
theorem dX12_says_10 : decode cX12_says 10 = .ok (.iconst 0, 1) := by decide +kernel
theorem dX12_says_11 : decode cX12_says 11 = .ok (.istore 5, 2) := by decide +kernel
theorem dX12_says_13 : decode cX12_says 13 = .ok (.iconst 0, 1) := by decide +kernel
theorem dX12_says_14 : decode cX12_says 14 = .ok (.istore 6, 2) := by decide +kernel
theorem dX12_says_16 : decode cX12_says 16 = .ok (.iload 6, 2) := by decide +kernel
theorem dX12_says_18 : decode cX12_says 18 = .ok (.aload_n 0, 1) := by decide +kernel
theorem dX12_says_19 : decode cX12_says 19 = .ok (.getfield 42, 3) := by decide +kernel
theorem dX12_says_22 : decode cX12_says 22 = .ok (.iload 4, 2) := by decide +kernel
theorem dX12_says_24 : decode cX12_says 24 = .ok (.iaload, 1) := by decide +kernel
theorem dX12_says_25 : decode cX12_says 25 = .ok (.if_icmp .ge 185, 3) := by decide +kernel
theorem dX12_says_28 : decode cX12_says 28 = .ok (.aload_n 0, 1) := by decide +kernel
theorem dX12_says_29 : decode cX12_says 29 = .ok (.getfield 39, 3) := by decide +kernel
theorem dX12_says_32 : decode cX12_says 32 = .ok (.sipush 170, 3) := by decide +kernel
theorem dX12_says_35 : decode cX12_says 35 = .ok (.iload 4, 2) := by decide +kernel
theorem dX12_says_37 : decode cX12_says 37 = .ok (.imul, 1) := by decide +kernel
theorem dX12_says_38 : decode cX12_says 38 = .ok (.iload 6, 2) := by decide +kernel
theorem dX12_says_40 : decode cX12_says 40 = .ok (.iadd, 1) := by decide +kernel
theorem dX12_says_41 : decode cX12_says 41 = .ok (.iaload, 1) := by decide +kernel
theorem dX12_says_42 : decode cX12_says 42 = .ok (.istore 7, 2) := by decide +kernel
theorem dX12_says_44 : decode cX12_says 44 = .ok (.iload 7, 2) := by decide +kernel
theorem dX12_says_46 : decode cX12_says 46 = .ok (.sipush 20000, 3) := by decide +kernel
theorem dX12_says_49 : decode cX12_says 49 = .ok (.if_icmp .ge 18, 3) := by decide +kernel
theorem dX12_says_52 : decode cX12_says 52 = .ok (.aload_n 0, 1) := by decide +kernel
theorem dX12_says_53 : decode cX12_says 53 = .ok (.getfield 48, 3) := by decide +kernel
theorem dX12_says_56 : decode cX12_says 56 = .ok (.iload 5, 2) := by decide +kernel
theorem dX12_says_58 : decode cX12_says 58 = .ok (.iload 7, 2) := by decide +kernel
theorem dX12_says_60 : decode cX12_says 60 = .ok (.iastore, 1) := by decide +kernel
theorem dX12_says_61 : decode cX12_says 61 = .ok (.iinc 5 1, 3) := by decide +kernel
theorem dX12_says_64 : decode cX12_says 64 = .ok (.goto 140, 3) := by decide +kernel
theorem dX12_says_67 : decode cX12_says 67 = .ok (.iload 7, 2) := by decide +kernel
theorem dX12_says_69 : decode cX12_says 69 = .ok (.sipush 30000, 3) := by decide +kernel
theorem dX12_says_72 : decode cX12_says 72 = .ok (.if_icmp .ge 28, 3) := by decide +kernel
theorem dX12_says_75 : decode cX12_says 75 = .ok (.aload_n 0, 1) := by decide +kernel
theorem dX12_says_76 : decode cX12_says 76 = .ok (.getfield 48, 3) := by decide +kernel
theorem dX12_says_79 : decode cX12_says 79 = .ok (.iload 5, 2) := by decide +kernel
theorem dX12_says_81 : decode cX12_says 81 = .ok (.aload_n 0, 1) := by decide +kernel
theorem dX12_says_82 : decode cX12_says 82 = .ok (.iload 7, 2) := by decide +kernel
theorem dX12_says_84 : decode cX12_says 84 = .ok (.sipush 20000, 3) := by decide +kernel
theorem dX12_says_87 : decode cX12_says 87 = .ok (.isub, 1) := by decide +kernel
theorem dX12_says_88 : decode cX12_says 88 = .ok (.iload_n 2, 1) := by decide +kernel
theorem dX12_says_89 : decode cX12_says 89 = .ok (.iload_n 3, 1) := by decide +kernel
theorem dX12_says_90 : decode cX12_says 90 = .ok (.invokevirtual 168, 3) := by decide +kernel
theorem dX12_says_93 : decode cX12_says 93 = .ok (.iastore, 1) := by decide +kernel
theorem dX12_says_94 : decode cX12_says 94 = .ok (.iinc 5 1, 3) := by decide +kernel
theorem dX12_says_97 : decode cX12_says 97 = .ok (.goto 107, 3) := by decide +kernel
theorem dX12_says_100 : decode cX12_says 100 = .ok (.iload 7, 2) := by decide +kernel
theorem dX12_says_102 : decode cX12_says 102 = .ok (.sipush 30008, 3) := by decide +kernel
theorem dX12_says_105 : decode cX12_says 105 = .ok (.if_icmp .ne 32, 3) := by decide +kernel
theorem dX12_says_108 : decode cX12_says 108 = .ok (.aload_n 0, 1) := by decide +kernel
theorem dX12_says_109 : decode cX12_says 109 = .ok (.getfield 48, 3) := by decide +kernel
theorem dX12_says_112 : decode cX12_says 112 = .ok (.iload 5, 2) := by decide +kernel
theorem dX12_says_114 : decode cX12_says 114 = .ok (.iconst 1, 1) := by decide +kernel
theorem dX12_says_115 : decode cX12_says 115 = .ok (.isub, 1) := by decide +kernel
theorem dX12_says_116 : decode cX12_says 116 = .ok (.aload_n 0, 1) := by decide +kernel
theorem dX12_says_117 : decode cX12_says 117 = .ok (.getfield 48, 3) := by decide +kernel
theorem dX12_says_120 : decode cX12_says 120 = .ok (.iload 5, 2) := by decide +kernel
theorem dX12_says_122 : decode cX12_says 122 = .ok (.iconst 1, 1) := by decide +kernel
theorem dX12_says_123 : decode cX12_says 123 = .ok (.isub, 1) := by decide +kernel
theorem dX12_says_124 : decode cX12_says 124 = .ok (.iaload, 1) := by decide +kernel
theorem dX12_says_125 : decode cX12_says 125 = .ok (.ifCond .ne 7, 3) := by decide +kernel
theorem dX12_says_128 : decode cX12_says 128 = .ok (.iconst 1, 1) := by decide +kernel
theorem dX12_says_129 : decode cX12_says 129 = .ok (.goto 4, 3) := by decide +kernel
theorem dX12_says_132 : decode cX12_says 132 = .ok (.iconst 0, 1) := by decide +kernel
theorem dX12_says_133 : decode cX12_says 133 = .ok (.iastore, 1) := by decide +kernel
theorem dX12_says_134 : decode cX12_says 134 = .ok (.goto 70, 3) := by decide +kernel
theorem dX12_says_137 : decode cX12_says 137 = .ok (.iload 7, 2) := by decide +kernel
theorem dX12_says_139 : decode cX12_says 139 = .ok (.sipush 30009, 3) := by decide +kernel
theorem dX12_says_142 : decode cX12_says 142 = .ok (.if_icmp .ne 25, 3) := by decide +kernel
theorem dX12_says_145 : decode cX12_says 145 = .ok (.aload_n 0, 1) := by decide +kernel
theorem dX12_says_146 : decode cX12_says 146 = .ok (.getfield 48, 3) := by decide +kernel
theorem dX12_says_149 : decode cX12_says 149 = .ok (.iload 5, 2) := by decide +kernel
theorem dX12_says_151 : decode cX12_says 151 = .ok (.iconst 1, 1) := by decide +kernel
theorem dX12_says_152 : decode cX12_says 152 = .ok (.isub, 1) := by decide +kernel
theorem dX12_says_153 : decode cX12_says 153 = .ok (.aload_n 0, 1) := by decide +kernel
theorem dX12_says_154 : decode cX12_says 154 = .ok (.getfield 48, 3) := by decide +kernel
theorem dX12_says_157 : decode cX12_says 157 = .ok (.iload 5, 2) := by decide +kernel
theorem dX12_says_159 : decode cX12_says 159 = .ok (.iconst 1, 1) := by decide +kernel
theorem dX12_says_160 : decode cX12_says 160 = .ok (.isub, 1) := by decide +kernel
theorem dX12_says_161 : decode cX12_says 161 = .ok (.iaload, 1) := by decide +kernel
theorem dX12_says_162 : decode cX12_says 162 = .ok (.ineg, 1) := by decide +kernel
theorem dX12_says_163 : decode cX12_says 163 = .ok (.iastore, 1) := by decide +kernel
theorem dX12_says_164 : decode cX12_says 164 = .ok (.goto 40, 3) := by decide +kernel
theorem dX12_says_167 : decode cX12_says 167 = .ok (.iinc 5 (-1), 3) := by decide +kernel
theorem dX12_says_170 : decode cX12_says 170 = .ok (.aload_n 0, 1) := by decide +kernel
theorem dX12_says_171 : decode cX12_says 171 = .ok (.getfield 48, 3) := by decide +kernel
theorem dX12_says_174 : decode cX12_says 174 = .ok (.iload 5, 2) := by decide +kernel
theorem dX12_says_176 : decode cX12_says 176 = .ok (.iconst 1, 1) := by decide +kernel
theorem dX12_says_177 : decode cX12_says 177 = .ok (.isub, 1) := by decide +kernel
theorem dX12_says_178 : decode cX12_says 178 = .ok (.iload 7, 2) := by decide +kernel
theorem dX12_says_180 : decode cX12_says 180 = .ok (.sipush 30000, 3) := by decide +kernel
theorem dX12_says_183 : decode cX12_says 183 = .ok (.isub, 1) := by decide +kernel
theorem dX12_says_184 : decode cX12_says 184 = .ok (.aload_n 0, 1) := by decide +kernel
theorem dX12_says_185 : decode cX12_says 185 = .ok (.getfield 48, 3) := by decide +kernel
theorem dX12_says_188 : decode cX12_says 188 = .ok (.iload 5, 2) := by decide +kernel
theorem dX12_says_190 : decode cX12_says 190 = .ok (.iconst 1, 1) := by decide +kernel
theorem dX12_says_191 : decode cX12_says 191 = .ok (.isub, 1) := by decide +kernel
theorem dX12_says_192 : decode cX12_says 192 = .ok (.iaload, 1) := by decide +kernel
theorem dX12_says_193 : decode cX12_says 193 = .ok (.aload_n 0, 1) := by decide +kernel
theorem dX12_says_194 : decode cX12_says 194 = .ok (.getfield 48, 3) := by decide +kernel
theorem dX12_says_197 : decode cX12_says 197 = .ok (.iload 5, 2) := by decide +kernel
theorem dX12_says_199 : decode cX12_says 199 = .ok (.iaload, 1) := by decide +kernel
theorem dX12_says_200 : decode cX12_says 200 = .ok (.invokestatic 172, 3) := by decide +kernel
theorem dX12_says_203 : decode cX12_says 203 = .ok (.iastore, 1) := by decide +kernel
theorem dX12_says_204 : decode cX12_says 204 = .ok (.iinc 6 1, 3) := by decide +kernel
theorem dX12_says_207 : decode cX12_says 207 = .ok (.goto (-191), 3) := by decide +kernel
theorem dX12_says_210 : decode cX12_says 210 = .ok (.aload_n 0, 1) := by decide +kernel
theorem dX12_says_211 : decode cX12_says 211 = .ok (.getfield 48, 3) := by decide +kernel
theorem dX12_says_214 : decode cX12_says 214 = .ok (.iconst 0, 1) := by decide +kernel
theorem dX12_says_215 : decode cX12_says 215 = .ok (.iaload, 1) := by decide +kernel
theorem dX12_says_216 : decode cX12_says 216 = .ok (.ireturn, 1) := by decide +kernel
theorem dX12_bounded_0 : decode cX12_bounded 0 = .ok (.iload_n 0, 1) := by decide +kernel
theorem dX12_bounded_1 : decode cX12_bounded 1 = .ok (.iload_n 1, 1) := by decide +kernel
theorem dX12_bounded_2 : decode cX12_bounded 2 = .ok (.if_icmp .ge 7, 3) := by decide +kernel
theorem dX12_bounded_5 : decode cX12_bounded 5 = .ok (.iload_n 1, 1) := by decide +kernel
theorem dX12_bounded_6 : decode cX12_bounded 6 = .ok (.goto 13, 3) := by decide +kernel
theorem dX12_bounded_9 : decode cX12_bounded 9 = .ok (.iload_n 0, 1) := by decide +kernel
theorem dX12_bounded_10 : decode cX12_bounded 10 = .ok (.iload_n 2, 1) := by decide +kernel
theorem dX12_bounded_11 : decode cX12_bounded 11 = .ok (.if_icmp .le 7, 3) := by decide +kernel
theorem dX12_bounded_14 : decode cX12_bounded 14 = .ok (.iload_n 2, 1) := by decide +kernel
theorem dX12_bounded_15 : decode cX12_bounded 15 = .ok (.goto 4, 3) := by decide +kernel
theorem dX12_bounded_18 : decode cX12_bounded 18 = .ok (.iload_n 0, 1) := by decide +kernel
theorem dX12_bounded_19 : decode cX12_bounded 19 = .ok (.ireturn, 1) := by decide +kernel
theorem dX12_byOf_0 : decode cX12_byOf 0 = .ok (.aload_n 0, 1) := by decide +kernel
theorem dX12_byOf_1 : decode cX12_byOf 1 = .ok (.iconst 0, 1) := by decide +kernel
theorem dX12_byOf_2 : decode cX12_byOf 2 = .ok (.iload_n 1, 1) := by decide +kernel
theorem dX12_byOf_3 : decode cX12_byOf 3 = .ok (.iconst 0, 1) := by decide +kernel
theorem dX12_byOf_4 : decode cX12_byOf 4 = .ok (.invokevirtual 175, 3) := by decide +kernel
theorem dX12_byOf_7 : decode cX12_byOf 7 = .ok (.iconst 0, 1) := by decide +kernel
theorem dX12_byOf_8 : decode cX12_byOf 8 = .ok (.sipush 999, 3) := by decide +kernel
theorem dX12_byOf_11 : decode cX12_byOf 11 = .ok (.invokestatic 178, 3) := by decide +kernel
theorem dX12_byOf_14 : decode cX12_byOf 14 = .ok (.ireturn, 1) := by decide +kernel
theorem dX12_thickOf_0 : decode cX12_thickOf 0 = .ok (.aload_n 0, 1) := by decide +kernel
theorem dX12_thickOf_1 : decode cX12_thickOf 1 = .ok (.getfield 28, 3) := by decide +kernel
theorem dX12_thickOf_4 : decode cX12_thickOf 4 = .ok (.bipush 6, 2) := by decide +kernel
theorem dX12_thickOf_6 : decode cX12_thickOf 6 = .ok (.aload_n 0, 1) := by decide +kernel
theorem dX12_thickOf_7 : decode cX12_thickOf 7 = .ok (.getfield 22, 3) := by decide +kernel
theorem dX12_thickOf_10 : decode cX12_thickOf 10 = .ok (.iload_n 1, 1) := by decide +kernel
theorem dX12_thickOf_11 : decode cX12_thickOf 11 = .ok (.iaload, 1) := by decide +kernel
theorem dX12_thickOf_12 : decode cX12_thickOf 12 = .ok (.iadd, 1) := by decide +kernel
theorem dX12_thickOf_13 : decode cX12_thickOf 13 = .ok (.iaload, 1) := by decide +kernel
theorem dX12_thickOf_14 : decode cX12_thickOf 14 = .ok (.ireturn, 1) := by decide +kernel
theorem dX12_takesOf_0 : decode cX12_takesOf 0 = .ok (.iconst 1, 1) := by decide +kernel
theorem dX12_takesOf_1 : decode cX12_takesOf 1 = .ok (.aload_n 0, 1) := by decide +kernel
theorem dX12_takesOf_2 : decode cX12_takesOf 2 = .ok (.getfield 13, 3) := by decide +kernel
theorem dX12_takesOf_5 : decode cX12_takesOf 5 = .ok (.iload_n 1, 1) := by decide +kernel
theorem dX12_takesOf_6 : decode cX12_takesOf 6 = .ok (.iaload, 1) := by decide +kernel
theorem dX12_takesOf_7 : decode cX12_takesOf 7 = .ok (.iadd, 1) := by decide +kernel
theorem dX12_takesOf_8 : decode cX12_takesOf 8 = .ok (.istore_n 2, 1) := by decide +kernel
theorem dX12_takesOf_9 : decode cX12_takesOf 9 = .ok (.iconst 1, 1) := by decide +kernel
theorem dX12_takesOf_10 : decode cX12_takesOf 10 = .ok (.aload_n 0, 1) := by decide +kernel
theorem dX12_takesOf_11 : decode cX12_takesOf 11 = .ok (.getfield 13, 3) := by decide +kernel
theorem dX12_takesOf_14 : decode cX12_takesOf 14 = .ok (.iload_n 1, 1) := by decide +kernel
theorem dX12_takesOf_15 : decode cX12_takesOf 15 = .ok (.iaload, 1) := by decide +kernel
theorem dX12_takesOf_16 : decode cX12_takesOf 16 = .ok (.iconst 2, 1) := by decide +kernel
theorem dX12_takesOf_17 : decode cX12_takesOf 17 = .ok (.irem, 1) := by decide +kernel
theorem dX12_takesOf_18 : decode cX12_takesOf 18 = .ok (.iconst 1, 1) := by decide +kernel
theorem dX12_takesOf_19 : decode cX12_takesOf 19 = .ok (.if_icmp .ne 7, 3) := by decide +kernel
theorem dX12_takesOf_22 : decode cX12_takesOf 22 = .ok (.iconst 3, 1) := by decide +kernel
theorem dX12_takesOf_23 : decode cX12_takesOf 23 = .ok (.goto 4, 3) := by decide +kernel
theorem dX12_takesOf_26 : decode cX12_takesOf 26 = .ok (.iconst 0, 1) := by decide +kernel
theorem dX12_takesOf_27 : decode cX12_takesOf 27 = .ok (.iadd, 1) := by decide +kernel
theorem dX12_takesOf_28 : decode cX12_takesOf 28 = .ok (.istore_n 3, 1) := by decide +kernel
theorem dX12_takesOf_29 : decode cX12_takesOf 29 = .ok (.aload_n 0, 1) := by decide +kernel
theorem dX12_takesOf_30 : decode cX12_takesOf 30 = .ok (.getfield 7, 3) := by decide +kernel
theorem dX12_takesOf_33 : decode cX12_takesOf 33 = .ok (.iload_n 1, 1) := by decide +kernel
theorem dX12_takesOf_34 : decode cX12_takesOf 34 = .ok (.iaload, 1) := by decide +kernel
theorem dX12_takesOf_35 : decode cX12_takesOf 35 = .ok (.tableswitch 66 1 5 #[33, 35, 37, 45, 49], 33) := by decide +kernel
theorem dX12_takesOf_68 : decode cX12_takesOf 68 = .ok (.iload_n 2, 1) := by decide +kernel
theorem dX12_takesOf_69 : decode cX12_takesOf 69 = .ok (.ireturn, 1) := by decide +kernel
theorem dX12_takesOf_70 : decode cX12_takesOf 70 = .ok (.iload_n 3, 1) := by decide +kernel
theorem dX12_takesOf_71 : decode cX12_takesOf 71 = .ok (.ireturn, 1) := by decide +kernel
theorem dX12_takesOf_72 : decode cX12_takesOf 72 = .ok (.iload_n 2, 1) := by decide +kernel
theorem dX12_takesOf_73 : decode cX12_takesOf 73 = .ok (.aload_n 0, 1) := by decide +kernel
theorem dX12_takesOf_74 : decode cX12_takesOf 74 = .ok (.iload_n 1, 1) := by decide +kernel
theorem dX12_takesOf_75 : decode cX12_takesOf 75 = .ok (.invokevirtual 181, 3) := by decide +kernel
theorem dX12_takesOf_78 : decode cX12_takesOf 78 = .ok (.iadd, 1) := by decide +kernel
theorem dX12_takesOf_79 : decode cX12_takesOf 79 = .ok (.ireturn, 1) := by decide +kernel
theorem dX12_takesOf_80 : decode cX12_takesOf 80 = .ok (.iconst 2, 1) := by decide +kernel
theorem dX12_takesOf_81 : decode cX12_takesOf 81 = .ok (.iload_n 3, 1) := by decide +kernel
theorem dX12_takesOf_82 : decode cX12_takesOf 82 = .ok (.imul, 1) := by decide +kernel
theorem dX12_takesOf_83 : decode cX12_takesOf 83 = .ok (.ireturn, 1) := by decide +kernel
theorem dX12_takesOf_84 : decode cX12_takesOf 84 = .ok (.iload_n 2, 1) := by decide +kernel
theorem dX12_takesOf_85 : decode cX12_takesOf 85 = .ok (.aload_n 0, 1) := by decide +kernel
theorem dX12_takesOf_86 : decode cX12_takesOf 86 = .ok (.getfield 28, 3) := by decide +kernel
theorem dX12_takesOf_89 : decode cX12_takesOf 89 = .ok (.iconst 5, 1) := by decide +kernel
theorem dX12_takesOf_90 : decode cX12_takesOf 90 = .ok (.iaload, 1) := by decide +kernel
theorem dX12_takesOf_91 : decode cX12_takesOf 91 = .ok (.ifCond .le 7, 3) := by decide +kernel
theorem dX12_takesOf_94 : decode cX12_takesOf 94 = .ok (.iconst 1, 1) := by decide +kernel
theorem dX12_takesOf_95 : decode cX12_takesOf 95 = .ok (.goto 4, 3) := by decide +kernel
theorem dX12_takesOf_98 : decode cX12_takesOf 98 = .ok (.iconst 0, 1) := by decide +kernel
theorem dX12_takesOf_99 : decode cX12_takesOf 99 = .ok (.iadd, 1) := by decide +kernel
theorem dX12_takesOf_100 : decode cX12_takesOf 100 = .ok (.ireturn, 1) := by decide +kernel
theorem dX12_takesOf_101 : decode cX12_takesOf 101 = .ok (.iconst 1, 1) := by decide +kernel
theorem dX12_takesOf_102 : decode cX12_takesOf 102 = .ok (.ireturn, 1) := by decide +kernel
theorem dX12_tipsOf_0 : decode cX12_tipsOf 0 = .ok (.aload_n 0, 1) := by decide +kernel
theorem dX12_tipsOf_1 : decode cX12_tipsOf 1 = .ok (.iconst 2, 1) := by decide +kernel
theorem dX12_tipsOf_2 : decode cX12_tipsOf 2 = .ok (.iload_n 1, 1) := by decide +kernel
theorem dX12_tipsOf_3 : decode cX12_tipsOf 3 = .ok (.iload_n 2, 1) := by decide +kernel
theorem dX12_tipsOf_4 : decode cX12_tipsOf 4 = .ok (.invokevirtual 175, 3) := by decide +kernel
theorem dX12_tipsOf_7 : decode cX12_tipsOf 7 = .ok (.iconst 0, 1) := by decide +kernel
theorem dX12_tipsOf_8 : decode cX12_tipsOf 8 = .ok (.bipush 99, 2) := by decide +kernel
theorem dX12_tipsOf_10 : decode cX12_tipsOf 10 = .ok (.invokestatic 178, 3) := by decide +kernel
theorem dX12_tipsOf_13 : decode cX12_tipsOf 13 = .ok (.iload_n 2, 1) := by decide +kernel
theorem dX12_tipsOf_14 : decode cX12_tipsOf 14 = .ok (.isub, 1) := by decide +kernel
theorem dX12_tipsOf_15 : decode cX12_tipsOf 15 = .ok (.istore_n 3, 1) := by decide +kernel
theorem dX12_tipsOf_16 : decode cX12_tipsOf 16 = .ok (.iload_n 3, 1) := by decide +kernel
theorem dX12_tipsOf_17 : decode cX12_tipsOf 17 = .ok (.istore 4, 2) := by decide +kernel
theorem dX12_tipsOf_19 : decode cX12_tipsOf 19 = .ok (.aload_n 0, 1) := by decide +kernel
theorem dX12_tipsOf_20 : decode cX12_tipsOf 20 = .ok (.getfield 7, 3) := by decide +kernel
theorem dX12_tipsOf_23 : decode cX12_tipsOf 23 = .ok (.iload_n 1, 1) := by decide +kernel
theorem dX12_tipsOf_24 : decode cX12_tipsOf 24 = .ok (.iaload, 1) := by decide +kernel
theorem dX12_tipsOf_25 : decode cX12_tipsOf 25 = .ok (.tableswitch 83 2 5 #[31, 39, 52, 70], 31) := by decide +kernel
theorem dX12_tipsOf_56 : decode cX12_tipsOf 56 = .ok (.iload_n 3, 1) := by decide +kernel
theorem dX12_tipsOf_57 : decode cX12_tipsOf 57 = .ok (.iconst 2, 1) := by decide +kernel
theorem dX12_tipsOf_58 : decode cX12_tipsOf 58 = .ok (.idiv, 1) := by decide +kernel
theorem dX12_tipsOf_59 : decode cX12_tipsOf 59 = .ok (.istore 4, 2) := by decide +kernel
theorem dX12_tipsOf_61 : decode cX12_tipsOf 61 = .ok (.goto 47, 3) := by decide +kernel
theorem dX12_tipsOf_64 : decode cX12_tipsOf 64 = .ok (.iload_n 3, 1) := by decide +kernel
theorem dX12_tipsOf_65 : decode cX12_tipsOf 65 = .ok (.aload_n 0, 1) := by decide +kernel
theorem dX12_tipsOf_66 : decode cX12_tipsOf 66 = .ok (.getfield 13, 3) := by decide +kernel
theorem dX12_tipsOf_69 : decode cX12_tipsOf 69 = .ok (.iload_n 1, 1) := by decide +kernel
theorem dX12_tipsOf_70 : decode cX12_tipsOf 70 = .ok (.iaload, 1) := by decide +kernel
theorem dX12_tipsOf_71 : decode cX12_tipsOf 71 = .ok (.iadd, 1) := by decide +kernel
theorem dX12_tipsOf_72 : decode cX12_tipsOf 72 = .ok (.istore 4, 2) := by decide +kernel
theorem dX12_tipsOf_74 : decode cX12_tipsOf 74 = .ok (.goto 34, 3) := by decide +kernel
theorem dX12_tipsOf_77 : decode cX12_tipsOf 77 = .ok (.iload_n 3, 1) := by decide +kernel
theorem dX12_tipsOf_78 : decode cX12_tipsOf 78 = .ok (.iconst 2, 1) := by decide +kernel
theorem dX12_tipsOf_79 : decode cX12_tipsOf 79 = .ok (.idiv, 1) := by decide +kernel
theorem dX12_tipsOf_80 : decode cX12_tipsOf 80 = .ok (.iload_n 2, 1) := by decide +kernel
theorem dX12_tipsOf_81 : decode cX12_tipsOf 81 = .ok (.ifCond .ne 7, 3) := by decide +kernel
theorem dX12_tipsOf_84 : decode cX12_tipsOf 84 = .ok (.iconst 2, 1) := by decide +kernel
theorem dX12_tipsOf_85 : decode cX12_tipsOf 85 = .ok (.goto 4, 3) := by decide +kernel
theorem dX12_tipsOf_88 : decode cX12_tipsOf 88 = .ok (.iconst 0, 1) := by decide +kernel
theorem dX12_tipsOf_89 : decode cX12_tipsOf 89 = .ok (.iadd, 1) := by decide +kernel
theorem dX12_tipsOf_90 : decode cX12_tipsOf 90 = .ok (.istore 4, 2) := by decide +kernel
theorem dX12_tipsOf_92 : decode cX12_tipsOf 92 = .ok (.goto 16, 3) := by decide +kernel
theorem dX12_tipsOf_95 : decode cX12_tipsOf 95 = .ok (.iload_n 3, 1) := by decide +kernel
theorem dX12_tipsOf_96 : decode cX12_tipsOf 96 = .ok (.aload_n 0, 1) := by decide +kernel
theorem dX12_tipsOf_97 : decode cX12_tipsOf 97 = .ok (.getfield 28, 3) := by decide +kernel
theorem dX12_tipsOf_100 : decode cX12_tipsOf 100 = .ok (.iconst 5, 1) := by decide +kernel
theorem dX12_tipsOf_101 : decode cX12_tipsOf 101 = .ok (.iaload, 1) := by decide +kernel
theorem dX12_tipsOf_102 : decode cX12_tipsOf 102 = .ok (.isub, 1) := by decide +kernel
theorem dX12_tipsOf_103 : decode cX12_tipsOf 103 = .ok (.istore 4, 2) := by decide +kernel
theorem dX12_tipsOf_105 : decode cX12_tipsOf 105 = .ok (.goto 3, 3) := by decide +kernel
theorem dX12_tipsOf_108 : decode cX12_tipsOf 108 = .ok (.iload 4, 2) := by decide +kernel
theorem dX12_tipsOf_110 : decode cX12_tipsOf 110 = .ok (.ifCond .ge 7, 3) := by decide +kernel
theorem dX12_tipsOf_113 : decode cX12_tipsOf 113 = .ok (.iconst 0, 1) := by decide +kernel
theorem dX12_tipsOf_114 : decode cX12_tipsOf 114 = .ok (.goto 5, 3) := by decide +kernel
theorem dX12_tipsOf_117 : decode cX12_tipsOf 117 = .ok (.iload 4, 2) := by decide +kernel
theorem dX12_tipsOf_119 : decode cX12_tipsOf 119 = .ok (.ireturn, 1) := by decide +kernel
theorem dX12_comes_0 : decode cX12_comes 0 = .ok (.iload_n 1, 1) := by decide +kernel
theorem dX12_comes_1 : decode cX12_comes 1 = .ok (.iconst 0, 1) := by decide +kernel
theorem dX12_comes_2 : decode cX12_comes 2 = .ok (.iconst 5, 1) := by decide +kernel
theorem dX12_comes_3 : decode cX12_comes 3 = .ok (.invokestatic 92, 3) := by decide +kernel
theorem dX12_comes_6 : decode cX12_comes 6 = .ok (.ifCond .eq 40, 3) := by decide +kernel
theorem dX12_comes_9 : decode cX12_comes 9 = .ok (.iload_n 2, 1) := by decide +kernel
theorem dX12_comes_10 : decode cX12_comes 10 = .ok (.iconst 0, 1) := by decide +kernel
theorem dX12_comes_11 : decode cX12_comes 11 = .ok (.bipush 99, 2) := by decide +kernel
theorem dX12_comes_13 : decode cX12_comes 13 = .ok (.invokestatic 92, 3) := by decide +kernel
theorem dX12_comes_16 : decode cX12_comes 16 = .ok (.ifCond .eq 30, 3) := by decide +kernel
theorem dX12_comes_19 : decode cX12_comes 19 = .ok (.iload_n 2, 1) := by decide +kernel
theorem dX12_comes_20 : decode cX12_comes 20 = .ok (.bipush 10, 2) := by decide +kernel
theorem dX12_comes_22 : decode cX12_comes 22 = .ok (.irem, 1) := by decide +kernel
theorem dX12_comes_23 : decode cX12_comes 23 = .ok (.iconst 3, 1) := by decide +kernel
theorem dX12_comes_24 : decode cX12_comes 24 = .ok (.if_icmp .gt 22, 3) := by decide +kernel
theorem dX12_comes_27 : decode cX12_comes 27 = .ok (.iload_n 3, 1) := by decide +kernel
theorem dX12_comes_28 : decode cX12_comes 28 = .ok (.iconst 0, 1) := by decide +kernel
theorem dX12_comes_29 : decode cX12_comes 29 = .ok (.sipush 999, 3) := by decide +kernel
theorem dX12_comes_32 : decode cX12_comes 32 = .ok (.invokestatic 92, 3) := by decide +kernel
theorem dX12_comes_35 : decode cX12_comes 35 = .ok (.ifCond .eq 11, 3) := by decide +kernel
theorem dX12_comes_38 : decode cX12_comes 38 = .ok (.iload_n 3, 1) := by decide +kernel
theorem dX12_comes_39 : decode cX12_comes 39 = .ok (.bipush 10, 2) := by decide +kernel
theorem dX12_comes_41 : decode cX12_comes 41 = .ok (.irem, 1) := by decide +kernel
theorem dX12_comes_42 : decode cX12_comes 42 = .ok (.iconst 1, 1) := by decide +kernel
theorem dX12_comes_43 : decode cX12_comes 43 = .ok (.if_icmp .le 6, 3) := by decide +kernel
theorem dX12_comes_46 : decode cX12_comes 46 = .ok (.bipush (-2), 2) := by decide +kernel
theorem dX12_comes_48 : decode cX12_comes 48 = .ok (.ireturn, 1) := by decide +kernel
theorem dX12_comes_49 : decode cX12_comes 49 = .ok (.aload_n 0, 1) := by decide +kernel
theorem dX12_comes_50 : decode cX12_comes 50 = .ok (.getfield 82, 3) := by decide +kernel
theorem dX12_comes_53 : decode cX12_comes 53 = .ok (.bipush 7, 2) := by decide +kernel
theorem dX12_comes_55 : decode cX12_comes 55 = .ok (.if_icmp .ne 6, 3) := by decide +kernel
theorem dX12_comes_58 : decode cX12_comes 58 = .ok (.bipush (-4), 2) := by decide +kernel
theorem dX12_comes_60 : decode cX12_comes 60 = .ok (.ireturn, 1) := by decide +kernel
theorem dX12_comes_61 : decode cX12_comes 61 = .ok (.aload_n 0, 1) := by decide +kernel
theorem dX12_comes_62 : decode cX12_comes 62 = .ok (.getfield 7, 3) := by decide +kernel
theorem dX12_comes_65 : decode cX12_comes 65 = .ok (.aload_n 0, 1) := by decide +kernel
theorem dX12_comes_66 : decode cX12_comes 66 = .ok (.getfield 82, 3) := by decide +kernel
theorem dX12_comes_69 : decode cX12_comes 69 = .ok (.iload_n 1, 1) := by decide +kernel
theorem dX12_comes_70 : decode cX12_comes 70 = .ok (.iastore, 1) := by decide +kernel
theorem dX12_comes_71 : decode cX12_comes 71 = .ok (.aload_n 0, 1) := by decide +kernel
theorem dX12_comes_72 : decode cX12_comes 72 = .ok (.getfield 13, 3) := by decide +kernel
theorem dX12_comes_75 : decode cX12_comes 75 = .ok (.aload_n 0, 1) := by decide +kernel
theorem dX12_comes_76 : decode cX12_comes 76 = .ok (.getfield 82, 3) := by decide +kernel
theorem dX12_comes_79 : decode cX12_comes 79 = .ok (.iload_n 2, 1) := by decide +kernel
theorem dX12_comes_80 : decode cX12_comes 80 = .ok (.bipush 10, 2) := by decide +kernel
theorem dX12_comes_82 : decode cX12_comes 82 = .ok (.idiv, 1) := by decide +kernel
theorem dX12_comes_83 : decode cX12_comes 83 = .ok (.iastore, 1) := by decide +kernel
theorem dX12_comes_84 : decode cX12_comes 84 = .ok (.aload_n 0, 1) := by decide +kernel
theorem dX12_comes_85 : decode cX12_comes 85 = .ok (.getfield 22, 3) := by decide +kernel
theorem dX12_comes_88 : decode cX12_comes 88 = .ok (.aload_n 0, 1) := by decide +kernel
theorem dX12_comes_89 : decode cX12_comes 89 = .ok (.getfield 82, 3) := by decide +kernel
theorem dX12_comes_92 : decode cX12_comes 92 = .ok (.iload_n 2, 1) := by decide +kernel
theorem dX12_comes_93 : decode cX12_comes 93 = .ok (.bipush 10, 2) := by decide +kernel
theorem dX12_comes_95 : decode cX12_comes 95 = .ok (.irem, 1) := by decide +kernel
theorem dX12_comes_96 : decode cX12_comes 96 = .ok (.iastore, 1) := by decide +kernel
theorem dX12_comes_97 : decode cX12_comes 97 = .ok (.aload_n 0, 1) := by decide +kernel
theorem dX12_comes_98 : decode cX12_comes 98 = .ok (.getfield 16, 3) := by decide +kernel
theorem dX12_comes_101 : decode cX12_comes 101 = .ok (.aload_n 0, 1) := by decide +kernel
theorem dX12_comes_102 : decode cX12_comes 102 = .ok (.getfield 82, 3) := by decide +kernel
theorem dX12_comes_105 : decode cX12_comes 105 = .ok (.iload_n 3, 1) := by decide +kernel
theorem dX12_comes_106 : decode cX12_comes 106 = .ok (.bipush 10, 2) := by decide +kernel
theorem dX12_comes_108 : decode cX12_comes 108 = .ok (.idiv, 1) := by decide +kernel
theorem dX12_comes_109 : decode cX12_comes 109 = .ok (.iastore, 1) := by decide +kernel
theorem dX12_comes_110 : decode cX12_comes 110 = .ok (.aload_n 0, 1) := by decide +kernel
theorem dX12_comes_111 : decode cX12_comes 111 = .ok (.getfield 19, 3) := by decide +kernel
theorem dX12_comes_114 : decode cX12_comes 114 = .ok (.aload_n 0, 1) := by decide +kernel
theorem dX12_comes_115 : decode cX12_comes 115 = .ok (.getfield 82, 3) := by decide +kernel
theorem dX12_comes_118 : decode cX12_comes 118 = .ok (.iload_n 3, 1) := by decide +kernel
theorem dX12_comes_119 : decode cX12_comes 119 = .ok (.bipush 10, 2) := by decide +kernel
theorem dX12_comes_121 : decode cX12_comes 121 = .ok (.irem, 1) := by decide +kernel
theorem dX12_comes_122 : decode cX12_comes 122 = .ok (.iastore, 1) := by decide +kernel
theorem dX12_comes_123 : decode cX12_comes 123 = .ok (.aload_n 0, 1) := by decide +kernel
theorem dX12_comes_124 : decode cX12_comes 124 = .ok (.getfield 25, 3) := by decide +kernel
theorem dX12_comes_127 : decode cX12_comes 127 = .ok (.aload_n 0, 1) := by decide +kernel
theorem dX12_comes_128 : decode cX12_comes 128 = .ok (.getfield 82, 3) := by decide +kernel
theorem dX12_comes_131 : decode cX12_comes 131 = .ok (.aload_n 0, 1) := by decide +kernel
theorem dX12_comes_132 : decode cX12_comes 132 = .ok (.getfield 82, 3) := by decide +kernel
theorem dX12_comes_135 : decode cX12_comes 135 = .ok (.iastore, 1) := by decide +kernel
theorem dX12_comes_136 : decode cX12_comes 136 = .ok (.aload_n 0, 1) := by decide +kernel
theorem dX12_comes_137 : decode cX12_comes 137 = .ok (.dup, 1) := by decide +kernel
theorem dX12_comes_138 : decode cX12_comes 138 = .ok (.getfield 82, 3) := by decide +kernel
theorem dX12_comes_141 : decode cX12_comes 141 = .ok (.iconst 1, 1) := by decide +kernel
theorem dX12_comes_142 : decode cX12_comes 142 = .ok (.iadd, 1) := by decide +kernel
theorem dX12_comes_143 : decode cX12_comes 143 = .ok (.putfield 82, 3) := by decide +kernel
theorem dX12_comes_146 : decode cX12_comes 146 = .ok (.aload_n 0, 1) := by decide +kernel
theorem dX12_comes_147 : decode cX12_comes 147 = .ok (.getfield 82, 3) := by decide +kernel
theorem dX12_comes_150 : decode cX12_comes 150 = .ok (.iconst 1, 1) := by decide +kernel
theorem dX12_comes_151 : decode cX12_comes 151 = .ok (.isub, 1) := by decide +kernel
theorem dX12_comes_152 : decode cX12_comes 152 = .ok (.ireturn, 1) := by decide +kernel
theorem dX12_house_0 : decode cX12_house 0 = .ok (.aload_n 0, 1) := by decide +kernel
theorem dX12_house_1 : decode cX12_house 1 = .ok (.iload_n 1, 1) := by decide +kernel
theorem dX12_house_2 : decode cX12_house 2 = .ok (.iload_n 2, 1) := by decide +kernel
theorem dX12_house_3 : decode cX12_house 3 = .ok (.iload_n 3, 1) := by decide +kernel
theorem dX12_house_4 : decode cX12_house 4 = .ok (.invokevirtual 184, 3) := by decide +kernel
theorem dX12_house_7 : decode cX12_house 7 = .ok (.ireturn, 1) := by decide +kernel
theorem dX12_set_0 : decode cX12_set 0 = .ok (.aload_n 0, 1) := by decide +kernel
theorem dX12_set_1 : decode cX12_set 1 = .ok (.iload_n 1, 1) := by decide +kernel
theorem dX12_set_2 : decode cX12_set 2 = .ok (.invokevirtual 187, 3) := by decide +kernel
theorem dX12_set_5 : decode cX12_set 5 = .ok (.ifCond .eq 12, 3) := by decide +kernel
theorem dX12_set_8 : decode cX12_set 8 = .ok (.iload_n 2, 1) := by decide +kernel
theorem dX12_set_9 : decode cX12_set 9 = .ok (.iconst 0, 1) := by decide +kernel
theorem dX12_set_10 : decode cX12_set 10 = .ok (.iconst 3, 1) := by decide +kernel
theorem dX12_set_11 : decode cX12_set 11 = .ok (.invokestatic 92, 3) := by decide +kernel
theorem dX12_set_14 : decode cX12_set 14 = .ok (.ifCond .ne 6, 3) := by decide +kernel
theorem dX12_set_17 : decode cX12_set 17 = .ok (.bipush (-2), 2) := by decide +kernel
theorem dX12_set_19 : decode cX12_set 19 = .ok (.ireturn, 1) := by decide +kernel
theorem dX12_set_20 : decode cX12_set 20 = .ok (.iload_n 3, 1) := by decide +kernel
theorem dX12_set_21 : decode cX12_set 21 = .ok (.iconst 0, 1) := by decide +kernel
theorem dX12_set_22 : decode cX12_set 22 = .ok (.iload_n 2, 1) := by decide +kernel
theorem dX12_set_23 : decode cX12_set 23 = .ok (.ifCond .ne 8, 3) := by decide +kernel
theorem dX12_set_26 : decode cX12_set 26 = .ok (.bipush 9, 2) := by decide +kernel
theorem dX12_set_28 : decode cX12_set 28 = .ok (.goto 23, 3) := by decide +kernel
theorem dX12_set_31 : decode cX12_set 31 = .ok (.iload_n 2, 1) := by decide +kernel
theorem dX12_set_32 : decode cX12_set 32 = .ok (.iconst 1, 1) := by decide +kernel
theorem dX12_set_33 : decode cX12_set 33 = .ok (.if_icmp .ne 8, 3) := by decide +kernel
theorem dX12_set_36 : decode cX12_set 36 = .ok (.bipush 99, 2) := by decide +kernel
theorem dX12_set_38 : decode cX12_set 38 = .ok (.goto 13, 3) := by decide +kernel
theorem dX12_set_41 : decode cX12_set 41 = .ok (.iload_n 2, 1) := by decide +kernel
theorem dX12_set_42 : decode cX12_set 42 = .ok (.iconst 2, 1) := by decide +kernel
theorem dX12_set_43 : decode cX12_set 43 = .ok (.if_icmp .ne 7, 3) := by decide +kernel
theorem dX12_set_46 : decode cX12_set 46 = .ok (.iconst 1, 1) := by decide +kernel
theorem dX12_set_47 : decode cX12_set 47 = .ok (.goto 4, 3) := by decide +kernel
theorem dX12_set_50 : decode cX12_set 50 = .ok (.iconst 3, 1) := by decide +kernel
theorem dX12_set_51 : decode cX12_set 51 = .ok (.invokestatic 92, 3) := by decide +kernel
theorem dX12_set_54 : decode cX12_set 54 = .ok (.ifCond .ne 6, 3) := by decide +kernel
theorem dX12_set_57 : decode cX12_set 57 = .ok (.bipush (-2), 2) := by decide +kernel
theorem dX12_set_59 : decode cX12_set 59 = .ok (.ireturn, 1) := by decide +kernel
theorem dX12_set_60 : decode cX12_set 60 = .ok (.iload_n 2, 1) := by decide +kernel
theorem dX12_set_61 : decode cX12_set 61 = .ok (.ifCond .ne 12, 3) := by decide +kernel
theorem dX12_set_64 : decode cX12_set 64 = .ok (.aload_n 0, 1) := by decide +kernel
theorem dX12_set_65 : decode cX12_set 65 = .ok (.getfield 13, 3) := by decide +kernel
theorem dX12_set_68 : decode cX12_set 68 = .ok (.iload_n 1, 1) := by decide +kernel
theorem dX12_set_69 : decode cX12_set 69 = .ok (.iaload, 1) := by decide +kernel
theorem dX12_set_70 : decode cX12_set 70 = .ok (.goto 37, 3) := by decide +kernel
theorem dX12_set_73 : decode cX12_set 73 = .ok (.iload_n 2, 1) := by decide +kernel
theorem dX12_set_74 : decode cX12_set 74 = .ok (.iconst 1, 1) := by decide +kernel
theorem dX12_set_75 : decode cX12_set 75 = .ok (.if_icmp .ne 12, 3) := by decide +kernel
theorem dX12_set_78 : decode cX12_set 78 = .ok (.aload_n 0, 1) := by decide +kernel
theorem dX12_set_79 : decode cX12_set 79 = .ok (.getfield 16, 3) := by decide +kernel
theorem dX12_set_82 : decode cX12_set 82 = .ok (.iload_n 1, 1) := by decide +kernel
theorem dX12_set_83 : decode cX12_set 83 = .ok (.iaload, 1) := by decide +kernel
theorem dX12_set_84 : decode cX12_set 84 = .ok (.goto 23, 3) := by decide +kernel
theorem dX12_set_87 : decode cX12_set 87 = .ok (.iload_n 2, 1) := by decide +kernel
theorem dX12_set_88 : decode cX12_set 88 = .ok (.iconst 2, 1) := by decide +kernel
theorem dX12_set_89 : decode cX12_set 89 = .ok (.if_icmp .ne 12, 3) := by decide +kernel
theorem dX12_set_92 : decode cX12_set 92 = .ok (.aload_n 0, 1) := by decide +kernel
theorem dX12_set_93 : decode cX12_set 93 = .ok (.getfield 19, 3) := by decide +kernel
theorem dX12_set_96 : decode cX12_set 96 = .ok (.iload_n 1, 1) := by decide +kernel
theorem dX12_set_97 : decode cX12_set 97 = .ok (.iaload, 1) := by decide +kernel
theorem dX12_set_98 : decode cX12_set 98 = .ok (.goto 9, 3) := by decide +kernel
theorem dX12_set_101 : decode cX12_set 101 = .ok (.aload_n 0, 1) := by decide +kernel
theorem dX12_set_102 : decode cX12_set 102 = .ok (.getfield 22, 3) := by decide +kernel
theorem dX12_set_105 : decode cX12_set 105 = .ok (.iload_n 1, 1) := by decide +kernel
theorem dX12_set_106 : decode cX12_set 106 = .ok (.iaload, 1) := by decide +kernel
theorem dX12_set_107 : decode cX12_set 107 = .ok (.istore 4, 2) := by decide +kernel
theorem dX12_set_109 : decode cX12_set 109 = .ok (.iload_n 2, 1) := by decide +kernel
theorem dX12_set_110 : decode cX12_set 110 = .ok (.ifCond .ne 10, 3) := by decide +kernel
theorem dX12_set_113 : decode cX12_set 113 = .ok (.aload_n 0, 1) := by decide +kernel
theorem dX12_set_114 : decode cX12_set 114 = .ok (.getfield 13, 3) := by decide +kernel
theorem dX12_set_117 : decode cX12_set 117 = .ok (.iload_n 1, 1) := by decide +kernel
theorem dX12_set_118 : decode cX12_set 118 = .ok (.iload_n 3, 1) := by decide +kernel
theorem dX12_set_119 : decode cX12_set 119 = .ok (.iastore, 1) := by decide +kernel
theorem dX12_set_120 : decode cX12_set 120 = .ok (.iload_n 2, 1) := by decide +kernel
theorem dX12_set_121 : decode cX12_set 121 = .ok (.iconst 1, 1) := by decide +kernel
theorem dX12_set_122 : decode cX12_set 122 = .ok (.if_icmp .ne 10, 3) := by decide +kernel
theorem dX12_set_125 : decode cX12_set 125 = .ok (.aload_n 0, 1) := by decide +kernel
theorem dX12_set_126 : decode cX12_set 126 = .ok (.getfield 16, 3) := by decide +kernel
theorem dX12_set_129 : decode cX12_set 129 = .ok (.iload_n 1, 1) := by decide +kernel
theorem dX12_set_130 : decode cX12_set 130 = .ok (.iload_n 3, 1) := by decide +kernel
theorem dX12_set_131 : decode cX12_set 131 = .ok (.iastore, 1) := by decide +kernel
theorem dX12_set_132 : decode cX12_set 132 = .ok (.iload_n 2, 1) := by decide +kernel
theorem dX12_set_133 : decode cX12_set 133 = .ok (.iconst 2, 1) := by decide +kernel
theorem dX12_set_134 : decode cX12_set 134 = .ok (.if_icmp .ne 10, 3) := by decide +kernel
theorem dX12_set_137 : decode cX12_set 137 = .ok (.aload_n 0, 1) := by decide +kernel
theorem dX12_set_138 : decode cX12_set 138 = .ok (.getfield 19, 3) := by decide +kernel
theorem dX12_set_141 : decode cX12_set 141 = .ok (.iload_n 1, 1) := by decide +kernel
theorem dX12_set_142 : decode cX12_set 142 = .ok (.iload_n 3, 1) := by decide +kernel
theorem dX12_set_143 : decode cX12_set 143 = .ok (.iastore, 1) := by decide +kernel
theorem dX12_set_144 : decode cX12_set 144 = .ok (.iload_n 2, 1) := by decide +kernel
theorem dX12_set_145 : decode cX12_set 145 = .ok (.iconst 3, 1) := by decide +kernel
theorem dX12_set_146 : decode cX12_set 146 = .ok (.if_icmp .ne 10, 3) := by decide +kernel
theorem dX12_set_149 : decode cX12_set 149 = .ok (.aload_n 0, 1) := by decide +kernel
theorem dX12_set_150 : decode cX12_set 150 = .ok (.getfield 22, 3) := by decide +kernel
theorem dX12_set_153 : decode cX12_set 153 = .ok (.iload_n 1, 1) := by decide +kernel
theorem dX12_set_154 : decode cX12_set 154 = .ok (.iload_n 3, 1) := by decide +kernel
theorem dX12_set_155 : decode cX12_set 155 = .ok (.iastore, 1) := by decide +kernel
theorem dX12_set_156 : decode cX12_set 156 = .ok (.iload 4, 2) := by decide +kernel
theorem dX12_set_158 : decode cX12_set 158 = .ok (.ireturn, 1) := by decide +kernel
theorem dX12_bag_0 : decode cX12_bag 0 = .ok (.iload_n 1, 1) := by decide +kernel
theorem dX12_bag_1 : decode cX12_bag 1 = .ok (.iconst 0, 1) := by decide +kernel
theorem dX12_bag_2 : decode cX12_bag 2 = .ok (.bipush 9, 2) := by decide +kernel
theorem dX12_bag_4 : decode cX12_bag 4 = .ok (.invokestatic 92, 3) := by decide +kernel
theorem dX12_bag_7 : decode cX12_bag 7 = .ok (.ifCond .eq 20, 3) := by decide +kernel
theorem dX12_bag_10 : decode cX12_bag 10 = .ok (.iload_n 2, 1) := by decide +kernel
theorem dX12_bag_11 : decode cX12_bag 11 = .ok (.getstatic 190, 3) := by decide +kernel
theorem dX12_bag_14 : decode cX12_bag 14 = .ok (.iload_n 1, 1) := by decide +kernel
theorem dX12_bag_15 : decode cX12_bag 15 = .ok (.iaload, 1) := by decide +kernel
theorem dX12_bag_16 : decode cX12_bag 16 = .ok (.getstatic 193, 3) := by decide +kernel
theorem dX12_bag_19 : decode cX12_bag 19 = .ok (.iload_n 1, 1) := by decide +kernel
theorem dX12_bag_20 : decode cX12_bag 20 = .ok (.iaload, 1) := by decide +kernel
theorem dX12_bag_21 : decode cX12_bag 21 = .ok (.invokestatic 92, 3) := by decide +kernel
theorem dX12_bag_24 : decode cX12_bag 24 = .ok (.ifCond .ne 6, 3) := by decide +kernel
theorem dX12_bag_27 : decode cX12_bag 27 = .ok (.bipush (-2), 2) := by decide +kernel
theorem dX12_bag_29 : decode cX12_bag 29 = .ok (.ireturn, 1) := by decide +kernel
theorem dX12_bag_30 : decode cX12_bag 30 = .ok (.aload_n 0, 1) := by decide +kernel
theorem dX12_bag_31 : decode cX12_bag 31 = .ok (.getfield 28, 3) := by decide +kernel
theorem dX12_bag_34 : decode cX12_bag 34 = .ok (.iload_n 1, 1) := by decide +kernel
theorem dX12_bag_35 : decode cX12_bag 35 = .ok (.iaload, 1) := by decide +kernel
theorem dX12_bag_36 : decode cX12_bag 36 = .ok (.istore_n 3, 1) := by decide +kernel
theorem dX12_bag_37 : decode cX12_bag 37 = .ok (.aload_n 0, 1) := by decide +kernel
theorem dX12_bag_38 : decode cX12_bag 38 = .ok (.getfield 28, 3) := by decide +kernel
theorem dX12_bag_41 : decode cX12_bag 41 = .ok (.iload_n 1, 1) := by decide +kernel
theorem dX12_bag_42 : decode cX12_bag 42 = .ok (.iload_n 2, 1) := by decide +kernel
theorem dX12_bag_43 : decode cX12_bag 43 = .ok (.iastore, 1) := by decide +kernel
theorem dX12_bag_44 : decode cX12_bag 44 = .ok (.iload_n 3, 1) := by decide +kernel
theorem dX12_bag_45 : decode cX12_bag 45 = .ok (.ireturn, 1) := by decide +kernel
theorem dX12_placeInList_0 : decode cX12_placeInList 0 = .ok (.iconst 0, 1) := by decide +kernel
theorem dX12_placeInList_1 : decode cX12_placeInList 1 = .ok (.istore_n 2, 1) := by decide +kernel
theorem dX12_placeInList_2 : decode cX12_placeInList 2 = .ok (.aload_n 0, 1) := by decide +kernel
theorem dX12_placeInList_3 : decode cX12_placeInList 3 = .ok (.getfield 25, 3) := by decide +kernel
theorem dX12_placeInList_6 : decode cX12_placeInList 6 = .ok (.iload_n 2, 1) := by decide +kernel
theorem dX12_placeInList_7 : decode cX12_placeInList 7 = .ok (.iaload, 1) := by decide +kernel
theorem dX12_placeInList_8 : decode cX12_placeInList 8 = .ok (.iload_n 1, 1) := by decide +kernel
theorem dX12_placeInList_9 : decode cX12_placeInList 9 = .ok (.if_icmp .eq 9, 3) := by decide +kernel
theorem dX12_placeInList_12 : decode cX12_placeInList 12 = .ok (.iinc 2 1, 3) := by decide +kernel
theorem dX12_placeInList_15 : decode cX12_placeInList 15 = .ok (.goto (-13), 3) := by decide +kernel
theorem dX12_placeInList_18 : decode cX12_placeInList 18 = .ok (.iload_n 2, 1) := by decide +kernel
theorem dX12_placeInList_19 : decode cX12_placeInList 19 = .ok (.ireturn, 1) := by decide +kernel
theorem dX12_told_0 : decode cX12_told 0 = .ok (.aload_n 0, 1) := by decide +kernel
theorem dX12_told_1 : decode cX12_told 1 = .ok (.iload_n 1, 1) := by decide +kernel
theorem dX12_told_2 : decode cX12_told 2 = .ok (.invokevirtual 187, 3) := by decide +kernel
theorem dX12_told_5 : decode cX12_told 5 = .ok (.ifCond .ne 6, 3) := by decide +kernel
theorem dX12_told_8 : decode cX12_told 8 = .ok (.bipush (-2), 2) := by decide +kernel
theorem dX12_told_10 : decode cX12_told 10 = .ok (.ireturn, 1) := by decide +kernel
theorem dX12_told_11 : decode cX12_told 11 = .ok (.iload_n 2, 1) := by decide +kernel
theorem dX12_told_12 : decode cX12_told 12 = .ok (.tableswitch 101 0 7 #[48, 55, 62, 69, 76, 83, 89, 95], 48) := by decide +kernel
theorem dX12_told_60 : decode cX12_told 60 = .ok (.aload_n 0, 1) := by decide +kernel
theorem dX12_told_61 : decode cX12_told 61 = .ok (.getfield 13, 3) := by decide +kernel
theorem dX12_told_64 : decode cX12_told 64 = .ok (.iload_n 1, 1) := by decide +kernel
theorem dX12_told_65 : decode cX12_told 65 = .ok (.iaload, 1) := by decide +kernel
theorem dX12_told_66 : decode cX12_told 66 = .ok (.ireturn, 1) := by decide +kernel
theorem dX12_told_67 : decode cX12_told 67 = .ok (.aload_n 0, 1) := by decide +kernel
theorem dX12_told_68 : decode cX12_told 68 = .ok (.getfield 16, 3) := by decide +kernel
theorem dX12_told_71 : decode cX12_told 71 = .ok (.iload_n 1, 1) := by decide +kernel
theorem dX12_told_72 : decode cX12_told 72 = .ok (.iaload, 1) := by decide +kernel
theorem dX12_told_73 : decode cX12_told 73 = .ok (.ireturn, 1) := by decide +kernel
theorem dX12_told_74 : decode cX12_told 74 = .ok (.aload_n 0, 1) := by decide +kernel
theorem dX12_told_75 : decode cX12_told 75 = .ok (.getfield 19, 3) := by decide +kernel
theorem dX12_told_78 : decode cX12_told 78 = .ok (.iload_n 1, 1) := by decide +kernel
theorem dX12_told_79 : decode cX12_told 79 = .ok (.iaload, 1) := by decide +kernel
theorem dX12_told_80 : decode cX12_told 80 = .ok (.ireturn, 1) := by decide +kernel
theorem dX12_told_81 : decode cX12_told 81 = .ok (.aload_n 0, 1) := by decide +kernel
theorem dX12_told_82 : decode cX12_told 82 = .ok (.getfield 22, 3) := by decide +kernel
theorem dX12_told_85 : decode cX12_told 85 = .ok (.iload_n 1, 1) := by decide +kernel
theorem dX12_told_86 : decode cX12_told 86 = .ok (.iaload, 1) := by decide +kernel
theorem dX12_told_87 : decode cX12_told 87 = .ok (.ireturn, 1) := by decide +kernel
theorem dX12_told_88 : decode cX12_told 88 = .ok (.aload_n 0, 1) := by decide +kernel
theorem dX12_told_89 : decode cX12_told 89 = .ok (.getfield 7, 3) := by decide +kernel
theorem dX12_told_92 : decode cX12_told 92 = .ok (.iload_n 1, 1) := by decide +kernel
theorem dX12_told_93 : decode cX12_told 93 = .ok (.iaload, 1) := by decide +kernel
theorem dX12_told_94 : decode cX12_told 94 = .ok (.ireturn, 1) := by decide +kernel
theorem dX12_told_95 : decode cX12_told 95 = .ok (.aload_n 0, 1) := by decide +kernel
theorem dX12_told_96 : decode cX12_told 96 = .ok (.iload_n 1, 1) := by decide +kernel
theorem dX12_told_97 : decode cX12_told 97 = .ok (.invokevirtual 196, 3) := by decide +kernel
theorem dX12_told_100 : decode cX12_told 100 = .ok (.ireturn, 1) := by decide +kernel
theorem dX12_told_101 : decode cX12_told 101 = .ok (.aload_n 0, 1) := by decide +kernel
theorem dX12_told_102 : decode cX12_told 102 = .ok (.iload_n 1, 1) := by decide +kernel
theorem dX12_told_103 : decode cX12_told 103 = .ok (.invokevirtual 199, 3) := by decide +kernel
theorem dX12_told_106 : decode cX12_told 106 = .ok (.ireturn, 1) := by decide +kernel
theorem dX12_told_107 : decode cX12_told 107 = .ok (.aload_n 0, 1) := by decide +kernel
theorem dX12_told_108 : decode cX12_told 108 = .ok (.iload_n 1, 1) := by decide +kernel
theorem dX12_told_109 : decode cX12_told 109 = .ok (.invokevirtual 202, 3) := by decide +kernel
theorem dX12_told_112 : decode cX12_told 112 = .ok (.ireturn, 1) := by decide +kernel
theorem dX12_told_113 : decode cX12_told 113 = .ok (.bipush (-2), 2) := by decide +kernel
theorem dX12_told_115 : decode cX12_told 115 = .ok (.ireturn, 1) := by decide +kernel
theorem dX12_swap_0 : decode cX12_swap 0 = .ok (.aload_n 0, 1) := by decide +kernel
theorem dX12_swap_1 : decode cX12_swap 1 = .ok (.iload_n 1, 1) := by decide +kernel
theorem dX12_swap_2 : decode cX12_swap 2 = .ok (.invokevirtual 187, 3) := by decide +kernel
theorem dX12_swap_5 : decode cX12_swap 5 = .ok (.ifCond .eq 11, 3) := by decide +kernel
theorem dX12_swap_8 : decode cX12_swap 8 = .ok (.aload_n 0, 1) := by decide +kernel
theorem dX12_swap_9 : decode cX12_swap 9 = .ok (.iload_n 2, 1) := by decide +kernel
theorem dX12_swap_10 : decode cX12_swap 10 = .ok (.invokevirtual 187, 3) := by decide +kernel
theorem dX12_swap_13 : decode cX12_swap 13 = .ok (.ifCond .ne 6, 3) := by decide +kernel
theorem dX12_swap_16 : decode cX12_swap 16 = .ok (.bipush (-2), 2) := by decide +kernel
theorem dX12_swap_18 : decode cX12_swap 18 = .ok (.ireturn, 1) := by decide +kernel
theorem dX12_swap_19 : decode cX12_swap 19 = .ok (.aload_n 0, 1) := by decide +kernel
theorem dX12_swap_20 : decode cX12_swap 20 = .ok (.getfield 25, 3) := by decide +kernel
theorem dX12_swap_23 : decode cX12_swap 23 = .ok (.iload_n 1, 1) := by decide +kernel
theorem dX12_swap_24 : decode cX12_swap 24 = .ok (.iaload, 1) := by decide +kernel
theorem dX12_swap_25 : decode cX12_swap 25 = .ok (.istore_n 3, 1) := by decide +kernel
theorem dX12_swap_26 : decode cX12_swap 26 = .ok (.aload_n 0, 1) := by decide +kernel
theorem dX12_swap_27 : decode cX12_swap 27 = .ok (.getfield 25, 3) := by decide +kernel
theorem dX12_swap_30 : decode cX12_swap 30 = .ok (.iload_n 1, 1) := by decide +kernel
theorem dX12_swap_31 : decode cX12_swap 31 = .ok (.aload_n 0, 1) := by decide +kernel
theorem dX12_swap_32 : decode cX12_swap 32 = .ok (.getfield 25, 3) := by decide +kernel
theorem dX12_swap_35 : decode cX12_swap 35 = .ok (.iload_n 2, 1) := by decide +kernel
theorem dX12_swap_36 : decode cX12_swap 36 = .ok (.iaload, 1) := by decide +kernel
theorem dX12_swap_37 : decode cX12_swap 37 = .ok (.iastore, 1) := by decide +kernel
theorem dX12_swap_38 : decode cX12_swap 38 = .ok (.aload_n 0, 1) := by decide +kernel
theorem dX12_swap_39 : decode cX12_swap 39 = .ok (.getfield 25, 3) := by decide +kernel
theorem dX12_swap_42 : decode cX12_swap 42 = .ok (.iload_n 2, 1) := by decide +kernel
theorem dX12_swap_43 : decode cX12_swap 43 = .ok (.iload_n 3, 1) := by decide +kernel
theorem dX12_swap_44 : decode cX12_swap 44 = .ok (.iastore, 1) := by decide +kernel
theorem dX12_swap_45 : decode cX12_swap 45 = .ok (.aload_n 0, 1) := by decide +kernel
theorem dX12_swap_46 : decode cX12_swap 46 = .ok (.getfield 25, 3) := by decide +kernel
theorem dX12_swap_49 : decode cX12_swap 49 = .ok (.iload_n 1, 1) := by decide +kernel
theorem dX12_swap_50 : decode cX12_swap 50 = .ok (.iaload, 1) := by decide +kernel
theorem dX12_swap_51 : decode cX12_swap 51 = .ok (.ireturn, 1) := by decide +kernel
theorem dX12_isUnder_0 : decode cX12_isUnder 0 = .ok (.iload_n 0, 1) := by decide +kernel
theorem dX12_isUnder_1 : decode cX12_isUnder 1 = .ok (.iload_n 1, 1) := by decide +kernel
theorem dX12_isUnder_2 : decode cX12_isUnder 2 = .ok (.if_icmp .eq 32, 3) := by decide +kernel
theorem dX12_isUnder_5 : decode cX12_isUnder 5 = .ok (.iload_n 1, 1) := by decide +kernel
theorem dX12_isUnder_6 : decode cX12_isUnder 6 = .ok (.ifCond .eq 28, 3) := by decide +kernel
theorem dX12_isUnder_9 : decode cX12_isUnder 9 = .ok (.iload_n 1, 1) := by decide +kernel
theorem dX12_isUnder_10 : decode cX12_isUnder 10 = .ok (.iconst 1, 1) := by decide +kernel
theorem dX12_isUnder_11 : decode cX12_isUnder 11 = .ok (.if_icmp .ne 13, 3) := by decide +kernel
theorem dX12_isUnder_14 : decode cX12_isUnder 14 = .ok (.iload_n 0, 1) := by decide +kernel
theorem dX12_isUnder_15 : decode cX12_isUnder 15 = .ok (.iconst 3, 1) := by decide +kernel
theorem dX12_isUnder_16 : decode cX12_isUnder 16 = .ok (.if_icmp .eq 18, 3) := by decide +kernel
theorem dX12_isUnder_19 : decode cX12_isUnder 19 = .ok (.iload_n 0, 1) := by decide +kernel
theorem dX12_isUnder_20 : decode cX12_isUnder 20 = .ok (.iconst 5, 1) := by decide +kernel
theorem dX12_isUnder_21 : decode cX12_isUnder 21 = .ok (.if_icmp .eq 13, 3) := by decide +kernel
theorem dX12_isUnder_24 : decode cX12_isUnder 24 = .ok (.iload_n 1, 1) := by decide +kernel
theorem dX12_isUnder_25 : decode cX12_isUnder 25 = .ok (.iconst 2, 1) := by decide +kernel
theorem dX12_isUnder_26 : decode cX12_isUnder 26 = .ok (.if_icmp .ne 12, 3) := by decide +kernel
theorem dX12_isUnder_29 : decode cX12_isUnder 29 = .ok (.iload_n 0, 1) := by decide +kernel
theorem dX12_isUnder_30 : decode cX12_isUnder 30 = .ok (.iconst 4, 1) := by decide +kernel
theorem dX12_isUnder_31 : decode cX12_isUnder 31 = .ok (.if_icmp .ne 7, 3) := by decide +kernel
theorem dX12_isUnder_34 : decode cX12_isUnder 34 = .ok (.iconst 1, 1) := by decide +kernel
theorem dX12_isUnder_35 : decode cX12_isUnder 35 = .ok (.goto 4, 3) := by decide +kernel
theorem dX12_isUnder_38 : decode cX12_isUnder 38 = .ok (.iconst 0, 1) := by decide +kernel
theorem dX12_isUnder_39 : decode cX12_isUnder 39 = .ok (.ireturn, 1) := by decide +kernel
theorem dX12_taken_0 : decode cX12_taken 0 = .ok (.iload_n 2, 1) := by decide +kernel
theorem dX12_taken_1 : decode cX12_taken 1 = .ok (.iconst 0, 1) := by decide +kernel
theorem dX12_taken_2 : decode cX12_taken 2 = .ok (.iconst 5, 1) := by decide +kernel
theorem dX12_taken_3 : decode cX12_taken 3 = .ok (.invokestatic 92, 3) := by decide +kernel
theorem dX12_taken_6 : decode cX12_taken 6 = .ok (.ifCond .ne 6, 3) := by decide +kernel
theorem dX12_taken_9 : decode cX12_taken 9 = .ok (.bipush (-2), 2) := by decide +kernel
theorem dX12_taken_11 : decode cX12_taken 11 = .ok (.ireturn, 1) := by decide +kernel
theorem dX12_taken_12 : decode cX12_taken 12 = .ok (.aload_n 0, 1) := by decide +kernel
theorem dX12_taken_13 : decode cX12_taken 13 = .ok (.iload_n 1, 1) := by decide +kernel
theorem dX12_taken_14 : decode cX12_taken 14 = .ok (.invokevirtual 187, 3) := by decide +kernel
theorem dX12_taken_17 : decode cX12_taken 17 = .ok (.ifCond .ne 6, 3) := by decide +kernel
theorem dX12_taken_20 : decode cX12_taken 20 = .ok (.bipush (-11), 2) := by decide +kernel
theorem dX12_taken_22 : decode cX12_taken 22 = .ok (.ireturn, 1) := by decide +kernel
theorem dX12_taken_23 : decode cX12_taken 23 = .ok (.aload_n 0, 1) := by decide +kernel
theorem dX12_taken_24 : decode cX12_taken 24 = .ok (.getfield 7, 3) := by decide +kernel
theorem dX12_taken_27 : decode cX12_taken 27 = .ok (.iload_n 1, 1) := by decide +kernel
theorem dX12_taken_28 : decode cX12_taken 28 = .ok (.iaload, 1) := by decide +kernel
theorem dX12_taken_29 : decode cX12_taken 29 = .ok (.iload_n 2, 1) := by decide +kernel
theorem dX12_taken_30 : decode cX12_taken 30 = .ok (.invokestatic 205, 3) := by decide +kernel
theorem dX12_taken_33 : decode cX12_taken 33 = .ok (.ifCond .eq 12, 3) := by decide +kernel
theorem dX12_taken_36 : decode cX12_taken 36 = .ok (.aload_n 0, 1) := by decide +kernel
theorem dX12_taken_37 : decode cX12_taken 37 = .ok (.getfield 13, 3) := by decide +kernel
theorem dX12_taken_40 : decode cX12_taken 40 = .ok (.iload_n 1, 1) := by decide +kernel
theorem dX12_taken_41 : decode cX12_taken 41 = .ok (.iaload, 1) := by decide +kernel
theorem dX12_taken_42 : decode cX12_taken 42 = .ok (.goto 5, 3) := by decide +kernel
theorem dX12_taken_45 : decode cX12_taken 45 = .ok (.bipush (-13), 2) := by decide +kernel
theorem dX12_taken_47 : decode cX12_taken 47 = .ok (.ireturn, 1) := by decide +kernel
theorem dX12_takesList_0 : decode cX12_takesList 0 = .ok (.aload_n 0, 1) := by decide +kernel
theorem dX12_takesList_1 : decode cX12_takesList 1 = .ok (.aload_n 0, 1) := by decide +kernel
theorem dX12_takesList_2 : decode cX12_takesList 2 = .ok (.getfield 82, 3) := by decide +kernel
theorem dX12_takesList_5 : decode cX12_takesList 5 = .ok (.putfield 208, 3) := by decide +kernel
theorem dX12_takesList_8 : decode cX12_takesList 8 = .ok (.iconst 0, 1) := by decide +kernel
theorem dX12_takesList_9 : decode cX12_takesList 9 = .ok (.istore_n 1, 1) := by decide +kernel
theorem dX12_takesList_10 : decode cX12_takesList 10 = .ok (.iload_n 1, 1) := by decide +kernel
theorem dX12_takesList_11 : decode cX12_takesList 11 = .ok (.aload_n 0, 1) := by decide +kernel
theorem dX12_takesList_12 : decode cX12_takesList 12 = .ok (.getfield 82, 3) := by decide +kernel
theorem dX12_takesList_15 : decode cX12_takesList 15 = .ok (.if_icmp .ge 21, 3) := by decide +kernel
theorem dX12_takesList_18 : decode cX12_takesList 18 = .ok (.aload_n 0, 1) := by decide +kernel
theorem dX12_takesList_19 : decode cX12_takesList 19 = .ok (.getfield 55, 3) := by decide +kernel
theorem dX12_takesList_22 : decode cX12_takesList 22 = .ok (.iload_n 1, 1) := by decide +kernel
theorem dX12_takesList_23 : decode cX12_takesList 23 = .ok (.aload_n 0, 1) := by decide +kernel
theorem dX12_takesList_24 : decode cX12_takesList 24 = .ok (.getfield 25, 3) := by decide +kernel
theorem dX12_takesList_27 : decode cX12_takesList 27 = .ok (.iload_n 1, 1) := by decide +kernel
theorem dX12_takesList_28 : decode cX12_takesList 28 = .ok (.iaload, 1) := by decide +kernel
theorem dX12_takesList_29 : decode cX12_takesList 29 = .ok (.iastore, 1) := by decide +kernel
theorem dX12_takesList_30 : decode cX12_takesList 30 = .ok (.iinc 1 1, 3) := by decide +kernel
theorem dX12_takesList_33 : decode cX12_takesList 33 = .ok (.goto (-23), 3) := by decide +kernel
theorem dX12_takesList_36 : decode cX12_takesList 36 = .ok (.return_, 1) := by decide +kernel
theorem dX12_far_0 : decode cX12_far 0 = .ok (.iload_n 1, 1) := by decide +kernel
theorem dX12_far_1 : decode cX12_far 1 = .ok (.iload_n 2, 1) := by decide +kernel
theorem dX12_far_2 : decode cX12_far 2 = .ok (.if_icmp .ge 9, 3) := by decide +kernel
theorem dX12_far_5 : decode cX12_far 5 = .ok (.iload_n 2, 1) := by decide +kernel
theorem dX12_far_6 : decode cX12_far 6 = .ok (.iload_n 1, 1) := by decide +kernel
theorem dX12_far_7 : decode cX12_far 7 = .ok (.isub, 1) := by decide +kernel
theorem dX12_far_8 : decode cX12_far 8 = .ok (.goto 6, 3) := by decide +kernel
theorem dX12_far_11 : decode cX12_far 11 = .ok (.iload_n 1, 1) := by decide +kernel
theorem dX12_far_12 : decode cX12_far 12 = .ok (.iload_n 2, 1) := by decide +kernel
theorem dX12_far_13 : decode cX12_far 13 = .ok (.isub, 1) := by decide +kernel
theorem dX12_far_14 : decode cX12_far 14 = .ok (.istore_n 3, 1) := by decide +kernel
theorem dX12_far_15 : decode cX12_far 15 = .ok (.iload_n 3, 1) := by decide +kernel
theorem dX12_far_16 : decode cX12_far 16 = .ok (.aload_n 0, 1) := by decide +kernel
theorem dX12_far_17 : decode cX12_far 17 = .ok (.getfield 28, 3) := by decide +kernel
theorem dX12_far_20 : decode cX12_far 20 = .ok (.iconst 3, 1) := by decide +kernel
theorem dX12_far_21 : decode cX12_far 21 = .ok (.iaload, 1) := by decide +kernel
theorem dX12_far_22 : decode cX12_far 22 = .ok (.iadd, 1) := by decide +kernel
theorem dX12_far_23 : decode cX12_far 23 = .ok (.iconst 1, 1) := by decide +kernel
theorem dX12_far_24 : decode cX12_far 24 = .ok (.isub, 1) := by decide +kernel
theorem dX12_far_25 : decode cX12_far 25 = .ok (.aload_n 0, 1) := by decide +kernel
theorem dX12_far_26 : decode cX12_far 26 = .ok (.getfield 28, 3) := by decide +kernel
theorem dX12_far_29 : decode cX12_far 29 = .ok (.iconst 3, 1) := by decide +kernel
theorem dX12_far_30 : decode cX12_far 30 = .ok (.iaload, 1) := by decide +kernel
theorem dX12_far_31 : decode cX12_far 31 = .ok (.idiv, 1) := by decide +kernel
theorem dX12_far_32 : decode cX12_far 32 = .ok (.ireturn, 1) := by decide +kernel
theorem dX12_takesPapers_0 : decode cX12_takesPapers 0 = .ok (.iconst 0, 1) := by decide +kernel
theorem dX12_takesPapers_1 : decode cX12_takesPapers 1 = .ok (.istore_n 2, 1) := by decide +kernel
theorem dX12_takesPapers_2 : decode cX12_takesPapers 2 = .ok (.iconst 0, 1) := by decide +kernel
theorem dX12_takesPapers_3 : decode cX12_takesPapers 3 = .ok (.istore_n 3, 1) := by decide +kernel
theorem dX12_takesPapers_4 : decode cX12_takesPapers 4 = .ok (.iload_n 1, 1) := by decide +kernel
theorem dX12_takesPapers_5 : decode cX12_takesPapers 5 = .ok (.iload_n 3, 1) := by decide +kernel
theorem dX12_takesPapers_6 : decode cX12_takesPapers 6 = .ok (.iadd, 1) := by decide +kernel
theorem dX12_takesPapers_7 : decode cX12_takesPapers 7 = .ok (.aload_n 0, 1) := by decide +kernel
theorem dX12_takesPapers_8 : decode cX12_takesPapers 8 = .ok (.getfield 208, 3) := by decide +kernel
theorem dX12_takesPapers_11 : decode cX12_takesPapers 11 = .ok (.if_icmp .ge 40, 3) := by decide +kernel
theorem dX12_takesPapers_14 : decode cX12_takesPapers 14 = .ok (.iload_n 2, 1) := by decide +kernel
theorem dX12_takesPapers_15 : decode cX12_takesPapers 15 = .ok (.aload_n 0, 1) := by decide +kernel
theorem dX12_takesPapers_16 : decode cX12_takesPapers 16 = .ok (.aload_n 0, 1) := by decide +kernel
theorem dX12_takesPapers_17 : decode cX12_takesPapers 17 = .ok (.getfield 55, 3) := by decide +kernel
theorem dX12_takesPapers_20 : decode cX12_takesPapers 20 = .ok (.iload_n 1, 1) := by decide +kernel
theorem dX12_takesPapers_21 : decode cX12_takesPapers 21 = .ok (.iload_n 3, 1) := by decide +kernel
theorem dX12_takesPapers_22 : decode cX12_takesPapers 22 = .ok (.iadd, 1) := by decide +kernel
theorem dX12_takesPapers_23 : decode cX12_takesPapers 23 = .ok (.iaload, 1) := by decide +kernel
theorem dX12_takesPapers_24 : decode cX12_takesPapers 24 = .ok (.invokevirtual 181, 3) := by decide +kernel
theorem dX12_takesPapers_27 : decode cX12_takesPapers 27 = .ok (.iadd, 1) := by decide +kernel
theorem dX12_takesPapers_28 : decode cX12_takesPapers 28 = .ok (.istore_n 2, 1) := by decide +kernel
theorem dX12_takesPapers_29 : decode cX12_takesPapers 29 = .ok (.iload_n 3, 1) := by decide +kernel
theorem dX12_takesPapers_30 : decode cX12_takesPapers 30 = .ok (.ifCond .le 15, 3) := by decide +kernel
theorem dX12_takesPapers_33 : decode cX12_takesPapers 33 = .ok (.iload_n 2, 1) := by decide +kernel
theorem dX12_takesPapers_34 : decode cX12_takesPapers 34 = .ok (.aload_n 0, 1) := by decide +kernel
theorem dX12_takesPapers_35 : decode cX12_takesPapers 35 = .ok (.getfield 28, 3) := by decide +kernel
theorem dX12_takesPapers_38 : decode cX12_takesPapers 38 = .ok (.iconst 0, 1) := by decide +kernel
theorem dX12_takesPapers_39 : decode cX12_takesPapers 39 = .ok (.iaload, 1) := by decide +kernel
theorem dX12_takesPapers_40 : decode cX12_takesPapers 40 = .ok (.if_icmp .le 5, 3) := by decide +kernel
theorem dX12_takesPapers_43 : decode cX12_takesPapers 43 = .ok (.iload_n 3, 1) := by decide +kernel
theorem dX12_takesPapers_44 : decode cX12_takesPapers 44 = .ok (.ireturn, 1) := by decide +kernel
theorem dX12_takesPapers_45 : decode cX12_takesPapers 45 = .ok (.iinc 3 1, 3) := by decide +kernel
theorem dX12_takesPapers_48 : decode cX12_takesPapers 48 = .ok (.goto (-44), 3) := by decide +kernel
theorem dX12_takesPapers_51 : decode cX12_takesPapers 51 = .ok (.iload_n 3, 1) := by decide +kernel
theorem dX12_takesPapers_52 : decode cX12_takesPapers 52 = .ok (.ireturn, 1) := by decide +kernel
theorem dX12_walks_0 : decode cX12_walks 0 = .ok (.aload_n 0, 1) := by decide +kernel
theorem dX12_walks_1 : decode cX12_walks 1 = .ok (.getfield 28, 3) := by decide +kernel
theorem dX12_walks_4 : decode cX12_walks 4 = .ok (.iconst 2, 1) := by decide +kernel
theorem dX12_walks_5 : decode cX12_walks 5 = .ok (.iaload, 1) := by decide +kernel
theorem dX12_walks_6 : decode cX12_walks 6 = .ok (.istore_n 1, 1) := by decide +kernel
theorem dX12_walks_7 : decode cX12_walks 7 = .ok (.aload_n 0, 1) := by decide +kernel
theorem dX12_walks_8 : decode cX12_walks 8 = .ok (.getfield 28, 3) := by decide +kernel
theorem dX12_walks_11 : decode cX12_walks 11 = .ok (.iconst 1, 1) := by decide +kernel
theorem dX12_walks_12 : decode cX12_walks 12 = .ok (.iaload, 1) := by decide +kernel
theorem dX12_walks_13 : decode cX12_walks 13 = .ok (.istore_n 2, 1) := by decide +kernel
theorem dX12_walks_14 : decode cX12_walks 14 = .ok (.iconst 0, 1) := by decide +kernel
theorem dX12_walks_15 : decode cX12_walks 15 = .ok (.istore_n 3, 1) := by decide +kernel
theorem dX12_walks_16 : decode cX12_walks 16 = .ok (.aload_n 0, 1) := by decide +kernel
theorem dX12_walks_17 : decode cX12_walks 17 = .ok (.iconst 0, 1) := by decide +kernel
theorem dX12_walks_18 : decode cX12_walks 18 = .ok (.putfield 211, 3) := by decide +kernel
theorem dX12_walks_21 : decode cX12_walks 21 = .ok (.aload_n 0, 1) := by decide +kernel
theorem dX12_walks_22 : decode cX12_walks 22 = .ok (.iconst 0, 1) := by decide +kernel
theorem dX12_walks_23 : decode cX12_walks 23 = .ok (.invokevirtual 214, 3) := by decide +kernel
theorem dX12_walks_26 : decode cX12_walks 26 = .ok (.istore 4, 2) := by decide +kernel
theorem dX12_walks_28 : decode cX12_walks 28 = .ok (.iconst 0, 1) := by decide +kernel
theorem dX12_walks_29 : decode cX12_walks 29 = .ok (.istore 5, 2) := by decide +kernel
theorem dX12_walks_31 : decode cX12_walks 31 = .ok (.iload 5, 2) := by decide +kernel
theorem dX12_walks_33 : decode cX12_walks 33 = .ok (.aload_n 0, 1) := by decide +kernel
theorem dX12_walks_34 : decode cX12_walks 34 = .ok (.getfield 208, 3) := by decide +kernel
theorem dX12_walks_37 : decode cX12_walks 37 = .ok (.if_icmp .ge 135, 3) := by decide +kernel
theorem dX12_walks_40 : decode cX12_walks 40 = .ok (.aload_n 0, 1) := by decide +kernel
theorem dX12_walks_41 : decode cX12_walks 41 = .ok (.getfield 55, 3) := by decide +kernel
theorem dX12_walks_44 : decode cX12_walks 44 = .ok (.iload 5, 2) := by decide +kernel
theorem dX12_walks_46 : decode cX12_walks 46 = .ok (.iaload, 1) := by decide +kernel
theorem dX12_walks_47 : decode cX12_walks 47 = .ok (.istore 6, 2) := by decide +kernel
theorem dX12_walks_49 : decode cX12_walks 49 = .ok (.iload 4, 2) := by decide +kernel
theorem dX12_walks_51 : decode cX12_walks 51 = .ok (.ifCond .ne 42, 3) := by decide +kernel
theorem dX12_walks_54 : decode cX12_walks 54 = .ok (.iload_n 1, 1) := by decide +kernel
theorem dX12_walks_55 : decode cX12_walks 55 = .ok (.aload_n 0, 1) := by decide +kernel
theorem dX12_walks_56 : decode cX12_walks 56 = .ok (.iload_n 2, 1) := by decide +kernel
theorem dX12_walks_57 : decode cX12_walks 57 = .ok (.aload_n 0, 1) := by decide +kernel
theorem dX12_walks_58 : decode cX12_walks 58 = .ok (.getfield 28, 3) := by decide +kernel
theorem dX12_walks_61 : decode cX12_walks 61 = .ok (.iconst 1, 1) := by decide +kernel
theorem dX12_walks_62 : decode cX12_walks 62 = .ok (.iaload, 1) := by decide +kernel
theorem dX12_walks_63 : decode cX12_walks 63 = .ok (.invokevirtual 217, 3) := by decide +kernel
theorem dX12_walks_66 : decode cX12_walks 66 = .ok (.iadd, 1) := by decide +kernel
theorem dX12_walks_67 : decode cX12_walks 67 = .ok (.istore_n 1, 1) := by decide +kernel
theorem dX12_walks_68 : decode cX12_walks 68 = .ok (.aload_n 0, 1) := by decide +kernel
theorem dX12_walks_69 : decode cX12_walks 69 = .ok (.getfield 28, 3) := by decide +kernel
theorem dX12_walks_72 : decode cX12_walks 72 = .ok (.iconst 1, 1) := by decide +kernel
theorem dX12_walks_73 : decode cX12_walks 73 = .ok (.iaload, 1) := by decide +kernel
theorem dX12_walks_74 : decode cX12_walks 74 = .ok (.istore_n 2, 1) := by decide +kernel
theorem dX12_walks_75 : decode cX12_walks 75 = .ok (.aload_n 0, 1) := by decide +kernel
theorem dX12_walks_76 : decode cX12_walks 76 = .ok (.dup, 1) := by decide +kernel
theorem dX12_walks_77 : decode cX12_walks 77 = .ok (.getfield 211, 3) := by decide +kernel
theorem dX12_walks_80 : decode cX12_walks 80 = .ok (.iconst 1, 1) := by decide +kernel
theorem dX12_walks_81 : decode cX12_walks 81 = .ok (.iadd, 1) := by decide +kernel
theorem dX12_walks_82 : decode cX12_walks 82 = .ok (.putfield 211, 3) := by decide +kernel
theorem dX12_walks_85 : decode cX12_walks 85 = .ok (.aload_n 0, 1) := by decide +kernel
theorem dX12_walks_86 : decode cX12_walks 86 = .ok (.iload 5, 2) := by decide +kernel
theorem dX12_walks_88 : decode cX12_walks 88 = .ok (.invokevirtual 214, 3) := by decide +kernel
theorem dX12_walks_91 : decode cX12_walks 91 = .ok (.istore 4, 2) := by decide +kernel
theorem dX12_walks_93 : decode cX12_walks 93 = .ok (.iload_n 1, 1) := by decide +kernel
theorem dX12_walks_94 : decode cX12_walks 94 = .ok (.aload_n 0, 1) := by decide +kernel
theorem dX12_walks_95 : decode cX12_walks 95 = .ok (.iload_n 2, 1) := by decide +kernel
theorem dX12_walks_96 : decode cX12_walks 96 = .ok (.aload_n 0, 1) := by decide +kernel
theorem dX12_walks_97 : decode cX12_walks 97 = .ok (.getfield 16, 3) := by decide +kernel
theorem dX12_walks_100 : decode cX12_walks 100 = .ok (.iload 6, 2) := by decide +kernel
theorem dX12_walks_102 : decode cX12_walks 102 = .ok (.iaload, 1) := by decide +kernel
theorem dX12_walks_103 : decode cX12_walks 103 = .ok (.invokevirtual 217, 3) := by decide +kernel
theorem dX12_walks_106 : decode cX12_walks 106 = .ok (.iload_n 3, 1) := by decide +kernel
theorem dX12_walks_107 : decode cX12_walks 107 = .ok (.aload_n 0, 1) := by decide +kernel
theorem dX12_walks_108 : decode cX12_walks 108 = .ok (.getfield 19, 3) := by decide +kernel
theorem dX12_walks_111 : decode cX12_walks 111 = .ok (.iload 6, 2) := by decide +kernel
theorem dX12_walks_113 : decode cX12_walks 113 = .ok (.iaload, 1) := by decide +kernel
theorem dX12_walks_114 : decode cX12_walks 114 = .ok (.if_icmp .ne 7, 3) := by decide +kernel
theorem dX12_walks_117 : decode cX12_walks 117 = .ok (.iconst 0, 1) := by decide +kernel
theorem dX12_walks_118 : decode cX12_walks 118 = .ok (.goto 9, 3) := by decide +kernel
theorem dX12_walks_121 : decode cX12_walks 121 = .ok (.aload_n 0, 1) := by decide +kernel
theorem dX12_walks_122 : decode cX12_walks 122 = .ok (.getfield 28, 3) := by decide +kernel
theorem dX12_walks_125 : decode cX12_walks 125 = .ok (.iconst 4, 1) := by decide +kernel
theorem dX12_walks_126 : decode cX12_walks 126 = .ok (.iaload, 1) := by decide +kernel
theorem dX12_walks_127 : decode cX12_walks 127 = .ok (.iadd, 1) := by decide +kernel
theorem dX12_walks_128 : decode cX12_walks 128 = .ok (.iadd, 1) := by decide +kernel
theorem dX12_walks_129 : decode cX12_walks 129 = .ok (.istore_n 1, 1) := by decide +kernel
theorem dX12_walks_130 : decode cX12_walks 130 = .ok (.aload_n 0, 1) := by decide +kernel
theorem dX12_walks_131 : decode cX12_walks 131 = .ok (.getfield 58, 3) := by decide +kernel
theorem dX12_walks_134 : decode cX12_walks 134 = .ok (.iload 6, 2) := by decide +kernel
theorem dX12_walks_136 : decode cX12_walks 136 = .ok (.iload_n 1, 1) := by decide +kernel
theorem dX12_walks_137 : decode cX12_walks 137 = .ok (.iastore, 1) := by decide +kernel
theorem dX12_walks_138 : decode cX12_walks 138 = .ok (.iload_n 1, 1) := by decide +kernel
theorem dX12_walks_139 : decode cX12_walks 139 = .ok (.aload_n 0, 1) := by decide +kernel
theorem dX12_walks_140 : decode cX12_walks 140 = .ok (.iload 6, 2) := by decide +kernel
theorem dX12_walks_142 : decode cX12_walks 142 = .ok (.invokevirtual 199, 3) := by decide +kernel
theorem dX12_walks_145 : decode cX12_walks 145 = .ok (.iadd, 1) := by decide +kernel
theorem dX12_walks_146 : decode cX12_walks 146 = .ok (.istore_n 1, 1) := by decide +kernel
theorem dX12_walks_147 : decode cX12_walks 147 = .ok (.aload_n 0, 1) := by decide +kernel
theorem dX12_walks_148 : decode cX12_walks 148 = .ok (.getfield 16, 3) := by decide +kernel
theorem dX12_walks_151 : decode cX12_walks 151 = .ok (.iload 6, 2) := by decide +kernel
theorem dX12_walks_153 : decode cX12_walks 153 = .ok (.iaload, 1) := by decide +kernel
theorem dX12_walks_154 : decode cX12_walks 154 = .ok (.istore_n 2, 1) := by decide +kernel
theorem dX12_walks_155 : decode cX12_walks 155 = .ok (.aload_n 0, 1) := by decide +kernel
theorem dX12_walks_156 : decode cX12_walks 156 = .ok (.getfield 19, 3) := by decide +kernel
theorem dX12_walks_159 : decode cX12_walks 159 = .ok (.iload 6, 2) := by decide +kernel
theorem dX12_walks_161 : decode cX12_walks 161 = .ok (.iaload, 1) := by decide +kernel
theorem dX12_walks_162 : decode cX12_walks 162 = .ok (.istore_n 3, 1) := by decide +kernel
theorem dX12_walks_163 : decode cX12_walks 163 = .ok (.iinc 4 (-1), 3) := by decide +kernel
theorem dX12_walks_166 : decode cX12_walks 166 = .ok (.iinc 5 1, 3) := by decide +kernel
theorem dX12_walks_169 : decode cX12_walks 169 = .ok (.goto (-138), 3) := by decide +kernel
theorem dX12_walks_172 : decode cX12_walks 172 = .ok (.iload_n 1, 1) := by decide +kernel
theorem dX12_walks_173 : decode cX12_walks 173 = .ok (.ireturn, 1) := by decide +kernel
theorem dX12_lateOf_0 : decode cX12_lateOf 0 = .ok (.aload_n 0, 1) := by decide +kernel
theorem dX12_lateOf_1 : decode cX12_lateOf 1 = .ok (.getfield 58, 3) := by decide +kernel
theorem dX12_lateOf_4 : decode cX12_lateOf 4 = .ok (.iload_n 1, 1) := by decide +kernel
theorem dX12_lateOf_5 : decode cX12_lateOf 5 = .ok (.iaload, 1) := by decide +kernel
theorem dX12_lateOf_6 : decode cX12_lateOf 6 = .ok (.aload_n 0, 1) := by decide +kernel
theorem dX12_lateOf_7 : decode cX12_lateOf 7 = .ok (.iload_n 1, 1) := by decide +kernel
theorem dX12_lateOf_8 : decode cX12_lateOf 8 = .ok (.invokevirtual 202, 3) := by decide +kernel
theorem dX12_lateOf_11 : decode cX12_lateOf 11 = .ok (.isub, 1) := by decide +kernel
theorem dX12_lateOf_12 : decode cX12_lateOf 12 = .ok (.istore_n 2, 1) := by decide +kernel
theorem dX12_lateOf_13 : decode cX12_lateOf 13 = .ok (.iload_n 2, 1) := by decide +kernel
theorem dX12_lateOf_14 : decode cX12_lateOf 14 = .ok (.ifCond .ge 7, 3) := by decide +kernel
theorem dX12_lateOf_17 : decode cX12_lateOf 17 = .ok (.iconst 0, 1) := by decide +kernel
theorem dX12_lateOf_18 : decode cX12_lateOf 18 = .ok (.goto 4, 3) := by decide +kernel
theorem dX12_lateOf_21 : decode cX12_lateOf 21 = .ok (.iload_n 2, 1) := by decide +kernel
theorem dX12_lateOf_22 : decode cX12_lateOf 22 = .ok (.ireturn, 1) := by decide +kernel
theorem dX12_at_0 : decode cX12_at 0 = .ok (.aload_n 0, 1) := by decide +kernel
theorem dX12_at_1 : decode cX12_at 1 = .ok (.iload_n 1, 1) := by decide +kernel
theorem dX12_at_2 : decode cX12_at 2 = .ok (.invokevirtual 187, 3) := by decide +kernel
theorem dX12_at_5 : decode cX12_at 5 = .ok (.ifCond .eq 12, 3) := by decide +kernel
theorem dX12_at_8 : decode cX12_at 8 = .ok (.iload_n 2, 1) := by decide +kernel
theorem dX12_at_9 : decode cX12_at 9 = .ok (.iconst 0, 1) := by decide +kernel
theorem dX12_at_10 : decode cX12_at 10 = .ok (.iconst 2, 1) := by decide +kernel
theorem dX12_at_11 : decode cX12_at 11 = .ok (.invokestatic 92, 3) := by decide +kernel
theorem dX12_at_14 : decode cX12_at 14 = .ok (.ifCond .ne 6, 3) := by decide +kernel
theorem dX12_at_17 : decode cX12_at 17 = .ok (.bipush (-2), 2) := by decide +kernel
theorem dX12_at_19 : decode cX12_at 19 = .ok (.ireturn, 1) := by decide +kernel
theorem dX12_at_20 : decode cX12_at 20 = .ok (.aload_n 0, 1) := by decide +kernel
theorem dX12_at_21 : decode cX12_at 21 = .ok (.invokevirtual 221, 3) := by decide +kernel
theorem dX12_at_24 : decode cX12_at 24 = .ok (.aload_n 0, 1) := by decide +kernel
theorem dX12_at_25 : decode cX12_at 25 = .ok (.invokevirtual 224, 3) := by decide +kernel
theorem dX12_at_28 : decode cX12_at 28 = .ok (.pop, 1) := by decide +kernel
theorem dX12_at_29 : decode cX12_at 29 = .ok (.iload_n 2, 1) := by decide +kernel
theorem dX12_at_30 : decode cX12_at 30 = .ok (.ifCond .ne 12, 3) := by decide +kernel
theorem dX12_at_33 : decode cX12_at 33 = .ok (.aload_n 0, 1) := by decide +kernel
theorem dX12_at_34 : decode cX12_at 34 = .ok (.getfield 58, 3) := by decide +kernel
theorem dX12_at_37 : decode cX12_at 37 = .ok (.iload_n 1, 1) := by decide +kernel
theorem dX12_at_38 : decode cX12_at 38 = .ok (.iaload, 1) := by decide +kernel
theorem dX12_at_39 : decode cX12_at 39 = .ok (.goto 26, 3) := by decide +kernel
theorem dX12_at_42 : decode cX12_at 42 = .ok (.iload_n 2, 1) := by decide +kernel
theorem dX12_at_43 : decode cX12_at 43 = .ok (.iconst 1, 1) := by decide +kernel
theorem dX12_at_44 : decode cX12_at 44 = .ok (.if_icmp .ne 11, 3) := by decide +kernel
theorem dX12_at_47 : decode cX12_at 47 = .ok (.aload_n 0, 1) := by decide +kernel
theorem dX12_at_48 : decode cX12_at 48 = .ok (.iload_n 1, 1) := by decide +kernel
theorem dX12_at_49 : decode cX12_at 49 = .ok (.invokevirtual 227, 3) := by decide +kernel
theorem dX12_at_52 : decode cX12_at 52 = .ok (.goto 13, 3) := by decide +kernel
theorem dX12_at_55 : decode cX12_at 55 = .ok (.aload_n 0, 1) := by decide +kernel
theorem dX12_at_56 : decode cX12_at 56 = .ok (.iload_n 1, 1) := by decide +kernel
theorem dX12_at_57 : decode cX12_at 57 = .ok (.aload_n 0, 1) := by decide +kernel
theorem dX12_at_58 : decode cX12_at 58 = .ok (.iload_n 1, 1) := by decide +kernel
theorem dX12_at_59 : decode cX12_at 59 = .ok (.invokevirtual 227, 3) := by decide +kernel
theorem dX12_at_62 : decode cX12_at 62 = .ok (.invokevirtual 230, 3) := by decide +kernel
theorem dX12_at_65 : decode cX12_at 65 = .ok (.ireturn, 1) := by decide +kernel
theorem dX12_ringing_0 : decode cX12_ringing 0 = .ok (.iload_n 1, 1) := by decide +kernel
theorem dX12_ringing_1 : decode cX12_ringing 1 = .ok (.istore_n 2, 1) := by decide +kernel
theorem dX12_ringing_2 : decode cX12_ringing 2 = .ok (.iconst 0, 1) := by decide +kernel
theorem dX12_ringing_3 : decode cX12_ringing 3 = .ok (.istore_n 3, 1) := by decide +kernel
theorem dX12_ringing_4 : decode cX12_ringing 4 = .ok (.iload_n 3, 1) := by decide +kernel
theorem dX12_ringing_5 : decode cX12_ringing 5 = .ok (.aload_n 0, 1) := by decide +kernel
theorem dX12_ringing_6 : decode cX12_ringing 6 = .ok (.getfield 82, 3) := by decide +kernel
theorem dX12_ringing_9 : decode cX12_ringing 9 = .ok (.if_icmp .ge 33, 3) := by decide +kernel
theorem dX12_ringing_12 : decode cX12_ringing 12 = .ok (.iload_n 2, 1) := by decide +kernel
theorem dX12_ringing_13 : decode cX12_ringing 13 = .ok (.aload_n 0, 1) := by decide +kernel
theorem dX12_ringing_14 : decode cX12_ringing 14 = .ok (.iconst 1, 1) := by decide +kernel
theorem dX12_ringing_15 : decode cX12_ringing 15 = .ok (.iload_n 3, 1) := by decide +kernel
theorem dX12_ringing_16 : decode cX12_ringing 16 = .ok (.aload_n 0, 1) := by decide +kernel
theorem dX12_ringing_17 : decode cX12_ringing 17 = .ok (.iload_n 3, 1) := by decide +kernel
theorem dX12_ringing_18 : decode cX12_ringing 18 = .ok (.invokevirtual 227, 3) := by decide +kernel
theorem dX12_ringing_21 : decode cX12_ringing 21 = .ok (.invokevirtual 175, 3) := by decide +kernel
theorem dX12_ringing_24 : decode cX12_ringing 24 = .ok (.ifCond .eq 9, 3) := by decide +kernel
theorem dX12_ringing_27 : decode cX12_ringing 27 = .ok (.iconst 1, 1) := by decide +kernel
theorem dX12_ringing_28 : decode cX12_ringing 28 = .ok (.iload_n 3, 1) := by decide +kernel
theorem dX12_ringing_29 : decode cX12_ringing 29 = .ok (.ishl, 1) := by decide +kernel
theorem dX12_ringing_30 : decode cX12_ringing 30 = .ok (.goto 4, 3) := by decide +kernel
theorem dX12_ringing_33 : decode cX12_ringing 33 = .ok (.iconst 0, 1) := by decide +kernel
theorem dX12_ringing_34 : decode cX12_ringing 34 = .ok (.ior, 1) := by decide +kernel
theorem dX12_ringing_35 : decode cX12_ringing 35 = .ok (.istore_n 2, 1) := by decide +kernel
theorem dX12_ringing_36 : decode cX12_ringing 36 = .ok (.iinc 3 1, 3) := by decide +kernel
theorem dX12_ringing_39 : decode cX12_ringing 39 = .ok (.goto (-35), 3) := by decide +kernel
theorem dX12_ringing_42 : decode cX12_ringing 42 = .ok (.iload_n 2, 1) := by decide +kernel
theorem dX12_ringing_43 : decode cX12_ringing 43 = .ok (.ireturn, 1) := by decide +kernel
theorem dX12_purse_0 : decode cX12_purse 0 = .ok (.iconst 0, 1) := by decide +kernel
theorem dX12_purse_1 : decode cX12_purse 1 = .ok (.istore_n 2, 1) := by decide +kernel
theorem dX12_purse_2 : decode cX12_purse 2 = .ok (.iconst 0, 1) := by decide +kernel
theorem dX12_purse_3 : decode cX12_purse 3 = .ok (.istore_n 3, 1) := by decide +kernel
theorem dX12_purse_4 : decode cX12_purse 4 = .ok (.iload_n 3, 1) := by decide +kernel
theorem dX12_purse_5 : decode cX12_purse 5 = .ok (.aload_n 0, 1) := by decide +kernel
theorem dX12_purse_6 : decode cX12_purse 6 = .ok (.getfield 82, 3) := by decide +kernel
theorem dX12_purse_9 : decode cX12_purse 9 = .ok (.if_icmp .ge 35, 3) := by decide +kernel
theorem dX12_purse_12 : decode cX12_purse 12 = .ok (.iload_n 2, 1) := by decide +kernel
theorem dX12_purse_13 : decode cX12_purse 13 = .ok (.iload_n 1, 1) := by decide +kernel
theorem dX12_purse_14 : decode cX12_purse 14 = .ok (.iload_n 3, 1) := by decide +kernel
theorem dX12_purse_15 : decode cX12_purse 15 = .ok (.ishr, 1) := by decide +kernel
theorem dX12_purse_16 : decode cX12_purse 16 = .ok (.iconst 1, 1) := by decide +kernel
theorem dX12_purse_17 : decode cX12_purse 17 = .ok (.iand, 1) := by decide +kernel
theorem dX12_purse_18 : decode cX12_purse 18 = .ok (.iconst 1, 1) := by decide +kernel
theorem dX12_purse_19 : decode cX12_purse 19 = .ok (.if_icmp .ne 7, 3) := by decide +kernel
theorem dX12_purse_22 : decode cX12_purse 22 = .ok (.iconst 0, 1) := by decide +kernel
theorem dX12_purse_23 : decode cX12_purse 23 = .ok (.goto 13, 3) := by decide +kernel
theorem dX12_purse_26 : decode cX12_purse 26 = .ok (.aload_n 0, 1) := by decide +kernel
theorem dX12_purse_27 : decode cX12_purse 27 = .ok (.iload_n 3, 1) := by decide +kernel
theorem dX12_purse_28 : decode cX12_purse 28 = .ok (.aload_n 0, 1) := by decide +kernel
theorem dX12_purse_29 : decode cX12_purse 29 = .ok (.iload_n 3, 1) := by decide +kernel
theorem dX12_purse_30 : decode cX12_purse 30 = .ok (.invokevirtual 227, 3) := by decide +kernel
theorem dX12_purse_33 : decode cX12_purse 33 = .ok (.invokevirtual 230, 3) := by decide +kernel
theorem dX12_purse_36 : decode cX12_purse 36 = .ok (.iadd, 1) := by decide +kernel
theorem dX12_purse_37 : decode cX12_purse 37 = .ok (.istore_n 2, 1) := by decide +kernel
theorem dX12_purse_38 : decode cX12_purse 38 = .ok (.iinc 3 1, 3) := by decide +kernel
theorem dX12_purse_41 : decode cX12_purse 41 = .ok (.goto (-37), 3) := by decide +kernel
theorem dX12_purse_44 : decode cX12_purse 44 = .ok (.iload_n 2, 1) := by decide +kernel
theorem dX12_purse_45 : decode cX12_purse 45 = .ok (.ireturn, 1) := by decide +kernel
theorem dX12_lateMany_0 : decode cX12_lateMany 0 = .ok (.iconst 0, 1) := by decide +kernel
theorem dX12_lateMany_1 : decode cX12_lateMany 1 = .ok (.istore_n 1, 1) := by decide +kernel
theorem dX12_lateMany_2 : decode cX12_lateMany 2 = .ok (.iconst 0, 1) := by decide +kernel
theorem dX12_lateMany_3 : decode cX12_lateMany 3 = .ok (.istore_n 2, 1) := by decide +kernel
theorem dX12_lateMany_4 : decode cX12_lateMany 4 = .ok (.iload_n 2, 1) := by decide +kernel
theorem dX12_lateMany_5 : decode cX12_lateMany 5 = .ok (.aload_n 0, 1) := by decide +kernel
theorem dX12_lateMany_6 : decode cX12_lateMany 6 = .ok (.getfield 82, 3) := by decide +kernel
theorem dX12_lateMany_9 : decode cX12_lateMany 9 = .ok (.if_icmp .ge 25, 3) := by decide +kernel
theorem dX12_lateMany_12 : decode cX12_lateMany 12 = .ok (.iload_n 1, 1) := by decide +kernel
theorem dX12_lateMany_13 : decode cX12_lateMany 13 = .ok (.aload_n 0, 1) := by decide +kernel
theorem dX12_lateMany_14 : decode cX12_lateMany 14 = .ok (.iload_n 2, 1) := by decide +kernel
theorem dX12_lateMany_15 : decode cX12_lateMany 15 = .ok (.invokevirtual 227, 3) := by decide +kernel
theorem dX12_lateMany_18 : decode cX12_lateMany 18 = .ok (.ifCond .le 7, 3) := by decide +kernel
theorem dX12_lateMany_21 : decode cX12_lateMany 21 = .ok (.iconst 1, 1) := by decide +kernel
theorem dX12_lateMany_22 : decode cX12_lateMany 22 = .ok (.goto 4, 3) := by decide +kernel
theorem dX12_lateMany_25 : decode cX12_lateMany 25 = .ok (.iconst 0, 1) := by decide +kernel
theorem dX12_lateMany_26 : decode cX12_lateMany 26 = .ok (.iadd, 1) := by decide +kernel
theorem dX12_lateMany_27 : decode cX12_lateMany 27 = .ok (.istore_n 1, 1) := by decide +kernel
theorem dX12_lateMany_28 : decode cX12_lateMany 28 = .ok (.iinc 2 1, 3) := by decide +kernel
theorem dX12_lateMany_31 : decode cX12_lateMany 31 = .ok (.goto (-27), 3) := by decide +kernel
theorem dX12_lateMany_34 : decode cX12_lateMany 34 = .ok (.iload_n 1, 1) := by decide +kernel
theorem dX12_lateMany_35 : decode cX12_lateMany 35 = .ok (.ireturn, 1) := by decide +kernel
theorem dX12_round_0 : decode cX12_round 0 = .ok (.iload_n 1, 1) := by decide +kernel
theorem dX12_round_1 : decode cX12_round 1 = .ok (.iconst 0, 1) := by decide +kernel
theorem dX12_round_2 : decode cX12_round 2 = .ok (.iconst 4, 1) := by decide +kernel
theorem dX12_round_3 : decode cX12_round 3 = .ok (.invokestatic 92, 3) := by decide +kernel
theorem dX12_round_6 : decode cX12_round 6 = .ok (.ifCond .ne 6, 3) := by decide +kernel
theorem dX12_round_9 : decode cX12_round 9 = .ok (.bipush (-2), 2) := by decide +kernel
theorem dX12_round_11 : decode cX12_round 11 = .ok (.ireturn, 1) := by decide +kernel
theorem dX12_round_12 : decode cX12_round 12 = .ok (.aload_n 0, 1) := by decide +kernel
theorem dX12_round_13 : decode cX12_round 13 = .ok (.invokevirtual 221, 3) := by decide +kernel
theorem dX12_round_16 : decode cX12_round 16 = .ok (.aload_n 0, 1) := by decide +kernel
theorem dX12_round_17 : decode cX12_round 17 = .ok (.invokevirtual 224, 3) := by decide +kernel
theorem dX12_round_20 : decode cX12_round 20 = .ok (.istore_n 2, 1) := by decide +kernel
theorem dX12_round_21 : decode cX12_round 21 = .ok (.iload_n 1, 1) := by decide +kernel
theorem dX12_round_22 : decode cX12_round 22 = .ok (.ifCond .ne 7, 3) := by decide +kernel
theorem dX12_round_25 : decode cX12_round 25 = .ok (.iload_n 2, 1) := by decide +kernel
theorem dX12_round_26 : decode cX12_round 26 = .ok (.goto 49, 3) := by decide +kernel
theorem dX12_round_29 : decode cX12_round 29 = .ok (.iload_n 1, 1) := by decide +kernel
theorem dX12_round_30 : decode cX12_round 30 = .ok (.iconst 1, 1) := by decide +kernel
theorem dX12_round_31 : decode cX12_round 31 = .ok (.if_icmp .ne 10, 3) := by decide +kernel
theorem dX12_round_34 : decode cX12_round 34 = .ok (.aload_n 0, 1) := by decide +kernel
theorem dX12_round_35 : decode cX12_round 35 = .ok (.getfield 211, 3) := by decide +kernel
theorem dX12_round_38 : decode cX12_round 38 = .ok (.goto 37, 3) := by decide +kernel
theorem dX12_round_41 : decode cX12_round 41 = .ok (.iload_n 1, 1) := by decide +kernel
theorem dX12_round_42 : decode cX12_round 42 = .ok (.iconst 2, 1) := by decide +kernel
theorem dX12_round_43 : decode cX12_round 43 = .ok (.if_icmp .ne 10, 3) := by decide +kernel
theorem dX12_round_46 : decode cX12_round 46 = .ok (.aload_n 0, 1) := by decide +kernel
theorem dX12_round_47 : decode cX12_round 47 = .ok (.invokevirtual 233, 3) := by decide +kernel
theorem dX12_round_50 : decode cX12_round 50 = .ok (.goto 25, 3) := by decide +kernel
theorem dX12_round_53 : decode cX12_round 53 = .ok (.iload_n 1, 1) := by decide +kernel
theorem dX12_round_54 : decode cX12_round 54 = .ok (.iconst 3, 1) := by decide +kernel
theorem dX12_round_55 : decode cX12_round 55 = .ok (.if_icmp .ne 11, 3) := by decide +kernel
theorem dX12_round_58 : decode cX12_round 58 = .ok (.aload_n 0, 1) := by decide +kernel
theorem dX12_round_59 : decode cX12_round 59 = .ok (.iconst 0, 1) := by decide +kernel
theorem dX12_round_60 : decode cX12_round 60 = .ok (.invokevirtual 236, 3) := by decide +kernel
theorem dX12_round_63 : decode cX12_round 63 = .ok (.goto 12, 3) := by decide +kernel
theorem dX12_round_66 : decode cX12_round 66 = .ok (.aload_n 0, 1) := by decide +kernel
theorem dX12_round_67 : decode cX12_round 67 = .ok (.aload_n 0, 1) := by decide +kernel
theorem dX12_round_68 : decode cX12_round 68 = .ok (.iconst 0, 1) := by decide +kernel
theorem dX12_round_69 : decode cX12_round 69 = .ok (.invokevirtual 236, 3) := by decide +kernel
theorem dX12_round_72 : decode cX12_round 72 = .ok (.invokevirtual 239, 3) := by decide +kernel
theorem dX12_round_75 : decode cX12_round 75 = .ok (.ireturn, 1) := by decide +kernel
theorem dX12_wrongBy_0 : decode cX12_wrongBy 0 = .ok (.iconst 0, 1) := by decide +kernel
theorem dX12_wrongBy_1 : decode cX12_wrongBy 1 = .ok (.istore_n 2, 1) := by decide +kernel
theorem dX12_wrongBy_2 : decode cX12_wrongBy 2 = .ok (.iload_n 1, 1) := by decide +kernel
theorem dX12_wrongBy_3 : decode cX12_wrongBy 3 = .ok (.iconst 1, 1) := by decide +kernel
theorem dX12_wrongBy_4 : decode cX12_wrongBy 4 = .ok (.if_icmp .le 7, 3) := by decide +kernel
theorem dX12_wrongBy_7 : decode cX12_wrongBy 7 = .ok (.iload_n 1, 1) := by decide +kernel
theorem dX12_wrongBy_8 : decode cX12_wrongBy 8 = .ok (.goto 4, 3) := by decide +kernel
theorem dX12_wrongBy_11 : decode cX12_wrongBy 11 = .ok (.iconst 1, 1) := by decide +kernel
theorem dX12_wrongBy_12 : decode cX12_wrongBy 12 = .ok (.istore_n 3, 1) := by decide +kernel
theorem dX12_wrongBy_13 : decode cX12_wrongBy 13 = .ok (.iload_n 3, 1) := by decide +kernel
theorem dX12_wrongBy_14 : decode cX12_wrongBy 14 = .ok (.aload_n 0, 1) := by decide +kernel
theorem dX12_wrongBy_15 : decode cX12_wrongBy 15 = .ok (.getfield 82, 3) := by decide +kernel
theorem dX12_wrongBy_18 : decode cX12_wrongBy 18 = .ok (.if_icmp .ge 51, 3) := by decide +kernel
theorem dX12_wrongBy_21 : decode cX12_wrongBy 21 = .ok (.iload_n 2, 1) := by decide +kernel
theorem dX12_wrongBy_22 : decode cX12_wrongBy 22 = .ok (.aload_n 0, 1) := by decide +kernel
theorem dX12_wrongBy_23 : decode cX12_wrongBy 23 = .ok (.getfield 22, 3) := by decide +kernel
theorem dX12_wrongBy_26 : decode cX12_wrongBy 26 = .ok (.aload_n 0, 1) := by decide +kernel
theorem dX12_wrongBy_27 : decode cX12_wrongBy 27 = .ok (.getfield 25, 3) := by decide +kernel
theorem dX12_wrongBy_30 : decode cX12_wrongBy 30 = .ok (.iload_n 3, 1) := by decide +kernel
theorem dX12_wrongBy_31 : decode cX12_wrongBy 31 = .ok (.iconst 1, 1) := by decide +kernel
theorem dX12_wrongBy_32 : decode cX12_wrongBy 32 = .ok (.isub, 1) := by decide +kernel
theorem dX12_wrongBy_33 : decode cX12_wrongBy 33 = .ok (.iaload, 1) := by decide +kernel
theorem dX12_wrongBy_34 : decode cX12_wrongBy 34 = .ok (.iaload, 1) := by decide +kernel
theorem dX12_wrongBy_35 : decode cX12_wrongBy 35 = .ok (.aload_n 0, 1) := by decide +kernel
theorem dX12_wrongBy_36 : decode cX12_wrongBy 36 = .ok (.getfield 22, 3) := by decide +kernel
theorem dX12_wrongBy_39 : decode cX12_wrongBy 39 = .ok (.aload_n 0, 1) := by decide +kernel
theorem dX12_wrongBy_40 : decode cX12_wrongBy 40 = .ok (.getfield 25, 3) := by decide +kernel
theorem dX12_wrongBy_43 : decode cX12_wrongBy 43 = .ok (.iload_n 3, 1) := by decide +kernel
theorem dX12_wrongBy_44 : decode cX12_wrongBy 44 = .ok (.iaload, 1) := by decide +kernel
theorem dX12_wrongBy_45 : decode cX12_wrongBy 45 = .ok (.iaload, 1) := by decide +kernel
theorem dX12_wrongBy_46 : decode cX12_wrongBy 46 = .ok (.if_icmp .eq 14, 3) := by decide +kernel
theorem dX12_wrongBy_49 : decode cX12_wrongBy 49 = .ok (.iconst 1, 1) := by decide +kernel
theorem dX12_wrongBy_50 : decode cX12_wrongBy 50 = .ok (.aload_n 0, 1) := by decide +kernel
theorem dX12_wrongBy_51 : decode cX12_wrongBy 51 = .ok (.getfield 25, 3) := by decide +kernel
theorem dX12_wrongBy_54 : decode cX12_wrongBy 54 = .ok (.iload_n 3, 1) := by decide +kernel
theorem dX12_wrongBy_55 : decode cX12_wrongBy 55 = .ok (.iaload, 1) := by decide +kernel
theorem dX12_wrongBy_56 : decode cX12_wrongBy 56 = .ok (.ishl, 1) := by decide +kernel
theorem dX12_wrongBy_57 : decode cX12_wrongBy 57 = .ok (.goto 4, 3) := by decide +kernel
theorem dX12_wrongBy_60 : decode cX12_wrongBy 60 = .ok (.iconst 0, 1) := by decide +kernel
theorem dX12_wrongBy_61 : decode cX12_wrongBy 61 = .ok (.ior, 1) := by decide +kernel
theorem dX12_wrongBy_62 : decode cX12_wrongBy 62 = .ok (.istore_n 2, 1) := by decide +kernel
theorem dX12_wrongBy_63 : decode cX12_wrongBy 63 = .ok (.iinc 3 1, 3) := by decide +kernel
theorem dX12_wrongBy_66 : decode cX12_wrongBy 66 = .ok (.goto (-53), 3) := by decide +kernel
theorem dX12_wrongBy_69 : decode cX12_wrongBy 69 = .ok (.iload_n 2, 1) := by decide +kernel
theorem dX12_wrongBy_70 : decode cX12_wrongBy 70 = .ok (.ireturn, 1) := by decide +kernel
theorem dX12_shifted_0 : decode cX12_shifted 0 = .ok (.iload_n 1, 1) := by decide +kernel
theorem dX12_shifted_1 : decode cX12_shifted 1 = .ok (.iconst 0, 1) := by decide +kernel
theorem dX12_shifted_2 : decode cX12_shifted 2 = .ok (.aload_n 0, 1) := by decide +kernel
theorem dX12_shifted_3 : decode cX12_shifted 3 = .ok (.getfield 82, 3) := by decide +kernel
theorem dX12_shifted_6 : decode cX12_shifted 6 = .ok (.invokestatic 92, 3) := by decide +kernel
theorem dX12_shifted_9 : decode cX12_shifted 9 = .ok (.ifCond .eq 12, 3) := by decide +kernel
theorem dX12_shifted_12 : decode cX12_shifted 12 = .ok (.iload_n 2, 1) := by decide +kernel
theorem dX12_shifted_13 : decode cX12_shifted 13 = .ok (.iconst 0, 1) := by decide +kernel
theorem dX12_shifted_14 : decode cX12_shifted 14 = .ok (.iconst 2, 1) := by decide +kernel
theorem dX12_shifted_15 : decode cX12_shifted 15 = .ok (.invokestatic 92, 3) := by decide +kernel
theorem dX12_shifted_18 : decode cX12_shifted 18 = .ok (.ifCond .ne 6, 3) := by decide +kernel
theorem dX12_shifted_21 : decode cX12_shifted 21 = .ok (.bipush (-2), 2) := by decide +kernel
theorem dX12_shifted_23 : decode cX12_shifted 23 = .ok (.ireturn, 1) := by decide +kernel
theorem dX12_shifted_24 : decode cX12_shifted 24 = .ok (.aload_n 0, 1) := by decide +kernel
theorem dX12_shifted_25 : decode cX12_shifted 25 = .ok (.invokevirtual 221, 3) := by decide +kernel
theorem dX12_shifted_28 : decode cX12_shifted 28 = .ok (.aload_n 0, 1) := by decide +kernel
theorem dX12_shifted_29 : decode cX12_shifted 29 = .ok (.invokevirtual 224, 3) := by decide +kernel
theorem dX12_shifted_32 : decode cX12_shifted 32 = .ok (.pop, 1) := by decide +kernel
theorem dX12_shifted_33 : decode cX12_shifted 33 = .ok (.aload_n 0, 1) := by decide +kernel
theorem dX12_shifted_34 : decode cX12_shifted 34 = .ok (.iload_n 1, 1) := by decide +kernel
theorem dX12_shifted_35 : decode cX12_shifted 35 = .ok (.invokevirtual 242, 3) := by decide +kernel
theorem dX12_shifted_38 : decode cX12_shifted 38 = .ok (.istore_n 3, 1) := by decide +kernel
theorem dX12_shifted_39 : decode cX12_shifted 39 = .ok (.iload_n 2, 1) := by decide +kernel
theorem dX12_shifted_40 : decode cX12_shifted 40 = .ok (.ifCond .ne 7, 3) := by decide +kernel
theorem dX12_shifted_43 : decode cX12_shifted 43 = .ok (.iload_n 3, 1) := by decide +kernel
theorem dX12_shifted_44 : decode cX12_shifted 44 = .ok (.goto 25, 3) := by decide +kernel
theorem dX12_shifted_47 : decode cX12_shifted 47 = .ok (.iload_n 2, 1) := by decide +kernel
theorem dX12_shifted_48 : decode cX12_shifted 48 = .ok (.iconst 1, 1) := by decide +kernel
theorem dX12_shifted_49 : decode cX12_shifted 49 = .ok (.if_icmp .ne 11, 3) := by decide +kernel
theorem dX12_shifted_52 : decode cX12_shifted 52 = .ok (.aload_n 0, 1) := by decide +kernel
theorem dX12_shifted_53 : decode cX12_shifted 53 = .ok (.iload_n 3, 1) := by decide +kernel
theorem dX12_shifted_54 : decode cX12_shifted 54 = .ok (.invokevirtual 236, 3) := by decide +kernel
theorem dX12_shifted_57 : decode cX12_shifted 57 = .ok (.goto 12, 3) := by decide +kernel
theorem dX12_shifted_60 : decode cX12_shifted 60 = .ok (.aload_n 0, 1) := by decide +kernel
theorem dX12_shifted_61 : decode cX12_shifted 61 = .ok (.aload_n 0, 1) := by decide +kernel
theorem dX12_shifted_62 : decode cX12_shifted 62 = .ok (.iload_n 3, 1) := by decide +kernel
theorem dX12_shifted_63 : decode cX12_shifted 63 = .ok (.invokevirtual 236, 3) := by decide +kernel
theorem dX12_shifted_66 : decode cX12_shifted 66 = .ok (.invokevirtual 239, 3) := by decide +kernel
theorem dX12_shifted_69 : decode cX12_shifted 69 = .ok (.ireturn, 1) := by decide +kernel
theorem dX12_isRinging_0 : decode cX12_isRinging 0 = .ok (.iconst 0, 1) := by decide +kernel
theorem dX12_isRinging_1 : decode cX12_isRinging 1 = .ok (.istore_n 3, 1) := by decide +kernel
theorem dX12_isRinging_2 : decode cX12_isRinging 2 = .ok (.iload_n 3, 1) := by decide +kernel
theorem dX12_isRinging_3 : decode cX12_isRinging 3 = .ok (.aload_n 0, 1) := by decide +kernel
theorem dX12_isRinging_4 : decode cX12_isRinging 4 = .ok (.getfield 82, 3) := by decide +kernel
theorem dX12_isRinging_7 : decode cX12_isRinging 7 = .ok (.if_icmp .ge 30, 3) := by decide +kernel
theorem dX12_isRinging_10 : decode cX12_isRinging 10 = .ok (.aload_n 0, 1) := by decide +kernel
theorem dX12_isRinging_11 : decode cX12_isRinging 11 = .ok (.getfield 73, 3) := by decide +kernel
theorem dX12_isRinging_14 : decode cX12_isRinging 14 = .ok (.bipush 40, 2) := by decide +kernel
theorem dX12_isRinging_16 : decode cX12_isRinging 16 = .ok (.iload_n 2, 1) := by decide +kernel
theorem dX12_isRinging_17 : decode cX12_isRinging 17 = .ok (.imul, 1) := by decide +kernel
theorem dX12_isRinging_18 : decode cX12_isRinging 18 = .ok (.iload_n 3, 1) := by decide +kernel
theorem dX12_isRinging_19 : decode cX12_isRinging 19 = .ok (.iadd, 1) := by decide +kernel
theorem dX12_isRinging_20 : decode cX12_isRinging 20 = .ok (.iaload, 1) := by decide +kernel
theorem dX12_isRinging_21 : decode cX12_isRinging 21 = .ok (.iload_n 1, 1) := by decide +kernel
theorem dX12_isRinging_22 : decode cX12_isRinging 22 = .ok (.iload_n 3, 1) := by decide +kernel
theorem dX12_isRinging_23 : decode cX12_isRinging 23 = .ok (.ishr, 1) := by decide +kernel
theorem dX12_isRinging_24 : decode cX12_isRinging 24 = .ok (.iconst 1, 1) := by decide +kernel
theorem dX12_isRinging_25 : decode cX12_isRinging 25 = .ok (.iand, 1) := by decide +kernel
theorem dX12_isRinging_26 : decode cX12_isRinging 26 = .ok (.if_icmp .eq 5, 3) := by decide +kernel
theorem dX12_isRinging_29 : decode cX12_isRinging 29 = .ok (.iconst 0, 1) := by decide +kernel
theorem dX12_isRinging_30 : decode cX12_isRinging 30 = .ok (.ireturn, 1) := by decide +kernel
theorem dX12_isRinging_31 : decode cX12_isRinging 31 = .ok (.iinc 3 1, 3) := by decide +kernel
theorem dX12_isRinging_34 : decode cX12_isRinging 34 = .ok (.goto (-32), 3) := by decide +kernel
theorem dX12_isRinging_37 : decode cX12_isRinging 37 = .ok (.iconst 1, 1) := by decide +kernel
theorem dX12_isRinging_38 : decode cX12_isRinging 38 = .ok (.ireturn, 1) := by decide +kernel
theorem dX12_where_0 : decode cX12_where 0 = .ok (.iload_n 1, 1) := by decide +kernel
theorem dX12_where_1 : decode cX12_where 1 = .ok (.invokestatic 245, 3) := by decide +kernel
theorem dX12_where_4 : decode cX12_where 4 = .ok (.ifCond .eq 12, 3) := by decide +kernel
theorem dX12_where_7 : decode cX12_where 7 = .ok (.iload_n 2, 1) := by decide +kernel
theorem dX12_where_8 : decode cX12_where 8 = .ok (.iconst 0, 1) := by decide +kernel
theorem dX12_where_9 : decode cX12_where 9 = .ok (.iconst 1, 1) := by decide +kernel
theorem dX12_where_10 : decode cX12_where 10 = .ok (.invokestatic 92, 3) := by decide +kernel
theorem dX12_where_13 : decode cX12_where 13 = .ok (.ifCond .ne 6, 3) := by decide +kernel
theorem dX12_where_16 : decode cX12_where 16 = .ok (.bipush (-2), 2) := by decide +kernel
theorem dX12_where_18 : decode cX12_where 18 = .ok (.ireturn, 1) := by decide +kernel
theorem dX12_where_19 : decode cX12_where 19 = .ok (.aload_n 0, 1) := by decide +kernel
theorem dX12_where_20 : decode cX12_where 20 = .ok (.getfield 67, 3) := by decide +kernel
theorem dX12_where_23 : decode cX12_where 23 = .ok (.iload_n 1, 1) := by decide +kernel
theorem dX12_where_24 : decode cX12_where 24 = .ok (.iaload, 1) := by decide +kernel
theorem dX12_where_25 : decode cX12_where 25 = .ok (.ifCond .ge 6, 3) := by decide +kernel
theorem dX12_where_28 : decode cX12_where 28 = .ok (.bipush (-11), 2) := by decide +kernel
theorem dX12_where_30 : decode cX12_where 30 = .ok (.ireturn, 1) := by decide +kernel
theorem dX12_where_31 : decode cX12_where 31 = .ok (.aload_n 0, 1) := by decide +kernel
theorem dX12_where_32 : decode cX12_where 32 = .ok (.getfield 70, 3) := by decide +kernel
theorem dX12_where_35 : decode cX12_where 35 = .ok (.iload_n 1, 1) := by decide +kernel
theorem dX12_where_36 : decode cX12_where 36 = .ok (.iaload, 1) := by decide +kernel
theorem dX12_where_37 : decode cX12_where 37 = .ok (.aload_n 0, 1) := by decide +kernel
theorem dX12_where_38 : decode cX12_where 38 = .ok (.getfield 82, 3) := by decide +kernel
theorem dX12_where_41 : decode cX12_where 41 = .ok (.if_icmp .eq 6, 3) := by decide +kernel
theorem dX12_where_44 : decode cX12_where 44 = .ok (.bipush (-2), 2) := by decide +kernel
theorem dX12_where_46 : decode cX12_where 46 = .ok (.ireturn, 1) := by decide +kernel
theorem dX12_where_47 : decode cX12_where 47 = .ok (.aload_n 0, 1) := by decide +kernel
theorem dX12_where_48 : decode cX12_where 48 = .ok (.invokevirtual 221, 3) := by decide +kernel
theorem dX12_where_51 : decode cX12_where 51 = .ok (.aload_n 0, 1) := by decide +kernel
theorem dX12_where_52 : decode cX12_where 52 = .ok (.invokevirtual 224, 3) := by decide +kernel
theorem dX12_where_55 : decode cX12_where 55 = .ok (.pop, 1) := by decide +kernel
theorem dX12_where_56 : decode cX12_where 56 = .ok (.iconst 0, 1) := by decide +kernel
theorem dX12_where_57 : decode cX12_where 57 = .ok (.istore_n 3, 1) := by decide +kernel
theorem dX12_where_58 : decode cX12_where 58 = .ok (.iconst (-1), 1) := by decide +kernel
theorem dX12_where_59 : decode cX12_where 59 = .ok (.istore 4, 2) := by decide +kernel
theorem dX12_where_61 : decode cX12_where 61 = .ok (.aload_n 0, 1) := by decide +kernel
theorem dX12_where_62 : decode cX12_where 62 = .ok (.getfield 82, 3) := by decide +kernel
theorem dX12_where_65 : decode cX12_where 65 = .ok (.istore 5, 2) := by decide +kernel
theorem dX12_where_67 : decode cX12_where 67 = .ok (.iload 5, 2) := by decide +kernel
theorem dX12_where_69 : decode cX12_where 69 = .ok (.ifCond .lt 37, 3) := by decide +kernel
theorem dX12_where_72 : decode cX12_where 72 = .ok (.aload_n 0, 1) := by decide +kernel
theorem dX12_where_73 : decode cX12_where 73 = .ok (.aload_n 0, 1) := by decide +kernel
theorem dX12_where_74 : decode cX12_where 74 = .ok (.aload_n 0, 1) := by decide +kernel
theorem dX12_where_75 : decode cX12_where 75 = .ok (.iload 5, 2) := by decide +kernel
theorem dX12_where_77 : decode cX12_where 77 = .ok (.invokevirtual 242, 3) := by decide +kernel
theorem dX12_where_80 : decode cX12_where 80 = .ok (.invokevirtual 236, 3) := by decide +kernel
theorem dX12_where_83 : decode cX12_where 83 = .ok (.iload_n 1, 1) := by decide +kernel
theorem dX12_where_84 : decode cX12_where 84 = .ok (.invokevirtual 248, 3) := by decide +kernel
theorem dX12_where_87 : decode cX12_where 87 = .ok (.ifCond .ne 6, 3) := by decide +kernel
theorem dX12_where_90 : decode cX12_where 90 = .ok (.goto 10, 3) := by decide +kernel
theorem dX12_where_93 : decode cX12_where 93 = .ok (.iinc 3 1, 3) := by decide +kernel
theorem dX12_where_96 : decode cX12_where 96 = .ok (.iload 5, 2) := by decide +kernel
theorem dX12_where_98 : decode cX12_where 98 = .ok (.istore 4, 2) := by decide +kernel
theorem dX12_where_100 : decode cX12_where 100 = .ok (.iinc 5 (-1), 3) := by decide +kernel
theorem dX12_where_103 : decode cX12_where 103 = .ok (.goto (-36), 3) := by decide +kernel
theorem dX12_where_106 : decode cX12_where 106 = .ok (.iload_n 2, 1) := by decide +kernel
theorem dX12_where_107 : decode cX12_where 107 = .ok (.ifCond .ne 7, 3) := by decide +kernel
theorem dX12_where_110 : decode cX12_where 110 = .ok (.iload_n 3, 1) := by decide +kernel
theorem dX12_where_111 : decode cX12_where 111 = .ok (.goto 5, 3) := by decide +kernel
theorem dX12_where_114 : decode cX12_where 114 = .ok (.iload 4, 2) := by decide +kernel
theorem dX12_where_116 : decode cX12_where 116 = .ok (.ireturn, 1) := by decide +kernel
theorem dX12_changes_0 : decode cX12_changes 0 = .ok (.aload_n 0, 1) := by decide +kernel
theorem dX12_changes_1 : decode cX12_changes 1 = .ok (.getfield 55, 3) := by decide +kernel
theorem dX12_changes_4 : decode cX12_changes 4 = .ok (.iload_n 1, 1) := by decide +kernel
theorem dX12_changes_5 : decode cX12_changes 5 = .ok (.iaload, 1) := by decide +kernel
theorem dX12_changes_6 : decode cX12_changes 6 = .ok (.istore_n 3, 1) := by decide +kernel
theorem dX12_changes_7 : decode cX12_changes 7 = .ok (.aload_n 0, 1) := by decide +kernel
theorem dX12_changes_8 : decode cX12_changes 8 = .ok (.getfield 55, 3) := by decide +kernel
theorem dX12_changes_11 : decode cX12_changes 11 = .ok (.iload_n 1, 1) := by decide +kernel
theorem dX12_changes_12 : decode cX12_changes 12 = .ok (.aload_n 0, 1) := by decide +kernel
theorem dX12_changes_13 : decode cX12_changes 13 = .ok (.getfield 55, 3) := by decide +kernel
theorem dX12_changes_16 : decode cX12_changes 16 = .ok (.iload_n 2, 1) := by decide +kernel
theorem dX12_changes_17 : decode cX12_changes 17 = .ok (.iaload, 1) := by decide +kernel
theorem dX12_changes_18 : decode cX12_changes 18 = .ok (.iastore, 1) := by decide +kernel
theorem dX12_changes_19 : decode cX12_changes 19 = .ok (.aload_n 0, 1) := by decide +kernel
theorem dX12_changes_20 : decode cX12_changes 20 = .ok (.getfield 55, 3) := by decide +kernel
theorem dX12_changes_23 : decode cX12_changes 23 = .ok (.iload_n 2, 1) := by decide +kernel
theorem dX12_changes_24 : decode cX12_changes 24 = .ok (.iload_n 3, 1) := by decide +kernel
theorem dX12_changes_25 : decode cX12_changes 25 = .ok (.iastore, 1) := by decide +kernel
theorem dX12_changes_26 : decode cX12_changes 26 = .ok (.return_, 1) := by decide +kernel
theorem dX12_nextOrder_0 : decode cX12_nextOrder 0 = .ok (.aload_n 0, 1) := by decide +kernel
theorem dX12_nextOrder_1 : decode cX12_nextOrder 1 = .ok (.getfield 208, 3) := by decide +kernel
theorem dX12_nextOrder_4 : decode cX12_nextOrder 4 = .ok (.iconst 2, 1) := by decide +kernel
theorem dX12_nextOrder_5 : decode cX12_nextOrder 5 = .ok (.isub, 1) := by decide +kernel
theorem dX12_nextOrder_6 : decode cX12_nextOrder 6 = .ok (.istore_n 1, 1) := by decide +kernel
theorem dX12_nextOrder_7 : decode cX12_nextOrder 7 = .ok (.iload_n 1, 1) := by decide +kernel
theorem dX12_nextOrder_8 : decode cX12_nextOrder 8 = .ok (.ifCond .lt 26, 3) := by decide +kernel
theorem dX12_nextOrder_11 : decode cX12_nextOrder 11 = .ok (.aload_n 0, 1) := by decide +kernel
theorem dX12_nextOrder_12 : decode cX12_nextOrder 12 = .ok (.getfield 55, 3) := by decide +kernel
theorem dX12_nextOrder_15 : decode cX12_nextOrder 15 = .ok (.iload_n 1, 1) := by decide +kernel
theorem dX12_nextOrder_16 : decode cX12_nextOrder 16 = .ok (.iaload, 1) := by decide +kernel
theorem dX12_nextOrder_17 : decode cX12_nextOrder 17 = .ok (.aload_n 0, 1) := by decide +kernel
theorem dX12_nextOrder_18 : decode cX12_nextOrder 18 = .ok (.getfield 55, 3) := by decide +kernel
theorem dX12_nextOrder_21 : decode cX12_nextOrder 21 = .ok (.iload_n 1, 1) := by decide +kernel
theorem dX12_nextOrder_22 : decode cX12_nextOrder 22 = .ok (.iconst 1, 1) := by decide +kernel
theorem dX12_nextOrder_23 : decode cX12_nextOrder 23 = .ok (.iadd, 1) := by decide +kernel
theorem dX12_nextOrder_24 : decode cX12_nextOrder 24 = .ok (.iaload, 1) := by decide +kernel
theorem dX12_nextOrder_25 : decode cX12_nextOrder 25 = .ok (.if_icmp .le 9, 3) := by decide +kernel
theorem dX12_nextOrder_28 : decode cX12_nextOrder 28 = .ok (.iinc 1 (-1), 3) := by decide +kernel
theorem dX12_nextOrder_31 : decode cX12_nextOrder 31 = .ok (.goto (-24), 3) := by decide +kernel
theorem dX12_nextOrder_34 : decode cX12_nextOrder 34 = .ok (.iload_n 1, 1) := by decide +kernel
theorem dX12_nextOrder_35 : decode cX12_nextOrder 35 = .ok (.ifCond .ge 5, 3) := by decide +kernel
theorem dX12_nextOrder_38 : decode cX12_nextOrder 38 = .ok (.iconst 0, 1) := by decide +kernel
theorem dX12_nextOrder_39 : decode cX12_nextOrder 39 = .ok (.ireturn, 1) := by decide +kernel
theorem dX12_nextOrder_40 : decode cX12_nextOrder 40 = .ok (.aload_n 0, 1) := by decide +kernel
theorem dX12_nextOrder_41 : decode cX12_nextOrder 41 = .ok (.getfield 208, 3) := by decide +kernel
theorem dX12_nextOrder_44 : decode cX12_nextOrder 44 = .ok (.iconst 1, 1) := by decide +kernel
theorem dX12_nextOrder_45 : decode cX12_nextOrder 45 = .ok (.isub, 1) := by decide +kernel
theorem dX12_nextOrder_46 : decode cX12_nextOrder 46 = .ok (.istore_n 2, 1) := by decide +kernel
theorem dX12_nextOrder_47 : decode cX12_nextOrder 47 = .ok (.aload_n 0, 1) := by decide +kernel
theorem dX12_nextOrder_48 : decode cX12_nextOrder 48 = .ok (.getfield 55, 3) := by decide +kernel
theorem dX12_nextOrder_51 : decode cX12_nextOrder 51 = .ok (.iload_n 2, 1) := by decide +kernel
theorem dX12_nextOrder_52 : decode cX12_nextOrder 52 = .ok (.iaload, 1) := by decide +kernel
theorem dX12_nextOrder_53 : decode cX12_nextOrder 53 = .ok (.aload_n 0, 1) := by decide +kernel
theorem dX12_nextOrder_54 : decode cX12_nextOrder 54 = .ok (.getfield 55, 3) := by decide +kernel
theorem dX12_nextOrder_57 : decode cX12_nextOrder 57 = .ok (.iload_n 1, 1) := by decide +kernel
theorem dX12_nextOrder_58 : decode cX12_nextOrder 58 = .ok (.iaload, 1) := by decide +kernel
theorem dX12_nextOrder_59 : decode cX12_nextOrder 59 = .ok (.if_icmp .ge 9, 3) := by decide +kernel
theorem dX12_nextOrder_62 : decode cX12_nextOrder 62 = .ok (.iinc 2 (-1), 3) := by decide +kernel
theorem dX12_nextOrder_65 : decode cX12_nextOrder 65 = .ok (.goto (-18), 3) := by decide +kernel
theorem dX12_nextOrder_68 : decode cX12_nextOrder 68 = .ok (.aload_n 0, 1) := by decide +kernel
theorem dX12_nextOrder_69 : decode cX12_nextOrder 69 = .ok (.iload_n 1, 1) := by decide +kernel
theorem dX12_nextOrder_70 : decode cX12_nextOrder 70 = .ok (.iload_n 2, 1) := by decide +kernel
theorem dX12_nextOrder_71 : decode cX12_nextOrder 71 = .ok (.invokevirtual 251, 3) := by decide +kernel
theorem dX12_nextOrder_74 : decode cX12_nextOrder 74 = .ok (.iload_n 1, 1) := by decide +kernel
theorem dX12_nextOrder_75 : decode cX12_nextOrder 75 = .ok (.iconst 1, 1) := by decide +kernel
theorem dX12_nextOrder_76 : decode cX12_nextOrder 76 = .ok (.iadd, 1) := by decide +kernel
theorem dX12_nextOrder_77 : decode cX12_nextOrder 77 = .ok (.istore_n 3, 1) := by decide +kernel
theorem dX12_nextOrder_78 : decode cX12_nextOrder 78 = .ok (.aload_n 0, 1) := by decide +kernel
theorem dX12_nextOrder_79 : decode cX12_nextOrder 79 = .ok (.getfield 208, 3) := by decide +kernel
theorem dX12_nextOrder_82 : decode cX12_nextOrder 82 = .ok (.iconst 1, 1) := by decide +kernel
theorem dX12_nextOrder_83 : decode cX12_nextOrder 83 = .ok (.isub, 1) := by decide +kernel
theorem dX12_nextOrder_84 : decode cX12_nextOrder 84 = .ok (.istore 4, 2) := by decide +kernel
theorem dX12_nextOrder_86 : decode cX12_nextOrder 86 = .ok (.iload_n 3, 1) := by decide +kernel
theorem dX12_nextOrder_87 : decode cX12_nextOrder 87 = .ok (.iload 4, 2) := by decide +kernel
theorem dX12_nextOrder_89 : decode cX12_nextOrder 89 = .ok (.if_icmp .ge 19, 3) := by decide +kernel
theorem dX12_nextOrder_92 : decode cX12_nextOrder 92 = .ok (.aload_n 0, 1) := by decide +kernel
theorem dX12_nextOrder_93 : decode cX12_nextOrder 93 = .ok (.iload_n 3, 1) := by decide +kernel
theorem dX12_nextOrder_94 : decode cX12_nextOrder 94 = .ok (.iload 4, 2) := by decide +kernel
theorem dX12_nextOrder_96 : decode cX12_nextOrder 96 = .ok (.invokevirtual 251, 3) := by decide +kernel
theorem dX12_nextOrder_99 : decode cX12_nextOrder 99 = .ok (.iinc 3 1, 3) := by decide +kernel
theorem dX12_nextOrder_102 : decode cX12_nextOrder 102 = .ok (.iinc 4 (-1), 3) := by decide +kernel
theorem dX12_nextOrder_105 : decode cX12_nextOrder 105 = .ok (.goto (-19), 3) := by decide +kernel
theorem dX12_nextOrder_108 : decode cX12_nextOrder 108 = .ok (.iconst 1, 1) := by decide +kernel
theorem dX12_nextOrder_109 : decode cX12_nextOrder 109 = .ok (.ireturn, 1) := by decide +kernel
theorem dX12_findBest_0 : decode cX12_findBest 0 = .ok (.aload_n 0, 1) := by decide +kernel
theorem dX12_findBest_1 : decode cX12_findBest 1 = .ok (.aload_n 0, 1) := by decide +kernel
theorem dX12_findBest_2 : decode cX12_findBest 2 = .ok (.getfield 82, 3) := by decide +kernel
theorem dX12_findBest_5 : decode cX12_findBest 5 = .ok (.putfield 208, 3) := by decide +kernel
theorem dX12_findBest_8 : decode cX12_findBest 8 = .ok (.iconst 0, 1) := by decide +kernel
theorem dX12_findBest_9 : decode cX12_findBest 9 = .ok (.istore_n 2, 1) := by decide +kernel
theorem dX12_findBest_10 : decode cX12_findBest 10 = .ok (.iload_n 2, 1) := by decide +kernel
theorem dX12_findBest_11 : decode cX12_findBest 11 = .ok (.aload_n 0, 1) := by decide +kernel
theorem dX12_findBest_12 : decode cX12_findBest 12 = .ok (.getfield 82, 3) := by decide +kernel
theorem dX12_findBest_15 : decode cX12_findBest 15 = .ok (.if_icmp .ge 16, 3) := by decide +kernel
theorem dX12_findBest_18 : decode cX12_findBest 18 = .ok (.aload_n 0, 1) := by decide +kernel
theorem dX12_findBest_19 : decode cX12_findBest 19 = .ok (.getfield 55, 3) := by decide +kernel
theorem dX12_findBest_22 : decode cX12_findBest 22 = .ok (.iload_n 2, 1) := by decide +kernel
theorem dX12_findBest_23 : decode cX12_findBest 23 = .ok (.iload_n 2, 1) := by decide +kernel
theorem dX12_findBest_24 : decode cX12_findBest 24 = .ok (.iastore, 1) := by decide +kernel
theorem dX12_findBest_25 : decode cX12_findBest 25 = .ok (.iinc 2 1, 3) := by decide +kernel
theorem dX12_findBest_28 : decode cX12_findBest 28 = .ok (.goto (-18), 3) := by decide +kernel
theorem dX12_findBest_31 : decode cX12_findBest 31 = .ok (.iconst 0, 1) := by decide +kernel
theorem dX12_findBest_32 : decode cX12_findBest 32 = .ok (.istore_n 2, 1) := by decide +kernel
theorem dX12_findBest_33 : decode cX12_findBest 33 = .ok (.iconst 1, 1) := by decide +kernel
theorem dX12_findBest_34 : decode cX12_findBest 34 = .ok (.istore_n 3, 1) := by decide +kernel
theorem dX12_findBest_35 : decode cX12_findBest 35 = .ok (.iconst 1, 1) := by decide +kernel
theorem dX12_findBest_36 : decode cX12_findBest 36 = .ok (.istore 4, 2) := by decide +kernel
theorem dX12_findBest_38 : decode cX12_findBest 38 = .ok (.iload 4, 2) := by decide +kernel
theorem dX12_findBest_40 : decode cX12_findBest 40 = .ok (.ifCond .eq 98, 3) := by decide +kernel
theorem dX12_findBest_43 : decode cX12_findBest 43 = .ok (.aload_n 0, 1) := by decide +kernel
theorem dX12_findBest_44 : decode cX12_findBest 44 = .ok (.invokevirtual 224, 3) := by decide +kernel
theorem dX12_findBest_47 : decode cX12_findBest 47 = .ok (.istore 5, 2) := by decide +kernel
theorem dX12_findBest_49 : decode cX12_findBest 49 = .ok (.iload_n 1, 1) := by decide +kernel
theorem dX12_findBest_50 : decode cX12_findBest 50 = .ok (.ifCond .ne 8, 3) := by decide +kernel
theorem dX12_findBest_53 : decode cX12_findBest 53 = .ok (.iload 5, 2) := by decide +kernel
theorem dX12_findBest_55 : decode cX12_findBest 55 = .ok (.goto 12, 3) := by decide +kernel
theorem dX12_findBest_58 : decode cX12_findBest 58 = .ok (.aload_n 0, 1) := by decide +kernel
theorem dX12_findBest_59 : decode cX12_findBest 59 = .ok (.aload_n 0, 1) := by decide +kernel
theorem dX12_findBest_60 : decode cX12_findBest 60 = .ok (.iconst 0, 1) := by decide +kernel
theorem dX12_findBest_61 : decode cX12_findBest 61 = .ok (.invokevirtual 236, 3) := by decide +kernel
theorem dX12_findBest_64 : decode cX12_findBest 64 = .ok (.invokevirtual 239, 3) := by decide +kernel
theorem dX12_findBest_67 : decode cX12_findBest 67 = .ok (.istore 6, 2) := by decide +kernel
theorem dX12_findBest_69 : decode cX12_findBest 69 = .ok (.iload_n 3, 1) := by decide +kernel
theorem dX12_findBest_70 : decode cX12_findBest 70 = .ok (.ifCond .ne 22, 3) := by decide +kernel
theorem dX12_findBest_73 : decode cX12_findBest 73 = .ok (.iload_n 1, 1) := by decide +kernel
theorem dX12_findBest_74 : decode cX12_findBest 74 = .ok (.ifCond .ne 12, 3) := by decide +kernel
theorem dX12_findBest_77 : decode cX12_findBest 77 = .ok (.iload 6, 2) := by decide +kernel
theorem dX12_findBest_79 : decode cX12_findBest 79 = .ok (.iload_n 2, 1) := by decide +kernel
theorem dX12_findBest_80 : decode cX12_findBest 80 = .ok (.if_icmp .ge 47, 3) := by decide +kernel
theorem dX12_findBest_83 : decode cX12_findBest 83 = .ok (.goto 9, 3) := by decide +kernel
theorem dX12_findBest_86 : decode cX12_findBest 86 = .ok (.iload 6, 2) := by decide +kernel
theorem dX12_findBest_88 : decode cX12_findBest 88 = .ok (.iload_n 2, 1) := by decide +kernel
theorem dX12_findBest_89 : decode cX12_findBest 89 = .ok (.if_icmp .le 38, 3) := by decide +kernel
theorem dX12_findBest_92 : decode cX12_findBest 92 = .ok (.iload 6, 2) := by decide +kernel
theorem dX12_findBest_94 : decode cX12_findBest 94 = .ok (.istore_n 2, 1) := by decide +kernel
theorem dX12_findBest_95 : decode cX12_findBest 95 = .ok (.iconst 0, 1) := by decide +kernel
theorem dX12_findBest_96 : decode cX12_findBest 96 = .ok (.istore 7, 2) := by decide +kernel
theorem dX12_findBest_98 : decode cX12_findBest 98 = .ok (.iload 7, 2) := by decide +kernel
theorem dX12_findBest_100 : decode cX12_findBest 100 = .ok (.aload_n 0, 1) := by decide +kernel
theorem dX12_findBest_101 : decode cX12_findBest 101 = .ok (.getfield 82, 3) := by decide +kernel
theorem dX12_findBest_104 : decode cX12_findBest 104 = .ok (.if_icmp .ge 23, 3) := by decide +kernel
theorem dX12_findBest_107 : decode cX12_findBest 107 = .ok (.aload_n 0, 1) := by decide +kernel
theorem dX12_findBest_108 : decode cX12_findBest 108 = .ok (.getfield 61, 3) := by decide +kernel
theorem dX12_findBest_111 : decode cX12_findBest 111 = .ok (.iload 7, 2) := by decide +kernel
theorem dX12_findBest_113 : decode cX12_findBest 113 = .ok (.aload_n 0, 1) := by decide +kernel
theorem dX12_findBest_114 : decode cX12_findBest 114 = .ok (.getfield 55, 3) := by decide +kernel
theorem dX12_findBest_117 : decode cX12_findBest 117 = .ok (.iload 7, 2) := by decide +kernel
theorem dX12_findBest_119 : decode cX12_findBest 119 = .ok (.iaload, 1) := by decide +kernel
theorem dX12_findBest_120 : decode cX12_findBest 120 = .ok (.iastore, 1) := by decide +kernel
theorem dX12_findBest_121 : decode cX12_findBest 121 = .ok (.iinc 7 1, 3) := by decide +kernel
theorem dX12_findBest_124 : decode cX12_findBest 124 = .ok (.goto (-26), 3) := by decide +kernel
theorem dX12_findBest_127 : decode cX12_findBest 127 = .ok (.iconst 0, 1) := by decide +kernel
theorem dX12_findBest_128 : decode cX12_findBest 128 = .ok (.istore_n 3, 1) := by decide +kernel
theorem dX12_findBest_129 : decode cX12_findBest 129 = .ok (.aload_n 0, 1) := by decide +kernel
theorem dX12_findBest_130 : decode cX12_findBest 130 = .ok (.invokevirtual 255, 3) := by decide +kernel
theorem dX12_findBest_133 : decode cX12_findBest 133 = .ok (.istore 4, 2) := by decide +kernel
theorem dX12_findBest_135 : decode cX12_findBest 135 = .ok (.goto (-97), 3) := by decide +kernel
theorem dX12_findBest_138 : decode cX12_findBest 138 = .ok (.iload_n 2, 1) := by decide +kernel
theorem dX12_findBest_139 : decode cX12_findBest 139 = .ok (.ireturn, 1) := by decide +kernel
theorem dX12_best_0 : decode cX12_best 0 = .ok (.iload_n 1, 1) := by decide +kernel
theorem dX12_best_1 : decode cX12_best 1 = .ok (.iconst 0, 1) := by decide +kernel
theorem dX12_best_2 : decode cX12_best 2 = .ok (.iconst 1, 1) := by decide +kernel
theorem dX12_best_3 : decode cX12_best 3 = .ok (.invokestatic 92, 3) := by decide +kernel
theorem dX12_best_6 : decode cX12_best 6 = .ok (.ifCond .eq 17, 3) := by decide +kernel
theorem dX12_best_9 : decode cX12_best 9 = .ok (.iload_n 2, 1) := by decide +kernel
theorem dX12_best_10 : decode cX12_best 10 = .ok (.iconst (-1), 1) := by decide +kernel
theorem dX12_best_11 : decode cX12_best 11 = .ok (.aload_n 0, 1) := by decide +kernel
theorem dX12_best_12 : decode cX12_best 12 = .ok (.getfield 82, 3) := by decide +kernel
theorem dX12_best_15 : decode cX12_best 15 = .ok (.iconst 1, 1) := by decide +kernel
theorem dX12_best_16 : decode cX12_best 16 = .ok (.isub, 1) := by decide +kernel
theorem dX12_best_17 : decode cX12_best 17 = .ok (.invokestatic 92, 3) := by decide +kernel
theorem dX12_best_20 : decode cX12_best 20 = .ok (.ifCond .ne 6, 3) := by decide +kernel
theorem dX12_best_23 : decode cX12_best 23 = .ok (.bipush (-2), 2) := by decide +kernel
theorem dX12_best_25 : decode cX12_best 25 = .ok (.ireturn, 1) := by decide +kernel
theorem dX12_best_26 : decode cX12_best 26 = .ok (.aload_n 0, 1) := by decide +kernel
theorem dX12_best_27 : decode cX12_best 27 = .ok (.iload_n 1, 1) := by decide +kernel
theorem dX12_best_28 : decode cX12_best 28 = .ok (.invokevirtual 258, 3) := by decide +kernel
theorem dX12_best_31 : decode cX12_best 31 = .ok (.istore_n 3, 1) := by decide +kernel
theorem dX12_best_32 : decode cX12_best 32 = .ok (.iload_n 2, 1) := by decide +kernel
theorem dX12_best_33 : decode cX12_best 33 = .ok (.iconst (-1), 1) := by decide +kernel
theorem dX12_best_34 : decode cX12_best 34 = .ok (.if_icmp .ne 7, 3) := by decide +kernel
theorem dX12_best_37 : decode cX12_best 37 = .ok (.iload_n 3, 1) := by decide +kernel
theorem dX12_best_38 : decode cX12_best 38 = .ok (.goto 9, 3) := by decide +kernel
theorem dX12_best_41 : decode cX12_best 41 = .ok (.aload_n 0, 1) := by decide +kernel
theorem dX12_best_42 : decode cX12_best 42 = .ok (.getfield 61, 3) := by decide +kernel
theorem dX12_best_45 : decode cX12_best 45 = .ok (.iload_n 2, 1) := by decide +kernel
theorem dX12_best_46 : decode cX12_best 46 = .ok (.iaload, 1) := by decide +kernel
theorem dX12_best_47 : decode cX12_best 47 = .ok (.ireturn, 1) := by decide +kernel
theorem dX12_arrange_0 : decode cX12_arrange 0 = .ok (.iload_n 1, 1) := by decide +kernel
theorem dX12_arrange_1 : decode cX12_arrange 1 = .ok (.iconst 0, 1) := by decide +kernel
theorem dX12_arrange_2 : decode cX12_arrange 2 = .ok (.iconst 1, 1) := by decide +kernel
theorem dX12_arrange_3 : decode cX12_arrange 3 = .ok (.invokestatic 92, 3) := by decide +kernel
theorem dX12_arrange_6 : decode cX12_arrange 6 = .ok (.ifCond .ne 6, 3) := by decide +kernel
theorem dX12_arrange_9 : decode cX12_arrange 9 = .ok (.bipush (-2), 2) := by decide +kernel
theorem dX12_arrange_11 : decode cX12_arrange 11 = .ok (.ireturn, 1) := by decide +kernel
theorem dX12_arrange_12 : decode cX12_arrange 12 = .ok (.aload_n 0, 1) := by decide +kernel
theorem dX12_arrange_13 : decode cX12_arrange 13 = .ok (.iload_n 1, 1) := by decide +kernel
theorem dX12_arrange_14 : decode cX12_arrange 14 = .ok (.invokevirtual 258, 3) := by decide +kernel
theorem dX12_arrange_17 : decode cX12_arrange 17 = .ok (.pop, 1) := by decide +kernel
theorem dX12_arrange_18 : decode cX12_arrange 18 = .ok (.iconst 0, 1) := by decide +kernel
theorem dX12_arrange_19 : decode cX12_arrange 19 = .ok (.istore_n 2, 1) := by decide +kernel
theorem dX12_arrange_20 : decode cX12_arrange 20 = .ok (.iload_n 2, 1) := by decide +kernel
theorem dX12_arrange_21 : decode cX12_arrange 21 = .ok (.aload_n 0, 1) := by decide +kernel
theorem dX12_arrange_22 : decode cX12_arrange 22 = .ok (.getfield 82, 3) := by decide +kernel
theorem dX12_arrange_25 : decode cX12_arrange 25 = .ok (.if_icmp .ge 21, 3) := by decide +kernel
theorem dX12_arrange_28 : decode cX12_arrange 28 = .ok (.aload_n 0, 1) := by decide +kernel
theorem dX12_arrange_29 : decode cX12_arrange 29 = .ok (.getfield 25, 3) := by decide +kernel
theorem dX12_arrange_32 : decode cX12_arrange 32 = .ok (.iload_n 2, 1) := by decide +kernel
theorem dX12_arrange_33 : decode cX12_arrange 33 = .ok (.aload_n 0, 1) := by decide +kernel
theorem dX12_arrange_34 : decode cX12_arrange 34 = .ok (.getfield 61, 3) := by decide +kernel
theorem dX12_arrange_37 : decode cX12_arrange 37 = .ok (.iload_n 2, 1) := by decide +kernel
theorem dX12_arrange_38 : decode cX12_arrange 38 = .ok (.iaload, 1) := by decide +kernel
theorem dX12_arrange_39 : decode cX12_arrange 39 = .ok (.iastore, 1) := by decide +kernel
theorem dX12_arrange_40 : decode cX12_arrange 40 = .ok (.iinc 2 1, 3) := by decide +kernel
theorem dX12_arrange_43 : decode cX12_arrange 43 = .ok (.goto (-23), 3) := by decide +kernel
theorem dX12_arrange_46 : decode cX12_arrange 46 = .ok (.aload_n 0, 1) := by decide +kernel
theorem dX12_arrange_47 : decode cX12_arrange 47 = .ok (.invokevirtual 221, 3) := by decide +kernel
theorem dX12_arrange_50 : decode cX12_arrange 50 = .ok (.aload_n 0, 1) := by decide +kernel
theorem dX12_arrange_51 : decode cX12_arrange 51 = .ok (.invokevirtual 224, 3) := by decide +kernel
theorem dX12_arrange_54 : decode cX12_arrange 54 = .ok (.ireturn, 1) := by decide +kernel
theorem dX12_isAhead_0 : decode cX12_isAhead 0 = .ok (.iload_n 3, 1) := by decide +kernel
theorem dX12_isAhead_1 : decode cX12_isAhead 1 = .ok (.ifCond .ne 33, 3) := by decide +kernel
theorem dX12_isAhead_4 : decode cX12_isAhead 4 = .ok (.aload_n 0, 1) := by decide +kernel
theorem dX12_isAhead_5 : decode cX12_isAhead 5 = .ok (.getfield 19, 3) := by decide +kernel
theorem dX12_isAhead_8 : decode cX12_isAhead 8 = .ok (.iload_n 1, 1) := by decide +kernel
theorem dX12_isAhead_9 : decode cX12_isAhead 9 = .ok (.iaload, 1) := by decide +kernel
theorem dX12_isAhead_10 : decode cX12_isAhead 10 = .ok (.aload_n 0, 1) := by decide +kernel
theorem dX12_isAhead_11 : decode cX12_isAhead 11 = .ok (.getfield 19, 3) := by decide +kernel
theorem dX12_isAhead_14 : decode cX12_isAhead 14 = .ok (.iload_n 2, 1) := by decide +kernel
theorem dX12_isAhead_15 : decode cX12_isAhead 15 = .ok (.iaload, 1) := by decide +kernel
theorem dX12_isAhead_16 : decode cX12_isAhead 16 = .ok (.if_icmp .eq 18, 3) := by decide +kernel
theorem dX12_isAhead_19 : decode cX12_isAhead 19 = .ok (.aload_n 0, 1) := by decide +kernel
theorem dX12_isAhead_20 : decode cX12_isAhead 20 = .ok (.getfield 19, 3) := by decide +kernel
theorem dX12_isAhead_23 : decode cX12_isAhead 23 = .ok (.iload_n 1, 1) := by decide +kernel
theorem dX12_isAhead_24 : decode cX12_isAhead 24 = .ok (.iaload, 1) := by decide +kernel
theorem dX12_isAhead_25 : decode cX12_isAhead 25 = .ok (.ifCond .ne 7, 3) := by decide +kernel
theorem dX12_isAhead_28 : decode cX12_isAhead 28 = .ok (.iconst 1, 1) := by decide +kernel
theorem dX12_isAhead_29 : decode cX12_isAhead 29 = .ok (.goto 4, 3) := by decide +kernel
theorem dX12_isAhead_32 : decode cX12_isAhead 32 = .ok (.iconst 0, 1) := by decide +kernel
theorem dX12_isAhead_33 : decode cX12_isAhead 33 = .ok (.ireturn, 1) := by decide +kernel
theorem dX12_isAhead_34 : decode cX12_isAhead 34 = .ok (.aload_n 0, 1) := by decide +kernel
theorem dX12_isAhead_35 : decode cX12_isAhead 35 = .ok (.getfield 16, 3) := by decide +kernel
theorem dX12_isAhead_38 : decode cX12_isAhead 38 = .ok (.iload_n 1, 1) := by decide +kernel
theorem dX12_isAhead_39 : decode cX12_isAhead 39 = .ok (.iaload, 1) := by decide +kernel
theorem dX12_isAhead_40 : decode cX12_isAhead 40 = .ok (.aload_n 0, 1) := by decide +kernel
theorem dX12_isAhead_41 : decode cX12_isAhead 41 = .ok (.getfield 16, 3) := by decide +kernel
theorem dX12_isAhead_44 : decode cX12_isAhead 44 = .ok (.iload_n 2, 1) := by decide +kernel
theorem dX12_isAhead_45 : decode cX12_isAhead 45 = .ok (.iaload, 1) := by decide +kernel
theorem dX12_isAhead_46 : decode cX12_isAhead 46 = .ok (.if_icmp .ne 14, 3) := by decide +kernel
theorem dX12_isAhead_49 : decode cX12_isAhead 49 = .ok (.iload_n 1, 1) := by decide +kernel
theorem dX12_isAhead_50 : decode cX12_isAhead 50 = .ok (.iload_n 2, 1) := by decide +kernel
theorem dX12_isAhead_51 : decode cX12_isAhead 51 = .ok (.if_icmp .ge 7, 3) := by decide +kernel
theorem dX12_isAhead_54 : decode cX12_isAhead 54 = .ok (.iconst 1, 1) := by decide +kernel
theorem dX12_isAhead_55 : decode cX12_isAhead 55 = .ok (.goto 4, 3) := by decide +kernel
theorem dX12_isAhead_58 : decode cX12_isAhead 58 = .ok (.iconst 0, 1) := by decide +kernel
theorem dX12_isAhead_59 : decode cX12_isAhead 59 = .ok (.ireturn, 1) := by decide +kernel
theorem dX12_isAhead_60 : decode cX12_isAhead 60 = .ok (.aload_n 0, 1) := by decide +kernel
theorem dX12_isAhead_61 : decode cX12_isAhead 61 = .ok (.getfield 16, 3) := by decide +kernel
theorem dX12_isAhead_64 : decode cX12_isAhead 64 = .ok (.iload_n 1, 1) := by decide +kernel
theorem dX12_isAhead_65 : decode cX12_isAhead 65 = .ok (.iaload, 1) := by decide +kernel
theorem dX12_isAhead_66 : decode cX12_isAhead 66 = .ok (.aload_n 0, 1) := by decide +kernel
theorem dX12_isAhead_67 : decode cX12_isAhead 67 = .ok (.getfield 16, 3) := by decide +kernel
theorem dX12_isAhead_70 : decode cX12_isAhead 70 = .ok (.iload_n 2, 1) := by decide +kernel
theorem dX12_isAhead_71 : decode cX12_isAhead 71 = .ok (.iaload, 1) := by decide +kernel
theorem dX12_isAhead_72 : decode cX12_isAhead 72 = .ok (.if_icmp .ge 7, 3) := by decide +kernel
theorem dX12_isAhead_75 : decode cX12_isAhead 75 = .ok (.iconst 1, 1) := by decide +kernel
theorem dX12_isAhead_76 : decode cX12_isAhead 76 = .ok (.goto 4, 3) := by decide +kernel
theorem dX12_isAhead_79 : decode cX12_isAhead 79 = .ok (.iconst 0, 1) := by decide +kernel
theorem dX12_isAhead_80 : decode cX12_isAhead 80 = .ok (.iload_n 3, 1) := by decide +kernel
theorem dX12_isAhead_81 : decode cX12_isAhead 81 = .ok (.ifCond .ne 12, 3) := by decide +kernel
theorem dX12_isAhead_84 : decode cX12_isAhead 84 = .ok (.aload_n 0, 1) := by decide +kernel
theorem dX12_isAhead_85 : decode cX12_isAhead 85 = .ok (.getfield 19, 3) := by decide +kernel
theorem dX12_isAhead_88 : decode cX12_isAhead 88 = .ok (.iload_n 1, 1) := by decide +kernel
theorem dX12_isAhead_89 : decode cX12_isAhead 89 = .ok (.iaload, 1) := by decide +kernel
theorem dX12_isAhead_90 : decode cX12_isAhead 90 = .ok (.ifCond .ne 7, 3) := by decide +kernel
theorem dX12_isAhead_93 : decode cX12_isAhead 93 = .ok (.iconst 1, 1) := by decide +kernel
theorem dX12_isAhead_94 : decode cX12_isAhead 94 = .ok (.goto 4, 3) := by decide +kernel
theorem dX12_isAhead_97 : decode cX12_isAhead 97 = .ok (.iconst 0, 1) := by decide +kernel
theorem dX12_isAhead_98 : decode cX12_isAhead 98 = .ok (.if_icmp .ne 7, 3) := by decide +kernel
theorem dX12_isAhead_101 : decode cX12_isAhead 101 = .ok (.iconst 1, 1) := by decide +kernel
theorem dX12_isAhead_102 : decode cX12_isAhead 102 = .ok (.goto 4, 3) := by decide +kernel
theorem dX12_isAhead_105 : decode cX12_isAhead 105 = .ok (.iconst 0, 1) := by decide +kernel
theorem dX12_isAhead_106 : decode cX12_isAhead 106 = .ok (.ireturn, 1) := by decide +kernel
theorem dX12_ways_0 : decode cX12_ways 0 = .ok (.iload_n 1, 1) := by decide +kernel
theorem dX12_ways_1 : decode cX12_ways 1 = .ok (.iconst 0, 1) := by decide +kernel
theorem dX12_ways_2 : decode cX12_ways 2 = .ok (.iconst 1, 1) := by decide +kernel
theorem dX12_ways_3 : decode cX12_ways 3 = .ok (.invokestatic 92, 3) := by decide +kernel
theorem dX12_ways_6 : decode cX12_ways 6 = .ok (.ifCond .ne 6, 3) := by decide +kernel
theorem dX12_ways_9 : decode cX12_ways 9 = .ok (.bipush (-2), 2) := by decide +kernel
theorem dX12_ways_11 : decode cX12_ways 11 = .ok (.ireturn, 1) := by decide +kernel
theorem dX12_ways_12 : decode cX12_ways 12 = .ok (.aload_n 0, 1) := by decide +kernel
theorem dX12_ways_13 : decode cX12_ways 13 = .ok (.aload_n 0, 1) := by decide +kernel
theorem dX12_ways_14 : decode cX12_ways 14 = .ok (.getfield 82, 3) := by decide +kernel
theorem dX12_ways_17 : decode cX12_ways 17 = .ok (.putfield 208, 3) := by decide +kernel
theorem dX12_ways_20 : decode cX12_ways 20 = .ok (.iconst 0, 1) := by decide +kernel
theorem dX12_ways_21 : decode cX12_ways 21 = .ok (.istore_n 2, 1) := by decide +kernel
theorem dX12_ways_22 : decode cX12_ways 22 = .ok (.iload_n 2, 1) := by decide +kernel
theorem dX12_ways_23 : decode cX12_ways 23 = .ok (.aload_n 0, 1) := by decide +kernel
theorem dX12_ways_24 : decode cX12_ways 24 = .ok (.getfield 82, 3) := by decide +kernel
theorem dX12_ways_27 : decode cX12_ways 27 = .ok (.if_icmp .ge 68, 3) := by decide +kernel
theorem dX12_ways_30 : decode cX12_ways 30 = .ok (.iload_n 2, 1) := by decide +kernel
theorem dX12_ways_31 : decode cX12_ways 31 = .ok (.istore_n 3, 1) := by decide +kernel
theorem dX12_ways_32 : decode cX12_ways 32 = .ok (.iload_n 3, 1) := by decide +kernel
theorem dX12_ways_33 : decode cX12_ways 33 = .ok (.ifCond .le 49, 3) := by decide +kernel
theorem dX12_ways_36 : decode cX12_ways 36 = .ok (.aload_n 0, 1) := by decide +kernel
theorem dX12_ways_37 : decode cX12_ways 37 = .ok (.iload_n 2, 1) := by decide +kernel
theorem dX12_ways_38 : decode cX12_ways 38 = .ok (.aload_n 0, 1) := by decide +kernel
theorem dX12_ways_39 : decode cX12_ways 39 = .ok (.getfield 55, 3) := by decide +kernel
theorem dX12_ways_42 : decode cX12_ways 42 = .ok (.iload_n 3, 1) := by decide +kernel
theorem dX12_ways_43 : decode cX12_ways 43 = .ok (.iconst 1, 1) := by decide +kernel
theorem dX12_ways_44 : decode cX12_ways 44 = .ok (.isub, 1) := by decide +kernel
theorem dX12_ways_45 : decode cX12_ways 45 = .ok (.iaload, 1) := by decide +kernel
theorem dX12_ways_46 : decode cX12_ways 46 = .ok (.iload_n 1, 1) := by decide +kernel
theorem dX12_ways_47 : decode cX12_ways 47 = .ok (.iconst 1, 1) := by decide +kernel
theorem dX12_ways_48 : decode cX12_ways 48 = .ok (.if_icmp .ne 7, 3) := by decide +kernel
theorem dX12_ways_51 : decode cX12_ways 51 = .ok (.iconst 1, 1) := by decide +kernel
theorem dX12_ways_52 : decode cX12_ways 52 = .ok (.goto 4, 3) := by decide +kernel
theorem dX12_ways_55 : decode cX12_ways 55 = .ok (.iconst 0, 1) := by decide +kernel
theorem dX12_ways_56 : decode cX12_ways 56 = .ok (.invokevirtual 261, 3) := by decide +kernel
theorem dX12_ways_59 : decode cX12_ways 59 = .ok (.ifCond .eq 23, 3) := by decide +kernel
theorem dX12_ways_62 : decode cX12_ways 62 = .ok (.aload_n 0, 1) := by decide +kernel
theorem dX12_ways_63 : decode cX12_ways 63 = .ok (.getfield 55, 3) := by decide +kernel
theorem dX12_ways_66 : decode cX12_ways 66 = .ok (.iload_n 3, 1) := by decide +kernel
theorem dX12_ways_67 : decode cX12_ways 67 = .ok (.aload_n 0, 1) := by decide +kernel
theorem dX12_ways_68 : decode cX12_ways 68 = .ok (.getfield 55, 3) := by decide +kernel
theorem dX12_ways_71 : decode cX12_ways 71 = .ok (.iload_n 3, 1) := by decide +kernel
theorem dX12_ways_72 : decode cX12_ways 72 = .ok (.iconst 1, 1) := by decide +kernel
theorem dX12_ways_73 : decode cX12_ways 73 = .ok (.isub, 1) := by decide +kernel
theorem dX12_ways_74 : decode cX12_ways 74 = .ok (.iaload, 1) := by decide +kernel
theorem dX12_ways_75 : decode cX12_ways 75 = .ok (.iastore, 1) := by decide +kernel
theorem dX12_ways_76 : decode cX12_ways 76 = .ok (.iinc 3 (-1), 3) := by decide +kernel
theorem dX12_ways_79 : decode cX12_ways 79 = .ok (.goto (-47), 3) := by decide +kernel
theorem dX12_ways_82 : decode cX12_ways 82 = .ok (.aload_n 0, 1) := by decide +kernel
theorem dX12_ways_83 : decode cX12_ways 83 = .ok (.getfield 55, 3) := by decide +kernel
theorem dX12_ways_86 : decode cX12_ways 86 = .ok (.iload_n 3, 1) := by decide +kernel
theorem dX12_ways_87 : decode cX12_ways 87 = .ok (.iload_n 2, 1) := by decide +kernel
theorem dX12_ways_88 : decode cX12_ways 88 = .ok (.iastore, 1) := by decide +kernel
theorem dX12_ways_89 : decode cX12_ways 89 = .ok (.iinc 2 1, 3) := by decide +kernel
theorem dX12_ways_92 : decode cX12_ways 92 = .ok (.goto (-70), 3) := by decide +kernel
theorem dX12_ways_95 : decode cX12_ways 95 = .ok (.aload_n 0, 1) := by decide +kernel
theorem dX12_ways_96 : decode cX12_ways 96 = .ok (.invokevirtual 224, 3) := by decide +kernel
theorem dX12_ways_99 : decode cX12_ways 99 = .ok (.ireturn, 1) := by decide +kernel
theorem dX12_begin_0 : decode cX12_begin 0 = .ok (.aload_n 0, 1) := by decide +kernel
theorem dX12_begin_1 : decode cX12_begin 1 = .ok (.invokevirtual 221, 3) := by decide +kernel
theorem dX12_begin_4 : decode cX12_begin 4 = .ok (.aload_n 0, 1) := by decide +kernel
theorem dX12_begin_5 : decode cX12_begin 5 = .ok (.getfield 28, 3) := by decide +kernel
theorem dX12_begin_8 : decode cX12_begin 8 = .ok (.iconst 2, 1) := by decide +kernel
theorem dX12_begin_9 : decode cX12_begin 9 = .ok (.iaload, 1) := by decide +kernel
theorem dX12_begin_10 : decode cX12_begin 10 = .ok (.istore_n 1, 1) := by decide +kernel
theorem dX12_begin_11 : decode cX12_begin 11 = .ok (.iconst (-1), 1) := by decide +kernel
theorem dX12_begin_12 : decode cX12_begin 12 = .ok (.istore_n 2, 1) := by decide +kernel
theorem dX12_begin_13 : decode cX12_begin 13 = .ok (.sipush 999, 3) := by decide +kernel
theorem dX12_begin_16 : decode cX12_begin 16 = .ok (.istore_n 3, 1) := by decide +kernel
theorem dX12_begin_17 : decode cX12_begin 17 = .ok (.iload_n 3, 1) := by decide +kernel
theorem dX12_begin_18 : decode cX12_begin 18 = .ok (.ifCond .lt 34, 3) := by decide +kernel
theorem dX12_begin_21 : decode cX12_begin 21 = .ok (.iload_n 2, 1) := by decide +kernel
theorem dX12_begin_22 : decode cX12_begin 22 = .ok (.ifCond .ge 30, 3) := by decide +kernel
theorem dX12_begin_25 : decode cX12_begin 25 = .ok (.aload_n 0, 1) := by decide +kernel
theorem dX12_begin_26 : decode cX12_begin 26 = .ok (.getfield 28, 3) := by decide +kernel
theorem dX12_begin_29 : decode cX12_begin 29 = .ok (.iconst 2, 1) := by decide +kernel
theorem dX12_begin_30 : decode cX12_begin 30 = .ok (.iload_n 3, 1) := by decide +kernel
theorem dX12_begin_31 : decode cX12_begin 31 = .ok (.iastore, 1) := by decide +kernel
theorem dX12_begin_32 : decode cX12_begin 32 = .ok (.aload_n 0, 1) := by decide +kernel
theorem dX12_begin_33 : decode cX12_begin 33 = .ok (.invokevirtual 224, 3) := by decide +kernel
theorem dX12_begin_36 : decode cX12_begin 36 = .ok (.pop, 1) := by decide +kernel
theorem dX12_begin_37 : decode cX12_begin 37 = .ok (.aload_n 0, 1) := by decide +kernel
theorem dX12_begin_38 : decode cX12_begin 38 = .ok (.invokevirtual 233, 3) := by decide +kernel
theorem dX12_begin_41 : decode cX12_begin 41 = .ok (.ifCond .ne 5, 3) := by decide +kernel
theorem dX12_begin_44 : decode cX12_begin 44 = .ok (.iload_n 3, 1) := by decide +kernel
theorem dX12_begin_45 : decode cX12_begin 45 = .ok (.istore_n 2, 1) := by decide +kernel
theorem dX12_begin_46 : decode cX12_begin 46 = .ok (.iinc 3 (-1), 3) := by decide +kernel
theorem dX12_begin_49 : decode cX12_begin 49 = .ok (.goto (-32), 3) := by decide +kernel
theorem dX12_begin_52 : decode cX12_begin 52 = .ok (.aload_n 0, 1) := by decide +kernel
theorem dX12_begin_53 : decode cX12_begin 53 = .ok (.getfield 28, 3) := by decide +kernel
theorem dX12_begin_56 : decode cX12_begin 56 = .ok (.iconst 2, 1) := by decide +kernel
theorem dX12_begin_57 : decode cX12_begin 57 = .ok (.iload_n 1, 1) := by decide +kernel
theorem dX12_begin_58 : decode cX12_begin 58 = .ok (.iastore, 1) := by decide +kernel
theorem dX12_begin_59 : decode cX12_begin 59 = .ok (.iload_n 2, 1) := by decide +kernel
theorem dX12_begin_60 : decode cX12_begin 60 = .ok (.ireturn, 1) := by decide +kernel
theorem dX12_heap_0 : decode cX12_heap 0 = .ok (.iload_n 1, 1) := by decide +kernel
theorem dX12_heap_1 : decode cX12_heap 1 = .ok (.iconst 0, 1) := by decide +kernel
theorem dX12_heap_2 : decode cX12_heap 2 = .ok (.iconst 1, 1) := by decide +kernel
theorem dX12_heap_3 : decode cX12_heap 3 = .ok (.invokestatic 92, 3) := by decide +kernel
theorem dX12_heap_6 : decode cX12_heap 6 = .ok (.ifCond .ne 6, 3) := by decide +kernel
theorem dX12_heap_9 : decode cX12_heap 9 = .ok (.bipush (-2), 2) := by decide +kernel
theorem dX12_heap_11 : decode cX12_heap 11 = .ok (.ireturn, 1) := by decide +kernel
theorem dX12_heap_12 : decode cX12_heap 12 = .ok (.aload_n 0, 1) := by decide +kernel
theorem dX12_heap_13 : decode cX12_heap 13 = .ok (.invokevirtual 221, 3) := by decide +kernel
theorem dX12_heap_16 : decode cX12_heap 16 = .ok (.aload_n 0, 1) := by decide +kernel
theorem dX12_heap_17 : decode cX12_heap 17 = .ok (.getfield 28, 3) := by decide +kernel
theorem dX12_heap_20 : decode cX12_heap 20 = .ok (.iconst 1, 1) := by decide +kernel
theorem dX12_heap_21 : decode cX12_heap 21 = .ok (.iaload, 1) := by decide +kernel
theorem dX12_heap_22 : decode cX12_heap 22 = .ok (.istore_n 2, 1) := by decide +kernel
theorem dX12_heap_23 : decode cX12_heap 23 = .ok (.iconst 0, 1) := by decide +kernel
theorem dX12_heap_24 : decode cX12_heap 24 = .ok (.istore_n 3, 1) := by decide +kernel
theorem dX12_heap_25 : decode cX12_heap 25 = .ok (.iconst 0, 1) := by decide +kernel
theorem dX12_heap_26 : decode cX12_heap 26 = .ok (.istore 4, 2) := by decide +kernel
theorem dX12_heap_28 : decode cX12_heap 28 = .ok (.iconst 0, 1) := by decide +kernel
theorem dX12_heap_29 : decode cX12_heap 29 = .ok (.istore 5, 2) := by decide +kernel
theorem dX12_heap_31 : decode cX12_heap 31 = .ok (.iload 5, 2) := by decide +kernel
theorem dX12_heap_33 : decode cX12_heap 33 = .ok (.bipush 100, 2) := by decide +kernel
theorem dX12_heap_35 : decode cX12_heap 35 = .ok (.if_icmp .ge 45, 3) := by decide +kernel
theorem dX12_heap_38 : decode cX12_heap 38 = .ok (.aload_n 0, 1) := by decide +kernel
theorem dX12_heap_39 : decode cX12_heap 39 = .ok (.getfield 28, 3) := by decide +kernel
theorem dX12_heap_42 : decode cX12_heap 42 = .ok (.iconst 1, 1) := by decide +kernel
theorem dX12_heap_43 : decode cX12_heap 43 = .ok (.iload 5, 2) := by decide +kernel
theorem dX12_heap_45 : decode cX12_heap 45 = .ok (.iastore, 1) := by decide +kernel
theorem dX12_heap_46 : decode cX12_heap 46 = .ok (.aload_n 0, 1) := by decide +kernel
theorem dX12_heap_47 : decode cX12_heap 47 = .ok (.invokevirtual 224, 3) := by decide +kernel
theorem dX12_heap_50 : decode cX12_heap 50 = .ok (.istore 6, 2) := by decide +kernel
theorem dX12_heap_52 : decode cX12_heap 52 = .ok (.iload 5, 2) := by decide +kernel
theorem dX12_heap_54 : decode cX12_heap 54 = .ok (.ifCond .le 13, 3) := by decide +kernel
theorem dX12_heap_57 : decode cX12_heap 57 = .ok (.iload 6, 2) := by decide +kernel
theorem dX12_heap_59 : decode cX12_heap 59 = .ok (.iload 4, 2) := by decide +kernel
theorem dX12_heap_61 : decode cX12_heap 61 = .ok (.if_icmp .lt 6, 3) := by decide +kernel
theorem dX12_heap_64 : decode cX12_heap 64 = .ok (.goto 10, 3) := by decide +kernel
theorem dX12_heap_67 : decode cX12_heap 67 = .ok (.iload 5, 2) := by decide +kernel
theorem dX12_heap_69 : decode cX12_heap 69 = .ok (.istore_n 3, 1) := by decide +kernel
theorem dX12_heap_70 : decode cX12_heap 70 = .ok (.iload 6, 2) := by decide +kernel
theorem dX12_heap_72 : decode cX12_heap 72 = .ok (.istore 4, 2) := by decide +kernel
theorem dX12_heap_74 : decode cX12_heap 74 = .ok (.iinc 5 1, 3) := by decide +kernel
theorem dX12_heap_77 : decode cX12_heap 77 = .ok (.goto (-46), 3) := by decide +kernel
theorem dX12_heap_80 : decode cX12_heap 80 = .ok (.aload_n 0, 1) := by decide +kernel
theorem dX12_heap_81 : decode cX12_heap 81 = .ok (.getfield 28, 3) := by decide +kernel
theorem dX12_heap_84 : decode cX12_heap 84 = .ok (.iconst 1, 1) := by decide +kernel
theorem dX12_heap_85 : decode cX12_heap 85 = .ok (.iload_n 2, 1) := by decide +kernel
theorem dX12_heap_86 : decode cX12_heap 86 = .ok (.iastore, 1) := by decide +kernel
theorem dX12_heap_87 : decode cX12_heap 87 = .ok (.iload_n 1, 1) := by decide +kernel
theorem dX12_heap_88 : decode cX12_heap 88 = .ok (.ifCond .ne 7, 3) := by decide +kernel
theorem dX12_heap_91 : decode cX12_heap 91 = .ok (.iload_n 3, 1) := by decide +kernel
theorem dX12_heap_92 : decode cX12_heap 92 = .ok (.goto 5, 3) := by decide +kernel
theorem dX12_heap_95 : decode cX12_heap 95 = .ok (.iload 4, 2) := by decide +kernel
theorem dX12_heap_97 : decode cX12_heap 97 = .ok (.ireturn, 1) := by decide +kernel
theorem dX12_endsPart_0 : decode cX12_endsPart 0 = .ok (.aload_n 0, 1) := by decide +kernel
theorem dX12_endsPart_1 : decode cX12_endsPart 1 = .ok (.iload_n 2, 1) := by decide +kernel
theorem dX12_endsPart_2 : decode cX12_endsPart 2 = .ok (.putfield 208, 3) := by decide +kernel
theorem dX12_endsPart_5 : decode cX12_endsPart 5 = .ok (.iconst 0, 1) := by decide +kernel
theorem dX12_endsPart_6 : decode cX12_endsPart 6 = .ok (.istore_n 3, 1) := by decide +kernel
theorem dX12_endsPart_7 : decode cX12_endsPart 7 = .ok (.iload_n 3, 1) := by decide +kernel
theorem dX12_endsPart_8 : decode cX12_endsPart 8 = .ok (.iload_n 2, 1) := by decide +kernel
theorem dX12_endsPart_9 : decode cX12_endsPart 9 = .ok (.if_icmp .ge 23, 3) := by decide +kernel
theorem dX12_endsPart_12 : decode cX12_endsPart 12 = .ok (.aload_n 0, 1) := by decide +kernel
theorem dX12_endsPart_13 : decode cX12_endsPart 13 = .ok (.getfield 55, 3) := by decide +kernel
theorem dX12_endsPart_16 : decode cX12_endsPart 16 = .ok (.iload_n 3, 1) := by decide +kernel
theorem dX12_endsPart_17 : decode cX12_endsPart 17 = .ok (.aload_n 0, 1) := by decide +kernel
theorem dX12_endsPart_18 : decode cX12_endsPart 18 = .ok (.getfield 25, 3) := by decide +kernel
theorem dX12_endsPart_21 : decode cX12_endsPart 21 = .ok (.iload_n 1, 1) := by decide +kernel
theorem dX12_endsPart_22 : decode cX12_endsPart 22 = .ok (.iload_n 3, 1) := by decide +kernel
theorem dX12_endsPart_23 : decode cX12_endsPart 23 = .ok (.iadd, 1) := by decide +kernel
theorem dX12_endsPart_24 : decode cX12_endsPart 24 = .ok (.iaload, 1) := by decide +kernel
theorem dX12_endsPart_25 : decode cX12_endsPart 25 = .ok (.iastore, 1) := by decide +kernel
theorem dX12_endsPart_26 : decode cX12_endsPart 26 = .ok (.iinc 3 1, 3) := by decide +kernel
theorem dX12_endsPart_29 : decode cX12_endsPart 29 = .ok (.goto (-22), 3) := by decide +kernel
theorem dX12_endsPart_32 : decode cX12_endsPart 32 = .ok (.aload_n 0, 1) := by decide +kernel
theorem dX12_endsPart_33 : decode cX12_endsPart 33 = .ok (.invokevirtual 224, 3) := by decide +kernel
theorem dX12_endsPart_36 : decode cX12_endsPart 36 = .ok (.ireturn, 1) := by decide +kernel
theorem dX12_split_0 : decode cX12_split 0 = .ok (.iload_n 1, 1) := by decide +kernel
theorem dX12_split_1 : decode cX12_split 1 = .ok (.iconst 0, 1) := by decide +kernel
theorem dX12_split_2 : decode cX12_split 2 = .ok (.iconst 1, 1) := by decide +kernel
theorem dX12_split_3 : decode cX12_split 3 = .ok (.invokestatic 92, 3) := by decide +kernel
theorem dX12_split_6 : decode cX12_split 6 = .ok (.ifCond .ne 6, 3) := by decide +kernel
theorem dX12_split_9 : decode cX12_split 9 = .ok (.bipush (-2), 2) := by decide +kernel
theorem dX12_split_11 : decode cX12_split 11 = .ok (.ireturn, 1) := by decide +kernel
theorem dX12_split_12 : decode cX12_split 12 = .ok (.iconst 0, 1) := by decide +kernel
theorem dX12_split_13 : decode cX12_split 13 = .ok (.istore_n 2, 1) := by decide +kernel
theorem dX12_split_14 : decode cX12_split 14 = .ok (.iconst 0, 1) := by decide +kernel
theorem dX12_split_15 : decode cX12_split 15 = .ok (.istore_n 3, 1) := by decide +kernel
theorem dX12_split_16 : decode cX12_split 16 = .ok (.iconst 0, 1) := by decide +kernel
theorem dX12_split_17 : decode cX12_split 17 = .ok (.istore 4, 2) := by decide +kernel
theorem dX12_split_19 : decode cX12_split 19 = .ok (.iload 4, 2) := by decide +kernel
theorem dX12_split_21 : decode cX12_split 21 = .ok (.aload_n 0, 1) := by decide +kernel
theorem dX12_split_22 : decode cX12_split 22 = .ok (.getfield 82, 3) := by decide +kernel
theorem dX12_split_25 : decode cX12_split 25 = .ok (.if_icmp .gt 69, 3) := by decide +kernel
theorem dX12_split_28 : decode cX12_split 28 = .ok (.aload_n 0, 1) := by decide +kernel
theorem dX12_split_29 : decode cX12_split 29 = .ok (.iconst 0, 1) := by decide +kernel
theorem dX12_split_30 : decode cX12_split 30 = .ok (.iload 4, 2) := by decide +kernel
theorem dX12_split_32 : decode cX12_split 32 = .ok (.invokevirtual 265, 3) := by decide +kernel
theorem dX12_split_35 : decode cX12_split 35 = .ok (.istore 5, 2) := by decide +kernel
theorem dX12_split_37 : decode cX12_split 37 = .ok (.aload_n 0, 1) := by decide +kernel
theorem dX12_split_38 : decode cX12_split 38 = .ok (.iload 4, 2) := by decide +kernel
theorem dX12_split_40 : decode cX12_split 40 = .ok (.aload_n 0, 1) := by decide +kernel
theorem dX12_split_41 : decode cX12_split 41 = .ok (.getfield 82, 3) := by decide +kernel
theorem dX12_split_44 : decode cX12_split 44 = .ok (.iload 4, 2) := by decide +kernel
theorem dX12_split_46 : decode cX12_split 46 = .ok (.isub, 1) := by decide +kernel
theorem dX12_split_47 : decode cX12_split 47 = .ok (.invokevirtual 265, 3) := by decide +kernel
theorem dX12_split_50 : decode cX12_split 50 = .ok (.istore 6, 2) := by decide +kernel
theorem dX12_split_52 : decode cX12_split 52 = .ok (.iload 5, 2) := by decide +kernel
theorem dX12_split_54 : decode cX12_split 54 = .ok (.iload 6, 2) := by decide +kernel
theorem dX12_split_56 : decode cX12_split 56 = .ok (.if_icmp .le 8, 3) := by decide +kernel
theorem dX12_split_59 : decode cX12_split 59 = .ok (.iload 5, 2) := by decide +kernel
theorem dX12_split_61 : decode cX12_split 61 = .ok (.goto 5, 3) := by decide +kernel
theorem dX12_split_64 : decode cX12_split 64 = .ok (.iload 6, 2) := by decide +kernel
theorem dX12_split_66 : decode cX12_split 66 = .ok (.istore 7, 2) := by decide +kernel
theorem dX12_split_68 : decode cX12_split 68 = .ok (.iload 4, 2) := by decide +kernel
theorem dX12_split_70 : decode cX12_split 70 = .ok (.ifCond .le 12, 3) := by decide +kernel
theorem dX12_split_73 : decode cX12_split 73 = .ok (.iload 7, 2) := by decide +kernel
theorem dX12_split_75 : decode cX12_split 75 = .ok (.iload_n 3, 1) := by decide +kernel
theorem dX12_split_76 : decode cX12_split 76 = .ok (.if_icmp .lt 6, 3) := by decide +kernel
theorem dX12_split_79 : decode cX12_split 79 = .ok (.goto 9, 3) := by decide +kernel
theorem dX12_split_82 : decode cX12_split 82 = .ok (.iload 4, 2) := by decide +kernel
theorem dX12_split_84 : decode cX12_split 84 = .ok (.istore_n 2, 1) := by decide +kernel
theorem dX12_split_85 : decode cX12_split 85 = .ok (.iload 7, 2) := by decide +kernel
theorem dX12_split_87 : decode cX12_split 87 = .ok (.istore_n 3, 1) := by decide +kernel
theorem dX12_split_88 : decode cX12_split 88 = .ok (.iinc 4 1, 3) := by decide +kernel
theorem dX12_split_91 : decode cX12_split 91 = .ok (.goto (-72), 3) := by decide +kernel
theorem dX12_split_94 : decode cX12_split 94 = .ok (.iload_n 1, 1) := by decide +kernel
theorem dX12_split_95 : decode cX12_split 95 = .ok (.ifCond .ne 7, 3) := by decide +kernel
theorem dX12_split_98 : decode cX12_split 98 = .ok (.iload_n 2, 1) := by decide +kernel
theorem dX12_split_99 : decode cX12_split 99 = .ok (.goto 4, 3) := by decide +kernel
theorem dX12_split_102 : decode cX12_split 102 = .ok (.iload_n 3, 1) := by decide +kernel
theorem dX12_split_103 : decode cX12_split 103 = .ok (.ireturn, 1) := by decide +kernel
theorem dX12_endsWithout_0 : decode cX12_endsWithout 0 = .ok (.aload_n 0, 1) := by decide +kernel
theorem dX12_endsWithout_1 : decode cX12_endsWithout 1 = .ok (.iconst 0, 1) := by decide +kernel
theorem dX12_endsWithout_2 : decode cX12_endsWithout 2 = .ok (.putfield 208, 3) := by decide +kernel
theorem dX12_endsWithout_5 : decode cX12_endsWithout 5 = .ok (.iconst 0, 1) := by decide +kernel
theorem dX12_endsWithout_6 : decode cX12_endsWithout 6 = .ok (.istore_n 2, 1) := by decide +kernel
theorem dX12_endsWithout_7 : decode cX12_endsWithout 7 = .ok (.iload_n 2, 1) := by decide +kernel
theorem dX12_endsWithout_8 : decode cX12_endsWithout 8 = .ok (.aload_n 0, 1) := by decide +kernel
theorem dX12_endsWithout_9 : decode cX12_endsWithout 9 = .ok (.getfield 82, 3) := by decide +kernel
theorem dX12_endsWithout_12 : decode cX12_endsWithout 12 = .ok (.if_icmp .ge 51, 3) := by decide +kernel
theorem dX12_endsWithout_15 : decode cX12_endsWithout 15 = .ok (.iload_n 1, 1) := by decide +kernel
theorem dX12_endsWithout_16 : decode cX12_endsWithout 16 = .ok (.aload_n 0, 1) := by decide +kernel
theorem dX12_endsWithout_17 : decode cX12_endsWithout 17 = .ok (.getfield 25, 3) := by decide +kernel
theorem dX12_endsWithout_20 : decode cX12_endsWithout 20 = .ok (.iload_n 2, 1) := by decide +kernel
theorem dX12_endsWithout_21 : decode cX12_endsWithout 21 = .ok (.iaload, 1) := by decide +kernel
theorem dX12_endsWithout_22 : decode cX12_endsWithout 22 = .ok (.ishr, 1) := by decide +kernel
theorem dX12_endsWithout_23 : decode cX12_endsWithout 23 = .ok (.iconst 1, 1) := by decide +kernel
theorem dX12_endsWithout_24 : decode cX12_endsWithout 24 = .ok (.iand, 1) := by decide +kernel
theorem dX12_endsWithout_25 : decode cX12_endsWithout 25 = .ok (.iconst 1, 1) := by decide +kernel
theorem dX12_endsWithout_26 : decode cX12_endsWithout 26 = .ok (.if_icmp .ne 6, 3) := by decide +kernel
theorem dX12_endsWithout_29 : decode cX12_endsWithout 29 = .ok (.goto 28, 3) := by decide +kernel
theorem dX12_endsWithout_32 : decode cX12_endsWithout 32 = .ok (.aload_n 0, 1) := by decide +kernel
theorem dX12_endsWithout_33 : decode cX12_endsWithout 33 = .ok (.getfield 55, 3) := by decide +kernel
theorem dX12_endsWithout_36 : decode cX12_endsWithout 36 = .ok (.aload_n 0, 1) := by decide +kernel
theorem dX12_endsWithout_37 : decode cX12_endsWithout 37 = .ok (.getfield 208, 3) := by decide +kernel
theorem dX12_endsWithout_40 : decode cX12_endsWithout 40 = .ok (.aload_n 0, 1) := by decide +kernel
theorem dX12_endsWithout_41 : decode cX12_endsWithout 41 = .ok (.getfield 25, 3) := by decide +kernel
theorem dX12_endsWithout_44 : decode cX12_endsWithout 44 = .ok (.iload_n 2, 1) := by decide +kernel
theorem dX12_endsWithout_45 : decode cX12_endsWithout 45 = .ok (.iaload, 1) := by decide +kernel
theorem dX12_endsWithout_46 : decode cX12_endsWithout 46 = .ok (.iastore, 1) := by decide +kernel
theorem dX12_endsWithout_47 : decode cX12_endsWithout 47 = .ok (.aload_n 0, 1) := by decide +kernel
theorem dX12_endsWithout_48 : decode cX12_endsWithout 48 = .ok (.dup, 1) := by decide +kernel
theorem dX12_endsWithout_49 : decode cX12_endsWithout 49 = .ok (.getfield 208, 3) := by decide +kernel
theorem dX12_endsWithout_52 : decode cX12_endsWithout 52 = .ok (.iconst 1, 1) := by decide +kernel
theorem dX12_endsWithout_53 : decode cX12_endsWithout 53 = .ok (.iadd, 1) := by decide +kernel
theorem dX12_endsWithout_54 : decode cX12_endsWithout 54 = .ok (.putfield 208, 3) := by decide +kernel
theorem dX12_endsWithout_57 : decode cX12_endsWithout 57 = .ok (.iinc 2 1, 3) := by decide +kernel
theorem dX12_endsWithout_60 : decode cX12_endsWithout 60 = .ok (.goto (-53), 3) := by decide +kernel
theorem dX12_endsWithout_63 : decode cX12_endsWithout 63 = .ok (.aload_n 0, 1) := by decide +kernel
theorem dX12_endsWithout_64 : decode cX12_endsWithout 64 = .ok (.invokevirtual 224, 3) := by decide +kernel
theorem dX12_endsWithout_67 : decode cX12_endsWithout 67 = .ok (.ireturn, 1) := by decide +kernel
theorem dX12_drop_0 : decode cX12_drop 0 = .ok (.aload_n 0, 1) := by decide +kernel
theorem dX12_drop_1 : decode cX12_drop 1 = .ok (.iload_n 1, 1) := by decide +kernel
theorem dX12_drop_2 : decode cX12_drop 2 = .ok (.invokevirtual 187, 3) := by decide +kernel
theorem dX12_drop_5 : decode cX12_drop 5 = .ok (.ifCond .eq 13, 3) := by decide +kernel
theorem dX12_drop_8 : decode cX12_drop 8 = .ok (.aload_n 0, 1) := by decide +kernel
theorem dX12_drop_9 : decode cX12_drop 9 = .ok (.iconst 1, 1) := by decide +kernel
theorem dX12_drop_10 : decode cX12_drop 10 = .ok (.iload_n 1, 1) := by decide +kernel
theorem dX12_drop_11 : decode cX12_drop 11 = .ok (.ishl, 1) := by decide +kernel
theorem dX12_drop_12 : decode cX12_drop 12 = .ok (.invokevirtual 268, 3) := by decide +kernel
theorem dX12_drop_15 : decode cX12_drop 15 = .ok (.goto 5, 3) := by decide +kernel
theorem dX12_drop_18 : decode cX12_drop 18 = .ok (.bipush (-2), 2) := by decide +kernel
theorem dX12_drop_20 : decode cX12_drop 20 = .ok (.ireturn, 1) := by decide +kernel
theorem dX12_away_0 : decode cX12_away 0 = .ok (.iload_n 1, 1) := by decide +kernel
theorem dX12_away_1 : decode cX12_away 1 = .ok (.iconst 0, 1) := by decide +kernel
theorem dX12_away_2 : decode cX12_away 2 = .ok (.iconst 1, 1) := by decide +kernel
theorem dX12_away_3 : decode cX12_away 3 = .ok (.aload_n 0, 1) := by decide +kernel
theorem dX12_away_4 : decode cX12_away 4 = .ok (.getfield 82, 3) := by decide +kernel
theorem dX12_away_7 : decode cX12_away 7 = .ok (.ishl, 1) := by decide +kernel
theorem dX12_away_8 : decode cX12_away 8 = .ok (.iconst 1, 1) := by decide +kernel
theorem dX12_away_9 : decode cX12_away 9 = .ok (.isub, 1) := by decide +kernel
theorem dX12_away_10 : decode cX12_away 10 = .ok (.invokestatic 92, 3) := by decide +kernel
theorem dX12_away_13 : decode cX12_away 13 = .ok (.ifCond .eq 12, 3) := by decide +kernel
theorem dX12_away_16 : decode cX12_away 16 = .ok (.iload_n 2, 1) := by decide +kernel
theorem dX12_away_17 : decode cX12_away 17 = .ok (.iconst 0, 1) := by decide +kernel
theorem dX12_away_18 : decode cX12_away 18 = .ok (.iconst 1, 1) := by decide +kernel
theorem dX12_away_19 : decode cX12_away 19 = .ok (.invokestatic 92, 3) := by decide +kernel
theorem dX12_away_22 : decode cX12_away 22 = .ok (.ifCond .ne 6, 3) := by decide +kernel
theorem dX12_away_25 : decode cX12_away 25 = .ok (.bipush (-2), 2) := by decide +kernel
theorem dX12_away_27 : decode cX12_away 27 = .ok (.ireturn, 1) := by decide +kernel
theorem dX12_away_28 : decode cX12_away 28 = .ok (.iload_n 2, 1) := by decide +kernel
theorem dX12_away_29 : decode cX12_away 29 = .ok (.ifCond .ne 9, 3) := by decide +kernel
theorem dX12_away_32 : decode cX12_away 32 = .ok (.aload_n 0, 1) := by decide +kernel
theorem dX12_away_33 : decode cX12_away 33 = .ok (.iload_n 1, 1) := by decide +kernel
theorem dX12_away_34 : decode cX12_away 34 = .ok (.invokevirtual 268, 3) := by decide +kernel
theorem dX12_away_37 : decode cX12_away 37 = .ok (.ireturn, 1) := by decide +kernel
theorem dX12_away_38 : decode cX12_away 38 = .ok (.iconst 0, 1) := by decide +kernel
theorem dX12_away_39 : decode cX12_away 39 = .ok (.istore_n 3, 1) := by decide +kernel
theorem dX12_away_40 : decode cX12_away 40 = .ok (.iconst 0, 1) := by decide +kernel
theorem dX12_away_41 : decode cX12_away 41 = .ok (.istore 4, 2) := by decide +kernel
theorem dX12_away_43 : decode cX12_away 43 = .ok (.iload 4, 2) := by decide +kernel
theorem dX12_away_45 : decode cX12_away 45 = .ok (.aload_n 0, 1) := by decide +kernel
theorem dX12_away_46 : decode cX12_away 46 = .ok (.getfield 82, 3) := by decide +kernel
theorem dX12_away_49 : decode cX12_away 49 = .ok (.if_icmp .ge 25, 3) := by decide +kernel
theorem dX12_away_52 : decode cX12_away 52 = .ok (.iload_n 3, 1) := by decide +kernel
theorem dX12_away_53 : decode cX12_away 53 = .ok (.iload_n 1, 1) := by decide +kernel
theorem dX12_away_54 : decode cX12_away 54 = .ok (.iload 4, 2) := by decide +kernel
theorem dX12_away_56 : decode cX12_away 56 = .ok (.ishr, 1) := by decide +kernel
theorem dX12_away_57 : decode cX12_away 57 = .ok (.iconst 1, 1) := by decide +kernel
theorem dX12_away_58 : decode cX12_away 58 = .ok (.iand, 1) := by decide +kernel
theorem dX12_away_59 : decode cX12_away 59 = .ok (.aload_n 0, 1) := by decide +kernel
theorem dX12_away_60 : decode cX12_away 60 = .ok (.iload 4, 2) := by decide +kernel
theorem dX12_away_62 : decode cX12_away 62 = .ok (.invokevirtual 181, 3) := by decide +kernel
theorem dX12_away_65 : decode cX12_away 65 = .ok (.imul, 1) := by decide +kernel
theorem dX12_away_66 : decode cX12_away 66 = .ok (.iadd, 1) := by decide +kernel
theorem dX12_away_67 : decode cX12_away 67 = .ok (.istore_n 3, 1) := by decide +kernel
theorem dX12_away_68 : decode cX12_away 68 = .ok (.iinc 4 1, 3) := by decide +kernel
theorem dX12_away_71 : decode cX12_away 71 = .ok (.goto (-28), 3) := by decide +kernel
theorem dX12_away_74 : decode cX12_away 74 = .ok (.iload_n 3, 1) := by decide +kernel
theorem dX12_away_75 : decode cX12_away 75 = .ok (.ireturn, 1) := by decide +kernel
theorem dX12_judge_0 : decode cX12_judge 0 = .ok (.iload_n 1, 1) := by decide +kernel
theorem dX12_judge_1 : decode cX12_judge 1 = .ok (.invokestatic 245, 3) := by decide +kernel
theorem dX12_judge_4 : decode cX12_judge 4 = .ok (.ifCond .ne 6, 3) := by decide +kernel
theorem dX12_judge_7 : decode cX12_judge 7 = .ok (.bipush (-2), 2) := by decide +kernel
theorem dX12_judge_9 : decode cX12_judge 9 = .ok (.ireturn, 1) := by decide +kernel
theorem dX12_judge_10 : decode cX12_judge 10 = .ok (.aload_n 0, 1) := by decide +kernel
theorem dX12_judge_11 : decode cX12_judge 11 = .ok (.getfield 67, 3) := by decide +kernel
theorem dX12_judge_14 : decode cX12_judge 14 = .ok (.iload_n 1, 1) := by decide +kernel
theorem dX12_judge_15 : decode cX12_judge 15 = .ok (.iaload, 1) := by decide +kernel
theorem dX12_judge_16 : decode cX12_judge 16 = .ok (.ifCond .ge 6, 3) := by decide +kernel
theorem dX12_judge_19 : decode cX12_judge 19 = .ok (.bipush (-11), 2) := by decide +kernel
theorem dX12_judge_21 : decode cX12_judge 21 = .ok (.ireturn, 1) := by decide +kernel
theorem dX12_judge_22 : decode cX12_judge 22 = .ok (.aload_n 0, 1) := by decide +kernel
theorem dX12_judge_23 : decode cX12_judge 23 = .ok (.getfield 70, 3) := by decide +kernel
theorem dX12_judge_26 : decode cX12_judge 26 = .ok (.iload_n 1, 1) := by decide +kernel
theorem dX12_judge_27 : decode cX12_judge 27 = .ok (.iaload, 1) := by decide +kernel
theorem dX12_judge_28 : decode cX12_judge 28 = .ok (.aload_n 0, 1) := by decide +kernel
theorem dX12_judge_29 : decode cX12_judge 29 = .ok (.getfield 82, 3) := by decide +kernel
theorem dX12_judge_32 : decode cX12_judge 32 = .ok (.if_icmp .eq 6, 3) := by decide +kernel
theorem dX12_judge_35 : decode cX12_judge 35 = .ok (.bipush (-2), 2) := by decide +kernel
theorem dX12_judge_37 : decode cX12_judge 37 = .ok (.ireturn, 1) := by decide +kernel
theorem dX12_judge_38 : decode cX12_judge 38 = .ok (.aload_n 0, 1) := by decide +kernel
theorem dX12_judge_39 : decode cX12_judge 39 = .ok (.invokevirtual 221, 3) := by decide +kernel
theorem dX12_judge_42 : decode cX12_judge 42 = .ok (.aload_n 0, 1) := by decide +kernel
theorem dX12_judge_43 : decode cX12_judge 43 = .ok (.invokevirtual 224, 3) := by decide +kernel
theorem dX12_judge_46 : decode cX12_judge 46 = .ok (.pop, 1) := by decide +kernel
theorem dX12_judge_47 : decode cX12_judge 47 = .ok (.iconst 0, 1) := by decide +kernel
theorem dX12_judge_48 : decode cX12_judge 48 = .ok (.istore_n 2, 1) := by decide +kernel
theorem dX12_judge_49 : decode cX12_judge 49 = .ok (.iload_n 2, 1) := by decide +kernel
theorem dX12_judge_50 : decode cX12_judge 50 = .ok (.aload_n 0, 1) := by decide +kernel
theorem dX12_judge_51 : decode cX12_judge 51 = .ok (.getfield 82, 3) := by decide +kernel
theorem dX12_judge_54 : decode cX12_judge 54 = .ok (.if_icmp .ge 36, 3) := by decide +kernel
theorem dX12_judge_57 : decode cX12_judge 57 = .ok (.aload_n 0, 1) := by decide +kernel
theorem dX12_judge_58 : decode cX12_judge 58 = .ok (.getfield 73, 3) := by decide +kernel
theorem dX12_judge_61 : decode cX12_judge 61 = .ok (.bipush 40, 2) := by decide +kernel
theorem dX12_judge_63 : decode cX12_judge 63 = .ok (.iload_n 1, 1) := by decide +kernel
theorem dX12_judge_64 : decode cX12_judge 64 = .ok (.imul, 1) := by decide +kernel
theorem dX12_judge_65 : decode cX12_judge 65 = .ok (.iload_n 2, 1) := by decide +kernel
theorem dX12_judge_66 : decode cX12_judge 66 = .ok (.iadd, 1) := by decide +kernel
theorem dX12_judge_67 : decode cX12_judge 67 = .ok (.iaload, 1) := by decide +kernel
theorem dX12_judge_68 : decode cX12_judge 68 = .ok (.aload_n 0, 1) := by decide +kernel
theorem dX12_judge_69 : decode cX12_judge 69 = .ok (.getfield 58, 3) := by decide +kernel
theorem dX12_judge_72 : decode cX12_judge 72 = .ok (.aload_n 0, 1) := by decide +kernel
theorem dX12_judge_73 : decode cX12_judge 73 = .ok (.getfield 25, 3) := by decide +kernel
theorem dX12_judge_76 : decode cX12_judge 76 = .ok (.iload_n 2, 1) := by decide +kernel
theorem dX12_judge_77 : decode cX12_judge 77 = .ok (.iaload, 1) := by decide +kernel
theorem dX12_judge_78 : decode cX12_judge 78 = .ok (.iaload, 1) := by decide +kernel
theorem dX12_judge_79 : decode cX12_judge 79 = .ok (.if_icmp .eq 5, 3) := by decide +kernel
theorem dX12_judge_82 : decode cX12_judge 82 = .ok (.iload_n 2, 1) := by decide +kernel
theorem dX12_judge_83 : decode cX12_judge 83 = .ok (.ireturn, 1) := by decide +kernel
theorem dX12_judge_84 : decode cX12_judge 84 = .ok (.iinc 2 1, 3) := by decide +kernel
theorem dX12_judge_87 : decode cX12_judge 87 = .ok (.goto (-38), 3) := by decide +kernel
theorem dX12_judge_90 : decode cX12_judge 90 = .ok (.iconst (-1), 1) := by decide +kernel
theorem dX12_judge_91 : decode cX12_judge 91 = .ok (.ireturn, 1) := by decide +kernel
theorem dX12_rightBy_0 : decode cX12_rightBy 0 = .ok (.iload_n 1, 1) := by decide +kernel
theorem dX12_rightBy_1 : decode cX12_rightBy 1 = .ok (.istore_n 3, 1) := by decide +kernel
theorem dX12_rightBy_2 : decode cX12_rightBy 2 = .ok (.iconst 0, 1) := by decide +kernel
theorem dX12_rightBy_3 : decode cX12_rightBy 3 = .ok (.istore 4, 2) := by decide +kernel
theorem dX12_rightBy_5 : decode cX12_rightBy 5 = .ok (.iconst 0, 1) := by decide +kernel
theorem dX12_rightBy_6 : decode cX12_rightBy 6 = .ok (.istore 5, 2) := by decide +kernel
theorem dX12_rightBy_8 : decode cX12_rightBy 8 = .ok (.iload 5, 2) := by decide +kernel
theorem dX12_rightBy_10 : decode cX12_rightBy 10 = .ok (.aload_n 0, 1) := by decide +kernel
theorem dX12_rightBy_11 : decode cX12_rightBy 11 = .ok (.getfield 82, 3) := by decide +kernel
theorem dX12_rightBy_14 : decode cX12_rightBy 14 = .ok (.if_icmp .ge 40, 3) := by decide +kernel
theorem dX12_rightBy_17 : decode cX12_rightBy 17 = .ok (.iload_n 3, 1) := by decide +kernel
theorem dX12_rightBy_18 : decode cX12_rightBy 18 = .ok (.ldc_w 271, 3) := by decide +kernel
theorem dX12_rightBy_21 : decode cX12_rightBy 21 = .ok (.imul, 1) := by decide +kernel
theorem dX12_rightBy_22 : decode cX12_rightBy 22 = .ok (.sipush 12345, 3) := by decide +kernel
theorem dX12_rightBy_25 : decode cX12_rightBy 25 = .ok (.iadd, 1) := by decide +kernel
theorem dX12_rightBy_26 : decode cX12_rightBy 26 = .ok (.istore_n 3, 1) := by decide +kernel
theorem dX12_rightBy_27 : decode cX12_rightBy 27 = .ok (.iload 4, 2) := by decide +kernel
theorem dX12_rightBy_29 : decode cX12_rightBy 29 = .ok (.iload_n 3, 1) := by decide +kernel
theorem dX12_rightBy_30 : decode cX12_rightBy 30 = .ok (.bipush 10, 2) := by decide +kernel
theorem dX12_rightBy_32 : decode cX12_rightBy 32 = .ok (.iushr, 1) := by decide +kernel
theorem dX12_rightBy_33 : decode cX12_rightBy 33 = .ok (.bipush 10, 2) := by decide +kernel
theorem dX12_rightBy_35 : decode cX12_rightBy 35 = .ok (.irem, 1) := by decide +kernel
theorem dX12_rightBy_36 : decode cX12_rightBy 36 = .ok (.iload_n 2, 1) := by decide +kernel
theorem dX12_rightBy_37 : decode cX12_rightBy 37 = .ok (.if_icmp .ge 7, 3) := by decide +kernel
theorem dX12_rightBy_40 : decode cX12_rightBy 40 = .ok (.iconst 1, 1) := by decide +kernel
theorem dX12_rightBy_41 : decode cX12_rightBy 41 = .ok (.goto 4, 3) := by decide +kernel
theorem dX12_rightBy_44 : decode cX12_rightBy 44 = .ok (.iconst 0, 1) := by decide +kernel
theorem dX12_rightBy_45 : decode cX12_rightBy 45 = .ok (.iadd, 1) := by decide +kernel
theorem dX12_rightBy_46 : decode cX12_rightBy 46 = .ok (.istore 4, 2) := by decide +kernel
theorem dX12_rightBy_48 : decode cX12_rightBy 48 = .ok (.iinc 5 1, 3) := by decide +kernel
theorem dX12_rightBy_51 : decode cX12_rightBy 51 = .ok (.goto (-43), 3) := by decide +kernel
theorem dX12_rightBy_54 : decode cX12_rightBy 54 = .ok (.iload 4, 2) := by decide +kernel
theorem dX12_rightBy_56 : decode cX12_rightBy 56 = .ok (.ireturn, 1) := by decide +kernel
theorem dX12_thrownBy_0 : decode cX12_thrownBy 0 = .ok (.iload_n 2, 1) := by decide +kernel
theorem dX12_thrownBy_1 : decode cX12_thrownBy 1 = .ok (.iconst 0, 1) := by decide +kernel
theorem dX12_thrownBy_2 : decode cX12_thrownBy 2 = .ok (.bipush 10, 2) := by decide +kernel
theorem dX12_thrownBy_4 : decode cX12_thrownBy 4 = .ok (.invokestatic 92, 3) := by decide +kernel
theorem dX12_thrownBy_7 : decode cX12_thrownBy 7 = .ok (.ifCond .eq 12, 3) := by decide +kernel
theorem dX12_thrownBy_10 : decode cX12_thrownBy 10 = .ok (.aload_n 0, 1) := by decide +kernel
theorem dX12_thrownBy_11 : decode cX12_thrownBy 11 = .ok (.iload_n 1, 1) := by decide +kernel
theorem dX12_thrownBy_12 : decode cX12_thrownBy 12 = .ok (.iload_n 2, 1) := by decide +kernel
theorem dX12_thrownBy_13 : decode cX12_thrownBy 13 = .ok (.invokevirtual 272, 3) := by decide +kernel
theorem dX12_thrownBy_16 : decode cX12_thrownBy 16 = .ok (.goto 5, 3) := by decide +kernel
theorem dX12_thrownBy_19 : decode cX12_thrownBy 19 = .ok (.bipush (-2), 2) := by decide +kernel
theorem dX12_thrownBy_21 : decode cX12_thrownBy 21 = .ok (.ireturn, 1) := by decide +kernel
theorem dX12_divisor_0 : decode cX12_divisor 0 = .ok (.iload_n 0, 1) := by decide +kernel
theorem dX12_divisor_1 : decode cX12_divisor 1 = .ok (.istore_n 2, 1) := by decide +kernel
theorem dX12_divisor_2 : decode cX12_divisor 2 = .ok (.iload_n 1, 1) := by decide +kernel
theorem dX12_divisor_3 : decode cX12_divisor 3 = .ok (.istore_n 3, 1) := by decide +kernel
theorem dX12_divisor_4 : decode cX12_divisor 4 = .ok (.iload_n 3, 1) := by decide +kernel
theorem dX12_divisor_5 : decode cX12_divisor 5 = .ok (.ifCond .eq 16, 3) := by decide +kernel
theorem dX12_divisor_8 : decode cX12_divisor 8 = .ok (.iload_n 2, 1) := by decide +kernel
theorem dX12_divisor_9 : decode cX12_divisor 9 = .ok (.iload_n 3, 1) := by decide +kernel
theorem dX12_divisor_10 : decode cX12_divisor 10 = .ok (.irem, 1) := by decide +kernel
theorem dX12_divisor_11 : decode cX12_divisor 11 = .ok (.istore 4, 2) := by decide +kernel
theorem dX12_divisor_13 : decode cX12_divisor 13 = .ok (.iload_n 3, 1) := by decide +kernel
theorem dX12_divisor_14 : decode cX12_divisor 14 = .ok (.istore_n 2, 1) := by decide +kernel
theorem dX12_divisor_15 : decode cX12_divisor 15 = .ok (.iload 4, 2) := by decide +kernel
theorem dX12_divisor_17 : decode cX12_divisor 17 = .ok (.istore_n 3, 1) := by decide +kernel
theorem dX12_divisor_18 : decode cX12_divisor 18 = .ok (.goto (-14), 3) := by decide +kernel
theorem dX12_divisor_21 : decode cX12_divisor 21 = .ok (.iload_n 2, 1) := by decide +kernel
theorem dX12_divisor_22 : decode cX12_divisor 22 = .ok (.ireturn, 1) := by decide +kernel
theorem dX12_chance_0 : decode cX12_chance 0 = .ok (.iload_n 2, 1) := by decide +kernel
theorem dX12_chance_1 : decode cX12_chance 1 = .ok (.iconst 1, 1) := by decide +kernel
theorem dX12_chance_2 : decode cX12_chance 2 = .ok (.bipush 20, 2) := by decide +kernel
theorem dX12_chance_4 : decode cX12_chance 4 = .ok (.invokestatic 92, 3) := by decide +kernel
theorem dX12_chance_7 : decode cX12_chance 7 = .ok (.ifCond .eq 23, 3) := by decide +kernel
theorem dX12_chance_10 : decode cX12_chance 10 = .ok (.iload_n 3, 1) := by decide +kernel
theorem dX12_chance_11 : decode cX12_chance 11 = .ok (.iconst 0, 1) := by decide +kernel
theorem dX12_chance_12 : decode cX12_chance 12 = .ok (.bipush 10, 2) := by decide +kernel
theorem dX12_chance_14 : decode cX12_chance 14 = .ok (.invokestatic 92, 3) := by decide +kernel
theorem dX12_chance_17 : decode cX12_chance 17 = .ok (.ifCond .eq 13, 3) := by decide +kernel
theorem dX12_chance_20 : decode cX12_chance 20 = .ok (.iload 4, 2) := by decide +kernel
theorem dX12_chance_22 : decode cX12_chance 22 = .ok (.iconst 0, 1) := by decide +kernel
theorem dX12_chance_23 : decode cX12_chance 23 = .ok (.iconst 1, 1) := by decide +kernel
theorem dX12_chance_24 : decode cX12_chance 24 = .ok (.invokestatic 92, 3) := by decide +kernel
theorem dX12_chance_27 : decode cX12_chance 27 = .ok (.ifCond .ne 7, 3) := by decide +kernel
theorem dX12_chance_30 : decode cX12_chance 30 = .ok (.ldc2_w 275, 3) := by decide +kernel
theorem dX12_chance_33 : decode cX12_chance 33 = .ok (.lreturn, 1) := by decide +kernel
theorem dX12_chance_34 : decode cX12_chance 34 = .ok (.iconst 0, 1) := by decide +kernel
theorem dX12_chance_35 : decode cX12_chance 35 = .ok (.istore 5, 2) := by decide +kernel
theorem dX12_chance_37 : decode cX12_chance 37 = .ok (.iconst 0, 1) := by decide +kernel
theorem dX12_chance_38 : decode cX12_chance 38 = .ok (.istore 6, 2) := by decide +kernel
theorem dX12_chance_40 : decode cX12_chance 40 = .ok (.iload 6, 2) := by decide +kernel
theorem dX12_chance_42 : decode cX12_chance 42 = .ok (.iload_n 2, 1) := by decide +kernel
theorem dX12_chance_43 : decode cX12_chance 43 = .ok (.if_icmp .ge 35, 3) := by decide +kernel
theorem dX12_chance_46 : decode cX12_chance 46 = .ok (.iload 5, 2) := by decide +kernel
theorem dX12_chance_48 : decode cX12_chance 48 = .ok (.aload_n 0, 1) := by decide +kernel
theorem dX12_chance_49 : decode cX12_chance 49 = .ok (.iload_n 1, 1) := by decide +kernel
theorem dX12_chance_50 : decode cX12_chance 50 = .ok (.iload 6, 2) := by decide +kernel
theorem dX12_chance_52 : decode cX12_chance 52 = .ok (.iadd, 1) := by decide +kernel
theorem dX12_chance_53 : decode cX12_chance 53 = .ok (.iload_n 3, 1) := by decide +kernel
theorem dX12_chance_54 : decode cX12_chance 54 = .ok (.invokevirtual 272, 3) := by decide +kernel
theorem dX12_chance_57 : decode cX12_chance 57 = .ok (.aload_n 0, 1) := by decide +kernel
theorem dX12_chance_58 : decode cX12_chance 58 = .ok (.getfield 82, 3) := by decide +kernel
theorem dX12_chance_61 : decode cX12_chance 61 = .ok (.if_icmp .ne 7, 3) := by decide +kernel
theorem dX12_chance_64 : decode cX12_chance 64 = .ok (.iconst 1, 1) := by decide +kernel
theorem dX12_chance_65 : decode cX12_chance 65 = .ok (.goto 4, 3) := by decide +kernel
theorem dX12_chance_68 : decode cX12_chance 68 = .ok (.iconst 0, 1) := by decide +kernel
theorem dX12_chance_69 : decode cX12_chance 69 = .ok (.iadd, 1) := by decide +kernel
theorem dX12_chance_70 : decode cX12_chance 70 = .ok (.istore 5, 2) := by decide +kernel
theorem dX12_chance_72 : decode cX12_chance 72 = .ok (.iinc 6 1, 3) := by decide +kernel
theorem dX12_chance_75 : decode cX12_chance 75 = .ok (.goto (-35), 3) := by decide +kernel
theorem dX12_chance_78 : decode cX12_chance 78 = .ok (.iload 4, 2) := by decide +kernel
theorem dX12_chance_80 : decode cX12_chance 80 = .ok (.ifCond .ne 8, 3) := by decide +kernel
theorem dX12_chance_83 : decode cX12_chance 83 = .ok (.iload 5, 2) := by decide +kernel
theorem dX12_chance_85 : decode cX12_chance 85 = .ok (.goto 4, 3) := by decide +kernel
theorem dX12_chance_88 : decode cX12_chance 88 = .ok (.iload_n 2, 1) := by decide +kernel
theorem dX12_chance_89 : decode cX12_chance 89 = .ok (.iload 5, 2) := by decide +kernel
theorem dX12_chance_91 : decode cX12_chance 91 = .ok (.iload_n 2, 1) := by decide +kernel
theorem dX12_chance_92 : decode cX12_chance 92 = .ok (.invokestatic 277, 3) := by decide +kernel
theorem dX12_chance_95 : decode cX12_chance 95 = .ok (.idiv, 1) := by decide +kernel
theorem dX12_chance_96 : decode cX12_chance 96 = .ok (.i2l, 1) := by decide +kernel
theorem dX12_chance_97 : decode cX12_chance 97 = .ok (.lreturn, 1) := by decide +kernel
theorem dX12_passes_0 : decode cX12_passes 0 = .ok (.iconst 0, 1) := by decide +kernel
theorem dX12_passes_1 : decode cX12_passes 1 = .ok (.istore_n 2, 1) := by decide +kernel
theorem dX12_passes_2 : decode cX12_passes 2 = .ok (.iload_n 2, 1) := by decide +kernel
theorem dX12_passes_3 : decode cX12_passes 3 = .ok (.aload_n 1, 1) := by decide +kernel
theorem dX12_passes_4 : decode cX12_passes 4 = .ok (.arraylength, 1) := by decide +kernel
theorem dX12_passes_5 : decode cX12_passes 5 = .ok (.if_icmp .ge 53, 3) := by decide +kernel
theorem dX12_passes_8 : decode cX12_passes 8 = .ok (.aload_n 0, 1) := by decide +kernel
theorem dX12_passes_9 : decode cX12_passes 9 = .ok (.getfield 280, 3) := by decide +kernel
theorem dX12_passes_12 : decode cX12_passes 12 = .ok (.ifCond .eq 18, 3) := by decide +kernel
theorem dX12_passes_15 : decode cX12_passes 15 = .ok (.aload_n 0, 1) := by decide +kernel
theorem dX12_passes_16 : decode cX12_passes 16 = .ok (.getfield 64, 3) := by decide +kernel
theorem dX12_passes_19 : decode cX12_passes 19 = .ok (.aload_n 0, 1) := by decide +kernel
theorem dX12_passes_20 : decode cX12_passes 20 = .ok (.getfield 284, 3) := by decide +kernel
theorem dX12_passes_23 : decode cX12_passes 23 = .ok (.aload_n 1, 1) := by decide +kernel
theorem dX12_passes_24 : decode cX12_passes 24 = .ok (.iload_n 2, 1) := by decide +kernel
theorem dX12_passes_25 : decode cX12_passes 25 = .ok (.iaload, 1) := by decide +kernel
theorem dX12_passes_26 : decode cX12_passes 26 = .ok (.iastore, 1) := by decide +kernel
theorem dX12_passes_27 : decode cX12_passes 27 = .ok (.goto 15, 3) := by decide +kernel
theorem dX12_passes_30 : decode cX12_passes 30 = .ok (.aload_n 1, 1) := by decide +kernel
theorem dX12_passes_31 : decode cX12_passes 31 = .ok (.iload_n 2, 1) := by decide +kernel
theorem dX12_passes_32 : decode cX12_passes 32 = .ok (.aload_n 0, 1) := by decide +kernel
theorem dX12_passes_33 : decode cX12_passes 33 = .ok (.getfield 64, 3) := by decide +kernel
theorem dX12_passes_36 : decode cX12_passes 36 = .ok (.aload_n 0, 1) := by decide +kernel
theorem dX12_passes_37 : decode cX12_passes 37 = .ok (.getfield 284, 3) := by decide +kernel
theorem dX12_passes_40 : decode cX12_passes 40 = .ok (.iaload, 1) := by decide +kernel
theorem dX12_passes_41 : decode cX12_passes 41 = .ok (.iastore, 1) := by decide +kernel
theorem dX12_passes_42 : decode cX12_passes 42 = .ok (.aload_n 0, 1) := by decide +kernel
theorem dX12_passes_43 : decode cX12_passes 43 = .ok (.dup, 1) := by decide +kernel
theorem dX12_passes_44 : decode cX12_passes 44 = .ok (.getfield 284, 3) := by decide +kernel
theorem dX12_passes_47 : decode cX12_passes 47 = .ok (.iconst 1, 1) := by decide +kernel
theorem dX12_passes_48 : decode cX12_passes 48 = .ok (.iadd, 1) := by decide +kernel
theorem dX12_passes_49 : decode cX12_passes 49 = .ok (.putfield 284, 3) := by decide +kernel
theorem dX12_passes_52 : decode cX12_passes 52 = .ok (.iinc 2 1, 3) := by decide +kernel
theorem dX12_passes_55 : decode cX12_passes 55 = .ok (.goto (-53), 3) := by decide +kernel
theorem dX12_passes_58 : decode cX12_passes 58 = .ok (.return_, 1) := by decide +kernel
theorem dX12_passOne_0 : decode cX12_passOne 0 = .ok (.aload_n 0, 1) := by decide +kernel
theorem dX12_passOne_1 : decode cX12_passOne 1 = .ok (.getfield 280, 3) := by decide +kernel
theorem dX12_passOne_4 : decode cX12_passOne 4 = .ok (.ifCond .eq 7, 3) := by decide +kernel
theorem dX12_passOne_7 : decode cX12_passOne 7 = .ok (.iload_n 1, 1) := by decide +kernel
theorem dX12_passOne_8 : decode cX12_passOne 8 = .ok (.goto 12, 3) := by decide +kernel
theorem dX12_passOne_11 : decode cX12_passOne 11 = .ok (.aload_n 0, 1) := by decide +kernel
theorem dX12_passOne_12 : decode cX12_passOne 12 = .ok (.getfield 64, 3) := by decide +kernel
theorem dX12_passOne_15 : decode cX12_passOne 15 = .ok (.aload_n 0, 1) := by decide +kernel
theorem dX12_passOne_16 : decode cX12_passOne 16 = .ok (.getfield 284, 3) := by decide +kernel
theorem dX12_passOne_19 : decode cX12_passOne 19 = .ok (.iaload, 1) := by decide +kernel
theorem dX12_passOne_20 : decode cX12_passOne 20 = .ok (.istore_n 2, 1) := by decide +kernel
theorem dX12_passOne_21 : decode cX12_passOne 21 = .ok (.aload_n 0, 1) := by decide +kernel
theorem dX12_passOne_22 : decode cX12_passOne 22 = .ok (.getfield 280, 3) := by decide +kernel
theorem dX12_passOne_25 : decode cX12_passOne 25 = .ok (.ifCond .eq 13, 3) := by decide +kernel
theorem dX12_passOne_28 : decode cX12_passOne 28 = .ok (.aload_n 0, 1) := by decide +kernel
theorem dX12_passOne_29 : decode cX12_passOne 29 = .ok (.getfield 64, 3) := by decide +kernel
theorem dX12_passOne_32 : decode cX12_passOne 32 = .ok (.aload_n 0, 1) := by decide +kernel
theorem dX12_passOne_33 : decode cX12_passOne 33 = .ok (.getfield 284, 3) := by decide +kernel
theorem dX12_passOne_36 : decode cX12_passOne 36 = .ok (.iload_n 1, 1) := by decide +kernel
theorem dX12_passOne_37 : decode cX12_passOne 37 = .ok (.iastore, 1) := by decide +kernel
theorem dX12_passOne_38 : decode cX12_passOne 38 = .ok (.aload_n 0, 1) := by decide +kernel
theorem dX12_passOne_39 : decode cX12_passOne 39 = .ok (.dup, 1) := by decide +kernel
theorem dX12_passOne_40 : decode cX12_passOne 40 = .ok (.getfield 284, 3) := by decide +kernel
theorem dX12_passOne_43 : decode cX12_passOne 43 = .ok (.iconst 1, 1) := by decide +kernel
theorem dX12_passOne_44 : decode cX12_passOne 44 = .ok (.iadd, 1) := by decide +kernel
theorem dX12_passOne_45 : decode cX12_passOne 45 = .ok (.putfield 284, 3) := by decide +kernel
theorem dX12_passOne_48 : decode cX12_passOne 48 = .ok (.iload_n 2, 1) := by decide +kernel
theorem dX12_passOne_49 : decode cX12_passOne 49 = .ok (.ireturn, 1) := by decide +kernel
theorem dX12_passesAll_0 : decode cX12_passesAll 0 = .ok (.aload_n 0, 1) := by decide +kernel
theorem dX12_passesAll_1 : decode cX12_passesAll 1 = .ok (.iconst 0, 1) := by decide +kernel
theorem dX12_passesAll_2 : decode cX12_passesAll 2 = .ok (.putfield 284, 3) := by decide +kernel
theorem dX12_passesAll_5 : decode cX12_passesAll 5 = .ok (.aload_n 0, 1) := by decide +kernel
theorem dX12_passesAll_6 : decode cX12_passesAll 6 = .ok (.iload_n 1, 1) := by decide +kernel
theorem dX12_passesAll_7 : decode cX12_passesAll 7 = .ok (.putfield 280, 3) := by decide +kernel
theorem dX12_passesAll_10 : decode cX12_passesAll 10 = .ok (.aload_n 0, 1) := by decide +kernel
theorem dX12_passesAll_11 : decode cX12_passesAll 11 = .ok (.aload_n 0, 1) := by decide +kernel
theorem dX12_passesAll_12 : decode cX12_passesAll 12 = .ok (.getfield 13, 3) := by decide +kernel
theorem dX12_passesAll_15 : decode cX12_passesAll 15 = .ok (.invokevirtual 287, 3) := by decide +kernel
theorem dX12_passesAll_18 : decode cX12_passesAll 18 = .ok (.aload_n 0, 1) := by decide +kernel
theorem dX12_passesAll_19 : decode cX12_passesAll 19 = .ok (.aload_n 0, 1) := by decide +kernel
theorem dX12_passesAll_20 : decode cX12_passesAll 20 = .ok (.getfield 16, 3) := by decide +kernel
theorem dX12_passesAll_23 : decode cX12_passesAll 23 = .ok (.invokevirtual 287, 3) := by decide +kernel
theorem dX12_passesAll_26 : decode cX12_passesAll 26 = .ok (.aload_n 0, 1) := by decide +kernel
theorem dX12_passesAll_27 : decode cX12_passesAll 27 = .ok (.aload_n 0, 1) := by decide +kernel
theorem dX12_passesAll_28 : decode cX12_passesAll 28 = .ok (.getfield 19, 3) := by decide +kernel
theorem dX12_passesAll_31 : decode cX12_passesAll 31 = .ok (.invokevirtual 287, 3) := by decide +kernel
theorem dX12_passesAll_34 : decode cX12_passesAll 34 = .ok (.aload_n 0, 1) := by decide +kernel
theorem dX12_passesAll_35 : decode cX12_passesAll 35 = .ok (.aload_n 0, 1) := by decide +kernel
theorem dX12_passesAll_36 : decode cX12_passesAll 36 = .ok (.getfield 22, 3) := by decide +kernel
theorem dX12_passesAll_39 : decode cX12_passesAll 39 = .ok (.invokevirtual 287, 3) := by decide +kernel
theorem dX12_passesAll_42 : decode cX12_passesAll 42 = .ok (.aload_n 0, 1) := by decide +kernel
theorem dX12_passesAll_43 : decode cX12_passesAll 43 = .ok (.aload_n 0, 1) := by decide +kernel
theorem dX12_passesAll_44 : decode cX12_passesAll 44 = .ok (.getfield 25, 3) := by decide +kernel
theorem dX12_passesAll_47 : decode cX12_passesAll 47 = .ok (.invokevirtual 287, 3) := by decide +kernel
theorem dX12_passesAll_50 : decode cX12_passesAll 50 = .ok (.aload_n 0, 1) := by decide +kernel
theorem dX12_passesAll_51 : decode cX12_passesAll 51 = .ok (.aload_n 0, 1) := by decide +kernel
theorem dX12_passesAll_52 : decode cX12_passesAll 52 = .ok (.getfield 28, 3) := by decide +kernel
theorem dX12_passesAll_55 : decode cX12_passesAll 55 = .ok (.invokevirtual 287, 3) := by decide +kernel
theorem dX12_passesAll_58 : decode cX12_passesAll 58 = .ok (.aload_n 0, 1) := by decide +kernel
theorem dX12_passesAll_59 : decode cX12_passesAll 59 = .ok (.aload_n 0, 1) := by decide +kernel
theorem dX12_passesAll_60 : decode cX12_passesAll 60 = .ok (.aload_n 0, 1) := by decide +kernel
theorem dX12_passesAll_61 : decode cX12_passesAll 61 = .ok (.getfield 82, 3) := by decide +kernel
theorem dX12_passesAll_64 : decode cX12_passesAll 64 = .ok (.invokevirtual 291, 3) := by decide +kernel
theorem dX12_passesAll_67 : decode cX12_passesAll 67 = .ok (.putfield 82, 3) := by decide +kernel
theorem dX12_passesAll_70 : decode cX12_passesAll 70 = .ok (.aload_n 0, 1) := by decide +kernel
theorem dX12_passesAll_71 : decode cX12_passesAll 71 = .ok (.aload_n 0, 1) := by decide +kernel
theorem dX12_passesAll_72 : decode cX12_passesAll 72 = .ok (.aload_n 0, 1) := by decide +kernel
theorem dX12_passesAll_73 : decode cX12_passesAll 73 = .ok (.getfield 165, 3) := by decide +kernel
theorem dX12_passesAll_76 : decode cX12_passesAll 76 = .ok (.invokevirtual 291, 3) := by decide +kernel
theorem dX12_passesAll_79 : decode cX12_passesAll 79 = .ok (.putfield 165, 3) := by decide +kernel
theorem dX12_passesAll_82 : decode cX12_passesAll 82 = .ok (.return_, 1) := by decide +kernel
theorem dX12_image_0 : decode cX12_image 0 = .ok (.aload_n 0, 1) := by decide +kernel
theorem dX12_image_1 : decode cX12_image 1 = .ok (.iconst 1, 1) := by decide +kernel
theorem dX12_image_2 : decode cX12_image 2 = .ok (.putfield 294, 3) := by decide +kernel
theorem dX12_image_5 : decode cX12_image 5 = .ok (.aload_n 0, 1) := by decide +kernel
theorem dX12_image_6 : decode cX12_image 6 = .ok (.iconst 1, 1) := by decide +kernel
theorem dX12_image_7 : decode cX12_image 7 = .ok (.invokevirtual 297, 3) := by decide +kernel
theorem dX12_image_10 : decode cX12_image 10 = .ok (.aload_n 0, 1) := by decide +kernel
theorem dX12_image_11 : decode cX12_image 11 = .ok (.getfield 82, 3) := by decide +kernel
theorem dX12_image_14 : decode cX12_image 14 = .ok (.ireturn, 1) := by decide +kernel
theorem dX12_back_0 : decode cX12_back 0 = .ok (.aload_n 0, 1) := by decide +kernel
theorem dX12_back_1 : decode cX12_back 1 = .ok (.getfield 294, 3) := by decide +kernel
theorem dX12_back_4 : decode cX12_back 4 = .ok (.ifCond .ne 6, 3) := by decide +kernel
theorem dX12_back_7 : decode cX12_back 7 = .ok (.bipush (-3), 2) := by decide +kernel
theorem dX12_back_9 : decode cX12_back 9 = .ok (.ireturn, 1) := by decide +kernel
theorem dX12_back_10 : decode cX12_back 10 = .ok (.aload_n 0, 1) := by decide +kernel
theorem dX12_back_11 : decode cX12_back 11 = .ok (.iconst 0, 1) := by decide +kernel
theorem dX12_back_12 : decode cX12_back 12 = .ok (.invokevirtual 297, 3) := by decide +kernel
theorem dX12_back_15 : decode cX12_back 15 = .ok (.aload_n 0, 1) := by decide +kernel
theorem dX12_back_16 : decode cX12_back 16 = .ok (.getfield 82, 3) := by decide +kernel
theorem dX12_back_19 : decode cX12_back 19 = .ok (.ireturn, 1) := by decide +kernel
theorem dX12_count_0 : decode cX12_count 0 = .ok (.iload_n 1, 1) := by decide +kernel
theorem dX12_count_1 : decode cX12_count 1 = .ok (.iconst 4, 1) := by decide +kernel
theorem dX12_count_2 : decode cX12_count 2 = .ok (.bipush 13, 2) := by decide +kernel
theorem dX12_count_4 : decode cX12_count 4 = .ok (.invokestatic 92, 3) := by decide +kernel
theorem dX12_count_7 : decode cX12_count 7 = .ok (.ifCond .eq 12, 3) := by decide +kernel
theorem dX12_count_10 : decode cX12_count 10 = .ok (.aload_n 0, 1) := by decide +kernel
theorem dX12_count_11 : decode cX12_count 11 = .ok (.getfield 28, 3) := by decide +kernel
theorem dX12_count_14 : decode cX12_count 14 = .ok (.iload_n 1, 1) := by decide +kernel
theorem dX12_count_15 : decode cX12_count 15 = .ok (.iconst 4, 1) := by decide +kernel
theorem dX12_count_16 : decode cX12_count 16 = .ok (.isub, 1) := by decide +kernel
theorem dX12_count_17 : decode cX12_count 17 = .ok (.iaload, 1) := by decide +kernel
theorem dX12_count_18 : decode cX12_count 18 = .ok (.ireturn, 1) := by decide +kernel
theorem dX12_count_19 : decode cX12_count 19 = .ok (.iload_n 1, 1) := by decide +kernel
theorem dX12_count_20 : decode cX12_count 20 = .ok (.tableswitch 52 0 3 #[32, 37, 42, 47], 32) := by decide +kernel
theorem dX12_count_52 : decode cX12_count 52 = .ok (.aload_n 0, 1) := by decide +kernel
theorem dX12_count_53 : decode cX12_count 53 = .ok (.getfield 82, 3) := by decide +kernel
theorem dX12_count_56 : decode cX12_count 56 = .ok (.ireturn, 1) := by decide +kernel
theorem dX12_count_57 : decode cX12_count 57 = .ok (.aload_n 0, 1) := by decide +kernel
theorem dX12_count_58 : decode cX12_count 58 = .ok (.getfield 51, 3) := by decide +kernel
theorem dX12_count_61 : decode cX12_count 61 = .ok (.ireturn, 1) := by decide +kernel
theorem dX12_count_62 : decode cX12_count 62 = .ok (.aload_n 0, 1) := by decide +kernel
theorem dX12_count_63 : decode cX12_count 63 = .ok (.getfield 96, 3) := by decide +kernel
theorem dX12_count_66 : decode cX12_count 66 = .ok (.ireturn, 1) := by decide +kernel
theorem dX12_count_67 : decode cX12_count 67 = .ok (.aload_n 0, 1) := by decide +kernel
theorem dX12_count_68 : decode cX12_count 68 = .ok (.getfield 165, 3) := by decide +kernel
theorem dX12_count_71 : decode cX12_count 71 = .ok (.ireturn, 1) := by decide +kernel
theorem dX12_count_72 : decode cX12_count 72 = .ok (.bipush (-2), 2) := by decide +kernel
theorem dX12_count_74 : decode cX12_count 74 = .ok (.ireturn, 1) := by decide +kernel
theorem dX12_isSheet_0 : decode cX12_isSheet 0 = .ok (.iload_n 0, 1) := by decide +kernel
theorem dX12_isSheet_1 : decode cX12_isSheet 1 = .ok (.ifCond .lt 12, 3) := by decide +kernel
theorem dX12_isSheet_4 : decode cX12_isSheet 4 = .ok (.iload_n 0, 1) := by decide +kernel
theorem dX12_isSheet_5 : decode cX12_isSheet 5 = .ok (.iconst 4, 1) := by decide +kernel
theorem dX12_isSheet_6 : decode cX12_isSheet 6 = .ok (.if_icmp .ge 7, 3) := by decide +kernel
theorem dX12_isSheet_9 : decode cX12_isSheet 9 = .ok (.iconst 1, 1) := by decide +kernel
theorem dX12_isSheet_10 : decode cX12_isSheet 10 = .ok (.goto 4, 3) := by decide +kernel
theorem dX12_isSheet_13 : decode cX12_isSheet 13 = .ok (.iconst 0, 1) := by decide +kernel
theorem dX12_isSheet_14 : decode cX12_isSheet 14 = .ok (.ireturn, 1) := by decide +kernel
theorem dX12_sheet_0 : decode cX12_sheet 0 = .ok (.iload_n 1, 1) := by decide +kernel
theorem dX12_sheet_1 : decode cX12_sheet 1 = .ok (.invokestatic 245, 3) := by decide +kernel
theorem dX12_sheet_4 : decode cX12_sheet 4 = .ok (.ifCond .eq 12, 3) := by decide +kernel
theorem dX12_sheet_7 : decode cX12_sheet 7 = .ok (.iload_n 2, 1) := by decide +kernel
theorem dX12_sheet_8 : decode cX12_sheet 8 = .ok (.iconst (-1), 1) := by decide +kernel
theorem dX12_sheet_9 : decode cX12_sheet 9 = .ok (.iconst 2, 1) := by decide +kernel
theorem dX12_sheet_10 : decode cX12_sheet 10 = .ok (.invokestatic 92, 3) := by decide +kernel
theorem dX12_sheet_13 : decode cX12_sheet 13 = .ok (.ifCond .ne 6, 3) := by decide +kernel
theorem dX12_sheet_16 : decode cX12_sheet 16 = .ok (.bipush (-2), 2) := by decide +kernel
theorem dX12_sheet_18 : decode cX12_sheet 18 = .ok (.ireturn, 1) := by decide +kernel
theorem dX12_sheet_19 : decode cX12_sheet 19 = .ok (.iload_n 2, 1) := by decide +kernel
theorem dX12_sheet_20 : decode cX12_sheet 20 = .ok (.ifCond .lt 12, 3) := by decide +kernel
theorem dX12_sheet_23 : decode cX12_sheet 23 = .ok (.iload_n 3, 1) := by decide +kernel
theorem dX12_sheet_24 : decode cX12_sheet 24 = .ok (.bipush 40, 2) := by decide +kernel
theorem dX12_sheet_26 : decode cX12_sheet 26 = .ok (.if_icmp .le 6, 3) := by decide +kernel
theorem dX12_sheet_29 : decode cX12_sheet 29 = .ok (.bipush (-2), 2) := by decide +kernel
theorem dX12_sheet_31 : decode cX12_sheet 31 = .ok (.ireturn, 1) := by decide +kernel
theorem dX12_sheet_32 : decode cX12_sheet 32 = .ok (.iload_n 2, 1) := by decide +kernel
theorem dX12_sheet_33 : decode cX12_sheet 33 = .ok (.ifCond .lt 10, 3) := by decide +kernel
theorem dX12_sheet_36 : decode cX12_sheet 36 = .ok (.iload_n 3, 1) := by decide +kernel
theorem dX12_sheet_37 : decode cX12_sheet 37 = .ok (.ifCond .ge 6, 3) := by decide +kernel
theorem dX12_sheet_40 : decode cX12_sheet 40 = .ok (.bipush (-14), 2) := by decide +kernel
theorem dX12_sheet_42 : decode cX12_sheet 42 = .ok (.ireturn, 1) := by decide +kernel
theorem dX12_sheet_43 : decode cX12_sheet 43 = .ok (.aload_n 0, 1) := by decide +kernel
theorem dX12_sheet_44 : decode cX12_sheet 44 = .ok (.getfield 67, 3) := by decide +kernel
theorem dX12_sheet_47 : decode cX12_sheet 47 = .ok (.iload_n 1, 1) := by decide +kernel
theorem dX12_sheet_48 : decode cX12_sheet 48 = .ok (.iload_n 2, 1) := by decide +kernel
theorem dX12_sheet_49 : decode cX12_sheet 49 = .ok (.iastore, 1) := by decide +kernel
theorem dX12_sheet_50 : decode cX12_sheet 50 = .ok (.aload_n 0, 1) := by decide +kernel
theorem dX12_sheet_51 : decode cX12_sheet 51 = .ok (.getfield 70, 3) := by decide +kernel
theorem dX12_sheet_54 : decode cX12_sheet 54 = .ok (.iload_n 1, 1) := by decide +kernel
theorem dX12_sheet_55 : decode cX12_sheet 55 = .ok (.iload_n 2, 1) := by decide +kernel
theorem dX12_sheet_56 : decode cX12_sheet 56 = .ok (.ifCond .ge 7, 3) := by decide +kernel
theorem dX12_sheet_59 : decode cX12_sheet 59 = .ok (.iconst 0, 1) := by decide +kernel
theorem dX12_sheet_60 : decode cX12_sheet 60 = .ok (.goto 4, 3) := by decide +kernel
theorem dX12_sheet_63 : decode cX12_sheet 63 = .ok (.iload_n 3, 1) := by decide +kernel
theorem dX12_sheet_64 : decode cX12_sheet 64 = .ok (.iastore, 1) := by decide +kernel
theorem dX12_sheet_65 : decode cX12_sheet 65 = .ok (.iconst 0, 1) := by decide +kernel
theorem dX12_sheet_66 : decode cX12_sheet 66 = .ok (.istore 4, 2) := by decide +kernel
theorem dX12_sheet_68 : decode cX12_sheet 68 = .ok (.iload 4, 2) := by decide +kernel
theorem dX12_sheet_70 : decode cX12_sheet 70 = .ok (.aload_n 0, 1) := by decide +kernel
theorem dX12_sheet_71 : decode cX12_sheet 71 = .ok (.getfield 70, 3) := by decide +kernel
theorem dX12_sheet_74 : decode cX12_sheet 74 = .ok (.iload_n 1, 1) := by decide +kernel
theorem dX12_sheet_75 : decode cX12_sheet 75 = .ok (.iaload, 1) := by decide +kernel
theorem dX12_sheet_76 : decode cX12_sheet 76 = .ok (.if_icmp .ge 22, 3) := by decide +kernel
theorem dX12_sheet_79 : decode cX12_sheet 79 = .ok (.aload_n 0, 1) := by decide +kernel
theorem dX12_sheet_80 : decode cX12_sheet 80 = .ok (.getfield 73, 3) := by decide +kernel
theorem dX12_sheet_83 : decode cX12_sheet 83 = .ok (.bipush 40, 2) := by decide +kernel
theorem dX12_sheet_85 : decode cX12_sheet 85 = .ok (.iload_n 1, 1) := by decide +kernel
theorem dX12_sheet_86 : decode cX12_sheet 86 = .ok (.imul, 1) := by decide +kernel
theorem dX12_sheet_87 : decode cX12_sheet 87 = .ok (.iload 4, 2) := by decide +kernel
theorem dX12_sheet_89 : decode cX12_sheet 89 = .ok (.iadd, 1) := by decide +kernel
theorem dX12_sheet_90 : decode cX12_sheet 90 = .ok (.iconst 0, 1) := by decide +kernel
theorem dX12_sheet_91 : decode cX12_sheet 91 = .ok (.iastore, 1) := by decide +kernel
theorem dX12_sheet_92 : decode cX12_sheet 92 = .ok (.iinc 4 1, 3) := by decide +kernel
theorem dX12_sheet_95 : decode cX12_sheet 95 = .ok (.goto (-27), 3) := by decide +kernel
theorem dX12_sheet_98 : decode cX12_sheet 98 = .ok (.iconst 1, 1) := by decide +kernel
theorem dX12_sheet_99 : decode cX12_sheet 99 = .ok (.ireturn, 1) := by decide +kernel
theorem dX12_cell_0 : decode cX12_cell 0 = .ok (.iload_n 1, 1) := by decide +kernel
theorem dX12_cell_1 : decode cX12_cell 1 = .ok (.invokestatic 245, 3) := by decide +kernel
theorem dX12_cell_4 : decode cX12_cell 4 = .ok (.ifCond .ne 6, 3) := by decide +kernel
theorem dX12_cell_7 : decode cX12_cell 7 = .ok (.bipush (-2), 2) := by decide +kernel
theorem dX12_cell_9 : decode cX12_cell 9 = .ok (.ireturn, 1) := by decide +kernel
theorem dX12_cell_10 : decode cX12_cell 10 = .ok (.aload_n 0, 1) := by decide +kernel
theorem dX12_cell_11 : decode cX12_cell 11 = .ok (.getfield 67, 3) := by decide +kernel
theorem dX12_cell_14 : decode cX12_cell 14 = .ok (.iload_n 1, 1) := by decide +kernel
theorem dX12_cell_15 : decode cX12_cell 15 = .ok (.iaload, 1) := by decide +kernel
theorem dX12_cell_16 : decode cX12_cell 16 = .ok (.ifCond .ge 6, 3) := by decide +kernel
theorem dX12_cell_19 : decode cX12_cell 19 = .ok (.bipush (-11), 2) := by decide +kernel
theorem dX12_cell_21 : decode cX12_cell 21 = .ok (.ireturn, 1) := by decide +kernel
theorem dX12_cell_22 : decode cX12_cell 22 = .ok (.iload_n 2, 1) := by decide +kernel
theorem dX12_cell_23 : decode cX12_cell 23 = .ok (.iconst 0, 1) := by decide +kernel
theorem dX12_cell_24 : decode cX12_cell 24 = .ok (.aload_n 0, 1) := by decide +kernel
theorem dX12_cell_25 : decode cX12_cell 25 = .ok (.getfield 70, 3) := by decide +kernel
theorem dX12_cell_28 : decode cX12_cell 28 = .ok (.iload_n 1, 1) := by decide +kernel
theorem dX12_cell_29 : decode cX12_cell 29 = .ok (.iaload, 1) := by decide +kernel
theorem dX12_cell_30 : decode cX12_cell 30 = .ok (.iconst 1, 1) := by decide +kernel
theorem dX12_cell_31 : decode cX12_cell 31 = .ok (.isub, 1) := by decide +kernel
theorem dX12_cell_32 : decode cX12_cell 32 = .ok (.invokestatic 92, 3) := by decide +kernel
theorem dX12_cell_35 : decode cX12_cell 35 = .ok (.ifCond .ne 6, 3) := by decide +kernel
theorem dX12_cell_38 : decode cX12_cell 38 = .ok (.bipush (-12), 2) := by decide +kernel
theorem dX12_cell_40 : decode cX12_cell 40 = .ok (.ireturn, 1) := by decide +kernel
theorem dX12_cell_41 : decode cX12_cell 41 = .ok (.aload_n 0, 1) := by decide +kernel
theorem dX12_cell_42 : decode cX12_cell 42 = .ok (.getfield 73, 3) := by decide +kernel
theorem dX12_cell_45 : decode cX12_cell 45 = .ok (.bipush 40, 2) := by decide +kernel
theorem dX12_cell_47 : decode cX12_cell 47 = .ok (.iload_n 1, 1) := by decide +kernel
theorem dX12_cell_48 : decode cX12_cell 48 = .ok (.imul, 1) := by decide +kernel
theorem dX12_cell_49 : decode cX12_cell 49 = .ok (.iload_n 2, 1) := by decide +kernel
theorem dX12_cell_50 : decode cX12_cell 50 = .ok (.iadd, 1) := by decide +kernel
theorem dX12_cell_51 : decode cX12_cell 51 = .ok (.aload_n 0, 1) := by decide +kernel
theorem dX12_cell_52 : decode cX12_cell 52 = .ok (.getfield 67, 3) := by decide +kernel
theorem dX12_cell_55 : decode cX12_cell 55 = .ok (.iload_n 1, 1) := by decide +kernel
theorem dX12_cell_56 : decode cX12_cell 56 = .ok (.iaload, 1) := by decide +kernel
theorem dX12_cell_57 : decode cX12_cell 57 = .ok (.ifCond .ne 8, 3) := by decide +kernel
theorem dX12_cell_60 : decode cX12_cell 60 = .ok (.iload_n 3, 1) := by decide +kernel
theorem dX12_cell_61 : decode cX12_cell 61 = .ok (.i2b, 1) := by decide +kernel
theorem dX12_cell_62 : decode cX12_cell 62 = .ok (.goto 19, 3) := by decide +kernel
theorem dX12_cell_65 : decode cX12_cell 65 = .ok (.aload_n 0, 1) := by decide +kernel
theorem dX12_cell_66 : decode cX12_cell 66 = .ok (.getfield 67, 3) := by decide +kernel
theorem dX12_cell_69 : decode cX12_cell 69 = .ok (.iload_n 1, 1) := by decide +kernel
theorem dX12_cell_70 : decode cX12_cell 70 = .ok (.iaload, 1) := by decide +kernel
theorem dX12_cell_71 : decode cX12_cell 71 = .ok (.iconst 1, 1) := by decide +kernel
theorem dX12_cell_72 : decode cX12_cell 72 = .ok (.if_icmp .ne 8, 3) := by decide +kernel
theorem dX12_cell_75 : decode cX12_cell 75 = .ok (.iload_n 3, 1) := by decide +kernel
theorem dX12_cell_76 : decode cX12_cell 76 = .ok (.i2s, 1) := by decide +kernel
theorem dX12_cell_77 : decode cX12_cell 77 = .ok (.goto 4, 3) := by decide +kernel
theorem dX12_cell_80 : decode cX12_cell 80 = .ok (.iload_n 3, 1) := by decide +kernel
theorem dX12_cell_81 : decode cX12_cell 81 = .ok (.iastore, 1) := by decide +kernel
theorem dX12_cell_82 : decode cX12_cell 82 = .ok (.iconst 1, 1) := by decide +kernel
theorem dX12_cell_83 : decode cX12_cell 83 = .ok (.ireturn, 1) := by decide +kernel
theorem dX12_hasCells_0 : decode cX12_hasCells 0 = .ok (.iload_n 2, 1) := by decide +kernel
theorem dX12_hasCells_1 : decode cX12_hasCells 1 = .ok (.ifCond .lt 29, 3) := by decide +kernel
theorem dX12_hasCells_4 : decode cX12_hasCells 4 = .ok (.iload_n 2, 1) := by decide +kernel
theorem dX12_hasCells_5 : decode cX12_hasCells 5 = .ok (.aload_n 0, 1) := by decide +kernel
theorem dX12_hasCells_6 : decode cX12_hasCells 6 = .ok (.getfield 70, 3) := by decide +kernel
theorem dX12_hasCells_9 : decode cX12_hasCells 9 = .ok (.iload_n 1, 1) := by decide +kernel
theorem dX12_hasCells_10 : decode cX12_hasCells 10 = .ok (.iaload, 1) := by decide +kernel
theorem dX12_hasCells_11 : decode cX12_hasCells 11 = .ok (.if_icmp .gt 19, 3) := by decide +kernel
theorem dX12_hasCells_14 : decode cX12_hasCells 14 = .ok (.iload_n 3, 1) := by decide +kernel
theorem dX12_hasCells_15 : decode cX12_hasCells 15 = .ok (.aload_n 0, 1) := by decide +kernel
theorem dX12_hasCells_16 : decode cX12_hasCells 16 = .ok (.getfield 70, 3) := by decide +kernel
theorem dX12_hasCells_19 : decode cX12_hasCells 19 = .ok (.iload_n 1, 1) := by decide +kernel
theorem dX12_hasCells_20 : decode cX12_hasCells 20 = .ok (.iaload, 1) := by decide +kernel
theorem dX12_hasCells_21 : decode cX12_hasCells 21 = .ok (.iload_n 2, 1) := by decide +kernel
theorem dX12_hasCells_22 : decode cX12_hasCells 22 = .ok (.isub, 1) := by decide +kernel
theorem dX12_hasCells_23 : decode cX12_hasCells 23 = .ok (.if_icmp .gt 7, 3) := by decide +kernel
theorem dX12_hasCells_26 : decode cX12_hasCells 26 = .ok (.iconst 1, 1) := by decide +kernel
theorem dX12_hasCells_27 : decode cX12_hasCells 27 = .ok (.goto 4, 3) := by decide +kernel
theorem dX12_hasCells_30 : decode cX12_hasCells 30 = .ok (.iconst 0, 1) := by decide +kernel
theorem dX12_hasCells_31 : decode cX12_hasCells 31 = .ok (.ireturn, 1) := by decide +kernel
theorem dX12_copy_0 : decode cX12_copy 0 = .ok (.iload_n 1, 1) := by decide +kernel
theorem dX12_copy_1 : decode cX12_copy 1 = .ok (.invokestatic 245, 3) := by decide +kernel
theorem dX12_copy_4 : decode cX12_copy 4 = .ok (.ifCond .eq 10, 3) := by decide +kernel
theorem dX12_copy_7 : decode cX12_copy 7 = .ok (.iload_n 3, 1) := by decide +kernel
theorem dX12_copy_8 : decode cX12_copy 8 = .ok (.invokestatic 245, 3) := by decide +kernel
theorem dX12_copy_11 : decode cX12_copy 11 = .ok (.ifCond .ne 6, 3) := by decide +kernel
theorem dX12_copy_14 : decode cX12_copy 14 = .ok (.bipush (-2), 2) := by decide +kernel
theorem dX12_copy_16 : decode cX12_copy 16 = .ok (.ireturn, 1) := by decide +kernel
theorem dX12_copy_17 : decode cX12_copy 17 = .ok (.aload_n 0, 1) := by decide +kernel
theorem dX12_copy_18 : decode cX12_copy 18 = .ok (.getfield 67, 3) := by decide +kernel
theorem dX12_copy_21 : decode cX12_copy 21 = .ok (.iload_n 1, 1) := by decide +kernel
theorem dX12_copy_22 : decode cX12_copy 22 = .ok (.iaload, 1) := by decide +kernel
theorem dX12_copy_23 : decode cX12_copy 23 = .ok (.ifCond .lt 12, 3) := by decide +kernel
theorem dX12_copy_26 : decode cX12_copy 26 = .ok (.aload_n 0, 1) := by decide +kernel
theorem dX12_copy_27 : decode cX12_copy 27 = .ok (.getfield 67, 3) := by decide +kernel
theorem dX12_copy_30 : decode cX12_copy 30 = .ok (.iload_n 3, 1) := by decide +kernel
theorem dX12_copy_31 : decode cX12_copy 31 = .ok (.iaload, 1) := by decide +kernel
theorem dX12_copy_32 : decode cX12_copy 32 = .ok (.ifCond .ge 6, 3) := by decide +kernel
theorem dX12_copy_35 : decode cX12_copy 35 = .ok (.bipush (-11), 2) := by decide +kernel
theorem dX12_copy_37 : decode cX12_copy 37 = .ok (.ireturn, 1) := by decide +kernel
theorem dX12_copy_38 : decode cX12_copy 38 = .ok (.aload_n 0, 1) := by decide +kernel
theorem dX12_copy_39 : decode cX12_copy 39 = .ok (.getfield 67, 3) := by decide +kernel
theorem dX12_copy_42 : decode cX12_copy 42 = .ok (.iload_n 1, 1) := by decide +kernel
theorem dX12_copy_43 : decode cX12_copy 43 = .ok (.iaload, 1) := by decide +kernel
theorem dX12_copy_44 : decode cX12_copy 44 = .ok (.aload_n 0, 1) := by decide +kernel
theorem dX12_copy_45 : decode cX12_copy 45 = .ok (.getfield 67, 3) := by decide +kernel
theorem dX12_copy_48 : decode cX12_copy 48 = .ok (.iload_n 3, 1) := by decide +kernel
theorem dX12_copy_49 : decode cX12_copy 49 = .ok (.iaload, 1) := by decide +kernel
theorem dX12_copy_50 : decode cX12_copy 50 = .ok (.if_icmp .eq 6, 3) := by decide +kernel
theorem dX12_copy_53 : decode cX12_copy 53 = .ok (.bipush (-13), 2) := by decide +kernel
theorem dX12_copy_55 : decode cX12_copy 55 = .ok (.ireturn, 1) := by decide +kernel
theorem dX12_copy_56 : decode cX12_copy 56 = .ok (.iload 5, 2) := by decide +kernel
theorem dX12_copy_58 : decode cX12_copy 58 = .ok (.ifCond .lt 26, 3) := by decide +kernel
theorem dX12_copy_61 : decode cX12_copy 61 = .ok (.aload_n 0, 1) := by decide +kernel
theorem dX12_copy_62 : decode cX12_copy 62 = .ok (.iload_n 1, 1) := by decide +kernel
theorem dX12_copy_63 : decode cX12_copy 63 = .ok (.iload_n 2, 1) := by decide +kernel
theorem dX12_copy_64 : decode cX12_copy 64 = .ok (.iload 5, 2) := by decide +kernel
theorem dX12_copy_66 : decode cX12_copy 66 = .ok (.invokevirtual 301, 3) := by decide +kernel
theorem dX12_copy_69 : decode cX12_copy 69 = .ok (.ifCond .eq 15, 3) := by decide +kernel
theorem dX12_copy_72 : decode cX12_copy 72 = .ok (.aload_n 0, 1) := by decide +kernel
theorem dX12_copy_73 : decode cX12_copy 73 = .ok (.iload_n 3, 1) := by decide +kernel
theorem dX12_copy_74 : decode cX12_copy 74 = .ok (.iload 4, 2) := by decide +kernel
theorem dX12_copy_76 : decode cX12_copy 76 = .ok (.iload 5, 2) := by decide +kernel
theorem dX12_copy_78 : decode cX12_copy 78 = .ok (.invokevirtual 301, 3) := by decide +kernel
theorem dX12_copy_81 : decode cX12_copy 81 = .ok (.ifCond .ne 6, 3) := by decide +kernel
theorem dX12_copy_84 : decode cX12_copy 84 = .ok (.bipush (-12), 2) := by decide +kernel
theorem dX12_copy_86 : decode cX12_copy 86 = .ok (.ireturn, 1) := by decide +kernel
theorem dX12_copy_87 : decode cX12_copy 87 = .ok (.iconst 0, 1) := by decide +kernel
theorem dX12_copy_88 : decode cX12_copy 88 = .ok (.istore 6, 2) := by decide +kernel
theorem dX12_copy_90 : decode cX12_copy 90 = .ok (.iload 6, 2) := by decide +kernel
theorem dX12_copy_92 : decode cX12_copy 92 = .ok (.iload 5, 2) := by decide +kernel
theorem dX12_copy_94 : decode cX12_copy 94 = .ok (.if_icmp .ge 30, 3) := by decide +kernel
theorem dX12_copy_97 : decode cX12_copy 97 = .ok (.aload_n 0, 1) := by decide +kernel
theorem dX12_copy_98 : decode cX12_copy 98 = .ok (.getfield 76, 3) := by decide +kernel
theorem dX12_copy_101 : decode cX12_copy 101 = .ok (.iload 6, 2) := by decide +kernel
theorem dX12_copy_103 : decode cX12_copy 103 = .ok (.aload_n 0, 1) := by decide +kernel
theorem dX12_copy_104 : decode cX12_copy 104 = .ok (.getfield 73, 3) := by decide +kernel
theorem dX12_copy_107 : decode cX12_copy 107 = .ok (.bipush 40, 2) := by decide +kernel
theorem dX12_copy_109 : decode cX12_copy 109 = .ok (.iload_n 1, 1) := by decide +kernel
theorem dX12_copy_110 : decode cX12_copy 110 = .ok (.imul, 1) := by decide +kernel
theorem dX12_copy_111 : decode cX12_copy 111 = .ok (.iload_n 2, 1) := by decide +kernel
theorem dX12_copy_112 : decode cX12_copy 112 = .ok (.iadd, 1) := by decide +kernel
theorem dX12_copy_113 : decode cX12_copy 113 = .ok (.iload 6, 2) := by decide +kernel
theorem dX12_copy_115 : decode cX12_copy 115 = .ok (.iadd, 1) := by decide +kernel
theorem dX12_copy_116 : decode cX12_copy 116 = .ok (.iaload, 1) := by decide +kernel
theorem dX12_copy_117 : decode cX12_copy 117 = .ok (.iastore, 1) := by decide +kernel
theorem dX12_copy_118 : decode cX12_copy 118 = .ok (.iinc 6 1, 3) := by decide +kernel
theorem dX12_copy_121 : decode cX12_copy 121 = .ok (.goto (-31), 3) := by decide +kernel
theorem dX12_copy_124 : decode cX12_copy 124 = .ok (.iconst 0, 1) := by decide +kernel
theorem dX12_copy_125 : decode cX12_copy 125 = .ok (.istore 6, 2) := by decide +kernel
theorem dX12_copy_127 : decode cX12_copy 127 = .ok (.iload 6, 2) := by decide +kernel
theorem dX12_copy_129 : decode cX12_copy 129 = .ok (.iload 5, 2) := by decide +kernel
theorem dX12_copy_131 : decode cX12_copy 131 = .ok (.if_icmp .ge 31, 3) := by decide +kernel
theorem dX12_copy_134 : decode cX12_copy 134 = .ok (.aload_n 0, 1) := by decide +kernel
theorem dX12_copy_135 : decode cX12_copy 135 = .ok (.getfield 73, 3) := by decide +kernel
theorem dX12_copy_138 : decode cX12_copy 138 = .ok (.bipush 40, 2) := by decide +kernel
theorem dX12_copy_140 : decode cX12_copy 140 = .ok (.iload_n 3, 1) := by decide +kernel
theorem dX12_copy_141 : decode cX12_copy 141 = .ok (.imul, 1) := by decide +kernel
theorem dX12_copy_142 : decode cX12_copy 142 = .ok (.iload 4, 2) := by decide +kernel
theorem dX12_copy_144 : decode cX12_copy 144 = .ok (.iadd, 1) := by decide +kernel
theorem dX12_copy_145 : decode cX12_copy 145 = .ok (.iload 6, 2) := by decide +kernel
theorem dX12_copy_147 : decode cX12_copy 147 = .ok (.iadd, 1) := by decide +kernel
theorem dX12_copy_148 : decode cX12_copy 148 = .ok (.aload_n 0, 1) := by decide +kernel
theorem dX12_copy_149 : decode cX12_copy 149 = .ok (.getfield 76, 3) := by decide +kernel
theorem dX12_copy_152 : decode cX12_copy 152 = .ok (.iload 6, 2) := by decide +kernel
theorem dX12_copy_154 : decode cX12_copy 154 = .ok (.iaload, 1) := by decide +kernel
theorem dX12_copy_155 : decode cX12_copy 155 = .ok (.iastore, 1) := by decide +kernel
theorem dX12_copy_156 : decode cX12_copy 156 = .ok (.iinc 6 1, 3) := by decide +kernel
theorem dX12_copy_159 : decode cX12_copy 159 = .ok (.goto (-32), 3) := by decide +kernel
theorem dX12_copy_162 : decode cX12_copy 162 = .ok (.iload 5, 2) := by decide +kernel
theorem dX12_copy_164 : decode cX12_copy 164 = .ok (.ireturn, 1) := by decide +kernel
theorem dX12_houses_0 : decode cX12_houses 0 = .ok (.iload_n 1, 1) := by decide +kernel
theorem dX12_houses_1 : decode cX12_houses 1 = .ok (.invokestatic 245, 3) := by decide +kernel
theorem dX12_houses_4 : decode cX12_houses 4 = .ok (.ifCond .eq 23, 3) := by decide +kernel
theorem dX12_houses_7 : decode cX12_houses 7 = .ok (.iload_n 2, 1) := by decide +kernel
theorem dX12_houses_8 : decode cX12_houses 8 = .ok (.iconst 0, 1) := by decide +kernel
theorem dX12_houses_9 : decode cX12_houses 9 = .ok (.iconst 2, 1) := by decide +kernel
theorem dX12_houses_10 : decode cX12_houses 10 = .ok (.invokestatic 92, 3) := by decide +kernel
theorem dX12_houses_13 : decode cX12_houses 13 = .ok (.ifCond .eq 14, 3) := by decide +kernel
theorem dX12_houses_16 : decode cX12_houses 16 = .ok (.iload 4, 2) := by decide +kernel
theorem dX12_houses_18 : decode cX12_houses 18 = .ok (.iconst 0, 1) := by decide +kernel
theorem dX12_houses_19 : decode cX12_houses 19 = .ok (.bipush 7, 2) := by decide +kernel
theorem dX12_houses_21 : decode cX12_houses 21 = .ok (.invokestatic 92, 3) := by decide +kernel
theorem dX12_houses_24 : decode cX12_houses 24 = .ok (.ifCond .ne 6, 3) := by decide +kernel
theorem dX12_houses_27 : decode cX12_houses 27 = .ok (.bipush (-2), 2) := by decide +kernel
theorem dX12_houses_29 : decode cX12_houses 29 = .ok (.ireturn, 1) := by decide +kernel
theorem dX12_houses_30 : decode cX12_houses 30 = .ok (.aload_n 0, 1) := by decide +kernel
theorem dX12_houses_31 : decode cX12_houses 31 = .ok (.getfield 67, 3) := by decide +kernel
theorem dX12_houses_34 : decode cX12_houses 34 = .ok (.iload_n 1, 1) := by decide +kernel
theorem dX12_houses_35 : decode cX12_houses 35 = .ok (.iaload, 1) := by decide +kernel
theorem dX12_houses_36 : decode cX12_houses 36 = .ok (.ifCond .ge 6, 3) := by decide +kernel
theorem dX12_houses_39 : decode cX12_houses 39 = .ok (.bipush (-11), 2) := by decide +kernel
theorem dX12_houses_41 : decode cX12_houses 41 = .ok (.ireturn, 1) := by decide +kernel
theorem dX12_houses_42 : decode cX12_houses 42 = .ok (.aload_n 0, 1) := by decide +kernel
theorem dX12_houses_43 : decode cX12_houses 43 = .ok (.getfield 67, 3) := by decide +kernel
theorem dX12_houses_46 : decode cX12_houses 46 = .ok (.iload_n 1, 1) := by decide +kernel
theorem dX12_houses_47 : decode cX12_houses 47 = .ok (.iaload, 1) := by decide +kernel
theorem dX12_houses_48 : decode cX12_houses 48 = .ok (.iload_n 2, 1) := by decide +kernel
theorem dX12_houses_49 : decode cX12_houses 49 = .ok (.if_icmp .eq 6, 3) := by decide +kernel
theorem dX12_houses_52 : decode cX12_houses 52 = .ok (.bipush (-13), 2) := by decide +kernel
theorem dX12_houses_54 : decode cX12_houses 54 = .ok (.ireturn, 1) := by decide +kernel
theorem dX12_houses_55 : decode cX12_houses 55 = .ok (.iconst 0, 1) := by decide +kernel
theorem dX12_houses_56 : decode cX12_houses 56 = .ok (.istore 5, 2) := by decide +kernel
theorem dX12_houses_58 : decode cX12_houses 58 = .ok (.iconst 0, 1) := by decide +kernel
theorem dX12_houses_59 : decode cX12_houses 59 = .ok (.istore 6, 2) := by decide +kernel
theorem dX12_houses_61 : decode cX12_houses 61 = .ok (.iload 6, 2) := by decide +kernel
theorem dX12_houses_63 : decode cX12_houses 63 = .ok (.iload 4, 2) := by decide +kernel
theorem dX12_houses_65 : decode cX12_houses 65 = .ok (.if_icmp .ge 85, 3) := by decide +kernel
theorem dX12_houses_68 : decode cX12_houses 68 = .ok (.iload_n 3, 1) := by decide +kernel
theorem dX12_houses_69 : decode cX12_houses 69 = .ok (.iconst 3, 1) := by decide +kernel
theorem dX12_houses_70 : decode cX12_houses 70 = .ok (.iload 6, 2) := by decide +kernel
theorem dX12_houses_72 : decode cX12_houses 72 = .ok (.imul, 1) := by decide +kernel
theorem dX12_houses_73 : decode cX12_houses 73 = .ok (.iadd, 1) := by decide +kernel
theorem dX12_houses_74 : decode cX12_houses 74 = .ok (.istore 7, 2) := by decide +kernel
theorem dX12_houses_76 : decode cX12_houses 76 = .ok (.iload_n 3, 1) := by decide +kernel
theorem dX12_houses_77 : decode cX12_houses 77 = .ok (.ifCond .lt 20, 3) := by decide +kernel
theorem dX12_houses_80 : decode cX12_houses 80 = .ok (.iload_n 3, 1) := by decide +kernel
theorem dX12_houses_81 : decode cX12_houses 81 = .ok (.aload_n 0, 1) := by decide +kernel
theorem dX12_houses_82 : decode cX12_houses 82 = .ok (.getfield 70, 3) := by decide +kernel
theorem dX12_houses_85 : decode cX12_houses 85 = .ok (.iload_n 1, 1) := by decide +kernel
theorem dX12_houses_86 : decode cX12_houses 86 = .ok (.iaload, 1) := by decide +kernel
theorem dX12_houses_87 : decode cX12_houses 87 = .ok (.iconst 2, 1) := by decide +kernel
theorem dX12_houses_88 : decode cX12_houses 88 = .ok (.isub, 1) := by decide +kernel
theorem dX12_houses_89 : decode cX12_houses 89 = .ok (.iconst 3, 1) := by decide +kernel
theorem dX12_houses_90 : decode cX12_houses 90 = .ok (.iload 6, 2) := by decide +kernel
theorem dX12_houses_92 : decode cX12_houses 92 = .ok (.imul, 1) := by decide +kernel
theorem dX12_houses_93 : decode cX12_houses 93 = .ok (.isub, 1) := by decide +kernel
theorem dX12_houses_94 : decode cX12_houses 94 = .ok (.if_icmp .lt 6, 3) := by decide +kernel
theorem dX12_houses_97 : decode cX12_houses 97 = .ok (.bipush (-12), 2) := by decide +kernel
theorem dX12_houses_99 : decode cX12_houses 99 = .ok (.ireturn, 1) := by decide +kernel
theorem dX12_houses_100 : decode cX12_houses 100 = .ok (.bipush 40, 2) := by decide +kernel
theorem dX12_houses_102 : decode cX12_houses 102 = .ok (.iload_n 1, 1) := by decide +kernel
theorem dX12_houses_103 : decode cX12_houses 103 = .ok (.imul, 1) := by decide +kernel
theorem dX12_houses_104 : decode cX12_houses 104 = .ok (.iload 7, 2) := by decide +kernel
theorem dX12_houses_106 : decode cX12_houses 106 = .ok (.iadd, 1) := by decide +kernel
theorem dX12_houses_107 : decode cX12_houses 107 = .ok (.istore 8, 2) := by decide +kernel
theorem dX12_houses_109 : decode cX12_houses 109 = .ok (.aload_n 0, 1) := by decide +kernel
theorem dX12_houses_110 : decode cX12_houses 110 = .ok (.aload_n 0, 1) := by decide +kernel
theorem dX12_houses_111 : decode cX12_houses 111 = .ok (.getfield 73, 3) := by decide +kernel
theorem dX12_houses_114 : decode cX12_houses 114 = .ok (.iload 8, 2) := by decide +kernel
theorem dX12_houses_116 : decode cX12_houses 116 = .ok (.iaload, 1) := by decide +kernel
theorem dX12_houses_117 : decode cX12_houses 117 = .ok (.aload_n 0, 1) := by decide +kernel
theorem dX12_houses_118 : decode cX12_houses 118 = .ok (.getfield 73, 3) := by decide +kernel
theorem dX12_houses_121 : decode cX12_houses 121 = .ok (.iload 8, 2) := by decide +kernel
theorem dX12_houses_123 : decode cX12_houses 123 = .ok (.iconst 1, 1) := by decide +kernel
theorem dX12_houses_124 : decode cX12_houses 124 = .ok (.iadd, 1) := by decide +kernel
theorem dX12_houses_125 : decode cX12_houses 125 = .ok (.iaload, 1) := by decide +kernel
theorem dX12_houses_126 : decode cX12_houses 126 = .ok (.aload_n 0, 1) := by decide +kernel
theorem dX12_houses_127 : decode cX12_houses 127 = .ok (.getfield 73, 3) := by decide +kernel
theorem dX12_houses_130 : decode cX12_houses 130 = .ok (.iload 8, 2) := by decide +kernel
theorem dX12_houses_132 : decode cX12_houses 132 = .ok (.iconst 2, 1) := by decide +kernel
theorem dX12_houses_133 : decode cX12_houses 133 = .ok (.iadd, 1) := by decide +kernel
theorem dX12_houses_134 : decode cX12_houses 134 = .ok (.iaload, 1) := by decide +kernel
theorem dX12_houses_135 : decode cX12_houses 135 = .ok (.invokevirtual 184, 3) := by decide +kernel
theorem dX12_houses_138 : decode cX12_houses 138 = .ok (.ifCond .lt 6, 3) := by decide +kernel
theorem dX12_houses_141 : decode cX12_houses 141 = .ok (.iinc 5 1, 3) := by decide +kernel
theorem dX12_houses_144 : decode cX12_houses 144 = .ok (.iinc 6 1, 3) := by decide +kernel
theorem dX12_houses_147 : decode cX12_houses 147 = .ok (.goto (-86), 3) := by decide +kernel
theorem dX12_houses_150 : decode cX12_houses 150 = .ok (.iload 5, 2) := by decide +kernel
theorem dX12_houses_152 : decode cX12_houses 152 = .ok (.ireturn, 1) := by decide +kernel
end
section
theorem dX11_init_0 : decode cX11_init 0 = .ok (.aload_n 0, 1) := by decide +kernel
theorem dX11_init_1 : decode cX11_init 1 = .ok (.invokespecial 1, 3) := by decide +kernel
theorem dX11_init_4 : decode cX11_init 4 = .ok (.aload_n 0, 1) := by decide +kernel
theorem dX11_init_5 : decode cX11_init 5 = .ok (.bipush 7, 2) := by decide +kernel
theorem dX11_init_7 : decode cX11_init 7 = .ok (.anewarray 9, 3) := by decide +kernel
theorem dX11_init_10 : decode cX11_init 10 = .ok (.putfield 11, 3) := by decide +kernel
theorem dX11_init_13 : decode cX11_init 13 = .ok (.aload_n 0, 1) := by decide +kernel
theorem dX11_init_14 : decode cX11_init 14 = .ok (.iconst 0, 1) := by decide +kernel
theorem dX11_init_15 : decode cX11_init 15 = .ok (.putfield 15, 3) := by decide +kernel
theorem dX11_init_18 : decode cX11_init 18 = .ok (.aload_n 0, 1) := by decide +kernel
theorem dX11_init_19 : decode cX11_init 19 = .ok (.bipush 7, 2) := by decide +kernel
theorem dX11_init_21 : decode cX11_init 21 = .ok (.newarray .int, 2) := by decide +kernel
theorem dX11_init_23 : decode cX11_init 23 = .ok (.putfield 19, 3) := by decide +kernel
theorem dX11_init_26 : decode cX11_init 26 = .ok (.aload_n 0, 1) := by decide +kernel
theorem dX11_init_27 : decode cX11_init 27 = .ok (.getstatic 23, 3) := by decide +kernel
theorem dX11_init_30 : decode cX11_init 30 = .ok (.invokevirtual 26, 3) := by decide +kernel
theorem dX11_init_33 : decode cX11_init 33 = .ok (.checkcast 27, 3) := by decide +kernel
theorem dX11_init_36 : decode cX11_init 36 = .ok (.putfield 31, 3) := by decide +kernel
theorem dX11_init_39 : decode cX11_init 39 = .ok (.aload_n 0, 1) := by decide +kernel
theorem dX11_init_40 : decode cX11_init 40 = .ok (.new 34, 3) := by decide +kernel
theorem dX11_init_43 : decode cX11_init 43 = .ok (.dup, 1) := by decide +kernel
theorem dX11_init_44 : decode cX11_init 44 = .ok (.invokespecial 36, 3) := by decide +kernel
theorem dX11_init_47 : decode cX11_init 47 = .ok (.putfield 37, 3) := by decide +kernel
theorem dX11_init_50 : decode cX11_init 50 = .ok (.aload_n 0, 1) := by decide +kernel
theorem dX11_init_51 : decode cX11_init 51 = .ok (.bipush 6, 2) := by decide +kernel
theorem dX11_init_53 : decode cX11_init 53 = .ok (.anewarray 41, 3) := by decide +kernel
theorem dX11_init_56 : decode cX11_init 56 = .ok (.putfield 43, 3) := by decide +kernel
theorem dX11_init_59 : decode cX11_init 59 = .ok (.aload_n 0, 1) := by decide +kernel
theorem dX11_init_60 : decode cX11_init 60 = .ok (.iconst 0, 1) := by decide +kernel
theorem dX11_init_61 : decode cX11_init 61 = .ok (.putfield 47, 3) := by decide +kernel
theorem dX11_init_64 : decode cX11_init 64 = .ok (.aload_n 0, 1) := by decide +kernel
theorem dX11_init_65 : decode cX11_init 65 = .ok (.iconst 0, 1) := by decide +kernel
theorem dX11_init_66 : decode cX11_init 66 = .ok (.putfield 50, 3) := by decide +kernel
theorem dX11_init_69 : decode cX11_init 69 = .ok (.aload_n 0, 1) := by decide +kernel
theorem dX11_init_70 : decode cX11_init 70 = .ok (.iconst 4, 1) := by decide +kernel
theorem dX11_init_71 : decode cX11_init 71 = .ok (.anewarray 53, 3) := by decide +kernel
theorem dX11_init_74 : decode cX11_init 74 = .ok (.putfield 55, 3) := by decide +kernel
theorem dX11_init_77 : decode cX11_init 77 = .ok (.aload_n 0, 1) := by decide +kernel
theorem dX11_init_78 : decode cX11_init 78 = .ok (.new 59, 3) := by decide +kernel
theorem dX11_init_81 : decode cX11_init 81 = .ok (.dup, 1) := by decide +kernel
theorem dX11_init_82 : decode cX11_init 82 = .ok (.invokespecial 61, 3) := by decide +kernel
theorem dX11_init_85 : decode cX11_init 85 = .ok (.putfield 62, 3) := by decide +kernel
theorem dX11_init_88 : decode cX11_init 88 = .ok (.aload_n 0, 1) := by decide +kernel
theorem dX11_init_89 : decode cX11_init 89 = .ok (.bipush 7, 2) := by decide +kernel
theorem dX11_init_91 : decode cX11_init 91 = .ok (.newarray .int, 2) := by decide +kernel
theorem dX11_init_93 : decode cX11_init 93 = .ok (.putfield 66, 3) := by decide +kernel
theorem dX11_init_96 : decode cX11_init 96 = .ok (.aload_n 0, 1) := by decide +kernel
theorem dX11_init_97 : decode cX11_init 97 = .ok (.bipush 7, 2) := by decide +kernel
theorem dX11_init_99 : decode cX11_init 99 = .ok (.newarray .int, 2) := by decide +kernel
theorem dX11_init_101 : decode cX11_init 101 = .ok (.putfield 69, 3) := by decide +kernel
theorem dX11_init_104 : decode cX11_init 104 = .ok (.aload_n 0, 1) := by decide +kernel
theorem dX11_init_105 : decode cX11_init 105 = .ok (.new 72, 3) := by decide +kernel
theorem dX11_init_108 : decode cX11_init 108 = .ok (.dup, 1) := by decide +kernel
theorem dX11_init_109 : decode cX11_init 109 = .ok (.iconst 0, 1) := by decide +kernel
theorem dX11_init_110 : decode cX11_init 110 = .ok (.invokespecial 74, 3) := by decide +kernel
theorem dX11_init_113 : decode cX11_init 113 = .ok (.putfield 77, 3) := by decide +kernel
theorem dX11_init_116 : decode cX11_init 116 = .ok (.aload_n 0, 1) := by decide +kernel
theorem dX11_init_117 : decode cX11_init 117 = .ok (.new 72, 3) := by decide +kernel
theorem dX11_init_120 : decode cX11_init 120 = .ok (.dup, 1) := by decide +kernel
theorem dX11_init_121 : decode cX11_init 121 = .ok (.iconst 1, 1) := by decide +kernel
theorem dX11_init_122 : decode cX11_init 122 = .ok (.invokespecial 74, 3) := by decide +kernel
theorem dX11_init_125 : decode cX11_init 125 = .ok (.putfield 81, 3) := by decide +kernel
theorem dX11_init_128 : decode cX11_init 128 = .ok (.aload_n 0, 1) := by decide +kernel
theorem dX11_init_129 : decode cX11_init 129 = .ok (.iconst (-1), 1) := by decide +kernel
theorem dX11_init_130 : decode cX11_init 130 = .ok (.putfield 84, 3) := by decide +kernel
theorem dX11_init_133 : decode cX11_init 133 = .ok (.aload_n 0, 1) := by decide +kernel
theorem dX11_init_134 : decode cX11_init 134 = .ok (.iconst 0, 1) := by decide +kernel
theorem dX11_init_135 : decode cX11_init 135 = .ok (.putfield 87, 3) := by decide +kernel
theorem dX11_init_138 : decode cX11_init 138 = .ok (.aload_n 0, 1) := by decide +kernel
theorem dX11_init_139 : decode cX11_init 139 = .ok (.bipush 7, 2) := by decide +kernel
theorem dX11_init_141 : decode cX11_init 141 = .ok (.newarray .int, 2) := by decide +kernel
theorem dX11_init_143 : decode cX11_init 143 = .ok (.putfield 90, 3) := by decide +kernel
theorem dX11_init_146 : decode cX11_init 146 = .ok (.aload_n 0, 1) := by decide +kernel
theorem dX11_init_147 : decode cX11_init 147 = .ok (.bipush 10, 2) := by decide +kernel
theorem dX11_init_149 : decode cX11_init 149 = .ok (.newarray .int, 2) := by decide +kernel
theorem dX11_init_151 : decode cX11_init 151 = .ok (.putfield 93, 3) := by decide +kernel
theorem dX11_init_154 : decode cX11_init 154 = .ok (.aload_n 0, 1) := by decide +kernel
theorem dX11_init_155 : decode cX11_init 155 = .ok (.bipush 28, 2) := by decide +kernel
theorem dX11_init_157 : decode cX11_init 157 = .ok (.newarray .int, 2) := by decide +kernel
theorem dX11_init_159 : decode cX11_init 159 = .ok (.putfield 96, 3) := by decide +kernel
theorem dX11_init_162 : decode cX11_init 162 = .ok (.iconst 0, 1) := by decide +kernel
theorem dX11_init_163 : decode cX11_init 163 = .ok (.istore_n 1, 1) := by decide +kernel
theorem dX11_init_164 : decode cX11_init 164 = .ok (.iload_n 1, 1) := by decide +kernel
theorem dX11_init_165 : decode cX11_init 165 = .ok (.iconst 4, 1) := by decide +kernel
theorem dX11_init_166 : decode cX11_init 166 = .ok (.if_icmp .ge 22, 3) := by decide +kernel
theorem dX11_init_169 : decode cX11_init 169 = .ok (.aload_n 0, 1) := by decide +kernel
theorem dX11_init_170 : decode cX11_init 170 = .ok (.getfield 55, 3) := by decide +kernel
theorem dX11_init_173 : decode cX11_init 173 = .ok (.iload_n 1, 1) := by decide +kernel
theorem dX11_init_174 : decode cX11_init 174 = .ok (.new 53, 3) := by decide +kernel
theorem dX11_init_177 : decode cX11_init 177 = .ok (.dup, 1) := by decide +kernel
theorem dX11_init_178 : decode cX11_init 178 = .ok (.invokespecial 99, 3) := by decide +kernel
theorem dX11_init_181 : decode cX11_init 181 = .ok (.aastore, 1) := by decide +kernel
theorem dX11_init_182 : decode cX11_init 182 = .ok (.iinc 1 1, 3) := by decide +kernel
theorem dX11_init_185 : decode cX11_init 185 = .ok (.goto (-21), 3) := by decide +kernel
theorem dX11_init_188 : decode cX11_init 188 = .ok (.iconst 0, 1) := by decide +kernel
theorem dX11_init_189 : decode cX11_init 189 = .ok (.istore_n 1, 1) := by decide +kernel
theorem dX11_init_190 : decode cX11_init 190 = .ok (.iload_n 1, 1) := by decide +kernel
theorem dX11_init_191 : decode cX11_init 191 = .ok (.ldc 100, 2) := by decide +kernel
theorem dX11_init_193 : decode cX11_init 193 = .ok (.invokevirtual 102, 3) := by decide +kernel
theorem dX11_init_196 : decode cX11_init 196 = .ok (.if_icmp .ge 22, 3) := by decide +kernel
theorem dX11_init_199 : decode cX11_init 199 = .ok (.aload_n 0, 1) := by decide +kernel
theorem dX11_init_200 : decode cX11_init 200 = .ok (.getfield 37, 3) := by decide +kernel
theorem dX11_init_203 : decode cX11_init 203 = .ok (.ldc 100, 2) := by decide +kernel
theorem dX11_init_205 : decode cX11_init 205 = .ok (.iload_n 1, 1) := by decide +kernel
theorem dX11_init_206 : decode cX11_init 206 = .ok (.invokevirtual 108, 3) := by decide +kernel
theorem dX11_init_209 : decode cX11_init 209 = .ok (.invokevirtual 112, 3) := by decide +kernel
theorem dX11_init_212 : decode cX11_init 212 = .ok (.iinc 1 1, 3) := by decide +kernel
theorem dX11_init_215 : decode cX11_init 215 = .ok (.goto (-25), 3) := by decide +kernel
theorem dX11_init_218 : decode cX11_init 218 = .ok (.aload_n 0, 1) := by decide +kernel
theorem dX11_init_219 : decode cX11_init 219 = .ok (.getfield 43, 3) := by decide +kernel
theorem dX11_init_222 : decode cX11_init 222 = .ok (.iconst 0, 1) := by decide +kernel
theorem dX11_init_223 : decode cX11_init 223 = .ok (.aload_n 0, 1) := by decide +kernel
theorem dX11_init_224 : decode cX11_init 224 = .ok (.getfield 37, 3) := by decide +kernel
theorem dX11_init_227 : decode cX11_init 227 = .ok (.invokevirtual 115, 3) := by decide +kernel
theorem dX11_init_230 : decode cX11_init 230 = .ok (.aastore, 1) := by decide +kernel
theorem dX11_init_231 : decode cX11_init 231 = .ok (.aload_n 0, 1) := by decide +kernel
theorem dX11_init_232 : decode cX11_init 232 = .ok (.iconst 1, 1) := by decide +kernel
theorem dX11_init_233 : decode cX11_init 233 = .ok (.putfield 47, 3) := by decide +kernel
theorem dX11_init_236 : decode cX11_init 236 = .ok (.aload_n 0, 1) := by decide +kernel
theorem dX11_init_237 : decode cX11_init 237 = .ok (.getfield 37, 3) := by decide +kernel
theorem dX11_init_240 : decode cX11_init 240 = .ok (.invokevirtual 119, 3) := by decide +kernel
theorem dX11_init_243 : decode cX11_init 243 = .ok (.return_, 1) := by decide +kernel
theorem dX11_house_0 : decode cX11_house 0 = .ok (.iload_n 1, 1) := by decide +kernel
theorem dX11_house_1 : decode cX11_house 1 = .ok (.ifCond .lt 16, 3) := by decide +kernel
theorem dX11_house_4 : decode cX11_house 4 = .ok (.iload_n 1, 1) := by decide +kernel
theorem dX11_house_5 : decode cX11_house 5 = .ok (.iconst 5, 1) := by decide +kernel
theorem dX11_house_6 : decode cX11_house 6 = .ok (.if_icmp .gt 11, 3) := by decide +kernel
theorem dX11_house_9 : decode cX11_house 9 = .ok (.iload_n 2, 1) := by decide +kernel
theorem dX11_house_10 : decode cX11_house 10 = .ok (.ifCond .lt 7, 3) := by decide +kernel
theorem dX11_house_13 : decode cX11_house 13 = .ok (.iload_n 3, 1) := by decide +kernel
theorem dX11_house_14 : decode cX11_house 14 = .ok (.ifCond .ge 6, 3) := by decide +kernel
theorem dX11_house_17 : decode cX11_house 17 = .ok (.bipush (-2), 2) := by decide +kernel
theorem dX11_house_19 : decode cX11_house 19 = .ok (.ireturn, 1) := by decide +kernel
theorem dX11_house_20 : decode cX11_house 20 = .ok (.iload_n 2, 1) := by decide +kernel
theorem dX11_house_21 : decode cX11_house 21 = .ok (.bipush 10, 2) := by decide +kernel
theorem dX11_house_23 : decode cX11_house 23 = .ok (.idiv, 1) := by decide +kernel
theorem dX11_house_24 : decode cX11_house 24 = .ok (.istore 4, 2) := by decide +kernel
theorem dX11_house_26 : decode cX11_house 26 = .ok (.iload_n 2, 1) := by decide +kernel
theorem dX11_house_27 : decode cX11_house 27 = .ok (.bipush 10, 2) := by decide +kernel
theorem dX11_house_29 : decode cX11_house 29 = .ok (.irem, 1) := by decide +kernel
theorem dX11_house_30 : decode cX11_house 30 = .ok (.istore 5, 2) := by decide +kernel
theorem dX11_house_32 : decode cX11_house 32 = .ok (.iload_n 3, 1) := by decide +kernel
theorem dX11_house_33 : decode cX11_house 33 = .ok (.bipush 10, 2) := by decide +kernel
theorem dX11_house_35 : decode cX11_house 35 = .ok (.idiv, 1) := by decide +kernel
theorem dX11_house_36 : decode cX11_house 36 = .ok (.istore 6, 2) := by decide +kernel
theorem dX11_house_38 : decode cX11_house 38 = .ok (.iload_n 3, 1) := by decide +kernel
theorem dX11_house_39 : decode cX11_house 39 = .ok (.bipush 10, 2) := by decide +kernel
theorem dX11_house_41 : decode cX11_house 41 = .ok (.irem, 1) := by decide +kernel
theorem dX11_house_42 : decode cX11_house 42 = .ok (.istore 7, 2) := by decide +kernel
theorem dX11_house_44 : decode cX11_house 44 = .ok (.iconst 0, 1) := by decide +kernel
theorem dX11_house_45 : decode cX11_house 45 = .ok (.iload 4, 2) := by decide +kernel
theorem dX11_house_47 : decode cX11_house 47 = .ok (.invokestatic 122, 3) := by decide +kernel
theorem dX11_house_50 : decode cX11_house 50 = .ok (.ifCond .eq 30, 3) := by decide +kernel
theorem dX11_house_53 : decode cX11_house 53 = .ok (.iconst 3, 1) := by decide +kernel
theorem dX11_house_54 : decode cX11_house 54 = .ok (.iload 5, 2) := by decide +kernel
theorem dX11_house_56 : decode cX11_house 56 = .ok (.invokestatic 122, 3) := by decide +kernel
theorem dX11_house_59 : decode cX11_house 59 = .ok (.ifCond .eq 21, 3) := by decide +kernel
theorem dX11_house_62 : decode cX11_house 62 = .ok (.iconst 1, 1) := by decide +kernel
theorem dX11_house_63 : decode cX11_house 63 = .ok (.iload 6, 2) := by decide +kernel
theorem dX11_house_65 : decode cX11_house 65 = .ok (.invokestatic 122, 3) := by decide +kernel
theorem dX11_house_68 : decode cX11_house 68 = .ok (.ifCond .eq 12, 3) := by decide +kernel
theorem dX11_house_71 : decode cX11_house 71 = .ok (.iconst 2, 1) := by decide +kernel
theorem dX11_house_72 : decode cX11_house 72 = .ok (.iload 7, 2) := by decide +kernel
theorem dX11_house_74 : decode cX11_house 74 = .ok (.invokestatic 122, 3) := by decide +kernel
theorem dX11_house_77 : decode cX11_house 77 = .ok (.ifCond .ne 6, 3) := by decide +kernel
theorem dX11_house_80 : decode cX11_house 80 = .ok (.bipush (-2), 2) := by decide +kernel
theorem dX11_house_82 : decode cX11_house 82 = .ok (.ireturn, 1) := by decide +kernel
theorem dX11_house_83 : decode cX11_house 83 = .ok (.aload_n 0, 1) := by decide +kernel
theorem dX11_house_84 : decode cX11_house 84 = .ok (.getfield 15, 3) := by decide +kernel
theorem dX11_house_87 : decode cX11_house 87 = .ok (.bipush 7, 2) := by decide +kernel
theorem dX11_house_89 : decode cX11_house 89 = .ok (.if_icmp .lt 6, 3) := by decide +kernel
theorem dX11_house_92 : decode cX11_house 92 = .ok (.bipush (-4), 2) := by decide +kernel
theorem dX11_house_94 : decode cX11_house 94 = .ok (.ireturn, 1) := by decide +kernel
theorem dX11_house_95 : decode cX11_house 95 = .ok (.aload_n 0, 1) := by decide +kernel
theorem dX11_house_96 : decode cX11_house 96 = .ok (.getfield 15, 3) := by decide +kernel
theorem dX11_house_99 : decode cX11_house 99 = .ok (.istore 8, 2) := by decide +kernel
theorem dX11_house_101 : decode cX11_house 101 = .ok (.iload_n 1, 1) := by decide +kernel
theorem dX11_house_102 : decode cX11_house 102 = .ok (.iload 8, 2) := by decide +kernel
theorem dX11_house_104 : decode cX11_house 104 = .ok (.invokestatic 126, 3) := by decide +kernel
theorem dX11_house_107 : decode cX11_house 107 = .ok (.astore 9, 2) := by decide +kernel
theorem dX11_house_109 : decode cX11_house 109 = .ok (.aload 9, 2) := by decide +kernel
theorem dX11_house_111 : decode cX11_house 111 = .ok (.iconst 0, 1) := by decide +kernel
theorem dX11_house_112 : decode cX11_house 112 = .ok (.iload 4, 2) := by decide +kernel
theorem dX11_house_114 : decode cX11_house 114 = .ok (.invokevirtual 130, 3) := by decide +kernel
theorem dX11_house_117 : decode cX11_house 117 = .ok (.aload 9, 2) := by decide +kernel
theorem dX11_house_119 : decode cX11_house 119 = .ok (.iconst 3, 1) := by decide +kernel
theorem dX11_house_120 : decode cX11_house 120 = .ok (.iload 5, 2) := by decide +kernel
theorem dX11_house_122 : decode cX11_house 122 = .ok (.invokevirtual 130, 3) := by decide +kernel
theorem dX11_house_125 : decode cX11_house 125 = .ok (.aload 9, 2) := by decide +kernel
theorem dX11_house_127 : decode cX11_house 127 = .ok (.iconst 1, 1) := by decide +kernel
theorem dX11_house_128 : decode cX11_house 128 = .ok (.iload 6, 2) := by decide +kernel
theorem dX11_house_130 : decode cX11_house 130 = .ok (.invokevirtual 130, 3) := by decide +kernel
theorem dX11_house_133 : decode cX11_house 133 = .ok (.aload 9, 2) := by decide +kernel
theorem dX11_house_135 : decode cX11_house 135 = .ok (.iconst 2, 1) := by decide +kernel
theorem dX11_house_136 : decode cX11_house 136 = .ok (.iload 7, 2) := by decide +kernel
theorem dX11_house_138 : decode cX11_house 138 = .ok (.invokevirtual 130, 3) := by decide +kernel
theorem dX11_house_141 : decode cX11_house 141 = .ok (.aload_n 0, 1) := by decide +kernel
theorem dX11_house_142 : decode cX11_house 142 = .ok (.getfield 11, 3) := by decide +kernel
theorem dX11_house_145 : decode cX11_house 145 = .ok (.iload 8, 2) := by decide +kernel
theorem dX11_house_147 : decode cX11_house 147 = .ok (.aload 9, 2) := by decide +kernel
theorem dX11_house_149 : decode cX11_house 149 = .ok (.aastore, 1) := by decide +kernel
theorem dX11_house_150 : decode cX11_house 150 = .ok (.aload_n 0, 1) := by decide +kernel
theorem dX11_house_151 : decode cX11_house 151 = .ok (.getfield 19, 3) := by decide +kernel
theorem dX11_house_154 : decode cX11_house 154 = .ok (.iload 8, 2) := by decide +kernel
theorem dX11_house_156 : decode cX11_house 156 = .ok (.iload 8, 2) := by decide +kernel
theorem dX11_house_158 : decode cX11_house 158 = .ok (.iastore, 1) := by decide +kernel
theorem dX11_house_159 : decode cX11_house 159 = .ok (.aload_n 0, 1) := by decide +kernel
theorem dX11_house_160 : decode cX11_house 160 = .ok (.iload 8, 2) := by decide +kernel
theorem dX11_house_162 : decode cX11_house 162 = .ok (.iconst 1, 1) := by decide +kernel
theorem dX11_house_163 : decode cX11_house 163 = .ok (.iadd, 1) := by decide +kernel
theorem dX11_house_164 : decode cX11_house 164 = .ok (.putfield 15, 3) := by decide +kernel
theorem dX11_house_167 : decode cX11_house 167 = .ok (.aload_n 0, 1) := by decide +kernel
theorem dX11_house_168 : decode cX11_house 168 = .ok (.invokevirtual 134, 3) := by decide +kernel
theorem dX11_house_171 : decode cX11_house 171 = .ok (.iload 8, 2) := by decide +kernel
theorem dX11_house_173 : decode cX11_house 173 = .ok (.ireturn, 1) := by decide +kernel
theorem dX11_set_0 : decode cX11_set 0 = .ok (.aload_n 0, 1) := by decide +kernel
theorem dX11_set_1 : decode cX11_set 1 = .ok (.iload_n 1, 1) := by decide +kernel
theorem dX11_set_2 : decode cX11_set 2 = .ok (.invokevirtual 137, 3) := by decide +kernel
theorem dX11_set_5 : decode cX11_set 5 = .ok (.astore 4, 2) := by decide +kernel
theorem dX11_set_7 : decode cX11_set 7 = .ok (.aload 4, 2) := by decide +kernel
theorem dX11_set_9 : decode cX11_set 9 = .ok (.ifnull 11, 3) := by decide +kernel
theorem dX11_set_12 : decode cX11_set 12 = .ok (.iload_n 2, 1) := by decide +kernel
theorem dX11_set_13 : decode cX11_set 13 = .ok (.iload_n 3, 1) := by decide +kernel
theorem dX11_set_14 : decode cX11_set 14 = .ok (.invokestatic 122, 3) := by decide +kernel
theorem dX11_set_17 : decode cX11_set 17 = .ok (.ifCond .ne 6, 3) := by decide +kernel
theorem dX11_set_20 : decode cX11_set 20 = .ok (.bipush (-2), 2) := by decide +kernel
theorem dX11_set_22 : decode cX11_set 22 = .ok (.ireturn, 1) := by decide +kernel
theorem dX11_set_23 : decode cX11_set 23 = .ok (.aload 4, 2) := by decide +kernel
theorem dX11_set_25 : decode cX11_set 25 = .ok (.iload_n 2, 1) := by decide +kernel
theorem dX11_set_26 : decode cX11_set 26 = .ok (.invokevirtual 141, 3) := by decide +kernel
theorem dX11_set_29 : decode cX11_set 29 = .ok (.istore 5, 2) := by decide +kernel
theorem dX11_set_31 : decode cX11_set 31 = .ok (.aload 4, 2) := by decide +kernel
theorem dX11_set_33 : decode cX11_set 33 = .ok (.iload_n 2, 1) := by decide +kernel
theorem dX11_set_34 : decode cX11_set 34 = .ok (.iload_n 3, 1) := by decide +kernel
theorem dX11_set_35 : decode cX11_set 35 = .ok (.invokevirtual 130, 3) := by decide +kernel
theorem dX11_set_38 : decode cX11_set 38 = .ok (.aload_n 0, 1) := by decide +kernel
theorem dX11_set_39 : decode cX11_set 39 = .ok (.invokevirtual 134, 3) := by decide +kernel
theorem dX11_set_42 : decode cX11_set 42 = .ok (.iload 5, 2) := by decide +kernel
theorem dX11_set_44 : decode cX11_set 44 = .ok (.ireturn, 1) := by decide +kernel
theorem dX11_bag_0 : decode cX11_bag 0 = .ok (.iload_n 1, 1) := by decide +kernel
theorem dX11_bag_1 : decode cX11_bag 1 = .ok (.ifCond .lt 27, 3) := by decide +kernel
theorem dX11_bag_4 : decode cX11_bag 4 = .ok (.iload_n 1, 1) := by decide +kernel
theorem dX11_bag_5 : decode cX11_bag 5 = .ok (.bipush 10, 2) := by decide +kernel
theorem dX11_bag_7 : decode cX11_bag 7 = .ok (.if_icmp .ge 21, 3) := by decide +kernel
theorem dX11_bag_10 : decode cX11_bag 10 = .ok (.iload_n 2, 1) := by decide +kernel
theorem dX11_bag_11 : decode cX11_bag 11 = .ok (.getstatic 145, 3) := by decide +kernel
theorem dX11_bag_14 : decode cX11_bag 14 = .ok (.iload_n 1, 1) := by decide +kernel
theorem dX11_bag_15 : decode cX11_bag 15 = .ok (.iaload, 1) := by decide +kernel
theorem dX11_bag_16 : decode cX11_bag 16 = .ok (.if_icmp .lt 12, 3) := by decide +kernel
theorem dX11_bag_19 : decode cX11_bag 19 = .ok (.iload_n 2, 1) := by decide +kernel
theorem dX11_bag_20 : decode cX11_bag 20 = .ok (.getstatic 148, 3) := by decide +kernel
theorem dX11_bag_23 : decode cX11_bag 23 = .ok (.iload_n 1, 1) := by decide +kernel
theorem dX11_bag_24 : decode cX11_bag 24 = .ok (.iaload, 1) := by decide +kernel
theorem dX11_bag_25 : decode cX11_bag 25 = .ok (.if_icmp .le 6, 3) := by decide +kernel
theorem dX11_bag_28 : decode cX11_bag 28 = .ok (.bipush (-2), 2) := by decide +kernel
theorem dX11_bag_30 : decode cX11_bag 30 = .ok (.ireturn, 1) := by decide +kernel
theorem dX11_bag_31 : decode cX11_bag 31 = .ok (.aload_n 0, 1) := by decide +kernel
theorem dX11_bag_32 : decode cX11_bag 32 = .ok (.getfield 31, 3) := by decide +kernel
theorem dX11_bag_35 : decode cX11_bag 35 = .ok (.iload_n 1, 1) := by decide +kernel
theorem dX11_bag_36 : decode cX11_bag 36 = .ok (.iaload, 1) := by decide +kernel
theorem dX11_bag_37 : decode cX11_bag 37 = .ok (.istore_n 3, 1) := by decide +kernel
theorem dX11_bag_38 : decode cX11_bag 38 = .ok (.aload_n 0, 1) := by decide +kernel
theorem dX11_bag_39 : decode cX11_bag 39 = .ok (.getfield 31, 3) := by decide +kernel
theorem dX11_bag_42 : decode cX11_bag 42 = .ok (.iload_n 1, 1) := by decide +kernel
theorem dX11_bag_43 : decode cX11_bag 43 = .ok (.iload_n 2, 1) := by decide +kernel
theorem dX11_bag_44 : decode cX11_bag 44 = .ok (.iastore, 1) := by decide +kernel
theorem dX11_bag_45 : decode cX11_bag 45 = .ok (.aload_n 0, 1) := by decide +kernel
theorem dX11_bag_46 : decode cX11_bag 46 = .ok (.invokevirtual 134, 3) := by decide +kernel
theorem dX11_bag_49 : decode cX11_bag 49 = .ok (.iload_n 3, 1) := by decide +kernel
theorem dX11_bag_50 : decode cX11_bag 50 = .ok (.ireturn, 1) := by decide +kernel
theorem dX11_told_0 : decode cX11_told 0 = .ok (.aload_n 0, 1) := by decide +kernel
theorem dX11_told_1 : decode cX11_told 1 = .ok (.iload_n 1, 1) := by decide +kernel
theorem dX11_told_2 : decode cX11_told 2 = .ok (.invokevirtual 137, 3) := by decide +kernel
theorem dX11_told_5 : decode cX11_told 5 = .ok (.astore_n 3, 1) := by decide +kernel
theorem dX11_told_6 : decode cX11_told 6 = .ok (.aload_n 3, 1) := by decide +kernel
theorem dX11_told_7 : decode cX11_told 7 = .ok (.ifnonnull 6, 3) := by decide +kernel
theorem dX11_told_10 : decode cX11_told 10 = .ok (.bipush (-2), 2) := by decide +kernel
theorem dX11_told_12 : decode cX11_told 12 = .ok (.ireturn, 1) := by decide +kernel
theorem dX11_told_13 : decode cX11_told 13 = .ok (.iload_n 2, 1) := by decide +kernel
theorem dX11_told_14 : decode cX11_told 14 = .ok (.tableswitch 91 0 7 #[46, 46, 46, 46, 52, 57, 63, 85], 46) := by decide +kernel
theorem dX11_told_60 : decode cX11_told 60 = .ok (.aload_n 3, 1) := by decide +kernel
theorem dX11_told_61 : decode cX11_told 61 = .ok (.iload_n 2, 1) := by decide +kernel
theorem dX11_told_62 : decode cX11_told 62 = .ok (.invokevirtual 141, 3) := by decide +kernel
theorem dX11_told_65 : decode cX11_told 65 = .ok (.ireturn, 1) := by decide +kernel
theorem dX11_told_66 : decode cX11_told 66 = .ok (.aload_n 3, 1) := by decide +kernel
theorem dX11_told_67 : decode cX11_told 67 = .ok (.invokevirtual 151, 3) := by decide +kernel
theorem dX11_told_70 : decode cX11_told 70 = .ok (.ireturn, 1) := by decide +kernel
theorem dX11_told_71 : decode cX11_told 71 = .ok (.aload_n 0, 1) := by decide +kernel
theorem dX11_told_72 : decode cX11_told 72 = .ok (.iload_n 1, 1) := by decide +kernel
theorem dX11_told_73 : decode cX11_told 73 = .ok (.invokevirtual 154, 3) := by decide +kernel
theorem dX11_told_76 : decode cX11_told 76 = .ok (.ireturn, 1) := by decide +kernel
theorem dX11_told_77 : decode cX11_told 77 = .ok (.aload_n 3, 1) := by decide +kernel
theorem dX11_told_78 : decode cX11_told 78 = .ok (.aload_n 0, 1) := by decide +kernel
theorem dX11_told_79 : decode cX11_told 79 = .ok (.getfield 31, 3) := by decide +kernel
theorem dX11_told_82 : decode cX11_told 82 = .ok (.aload_n 3, 1) := by decide +kernel
theorem dX11_told_83 : decode cX11_told 83 = .ok (.getfield 157, 3) := by decide +kernel
theorem dX11_told_86 : decode cX11_told 86 = .ok (.invokestatic 160, 3) := by decide +kernel
theorem dX11_told_89 : decode cX11_told 89 = .ok (.aload_n 0, 1) := by decide +kernel
theorem dX11_told_90 : decode cX11_told 90 = .ok (.getfield 31, 3) := by decide +kernel
theorem dX11_told_93 : decode cX11_told 93 = .ok (.iconst 5, 1) := by decide +kernel
theorem dX11_told_94 : decode cX11_told 94 = .ok (.iaload, 1) := by decide +kernel
theorem dX11_told_95 : decode cX11_told 95 = .ok (.invokevirtual 164, 3) := by decide +kernel
theorem dX11_told_98 : decode cX11_told 98 = .ok (.ireturn, 1) := by decide +kernel
theorem dX11_told_99 : decode cX11_told 99 = .ok (.aload_n 0, 1) := by decide +kernel
theorem dX11_told_100 : decode cX11_told 100 = .ok (.aload_n 3, 1) := by decide +kernel
theorem dX11_told_101 : decode cX11_told 101 = .ok (.invokevirtual 168, 3) := by decide +kernel
theorem dX11_told_104 : decode cX11_told 104 = .ok (.ireturn, 1) := by decide +kernel
theorem dX11_told_105 : decode cX11_told 105 = .ok (.bipush (-2), 2) := by decide +kernel
theorem dX11_told_107 : decode cX11_told 107 = .ok (.ireturn, 1) := by decide +kernel
theorem dX11_swap_0 : decode cX11_swap 0 = .ok (.aload_n 0, 1) := by decide +kernel
theorem dX11_swap_1 : decode cX11_swap 1 = .ok (.iload_n 1, 1) := by decide +kernel
theorem dX11_swap_2 : decode cX11_swap 2 = .ok (.invokevirtual 172, 3) := by decide +kernel
theorem dX11_swap_5 : decode cX11_swap 5 = .ok (.ifCond .eq 11, 3) := by decide +kernel
theorem dX11_swap_8 : decode cX11_swap 8 = .ok (.aload_n 0, 1) := by decide +kernel
theorem dX11_swap_9 : decode cX11_swap 9 = .ok (.iload_n 2, 1) := by decide +kernel
theorem dX11_swap_10 : decode cX11_swap 10 = .ok (.invokevirtual 172, 3) := by decide +kernel
theorem dX11_swap_13 : decode cX11_swap 13 = .ok (.ifCond .ne 6, 3) := by decide +kernel
theorem dX11_swap_16 : decode cX11_swap 16 = .ok (.bipush (-2), 2) := by decide +kernel
theorem dX11_swap_18 : decode cX11_swap 18 = .ok (.ireturn, 1) := by decide +kernel
theorem dX11_swap_19 : decode cX11_swap 19 = .ok (.aload_n 0, 1) := by decide +kernel
theorem dX11_swap_20 : decode cX11_swap 20 = .ok (.getfield 19, 3) := by decide +kernel
theorem dX11_swap_23 : decode cX11_swap 23 = .ok (.iload_n 1, 1) := by decide +kernel
theorem dX11_swap_24 : decode cX11_swap 24 = .ok (.iaload, 1) := by decide +kernel
theorem dX11_swap_25 : decode cX11_swap 25 = .ok (.istore_n 3, 1) := by decide +kernel
theorem dX11_swap_26 : decode cX11_swap 26 = .ok (.aload_n 0, 1) := by decide +kernel
theorem dX11_swap_27 : decode cX11_swap 27 = .ok (.getfield 19, 3) := by decide +kernel
theorem dX11_swap_30 : decode cX11_swap 30 = .ok (.iload_n 1, 1) := by decide +kernel
theorem dX11_swap_31 : decode cX11_swap 31 = .ok (.aload_n 0, 1) := by decide +kernel
theorem dX11_swap_32 : decode cX11_swap 32 = .ok (.getfield 19, 3) := by decide +kernel
theorem dX11_swap_35 : decode cX11_swap 35 = .ok (.iload_n 2, 1) := by decide +kernel
theorem dX11_swap_36 : decode cX11_swap 36 = .ok (.iaload, 1) := by decide +kernel
theorem dX11_swap_37 : decode cX11_swap 37 = .ok (.iastore, 1) := by decide +kernel
theorem dX11_swap_38 : decode cX11_swap 38 = .ok (.aload_n 0, 1) := by decide +kernel
theorem dX11_swap_39 : decode cX11_swap 39 = .ok (.getfield 19, 3) := by decide +kernel
theorem dX11_swap_42 : decode cX11_swap 42 = .ok (.iload_n 2, 1) := by decide +kernel
theorem dX11_swap_43 : decode cX11_swap 43 = .ok (.iload_n 3, 1) := by decide +kernel
theorem dX11_swap_44 : decode cX11_swap 44 = .ok (.iastore, 1) := by decide +kernel
theorem dX11_swap_45 : decode cX11_swap 45 = .ok (.aload_n 0, 1) := by decide +kernel
theorem dX11_swap_46 : decode cX11_swap 46 = .ok (.getfield 19, 3) := by decide +kernel
theorem dX11_swap_49 : decode cX11_swap 49 = .ok (.iload_n 1, 1) := by decide +kernel
theorem dX11_swap_50 : decode cX11_swap 50 = .ok (.iaload, 1) := by decide +kernel
theorem dX11_swap_51 : decode cX11_swap 51 = .ok (.ireturn, 1) := by decide +kernel
theorem dX11_feed_0 : decode cX11_feed 0 = .ok (.iload_n 1, 1) := by decide +kernel
theorem dX11_feed_1 : decode cX11_feed 1 = .ok (.ifCond .lt 10, 3) := by decide +kernel
theorem dX11_feed_4 : decode cX11_feed 4 = .ok (.iload_n 1, 1) := by decide +kernel
theorem dX11_feed_5 : decode cX11_feed 5 = .ok (.sipush 255, 3) := by decide +kernel
theorem dX11_feed_8 : decode cX11_feed 8 = .ok (.if_icmp .le 6, 3) := by decide +kernel
theorem dX11_feed_11 : decode cX11_feed 11 = .ok (.bipush (-2), 2) := by decide +kernel
theorem dX11_feed_13 : decode cX11_feed 13 = .ok (.ireturn, 1) := by decide +kernel
theorem dX11_feed_14 : decode cX11_feed 14 = .ok (.aload_n 0, 1) := by decide +kernel
theorem dX11_feed_15 : decode cX11_feed 15 = .ok (.getfield 37, 3) := by decide +kernel
theorem dX11_feed_18 : decode cX11_feed 18 = .ok (.getfield 176, 3) := by decide +kernel
theorem dX11_feed_21 : decode cX11_feed 21 = .ok (.sipush 160, 3) := by decide +kernel
theorem dX11_feed_24 : decode cX11_feed 24 = .ok (.if_icmp .lt 6, 3) := by decide +kernel
theorem dX11_feed_27 : decode cX11_feed 27 = .ok (.bipush (-4), 2) := by decide +kernel
theorem dX11_feed_29 : decode cX11_feed 29 = .ok (.ireturn, 1) := by decide +kernel
theorem dX11_feed_30 : decode cX11_feed 30 = .ok (.aload_n 0, 1) := by decide +kernel
theorem dX11_feed_31 : decode cX11_feed 31 = .ok (.getfield 37, 3) := by decide +kernel
theorem dX11_feed_34 : decode cX11_feed 34 = .ok (.iload_n 1, 1) := by decide +kernel
theorem dX11_feed_35 : decode cX11_feed 35 = .ok (.invokevirtual 112, 3) := by decide +kernel
theorem dX11_feed_38 : decode cX11_feed 38 = .ok (.aload_n 0, 1) := by decide +kernel
theorem dX11_feed_39 : decode cX11_feed 39 = .ok (.getfield 37, 3) := by decide +kernel
theorem dX11_feed_42 : decode cX11_feed 42 = .ok (.getfield 176, 3) := by decide +kernel
theorem dX11_feed_45 : decode cX11_feed 45 = .ok (.ireturn, 1) := by decide +kernel
theorem dX11_text_0 : decode cX11_text 0 = .ok (.aload_n 0, 1) := by decide +kernel
theorem dX11_text_1 : decode cX11_text 1 = .ok (.getfield 47, 3) := by decide +kernel
theorem dX11_text_4 : decode cX11_text 4 = .ok (.bipush 6, 2) := by decide +kernel
theorem dX11_text_6 : decode cX11_text 6 = .ok (.if_icmp .lt 6, 3) := by decide +kernel
theorem dX11_text_9 : decode cX11_text 9 = .ok (.bipush (-4), 2) := by decide +kernel
theorem dX11_text_11 : decode cX11_text 11 = .ok (.ireturn, 1) := by decide +kernel
theorem dX11_text_12 : decode cX11_text 12 = .ok (.aload_n 0, 1) := by decide +kernel
theorem dX11_text_13 : decode cX11_text 13 = .ok (.getfield 37, 3) := by decide +kernel
theorem dX11_text_16 : decode cX11_text 16 = .ok (.invokevirtual 115, 3) := by decide +kernel
theorem dX11_text_19 : decode cX11_text 19 = .ok (.astore_n 1, 1) := by decide +kernel
theorem dX11_text_20 : decode cX11_text 20 = .ok (.aload_n 0, 1) := by decide +kernel
theorem dX11_text_21 : decode cX11_text 21 = .ok (.getfield 37, 3) := by decide +kernel
theorem dX11_text_24 : decode cX11_text 24 = .ok (.invokevirtual 119, 3) := by decide +kernel
theorem dX11_text_27 : decode cX11_text 27 = .ok (.aload_n 1, 1) := by decide +kernel
theorem dX11_text_28 : decode cX11_text 28 = .ok (.ifnonnull 14, 3) := by decide +kernel
theorem dX11_text_31 : decode cX11_text 31 = .ok (.bipush (-100), 2) := by decide +kernel
theorem dX11_text_33 : decode cX11_text 33 = .ok (.aload_n 0, 1) := by decide +kernel
theorem dX11_text_34 : decode cX11_text 34 = .ok (.getfield 37, 3) := by decide +kernel
theorem dX11_text_37 : decode cX11_text 37 = .ok (.getfield 179, 3) := by decide +kernel
theorem dX11_text_40 : decode cX11_text 40 = .ok (.isub, 1) := by decide +kernel
theorem dX11_text_41 : decode cX11_text 41 = .ok (.ireturn, 1) := by decide +kernel
theorem dX11_text_42 : decode cX11_text 42 = .ok (.aload_n 0, 1) := by decide +kernel
theorem dX11_text_43 : decode cX11_text 43 = .ok (.getfield 47, 3) := by decide +kernel
theorem dX11_text_46 : decode cX11_text 46 = .ok (.istore_n 2, 1) := by decide +kernel
theorem dX11_text_47 : decode cX11_text 47 = .ok (.aload_n 0, 1) := by decide +kernel
theorem dX11_text_48 : decode cX11_text 48 = .ok (.getfield 43, 3) := by decide +kernel
theorem dX11_text_51 : decode cX11_text 51 = .ok (.iload_n 2, 1) := by decide +kernel
theorem dX11_text_52 : decode cX11_text 52 = .ok (.aload_n 1, 1) := by decide +kernel
theorem dX11_text_53 : decode cX11_text 53 = .ok (.aastore, 1) := by decide +kernel
theorem dX11_text_54 : decode cX11_text 54 = .ok (.aload_n 0, 1) := by decide +kernel
theorem dX11_text_55 : decode cX11_text 55 = .ok (.iload_n 2, 1) := by decide +kernel
theorem dX11_text_56 : decode cX11_text 56 = .ok (.iconst 1, 1) := by decide +kernel
theorem dX11_text_57 : decode cX11_text 57 = .ok (.iadd, 1) := by decide +kernel
theorem dX11_text_58 : decode cX11_text 58 = .ok (.putfield 47, 3) := by decide +kernel
theorem dX11_text_61 : decode cX11_text 61 = .ok (.iload_n 2, 1) := by decide +kernel
theorem dX11_text_62 : decode cX11_text 62 = .ok (.ireturn, 1) := by decide +kernel
theorem dX11_force_0 : decode cX11_force 0 = .ok (.iload_n 1, 1) := by decide +kernel
theorem dX11_force_1 : decode cX11_force 1 = .ok (.ifCond .lt 11, 3) := by decide +kernel
theorem dX11_force_4 : decode cX11_force 4 = .ok (.iload_n 1, 1) := by decide +kernel
theorem dX11_force_5 : decode cX11_force 5 = .ok (.aload_n 0, 1) := by decide +kernel
theorem dX11_force_6 : decode cX11_force 6 = .ok (.getfield 47, 3) := by decide +kernel
theorem dX11_force_9 : decode cX11_force 9 = .ok (.if_icmp .lt 6, 3) := by decide +kernel
theorem dX11_force_12 : decode cX11_force 12 = .ok (.bipush (-2), 2) := by decide +kernel
theorem dX11_force_14 : decode cX11_force 14 = .ok (.ireturn, 1) := by decide +kernel
theorem dX11_force_15 : decode cX11_force 15 = .ok (.aload_n 0, 1) := by decide +kernel
theorem dX11_force_16 : decode cX11_force 16 = .ok (.getfield 50, 3) := by decide +kernel
theorem dX11_force_19 : decode cX11_force 19 = .ok (.istore_n 2, 1) := by decide +kernel
theorem dX11_force_20 : decode cX11_force 20 = .ok (.aload_n 0, 1) := by decide +kernel
theorem dX11_force_21 : decode cX11_force 21 = .ok (.iload_n 1, 1) := by decide +kernel
theorem dX11_force_22 : decode cX11_force 22 = .ok (.putfield 50, 3) := by decide +kernel
theorem dX11_force_25 : decode cX11_force 25 = .ok (.aload_n 0, 1) := by decide +kernel
theorem dX11_force_26 : decode cX11_force 26 = .ok (.invokevirtual 134, 3) := by decide +kernel
theorem dX11_force_29 : decode cX11_force 29 = .ok (.iload_n 2, 1) := by decide +kernel
theorem dX11_force_30 : decode cX11_force 30 = .ok (.ireturn, 1) := by decide +kernel
theorem dX11_at_0 : decode cX11_at 0 = .ok (.aload_n 0, 1) := by decide +kernel
theorem dX11_at_1 : decode cX11_at 1 = .ok (.iload_n 1, 1) := by decide +kernel
theorem dX11_at_2 : decode cX11_at 2 = .ok (.invokevirtual 137, 3) := by decide +kernel
theorem dX11_at_5 : decode cX11_at 5 = .ok (.astore_n 3, 1) := by decide +kernel
theorem dX11_at_6 : decode cX11_at 6 = .ok (.aload_n 3, 1) := by decide +kernel
theorem dX11_at_7 : decode cX11_at 7 = .ok (.ifnull 12, 3) := by decide +kernel
theorem dX11_at_10 : decode cX11_at 10 = .ok (.iload_n 2, 1) := by decide +kernel
theorem dX11_at_11 : decode cX11_at 11 = .ok (.ifCond .lt 8, 3) := by decide +kernel
theorem dX11_at_14 : decode cX11_at 14 = .ok (.iload_n 2, 1) := by decide +kernel
theorem dX11_at_15 : decode cX11_at 15 = .ok (.iconst 2, 1) := by decide +kernel
theorem dX11_at_16 : decode cX11_at 16 = .ok (.if_icmp .le 6, 3) := by decide +kernel
theorem dX11_at_19 : decode cX11_at 19 = .ok (.bipush (-2), 2) := by decide +kernel
theorem dX11_at_21 : decode cX11_at 21 = .ok (.ireturn, 1) := by decide +kernel
theorem dX11_at_22 : decode cX11_at 22 = .ok (.aload_n 0, 1) := by decide +kernel
theorem dX11_at_23 : decode cX11_at 23 = .ok (.invokevirtual 182, 3) := by decide +kernel
theorem dX11_at_26 : decode cX11_at 26 = .ok (.pop, 1) := by decide +kernel
theorem dX11_at_27 : decode cX11_at 27 = .ok (.iload_n 2, 1) := by decide +kernel
theorem dX11_at_28 : decode cX11_at 28 = .ok (.ifCond .ne 10, 3) := by decide +kernel
theorem dX11_at_31 : decode cX11_at 31 = .ok (.aload_n 0, 1) := by decide +kernel
theorem dX11_at_32 : decode cX11_at 32 = .ok (.getfield 66, 3) := by decide +kernel
theorem dX11_at_35 : decode cX11_at 35 = .ok (.iload_n 1, 1) := by decide +kernel
theorem dX11_at_36 : decode cX11_at 36 = .ok (.iaload, 1) := by decide +kernel
theorem dX11_at_37 : decode cX11_at 37 = .ok (.ireturn, 1) := by decide +kernel
theorem dX11_at_38 : decode cX11_at 38 = .ok (.iload_n 2, 1) := by decide +kernel
theorem dX11_at_39 : decode cX11_at 39 = .ok (.iconst 1, 1) := by decide +kernel
theorem dX11_at_40 : decode cX11_at 40 = .ok (.if_icmp .ne 11, 3) := by decide +kernel
theorem dX11_at_43 : decode cX11_at 43 = .ok (.aload_n 0, 1) := by decide +kernel
theorem dX11_at_44 : decode cX11_at 44 = .ok (.aload_n 3, 1) := by decide +kernel
theorem dX11_at_45 : decode cX11_at 45 = .ok (.invokevirtual 185, 3) := by decide +kernel
theorem dX11_at_48 : decode cX11_at 48 = .ok (.goto 8, 3) := by decide +kernel
theorem dX11_at_51 : decode cX11_at 51 = .ok (.aload_n 0, 1) := by decide +kernel
theorem dX11_at_52 : decode cX11_at 52 = .ok (.aload_n 3, 1) := by decide +kernel
theorem dX11_at_53 : decode cX11_at 53 = .ok (.invokevirtual 188, 3) := by decide +kernel
theorem dX11_at_56 : decode cX11_at 56 = .ok (.ireturn, 1) := by decide +kernel
theorem dX11_round_0 : decode cX11_round 0 = .ok (.aload_n 0, 1) := by decide +kernel
theorem dX11_round_1 : decode cX11_round 1 = .ok (.invokevirtual 182, 3) := by decide +kernel
theorem dX11_round_4 : decode cX11_round 4 = .ok (.istore_n 2, 1) := by decide +kernel
theorem dX11_round_5 : decode cX11_round 5 = .ok (.iload_n 1, 1) := by decide +kernel
theorem dX11_round_6 : decode cX11_round 6 = .ok (.tableswitch 63 0 4 #[34, 36, 44, 49, 54], 34) := by decide +kernel
theorem dX11_round_40 : decode cX11_round 40 = .ok (.iload_n 2, 1) := by decide +kernel
theorem dX11_round_41 : decode cX11_round 41 = .ok (.ireturn, 1) := by decide +kernel
theorem dX11_round_42 : decode cX11_round 42 = .ok (.aload_n 0, 1) := by decide +kernel
theorem dX11_round_43 : decode cX11_round 43 = .ok (.getfield 62, 3) := by decide +kernel
theorem dX11_round_46 : decode cX11_round 46 = .ok (.getfield 191, 3) := by decide +kernel
theorem dX11_round_49 : decode cX11_round 49 = .ok (.ireturn, 1) := by decide +kernel
theorem dX11_round_50 : decode cX11_round 50 = .ok (.aload_n 0, 1) := by decide +kernel
theorem dX11_round_51 : decode cX11_round 51 = .ok (.invokevirtual 194, 3) := by decide +kernel
theorem dX11_round_54 : decode cX11_round 54 = .ok (.ireturn, 1) := by decide +kernel
theorem dX11_round_55 : decode cX11_round 55 = .ok (.aload_n 0, 1) := by decide +kernel
theorem dX11_round_56 : decode cX11_round 56 = .ok (.invokevirtual 197, 3) := by decide +kernel
theorem dX11_round_59 : decode cX11_round 59 = .ok (.ireturn, 1) := by decide +kernel
theorem dX11_round_60 : decode cX11_round 60 = .ok (.aload_n 0, 1) := by decide +kernel
theorem dX11_round_61 : decode cX11_round 61 = .ok (.aload_n 0, 1) := by decide +kernel
theorem dX11_round_62 : decode cX11_round 62 = .ok (.invokevirtual 197, 3) := by decide +kernel
theorem dX11_round_65 : decode cX11_round 65 = .ok (.invokevirtual 200, 3) := by decide +kernel
theorem dX11_round_68 : decode cX11_round 68 = .ok (.ireturn, 1) := by decide +kernel
theorem dX11_round_69 : decode cX11_round 69 = .ok (.bipush (-2), 2) := by decide +kernel
theorem dX11_round_71 : decode cX11_round 71 = .ok (.ireturn, 1) := by decide +kernel
theorem dX11_shifted_0 : decode cX11_shifted 0 = .ok (.iload_n 1, 1) := by decide +kernel
theorem dX11_shifted_1 : decode cX11_shifted 1 = .ok (.ifCond .lt 20, 3) := by decide +kernel
theorem dX11_shifted_4 : decode cX11_shifted 4 = .ok (.iload_n 1, 1) := by decide +kernel
theorem dX11_shifted_5 : decode cX11_shifted 5 = .ok (.aload_n 0, 1) := by decide +kernel
theorem dX11_shifted_6 : decode cX11_shifted 6 = .ok (.getfield 15, 3) := by decide +kernel
theorem dX11_shifted_9 : decode cX11_shifted 9 = .ok (.if_icmp .gt 12, 3) := by decide +kernel
theorem dX11_shifted_12 : decode cX11_shifted 12 = .ok (.iload_n 2, 1) := by decide +kernel
theorem dX11_shifted_13 : decode cX11_shifted 13 = .ok (.ifCond .lt 8, 3) := by decide +kernel
theorem dX11_shifted_16 : decode cX11_shifted 16 = .ok (.iload_n 2, 1) := by decide +kernel
theorem dX11_shifted_17 : decode cX11_shifted 17 = .ok (.iconst 2, 1) := by decide +kernel
theorem dX11_shifted_18 : decode cX11_shifted 18 = .ok (.if_icmp .le 6, 3) := by decide +kernel
theorem dX11_shifted_21 : decode cX11_shifted 21 = .ok (.bipush (-2), 2) := by decide +kernel
theorem dX11_shifted_23 : decode cX11_shifted 23 = .ok (.ireturn, 1) := by decide +kernel
theorem dX11_shifted_24 : decode cX11_shifted 24 = .ok (.aload_n 0, 1) := by decide +kernel
theorem dX11_shifted_25 : decode cX11_shifted 25 = .ok (.iload_n 1, 1) := by decide +kernel
theorem dX11_shifted_26 : decode cX11_shifted 26 = .ok (.invokevirtual 203, 3) := by decide +kernel
theorem dX11_shifted_29 : decode cX11_shifted 29 = .ok (.istore_n 3, 1) := by decide +kernel
theorem dX11_shifted_30 : decode cX11_shifted 30 = .ok (.iload_n 2, 1) := by decide +kernel
theorem dX11_shifted_31 : decode cX11_shifted 31 = .ok (.ifCond .ne 5, 3) := by decide +kernel
theorem dX11_shifted_34 : decode cX11_shifted 34 = .ok (.iload_n 3, 1) := by decide +kernel
theorem dX11_shifted_35 : decode cX11_shifted 35 = .ok (.ireturn, 1) := by decide +kernel
theorem dX11_shifted_36 : decode cX11_shifted 36 = .ok (.aload_n 0, 1) := by decide +kernel
theorem dX11_shifted_37 : decode cX11_shifted 37 = .ok (.invokevirtual 182, 3) := by decide +kernel
theorem dX11_shifted_40 : decode cX11_shifted 40 = .ok (.pop, 1) := by decide +kernel
theorem dX11_shifted_41 : decode cX11_shifted 41 = .ok (.iload_n 3, 1) := by decide +kernel
theorem dX11_shifted_42 : decode cX11_shifted 42 = .ok (.aload_n 0, 1) := by decide +kernel
theorem dX11_shifted_43 : decode cX11_shifted 43 = .ok (.invokevirtual 197, 3) := by decide +kernel
theorem dX11_shifted_46 : decode cX11_shifted 46 = .ok (.ior, 1) := by decide +kernel
theorem dX11_shifted_47 : decode cX11_shifted 47 = .ok (.istore 4, 2) := by decide +kernel
theorem dX11_shifted_49 : decode cX11_shifted 49 = .ok (.iload_n 2, 1) := by decide +kernel
theorem dX11_shifted_50 : decode cX11_shifted 50 = .ok (.iconst 1, 1) := by decide +kernel
theorem dX11_shifted_51 : decode cX11_shifted 51 = .ok (.if_icmp .ne 8, 3) := by decide +kernel
theorem dX11_shifted_54 : decode cX11_shifted 54 = .ok (.iload 4, 2) := by decide +kernel
theorem dX11_shifted_56 : decode cX11_shifted 56 = .ok (.goto 9, 3) := by decide +kernel
theorem dX11_shifted_59 : decode cX11_shifted 59 = .ok (.aload_n 0, 1) := by decide +kernel
theorem dX11_shifted_60 : decode cX11_shifted 60 = .ok (.iload 4, 2) := by decide +kernel
theorem dX11_shifted_62 : decode cX11_shifted 62 = .ok (.invokevirtual 200, 3) := by decide +kernel
theorem dX11_shifted_65 : decode cX11_shifted 65 = .ok (.ireturn, 1) := by decide +kernel
theorem dX11_where_0 : decode cX11_where 0 = .ok (.iload_n 2, 1) := by decide +kernel
theorem dX11_where_1 : decode cX11_where 1 = .ok (.ifCond .lt 8, 3) := by decide +kernel
theorem dX11_where_4 : decode cX11_where 4 = .ok (.iload_n 2, 1) := by decide +kernel
theorem dX11_where_5 : decode cX11_where 5 = .ok (.iconst 1, 1) := by decide +kernel
theorem dX11_where_6 : decode cX11_where 6 = .ok (.if_icmp .le 6, 3) := by decide +kernel
theorem dX11_where_9 : decode cX11_where 9 = .ok (.bipush (-2), 2) := by decide +kernel
theorem dX11_where_11 : decode cX11_where 11 = .ok (.ireturn, 1) := by decide +kernel
theorem dX11_where_12 : decode cX11_where 12 = .ok (.aload_n 0, 1) := by decide +kernel
theorem dX11_where_13 : decode cX11_where 13 = .ok (.iload_n 1, 1) := by decide +kernel
theorem dX11_where_14 : decode cX11_where 14 = .ok (.invokevirtual 206, 3) := by decide +kernel
theorem dX11_where_17 : decode cX11_where 17 = .ok (.istore_n 3, 1) := by decide +kernel
theorem dX11_where_18 : decode cX11_where 18 = .ok (.iload_n 3, 1) := by decide +kernel
theorem dX11_where_19 : decode cX11_where 19 = .ok (.ifCond .eq 5, 3) := by decide +kernel
theorem dX11_where_22 : decode cX11_where 22 = .ok (.iload_n 3, 1) := by decide +kernel
theorem dX11_where_23 : decode cX11_where 23 = .ok (.ireturn, 1) := by decide +kernel
theorem dX11_where_24 : decode cX11_where 24 = .ok (.aload_n 0, 1) := by decide +kernel
theorem dX11_where_25 : decode cX11_where 25 = .ok (.getfield 55, 3) := by decide +kernel
theorem dX11_where_28 : decode cX11_where 28 = .ok (.iload_n 1, 1) := by decide +kernel
theorem dX11_where_29 : decode cX11_where 29 = .ok (.aaload, 1) := by decide +kernel
theorem dX11_where_30 : decode cX11_where 30 = .ok (.astore 4, 2) := by decide +kernel
theorem dX11_where_32 : decode cX11_where 32 = .ok (.aload_n 0, 1) := by decide +kernel
theorem dX11_where_33 : decode cX11_where 33 = .ok (.invokevirtual 182, 3) := by decide +kernel
theorem dX11_where_36 : decode cX11_where 36 = .ok (.pop, 1) := by decide +kernel
theorem dX11_where_37 : decode cX11_where 37 = .ok (.aload_n 0, 1) := by decide +kernel
theorem dX11_where_38 : decode cX11_where 38 = .ok (.invokevirtual 197, 3) := by decide +kernel
theorem dX11_where_41 : decode cX11_where 41 = .ok (.istore 5, 2) := by decide +kernel
theorem dX11_where_43 : decode cX11_where 43 = .ok (.iconst 0, 1) := by decide +kernel
theorem dX11_where_44 : decode cX11_where 44 = .ok (.istore 6, 2) := by decide +kernel
theorem dX11_where_46 : decode cX11_where 46 = .ok (.iconst (-1), 1) := by decide +kernel
theorem dX11_where_47 : decode cX11_where 47 = .ok (.istore 7, 2) := by decide +kernel
theorem dX11_where_49 : decode cX11_where 49 = .ok (.iconst 0, 1) := by decide +kernel
theorem dX11_where_50 : decode cX11_where 50 = .ok (.istore 8, 2) := by decide +kernel
theorem dX11_where_52 : decode cX11_where 52 = .ok (.iload 8, 2) := by decide +kernel
theorem dX11_where_54 : decode cX11_where 54 = .ok (.aload_n 0, 1) := by decide +kernel
theorem dX11_where_55 : decode cX11_where 55 = .ok (.getfield 15, 3) := by decide +kernel
theorem dX11_where_58 : decode cX11_where 58 = .ok (.if_icmp .gt 45, 3) := by decide +kernel
theorem dX11_where_61 : decode cX11_where 61 = .ok (.aload_n 0, 1) := by decide +kernel
theorem dX11_where_62 : decode cX11_where 62 = .ok (.aload 4, 2) := by decide +kernel
theorem dX11_where_64 : decode cX11_where 64 = .ok (.iload 5, 2) := by decide +kernel
theorem dX11_where_66 : decode cX11_where 66 = .ok (.aload_n 0, 1) := by decide +kernel
theorem dX11_where_67 : decode cX11_where 67 = .ok (.iload 8, 2) := by decide +kernel
theorem dX11_where_69 : decode cX11_where 69 = .ok (.invokevirtual 203, 3) := by decide +kernel
theorem dX11_where_72 : decode cX11_where 72 = .ok (.ior, 1) := by decide +kernel
theorem dX11_where_73 : decode cX11_where 73 = .ok (.invokevirtual 209, 3) := by decide +kernel
theorem dX11_where_76 : decode cX11_where 76 = .ok (.ifCond .eq 21, 3) := by decide +kernel
theorem dX11_where_79 : decode cX11_where 79 = .ok (.iinc 6 1, 3) := by decide +kernel
theorem dX11_where_82 : decode cX11_where 82 = .ok (.iload 7, 2) := by decide +kernel
theorem dX11_where_84 : decode cX11_where 84 = .ok (.iconst (-1), 1) := by decide +kernel
theorem dX11_where_85 : decode cX11_where 85 = .ok (.if_icmp .ne 8, 3) := by decide +kernel
theorem dX11_where_88 : decode cX11_where 88 = .ok (.iload 8, 2) := by decide +kernel
theorem dX11_where_90 : decode cX11_where 90 = .ok (.goto 5, 3) := by decide +kernel
theorem dX11_where_93 : decode cX11_where 93 = .ok (.iload 7, 2) := by decide +kernel
theorem dX11_where_95 : decode cX11_where 95 = .ok (.istore 7, 2) := by decide +kernel
theorem dX11_where_97 : decode cX11_where 97 = .ok (.iinc 8 1, 3) := by decide +kernel
theorem dX11_where_100 : decode cX11_where 100 = .ok (.goto (-48), 3) := by decide +kernel
theorem dX11_where_103 : decode cX11_where 103 = .ok (.iload_n 2, 1) := by decide +kernel
theorem dX11_where_104 : decode cX11_where 104 = .ok (.ifCond .ne 8, 3) := by decide +kernel
theorem dX11_where_107 : decode cX11_where 107 = .ok (.iload 6, 2) := by decide +kernel
theorem dX11_where_109 : decode cX11_where 109 = .ok (.goto 5, 3) := by decide +kernel
theorem dX11_where_112 : decode cX11_where 112 = .ok (.iload 7, 2) := by decide +kernel
theorem dX11_where_114 : decode cX11_where 114 = .ok (.ireturn, 1) := by decide +kernel
theorem dX11_best_0 : decode cX11_best 0 = .ok (.iload_n 1, 1) := by decide +kernel
theorem dX11_best_1 : decode cX11_best 1 = .ok (.ifCond .lt 21, 3) := by decide +kernel
theorem dX11_best_4 : decode cX11_best 4 = .ok (.iload_n 1, 1) := by decide +kernel
theorem dX11_best_5 : decode cX11_best 5 = .ok (.iconst 1, 1) := by decide +kernel
theorem dX11_best_6 : decode cX11_best 6 = .ok (.if_icmp .gt 16, 3) := by decide +kernel
theorem dX11_best_9 : decode cX11_best 9 = .ok (.iload_n 2, 1) := by decide +kernel
theorem dX11_best_10 : decode cX11_best 10 = .ok (.iconst (-1), 1) := by decide +kernel
theorem dX11_best_11 : decode cX11_best 11 = .ok (.if_icmp .lt 11, 3) := by decide +kernel
theorem dX11_best_14 : decode cX11_best 14 = .ok (.iload_n 2, 1) := by decide +kernel
theorem dX11_best_15 : decode cX11_best 15 = .ok (.aload_n 0, 1) := by decide +kernel
theorem dX11_best_16 : decode cX11_best 16 = .ok (.getfield 15, 3) := by decide +kernel
theorem dX11_best_19 : decode cX11_best 19 = .ok (.if_icmp .lt 6, 3) := by decide +kernel
theorem dX11_best_22 : decode cX11_best 22 = .ok (.bipush (-2), 2) := by decide +kernel
theorem dX11_best_24 : decode cX11_best 24 = .ok (.ireturn, 1) := by decide +kernel
theorem dX11_best_25 : decode cX11_best 25 = .ok (.aload_n 0, 1) := by decide +kernel
theorem dX11_best_26 : decode cX11_best 26 = .ok (.iload_n 1, 1) := by decide +kernel
theorem dX11_best_27 : decode cX11_best 27 = .ok (.invokevirtual 213, 3) := by decide +kernel
theorem dX11_best_30 : decode cX11_best 30 = .ok (.astore_n 3, 1) := by decide +kernel
theorem dX11_best_31 : decode cX11_best 31 = .ok (.aload_n 3, 1) := by decide +kernel
theorem dX11_best_32 : decode cX11_best 32 = .ok (.aload_n 0, 1) := by decide +kernel
theorem dX11_best_33 : decode cX11_best 33 = .ok (.getfield 11, 3) := by decide +kernel
theorem dX11_best_36 : decode cX11_best 36 = .ok (.aload_n 0, 1) := by decide +kernel
theorem dX11_best_37 : decode cX11_best 37 = .ok (.getfield 15, 3) := by decide +kernel
theorem dX11_best_40 : decode cX11_best 40 = .ok (.aload_n 0, 1) := by decide +kernel
theorem dX11_best_41 : decode cX11_best 41 = .ok (.getfield 31, 3) := by decide +kernel
theorem dX11_best_44 : decode cX11_best 44 = .ok (.aload_n 0, 1) := by decide +kernel
theorem dX11_best_45 : decode cX11_best 45 = .ok (.getfield 43, 3) := by decide +kernel
theorem dX11_best_48 : decode cX11_best 48 = .ok (.aload_n 0, 1) := by decide +kernel
theorem dX11_best_49 : decode cX11_best 49 = .ok (.getfield 50, 3) := by decide +kernel
theorem dX11_best_52 : decode cX11_best 52 = .ok (.aaload, 1) := by decide +kernel
theorem dX11_best_53 : decode cX11_best 53 = .ok (.invokevirtual 217, 3) := by decide +kernel
theorem dX11_best_56 : decode cX11_best 56 = .ok (.iload_n 2, 1) := by decide +kernel
theorem dX11_best_57 : decode cX11_best 57 = .ok (.iconst (-1), 1) := by decide +kernel
theorem dX11_best_58 : decode cX11_best 58 = .ok (.if_icmp .ne 20, 3) := by decide +kernel
theorem dX11_best_61 : decode cX11_best 61 = .ok (.iload_n 1, 1) := by decide +kernel
theorem dX11_best_62 : decode cX11_best 62 = .ok (.ifCond .ne 11, 3) := by decide +kernel
theorem dX11_best_65 : decode cX11_best 65 = .ok (.aload_n 3, 1) := by decide +kernel
theorem dX11_best_66 : decode cX11_best 66 = .ok (.getfield 221, 3) := by decide +kernel
theorem dX11_best_69 : decode cX11_best 69 = .ok (.ineg, 1) := by decide +kernel
theorem dX11_best_70 : decode cX11_best 70 = .ok (.goto 7, 3) := by decide +kernel
theorem dX11_best_73 : decode cX11_best 73 = .ok (.aload_n 3, 1) := by decide +kernel
theorem dX11_best_74 : decode cX11_best 74 = .ok (.getfield 221, 3) := by decide +kernel
theorem dX11_best_77 : decode cX11_best 77 = .ok (.ireturn, 1) := by decide +kernel
theorem dX11_best_78 : decode cX11_best 78 = .ok (.aload_n 3, 1) := by decide +kernel
theorem dX11_best_79 : decode cX11_best 79 = .ok (.getfield 224, 3) := by decide +kernel
theorem dX11_best_82 : decode cX11_best 82 = .ok (.iload_n 2, 1) := by decide +kernel
theorem dX11_best_83 : decode cX11_best 83 = .ok (.iaload, 1) := by decide +kernel
theorem dX11_best_84 : decode cX11_best 84 = .ok (.ireturn, 1) := by decide +kernel
theorem dX11_arrange_0 : decode cX11_arrange 0 = .ok (.iload_n 1, 1) := by decide +kernel
theorem dX11_arrange_1 : decode cX11_arrange 1 = .ok (.ifCond .lt 8, 3) := by decide +kernel
theorem dX11_arrange_4 : decode cX11_arrange 4 = .ok (.iload_n 1, 1) := by decide +kernel
theorem dX11_arrange_5 : decode cX11_arrange 5 = .ok (.iconst 1, 1) := by decide +kernel
theorem dX11_arrange_6 : decode cX11_arrange 6 = .ok (.if_icmp .le 6, 3) := by decide +kernel
theorem dX11_arrange_9 : decode cX11_arrange 9 = .ok (.bipush (-2), 2) := by decide +kernel
theorem dX11_arrange_11 : decode cX11_arrange 11 = .ok (.ireturn, 1) := by decide +kernel
theorem dX11_arrange_12 : decode cX11_arrange 12 = .ok (.aload_n 0, 1) := by decide +kernel
theorem dX11_arrange_13 : decode cX11_arrange 13 = .ok (.iload_n 1, 1) := by decide +kernel
theorem dX11_arrange_14 : decode cX11_arrange 14 = .ok (.invokevirtual 213, 3) := by decide +kernel
theorem dX11_arrange_17 : decode cX11_arrange 17 = .ok (.astore_n 2, 1) := by decide +kernel
theorem dX11_arrange_18 : decode cX11_arrange 18 = .ok (.aload_n 2, 1) := by decide +kernel
theorem dX11_arrange_19 : decode cX11_arrange 19 = .ok (.aload_n 0, 1) := by decide +kernel
theorem dX11_arrange_20 : decode cX11_arrange 20 = .ok (.getfield 11, 3) := by decide +kernel
theorem dX11_arrange_23 : decode cX11_arrange 23 = .ok (.aload_n 0, 1) := by decide +kernel
theorem dX11_arrange_24 : decode cX11_arrange 24 = .ok (.getfield 15, 3) := by decide +kernel
theorem dX11_arrange_27 : decode cX11_arrange 27 = .ok (.aload_n 0, 1) := by decide +kernel
theorem dX11_arrange_28 : decode cX11_arrange 28 = .ok (.getfield 31, 3) := by decide +kernel
theorem dX11_arrange_31 : decode cX11_arrange 31 = .ok (.aload_n 0, 1) := by decide +kernel
theorem dX11_arrange_32 : decode cX11_arrange 32 = .ok (.getfield 43, 3) := by decide +kernel
theorem dX11_arrange_35 : decode cX11_arrange 35 = .ok (.aload_n 0, 1) := by decide +kernel
theorem dX11_arrange_36 : decode cX11_arrange 36 = .ok (.getfield 50, 3) := by decide +kernel
theorem dX11_arrange_39 : decode cX11_arrange 39 = .ok (.aaload, 1) := by decide +kernel
theorem dX11_arrange_40 : decode cX11_arrange 40 = .ok (.invokevirtual 217, 3) := by decide +kernel
theorem dX11_arrange_43 : decode cX11_arrange 43 = .ok (.aload_n 2, 1) := by decide +kernel
theorem dX11_arrange_44 : decode cX11_arrange 44 = .ok (.getfield 224, 3) := by decide +kernel
theorem dX11_arrange_47 : decode cX11_arrange 47 = .ok (.iconst 0, 1) := by decide +kernel
theorem dX11_arrange_48 : decode cX11_arrange 48 = .ok (.aload_n 0, 1) := by decide +kernel
theorem dX11_arrange_49 : decode cX11_arrange 49 = .ok (.getfield 19, 3) := by decide +kernel
theorem dX11_arrange_52 : decode cX11_arrange 52 = .ok (.iconst 0, 1) := by decide +kernel
theorem dX11_arrange_53 : decode cX11_arrange 53 = .ok (.aload_n 0, 1) := by decide +kernel
theorem dX11_arrange_54 : decode cX11_arrange 54 = .ok (.getfield 15, 3) := by decide +kernel
theorem dX11_arrange_57 : decode cX11_arrange 57 = .ok (.invokestatic 227, 3) := by decide +kernel
theorem dX11_arrange_60 : decode cX11_arrange 60 = .ok (.aload_n 0, 1) := by decide +kernel
theorem dX11_arrange_61 : decode cX11_arrange 61 = .ok (.invokevirtual 182, 3) := by decide +kernel
theorem dX11_arrange_64 : decode cX11_arrange 64 = .ok (.ireturn, 1) := by decide +kernel
theorem dX11_ways_0 : decode cX11_ways 0 = .ok (.iload_n 1, 1) := by decide +kernel
theorem dX11_ways_1 : decode cX11_ways 1 = .ok (.ifCond .lt 8, 3) := by decide +kernel
theorem dX11_ways_4 : decode cX11_ways 4 = .ok (.iload_n 1, 1) := by decide +kernel
theorem dX11_ways_5 : decode cX11_ways 5 = .ok (.iconst 1, 1) := by decide +kernel
theorem dX11_ways_6 : decode cX11_ways 6 = .ok (.if_icmp .le 6, 3) := by decide +kernel
theorem dX11_ways_9 : decode cX11_ways 9 = .ok (.bipush (-2), 2) := by decide +kernel
theorem dX11_ways_11 : decode cX11_ways 11 = .ok (.ireturn, 1) := by decide +kernel
theorem dX11_ways_12 : decode cX11_ways 12 = .ok (.iconst 0, 1) := by decide +kernel
theorem dX11_ways_13 : decode cX11_ways 13 = .ok (.istore_n 2, 1) := by decide +kernel
theorem dX11_ways_14 : decode cX11_ways 14 = .ok (.iload_n 2, 1) := by decide +kernel
theorem dX11_ways_15 : decode cX11_ways 15 = .ok (.aload_n 0, 1) := by decide +kernel
theorem dX11_ways_16 : decode cX11_ways 16 = .ok (.getfield 15, 3) := by decide +kernel
theorem dX11_ways_19 : decode cX11_ways 19 = .ok (.if_icmp .ge 72, 3) := by decide +kernel
theorem dX11_ways_22 : decode cX11_ways 22 = .ok (.aload_n 0, 1) := by decide +kernel
theorem dX11_ways_23 : decode cX11_ways 23 = .ok (.iload_n 2, 1) := by decide +kernel
theorem dX11_ways_24 : decode cX11_ways 24 = .ok (.iload_n 1, 1) := by decide +kernel
theorem dX11_ways_25 : decode cX11_ways 25 = .ok (.invokevirtual 233, 3) := by decide +kernel
theorem dX11_ways_28 : decode cX11_ways 28 = .ok (.istore_n 3, 1) := by decide +kernel
theorem dX11_ways_29 : decode cX11_ways 29 = .ok (.iload_n 2, 1) := by decide +kernel
theorem dX11_ways_30 : decode cX11_ways 30 = .ok (.istore 4, 2) := by decide +kernel
theorem dX11_ways_32 : decode cX11_ways 32 = .ok (.iload 4, 2) := by decide +kernel
theorem dX11_ways_34 : decode cX11_ways 34 = .ok (.ifCond .le 43, 3) := by decide +kernel
theorem dX11_ways_37 : decode cX11_ways 37 = .ok (.aload_n 0, 1) := by decide +kernel
theorem dX11_ways_38 : decode cX11_ways 38 = .ok (.aload_n 0, 1) := by decide +kernel
theorem dX11_ways_39 : decode cX11_ways 39 = .ok (.getfield 69, 3) := by decide +kernel
theorem dX11_ways_42 : decode cX11_ways 42 = .ok (.iload 4, 2) := by decide +kernel
theorem dX11_ways_44 : decode cX11_ways 44 = .ok (.iconst 1, 1) := by decide +kernel
theorem dX11_ways_45 : decode cX11_ways 45 = .ok (.isub, 1) := by decide +kernel
theorem dX11_ways_46 : decode cX11_ways 46 = .ok (.iaload, 1) := by decide +kernel
theorem dX11_ways_47 : decode cX11_ways 47 = .ok (.iload_n 1, 1) := by decide +kernel
theorem dX11_ways_48 : decode cX11_ways 48 = .ok (.invokevirtual 233, 3) := by decide +kernel
theorem dX11_ways_51 : decode cX11_ways 51 = .ok (.iload_n 3, 1) := by decide +kernel
theorem dX11_ways_52 : decode cX11_ways 52 = .ok (.if_icmp .le 25, 3) := by decide +kernel
theorem dX11_ways_55 : decode cX11_ways 55 = .ok (.aload_n 0, 1) := by decide +kernel
theorem dX11_ways_56 : decode cX11_ways 56 = .ok (.getfield 69, 3) := by decide +kernel
theorem dX11_ways_59 : decode cX11_ways 59 = .ok (.iload 4, 2) := by decide +kernel
theorem dX11_ways_61 : decode cX11_ways 61 = .ok (.aload_n 0, 1) := by decide +kernel
theorem dX11_ways_62 : decode cX11_ways 62 = .ok (.getfield 69, 3) := by decide +kernel
theorem dX11_ways_65 : decode cX11_ways 65 = .ok (.iload 4, 2) := by decide +kernel
theorem dX11_ways_67 : decode cX11_ways 67 = .ok (.iconst 1, 1) := by decide +kernel
theorem dX11_ways_68 : decode cX11_ways 68 = .ok (.isub, 1) := by decide +kernel
theorem dX11_ways_69 : decode cX11_ways 69 = .ok (.iaload, 1) := by decide +kernel
theorem dX11_ways_70 : decode cX11_ways 70 = .ok (.iastore, 1) := by decide +kernel
theorem dX11_ways_71 : decode cX11_ways 71 = .ok (.iinc 4 (-1), 3) := by decide +kernel
theorem dX11_ways_74 : decode cX11_ways 74 = .ok (.goto (-42), 3) := by decide +kernel
theorem dX11_ways_77 : decode cX11_ways 77 = .ok (.aload_n 0, 1) := by decide +kernel
theorem dX11_ways_78 : decode cX11_ways 78 = .ok (.getfield 69, 3) := by decide +kernel
theorem dX11_ways_81 : decode cX11_ways 81 = .ok (.iload 4, 2) := by decide +kernel
theorem dX11_ways_83 : decode cX11_ways 83 = .ok (.iload_n 2, 1) := by decide +kernel
theorem dX11_ways_84 : decode cX11_ways 84 = .ok (.iastore, 1) := by decide +kernel
theorem dX11_ways_85 : decode cX11_ways 85 = .ok (.iinc 2 1, 3) := by decide +kernel
theorem dX11_ways_88 : decode cX11_ways 88 = .ok (.goto (-74), 3) := by decide +kernel
theorem dX11_ways_91 : decode cX11_ways 91 = .ok (.aload_n 0, 1) := by decide +kernel
theorem dX11_ways_92 : decode cX11_ways 92 = .ok (.aload_n 0, 1) := by decide +kernel
theorem dX11_ways_93 : decode cX11_ways 93 = .ok (.getfield 69, 3) := by decide +kernel
theorem dX11_ways_96 : decode cX11_ways 96 = .ok (.iconst 0, 1) := by decide +kernel
theorem dX11_ways_97 : decode cX11_ways 97 = .ok (.aload_n 0, 1) := by decide +kernel
theorem dX11_ways_98 : decode cX11_ways 98 = .ok (.getfield 15, 3) := by decide +kernel
theorem dX11_ways_101 : decode cX11_ways 101 = .ok (.invokevirtual 236, 3) := by decide +kernel
theorem dX11_ways_104 : decode cX11_ways 104 = .ok (.ireturn, 1) := by decide +kernel
theorem dX11_begin_0 : decode cX11_begin 0 = .ok (.aload_n 0, 1) := by decide +kernel
theorem dX11_begin_1 : decode cX11_begin 1 = .ok (.invokevirtual 182, 3) := by decide +kernel
theorem dX11_begin_4 : decode cX11_begin 4 = .ok (.pop, 1) := by decide +kernel
theorem dX11_begin_5 : decode cX11_begin 5 = .ok (.sipush 999, 3) := by decide +kernel
theorem dX11_begin_8 : decode cX11_begin 8 = .ok (.istore_n 1, 1) := by decide +kernel
theorem dX11_begin_9 : decode cX11_begin 9 = .ok (.iconst 0, 1) := by decide +kernel
theorem dX11_begin_10 : decode cX11_begin 10 = .ok (.istore_n 2, 1) := by decide +kernel
theorem dX11_begin_11 : decode cX11_begin 11 = .ok (.iload_n 2, 1) := by decide +kernel
theorem dX11_begin_12 : decode cX11_begin 12 = .ok (.aload_n 0, 1) := by decide +kernel
theorem dX11_begin_13 : decode cX11_begin 13 = .ok (.getfield 15, 3) := by decide +kernel
theorem dX11_begin_16 : decode cX11_begin 16 = .ok (.if_icmp .ge 40, 3) := by decide +kernel
theorem dX11_begin_19 : decode cX11_begin 19 = .ok (.aload_n 0, 1) := by decide +kernel
theorem dX11_begin_20 : decode cX11_begin 20 = .ok (.getfield 66, 3) := by decide +kernel
theorem dX11_begin_23 : decode cX11_begin 23 = .ok (.iload_n 2, 1) := by decide +kernel
theorem dX11_begin_24 : decode cX11_begin 24 = .ok (.iaload, 1) := by decide +kernel
theorem dX11_begin_25 : decode cX11_begin 25 = .ok (.aload_n 0, 1) := by decide +kernel
theorem dX11_begin_26 : decode cX11_begin 26 = .ok (.getfield 31, 3) := by decide +kernel
theorem dX11_begin_29 : decode cX11_begin 29 = .ok (.iconst 2, 1) := by decide +kernel
theorem dX11_begin_30 : decode cX11_begin 30 = .ok (.iaload, 1) := by decide +kernel
theorem dX11_begin_31 : decode cX11_begin 31 = .ok (.isub, 1) := by decide +kernel
theorem dX11_begin_32 : decode cX11_begin 32 = .ok (.istore_n 3, 1) := by decide +kernel
theorem dX11_begin_33 : decode cX11_begin 33 = .ok (.iload_n 1, 1) := by decide +kernel
theorem dX11_begin_34 : decode cX11_begin 34 = .ok (.aload_n 0, 1) := by decide +kernel
theorem dX11_begin_35 : decode cX11_begin 35 = .ok (.aload_n 0, 1) := by decide +kernel
theorem dX11_begin_36 : decode cX11_begin 36 = .ok (.getfield 11, 3) := by decide +kernel
theorem dX11_begin_39 : decode cX11_begin 39 = .ok (.iload_n 2, 1) := by decide +kernel
theorem dX11_begin_40 : decode cX11_begin 40 = .ok (.aaload, 1) := by decide +kernel
theorem dX11_begin_41 : decode cX11_begin 41 = .ok (.invokevirtual 168, 3) := by decide +kernel
theorem dX11_begin_44 : decode cX11_begin 44 = .ok (.iload_n 3, 1) := by decide +kernel
theorem dX11_begin_45 : decode cX11_begin 45 = .ok (.isub, 1) := by decide +kernel
theorem dX11_begin_46 : decode cX11_begin 46 = .ok (.invokestatic 240, 3) := by decide +kernel
theorem dX11_begin_49 : decode cX11_begin 49 = .ok (.istore_n 1, 1) := by decide +kernel
theorem dX11_begin_50 : decode cX11_begin 50 = .ok (.iinc 2 1, 3) := by decide +kernel
theorem dX11_begin_53 : decode cX11_begin 53 = .ok (.goto (-42), 3) := by decide +kernel
theorem dX11_begin_56 : decode cX11_begin 56 = .ok (.iload_n 1, 1) := by decide +kernel
theorem dX11_begin_57 : decode cX11_begin 57 = .ok (.ifCond .ge 7, 3) := by decide +kernel
theorem dX11_begin_60 : decode cX11_begin 60 = .ok (.iconst (-1), 1) := by decide +kernel
theorem dX11_begin_61 : decode cX11_begin 61 = .ok (.goto 4, 3) := by decide +kernel
theorem dX11_begin_64 : decode cX11_begin 64 = .ok (.iload_n 1, 1) := by decide +kernel
theorem dX11_begin_65 : decode cX11_begin 65 = .ok (.ireturn, 1) := by decide +kernel
theorem dX11_heap_0 : decode cX11_heap 0 = .ok (.iload_n 1, 1) := by decide +kernel
theorem dX11_heap_1 : decode cX11_heap 1 = .ok (.ifCond .lt 8, 3) := by decide +kernel
theorem dX11_heap_4 : decode cX11_heap 4 = .ok (.iload_n 1, 1) := by decide +kernel
theorem dX11_heap_5 : decode cX11_heap 5 = .ok (.iconst 1, 1) := by decide +kernel
theorem dX11_heap_6 : decode cX11_heap 6 = .ok (.if_icmp .le 6, 3) := by decide +kernel
theorem dX11_heap_9 : decode cX11_heap 9 = .ok (.bipush (-2), 2) := by decide +kernel
theorem dX11_heap_11 : decode cX11_heap 11 = .ok (.ireturn, 1) := by decide +kernel
theorem dX11_heap_12 : decode cX11_heap 12 = .ok (.aload_n 0, 1) := by decide +kernel
theorem dX11_heap_13 : decode cX11_heap 13 = .ok (.getfield 31, 3) := by decide +kernel
theorem dX11_heap_16 : decode cX11_heap 16 = .ok (.iconst 1, 1) := by decide +kernel
theorem dX11_heap_17 : decode cX11_heap 17 = .ok (.iaload, 1) := by decide +kernel
theorem dX11_heap_18 : decode cX11_heap 18 = .ok (.istore_n 2, 1) := by decide +kernel
theorem dX11_heap_19 : decode cX11_heap 19 = .ok (.iconst 0, 1) := by decide +kernel
theorem dX11_heap_20 : decode cX11_heap 20 = .ok (.istore_n 3, 1) := by decide +kernel
theorem dX11_heap_21 : decode cX11_heap 21 = .ok (.ldc 245, 2) := by decide +kernel
theorem dX11_heap_23 : decode cX11_heap 23 = .ok (.istore 4, 2) := by decide +kernel
theorem dX11_heap_25 : decode cX11_heap 25 = .ok (.iconst 0, 1) := by decide +kernel
theorem dX11_heap_26 : decode cX11_heap 26 = .ok (.istore 5, 2) := by decide +kernel
theorem dX11_heap_28 : decode cX11_heap 28 = .ok (.iload 5, 2) := by decide +kernel
theorem dX11_heap_30 : decode cX11_heap 30 = .ok (.bipush 99, 2) := by decide +kernel
theorem dX11_heap_32 : decode cX11_heap 32 = .ok (.if_icmp .gt 37, 3) := by decide +kernel
theorem dX11_heap_35 : decode cX11_heap 35 = .ok (.aload_n 0, 1) := by decide +kernel
theorem dX11_heap_36 : decode cX11_heap 36 = .ok (.getfield 31, 3) := by decide +kernel
theorem dX11_heap_39 : decode cX11_heap 39 = .ok (.iconst 1, 1) := by decide +kernel
theorem dX11_heap_40 : decode cX11_heap 40 = .ok (.iload 5, 2) := by decide +kernel
theorem dX11_heap_42 : decode cX11_heap 42 = .ok (.iastore, 1) := by decide +kernel
theorem dX11_heap_43 : decode cX11_heap 43 = .ok (.aload_n 0, 1) := by decide +kernel
theorem dX11_heap_44 : decode cX11_heap 44 = .ok (.invokevirtual 182, 3) := by decide +kernel
theorem dX11_heap_47 : decode cX11_heap 47 = .ok (.istore 6, 2) := by decide +kernel
theorem dX11_heap_49 : decode cX11_heap 49 = .ok (.iload 6, 2) := by decide +kernel
theorem dX11_heap_51 : decode cX11_heap 51 = .ok (.iload 4, 2) := by decide +kernel
theorem dX11_heap_53 : decode cX11_heap 53 = .ok (.if_icmp .ge 10, 3) := by decide +kernel
theorem dX11_heap_56 : decode cX11_heap 56 = .ok (.iload 6, 2) := by decide +kernel
theorem dX11_heap_58 : decode cX11_heap 58 = .ok (.istore 4, 2) := by decide +kernel
theorem dX11_heap_60 : decode cX11_heap 60 = .ok (.iload 5, 2) := by decide +kernel
theorem dX11_heap_62 : decode cX11_heap 62 = .ok (.istore_n 3, 1) := by decide +kernel
theorem dX11_heap_63 : decode cX11_heap 63 = .ok (.iinc 5 1, 3) := by decide +kernel
theorem dX11_heap_66 : decode cX11_heap 66 = .ok (.goto (-38), 3) := by decide +kernel
theorem dX11_heap_69 : decode cX11_heap 69 = .ok (.aload_n 0, 1) := by decide +kernel
theorem dX11_heap_70 : decode cX11_heap 70 = .ok (.getfield 31, 3) := by decide +kernel
theorem dX11_heap_73 : decode cX11_heap 73 = .ok (.iconst 1, 1) := by decide +kernel
theorem dX11_heap_74 : decode cX11_heap 74 = .ok (.iload_n 2, 1) := by decide +kernel
theorem dX11_heap_75 : decode cX11_heap 75 = .ok (.iastore, 1) := by decide +kernel
theorem dX11_heap_76 : decode cX11_heap 76 = .ok (.iload_n 1, 1) := by decide +kernel
theorem dX11_heap_77 : decode cX11_heap 77 = .ok (.ifCond .ne 7, 3) := by decide +kernel
theorem dX11_heap_80 : decode cX11_heap 80 = .ok (.iload_n 3, 1) := by decide +kernel
theorem dX11_heap_81 : decode cX11_heap 81 = .ok (.goto 5, 3) := by decide +kernel
theorem dX11_heap_84 : decode cX11_heap 84 = .ok (.iload 4, 2) := by decide +kernel
theorem dX11_heap_86 : decode cX11_heap 86 = .ok (.ireturn, 1) := by decide +kernel
theorem dX11_split_0 : decode cX11_split 0 = .ok (.iload_n 1, 1) := by decide +kernel
theorem dX11_split_1 : decode cX11_split 1 = .ok (.ifCond .lt 8, 3) := by decide +kernel
theorem dX11_split_4 : decode cX11_split 4 = .ok (.iload_n 1, 1) := by decide +kernel
theorem dX11_split_5 : decode cX11_split 5 = .ok (.iconst 1, 1) := by decide +kernel
theorem dX11_split_6 : decode cX11_split 6 = .ok (.if_icmp .le 6, 3) := by decide +kernel
theorem dX11_split_9 : decode cX11_split 9 = .ok (.bipush (-2), 2) := by decide +kernel
theorem dX11_split_11 : decode cX11_split 11 = .ok (.ireturn, 1) := by decide +kernel
theorem dX11_split_12 : decode cX11_split 12 = .ok (.iconst 0, 1) := by decide +kernel
theorem dX11_split_13 : decode cX11_split 13 = .ok (.istore_n 2, 1) := by decide +kernel
theorem dX11_split_14 : decode cX11_split 14 = .ok (.ldc 245, 2) := by decide +kernel
theorem dX11_split_16 : decode cX11_split 16 = .ok (.istore_n 3, 1) := by decide +kernel
theorem dX11_split_17 : decode cX11_split 17 = .ok (.iconst 0, 1) := by decide +kernel
theorem dX11_split_18 : decode cX11_split 18 = .ok (.istore 4, 2) := by decide +kernel
theorem dX11_split_20 : decode cX11_split 20 = .ok (.iload 4, 2) := by decide +kernel
theorem dX11_split_22 : decode cX11_split 22 = .ok (.aload_n 0, 1) := by decide +kernel
theorem dX11_split_23 : decode cX11_split 23 = .ok (.getfield 15, 3) := by decide +kernel
theorem dX11_split_26 : decode cX11_split 26 = .ok (.if_icmp .gt 51, 3) := by decide +kernel
theorem dX11_split_29 : decode cX11_split 29 = .ok (.aload_n 0, 1) := by decide +kernel
theorem dX11_split_30 : decode cX11_split 30 = .ok (.aload_n 0, 1) := by decide +kernel
theorem dX11_split_31 : decode cX11_split 31 = .ok (.getfield 19, 3) := by decide +kernel
theorem dX11_split_34 : decode cX11_split 34 = .ok (.iconst 0, 1) := by decide +kernel
theorem dX11_split_35 : decode cX11_split 35 = .ok (.iload 4, 2) := by decide +kernel
theorem dX11_split_37 : decode cX11_split 37 = .ok (.invokevirtual 236, 3) := by decide +kernel
theorem dX11_split_40 : decode cX11_split 40 = .ok (.aload_n 0, 1) := by decide +kernel
theorem dX11_split_41 : decode cX11_split 41 = .ok (.aload_n 0, 1) := by decide +kernel
theorem dX11_split_42 : decode cX11_split 42 = .ok (.getfield 19, 3) := by decide +kernel
theorem dX11_split_45 : decode cX11_split 45 = .ok (.iload 4, 2) := by decide +kernel
theorem dX11_split_47 : decode cX11_split 47 = .ok (.aload_n 0, 1) := by decide +kernel
theorem dX11_split_48 : decode cX11_split 48 = .ok (.getfield 15, 3) := by decide +kernel
theorem dX11_split_51 : decode cX11_split 51 = .ok (.invokevirtual 236, 3) := by decide +kernel
theorem dX11_split_54 : decode cX11_split 54 = .ok (.invokestatic 246, 3) := by decide +kernel
theorem dX11_split_57 : decode cX11_split 57 = .ok (.istore 5, 2) := by decide +kernel
theorem dX11_split_59 : decode cX11_split 59 = .ok (.iload 5, 2) := by decide +kernel
theorem dX11_split_61 : decode cX11_split 61 = .ok (.iload_n 3, 1) := by decide +kernel
theorem dX11_split_62 : decode cX11_split 62 = .ok (.if_icmp .ge 9, 3) := by decide +kernel
theorem dX11_split_65 : decode cX11_split 65 = .ok (.iload 5, 2) := by decide +kernel
theorem dX11_split_67 : decode cX11_split 67 = .ok (.istore_n 3, 1) := by decide +kernel
theorem dX11_split_68 : decode cX11_split 68 = .ok (.iload 4, 2) := by decide +kernel
theorem dX11_split_70 : decode cX11_split 70 = .ok (.istore_n 2, 1) := by decide +kernel
theorem dX11_split_71 : decode cX11_split 71 = .ok (.iinc 4 1, 3) := by decide +kernel
theorem dX11_split_74 : decode cX11_split 74 = .ok (.goto (-54), 3) := by decide +kernel
theorem dX11_split_77 : decode cX11_split 77 = .ok (.iload_n 1, 1) := by decide +kernel
theorem dX11_split_78 : decode cX11_split 78 = .ok (.ifCond .ne 7, 3) := by decide +kernel
theorem dX11_split_81 : decode cX11_split 81 = .ok (.iload_n 2, 1) := by decide +kernel
theorem dX11_split_82 : decode cX11_split 82 = .ok (.goto 4, 3) := by decide +kernel
theorem dX11_split_85 : decode cX11_split 85 = .ok (.iload_n 3, 1) := by decide +kernel
theorem dX11_split_86 : decode cX11_split 86 = .ok (.ireturn, 1) := by decide +kernel
theorem dX11_drop_0 : decode cX11_drop 0 = .ok (.aload_n 0, 1) := by decide +kernel
theorem dX11_drop_1 : decode cX11_drop 1 = .ok (.iload_n 1, 1) := by decide +kernel
theorem dX11_drop_2 : decode cX11_drop 2 = .ok (.invokevirtual 172, 3) := by decide +kernel
theorem dX11_drop_5 : decode cX11_drop 5 = .ok (.ifCond .eq 13, 3) := by decide +kernel
theorem dX11_drop_8 : decode cX11_drop 8 = .ok (.aload_n 0, 1) := by decide +kernel
theorem dX11_drop_9 : decode cX11_drop 9 = .ok (.iconst 1, 1) := by decide +kernel
theorem dX11_drop_10 : decode cX11_drop 10 = .ok (.iload_n 1, 1) := by decide +kernel
theorem dX11_drop_11 : decode cX11_drop 11 = .ok (.ishl, 1) := by decide +kernel
theorem dX11_drop_12 : decode cX11_drop 12 = .ok (.invokevirtual 249, 3) := by decide +kernel
theorem dX11_drop_15 : decode cX11_drop 15 = .ok (.goto 5, 3) := by decide +kernel
theorem dX11_drop_18 : decode cX11_drop 18 = .ok (.bipush (-2), 2) := by decide +kernel
theorem dX11_drop_20 : decode cX11_drop 20 = .ok (.ireturn, 1) := by decide +kernel
theorem dX11_away_0 : decode cX11_away 0 = .ok (.iload_n 1, 1) := by decide +kernel
theorem dX11_away_1 : decode cX11_away 1 = .ok (.ifCond .lt 22, 3) := by decide +kernel
theorem dX11_away_4 : decode cX11_away 4 = .ok (.iload_n 1, 1) := by decide +kernel
theorem dX11_away_5 : decode cX11_away 5 = .ok (.iconst 1, 1) := by decide +kernel
theorem dX11_away_6 : decode cX11_away 6 = .ok (.aload_n 0, 1) := by decide +kernel
theorem dX11_away_7 : decode cX11_away 7 = .ok (.getfield 15, 3) := by decide +kernel
theorem dX11_away_10 : decode cX11_away 10 = .ok (.ishl, 1) := by decide +kernel
theorem dX11_away_11 : decode cX11_away 11 = .ok (.if_icmp .ge 12, 3) := by decide +kernel
theorem dX11_away_14 : decode cX11_away 14 = .ok (.iload_n 2, 1) := by decide +kernel
theorem dX11_away_15 : decode cX11_away 15 = .ok (.ifCond .lt 8, 3) := by decide +kernel
theorem dX11_away_18 : decode cX11_away 18 = .ok (.iload_n 2, 1) := by decide +kernel
theorem dX11_away_19 : decode cX11_away 19 = .ok (.iconst 1, 1) := by decide +kernel
theorem dX11_away_20 : decode cX11_away 20 = .ok (.if_icmp .le 6, 3) := by decide +kernel
theorem dX11_away_23 : decode cX11_away 23 = .ok (.bipush (-2), 2) := by decide +kernel
theorem dX11_away_25 : decode cX11_away 25 = .ok (.ireturn, 1) := by decide +kernel
theorem dX11_away_26 : decode cX11_away 26 = .ok (.iload_n 2, 1) := by decide +kernel
theorem dX11_away_27 : decode cX11_away 27 = .ok (.ifCond .ne 11, 3) := by decide +kernel
theorem dX11_away_30 : decode cX11_away 30 = .ok (.aload_n 0, 1) := by decide +kernel
theorem dX11_away_31 : decode cX11_away 31 = .ok (.iload_n 1, 1) := by decide +kernel
theorem dX11_away_32 : decode cX11_away 32 = .ok (.invokevirtual 249, 3) := by decide +kernel
theorem dX11_away_35 : decode cX11_away 35 = .ok (.goto 8, 3) := by decide +kernel
theorem dX11_away_38 : decode cX11_away 38 = .ok (.aload_n 0, 1) := by decide +kernel
theorem dX11_away_39 : decode cX11_away 39 = .ok (.iload_n 1, 1) := by decide +kernel
theorem dX11_away_40 : decode cX11_away 40 = .ok (.invokevirtual 252, 3) := by decide +kernel
theorem dX11_away_43 : decode cX11_away 43 = .ok (.ireturn, 1) := by decide +kernel
theorem dX11_judge_0 : decode cX11_judge 0 = .ok (.aload_n 0, 1) := by decide +kernel
theorem dX11_judge_1 : decode cX11_judge 1 = .ok (.iload_n 1, 1) := by decide +kernel
theorem dX11_judge_2 : decode cX11_judge 2 = .ok (.invokevirtual 206, 3) := by decide +kernel
theorem dX11_judge_5 : decode cX11_judge 5 = .ok (.istore_n 2, 1) := by decide +kernel
theorem dX11_judge_6 : decode cX11_judge 6 = .ok (.iload_n 2, 1) := by decide +kernel
theorem dX11_judge_7 : decode cX11_judge 7 = .ok (.ifCond .eq 5, 3) := by decide +kernel
theorem dX11_judge_10 : decode cX11_judge 10 = .ok (.iload_n 2, 1) := by decide +kernel
theorem dX11_judge_11 : decode cX11_judge 11 = .ok (.ireturn, 1) := by decide +kernel
theorem dX11_judge_12 : decode cX11_judge 12 = .ok (.aload_n 0, 1) := by decide +kernel
theorem dX11_judge_13 : decode cX11_judge 13 = .ok (.getfield 55, 3) := by decide +kernel
theorem dX11_judge_16 : decode cX11_judge 16 = .ok (.iload_n 1, 1) := by decide +kernel
theorem dX11_judge_17 : decode cX11_judge 17 = .ok (.aaload, 1) := by decide +kernel
theorem dX11_judge_18 : decode cX11_judge 18 = .ok (.astore_n 3, 1) := by decide +kernel
theorem dX11_judge_19 : decode cX11_judge 19 = .ok (.aload_n 0, 1) := by decide +kernel
theorem dX11_judge_20 : decode cX11_judge 20 = .ok (.invokevirtual 182, 3) := by decide +kernel
theorem dX11_judge_23 : decode cX11_judge 23 = .ok (.pop, 1) := by decide +kernel
theorem dX11_judge_24 : decode cX11_judge 24 = .ok (.iconst 0, 1) := by decide +kernel
theorem dX11_judge_25 : decode cX11_judge 25 = .ok (.istore 4, 2) := by decide +kernel
theorem dX11_judge_27 : decode cX11_judge 27 = .ok (.iload 4, 2) := by decide +kernel
theorem dX11_judge_29 : decode cX11_judge 29 = .ok (.aload_n 0, 1) := by decide +kernel
theorem dX11_judge_30 : decode cX11_judge 30 = .ok (.getfield 15, 3) := by decide +kernel
theorem dX11_judge_33 : decode cX11_judge 33 = .ok (.if_icmp .ge 33, 3) := by decide +kernel
theorem dX11_judge_36 : decode cX11_judge 36 = .ok (.aload_n 3, 1) := by decide +kernel
theorem dX11_judge_37 : decode cX11_judge 37 = .ok (.iload 4, 2) := by decide +kernel
theorem dX11_judge_39 : decode cX11_judge 39 = .ok (.invokevirtual 255, 3) := by decide +kernel
theorem dX11_judge_42 : decode cX11_judge 42 = .ok (.aload_n 0, 1) := by decide +kernel
theorem dX11_judge_43 : decode cX11_judge 43 = .ok (.getfield 66, 3) := by decide +kernel
theorem dX11_judge_46 : decode cX11_judge 46 = .ok (.aload_n 0, 1) := by decide +kernel
theorem dX11_judge_47 : decode cX11_judge 47 = .ok (.getfield 19, 3) := by decide +kernel
theorem dX11_judge_50 : decode cX11_judge 50 = .ok (.iload 4, 2) := by decide +kernel
theorem dX11_judge_52 : decode cX11_judge 52 = .ok (.iaload, 1) := by decide +kernel
theorem dX11_judge_53 : decode cX11_judge 53 = .ok (.iaload, 1) := by decide +kernel
theorem dX11_judge_54 : decode cX11_judge 54 = .ok (.if_icmp .eq 6, 3) := by decide +kernel
theorem dX11_judge_57 : decode cX11_judge 57 = .ok (.iload 4, 2) := by decide +kernel
theorem dX11_judge_59 : decode cX11_judge 59 = .ok (.ireturn, 1) := by decide +kernel
theorem dX11_judge_60 : decode cX11_judge 60 = .ok (.iinc 4 1, 3) := by decide +kernel
theorem dX11_judge_63 : decode cX11_judge 63 = .ok (.goto (-36), 3) := by decide +kernel
theorem dX11_judge_66 : decode cX11_judge 66 = .ok (.iconst (-1), 1) := by decide +kernel
theorem dX11_judge_67 : decode cX11_judge 67 = .ok (.ireturn, 1) := by decide +kernel
theorem dX11_thrownBy_0 : decode cX11_thrownBy 0 = .ok (.iload_n 2, 1) := by decide +kernel
theorem dX11_thrownBy_1 : decode cX11_thrownBy 1 = .ok (.ifCond .lt 9, 3) := by decide +kernel
theorem dX11_thrownBy_4 : decode cX11_thrownBy 4 = .ok (.iload_n 2, 1) := by decide +kernel
theorem dX11_thrownBy_5 : decode cX11_thrownBy 5 = .ok (.bipush 10, 2) := by decide +kernel
theorem dX11_thrownBy_7 : decode cX11_thrownBy 7 = .ok (.if_icmp .le 8, 3) := by decide +kernel
theorem dX11_thrownBy_10 : decode cX11_thrownBy 10 = .ok (.bipush (-2), 2) := by decide +kernel
theorem dX11_thrownBy_12 : decode cX11_thrownBy 12 = .ok (.goto 9, 3) := by decide +kernel
theorem dX11_thrownBy_15 : decode cX11_thrownBy 15 = .ok (.aload_n 0, 1) := by decide +kernel
theorem dX11_thrownBy_16 : decode cX11_thrownBy 16 = .ok (.iload_n 1, 1) := by decide +kernel
theorem dX11_thrownBy_17 : decode cX11_thrownBy 17 = .ok (.iload_n 2, 1) := by decide +kernel
theorem dX11_thrownBy_18 : decode cX11_thrownBy 18 = .ok (.invokevirtual 258, 3) := by decide +kernel
theorem dX11_thrownBy_21 : decode cX11_thrownBy 21 = .ok (.ireturn, 1) := by decide +kernel
theorem dX11_chance_0 : decode cX11_chance 0 = .ok (.iload_n 2, 1) := by decide +kernel
theorem dX11_chance_1 : decode cX11_chance 1 = .ok (.iconst 1, 1) := by decide +kernel
theorem dX11_chance_2 : decode cX11_chance 2 = .ok (.if_icmp .lt 30, 3) := by decide +kernel
theorem dX11_chance_5 : decode cX11_chance 5 = .ok (.iload_n 2, 1) := by decide +kernel
theorem dX11_chance_6 : decode cX11_chance 6 = .ok (.bipush 20, 2) := by decide +kernel
theorem dX11_chance_8 : decode cX11_chance 8 = .ok (.if_icmp .gt 24, 3) := by decide +kernel
theorem dX11_chance_11 : decode cX11_chance 11 = .ok (.iload_n 3, 1) := by decide +kernel
theorem dX11_chance_12 : decode cX11_chance 12 = .ok (.ifCond .lt 20, 3) := by decide +kernel
theorem dX11_chance_15 : decode cX11_chance 15 = .ok (.iload_n 3, 1) := by decide +kernel
theorem dX11_chance_16 : decode cX11_chance 16 = .ok (.bipush 10, 2) := by decide +kernel
theorem dX11_chance_18 : decode cX11_chance 18 = .ok (.if_icmp .gt 14, 3) := by decide +kernel
theorem dX11_chance_21 : decode cX11_chance 21 = .ok (.iload 4, 2) := by decide +kernel
theorem dX11_chance_23 : decode cX11_chance 23 = .ok (.ifCond .lt 9, 3) := by decide +kernel
theorem dX11_chance_26 : decode cX11_chance 26 = .ok (.iload 4, 2) := by decide +kernel
theorem dX11_chance_28 : decode cX11_chance 28 = .ok (.iconst 1, 1) := by decide +kernel
theorem dX11_chance_29 : decode cX11_chance 29 = .ok (.if_icmp .le 7, 3) := by decide +kernel
theorem dX11_chance_32 : decode cX11_chance 32 = .ok (.ldc2_w 261, 3) := by decide +kernel
theorem dX11_chance_35 : decode cX11_chance 35 = .ok (.lreturn, 1) := by decide +kernel
theorem dX11_chance_36 : decode cX11_chance 36 = .ok (.iconst 0, 1) := by decide +kernel
theorem dX11_chance_37 : decode cX11_chance 37 = .ok (.istore 5, 2) := by decide +kernel
theorem dX11_chance_39 : decode cX11_chance 39 = .ok (.iconst 0, 1) := by decide +kernel
theorem dX11_chance_40 : decode cX11_chance 40 = .ok (.istore 6, 2) := by decide +kernel
theorem dX11_chance_42 : decode cX11_chance 42 = .ok (.iload 6, 2) := by decide +kernel
theorem dX11_chance_44 : decode cX11_chance 44 = .ok (.iload_n 2, 1) := by decide +kernel
theorem dX11_chance_45 : decode cX11_chance 45 = .ok (.if_icmp .ge 28, 3) := by decide +kernel
theorem dX11_chance_48 : decode cX11_chance 48 = .ok (.aload_n 0, 1) := by decide +kernel
theorem dX11_chance_49 : decode cX11_chance 49 = .ok (.iload_n 1, 1) := by decide +kernel
theorem dX11_chance_50 : decode cX11_chance 50 = .ok (.iload 6, 2) := by decide +kernel
theorem dX11_chance_52 : decode cX11_chance 52 = .ok (.iadd, 1) := by decide +kernel
theorem dX11_chance_53 : decode cX11_chance 53 = .ok (.iload_n 3, 1) := by decide +kernel
theorem dX11_chance_54 : decode cX11_chance 54 = .ok (.invokevirtual 258, 3) := by decide +kernel
theorem dX11_chance_57 : decode cX11_chance 57 = .ok (.aload_n 0, 1) := by decide +kernel
theorem dX11_chance_58 : decode cX11_chance 58 = .ok (.getfield 15, 3) := by decide +kernel
theorem dX11_chance_61 : decode cX11_chance 61 = .ok (.if_icmp .ne 6, 3) := by decide +kernel
theorem dX11_chance_64 : decode cX11_chance 64 = .ok (.iinc 5 1, 3) := by decide +kernel
theorem dX11_chance_67 : decode cX11_chance 67 = .ok (.iinc 6 1, 3) := by decide +kernel
theorem dX11_chance_70 : decode cX11_chance 70 = .ok (.goto (-28), 3) := by decide +kernel
theorem dX11_chance_73 : decode cX11_chance 73 = .ok (.iload 4, 2) := by decide +kernel
theorem dX11_chance_75 : decode cX11_chance 75 = .ok (.ifCond .ne 8, 3) := by decide +kernel
theorem dX11_chance_78 : decode cX11_chance 78 = .ok (.iload 5, 2) := by decide +kernel
theorem dX11_chance_80 : decode cX11_chance 80 = .ok (.goto 4, 3) := by decide +kernel
theorem dX11_chance_83 : decode cX11_chance 83 = .ok (.iload_n 2, 1) := by decide +kernel
theorem dX11_chance_84 : decode cX11_chance 84 = .ok (.iload 5, 2) := by decide +kernel
theorem dX11_chance_86 : decode cX11_chance 86 = .ok (.iload_n 2, 1) := by decide +kernel
theorem dX11_chance_87 : decode cX11_chance 87 = .ok (.invokestatic 263, 3) := by decide +kernel
theorem dX11_chance_90 : decode cX11_chance 90 = .ok (.idiv, 1) := by decide +kernel
theorem dX11_chance_91 : decode cX11_chance 91 = .ok (.i2l, 1) := by decide +kernel
theorem dX11_chance_92 : decode cX11_chance 92 = .ok (.lreturn, 1) := by decide +kernel
theorem dX11_image_0 : decode cX11_image 0 = .ok (.aload_n 0, 1) := by decide +kernel
theorem dX11_image_1 : decode cX11_image 1 = .ok (.aload_n 0, 1) := by decide +kernel
theorem dX11_image_2 : decode cX11_image 2 = .ok (.getfield 15, 3) := by decide +kernel
theorem dX11_image_5 : decode cX11_image 5 = .ok (.putfield 84, 3) := by decide +kernel
theorem dX11_image_8 : decode cX11_image 8 = .ok (.aload_n 0, 1) := by decide +kernel
theorem dX11_image_9 : decode cX11_image 9 = .ok (.aload_n 0, 1) := by decide +kernel
theorem dX11_image_10 : decode cX11_image 10 = .ok (.getfield 50, 3) := by decide +kernel
theorem dX11_image_13 : decode cX11_image 13 = .ok (.putfield 87, 3) := by decide +kernel
theorem dX11_image_16 : decode cX11_image 16 = .ok (.aload_n 0, 1) := by decide +kernel
theorem dX11_image_17 : decode cX11_image 17 = .ok (.getfield 19, 3) := by decide +kernel
theorem dX11_image_20 : decode cX11_image 20 = .ok (.iconst 0, 1) := by decide +kernel
theorem dX11_image_21 : decode cX11_image 21 = .ok (.aload_n 0, 1) := by decide +kernel
theorem dX11_image_22 : decode cX11_image 22 = .ok (.getfield 90, 3) := by decide +kernel
theorem dX11_image_25 : decode cX11_image 25 = .ok (.iconst 0, 1) := by decide +kernel
theorem dX11_image_26 : decode cX11_image 26 = .ok (.bipush 7, 2) := by decide +kernel
theorem dX11_image_28 : decode cX11_image 28 = .ok (.invokestatic 227, 3) := by decide +kernel
theorem dX11_image_31 : decode cX11_image 31 = .ok (.aload_n 0, 1) := by decide +kernel
theorem dX11_image_32 : decode cX11_image 32 = .ok (.getfield 31, 3) := by decide +kernel
theorem dX11_image_35 : decode cX11_image 35 = .ok (.iconst 0, 1) := by decide +kernel
theorem dX11_image_36 : decode cX11_image 36 = .ok (.aload_n 0, 1) := by decide +kernel
theorem dX11_image_37 : decode cX11_image 37 = .ok (.getfield 93, 3) := by decide +kernel
theorem dX11_image_40 : decode cX11_image 40 = .ok (.iconst 0, 1) := by decide +kernel
theorem dX11_image_41 : decode cX11_image 41 = .ok (.bipush 10, 2) := by decide +kernel
theorem dX11_image_43 : decode cX11_image 43 = .ok (.invokestatic 227, 3) := by decide +kernel
theorem dX11_image_46 : decode cX11_image 46 = .ok (.iconst 0, 1) := by decide +kernel
theorem dX11_image_47 : decode cX11_image 47 = .ok (.istore_n 1, 1) := by decide +kernel
theorem dX11_image_48 : decode cX11_image 48 = .ok (.iload_n 1, 1) := by decide +kernel
theorem dX11_image_49 : decode cX11_image 49 = .ok (.aload_n 0, 1) := by decide +kernel
theorem dX11_image_50 : decode cX11_image 50 = .ok (.getfield 15, 3) := by decide +kernel
theorem dX11_image_53 : decode cX11_image 53 = .ok (.if_icmp .ge 42, 3) := by decide +kernel
theorem dX11_image_56 : decode cX11_image 56 = .ok (.iconst 0, 1) := by decide +kernel
theorem dX11_image_57 : decode cX11_image 57 = .ok (.istore_n 2, 1) := by decide +kernel
theorem dX11_image_58 : decode cX11_image 58 = .ok (.iload_n 2, 1) := by decide +kernel
theorem dX11_image_59 : decode cX11_image 59 = .ok (.iconst 4, 1) := by decide +kernel
theorem dX11_image_60 : decode cX11_image 60 = .ok (.if_icmp .ge 29, 3) := by decide +kernel
theorem dX11_image_63 : decode cX11_image 63 = .ok (.aload_n 0, 1) := by decide +kernel
theorem dX11_image_64 : decode cX11_image 64 = .ok (.getfield 96, 3) := by decide +kernel
theorem dX11_image_67 : decode cX11_image 67 = .ok (.iload_n 1, 1) := by decide +kernel
theorem dX11_image_68 : decode cX11_image 68 = .ok (.iconst 4, 1) := by decide +kernel
theorem dX11_image_69 : decode cX11_image 69 = .ok (.imul, 1) := by decide +kernel
theorem dX11_image_70 : decode cX11_image 70 = .ok (.iload_n 2, 1) := by decide +kernel
theorem dX11_image_71 : decode cX11_image 71 = .ok (.iadd, 1) := by decide +kernel
theorem dX11_image_72 : decode cX11_image 72 = .ok (.aload_n 0, 1) := by decide +kernel
theorem dX11_image_73 : decode cX11_image 73 = .ok (.getfield 11, 3) := by decide +kernel
theorem dX11_image_76 : decode cX11_image 76 = .ok (.iload_n 1, 1) := by decide +kernel
theorem dX11_image_77 : decode cX11_image 77 = .ok (.aaload, 1) := by decide +kernel
theorem dX11_image_78 : decode cX11_image 78 = .ok (.iload_n 2, 1) := by decide +kernel
theorem dX11_image_79 : decode cX11_image 79 = .ok (.invokevirtual 141, 3) := by decide +kernel
theorem dX11_image_82 : decode cX11_image 82 = .ok (.iastore, 1) := by decide +kernel
theorem dX11_image_83 : decode cX11_image 83 = .ok (.iinc 2 1, 3) := by decide +kernel
theorem dX11_image_86 : decode cX11_image 86 = .ok (.goto (-28), 3) := by decide +kernel
theorem dX11_image_89 : decode cX11_image 89 = .ok (.iinc 1 1, 3) := by decide +kernel
theorem dX11_image_92 : decode cX11_image 92 = .ok (.goto (-44), 3) := by decide +kernel
theorem dX11_image_95 : decode cX11_image 95 = .ok (.aload_n 0, 1) := by decide +kernel
theorem dX11_image_96 : decode cX11_image 96 = .ok (.getfield 15, 3) := by decide +kernel
theorem dX11_image_99 : decode cX11_image 99 = .ok (.ireturn, 1) := by decide +kernel
theorem dX11_back_0 : decode cX11_back 0 = .ok (.aload_n 0, 1) := by decide +kernel
theorem dX11_back_1 : decode cX11_back 1 = .ok (.getfield 84, 3) := by decide +kernel
theorem dX11_back_4 : decode cX11_back 4 = .ok (.iconst (-1), 1) := by decide +kernel
theorem dX11_back_5 : decode cX11_back 5 = .ok (.if_icmp .ne 6, 3) := by decide +kernel
theorem dX11_back_8 : decode cX11_back 8 = .ok (.bipush (-3), 2) := by decide +kernel
theorem dX11_back_10 : decode cX11_back 10 = .ok (.ireturn, 1) := by decide +kernel
theorem dX11_back_11 : decode cX11_back 11 = .ok (.aload_n 0, 1) := by decide +kernel
theorem dX11_back_12 : decode cX11_back 12 = .ok (.aload_n 0, 1) := by decide +kernel
theorem dX11_back_13 : decode cX11_back 13 = .ok (.getfield 84, 3) := by decide +kernel
theorem dX11_back_16 : decode cX11_back 16 = .ok (.putfield 15, 3) := by decide +kernel
theorem dX11_back_19 : decode cX11_back 19 = .ok (.aload_n 0, 1) := by decide +kernel
theorem dX11_back_20 : decode cX11_back 20 = .ok (.aload_n 0, 1) := by decide +kernel
theorem dX11_back_21 : decode cX11_back 21 = .ok (.getfield 87, 3) := by decide +kernel
theorem dX11_back_24 : decode cX11_back 24 = .ok (.putfield 50, 3) := by decide +kernel
theorem dX11_back_27 : decode cX11_back 27 = .ok (.aload_n 0, 1) := by decide +kernel
theorem dX11_back_28 : decode cX11_back 28 = .ok (.getfield 90, 3) := by decide +kernel
theorem dX11_back_31 : decode cX11_back 31 = .ok (.iconst 0, 1) := by decide +kernel
theorem dX11_back_32 : decode cX11_back 32 = .ok (.aload_n 0, 1) := by decide +kernel
theorem dX11_back_33 : decode cX11_back 33 = .ok (.getfield 19, 3) := by decide +kernel
theorem dX11_back_36 : decode cX11_back 36 = .ok (.iconst 0, 1) := by decide +kernel
theorem dX11_back_37 : decode cX11_back 37 = .ok (.bipush 7, 2) := by decide +kernel
theorem dX11_back_39 : decode cX11_back 39 = .ok (.invokestatic 227, 3) := by decide +kernel
theorem dX11_back_42 : decode cX11_back 42 = .ok (.aload_n 0, 1) := by decide +kernel
theorem dX11_back_43 : decode cX11_back 43 = .ok (.getfield 93, 3) := by decide +kernel
theorem dX11_back_46 : decode cX11_back 46 = .ok (.iconst 0, 1) := by decide +kernel
theorem dX11_back_47 : decode cX11_back 47 = .ok (.aload_n 0, 1) := by decide +kernel
theorem dX11_back_48 : decode cX11_back 48 = .ok (.getfield 31, 3) := by decide +kernel
theorem dX11_back_51 : decode cX11_back 51 = .ok (.iconst 0, 1) := by decide +kernel
theorem dX11_back_52 : decode cX11_back 52 = .ok (.bipush 10, 2) := by decide +kernel
theorem dX11_back_54 : decode cX11_back 54 = .ok (.invokestatic 227, 3) := by decide +kernel
theorem dX11_back_57 : decode cX11_back 57 = .ok (.iconst 0, 1) := by decide +kernel
theorem dX11_back_58 : decode cX11_back 58 = .ok (.istore_n 1, 1) := by decide +kernel
theorem dX11_back_59 : decode cX11_back 59 = .ok (.iload_n 1, 1) := by decide +kernel
theorem dX11_back_60 : decode cX11_back 60 = .ok (.aload_n 0, 1) := by decide +kernel
theorem dX11_back_61 : decode cX11_back 61 = .ok (.getfield 15, 3) := by decide +kernel
theorem dX11_back_64 : decode cX11_back 64 = .ok (.if_icmp .ge 42, 3) := by decide +kernel
theorem dX11_back_67 : decode cX11_back 67 = .ok (.iconst 0, 1) := by decide +kernel
theorem dX11_back_68 : decode cX11_back 68 = .ok (.istore_n 2, 1) := by decide +kernel
theorem dX11_back_69 : decode cX11_back 69 = .ok (.iload_n 2, 1) := by decide +kernel
theorem dX11_back_70 : decode cX11_back 70 = .ok (.iconst 4, 1) := by decide +kernel
theorem dX11_back_71 : decode cX11_back 71 = .ok (.if_icmp .ge 29, 3) := by decide +kernel
theorem dX11_back_74 : decode cX11_back 74 = .ok (.aload_n 0, 1) := by decide +kernel
theorem dX11_back_75 : decode cX11_back 75 = .ok (.getfield 11, 3) := by decide +kernel
theorem dX11_back_78 : decode cX11_back 78 = .ok (.iload_n 1, 1) := by decide +kernel
theorem dX11_back_79 : decode cX11_back 79 = .ok (.aaload, 1) := by decide +kernel
theorem dX11_back_80 : decode cX11_back 80 = .ok (.iload_n 2, 1) := by decide +kernel
theorem dX11_back_81 : decode cX11_back 81 = .ok (.aload_n 0, 1) := by decide +kernel
theorem dX11_back_82 : decode cX11_back 82 = .ok (.getfield 96, 3) := by decide +kernel
theorem dX11_back_85 : decode cX11_back 85 = .ok (.iload_n 1, 1) := by decide +kernel
theorem dX11_back_86 : decode cX11_back 86 = .ok (.iconst 4, 1) := by decide +kernel
theorem dX11_back_87 : decode cX11_back 87 = .ok (.imul, 1) := by decide +kernel
theorem dX11_back_88 : decode cX11_back 88 = .ok (.iload_n 2, 1) := by decide +kernel
theorem dX11_back_89 : decode cX11_back 89 = .ok (.iadd, 1) := by decide +kernel
theorem dX11_back_90 : decode cX11_back 90 = .ok (.iaload, 1) := by decide +kernel
theorem dX11_back_91 : decode cX11_back 91 = .ok (.invokevirtual 130, 3) := by decide +kernel
theorem dX11_back_94 : decode cX11_back 94 = .ok (.iinc 2 1, 3) := by decide +kernel
theorem dX11_back_97 : decode cX11_back 97 = .ok (.goto (-28), 3) := by decide +kernel
theorem dX11_back_100 : decode cX11_back 100 = .ok (.iinc 1 1, 3) := by decide +kernel
theorem dX11_back_103 : decode cX11_back 103 = .ok (.goto (-44), 3) := by decide +kernel
theorem dX11_back_106 : decode cX11_back 106 = .ok (.aload_n 0, 1) := by decide +kernel
theorem dX11_back_107 : decode cX11_back 107 = .ok (.invokevirtual 134, 3) := by decide +kernel
theorem dX11_back_110 : decode cX11_back 110 = .ok (.aload_n 0, 1) := by decide +kernel
theorem dX11_back_111 : decode cX11_back 111 = .ok (.getfield 15, 3) := by decide +kernel
theorem dX11_back_114 : decode cX11_back 114 = .ok (.ireturn, 1) := by decide +kernel
theorem dX11_count_0 : decode cX11_count 0 = .ok (.iload_n 1, 1) := by decide +kernel
theorem dX11_count_1 : decode cX11_count 1 = .ok (.tableswitch 54 0 3 #[31, 36, 41, 49], 31) := by decide +kernel
theorem dX11_count_32 : decode cX11_count 32 = .ok (.aload_n 0, 1) := by decide +kernel
theorem dX11_count_33 : decode cX11_count 33 = .ok (.getfield 15, 3) := by decide +kernel
theorem dX11_count_36 : decode cX11_count 36 = .ok (.ireturn, 1) := by decide +kernel
theorem dX11_count_37 : decode cX11_count 37 = .ok (.aload_n 0, 1) := by decide +kernel
theorem dX11_count_38 : decode cX11_count 38 = .ok (.getfield 47, 3) := by decide +kernel
theorem dX11_count_41 : decode cX11_count 41 = .ok (.ireturn, 1) := by decide +kernel
theorem dX11_count_42 : decode cX11_count 42 = .ok (.aload_n 0, 1) := by decide +kernel
theorem dX11_count_43 : decode cX11_count 43 = .ok (.getfield 37, 3) := by decide +kernel
theorem dX11_count_46 : decode cX11_count 46 = .ok (.getfield 176, 3) := by decide +kernel
theorem dX11_count_49 : decode cX11_count 49 = .ok (.ireturn, 1) := by decide +kernel
theorem dX11_count_50 : decode cX11_count 50 = .ok (.aload_n 0, 1) := by decide +kernel
theorem dX11_count_51 : decode cX11_count 51 = .ok (.getfield 50, 3) := by decide +kernel
theorem dX11_count_54 : decode cX11_count 54 = .ok (.ireturn, 1) := by decide +kernel
theorem dX11_count_55 : decode cX11_count 55 = .ok (.iload_n 1, 1) := by decide +kernel
theorem dX11_count_56 : decode cX11_count 56 = .ok (.iconst 4, 1) := by decide +kernel
theorem dX11_count_57 : decode cX11_count 57 = .ok (.if_icmp .lt 20, 3) := by decide +kernel
theorem dX11_count_60 : decode cX11_count 60 = .ok (.iload_n 1, 1) := by decide +kernel
theorem dX11_count_61 : decode cX11_count 61 = .ok (.bipush 14, 2) := by decide +kernel
theorem dX11_count_63 : decode cX11_count 63 = .ok (.if_icmp .ge 14, 3) := by decide +kernel
theorem dX11_count_66 : decode cX11_count 66 = .ok (.aload_n 0, 1) := by decide +kernel
theorem dX11_count_67 : decode cX11_count 67 = .ok (.getfield 31, 3) := by decide +kernel
theorem dX11_count_70 : decode cX11_count 70 = .ok (.iload_n 1, 1) := by decide +kernel
theorem dX11_count_71 : decode cX11_count 71 = .ok (.iconst 4, 1) := by decide +kernel
theorem dX11_count_72 : decode cX11_count 72 = .ok (.isub, 1) := by decide +kernel
theorem dX11_count_73 : decode cX11_count 73 = .ok (.iaload, 1) := by decide +kernel
theorem dX11_count_74 : decode cX11_count 74 = .ok (.goto 5, 3) := by decide +kernel
theorem dX11_count_77 : decode cX11_count 77 = .ok (.bipush (-2), 2) := by decide +kernel
theorem dX11_count_79 : decode cX11_count 79 = .ok (.ireturn, 1) := by decide +kernel
theorem dX11_sheet_0 : decode cX11_sheet 0 = .ok (.iload_n 1, 1) := by decide +kernel
theorem dX11_sheet_1 : decode cX11_sheet 1 = .ok (.invokestatic 266, 3) := by decide +kernel
theorem dX11_sheet_4 : decode cX11_sheet 4 = .ok (.ifCond .eq 13, 3) := by decide +kernel
theorem dX11_sheet_7 : decode cX11_sheet 7 = .ok (.iload_n 2, 1) := by decide +kernel
theorem dX11_sheet_8 : decode cX11_sheet 8 = .ok (.iconst (-1), 1) := by decide +kernel
theorem dX11_sheet_9 : decode cX11_sheet 9 = .ok (.if_icmp .lt 8, 3) := by decide +kernel
theorem dX11_sheet_12 : decode cX11_sheet 12 = .ok (.iload_n 2, 1) := by decide +kernel
theorem dX11_sheet_13 : decode cX11_sheet 13 = .ok (.iconst 2, 1) := by decide +kernel
theorem dX11_sheet_14 : decode cX11_sheet 14 = .ok (.if_icmp .le 6, 3) := by decide +kernel
theorem dX11_sheet_17 : decode cX11_sheet 17 = .ok (.bipush (-2), 2) := by decide +kernel
theorem dX11_sheet_19 : decode cX11_sheet 19 = .ok (.ireturn, 1) := by decide +kernel
theorem dX11_sheet_20 : decode cX11_sheet 20 = .ok (.iload_n 2, 1) := by decide +kernel
theorem dX11_sheet_21 : decode cX11_sheet 21 = .ok (.iconst (-1), 1) := by decide +kernel
theorem dX11_sheet_22 : decode cX11_sheet 22 = .ok (.if_icmp .ne 16, 3) := by decide +kernel
theorem dX11_sheet_25 : decode cX11_sheet 25 = .ok (.aload_n 0, 1) := by decide +kernel
theorem dX11_sheet_26 : decode cX11_sheet 26 = .ok (.getfield 55, 3) := by decide +kernel
theorem dX11_sheet_29 : decode cX11_sheet 29 = .ok (.iload_n 1, 1) := by decide +kernel
theorem dX11_sheet_30 : decode cX11_sheet 30 = .ok (.aaload, 1) := by decide +kernel
theorem dX11_sheet_31 : decode cX11_sheet 31 = .ok (.iconst (-1), 1) := by decide +kernel
theorem dX11_sheet_32 : decode cX11_sheet 32 = .ok (.iconst 0, 1) := by decide +kernel
theorem dX11_sheet_33 : decode cX11_sheet 33 = .ok (.invokevirtual 269, 3) := by decide +kernel
theorem dX11_sheet_36 : decode cX11_sheet 36 = .ok (.iconst 1, 1) := by decide +kernel
theorem dX11_sheet_37 : decode cX11_sheet 37 = .ok (.ireturn, 1) := by decide +kernel
theorem dX11_sheet_38 : decode cX11_sheet 38 = .ok (.iload_n 3, 1) := by decide +kernel
theorem dX11_sheet_39 : decode cX11_sheet 39 = .ok (.bipush 40, 2) := by decide +kernel
theorem dX11_sheet_41 : decode cX11_sheet 41 = .ok (.if_icmp .le 6, 3) := by decide +kernel
theorem dX11_sheet_44 : decode cX11_sheet 44 = .ok (.bipush (-2), 2) := by decide +kernel
theorem dX11_sheet_46 : decode cX11_sheet 46 = .ok (.ireturn, 1) := by decide +kernel
theorem dX11_sheet_47 : decode cX11_sheet 47 = .ok (.iload_n 3, 1) := by decide +kernel
theorem dX11_sheet_48 : decode cX11_sheet 48 = .ok (.ifCond .ge 6, 3) := by decide +kernel
theorem dX11_sheet_51 : decode cX11_sheet 51 = .ok (.bipush (-14), 2) := by decide +kernel
theorem dX11_sheet_53 : decode cX11_sheet 53 = .ok (.ireturn, 1) := by decide +kernel
theorem dX11_sheet_54 : decode cX11_sheet 54 = .ok (.aload_n 0, 1) := by decide +kernel
theorem dX11_sheet_55 : decode cX11_sheet 55 = .ok (.getfield 55, 3) := by decide +kernel
theorem dX11_sheet_58 : decode cX11_sheet 58 = .ok (.iload_n 1, 1) := by decide +kernel
theorem dX11_sheet_59 : decode cX11_sheet 59 = .ok (.aaload, 1) := by decide +kernel
theorem dX11_sheet_60 : decode cX11_sheet 60 = .ok (.iload_n 2, 1) := by decide +kernel
theorem dX11_sheet_61 : decode cX11_sheet 61 = .ok (.iload_n 3, 1) := by decide +kernel
theorem dX11_sheet_62 : decode cX11_sheet 62 = .ok (.invokevirtual 269, 3) := by decide +kernel
theorem dX11_sheet_65 : decode cX11_sheet 65 = .ok (.iconst 1, 1) := by decide +kernel
theorem dX11_sheet_66 : decode cX11_sheet 66 = .ok (.ireturn, 1) := by decide +kernel
theorem dX11_cell_0 : decode cX11_cell 0 = .ok (.iload_n 1, 1) := by decide +kernel
theorem dX11_cell_1 : decode cX11_cell 1 = .ok (.invokestatic 266, 3) := by decide +kernel
theorem dX11_cell_4 : decode cX11_cell 4 = .ok (.ifCond .ne 6, 3) := by decide +kernel
theorem dX11_cell_7 : decode cX11_cell 7 = .ok (.bipush (-2), 2) := by decide +kernel
theorem dX11_cell_9 : decode cX11_cell 9 = .ok (.ireturn, 1) := by decide +kernel
theorem dX11_cell_10 : decode cX11_cell 10 = .ok (.aload_n 0, 1) := by decide +kernel
theorem dX11_cell_11 : decode cX11_cell 11 = .ok (.getfield 55, 3) := by decide +kernel
theorem dX11_cell_14 : decode cX11_cell 14 = .ok (.iload_n 1, 1) := by decide +kernel
theorem dX11_cell_15 : decode cX11_cell 15 = .ok (.aaload, 1) := by decide +kernel
theorem dX11_cell_16 : decode cX11_cell 16 = .ok (.astore 4, 2) := by decide +kernel
theorem dX11_cell_18 : decode cX11_cell 18 = .ok (.aload 4, 2) := by decide +kernel
theorem dX11_cell_20 : decode cX11_cell 20 = .ok (.invokevirtual 272, 3) := by decide +kernel
theorem dX11_cell_23 : decode cX11_cell 23 = .ok (.ifCond .eq 6, 3) := by decide +kernel
theorem dX11_cell_26 : decode cX11_cell 26 = .ok (.bipush (-11), 2) := by decide +kernel
theorem dX11_cell_28 : decode cX11_cell 28 = .ok (.ireturn, 1) := by decide +kernel
theorem dX11_cell_29 : decode cX11_cell 29 = .ok (.aload 4, 2) := by decide +kernel
theorem dX11_cell_31 : decode cX11_cell 31 = .ok (.iload_n 2, 1) := by decide +kernel
theorem dX11_cell_32 : decode cX11_cell 32 = .ok (.iconst 1, 1) := by decide +kernel
theorem dX11_cell_33 : decode cX11_cell 33 = .ok (.invokevirtual 276, 3) := by decide +kernel
theorem dX11_cell_36 : decode cX11_cell 36 = .ok (.ifCond .ne 6, 3) := by decide +kernel
theorem dX11_cell_39 : decode cX11_cell 39 = .ok (.bipush (-12), 2) := by decide +kernel
theorem dX11_cell_41 : decode cX11_cell 41 = .ok (.ireturn, 1) := by decide +kernel
theorem dX11_cell_42 : decode cX11_cell 42 = .ok (.aload 4, 2) := by decide +kernel
theorem dX11_cell_44 : decode cX11_cell 44 = .ok (.iload_n 2, 1) := by decide +kernel
theorem dX11_cell_45 : decode cX11_cell 45 = .ok (.iload_n 3, 1) := by decide +kernel
theorem dX11_cell_46 : decode cX11_cell 46 = .ok (.invokevirtual 279, 3) := by decide +kernel
theorem dX11_cell_49 : decode cX11_cell 49 = .ok (.iconst 1, 1) := by decide +kernel
theorem dX11_cell_50 : decode cX11_cell 50 = .ok (.ireturn, 1) := by decide +kernel
theorem dX11_copy_0 : decode cX11_copy 0 = .ok (.iload_n 1, 1) := by decide +kernel
theorem dX11_copy_1 : decode cX11_copy 1 = .ok (.invokestatic 266, 3) := by decide +kernel
theorem dX11_copy_4 : decode cX11_copy 4 = .ok (.ifCond .eq 10, 3) := by decide +kernel
theorem dX11_copy_7 : decode cX11_copy 7 = .ok (.iload_n 3, 1) := by decide +kernel
theorem dX11_copy_8 : decode cX11_copy 8 = .ok (.invokestatic 266, 3) := by decide +kernel
theorem dX11_copy_11 : decode cX11_copy 11 = .ok (.ifCond .ne 6, 3) := by decide +kernel
theorem dX11_copy_14 : decode cX11_copy 14 = .ok (.bipush (-2), 2) := by decide +kernel
theorem dX11_copy_16 : decode cX11_copy 16 = .ok (.ireturn, 1) := by decide +kernel
theorem dX11_copy_17 : decode cX11_copy 17 = .ok (.aload_n 0, 1) := by decide +kernel
theorem dX11_copy_18 : decode cX11_copy 18 = .ok (.getfield 55, 3) := by decide +kernel
theorem dX11_copy_21 : decode cX11_copy 21 = .ok (.iload_n 1, 1) := by decide +kernel
theorem dX11_copy_22 : decode cX11_copy 22 = .ok (.aaload, 1) := by decide +kernel
theorem dX11_copy_23 : decode cX11_copy 23 = .ok (.astore 6, 2) := by decide +kernel
theorem dX11_copy_25 : decode cX11_copy 25 = .ok (.aload_n 0, 1) := by decide +kernel
theorem dX11_copy_26 : decode cX11_copy 26 = .ok (.getfield 55, 3) := by decide +kernel
theorem dX11_copy_29 : decode cX11_copy 29 = .ok (.iload_n 3, 1) := by decide +kernel
theorem dX11_copy_30 : decode cX11_copy 30 = .ok (.aaload, 1) := by decide +kernel
theorem dX11_copy_31 : decode cX11_copy 31 = .ok (.astore 7, 2) := by decide +kernel
theorem dX11_copy_33 : decode cX11_copy 33 = .ok (.aload 6, 2) := by decide +kernel
theorem dX11_copy_35 : decode cX11_copy 35 = .ok (.invokevirtual 272, 3) := by decide +kernel
theorem dX11_copy_38 : decode cX11_copy 38 = .ok (.ifCond .ne 11, 3) := by decide +kernel
theorem dX11_copy_41 : decode cX11_copy 41 = .ok (.aload 7, 2) := by decide +kernel
theorem dX11_copy_43 : decode cX11_copy 43 = .ok (.invokevirtual 272, 3) := by decide +kernel
theorem dX11_copy_46 : decode cX11_copy 46 = .ok (.ifCond .eq 6, 3) := by decide +kernel
theorem dX11_copy_49 : decode cX11_copy 49 = .ok (.bipush (-11), 2) := by decide +kernel
theorem dX11_copy_51 : decode cX11_copy 51 = .ok (.ireturn, 1) := by decide +kernel
theorem dX11_copy_52 : decode cX11_copy 52 = .ok (.aload 6, 2) := by decide +kernel
theorem dX11_copy_54 : decode cX11_copy 54 = .ok (.getfield 282, 3) := by decide +kernel
theorem dX11_copy_57 : decode cX11_copy 57 = .ok (.aload 7, 2) := by decide +kernel
theorem dX11_copy_59 : decode cX11_copy 59 = .ok (.getfield 282, 3) := by decide +kernel
theorem dX11_copy_62 : decode cX11_copy 62 = .ok (.if_icmp .eq 6, 3) := by decide +kernel
theorem dX11_copy_65 : decode cX11_copy 65 = .ok (.bipush (-13), 2) := by decide +kernel
theorem dX11_copy_67 : decode cX11_copy 67 = .ok (.ireturn, 1) := by decide +kernel
theorem dX11_copy_68 : decode cX11_copy 68 = .ok (.aload 6, 2) := by decide +kernel
theorem dX11_copy_70 : decode cX11_copy 70 = .ok (.iload_n 2, 1) := by decide +kernel
theorem dX11_copy_71 : decode cX11_copy 71 = .ok (.iload 5, 2) := by decide +kernel
theorem dX11_copy_73 : decode cX11_copy 73 = .ok (.invokevirtual 276, 3) := by decide +kernel
theorem dX11_copy_76 : decode cX11_copy 76 = .ok (.ifCond .eq 15, 3) := by decide +kernel
theorem dX11_copy_79 : decode cX11_copy 79 = .ok (.aload 7, 2) := by decide +kernel
theorem dX11_copy_81 : decode cX11_copy 81 = .ok (.iload 4, 2) := by decide +kernel
theorem dX11_copy_83 : decode cX11_copy 83 = .ok (.iload 5, 2) := by decide +kernel
theorem dX11_copy_85 : decode cX11_copy 85 = .ok (.invokevirtual 276, 3) := by decide +kernel
theorem dX11_copy_88 : decode cX11_copy 88 = .ok (.ifCond .ne 6, 3) := by decide +kernel
theorem dX11_copy_91 : decode cX11_copy 91 = .ok (.bipush (-12), 2) := by decide +kernel
theorem dX11_copy_93 : decode cX11_copy 93 = .ok (.ireturn, 1) := by decide +kernel
theorem dX11_copy_94 : decode cX11_copy 94 = .ok (.aload 6, 2) := by decide +kernel
theorem dX11_copy_96 : decode cX11_copy 96 = .ok (.getfield 283, 3) := by decide +kernel
theorem dX11_copy_99 : decode cX11_copy 99 = .ok (.iload_n 2, 1) := by decide +kernel
theorem dX11_copy_100 : decode cX11_copy 100 = .ok (.aload 7, 2) := by decide +kernel
theorem dX11_copy_102 : decode cX11_copy 102 = .ok (.getfield 283, 3) := by decide +kernel
theorem dX11_copy_105 : decode cX11_copy 105 = .ok (.iload 4, 2) := by decide +kernel
theorem dX11_copy_107 : decode cX11_copy 107 = .ok (.iload 5, 2) := by decide +kernel
theorem dX11_copy_109 : decode cX11_copy 109 = .ok (.invokestatic 227, 3) := by decide +kernel
theorem dX11_copy_112 : decode cX11_copy 112 = .ok (.iload 5, 2) := by decide +kernel
theorem dX11_copy_114 : decode cX11_copy 114 = .ok (.ireturn, 1) := by decide +kernel
theorem dX11_houses_0 : decode cX11_houses 0 = .ok (.iload_n 1, 1) := by decide +kernel
theorem dX11_houses_1 : decode cX11_houses 1 = .ok (.invokestatic 266, 3) := by decide +kernel
theorem dX11_houses_4 : decode cX11_houses 4 = .ok (.ifCond .eq 24, 3) := by decide +kernel
theorem dX11_houses_7 : decode cX11_houses 7 = .ok (.iload_n 2, 1) := by decide +kernel
theorem dX11_houses_8 : decode cX11_houses 8 = .ok (.ifCond .lt 20, 3) := by decide +kernel
theorem dX11_houses_11 : decode cX11_houses 11 = .ok (.iload_n 2, 1) := by decide +kernel
theorem dX11_houses_12 : decode cX11_houses 12 = .ok (.iconst 2, 1) := by decide +kernel
theorem dX11_houses_13 : decode cX11_houses 13 = .ok (.if_icmp .gt 15, 3) := by decide +kernel
theorem dX11_houses_16 : decode cX11_houses 16 = .ok (.iload 4, 2) := by decide +kernel
theorem dX11_houses_18 : decode cX11_houses 18 = .ok (.ifCond .lt 10, 3) := by decide +kernel
theorem dX11_houses_21 : decode cX11_houses 21 = .ok (.iload 4, 2) := by decide +kernel
theorem dX11_houses_23 : decode cX11_houses 23 = .ok (.bipush 7, 2) := by decide +kernel
theorem dX11_houses_25 : decode cX11_houses 25 = .ok (.if_icmp .le 6, 3) := by decide +kernel
theorem dX11_houses_28 : decode cX11_houses 28 = .ok (.bipush (-2), 2) := by decide +kernel
theorem dX11_houses_30 : decode cX11_houses 30 = .ok (.ireturn, 1) := by decide +kernel
theorem dX11_houses_31 : decode cX11_houses 31 = .ok (.aload_n 0, 1) := by decide +kernel
theorem dX11_houses_32 : decode cX11_houses 32 = .ok (.getfield 55, 3) := by decide +kernel
theorem dX11_houses_35 : decode cX11_houses 35 = .ok (.iload_n 1, 1) := by decide +kernel
theorem dX11_houses_36 : decode cX11_houses 36 = .ok (.aaload, 1) := by decide +kernel
theorem dX11_houses_37 : decode cX11_houses 37 = .ok (.astore 5, 2) := by decide +kernel
theorem dX11_houses_39 : decode cX11_houses 39 = .ok (.aload 5, 2) := by decide +kernel
theorem dX11_houses_41 : decode cX11_houses 41 = .ok (.invokevirtual 272, 3) := by decide +kernel
theorem dX11_houses_44 : decode cX11_houses 44 = .ok (.ifCond .eq 6, 3) := by decide +kernel
theorem dX11_houses_47 : decode cX11_houses 47 = .ok (.bipush (-11), 2) := by decide +kernel
theorem dX11_houses_49 : decode cX11_houses 49 = .ok (.ireturn, 1) := by decide +kernel
theorem dX11_houses_50 : decode cX11_houses 50 = .ok (.aload 5, 2) := by decide +kernel
theorem dX11_houses_52 : decode cX11_houses 52 = .ok (.getfield 282, 3) := by decide +kernel
theorem dX11_houses_55 : decode cX11_houses 55 = .ok (.iload_n 2, 1) := by decide +kernel
theorem dX11_houses_56 : decode cX11_houses 56 = .ok (.if_icmp .eq 6, 3) := by decide +kernel
theorem dX11_houses_59 : decode cX11_houses 59 = .ok (.bipush (-13), 2) := by decide +kernel
theorem dX11_houses_61 : decode cX11_houses 61 = .ok (.ireturn, 1) := by decide +kernel
theorem dX11_houses_62 : decode cX11_houses 62 = .ok (.iconst 0, 1) := by decide +kernel
theorem dX11_houses_63 : decode cX11_houses 63 = .ok (.istore 6, 2) := by decide +kernel
theorem dX11_houses_65 : decode cX11_houses 65 = .ok (.iconst 0, 1) := by decide +kernel
theorem dX11_houses_66 : decode cX11_houses 66 = .ok (.istore 7, 2) := by decide +kernel
theorem dX11_houses_68 : decode cX11_houses 68 = .ok (.iload 7, 2) := by decide +kernel
theorem dX11_houses_70 : decode cX11_houses 70 = .ok (.iload 4, 2) := by decide +kernel
theorem dX11_houses_72 : decode cX11_houses 72 = .ok (.if_icmp .ge 66, 3) := by decide +kernel
theorem dX11_houses_75 : decode cX11_houses 75 = .ok (.iload_n 3, 1) := by decide +kernel
theorem dX11_houses_76 : decode cX11_houses 76 = .ok (.iconst 3, 1) := by decide +kernel
theorem dX11_houses_77 : decode cX11_houses 77 = .ok (.iload 7, 2) := by decide +kernel
theorem dX11_houses_79 : decode cX11_houses 79 = .ok (.imul, 1) := by decide +kernel
theorem dX11_houses_80 : decode cX11_houses 80 = .ok (.iadd, 1) := by decide +kernel
theorem dX11_houses_81 : decode cX11_houses 81 = .ok (.istore 8, 2) := by decide +kernel
theorem dX11_houses_83 : decode cX11_houses 83 = .ok (.aload 5, 2) := by decide +kernel
theorem dX11_houses_85 : decode cX11_houses 85 = .ok (.iload 8, 2) := by decide +kernel
theorem dX11_houses_87 : decode cX11_houses 87 = .ok (.iconst 3, 1) := by decide +kernel
theorem dX11_houses_88 : decode cX11_houses 88 = .ok (.invokevirtual 276, 3) := by decide +kernel
theorem dX11_houses_91 : decode cX11_houses 91 = .ok (.ifCond .ne 6, 3) := by decide +kernel
theorem dX11_houses_94 : decode cX11_houses 94 = .ok (.bipush (-12), 2) := by decide +kernel
theorem dX11_houses_96 : decode cX11_houses 96 = .ok (.ireturn, 1) := by decide +kernel
theorem dX11_houses_97 : decode cX11_houses 97 = .ok (.aload_n 0, 1) := by decide +kernel
theorem dX11_houses_98 : decode cX11_houses 98 = .ok (.aload 5, 2) := by decide +kernel
theorem dX11_houses_100 : decode cX11_houses 100 = .ok (.iload 8, 2) := by decide +kernel
theorem dX11_houses_102 : decode cX11_houses 102 = .ok (.invokevirtual 255, 3) := by decide +kernel
theorem dX11_houses_105 : decode cX11_houses 105 = .ok (.aload 5, 2) := by decide +kernel
theorem dX11_houses_107 : decode cX11_houses 107 = .ok (.iload 8, 2) := by decide +kernel
theorem dX11_houses_109 : decode cX11_houses 109 = .ok (.iconst 1, 1) := by decide +kernel
theorem dX11_houses_110 : decode cX11_houses 110 = .ok (.iadd, 1) := by decide +kernel
theorem dX11_houses_111 : decode cX11_houses 111 = .ok (.invokevirtual 255, 3) := by decide +kernel
theorem dX11_houses_114 : decode cX11_houses 114 = .ok (.aload 5, 2) := by decide +kernel
theorem dX11_houses_116 : decode cX11_houses 116 = .ok (.iload 8, 2) := by decide +kernel
theorem dX11_houses_118 : decode cX11_houses 118 = .ok (.iconst 2, 1) := by decide +kernel
theorem dX11_houses_119 : decode cX11_houses 119 = .ok (.iadd, 1) := by decide +kernel
theorem dX11_houses_120 : decode cX11_houses 120 = .ok (.invokevirtual 255, 3) := by decide +kernel
theorem dX11_houses_123 : decode cX11_houses 123 = .ok (.invokevirtual 286, 3) := by decide +kernel
theorem dX11_houses_126 : decode cX11_houses 126 = .ok (.ifCond .lt 6, 3) := by decide +kernel
theorem dX11_houses_129 : decode cX11_houses 129 = .ok (.iinc 6 1, 3) := by decide +kernel
theorem dX11_houses_132 : decode cX11_houses 132 = .ok (.iinc 7 1, 3) := by decide +kernel
theorem dX11_houses_135 : decode cX11_houses 135 = .ok (.goto (-67), 3) := by decide +kernel
theorem dX11_houses_138 : decode cX11_houses 138 = .ok (.iload 6, 2) := by decide +kernel
theorem dX11_houses_140 : decode cX11_houses 140 = .ok (.ireturn, 1) := by decide +kernel
theorem dX11_taken_0 : decode cX11_taken 0 = .ok (.iload_n 2, 1) := by decide +kernel
theorem dX11_taken_1 : decode cX11_taken 1 = .ok (.ifCond .lt 8, 3) := by decide +kernel
theorem dX11_taken_4 : decode cX11_taken 4 = .ok (.iload_n 2, 1) := by decide +kernel
theorem dX11_taken_5 : decode cX11_taken 5 = .ok (.iconst 5, 1) := by decide +kernel
theorem dX11_taken_6 : decode cX11_taken 6 = .ok (.if_icmp .le 6, 3) := by decide +kernel
theorem dX11_taken_9 : decode cX11_taken 9 = .ok (.bipush (-2), 2) := by decide +kernel
theorem dX11_taken_11 : decode cX11_taken 11 = .ok (.ireturn, 1) := by decide +kernel
theorem dX11_taken_12 : decode cX11_taken 12 = .ok (.aload_n 0, 1) := by decide +kernel
theorem dX11_taken_13 : decode cX11_taken 13 = .ok (.iload_n 1, 1) := by decide +kernel
theorem dX11_taken_14 : decode cX11_taken 14 = .ok (.invokevirtual 137, 3) := by decide +kernel
theorem dX11_taken_17 : decode cX11_taken 17 = .ok (.astore_n 3, 1) := by decide +kernel
theorem dX11_taken_18 : decode cX11_taken 18 = .ok (.aload_n 3, 1) := by decide +kernel
theorem dX11_taken_19 : decode cX11_taken 19 = .ok (.ifnonnull 6, 3) := by decide +kernel
theorem dX11_taken_22 : decode cX11_taken 22 = .ok (.bipush (-11), 2) := by decide +kernel
theorem dX11_taken_24 : decode cX11_taken 24 = .ok (.ireturn, 1) := by decide +kernel
theorem dX11_taken_25 : decode cX11_taken 25 = .ok (.aload_n 3, 1) := by decide +kernel
theorem dX11_taken_26 : decode cX11_taken 26 = .ok (.iload_n 2, 1) := by decide +kernel
theorem dX11_taken_27 : decode cX11_taken 27 = .ok (.invokestatic 290, 3) := by decide +kernel
theorem dX11_taken_30 : decode cX11_taken 30 = .ok (.ifCond .eq 10, 3) := by decide +kernel
theorem dX11_taken_33 : decode cX11_taken 33 = .ok (.aload_n 3, 1) := by decide +kernel
theorem dX11_taken_34 : decode cX11_taken 34 = .ok (.getfield 294, 3) := by decide +kernel
theorem dX11_taken_37 : decode cX11_taken 37 = .ok (.goto 5, 3) := by decide +kernel
theorem dX11_taken_40 : decode cX11_taken 40 = .ok (.bipush (-13), 2) := by decide +kernel
theorem dX11_taken_42 : decode cX11_taken 42 = .ok (.ireturn, 1) := by decide +kernel
theorem dX11_isHouse_0 : decode cX11_isHouse 0 = .ok (.iload_n 1, 1) := by decide +kernel
theorem dX11_isHouse_1 : decode cX11_isHouse 1 = .ok (.ifCond .lt 15, 3) := by decide +kernel
theorem dX11_isHouse_4 : decode cX11_isHouse 4 = .ok (.iload_n 1, 1) := by decide +kernel
theorem dX11_isHouse_5 : decode cX11_isHouse 5 = .ok (.aload_n 0, 1) := by decide +kernel
theorem dX11_isHouse_6 : decode cX11_isHouse 6 = .ok (.getfield 15, 3) := by decide +kernel
theorem dX11_isHouse_9 : decode cX11_isHouse 9 = .ok (.if_icmp .ge 7, 3) := by decide +kernel
theorem dX11_isHouse_12 : decode cX11_isHouse 12 = .ok (.iconst 1, 1) := by decide +kernel
theorem dX11_isHouse_13 : decode cX11_isHouse 13 = .ok (.goto 4, 3) := by decide +kernel
theorem dX11_isHouse_16 : decode cX11_isHouse 16 = .ok (.iconst 0, 1) := by decide +kernel
theorem dX11_isHouse_17 : decode cX11_isHouse 17 = .ok (.ireturn, 1) := by decide +kernel
theorem dX11_doorOf_0 : decode cX11_doorOf 0 = .ok (.aload_n 0, 1) := by decide +kernel
theorem dX11_doorOf_1 : decode cX11_doorOf 1 = .ok (.iload_n 1, 1) := by decide +kernel
theorem dX11_doorOf_2 : decode cX11_doorOf 2 = .ok (.invokevirtual 172, 3) := by decide +kernel
theorem dX11_doorOf_5 : decode cX11_doorOf 5 = .ok (.ifCond .eq 12, 3) := by decide +kernel
theorem dX11_doorOf_8 : decode cX11_doorOf 8 = .ok (.aload_n 0, 1) := by decide +kernel
theorem dX11_doorOf_9 : decode cX11_doorOf 9 = .ok (.getfield 11, 3) := by decide +kernel
theorem dX11_doorOf_12 : decode cX11_doorOf 12 = .ok (.iload_n 1, 1) := by decide +kernel
theorem dX11_doorOf_13 : decode cX11_doorOf 13 = .ok (.aaload, 1) := by decide +kernel
theorem dX11_doorOf_14 : decode cX11_doorOf 14 = .ok (.goto 4, 3) := by decide +kernel
theorem dX11_doorOf_17 : decode cX11_doorOf 17 = .ok (.aconst_null, 1) := by decide +kernel
theorem dX11_doorOf_18 : decode cX11_doorOf 18 = .ok (.areturn, 1) := by decide +kernel
theorem dX11_isFact_0 : decode cX11_isFact 0 = .ok (.iload_n 0, 1) := by decide +kernel
theorem dX11_isFact_1 : decode cX11_isFact 1 = .ok (.ifCond .lt 25, 3) := by decide +kernel
theorem dX11_isFact_4 : decode cX11_isFact 4 = .ok (.iload_n 0, 1) := by decide +kernel
theorem dX11_isFact_5 : decode cX11_isFact 5 = .ok (.iconst 4, 1) := by decide +kernel
theorem dX11_isFact_6 : decode cX11_isFact 6 = .ok (.if_icmp .ge 20, 3) := by decide +kernel
theorem dX11_isFact_9 : decode cX11_isFact 9 = .ok (.iload_n 1, 1) := by decide +kernel
theorem dX11_isFact_10 : decode cX11_isFact 10 = .ok (.ifCond .lt 16, 3) := by decide +kernel
theorem dX11_isFact_13 : decode cX11_isFact 13 = .ok (.iload_n 1, 1) := by decide +kernel
theorem dX11_isFact_14 : decode cX11_isFact 14 = .ok (.getstatic 297, 3) := by decide +kernel
theorem dX11_isFact_17 : decode cX11_isFact 17 = .ok (.iload_n 0, 1) := by decide +kernel
theorem dX11_isFact_18 : decode cX11_isFact 18 = .ok (.iaload, 1) := by decide +kernel
theorem dX11_isFact_19 : decode cX11_isFact 19 = .ok (.if_icmp .gt 7, 3) := by decide +kernel
theorem dX11_isFact_22 : decode cX11_isFact 22 = .ok (.iconst 1, 1) := by decide +kernel
theorem dX11_isFact_23 : decode cX11_isFact 23 = .ok (.goto 4, 3) := by decide +kernel
theorem dX11_isFact_26 : decode cX11_isFact 26 = .ok (.iconst 0, 1) := by decide +kernel
theorem dX11_isFact_27 : decode cX11_isFact 27 = .ok (.ireturn, 1) := by decide +kernel
theorem dX11_newDoor_0 : decode cX11_newDoor 0 = .ok (.iload_n 0, 1) := by decide +kernel
theorem dX11_newDoor_1 : decode cX11_newDoor 1 = .ok (.tableswitch 80 1 5 #[35, 44, 53, 62, 71], 35) := by decide +kernel
theorem dX11_newDoor_36 : decode cX11_newDoor 36 = .ok (.new 300, 3) := by decide +kernel
theorem dX11_newDoor_39 : decode cX11_newDoor 39 = .ok (.dup, 1) := by decide +kernel
theorem dX11_newDoor_40 : decode cX11_newDoor 40 = .ok (.iload_n 1, 1) := by decide +kernel
theorem dX11_newDoor_41 : decode cX11_newDoor 41 = .ok (.invokespecial 302, 3) := by decide +kernel
theorem dX11_newDoor_44 : decode cX11_newDoor 44 = .ok (.areturn, 1) := by decide +kernel
theorem dX11_newDoor_45 : decode cX11_newDoor 45 = .ok (.new 303, 3) := by decide +kernel
theorem dX11_newDoor_48 : decode cX11_newDoor 48 = .ok (.dup, 1) := by decide +kernel
theorem dX11_newDoor_49 : decode cX11_newDoor 49 = .ok (.iload_n 1, 1) := by decide +kernel
theorem dX11_newDoor_50 : decode cX11_newDoor 50 = .ok (.invokespecial 305, 3) := by decide +kernel
theorem dX11_newDoor_53 : decode cX11_newDoor 53 = .ok (.areturn, 1) := by decide +kernel
theorem dX11_newDoor_54 : decode cX11_newDoor 54 = .ok (.new 306, 3) := by decide +kernel
theorem dX11_newDoor_57 : decode cX11_newDoor 57 = .ok (.dup, 1) := by decide +kernel
theorem dX11_newDoor_58 : decode cX11_newDoor 58 = .ok (.iload_n 1, 1) := by decide +kernel
theorem dX11_newDoor_59 : decode cX11_newDoor 59 = .ok (.invokespecial 308, 3) := by decide +kernel
theorem dX11_newDoor_62 : decode cX11_newDoor 62 = .ok (.areturn, 1) := by decide +kernel
theorem dX11_newDoor_63 : decode cX11_newDoor 63 = .ok (.new 309, 3) := by decide +kernel
theorem dX11_newDoor_66 : decode cX11_newDoor 66 = .ok (.dup, 1) := by decide +kernel
theorem dX11_newDoor_67 : decode cX11_newDoor 67 = .ok (.iload_n 1, 1) := by decide +kernel
theorem dX11_newDoor_68 : decode cX11_newDoor 68 = .ok (.invokespecial 311, 3) := by decide +kernel
theorem dX11_newDoor_71 : decode cX11_newDoor 71 = .ok (.areturn, 1) := by decide +kernel
theorem dX11_newDoor_72 : decode cX11_newDoor 72 = .ok (.new 312, 3) := by decide +kernel
theorem dX11_newDoor_75 : decode cX11_newDoor 75 = .ok (.dup, 1) := by decide +kernel
theorem dX11_newDoor_76 : decode cX11_newDoor 76 = .ok (.iload_n 1, 1) := by decide +kernel
theorem dX11_newDoor_77 : decode cX11_newDoor 77 = .ok (.invokespecial 314, 3) := by decide +kernel
theorem dX11_newDoor_80 : decode cX11_newDoor 80 = .ok (.areturn, 1) := by decide +kernel
theorem dX11_newDoor_81 : decode cX11_newDoor 81 = .ok (.new 9, 3) := by decide +kernel
theorem dX11_newDoor_84 : decode cX11_newDoor 84 = .ok (.dup, 1) := by decide +kernel
theorem dX11_newDoor_85 : decode cX11_newDoor 85 = .ok (.iload_n 1, 1) := by decide +kernel
theorem dX11_newDoor_86 : decode cX11_newDoor 86 = .ok (.invokespecial 315, 3) := by decide +kernel
theorem dX11_newDoor_89 : decode cX11_newDoor 89 = .ok (.areturn, 1) := by decide +kernel
theorem dX11_isOfKind_0 : decode cX11_isOfKind 0 = .ok (.iload_n 1, 1) := by decide +kernel
theorem dX11_isOfKind_1 : decode cX11_isOfKind 1 = .ok (.tableswitch 66 0 5 #[39, 41, 46, 51, 56, 61], 39) := by decide +kernel
theorem dX11_isOfKind_40 : decode cX11_isOfKind 40 = .ok (.iconst 1, 1) := by decide +kernel
theorem dX11_isOfKind_41 : decode cX11_isOfKind 41 = .ok (.ireturn, 1) := by decide +kernel
theorem dX11_isOfKind_42 : decode cX11_isOfKind 42 = .ok (.aload_n 0, 1) := by decide +kernel
theorem dX11_isOfKind_43 : decode cX11_isOfKind 43 = .ok (.instanceof 300, 3) := by decide +kernel
theorem dX11_isOfKind_46 : decode cX11_isOfKind 46 = .ok (.ireturn, 1) := by decide +kernel
theorem dX11_isOfKind_47 : decode cX11_isOfKind 47 = .ok (.aload_n 0, 1) := by decide +kernel
theorem dX11_isOfKind_48 : decode cX11_isOfKind 48 = .ok (.instanceof 303, 3) := by decide +kernel
theorem dX11_isOfKind_51 : decode cX11_isOfKind 51 = .ok (.ireturn, 1) := by decide +kernel
theorem dX11_isOfKind_52 : decode cX11_isOfKind 52 = .ok (.aload_n 0, 1) := by decide +kernel
theorem dX11_isOfKind_53 : decode cX11_isOfKind 53 = .ok (.instanceof 306, 3) := by decide +kernel
theorem dX11_isOfKind_56 : decode cX11_isOfKind 56 = .ok (.ireturn, 1) := by decide +kernel
theorem dX11_isOfKind_57 : decode cX11_isOfKind 57 = .ok (.aload_n 0, 1) := by decide +kernel
theorem dX11_isOfKind_58 : decode cX11_isOfKind 58 = .ok (.instanceof 309, 3) := by decide +kernel
theorem dX11_isOfKind_61 : decode cX11_isOfKind 61 = .ok (.ireturn, 1) := by decide +kernel
theorem dX11_isOfKind_62 : decode cX11_isOfKind 62 = .ok (.aload_n 0, 1) := by decide +kernel
theorem dX11_isOfKind_63 : decode cX11_isOfKind 63 = .ok (.instanceof 312, 3) := by decide +kernel
theorem dX11_isOfKind_66 : decode cX11_isOfKind 66 = .ok (.ireturn, 1) := by decide +kernel
theorem dX11_isOfKind_67 : decode cX11_isOfKind 67 = .ok (.iconst 0, 1) := by decide +kernel
theorem dX11_isOfKind_68 : decode cX11_isOfKind 68 = .ok (.ireturn, 1) := by decide +kernel
theorem dX11_thickOf_0 : decode cX11_thickOf 0 = .ok (.bipush 6, 2) := by decide +kernel
theorem dX11_thickOf_2 : decode cX11_thickOf 2 = .ok (.iload_n 1, 1) := by decide +kernel
theorem dX11_thickOf_3 : decode cX11_thickOf 3 = .ok (.iadd, 1) := by decide +kernel
theorem dX11_thickOf_4 : decode cX11_thickOf 4 = .ok (.istore_n 2, 1) := by decide +kernel
theorem dX11_thickOf_5 : decode cX11_thickOf 5 = .ok (.iload_n 2, 1) := by decide +kernel
theorem dX11_thickOf_6 : decode cX11_thickOf 6 = .ok (.bipush 6, 2) := by decide +kernel
theorem dX11_thickOf_8 : decode cX11_thickOf 8 = .ok (.if_icmp .lt 9, 3) := by decide +kernel
theorem dX11_thickOf_11 : decode cX11_thickOf 11 = .ok (.iload_n 2, 1) := by decide +kernel
theorem dX11_thickOf_12 : decode cX11_thickOf 12 = .ok (.aload_n 0, 1) := by decide +kernel
theorem dX11_thickOf_13 : decode cX11_thickOf 13 = .ok (.arraylength, 1) := by decide +kernel
theorem dX11_thickOf_14 : decode cX11_thickOf 14 = .ok (.if_icmp .lt 7, 3) := by decide +kernel
theorem dX11_thickOf_17 : decode cX11_thickOf 17 = .ok (.iconst 0, 1) := by decide +kernel
theorem dX11_thickOf_18 : decode cX11_thickOf 18 = .ok (.goto 6, 3) := by decide +kernel
theorem dX11_thickOf_21 : decode cX11_thickOf 21 = .ok (.aload_n 0, 1) := by decide +kernel
theorem dX11_thickOf_22 : decode cX11_thickOf 22 = .ok (.iload_n 2, 1) := by decide +kernel
theorem dX11_thickOf_23 : decode cX11_thickOf 23 = .ok (.iaload, 1) := by decide +kernel
theorem dX11_thickOf_24 : decode cX11_thickOf 24 = .ok (.ireturn, 1) := by decide +kernel
theorem dX11_placeInList_0 : decode cX11_placeInList 0 = .ok (.iconst 0, 1) := by decide +kernel
theorem dX11_placeInList_1 : decode cX11_placeInList 1 = .ok (.istore_n 2, 1) := by decide +kernel
theorem dX11_placeInList_2 : decode cX11_placeInList 2 = .ok (.iload_n 2, 1) := by decide +kernel
theorem dX11_placeInList_3 : decode cX11_placeInList 3 = .ok (.aload_n 0, 1) := by decide +kernel
theorem dX11_placeInList_4 : decode cX11_placeInList 4 = .ok (.getfield 15, 3) := by decide +kernel
theorem dX11_placeInList_7 : decode cX11_placeInList 7 = .ok (.if_icmp .ge 21, 3) := by decide +kernel
theorem dX11_placeInList_10 : decode cX11_placeInList 10 = .ok (.aload_n 0, 1) := by decide +kernel
theorem dX11_placeInList_11 : decode cX11_placeInList 11 = .ok (.getfield 19, 3) := by decide +kernel
theorem dX11_placeInList_14 : decode cX11_placeInList 14 = .ok (.iload_n 2, 1) := by decide +kernel
theorem dX11_placeInList_15 : decode cX11_placeInList 15 = .ok (.iaload, 1) := by decide +kernel
theorem dX11_placeInList_16 : decode cX11_placeInList 16 = .ok (.iload_n 1, 1) := by decide +kernel
theorem dX11_placeInList_17 : decode cX11_placeInList 17 = .ok (.if_icmp .ne 5, 3) := by decide +kernel
theorem dX11_placeInList_20 : decode cX11_placeInList 20 = .ok (.iload_n 2, 1) := by decide +kernel
theorem dX11_placeInList_21 : decode cX11_placeInList 21 = .ok (.ireturn, 1) := by decide +kernel
theorem dX11_placeInList_22 : decode cX11_placeInList 22 = .ok (.iinc 2 1, 3) := by decide +kernel
theorem dX11_placeInList_25 : decode cX11_placeInList 25 = .ok (.goto (-23), 3) := by decide +kernel
theorem dX11_placeInList_28 : decode cX11_placeInList 28 = .ok (.iconst (-1), 1) := by decide +kernel
theorem dX11_placeInList_29 : decode cX11_placeInList 29 = .ok (.ireturn, 1) := by decide +kernel
theorem dX11_thickTogether_0 : decode cX11_thickTogether 0 = .ok (.iconst 0, 1) := by decide +kernel
theorem dX11_thickTogether_1 : decode cX11_thickTogether 1 = .ok (.istore_n 2, 1) := by decide +kernel
theorem dX11_thickTogether_2 : decode cX11_thickTogether 2 = .ok (.iconst 0, 1) := by decide +kernel
theorem dX11_thickTogether_3 : decode cX11_thickTogether 3 = .ok (.istore_n 3, 1) := by decide +kernel
theorem dX11_thickTogether_4 : decode cX11_thickTogether 4 = .ok (.iload_n 3, 1) := by decide +kernel
theorem dX11_thickTogether_5 : decode cX11_thickTogether 5 = .ok (.aload_n 0, 1) := by decide +kernel
theorem dX11_thickTogether_6 : decode cX11_thickTogether 6 = .ok (.getfield 15, 3) := by decide +kernel
theorem dX11_thickTogether_9 : decode cX11_thickTogether 9 = .ok (.if_icmp .ge 36, 3) := by decide +kernel
theorem dX11_thickTogether_12 : decode cX11_thickTogether 12 = .ok (.iload_n 1, 1) := by decide +kernel
theorem dX11_thickTogether_13 : decode cX11_thickTogether 13 = .ok (.iload_n 3, 1) := by decide +kernel
theorem dX11_thickTogether_14 : decode cX11_thickTogether 14 = .ok (.ishr, 1) := by decide +kernel
theorem dX11_thickTogether_15 : decode cX11_thickTogether 15 = .ok (.iconst 1, 1) := by decide +kernel
theorem dX11_thickTogether_16 : decode cX11_thickTogether 16 = .ok (.iand, 1) := by decide +kernel
theorem dX11_thickTogether_17 : decode cX11_thickTogether 17 = .ok (.ifCond .eq 22, 3) := by decide +kernel
theorem dX11_thickTogether_20 : decode cX11_thickTogether 20 = .ok (.iload_n 2, 1) := by decide +kernel
theorem dX11_thickTogether_21 : decode cX11_thickTogether 21 = .ok (.aload_n 0, 1) := by decide +kernel
theorem dX11_thickTogether_22 : decode cX11_thickTogether 22 = .ok (.getfield 31, 3) := by decide +kernel
theorem dX11_thickTogether_25 : decode cX11_thickTogether 25 = .ok (.aload_n 0, 1) := by decide +kernel
theorem dX11_thickTogether_26 : decode cX11_thickTogether 26 = .ok (.getfield 11, 3) := by decide +kernel
theorem dX11_thickTogether_29 : decode cX11_thickTogether 29 = .ok (.iload_n 3, 1) := by decide +kernel
theorem dX11_thickTogether_30 : decode cX11_thickTogether 30 = .ok (.aaload, 1) := by decide +kernel
theorem dX11_thickTogether_31 : decode cX11_thickTogether 31 = .ok (.getfield 157, 3) := by decide +kernel
theorem dX11_thickTogether_34 : decode cX11_thickTogether 34 = .ok (.invokestatic 160, 3) := by decide +kernel
theorem dX11_thickTogether_37 : decode cX11_thickTogether 37 = .ok (.iadd, 1) := by decide +kernel
theorem dX11_thickTogether_38 : decode cX11_thickTogether 38 = .ok (.istore_n 2, 1) := by decide +kernel
theorem dX11_thickTogether_39 : decode cX11_thickTogether 39 = .ok (.iinc 3 1, 3) := by decide +kernel
theorem dX11_thickTogether_42 : decode cX11_thickTogether 42 = .ok (.goto (-38), 3) := by decide +kernel
theorem dX11_thickTogether_45 : decode cX11_thickTogether 45 = .ok (.iload_n 2, 1) := by decide +kernel
theorem dX11_thickTogether_46 : decode cX11_thickTogether 46 = .ok (.ireturn, 1) := by decide +kernel
theorem dX11_forgetBest_0 : decode cX11_forgetBest 0 = .ok (.aload_n 0, 1) := by decide +kernel
theorem dX11_forgetBest_1 : decode cX11_forgetBest 1 = .ok (.getfield 77, 3) := by decide +kernel
theorem dX11_forgetBest_4 : decode cX11_forgetBest 4 = .ok (.iconst 0, 1) := by decide +kernel
theorem dX11_forgetBest_5 : decode cX11_forgetBest 5 = .ok (.putfield 316, 3) := by decide +kernel
theorem dX11_forgetBest_8 : decode cX11_forgetBest 8 = .ok (.aload_n 0, 1) := by decide +kernel
theorem dX11_forgetBest_9 : decode cX11_forgetBest 9 = .ok (.getfield 81, 3) := by decide +kernel
theorem dX11_forgetBest_12 : decode cX11_forgetBest 12 = .ok (.iconst 0, 1) := by decide +kernel
theorem dX11_forgetBest_13 : decode cX11_forgetBest 13 = .ok (.putfield 316, 3) := by decide +kernel
theorem dX11_forgetBest_16 : decode cX11_forgetBest 16 = .ok (.return_, 1) := by decide +kernel
theorem dX11_searchOf_0 : decode cX11_searchOf 0 = .ok (.iload_n 1, 1) := by decide +kernel
theorem dX11_searchOf_1 : decode cX11_searchOf 1 = .ok (.ifCond .ne 10, 3) := by decide +kernel
theorem dX11_searchOf_4 : decode cX11_searchOf 4 = .ok (.aload_n 0, 1) := by decide +kernel
theorem dX11_searchOf_5 : decode cX11_searchOf 5 = .ok (.getfield 77, 3) := by decide +kernel
theorem dX11_searchOf_8 : decode cX11_searchOf 8 = .ok (.goto 7, 3) := by decide +kernel
theorem dX11_searchOf_11 : decode cX11_searchOf 11 = .ok (.aload_n 0, 1) := by decide +kernel
theorem dX11_searchOf_12 : decode cX11_searchOf 12 = .ok (.getfield 81, 3) := by decide +kernel
theorem dX11_searchOf_15 : decode cX11_searchOf 15 = .ok (.areturn, 1) := by decide +kernel
theorem dX11_goList_0 : decode cX11_goList 0 = .ok (.aload_n 0, 1) := by decide +kernel
theorem dX11_goList_1 : decode cX11_goList 1 = .ok (.aload_n 0, 1) := by decide +kernel
theorem dX11_goList_2 : decode cX11_goList 2 = .ok (.getfield 19, 3) := by decide +kernel
theorem dX11_goList_5 : decode cX11_goList 5 = .ok (.iconst 0, 1) := by decide +kernel
theorem dX11_goList_6 : decode cX11_goList 6 = .ok (.aload_n 0, 1) := by decide +kernel
theorem dX11_goList_7 : decode cX11_goList 7 = .ok (.getfield 15, 3) := by decide +kernel
theorem dX11_goList_10 : decode cX11_goList 10 = .ok (.invokevirtual 236, 3) := by decide +kernel
theorem dX11_goList_13 : decode cX11_goList 13 = .ok (.ireturn, 1) := by decide +kernel
theorem dX11_goThrough_0 : decode cX11_goThrough 0 = .ok (.aload_n 0, 1) := by decide +kernel
theorem dX11_goThrough_1 : decode cX11_goThrough 1 = .ok (.getfield 62, 3) := by decide +kernel
theorem dX11_goThrough_4 : decode cX11_goThrough 4 = .ok (.aload_n 0, 1) := by decide +kernel
theorem dX11_goThrough_5 : decode cX11_goThrough 5 = .ok (.getfield 31, 3) := by decide +kernel
theorem dX11_goThrough_8 : decode cX11_goThrough 8 = .ok (.invokevirtual 320, 3) := by decide +kernel
theorem dX11_goThrough_11 : decode cX11_goThrough 11 = .ok (.iload_n 2, 1) := by decide +kernel
theorem dX11_goThrough_12 : decode cX11_goThrough 12 = .ok (.istore 4, 2) := by decide +kernel
theorem dX11_goThrough_14 : decode cX11_goThrough 14 = .ok (.iload 4, 2) := by decide +kernel
theorem dX11_goThrough_16 : decode cX11_goThrough 16 = .ok (.iload_n 3, 1) := by decide +kernel
theorem dX11_goThrough_17 : decode cX11_goThrough 17 = .ok (.if_icmp .ge 47, 3) := by decide +kernel
theorem dX11_goThrough_20 : decode cX11_goThrough 20 = .ok (.aload_n 0, 1) := by decide +kernel
theorem dX11_goThrough_21 : decode cX11_goThrough 21 = .ok (.aload_n 1, 1) := by decide +kernel
theorem dX11_goThrough_22 : decode cX11_goThrough 22 = .ok (.iload 4, 2) := by decide +kernel
theorem dX11_goThrough_24 : decode cX11_goThrough 24 = .ok (.iaload, 1) := by decide +kernel
theorem dX11_goThrough_25 : decode cX11_goThrough 25 = .ok (.invokevirtual 137, 3) := by decide +kernel
theorem dX11_goThrough_28 : decode cX11_goThrough 28 = .ok (.astore 5, 2) := by decide +kernel
theorem dX11_goThrough_30 : decode cX11_goThrough 30 = .ok (.aload 5, 2) := by decide +kernel
theorem dX11_goThrough_32 : decode cX11_goThrough 32 = .ok (.ifnull 26, 3) := by decide +kernel
theorem dX11_goThrough_35 : decode cX11_goThrough 35 = .ok (.aload_n 0, 1) := by decide +kernel
theorem dX11_goThrough_36 : decode cX11_goThrough 36 = .ok (.getfield 66, 3) := by decide +kernel
theorem dX11_goThrough_39 : decode cX11_goThrough 39 = .ok (.aload 5, 2) := by decide +kernel
theorem dX11_goThrough_41 : decode cX11_goThrough 41 = .ok (.getfield 323, 3) := by decide +kernel
theorem dX11_goThrough_44 : decode cX11_goThrough 44 = .ok (.aload_n 0, 1) := by decide +kernel
theorem dX11_goThrough_45 : decode cX11_goThrough 45 = .ok (.getfield 62, 3) := by decide +kernel
theorem dX11_goThrough_48 : decode cX11_goThrough 48 = .ok (.aload 5, 2) := by decide +kernel
theorem dX11_goThrough_50 : decode cX11_goThrough 50 = .ok (.aload_n 0, 1) := by decide +kernel
theorem dX11_goThrough_51 : decode cX11_goThrough 51 = .ok (.getfield 31, 3) := by decide +kernel
theorem dX11_goThrough_54 : decode cX11_goThrough 54 = .ok (.invokevirtual 326, 3) := by decide +kernel
theorem dX11_goThrough_57 : decode cX11_goThrough 57 = .ok (.iastore, 1) := by decide +kernel
theorem dX11_goThrough_58 : decode cX11_goThrough 58 = .ok (.iinc 4 1, 3) := by decide +kernel
theorem dX11_goThrough_61 : decode cX11_goThrough 61 = .ok (.goto (-47), 3) := by decide +kernel
theorem dX11_goThrough_64 : decode cX11_goThrough 64 = .ok (.aload_n 0, 1) := by decide +kernel
theorem dX11_goThrough_65 : decode cX11_goThrough 65 = .ok (.getfield 62, 3) := by decide +kernel
theorem dX11_goThrough_68 : decode cX11_goThrough 68 = .ok (.getfield 330, 3) := by decide +kernel
theorem dX11_goThrough_71 : decode cX11_goThrough 71 = .ok (.ireturn, 1) := by decide +kernel
theorem dX11_goWithout_0 : decode cX11_goWithout 0 = .ok (.iconst 0, 1) := by decide +kernel
theorem dX11_goWithout_1 : decode cX11_goWithout 1 = .ok (.istore_n 2, 1) := by decide +kernel
theorem dX11_goWithout_2 : decode cX11_goWithout 2 = .ok (.iconst 0, 1) := by decide +kernel
theorem dX11_goWithout_3 : decode cX11_goWithout 3 = .ok (.istore_n 3, 1) := by decide +kernel
theorem dX11_goWithout_4 : decode cX11_goWithout 4 = .ok (.iload_n 3, 1) := by decide +kernel
theorem dX11_goWithout_5 : decode cX11_goWithout 5 = .ok (.aload_n 0, 1) := by decide +kernel
theorem dX11_goWithout_6 : decode cX11_goWithout 6 = .ok (.getfield 15, 3) := by decide +kernel
theorem dX11_goWithout_9 : decode cX11_goWithout 9 = .ok (.if_icmp .ge 37, 3) := by decide +kernel
theorem dX11_goWithout_12 : decode cX11_goWithout 12 = .ok (.iload_n 1, 1) := by decide +kernel
theorem dX11_goWithout_13 : decode cX11_goWithout 13 = .ok (.aload_n 0, 1) := by decide +kernel
theorem dX11_goWithout_14 : decode cX11_goWithout 14 = .ok (.getfield 19, 3) := by decide +kernel
theorem dX11_goWithout_17 : decode cX11_goWithout 17 = .ok (.iload_n 3, 1) := by decide +kernel
theorem dX11_goWithout_18 : decode cX11_goWithout 18 = .ok (.iaload, 1) := by decide +kernel
theorem dX11_goWithout_19 : decode cX11_goWithout 19 = .ok (.ishr, 1) := by decide +kernel
theorem dX11_goWithout_20 : decode cX11_goWithout 20 = .ok (.iconst 1, 1) := by decide +kernel
theorem dX11_goWithout_21 : decode cX11_goWithout 21 = .ok (.iand, 1) := by decide +kernel
theorem dX11_goWithout_22 : decode cX11_goWithout 22 = .ok (.ifCond .ne 18, 3) := by decide +kernel
theorem dX11_goWithout_25 : decode cX11_goWithout 25 = .ok (.aload_n 0, 1) := by decide +kernel
theorem dX11_goWithout_26 : decode cX11_goWithout 26 = .ok (.getfield 69, 3) := by decide +kernel
theorem dX11_goWithout_29 : decode cX11_goWithout 29 = .ok (.iload_n 2, 1) := by decide +kernel
theorem dX11_goWithout_30 : decode cX11_goWithout 30 = .ok (.aload_n 0, 1) := by decide +kernel
theorem dX11_goWithout_31 : decode cX11_goWithout 31 = .ok (.getfield 19, 3) := by decide +kernel
theorem dX11_goWithout_34 : decode cX11_goWithout 34 = .ok (.iload_n 3, 1) := by decide +kernel
theorem dX11_goWithout_35 : decode cX11_goWithout 35 = .ok (.iaload, 1) := by decide +kernel
theorem dX11_goWithout_36 : decode cX11_goWithout 36 = .ok (.iastore, 1) := by decide +kernel
theorem dX11_goWithout_37 : decode cX11_goWithout 37 = .ok (.iinc 2 1, 3) := by decide +kernel
theorem dX11_goWithout_40 : decode cX11_goWithout 40 = .ok (.iinc 3 1, 3) := by decide +kernel
theorem dX11_goWithout_43 : decode cX11_goWithout 43 = .ok (.goto (-39), 3) := by decide +kernel
theorem dX11_goWithout_46 : decode cX11_goWithout 46 = .ok (.aload_n 0, 1) := by decide +kernel
theorem dX11_goWithout_47 : decode cX11_goWithout 47 = .ok (.aload_n 0, 1) := by decide +kernel
theorem dX11_goWithout_48 : decode cX11_goWithout 48 = .ok (.getfield 69, 3) := by decide +kernel
theorem dX11_goWithout_51 : decode cX11_goWithout 51 = .ok (.iconst 0, 1) := by decide +kernel
theorem dX11_goWithout_52 : decode cX11_goWithout 52 = .ok (.iload_n 2, 1) := by decide +kernel
theorem dX11_goWithout_53 : decode cX11_goWithout 53 = .ok (.invokevirtual 236, 3) := by decide +kernel
theorem dX11_goWithout_56 : decode cX11_goWithout 56 = .ok (.ireturn, 1) := by decide +kernel
theorem dX11_wayRank_0 : decode cX11_wayRank 0 = .ok (.aload_n 0, 1) := by decide +kernel
theorem dX11_wayRank_1 : decode cX11_wayRank 1 = .ok (.iload_n 1, 1) := by decide +kernel
theorem dX11_wayRank_2 : decode cX11_wayRank 2 = .ok (.invokevirtual 137, 3) := by decide +kernel
theorem dX11_wayRank_5 : decode cX11_wayRank 5 = .ok (.astore_n 3, 1) := by decide +kernel
theorem dX11_wayRank_6 : decode cX11_wayRank 6 = .ok (.aload_n 3, 1) := by decide +kernel
theorem dX11_wayRank_7 : decode cX11_wayRank 7 = .ok (.ifnonnull 5, 3) := by decide +kernel
theorem dX11_wayRank_10 : decode cX11_wayRank 10 = .ok (.iconst 0, 1) := by decide +kernel
theorem dX11_wayRank_11 : decode cX11_wayRank 11 = .ok (.ireturn, 1) := by decide +kernel
theorem dX11_wayRank_12 : decode cX11_wayRank 12 = .ok (.iload_n 2, 1) := by decide +kernel
theorem dX11_wayRank_13 : decode cX11_wayRank 13 = .ok (.ifCond .ne 22, 3) := by decide +kernel
theorem dX11_wayRank_16 : decode cX11_wayRank 16 = .ok (.aload_n 3, 1) := by decide +kernel
theorem dX11_wayRank_17 : decode cX11_wayRank 17 = .ok (.getfield 333, 3) := by decide +kernel
theorem dX11_wayRank_20 : decode cX11_wayRank 20 = .ok (.iconst 1, 1) := by decide +kernel
theorem dX11_wayRank_21 : decode cX11_wayRank 21 = .ok (.if_icmp .ne 14, 3) := by decide +kernel
theorem dX11_wayRank_24 : decode cX11_wayRank 24 = .ok (.sipush 200, 3) := by decide +kernel
theorem dX11_wayRank_27 : decode cX11_wayRank 27 = .ok (.aload_n 3, 1) := by decide +kernel
theorem dX11_wayRank_28 : decode cX11_wayRank 28 = .ok (.getfield 336, 3) := by decide +kernel
theorem dX11_wayRank_31 : decode cX11_wayRank 31 = .ok (.isub, 1) := by decide +kernel
theorem dX11_wayRank_32 : decode cX11_wayRank 32 = .ok (.goto 7, 3) := by decide +kernel
theorem dX11_wayRank_35 : decode cX11_wayRank 35 = .ok (.aload_n 3, 1) := by decide +kernel
theorem dX11_wayRank_36 : decode cX11_wayRank 36 = .ok (.getfield 336, 3) := by decide +kernel
theorem dX11_wayRank_39 : decode cX11_wayRank 39 = .ok (.ireturn, 1) := by decide +kernel
theorem dX11_wantedBy_0 : decode cX11_wantedBy 0 = .ok (.aload_n 0, 1) := by decide +kernel
theorem dX11_wantedBy_1 : decode cX11_wantedBy 1 = .ok (.getfield 43, 3) := by decide +kernel
theorem dX11_wantedBy_4 : decode cX11_wantedBy 4 = .ok (.aload_n 0, 1) := by decide +kernel
theorem dX11_wantedBy_5 : decode cX11_wantedBy 5 = .ok (.getfield 50, 3) := by decide +kernel
theorem dX11_wantedBy_8 : decode cX11_wantedBy 8 = .ok (.aaload, 1) := by decide +kernel
theorem dX11_wantedBy_9 : decode cX11_wantedBy 9 = .ok (.aload_n 1, 1) := by decide +kernel
theorem dX11_wantedBy_10 : decode cX11_wantedBy 10 = .ok (.aload_n 0, 1) := by decide +kernel
theorem dX11_wantedBy_11 : decode cX11_wantedBy 11 = .ok (.getfield 31, 3) := by decide +kernel
theorem dX11_wantedBy_14 : decode cX11_wantedBy 14 = .ok (.iconst 5, 1) := by decide +kernel
theorem dX11_wantedBy_15 : decode cX11_wantedBy 15 = .ok (.iaload, 1) := by decide +kernel
theorem dX11_wantedBy_16 : decode cX11_wantedBy 16 = .ok (.invokevirtual 339, 3) := by decide +kernel
theorem dX11_wantedBy_19 : decode cX11_wantedBy 19 = .ok (.ireturn, 1) := by decide +kernel
theorem dX11_lateness_0 : decode cX11_lateness 0 = .ok (.iconst 0, 1) := by decide +kernel
theorem dX11_lateness_1 : decode cX11_lateness 1 = .ok (.aload_n 0, 1) := by decide +kernel
theorem dX11_lateness_2 : decode cX11_lateness 2 = .ok (.getfield 66, 3) := by decide +kernel
theorem dX11_lateness_5 : decode cX11_lateness 5 = .ok (.aload_n 1, 1) := by decide +kernel
theorem dX11_lateness_6 : decode cX11_lateness 6 = .ok (.getfield 323, 3) := by decide +kernel
theorem dX11_lateness_9 : decode cX11_lateness 9 = .ok (.iaload, 1) := by decide +kernel
theorem dX11_lateness_10 : decode cX11_lateness 10 = .ok (.aload_n 0, 1) := by decide +kernel
theorem dX11_lateness_11 : decode cX11_lateness 11 = .ok (.aload_n 1, 1) := by decide +kernel
theorem dX11_lateness_12 : decode cX11_lateness 12 = .ok (.invokevirtual 168, 3) := by decide +kernel
theorem dX11_lateness_15 : decode cX11_lateness 15 = .ok (.isub, 1) := by decide +kernel
theorem dX11_lateness_16 : decode cX11_lateness 16 = .ok (.invokestatic 246, 3) := by decide +kernel
theorem dX11_lateness_19 : decode cX11_lateness 19 = .ok (.ireturn, 1) := by decide +kernel
theorem dX11_giftOf_0 : decode cX11_giftOf 0 = .ok (.aload_n 0, 1) := by decide +kernel
theorem dX11_giftOf_1 : decode cX11_giftOf 1 = .ok (.getfield 43, 3) := by decide +kernel
theorem dX11_giftOf_4 : decode cX11_giftOf 4 = .ok (.aload_n 0, 1) := by decide +kernel
theorem dX11_giftOf_5 : decode cX11_giftOf 5 = .ok (.getfield 50, 3) := by decide +kernel
theorem dX11_giftOf_8 : decode cX11_giftOf 8 = .ok (.aaload, 1) := by decide +kernel
theorem dX11_giftOf_9 : decode cX11_giftOf 9 = .ok (.aload_n 1, 1) := by decide +kernel
theorem dX11_giftOf_10 : decode cX11_giftOf 10 = .ok (.aload_n 0, 1) := by decide +kernel
theorem dX11_giftOf_11 : decode cX11_giftOf 11 = .ok (.aload_n 1, 1) := by decide +kernel
theorem dX11_giftOf_12 : decode cX11_giftOf 12 = .ok (.invokevirtual 185, 3) := by decide +kernel
theorem dX11_giftOf_15 : decode cX11_giftOf 15 = .ok (.aload_n 0, 1) := by decide +kernel
theorem dX11_giftOf_16 : decode cX11_giftOf 16 = .ok (.getfield 31, 3) := by decide +kernel
theorem dX11_giftOf_19 : decode cX11_giftOf 19 = .ok (.iconst 5, 1) := by decide +kernel
theorem dX11_giftOf_20 : decode cX11_giftOf 20 = .ok (.iaload, 1) := by decide +kernel
theorem dX11_giftOf_21 : decode cX11_giftOf 21 = .ok (.invokevirtual 342, 3) := by decide +kernel
theorem dX11_giftOf_24 : decode cX11_giftOf 24 = .ok (.ireturn, 1) := by decide +kernel
theorem dX11_lateCount_0 : decode cX11_lateCount 0 = .ok (.iconst 0, 1) := by decide +kernel
theorem dX11_lateCount_1 : decode cX11_lateCount 1 = .ok (.istore_n 1, 1) := by decide +kernel
theorem dX11_lateCount_2 : decode cX11_lateCount 2 = .ok (.iconst 0, 1) := by decide +kernel
theorem dX11_lateCount_3 : decode cX11_lateCount 3 = .ok (.istore_n 2, 1) := by decide +kernel
theorem dX11_lateCount_4 : decode cX11_lateCount 4 = .ok (.iload_n 2, 1) := by decide +kernel
theorem dX11_lateCount_5 : decode cX11_lateCount 5 = .ok (.aload_n 0, 1) := by decide +kernel
theorem dX11_lateCount_6 : decode cX11_lateCount 6 = .ok (.getfield 15, 3) := by decide +kernel
theorem dX11_lateCount_9 : decode cX11_lateCount 9 = .ok (.if_icmp .ge 25, 3) := by decide +kernel
theorem dX11_lateCount_12 : decode cX11_lateCount 12 = .ok (.aload_n 0, 1) := by decide +kernel
theorem dX11_lateCount_13 : decode cX11_lateCount 13 = .ok (.aload_n 0, 1) := by decide +kernel
theorem dX11_lateCount_14 : decode cX11_lateCount 14 = .ok (.getfield 11, 3) := by decide +kernel
theorem dX11_lateCount_17 : decode cX11_lateCount 17 = .ok (.iload_n 2, 1) := by decide +kernel
theorem dX11_lateCount_18 : decode cX11_lateCount 18 = .ok (.aaload, 1) := by decide +kernel
theorem dX11_lateCount_19 : decode cX11_lateCount 19 = .ok (.invokevirtual 185, 3) := by decide +kernel
theorem dX11_lateCount_22 : decode cX11_lateCount 22 = .ok (.ifCond .le 6, 3) := by decide +kernel
theorem dX11_lateCount_25 : decode cX11_lateCount 25 = .ok (.iinc 1 1, 3) := by decide +kernel
theorem dX11_lateCount_28 : decode cX11_lateCount 28 = .ok (.iinc 2 1, 3) := by decide +kernel
theorem dX11_lateCount_31 : decode cX11_lateCount 31 = .ok (.goto (-27), 3) := by decide +kernel
theorem dX11_lateCount_34 : decode cX11_lateCount 34 = .ok (.iload_n 1, 1) := by decide +kernel
theorem dX11_lateCount_35 : decode cX11_lateCount 35 = .ok (.ireturn, 1) := by decide +kernel
theorem dX11_ringing_0 : decode cX11_ringing 0 = .ok (.iconst 0, 1) := by decide +kernel
theorem dX11_ringing_1 : decode cX11_ringing 1 = .ok (.istore_n 1, 1) := by decide +kernel
theorem dX11_ringing_2 : decode cX11_ringing 2 = .ok (.iconst 0, 1) := by decide +kernel
theorem dX11_ringing_3 : decode cX11_ringing 3 = .ok (.istore_n 2, 1) := by decide +kernel
theorem dX11_ringing_4 : decode cX11_ringing 4 = .ok (.iload_n 2, 1) := by decide +kernel
theorem dX11_ringing_5 : decode cX11_ringing 5 = .ok (.aload_n 0, 1) := by decide +kernel
theorem dX11_ringing_6 : decode cX11_ringing 6 = .ok (.getfield 15, 3) := by decide +kernel
theorem dX11_ringing_9 : decode cX11_ringing 9 = .ok (.if_icmp .ge 52, 3) := by decide +kernel
theorem dX11_ringing_12 : decode cX11_ringing 12 = .ok (.aload_n 0, 1) := by decide +kernel
theorem dX11_ringing_13 : decode cX11_ringing 13 = .ok (.getfield 43, 3) := by decide +kernel
theorem dX11_ringing_16 : decode cX11_ringing 16 = .ok (.aload_n 0, 1) := by decide +kernel
theorem dX11_ringing_17 : decode cX11_ringing 17 = .ok (.getfield 50, 3) := by decide +kernel
theorem dX11_ringing_20 : decode cX11_ringing 20 = .ok (.aaload, 1) := by decide +kernel
theorem dX11_ringing_21 : decode cX11_ringing 21 = .ok (.aload_n 0, 1) := by decide +kernel
theorem dX11_ringing_22 : decode cX11_ringing 22 = .ok (.getfield 11, 3) := by decide +kernel
theorem dX11_ringing_25 : decode cX11_ringing 25 = .ok (.iload_n 2, 1) := by decide +kernel
theorem dX11_ringing_26 : decode cX11_ringing 26 = .ok (.aaload, 1) := by decide +kernel
theorem dX11_ringing_27 : decode cX11_ringing 27 = .ok (.aload_n 0, 1) := by decide +kernel
theorem dX11_ringing_28 : decode cX11_ringing 28 = .ok (.aload_n 0, 1) := by decide +kernel
theorem dX11_ringing_29 : decode cX11_ringing 29 = .ok (.getfield 11, 3) := by decide +kernel
theorem dX11_ringing_32 : decode cX11_ringing 32 = .ok (.iload_n 2, 1) := by decide +kernel
theorem dX11_ringing_33 : decode cX11_ringing 33 = .ok (.aaload, 1) := by decide +kernel
theorem dX11_ringing_34 : decode cX11_ringing 34 = .ok (.invokevirtual 185, 3) := by decide +kernel
theorem dX11_ringing_37 : decode cX11_ringing 37 = .ok (.aload_n 0, 1) := by decide +kernel
theorem dX11_ringing_38 : decode cX11_ringing 38 = .ok (.getfield 31, 3) := by decide +kernel
theorem dX11_ringing_41 : decode cX11_ringing 41 = .ok (.iconst 5, 1) := by decide +kernel
theorem dX11_ringing_42 : decode cX11_ringing 42 = .ok (.iaload, 1) := by decide +kernel
theorem dX11_ringing_43 : decode cX11_ringing 43 = .ok (.invokevirtual 346, 3) := by decide +kernel
theorem dX11_ringing_46 : decode cX11_ringing 46 = .ok (.ifCond .eq 9, 3) := by decide +kernel
theorem dX11_ringing_49 : decode cX11_ringing 49 = .ok (.iload_n 1, 1) := by decide +kernel
theorem dX11_ringing_50 : decode cX11_ringing 50 = .ok (.iconst 1, 1) := by decide +kernel
theorem dX11_ringing_51 : decode cX11_ringing 51 = .ok (.iload_n 2, 1) := by decide +kernel
theorem dX11_ringing_52 : decode cX11_ringing 52 = .ok (.ishl, 1) := by decide +kernel
theorem dX11_ringing_53 : decode cX11_ringing 53 = .ok (.ior, 1) := by decide +kernel
theorem dX11_ringing_54 : decode cX11_ringing 54 = .ok (.istore_n 1, 1) := by decide +kernel
theorem dX11_ringing_55 : decode cX11_ringing 55 = .ok (.iinc 2 1, 3) := by decide +kernel
theorem dX11_ringing_58 : decode cX11_ringing 58 = .ok (.goto (-54), 3) := by decide +kernel
theorem dX11_ringing_61 : decode cX11_ringing 61 = .ok (.iload_n 1, 1) := by decide +kernel
theorem dX11_ringing_62 : decode cX11_ringing 62 = .ok (.ireturn, 1) := by decide +kernel
theorem dX11_purseWithout_0 : decode cX11_purseWithout 0 = .ok (.iconst 0, 1) := by decide +kernel
theorem dX11_purseWithout_1 : decode cX11_purseWithout 1 = .ok (.istore_n 2, 1) := by decide +kernel
theorem dX11_purseWithout_2 : decode cX11_purseWithout 2 = .ok (.iconst 0, 1) := by decide +kernel
theorem dX11_purseWithout_3 : decode cX11_purseWithout 3 = .ok (.istore_n 3, 1) := by decide +kernel
theorem dX11_purseWithout_4 : decode cX11_purseWithout 4 = .ok (.iload_n 3, 1) := by decide +kernel
theorem dX11_purseWithout_5 : decode cX11_purseWithout 5 = .ok (.aload_n 0, 1) := by decide +kernel
theorem dX11_purseWithout_6 : decode cX11_purseWithout 6 = .ok (.getfield 15, 3) := by decide +kernel
theorem dX11_purseWithout_9 : decode cX11_purseWithout 9 = .ok (.if_icmp .ge 30, 3) := by decide +kernel
theorem dX11_purseWithout_12 : decode cX11_purseWithout 12 = .ok (.iload_n 1, 1) := by decide +kernel
theorem dX11_purseWithout_13 : decode cX11_purseWithout 13 = .ok (.iload_n 3, 1) := by decide +kernel
theorem dX11_purseWithout_14 : decode cX11_purseWithout 14 = .ok (.ishr, 1) := by decide +kernel
theorem dX11_purseWithout_15 : decode cX11_purseWithout 15 = .ok (.iconst 1, 1) := by decide +kernel
theorem dX11_purseWithout_16 : decode cX11_purseWithout 16 = .ok (.iand, 1) := by decide +kernel
theorem dX11_purseWithout_17 : decode cX11_purseWithout 17 = .ok (.ifCond .ne 16, 3) := by decide +kernel
theorem dX11_purseWithout_20 : decode cX11_purseWithout 20 = .ok (.iload_n 2, 1) := by decide +kernel
theorem dX11_purseWithout_21 : decode cX11_purseWithout 21 = .ok (.aload_n 0, 1) := by decide +kernel
theorem dX11_purseWithout_22 : decode cX11_purseWithout 22 = .ok (.aload_n 0, 1) := by decide +kernel
theorem dX11_purseWithout_23 : decode cX11_purseWithout 23 = .ok (.getfield 11, 3) := by decide +kernel
theorem dX11_purseWithout_26 : decode cX11_purseWithout 26 = .ok (.iload_n 3, 1) := by decide +kernel
theorem dX11_purseWithout_27 : decode cX11_purseWithout 27 = .ok (.aaload, 1) := by decide +kernel
theorem dX11_purseWithout_28 : decode cX11_purseWithout 28 = .ok (.invokevirtual 188, 3) := by decide +kernel
theorem dX11_purseWithout_31 : decode cX11_purseWithout 31 = .ok (.iadd, 1) := by decide +kernel
theorem dX11_purseWithout_32 : decode cX11_purseWithout 32 = .ok (.istore_n 2, 1) := by decide +kernel
theorem dX11_purseWithout_33 : decode cX11_purseWithout 33 = .ok (.iinc 3 1, 3) := by decide +kernel
theorem dX11_purseWithout_36 : decode cX11_purseWithout 36 = .ok (.goto (-32), 3) := by decide +kernel
theorem dX11_purseWithout_39 : decode cX11_purseWithout 39 = .ok (.iload_n 2, 1) := by decide +kernel
theorem dX11_purseWithout_40 : decode cX11_purseWithout 40 = .ok (.ireturn, 1) := by decide +kernel
theorem dX11_wrongSorts_0 : decode cX11_wrongSorts 0 = .ok (.iconst 0, 1) := by decide +kernel
theorem dX11_wrongSorts_1 : decode cX11_wrongSorts 1 = .ok (.istore_n 2, 1) := by decide +kernel
theorem dX11_wrongSorts_2 : decode cX11_wrongSorts 2 = .ok (.iconst 1, 1) := by decide +kernel
theorem dX11_wrongSorts_3 : decode cX11_wrongSorts 3 = .ok (.iload_n 1, 1) := by decide +kernel
theorem dX11_wrongSorts_4 : decode cX11_wrongSorts 4 = .ok (.invokestatic 246, 3) := by decide +kernel
theorem dX11_wrongSorts_7 : decode cX11_wrongSorts 7 = .ok (.istore_n 3, 1) := by decide +kernel
theorem dX11_wrongSorts_8 : decode cX11_wrongSorts 8 = .ok (.iload_n 3, 1) := by decide +kernel
theorem dX11_wrongSorts_9 : decode cX11_wrongSorts 9 = .ok (.aload_n 0, 1) := by decide +kernel
theorem dX11_wrongSorts_10 : decode cX11_wrongSorts 10 = .ok (.getfield 15, 3) := by decide +kernel
theorem dX11_wrongSorts_13 : decode cX11_wrongSorts 13 = .ok (.if_icmp .ge 53, 3) := by decide +kernel
theorem dX11_wrongSorts_16 : decode cX11_wrongSorts 16 = .ok (.aload_n 0, 1) := by decide +kernel
theorem dX11_wrongSorts_17 : decode cX11_wrongSorts 17 = .ok (.getfield 11, 3) := by decide +kernel
theorem dX11_wrongSorts_20 : decode cX11_wrongSorts 20 = .ok (.aload_n 0, 1) := by decide +kernel
theorem dX11_wrongSorts_21 : decode cX11_wrongSorts 21 = .ok (.getfield 19, 3) := by decide +kernel
theorem dX11_wrongSorts_24 : decode cX11_wrongSorts 24 = .ok (.iload_n 3, 1) := by decide +kernel
theorem dX11_wrongSorts_25 : decode cX11_wrongSorts 25 = .ok (.iaload, 1) := by decide +kernel
theorem dX11_wrongSorts_26 : decode cX11_wrongSorts 26 = .ok (.aaload, 1) := by decide +kernel
theorem dX11_wrongSorts_27 : decode cX11_wrongSorts 27 = .ok (.getfield 157, 3) := by decide +kernel
theorem dX11_wrongSorts_30 : decode cX11_wrongSorts 30 = .ok (.aload_n 0, 1) := by decide +kernel
theorem dX11_wrongSorts_31 : decode cX11_wrongSorts 31 = .ok (.getfield 11, 3) := by decide +kernel
theorem dX11_wrongSorts_34 : decode cX11_wrongSorts 34 = .ok (.aload_n 0, 1) := by decide +kernel
theorem dX11_wrongSorts_35 : decode cX11_wrongSorts 35 = .ok (.getfield 19, 3) := by decide +kernel
theorem dX11_wrongSorts_38 : decode cX11_wrongSorts 38 = .ok (.iload_n 3, 1) := by decide +kernel
theorem dX11_wrongSorts_39 : decode cX11_wrongSorts 39 = .ok (.iconst 1, 1) := by decide +kernel
theorem dX11_wrongSorts_40 : decode cX11_wrongSorts 40 = .ok (.isub, 1) := by decide +kernel
theorem dX11_wrongSorts_41 : decode cX11_wrongSorts 41 = .ok (.iaload, 1) := by decide +kernel
theorem dX11_wrongSorts_42 : decode cX11_wrongSorts 42 = .ok (.aaload, 1) := by decide +kernel
theorem dX11_wrongSorts_43 : decode cX11_wrongSorts 43 = .ok (.getfield 157, 3) := by decide +kernel
theorem dX11_wrongSorts_46 : decode cX11_wrongSorts 46 = .ok (.if_icmp .eq 14, 3) := by decide +kernel
theorem dX11_wrongSorts_49 : decode cX11_wrongSorts 49 = .ok (.iload_n 2, 1) := by decide +kernel
theorem dX11_wrongSorts_50 : decode cX11_wrongSorts 50 = .ok (.iconst 1, 1) := by decide +kernel
theorem dX11_wrongSorts_51 : decode cX11_wrongSorts 51 = .ok (.aload_n 0, 1) := by decide +kernel
theorem dX11_wrongSorts_52 : decode cX11_wrongSorts 52 = .ok (.getfield 19, 3) := by decide +kernel
theorem dX11_wrongSorts_55 : decode cX11_wrongSorts 55 = .ok (.iload_n 3, 1) := by decide +kernel
theorem dX11_wrongSorts_56 : decode cX11_wrongSorts 56 = .ok (.iaload, 1) := by decide +kernel
theorem dX11_wrongSorts_57 : decode cX11_wrongSorts 57 = .ok (.ishl, 1) := by decide +kernel
theorem dX11_wrongSorts_58 : decode cX11_wrongSorts 58 = .ok (.ior, 1) := by decide +kernel
theorem dX11_wrongSorts_59 : decode cX11_wrongSorts 59 = .ok (.istore_n 2, 1) := by decide +kernel
theorem dX11_wrongSorts_60 : decode cX11_wrongSorts 60 = .ok (.iinc 3 1, 3) := by decide +kernel
theorem dX11_wrongSorts_63 : decode cX11_wrongSorts 63 = .ok (.goto (-55), 3) := by decide +kernel
theorem dX11_wrongSorts_66 : decode cX11_wrongSorts 66 = .ok (.iload_n 2, 1) := by decide +kernel
theorem dX11_wrongSorts_67 : decode cX11_wrongSorts 67 = .ok (.ireturn, 1) := by decide +kernel
theorem dX11_tellsBits_0 : decode cX11_tellsBits 0 = .ok (.iconst 0, 1) := by decide +kernel
theorem dX11_tellsBits_1 : decode cX11_tellsBits 1 = .ok (.istore_n 3, 1) := by decide +kernel
theorem dX11_tellsBits_2 : decode cX11_tellsBits 2 = .ok (.iload_n 3, 1) := by decide +kernel
theorem dX11_tellsBits_3 : decode cX11_tellsBits 3 = .ok (.aload_n 0, 1) := by decide +kernel
theorem dX11_tellsBits_4 : decode cX11_tellsBits 4 = .ok (.getfield 15, 3) := by decide +kernel
theorem dX11_tellsBits_7 : decode cX11_tellsBits 7 = .ok (.if_icmp .ge 24, 3) := by decide +kernel
theorem dX11_tellsBits_10 : decode cX11_tellsBits 10 = .ok (.aload_n 1, 1) := by decide +kernel
theorem dX11_tellsBits_11 : decode cX11_tellsBits 11 = .ok (.iload_n 3, 1) := by decide +kernel
theorem dX11_tellsBits_12 : decode cX11_tellsBits 12 = .ok (.invokevirtual 255, 3) := by decide +kernel
theorem dX11_tellsBits_15 : decode cX11_tellsBits 15 = .ok (.iload_n 2, 1) := by decide +kernel
theorem dX11_tellsBits_16 : decode cX11_tellsBits 16 = .ok (.iload_n 3, 1) := by decide +kernel
theorem dX11_tellsBits_17 : decode cX11_tellsBits 17 = .ok (.ishr, 1) := by decide +kernel
theorem dX11_tellsBits_18 : decode cX11_tellsBits 18 = .ok (.iconst 1, 1) := by decide +kernel
theorem dX11_tellsBits_19 : decode cX11_tellsBits 19 = .ok (.iand, 1) := by decide +kernel
theorem dX11_tellsBits_20 : decode cX11_tellsBits 20 = .ok (.if_icmp .eq 5, 3) := by decide +kernel
theorem dX11_tellsBits_23 : decode cX11_tellsBits 23 = .ok (.iconst 0, 1) := by decide +kernel
theorem dX11_tellsBits_24 : decode cX11_tellsBits 24 = .ok (.ireturn, 1) := by decide +kernel
theorem dX11_tellsBits_25 : decode cX11_tellsBits 25 = .ok (.iinc 3 1, 3) := by decide +kernel
theorem dX11_tellsBits_28 : decode cX11_tellsBits 28 = .ok (.goto (-26), 3) := by decide +kernel
theorem dX11_tellsBits_31 : decode cX11_tellsBits 31 = .ok (.iconst 1, 1) := by decide +kernel
theorem dX11_tellsBits_32 : decode cX11_tellsBits 32 = .ok (.ireturn, 1) := by decide +kernel
theorem dX11_lyingRight_0 : decode cX11_lyingRight 0 = .ok (.iload_n 1, 1) := by decide +kernel
theorem dX11_lyingRight_1 : decode cX11_lyingRight 1 = .ok (.istore_n 3, 1) := by decide +kernel
theorem dX11_lyingRight_2 : decode cX11_lyingRight 2 = .ok (.iconst 0, 1) := by decide +kernel
theorem dX11_lyingRight_3 : decode cX11_lyingRight 3 = .ok (.istore 4, 2) := by decide +kernel
theorem dX11_lyingRight_5 : decode cX11_lyingRight 5 = .ok (.iconst 0, 1) := by decide +kernel
theorem dX11_lyingRight_6 : decode cX11_lyingRight 6 = .ok (.istore 5, 2) := by decide +kernel
theorem dX11_lyingRight_8 : decode cX11_lyingRight 8 = .ok (.iload 5, 2) := by decide +kernel
theorem dX11_lyingRight_10 : decode cX11_lyingRight 10 = .ok (.aload_n 0, 1) := by decide +kernel
theorem dX11_lyingRight_11 : decode cX11_lyingRight 11 = .ok (.getfield 15, 3) := by decide +kernel
theorem dX11_lyingRight_14 : decode cX11_lyingRight 14 = .ok (.if_icmp .ge 33, 3) := by decide +kernel
theorem dX11_lyingRight_17 : decode cX11_lyingRight 17 = .ok (.iload_n 3, 1) := by decide +kernel
theorem dX11_lyingRight_18 : decode cX11_lyingRight 18 = .ok (.ldc_w 350, 3) := by decide +kernel
theorem dX11_lyingRight_21 : decode cX11_lyingRight 21 = .ok (.imul, 1) := by decide +kernel
theorem dX11_lyingRight_22 : decode cX11_lyingRight 22 = .ok (.sipush 12345, 3) := by decide +kernel
theorem dX11_lyingRight_25 : decode cX11_lyingRight 25 = .ok (.iadd, 1) := by decide +kernel
theorem dX11_lyingRight_26 : decode cX11_lyingRight 26 = .ok (.istore_n 3, 1) := by decide +kernel
theorem dX11_lyingRight_27 : decode cX11_lyingRight 27 = .ok (.iload_n 3, 1) := by decide +kernel
theorem dX11_lyingRight_28 : decode cX11_lyingRight 28 = .ok (.bipush 10, 2) := by decide +kernel
theorem dX11_lyingRight_30 : decode cX11_lyingRight 30 = .ok (.iushr, 1) := by decide +kernel
theorem dX11_lyingRight_31 : decode cX11_lyingRight 31 = .ok (.bipush 10, 2) := by decide +kernel
theorem dX11_lyingRight_33 : decode cX11_lyingRight 33 = .ok (.irem, 1) := by decide +kernel
theorem dX11_lyingRight_34 : decode cX11_lyingRight 34 = .ok (.iload_n 2, 1) := by decide +kernel
theorem dX11_lyingRight_35 : decode cX11_lyingRight 35 = .ok (.if_icmp .ge 6, 3) := by decide +kernel
theorem dX11_lyingRight_38 : decode cX11_lyingRight 38 = .ok (.iinc 4 1, 3) := by decide +kernel
theorem dX11_lyingRight_41 : decode cX11_lyingRight 41 = .ok (.iinc 5 1, 3) := by decide +kernel
theorem dX11_lyingRight_44 : decode cX11_lyingRight 44 = .ok (.goto (-36), 3) := by decide +kernel
theorem dX11_lyingRight_47 : decode cX11_lyingRight 47 = .ok (.iload 4, 2) := by decide +kernel
theorem dX11_lyingRight_49 : decode cX11_lyingRight 49 = .ok (.ireturn, 1) := by decide +kernel
theorem dX11_commonDivisor_0 : decode cX11_commonDivisor 0 = .ok (.iload_n 1, 1) := by decide +kernel
theorem dX11_commonDivisor_1 : decode cX11_commonDivisor 1 = .ok (.istore_n 2, 1) := by decide +kernel
theorem dX11_commonDivisor_2 : decode cX11_commonDivisor 2 = .ok (.iload_n 2, 1) := by decide +kernel
theorem dX11_commonDivisor_3 : decode cX11_commonDivisor 3 = .ok (.iconst 1, 1) := by decide +kernel
theorem dX11_commonDivisor_4 : decode cX11_commonDivisor 4 = .ok (.if_icmp .le 23, 3) := by decide +kernel
theorem dX11_commonDivisor_7 : decode cX11_commonDivisor 7 = .ok (.iload_n 0, 1) := by decide +kernel
theorem dX11_commonDivisor_8 : decode cX11_commonDivisor 8 = .ok (.iload_n 2, 1) := by decide +kernel
theorem dX11_commonDivisor_9 : decode cX11_commonDivisor 9 = .ok (.irem, 1) := by decide +kernel
theorem dX11_commonDivisor_10 : decode cX11_commonDivisor 10 = .ok (.ifCond .ne 11, 3) := by decide +kernel
theorem dX11_commonDivisor_13 : decode cX11_commonDivisor 13 = .ok (.iload_n 1, 1) := by decide +kernel
theorem dX11_commonDivisor_14 : decode cX11_commonDivisor 14 = .ok (.iload_n 2, 1) := by decide +kernel
theorem dX11_commonDivisor_15 : decode cX11_commonDivisor 15 = .ok (.irem, 1) := by decide +kernel
theorem dX11_commonDivisor_16 : decode cX11_commonDivisor 16 = .ok (.ifCond .ne 5, 3) := by decide +kernel
theorem dX11_commonDivisor_19 : decode cX11_commonDivisor 19 = .ok (.iload_n 2, 1) := by decide +kernel
theorem dX11_commonDivisor_20 : decode cX11_commonDivisor 20 = .ok (.ireturn, 1) := by decide +kernel
theorem dX11_commonDivisor_21 : decode cX11_commonDivisor 21 = .ok (.iinc 2 (-1), 3) := by decide +kernel
theorem dX11_commonDivisor_24 : decode cX11_commonDivisor 24 = .ok (.goto (-22), 3) := by decide +kernel
theorem dX11_commonDivisor_27 : decode cX11_commonDivisor 27 = .ok (.iconst 1, 1) := by decide +kernel
theorem dX11_commonDivisor_28 : decode cX11_commonDivisor 28 = .ok (.ireturn, 1) := by decide +kernel
theorem dX11_isSheet_0 : decode cX11_isSheet 0 = .ok (.iload_n 0, 1) := by decide +kernel
theorem dX11_isSheet_1 : decode cX11_isSheet 1 = .ok (.ifCond .lt 12, 3) := by decide +kernel
theorem dX11_isSheet_4 : decode cX11_isSheet 4 = .ok (.iload_n 0, 1) := by decide +kernel
theorem dX11_isSheet_5 : decode cX11_isSheet 5 = .ok (.iconst 4, 1) := by decide +kernel
theorem dX11_isSheet_6 : decode cX11_isSheet 6 = .ok (.if_icmp .ge 7, 3) := by decide +kernel
theorem dX11_isSheet_9 : decode cX11_isSheet 9 = .ok (.iconst 1, 1) := by decide +kernel
theorem dX11_isSheet_10 : decode cX11_isSheet 10 = .ok (.goto 4, 3) := by decide +kernel
theorem dX11_isSheet_13 : decode cX11_isSheet 13 = .ok (.iconst 0, 1) := by decide +kernel
theorem dX11_isSheet_14 : decode cX11_isSheet 14 = .ok (.ireturn, 1) := by decide +kernel
theorem dX11_refusalOfTelling_0 : decode cX11_refusalOfTelling 0 = .ok (.iload_n 1, 1) := by decide +kernel
theorem dX11_refusalOfTelling_1 : decode cX11_refusalOfTelling 1 = .ok (.invokestatic 266, 3) := by decide +kernel
theorem dX11_refusalOfTelling_4 : decode cX11_refusalOfTelling 4 = .ok (.ifCond .ne 6, 3) := by decide +kernel
theorem dX11_refusalOfTelling_7 : decode cX11_refusalOfTelling 7 = .ok (.bipush (-2), 2) := by decide +kernel
theorem dX11_refusalOfTelling_9 : decode cX11_refusalOfTelling 9 = .ok (.ireturn, 1) := by decide +kernel
theorem dX11_refusalOfTelling_10 : decode cX11_refusalOfTelling 10 = .ok (.aload_n 0, 1) := by decide +kernel
theorem dX11_refusalOfTelling_11 : decode cX11_refusalOfTelling 11 = .ok (.getfield 55, 3) := by decide +kernel
theorem dX11_refusalOfTelling_14 : decode cX11_refusalOfTelling 14 = .ok (.iload_n 1, 1) := by decide +kernel
theorem dX11_refusalOfTelling_15 : decode cX11_refusalOfTelling 15 = .ok (.aaload, 1) := by decide +kernel
theorem dX11_refusalOfTelling_16 : decode cX11_refusalOfTelling 16 = .ok (.invokevirtual 272, 3) := by decide +kernel
theorem dX11_refusalOfTelling_19 : decode cX11_refusalOfTelling 19 = .ok (.ifCond .eq 6, 3) := by decide +kernel
theorem dX11_refusalOfTelling_22 : decode cX11_refusalOfTelling 22 = .ok (.bipush (-11), 2) := by decide +kernel
theorem dX11_refusalOfTelling_24 : decode cX11_refusalOfTelling 24 = .ok (.ireturn, 1) := by decide +kernel
theorem dX11_refusalOfTelling_25 : decode cX11_refusalOfTelling 25 = .ok (.aload_n 0, 1) := by decide +kernel
theorem dX11_refusalOfTelling_26 : decode cX11_refusalOfTelling 26 = .ok (.getfield 55, 3) := by decide +kernel
theorem dX11_refusalOfTelling_29 : decode cX11_refusalOfTelling 29 = .ok (.iload_n 1, 1) := by decide +kernel
theorem dX11_refusalOfTelling_30 : decode cX11_refusalOfTelling 30 = .ok (.aaload, 1) := by decide +kernel
theorem dX11_refusalOfTelling_31 : decode cX11_refusalOfTelling 31 = .ok (.getfield 351, 3) := by decide +kernel
theorem dX11_refusalOfTelling_34 : decode cX11_refusalOfTelling 34 = .ok (.aload_n 0, 1) := by decide +kernel
theorem dX11_refusalOfTelling_35 : decode cX11_refusalOfTelling 35 = .ok (.getfield 15, 3) := by decide +kernel
theorem dX11_refusalOfTelling_38 : decode cX11_refusalOfTelling 38 = .ok (.if_icmp .eq 8, 3) := by decide +kernel
theorem dX11_refusalOfTelling_41 : decode cX11_refusalOfTelling 41 = .ok (.bipush (-2), 2) := by decide +kernel
theorem dX11_refusalOfTelling_43 : decode cX11_refusalOfTelling 43 = .ok (.goto 4, 3) := by decide +kernel
theorem dX11_refusalOfTelling_46 : decode cX11_refusalOfTelling 46 = .ok (.iconst 0, 1) := by decide +kernel
theorem dX11_refusalOfTelling_47 : decode cX11_refusalOfTelling 47 = .ok (.ireturn, 1) := by decide +kernel
end
section
theorem dX0_init_0 : decode cX0_init 0 = .ok (.aload_n 0, 1) := by decide +kernel
theorem dX0_init_1 : decode cX0_init 1 = .ok (.iload_n 1, 1) := by decide +kernel
theorem dX0_init_2 : decode cX0_init 2 = .ok (.invokespecial 1, 3) := by decide +kernel
theorem dX0_init_5 : decode cX0_init 5 = .ok (.return_, 1) := by decide +kernel
theorem dX0_kind_0 : decode cX0_kind 0 = .ok (.iconst 4, 1) := by decide +kernel
theorem dX0_kind_1 : decode cX0_kind 1 = .ok (.ireturn, 1) := by decide +kernel
theorem dX0_takes_0 : decode cX0_takes 0 = .ok (.iconst 2, 1) := by decide +kernel
theorem dX0_takes_1 : decode cX0_takes 1 = .ok (.aload_n 0, 1) := by decide +kernel
theorem dX0_takes_2 : decode cX0_takes 2 = .ok (.iload_n 1, 1) := by decide +kernel
theorem dX0_takes_3 : decode cX0_takes 3 = .ok (.iload_n 2, 1) := by decide +kernel
theorem dX0_takes_4 : decode cX0_takes 4 = .ok (.invokespecial 7, 3) := by decide +kernel
theorem dX0_takes_7 : decode cX0_takes 7 = .ok (.imul, 1) := by decide +kernel
theorem dX0_takes_8 : decode cX0_takes 8 = .ok (.ireturn, 1) := by decide +kernel
theorem dX0_gives_0 : decode cX0_gives 0 = .ok (.aload_n 0, 1) := by decide +kernel
theorem dX0_gives_1 : decode cX0_gives 1 = .ok (.iload_n 1, 1) := by decide +kernel
theorem dX0_gives_2 : decode cX0_gives 2 = .ok (.iload_n 2, 1) := by decide +kernel
theorem dX0_gives_3 : decode cX0_gives 3 = .ok (.iload_n 3, 1) := by decide +kernel
theorem dX0_gives_4 : decode cX0_gives 4 = .ok (.invokespecial 11, 3) := by decide +kernel
theorem dX0_gives_7 : decode cX0_gives 7 = .ok (.iload_n 2, 1) := by decide +kernel
theorem dX0_gives_8 : decode cX0_gives 8 = .ok (.ifCond .ne 7, 3) := by decide +kernel
theorem dX0_gives_11 : decode cX0_gives 11 = .ok (.iconst 2, 1) := by decide +kernel
theorem dX0_gives_12 : decode cX0_gives 12 = .ok (.goto 4, 3) := by decide +kernel
theorem dX0_gives_15 : decode cX0_gives 15 = .ok (.iconst 0, 1) := by decide +kernel
theorem dX0_gives_16 : decode cX0_gives 16 = .ok (.iadd, 1) := by decide +kernel
theorem dX0_gives_17 : decode cX0_gives 17 = .ok (.ireturn, 1) := by decide +kernel
theorem dX1_init_0 : decode cX1_init 0 = .ok (.aload_n 0, 1) := by decide +kernel
theorem dX1_init_1 : decode cX1_init 1 = .ok (.iload_n 1, 1) := by decide +kernel
theorem dX1_init_2 : decode cX1_init 2 = .ok (.invokespecial 1, 3) := by decide +kernel
theorem dX1_init_5 : decode cX1_init 5 = .ok (.return_, 1) := by decide +kernel
theorem dX1_kind_0 : decode cX1_kind 0 = .ok (.iconst 2, 1) := by decide +kernel
theorem dX1_kind_1 : decode cX1_kind 1 = .ok (.ireturn, 1) := by decide +kernel
theorem dX1_takes_0 : decode cX1_takes 0 = .ok (.aload_n 0, 1) := by decide +kernel
theorem dX1_takes_1 : decode cX1_takes 1 = .ok (.iload_n 1, 1) := by decide +kernel
theorem dX1_takes_2 : decode cX1_takes 2 = .ok (.iload_n 2, 1) := by decide +kernel
theorem dX1_takes_3 : decode cX1_takes 3 = .ok (.invokespecial 7, 3) := by decide +kernel
theorem dX1_takes_6 : decode cX1_takes 6 = .ok (.aload_n 0, 1) := by decide +kernel
theorem dX1_takes_7 : decode cX1_takes 7 = .ok (.getfield 11, 3) := by decide +kernel
theorem dX1_takes_10 : decode cX1_takes 10 = .ok (.iconst 2, 1) := by decide +kernel
theorem dX1_takes_11 : decode cX1_takes 11 = .ok (.irem, 1) := by decide +kernel
theorem dX1_takes_12 : decode cX1_takes 12 = .ok (.iconst 1, 1) := by decide +kernel
theorem dX1_takes_13 : decode cX1_takes 13 = .ok (.if_icmp .ne 7, 3) := by decide +kernel
theorem dX1_takes_16 : decode cX1_takes 16 = .ok (.iconst 3, 1) := by decide +kernel
theorem dX1_takes_17 : decode cX1_takes 17 = .ok (.goto 4, 3) := by decide +kernel
theorem dX1_takes_20 : decode cX1_takes 20 = .ok (.iconst 0, 1) := by decide +kernel
theorem dX1_takes_21 : decode cX1_takes 21 = .ok (.iadd, 1) := by decide +kernel
theorem dX1_takes_22 : decode cX1_takes 22 = .ok (.ireturn, 1) := by decide +kernel
theorem dX1_gives_0 : decode cX1_gives 0 = .ok (.aload_n 0, 1) := by decide +kernel
theorem dX1_gives_1 : decode cX1_gives 1 = .ok (.iload_n 1, 1) := by decide +kernel
theorem dX1_gives_2 : decode cX1_gives 2 = .ok (.iload_n 2, 1) := by decide +kernel
theorem dX1_gives_3 : decode cX1_gives 3 = .ok (.iload_n 3, 1) := by decide +kernel
theorem dX1_gives_4 : decode cX1_gives 4 = .ok (.invokespecial 17, 3) := by decide +kernel
theorem dX1_gives_7 : decode cX1_gives 7 = .ok (.iconst 2, 1) := by decide +kernel
theorem dX1_gives_8 : decode cX1_gives 8 = .ok (.idiv, 1) := by decide +kernel
theorem dX1_gives_9 : decode cX1_gives 9 = .ok (.ireturn, 1) := by decide +kernel
theorem dX2_init_0 : decode cX2_init 0 = .ok (.aload_n 0, 1) := by decide +kernel
theorem dX2_init_1 : decode cX2_init 1 = .ok (.invokespecial 3, 3) := by decide +kernel
theorem dX2_init_4 : decode cX2_init 4 = .ok (.aload_n 0, 1) := by decide +kernel
theorem dX2_init_5 : decode cX2_init 5 = .ok (.iconst 0, 1) := by decide +kernel
theorem dX2_init_6 : decode cX2_init 6 = .ok (.putfield 9, 3) := by decide +kernel
theorem dX2_init_9 : decode cX2_init 9 = .ok (.aload_n 0, 1) := by decide +kernel
theorem dX2_init_10 : decode cX2_init 10 = .ok (.iconst 0, 1) := by decide +kernel
theorem dX2_init_11 : decode cX2_init 11 = .ok (.putfield 15, 3) := by decide +kernel
theorem dX2_init_14 : decode cX2_init 14 = .ok (.aload_n 0, 1) := by decide +kernel
theorem dX2_init_15 : decode cX2_init 15 = .ok (.iconst 0, 1) := by decide +kernel
theorem dX2_init_16 : decode cX2_init 16 = .ok (.putfield 18, 3) := by decide +kernel
theorem dX2_init_19 : decode cX2_init 19 = .ok (.aload_n 0, 1) := by decide +kernel
theorem dX2_init_20 : decode cX2_init 20 = .ok (.iconst 0, 1) := by decide +kernel
theorem dX2_init_21 : decode cX2_init 21 = .ok (.putfield 21, 3) := by decide +kernel
theorem dX2_init_24 : decode cX2_init 24 = .ok (.aload_n 0, 1) := by decide +kernel
theorem dX2_init_25 : decode cX2_init 25 = .ok (.iload_n 1, 1) := by decide +kernel
theorem dX2_init_26 : decode cX2_init 26 = .ok (.putfield 24, 3) := by decide +kernel
theorem dX2_init_29 : decode cX2_init 29 = .ok (.return_, 1) := by decide +kernel
theorem dX2_kind_0 : decode cX2_kind 0 = .ok (.iconst 0, 1) := by decide +kernel
theorem dX2_kind_1 : decode cX2_kind 1 = .ok (.ireturn, 1) := by decide +kernel
theorem dX2_takes_0 : decode cX2_takes 0 = .ok (.iconst 1, 1) := by decide +kernel
theorem dX2_takes_1 : decode cX2_takes 1 = .ok (.ireturn, 1) := by decide +kernel
theorem dX2_gives_0 : decode cX2_gives 0 = .ok (.iload_n 1, 1) := by decide +kernel
theorem dX2_gives_1 : decode cX2_gives 1 = .ok (.iload_n 2, 1) := by decide +kernel
theorem dX2_gives_2 : decode cX2_gives 2 = .ok (.isub, 1) := by decide +kernel
theorem dX2_gives_3 : decode cX2_gives 3 = .ok (.ireturn, 1) := by decide +kernel
theorem dX2_fact_0 : decode cX2_fact 0 = .ok (.iload_n 1, 1) := by decide +kernel
theorem dX2_fact_1 : decode cX2_fact 1 = .ok (.tableswitch 42 0 2 #[27, 32, 37], 27) := by decide +kernel
theorem dX2_fact_28 : decode cX2_fact 28 = .ok (.aload_n 0, 1) := by decide +kernel
theorem dX2_fact_29 : decode cX2_fact 29 = .ok (.getfield 9, 3) := by decide +kernel
theorem dX2_fact_32 : decode cX2_fact 32 = .ok (.ireturn, 1) := by decide +kernel
theorem dX2_fact_33 : decode cX2_fact 33 = .ok (.aload_n 0, 1) := by decide +kernel
theorem dX2_fact_34 : decode cX2_fact 34 = .ok (.getfield 15, 3) := by decide +kernel
theorem dX2_fact_37 : decode cX2_fact 37 = .ok (.ireturn, 1) := by decide +kernel
theorem dX2_fact_38 : decode cX2_fact 38 = .ok (.aload_n 0, 1) := by decide +kernel
theorem dX2_fact_39 : decode cX2_fact 39 = .ok (.getfield 18, 3) := by decide +kernel
theorem dX2_fact_42 : decode cX2_fact 42 = .ok (.ireturn, 1) := by decide +kernel
theorem dX2_fact_43 : decode cX2_fact 43 = .ok (.aload_n 0, 1) := by decide +kernel
theorem dX2_fact_44 : decode cX2_fact 44 = .ok (.getfield 21, 3) := by decide +kernel
theorem dX2_fact_47 : decode cX2_fact 47 = .ok (.ireturn, 1) := by decide +kernel
theorem dX2_change_0 : decode cX2_change 0 = .ok (.iload_n 1, 1) := by decide +kernel
theorem dX2_change_1 : decode cX2_change 1 = .ok (.tableswitch 51 0 2 #[27, 35, 43], 27) := by decide +kernel
theorem dX2_change_28 : decode cX2_change 28 = .ok (.aload_n 0, 1) := by decide +kernel
theorem dX2_change_29 : decode cX2_change 29 = .ok (.iload_n 2, 1) := by decide +kernel
theorem dX2_change_30 : decode cX2_change 30 = .ok (.putfield 9, 3) := by decide +kernel
theorem dX2_change_33 : decode cX2_change 33 = .ok (.goto 24, 3) := by decide +kernel
theorem dX2_change_36 : decode cX2_change 36 = .ok (.aload_n 0, 1) := by decide +kernel
theorem dX2_change_37 : decode cX2_change 37 = .ok (.iload_n 2, 1) := by decide +kernel
theorem dX2_change_38 : decode cX2_change 38 = .ok (.putfield 15, 3) := by decide +kernel
theorem dX2_change_41 : decode cX2_change 41 = .ok (.goto 16, 3) := by decide +kernel
theorem dX2_change_44 : decode cX2_change 44 = .ok (.aload_n 0, 1) := by decide +kernel
theorem dX2_change_45 : decode cX2_change 45 = .ok (.iload_n 2, 1) := by decide +kernel
theorem dX2_change_46 : decode cX2_change 46 = .ok (.putfield 18, 3) := by decide +kernel
theorem dX2_change_49 : decode cX2_change 49 = .ok (.goto 8, 3) := by decide +kernel
theorem dX2_change_52 : decode cX2_change 52 = .ok (.aload_n 0, 1) := by decide +kernel
theorem dX2_change_53 : decode cX2_change 53 = .ok (.iload_n 2, 1) := by decide +kernel
theorem dX2_change_54 : decode cX2_change 54 = .ok (.putfield 21, 3) := by decide +kernel
theorem dX2_change_57 : decode cX2_change 57 = .ok (.return_, 1) := by decide +kernel
theorem dX3_init_0 : decode cX3_init 0 = .ok (.aload_n 0, 1) := by decide +kernel
theorem dX3_init_1 : decode cX3_init 1 = .ok (.iload_n 1, 1) := by decide +kernel
theorem dX3_init_2 : decode cX3_init 2 = .ok (.invokespecial 1, 3) := by decide +kernel
theorem dX3_init_5 : decode cX3_init 5 = .ok (.return_, 1) := by decide +kernel
theorem dX3_kind_0 : decode cX3_kind 0 = .ok (.iconst 1, 1) := by decide +kernel
theorem dX3_kind_1 : decode cX3_kind 1 = .ok (.ireturn, 1) := by decide +kernel
theorem dX3_takes_0 : decode cX3_takes 0 = .ok (.aload_n 0, 1) := by decide +kernel
theorem dX3_takes_1 : decode cX3_takes 1 = .ok (.iload_n 1, 1) := by decide +kernel
theorem dX3_takes_2 : decode cX3_takes 2 = .ok (.iload_n 2, 1) := by decide +kernel
theorem dX3_takes_3 : decode cX3_takes 3 = .ok (.invokespecial 7, 3) := by decide +kernel
theorem dX3_takes_6 : decode cX3_takes 6 = .ok (.aload_n 0, 1) := by decide +kernel
theorem dX3_takes_7 : decode cX3_takes 7 = .ok (.getfield 11, 3) := by decide +kernel
theorem dX3_takes_10 : decode cX3_takes 10 = .ok (.iadd, 1) := by decide +kernel
theorem dX3_takes_11 : decode cX3_takes 11 = .ok (.ireturn, 1) := by decide +kernel
theorem dX4_init_0 : decode cX4_init 0 = .ok (.aload_n 0, 1) := by decide +kernel
theorem dX4_init_1 : decode cX4_init 1 = .ok (.invokespecial 3, 3) := by decide +kernel
theorem dX4_init_4 : decode cX4_init 4 = .ok (.aload_n 0, 1) := by decide +kernel
theorem dX4_init_5 : decode cX4_init 5 = .ok (.iconst 0, 1) := by decide +kernel
theorem dX4_init_6 : decode cX4_init 6 = .ok (.putfield 9, 3) := by decide +kernel
theorem dX4_init_9 : decode cX4_init 9 = .ok (.aload_n 0, 1) := by decide +kernel
theorem dX4_init_10 : decode cX4_init 10 = .ok (.iconst 0, 1) := by decide +kernel
theorem dX4_init_11 : decode cX4_init 11 = .ok (.putfield 15, 3) := by decide +kernel
theorem dX4_init_14 : decode cX4_init 14 = .ok (.aload_n 0, 1) := by decide +kernel
theorem dX4_init_15 : decode cX4_init 15 = .ok (.sipush 160, 3) := by decide +kernel
theorem dX4_init_18 : decode cX4_init 18 = .ok (.newarray .int, 2) := by decide +kernel
theorem dX4_init_20 : decode cX4_init 20 = .ok (.putfield 18, 3) := by decide +kernel
theorem dX4_init_23 : decode cX4_init 23 = .ok (.aload_n 0, 1) := by decide +kernel
theorem dX4_init_24 : decode cX4_init 24 = .ok (.sipush 160, 3) := by decide +kernel
theorem dX4_init_27 : decode cX4_init 27 = .ok (.newarray .int, 2) := by decide +kernel
theorem dX4_init_29 : decode cX4_init 29 = .ok (.putfield 22, 3) := by decide +kernel
theorem dX4_init_32 : decode cX4_init 32 = .ok (.aload_n 0, 1) := by decide +kernel
theorem dX4_init_33 : decode cX4_init 33 = .ok (.iconst 0, 1) := by decide +kernel
theorem dX4_init_34 : decode cX4_init 34 = .ok (.putfield 25, 3) := by decide +kernel
theorem dX4_init_37 : decode cX4_init 37 = .ok (.aload_n 0, 1) := by decide +kernel
theorem dX4_init_38 : decode cX4_init 38 = .ok (.iconst 0, 1) := by decide +kernel
theorem dX4_init_39 : decode cX4_init 39 = .ok (.putfield 28, 3) := by decide +kernel
theorem dX4_init_42 : decode cX4_init 42 = .ok (.aload_n 0, 1) := by decide +kernel
theorem dX4_init_43 : decode cX4_init 43 = .ok (.iconst 0, 1) := by decide +kernel
theorem dX4_init_44 : decode cX4_init 44 = .ok (.putfield 31, 3) := by decide +kernel
theorem dX4_init_47 : decode cX4_init 47 = .ok (.aload_n 0, 1) := by decide +kernel
theorem dX4_init_48 : decode cX4_init 48 = .ok (.iconst 0, 1) := by decide +kernel
theorem dX4_init_49 : decode cX4_init 49 = .ok (.putfield 34, 3) := by decide +kernel
theorem dX4_init_52 : decode cX4_init 52 = .ok (.return_, 1) := by decide +kernel
theorem dX4_isJoint_0 : decode cX4_isJoint 0 = .ok (.iload_n 0, 1) := by decide +kernel
theorem dX4_isJoint_1 : decode cX4_isJoint 1 = .ok (.bipush 6, 2) := by decide +kernel
theorem dX4_isJoint_3 : decode cX4_isJoint 3 = .ok (.if_icmp .eq 39, 3) := by decide +kernel
theorem dX4_isJoint_6 : decode cX4_isJoint 6 = .ok (.iload_n 0, 1) := by decide +kernel
theorem dX4_isJoint_7 : decode cX4_isJoint 7 = .ok (.bipush 7, 2) := by decide +kernel
theorem dX4_isJoint_9 : decode cX4_isJoint 9 = .ok (.if_icmp .eq 33, 3) := by decide +kernel
theorem dX4_isJoint_12 : decode cX4_isJoint 12 = .ok (.iload_n 0, 1) := by decide +kernel
theorem dX4_isJoint_13 : decode cX4_isJoint 13 = .ok (.bipush 60, 2) := by decide +kernel
theorem dX4_isJoint_15 : decode cX4_isJoint 15 = .ok (.if_icmp .eq 27, 3) := by decide +kernel
theorem dX4_isJoint_18 : decode cX4_isJoint 18 = .ok (.iload_n 0, 1) := by decide +kernel
theorem dX4_isJoint_19 : decode cX4_isJoint 19 = .ok (.bipush 61, 2) := by decide +kernel
theorem dX4_isJoint_21 : decode cX4_isJoint 21 = .ok (.if_icmp .eq 21, 3) := by decide +kernel
theorem dX4_isJoint_24 : decode cX4_isJoint 24 = .ok (.iload_n 0, 1) := by decide +kernel
theorem dX4_isJoint_25 : decode cX4_isJoint 25 = .ok (.bipush 43, 2) := by decide +kernel
theorem dX4_isJoint_27 : decode cX4_isJoint 27 = .ok (.if_icmp .eq 15, 3) := by decide +kernel
theorem dX4_isJoint_30 : decode cX4_isJoint 30 = .ok (.iload_n 0, 1) := by decide +kernel
theorem dX4_isJoint_31 : decode cX4_isJoint 31 = .ok (.bipush 45, 2) := by decide +kernel
theorem dX4_isJoint_33 : decode cX4_isJoint 33 = .ok (.if_icmp .eq 9, 3) := by decide +kernel
theorem dX4_isJoint_36 : decode cX4_isJoint 36 = .ok (.iload_n 0, 1) := by decide +kernel
theorem dX4_isJoint_37 : decode cX4_isJoint 37 = .ok (.bipush 42, 2) := by decide +kernel
theorem dX4_isJoint_39 : decode cX4_isJoint 39 = .ok (.if_icmp .ne 7, 3) := by decide +kernel
theorem dX4_isJoint_42 : decode cX4_isJoint 42 = .ok (.iconst 1, 1) := by decide +kernel
theorem dX4_isJoint_43 : decode cX4_isJoint 43 = .ok (.goto 4, 3) := by decide +kernel
theorem dX4_isJoint_46 : decode cX4_isJoint 46 = .ok (.iconst 0, 1) := by decide +kernel
theorem dX4_isJoint_47 : decode cX4_isJoint 47 = .ok (.ireturn, 1) := by decide +kernel
theorem dX4_append_0 : decode cX4_append 0 = .ok (.aload_n 0, 1) := by decide +kernel
theorem dX4_append_1 : decode cX4_append 1 = .ok (.getfield 9, 3) := by decide +kernel
theorem dX4_append_4 : decode cX4_append 4 = .ok (.sipush 160, 3) := by decide +kernel
theorem dX4_append_7 : decode cX4_append 7 = .ok (.if_icmp .ge 23, 3) := by decide +kernel
theorem dX4_append_10 : decode cX4_append 10 = .ok (.aload_n 0, 1) := by decide +kernel
theorem dX4_append_11 : decode cX4_append 11 = .ok (.getfield 18, 3) := by decide +kernel
theorem dX4_append_14 : decode cX4_append 14 = .ok (.aload_n 0, 1) := by decide +kernel
theorem dX4_append_15 : decode cX4_append 15 = .ok (.getfield 9, 3) := by decide +kernel
theorem dX4_append_18 : decode cX4_append 18 = .ok (.iload_n 1, 1) := by decide +kernel
theorem dX4_append_19 : decode cX4_append 19 = .ok (.iastore, 1) := by decide +kernel
theorem dX4_append_20 : decode cX4_append 20 = .ok (.aload_n 0, 1) := by decide +kernel
theorem dX4_append_21 : decode cX4_append 21 = .ok (.dup, 1) := by decide +kernel
theorem dX4_append_22 : decode cX4_append 22 = .ok (.getfield 9, 3) := by decide +kernel
theorem dX4_append_25 : decode cX4_append 25 = .ok (.iconst 1, 1) := by decide +kernel
theorem dX4_append_26 : decode cX4_append 26 = .ok (.iadd, 1) := by decide +kernel
theorem dX4_append_27 : decode cX4_append 27 = .ok (.putfield 9, 3) := by decide +kernel
theorem dX4_append_30 : decode cX4_append 30 = .ok (.return_, 1) := by decide +kernel
theorem dX4_clear_0 : decode cX4_clear 0 = .ok (.aload_n 0, 1) := by decide +kernel
theorem dX4_clear_1 : decode cX4_clear 1 = .ok (.iconst 0, 1) := by decide +kernel
theorem dX4_clear_2 : decode cX4_clear 2 = .ok (.putfield 9, 3) := by decide +kernel
theorem dX4_clear_5 : decode cX4_clear 5 = .ok (.return_, 1) := by decide +kernel
theorem dX4_read_0 : decode cX4_read 0 = .ok (.aload_n 0, 1) := by decide +kernel
theorem dX4_read_1 : decode cX4_read 1 = .ok (.iconst 0, 1) := by decide +kernel
theorem dX4_read_2 : decode cX4_read 2 = .ok (.putfield 28, 3) := by decide +kernel
theorem dX4_read_5 : decode cX4_read 5 = .ok (.aload_n 0, 1) := by decide +kernel
theorem dX4_read_6 : decode cX4_read 6 = .ok (.iconst 0, 1) := by decide +kernel
theorem dX4_read_7 : decode cX4_read 7 = .ok (.putfield 25, 3) := by decide +kernel
theorem dX4_read_10 : decode cX4_read 10 = .ok (.aload_n 0, 1) := by decide +kernel
theorem dX4_read_11 : decode cX4_read 11 = .ok (.invokevirtual 37, 3) := by decide +kernel
theorem dX4_read_14 : decode cX4_read 14 = .ok (.aload_n 0, 1) := by decide +kernel
theorem dX4_read_15 : decode cX4_read 15 = .ok (.iconst 3, 1) := by decide +kernel
theorem dX4_read_16 : decode cX4_read 16 = .ok (.invokevirtual 40, 3) := by decide +kernel
theorem dX4_read_19 : decode cX4_read 19 = .ok (.ifCond .ne 5, 3) := by decide +kernel
theorem dX4_read_22 : decode cX4_read 22 = .ok (.aconst_null, 1) := by decide +kernel
theorem dX4_read_23 : decode cX4_read 23 = .ok (.areturn, 1) := by decide +kernel
theorem dX4_read_24 : decode cX4_read 24 = .ok (.aload_n 0, 1) := by decide +kernel
theorem dX4_read_25 : decode cX4_read 25 = .ok (.getfield 25, 3) := by decide +kernel
theorem dX4_read_28 : decode cX4_read 28 = .ok (.istore_n 1, 1) := by decide +kernel
theorem dX4_read_29 : decode cX4_read 29 = .ok (.aload_n 0, 1) := by decide +kernel
theorem dX4_read_30 : decode cX4_read 30 = .ok (.iconst 4, 1) := by decide +kernel
theorem dX4_read_31 : decode cX4_read 31 = .ok (.invokevirtual 40, 3) := by decide +kernel
theorem dX4_read_34 : decode cX4_read 34 = .ok (.ifCond .ne 5, 3) := by decide +kernel
theorem dX4_read_37 : decode cX4_read 37 = .ok (.aconst_null, 1) := by decide +kernel
theorem dX4_read_38 : decode cX4_read 38 = .ok (.areturn, 1) := by decide +kernel
theorem dX4_read_39 : decode cX4_read 39 = .ok (.aload_n 0, 1) := by decide +kernel
theorem dX4_read_40 : decode cX4_read 40 = .ok (.getfield 25, 3) := by decide +kernel
theorem dX4_read_43 : decode cX4_read 43 = .ok (.istore_n 2, 1) := by decide +kernel
theorem dX4_read_44 : decode cX4_read 44 = .ok (.aload_n 0, 1) := by decide +kernel
theorem dX4_read_45 : decode cX4_read 45 = .ok (.iconst 5, 1) := by decide +kernel
theorem dX4_read_46 : decode cX4_read 46 = .ok (.invokevirtual 40, 3) := by decide +kernel
theorem dX4_read_49 : decode cX4_read 49 = .ok (.ifCond .eq 10, 3) := by decide +kernel
theorem dX4_read_52 : decode cX4_read 52 = .ok (.aload_n 0, 1) := by decide +kernel
theorem dX4_read_53 : decode cX4_read 53 = .ok (.getfield 31, 3) := by decide +kernel
theorem dX4_read_56 : decode cX4_read 56 = .ok (.ifCond .eq 5, 3) := by decide +kernel
theorem dX4_read_59 : decode cX4_read 59 = .ok (.aconst_null, 1) := by decide +kernel
theorem dX4_read_60 : decode cX4_read 60 = .ok (.areturn, 1) := by decide +kernel
theorem dX4_read_61 : decode cX4_read 61 = .ok (.new 44, 3) := by decide +kernel
theorem dX4_read_64 : decode cX4_read 64 = .ok (.dup, 1) := by decide +kernel
theorem dX4_read_65 : decode cX4_read 65 = .ok (.aload_n 0, 1) := by decide +kernel
theorem dX4_read_66 : decode cX4_read 66 = .ok (.getfield 22, 3) := by decide +kernel
theorem dX4_read_69 : decode cX4_read 69 = .ok (.aload_n 0, 1) := by decide +kernel
theorem dX4_read_70 : decode cX4_read 70 = .ok (.getfield 25, 3) := by decide +kernel
theorem dX4_read_73 : decode cX4_read 73 = .ok (.invokestatic 46, 3) := by decide +kernel
theorem dX4_read_76 : decode cX4_read 76 = .ok (.iload_n 1, 1) := by decide +kernel
theorem dX4_read_77 : decode cX4_read 77 = .ok (.iload_n 2, 1) := by decide +kernel
theorem dX4_read_78 : decode cX4_read 78 = .ok (.invokespecial 52, 3) := by decide +kernel
theorem dX4_read_81 : decode cX4_read 81 = .ok (.areturn, 1) := by decide +kernel
theorem dX4_part_0 : decode cX4_part 0 = .ok (.aload_n 0, 1) := by decide +kernel
theorem dX4_part_1 : decode cX4_part 1 = .ok (.iload_n 1, 1) := by decide +kernel
theorem dX4_part_2 : decode cX4_part 2 = .ok (.invokevirtual 55, 3) := by decide +kernel
theorem dX4_part_5 : decode cX4_part 5 = .ok (.ifCond .eq 24, 3) := by decide +kernel
theorem dX4_part_8 : decode cX4_part 8 = .ok (.aload_n 0, 1) := by decide +kernel
theorem dX4_part_9 : decode cX4_part 9 = .ok (.iconst 0, 1) := by decide +kernel
theorem dX4_part_10 : decode cX4_part 10 = .ok (.invokevirtual 58, 3) := by decide +kernel
theorem dX4_part_13 : decode cX4_part 13 = .ok (.ifCond .eq 16, 3) := by decide +kernel
theorem dX4_part_16 : decode cX4_part 16 = .ok (.aload_n 0, 1) := by decide +kernel
theorem dX4_part_17 : decode cX4_part 17 = .ok (.bipush 59, 2) := by decide +kernel
theorem dX4_part_19 : decode cX4_part 19 = .ok (.invokevirtual 55, 3) := by decide +kernel
theorem dX4_part_22 : decode cX4_part 22 = .ok (.ifCond .eq 7, 3) := by decide +kernel
theorem dX4_part_25 : decode cX4_part 25 = .ok (.iconst 1, 1) := by decide +kernel
theorem dX4_part_26 : decode cX4_part 26 = .ok (.goto 4, 3) := by decide +kernel
theorem dX4_part_29 : decode cX4_part 29 = .ok (.iconst 0, 1) := by decide +kernel
theorem dX4_part_30 : decode cX4_part 30 = .ok (.ireturn, 1) := by decide +kernel
theorem dX4_either_0 : decode cX4_either 0 = .ok (.aload_n 0, 1) := by decide +kernel
theorem dX4_either_1 : decode cX4_either 1 = .ok (.iload_n 1, 1) := by decide +kernel
theorem dX4_either_2 : decode cX4_either 2 = .ok (.invokevirtual 61, 3) := by decide +kernel
theorem dX4_either_5 : decode cX4_either 5 = .ok (.istore_n 2, 1) := by decide +kernel
theorem dX4_either_6 : decode cX4_either 6 = .ok (.iconst 0, 1) := by decide +kernel
theorem dX4_either_7 : decode cX4_either 7 = .ok (.istore_n 3, 1) := by decide +kernel
theorem dX4_either_8 : decode cX4_either 8 = .ok (.iload_n 3, 1) := by decide +kernel
theorem dX4_either_9 : decode cX4_either 9 = .ok (.sipush 160, 3) := by decide +kernel
theorem dX4_either_12 : decode cX4_either 12 = .ok (.if_icmp .ge 49, 3) := by decide +kernel
theorem dX4_either_15 : decode cX4_either 15 = .ok (.iload_n 2, 1) := by decide +kernel
theorem dX4_either_16 : decode cX4_either 16 = .ok (.ifCond .eq 45, 3) := by decide +kernel
theorem dX4_either_19 : decode cX4_either 19 = .ok (.aload_n 0, 1) := by decide +kernel
theorem dX4_either_20 : decode cX4_either 20 = .ok (.getfield 31, 3) := by decide +kernel
theorem dX4_either_23 : decode cX4_either 23 = .ok (.bipush 6, 2) := by decide +kernel
theorem dX4_either_25 : decode cX4_either 25 = .ok (.if_icmp .ne 36, 3) := by decide +kernel
theorem dX4_either_28 : decode cX4_either 28 = .ok (.aload_n 0, 1) := by decide +kernel
theorem dX4_either_29 : decode cX4_either 29 = .ok (.invokevirtual 37, 3) := by decide +kernel
theorem dX4_either_32 : decode cX4_either 32 = .ok (.aload_n 0, 1) := by decide +kernel
theorem dX4_either_33 : decode cX4_either 33 = .ok (.iload_n 1, 1) := by decide +kernel
theorem dX4_either_34 : decode cX4_either 34 = .ok (.invokevirtual 61, 3) := by decide +kernel
theorem dX4_either_37 : decode cX4_either 37 = .ok (.ifCond .eq 16, 3) := by decide +kernel
theorem dX4_either_40 : decode cX4_either 40 = .ok (.aload_n 0, 1) := by decide +kernel
theorem dX4_either_41 : decode cX4_either 41 = .ok (.bipush 6, 2) := by decide +kernel
theorem dX4_either_43 : decode cX4_either 43 = .ok (.invokevirtual 64, 3) := by decide +kernel
theorem dX4_either_46 : decode cX4_either 46 = .ok (.ifCond .eq 7, 3) := by decide +kernel
theorem dX4_either_49 : decode cX4_either 49 = .ok (.iconst 1, 1) := by decide +kernel
theorem dX4_either_50 : decode cX4_either 50 = .ok (.goto 4, 3) := by decide +kernel
theorem dX4_either_53 : decode cX4_either 53 = .ok (.iconst 0, 1) := by decide +kernel
theorem dX4_either_54 : decode cX4_either 54 = .ok (.istore_n 2, 1) := by decide +kernel
theorem dX4_either_55 : decode cX4_either 55 = .ok (.iinc 3 1, 3) := by decide +kernel
theorem dX4_either_58 : decode cX4_either 58 = .ok (.goto (-50), 3) := by decide +kernel
theorem dX4_either_61 : decode cX4_either 61 = .ok (.iload_n 2, 1) := by decide +kernel
theorem dX4_either_62 : decode cX4_either 62 = .ok (.ireturn, 1) := by decide +kernel
theorem dX4_both_0 : decode cX4_both 0 = .ok (.aload_n 0, 1) := by decide +kernel
theorem dX4_both_1 : decode cX4_both 1 = .ok (.iload_n 1, 1) := by decide +kernel
theorem dX4_both_2 : decode cX4_both 2 = .ok (.invokevirtual 67, 3) := by decide +kernel
theorem dX4_both_5 : decode cX4_both 5 = .ok (.istore_n 2, 1) := by decide +kernel
theorem dX4_both_6 : decode cX4_both 6 = .ok (.iconst 0, 1) := by decide +kernel
theorem dX4_both_7 : decode cX4_both 7 = .ok (.istore_n 3, 1) := by decide +kernel
theorem dX4_both_8 : decode cX4_both 8 = .ok (.iload_n 3, 1) := by decide +kernel
theorem dX4_both_9 : decode cX4_both 9 = .ok (.sipush 160, 3) := by decide +kernel
theorem dX4_both_12 : decode cX4_both 12 = .ok (.if_icmp .ge 49, 3) := by decide +kernel
theorem dX4_both_15 : decode cX4_both 15 = .ok (.iload_n 2, 1) := by decide +kernel
theorem dX4_both_16 : decode cX4_both 16 = .ok (.ifCond .eq 45, 3) := by decide +kernel
theorem dX4_both_19 : decode cX4_both 19 = .ok (.aload_n 0, 1) := by decide +kernel
theorem dX4_both_20 : decode cX4_both 20 = .ok (.getfield 31, 3) := by decide +kernel
theorem dX4_both_23 : decode cX4_both 23 = .ok (.bipush 7, 2) := by decide +kernel
theorem dX4_both_25 : decode cX4_both 25 = .ok (.if_icmp .ne 36, 3) := by decide +kernel
theorem dX4_both_28 : decode cX4_both 28 = .ok (.aload_n 0, 1) := by decide +kernel
theorem dX4_both_29 : decode cX4_both 29 = .ok (.invokevirtual 37, 3) := by decide +kernel
theorem dX4_both_32 : decode cX4_both 32 = .ok (.aload_n 0, 1) := by decide +kernel
theorem dX4_both_33 : decode cX4_both 33 = .ok (.iload_n 1, 1) := by decide +kernel
theorem dX4_both_34 : decode cX4_both 34 = .ok (.invokevirtual 67, 3) := by decide +kernel
theorem dX4_both_37 : decode cX4_both 37 = .ok (.ifCond .eq 16, 3) := by decide +kernel
theorem dX4_both_40 : decode cX4_both 40 = .ok (.aload_n 0, 1) := by decide +kernel
theorem dX4_both_41 : decode cX4_both 41 = .ok (.bipush 7, 2) := by decide +kernel
theorem dX4_both_43 : decode cX4_both 43 = .ok (.invokevirtual 64, 3) := by decide +kernel
theorem dX4_both_46 : decode cX4_both 46 = .ok (.ifCond .eq 7, 3) := by decide +kernel
theorem dX4_both_49 : decode cX4_both 49 = .ok (.iconst 1, 1) := by decide +kernel
theorem dX4_both_50 : decode cX4_both 50 = .ok (.goto 4, 3) := by decide +kernel
theorem dX4_both_53 : decode cX4_both 53 = .ok (.iconst 0, 1) := by decide +kernel
theorem dX4_both_54 : decode cX4_both 54 = .ok (.istore_n 2, 1) := by decide +kernel
theorem dX4_both_55 : decode cX4_both 55 = .ok (.iinc 3 1, 3) := by decide +kernel
theorem dX4_both_58 : decode cX4_both 58 = .ok (.goto (-50), 3) := by decide +kernel
theorem dX4_both_61 : decode cX4_both 61 = .ok (.iload_n 2, 1) := by decide +kernel
theorem dX4_both_62 : decode cX4_both 62 = .ok (.ireturn, 1) := by decide +kernel
theorem dX4_negated_0 : decode cX4_negated 0 = .ok (.aload_n 0, 1) := by decide +kernel
theorem dX4_negated_1 : decode cX4_negated 1 = .ok (.getfield 31, 3) := by decide +kernel
theorem dX4_negated_4 : decode cX4_negated 4 = .ok (.bipush 8, 2) := by decide +kernel
theorem dX4_negated_6 : decode cX4_negated 6 = .ok (.if_icmp .eq 9, 3) := by decide +kernel
theorem dX4_negated_9 : decode cX4_negated 9 = .ok (.aload_n 0, 1) := by decide +kernel
theorem dX4_negated_10 : decode cX4_negated 10 = .ok (.iload_n 1, 1) := by decide +kernel
theorem dX4_negated_11 : decode cX4_negated 11 = .ok (.invokevirtual 70, 3) := by decide +kernel
theorem dX4_negated_14 : decode cX4_negated 14 = .ok (.ireturn, 1) := by decide +kernel
theorem dX4_negated_15 : decode cX4_negated 15 = .ok (.iload_n 1, 1) := by decide +kernel
theorem dX4_negated_16 : decode cX4_negated 16 = .ok (.iconst 5, 1) := by decide +kernel
theorem dX4_negated_17 : decode cX4_negated 17 = .ok (.if_icmp .lt 5, 3) := by decide +kernel
theorem dX4_negated_20 : decode cX4_negated 20 = .ok (.iconst 0, 1) := by decide +kernel
theorem dX4_negated_21 : decode cX4_negated 21 = .ok (.ireturn, 1) := by decide +kernel
theorem dX4_negated_22 : decode cX4_negated 22 = .ok (.aload_n 0, 1) := by decide +kernel
theorem dX4_negated_23 : decode cX4_negated 23 = .ok (.invokevirtual 37, 3) := by decide +kernel
theorem dX4_negated_26 : decode cX4_negated 26 = .ok (.aload_n 0, 1) := by decide +kernel
theorem dX4_negated_27 : decode cX4_negated 27 = .ok (.iload_n 1, 1) := by decide +kernel
theorem dX4_negated_28 : decode cX4_negated 28 = .ok (.iconst 1, 1) := by decide +kernel
theorem dX4_negated_29 : decode cX4_negated 29 = .ok (.iadd, 1) := by decide +kernel
theorem dX4_negated_30 : decode cX4_negated 30 = .ok (.invokevirtual 67, 3) := by decide +kernel
theorem dX4_negated_33 : decode cX4_negated 33 = .ok (.ifCond .eq 16, 3) := by decide +kernel
theorem dX4_negated_36 : decode cX4_negated 36 = .ok (.aload_n 0, 1) := by decide +kernel
theorem dX4_negated_37 : decode cX4_negated 37 = .ok (.bipush 8, 2) := by decide +kernel
theorem dX4_negated_39 : decode cX4_negated 39 = .ok (.invokevirtual 64, 3) := by decide +kernel
theorem dX4_negated_42 : decode cX4_negated 42 = .ok (.ifCond .eq 7, 3) := by decide +kernel
theorem dX4_negated_45 : decode cX4_negated 45 = .ok (.iconst 1, 1) := by decide +kernel
theorem dX4_negated_46 : decode cX4_negated 46 = .ok (.goto 4, 3) := by decide +kernel
theorem dX4_negated_49 : decode cX4_negated 49 = .ok (.iconst 0, 1) := by decide +kernel
theorem dX4_negated_50 : decode cX4_negated 50 = .ok (.ireturn, 1) := by decide +kernel
theorem dX4_compared_0 : decode cX4_compared 0 = .ok (.aload_n 0, 1) := by decide +kernel
theorem dX4_compared_1 : decode cX4_compared 1 = .ok (.iload_n 1, 1) := by decide +kernel
theorem dX4_compared_2 : decode cX4_compared 2 = .ok (.invokevirtual 73, 3) := by decide +kernel
theorem dX4_compared_5 : decode cX4_compared 5 = .ok (.ifCond .ne 5, 3) := by decide +kernel
theorem dX4_compared_8 : decode cX4_compared 8 = .ok (.iconst 0, 1) := by decide +kernel
theorem dX4_compared_9 : decode cX4_compared 9 = .ok (.ireturn, 1) := by decide +kernel
theorem dX4_compared_10 : decode cX4_compared 10 = .ok (.aload_n 0, 1) := by decide +kernel
theorem dX4_compared_11 : decode cX4_compared 11 = .ok (.getfield 31, 3) := by decide +kernel
theorem dX4_compared_14 : decode cX4_compared 14 = .ok (.istore_n 2, 1) := by decide +kernel
theorem dX4_compared_15 : decode cX4_compared 15 = .ok (.iload_n 2, 1) := by decide +kernel
theorem dX4_compared_16 : decode cX4_compared 16 = .ok (.bipush 60, 2) := by decide +kernel
theorem dX4_compared_18 : decode cX4_compared 18 = .ok (.if_icmp .eq 11, 3) := by decide +kernel
theorem dX4_compared_21 : decode cX4_compared 21 = .ok (.iload_n 2, 1) := by decide +kernel
theorem dX4_compared_22 : decode cX4_compared 22 = .ok (.bipush 61, 2) := by decide +kernel
theorem dX4_compared_24 : decode cX4_compared 24 = .ok (.if_icmp .eq 5, 3) := by decide +kernel
theorem dX4_compared_27 : decode cX4_compared 27 = .ok (.iconst 1, 1) := by decide +kernel
theorem dX4_compared_28 : decode cX4_compared 28 = .ok (.ireturn, 1) := by decide +kernel
theorem dX4_compared_29 : decode cX4_compared 29 = .ok (.aload_n 0, 1) := by decide +kernel
theorem dX4_compared_30 : decode cX4_compared 30 = .ok (.invokevirtual 37, 3) := by decide +kernel
theorem dX4_compared_33 : decode cX4_compared 33 = .ok (.aload_n 0, 1) := by decide +kernel
theorem dX4_compared_34 : decode cX4_compared 34 = .ok (.iload_n 1, 1) := by decide +kernel
theorem dX4_compared_35 : decode cX4_compared 35 = .ok (.invokevirtual 73, 3) := by decide +kernel
theorem dX4_compared_38 : decode cX4_compared 38 = .ok (.ifCond .eq 15, 3) := by decide +kernel
theorem dX4_compared_41 : decode cX4_compared 41 = .ok (.aload_n 0, 1) := by decide +kernel
theorem dX4_compared_42 : decode cX4_compared 42 = .ok (.iload_n 2, 1) := by decide +kernel
theorem dX4_compared_43 : decode cX4_compared 43 = .ok (.invokevirtual 64, 3) := by decide +kernel
theorem dX4_compared_46 : decode cX4_compared 46 = .ok (.ifCond .eq 7, 3) := by decide +kernel
theorem dX4_compared_49 : decode cX4_compared 49 = .ok (.iconst 1, 1) := by decide +kernel
theorem dX4_compared_50 : decode cX4_compared 50 = .ok (.goto 4, 3) := by decide +kernel
theorem dX4_compared_53 : decode cX4_compared 53 = .ok (.iconst 0, 1) := by decide +kernel
theorem dX4_compared_54 : decode cX4_compared 54 = .ok (.ireturn, 1) := by decide +kernel
theorem dX4_sum_0 : decode cX4_sum 0 = .ok (.aload_n 0, 1) := by decide +kernel
theorem dX4_sum_1 : decode cX4_sum 1 = .ok (.iload_n 1, 1) := by decide +kernel
theorem dX4_sum_2 : decode cX4_sum 2 = .ok (.invokevirtual 76, 3) := by decide +kernel
theorem dX4_sum_5 : decode cX4_sum 5 = .ok (.istore_n 2, 1) := by decide +kernel
theorem dX4_sum_6 : decode cX4_sum 6 = .ok (.iconst 0, 1) := by decide +kernel
theorem dX4_sum_7 : decode cX4_sum 7 = .ok (.istore_n 3, 1) := by decide +kernel
theorem dX4_sum_8 : decode cX4_sum 8 = .ok (.iload_n 3, 1) := by decide +kernel
theorem dX4_sum_9 : decode cX4_sum 9 = .ok (.sipush 160, 3) := by decide +kernel
theorem dX4_sum_12 : decode cX4_sum 12 = .ok (.if_icmp .ge 64, 3) := by decide +kernel
theorem dX4_sum_15 : decode cX4_sum 15 = .ok (.iload_n 2, 1) := by decide +kernel
theorem dX4_sum_16 : decode cX4_sum 16 = .ok (.ifCond .eq 60, 3) := by decide +kernel
theorem dX4_sum_19 : decode cX4_sum 19 = .ok (.aload_n 0, 1) := by decide +kernel
theorem dX4_sum_20 : decode cX4_sum 20 = .ok (.getfield 31, 3) := by decide +kernel
theorem dX4_sum_23 : decode cX4_sum 23 = .ok (.bipush 43, 2) := by decide +kernel
theorem dX4_sum_25 : decode cX4_sum 25 = .ok (.if_icmp .eq 12, 3) := by decide +kernel
theorem dX4_sum_28 : decode cX4_sum 28 = .ok (.aload_n 0, 1) := by decide +kernel
theorem dX4_sum_29 : decode cX4_sum 29 = .ok (.getfield 31, 3) := by decide +kernel
theorem dX4_sum_32 : decode cX4_sum 32 = .ok (.bipush 45, 2) := by decide +kernel
theorem dX4_sum_34 : decode cX4_sum 34 = .ok (.if_icmp .ne 42, 3) := by decide +kernel
theorem dX4_sum_37 : decode cX4_sum 37 = .ok (.aload_n 0, 1) := by decide +kernel
theorem dX4_sum_38 : decode cX4_sum 38 = .ok (.getfield 31, 3) := by decide +kernel
theorem dX4_sum_41 : decode cX4_sum 41 = .ok (.istore 4, 2) := by decide +kernel
theorem dX4_sum_43 : decode cX4_sum 43 = .ok (.aload_n 0, 1) := by decide +kernel
theorem dX4_sum_44 : decode cX4_sum 44 = .ok (.invokevirtual 37, 3) := by decide +kernel
theorem dX4_sum_47 : decode cX4_sum 47 = .ok (.aload_n 0, 1) := by decide +kernel
theorem dX4_sum_48 : decode cX4_sum 48 = .ok (.iload_n 1, 1) := by decide +kernel
theorem dX4_sum_49 : decode cX4_sum 49 = .ok (.invokevirtual 76, 3) := by decide +kernel
theorem dX4_sum_52 : decode cX4_sum 52 = .ok (.ifCond .eq 16, 3) := by decide +kernel
theorem dX4_sum_55 : decode cX4_sum 55 = .ok (.aload_n 0, 1) := by decide +kernel
theorem dX4_sum_56 : decode cX4_sum 56 = .ok (.iload 4, 2) := by decide +kernel
theorem dX4_sum_58 : decode cX4_sum 58 = .ok (.invokevirtual 64, 3) := by decide +kernel
theorem dX4_sum_61 : decode cX4_sum 61 = .ok (.ifCond .eq 7, 3) := by decide +kernel
theorem dX4_sum_64 : decode cX4_sum 64 = .ok (.iconst 1, 1) := by decide +kernel
theorem dX4_sum_65 : decode cX4_sum 65 = .ok (.goto 4, 3) := by decide +kernel
theorem dX4_sum_68 : decode cX4_sum 68 = .ok (.iconst 0, 1) := by decide +kernel
theorem dX4_sum_69 : decode cX4_sum 69 = .ok (.istore_n 2, 1) := by decide +kernel
theorem dX4_sum_70 : decode cX4_sum 70 = .ok (.iinc 3 1, 3) := by decide +kernel
theorem dX4_sum_73 : decode cX4_sum 73 = .ok (.goto (-65), 3) := by decide +kernel
theorem dX4_sum_76 : decode cX4_sum 76 = .ok (.iload_n 2, 1) := by decide +kernel
theorem dX4_sum_77 : decode cX4_sum 77 = .ok (.ireturn, 1) := by decide +kernel
theorem dX4_term_0 : decode cX4_term 0 = .ok (.aload_n 0, 1) := by decide +kernel
theorem dX4_term_1 : decode cX4_term 1 = .ok (.iload_n 1, 1) := by decide +kernel
theorem dX4_term_2 : decode cX4_term 2 = .ok (.invokevirtual 79, 3) := by decide +kernel
theorem dX4_term_5 : decode cX4_term 5 = .ok (.istore_n 2, 1) := by decide +kernel
theorem dX4_term_6 : decode cX4_term 6 = .ok (.iconst 0, 1) := by decide +kernel
theorem dX4_term_7 : decode cX4_term 7 = .ok (.istore_n 3, 1) := by decide +kernel
theorem dX4_term_8 : decode cX4_term 8 = .ok (.iload_n 3, 1) := by decide +kernel
theorem dX4_term_9 : decode cX4_term 9 = .ok (.sipush 160, 3) := by decide +kernel
theorem dX4_term_12 : decode cX4_term 12 = .ok (.if_icmp .ge 49, 3) := by decide +kernel
theorem dX4_term_15 : decode cX4_term 15 = .ok (.iload_n 2, 1) := by decide +kernel
theorem dX4_term_16 : decode cX4_term 16 = .ok (.ifCond .eq 45, 3) := by decide +kernel
theorem dX4_term_19 : decode cX4_term 19 = .ok (.aload_n 0, 1) := by decide +kernel
theorem dX4_term_20 : decode cX4_term 20 = .ok (.getfield 31, 3) := by decide +kernel
theorem dX4_term_23 : decode cX4_term 23 = .ok (.bipush 42, 2) := by decide +kernel
theorem dX4_term_25 : decode cX4_term 25 = .ok (.if_icmp .ne 36, 3) := by decide +kernel
theorem dX4_term_28 : decode cX4_term 28 = .ok (.aload_n 0, 1) := by decide +kernel
theorem dX4_term_29 : decode cX4_term 29 = .ok (.invokevirtual 37, 3) := by decide +kernel
theorem dX4_term_32 : decode cX4_term 32 = .ok (.aload_n 0, 1) := by decide +kernel
theorem dX4_term_33 : decode cX4_term 33 = .ok (.iload_n 1, 1) := by decide +kernel
theorem dX4_term_34 : decode cX4_term 34 = .ok (.invokevirtual 79, 3) := by decide +kernel
theorem dX4_term_37 : decode cX4_term 37 = .ok (.ifCond .eq 16, 3) := by decide +kernel
theorem dX4_term_40 : decode cX4_term 40 = .ok (.aload_n 0, 1) := by decide +kernel
theorem dX4_term_41 : decode cX4_term 41 = .ok (.bipush 42, 2) := by decide +kernel
theorem dX4_term_43 : decode cX4_term 43 = .ok (.invokevirtual 64, 3) := by decide +kernel
theorem dX4_term_46 : decode cX4_term 46 = .ok (.ifCond .eq 7, 3) := by decide +kernel
theorem dX4_term_49 : decode cX4_term 49 = .ok (.iconst 1, 1) := by decide +kernel
theorem dX4_term_50 : decode cX4_term 50 = .ok (.goto 4, 3) := by decide +kernel
theorem dX4_term_53 : decode cX4_term 53 = .ok (.iconst 0, 1) := by decide +kernel
theorem dX4_term_54 : decode cX4_term 54 = .ok (.istore_n 2, 1) := by decide +kernel
theorem dX4_term_55 : decode cX4_term 55 = .ok (.iinc 3 1, 3) := by decide +kernel
theorem dX4_term_58 : decode cX4_term 58 = .ok (.goto (-50), 3) := by decide +kernel
theorem dX4_term_61 : decode cX4_term 61 = .ok (.iload_n 2, 1) := by decide +kernel
theorem dX4_term_62 : decode cX4_term 62 = .ok (.ireturn, 1) := by decide +kernel
theorem dX4_one_0 : decode cX4_one 0 = .ok (.aload_n 0, 1) := by decide +kernel
theorem dX4_one_1 : decode cX4_one 1 = .ok (.getfield 31, 3) := by decide +kernel
theorem dX4_one_4 : decode cX4_one 4 = .ok (.iconst 2, 1) := by decide +kernel
theorem dX4_one_5 : decode cX4_one 5 = .ok (.if_icmp .ne 23, 3) := by decide +kernel
theorem dX4_one_8 : decode cX4_one 8 = .ok (.aload_n 0, 1) := by decide +kernel
theorem dX4_one_9 : decode cX4_one 9 = .ok (.iconst 2, 1) := by decide +kernel
theorem dX4_one_10 : decode cX4_one 10 = .ok (.aload_n 0, 1) := by decide +kernel
theorem dX4_one_11 : decode cX4_one 11 = .ok (.getfield 34, 3) := by decide +kernel
theorem dX4_one_14 : decode cX4_one 14 = .ok (.bipush 6, 2) := by decide +kernel
theorem dX4_one_16 : decode cX4_one 16 = .ok (.ishl, 1) := by decide +kernel
theorem dX4_one_17 : decode cX4_one 17 = .ok (.iadd, 1) := by decide +kernel
theorem dX4_one_18 : decode cX4_one 18 = .ok (.invokevirtual 64, 3) := by decide +kernel
theorem dX4_one_21 : decode cX4_one 21 = .ok (.pop, 1) := by decide +kernel
theorem dX4_one_22 : decode cX4_one 22 = .ok (.aload_n 0, 1) := by decide +kernel
theorem dX4_one_23 : decode cX4_one 23 = .ok (.iconst 2, 1) := by decide +kernel
theorem dX4_one_24 : decode cX4_one 24 = .ok (.invokevirtual 55, 3) := by decide +kernel
theorem dX4_one_27 : decode cX4_one 27 = .ok (.ireturn, 1) := by decide +kernel
theorem dX4_one_28 : decode cX4_one 28 = .ok (.aload_n 0, 1) := by decide +kernel
theorem dX4_one_29 : decode cX4_one 29 = .ok (.getfield 31, 3) := by decide +kernel
theorem dX4_one_32 : decode cX4_one 32 = .ok (.bipush 10, 2) := by decide +kernel
theorem dX4_one_34 : decode cX4_one 34 = .ok (.if_icmp .lt 30, 3) := by decide +kernel
theorem dX4_one_37 : decode cX4_one 37 = .ok (.aload_n 0, 1) := by decide +kernel
theorem dX4_one_38 : decode cX4_one 38 = .ok (.getfield 31, 3) := by decide +kernel
theorem dX4_one_41 : decode cX4_one 41 = .ok (.bipush 15, 2) := by decide +kernel
theorem dX4_one_43 : decode cX4_one 43 = .ok (.if_icmp .gt 21, 3) := by decide +kernel
theorem dX4_one_46 : decode cX4_one 46 = .ok (.aload_n 0, 1) := by decide +kernel
theorem dX4_one_47 : decode cX4_one 47 = .ok (.aload_n 0, 1) := by decide +kernel
theorem dX4_one_48 : decode cX4_one 48 = .ok (.getfield 31, 3) := by decide +kernel
theorem dX4_one_51 : decode cX4_one 51 = .ok (.invokevirtual 64, 3) := by decide +kernel
theorem dX4_one_54 : decode cX4_one 54 = .ok (.pop, 1) := by decide +kernel
theorem dX4_one_55 : decode cX4_one 55 = .ok (.aload_n 0, 1) := by decide +kernel
theorem dX4_one_56 : decode cX4_one 56 = .ok (.aload_n 0, 1) := by decide +kernel
theorem dX4_one_57 : decode cX4_one 57 = .ok (.getfield 31, 3) := by decide +kernel
theorem dX4_one_60 : decode cX4_one 60 = .ok (.invokevirtual 55, 3) := by decide +kernel
theorem dX4_one_63 : decode cX4_one 63 = .ok (.ireturn, 1) := by decide +kernel
theorem dX4_one_64 : decode cX4_one 64 = .ok (.aload_n 0, 1) := by decide +kernel
theorem dX4_one_65 : decode cX4_one 65 = .ok (.getfield 31, 3) := by decide +kernel
theorem dX4_one_68 : decode cX4_one 68 = .ok (.bipush 45, 2) := by decide +kernel
theorem dX4_one_70 : decode cX4_one 70 = .ok (.if_icmp .eq 12, 3) := by decide +kernel
theorem dX4_one_73 : decode cX4_one 73 = .ok (.aload_n 0, 1) := by decide +kernel
theorem dX4_one_74 : decode cX4_one 74 = .ok (.getfield 31, 3) := by decide +kernel
theorem dX4_one_77 : decode cX4_one 77 = .ok (.bipush 40, 2) := by decide +kernel
theorem dX4_one_79 : decode cX4_one 79 = .ok (.if_icmp .ne 8, 3) := by decide +kernel
theorem dX4_one_82 : decode cX4_one 82 = .ok (.iload_n 1, 1) := by decide +kernel
theorem dX4_one_83 : decode cX4_one 83 = .ok (.iconst 5, 1) := by decide +kernel
theorem dX4_one_84 : decode cX4_one 84 = .ok (.if_icmp .lt 5, 3) := by decide +kernel
theorem dX4_one_87 : decode cX4_one 87 = .ok (.iconst 0, 1) := by decide +kernel
theorem dX4_one_88 : decode cX4_one 88 = .ok (.ireturn, 1) := by decide +kernel
theorem dX4_one_89 : decode cX4_one 89 = .ok (.aload_n 0, 1) := by decide +kernel
theorem dX4_one_90 : decode cX4_one 90 = .ok (.bipush 45, 2) := by decide +kernel
theorem dX4_one_92 : decode cX4_one 92 = .ok (.invokevirtual 55, 3) := by decide +kernel
theorem dX4_one_95 : decode cX4_one 95 = .ok (.ifCond .eq 28, 3) := by decide +kernel
theorem dX4_one_98 : decode cX4_one 98 = .ok (.aload_n 0, 1) := by decide +kernel
theorem dX4_one_99 : decode cX4_one 99 = .ok (.iload_n 1, 1) := by decide +kernel
theorem dX4_one_100 : decode cX4_one 100 = .ok (.iconst 1, 1) := by decide +kernel
theorem dX4_one_101 : decode cX4_one 101 = .ok (.iadd, 1) := by decide +kernel
theorem dX4_one_102 : decode cX4_one 102 = .ok (.invokevirtual 79, 3) := by decide +kernel
theorem dX4_one_105 : decode cX4_one 105 = .ok (.ifCond .eq 16, 3) := by decide +kernel
theorem dX4_one_108 : decode cX4_one 108 = .ok (.aload_n 0, 1) := by decide +kernel
theorem dX4_one_109 : decode cX4_one 109 = .ok (.bipush 9, 2) := by decide +kernel
theorem dX4_one_111 : decode cX4_one 111 = .ok (.invokevirtual 64, 3) := by decide +kernel
theorem dX4_one_114 : decode cX4_one 114 = .ok (.ifCond .eq 7, 3) := by decide +kernel
theorem dX4_one_117 : decode cX4_one 117 = .ok (.iconst 1, 1) := by decide +kernel
theorem dX4_one_118 : decode cX4_one 118 = .ok (.goto 4, 3) := by decide +kernel
theorem dX4_one_121 : decode cX4_one 121 = .ok (.iconst 0, 1) := by decide +kernel
theorem dX4_one_122 : decode cX4_one 122 = .ok (.ireturn, 1) := by decide +kernel
theorem dX4_one_123 : decode cX4_one 123 = .ok (.aload_n 0, 1) := by decide +kernel
theorem dX4_one_124 : decode cX4_one 124 = .ok (.bipush 40, 2) := by decide +kernel
theorem dX4_one_126 : decode cX4_one 126 = .ok (.invokevirtual 55, 3) := by decide +kernel
theorem dX4_one_129 : decode cX4_one 129 = .ok (.ifCond .eq 26, 3) := by decide +kernel
theorem dX4_one_132 : decode cX4_one 132 = .ok (.aload_n 0, 1) := by decide +kernel
theorem dX4_one_133 : decode cX4_one 133 = .ok (.iload_n 1, 1) := by decide +kernel
theorem dX4_one_134 : decode cX4_one 134 = .ok (.iconst 1, 1) := by decide +kernel
theorem dX4_one_135 : decode cX4_one 135 = .ok (.iadd, 1) := by decide +kernel
theorem dX4_one_136 : decode cX4_one 136 = .ok (.invokevirtual 58, 3) := by decide +kernel
theorem dX4_one_139 : decode cX4_one 139 = .ok (.ifCond .eq 16, 3) := by decide +kernel
theorem dX4_one_142 : decode cX4_one 142 = .ok (.aload_n 0, 1) := by decide +kernel
theorem dX4_one_143 : decode cX4_one 143 = .ok (.bipush 41, 2) := by decide +kernel
theorem dX4_one_145 : decode cX4_one 145 = .ok (.invokevirtual 55, 3) := by decide +kernel
theorem dX4_one_148 : decode cX4_one 148 = .ok (.ifCond .eq 7, 3) := by decide +kernel
theorem dX4_one_151 : decode cX4_one 151 = .ok (.iconst 1, 1) := by decide +kernel
theorem dX4_one_152 : decode cX4_one 152 = .ok (.goto 4, 3) := by decide +kernel
theorem dX4_one_155 : decode cX4_one 155 = .ok (.iconst 0, 1) := by decide +kernel
theorem dX4_one_156 : decode cX4_one 156 = .ok (.ireturn, 1) := by decide +kernel
theorem dX4_emit_0 : decode cX4_emit 0 = .ok (.aload_n 0, 1) := by decide +kernel
theorem dX4_emit_1 : decode cX4_emit 1 = .ok (.getfield 25, 3) := by decide +kernel
theorem dX4_emit_4 : decode cX4_emit 4 = .ok (.sipush 160, 3) := by decide +kernel
theorem dX4_emit_7 : decode cX4_emit 7 = .ok (.if_icmp .ge 23, 3) := by decide +kernel
theorem dX4_emit_10 : decode cX4_emit 10 = .ok (.aload_n 0, 1) := by decide +kernel
theorem dX4_emit_11 : decode cX4_emit 11 = .ok (.getfield 22, 3) := by decide +kernel
theorem dX4_emit_14 : decode cX4_emit 14 = .ok (.aload_n 0, 1) := by decide +kernel
theorem dX4_emit_15 : decode cX4_emit 15 = .ok (.getfield 25, 3) := by decide +kernel
theorem dX4_emit_18 : decode cX4_emit 18 = .ok (.iload_n 1, 1) := by decide +kernel
theorem dX4_emit_19 : decode cX4_emit 19 = .ok (.iastore, 1) := by decide +kernel
theorem dX4_emit_20 : decode cX4_emit 20 = .ok (.aload_n 0, 1) := by decide +kernel
theorem dX4_emit_21 : decode cX4_emit 21 = .ok (.dup, 1) := by decide +kernel
theorem dX4_emit_22 : decode cX4_emit 22 = .ok (.getfield 25, 3) := by decide +kernel
theorem dX4_emit_25 : decode cX4_emit 25 = .ok (.iconst 1, 1) := by decide +kernel
theorem dX4_emit_26 : decode cX4_emit 26 = .ok (.iadd, 1) := by decide +kernel
theorem dX4_emit_27 : decode cX4_emit 27 = .ok (.putfield 25, 3) := by decide +kernel
theorem dX4_emit_30 : decode cX4_emit 30 = .ok (.iconst 1, 1) := by decide +kernel
theorem dX4_emit_31 : decode cX4_emit 31 = .ok (.ireturn, 1) := by decide +kernel
theorem dX4_passed_0 : decode cX4_passed 0 = .ok (.aload_n 0, 1) := by decide +kernel
theorem dX4_passed_1 : decode cX4_passed 1 = .ok (.getfield 31, 3) := by decide +kernel
theorem dX4_passed_4 : decode cX4_passed 4 = .ok (.iload_n 1, 1) := by decide +kernel
theorem dX4_passed_5 : decode cX4_passed 5 = .ok (.if_icmp .eq 5, 3) := by decide +kernel
theorem dX4_passed_8 : decode cX4_passed 8 = .ok (.iconst 0, 1) := by decide +kernel
theorem dX4_passed_9 : decode cX4_passed 9 = .ok (.ireturn, 1) := by decide +kernel
theorem dX4_passed_10 : decode cX4_passed 10 = .ok (.aload_n 0, 1) := by decide +kernel
theorem dX4_passed_11 : decode cX4_passed 11 = .ok (.invokevirtual 37, 3) := by decide +kernel
theorem dX4_passed_14 : decode cX4_passed 14 = .ok (.iconst 1, 1) := by decide +kernel
theorem dX4_passed_15 : decode cX4_passed 15 = .ok (.ireturn, 1) := by decide +kernel
theorem dX4_advance_0 : decode cX4_advance 0 = .ok (.aload_n 0, 1) := by decide +kernel
theorem dX4_advance_1 : decode cX4_advance 1 = .ok (.getfield 28, 3) := by decide +kernel
theorem dX4_advance_4 : decode cX4_advance 4 = .ok (.aload_n 0, 1) := by decide +kernel
theorem dX4_advance_5 : decode cX4_advance 5 = .ok (.getfield 9, 3) := by decide +kernel
theorem dX4_advance_8 : decode cX4_advance 8 = .ok (.if_icmp .ge 44, 3) := by decide +kernel
theorem dX4_advance_11 : decode cX4_advance 11 = .ok (.aload_n 0, 1) := by decide +kernel
theorem dX4_advance_12 : decode cX4_advance 12 = .ok (.getfield 18, 3) := by decide +kernel
theorem dX4_advance_15 : decode cX4_advance 15 = .ok (.aload_n 0, 1) := by decide +kernel
theorem dX4_advance_16 : decode cX4_advance 16 = .ok (.getfield 28, 3) := by decide +kernel
theorem dX4_advance_19 : decode cX4_advance 19 = .ok (.iaload, 1) := by decide +kernel
theorem dX4_advance_20 : decode cX4_advance 20 = .ok (.bipush 32, 2) := by decide +kernel
theorem dX4_advance_22 : decode cX4_advance 22 = .ok (.if_icmp .eq 17, 3) := by decide +kernel
theorem dX4_advance_25 : decode cX4_advance 25 = .ok (.aload_n 0, 1) := by decide +kernel
theorem dX4_advance_26 : decode cX4_advance 26 = .ok (.getfield 18, 3) := by decide +kernel
theorem dX4_advance_29 : decode cX4_advance 29 = .ok (.aload_n 0, 1) := by decide +kernel
theorem dX4_advance_30 : decode cX4_advance 30 = .ok (.getfield 28, 3) := by decide +kernel
theorem dX4_advance_33 : decode cX4_advance 33 = .ok (.iaload, 1) := by decide +kernel
theorem dX4_advance_34 : decode cX4_advance 34 = .ok (.bipush 10, 2) := by decide +kernel
theorem dX4_advance_36 : decode cX4_advance 36 = .ok (.if_icmp .ne 16, 3) := by decide +kernel
theorem dX4_advance_39 : decode cX4_advance 39 = .ok (.aload_n 0, 1) := by decide +kernel
theorem dX4_advance_40 : decode cX4_advance 40 = .ok (.dup, 1) := by decide +kernel
theorem dX4_advance_41 : decode cX4_advance 41 = .ok (.getfield 28, 3) := by decide +kernel
theorem dX4_advance_44 : decode cX4_advance 44 = .ok (.iconst 1, 1) := by decide +kernel
theorem dX4_advance_45 : decode cX4_advance 45 = .ok (.iadd, 1) := by decide +kernel
theorem dX4_advance_46 : decode cX4_advance 46 = .ok (.putfield 28, 3) := by decide +kernel
theorem dX4_advance_49 : decode cX4_advance 49 = .ok (.goto (-49), 3) := by decide +kernel
theorem dX4_advance_52 : decode cX4_advance 52 = .ok (.aload_n 0, 1) := by decide +kernel
theorem dX4_advance_53 : decode cX4_advance 53 = .ok (.aload_n 0, 1) := by decide +kernel
theorem dX4_advance_54 : decode cX4_advance 54 = .ok (.getfield 28, 3) := by decide +kernel
theorem dX4_advance_57 : decode cX4_advance 57 = .ok (.putfield 15, 3) := by decide +kernel
theorem dX4_advance_60 : decode cX4_advance 60 = .ok (.aload_n 0, 1) := by decide +kernel
theorem dX4_advance_61 : decode cX4_advance 61 = .ok (.getfield 28, 3) := by decide +kernel
theorem dX4_advance_64 : decode cX4_advance 64 = .ok (.aload_n 0, 1) := by decide +kernel
theorem dX4_advance_65 : decode cX4_advance 65 = .ok (.getfield 9, 3) := by decide +kernel
theorem dX4_advance_68 : decode cX4_advance 68 = .ok (.if_icmp .lt 11, 3) := by decide +kernel
theorem dX4_advance_71 : decode cX4_advance 71 = .ok (.aload_n 0, 1) := by decide +kernel
theorem dX4_advance_72 : decode cX4_advance 72 = .ok (.iconst 0, 1) := by decide +kernel
theorem dX4_advance_73 : decode cX4_advance 73 = .ok (.putfield 31, 3) := by decide +kernel
theorem dX4_advance_76 : decode cX4_advance 76 = .ok (.goto 116, 3) := by decide +kernel
theorem dX4_advance_79 : decode cX4_advance 79 = .ok (.aload_n 0, 1) := by decide +kernel
theorem dX4_advance_80 : decode cX4_advance 80 = .ok (.getfield 18, 3) := by decide +kernel
theorem dX4_advance_83 : decode cX4_advance 83 = .ok (.aload_n 0, 1) := by decide +kernel
theorem dX4_advance_84 : decode cX4_advance 84 = .ok (.getfield 28, 3) := by decide +kernel
theorem dX4_advance_87 : decode cX4_advance 87 = .ok (.iaload, 1) := by decide +kernel
theorem dX4_advance_88 : decode cX4_advance 88 = .ok (.invokestatic 82, 3) := by decide +kernel
theorem dX4_advance_91 : decode cX4_advance 91 = .ok (.ifCond .eq 53, 3) := by decide +kernel
theorem dX4_advance_94 : decode cX4_advance 94 = .ok (.aload_n 0, 1) := by decide +kernel
theorem dX4_advance_95 : decode cX4_advance 95 = .ok (.getfield 28, 3) := by decide +kernel
theorem dX4_advance_98 : decode cX4_advance 98 = .ok (.aload_n 0, 1) := by decide +kernel
theorem dX4_advance_99 : decode cX4_advance 99 = .ok (.getfield 9, 3) := by decide +kernel
theorem dX4_advance_102 : decode cX4_advance 102 = .ok (.if_icmp .ge 31, 3) := by decide +kernel
theorem dX4_advance_105 : decode cX4_advance 105 = .ok (.aload_n 0, 1) := by decide +kernel
theorem dX4_advance_106 : decode cX4_advance 106 = .ok (.getfield 18, 3) := by decide +kernel
theorem dX4_advance_109 : decode cX4_advance 109 = .ok (.aload_n 0, 1) := by decide +kernel
theorem dX4_advance_110 : decode cX4_advance 110 = .ok (.getfield 28, 3) := by decide +kernel
theorem dX4_advance_113 : decode cX4_advance 113 = .ok (.iaload, 1) := by decide +kernel
theorem dX4_advance_114 : decode cX4_advance 114 = .ok (.invokestatic 82, 3) := by decide +kernel
theorem dX4_advance_117 : decode cX4_advance 117 = .ok (.ifCond .eq 16, 3) := by decide +kernel
theorem dX4_advance_120 : decode cX4_advance 120 = .ok (.aload_n 0, 1) := by decide +kernel
theorem dX4_advance_121 : decode cX4_advance 121 = .ok (.dup, 1) := by decide +kernel
theorem dX4_advance_122 : decode cX4_advance 122 = .ok (.getfield 28, 3) := by decide +kernel
theorem dX4_advance_125 : decode cX4_advance 125 = .ok (.iconst 1, 1) := by decide +kernel
theorem dX4_advance_126 : decode cX4_advance 126 = .ok (.iadd, 1) := by decide +kernel
theorem dX4_advance_127 : decode cX4_advance 127 = .ok (.putfield 28, 3) := by decide +kernel
theorem dX4_advance_130 : decode cX4_advance 130 = .ok (.goto (-36), 3) := by decide +kernel
theorem dX4_advance_133 : decode cX4_advance 133 = .ok (.aload_n 0, 1) := by decide +kernel
theorem dX4_advance_134 : decode cX4_advance 134 = .ok (.aload_n 0, 1) := by decide +kernel
theorem dX4_advance_135 : decode cX4_advance 135 = .ok (.invokevirtual 85, 3) := by decide +kernel
theorem dX4_advance_138 : decode cX4_advance 138 = .ok (.putfield 31, 3) := by decide +kernel
theorem dX4_advance_141 : decode cX4_advance 141 = .ok (.goto 51, 3) := by decide +kernel
theorem dX4_advance_144 : decode cX4_advance 144 = .ok (.aload_n 0, 1) := by decide +kernel
theorem dX4_advance_145 : decode cX4_advance 145 = .ok (.getfield 18, 3) := by decide +kernel
theorem dX4_advance_148 : decode cX4_advance 148 = .ok (.aload_n 0, 1) := by decide +kernel
theorem dX4_advance_149 : decode cX4_advance 149 = .ok (.getfield 28, 3) := by decide +kernel
theorem dX4_advance_152 : decode cX4_advance 152 = .ok (.iaload, 1) := by decide +kernel
theorem dX4_advance_153 : decode cX4_advance 153 = .ok (.invokestatic 89, 3) := by decide +kernel
theorem dX4_advance_156 : decode cX4_advance 156 = .ok (.ifCond .eq 10, 3) := by decide +kernel
theorem dX4_advance_159 : decode cX4_advance 159 = .ok (.aload_n 0, 1) := by decide +kernel
theorem dX4_advance_160 : decode cX4_advance 160 = .ok (.invokevirtual 92, 3) := by decide +kernel
theorem dX4_advance_163 : decode cX4_advance 163 = .ok (.goto 29, 3) := by decide +kernel
theorem dX4_advance_166 : decode cX4_advance 166 = .ok (.aload_n 0, 1) := by decide +kernel
theorem dX4_advance_167 : decode cX4_advance 167 = .ok (.aload_n 0, 1) := by decide +kernel
theorem dX4_advance_168 : decode cX4_advance 168 = .ok (.getfield 18, 3) := by decide +kernel
theorem dX4_advance_171 : decode cX4_advance 171 = .ok (.aload_n 0, 1) := by decide +kernel
theorem dX4_advance_172 : decode cX4_advance 172 = .ok (.getfield 28, 3) := by decide +kernel
theorem dX4_advance_175 : decode cX4_advance 175 = .ok (.iaload, 1) := by decide +kernel
theorem dX4_advance_176 : decode cX4_advance 176 = .ok (.invokestatic 95, 3) := by decide +kernel
theorem dX4_advance_179 : decode cX4_advance 179 = .ok (.putfield 31, 3) := by decide +kernel
theorem dX4_advance_182 : decode cX4_advance 182 = .ok (.aload_n 0, 1) := by decide +kernel
theorem dX4_advance_183 : decode cX4_advance 183 = .ok (.dup, 1) := by decide +kernel
theorem dX4_advance_184 : decode cX4_advance 184 = .ok (.getfield 28, 3) := by decide +kernel
theorem dX4_advance_187 : decode cX4_advance 187 = .ok (.iconst 1, 1) := by decide +kernel
theorem dX4_advance_188 : decode cX4_advance 188 = .ok (.iadd, 1) := by decide +kernel
theorem dX4_advance_189 : decode cX4_advance 189 = .ok (.putfield 28, 3) := by decide +kernel
theorem dX4_advance_192 : decode cX4_advance 192 = .ok (.return_, 1) := by decide +kernel
theorem dX4_readDigits_0 : decode cX4_readDigits 0 = .ok (.aload_n 0, 1) := by decide +kernel
theorem dX4_readDigits_1 : decode cX4_readDigits 1 = .ok (.iconst 0, 1) := by decide +kernel
theorem dX4_readDigits_2 : decode cX4_readDigits 2 = .ok (.putfield 34, 3) := by decide +kernel
theorem dX4_readDigits_5 : decode cX4_readDigits 5 = .ok (.aload_n 0, 1) := by decide +kernel
theorem dX4_readDigits_6 : decode cX4_readDigits 6 = .ok (.getfield 28, 3) := by decide +kernel
theorem dX4_readDigits_9 : decode cX4_readDigits 9 = .ok (.aload_n 0, 1) := by decide +kernel
theorem dX4_readDigits_10 : decode cX4_readDigits 10 = .ok (.getfield 9, 3) := by decide +kernel
theorem dX4_readDigits_13 : decode cX4_readDigits 13 = .ok (.if_icmp .ge 55, 3) := by decide +kernel
theorem dX4_readDigits_16 : decode cX4_readDigits 16 = .ok (.aload_n 0, 1) := by decide +kernel
theorem dX4_readDigits_17 : decode cX4_readDigits 17 = .ok (.getfield 18, 3) := by decide +kernel
theorem dX4_readDigits_20 : decode cX4_readDigits 20 = .ok (.aload_n 0, 1) := by decide +kernel
theorem dX4_readDigits_21 : decode cX4_readDigits 21 = .ok (.getfield 28, 3) := by decide +kernel
theorem dX4_readDigits_24 : decode cX4_readDigits 24 = .ok (.iaload, 1) := by decide +kernel
theorem dX4_readDigits_25 : decode cX4_readDigits 25 = .ok (.invokestatic 89, 3) := by decide +kernel
theorem dX4_readDigits_28 : decode cX4_readDigits 28 = .ok (.ifCond .eq 40, 3) := by decide +kernel
theorem dX4_readDigits_31 : decode cX4_readDigits 31 = .ok (.aload_n 0, 1) := by decide +kernel
theorem dX4_readDigits_32 : decode cX4_readDigits 32 = .ok (.aload_n 0, 1) := by decide +kernel
theorem dX4_readDigits_33 : decode cX4_readDigits 33 = .ok (.getfield 34, 3) := by decide +kernel
theorem dX4_readDigits_36 : decode cX4_readDigits 36 = .ok (.bipush 10, 2) := by decide +kernel
theorem dX4_readDigits_38 : decode cX4_readDigits 38 = .ok (.imul, 1) := by decide +kernel
theorem dX4_readDigits_39 : decode cX4_readDigits 39 = .ok (.aload_n 0, 1) := by decide +kernel
theorem dX4_readDigits_40 : decode cX4_readDigits 40 = .ok (.getfield 18, 3) := by decide +kernel
theorem dX4_readDigits_43 : decode cX4_readDigits 43 = .ok (.aload_n 0, 1) := by decide +kernel
theorem dX4_readDigits_44 : decode cX4_readDigits 44 = .ok (.getfield 28, 3) := by decide +kernel
theorem dX4_readDigits_47 : decode cX4_readDigits 47 = .ok (.iaload, 1) := by decide +kernel
theorem dX4_readDigits_48 : decode cX4_readDigits 48 = .ok (.iadd, 1) := by decide +kernel
theorem dX4_readDigits_49 : decode cX4_readDigits 49 = .ok (.bipush 48, 2) := by decide +kernel
theorem dX4_readDigits_51 : decode cX4_readDigits 51 = .ok (.isub, 1) := by decide +kernel
theorem dX4_readDigits_52 : decode cX4_readDigits 52 = .ok (.putfield 34, 3) := by decide +kernel
theorem dX4_readDigits_55 : decode cX4_readDigits 55 = .ok (.aload_n 0, 1) := by decide +kernel
theorem dX4_readDigits_56 : decode cX4_readDigits 56 = .ok (.dup, 1) := by decide +kernel
theorem dX4_readDigits_57 : decode cX4_readDigits 57 = .ok (.getfield 28, 3) := by decide +kernel
theorem dX4_readDigits_60 : decode cX4_readDigits 60 = .ok (.iconst 1, 1) := by decide +kernel
theorem dX4_readDigits_61 : decode cX4_readDigits 61 = .ok (.iadd, 1) := by decide +kernel
theorem dX4_readDigits_62 : decode cX4_readDigits 62 = .ok (.putfield 28, 3) := by decide +kernel
theorem dX4_readDigits_65 : decode cX4_readDigits 65 = .ok (.goto (-60), 3) := by decide +kernel
theorem dX4_readDigits_68 : decode cX4_readDigits 68 = .ok (.aload_n 0, 1) := by decide +kernel
theorem dX4_readDigits_69 : decode cX4_readDigits 69 = .ok (.aload_n 0, 1) := by decide +kernel
theorem dX4_readDigits_70 : decode cX4_readDigits 70 = .ok (.getfield 28, 3) := by decide +kernel
theorem dX4_readDigits_73 : decode cX4_readDigits 73 = .ok (.aload_n 0, 1) := by decide +kernel
theorem dX4_readDigits_74 : decode cX4_readDigits 74 = .ok (.getfield 15, 3) := by decide +kernel
theorem dX4_readDigits_77 : decode cX4_readDigits 77 = .ok (.isub, 1) := by decide +kernel
theorem dX4_readDigits_78 : decode cX4_readDigits 78 = .ok (.iconst 4, 1) := by decide +kernel
theorem dX4_readDigits_79 : decode cX4_readDigits 79 = .ok (.if_icmp .le 7, 3) := by decide +kernel
theorem dX4_readDigits_82 : decode cX4_readDigits 82 = .ok (.iconst 1, 1) := by decide +kernel
theorem dX4_readDigits_83 : decode cX4_readDigits 83 = .ok (.goto 4, 3) := by decide +kernel
theorem dX4_readDigits_86 : decode cX4_readDigits 86 = .ok (.iconst 2, 1) := by decide +kernel
theorem dX4_readDigits_87 : decode cX4_readDigits 87 = .ok (.putfield 31, 3) := by decide +kernel
theorem dX4_readDigits_90 : decode cX4_readDigits 90 = .ok (.return_, 1) := by decide +kernel
theorem dX4_isLetter_0 : decode cX4_isLetter 0 = .ok (.iload_n 0, 1) := by decide +kernel
theorem dX4_isLetter_1 : decode cX4_isLetter 1 = .ok (.bipush 97, 2) := by decide +kernel
theorem dX4_isLetter_3 : decode cX4_isLetter 3 = .ok (.if_icmp .lt 13, 3) := by decide +kernel
theorem dX4_isLetter_6 : decode cX4_isLetter 6 = .ok (.iload_n 0, 1) := by decide +kernel
theorem dX4_isLetter_7 : decode cX4_isLetter 7 = .ok (.bipush 122, 2) := by decide +kernel
theorem dX4_isLetter_9 : decode cX4_isLetter 9 = .ok (.if_icmp .gt 7, 3) := by decide +kernel
theorem dX4_isLetter_12 : decode cX4_isLetter 12 = .ok (.iconst 1, 1) := by decide +kernel
theorem dX4_isLetter_13 : decode cX4_isLetter 13 = .ok (.goto 4, 3) := by decide +kernel
theorem dX4_isLetter_16 : decode cX4_isLetter 16 = .ok (.iconst 0, 1) := by decide +kernel
theorem dX4_isLetter_17 : decode cX4_isLetter 17 = .ok (.ireturn, 1) := by decide +kernel
theorem dX4_isDigit_0 : decode cX4_isDigit 0 = .ok (.iload_n 0, 1) := by decide +kernel
theorem dX4_isDigit_1 : decode cX4_isDigit 1 = .ok (.bipush 48, 2) := by decide +kernel
theorem dX4_isDigit_3 : decode cX4_isDigit 3 = .ok (.if_icmp .lt 13, 3) := by decide +kernel
theorem dX4_isDigit_6 : decode cX4_isDigit 6 = .ok (.iload_n 0, 1) := by decide +kernel
theorem dX4_isDigit_7 : decode cX4_isDigit 7 = .ok (.bipush 57, 2) := by decide +kernel
theorem dX4_isDigit_9 : decode cX4_isDigit 9 = .ok (.if_icmp .gt 7, 3) := by decide +kernel
theorem dX4_isDigit_12 : decode cX4_isDigit 12 = .ok (.iconst 1, 1) := by decide +kernel
theorem dX4_isDigit_13 : decode cX4_isDigit 13 = .ok (.goto 4, 3) := by decide +kernel
theorem dX4_isDigit_16 : decode cX4_isDigit 16 = .ok (.iconst 0, 1) := by decide +kernel
theorem dX4_isDigit_17 : decode cX4_isDigit 17 = .ok (.ireturn, 1) := by decide +kernel
theorem dX4_signKind_0 : decode cX4_signKind 0 = .ok (.iload_n 0, 1) := by decide +kernel
theorem dX4_signKind_1 : decode cX4_signKind 1 = .ok (.bipush 40, 2) := by decide +kernel
theorem dX4_signKind_3 : decode cX4_signKind 3 = .ok (.if_icmp .eq 45, 3) := by decide +kernel
theorem dX4_signKind_6 : decode cX4_signKind 6 = .ok (.iload_n 0, 1) := by decide +kernel
theorem dX4_signKind_7 : decode cX4_signKind 7 = .ok (.bipush 41, 2) := by decide +kernel
theorem dX4_signKind_9 : decode cX4_signKind 9 = .ok (.if_icmp .eq 39, 3) := by decide +kernel
theorem dX4_signKind_12 : decode cX4_signKind 12 = .ok (.iload_n 0, 1) := by decide +kernel
theorem dX4_signKind_13 : decode cX4_signKind 13 = .ok (.bipush 59, 2) := by decide +kernel
theorem dX4_signKind_15 : decode cX4_signKind 15 = .ok (.if_icmp .eq 33, 3) := by decide +kernel
theorem dX4_signKind_18 : decode cX4_signKind 18 = .ok (.iload_n 0, 1) := by decide +kernel
theorem dX4_signKind_19 : decode cX4_signKind 19 = .ok (.bipush 43, 2) := by decide +kernel
theorem dX4_signKind_21 : decode cX4_signKind 21 = .ok (.if_icmp .eq 27, 3) := by decide +kernel
theorem dX4_signKind_24 : decode cX4_signKind 24 = .ok (.iload_n 0, 1) := by decide +kernel
theorem dX4_signKind_25 : decode cX4_signKind 25 = .ok (.bipush 45, 2) := by decide +kernel
theorem dX4_signKind_27 : decode cX4_signKind 27 = .ok (.if_icmp .eq 21, 3) := by decide +kernel
theorem dX4_signKind_30 : decode cX4_signKind 30 = .ok (.iload_n 0, 1) := by decide +kernel
theorem dX4_signKind_31 : decode cX4_signKind 31 = .ok (.bipush 42, 2) := by decide +kernel
theorem dX4_signKind_33 : decode cX4_signKind 33 = .ok (.if_icmp .eq 15, 3) := by decide +kernel
theorem dX4_signKind_36 : decode cX4_signKind 36 = .ok (.iload_n 0, 1) := by decide +kernel
theorem dX4_signKind_37 : decode cX4_signKind 37 = .ok (.bipush 60, 2) := by decide +kernel
theorem dX4_signKind_39 : decode cX4_signKind 39 = .ok (.if_icmp .eq 9, 3) := by decide +kernel
theorem dX4_signKind_42 : decode cX4_signKind 42 = .ok (.iload_n 0, 1) := by decide +kernel
theorem dX4_signKind_43 : decode cX4_signKind 43 = .ok (.bipush 61, 2) := by decide +kernel
theorem dX4_signKind_45 : decode cX4_signKind 45 = .ok (.if_icmp .ne 7, 3) := by decide +kernel
theorem dX4_signKind_48 : decode cX4_signKind 48 = .ok (.iconst 1, 1) := by decide +kernel
theorem dX4_signKind_49 : decode cX4_signKind 49 = .ok (.goto 4, 3) := by decide +kernel
theorem dX4_signKind_52 : decode cX4_signKind 52 = .ok (.iconst 0, 1) := by decide +kernel
theorem dX4_signKind_53 : decode cX4_signKind 53 = .ok (.istore_n 1, 1) := by decide +kernel
theorem dX4_signKind_54 : decode cX4_signKind 54 = .ok (.iload_n 1, 1) := by decide +kernel
theorem dX4_signKind_55 : decode cX4_signKind 55 = .ok (.ifCond .eq 7, 3) := by decide +kernel
theorem dX4_signKind_58 : decode cX4_signKind 58 = .ok (.iload_n 0, 1) := by decide +kernel
theorem dX4_signKind_59 : decode cX4_signKind 59 = .ok (.goto 4, 3) := by decide +kernel
theorem dX4_signKind_62 : decode cX4_signKind 62 = .ok (.iconst 1, 1) := by decide +kernel
theorem dX4_signKind_63 : decode cX4_signKind 63 = .ok (.ireturn, 1) := by decide +kernel
theorem dX4_wordKind_0 : decode cX4_wordKind 0 = .ok (.aload_n 0, 1) := by decide +kernel
theorem dX4_wordKind_1 : decode cX4_wordKind 1 = .ok (.ldc 99, 2) := by decide +kernel
theorem dX4_wordKind_3 : decode cX4_wordKind 3 = .ok (.invokevirtual 101, 3) := by decide +kernel
theorem dX4_wordKind_6 : decode cX4_wordKind 6 = .ok (.ifCond .eq 5, 3) := by decide +kernel
theorem dX4_wordKind_9 : decode cX4_wordKind 9 = .ok (.iconst 3, 1) := by decide +kernel
theorem dX4_wordKind_10 : decode cX4_wordKind 10 = .ok (.ireturn, 1) := by decide +kernel
theorem dX4_wordKind_11 : decode cX4_wordKind 11 = .ok (.aload_n 0, 1) := by decide +kernel
theorem dX4_wordKind_12 : decode cX4_wordKind 12 = .ok (.ldc 105, 2) := by decide +kernel
theorem dX4_wordKind_14 : decode cX4_wordKind 14 = .ok (.invokevirtual 101, 3) := by decide +kernel
theorem dX4_wordKind_17 : decode cX4_wordKind 17 = .ok (.ifCond .eq 5, 3) := by decide +kernel
theorem dX4_wordKind_20 : decode cX4_wordKind 20 = .ok (.iconst 4, 1) := by decide +kernel
theorem dX4_wordKind_21 : decode cX4_wordKind 21 = .ok (.ireturn, 1) := by decide +kernel
theorem dX4_wordKind_22 : decode cX4_wordKind 22 = .ok (.aload_n 0, 1) := by decide +kernel
theorem dX4_wordKind_23 : decode cX4_wordKind 23 = .ok (.ldc 107, 2) := by decide +kernel
theorem dX4_wordKind_25 : decode cX4_wordKind 25 = .ok (.invokevirtual 101, 3) := by decide +kernel
theorem dX4_wordKind_28 : decode cX4_wordKind 28 = .ok (.ifCond .eq 5, 3) := by decide +kernel
theorem dX4_wordKind_31 : decode cX4_wordKind 31 = .ok (.iconst 5, 1) := by decide +kernel
theorem dX4_wordKind_32 : decode cX4_wordKind 32 = .ok (.ireturn, 1) := by decide +kernel
theorem dX4_wordKind_33 : decode cX4_wordKind 33 = .ok (.aload_n 0, 1) := by decide +kernel
theorem dX4_wordKind_34 : decode cX4_wordKind 34 = .ok (.ldc 109, 2) := by decide +kernel
theorem dX4_wordKind_36 : decode cX4_wordKind 36 = .ok (.invokevirtual 101, 3) := by decide +kernel
theorem dX4_wordKind_39 : decode cX4_wordKind 39 = .ok (.ifCond .eq 6, 3) := by decide +kernel
theorem dX4_wordKind_42 : decode cX4_wordKind 42 = .ok (.bipush 6, 2) := by decide +kernel
theorem dX4_wordKind_44 : decode cX4_wordKind 44 = .ok (.ireturn, 1) := by decide +kernel
theorem dX4_wordKind_45 : decode cX4_wordKind 45 = .ok (.aload_n 0, 1) := by decide +kernel
theorem dX4_wordKind_46 : decode cX4_wordKind 46 = .ok (.ldc 111, 2) := by decide +kernel
theorem dX4_wordKind_48 : decode cX4_wordKind 48 = .ok (.invokevirtual 101, 3) := by decide +kernel
theorem dX4_wordKind_51 : decode cX4_wordKind 51 = .ok (.ifCond .eq 6, 3) := by decide +kernel
theorem dX4_wordKind_54 : decode cX4_wordKind 54 = .ok (.bipush 7, 2) := by decide +kernel
theorem dX4_wordKind_56 : decode cX4_wordKind 56 = .ok (.ireturn, 1) := by decide +kernel
theorem dX4_wordKind_57 : decode cX4_wordKind 57 = .ok (.aload_n 0, 1) := by decide +kernel
theorem dX4_wordKind_58 : decode cX4_wordKind 58 = .ok (.ldc 113, 2) := by decide +kernel
theorem dX4_wordKind_60 : decode cX4_wordKind 60 = .ok (.invokevirtual 101, 3) := by decide +kernel
theorem dX4_wordKind_63 : decode cX4_wordKind 63 = .ok (.ifCond .eq 6, 3) := by decide +kernel
theorem dX4_wordKind_66 : decode cX4_wordKind 66 = .ok (.bipush 8, 2) := by decide +kernel
theorem dX4_wordKind_68 : decode cX4_wordKind 68 = .ok (.ireturn, 1) := by decide +kernel
theorem dX4_wordKind_69 : decode cX4_wordKind 69 = .ok (.aload_n 0, 1) := by decide +kernel
theorem dX4_wordKind_70 : decode cX4_wordKind 70 = .ok (.ldc 115, 2) := by decide +kernel
theorem dX4_wordKind_72 : decode cX4_wordKind 72 = .ok (.invokevirtual 101, 3) := by decide +kernel
theorem dX4_wordKind_75 : decode cX4_wordKind 75 = .ok (.ifCond .eq 6, 3) := by decide +kernel
theorem dX4_wordKind_78 : decode cX4_wordKind 78 = .ok (.bipush 10, 2) := by decide +kernel
theorem dX4_wordKind_80 : decode cX4_wordKind 80 = .ok (.ireturn, 1) := by decide +kernel
theorem dX4_wordKind_81 : decode cX4_wordKind 81 = .ok (.aload_n 0, 1) := by decide +kernel
theorem dX4_wordKind_82 : decode cX4_wordKind 82 = .ok (.ldc 117, 2) := by decide +kernel
theorem dX4_wordKind_84 : decode cX4_wordKind 84 = .ok (.invokevirtual 101, 3) := by decide +kernel
theorem dX4_wordKind_87 : decode cX4_wordKind 87 = .ok (.ifCond .eq 6, 3) := by decide +kernel
theorem dX4_wordKind_90 : decode cX4_wordKind 90 = .ok (.bipush 11, 2) := by decide +kernel
theorem dX4_wordKind_92 : decode cX4_wordKind 92 = .ok (.ireturn, 1) := by decide +kernel
theorem dX4_wordKind_93 : decode cX4_wordKind 93 = .ok (.aload_n 0, 1) := by decide +kernel
theorem dX4_wordKind_94 : decode cX4_wordKind 94 = .ok (.ldc 119, 2) := by decide +kernel
theorem dX4_wordKind_96 : decode cX4_wordKind 96 = .ok (.invokevirtual 101, 3) := by decide +kernel
theorem dX4_wordKind_99 : decode cX4_wordKind 99 = .ok (.ifCond .eq 6, 3) := by decide +kernel
theorem dX4_wordKind_102 : decode cX4_wordKind 102 = .ok (.bipush 12, 2) := by decide +kernel
theorem dX4_wordKind_104 : decode cX4_wordKind 104 = .ok (.ireturn, 1) := by decide +kernel
theorem dX4_wordKind_105 : decode cX4_wordKind 105 = .ok (.aload_n 0, 1) := by decide +kernel
theorem dX4_wordKind_106 : decode cX4_wordKind 106 = .ok (.ldc 121, 2) := by decide +kernel
theorem dX4_wordKind_108 : decode cX4_wordKind 108 = .ok (.invokevirtual 101, 3) := by decide +kernel
theorem dX4_wordKind_111 : decode cX4_wordKind 111 = .ok (.ifCond .eq 6, 3) := by decide +kernel
theorem dX4_wordKind_114 : decode cX4_wordKind 114 = .ok (.bipush 13, 2) := by decide +kernel
theorem dX4_wordKind_116 : decode cX4_wordKind 116 = .ok (.ireturn, 1) := by decide +kernel
theorem dX4_wordKind_117 : decode cX4_wordKind 117 = .ok (.aload_n 0, 1) := by decide +kernel
theorem dX4_wordKind_118 : decode cX4_wordKind 118 = .ok (.ldc 123, 2) := by decide +kernel
theorem dX4_wordKind_120 : decode cX4_wordKind 120 = .ok (.invokevirtual 101, 3) := by decide +kernel
theorem dX4_wordKind_123 : decode cX4_wordKind 123 = .ok (.ifCond .eq 6, 3) := by decide +kernel
theorem dX4_wordKind_126 : decode cX4_wordKind 126 = .ok (.bipush 14, 2) := by decide +kernel
theorem dX4_wordKind_128 : decode cX4_wordKind 128 = .ok (.ireturn, 1) := by decide +kernel
theorem dX4_wordKind_129 : decode cX4_wordKind 129 = .ok (.aload_n 0, 1) := by decide +kernel
theorem dX4_wordKind_130 : decode cX4_wordKind 130 = .ok (.ldc 125, 2) := by decide +kernel
theorem dX4_wordKind_132 : decode cX4_wordKind 132 = .ok (.invokevirtual 101, 3) := by decide +kernel
theorem dX4_wordKind_135 : decode cX4_wordKind 135 = .ok (.ifCond .eq 8, 3) := by decide +kernel
theorem dX4_wordKind_138 : decode cX4_wordKind 138 = .ok (.bipush 15, 2) := by decide +kernel
theorem dX4_wordKind_140 : decode cX4_wordKind 140 = .ok (.goto 4, 3) := by decide +kernel
theorem dX4_wordKind_143 : decode cX4_wordKind 143 = .ok (.iconst 1, 1) := by decide +kernel
theorem dX4_wordKind_144 : decode cX4_wordKind 144 = .ok (.ireturn, 1) := by decide +kernel
theorem dX4_spells_0 : decode cX4_spells 0 = .ok (.aload_n 0, 1) := by decide +kernel
theorem dX4_spells_1 : decode cX4_spells 1 = .ok (.getfield 28, 3) := by decide +kernel
theorem dX4_spells_4 : decode cX4_spells 4 = .ok (.aload_n 0, 1) := by decide +kernel
theorem dX4_spells_5 : decode cX4_spells 5 = .ok (.getfield 15, 3) := by decide +kernel
theorem dX4_spells_8 : decode cX4_spells 8 = .ok (.isub, 1) := by decide +kernel
theorem dX4_spells_9 : decode cX4_spells 9 = .ok (.aload_n 1, 1) := by decide +kernel
theorem dX4_spells_10 : decode cX4_spells 10 = .ok (.invokevirtual 127, 3) := by decide +kernel
theorem dX4_spells_13 : decode cX4_spells 13 = .ok (.if_icmp .eq 5, 3) := by decide +kernel
theorem dX4_spells_16 : decode cX4_spells 16 = .ok (.iconst 0, 1) := by decide +kernel
theorem dX4_spells_17 : decode cX4_spells 17 = .ok (.ireturn, 1) := by decide +kernel
theorem dX4_spells_18 : decode cX4_spells 18 = .ok (.iconst 0, 1) := by decide +kernel
theorem dX4_spells_19 : decode cX4_spells 19 = .ok (.istore_n 2, 1) := by decide +kernel
theorem dX4_spells_20 : decode cX4_spells 20 = .ok (.iload_n 2, 1) := by decide +kernel
theorem dX4_spells_21 : decode cX4_spells 21 = .ok (.aload_n 1, 1) := by decide +kernel
theorem dX4_spells_22 : decode cX4_spells 22 = .ok (.invokevirtual 127, 3) := by decide +kernel
theorem dX4_spells_25 : decode cX4_spells 25 = .ok (.if_icmp .ge 30, 3) := by decide +kernel
theorem dX4_spells_28 : decode cX4_spells 28 = .ok (.aload_n 0, 1) := by decide +kernel
theorem dX4_spells_29 : decode cX4_spells 29 = .ok (.getfield 18, 3) := by decide +kernel
theorem dX4_spells_32 : decode cX4_spells 32 = .ok (.aload_n 0, 1) := by decide +kernel
theorem dX4_spells_33 : decode cX4_spells 33 = .ok (.getfield 15, 3) := by decide +kernel
theorem dX4_spells_36 : decode cX4_spells 36 = .ok (.iload_n 2, 1) := by decide +kernel
theorem dX4_spells_37 : decode cX4_spells 37 = .ok (.iadd, 1) := by decide +kernel
theorem dX4_spells_38 : decode cX4_spells 38 = .ok (.iaload, 1) := by decide +kernel
theorem dX4_spells_39 : decode cX4_spells 39 = .ok (.aload_n 1, 1) := by decide +kernel
theorem dX4_spells_40 : decode cX4_spells 40 = .ok (.iload_n 2, 1) := by decide +kernel
theorem dX4_spells_41 : decode cX4_spells 41 = .ok (.invokevirtual 132, 3) := by decide +kernel
theorem dX4_spells_44 : decode cX4_spells 44 = .ok (.if_icmp .eq 5, 3) := by decide +kernel
theorem dX4_spells_47 : decode cX4_spells 47 = .ok (.iconst 0, 1) := by decide +kernel
theorem dX4_spells_48 : decode cX4_spells 48 = .ok (.ireturn, 1) := by decide +kernel
theorem dX4_spells_49 : decode cX4_spells 49 = .ok (.iinc 2 1, 3) := by decide +kernel
theorem dX4_spells_52 : decode cX4_spells 52 = .ok (.goto (-32), 3) := by decide +kernel
theorem dX4_spells_55 : decode cX4_spells 55 = .ok (.iconst 1, 1) := by decide +kernel
theorem dX4_spells_56 : decode cX4_spells 56 = .ok (.ireturn, 1) := by decide +kernel
theorem dX5_init_0 : decode cX5_init 0 = .ok (.aload_n 0, 1) := by decide +kernel
theorem dX5_init_1 : decode cX5_init 1 = .ok (.invokespecial 3, 3) := by decide +kernel
theorem dX5_init_4 : decode cX5_init 4 = .ok (.aload_n 0, 1) := by decide +kernel
theorem dX5_init_5 : decode cX5_init 5 = .ok (.bipush 32, 2) := by decide +kernel
theorem dX5_init_7 : decode cX5_init 7 = .ok (.newarray .int, 2) := by decide +kernel
theorem dX5_init_9 : decode cX5_init 9 = .ok (.putfield 11, 3) := by decide +kernel
theorem dX5_init_12 : decode cX5_init 12 = .ok (.aload_n 0, 1) := by decide +kernel
theorem dX5_init_13 : decode cX5_init 13 = .ok (.aload_n 1, 1) := by decide +kernel
theorem dX5_init_14 : decode cX5_init 14 = .ok (.putfield 15, 3) := by decide +kernel
theorem dX5_init_17 : decode cX5_init 17 = .ok (.aload_n 0, 1) := by decide +kernel
theorem dX5_init_18 : decode cX5_init 18 = .ok (.iload_n 2, 1) := by decide +kernel
theorem dX5_init_19 : decode cX5_init 19 = .ok (.putfield 18, 3) := by decide +kernel
theorem dX5_init_22 : decode cX5_init 22 = .ok (.aload_n 0, 1) := by decide +kernel
theorem dX5_init_23 : decode cX5_init 23 = .ok (.iload_n 3, 1) := by decide +kernel
theorem dX5_init_24 : decode cX5_init 24 = .ok (.putfield 22, 3) := by decide +kernel
theorem dX5_init_27 : decode cX5_init 27 = .ok (.return_, 1) := by decide +kernel
theorem dX5_wantedBy_0 : decode cX5_wantedBy 0 = .ok (.aload_n 0, 1) := by decide +kernel
theorem dX5_wantedBy_1 : decode cX5_wantedBy 1 = .ok (.iconst 0, 1) := by decide +kernel
theorem dX5_wantedBy_2 : decode cX5_wantedBy 2 = .ok (.aload_n 0, 1) := by decide +kernel
theorem dX5_wantedBy_3 : decode cX5_wantedBy 3 = .ok (.getfield 18, 3) := by decide +kernel
theorem dX5_wantedBy_6 : decode cX5_wantedBy 6 = .ok (.aload_n 1, 1) := by decide +kernel
theorem dX5_wantedBy_7 : decode cX5_wantedBy 7 = .ok (.iconst 0, 1) := by decide +kernel
theorem dX5_wantedBy_8 : decode cX5_wantedBy 8 = .ok (.iload_n 2, 1) := by decide +kernel
theorem dX5_wantedBy_9 : decode cX5_wantedBy 9 = .ok (.invokevirtual 25, 3) := by decide +kernel
theorem dX5_wantedBy_12 : decode cX5_wantedBy 12 = .ok (.sipush 999, 3) := by decide +kernel
theorem dX5_wantedBy_15 : decode cX5_wantedBy 15 = .ok (.invokestatic 29, 3) := by decide +kernel
theorem dX5_wantedBy_18 : decode cX5_wantedBy 18 = .ok (.ireturn, 1) := by decide +kernel
theorem dX5_rings_0 : decode cX5_rings 0 = .ok (.aload_n 0, 1) := by decide +kernel
theorem dX5_rings_1 : decode cX5_rings 1 = .ok (.aload_n 0, 1) := by decide +kernel
theorem dX5_rings_2 : decode cX5_rings 2 = .ok (.getfield 18, 3) := by decide +kernel
theorem dX5_rings_5 : decode cX5_rings 5 = .ok (.aload_n 0, 1) := by decide +kernel
theorem dX5_rings_6 : decode cX5_rings 6 = .ok (.getfield 22, 3) := by decide +kernel
theorem dX5_rings_9 : decode cX5_rings 9 = .ok (.aload_n 1, 1) := by decide +kernel
theorem dX5_rings_10 : decode cX5_rings 10 = .ok (.iload_n 2, 1) := by decide +kernel
theorem dX5_rings_11 : decode cX5_rings 11 = .ok (.iload_n 3, 1) := by decide +kernel
theorem dX5_rings_12 : decode cX5_rings 12 = .ok (.invokevirtual 25, 3) := by decide +kernel
theorem dX5_rings_15 : decode cX5_rings 15 = .ok (.ifCond .eq 7, 3) := by decide +kernel
theorem dX5_rings_18 : decode cX5_rings 18 = .ok (.iconst 1, 1) := by decide +kernel
theorem dX5_rings_19 : decode cX5_rings 19 = .ok (.goto 4, 3) := by decide +kernel
theorem dX5_rings_22 : decode cX5_rings 22 = .ok (.iconst 0, 1) := by decide +kernel
theorem dX5_rings_23 : decode cX5_rings 23 = .ok (.ireturn, 1) := by decide +kernel
theorem dX5_gift_0 : decode cX5_gift 0 = .ok (.aload_n 0, 1) := by decide +kernel
theorem dX5_gift_1 : decode cX5_gift 1 = .ok (.aload_n 0, 1) := by decide +kernel
theorem dX5_gift_2 : decode cX5_gift 2 = .ok (.getfield 22, 3) := by decide +kernel
theorem dX5_gift_5 : decode cX5_gift 5 = .ok (.aload_n 0, 1) := by decide +kernel
theorem dX5_gift_6 : decode cX5_gift 6 = .ok (.getfield 15, 3) := by decide +kernel
theorem dX5_gift_9 : decode cX5_gift 9 = .ok (.arraylength, 1) := by decide +kernel
theorem dX5_gift_10 : decode cX5_gift 10 = .ok (.aload_n 1, 1) := by decide +kernel
theorem dX5_gift_11 : decode cX5_gift 11 = .ok (.iload_n 2, 1) := by decide +kernel
theorem dX5_gift_12 : decode cX5_gift 12 = .ok (.iload_n 3, 1) := by decide +kernel
theorem dX5_gift_13 : decode cX5_gift 13 = .ok (.invokevirtual 25, 3) := by decide +kernel
theorem dX5_gift_16 : decode cX5_gift 16 = .ok (.bipush 99, 2) := by decide +kernel
theorem dX5_gift_18 : decode cX5_gift 18 = .ok (.invokestatic 29, 3) := by decide +kernel
theorem dX5_gift_21 : decode cX5_gift 21 = .ok (.istore 4, 2) := by decide +kernel
theorem dX5_gift_23 : decode cX5_gift 23 = .ok (.iconst 0, 1) := by decide +kernel
theorem dX5_gift_24 : decode cX5_gift 24 = .ok (.aload_n 1, 1) := by decide +kernel
theorem dX5_gift_25 : decode cX5_gift 25 = .ok (.iload 4, 2) := by decide +kernel
theorem dX5_gift_27 : decode cX5_gift 27 = .ok (.iload_n 2, 1) := by decide +kernel
theorem dX5_gift_28 : decode cX5_gift 28 = .ok (.iload_n 3, 1) := by decide +kernel
theorem dX5_gift_29 : decode cX5_gift 29 = .ok (.invokevirtual 33, 3) := by decide +kernel
theorem dX5_gift_32 : decode cX5_gift 32 = .ok (.invokestatic 39, 3) := by decide +kernel
theorem dX5_gift_35 : decode cX5_gift 35 = .ok (.ireturn, 1) := by decide +kernel
theorem dX5_within_0 : decode cX5_within 0 = .ok (.iconst 0, 1) := by decide +kernel
theorem dX5_within_1 : decode cX5_within 1 = .ok (.iload_n 1, 1) := by decide +kernel
theorem dX5_within_2 : decode cX5_within 2 = .ok (.iload_n 0, 1) := by decide +kernel
theorem dX5_within_3 : decode cX5_within 3 = .ok (.invokestatic 44, 3) := by decide +kernel
theorem dX5_within_6 : decode cX5_within 6 = .ok (.invokestatic 39, 3) := by decide +kernel
theorem dX5_within_9 : decode cX5_within 9 = .ok (.ireturn, 1) := by decide +kernel
theorem dX5_answer_0 : decode cX5_answer 0 = .ok (.iconst 0, 1) := by decide +kernel
theorem dX5_answer_1 : decode cX5_answer 1 = .ok (.istore 6, 2) := by decide +kernel
theorem dX5_answer_3 : decode cX5_answer 3 = .ok (.iload_n 1, 1) := by decide +kernel
theorem dX5_answer_4 : decode cX5_answer 4 = .ok (.istore 7, 2) := by decide +kernel
theorem dX5_answer_6 : decode cX5_answer 6 = .ok (.iload 7, 2) := by decide +kernel
theorem dX5_answer_8 : decode cX5_answer 8 = .ok (.iload_n 2, 1) := by decide +kernel
theorem dX5_answer_9 : decode cX5_answer 9 = .ok (.if_icmp .ge 186, 3) := by decide +kernel
theorem dX5_answer_12 : decode cX5_answer 12 = .ok (.aload_n 0, 1) := by decide +kernel
theorem dX5_answer_13 : decode cX5_answer 13 = .ok (.getfield 15, 3) := by decide +kernel
theorem dX5_answer_16 : decode cX5_answer 16 = .ok (.iload 7, 2) := by decide +kernel
theorem dX5_answer_18 : decode cX5_answer 18 = .ok (.iaload, 1) := by decide +kernel
theorem dX5_answer_19 : decode cX5_answer 19 = .ok (.bipush 63, 2) := by decide +kernel
theorem dX5_answer_21 : decode cX5_answer 21 = .ok (.iand, 1) := by decide +kernel
theorem dX5_answer_22 : decode cX5_answer 22 = .ok (.istore 8, 2) := by decide +kernel
theorem dX5_answer_24 : decode cX5_answer 24 = .ok (.iload 8, 2) := by decide +kernel
theorem dX5_answer_26 : decode cX5_answer 26 = .ok (.bipush 8, 2) := by decide +kernel
theorem dX5_answer_28 : decode cX5_answer 28 = .ok (.if_icmp .eq 10, 3) := by decide +kernel
theorem dX5_answer_31 : decode cX5_answer 31 = .ok (.iload 8, 2) := by decide +kernel
theorem dX5_answer_33 : decode cX5_answer 33 = .ok (.bipush 9, 2) := by decide +kernel
theorem dX5_answer_35 : decode cX5_answer 35 = .ok (.if_icmp .ne 58, 3) := by decide +kernel
theorem dX5_answer_38 : decode cX5_answer 38 = .ok (.iload 6, 2) := by decide +kernel
theorem dX5_answer_40 : decode cX5_answer 40 = .ok (.iconst 1, 1) := by decide +kernel
theorem dX5_answer_41 : decode cX5_answer 41 = .ok (.if_icmp .lt 148, 3) := by decide +kernel
theorem dX5_answer_44 : decode cX5_answer 44 = .ok (.aload_n 0, 1) := by decide +kernel
theorem dX5_answer_45 : decode cX5_answer 45 = .ok (.getfield 11, 3) := by decide +kernel
theorem dX5_answer_48 : decode cX5_answer 48 = .ok (.iload 6, 2) := by decide +kernel
theorem dX5_answer_50 : decode cX5_answer 50 = .ok (.iconst 1, 1) := by decide +kernel
theorem dX5_answer_51 : decode cX5_answer 51 = .ok (.isub, 1) := by decide +kernel
theorem dX5_answer_52 : decode cX5_answer 52 = .ok (.iaload, 1) := by decide +kernel
theorem dX5_answer_53 : decode cX5_answer 53 = .ok (.istore 9, 2) := by decide +kernel
theorem dX5_answer_55 : decode cX5_answer 55 = .ok (.aload_n 0, 1) := by decide +kernel
theorem dX5_answer_56 : decode cX5_answer 56 = .ok (.getfield 11, 3) := by decide +kernel
theorem dX5_answer_59 : decode cX5_answer 59 = .ok (.iload 6, 2) := by decide +kernel
theorem dX5_answer_61 : decode cX5_answer 61 = .ok (.iconst 1, 1) := by decide +kernel
theorem dX5_answer_62 : decode cX5_answer 62 = .ok (.isub, 1) := by decide +kernel
theorem dX5_answer_63 : decode cX5_answer 63 = .ok (.iload 8, 2) := by decide +kernel
theorem dX5_answer_65 : decode cX5_answer 65 = .ok (.bipush 9, 2) := by decide +kernel
theorem dX5_answer_67 : decode cX5_answer 67 = .ok (.if_icmp .ne 9, 3) := by decide +kernel
theorem dX5_answer_70 : decode cX5_answer 70 = .ok (.iload 9, 2) := by decide +kernel
theorem dX5_answer_72 : decode cX5_answer 72 = .ok (.ineg, 1) := by decide +kernel
theorem dX5_answer_73 : decode cX5_answer 73 = .ok (.goto 16, 3) := by decide +kernel
theorem dX5_answer_76 : decode cX5_answer 76 = .ok (.iload 9, 2) := by decide +kernel
theorem dX5_answer_78 : decode cX5_answer 78 = .ok (.ifCond .ne 7, 3) := by decide +kernel
theorem dX5_answer_81 : decode cX5_answer 81 = .ok (.iconst 1, 1) := by decide +kernel
theorem dX5_answer_82 : decode cX5_answer 82 = .ok (.goto 4, 3) := by decide +kernel
theorem dX5_answer_85 : decode cX5_answer 85 = .ok (.iconst 0, 1) := by decide +kernel
theorem dX5_answer_86 : decode cX5_answer 86 = .ok (.invokestatic 49, 3) := by decide +kernel
theorem dX5_answer_89 : decode cX5_answer 89 = .ok (.iastore, 1) := by decide +kernel
theorem dX5_answer_90 : decode cX5_answer 90 = .ok (.goto 99, 3) := by decide +kernel
theorem dX5_answer_93 : decode cX5_answer 93 = .ok (.iload 8, 2) := by decide +kernel
theorem dX5_answer_95 : decode cX5_answer 95 = .ok (.invokestatic 53, 3) := by decide +kernel
theorem dX5_answer_98 : decode cX5_answer 98 = .ok (.ifCond .eq 45, 3) := by decide +kernel
theorem dX5_answer_101 : decode cX5_answer 101 = .ok (.iload 6, 2) := by decide +kernel
theorem dX5_answer_103 : decode cX5_answer 103 = .ok (.iconst 2, 1) := by decide +kernel
theorem dX5_answer_104 : decode cX5_answer 104 = .ok (.if_icmp .lt 85, 3) := by decide +kernel
theorem dX5_answer_107 : decode cX5_answer 107 = .ok (.iinc 6 (-1), 3) := by decide +kernel
theorem dX5_answer_110 : decode cX5_answer 110 = .ok (.aload_n 0, 1) := by decide +kernel
theorem dX5_answer_111 : decode cX5_answer 111 = .ok (.getfield 11, 3) := by decide +kernel
theorem dX5_answer_114 : decode cX5_answer 114 = .ok (.iload 6, 2) := by decide +kernel
theorem dX5_answer_116 : decode cX5_answer 116 = .ok (.iconst 1, 1) := by decide +kernel
theorem dX5_answer_117 : decode cX5_answer 117 = .ok (.isub, 1) := by decide +kernel
theorem dX5_answer_118 : decode cX5_answer 118 = .ok (.iload 8, 2) := by decide +kernel
theorem dX5_answer_120 : decode cX5_answer 120 = .ok (.aload_n 0, 1) := by decide +kernel
theorem dX5_answer_121 : decode cX5_answer 121 = .ok (.getfield 11, 3) := by decide +kernel
theorem dX5_answer_124 : decode cX5_answer 124 = .ok (.iload 6, 2) := by decide +kernel
theorem dX5_answer_126 : decode cX5_answer 126 = .ok (.iconst 1, 1) := by decide +kernel
theorem dX5_answer_127 : decode cX5_answer 127 = .ok (.isub, 1) := by decide +kernel
theorem dX5_answer_128 : decode cX5_answer 128 = .ok (.iaload, 1) := by decide +kernel
theorem dX5_answer_129 : decode cX5_answer 129 = .ok (.aload_n 0, 1) := by decide +kernel
theorem dX5_answer_130 : decode cX5_answer 130 = .ok (.getfield 11, 3) := by decide +kernel
theorem dX5_answer_133 : decode cX5_answer 133 = .ok (.iload 6, 2) := by decide +kernel
theorem dX5_answer_135 : decode cX5_answer 135 = .ok (.iaload, 1) := by decide +kernel
theorem dX5_answer_136 : decode cX5_answer 136 = .ok (.invokestatic 57, 3) := by decide +kernel
theorem dX5_answer_139 : decode cX5_answer 139 = .ok (.iastore, 1) := by decide +kernel
theorem dX5_answer_140 : decode cX5_answer 140 = .ok (.goto 49, 3) := by decide +kernel
theorem dX5_answer_143 : decode cX5_answer 143 = .ok (.iload 6, 2) := by decide +kernel
theorem dX5_answer_145 : decode cX5_answer 145 = .ok (.bipush 32, 2) := by decide +kernel
theorem dX5_answer_147 : decode cX5_answer 147 = .ok (.if_icmp .ge 42, 3) := by decide +kernel
theorem dX5_answer_150 : decode cX5_answer 150 = .ok (.aload_n 0, 1) := by decide +kernel
theorem dX5_answer_151 : decode cX5_answer 151 = .ok (.getfield 11, 3) := by decide +kernel
theorem dX5_answer_154 : decode cX5_answer 154 = .ok (.iload 6, 2) := by decide +kernel
theorem dX5_answer_156 : decode cX5_answer 156 = .ok (.iload 8, 2) := by decide +kernel
theorem dX5_answer_158 : decode cX5_answer 158 = .ok (.iconst 2, 1) := by decide +kernel
theorem dX5_answer_159 : decode cX5_answer 159 = .ok (.if_icmp .ne 16, 3) := by decide +kernel
theorem dX5_answer_162 : decode cX5_answer 162 = .ok (.aload_n 0, 1) := by decide +kernel
theorem dX5_answer_163 : decode cX5_answer 163 = .ok (.getfield 15, 3) := by decide +kernel
theorem dX5_answer_166 : decode cX5_answer 166 = .ok (.iload 7, 2) := by decide +kernel
theorem dX5_answer_168 : decode cX5_answer 168 = .ok (.iaload, 1) := by decide +kernel
theorem dX5_answer_169 : decode cX5_answer 169 = .ok (.bipush 6, 2) := by decide +kernel
theorem dX5_answer_171 : decode cX5_answer 171 = .ok (.ishr, 1) := by decide +kernel
theorem dX5_answer_172 : decode cX5_answer 172 = .ok (.goto 13, 3) := by decide +kernel
theorem dX5_answer_175 : decode cX5_answer 175 = .ok (.iload 8, 2) := by decide +kernel
theorem dX5_answer_177 : decode cX5_answer 177 = .ok (.aload_n 3, 1) := by decide +kernel
theorem dX5_answer_178 : decode cX5_answer 178 = .ok (.iload 4, 2) := by decide +kernel
theorem dX5_answer_180 : decode cX5_answer 180 = .ok (.iload 5, 2) := by decide +kernel
theorem dX5_answer_182 : decode cX5_answer 182 = .ok (.invokestatic 60, 3) := by decide +kernel
theorem dX5_answer_185 : decode cX5_answer 185 = .ok (.iastore, 1) := by decide +kernel
theorem dX5_answer_186 : decode cX5_answer 186 = .ok (.iinc 6 1, 3) := by decide +kernel
theorem dX5_answer_189 : decode cX5_answer 189 = .ok (.iinc 7 1, 3) := by decide +kernel
theorem dX5_answer_192 : decode cX5_answer 192 = .ok (.goto (-186), 3) := by decide +kernel
theorem dX5_answer_195 : decode cX5_answer 195 = .ok (.aload_n 0, 1) := by decide +kernel
theorem dX5_answer_196 : decode cX5_answer 196 = .ok (.getfield 11, 3) := by decide +kernel
theorem dX5_answer_199 : decode cX5_answer 199 = .ok (.iconst 0, 1) := by decide +kernel
theorem dX5_answer_200 : decode cX5_answer 200 = .ok (.iaload, 1) := by decide +kernel
theorem dX5_answer_201 : decode cX5_answer 201 = .ok (.ireturn, 1) := by decide +kernel
theorem dX5_bit_0 : decode cX5_bit 0 = .ok (.iload_n 0, 1) := by decide +kernel
theorem dX5_bit_1 : decode cX5_bit 1 = .ok (.ifCond .eq 7, 3) := by decide +kernel
theorem dX5_bit_4 : decode cX5_bit 4 = .ok (.iconst 1, 1) := by decide +kernel
theorem dX5_bit_5 : decode cX5_bit 5 = .ok (.goto 4, 3) := by decide +kernel
theorem dX5_bit_8 : decode cX5_bit 8 = .ok (.iconst 0, 1) := by decide +kernel
theorem dX5_bit_9 : decode cX5_bit 9 = .ok (.ireturn, 1) := by decide +kernel
theorem dX5_joined_0 : decode cX5_joined 0 = .ok (.iload_n 0, 1) := by decide +kernel
theorem dX5_joined_1 : decode cX5_joined 1 = .ok (.lookupswitch 129 #[(6, 59), (7, 76), (43, 121), (45, 125), (60, 93), (61, 107)], 59) := by decide +kernel
theorem dX5_joined_60 : decode cX5_joined 60 = .ok (.iload_n 1, 1) := by decide +kernel
theorem dX5_joined_61 : decode cX5_joined 61 = .ok (.ifCond .ne 7, 3) := by decide +kernel
theorem dX5_joined_64 : decode cX5_joined 64 = .ok (.iload_n 2, 1) := by decide +kernel
theorem dX5_joined_65 : decode cX5_joined 65 = .ok (.ifCond .eq 7, 3) := by decide +kernel
theorem dX5_joined_68 : decode cX5_joined 68 = .ok (.iconst 1, 1) := by decide +kernel
theorem dX5_joined_69 : decode cX5_joined 69 = .ok (.goto 4, 3) := by decide +kernel
theorem dX5_joined_72 : decode cX5_joined 72 = .ok (.iconst 0, 1) := by decide +kernel
theorem dX5_joined_73 : decode cX5_joined 73 = .ok (.invokestatic 49, 3) := by decide +kernel
theorem dX5_joined_76 : decode cX5_joined 76 = .ok (.ireturn, 1) := by decide +kernel
theorem dX5_joined_77 : decode cX5_joined 77 = .ok (.iload_n 1, 1) := by decide +kernel
theorem dX5_joined_78 : decode cX5_joined 78 = .ok (.ifCond .eq 11, 3) := by decide +kernel
theorem dX5_joined_81 : decode cX5_joined 81 = .ok (.iload_n 2, 1) := by decide +kernel
theorem dX5_joined_82 : decode cX5_joined 82 = .ok (.ifCond .eq 7, 3) := by decide +kernel
theorem dX5_joined_85 : decode cX5_joined 85 = .ok (.iconst 1, 1) := by decide +kernel
theorem dX5_joined_86 : decode cX5_joined 86 = .ok (.goto 4, 3) := by decide +kernel
theorem dX5_joined_89 : decode cX5_joined 89 = .ok (.iconst 0, 1) := by decide +kernel
theorem dX5_joined_90 : decode cX5_joined 90 = .ok (.invokestatic 49, 3) := by decide +kernel
theorem dX5_joined_93 : decode cX5_joined 93 = .ok (.ireturn, 1) := by decide +kernel
theorem dX5_joined_94 : decode cX5_joined 94 = .ok (.iload_n 1, 1) := by decide +kernel
theorem dX5_joined_95 : decode cX5_joined 95 = .ok (.iload_n 2, 1) := by decide +kernel
theorem dX5_joined_96 : decode cX5_joined 96 = .ok (.if_icmp .ge 7, 3) := by decide +kernel
theorem dX5_joined_99 : decode cX5_joined 99 = .ok (.iconst 1, 1) := by decide +kernel
theorem dX5_joined_100 : decode cX5_joined 100 = .ok (.goto 4, 3) := by decide +kernel
theorem dX5_joined_103 : decode cX5_joined 103 = .ok (.iconst 0, 1) := by decide +kernel
theorem dX5_joined_104 : decode cX5_joined 104 = .ok (.invokestatic 49, 3) := by decide +kernel
theorem dX5_joined_107 : decode cX5_joined 107 = .ok (.ireturn, 1) := by decide +kernel
theorem dX5_joined_108 : decode cX5_joined 108 = .ok (.iload_n 1, 1) := by decide +kernel
theorem dX5_joined_109 : decode cX5_joined 109 = .ok (.iload_n 2, 1) := by decide +kernel
theorem dX5_joined_110 : decode cX5_joined 110 = .ok (.if_icmp .ne 7, 3) := by decide +kernel
theorem dX5_joined_113 : decode cX5_joined 113 = .ok (.iconst 1, 1) := by decide +kernel
theorem dX5_joined_114 : decode cX5_joined 114 = .ok (.goto 4, 3) := by decide +kernel
theorem dX5_joined_117 : decode cX5_joined 117 = .ok (.iconst 0, 1) := by decide +kernel
theorem dX5_joined_118 : decode cX5_joined 118 = .ok (.invokestatic 49, 3) := by decide +kernel
theorem dX5_joined_121 : decode cX5_joined 121 = .ok (.ireturn, 1) := by decide +kernel
theorem dX5_joined_122 : decode cX5_joined 122 = .ok (.iload_n 1, 1) := by decide +kernel
theorem dX5_joined_123 : decode cX5_joined 123 = .ok (.iload_n 2, 1) := by decide +kernel
theorem dX5_joined_124 : decode cX5_joined 124 = .ok (.iadd, 1) := by decide +kernel
theorem dX5_joined_125 : decode cX5_joined 125 = .ok (.ireturn, 1) := by decide +kernel
theorem dX5_joined_126 : decode cX5_joined 126 = .ok (.iload_n 1, 1) := by decide +kernel
theorem dX5_joined_127 : decode cX5_joined 127 = .ok (.iload_n 2, 1) := by decide +kernel
theorem dX5_joined_128 : decode cX5_joined 128 = .ok (.isub, 1) := by decide +kernel
theorem dX5_joined_129 : decode cX5_joined 129 = .ok (.ireturn, 1) := by decide +kernel
theorem dX5_joined_130 : decode cX5_joined 130 = .ok (.iload_n 1, 1) := by decide +kernel
theorem dX5_joined_131 : decode cX5_joined 131 = .ok (.iload_n 2, 1) := by decide +kernel
theorem dX5_joined_132 : decode cX5_joined 132 = .ok (.imul, 1) := by decide +kernel
theorem dX5_joined_133 : decode cX5_joined 133 = .ok (.ireturn, 1) := by decide +kernel
theorem dX5_named_0 : decode cX5_named 0 = .ok (.iload_n 0, 1) := by decide +kernel
theorem dX5_named_1 : decode cX5_named 1 = .ok (.tableswitch 54 10 14 #[35, 40, 45, 50, 52], 35) := by decide +kernel
theorem dX5_named_36 : decode cX5_named 36 = .ok (.aload_n 1, 1) := by decide +kernel
theorem dX5_named_37 : decode cX5_named 37 = .ok (.getfield 64, 3) := by decide +kernel
theorem dX5_named_40 : decode cX5_named 40 = .ok (.ireturn, 1) := by decide +kernel
theorem dX5_named_41 : decode cX5_named 41 = .ok (.aload_n 1, 1) := by decide +kernel
theorem dX5_named_42 : decode cX5_named 42 = .ok (.getfield 67, 3) := by decide +kernel
theorem dX5_named_45 : decode cX5_named 45 = .ok (.ireturn, 1) := by decide +kernel
theorem dX5_named_46 : decode cX5_named 46 = .ok (.aload_n 1, 1) := by decide +kernel
theorem dX5_named_47 : decode cX5_named 47 = .ok (.getfield 70, 3) := by decide +kernel
theorem dX5_named_50 : decode cX5_named 50 = .ok (.ireturn, 1) := by decide +kernel
theorem dX5_named_51 : decode cX5_named 51 = .ok (.iload_n 2, 1) := by decide +kernel
theorem dX5_named_52 : decode cX5_named 52 = .ok (.ireturn, 1) := by decide +kernel
theorem dX5_named_53 : decode cX5_named 53 = .ok (.iload_n 3, 1) := by decide +kernel
theorem dX5_named_54 : decode cX5_named 54 = .ok (.ireturn, 1) := by decide +kernel
theorem dX5_named_55 : decode cX5_named 55 = .ok (.aload_n 1, 1) := by decide +kernel
theorem dX5_named_56 : decode cX5_named 56 = .ok (.getfield 73, 3) := by decide +kernel
theorem dX5_named_59 : decode cX5_named 59 = .ok (.ireturn, 1) := by decide +kernel
theorem dX6_init_0 : decode cX6_init 0 = .ok (.aload_n 0, 1) := by decide +kernel
theorem dX6_init_1 : decode cX6_init 1 = .ok (.invokespecial 3, 3) := by decide +kernel
theorem dX6_init_4 : decode cX6_init 4 = .ok (.aload_n 0, 1) := by decide +kernel
theorem dX6_init_5 : decode cX6_init 5 = .ok (.bipush 7, 2) := by decide +kernel
theorem dX6_init_7 : decode cX6_init 7 = .ok (.newarray .int, 2) := by decide +kernel
theorem dX6_init_9 : decode cX6_init 9 = .ok (.putfield 9, 3) := by decide +kernel
theorem dX6_init_12 : decode cX6_init 12 = .ok (.aload_n 0, 1) := by decide +kernel
theorem dX6_init_13 : decode cX6_init 13 = .ok (.iconst 0, 1) := by decide +kernel
theorem dX6_init_14 : decode cX6_init 14 = .ok (.putfield 15, 3) := by decide +kernel
theorem dX6_init_17 : decode cX6_init 17 = .ok (.aload_n 0, 1) := by decide +kernel
theorem dX6_init_18 : decode cX6_init 18 = .ok (.iconst 0, 1) := by decide +kernel
theorem dX6_init_19 : decode cX6_init 19 = .ok (.putfield 19, 3) := by decide +kernel
theorem dX6_init_22 : decode cX6_init 22 = .ok (.aload_n 0, 1) := by decide +kernel
theorem dX6_init_23 : decode cX6_init 23 = .ok (.bipush 8, 2) := by decide +kernel
theorem dX6_init_25 : decode cX6_init 25 = .ok (.anewarray 23, 3) := by decide +kernel
theorem dX6_init_28 : decode cX6_init 28 = .ok (.putfield 25, 3) := by decide +kernel
theorem dX6_init_31 : decode cX6_init 31 = .ok (.aload_n 0, 1) := by decide +kernel
theorem dX6_init_32 : decode cX6_init 32 = .ok (.bipush 7, 2) := by decide +kernel
theorem dX6_init_34 : decode cX6_init 34 = .ok (.newarray .int, 2) := by decide +kernel
theorem dX6_init_36 : decode cX6_init 36 = .ok (.putfield 29, 3) := by decide +kernel
theorem dX6_init_39 : decode cX6_init 39 = .ok (.aload_n 0, 1) := by decide +kernel
theorem dX6_init_40 : decode cX6_init 40 = .ok (.bipush 7, 2) := by decide +kernel
theorem dX6_init_42 : decode cX6_init 42 = .ok (.newarray .int, 2) := by decide +kernel
theorem dX6_init_44 : decode cX6_init 44 = .ok (.putfield 32, 3) := by decide +kernel
theorem dX6_init_47 : decode cX6_init 47 = .ok (.aload_n 0, 1) := by decide +kernel
theorem dX6_init_48 : decode cX6_init 48 = .ok (.iconst 0, 1) := by decide +kernel
theorem dX6_init_49 : decode cX6_init 49 = .ok (.anewarray 35, 3) := by decide +kernel
theorem dX6_init_52 : decode cX6_init 52 = .ok (.putfield 37, 3) := by decide +kernel
theorem dX6_init_55 : decode cX6_init 55 = .ok (.aload_n 0, 1) := by decide +kernel
theorem dX6_init_56 : decode cX6_init 56 = .ok (.iconst 0, 1) := by decide +kernel
theorem dX6_init_57 : decode cX6_init 57 = .ok (.putfield 41, 3) := by decide +kernel
theorem dX6_init_60 : decode cX6_init 60 = .ok (.aload_n 0, 1) := by decide +kernel
theorem dX6_init_61 : decode cX6_init 61 = .ok (.bipush 10, 2) := by decide +kernel
theorem dX6_init_63 : decode cX6_init 63 = .ok (.newarray .int, 2) := by decide +kernel
theorem dX6_init_65 : decode cX6_init 65 = .ok (.putfield 44, 3) := by decide +kernel
theorem dX6_init_68 : decode cX6_init 68 = .ok (.aload_n 0, 1) := by decide +kernel
theorem dX6_init_69 : decode cX6_init 69 = .ok (.iload_n 1, 1) := by decide +kernel
theorem dX6_init_70 : decode cX6_init 70 = .ok (.putfield 47, 3) := by decide +kernel
theorem dX6_init_73 : decode cX6_init 73 = .ok (.iconst 0, 1) := by decide +kernel
theorem dX6_init_74 : decode cX6_init 74 = .ok (.istore_n 2, 1) := by decide +kernel
theorem dX6_init_75 : decode cX6_init 75 = .ok (.iload_n 2, 1) := by decide +kernel
theorem dX6_init_76 : decode cX6_init 76 = .ok (.bipush 7, 2) := by decide +kernel
theorem dX6_init_78 : decode cX6_init 78 = .ok (.if_icmp .gt 22, 3) := by decide +kernel
theorem dX6_init_81 : decode cX6_init 81 = .ok (.aload_n 0, 1) := by decide +kernel
theorem dX6_init_82 : decode cX6_init 82 = .ok (.getfield 25, 3) := by decide +kernel
theorem dX6_init_85 : decode cX6_init 85 = .ok (.iload_n 2, 1) := by decide +kernel
theorem dX6_init_86 : decode cX6_init 86 = .ok (.new 23, 3) := by decide +kernel
theorem dX6_init_89 : decode cX6_init 89 = .ok (.dup, 1) := by decide +kernel
theorem dX6_init_90 : decode cX6_init 90 = .ok (.invokespecial 50, 3) := by decide +kernel
theorem dX6_init_93 : decode cX6_init 93 = .ok (.aastore, 1) := by decide +kernel
theorem dX6_init_94 : decode cX6_init 94 = .ok (.iinc 2 1, 3) := by decide +kernel
theorem dX6_init_97 : decode cX6_init 97 = .ok (.goto (-22), 3) := by decide +kernel
theorem dX6_init_100 : decode cX6_init 100 = .ok (.iload_n 1, 1) := by decide +kernel
theorem dX6_init_101 : decode cX6_init 101 = .ok (.ifCond .ne 7, 3) := by decide +kernel
theorem dX6_init_104 : decode cX6_init 104 = .ok (.iconst 0, 1) := by decide +kernel
theorem dX6_init_105 : decode cX6_init 105 = .ok (.goto 6, 3) := by decide +kernel
theorem dX6_init_108 : decode cX6_init 108 = .ok (.sipush 756, 3) := by decide +kernel
theorem dX6_init_111 : decode cX6_init 111 = .ok (.istore_n 2, 1) := by decide +kernel
theorem dX6_init_112 : decode cX6_init 112 = .ok (.aload_n 0, 1) := by decide +kernel
theorem dX6_init_113 : decode cX6_init 113 = .ok (.iload_n 2, 1) := by decide +kernel
theorem dX6_init_114 : decode cX6_init 114 = .ok (.newarray .int, 2) := by decide +kernel
theorem dX6_init_116 : decode cX6_init 116 = .ok (.putfield 51, 3) := by decide +kernel
theorem dX6_init_119 : decode cX6_init 119 = .ok (.aload_n 0, 1) := by decide +kernel
theorem dX6_init_120 : decode cX6_init 120 = .ok (.iload_n 2, 1) := by decide +kernel
theorem dX6_init_121 : decode cX6_init 121 = .ok (.newarray .int, 2) := by decide +kernel
theorem dX6_init_123 : decode cX6_init 123 = .ok (.putfield 54, 3) := by decide +kernel
theorem dX6_init_126 : decode cX6_init 126 = .ok (.return_, 1) := by decide +kernel
theorem dX6_find_0 : decode cX6_find 0 = .ok (.aload_n 0, 1) := by decide +kernel
theorem dX6_find_1 : decode cX6_find 1 = .ok (.getfield 19, 3) := by decide +kernel
theorem dX6_find_4 : decode cX6_find 4 = .ok (.ifCond .eq 4, 3) := by decide +kernel
theorem dX6_find_7 : decode cX6_find 7 = .ok (.return_, 1) := by decide +kernel
theorem dX6_find_8 : decode cX6_find 8 = .ok (.aload_n 0, 1) := by decide +kernel
theorem dX6_find_9 : decode cX6_find 9 = .ok (.aload_n 1, 1) := by decide +kernel
theorem dX6_find_10 : decode cX6_find 10 = .ok (.putfield 37, 3) := by decide +kernel
theorem dX6_find_13 : decode cX6_find 13 = .ok (.aload_n 0, 1) := by decide +kernel
theorem dX6_find_14 : decode cX6_find 14 = .ok (.iload_n 2, 1) := by decide +kernel
theorem dX6_find_15 : decode cX6_find 15 = .ok (.bipush 7, 2) := by decide +kernel
theorem dX6_find_17 : decode cX6_find 17 = .ok (.invokestatic 57, 3) := by decide +kernel
theorem dX6_find_20 : decode cX6_find 20 = .ok (.putfield 41, 3) := by decide +kernel
theorem dX6_find_23 : decode cX6_find 23 = .ok (.aload_n 0, 1) := by decide +kernel
theorem dX6_find_24 : decode cX6_find 24 = .ok (.aload_n 3, 1) := by decide +kernel
theorem dX6_find_25 : decode cX6_find 25 = .ok (.putfield 44, 3) := by decide +kernel
theorem dX6_find_28 : decode cX6_find 28 = .ok (.aload_n 0, 1) := by decide +kernel
theorem dX6_find_29 : decode cX6_find 29 = .ok (.getfield 47, 3) := by decide +kernel
theorem dX6_find_32 : decode cX6_find 32 = .ok (.iconst 1, 1) := by decide +kernel
theorem dX6_find_33 : decode cX6_find 33 = .ok (.if_icmp .ne 9, 3) := by decide +kernel
theorem dX6_find_36 : decode cX6_find 36 = .ok (.aload_n 0, 1) := by decide +kernel
theorem dX6_find_37 : decode cX6_find 37 = .ok (.aload 4, 2) := by decide +kernel
theorem dX6_find_39 : decode cX6_find 39 = .ok (.invokevirtual 63, 3) := by decide +kernel
theorem dX6_find_42 : decode cX6_find 42 = .ok (.aload_n 0, 1) := by decide +kernel
theorem dX6_find_43 : decode cX6_find 43 = .ok (.ldc 67, 2) := by decide +kernel
theorem dX6_find_45 : decode cX6_find 45 = .ok (.putfield 15, 3) := by decide +kernel
theorem dX6_find_48 : decode cX6_find 48 = .ok (.aload_n 0, 1) := by decide +kernel
theorem dX6_find_49 : decode cX6_find 49 = .ok (.getfield 25, 3) := by decide +kernel
theorem dX6_find_52 : decode cX6_find 52 = .ok (.iconst 0, 1) := by decide +kernel
theorem dX6_find_53 : decode cX6_find 53 = .ok (.aaload, 1) := by decide +kernel
theorem dX6_find_54 : decode cX6_find 54 = .ok (.aload_n 0, 1) := by decide +kernel
theorem dX6_find_55 : decode cX6_find 55 = .ok (.getfield 44, 3) := by decide +kernel
theorem dX6_find_58 : decode cX6_find 58 = .ok (.invokevirtual 68, 3) := by decide +kernel
theorem dX6_find_61 : decode cX6_find 61 = .ok (.aload_n 0, 1) := by decide +kernel
theorem dX6_find_62 : decode cX6_find 62 = .ok (.iconst 0, 1) := by decide +kernel
theorem dX6_find_63 : decode cX6_find 63 = .ok (.iconst 0, 1) := by decide +kernel
theorem dX6_find_64 : decode cX6_find 64 = .ok (.iconst 0, 1) := by decide +kernel
theorem dX6_find_65 : decode cX6_find 65 = .ok (.invokevirtual 72, 3) := by decide +kernel
theorem dX6_find_68 : decode cX6_find 68 = .ok (.aload_n 0, 1) := by decide +kernel
theorem dX6_find_69 : decode cX6_find 69 = .ok (.iconst 1, 1) := by decide +kernel
theorem dX6_find_70 : decode cX6_find 70 = .ok (.putfield 19, 3) := by decide +kernel
theorem dX6_find_73 : decode cX6_find 73 = .ok (.return_, 1) := by decide +kernel
theorem dX6_fillGifts_0 : decode cX6_fillGifts 0 = .ok (.aload_n 0, 1) := by decide +kernel
theorem dX6_fillGifts_1 : decode cX6_fillGifts 1 = .ok (.getfield 44, 3) := by decide +kernel
theorem dX6_fillGifts_4 : decode cX6_fillGifts 4 = .ok (.iconst 5, 1) := by decide +kernel
theorem dX6_fillGifts_5 : decode cX6_fillGifts 5 = .ok (.iaload, 1) := by decide +kernel
theorem dX6_fillGifts_6 : decode cX6_fillGifts 6 = .ok (.istore_n 2, 1) := by decide +kernel
theorem dX6_fillGifts_7 : decode cX6_fillGifts 7 = .ok (.iconst 0, 1) := by decide +kernel
theorem dX6_fillGifts_8 : decode cX6_fillGifts 8 = .ok (.istore_n 3, 1) := by decide +kernel
theorem dX6_fillGifts_9 : decode cX6_fillGifts 9 = .ok (.iload_n 3, 1) := by decide +kernel
theorem dX6_fillGifts_10 : decode cX6_fillGifts 10 = .ok (.aload_n 0, 1) := by decide +kernel
theorem dX6_fillGifts_11 : decode cX6_fillGifts 11 = .ok (.getfield 41, 3) := by decide +kernel
theorem dX6_fillGifts_14 : decode cX6_fillGifts 14 = .ok (.if_icmp .ge 112, 3) := by decide +kernel
theorem dX6_fillGifts_17 : decode cX6_fillGifts 17 = .ok (.aload_n 0, 1) := by decide +kernel
theorem dX6_fillGifts_18 : decode cX6_fillGifts 18 = .ok (.getfield 37, 3) := by decide +kernel
theorem dX6_fillGifts_21 : decode cX6_fillGifts 21 = .ok (.iload_n 3, 1) := by decide +kernel
theorem dX6_fillGifts_22 : decode cX6_fillGifts 22 = .ok (.aaload, 1) := by decide +kernel
theorem dX6_fillGifts_23 : decode cX6_fillGifts 23 = .ok (.astore 4, 2) := by decide +kernel
theorem dX6_fillGifts_25 : decode cX6_fillGifts 25 = .ok (.aload_n 0, 1) := by decide +kernel
theorem dX6_fillGifts_26 : decode cX6_fillGifts 26 = .ok (.getfield 32, 3) := by decide +kernel
theorem dX6_fillGifts_29 : decode cX6_fillGifts 29 = .ok (.iload_n 3, 1) := by decide +kernel
theorem dX6_fillGifts_30 : decode cX6_fillGifts 30 = .ok (.aload_n 1, 1) := by decide +kernel
theorem dX6_fillGifts_31 : decode cX6_fillGifts 31 = .ok (.aload 4, 2) := by decide +kernel
theorem dX6_fillGifts_33 : decode cX6_fillGifts 33 = .ok (.iload_n 2, 1) := by decide +kernel
theorem dX6_fillGifts_34 : decode cX6_fillGifts 34 = .ok (.invokevirtual 76, 3) := by decide +kernel
theorem dX6_fillGifts_37 : decode cX6_fillGifts 37 = .ok (.iastore, 1) := by decide +kernel
theorem dX6_fillGifts_38 : decode cX6_fillGifts 38 = .ok (.iconst 0, 1) := by decide +kernel
theorem dX6_fillGifts_39 : decode cX6_fillGifts 39 = .ok (.istore 5, 2) := by decide +kernel
theorem dX6_fillGifts_41 : decode cX6_fillGifts 41 = .ok (.bipush 107, 2) := by decide +kernel
theorem dX6_fillGifts_43 : decode cX6_fillGifts 43 = .ok (.istore 6, 2) := by decide +kernel
theorem dX6_fillGifts_45 : decode cX6_fillGifts 45 = .ok (.iload 6, 2) := by decide +kernel
theorem dX6_fillGifts_47 : decode cX6_fillGifts 47 = .ok (.ifCond .lt 73, 3) := by decide +kernel
theorem dX6_fillGifts_50 : decode cX6_fillGifts 50 = .ok (.aload_n 1, 1) := by decide +kernel
theorem dX6_fillGifts_51 : decode cX6_fillGifts 51 = .ok (.aload 4, 2) := by decide +kernel
theorem dX6_fillGifts_53 : decode cX6_fillGifts 53 = .ok (.iload 6, 2) := by decide +kernel
theorem dX6_fillGifts_55 : decode cX6_fillGifts 55 = .ok (.iload_n 2, 1) := by decide +kernel
theorem dX6_fillGifts_56 : decode cX6_fillGifts 56 = .ok (.invokevirtual 82, 3) := by decide +kernel
theorem dX6_fillGifts_59 : decode cX6_fillGifts 59 = .ok (.ifCond .eq 7, 3) := by decide +kernel
theorem dX6_fillGifts_62 : decode cX6_fillGifts 62 = .ok (.iconst 0, 1) := by decide +kernel
theorem dX6_fillGifts_63 : decode cX6_fillGifts 63 = .ok (.goto 12, 3) := by decide +kernel
theorem dX6_fillGifts_66 : decode cX6_fillGifts 66 = .ok (.aload_n 1, 1) := by decide +kernel
theorem dX6_fillGifts_67 : decode cX6_fillGifts 67 = .ok (.aload 4, 2) := by decide +kernel
theorem dX6_fillGifts_69 : decode cX6_fillGifts 69 = .ok (.iload 6, 2) := by decide +kernel
theorem dX6_fillGifts_71 : decode cX6_fillGifts 71 = .ok (.iload_n 2, 1) := by decide +kernel
theorem dX6_fillGifts_72 : decode cX6_fillGifts 72 = .ok (.invokevirtual 86, 3) := by decide +kernel
theorem dX6_fillGifts_75 : decode cX6_fillGifts 75 = .ok (.istore 7, 2) := by decide +kernel
theorem dX6_fillGifts_77 : decode cX6_fillGifts 77 = .ok (.iload 5, 2) := by decide +kernel
theorem dX6_fillGifts_79 : decode cX6_fillGifts 79 = .ok (.iload 7, 2) := by decide +kernel
theorem dX6_fillGifts_81 : decode cX6_fillGifts 81 = .ok (.invokestatic 90, 3) := by decide +kernel
theorem dX6_fillGifts_84 : decode cX6_fillGifts 84 = .ok (.istore 5, 2) := by decide +kernel
theorem dX6_fillGifts_86 : decode cX6_fillGifts 86 = .ok (.aload_n 0, 1) := by decide +kernel
theorem dX6_fillGifts_87 : decode cX6_fillGifts 87 = .ok (.getfield 51, 3) := by decide +kernel
theorem dX6_fillGifts_90 : decode cX6_fillGifts 90 = .ok (.iload_n 3, 1) := by decide +kernel
theorem dX6_fillGifts_91 : decode cX6_fillGifts 91 = .ok (.bipush 108, 2) := by decide +kernel
theorem dX6_fillGifts_93 : decode cX6_fillGifts 93 = .ok (.imul, 1) := by decide +kernel
theorem dX6_fillGifts_94 : decode cX6_fillGifts 94 = .ok (.iload 6, 2) := by decide +kernel
theorem dX6_fillGifts_96 : decode cX6_fillGifts 96 = .ok (.iadd, 1) := by decide +kernel
theorem dX6_fillGifts_97 : decode cX6_fillGifts 97 = .ok (.iload 7, 2) := by decide +kernel
theorem dX6_fillGifts_99 : decode cX6_fillGifts 99 = .ok (.iastore, 1) := by decide +kernel
theorem dX6_fillGifts_100 : decode cX6_fillGifts 100 = .ok (.aload_n 0, 1) := by decide +kernel
theorem dX6_fillGifts_101 : decode cX6_fillGifts 101 = .ok (.getfield 54, 3) := by decide +kernel
theorem dX6_fillGifts_104 : decode cX6_fillGifts 104 = .ok (.iload_n 3, 1) := by decide +kernel
theorem dX6_fillGifts_105 : decode cX6_fillGifts 105 = .ok (.bipush 108, 2) := by decide +kernel
theorem dX6_fillGifts_107 : decode cX6_fillGifts 107 = .ok (.imul, 1) := by decide +kernel
theorem dX6_fillGifts_108 : decode cX6_fillGifts 108 = .ok (.iload 6, 2) := by decide +kernel
theorem dX6_fillGifts_110 : decode cX6_fillGifts 110 = .ok (.iadd, 1) := by decide +kernel
theorem dX6_fillGifts_111 : decode cX6_fillGifts 111 = .ok (.iload 5, 2) := by decide +kernel
theorem dX6_fillGifts_113 : decode cX6_fillGifts 113 = .ok (.iastore, 1) := by decide +kernel
theorem dX6_fillGifts_114 : decode cX6_fillGifts 114 = .ok (.iinc 6 (-1), 3) := by decide +kernel
theorem dX6_fillGifts_117 : decode cX6_fillGifts 117 = .ok (.goto (-72), 3) := by decide +kernel
theorem dX6_fillGifts_120 : decode cX6_fillGifts 120 = .ok (.iinc 3 1, 3) := by decide +kernel
theorem dX6_fillGifts_123 : decode cX6_fillGifts 123 = .ok (.goto (-114), 3) := by decide +kernel
theorem dX6_fillGifts_126 : decode cX6_fillGifts 126 = .ok (.return_, 1) := by decide +kernel
theorem dX6_grow_0 : decode cX6_grow 0 = .ok (.aload_n 0, 1) := by decide +kernel
theorem dX6_grow_1 : decode cX6_grow 1 = .ok (.aload_n 0, 1) := by decide +kernel
theorem dX6_grow_2 : decode cX6_grow 2 = .ok (.getfield 25, 3) := by decide +kernel
theorem dX6_grow_5 : decode cX6_grow 5 = .ok (.iload_n 1, 1) := by decide +kernel
theorem dX6_grow_6 : decode cX6_grow 6 = .ok (.aaload, 1) := by decide +kernel
theorem dX6_grow_7 : decode cX6_grow 7 = .ok (.getfield 93, 3) := by decide +kernel
theorem dX6_grow_10 : decode cX6_grow 10 = .ok (.iload_n 2, 1) := by decide +kernel
theorem dX6_grow_11 : decode cX6_grow 11 = .ok (.iload_n 3, 1) := by decide +kernel
theorem dX6_grow_12 : decode cX6_grow 12 = .ok (.invokevirtual 96, 3) := by decide +kernel
theorem dX6_grow_15 : decode cX6_grow 15 = .ok (.istore 4, 2) := by decide +kernel
theorem dX6_grow_17 : decode cX6_grow 17 = .ok (.iload 4, 2) := by decide +kernel
theorem dX6_grow_19 : decode cX6_grow 19 = .ok (.aload_n 0, 1) := by decide +kernel
theorem dX6_grow_20 : decode cX6_grow 20 = .ok (.getfield 15, 3) := by decide +kernel
theorem dX6_grow_23 : decode cX6_grow 23 = .ok (.if_icmp .gt 4, 3) := by decide +kernel
theorem dX6_grow_26 : decode cX6_grow 26 = .ok (.return_, 1) := by decide +kernel
theorem dX6_grow_27 : decode cX6_grow 27 = .ok (.iload_n 1, 1) := by decide +kernel
theorem dX6_grow_28 : decode cX6_grow 28 = .ok (.aload_n 0, 1) := by decide +kernel
theorem dX6_grow_29 : decode cX6_grow 29 = .ok (.getfield 41, 3) := by decide +kernel
theorem dX6_grow_32 : decode cX6_grow 32 = .ok (.if_icmp .lt 27, 3) := by decide +kernel
theorem dX6_grow_35 : decode cX6_grow 35 = .ok (.aload_n 0, 1) := by decide +kernel
theorem dX6_grow_36 : decode cX6_grow 36 = .ok (.iload 4, 2) := by decide +kernel
theorem dX6_grow_38 : decode cX6_grow 38 = .ok (.putfield 15, 3) := by decide +kernel
theorem dX6_grow_41 : decode cX6_grow 41 = .ok (.aload_n 0, 1) := by decide +kernel
theorem dX6_grow_42 : decode cX6_grow 42 = .ok (.getfield 29, 3) := by decide +kernel
theorem dX6_grow_45 : decode cX6_grow 45 = .ok (.iconst 0, 1) := by decide +kernel
theorem dX6_grow_46 : decode cX6_grow 46 = .ok (.aload_n 0, 1) := by decide +kernel
theorem dX6_grow_47 : decode cX6_grow 47 = .ok (.getfield 9, 3) := by decide +kernel
theorem dX6_grow_50 : decode cX6_grow 50 = .ok (.iconst 0, 1) := by decide +kernel
theorem dX6_grow_51 : decode cX6_grow 51 = .ok (.aload_n 0, 1) := by decide +kernel
theorem dX6_grow_52 : decode cX6_grow 52 = .ok (.getfield 41, 3) := by decide +kernel
theorem dX6_grow_55 : decode cX6_grow 55 = .ok (.invokestatic 100, 3) := by decide +kernel
theorem dX6_grow_58 : decode cX6_grow 58 = .ok (.return_, 1) := by decide +kernel
theorem dX6_grow_59 : decode cX6_grow 59 = .ok (.iconst 0, 1) := by decide +kernel
theorem dX6_grow_60 : decode cX6_grow 60 = .ok (.istore 5, 2) := by decide +kernel
theorem dX6_grow_62 : decode cX6_grow 62 = .ok (.iload 5, 2) := by decide +kernel
theorem dX6_grow_64 : decode cX6_grow 64 = .ok (.aload_n 0, 1) := by decide +kernel
theorem dX6_grow_65 : decode cX6_grow 65 = .ok (.getfield 41, 3) := by decide +kernel
theorem dX6_grow_68 : decode cX6_grow 68 = .ok (.if_icmp .ge 92, 3) := by decide +kernel
theorem dX6_grow_71 : decode cX6_grow 71 = .ok (.iload_n 2, 1) := by decide +kernel
theorem dX6_grow_72 : decode cX6_grow 72 = .ok (.iload 5, 2) := by decide +kernel
theorem dX6_grow_74 : decode cX6_grow 74 = .ok (.ishr, 1) := by decide +kernel
theorem dX6_grow_75 : decode cX6_grow 75 = .ok (.iconst 1, 1) := by decide +kernel
theorem dX6_grow_76 : decode cX6_grow 76 = .ok (.iand, 1) := by decide +kernel
theorem dX6_grow_77 : decode cX6_grow 77 = .ok (.ifCond .ne 77, 3) := by decide +kernel
theorem dX6_grow_80 : decode cX6_grow 80 = .ok (.aload_n 0, 1) := by decide +kernel
theorem dX6_grow_81 : decode cX6_grow 81 = .ok (.getfield 25, 3) := by decide +kernel
theorem dX6_grow_84 : decode cX6_grow 84 = .ok (.iload_n 1, 1) := by decide +kernel
theorem dX6_grow_85 : decode cX6_grow 85 = .ok (.iconst 1, 1) := by decide +kernel
theorem dX6_grow_86 : decode cX6_grow 86 = .ok (.iadd, 1) := by decide +kernel
theorem dX6_grow_87 : decode cX6_grow 87 = .ok (.aaload, 1) := by decide +kernel
theorem dX6_grow_88 : decode cX6_grow 88 = .ok (.astore 6, 2) := by decide +kernel
theorem dX6_grow_90 : decode cX6_grow 90 = .ok (.aload 6, 2) := by decide +kernel
theorem dX6_grow_92 : decode cX6_grow 92 = .ok (.aload_n 0, 1) := by decide +kernel
theorem dX6_grow_93 : decode cX6_grow 93 = .ok (.getfield 25, 3) := by decide +kernel
theorem dX6_grow_96 : decode cX6_grow 96 = .ok (.iload_n 1, 1) := by decide +kernel
theorem dX6_grow_97 : decode cX6_grow 97 = .ok (.aaload, 1) := by decide +kernel
theorem dX6_grow_98 : decode cX6_grow 98 = .ok (.invokevirtual 106, 3) := by decide +kernel
theorem dX6_grow_101 : decode cX6_grow 101 = .ok (.aload 6, 2) := by decide +kernel
theorem dX6_grow_103 : decode cX6_grow 103 = .ok (.aload_n 0, 1) := by decide +kernel
theorem dX6_grow_104 : decode cX6_grow 104 = .ok (.getfield 37, 3) := by decide +kernel
theorem dX6_grow_107 : decode cX6_grow 107 = .ok (.iload 5, 2) := by decide +kernel
theorem dX6_grow_109 : decode cX6_grow 109 = .ok (.aaload, 1) := by decide +kernel
theorem dX6_grow_110 : decode cX6_grow 110 = .ok (.aload_n 0, 1) := by decide +kernel
theorem dX6_grow_111 : decode cX6_grow 111 = .ok (.getfield 44, 3) := by decide +kernel
theorem dX6_grow_114 : decode cX6_grow 114 = .ok (.invokevirtual 110, 3) := by decide +kernel
theorem dX6_grow_117 : decode cX6_grow 117 = .ok (.istore 7, 2) := by decide +kernel
theorem dX6_grow_119 : decode cX6_grow 119 = .ok (.aload_n 0, 1) := by decide +kernel
theorem dX6_grow_120 : decode cX6_grow 120 = .ok (.getfield 29, 3) := by decide +kernel
theorem dX6_grow_123 : decode cX6_grow 123 = .ok (.iload_n 1, 1) := by decide +kernel
theorem dX6_grow_124 : decode cX6_grow 124 = .ok (.iload 5, 2) := by decide +kernel
theorem dX6_grow_126 : decode cX6_grow 126 = .ok (.iastore, 1) := by decide +kernel
theorem dX6_grow_127 : decode cX6_grow 127 = .ok (.aload_n 0, 1) := by decide +kernel
theorem dX6_grow_128 : decode cX6_grow 128 = .ok (.iload_n 1, 1) := by decide +kernel
theorem dX6_grow_129 : decode cX6_grow 129 = .ok (.iconst 1, 1) := by decide +kernel
theorem dX6_grow_130 : decode cX6_grow 130 = .ok (.iadd, 1) := by decide +kernel
theorem dX6_grow_131 : decode cX6_grow 131 = .ok (.iload_n 2, 1) := by decide +kernel
theorem dX6_grow_132 : decode cX6_grow 132 = .ok (.iconst 1, 1) := by decide +kernel
theorem dX6_grow_133 : decode cX6_grow 133 = .ok (.iload 5, 2) := by decide +kernel
theorem dX6_grow_135 : decode cX6_grow 135 = .ok (.ishl, 1) := by decide +kernel
theorem dX6_grow_136 : decode cX6_grow 136 = .ok (.ior, 1) := by decide +kernel
theorem dX6_grow_137 : decode cX6_grow 137 = .ok (.iload_n 3, 1) := by decide +kernel
theorem dX6_grow_138 : decode cX6_grow 138 = .ok (.aload_n 0, 1) := by decide +kernel
theorem dX6_grow_139 : decode cX6_grow 139 = .ok (.aload_n 0, 1) := by decide +kernel
theorem dX6_grow_140 : decode cX6_grow 140 = .ok (.getfield 51, 3) := by decide +kernel
theorem dX6_grow_143 : decode cX6_grow 143 = .ok (.iload 5, 2) := by decide +kernel
theorem dX6_grow_145 : decode cX6_grow 145 = .ok (.iload 7, 2) := by decide +kernel
theorem dX6_grow_147 : decode cX6_grow 147 = .ok (.invokevirtual 114, 3) := by decide +kernel
theorem dX6_grow_150 : decode cX6_grow 150 = .ok (.iadd, 1) := by decide +kernel
theorem dX6_grow_151 : decode cX6_grow 151 = .ok (.invokevirtual 72, 3) := by decide +kernel
theorem dX6_grow_154 : decode cX6_grow 154 = .ok (.iinc 5 1, 3) := by decide +kernel
theorem dX6_grow_157 : decode cX6_grow 157 = .ok (.goto (-95), 3) := by decide +kernel
theorem dX6_grow_160 : decode cX6_grow 160 = .ok (.return_, 1) := by decide +kernel
theorem dX6_hopeOf_0 : decode cX6_hopeOf 0 = .ok (.iload_n 1, 1) := by decide +kernel
theorem dX6_hopeOf_1 : decode cX6_hopeOf 1 = .ok (.istore 4, 2) := by decide +kernel
theorem dX6_hopeOf_3 : decode cX6_hopeOf 3 = .ok (.iload_n 3, 1) := by decide +kernel
theorem dX6_hopeOf_4 : decode cX6_hopeOf 4 = .ok (.istore 5, 2) := by decide +kernel
theorem dX6_hopeOf_6 : decode cX6_hopeOf 6 = .ok (.iconst 0, 1) := by decide +kernel
theorem dX6_hopeOf_7 : decode cX6_hopeOf 7 = .ok (.istore 6, 2) := by decide +kernel
theorem dX6_hopeOf_9 : decode cX6_hopeOf 9 = .ok (.iload 6, 2) := by decide +kernel
theorem dX6_hopeOf_11 : decode cX6_hopeOf 11 = .ok (.aload_n 0, 1) := by decide +kernel
theorem dX6_hopeOf_12 : decode cX6_hopeOf 12 = .ok (.getfield 41, 3) := by decide +kernel
theorem dX6_hopeOf_15 : decode cX6_hopeOf 15 = .ok (.if_icmp .ge 72, 3) := by decide +kernel
theorem dX6_hopeOf_18 : decode cX6_hopeOf 18 = .ok (.iload_n 2, 1) := by decide +kernel
theorem dX6_hopeOf_19 : decode cX6_hopeOf 19 = .ok (.iload 6, 2) := by decide +kernel
theorem dX6_hopeOf_21 : decode cX6_hopeOf 21 = .ok (.ishr, 1) := by decide +kernel
theorem dX6_hopeOf_22 : decode cX6_hopeOf 22 = .ok (.iconst 1, 1) := by decide +kernel
theorem dX6_hopeOf_23 : decode cX6_hopeOf 23 = .ok (.iand, 1) := by decide +kernel
theorem dX6_hopeOf_24 : decode cX6_hopeOf 24 = .ok (.ifCond .ne 57, 3) := by decide +kernel
theorem dX6_hopeOf_27 : decode cX6_hopeOf 27 = .ok (.iload 4, 2) := by decide +kernel
theorem dX6_hopeOf_29 : decode cX6_hopeOf 29 = .ok (.aload_n 0, 1) := by decide +kernel
theorem dX6_hopeOf_30 : decode cX6_hopeOf 30 = .ok (.getfield 37, 3) := by decide +kernel
theorem dX6_hopeOf_33 : decode cX6_hopeOf 33 = .ok (.iload 6, 2) := by decide +kernel
theorem dX6_hopeOf_35 : decode cX6_hopeOf 35 = .ok (.aaload, 1) := by decide +kernel
theorem dX6_hopeOf_36 : decode cX6_hopeOf 36 = .ok (.aload_n 0, 1) := by decide +kernel
theorem dX6_hopeOf_37 : decode cX6_hopeOf 37 = .ok (.getfield 44, 3) := by decide +kernel
theorem dX6_hopeOf_40 : decode cX6_hopeOf 40 = .ok (.aload_n 0, 1) := by decide +kernel
theorem dX6_hopeOf_41 : decode cX6_hopeOf 41 = .ok (.getfield 37, 3) := by decide +kernel
theorem dX6_hopeOf_44 : decode cX6_hopeOf 44 = .ok (.iload 6, 2) := by decide +kernel
theorem dX6_hopeOf_46 : decode cX6_hopeOf 46 = .ok (.aaload, 1) := by decide +kernel
theorem dX6_hopeOf_47 : decode cX6_hopeOf 47 = .ok (.getfield 118, 3) := by decide +kernel
theorem dX6_hopeOf_50 : decode cX6_hopeOf 50 = .ok (.invokestatic 119, 3) := by decide +kernel
theorem dX6_hopeOf_53 : decode cX6_hopeOf 53 = .ok (.aload_n 0, 1) := by decide +kernel
theorem dX6_hopeOf_54 : decode cX6_hopeOf 54 = .ok (.getfield 44, 3) := by decide +kernel
theorem dX6_hopeOf_57 : decode cX6_hopeOf 57 = .ok (.iconst 5, 1) := by decide +kernel
theorem dX6_hopeOf_58 : decode cX6_hopeOf 58 = .ok (.iaload, 1) := by decide +kernel
theorem dX6_hopeOf_59 : decode cX6_hopeOf 59 = .ok (.invokevirtual 123, 3) := by decide +kernel
theorem dX6_hopeOf_62 : decode cX6_hopeOf 62 = .ok (.iadd, 1) := by decide +kernel
theorem dX6_hopeOf_63 : decode cX6_hopeOf 63 = .ok (.istore 4, 2) := by decide +kernel
theorem dX6_hopeOf_65 : decode cX6_hopeOf 65 = .ok (.iload 5, 2) := by decide +kernel
theorem dX6_hopeOf_67 : decode cX6_hopeOf 67 = .ok (.aload_n 0, 1) := by decide +kernel
theorem dX6_hopeOf_68 : decode cX6_hopeOf 68 = .ok (.aload_n 0, 1) := by decide +kernel
theorem dX6_hopeOf_69 : decode cX6_hopeOf 69 = .ok (.getfield 54, 3) := by decide +kernel
theorem dX6_hopeOf_72 : decode cX6_hopeOf 72 = .ok (.iload 6, 2) := by decide +kernel
theorem dX6_hopeOf_74 : decode cX6_hopeOf 74 = .ok (.iload_n 1, 1) := by decide +kernel
theorem dX6_hopeOf_75 : decode cX6_hopeOf 75 = .ok (.invokevirtual 114, 3) := by decide +kernel
theorem dX6_hopeOf_78 : decode cX6_hopeOf 78 = .ok (.iadd, 1) := by decide +kernel
theorem dX6_hopeOf_79 : decode cX6_hopeOf 79 = .ok (.istore 5, 2) := by decide +kernel
theorem dX6_hopeOf_81 : decode cX6_hopeOf 81 = .ok (.iinc 6 1, 3) := by decide +kernel
theorem dX6_hopeOf_84 : decode cX6_hopeOf 84 = .ok (.goto (-75), 3) := by decide +kernel
theorem dX6_hopeOf_87 : decode cX6_hopeOf 87 = .ok (.aload_n 0, 1) := by decide +kernel
theorem dX6_hopeOf_88 : decode cX6_hopeOf 88 = .ok (.getfield 47, 3) := by decide +kernel
theorem dX6_hopeOf_91 : decode cX6_hopeOf 91 = .ok (.ifCond .ne 9, 3) := by decide +kernel
theorem dX6_hopeOf_94 : decode cX6_hopeOf 94 = .ok (.iload 4, 2) := by decide +kernel
theorem dX6_hopeOf_96 : decode cX6_hopeOf 96 = .ok (.ineg, 1) := by decide +kernel
theorem dX6_hopeOf_97 : decode cX6_hopeOf 97 = .ok (.goto 5, 3) := by decide +kernel
theorem dX6_hopeOf_100 : decode cX6_hopeOf 100 = .ok (.iload 5, 2) := by decide +kernel
theorem dX6_hopeOf_102 : decode cX6_hopeOf 102 = .ok (.ireturn, 1) := by decide +kernel
theorem dX6_worth_0 : decode cX6_worth 0 = .ok (.iconst 0, 1) := by decide +kernel
theorem dX6_worth_1 : decode cX6_worth 1 = .ok (.iload_n 3, 1) := by decide +kernel
theorem dX6_worth_2 : decode cX6_worth 2 = .ok (.aload_n 0, 1) := by decide +kernel
theorem dX6_worth_3 : decode cX6_worth 3 = .ok (.getfield 32, 3) := by decide +kernel
theorem dX6_worth_6 : decode cX6_worth 6 = .ok (.iload_n 2, 1) := by decide +kernel
theorem dX6_worth_7 : decode cX6_worth 7 = .ok (.iaload, 1) := by decide +kernel
theorem dX6_worth_8 : decode cX6_worth 8 = .ok (.isub, 1) := by decide +kernel
theorem dX6_worth_9 : decode cX6_worth 9 = .ok (.invokestatic 90, 3) := by decide +kernel
theorem dX6_worth_12 : decode cX6_worth 12 = .ok (.istore 4, 2) := by decide +kernel
theorem dX6_worth_14 : decode cX6_worth 14 = .ok (.iload_n 2, 1) := by decide +kernel
theorem dX6_worth_15 : decode cX6_worth 15 = .ok (.bipush 108, 2) := by decide +kernel
theorem dX6_worth_17 : decode cX6_worth 17 = .ok (.imul, 1) := by decide +kernel
theorem dX6_worth_18 : decode cX6_worth 18 = .ok (.iload 4, 2) := by decide +kernel
theorem dX6_worth_20 : decode cX6_worth 20 = .ok (.iadd, 1) := by decide +kernel
theorem dX6_worth_21 : decode cX6_worth 21 = .ok (.istore 5, 2) := by decide +kernel
theorem dX6_worth_23 : decode cX6_worth 23 = .ok (.iload 4, 2) := by decide +kernel
theorem dX6_worth_25 : decode cX6_worth 25 = .ok (.bipush 108, 2) := by decide +kernel
theorem dX6_worth_27 : decode cX6_worth 27 = .ok (.if_icmp .ge 10, 3) := by decide +kernel
theorem dX6_worth_30 : decode cX6_worth 30 = .ok (.iload 5, 2) := by decide +kernel
theorem dX6_worth_32 : decode cX6_worth 32 = .ok (.aload_n 1, 1) := by decide +kernel
theorem dX6_worth_33 : decode cX6_worth 33 = .ok (.arraylength, 1) := by decide +kernel
theorem dX6_worth_34 : decode cX6_worth 34 = .ok (.if_icmp .lt 7, 3) := by decide +kernel
theorem dX6_worth_37 : decode cX6_worth 37 = .ok (.iconst 0, 1) := by decide +kernel
theorem dX6_worth_38 : decode cX6_worth 38 = .ok (.goto 7, 3) := by decide +kernel
theorem dX6_worth_41 : decode cX6_worth 41 = .ok (.aload_n 1, 1) := by decide +kernel
theorem dX6_worth_42 : decode cX6_worth 42 = .ok (.iload 5, 2) := by decide +kernel
theorem dX6_worth_44 : decode cX6_worth 44 = .ok (.iaload, 1) := by decide +kernel
theorem dX6_worth_45 : decode cX6_worth 45 = .ok (.ireturn, 1) := by decide +kernel
theorem dX7_init_0 : decode cX7_init 0 = .ok (.aload_n 0, 1) := by decide +kernel
theorem dX7_init_1 : decode cX7_init 1 = .ok (.invokespecial 3, 3) := by decide +kernel
theorem dX7_init_4 : decode cX7_init 4 = .ok (.aload_n 0, 1) := by decide +kernel
theorem dX7_init_5 : decode cX7_init 5 = .ok (.iconst (-1), 1) := by decide +kernel
theorem dX7_init_6 : decode cX7_init 6 = .ok (.putfield 11, 3) := by decide +kernel
theorem dX7_init_9 : decode cX7_init 9 = .ok (.aload_n 0, 1) := by decide +kernel
theorem dX7_init_10 : decode cX7_init 10 = .ok (.iconst 0, 1) := by decide +kernel
theorem dX7_init_11 : decode cX7_init 11 = .ok (.putfield 15, 3) := by decide +kernel
theorem dX7_init_14 : decode cX7_init 14 = .ok (.aload_n 0, 1) := by decide +kernel
theorem dX7_init_15 : decode cX7_init 15 = .ok (.bipush 40, 2) := by decide +kernel
theorem dX7_init_17 : decode cX7_init 17 = .ok (.newarray .int, 2) := by decide +kernel
theorem dX7_init_19 : decode cX7_init 19 = .ok (.putfield 18, 3) := by decide +kernel
theorem dX7_init_22 : decode cX7_init 22 = .ok (.return_, 1) := by decide +kernel
theorem dX7_isMissing_0 : decode cX7_isMissing 0 = .ok (.aload_n 0, 1) := by decide +kernel
theorem dX7_isMissing_1 : decode cX7_isMissing 1 = .ok (.getfield 11, 3) := by decide +kernel
theorem dX7_isMissing_4 : decode cX7_isMissing 4 = .ok (.iconst (-1), 1) := by decide +kernel
theorem dX7_isMissing_5 : decode cX7_isMissing 5 = .ok (.if_icmp .ne 7, 3) := by decide +kernel
theorem dX7_isMissing_8 : decode cX7_isMissing 8 = .ok (.iconst 1, 1) := by decide +kernel
theorem dX7_isMissing_9 : decode cX7_isMissing 9 = .ok (.goto 4, 3) := by decide +kernel
theorem dX7_isMissing_12 : decode cX7_isMissing 12 = .ok (.iconst 0, 1) := by decide +kernel
theorem dX7_isMissing_13 : decode cX7_isMissing 13 = .ok (.ireturn, 1) := by decide +kernel
theorem dX7_become_0 : decode cX7_become 0 = .ok (.aload_n 0, 1) := by decide +kernel
theorem dX7_become_1 : decode cX7_become 1 = .ok (.iload_n 1, 1) := by decide +kernel
theorem dX7_become_2 : decode cX7_become 2 = .ok (.putfield 11, 3) := by decide +kernel
theorem dX7_become_5 : decode cX7_become 5 = .ok (.aload_n 0, 1) := by decide +kernel
theorem dX7_become_6 : decode cX7_become 6 = .ok (.iload_n 2, 1) := by decide +kernel
theorem dX7_become_7 : decode cX7_become 7 = .ok (.putfield 15, 3) := by decide +kernel
theorem dX7_become_10 : decode cX7_become 10 = .ok (.aload_n 0, 1) := by decide +kernel
theorem dX7_become_11 : decode cX7_become 11 = .ok (.getfield 18, 3) := by decide +kernel
theorem dX7_become_14 : decode cX7_become 14 = .ok (.iconst 0, 1) := by decide +kernel
theorem dX7_become_15 : decode cX7_become 15 = .ok (.invokestatic 22, 3) := by decide +kernel
theorem dX7_become_18 : decode cX7_become 18 = .ok (.return_, 1) := by decide +kernel
theorem dX7_has_0 : decode cX7_has 0 = .ok (.iload_n 1, 1) := by decide +kernel
theorem dX7_has_1 : decode cX7_has 1 = .ok (.ifCond .lt 29, 3) := by decide +kernel
theorem dX7_has_4 : decode cX7_has 4 = .ok (.iload_n 2, 1) := by decide +kernel
theorem dX7_has_5 : decode cX7_has 5 = .ok (.ifCond .lt 25, 3) := by decide +kernel
theorem dX7_has_8 : decode cX7_has 8 = .ok (.iload_n 2, 1) := by decide +kernel
theorem dX7_has_9 : decode cX7_has 9 = .ok (.aload_n 0, 1) := by decide +kernel
theorem dX7_has_10 : decode cX7_has 10 = .ok (.getfield 15, 3) := by decide +kernel
theorem dX7_has_13 : decode cX7_has 13 = .ok (.if_icmp .gt 17, 3) := by decide +kernel
theorem dX7_has_16 : decode cX7_has 16 = .ok (.iload_n 1, 1) := by decide +kernel
theorem dX7_has_17 : decode cX7_has 17 = .ok (.aload_n 0, 1) := by decide +kernel
theorem dX7_has_18 : decode cX7_has 18 = .ok (.getfield 15, 3) := by decide +kernel
theorem dX7_has_21 : decode cX7_has 21 = .ok (.iload_n 2, 1) := by decide +kernel
theorem dX7_has_22 : decode cX7_has 22 = .ok (.isub, 1) := by decide +kernel
theorem dX7_has_23 : decode cX7_has 23 = .ok (.if_icmp .gt 7, 3) := by decide +kernel
theorem dX7_has_26 : decode cX7_has 26 = .ok (.iconst 1, 1) := by decide +kernel
theorem dX7_has_27 : decode cX7_has 27 = .ok (.goto 4, 3) := by decide +kernel
theorem dX7_has_30 : decode cX7_has 30 = .ok (.iconst 0, 1) := by decide +kernel
theorem dX7_has_31 : decode cX7_has 31 = .ok (.ireturn, 1) := by decide +kernel
theorem dX7_item_0 : decode cX7_item 0 = .ok (.aload_n 0, 1) := by decide +kernel
theorem dX7_item_1 : decode cX7_item 1 = .ok (.iload_n 1, 1) := by decide +kernel
theorem dX7_item_2 : decode cX7_item 2 = .ok (.iconst 1, 1) := by decide +kernel
theorem dX7_item_3 : decode cX7_item 3 = .ok (.invokevirtual 28, 3) := by decide +kernel
theorem dX7_item_6 : decode cX7_item 6 = .ok (.ifCond .eq 12, 3) := by decide +kernel
theorem dX7_item_9 : decode cX7_item 9 = .ok (.aload_n 0, 1) := by decide +kernel
theorem dX7_item_10 : decode cX7_item 10 = .ok (.getfield 18, 3) := by decide +kernel
theorem dX7_item_13 : decode cX7_item 13 = .ok (.iload_n 1, 1) := by decide +kernel
theorem dX7_item_14 : decode cX7_item 14 = .ok (.iaload, 1) := by decide +kernel
theorem dX7_item_15 : decode cX7_item 15 = .ok (.goto 4, 3) := by decide +kernel
theorem dX7_item_18 : decode cX7_item 18 = .ok (.iconst 0, 1) := by decide +kernel
theorem dX7_item_19 : decode cX7_item 19 = .ok (.ireturn, 1) := by decide +kernel
theorem dX7_put_0 : decode cX7_put 0 = .ok (.aload_n 0, 1) := by decide +kernel
theorem dX7_put_1 : decode cX7_put 1 = .ok (.iload_n 1, 1) := by decide +kernel
theorem dX7_put_2 : decode cX7_put 2 = .ok (.iconst 1, 1) := by decide +kernel
theorem dX7_put_3 : decode cX7_put 3 = .ok (.invokevirtual 28, 3) := by decide +kernel
theorem dX7_put_6 : decode cX7_put 6 = .ok (.ifCond .eq 35, 3) := by decide +kernel
theorem dX7_put_9 : decode cX7_put 9 = .ok (.aload_n 0, 1) := by decide +kernel
theorem dX7_put_10 : decode cX7_put 10 = .ok (.getfield 18, 3) := by decide +kernel
theorem dX7_put_13 : decode cX7_put 13 = .ok (.iload_n 1, 1) := by decide +kernel
theorem dX7_put_14 : decode cX7_put 14 = .ok (.aload_n 0, 1) := by decide +kernel
theorem dX7_put_15 : decode cX7_put 15 = .ok (.getfield 11, 3) := by decide +kernel
theorem dX7_put_18 : decode cX7_put 18 = .ok (.ifCond .ne 8, 3) := by decide +kernel
theorem dX7_put_21 : decode cX7_put 21 = .ok (.iload_n 2, 1) := by decide +kernel
theorem dX7_put_22 : decode cX7_put 22 = .ok (.i2b, 1) := by decide +kernel
theorem dX7_put_23 : decode cX7_put 23 = .ok (.goto 17, 3) := by decide +kernel
theorem dX7_put_26 : decode cX7_put 26 = .ok (.aload_n 0, 1) := by decide +kernel
theorem dX7_put_27 : decode cX7_put 27 = .ok (.getfield 11, 3) := by decide +kernel
theorem dX7_put_30 : decode cX7_put 30 = .ok (.iconst 1, 1) := by decide +kernel
theorem dX7_put_31 : decode cX7_put 31 = .ok (.if_icmp .ne 8, 3) := by decide +kernel
theorem dX7_put_34 : decode cX7_put 34 = .ok (.iload_n 2, 1) := by decide +kernel
theorem dX7_put_35 : decode cX7_put 35 = .ok (.i2s, 1) := by decide +kernel
theorem dX7_put_36 : decode cX7_put 36 = .ok (.goto 4, 3) := by decide +kernel
theorem dX7_put_39 : decode cX7_put 39 = .ok (.iload_n 2, 1) := by decide +kernel
theorem dX7_put_40 : decode cX7_put 40 = .ok (.iastore, 1) := by decide +kernel
theorem dX7_put_41 : decode cX7_put 41 = .ok (.return_, 1) := by decide +kernel
theorem dX8_init_0 : decode cX8_init 0 = .ok (.aload_n 0, 1) := by decide +kernel
theorem dX8_init_1 : decode cX8_init 1 = .ok (.iload_n 1, 1) := by decide +kernel
theorem dX8_init_2 : decode cX8_init 2 = .ok (.invokespecial 1, 3) := by decide +kernel
theorem dX8_init_5 : decode cX8_init 5 = .ok (.return_, 1) := by decide +kernel
theorem dX8_kind_0 : decode cX8_kind 0 = .ok (.iconst 5, 1) := by decide +kernel
theorem dX8_kind_1 : decode cX8_kind 1 = .ok (.ireturn, 1) := by decide +kernel
theorem dX8_takes_0 : decode cX8_takes 0 = .ok (.aload_n 0, 1) := by decide +kernel
theorem dX8_takes_1 : decode cX8_takes 1 = .ok (.iload_n 1, 1) := by decide +kernel
theorem dX8_takes_2 : decode cX8_takes 2 = .ok (.iload_n 2, 1) := by decide +kernel
theorem dX8_takes_3 : decode cX8_takes 3 = .ok (.invokespecial 7, 3) := by decide +kernel
theorem dX8_takes_6 : decode cX8_takes 6 = .ok (.iload_n 2, 1) := by decide +kernel
theorem dX8_takes_7 : decode cX8_takes 7 = .ok (.ifCond .le 7, 3) := by decide +kernel
theorem dX8_takes_10 : decode cX8_takes 10 = .ok (.iconst 1, 1) := by decide +kernel
theorem dX8_takes_11 : decode cX8_takes 11 = .ok (.goto 4, 3) := by decide +kernel
theorem dX8_takes_14 : decode cX8_takes 14 = .ok (.iconst 0, 1) := by decide +kernel
theorem dX8_takes_15 : decode cX8_takes 15 = .ok (.iadd, 1) := by decide +kernel
theorem dX8_takes_16 : decode cX8_takes 16 = .ok (.ireturn, 1) := by decide +kernel
theorem dX8_gives_0 : decode cX8_gives 0 = .ok (.aload_n 0, 1) := by decide +kernel
theorem dX8_gives_1 : decode cX8_gives 1 = .ok (.iload_n 1, 1) := by decide +kernel
theorem dX8_gives_2 : decode cX8_gives 2 = .ok (.iload_n 2, 1) := by decide +kernel
theorem dX8_gives_3 : decode cX8_gives 3 = .ok (.iload_n 3, 1) := by decide +kernel
theorem dX8_gives_4 : decode cX8_gives 4 = .ok (.invokespecial 11, 3) := by decide +kernel
theorem dX8_gives_7 : decode cX8_gives 7 = .ok (.iload_n 3, 1) := by decide +kernel
theorem dX8_gives_8 : decode cX8_gives 8 = .ok (.isub, 1) := by decide +kernel
theorem dX8_gives_9 : decode cX8_gives 9 = .ok (.ireturn, 1) := by decide +kernel
theorem dX9_init_0 : decode cX9_init 0 = .ok (.aload_n 0, 1) := by decide +kernel
theorem dX9_init_1 : decode cX9_init 1 = .ok (.iload_n 1, 1) := by decide +kernel
theorem dX9_init_2 : decode cX9_init 2 = .ok (.invokespecial 1, 3) := by decide +kernel
theorem dX9_init_5 : decode cX9_init 5 = .ok (.return_, 1) := by decide +kernel
theorem dX9_kind_0 : decode cX9_kind 0 = .ok (.iconst 3, 1) := by decide +kernel
theorem dX9_kind_1 : decode cX9_kind 1 = .ok (.ireturn, 1) := by decide +kernel
theorem dX9_takes_0 : decode cX9_takes 0 = .ok (.aload_n 0, 1) := by decide +kernel
theorem dX9_takes_1 : decode cX9_takes 1 = .ok (.iload_n 1, 1) := by decide +kernel
theorem dX9_takes_2 : decode cX9_takes 2 = .ok (.iload_n 2, 1) := by decide +kernel
theorem dX9_takes_3 : decode cX9_takes 3 = .ok (.invokespecial 7, 3) := by decide +kernel
theorem dX9_takes_6 : decode cX9_takes 6 = .ok (.iload_n 1, 1) := by decide +kernel
theorem dX9_takes_7 : decode cX9_takes 7 = .ok (.iadd, 1) := by decide +kernel
theorem dX9_takes_8 : decode cX9_takes 8 = .ok (.ireturn, 1) := by decide +kernel
theorem dX9_gives_0 : decode cX9_gives 0 = .ok (.aload_n 0, 1) := by decide +kernel
theorem dX9_gives_1 : decode cX9_gives 1 = .ok (.iload_n 1, 1) := by decide +kernel
theorem dX9_gives_2 : decode cX9_gives 2 = .ok (.iload_n 2, 1) := by decide +kernel
theorem dX9_gives_3 : decode cX9_gives 3 = .ok (.iload_n 3, 1) := by decide +kernel
theorem dX9_gives_4 : decode cX9_gives 4 = .ok (.invokespecial 11, 3) := by decide +kernel
theorem dX9_gives_7 : decode cX9_gives 7 = .ok (.aload_n 0, 1) := by decide +kernel
theorem dX9_gives_8 : decode cX9_gives 8 = .ok (.getfield 15, 3) := by decide +kernel
theorem dX9_gives_11 : decode cX9_gives 11 = .ok (.iadd, 1) := by decide +kernel
theorem dX9_gives_12 : decode cX9_gives 12 = .ok (.ireturn, 1) := by decide +kernel
theorem dX10_init_0 : decode cX10_init 0 = .ok (.aload_n 0, 1) := by decide +kernel
theorem dX10_init_1 : decode cX10_init 1 = .ok (.invokespecial 3, 3) := by decide +kernel
theorem dX10_init_4 : decode cX10_init 4 = .ok (.aload_n 0, 1) := by decide +kernel
theorem dX10_init_5 : decode cX10_init 5 = .ok (.iconst 0, 1) := by decide +kernel
theorem dX10_init_6 : decode cX10_init 6 = .ok (.putfield 9, 3) := by decide +kernel
theorem dX10_init_9 : decode cX10_init 9 = .ok (.aload_n 0, 1) := by decide +kernel
theorem dX10_init_10 : decode cX10_init 10 = .ok (.iconst 0, 1) := by decide +kernel
theorem dX10_init_11 : decode cX10_init 11 = .ok (.putfield 15, 3) := by decide +kernel
theorem dX10_init_14 : decode cX10_init 14 = .ok (.aload_n 0, 1) := by decide +kernel
theorem dX10_init_15 : decode cX10_init 15 = .ok (.iconst 0, 1) := by decide +kernel
theorem dX10_init_16 : decode cX10_init 16 = .ok (.putfield 18, 3) := by decide +kernel
theorem dX10_init_19 : decode cX10_init 19 = .ok (.aload_n 0, 1) := by decide +kernel
theorem dX10_init_20 : decode cX10_init 20 = .ok (.iconst 0, 1) := by decide +kernel
theorem dX10_init_21 : decode cX10_init 21 = .ok (.putfield 21, 3) := by decide +kernel
theorem dX10_init_24 : decode cX10_init 24 = .ok (.aload_n 0, 1) := by decide +kernel
theorem dX10_init_25 : decode cX10_init 25 = .ok (.iconst 0, 1) := by decide +kernel
theorem dX10_init_26 : decode cX10_init 26 = .ok (.putfield 24, 3) := by decide +kernel
theorem dX10_init_29 : decode cX10_init 29 = .ok (.aload_n 0, 1) := by decide +kernel
theorem dX10_init_30 : decode cX10_init 30 = .ok (.iconst 1, 1) := by decide +kernel
theorem dX10_init_31 : decode cX10_init 31 = .ok (.putfield 27, 3) := by decide +kernel
theorem dX10_init_34 : decode cX10_init 34 = .ok (.return_, 1) := by decide +kernel
theorem dX10_start_0 : decode cX10_start 0 = .ok (.aload_n 0, 1) := by decide +kernel
theorem dX10_start_1 : decode cX10_start 1 = .ok (.aload_n 1, 1) := by decide +kernel
theorem dX10_start_2 : decode cX10_start 2 = .ok (.iconst 2, 1) := by decide +kernel
theorem dX10_start_3 : decode cX10_start 3 = .ok (.iaload, 1) := by decide +kernel
theorem dX10_start_4 : decode cX10_start 4 = .ok (.putfield 9, 3) := by decide +kernel
theorem dX10_start_7 : decode cX10_start 7 = .ok (.aload_n 0, 1) := by decide +kernel
theorem dX10_start_8 : decode cX10_start 8 = .ok (.iconst 0, 1) := by decide +kernel
theorem dX10_start_9 : decode cX10_start 9 = .ok (.putfield 15, 3) := by decide +kernel
theorem dX10_start_12 : decode cX10_start 12 = .ok (.aload_n 0, 1) := by decide +kernel
theorem dX10_start_13 : decode cX10_start 13 = .ok (.iconst 0, 1) := by decide +kernel
theorem dX10_start_14 : decode cX10_start 14 = .ok (.putfield 21, 3) := by decide +kernel
theorem dX10_start_17 : decode cX10_start 17 = .ok (.aload_n 0, 1) := by decide +kernel
theorem dX10_start_18 : decode cX10_start 18 = .ok (.aload_n 1, 1) := by decide +kernel
theorem dX10_start_19 : decode cX10_start 19 = .ok (.invokevirtual 31, 3) := by decide +kernel
theorem dX10_start_22 : decode cX10_start 22 = .ok (.return_, 1) := by decide +kernel
theorem dX10_follow_0 : decode cX10_follow 0 = .ok (.aload_n 0, 1) := by decide +kernel
theorem dX10_follow_1 : decode cX10_follow 1 = .ok (.aload_n 1, 1) := by decide +kernel
theorem dX10_follow_2 : decode cX10_follow 2 = .ok (.getfield 9, 3) := by decide +kernel
theorem dX10_follow_5 : decode cX10_follow 5 = .ok (.putfield 9, 3) := by decide +kernel
theorem dX10_follow_8 : decode cX10_follow 8 = .ok (.aload_n 0, 1) := by decide +kernel
theorem dX10_follow_9 : decode cX10_follow 9 = .ok (.aload_n 1, 1) := by decide +kernel
theorem dX10_follow_10 : decode cX10_follow 10 = .ok (.getfield 15, 3) := by decide +kernel
theorem dX10_follow_13 : decode cX10_follow 13 = .ok (.putfield 15, 3) := by decide +kernel
theorem dX10_follow_16 : decode cX10_follow 16 = .ok (.aload_n 0, 1) := by decide +kernel
theorem dX10_follow_17 : decode cX10_follow 17 = .ok (.aload_n 1, 1) := by decide +kernel
theorem dX10_follow_18 : decode cX10_follow 18 = .ok (.getfield 18, 3) := by decide +kernel
theorem dX10_follow_21 : decode cX10_follow 21 = .ok (.putfield 18, 3) := by decide +kernel
theorem dX10_follow_24 : decode cX10_follow 24 = .ok (.aload_n 0, 1) := by decide +kernel
theorem dX10_follow_25 : decode cX10_follow 25 = .ok (.aload_n 1, 1) := by decide +kernel
theorem dX10_follow_26 : decode cX10_follow 26 = .ok (.getfield 21, 3) := by decide +kernel
theorem dX10_follow_29 : decode cX10_follow 29 = .ok (.putfield 21, 3) := by decide +kernel
theorem dX10_follow_32 : decode cX10_follow 32 = .ok (.aload_n 0, 1) := by decide +kernel
theorem dX10_follow_33 : decode cX10_follow 33 = .ok (.aload_n 1, 1) := by decide +kernel
theorem dX10_follow_34 : decode cX10_follow 34 = .ok (.getfield 24, 3) := by decide +kernel
theorem dX10_follow_37 : decode cX10_follow 37 = .ok (.putfield 24, 3) := by decide +kernel
theorem dX10_follow_40 : decode cX10_follow 40 = .ok (.aload_n 0, 1) := by decide +kernel
theorem dX10_follow_41 : decode cX10_follow 41 = .ok (.aload_n 1, 1) := by decide +kernel
theorem dX10_follow_42 : decode cX10_follow 42 = .ok (.getfield 27, 3) := by decide +kernel
theorem dX10_follow_45 : decode cX10_follow 45 = .ok (.putfield 27, 3) := by decide +kernel
theorem dX10_follow_48 : decode cX10_follow 48 = .ok (.return_, 1) := by decide +kernel
theorem dX10_visit_0 : decode cX10_visit 0 = .ok (.aload_n 2, 1) := by decide +kernel
theorem dX10_visit_1 : decode cX10_visit 1 = .ok (.aload_n 1, 1) := by decide +kernel
theorem dX10_visit_2 : decode cX10_visit 2 = .ok (.getfield 35, 3) := by decide +kernel
theorem dX10_visit_5 : decode cX10_visit 5 = .ok (.invokestatic 40, 3) := by decide +kernel
theorem dX10_visit_8 : decode cX10_visit 8 = .ok (.istore_n 3, 1) := by decide +kernel
theorem dX10_visit_9 : decode cX10_visit 9 = .ok (.aload_n 0, 1) := by decide +kernel
theorem dX10_visit_10 : decode cX10_visit 10 = .ok (.getfield 27, 3) := by decide +kernel
theorem dX10_visit_13 : decode cX10_visit 13 = .ok (.ifCond .ne 34, 3) := by decide +kernel
theorem dX10_visit_16 : decode cX10_visit 16 = .ok (.iload_n 3, 1) := by decide +kernel
theorem dX10_visit_17 : decode cX10_visit 17 = .ok (.aload_n 0, 1) := by decide +kernel
theorem dX10_visit_18 : decode cX10_visit 18 = .ok (.getfield 24, 3) := by decide +kernel
theorem dX10_visit_21 : decode cX10_visit 21 = .ok (.if_icmp .le 26, 3) := by decide +kernel
theorem dX10_visit_24 : decode cX10_visit 24 = .ok (.aload_n 0, 1) := by decide +kernel
theorem dX10_visit_25 : decode cX10_visit 25 = .ok (.aload_n 2, 1) := by decide +kernel
theorem dX10_visit_26 : decode cX10_visit 26 = .ok (.iconst 1, 1) := by decide +kernel
theorem dX10_visit_27 : decode cX10_visit 27 = .ok (.iaload, 1) := by decide +kernel
theorem dX10_visit_28 : decode cX10_visit 28 = .ok (.aload_n 2, 1) := by decide +kernel
theorem dX10_visit_29 : decode cX10_visit 29 = .ok (.invokevirtual 44, 3) := by decide +kernel
theorem dX10_visit_32 : decode cX10_visit 32 = .ok (.aload_n 0, 1) := by decide +kernel
theorem dX10_visit_33 : decode cX10_visit 33 = .ok (.dup, 1) := by decide +kernel
theorem dX10_visit_34 : decode cX10_visit 34 = .ok (.getfield 15, 3) := by decide +kernel
theorem dX10_visit_37 : decode cX10_visit 37 = .ok (.iconst 1, 1) := by decide +kernel
theorem dX10_visit_38 : decode cX10_visit 38 = .ok (.iadd, 1) := by decide +kernel
theorem dX10_visit_39 : decode cX10_visit 39 = .ok (.putfield 15, 3) := by decide +kernel
theorem dX10_visit_42 : decode cX10_visit 42 = .ok (.aload_n 0, 1) := by decide +kernel
theorem dX10_visit_43 : decode cX10_visit 43 = .ok (.aload_n 2, 1) := by decide +kernel
theorem dX10_visit_44 : decode cX10_visit 44 = .ok (.invokevirtual 31, 3) := by decide +kernel
theorem dX10_visit_47 : decode cX10_visit 47 = .ok (.aload_n 0, 1) := by decide +kernel
theorem dX10_visit_48 : decode cX10_visit 48 = .ok (.dup, 1) := by decide +kernel
theorem dX10_visit_49 : decode cX10_visit 49 = .ok (.getfield 24, 3) := by decide +kernel
theorem dX10_visit_52 : decode cX10_visit 52 = .ok (.iload_n 3, 1) := by decide +kernel
theorem dX10_visit_53 : decode cX10_visit 53 = .ok (.isub, 1) := by decide +kernel
theorem dX10_visit_54 : decode cX10_visit 54 = .ok (.putfield 24, 3) := by decide +kernel
theorem dX10_visit_57 : decode cX10_visit 57 = .ok (.aload_n 0, 1) := by decide +kernel
theorem dX10_visit_58 : decode cX10_visit 58 = .ok (.iconst 0, 1) := by decide +kernel
theorem dX10_visit_59 : decode cX10_visit 59 = .ok (.putfield 27, 3) := by decide +kernel
theorem dX10_visit_62 : decode cX10_visit 62 = .ok (.aload_n 0, 1) := by decide +kernel
theorem dX10_visit_63 : decode cX10_visit 63 = .ok (.aload_n 1, 1) := by decide +kernel
theorem dX10_visit_64 : decode cX10_visit 64 = .ok (.getfield 48, 3) := by decide +kernel
theorem dX10_visit_67 : decode cX10_visit 67 = .ok (.aload_n 2, 1) := by decide +kernel
theorem dX10_visit_68 : decode cX10_visit 68 = .ok (.invokevirtual 44, 3) := by decide +kernel
theorem dX10_visit_71 : decode cX10_visit 71 = .ok (.aload_n 0, 1) := by decide +kernel
theorem dX10_visit_72 : decode cX10_visit 72 = .ok (.getfield 21, 3) := by decide +kernel
theorem dX10_visit_75 : decode cX10_visit 75 = .ok (.aload_n 1, 1) := by decide +kernel
theorem dX10_visit_76 : decode cX10_visit 76 = .ok (.getfield 49, 3) := by decide +kernel
theorem dX10_visit_79 : decode cX10_visit 79 = .ok (.if_icmp .eq 23, 3) := by decide +kernel
theorem dX10_visit_82 : decode cX10_visit 82 = .ok (.aload_n 0, 1) := by decide +kernel
theorem dX10_visit_83 : decode cX10_visit 83 = .ok (.dup, 1) := by decide +kernel
theorem dX10_visit_84 : decode cX10_visit 84 = .ok (.getfield 9, 3) := by decide +kernel
theorem dX10_visit_87 : decode cX10_visit 87 = .ok (.aload_n 2, 1) := by decide +kernel
theorem dX10_visit_88 : decode cX10_visit 88 = .ok (.iconst 4, 1) := by decide +kernel
theorem dX10_visit_89 : decode cX10_visit 89 = .ok (.iaload, 1) := by decide +kernel
theorem dX10_visit_90 : decode cX10_visit 90 = .ok (.iadd, 1) := by decide +kernel
theorem dX10_visit_91 : decode cX10_visit 91 = .ok (.putfield 9, 3) := by decide +kernel
theorem dX10_visit_94 : decode cX10_visit 94 = .ok (.aload_n 0, 1) := by decide +kernel
theorem dX10_visit_95 : decode cX10_visit 95 = .ok (.aload_n 1, 1) := by decide +kernel
theorem dX10_visit_96 : decode cX10_visit 96 = .ok (.getfield 49, 3) := by decide +kernel
theorem dX10_visit_99 : decode cX10_visit 99 = .ok (.putfield 21, 3) := by decide +kernel
theorem dX10_visit_102 : decode cX10_visit 102 = .ok (.aload_n 0, 1) := by decide +kernel
theorem dX10_visit_103 : decode cX10_visit 103 = .ok (.getfield 9, 3) := by decide +kernel
theorem dX10_visit_106 : decode cX10_visit 106 = .ok (.istore 4, 2) := by decide +kernel
theorem dX10_visit_108 : decode cX10_visit 108 = .ok (.aload_n 0, 1) := by decide +kernel
theorem dX10_visit_109 : decode cX10_visit 109 = .ok (.dup, 1) := by decide +kernel
theorem dX10_visit_110 : decode cX10_visit 110 = .ok (.getfield 9, 3) := by decide +kernel
theorem dX10_visit_113 : decode cX10_visit 113 = .ok (.aload_n 1, 1) := by decide +kernel
theorem dX10_visit_114 : decode cX10_visit 114 = .ok (.iload_n 3, 1) := by decide +kernel
theorem dX10_visit_115 : decode cX10_visit 115 = .ok (.aload_n 2, 1) := by decide +kernel
theorem dX10_visit_116 : decode cX10_visit 116 = .ok (.iconst 5, 1) := by decide +kernel
theorem dX10_visit_117 : decode cX10_visit 117 = .ok (.iaload, 1) := by decide +kernel
theorem dX10_visit_118 : decode cX10_visit 118 = .ok (.invokevirtual 50, 3) := by decide +kernel
theorem dX10_visit_121 : decode cX10_visit 121 = .ok (.iadd, 1) := by decide +kernel
theorem dX10_visit_122 : decode cX10_visit 122 = .ok (.putfield 9, 3) := by decide +kernel
theorem dX10_visit_125 : decode cX10_visit 125 = .ok (.iload 4, 2) := by decide +kernel
theorem dX10_visit_127 : decode cX10_visit 127 = .ok (.ireturn, 1) := by decide +kernel
theorem dX10_fill_0 : decode cX10_fill 0 = .ok (.aload_n 0, 1) := by decide +kernel
theorem dX10_fill_1 : decode cX10_fill 1 = .ok (.aload_n 1, 1) := by decide +kernel
theorem dX10_fill_2 : decode cX10_fill 2 = .ok (.iconst 1, 1) := by decide +kernel
theorem dX10_fill_3 : decode cX10_fill 3 = .ok (.iaload, 1) := by decide +kernel
theorem dX10_fill_4 : decode cX10_fill 4 = .ok (.putfield 18, 3) := by decide +kernel
theorem dX10_fill_7 : decode cX10_fill 7 = .ok (.aload_n 0, 1) := by decide +kernel
theorem dX10_fill_8 : decode cX10_fill 8 = .ok (.aload_n 1, 1) := by decide +kernel
theorem dX10_fill_9 : decode cX10_fill 9 = .ok (.iconst 0, 1) := by decide +kernel
theorem dX10_fill_10 : decode cX10_fill 10 = .ok (.iaload, 1) := by decide +kernel
theorem dX10_fill_11 : decode cX10_fill 11 = .ok (.putfield 24, 3) := by decide +kernel
theorem dX10_fill_14 : decode cX10_fill 14 = .ok (.aload_n 0, 1) := by decide +kernel
theorem dX10_fill_15 : decode cX10_fill 15 = .ok (.iconst 1, 1) := by decide +kernel
theorem dX10_fill_16 : decode cX10_fill 16 = .ok (.putfield 27, 3) := by decide +kernel
theorem dX10_fill_19 : decode cX10_fill 19 = .ok (.return_, 1) := by decide +kernel
theorem dX10_go_0 : decode cX10_go 0 = .ok (.iload_n 1, 1) := by decide +kernel
theorem dX10_go_1 : decode cX10_go 1 = .ok (.aload_n 0, 1) := by decide +kernel
theorem dX10_go_2 : decode cX10_go 2 = .ok (.getfield 18, 3) := by decide +kernel
theorem dX10_go_5 : decode cX10_go 5 = .ok (.isub, 1) := by decide +kernel
theorem dX10_go_6 : decode cX10_go 6 = .ok (.invokestatic 54, 3) := by decide +kernel
theorem dX10_go_9 : decode cX10_go 9 = .ok (.istore_n 3, 1) := by decide +kernel
theorem dX10_go_10 : decode cX10_go 10 = .ok (.iconst 1, 1) := by decide +kernel
theorem dX10_go_11 : decode cX10_go 11 = .ok (.aload_n 2, 1) := by decide +kernel
theorem dX10_go_12 : decode cX10_go 12 = .ok (.iconst 3, 1) := by decide +kernel
theorem dX10_go_13 : decode cX10_go 13 = .ok (.iaload, 1) := by decide +kernel
theorem dX10_go_14 : decode cX10_go 14 = .ok (.invokestatic 60, 3) := by decide +kernel
theorem dX10_go_17 : decode cX10_go 17 = .ok (.istore 4, 2) := by decide +kernel
theorem dX10_go_19 : decode cX10_go 19 = .ok (.aload_n 0, 1) := by decide +kernel
theorem dX10_go_20 : decode cX10_go 20 = .ok (.dup, 1) := by decide +kernel
theorem dX10_go_21 : decode cX10_go 21 = .ok (.getfield 9, 3) := by decide +kernel
theorem dX10_go_24 : decode cX10_go 24 = .ok (.iload_n 3, 1) := by decide +kernel
theorem dX10_go_25 : decode cX10_go 25 = .ok (.iload 4, 2) := by decide +kernel
theorem dX10_go_27 : decode cX10_go 27 = .ok (.iadd, 1) := by decide +kernel
theorem dX10_go_28 : decode cX10_go 28 = .ok (.iconst 1, 1) := by decide +kernel
theorem dX10_go_29 : decode cX10_go 29 = .ok (.isub, 1) := by decide +kernel
theorem dX10_go_30 : decode cX10_go 30 = .ok (.iload 4, 2) := by decide +kernel
theorem dX10_go_32 : decode cX10_go 32 = .ok (.idiv, 1) := by decide +kernel
theorem dX10_go_33 : decode cX10_go 33 = .ok (.iadd, 1) := by decide +kernel
theorem dX10_go_34 : decode cX10_go 34 = .ok (.putfield 9, 3) := by decide +kernel
theorem dX10_go_37 : decode cX10_go 37 = .ok (.aload_n 0, 1) := by decide +kernel
theorem dX10_go_38 : decode cX10_go 38 = .ok (.iload_n 1, 1) := by decide +kernel
theorem dX10_go_39 : decode cX10_go 39 = .ok (.putfield 18, 3) := by decide +kernel
theorem dX10_go_42 : decode cX10_go 42 = .ok (.return_, 1) := by decide +kernel
theorem dJ9_abs_0f7a4_0 : decode cJ9_abs_0f7a4 0 = .ok (.iload_n 0, 1) := by decide +kernel
theorem dJ9_abs_0f7a4_1 : decode cJ9_abs_0f7a4 1 = .ok (.ifCond .ge 8, 3) := by decide +kernel
theorem dJ9_abs_0f7a4_4 : decode cJ9_abs_0f7a4 4 = .ok (.iload_n 0, 1) := by decide +kernel
theorem dJ9_abs_0f7a4_5 : decode cJ9_abs_0f7a4 5 = .ok (.ineg, 1) := by decide +kernel
theorem dJ9_abs_0f7a4_6 : decode cJ9_abs_0f7a4 6 = .ok (.goto 4, 3) := by decide +kernel
theorem dJ9_abs_0f7a4_9 : decode cJ9_abs_0f7a4 9 = .ok (.iload_n 0, 1) := by decide +kernel
theorem dJ9_abs_0f7a4_10 : decode cJ9_abs_0f7a4 10 = .ok (.ireturn, 1) := by decide +kernel
theorem dJ9_max_7cf53_0 : decode cJ9_max_7cf53 0 = .ok (.iload_n 0, 1) := by decide +kernel
theorem dJ9_max_7cf53_1 : decode cJ9_max_7cf53 1 = .ok (.iload_n 1, 1) := by decide +kernel
theorem dJ9_max_7cf53_2 : decode cJ9_max_7cf53 2 = .ok (.if_icmp .lt 7, 3) := by decide +kernel
theorem dJ9_max_7cf53_5 : decode cJ9_max_7cf53 5 = .ok (.iload_n 0, 1) := by decide +kernel
theorem dJ9_max_7cf53_6 : decode cJ9_max_7cf53 6 = .ok (.goto 4, 3) := by decide +kernel
theorem dJ9_max_7cf53_9 : decode cJ9_max_7cf53 9 = .ok (.iload_n 1, 1) := by decide +kernel
theorem dJ9_max_7cf53_10 : decode cJ9_max_7cf53 10 = .ok (.ireturn, 1) := by decide +kernel
theorem dJ9_min_7cf53_0 : decode cJ9_min_7cf53 0 = .ok (.iload_n 0, 1) := by decide +kernel
theorem dJ9_min_7cf53_1 : decode cJ9_min_7cf53 1 = .ok (.iload_n 1, 1) := by decide +kernel
theorem dJ9_min_7cf53_2 : decode cJ9_min_7cf53 2 = .ok (.if_icmp .gt 7, 3) := by decide +kernel
theorem dJ9_min_7cf53_5 : decode cJ9_min_7cf53 5 = .ok (.iload_n 0, 1) := by decide +kernel
theorem dJ9_min_7cf53_6 : decode cJ9_min_7cf53 6 = .ok (.goto 4, 3) := by decide +kernel
theorem dJ9_min_7cf53_9 : decode cJ9_min_7cf53 9 = .ok (.iload_n 1, 1) := by decide +kernel
theorem dJ9_min_7cf53_10 : decode cJ9_min_7cf53 10 = .ok (.ireturn, 1) := by decide +kernel
theorem dJ0_length_8abf5_0 : decode cJ0_length_8abf5 0 = .ok (.aload_n 0, 1) := by decide +kernel
theorem dJ0_length_8abf5_1 : decode cJ0_length_8abf5 1 = .ok (.getfield 9, 3) := by decide +kernel
theorem dJ0_length_8abf5_4 : decode cJ0_length_8abf5 4 = .ok (.arraylength, 1) := by decide +kernel
theorem dJ0_length_8abf5_5 : decode cJ0_length_8abf5 5 = .ok (.aload_n 0, 1) := by decide +kernel
theorem dJ0_length_8abf5_6 : decode cJ0_length_8abf5 6 = .ok (.invokevirtual 335, 3) := by decide +kernel
theorem dJ0_length_8abf5_9 : decode cJ0_length_8abf5 9 = .ok (.ishr, 1) := by decide +kernel
theorem dJ0_length_8abf5_10 : decode cJ0_length_8abf5 10 = .ok (.ireturn, 1) := by decide +kernel
theorem dJ0_charAt_5068e_0 : decode cJ0_charAt_5068e 0 = .ok (.aload_n 0, 1) := by decide +kernel
theorem dJ0_charAt_5068e_1 : decode cJ0_charAt_5068e 1 = .ok (.invokevirtual 492, 3) := by decide +kernel
theorem dJ0_charAt_5068e_4 : decode cJ0_charAt_5068e 4 = .ok (.ifCond .eq 12, 3) := by decide +kernel
theorem dJ0_charAt_5068e_7 : decode cJ0_charAt_5068e 7 = .ok (.aload_n 0, 1) := by decide +kernel
theorem dJ0_charAt_5068e_8 : decode cJ0_charAt_5068e 8 = .ok (.getfield 9, 3) := by decide +kernel
theorem dJ0_charAt_5068e_11 : decode cJ0_charAt_5068e 11 = .ok (.iload_n 1, 1) := by decide +kernel
theorem dJ0_charAt_5068e_12 : decode cJ0_charAt_5068e 12 = .ok (.invokestatic 495, 3) := by decide +kernel
theorem dJ0_charAt_5068e_15 : decode cJ0_charAt_5068e 15 = .ok (.ireturn, 1) := by decide +kernel
theorem dJ0_charAt_5068e_16 : decode cJ0_charAt_5068e 16 = .ok (.aload_n 0, 1) := by decide +kernel
theorem dJ0_charAt_5068e_17 : decode cJ0_charAt_5068e 17 = .ok (.getfield 9, 3) := by decide +kernel
theorem dJ0_charAt_5068e_20 : decode cJ0_charAt_5068e 20 = .ok (.iload_n 1, 1) := by decide +kernel
theorem dJ0_charAt_5068e_21 : decode cJ0_charAt_5068e 21 = .ok (.invokestatic 498, 3) := by decide +kernel
theorem dJ0_charAt_5068e_24 : decode cJ0_charAt_5068e 24 = .ok (.ireturn, 1) := by decide +kernel
theorem dJ0_coder_7d493_0 : decode cJ0_coder_7d493 0 = .ok (.getstatic 38, 3) := by decide +kernel
theorem dJ0_coder_7d493_3 : decode cJ0_coder_7d493 3 = .ok (.ifCond .eq 10, 3) := by decide +kernel
theorem dJ0_coder_7d493_6 : decode cJ0_coder_7d493 6 = .ok (.aload_n 0, 1) := by decide +kernel
theorem dJ0_coder_7d493_7 : decode cJ0_coder_7d493 7 = .ok (.getfield 15, 3) := by decide +kernel
theorem dJ0_coder_7d493_10 : decode cJ0_coder_7d493 10 = .ok (.goto 4, 3) := by decide +kernel
theorem dJ0_coder_7d493_13 : decode cJ0_coder_7d493 13 = .ok (.iconst 1, 1) := by decide +kernel
theorem dJ0_coder_7d493_14 : decode cJ0_coder_7d493 14 = .ok (.ireturn, 1) := by decide +kernel
theorem dJ0_isLatin1_aae02_0 : decode cJ0_isLatin1_aae02 0 = .ok (.getstatic 38, 3) := by decide +kernel
theorem dJ0_isLatin1_aae02_3 : decode cJ0_isLatin1_aae02 3 = .ok (.ifCond .eq 14, 3) := by decide +kernel
theorem dJ0_isLatin1_aae02_6 : decode cJ0_isLatin1_aae02 6 = .ok (.aload_n 0, 1) := by decide +kernel
theorem dJ0_isLatin1_aae02_7 : decode cJ0_isLatin1_aae02 7 = .ok (.getfield 15, 3) := by decide +kernel
theorem dJ0_isLatin1_aae02_10 : decode cJ0_isLatin1_aae02 10 = .ok (.ifCond .ne 7, 3) := by decide +kernel
theorem dJ0_isLatin1_aae02_13 : decode cJ0_isLatin1_aae02 13 = .ok (.iconst 1, 1) := by decide +kernel
theorem dJ0_isLatin1_aae02_14 : decode cJ0_isLatin1_aae02 14 = .ok (.goto 4, 3) := by decide +kernel
theorem dJ0_isLatin1_aae02_17 : decode cJ0_isLatin1_aae02 17 = .ok (.iconst 0, 1) := by decide +kernel
theorem dJ0_isLatin1_aae02_18 : decode cJ0_isLatin1_aae02 18 = .ok (.ireturn, 1) := by decide +kernel
theorem dJ0_checkIndex_df160_0 : decode cJ0_checkIndex_df160 0 = .ok (.iload_n 0, 1) := by decide +kernel
theorem dJ0_checkIndex_df160_1 : decode cJ0_checkIndex_df160 1 = .ok (.iload_n 1, 1) := by decide +kernel
theorem dJ0_checkIndex_df160_2 : decode cJ0_checkIndex_df160 2 = .ok (.getstatic 1053, 3) := by decide +kernel
theorem dJ0_checkIndex_df160_5 : decode cJ0_checkIndex_df160 5 = .ok (.invokestatic 1059, 3) := by decide +kernel
theorem dJ0_checkIndex_df160_8 : decode cJ0_checkIndex_df160 8 = .ok (.pop, 1) := by decide +kernel
theorem dJ0_checkIndex_df160_9 : decode cJ0_checkIndex_df160 9 = .ok (.return_, 1) := by decide +kernel
theorem dJ1_charAt_3b067_0 : decode cJ1_charAt_3b067 0 = .ok (.iload_n 1, 1) := by decide +kernel
theorem dJ1_charAt_3b067_1 : decode cJ1_charAt_3b067 1 = .ok (.aload_n 0, 1) := by decide +kernel
theorem dJ1_charAt_3b067_2 : decode cJ1_charAt_3b067 2 = .ok (.arraylength, 1) := by decide +kernel
theorem dJ1_charAt_3b067_3 : decode cJ1_charAt_3b067 3 = .ok (.invokestatic 9, 3) := by decide +kernel
theorem dJ1_charAt_3b067_6 : decode cJ1_charAt_3b067 6 = .ok (.aload_n 0, 1) := by decide +kernel
theorem dJ1_charAt_3b067_7 : decode cJ1_charAt_3b067 7 = .ok (.iload_n 1, 1) := by decide +kernel
theorem dJ1_charAt_3b067_8 : decode cJ1_charAt_3b067 8 = .ok (.baload, 1) := by decide +kernel
theorem dJ1_charAt_3b067_9 : decode cJ1_charAt_3b067 9 = .ok (.sipush 255, 3) := by decide +kernel
theorem dJ1_charAt_3b067_12 : decode cJ1_charAt_3b067 12 = .ok (.iand, 1) := by decide +kernel
theorem dJ1_charAt_3b067_13 : decode cJ1_charAt_3b067 13 = .ok (.i2c, 1) := by decide +kernel
theorem dJ1_charAt_3b067_14 : decode cJ1_charAt_3b067 14 = .ok (.ireturn, 1) := by decide +kernel
theorem dJ2_getChar_3b067_0 : decode cJ2_getChar_3b067 0 = .ok (.getstatic 44, 3) := by decide +kernel
theorem dJ2_getChar_3b067_3 : decode cJ2_getChar_3b067 3 = .ok (.ifCond .ne 25, 3) := by decide +kernel
theorem dJ2_getChar_3b067_6 : decode cJ2_getChar_3b067 6 = .ok (.iload_n 1, 1) := by decide +kernel
theorem dJ2_getChar_3b067_7 : decode cJ2_getChar_3b067 7 = .ok (.ifCond .lt 11, 3) := by decide +kernel
theorem dJ2_getChar_3b067_10 : decode cJ2_getChar_3b067 10 = .ok (.iload_n 1, 1) := by decide +kernel
theorem dJ2_getChar_3b067_11 : decode cJ2_getChar_3b067 11 = .ok (.aload_n 0, 1) := by decide +kernel
theorem dJ2_getChar_3b067_12 : decode cJ2_getChar_3b067 12 = .ok (.invokestatic 48, 3) := by decide +kernel
theorem dJ2_getChar_3b067_15 : decode cJ2_getChar_3b067 15 = .ok (.if_icmp .lt 13, 3) := by decide +kernel
theorem dJ2_getChar_3b067_18 : decode cJ2_getChar_3b067 18 = .ok (.new 52, 3) := by decide +kernel
theorem dJ2_getChar_3b067_21 : decode cJ2_getChar_3b067 21 = .ok (.dup, 1) := by decide +kernel
theorem dJ2_getChar_3b067_22 : decode cJ2_getChar_3b067 22 = .ok (.ldc 54, 2) := by decide +kernel
theorem dJ2_getChar_3b067_24 : decode cJ2_getChar_3b067 24 = .ok (.invokespecial 56, 3) := by decide +kernel
theorem dJ2_getChar_3b067_27 : decode cJ2_getChar_3b067 27 = .ok (.athrow, 1) := by decide +kernel
theorem dJ2_getChar_3b067_28 : decode cJ2_getChar_3b067 28 = .ok (.iload_n 1, 1) := by decide +kernel
theorem dJ2_getChar_3b067_29 : decode cJ2_getChar_3b067 29 = .ok (.iconst 1, 1) := by decide +kernel
theorem dJ2_getChar_3b067_30 : decode cJ2_getChar_3b067 30 = .ok (.ishl, 1) := by decide +kernel
theorem dJ2_getChar_3b067_31 : decode cJ2_getChar_3b067 31 = .ok (.istore_n 1, 1) := by decide +kernel
theorem dJ2_getChar_3b067_32 : decode cJ2_getChar_3b067 32 = .ok (.aload_n 0, 1) := by decide +kernel
theorem dJ2_getChar_3b067_33 : decode cJ2_getChar_3b067 33 = .ok (.iload_n 1, 1) := by decide +kernel
theorem dJ2_getChar_3b067_34 : decode cJ2_getChar_3b067 34 = .ok (.iinc 1 1, 3) := by decide +kernel
theorem dJ2_getChar_3b067_37 : decode cJ2_getChar_3b067 37 = .ok (.baload, 1) := by decide +kernel
theorem dJ2_getChar_3b067_38 : decode cJ2_getChar_3b067 38 = .ok (.sipush 255, 3) := by decide +kernel
theorem dJ2_getChar_3b067_41 : decode cJ2_getChar_3b067 41 = .ok (.iand, 1) := by decide +kernel
theorem dJ2_getChar_3b067_42 : decode cJ2_getChar_3b067 42 = .ok (.getstatic 59, 3) := by decide +kernel
theorem dJ2_getChar_3b067_45 : decode cJ2_getChar_3b067 45 = .ok (.ishl, 1) := by decide +kernel
theorem dJ2_getChar_3b067_46 : decode cJ2_getChar_3b067 46 = .ok (.aload_n 0, 1) := by decide +kernel
theorem dJ2_getChar_3b067_47 : decode cJ2_getChar_3b067 47 = .ok (.iload_n 1, 1) := by decide +kernel
theorem dJ2_getChar_3b067_48 : decode cJ2_getChar_3b067 48 = .ok (.baload, 1) := by decide +kernel
theorem dJ2_getChar_3b067_49 : decode cJ2_getChar_3b067 49 = .ok (.sipush 255, 3) := by decide +kernel
theorem dJ2_getChar_3b067_52 : decode cJ2_getChar_3b067 52 = .ok (.iand, 1) := by decide +kernel
theorem dJ2_getChar_3b067_53 : decode cJ2_getChar_3b067 53 = .ok (.getstatic 63, 3) := by decide +kernel
theorem dJ2_getChar_3b067_56 : decode cJ2_getChar_3b067 56 = .ok (.ishl, 1) := by decide +kernel
theorem dJ2_getChar_3b067_57 : decode cJ2_getChar_3b067 57 = .ok (.ior, 1) := by decide +kernel
theorem dJ2_getChar_3b067_58 : decode cJ2_getChar_3b067 58 = .ok (.i2c, 1) := by decide +kernel
theorem dJ2_getChar_3b067_59 : decode cJ2_getChar_3b067 59 = .ok (.ireturn, 1) := by decide +kernel
theorem dJ2_length_9d52b_0 : decode cJ2_length_9d52b 0 = .ok (.aload_n 0, 1) := by decide +kernel
theorem dJ2_length_9d52b_1 : decode cJ2_length_9d52b 1 = .ok (.arraylength, 1) := by decide +kernel
theorem dJ2_length_9d52b_2 : decode cJ2_length_9d52b 2 = .ok (.iconst 1, 1) := by decide +kernel
theorem dJ2_length_9d52b_3 : decode cJ2_length_9d52b 3 = .ok (.ishr, 1) := by decide +kernel
theorem dJ2_length_9d52b_4 : decode cJ2_length_9d52b 4 = .ok (.ireturn, 1) := by decide +kernel
theorem dJ2_charAt_3b067_0 : decode cJ2_charAt_3b067 0 = .ok (.iload_n 1, 1) := by decide +kernel
theorem dJ2_charAt_3b067_1 : decode cJ2_charAt_3b067 1 = .ok (.aload_n 0, 1) := by decide +kernel
theorem dJ2_charAt_3b067_2 : decode cJ2_charAt_3b067 2 = .ok (.invokestatic 67, 3) := by decide +kernel
theorem dJ2_charAt_3b067_5 : decode cJ2_charAt_3b067 5 = .ok (.aload_n 0, 1) := by decide +kernel
theorem dJ2_charAt_3b067_6 : decode cJ2_charAt_3b067 6 = .ok (.iload_n 1, 1) := by decide +kernel
theorem dJ2_charAt_3b067_7 : decode cJ2_charAt_3b067 7 = .ok (.invokestatic 71, 3) := by decide +kernel
theorem dJ2_charAt_3b067_10 : decode cJ2_charAt_3b067 10 = .ok (.ireturn, 1) := by decide +kernel
theorem dJ2_checkIndex_2214a_0 : decode cJ2_checkIndex_2214a 0 = .ok (.iload_n 0, 1) := by decide +kernel
theorem dJ2_checkIndex_2214a_1 : decode cJ2_checkIndex_2214a 1 = .ok (.aload_n 1, 1) := by decide +kernel
theorem dJ2_checkIndex_2214a_2 : decode cJ2_checkIndex_2214a 2 = .ok (.invokestatic 48, 3) := by decide +kernel
theorem dJ2_checkIndex_2214a_5 : decode cJ2_checkIndex_2214a 5 = .ok (.invokestatic 414, 3) := by decide +kernel
theorem dJ2_checkIndex_2214a_8 : decode cJ2_checkIndex_2214a 8 = .ok (.return_, 1) := by decide +kernel
theorem dJ7_fill_53178_0 : decode cJ7_fill_53178 0 = .ok (.iconst 0, 1) := by decide +kernel
theorem dJ7_fill_53178_1 : decode cJ7_fill_53178 1 = .ok (.istore_n 2, 1) := by decide +kernel
theorem dJ7_fill_53178_2 : decode cJ7_fill_53178 2 = .ok (.aload_n 0, 1) := by decide +kernel
theorem dJ7_fill_53178_3 : decode cJ7_fill_53178 3 = .ok (.arraylength, 1) := by decide +kernel
theorem dJ7_fill_53178_4 : decode cJ7_fill_53178 4 = .ok (.istore_n 3, 1) := by decide +kernel
theorem dJ7_fill_53178_5 : decode cJ7_fill_53178 5 = .ok (.iload_n 2, 1) := by decide +kernel
theorem dJ7_fill_53178_6 : decode cJ7_fill_53178 6 = .ok (.iload_n 3, 1) := by decide +kernel
theorem dJ7_fill_53178_7 : decode cJ7_fill_53178 7 = .ok (.if_icmp .ge 13, 3) := by decide +kernel
theorem dJ7_fill_53178_10 : decode cJ7_fill_53178 10 = .ok (.aload_n 0, 1) := by decide +kernel
theorem dJ7_fill_53178_11 : decode cJ7_fill_53178 11 = .ok (.iload_n 2, 1) := by decide +kernel
theorem dJ7_fill_53178_12 : decode cJ7_fill_53178 12 = .ok (.iload_n 1, 1) := by decide +kernel
theorem dJ7_fill_53178_13 : decode cJ7_fill_53178 13 = .ok (.iastore, 1) := by decide +kernel
theorem dJ7_fill_53178_14 : decode cJ7_fill_53178 14 = .ok (.iinc 2 1, 3) := by decide +kernel
theorem dJ7_fill_53178_17 : decode cJ7_fill_53178 17 = .ok (.goto (-12), 3) := by decide +kernel
theorem dJ7_fill_53178_20 : decode cJ7_fill_53178 20 = .ok (.return_, 1) := by decide +kernel
theorem dJ7_copyOf_59c91_0 : decode cJ7_copyOf_59c91 0 = .ok (.iload_n 1, 1) := by decide +kernel
theorem dJ7_copyOf_59c91_1 : decode cJ7_copyOf_59c91 1 = .ok (.aload_n 0, 1) := by decide +kernel
theorem dJ7_copyOf_59c91_2 : decode cJ7_copyOf_59c91 2 = .ok (.arraylength, 1) := by decide +kernel
theorem dJ7_copyOf_59c91_3 : decode cJ7_copyOf_59c91 3 = .ok (.if_icmp .ne 11, 3) := by decide +kernel
theorem dJ7_copyOf_59c91_6 : decode cJ7_copyOf_59c91 6 = .ok (.aload_n 0, 1) := by decide +kernel
theorem dJ7_copyOf_59c91_7 : decode cJ7_copyOf_59c91 7 = .ok (.invokevirtual 316, 3) := by decide +kernel
theorem dJ7_copyOf_59c91_10 : decode cJ7_copyOf_59c91 10 = .ok (.checkcast 317, 3) := by decide +kernel
theorem dJ7_copyOf_59c91_13 : decode cJ7_copyOf_59c91 13 = .ok (.areturn, 1) := by decide +kernel
theorem dJ7_copyOf_59c91_14 : decode cJ7_copyOf_59c91 14 = .ok (.iload_n 1, 1) := by decide +kernel
theorem dJ7_copyOf_59c91_15 : decode cJ7_copyOf_59c91 15 = .ok (.newarray .int, 2) := by decide +kernel
theorem dJ7_copyOf_59c91_17 : decode cJ7_copyOf_59c91 17 = .ok (.astore_n 2, 1) := by decide +kernel
theorem dJ7_copyOf_59c91_18 : decode cJ7_copyOf_59c91 18 = .ok (.aload_n 0, 1) := by decide +kernel
theorem dJ7_copyOf_59c91_19 : decode cJ7_copyOf_59c91 19 = .ok (.iconst 0, 1) := by decide +kernel
theorem dJ7_copyOf_59c91_20 : decode cJ7_copyOf_59c91 20 = .ok (.aload_n 2, 1) := by decide +kernel
theorem dJ7_copyOf_59c91_21 : decode cJ7_copyOf_59c91 21 = .ok (.iconst 0, 1) := by decide +kernel
theorem dJ7_copyOf_59c91_22 : decode cJ7_copyOf_59c91 22 = .ok (.aload_n 0, 1) := by decide +kernel
theorem dJ7_copyOf_59c91_23 : decode cJ7_copyOf_59c91 23 = .ok (.arraylength, 1) := by decide +kernel
theorem dJ7_copyOf_59c91_24 : decode cJ7_copyOf_59c91 24 = .ok (.iload_n 1, 1) := by decide +kernel
theorem dJ7_copyOf_59c91_25 : decode cJ7_copyOf_59c91 25 = .ok (.invokestatic 304, 3) := by decide +kernel
theorem dJ7_copyOf_59c91_28 : decode cJ7_copyOf_59c91 28 = .ok (.invokestatic 150, 3) := by decide +kernel
theorem dJ7_copyOf_59c91_31 : decode cJ7_copyOf_59c91 31 = .ok (.aload_n 2, 1) := by decide +kernel
theorem dJ7_copyOf_59c91_32 : decode cJ7_copyOf_59c91 32 = .ok (.areturn, 1) := by decide +kernel
theorem dJ3_checkIndex_8e157_0 : decode cJ3_checkIndex_8e157 0 = .ok (.iload_n 0, 1) := by decide +kernel
theorem dJ3_checkIndex_8e157_1 : decode cJ3_checkIndex_8e157 1 = .ok (.ifCond .lt 8, 3) := by decide +kernel
theorem dJ3_checkIndex_8e157_4 : decode cJ3_checkIndex_8e157 4 = .ok (.iload_n 0, 1) := by decide +kernel
theorem dJ3_checkIndex_8e157_5 : decode cJ3_checkIndex_8e157 5 = .ok (.iload_n 1, 1) := by decide +kernel
theorem dJ3_checkIndex_8e157_6 : decode cJ3_checkIndex_8e157 6 = .ok (.if_icmp .lt 10, 3) := by decide +kernel
theorem dJ3_checkIndex_8e157_9 : decode cJ3_checkIndex_8e157 9 = .ok (.aload_n 2, 1) := by decide +kernel
theorem dJ3_checkIndex_8e157_10 : decode cJ3_checkIndex_8e157 10 = .ok (.iload_n 0, 1) := by decide +kernel
theorem dJ3_checkIndex_8e157_11 : decode cJ3_checkIndex_8e157 11 = .ok (.iload_n 1, 1) := by decide +kernel
theorem dJ3_checkIndex_8e157_12 : decode cJ3_checkIndex_8e157 12 = .ok (.invokestatic 95, 3) := by decide +kernel
theorem dJ3_checkIndex_8e157_15 : decode cJ3_checkIndex_8e157 15 = .ok (.athrow, 1) := by decide +kernel
theorem dJ3_checkIndex_8e157_16 : decode cJ3_checkIndex_8e157 16 = .ok (.iload_n 0, 1) := by decide +kernel
theorem dJ3_checkIndex_8e157_17 : decode cJ3_checkIndex_8e157 17 = .ok (.ireturn, 1) := by decide +kernel
end
section
theorem dL_law_0 : decode cL_law 0 = .ok (.new 7, 3) := by decide +kernel
theorem dL_law_3 : decode cL_law 3 = .ok (.dup, 1) := by decide +kernel
theorem dL_law_4 : decode cL_law 4 = .ok (.invokespecial 9, 3) := by decide +kernel
theorem dL_law_7 : decode cL_law 7 = .ok (.astore_n 1, 1) := by decide +kernel
theorem dL_law_8 : decode cL_law 8 = .ok (.new 10, 3) := by decide +kernel
theorem dL_law_11 : decode cL_law 11 = .ok (.dup, 1) := by decide +kernel
theorem dL_law_12 : decode cL_law 12 = .ok (.invokespecial 12, 3) := by decide +kernel
theorem dL_law_15 : decode cL_law 15 = .ok (.astore_n 2, 1) := by decide +kernel
theorem dL_law_16 : decode cL_law 16 = .ok (.iconst 0, 1) := by decide +kernel
theorem dL_law_17 : decode cL_law 17 = .ok (.istore_n 3, 1) := by decide +kernel
theorem dL_law_18 : decode cL_law 18 = .ok (.iload_n 3, 1) := by decide +kernel
theorem dL_law_19 : decode cL_law 19 = .ok (.aload_n 0, 1) := by decide +kernel
theorem dL_law_20 : decode cL_law 20 = .ok (.arraylength, 1) := by decide +kernel
theorem dL_law_21 : decode cL_law 21 = .ok (.bipush 6, 2) := by decide +kernel
theorem dL_law_23 : decode cL_law 23 = .ok (.isub, 1) := by decide +kernel
theorem dL_law_24 : decode cL_law 24 = .ok (.if_icmp .gt 1108, 3) := by decide +kernel
theorem dL_law_27 : decode cL_law 27 = .ok (.aload_n 0, 1) := by decide +kernel
theorem dL_law_28 : decode cL_law 28 = .ok (.iload_n 3, 1) := by decide +kernel
theorem dL_law_29 : decode cL_law 29 = .ok (.iaload, 1) := by decide +kernel
theorem dL_law_30 : decode cL_law 30 = .ok (.bipush 31, 2) := by decide +kernel
theorem dL_law_32 : decode cL_law 32 = .ok (.iand, 1) := by decide +kernel
theorem dL_law_33 : decode cL_law 33 = .ok (.tableswitch 1093 0 30 #[139, 182, 225, 258, 291, 324, 347, 360, 383, 416, 439, 472, 505, 538, 561, 584, 597, 620, 643, 666, 699, 722, 755, 809, 822, 835, 858, 901, 944, 1007, 1060], 139) := by decide +kernel
theorem dL_law_172 : decode cL_law 172 = .ok (.aload_n 1, 1) := by decide +kernel
theorem dL_law_173 : decode cL_law 173 = .ok (.aload_n 0, 1) := by decide +kernel
theorem dL_law_174 : decode cL_law 174 = .ok (.iload_n 3, 1) := by decide +kernel
theorem dL_law_175 : decode cL_law 175 = .ok (.iconst 1, 1) := by decide +kernel
theorem dL_law_176 : decode cL_law 176 = .ok (.iadd, 1) := by decide +kernel
theorem dL_law_177 : decode cL_law 177 = .ok (.iaload, 1) := by decide +kernel
theorem dL_law_178 : decode cL_law 178 = .ok (.aload_n 0, 1) := by decide +kernel
theorem dL_law_179 : decode cL_law 179 = .ok (.iload_n 3, 1) := by decide +kernel
theorem dL_law_180 : decode cL_law 180 = .ok (.iconst 2, 1) := by decide +kernel
theorem dL_law_181 : decode cL_law 181 = .ok (.iadd, 1) := by decide +kernel
theorem dL_law_182 : decode cL_law 182 = .ok (.iaload, 1) := by decide +kernel
theorem dL_law_183 : decode cL_law 183 = .ok (.aload_n 0, 1) := by decide +kernel
theorem dL_law_184 : decode cL_law 184 = .ok (.iload_n 3, 1) := by decide +kernel
theorem dL_law_185 : decode cL_law 185 = .ok (.iconst 3, 1) := by decide +kernel
theorem dL_law_186 : decode cL_law 186 = .ok (.iadd, 1) := by decide +kernel
theorem dL_law_187 : decode cL_law 187 = .ok (.iaload, 1) := by decide +kernel
theorem dL_law_188 : decode cL_law 188 = .ok (.invokevirtual 13, 3) := by decide +kernel
theorem dL_law_191 : decode cL_law 191 = .ok (.aload_n 2, 1) := by decide +kernel
theorem dL_law_192 : decode cL_law 192 = .ok (.aload_n 0, 1) := by decide +kernel
theorem dL_law_193 : decode cL_law 193 = .ok (.iload_n 3, 1) := by decide +kernel
theorem dL_law_194 : decode cL_law 194 = .ok (.iconst 1, 1) := by decide +kernel
theorem dL_law_195 : decode cL_law 195 = .ok (.iadd, 1) := by decide +kernel
theorem dL_law_196 : decode cL_law 196 = .ok (.iaload, 1) := by decide +kernel
theorem dL_law_197 : decode cL_law 197 = .ok (.aload_n 0, 1) := by decide +kernel
theorem dL_law_198 : decode cL_law 198 = .ok (.iload_n 3, 1) := by decide +kernel
theorem dL_law_199 : decode cL_law 199 = .ok (.iconst 2, 1) := by decide +kernel
theorem dL_law_200 : decode cL_law 200 = .ok (.iadd, 1) := by decide +kernel
theorem dL_law_201 : decode cL_law 201 = .ok (.iaload, 1) := by decide +kernel
theorem dL_law_202 : decode cL_law 202 = .ok (.aload_n 0, 1) := by decide +kernel
theorem dL_law_203 : decode cL_law 203 = .ok (.iload_n 3, 1) := by decide +kernel
theorem dL_law_204 : decode cL_law 204 = .ok (.iconst 3, 1) := by decide +kernel
theorem dL_law_205 : decode cL_law 205 = .ok (.iadd, 1) := by decide +kernel
theorem dL_law_206 : decode cL_law 206 = .ok (.iaload, 1) := by decide +kernel
theorem dL_law_207 : decode cL_law 207 = .ok (.invokevirtual 17, 3) := by decide +kernel
theorem dL_law_210 : decode cL_law 210 = .ok (.if_icmp .eq 916, 3) := by decide +kernel
theorem dL_law_213 : decode cL_law 213 = .ok (.iconst 0, 1) := by decide +kernel
theorem dL_law_214 : decode cL_law 214 = .ok (.ireturn, 1) := by decide +kernel
theorem dL_law_215 : decode cL_law 215 = .ok (.aload_n 1, 1) := by decide +kernel
theorem dL_law_216 : decode cL_law 216 = .ok (.aload_n 0, 1) := by decide +kernel
theorem dL_law_217 : decode cL_law 217 = .ok (.iload_n 3, 1) := by decide +kernel
theorem dL_law_218 : decode cL_law 218 = .ok (.iconst 1, 1) := by decide +kernel
theorem dL_law_219 : decode cL_law 219 = .ok (.iadd, 1) := by decide +kernel
theorem dL_law_220 : decode cL_law 220 = .ok (.iaload, 1) := by decide +kernel
theorem dL_law_221 : decode cL_law 221 = .ok (.aload_n 0, 1) := by decide +kernel
theorem dL_law_222 : decode cL_law 222 = .ok (.iload_n 3, 1) := by decide +kernel
theorem dL_law_223 : decode cL_law 223 = .ok (.iconst 2, 1) := by decide +kernel
theorem dL_law_224 : decode cL_law 224 = .ok (.iadd, 1) := by decide +kernel
theorem dL_law_225 : decode cL_law 225 = .ok (.iaload, 1) := by decide +kernel
theorem dL_law_226 : decode cL_law 226 = .ok (.aload_n 0, 1) := by decide +kernel
theorem dL_law_227 : decode cL_law 227 = .ok (.iload_n 3, 1) := by decide +kernel
theorem dL_law_228 : decode cL_law 228 = .ok (.iconst 3, 1) := by decide +kernel
theorem dL_law_229 : decode cL_law 229 = .ok (.iadd, 1) := by decide +kernel
theorem dL_law_230 : decode cL_law 230 = .ok (.iaload, 1) := by decide +kernel
theorem dL_law_231 : decode cL_law 231 = .ok (.invokevirtual 18, 3) := by decide +kernel
theorem dL_law_234 : decode cL_law 234 = .ok (.aload_n 2, 1) := by decide +kernel
theorem dL_law_235 : decode cL_law 235 = .ok (.aload_n 0, 1) := by decide +kernel
theorem dL_law_236 : decode cL_law 236 = .ok (.iload_n 3, 1) := by decide +kernel
theorem dL_law_237 : decode cL_law 237 = .ok (.iconst 1, 1) := by decide +kernel
theorem dL_law_238 : decode cL_law 238 = .ok (.iadd, 1) := by decide +kernel
theorem dL_law_239 : decode cL_law 239 = .ok (.iaload, 1) := by decide +kernel
theorem dL_law_240 : decode cL_law 240 = .ok (.aload_n 0, 1) := by decide +kernel
theorem dL_law_241 : decode cL_law 241 = .ok (.iload_n 3, 1) := by decide +kernel
theorem dL_law_242 : decode cL_law 242 = .ok (.iconst 2, 1) := by decide +kernel
theorem dL_law_243 : decode cL_law 243 = .ok (.iadd, 1) := by decide +kernel
theorem dL_law_244 : decode cL_law 244 = .ok (.iaload, 1) := by decide +kernel
theorem dL_law_245 : decode cL_law 245 = .ok (.aload_n 0, 1) := by decide +kernel
theorem dL_law_246 : decode cL_law 246 = .ok (.iload_n 3, 1) := by decide +kernel
theorem dL_law_247 : decode cL_law 247 = .ok (.iconst 3, 1) := by decide +kernel
theorem dL_law_248 : decode cL_law 248 = .ok (.iadd, 1) := by decide +kernel
theorem dL_law_249 : decode cL_law 249 = .ok (.iaload, 1) := by decide +kernel
theorem dL_law_250 : decode cL_law 250 = .ok (.invokevirtual 21, 3) := by decide +kernel
theorem dL_law_253 : decode cL_law 253 = .ok (.if_icmp .eq 873, 3) := by decide +kernel
theorem dL_law_256 : decode cL_law 256 = .ok (.iconst 0, 1) := by decide +kernel
theorem dL_law_257 : decode cL_law 257 = .ok (.ireturn, 1) := by decide +kernel
theorem dL_law_258 : decode cL_law 258 = .ok (.aload_n 1, 1) := by decide +kernel
theorem dL_law_259 : decode cL_law 259 = .ok (.aload_n 0, 1) := by decide +kernel
theorem dL_law_260 : decode cL_law 260 = .ok (.iload_n 3, 1) := by decide +kernel
theorem dL_law_261 : decode cL_law 261 = .ok (.iconst 1, 1) := by decide +kernel
theorem dL_law_262 : decode cL_law 262 = .ok (.iadd, 1) := by decide +kernel
theorem dL_law_263 : decode cL_law 263 = .ok (.iaload, 1) := by decide +kernel
theorem dL_law_264 : decode cL_law 264 = .ok (.aload_n 0, 1) := by decide +kernel
theorem dL_law_265 : decode cL_law 265 = .ok (.iload_n 3, 1) := by decide +kernel
theorem dL_law_266 : decode cL_law 266 = .ok (.iconst 2, 1) := by decide +kernel
theorem dL_law_267 : decode cL_law 267 = .ok (.iadd, 1) := by decide +kernel
theorem dL_law_268 : decode cL_law 268 = .ok (.iaload, 1) := by decide +kernel
theorem dL_law_269 : decode cL_law 269 = .ok (.invokevirtual 22, 3) := by decide +kernel
theorem dL_law_272 : decode cL_law 272 = .ok (.aload_n 2, 1) := by decide +kernel
theorem dL_law_273 : decode cL_law 273 = .ok (.aload_n 0, 1) := by decide +kernel
theorem dL_law_274 : decode cL_law 274 = .ok (.iload_n 3, 1) := by decide +kernel
theorem dL_law_275 : decode cL_law 275 = .ok (.iconst 1, 1) := by decide +kernel
theorem dL_law_276 : decode cL_law 276 = .ok (.iadd, 1) := by decide +kernel
theorem dL_law_277 : decode cL_law 277 = .ok (.iaload, 1) := by decide +kernel
theorem dL_law_278 : decode cL_law 278 = .ok (.aload_n 0, 1) := by decide +kernel
theorem dL_law_279 : decode cL_law 279 = .ok (.iload_n 3, 1) := by decide +kernel
theorem dL_law_280 : decode cL_law 280 = .ok (.iconst 2, 1) := by decide +kernel
theorem dL_law_281 : decode cL_law 281 = .ok (.iadd, 1) := by decide +kernel
theorem dL_law_282 : decode cL_law 282 = .ok (.iaload, 1) := by decide +kernel
theorem dL_law_283 : decode cL_law 283 = .ok (.invokevirtual 26, 3) := by decide +kernel
theorem dL_law_286 : decode cL_law 286 = .ok (.if_icmp .eq 840, 3) := by decide +kernel
theorem dL_law_289 : decode cL_law 289 = .ok (.iconst 0, 1) := by decide +kernel
theorem dL_law_290 : decode cL_law 290 = .ok (.ireturn, 1) := by decide +kernel
theorem dL_law_291 : decode cL_law 291 = .ok (.aload_n 1, 1) := by decide +kernel
theorem dL_law_292 : decode cL_law 292 = .ok (.aload_n 0, 1) := by decide +kernel
theorem dL_law_293 : decode cL_law 293 = .ok (.iload_n 3, 1) := by decide +kernel
theorem dL_law_294 : decode cL_law 294 = .ok (.iconst 1, 1) := by decide +kernel
theorem dL_law_295 : decode cL_law 295 = .ok (.iadd, 1) := by decide +kernel
theorem dL_law_296 : decode cL_law 296 = .ok (.iaload, 1) := by decide +kernel
theorem dL_law_297 : decode cL_law 297 = .ok (.aload_n 0, 1) := by decide +kernel
theorem dL_law_298 : decode cL_law 298 = .ok (.iload_n 3, 1) := by decide +kernel
theorem dL_law_299 : decode cL_law 299 = .ok (.iconst 2, 1) := by decide +kernel
theorem dL_law_300 : decode cL_law 300 = .ok (.iadd, 1) := by decide +kernel
theorem dL_law_301 : decode cL_law 301 = .ok (.iaload, 1) := by decide +kernel
theorem dL_law_302 : decode cL_law 302 = .ok (.invokevirtual 27, 3) := by decide +kernel
theorem dL_law_305 : decode cL_law 305 = .ok (.aload_n 2, 1) := by decide +kernel
theorem dL_law_306 : decode cL_law 306 = .ok (.aload_n 0, 1) := by decide +kernel
theorem dL_law_307 : decode cL_law 307 = .ok (.iload_n 3, 1) := by decide +kernel
theorem dL_law_308 : decode cL_law 308 = .ok (.iconst 1, 1) := by decide +kernel
theorem dL_law_309 : decode cL_law 309 = .ok (.iadd, 1) := by decide +kernel
theorem dL_law_310 : decode cL_law 310 = .ok (.iaload, 1) := by decide +kernel
theorem dL_law_311 : decode cL_law 311 = .ok (.aload_n 0, 1) := by decide +kernel
theorem dL_law_312 : decode cL_law 312 = .ok (.iload_n 3, 1) := by decide +kernel
theorem dL_law_313 : decode cL_law 313 = .ok (.iconst 2, 1) := by decide +kernel
theorem dL_law_314 : decode cL_law 314 = .ok (.iadd, 1) := by decide +kernel
theorem dL_law_315 : decode cL_law 315 = .ok (.iaload, 1) := by decide +kernel
theorem dL_law_316 : decode cL_law 316 = .ok (.invokevirtual 30, 3) := by decide +kernel
theorem dL_law_319 : decode cL_law 319 = .ok (.if_icmp .eq 807, 3) := by decide +kernel
theorem dL_law_322 : decode cL_law 322 = .ok (.iconst 0, 1) := by decide +kernel
theorem dL_law_323 : decode cL_law 323 = .ok (.ireturn, 1) := by decide +kernel
theorem dL_law_324 : decode cL_law 324 = .ok (.aload_n 1, 1) := by decide +kernel
theorem dL_law_325 : decode cL_law 325 = .ok (.aload_n 0, 1) := by decide +kernel
theorem dL_law_326 : decode cL_law 326 = .ok (.iload_n 3, 1) := by decide +kernel
theorem dL_law_327 : decode cL_law 327 = .ok (.iconst 1, 1) := by decide +kernel
theorem dL_law_328 : decode cL_law 328 = .ok (.iadd, 1) := by decide +kernel
theorem dL_law_329 : decode cL_law 329 = .ok (.iaload, 1) := by decide +kernel
theorem dL_law_330 : decode cL_law 330 = .ok (.aload_n 0, 1) := by decide +kernel
theorem dL_law_331 : decode cL_law 331 = .ok (.iload_n 3, 1) := by decide +kernel
theorem dL_law_332 : decode cL_law 332 = .ok (.iconst 2, 1) := by decide +kernel
theorem dL_law_333 : decode cL_law 333 = .ok (.iadd, 1) := by decide +kernel
theorem dL_law_334 : decode cL_law 334 = .ok (.iaload, 1) := by decide +kernel
theorem dL_law_335 : decode cL_law 335 = .ok (.invokevirtual 31, 3) := by decide +kernel
theorem dL_law_338 : decode cL_law 338 = .ok (.aload_n 2, 1) := by decide +kernel
theorem dL_law_339 : decode cL_law 339 = .ok (.aload_n 0, 1) := by decide +kernel
theorem dL_law_340 : decode cL_law 340 = .ok (.iload_n 3, 1) := by decide +kernel
theorem dL_law_341 : decode cL_law 341 = .ok (.iconst 1, 1) := by decide +kernel
theorem dL_law_342 : decode cL_law 342 = .ok (.iadd, 1) := by decide +kernel
theorem dL_law_343 : decode cL_law 343 = .ok (.iaload, 1) := by decide +kernel
theorem dL_law_344 : decode cL_law 344 = .ok (.aload_n 0, 1) := by decide +kernel
theorem dL_law_345 : decode cL_law 345 = .ok (.iload_n 3, 1) := by decide +kernel
theorem dL_law_346 : decode cL_law 346 = .ok (.iconst 2, 1) := by decide +kernel
theorem dL_law_347 : decode cL_law 347 = .ok (.iadd, 1) := by decide +kernel
theorem dL_law_348 : decode cL_law 348 = .ok (.iaload, 1) := by decide +kernel
theorem dL_law_349 : decode cL_law 349 = .ok (.invokevirtual 34, 3) := by decide +kernel
theorem dL_law_352 : decode cL_law 352 = .ok (.if_icmp .eq 774, 3) := by decide +kernel
theorem dL_law_355 : decode cL_law 355 = .ok (.iconst 0, 1) := by decide +kernel
theorem dL_law_356 : decode cL_law 356 = .ok (.ireturn, 1) := by decide +kernel
theorem dL_law_357 : decode cL_law 357 = .ok (.aload_n 1, 1) := by decide +kernel
theorem dL_law_358 : decode cL_law 358 = .ok (.aload_n 0, 1) := by decide +kernel
theorem dL_law_359 : decode cL_law 359 = .ok (.iload_n 3, 1) := by decide +kernel
theorem dL_law_360 : decode cL_law 360 = .ok (.iconst 1, 1) := by decide +kernel
theorem dL_law_361 : decode cL_law 361 = .ok (.iadd, 1) := by decide +kernel
theorem dL_law_362 : decode cL_law 362 = .ok (.iaload, 1) := by decide +kernel
theorem dL_law_363 : decode cL_law 363 = .ok (.invokevirtual 35, 3) := by decide +kernel
theorem dL_law_366 : decode cL_law 366 = .ok (.aload_n 2, 1) := by decide +kernel
theorem dL_law_367 : decode cL_law 367 = .ok (.aload_n 0, 1) := by decide +kernel
theorem dL_law_368 : decode cL_law 368 = .ok (.iload_n 3, 1) := by decide +kernel
theorem dL_law_369 : decode cL_law 369 = .ok (.iconst 1, 1) := by decide +kernel
theorem dL_law_370 : decode cL_law 370 = .ok (.iadd, 1) := by decide +kernel
theorem dL_law_371 : decode cL_law 371 = .ok (.iaload, 1) := by decide +kernel
theorem dL_law_372 : decode cL_law 372 = .ok (.invokevirtual 39, 3) := by decide +kernel
theorem dL_law_375 : decode cL_law 375 = .ok (.if_icmp .eq 751, 3) := by decide +kernel
theorem dL_law_378 : decode cL_law 378 = .ok (.iconst 0, 1) := by decide +kernel
theorem dL_law_379 : decode cL_law 379 = .ok (.ireturn, 1) := by decide +kernel
theorem dL_law_380 : decode cL_law 380 = .ok (.aload_n 1, 1) := by decide +kernel
theorem dL_law_381 : decode cL_law 381 = .ok (.invokevirtual 40, 3) := by decide +kernel
theorem dL_law_384 : decode cL_law 384 = .ok (.aload_n 2, 1) := by decide +kernel
theorem dL_law_385 : decode cL_law 385 = .ok (.invokevirtual 44, 3) := by decide +kernel
theorem dL_law_388 : decode cL_law 388 = .ok (.if_icmp .eq 738, 3) := by decide +kernel
theorem dL_law_391 : decode cL_law 391 = .ok (.iconst 0, 1) := by decide +kernel
theorem dL_law_392 : decode cL_law 392 = .ok (.ireturn, 1) := by decide +kernel
theorem dL_law_393 : decode cL_law 393 = .ok (.aload_n 1, 1) := by decide +kernel
theorem dL_law_394 : decode cL_law 394 = .ok (.aload_n 0, 1) := by decide +kernel
theorem dL_law_395 : decode cL_law 395 = .ok (.iload_n 3, 1) := by decide +kernel
theorem dL_law_396 : decode cL_law 396 = .ok (.iconst 1, 1) := by decide +kernel
theorem dL_law_397 : decode cL_law 397 = .ok (.iadd, 1) := by decide +kernel
theorem dL_law_398 : decode cL_law 398 = .ok (.iaload, 1) := by decide +kernel
theorem dL_law_399 : decode cL_law 399 = .ok (.invokevirtual 45, 3) := by decide +kernel
theorem dL_law_402 : decode cL_law 402 = .ok (.aload_n 2, 1) := by decide +kernel
theorem dL_law_403 : decode cL_law 403 = .ok (.aload_n 0, 1) := by decide +kernel
theorem dL_law_404 : decode cL_law 404 = .ok (.iload_n 3, 1) := by decide +kernel
theorem dL_law_405 : decode cL_law 405 = .ok (.iconst 1, 1) := by decide +kernel
theorem dL_law_406 : decode cL_law 406 = .ok (.iadd, 1) := by decide +kernel
theorem dL_law_407 : decode cL_law 407 = .ok (.iaload, 1) := by decide +kernel
theorem dL_law_408 : decode cL_law 408 = .ok (.invokevirtual 48, 3) := by decide +kernel
theorem dL_law_411 : decode cL_law 411 = .ok (.if_icmp .eq 715, 3) := by decide +kernel
theorem dL_law_414 : decode cL_law 414 = .ok (.iconst 0, 1) := by decide +kernel
theorem dL_law_415 : decode cL_law 415 = .ok (.ireturn, 1) := by decide +kernel
theorem dL_law_416 : decode cL_law 416 = .ok (.aload_n 1, 1) := by decide +kernel
theorem dL_law_417 : decode cL_law 417 = .ok (.aload_n 0, 1) := by decide +kernel
theorem dL_law_418 : decode cL_law 418 = .ok (.iload_n 3, 1) := by decide +kernel
theorem dL_law_419 : decode cL_law 419 = .ok (.iconst 1, 1) := by decide +kernel
theorem dL_law_420 : decode cL_law 420 = .ok (.iadd, 1) := by decide +kernel
theorem dL_law_421 : decode cL_law 421 = .ok (.iaload, 1) := by decide +kernel
theorem dL_law_422 : decode cL_law 422 = .ok (.aload_n 0, 1) := by decide +kernel
theorem dL_law_423 : decode cL_law 423 = .ok (.iload_n 3, 1) := by decide +kernel
theorem dL_law_424 : decode cL_law 424 = .ok (.iconst 2, 1) := by decide +kernel
theorem dL_law_425 : decode cL_law 425 = .ok (.iadd, 1) := by decide +kernel
theorem dL_law_426 : decode cL_law 426 = .ok (.iaload, 1) := by decide +kernel
theorem dL_law_427 : decode cL_law 427 = .ok (.invokevirtual 49, 3) := by decide +kernel
theorem dL_law_430 : decode cL_law 430 = .ok (.aload_n 2, 1) := by decide +kernel
theorem dL_law_431 : decode cL_law 431 = .ok (.aload_n 0, 1) := by decide +kernel
theorem dL_law_432 : decode cL_law 432 = .ok (.iload_n 3, 1) := by decide +kernel
theorem dL_law_433 : decode cL_law 433 = .ok (.iconst 1, 1) := by decide +kernel
theorem dL_law_434 : decode cL_law 434 = .ok (.iadd, 1) := by decide +kernel
theorem dL_law_435 : decode cL_law 435 = .ok (.iaload, 1) := by decide +kernel
theorem dL_law_436 : decode cL_law 436 = .ok (.aload_n 0, 1) := by decide +kernel
theorem dL_law_437 : decode cL_law 437 = .ok (.iload_n 3, 1) := by decide +kernel
theorem dL_law_438 : decode cL_law 438 = .ok (.iconst 2, 1) := by decide +kernel
theorem dL_law_439 : decode cL_law 439 = .ok (.iadd, 1) := by decide +kernel
theorem dL_law_440 : decode cL_law 440 = .ok (.iaload, 1) := by decide +kernel
theorem dL_law_441 : decode cL_law 441 = .ok (.invokevirtual 52, 3) := by decide +kernel
theorem dL_law_444 : decode cL_law 444 = .ok (.if_icmp .eq 682, 3) := by decide +kernel
theorem dL_law_447 : decode cL_law 447 = .ok (.iconst 0, 1) := by decide +kernel
theorem dL_law_448 : decode cL_law 448 = .ok (.ireturn, 1) := by decide +kernel
theorem dL_law_449 : decode cL_law 449 = .ok (.aload_n 1, 1) := by decide +kernel
theorem dL_law_450 : decode cL_law 450 = .ok (.aload_n 0, 1) := by decide +kernel
theorem dL_law_451 : decode cL_law 451 = .ok (.iload_n 3, 1) := by decide +kernel
theorem dL_law_452 : decode cL_law 452 = .ok (.iconst 1, 1) := by decide +kernel
theorem dL_law_453 : decode cL_law 453 = .ok (.iadd, 1) := by decide +kernel
theorem dL_law_454 : decode cL_law 454 = .ok (.iaload, 1) := by decide +kernel
theorem dL_law_455 : decode cL_law 455 = .ok (.invokevirtual 53, 3) := by decide +kernel
theorem dL_law_458 : decode cL_law 458 = .ok (.aload_n 2, 1) := by decide +kernel
theorem dL_law_459 : decode cL_law 459 = .ok (.aload_n 0, 1) := by decide +kernel
theorem dL_law_460 : decode cL_law 460 = .ok (.iload_n 3, 1) := by decide +kernel
theorem dL_law_461 : decode cL_law 461 = .ok (.iconst 1, 1) := by decide +kernel
theorem dL_law_462 : decode cL_law 462 = .ok (.iadd, 1) := by decide +kernel
theorem dL_law_463 : decode cL_law 463 = .ok (.iaload, 1) := by decide +kernel
theorem dL_law_464 : decode cL_law 464 = .ok (.invokevirtual 56, 3) := by decide +kernel
theorem dL_law_467 : decode cL_law 467 = .ok (.if_icmp .eq 659, 3) := by decide +kernel
theorem dL_law_470 : decode cL_law 470 = .ok (.iconst 0, 1) := by decide +kernel
theorem dL_law_471 : decode cL_law 471 = .ok (.ireturn, 1) := by decide +kernel
theorem dL_law_472 : decode cL_law 472 = .ok (.aload_n 1, 1) := by decide +kernel
theorem dL_law_473 : decode cL_law 473 = .ok (.aload_n 0, 1) := by decide +kernel
theorem dL_law_474 : decode cL_law 474 = .ok (.iload_n 3, 1) := by decide +kernel
theorem dL_law_475 : decode cL_law 475 = .ok (.iconst 1, 1) := by decide +kernel
theorem dL_law_476 : decode cL_law 476 = .ok (.iadd, 1) := by decide +kernel
theorem dL_law_477 : decode cL_law 477 = .ok (.iaload, 1) := by decide +kernel
theorem dL_law_478 : decode cL_law 478 = .ok (.aload_n 0, 1) := by decide +kernel
theorem dL_law_479 : decode cL_law 479 = .ok (.iload_n 3, 1) := by decide +kernel
theorem dL_law_480 : decode cL_law 480 = .ok (.iconst 2, 1) := by decide +kernel
theorem dL_law_481 : decode cL_law 481 = .ok (.iadd, 1) := by decide +kernel
theorem dL_law_482 : decode cL_law 482 = .ok (.iaload, 1) := by decide +kernel
theorem dL_law_483 : decode cL_law 483 = .ok (.invokevirtual 57, 3) := by decide +kernel
theorem dL_law_486 : decode cL_law 486 = .ok (.aload_n 2, 1) := by decide +kernel
theorem dL_law_487 : decode cL_law 487 = .ok (.aload_n 0, 1) := by decide +kernel
theorem dL_law_488 : decode cL_law 488 = .ok (.iload_n 3, 1) := by decide +kernel
theorem dL_law_489 : decode cL_law 489 = .ok (.iconst 1, 1) := by decide +kernel
theorem dL_law_490 : decode cL_law 490 = .ok (.iadd, 1) := by decide +kernel
theorem dL_law_491 : decode cL_law 491 = .ok (.iaload, 1) := by decide +kernel
theorem dL_law_492 : decode cL_law 492 = .ok (.aload_n 0, 1) := by decide +kernel
theorem dL_law_493 : decode cL_law 493 = .ok (.iload_n 3, 1) := by decide +kernel
theorem dL_law_494 : decode cL_law 494 = .ok (.iconst 2, 1) := by decide +kernel
theorem dL_law_495 : decode cL_law 495 = .ok (.iadd, 1) := by decide +kernel
theorem dL_law_496 : decode cL_law 496 = .ok (.iaload, 1) := by decide +kernel
theorem dL_law_497 : decode cL_law 497 = .ok (.invokevirtual 60, 3) := by decide +kernel
theorem dL_law_500 : decode cL_law 500 = .ok (.if_icmp .eq 626, 3) := by decide +kernel
theorem dL_law_503 : decode cL_law 503 = .ok (.iconst 0, 1) := by decide +kernel
theorem dL_law_504 : decode cL_law 504 = .ok (.ireturn, 1) := by decide +kernel
theorem dL_law_505 : decode cL_law 505 = .ok (.aload_n 1, 1) := by decide +kernel
theorem dL_law_506 : decode cL_law 506 = .ok (.aload_n 0, 1) := by decide +kernel
theorem dL_law_507 : decode cL_law 507 = .ok (.iload_n 3, 1) := by decide +kernel
theorem dL_law_508 : decode cL_law 508 = .ok (.iconst 1, 1) := by decide +kernel
theorem dL_law_509 : decode cL_law 509 = .ok (.iadd, 1) := by decide +kernel
theorem dL_law_510 : decode cL_law 510 = .ok (.iaload, 1) := by decide +kernel
theorem dL_law_511 : decode cL_law 511 = .ok (.aload_n 0, 1) := by decide +kernel
theorem dL_law_512 : decode cL_law 512 = .ok (.iload_n 3, 1) := by decide +kernel
theorem dL_law_513 : decode cL_law 513 = .ok (.iconst 2, 1) := by decide +kernel
theorem dL_law_514 : decode cL_law 514 = .ok (.iadd, 1) := by decide +kernel
theorem dL_law_515 : decode cL_law 515 = .ok (.iaload, 1) := by decide +kernel
theorem dL_law_516 : decode cL_law 516 = .ok (.invokevirtual 61, 3) := by decide +kernel
theorem dL_law_519 : decode cL_law 519 = .ok (.aload_n 2, 1) := by decide +kernel
theorem dL_law_520 : decode cL_law 520 = .ok (.aload_n 0, 1) := by decide +kernel
theorem dL_law_521 : decode cL_law 521 = .ok (.iload_n 3, 1) := by decide +kernel
theorem dL_law_522 : decode cL_law 522 = .ok (.iconst 1, 1) := by decide +kernel
theorem dL_law_523 : decode cL_law 523 = .ok (.iadd, 1) := by decide +kernel
theorem dL_law_524 : decode cL_law 524 = .ok (.iaload, 1) := by decide +kernel
theorem dL_law_525 : decode cL_law 525 = .ok (.aload_n 0, 1) := by decide +kernel
theorem dL_law_526 : decode cL_law 526 = .ok (.iload_n 3, 1) := by decide +kernel
theorem dL_law_527 : decode cL_law 527 = .ok (.iconst 2, 1) := by decide +kernel
theorem dL_law_528 : decode cL_law 528 = .ok (.iadd, 1) := by decide +kernel
theorem dL_law_529 : decode cL_law 529 = .ok (.iaload, 1) := by decide +kernel
theorem dL_law_530 : decode cL_law 530 = .ok (.invokevirtual 64, 3) := by decide +kernel
theorem dL_law_533 : decode cL_law 533 = .ok (.if_icmp .eq 593, 3) := by decide +kernel
theorem dL_law_536 : decode cL_law 536 = .ok (.iconst 0, 1) := by decide +kernel
theorem dL_law_537 : decode cL_law 537 = .ok (.ireturn, 1) := by decide +kernel
theorem dL_law_538 : decode cL_law 538 = .ok (.aload_n 1, 1) := by decide +kernel
theorem dL_law_539 : decode cL_law 539 = .ok (.aload_n 0, 1) := by decide +kernel
theorem dL_law_540 : decode cL_law 540 = .ok (.iload_n 3, 1) := by decide +kernel
theorem dL_law_541 : decode cL_law 541 = .ok (.iconst 1, 1) := by decide +kernel
theorem dL_law_542 : decode cL_law 542 = .ok (.iadd, 1) := by decide +kernel
theorem dL_law_543 : decode cL_law 543 = .ok (.iaload, 1) := by decide +kernel
theorem dL_law_544 : decode cL_law 544 = .ok (.aload_n 0, 1) := by decide +kernel
theorem dL_law_545 : decode cL_law 545 = .ok (.iload_n 3, 1) := by decide +kernel
theorem dL_law_546 : decode cL_law 546 = .ok (.iconst 2, 1) := by decide +kernel
theorem dL_law_547 : decode cL_law 547 = .ok (.iadd, 1) := by decide +kernel
theorem dL_law_548 : decode cL_law 548 = .ok (.iaload, 1) := by decide +kernel
theorem dL_law_549 : decode cL_law 549 = .ok (.invokevirtual 65, 3) := by decide +kernel
theorem dL_law_552 : decode cL_law 552 = .ok (.aload_n 2, 1) := by decide +kernel
theorem dL_law_553 : decode cL_law 553 = .ok (.aload_n 0, 1) := by decide +kernel
theorem dL_law_554 : decode cL_law 554 = .ok (.iload_n 3, 1) := by decide +kernel
theorem dL_law_555 : decode cL_law 555 = .ok (.iconst 1, 1) := by decide +kernel
theorem dL_law_556 : decode cL_law 556 = .ok (.iadd, 1) := by decide +kernel
theorem dL_law_557 : decode cL_law 557 = .ok (.iaload, 1) := by decide +kernel
theorem dL_law_558 : decode cL_law 558 = .ok (.aload_n 0, 1) := by decide +kernel
theorem dL_law_559 : decode cL_law 559 = .ok (.iload_n 3, 1) := by decide +kernel
theorem dL_law_560 : decode cL_law 560 = .ok (.iconst 2, 1) := by decide +kernel
theorem dL_law_561 : decode cL_law 561 = .ok (.iadd, 1) := by decide +kernel
theorem dL_law_562 : decode cL_law 562 = .ok (.iaload, 1) := by decide +kernel
theorem dL_law_563 : decode cL_law 563 = .ok (.invokevirtual 68, 3) := by decide +kernel
theorem dL_law_566 : decode cL_law 566 = .ok (.if_icmp .eq 560, 3) := by decide +kernel
theorem dL_law_569 : decode cL_law 569 = .ok (.iconst 0, 1) := by decide +kernel
theorem dL_law_570 : decode cL_law 570 = .ok (.ireturn, 1) := by decide +kernel
theorem dL_law_571 : decode cL_law 571 = .ok (.aload_n 1, 1) := by decide +kernel
theorem dL_law_572 : decode cL_law 572 = .ok (.aload_n 0, 1) := by decide +kernel
theorem dL_law_573 : decode cL_law 573 = .ok (.iload_n 3, 1) := by decide +kernel
theorem dL_law_574 : decode cL_law 574 = .ok (.iconst 1, 1) := by decide +kernel
theorem dL_law_575 : decode cL_law 575 = .ok (.iadd, 1) := by decide +kernel
theorem dL_law_576 : decode cL_law 576 = .ok (.iaload, 1) := by decide +kernel
theorem dL_law_577 : decode cL_law 577 = .ok (.invokevirtual 69, 3) := by decide +kernel
theorem dL_law_580 : decode cL_law 580 = .ok (.aload_n 2, 1) := by decide +kernel
theorem dL_law_581 : decode cL_law 581 = .ok (.aload_n 0, 1) := by decide +kernel
theorem dL_law_582 : decode cL_law 582 = .ok (.iload_n 3, 1) := by decide +kernel
theorem dL_law_583 : decode cL_law 583 = .ok (.iconst 1, 1) := by decide +kernel
theorem dL_law_584 : decode cL_law 584 = .ok (.iadd, 1) := by decide +kernel
theorem dL_law_585 : decode cL_law 585 = .ok (.iaload, 1) := by decide +kernel
theorem dL_law_586 : decode cL_law 586 = .ok (.invokevirtual 72, 3) := by decide +kernel
theorem dL_law_589 : decode cL_law 589 = .ok (.if_icmp .eq 537, 3) := by decide +kernel
theorem dL_law_592 : decode cL_law 592 = .ok (.iconst 0, 1) := by decide +kernel
theorem dL_law_593 : decode cL_law 593 = .ok (.ireturn, 1) := by decide +kernel
theorem dL_law_594 : decode cL_law 594 = .ok (.aload_n 1, 1) := by decide +kernel
theorem dL_law_595 : decode cL_law 595 = .ok (.aload_n 0, 1) := by decide +kernel
theorem dL_law_596 : decode cL_law 596 = .ok (.iload_n 3, 1) := by decide +kernel
theorem dL_law_597 : decode cL_law 597 = .ok (.iconst 1, 1) := by decide +kernel
theorem dL_law_598 : decode cL_law 598 = .ok (.iadd, 1) := by decide +kernel
theorem dL_law_599 : decode cL_law 599 = .ok (.iaload, 1) := by decide +kernel
theorem dL_law_600 : decode cL_law 600 = .ok (.invokevirtual 73, 3) := by decide +kernel
theorem dL_law_603 : decode cL_law 603 = .ok (.aload_n 2, 1) := by decide +kernel
theorem dL_law_604 : decode cL_law 604 = .ok (.aload_n 0, 1) := by decide +kernel
theorem dL_law_605 : decode cL_law 605 = .ok (.iload_n 3, 1) := by decide +kernel
theorem dL_law_606 : decode cL_law 606 = .ok (.iconst 1, 1) := by decide +kernel
theorem dL_law_607 : decode cL_law 607 = .ok (.iadd, 1) := by decide +kernel
theorem dL_law_608 : decode cL_law 608 = .ok (.iaload, 1) := by decide +kernel
theorem dL_law_609 : decode cL_law 609 = .ok (.invokevirtual 76, 3) := by decide +kernel
theorem dL_law_612 : decode cL_law 612 = .ok (.if_icmp .eq 514, 3) := by decide +kernel
theorem dL_law_615 : decode cL_law 615 = .ok (.iconst 0, 1) := by decide +kernel
theorem dL_law_616 : decode cL_law 616 = .ok (.ireturn, 1) := by decide +kernel
theorem dL_law_617 : decode cL_law 617 = .ok (.aload_n 1, 1) := by decide +kernel
theorem dL_law_618 : decode cL_law 618 = .ok (.invokevirtual 77, 3) := by decide +kernel
theorem dL_law_621 : decode cL_law 621 = .ok (.aload_n 2, 1) := by decide +kernel
theorem dL_law_622 : decode cL_law 622 = .ok (.invokevirtual 80, 3) := by decide +kernel
theorem dL_law_625 : decode cL_law 625 = .ok (.if_icmp .eq 501, 3) := by decide +kernel
theorem dL_law_628 : decode cL_law 628 = .ok (.iconst 0, 1) := by decide +kernel
theorem dL_law_629 : decode cL_law 629 = .ok (.ireturn, 1) := by decide +kernel
theorem dL_law_630 : decode cL_law 630 = .ok (.aload_n 1, 1) := by decide +kernel
theorem dL_law_631 : decode cL_law 631 = .ok (.aload_n 0, 1) := by decide +kernel
theorem dL_law_632 : decode cL_law 632 = .ok (.iload_n 3, 1) := by decide +kernel
theorem dL_law_633 : decode cL_law 633 = .ok (.iconst 1, 1) := by decide +kernel
theorem dL_law_634 : decode cL_law 634 = .ok (.iadd, 1) := by decide +kernel
theorem dL_law_635 : decode cL_law 635 = .ok (.iaload, 1) := by decide +kernel
theorem dL_law_636 : decode cL_law 636 = .ok (.invokevirtual 81, 3) := by decide +kernel
theorem dL_law_639 : decode cL_law 639 = .ok (.aload_n 2, 1) := by decide +kernel
theorem dL_law_640 : decode cL_law 640 = .ok (.aload_n 0, 1) := by decide +kernel
theorem dL_law_641 : decode cL_law 641 = .ok (.iload_n 3, 1) := by decide +kernel
theorem dL_law_642 : decode cL_law 642 = .ok (.iconst 1, 1) := by decide +kernel
theorem dL_law_643 : decode cL_law 643 = .ok (.iadd, 1) := by decide +kernel
theorem dL_law_644 : decode cL_law 644 = .ok (.iaload, 1) := by decide +kernel
theorem dL_law_645 : decode cL_law 645 = .ok (.invokevirtual 84, 3) := by decide +kernel
theorem dL_law_648 : decode cL_law 648 = .ok (.if_icmp .eq 478, 3) := by decide +kernel
theorem dL_law_651 : decode cL_law 651 = .ok (.iconst 0, 1) := by decide +kernel
theorem dL_law_652 : decode cL_law 652 = .ok (.ireturn, 1) := by decide +kernel
theorem dL_law_653 : decode cL_law 653 = .ok (.aload_n 1, 1) := by decide +kernel
theorem dL_law_654 : decode cL_law 654 = .ok (.aload_n 0, 1) := by decide +kernel
theorem dL_law_655 : decode cL_law 655 = .ok (.iload_n 3, 1) := by decide +kernel
theorem dL_law_656 : decode cL_law 656 = .ok (.iconst 1, 1) := by decide +kernel
theorem dL_law_657 : decode cL_law 657 = .ok (.iadd, 1) := by decide +kernel
theorem dL_law_658 : decode cL_law 658 = .ok (.iaload, 1) := by decide +kernel
theorem dL_law_659 : decode cL_law 659 = .ok (.invokevirtual 85, 3) := by decide +kernel
theorem dL_law_662 : decode cL_law 662 = .ok (.aload_n 2, 1) := by decide +kernel
theorem dL_law_663 : decode cL_law 663 = .ok (.aload_n 0, 1) := by decide +kernel
theorem dL_law_664 : decode cL_law 664 = .ok (.iload_n 3, 1) := by decide +kernel
theorem dL_law_665 : decode cL_law 665 = .ok (.iconst 1, 1) := by decide +kernel
theorem dL_law_666 : decode cL_law 666 = .ok (.iadd, 1) := by decide +kernel
theorem dL_law_667 : decode cL_law 667 = .ok (.iaload, 1) := by decide +kernel
theorem dL_law_668 : decode cL_law 668 = .ok (.invokevirtual 88, 3) := by decide +kernel
theorem dL_law_671 : decode cL_law 671 = .ok (.if_icmp .eq 455, 3) := by decide +kernel
theorem dL_law_674 : decode cL_law 674 = .ok (.iconst 0, 1) := by decide +kernel
theorem dL_law_675 : decode cL_law 675 = .ok (.ireturn, 1) := by decide +kernel
theorem dL_law_676 : decode cL_law 676 = .ok (.aload_n 1, 1) := by decide +kernel
theorem dL_law_677 : decode cL_law 677 = .ok (.aload_n 0, 1) := by decide +kernel
theorem dL_law_678 : decode cL_law 678 = .ok (.iload_n 3, 1) := by decide +kernel
theorem dL_law_679 : decode cL_law 679 = .ok (.iconst 1, 1) := by decide +kernel
theorem dL_law_680 : decode cL_law 680 = .ok (.iadd, 1) := by decide +kernel
theorem dL_law_681 : decode cL_law 681 = .ok (.iaload, 1) := by decide +kernel
theorem dL_law_682 : decode cL_law 682 = .ok (.invokevirtual 89, 3) := by decide +kernel
theorem dL_law_685 : decode cL_law 685 = .ok (.aload_n 2, 1) := by decide +kernel
theorem dL_law_686 : decode cL_law 686 = .ok (.aload_n 0, 1) := by decide +kernel
theorem dL_law_687 : decode cL_law 687 = .ok (.iload_n 3, 1) := by decide +kernel
theorem dL_law_688 : decode cL_law 688 = .ok (.iconst 1, 1) := by decide +kernel
theorem dL_law_689 : decode cL_law 689 = .ok (.iadd, 1) := by decide +kernel
theorem dL_law_690 : decode cL_law 690 = .ok (.iaload, 1) := by decide +kernel
theorem dL_law_691 : decode cL_law 691 = .ok (.invokevirtual 92, 3) := by decide +kernel
theorem dL_law_694 : decode cL_law 694 = .ok (.if_icmp .eq 432, 3) := by decide +kernel
theorem dL_law_697 : decode cL_law 697 = .ok (.iconst 0, 1) := by decide +kernel
theorem dL_law_698 : decode cL_law 698 = .ok (.ireturn, 1) := by decide +kernel
theorem dL_law_699 : decode cL_law 699 = .ok (.aload_n 1, 1) := by decide +kernel
theorem dL_law_700 : decode cL_law 700 = .ok (.aload_n 0, 1) := by decide +kernel
theorem dL_law_701 : decode cL_law 701 = .ok (.iload_n 3, 1) := by decide +kernel
theorem dL_law_702 : decode cL_law 702 = .ok (.iconst 1, 1) := by decide +kernel
theorem dL_law_703 : decode cL_law 703 = .ok (.iadd, 1) := by decide +kernel
theorem dL_law_704 : decode cL_law 704 = .ok (.iaload, 1) := by decide +kernel
theorem dL_law_705 : decode cL_law 705 = .ok (.aload_n 0, 1) := by decide +kernel
theorem dL_law_706 : decode cL_law 706 = .ok (.iload_n 3, 1) := by decide +kernel
theorem dL_law_707 : decode cL_law 707 = .ok (.iconst 2, 1) := by decide +kernel
theorem dL_law_708 : decode cL_law 708 = .ok (.iadd, 1) := by decide +kernel
theorem dL_law_709 : decode cL_law 709 = .ok (.iaload, 1) := by decide +kernel
theorem dL_law_710 : decode cL_law 710 = .ok (.invokevirtual 93, 3) := by decide +kernel
theorem dL_law_713 : decode cL_law 713 = .ok (.aload_n 2, 1) := by decide +kernel
theorem dL_law_714 : decode cL_law 714 = .ok (.aload_n 0, 1) := by decide +kernel
theorem dL_law_715 : decode cL_law 715 = .ok (.iload_n 3, 1) := by decide +kernel
theorem dL_law_716 : decode cL_law 716 = .ok (.iconst 1, 1) := by decide +kernel
theorem dL_law_717 : decode cL_law 717 = .ok (.iadd, 1) := by decide +kernel
theorem dL_law_718 : decode cL_law 718 = .ok (.iaload, 1) := by decide +kernel
theorem dL_law_719 : decode cL_law 719 = .ok (.aload_n 0, 1) := by decide +kernel
theorem dL_law_720 : decode cL_law 720 = .ok (.iload_n 3, 1) := by decide +kernel
theorem dL_law_721 : decode cL_law 721 = .ok (.iconst 2, 1) := by decide +kernel
theorem dL_law_722 : decode cL_law 722 = .ok (.iadd, 1) := by decide +kernel
theorem dL_law_723 : decode cL_law 723 = .ok (.iaload, 1) := by decide +kernel
theorem dL_law_724 : decode cL_law 724 = .ok (.invokevirtual 96, 3) := by decide +kernel
theorem dL_law_727 : decode cL_law 727 = .ok (.if_icmp .eq 399, 3) := by decide +kernel
theorem dL_law_730 : decode cL_law 730 = .ok (.iconst 0, 1) := by decide +kernel
theorem dL_law_731 : decode cL_law 731 = .ok (.ireturn, 1) := by decide +kernel
theorem dL_law_732 : decode cL_law 732 = .ok (.aload_n 1, 1) := by decide +kernel
theorem dL_law_733 : decode cL_law 733 = .ok (.aload_n 0, 1) := by decide +kernel
theorem dL_law_734 : decode cL_law 734 = .ok (.iload_n 3, 1) := by decide +kernel
theorem dL_law_735 : decode cL_law 735 = .ok (.iconst 1, 1) := by decide +kernel
theorem dL_law_736 : decode cL_law 736 = .ok (.iadd, 1) := by decide +kernel
theorem dL_law_737 : decode cL_law 737 = .ok (.iaload, 1) := by decide +kernel
theorem dL_law_738 : decode cL_law 738 = .ok (.invokevirtual 97, 3) := by decide +kernel
theorem dL_law_741 : decode cL_law 741 = .ok (.aload_n 2, 1) := by decide +kernel
theorem dL_law_742 : decode cL_law 742 = .ok (.aload_n 0, 1) := by decide +kernel
theorem dL_law_743 : decode cL_law 743 = .ok (.iload_n 3, 1) := by decide +kernel
theorem dL_law_744 : decode cL_law 744 = .ok (.iconst 1, 1) := by decide +kernel
theorem dL_law_745 : decode cL_law 745 = .ok (.iadd, 1) := by decide +kernel
theorem dL_law_746 : decode cL_law 746 = .ok (.iaload, 1) := by decide +kernel
theorem dL_law_747 : decode cL_law 747 = .ok (.invokevirtual 100, 3) := by decide +kernel
theorem dL_law_750 : decode cL_law 750 = .ok (.if_icmp .eq 376, 3) := by decide +kernel
theorem dL_law_753 : decode cL_law 753 = .ok (.iconst 0, 1) := by decide +kernel
theorem dL_law_754 : decode cL_law 754 = .ok (.ireturn, 1) := by decide +kernel
theorem dL_law_755 : decode cL_law 755 = .ok (.aload_n 1, 1) := by decide +kernel
theorem dL_law_756 : decode cL_law 756 = .ok (.aload_n 0, 1) := by decide +kernel
theorem dL_law_757 : decode cL_law 757 = .ok (.iload_n 3, 1) := by decide +kernel
theorem dL_law_758 : decode cL_law 758 = .ok (.iconst 1, 1) := by decide +kernel
theorem dL_law_759 : decode cL_law 759 = .ok (.iadd, 1) := by decide +kernel
theorem dL_law_760 : decode cL_law 760 = .ok (.iaload, 1) := by decide +kernel
theorem dL_law_761 : decode cL_law 761 = .ok (.aload_n 0, 1) := by decide +kernel
theorem dL_law_762 : decode cL_law 762 = .ok (.iload_n 3, 1) := by decide +kernel
theorem dL_law_763 : decode cL_law 763 = .ok (.iconst 2, 1) := by decide +kernel
theorem dL_law_764 : decode cL_law 764 = .ok (.iadd, 1) := by decide +kernel
theorem dL_law_765 : decode cL_law 765 = .ok (.iaload, 1) := by decide +kernel
theorem dL_law_766 : decode cL_law 766 = .ok (.invokevirtual 101, 3) := by decide +kernel
theorem dL_law_769 : decode cL_law 769 = .ok (.aload_n 2, 1) := by decide +kernel
theorem dL_law_770 : decode cL_law 770 = .ok (.aload_n 0, 1) := by decide +kernel
theorem dL_law_771 : decode cL_law 771 = .ok (.iload_n 3, 1) := by decide +kernel
theorem dL_law_772 : decode cL_law 772 = .ok (.iconst 1, 1) := by decide +kernel
theorem dL_law_773 : decode cL_law 773 = .ok (.iadd, 1) := by decide +kernel
theorem dL_law_774 : decode cL_law 774 = .ok (.iaload, 1) := by decide +kernel
theorem dL_law_775 : decode cL_law 775 = .ok (.aload_n 0, 1) := by decide +kernel
theorem dL_law_776 : decode cL_law 776 = .ok (.iload_n 3, 1) := by decide +kernel
theorem dL_law_777 : decode cL_law 777 = .ok (.iconst 2, 1) := by decide +kernel
theorem dL_law_778 : decode cL_law 778 = .ok (.iadd, 1) := by decide +kernel
theorem dL_law_779 : decode cL_law 779 = .ok (.iaload, 1) := by decide +kernel
theorem dL_law_780 : decode cL_law 780 = .ok (.invokevirtual 104, 3) := by decide +kernel
theorem dL_law_783 : decode cL_law 783 = .ok (.if_icmp .eq 343, 3) := by decide +kernel
theorem dL_law_786 : decode cL_law 786 = .ok (.iconst 0, 1) := by decide +kernel
theorem dL_law_787 : decode cL_law 787 = .ok (.ireturn, 1) := by decide +kernel
theorem dL_law_788 : decode cL_law 788 = .ok (.aload_n 1, 1) := by decide +kernel
theorem dL_law_789 : decode cL_law 789 = .ok (.aload_n 0, 1) := by decide +kernel
theorem dL_law_790 : decode cL_law 790 = .ok (.iload_n 3, 1) := by decide +kernel
theorem dL_law_791 : decode cL_law 791 = .ok (.iconst 1, 1) := by decide +kernel
theorem dL_law_792 : decode cL_law 792 = .ok (.iadd, 1) := by decide +kernel
theorem dL_law_793 : decode cL_law 793 = .ok (.iaload, 1) := by decide +kernel
theorem dL_law_794 : decode cL_law 794 = .ok (.aload_n 0, 1) := by decide +kernel
theorem dL_law_795 : decode cL_law 795 = .ok (.iload_n 3, 1) := by decide +kernel
theorem dL_law_796 : decode cL_law 796 = .ok (.iconst 2, 1) := by decide +kernel
theorem dL_law_797 : decode cL_law 797 = .ok (.iadd, 1) := by decide +kernel
theorem dL_law_798 : decode cL_law 798 = .ok (.iaload, 1) := by decide +kernel
theorem dL_law_799 : decode cL_law 799 = .ok (.aload_n 0, 1) := by decide +kernel
theorem dL_law_800 : decode cL_law 800 = .ok (.iload_n 3, 1) := by decide +kernel
theorem dL_law_801 : decode cL_law 801 = .ok (.iconst 3, 1) := by decide +kernel
theorem dL_law_802 : decode cL_law 802 = .ok (.iadd, 1) := by decide +kernel
theorem dL_law_803 : decode cL_law 803 = .ok (.iaload, 1) := by decide +kernel
theorem dL_law_804 : decode cL_law 804 = .ok (.aload_n 0, 1) := by decide +kernel
theorem dL_law_805 : decode cL_law 805 = .ok (.iload_n 3, 1) := by decide +kernel
theorem dL_law_806 : decode cL_law 806 = .ok (.iconst 4, 1) := by decide +kernel
theorem dL_law_807 : decode cL_law 807 = .ok (.iadd, 1) := by decide +kernel
theorem dL_law_808 : decode cL_law 808 = .ok (.iaload, 1) := by decide +kernel
theorem dL_law_809 : decode cL_law 809 = .ok (.invokevirtual 105, 3) := by decide +kernel
theorem dL_law_812 : decode cL_law 812 = .ok (.aload_n 2, 1) := by decide +kernel
theorem dL_law_813 : decode cL_law 813 = .ok (.aload_n 0, 1) := by decide +kernel
theorem dL_law_814 : decode cL_law 814 = .ok (.iload_n 3, 1) := by decide +kernel
theorem dL_law_815 : decode cL_law 815 = .ok (.iconst 1, 1) := by decide +kernel
theorem dL_law_816 : decode cL_law 816 = .ok (.iadd, 1) := by decide +kernel
theorem dL_law_817 : decode cL_law 817 = .ok (.iaload, 1) := by decide +kernel
theorem dL_law_818 : decode cL_law 818 = .ok (.aload_n 0, 1) := by decide +kernel
theorem dL_law_819 : decode cL_law 819 = .ok (.iload_n 3, 1) := by decide +kernel
theorem dL_law_820 : decode cL_law 820 = .ok (.iconst 2, 1) := by decide +kernel
theorem dL_law_821 : decode cL_law 821 = .ok (.iadd, 1) := by decide +kernel
theorem dL_law_822 : decode cL_law 822 = .ok (.iaload, 1) := by decide +kernel
theorem dL_law_823 : decode cL_law 823 = .ok (.aload_n 0, 1) := by decide +kernel
theorem dL_law_824 : decode cL_law 824 = .ok (.iload_n 3, 1) := by decide +kernel
theorem dL_law_825 : decode cL_law 825 = .ok (.iconst 3, 1) := by decide +kernel
theorem dL_law_826 : decode cL_law 826 = .ok (.iadd, 1) := by decide +kernel
theorem dL_law_827 : decode cL_law 827 = .ok (.iaload, 1) := by decide +kernel
theorem dL_law_828 : decode cL_law 828 = .ok (.aload_n 0, 1) := by decide +kernel
theorem dL_law_829 : decode cL_law 829 = .ok (.iload_n 3, 1) := by decide +kernel
theorem dL_law_830 : decode cL_law 830 = .ok (.iconst 4, 1) := by decide +kernel
theorem dL_law_831 : decode cL_law 831 = .ok (.iadd, 1) := by decide +kernel
theorem dL_law_832 : decode cL_law 832 = .ok (.iaload, 1) := by decide +kernel
theorem dL_law_833 : decode cL_law 833 = .ok (.invokevirtual 109, 3) := by decide +kernel
theorem dL_law_836 : decode cL_law 836 = .ok (.lcmp, 1) := by decide +kernel
theorem dL_law_837 : decode cL_law 837 = .ok (.ifCond .eq 289, 3) := by decide +kernel
theorem dL_law_840 : decode cL_law 840 = .ok (.iconst 0, 1) := by decide +kernel
theorem dL_law_841 : decode cL_law 841 = .ok (.ireturn, 1) := by decide +kernel
theorem dL_law_842 : decode cL_law 842 = .ok (.aload_n 1, 1) := by decide +kernel
theorem dL_law_843 : decode cL_law 843 = .ok (.invokevirtual 110, 3) := by decide +kernel
theorem dL_law_846 : decode cL_law 846 = .ok (.aload_n 2, 1) := by decide +kernel
theorem dL_law_847 : decode cL_law 847 = .ok (.invokevirtual 113, 3) := by decide +kernel
theorem dL_law_850 : decode cL_law 850 = .ok (.if_icmp .eq 276, 3) := by decide +kernel
theorem dL_law_853 : decode cL_law 853 = .ok (.iconst 0, 1) := by decide +kernel
theorem dL_law_854 : decode cL_law 854 = .ok (.ireturn, 1) := by decide +kernel
theorem dL_law_855 : decode cL_law 855 = .ok (.aload_n 1, 1) := by decide +kernel
theorem dL_law_856 : decode cL_law 856 = .ok (.invokevirtual 114, 3) := by decide +kernel
theorem dL_law_859 : decode cL_law 859 = .ok (.aload_n 2, 1) := by decide +kernel
theorem dL_law_860 : decode cL_law 860 = .ok (.invokevirtual 117, 3) := by decide +kernel
theorem dL_law_863 : decode cL_law 863 = .ok (.if_icmp .eq 263, 3) := by decide +kernel
theorem dL_law_866 : decode cL_law 866 = .ok (.iconst 0, 1) := by decide +kernel
theorem dL_law_867 : decode cL_law 867 = .ok (.ireturn, 1) := by decide +kernel
theorem dL_law_868 : decode cL_law 868 = .ok (.aload_n 1, 1) := by decide +kernel
theorem dL_law_869 : decode cL_law 869 = .ok (.aload_n 0, 1) := by decide +kernel
theorem dL_law_870 : decode cL_law 870 = .ok (.iload_n 3, 1) := by decide +kernel
theorem dL_law_871 : decode cL_law 871 = .ok (.iconst 1, 1) := by decide +kernel
theorem dL_law_872 : decode cL_law 872 = .ok (.iadd, 1) := by decide +kernel
theorem dL_law_873 : decode cL_law 873 = .ok (.iaload, 1) := by decide +kernel
theorem dL_law_874 : decode cL_law 874 = .ok (.invokevirtual 118, 3) := by decide +kernel
theorem dL_law_877 : decode cL_law 877 = .ok (.aload_n 2, 1) := by decide +kernel
theorem dL_law_878 : decode cL_law 878 = .ok (.aload_n 0, 1) := by decide +kernel
theorem dL_law_879 : decode cL_law 879 = .ok (.iload_n 3, 1) := by decide +kernel
theorem dL_law_880 : decode cL_law 880 = .ok (.iconst 1, 1) := by decide +kernel
theorem dL_law_881 : decode cL_law 881 = .ok (.iadd, 1) := by decide +kernel
theorem dL_law_882 : decode cL_law 882 = .ok (.iaload, 1) := by decide +kernel
theorem dL_law_883 : decode cL_law 883 = .ok (.invokevirtual 121, 3) := by decide +kernel
theorem dL_law_886 : decode cL_law 886 = .ok (.if_icmp .eq 240, 3) := by decide +kernel
theorem dL_law_889 : decode cL_law 889 = .ok (.iconst 0, 1) := by decide +kernel
theorem dL_law_890 : decode cL_law 890 = .ok (.ireturn, 1) := by decide +kernel
theorem dL_law_891 : decode cL_law 891 = .ok (.aload_n 1, 1) := by decide +kernel
theorem dL_law_892 : decode cL_law 892 = .ok (.aload_n 0, 1) := by decide +kernel
theorem dL_law_893 : decode cL_law 893 = .ok (.iload_n 3, 1) := by decide +kernel
theorem dL_law_894 : decode cL_law 894 = .ok (.iconst 1, 1) := by decide +kernel
theorem dL_law_895 : decode cL_law 895 = .ok (.iadd, 1) := by decide +kernel
theorem dL_law_896 : decode cL_law 896 = .ok (.iaload, 1) := by decide +kernel
theorem dL_law_897 : decode cL_law 897 = .ok (.aload_n 0, 1) := by decide +kernel
theorem dL_law_898 : decode cL_law 898 = .ok (.iload_n 3, 1) := by decide +kernel
theorem dL_law_899 : decode cL_law 899 = .ok (.iconst 2, 1) := by decide +kernel
theorem dL_law_900 : decode cL_law 900 = .ok (.iadd, 1) := by decide +kernel
theorem dL_law_901 : decode cL_law 901 = .ok (.iaload, 1) := by decide +kernel
theorem dL_law_902 : decode cL_law 902 = .ok (.aload_n 0, 1) := by decide +kernel
theorem dL_law_903 : decode cL_law 903 = .ok (.iload_n 3, 1) := by decide +kernel
theorem dL_law_904 : decode cL_law 904 = .ok (.iconst 3, 1) := by decide +kernel
theorem dL_law_905 : decode cL_law 905 = .ok (.iadd, 1) := by decide +kernel
theorem dL_law_906 : decode cL_law 906 = .ok (.iaload, 1) := by decide +kernel
theorem dL_law_907 : decode cL_law 907 = .ok (.invokevirtual 122, 3) := by decide +kernel
theorem dL_law_910 : decode cL_law 910 = .ok (.aload_n 2, 1) := by decide +kernel
theorem dL_law_911 : decode cL_law 911 = .ok (.aload_n 0, 1) := by decide +kernel
theorem dL_law_912 : decode cL_law 912 = .ok (.iload_n 3, 1) := by decide +kernel
theorem dL_law_913 : decode cL_law 913 = .ok (.iconst 1, 1) := by decide +kernel
theorem dL_law_914 : decode cL_law 914 = .ok (.iadd, 1) := by decide +kernel
theorem dL_law_915 : decode cL_law 915 = .ok (.iaload, 1) := by decide +kernel
theorem dL_law_916 : decode cL_law 916 = .ok (.aload_n 0, 1) := by decide +kernel
theorem dL_law_917 : decode cL_law 917 = .ok (.iload_n 3, 1) := by decide +kernel
theorem dL_law_918 : decode cL_law 918 = .ok (.iconst 2, 1) := by decide +kernel
theorem dL_law_919 : decode cL_law 919 = .ok (.iadd, 1) := by decide +kernel
theorem dL_law_920 : decode cL_law 920 = .ok (.iaload, 1) := by decide +kernel
theorem dL_law_921 : decode cL_law 921 = .ok (.aload_n 0, 1) := by decide +kernel
theorem dL_law_922 : decode cL_law 922 = .ok (.iload_n 3, 1) := by decide +kernel
theorem dL_law_923 : decode cL_law 923 = .ok (.iconst 3, 1) := by decide +kernel
theorem dL_law_924 : decode cL_law 924 = .ok (.iadd, 1) := by decide +kernel
theorem dL_law_925 : decode cL_law 925 = .ok (.iaload, 1) := by decide +kernel
theorem dL_law_926 : decode cL_law 926 = .ok (.invokevirtual 125, 3) := by decide +kernel
theorem dL_law_929 : decode cL_law 929 = .ok (.if_icmp .eq 197, 3) := by decide +kernel
theorem dL_law_932 : decode cL_law 932 = .ok (.iconst 0, 1) := by decide +kernel
theorem dL_law_933 : decode cL_law 933 = .ok (.ireturn, 1) := by decide +kernel
theorem dL_law_934 : decode cL_law 934 = .ok (.aload_n 1, 1) := by decide +kernel
theorem dL_law_935 : decode cL_law 935 = .ok (.aload_n 0, 1) := by decide +kernel
theorem dL_law_936 : decode cL_law 936 = .ok (.iload_n 3, 1) := by decide +kernel
theorem dL_law_937 : decode cL_law 937 = .ok (.iconst 1, 1) := by decide +kernel
theorem dL_law_938 : decode cL_law 938 = .ok (.iadd, 1) := by decide +kernel
theorem dL_law_939 : decode cL_law 939 = .ok (.iaload, 1) := by decide +kernel
theorem dL_law_940 : decode cL_law 940 = .ok (.aload_n 0, 1) := by decide +kernel
theorem dL_law_941 : decode cL_law 941 = .ok (.iload_n 3, 1) := by decide +kernel
theorem dL_law_942 : decode cL_law 942 = .ok (.iconst 2, 1) := by decide +kernel
theorem dL_law_943 : decode cL_law 943 = .ok (.iadd, 1) := by decide +kernel
theorem dL_law_944 : decode cL_law 944 = .ok (.iaload, 1) := by decide +kernel
theorem dL_law_945 : decode cL_law 945 = .ok (.aload_n 0, 1) := by decide +kernel
theorem dL_law_946 : decode cL_law 946 = .ok (.iload_n 3, 1) := by decide +kernel
theorem dL_law_947 : decode cL_law 947 = .ok (.iconst 3, 1) := by decide +kernel
theorem dL_law_948 : decode cL_law 948 = .ok (.iadd, 1) := by decide +kernel
theorem dL_law_949 : decode cL_law 949 = .ok (.iaload, 1) := by decide +kernel
theorem dL_law_950 : decode cL_law 950 = .ok (.invokevirtual 126, 3) := by decide +kernel
theorem dL_law_953 : decode cL_law 953 = .ok (.aload_n 2, 1) := by decide +kernel
theorem dL_law_954 : decode cL_law 954 = .ok (.aload_n 0, 1) := by decide +kernel
theorem dL_law_955 : decode cL_law 955 = .ok (.iload_n 3, 1) := by decide +kernel
theorem dL_law_956 : decode cL_law 956 = .ok (.iconst 1, 1) := by decide +kernel
theorem dL_law_957 : decode cL_law 957 = .ok (.iadd, 1) := by decide +kernel
theorem dL_law_958 : decode cL_law 958 = .ok (.iaload, 1) := by decide +kernel
theorem dL_law_959 : decode cL_law 959 = .ok (.aload_n 0, 1) := by decide +kernel
theorem dL_law_960 : decode cL_law 960 = .ok (.iload_n 3, 1) := by decide +kernel
theorem dL_law_961 : decode cL_law 961 = .ok (.iconst 2, 1) := by decide +kernel
theorem dL_law_962 : decode cL_law 962 = .ok (.iadd, 1) := by decide +kernel
theorem dL_law_963 : decode cL_law 963 = .ok (.iaload, 1) := by decide +kernel
theorem dL_law_964 : decode cL_law 964 = .ok (.aload_n 0, 1) := by decide +kernel
theorem dL_law_965 : decode cL_law 965 = .ok (.iload_n 3, 1) := by decide +kernel
theorem dL_law_966 : decode cL_law 966 = .ok (.iconst 3, 1) := by decide +kernel
theorem dL_law_967 : decode cL_law 967 = .ok (.iadd, 1) := by decide +kernel
theorem dL_law_968 : decode cL_law 968 = .ok (.iaload, 1) := by decide +kernel
theorem dL_law_969 : decode cL_law 969 = .ok (.invokevirtual 129, 3) := by decide +kernel
theorem dL_law_972 : decode cL_law 972 = .ok (.if_icmp .eq 154, 3) := by decide +kernel
theorem dL_law_975 : decode cL_law 975 = .ok (.iconst 0, 1) := by decide +kernel
theorem dL_law_976 : decode cL_law 976 = .ok (.ireturn, 1) := by decide +kernel
theorem dL_law_977 : decode cL_law 977 = .ok (.aload_n 1, 1) := by decide +kernel
theorem dL_law_978 : decode cL_law 978 = .ok (.aload_n 0, 1) := by decide +kernel
theorem dL_law_979 : decode cL_law 979 = .ok (.iload_n 3, 1) := by decide +kernel
theorem dL_law_980 : decode cL_law 980 = .ok (.iconst 1, 1) := by decide +kernel
theorem dL_law_981 : decode cL_law 981 = .ok (.iadd, 1) := by decide +kernel
theorem dL_law_982 : decode cL_law 982 = .ok (.iaload, 1) := by decide +kernel
theorem dL_law_983 : decode cL_law 983 = .ok (.aload_n 0, 1) := by decide +kernel
theorem dL_law_984 : decode cL_law 984 = .ok (.iload_n 3, 1) := by decide +kernel
theorem dL_law_985 : decode cL_law 985 = .ok (.iconst 2, 1) := by decide +kernel
theorem dL_law_986 : decode cL_law 986 = .ok (.iadd, 1) := by decide +kernel
theorem dL_law_987 : decode cL_law 987 = .ok (.iaload, 1) := by decide +kernel
theorem dL_law_988 : decode cL_law 988 = .ok (.aload_n 0, 1) := by decide +kernel
theorem dL_law_989 : decode cL_law 989 = .ok (.iload_n 3, 1) := by decide +kernel
theorem dL_law_990 : decode cL_law 990 = .ok (.iconst 3, 1) := by decide +kernel
theorem dL_law_991 : decode cL_law 991 = .ok (.iadd, 1) := by decide +kernel
theorem dL_law_992 : decode cL_law 992 = .ok (.iaload, 1) := by decide +kernel
theorem dL_law_993 : decode cL_law 993 = .ok (.aload_n 0, 1) := by decide +kernel
theorem dL_law_994 : decode cL_law 994 = .ok (.iload_n 3, 1) := by decide +kernel
theorem dL_law_995 : decode cL_law 995 = .ok (.iconst 4, 1) := by decide +kernel
theorem dL_law_996 : decode cL_law 996 = .ok (.iadd, 1) := by decide +kernel
theorem dL_law_997 : decode cL_law 997 = .ok (.iaload, 1) := by decide +kernel
theorem dL_law_998 : decode cL_law 998 = .ok (.aload_n 0, 1) := by decide +kernel
theorem dL_law_999 : decode cL_law 999 = .ok (.iload_n 3, 1) := by decide +kernel
theorem dL_law_1000 : decode cL_law 1000 = .ok (.iconst 5, 1) := by decide +kernel
theorem dL_law_1001 : decode cL_law 1001 = .ok (.iadd, 1) := by decide +kernel
theorem dL_law_1002 : decode cL_law 1002 = .ok (.iaload, 1) := by decide +kernel
theorem dL_law_1003 : decode cL_law 1003 = .ok (.invokevirtual 130, 3) := by decide +kernel
theorem dL_law_1006 : decode cL_law 1006 = .ok (.aload_n 2, 1) := by decide +kernel
theorem dL_law_1007 : decode cL_law 1007 = .ok (.aload_n 0, 1) := by decide +kernel
theorem dL_law_1008 : decode cL_law 1008 = .ok (.iload_n 3, 1) := by decide +kernel
theorem dL_law_1009 : decode cL_law 1009 = .ok (.iconst 1, 1) := by decide +kernel
theorem dL_law_1010 : decode cL_law 1010 = .ok (.iadd, 1) := by decide +kernel
theorem dL_law_1011 : decode cL_law 1011 = .ok (.iaload, 1) := by decide +kernel
theorem dL_law_1012 : decode cL_law 1012 = .ok (.aload_n 0, 1) := by decide +kernel
theorem dL_law_1013 : decode cL_law 1013 = .ok (.iload_n 3, 1) := by decide +kernel
theorem dL_law_1014 : decode cL_law 1014 = .ok (.iconst 2, 1) := by decide +kernel
theorem dL_law_1015 : decode cL_law 1015 = .ok (.iadd, 1) := by decide +kernel
theorem dL_law_1016 : decode cL_law 1016 = .ok (.iaload, 1) := by decide +kernel
theorem dL_law_1017 : decode cL_law 1017 = .ok (.aload_n 0, 1) := by decide +kernel
theorem dL_law_1018 : decode cL_law 1018 = .ok (.iload_n 3, 1) := by decide +kernel
theorem dL_law_1019 : decode cL_law 1019 = .ok (.iconst 3, 1) := by decide +kernel
theorem dL_law_1020 : decode cL_law 1020 = .ok (.iadd, 1) := by decide +kernel
theorem dL_law_1021 : decode cL_law 1021 = .ok (.iaload, 1) := by decide +kernel
theorem dL_law_1022 : decode cL_law 1022 = .ok (.aload_n 0, 1) := by decide +kernel
theorem dL_law_1023 : decode cL_law 1023 = .ok (.iload_n 3, 1) := by decide +kernel
theorem dL_law_1024 : decode cL_law 1024 = .ok (.iconst 4, 1) := by decide +kernel
theorem dL_law_1025 : decode cL_law 1025 = .ok (.iadd, 1) := by decide +kernel
theorem dL_law_1026 : decode cL_law 1026 = .ok (.iaload, 1) := by decide +kernel
theorem dL_law_1027 : decode cL_law 1027 = .ok (.aload_n 0, 1) := by decide +kernel
theorem dL_law_1028 : decode cL_law 1028 = .ok (.iload_n 3, 1) := by decide +kernel
theorem dL_law_1029 : decode cL_law 1029 = .ok (.iconst 5, 1) := by decide +kernel
theorem dL_law_1030 : decode cL_law 1030 = .ok (.iadd, 1) := by decide +kernel
theorem dL_law_1031 : decode cL_law 1031 = .ok (.iaload, 1) := by decide +kernel
theorem dL_law_1032 : decode cL_law 1032 = .ok (.invokevirtual 134, 3) := by decide +kernel
theorem dL_law_1035 : decode cL_law 1035 = .ok (.if_icmp .eq 91, 3) := by decide +kernel
theorem dL_law_1038 : decode cL_law 1038 = .ok (.iconst 0, 1) := by decide +kernel
theorem dL_law_1039 : decode cL_law 1039 = .ok (.ireturn, 1) := by decide +kernel
theorem dL_law_1040 : decode cL_law 1040 = .ok (.aload_n 1, 1) := by decide +kernel
theorem dL_law_1041 : decode cL_law 1041 = .ok (.aload_n 0, 1) := by decide +kernel
theorem dL_law_1042 : decode cL_law 1042 = .ok (.iload_n 3, 1) := by decide +kernel
theorem dL_law_1043 : decode cL_law 1043 = .ok (.iconst 1, 1) := by decide +kernel
theorem dL_law_1044 : decode cL_law 1044 = .ok (.iadd, 1) := by decide +kernel
theorem dL_law_1045 : decode cL_law 1045 = .ok (.iaload, 1) := by decide +kernel
theorem dL_law_1046 : decode cL_law 1046 = .ok (.aload_n 0, 1) := by decide +kernel
theorem dL_law_1047 : decode cL_law 1047 = .ok (.iload_n 3, 1) := by decide +kernel
theorem dL_law_1048 : decode cL_law 1048 = .ok (.iconst 2, 1) := by decide +kernel
theorem dL_law_1049 : decode cL_law 1049 = .ok (.iadd, 1) := by decide +kernel
theorem dL_law_1050 : decode cL_law 1050 = .ok (.iaload, 1) := by decide +kernel
theorem dL_law_1051 : decode cL_law 1051 = .ok (.aload_n 0, 1) := by decide +kernel
theorem dL_law_1052 : decode cL_law 1052 = .ok (.iload_n 3, 1) := by decide +kernel
theorem dL_law_1053 : decode cL_law 1053 = .ok (.iconst 3, 1) := by decide +kernel
theorem dL_law_1054 : decode cL_law 1054 = .ok (.iadd, 1) := by decide +kernel
theorem dL_law_1055 : decode cL_law 1055 = .ok (.iaload, 1) := by decide +kernel
theorem dL_law_1056 : decode cL_law 1056 = .ok (.aload_n 0, 1) := by decide +kernel
theorem dL_law_1057 : decode cL_law 1057 = .ok (.iload_n 3, 1) := by decide +kernel
theorem dL_law_1058 : decode cL_law 1058 = .ok (.iconst 4, 1) := by decide +kernel
theorem dL_law_1059 : decode cL_law 1059 = .ok (.iadd, 1) := by decide +kernel
theorem dL_law_1060 : decode cL_law 1060 = .ok (.iaload, 1) := by decide +kernel
theorem dL_law_1061 : decode cL_law 1061 = .ok (.invokevirtual 135, 3) := by decide +kernel
theorem dL_law_1064 : decode cL_law 1064 = .ok (.aload_n 2, 1) := by decide +kernel
theorem dL_law_1065 : decode cL_law 1065 = .ok (.aload_n 0, 1) := by decide +kernel
theorem dL_law_1066 : decode cL_law 1066 = .ok (.iload_n 3, 1) := by decide +kernel
theorem dL_law_1067 : decode cL_law 1067 = .ok (.iconst 1, 1) := by decide +kernel
theorem dL_law_1068 : decode cL_law 1068 = .ok (.iadd, 1) := by decide +kernel
theorem dL_law_1069 : decode cL_law 1069 = .ok (.iaload, 1) := by decide +kernel
theorem dL_law_1070 : decode cL_law 1070 = .ok (.aload_n 0, 1) := by decide +kernel
theorem dL_law_1071 : decode cL_law 1071 = .ok (.iload_n 3, 1) := by decide +kernel
theorem dL_law_1072 : decode cL_law 1072 = .ok (.iconst 2, 1) := by decide +kernel
theorem dL_law_1073 : decode cL_law 1073 = .ok (.iadd, 1) := by decide +kernel
theorem dL_law_1074 : decode cL_law 1074 = .ok (.iaload, 1) := by decide +kernel
theorem dL_law_1075 : decode cL_law 1075 = .ok (.aload_n 0, 1) := by decide +kernel
theorem dL_law_1076 : decode cL_law 1076 = .ok (.iload_n 3, 1) := by decide +kernel
theorem dL_law_1077 : decode cL_law 1077 = .ok (.iconst 3, 1) := by decide +kernel
theorem dL_law_1078 : decode cL_law 1078 = .ok (.iadd, 1) := by decide +kernel
theorem dL_law_1079 : decode cL_law 1079 = .ok (.iaload, 1) := by decide +kernel
theorem dL_law_1080 : decode cL_law 1080 = .ok (.aload_n 0, 1) := by decide +kernel
theorem dL_law_1081 : decode cL_law 1081 = .ok (.iload_n 3, 1) := by decide +kernel
theorem dL_law_1082 : decode cL_law 1082 = .ok (.iconst 4, 1) := by decide +kernel
theorem dL_law_1083 : decode cL_law 1083 = .ok (.iadd, 1) := by decide +kernel
theorem dL_law_1084 : decode cL_law 1084 = .ok (.iaload, 1) := by decide +kernel
theorem dL_law_1085 : decode cL_law 1085 = .ok (.invokevirtual 139, 3) := by decide +kernel
theorem dL_law_1088 : decode cL_law 1088 = .ok (.if_icmp .eq 38, 3) := by decide +kernel
theorem dL_law_1091 : decode cL_law 1091 = .ok (.iconst 0, 1) := by decide +kernel
theorem dL_law_1092 : decode cL_law 1092 = .ok (.ireturn, 1) := by decide +kernel
theorem dL_law_1093 : decode cL_law 1093 = .ok (.aload_n 1, 1) := by decide +kernel
theorem dL_law_1094 : decode cL_law 1094 = .ok (.aload_n 0, 1) := by decide +kernel
theorem dL_law_1095 : decode cL_law 1095 = .ok (.iload_n 3, 1) := by decide +kernel
theorem dL_law_1096 : decode cL_law 1096 = .ok (.iconst 1, 1) := by decide +kernel
theorem dL_law_1097 : decode cL_law 1097 = .ok (.iadd, 1) := by decide +kernel
theorem dL_law_1098 : decode cL_law 1098 = .ok (.iaload, 1) := by decide +kernel
theorem dL_law_1099 : decode cL_law 1099 = .ok (.aload_n 0, 1) := by decide +kernel
theorem dL_law_1100 : decode cL_law 1100 = .ok (.iload_n 3, 1) := by decide +kernel
theorem dL_law_1101 : decode cL_law 1101 = .ok (.iconst 2, 1) := by decide +kernel
theorem dL_law_1102 : decode cL_law 1102 = .ok (.iadd, 1) := by decide +kernel
theorem dL_law_1103 : decode cL_law 1103 = .ok (.iaload, 1) := by decide +kernel
theorem dL_law_1104 : decode cL_law 1104 = .ok (.invokevirtual 140, 3) := by decide +kernel
theorem dL_law_1107 : decode cL_law 1107 = .ok (.aload_n 2, 1) := by decide +kernel
theorem dL_law_1108 : decode cL_law 1108 = .ok (.aload_n 0, 1) := by decide +kernel
theorem dL_law_1109 : decode cL_law 1109 = .ok (.iload_n 3, 1) := by decide +kernel
theorem dL_law_1110 : decode cL_law 1110 = .ok (.iconst 1, 1) := by decide +kernel
theorem dL_law_1111 : decode cL_law 1111 = .ok (.iadd, 1) := by decide +kernel
theorem dL_law_1112 : decode cL_law 1112 = .ok (.iaload, 1) := by decide +kernel
theorem dL_law_1113 : decode cL_law 1113 = .ok (.aload_n 0, 1) := by decide +kernel
theorem dL_law_1114 : decode cL_law 1114 = .ok (.iload_n 3, 1) := by decide +kernel
theorem dL_law_1115 : decode cL_law 1115 = .ok (.iconst 2, 1) := by decide +kernel
theorem dL_law_1116 : decode cL_law 1116 = .ok (.iadd, 1) := by decide +kernel
theorem dL_law_1117 : decode cL_law 1117 = .ok (.iaload, 1) := by decide +kernel
theorem dL_law_1118 : decode cL_law 1118 = .ok (.invokevirtual 143, 3) := by decide +kernel
theorem dL_law_1121 : decode cL_law 1121 = .ok (.if_icmp .eq 5, 3) := by decide +kernel
theorem dL_law_1124 : decode cL_law 1124 = .ok (.iconst 0, 1) := by decide +kernel
theorem dL_law_1125 : decode cL_law 1125 = .ok (.ireturn, 1) := by decide +kernel
theorem dL_law_1126 : decode cL_law 1126 = .ok (.iinc 3 6, 3) := by decide +kernel
theorem dL_law_1129 : decode cL_law 1129 = .ok (.goto (-1111), 3) := by decide +kernel
theorem dL_law_1132 : decode cL_law 1132 = .ok (.iconst 1, 1) := by decide +kernel
theorem dL_law_1133 : decode cL_law 1133 = .ok (.ireturn, 1) := by decide +kernel
end
section
/-! ===== the layer: a small clean machine over the kit's ===== -/
/-- a cell: an array of ints; an array of references (its number, its contents); an object (its class's number, its fields) -/
abbrev MC : Type := List Int32 ⊕ ((Nat × List (Option Nat)) ⊕ (Nat × List Value))
/-- the memory: cells by their addresses, how many cells the heap has, how many slots were made -/
abbrev Mm : Type := (Nat → Option MC) × (Nat × Nat)
/-- what stays during the whole run: launch, class numbers, array classes, the first new address, addresses of constants -/
abbrev Gl : Type := Launch × (va_G × ((Nat → ClassId) × (Nat × ((Nat → Nat) × List Int32))))
/-- a method: name, bytes, locals, what it answers -/
abbrev Md : Type := MethodName × (ByteArray × (Nat × Option FieldType))
abbrev gL (g : Gl) : Launch := g.1
abbrev gD (g : Gl) : va_G := g.2.1
abbrev gA (g : Gl) : Nat → ClassId := g.2.2.1
abbrev gB (g : Gl) : Nat := g.2.2.2.1
abbrev gS (g : Gl) : Nat → Nat := g.2.2.2.2.1
/-- the script -/
abbrev gX (g : Gl) : List Int32 := g.2.2.2.2.2
def mE (g : Gl) : MC → va_E := fun e => match e with
  | .inl l => .inl (gA g 0, l.length, .inl (fun j => l.getD j 0))
  | .inr (.inl (t, l)) => .inl (gA g t, l.length, .inr (.inr (.inr (.inr (fun j => l.getD j none)))))
  | .inr (.inr o) => .inr o
def mupd (μ : Mm) (a : Nat) (e : MC) : Mm := (fun q => if q = a then some e else μ.1 q, μ.2)
def mnew (μ : Mm) (e : MC) (k : Nat) : Mm := (fun q => if q = μ.2.1 then some e else μ.1 q, (μ.2.1 + 1, μ.2.2 + k))
def Rl (g : Gl) (μ : Mm) (H : Heap) : Prop := H.size = μ.2.1 ∧ ∀ a e, μ.1 a = some e → va_at (gD g) vwCl (a, mE g e) H
abbrev Hi (g : Gl) : Nat → Prop := fun q => gB g ≤ q
def tysG (g : Gl) : List (ClassId × FieldType) := [(gA g 0, .int), (gA g 1, .object "PapersEarly$Door"), (gA g 2, .object "PapersEarly$Rule"), (gA g 3, .object "PapersEarly$Sheet"), (gA g 4, .object "PapersEarly$Walk"), (gA g 5, .array .int)]
/-- static rows of ints: class, field, contents -/
def saT : List (String × String × List Int32) := [(RX11, "FIRST_TERMS", [12, 0, 0, 4, 1, 0, 1, 2, 3, 4]), (RX11, "LEAST_TERMS", [4, 0, 0, 1, 0, 0, 1, 1, 1, 1]), (RX11, "MOST_TERMS", [60, 99, 999, 9, 9, 9, 9, 9, 9, 9]), (RX11, "MOST_FACTS", [9, 99, 1, 3]), (RX12, "LEAST_SET", [4, 0, 0, 1, 0, 0, 1, 1, 1, 1]), (RX12, "MOST_SET", [60, 99, 999, 9, 9, 9, 9, 9, 9, 9])]
/-- text constants: class, pool entry, text -/
def scT : List (String × Nat × String) := [(RX11, 100, "by 30 + house * 5 ; rings 5 < late ; tips 20 - late ;"), (RX4, 99, "by"), (RX4, 105, "rings"), (RX4, 107, "tips"), (RX4, 109, "or"), (RX4, 111, "and"), (RX4, 113, "not"), (RX4, 115, "place"), (RX4, 117, "side"), (RX4, 119, "sort"), (RX4, 121, "late"), (RX4, 123, "rain"), (RX4, 125, "house")]
def scB : List (List Int32) := [[98, 121, 32, 51, 48, 32, 43, 32, 104, 111, 117, 115, 101, 32, 42, 32, 53, 32, 59, 32, 114, 105, 110, 103, 115, 32, 53, 32, 60, 32, 108, 97, 116, 101, 32, 59, 32, 116, 105, 112, 115, 32, 50, 48, 32, 45, 32, 108, 97, 116, 101, 32, 59], [98, 121], [114, 105, 110, 103, 115], [116, 105, 112, 115], [111, 114], [97, 110, 100], [110, 111, 116], [112, 108, 97, 99, 101], [115, 105, 100, 101], [115, 111, 114, 116], [108, 97, 116, 101], [114, 97, 105, 110], [104, 111, 117, 115, 101]]
def scN : List Nat := [53, 2, 5, 4, 2, 3, 3, 5, 4, 4, 4, 4, 5]
/-- words of the tables that are no 'good' words: links to private members of nest mates, casts, a declared method -/
def mlN : List (String × Nat × MethodName × String) := [(RX11, 36, yX4_init, RX11), (RX11, 61, yX10_init, RX11), (RX6, 50, yX10_init, RX11), (RX11, 99, yX7_init, RX11), (RX10, 40, yX11_thickOf, RX11), (RX6, 119, yX11_thickOf, RX11)]
def ctN : List (String × String) := [("[I", "java/lang/Cloneable"), (RX8, RX3), (RX9, RX3), (RX0, RX1), (RX3, RX2), (RX1, RX2), (RX9, RX2), (RX0, RX2), (RX8, RX2)]
def ncN : List (String × String) := [(RX2, RX3), (RX2, RX1), (RX2, RX9), (RX2, RX0), (RX2, RX8), (RX3, RX1), (RX3, RX9), (RX3, RX0), (RX3, RX8), (RX1, RX3), (RX1, RX9), (RX1, RX0), (RX1, RX8), (RX9, RX1), (RX9, RX0), (RX9, RX8), (RX0, RX3), (RX0, RX9), (RX0, RX8), (RX8, RX1), (RX8, RX9), (RX8, RX0)]
def aoN : List String := [RX2, RX5, RX7, RX10]
def AOI (U : State) : Prop := (Cond.arrayOver (.array .int)).before #[] U = true
/-- constants of the heap below the run's own cells: static rows, texts, the script -/
def SW (g : Gl) (U : State) (H : Heap) : Prop :=
  (∀ (k : Nat) (q : String × String × List Int32), saT[k]? = some q → va_Z q.1 q.2.1 "[I" (.ref (gS g k)) (Hi g) U H ∧ va_T .int (gS g k) q.2.2.length (fun j => .int (q.2.2.getD j 0)) (Hi g) U H) ∧
  va_Z "java/lang/String" "COMPACT_STRINGS" "Z" (.int 1) (Hi g) U H ∧ vk_S 13 scN scB (fun i => gS g (10 + i)) (fun i => gS g (30 + i)) (Hi g) U H ∧
  (∀ (i : Nat) (q : String × Nat × String), scT[i]? = some q → vk_R q.1 q.2.1 q.2.2 (gS g (10 + i)) U) ∧
  va_X (gS g 9) (gX g).length (fun j => (gX g).getD j 0) U H ∧ gS g 9 < gB g
def GS (g : Gl) (U : State) : Prop :=
  va_K (gD g) vwCl (tysG g) U ∧ gB g ≤ U.heap.size ∧ (∀ q ∈ mlN, va_Nw (.methodLinkNest q.1 q.2.1 q.2.2.1 q.2.2.2) U) ∧ (∀ q ∈ ctN, va_Nw (.castable q.1 q.2) U) ∧
  va_Nw (.declares yX2_gives) U ∧ (∀ q ∈ ncN, va_Nc q.1 q.2 U) ∧ (∀ C ∈ aoN, va_AO C U) ∧ AOI U ∧ SW g U U.heap
theorem AOI.moved {u U : State} (hvm : u.vm.Alike U.vm) (h : AOI u) : AOI U := by
  obtain ⟨comp, c, k, h1, h2, h3, h4, h5⟩ := arrayOverA_spec h
  obtain ⟨k', hk', he⟩ := hvm.2.2 _ _ h3
  have hi : (U.vm.classes.findIdx? fun (x : Class) => match x.kind with | .array component _ => component == comp | _ => false) = some c := by
    have e1 := va_idx_bare U.vm comp
    have e2 := va_idx_bare u.vm comp
    have hb : U.vm.bare = u.vm.bare := by first | exact hvm.bare_eq | exact hvm.bare_eq.symm
    rw [hb] at e1
    exact e1.symm.trans (e2.trans h2)
  have hkind : k'.kind = .array comp (.array .int) := by rw [he]; exact h4
  have f1 : U.vm.findClass (FieldType.array .int).toString = some comp := by rw [hvm.findClass]; exact h1
  have f2 : U.vm.findClass ("[" ++ (FieldType.array .int).toString) = some c := by rw [hvm.findClass]; exact h5
  unfold AOI Cond.before Cond.holds
  simp only [Cond.value]
  rw [f1, Option.bind_some]
  refine (congrArg (fun o : Option Nat => (o.bind (fun c => (U.vm.classes[c]?).map fun (k : Class) => match k.kind with | .array _ ty => decide (ty = FieldType.array .int) && decide (U.vm.findClass ("[" ++ (FieldType.array .int).toString) = some c) | _ => false) == some true)) hi).trans ?_
  simp [hk', hkind, f2]
theorem SW.moved {g : Gl} {u U : State} {H : Heap} (hW : u.WarmedH U.vm) (h : SW g u H) : SW g U H := by
  obtain ⟨h1, h2, h3, h4, h5, h6⟩ := h
  have hA := hW.alike
  exact ⟨fun k q hk => ⟨(h1 k q hk).1.moved hA, (h1 k q hk).2.moved hA⟩, h2.moved hA, h3.moved hA, fun i q hi => (h4 i q hi).warm hW, h5.moved hA, h6⟩
theorem SW.kept {g : Gl} {U : State} {H H1 : Heap} (h : SW g U H) (hq : ∀ a : Nat, a < H.size → ¬ Hi g a → H1[a]? = H[a]?) : SW g U H1 := by
  obtain ⟨h1, h2, h3, h4, h5, h6⟩ := h
  refine ⟨fun k q hk => ⟨(h1 k q hk).1.kept hq, (h1 k q hk).2.kept hq⟩, h2.kept hq, h3.kept hq, h4, h5.kept (hq _ ?_ (by show ¬ gB g ≤ _; omega)), h6⟩
  obtain ⟨scr, q, -⟩ := h5
  exact (Array.getElem?_eq_some_iff.mp q).1
/-- what stays holds at a callee's start -/
theorem GS.to {g : Gl} {s U : State} {H : Heap} {locs : List Loc} (h : GS g s) (hW : s.WarmedH U.vm) (hU : U.heap = H) (hS : va_S (Hi g) s.heap H locs) : GS g U := by
  obtain ⟨h1, h2, h3, h4, h5, h6, h7, h8, h9⟩ := h
  have hA := hW.alike
  refine ⟨h1.moved hA, by rw [hU]; exact Nat.le_trans h2 hS.1, fun q hq => (h3 q hq).warmM hW, fun q hq => (h4 q hq).warmC hW, h5.warmD hW, fun q hq => (h6 q hq).moved hA, fun q hq => (h7 q hq).moved hA, h8.moved hA, ?_⟩
  rw [hU]
  exact (h9.kept (fun a x y => hS.2.1 a x y)).moved hW
theorem GS.blind {g : Gl} {U : State} (h : GS g U) (f : JFrame) (mk : MethodId) (a : Array Value) : GS g (U.calling f mk a) := by
  obtain ⟨h1, h2, h3, h4, h5, h6, h7, h8, ⟨j1, j2, j3, j4, j5, j6⟩⟩ := h
  have hA : U.vm.Alike (U.calling f mk a).vm := Vm.Alike.refl U.vm
  exact ⟨h1.moved hA, h2, fun q hq => (h3 q hq).same rfl rfl, fun q hq => (h4 q hq).same rfl rfl, h5.same rfl rfl, fun q hq => (h6 q hq).moved hA, fun q hq => (h7 q hq).moved hA, h8.moved hA, fun k q hk => ⟨(j1 k q hk).1.moved hA, (j1 k q hk).2.moved hA⟩, j2.moved hA, j3.moved hA, fun i q hi => (j4 i q hi).same rfl, j5.moved hA, j6⟩
end
section
/-! ===== the judgement: a method's run from a place on ends with an answer and a memory ===== -/
def GT : List Cond := lw_tbl.filter goodWord
theorem gt_of {w : Cond} (h : w ∈ lw_tbl) (hg : goodWord w = true) : w ∈ GT := List.mem_filter.mpr ⟨h, hg⟩
theorem GT_good : ∀ w ∈ GT, (w.onTables && w.keeps) = true ∨ ∃ ty, w = .arrayClass ty := fun w h => good_of_word (List.mem_filter.mp h).2
abbrev mY (Y : Md) : MethodName := Y.1
abbrev mC (Y : Md) : ByteArray := Y.2.1
abbrev mN (Y : Md) : Nat := Y.2.2.1
abbrev mR (Y : Md) : Option FieldType := Y.2.2.2
def lpr (ls : List (Option Value)) : List (Nat × Value) := (List.range ls.length).filterMap (fun j => (ls.getD j none).map (fun w => (j, w)))
theorem mem_lpr {ls : List (Option Value)} {j : Nat} {w : Value} : (j, w) ∈ lpr ls ↔ ls[j]? = some (some w) := by
  simp only [lpr, List.mem_filterMap, List.mem_range, Option.map_eq_some_iff, Prod.mk.injEq, List.getD_eq_getElem?_getD]
  constructor
  · rintro ⟨i, hi, x, hx, rfl, rfl⟩
    rw [List.getElem?_eq_getElem hi] at hx ⊢
    simpa using hx
  · intro h
    exact ⟨j, (List.getElem?_eq_some_iff.mp h).1, w, by rw [h]; rfl, rfl, rfl⟩
/-- the locals: those that are told are held; none is a long -/
def Lr (nL : Nat) (ls : List (Option Value)) (la : Array Slot) : Prop := (ls.length = nL ∧ ∀ (j : Nat) (w : Value), ls[j]? = some (some w) → w.category = 1) ∧ lv_has la nL (lpr ls)
theorem Lr.at {nL : Nat} {ls : List (Option Value)} {la : Array Slot} (h : Lr nL ls la) {i : Nat} {v : Value} (hi : ls[i]? = some (some v)) : la[i]? = some (.val v) := h.2.2.2 (i, v) (mem_lpr.mpr hi)
theorem Lr.set {nL : Nat} {ls : List (Option Value)} {la la' : Array Slot} (h : Lr nL ls la) {i : Nat} {v : Value} (hv : v.category = 1) (h' : lv_has la' nL ((i, v) :: (lpr ls).filter (fun q => !(q.1 == i) && !(q.1 + 1 == i && q.2.category == 2)))) : Lr nL (ls.set i (some v)) la' := by
  refine ⟨⟨by rw [List.length_set]; exact h.1.1, fun j w hj => ?_⟩, h'.1, h'.2.1, fun q hq => ?_⟩
  · rw [List.getElem?_set] at hj
    split at hj
    · split at hj
      · cases hj; exact hv
      · cases hj
    · exact h.1.2 j w hj
  · obtain ⟨j, w⟩ := q
    have hj := mem_lpr.mp hq
    rw [List.getElem?_set] at hj
    split at hj
    · rename_i hij
      split at hj
      · cases hj
        subst hij
        exact h'.2.2 _ List.mem_cons_self
      · cases hj
    · rename_i hij
      refine h'.2.2 (j, w) (List.mem_cons_of_mem _ (List.mem_filter.mpr ⟨mem_lpr.mpr hj, ?_⟩))
      have := h.1.2 j w hj
      simp [this, Ne.symm hij]
/-- a method's end -/
def Qz (g : Gl) (v : Option Value) (μ' : Mm) : Array Value → State → Outcome → State → Prop := fun _ st oc t => oc = .returned v ∧ Rl g μ' t.heap ∧ va_F (Hi g) st t
/-- what a body knows from its start on -/
def Cx (g : Gl) (d : Nat) (Y : Md) (p : Program) (s : State) (m : MethodId) (args : Array Value) (meth : Method) (c : Code) (R : Room) : Prop :=
  (p.tables.exec = Jvm.exec ∧ c.code = mC Y ∧ c.maxLocals = mN Y ∧ meth.sig.returnType = mR Y ∧ meth.locks = false ∧ meth.name = (mY Y).name ∧ s.vm.findClass (mY Y).cls = some m.cls) ∧
  (∀ w ∈ GT, w.before args s = true) ∧ GS g s ∧ d ≤ R.frames ∧ 64 * d ≤ R.locals
def Gr (μ μ' : Mm) : Prop := μ.2.1 ≤ μ'.2.1 ∧ μ.2.2 ≤ μ'.2.2
theorem Gr.rf {μ : Mm} : Gr μ μ := ⟨Nat.le_refl _, Nat.le_refl _⟩
theorem Gr.tr {a b c : Mm} (h : Gr a b) (k : Gr b c) : Gr a c := ⟨Nat.le_trans h.1 k.1, Nat.le_trans h.2 k.2⟩
def Ew (g : Gl) (d : Nat) (Y : Md) (pc : Nat) (ls : List (Option Value)) (st : List Value) (μ : Mm) (v : Option Value) (μ' : Mm) : Prop :=
  ∀ (p : Program) (e : Env) (s : State) (m : MethodId) (args : Array Value) (below : List Frame) (meth : Method) (c : Code) (R : Room) (H : Heap) (locs : List Loc) (k0 : Nat) (la : Array Slot),
    Cx g d Y p s m args meth c R → s.heap.size ≤ μ.2.1 → k0 ≤ μ.2.2 → μ'.2.1 ≤ s.heap.size + R.cells → μ'.2.2 ≤ k0 + R.slots → Rl g μ H → va_S (Hi g) s.heap H locs → Lr (mN Y) ls la →
    W p (gL g) e R s m args below meth c H locs (μ.2.1 - s.heap.size) (μ.2.2 - k0) (MQ below (Qz g v μ') args s (μ'.2.1 - s.heap.size) (μ'.2.2 - k0) (Hi g)) (F0 m pc la st)
/-- from here on the method ends, and what it answers and leaves is as Q says -/
def Ev (g : Gl) (d : Nat) (Y : Md) (pc : Nat) (ls : List (Option Value)) (st : List Value) (μ : Mm) (Q : Option Value → Mm → Prop) : Prop := ∃ v μ', Q v μ' ∧ Gr μ μ' ∧ Ew g d Y pc ls st μ v μ'
/-- a method's contract: called with these, it ends, and what it answers and leaves is as Q says -/
def roomOf (d mc ms : Nat) : Room := { frames := d, cells := mc, slots := ms, locals := 64 * d }
def Pz (g : Gl) (av : List Value) (μ : Mm) : Array Value → State → Prop := fun a U => a = av.toArray ∧ Rl g μ U.heap ∧ GS g U
def mW (Y : Md) : List Cond := .code (mY Y) (mC Y) (mN Y) (mR Y) :: GT
def Mt (g : Gl) (d : Nat) (Y : Md) (av : List Value) (μ : Mm) (Q : Option Value → Mm → Prop) : Prop := ∃ v μ', Q v μ' ∧ Gr μ μ' ∧
  ∀ d', d ≤ d' → Met (gL g) (mY Y) (mW Y) (roomOf d' (μ'.2.1 - μ.2.1) (μ'.2.2 - μ.2.2)) (Pz g av μ) (Qz g v μ') (μ'.2.1 - μ.2.1) (μ'.2.2 - μ.2.2) (Hi g)
theorem Mt.mono {g : Gl} {d d' : Nat} {Y : Md} {av : List Value} {μ : Mm} {Q : Option Value → Mm → Prop} (h : Mt g d Y av μ Q) (hd : d ≤ d') : Mt g d' Y av μ Q := by
  obtain ⟨v, μ', h1, h2, h3⟩ := h
  exact ⟨v, μ', h1, h2, fun k hk => h3 k (Nat.le_trans hd hk)⟩
theorem Mt.imp {g : Gl} {d : Nat} {Y : Md} {av : List Value} {μ : Mm} {Q Q' : Option Value → Mm → Prop} (h : Mt g d Y av μ Q) (hq : ∀ v μ', Q v μ' → Q' v μ') : Mt g d Y av μ Q' := by
  obtain ⟨v, μ', h1, h2, h3⟩ := h
  exact ⟨v, μ', hq _ _ h1, h2, h3⟩
theorem Ev.imp {g : Gl} {d : Nat} {Y : Md} {pc : Nat} {ls : List (Option Value)} {st : List Value} {μ : Mm} {Q Q' : Option Value → Mm → Prop} (h : Ev g d Y pc ls st μ Q) (hq : ∀ v μ', Q v μ' → Q' v μ') : Ev g d Y pc ls st μ Q' := by
  obtain ⟨v, μ', h1, h2⟩ := h
  exact ⟨v, μ', hq _ _ h1, h2⟩
theorem lv_args_mem : ∀ (av : List Value) (i : Nat), (∀ v ∈ av, v.category = 1) → ∀ (j : Nat) (v : Value), av[j]? = some v → (i + j, v) ∈ lv_args i av := by
  intro av
  induction av with
  | nil => intro i _ j v h; simp at h
  | cons a t ih =>
    intro i hav j v h
    have ha : ¬ a.category = 2 := by have := hav a List.mem_cons_self; omega
    rw [lv_args, if_neg ha]
    cases j with
    | zero => simp at h; subst h; exact List.mem_cons_self
    | succ j =>
      have := ih (i + 1) (fun v hv => hav v (List.mem_cons_of_mem _ hv)) j v (by simpa using h)
      rw [show i + (j + 1) = i + 1 + j by omega]
      exact List.mem_cons_of_mem _ this
theorem at_args {av : List Value} {n j : Nat} {w : Value} (h : (av.map some ++ List.replicate n none)[j]? = some (some w)) : av[j]? = some w := by
  rw [List.getElem?_append] at h
  split at h
  · simpa using h
  · rw [List.getElem?_replicate] at h
    split at h <;> simp at h
theorem lpr_args {av : List Value} (hav : ∀ v ∈ av, v.category = 1) (n : Nat) : ∀ q ∈ lpr (av.map some ++ List.replicate n none), q ∈ lv_args 0 av := by
  rintro ⟨j, w⟩ hq
  have := lv_args_mem av 0 hav j w (at_args (mem_lpr.mp hq))
  simpa using this
theorem lg_sl_len : ∀ {av : List Value}, (∀ v ∈ av, v.category = 1) → (lg_sl av).length = av.length := by
  intro av
  induction av with
  | nil => intro _; rfl
  | cons a t ih =>
    intro hav
    have ha : ¬ a.category = 2 := by have := hav a List.mem_cons_self; omega
    have := ih (fun v hv => hav v (List.mem_cons_of_mem _ hv))
    simp [lg_sl, ha] at this ⊢
    exact this
/-- a contract out of a walk from the method's first byte on -/
theorem Mt.of {g : Gl} {d : Nat} {Y : Md} {av : List Value} {μ : Mm} {Q : Option Value → Mm → Prop} (hy : plainName (mY Y).cls = true) (hav : ∀ v ∈ av, v.category = 1) (hn : av.length ≤ mN Y) (h : Ev g d Y 0 (av.map some ++ List.replicate (mN Y - av.length) none) [] μ Q) : Mt g d Y av μ Q := by
  obtain ⟨v, μ', hQ, hG, hE⟩ := h
  refine ⟨v, μ', hQ, hG, fun d' hd => ?_⟩
  refine Met.ofW (cc := mC Y) (maxL := mN Y) (ret := mR Y) hy rfl ?_
  intro p e s m args below meth c s₁ B hml hv
  obtain ⟨rfl, hR, hGS⟩ := hv
  have hts := atoms_spec (ws := mW Y) B.pre
  have hown : s.vm.findClass (mY Y).cls = some m.cls := findClass_of_methodNamed B.named
  have hCx : Cx g d Y p s m av.toArray meth c (headSpec (mW Y) (roomOf d' (μ'.2.1 - μ.2.1) (μ'.2.2 - μ.2.2))).room :=
    ⟨⟨B.exec, B.bytes, hml, B.returns, B.notSynchronized, (name_of_methodNamed B.named B.method).1, hown⟩, fun w hw => hts w (List.mem_cons_of_mem _ hw), hGS, hd, Nat.mul_le_mul_left 64 hd⟩
  have hl := lv_entry av (n := mN Y) (by rw [lg_sl_len hav]; exact hn)
  rw [lg_entry_eq]
  generalize (lg_sl av ++ List.replicate (mN Y - (lg_sl av).length) Slot.unset).toArray = la at hl ⊢
  have hsz : s.heap.size = μ.2.1 := hR.1
  have hz := hE p e s m av.toArray below meth c _ s.heap [] μ.2.2 la hCx (by omega) (Nat.le_refl _) (by show _ ≤ _ + (μ'.2.1 - μ.2.1); have := hG.1; omega) (by show _ ≤ _ + (μ'.2.2 - μ.2.2); have := hG.2; omega) hR va_S.rf ⟨⟨by simp; omega, ?_⟩, hl.1, hl.2.1, fun q hq => hl.2.2 q (lpr_args hav _ q hq)⟩
  · rw [hsz, Nat.sub_self, Nat.sub_self] at hz
    exact hz
  · exact fun j w hj => hav w (List.mem_of_getElem? (at_args hj))
end
section
/-! ===== one rule an instruction ===== -/
section RULES
variable {g : Gl} {d : Nat} {Y : Md} {pc : Nat} {ls : List (Option Value)} {st : List Value} {μ : Mm} {Q : Option Value → Mm → Prop}
/-- an instruction that changes the place and the operand stack alone -/
theorem ev_w {pc' : Nat} {st' : List Value}
    (h : ∀ (p : Program) (e : Env) (s : State) (m : MethodId) (args : Array Value) (below : List Frame) (meth : Method) (c : Code) (R : Room) (H : Heap) (locs : List Loc) (cells slots : Nat) (Q' : State → Prop) (la : Array Slot),
      Cx g d Y p s m args meth c R → Rl g μ H → va_S (Hi g) s.heap H locs → Lr (mN Y) ls la → W p (gL g) e R s m args below meth c H locs cells slots Q' (F0 m pc' la st') → W p (gL g) e R s m args below meth c H locs cells slots Q' (F0 m pc la st))
    (k : Ev g d Y pc' ls st' μ Q) : Ev g d Y pc ls st μ Q := by
  obtain ⟨v, μ', hQ, hG, hE⟩ := k
  exact ⟨v, μ', hQ, hG, fun p e s m args below meth c R H locs k0 la C h1 h2 h3 h4 hR hS hL => h _ _ _ _ _ _ _ _ _ _ _ _ _ _ _ C hR hS hL (hE p e s m args below meth c R H locs k0 la C h1 h2 h3 h4 hR hS hL)⟩
theorem ev_iconst {n : Int} {v : Int32} (hd : decode (mC Y) pc = .ok (.iconst n, 1)) (hv : Int32.ofInt n = v) (kk : Ev g d Y (pc + 1) ls (.int v :: st) μ Q) : Ev g d Y pc ls (st) μ Q :=
  ev_w (fun _ _ _ _ _ _ _ _ _ _ _ _ _ _ _ C hR hS hL k => lv_iconst C.1.1 C.1.2.1 hd hv k) kk
theorem ev_bipush {n : Int} {v : Int32} (hd : decode (mC Y) pc = .ok (.bipush n, 2)) (hv : (Int8.ofInt n).toInt32 = v) (kk : Ev g d Y (pc + 2) ls (.int v :: st) μ Q) : Ev g d Y pc ls (st) μ Q :=
  ev_w (fun _ _ _ _ _ _ _ _ _ _ _ _ _ _ _ C hR hS hL k => lv_bipush C.1.1 C.1.2.1 hd hv k) kk
theorem ev_sipush {n : Int} {v : Int32} (hd : decode (mC Y) pc = .ok (.sipush n, 3)) (hv : (Int16.ofInt n).toInt32 = v) (kk : Ev g d Y (pc + 3) ls (.int v :: st) μ Q) : Ev g d Y pc ls (st) μ Q :=
  ev_w (fun _ _ _ _ _ _ _ _ _ _ _ _ _ _ _ C hR hS hL k => lv_sipush C.1.1 C.1.2.1 hd hv k) kk
theorem ev_null  (hd : decode (mC Y) pc = .ok (.aconst_null, 1))  (kk : Ev g d Y (pc + 1) ls (.null :: st) μ Q) : Ev g d Y pc ls (st) μ Q :=
  ev_w (fun _ _ _ _ _ _ _ _ _ _ _ _ _ _ _ C hR hS hL k => lv_null C.1.1 C.1.2.1 hd k) kk
theorem ev_iload_n {k : Fin 4} {x : Int32} (hd : decode (mC Y) pc = .ok (.iload_n k, 1)) (hl : ls[(k : Nat)]? = some (some (.int x))) (kk : Ev g d Y (pc + 1) ls (.int x :: st) μ Q) : Ev g d Y pc ls (st) μ Q :=
  ev_w (fun _ _ _ _ _ _ _ _ _ _ _ _ _ _ _ C hR hS hL k => lv_iload_n C.1.1 C.1.2.1 hd rfl (hL.at hl) k) kk
theorem ev_iload {i : Nat} {x : Int32} (hd : decode (mC Y) pc = .ok (.iload i, 2)) (hl : ls[i]? = some (some (.int x))) (kk : Ev g d Y (pc + 2) ls (.int x :: st) μ Q) : Ev g d Y pc ls (st) μ Q :=
  ev_w (fun _ _ _ _ _ _ _ _ _ _ _ _ _ _ _ C hR hS hL k => lv_iload C.1.1 C.1.2.1 hd (hL.at hl) k) kk
theorem ev_aload_n {k : Fin 4} {x : Nat} (hd : decode (mC Y) pc = .ok (.aload_n k, 1)) (hl : ls[(k : Nat)]? = some (some (.ref x))) (kk : Ev g d Y (pc + 1) ls (.ref x :: st) μ Q) : Ev g d Y pc ls (st) μ Q :=
  ev_w (fun _ _ _ _ _ _ _ _ _ _ _ _ _ _ _ C hR hS hL k => lv_aload_n C.1.1 C.1.2.1 hd rfl (hL.at hl) k) kk
theorem ev_aload {i x : Nat} (hd : decode (mC Y) pc = .ok (.aload i, 2)) (hl : ls[i]? = some (some (.ref x))) (kk : Ev g d Y (pc + 2) ls (.ref x :: st) μ Q) : Ev g d Y pc ls (st) μ Q :=
  ev_w (fun _ _ _ _ _ _ _ _ _ _ _ _ _ _ _ C hR hS hL k => lv_aload C.1.1 C.1.2.1 hd (hL.at hl) k) kk
theorem ev_aload_nN {k : Fin 4} (hd : decode (mC Y) pc = .ok (.aload_n k, 1)) (hl : ls[(k : Nat)]? = some (some .null)) (kk : Ev g d Y (pc + 1) ls (.null :: st) μ Q) : Ev g d Y pc ls (st) μ Q :=
  ev_w (fun _ _ _ _ _ _ _ _ _ _ _ _ _ _ _ C hR hS hL k => lv_aload_nN C.1.1 C.1.2.1 hd rfl (hL.at hl) k) kk
theorem ev_aloadN {i : Nat} (hd : decode (mC Y) pc = .ok (.aload i, 2)) (hl : ls[i]? = some (some .null)) (kk : Ev g d Y (pc + 2) ls (.null :: st) μ Q) : Ev g d Y pc ls (st) μ Q :=
  ev_w (fun _ _ _ _ _ _ _ _ _ _ _ _ _ _ _ C hR hS hL k => lv_aloadN C.1.1 C.1.2.1 hd (hL.at hl) k) kk
theorem ev_iadd {x y : Int32} (hd : decode (mC Y) pc = .ok (.iadd, 1))  (kk : Ev g d Y (pc + 1) ls (.int (x + y) :: st) μ Q) : Ev g d Y pc ls (.int y :: .int x :: st) μ Q :=
  ev_w (fun _ _ _ _ _ _ _ _ _ _ _ _ _ _ _ C hR hS hL k => lv_iadd C.1.1 C.1.2.1 hd k) kk
theorem ev_isub {x y : Int32} (hd : decode (mC Y) pc = .ok (.isub, 1))  (kk : Ev g d Y (pc + 1) ls (.int (x - y) :: st) μ Q) : Ev g d Y pc ls (.int y :: .int x :: st) μ Q :=
  ev_w (fun _ _ _ _ _ _ _ _ _ _ _ _ _ _ _ C hR hS hL k => lv_isub C.1.1 C.1.2.1 hd k) kk
theorem ev_imul {x y : Int32} (hd : decode (mC Y) pc = .ok (.imul, 1))  (kk : Ev g d Y (pc + 1) ls (.int (x * y) :: st) μ Q) : Ev g d Y pc ls (.int y :: .int x :: st) μ Q :=
  ev_w (fun _ _ _ _ _ _ _ _ _ _ _ _ _ _ _ C hR hS hL k => lv_imul C.1.1 C.1.2.1 hd k) kk
theorem ev_iand {x y : Int32} (hd : decode (mC Y) pc = .ok (.iand, 1))  (kk : Ev g d Y (pc + 1) ls (.int (x &&& y) :: st) μ Q) : Ev g d Y pc ls (.int y :: .int x :: st) μ Q :=
  ev_w (fun _ _ _ _ _ _ _ _ _ _ _ _ _ _ _ C hR hS hL k => lv_iand C.1.1 C.1.2.1 hd k) kk
theorem ev_ior {x y : Int32} (hd : decode (mC Y) pc = .ok (.ior, 1))  (kk : Ev g d Y (pc + 1) ls (.int (x ||| y) :: st) μ Q) : Ev g d Y pc ls (.int y :: .int x :: st) μ Q :=
  ev_w (fun _ _ _ _ _ _ _ _ _ _ _ _ _ _ _ C hR hS hL k => lv_ior C.1.1 C.1.2.1 hd k) kk
theorem ev_ishl {x y : Int32} (hd : decode (mC Y) pc = .ok (.ishl, 1))  (kk : Ev g d Y (pc + 1) ls (.int (x <<< (y &&& 31)) :: st) μ Q) : Ev g d Y pc ls (.int y :: .int x :: st) μ Q :=
  ev_w (fun _ _ _ _ _ _ _ _ _ _ _ _ _ _ _ C hR hS hL k => lv_ishl C.1.1 C.1.2.1 hd k) kk
theorem ev_ishr {x y : Int32} (hd : decode (mC Y) pc = .ok (.ishr, 1))  (kk : Ev g d Y (pc + 1) ls (.int (x >>> (y &&& 31)) :: st) μ Q) : Ev g d Y pc ls (.int y :: .int x :: st) μ Q :=
  ev_w (fun _ _ _ _ _ _ _ _ _ _ _ _ _ _ _ C hR hS hL k => lv_ishr C.1.1 C.1.2.1 hd k) kk
theorem ev_idiv {x y : Int32} (hd : decode (mC Y) pc = .ok (.idiv, 1)) (hne : ¬ y = 0) (kk : Ev g d Y (pc + 1) ls (.int (x / y) :: st) μ Q) : Ev g d Y pc ls (.int y :: .int x :: st) μ Q :=
  ev_w (fun _ _ _ _ _ _ _ _ _ _ _ _ _ _ _ C hR hS hL k => lv_idiv C.1.1 C.1.2.1 hd hne k) kk
theorem ev_irem {x y : Int32} (hd : decode (mC Y) pc = .ok (.irem, 1)) (hne : ¬ y = 0) (kk : Ev g d Y (pc + 1) ls (.int (x - x / y * y) :: st) μ Q) : Ev g d Y pc ls (.int y :: .int x :: st) μ Q :=
  ev_w (fun _ _ _ _ _ _ _ _ _ _ _ _ _ _ _ C hR hS hL k => lv_irem C.1.1 C.1.2.1 hd hne k) kk
theorem ev_ineg {x : Int32} (hd : decode (mC Y) pc = .ok (.ineg, 1))  (kk : Ev g d Y (pc + 1) ls (.int (-x) :: st) μ Q) : Ev g d Y pc ls (.int x :: st) μ Q :=
  ev_w (fun _ _ _ _ _ _ _ _ _ _ _ _ _ _ _ C hR hS hL k => lv_ineg C.1.1 C.1.2.1 hd k) kk
theorem ev_iushr {x y : Int32} (hd : decode (mC Y) pc = .ok (.iushr, 1))  (kk : Ev g d Y (pc + 1) ls (.int (x.toUInt32 >>> (y.toUInt32 &&& Int32.toUInt32 31)).toInt32 :: st) μ Q) : Ev g d Y pc ls (.int y :: .int x :: st) μ Q :=
  ev_w (fun _ _ _ _ _ _ _ _ _ _ _ _ _ _ _ C hR hS hL k => lv_iushr C.1.1 C.1.2.1 hd rfl k) kk
theorem ev_i2l {x : Int32} (hd : decode (mC Y) pc = .ok (.i2l, 1))  (kk : Ev g d Y (pc + 1) ls (.long x.toInt64 :: st) μ Q) : Ev g d Y pc ls (.int x :: st) μ Q :=
  ev_w (fun _ _ _ _ _ _ _ _ _ _ _ _ _ _ _ C hR hS hL k => lv_i2l C.1.1 C.1.2.1 hd rfl k) kk
theorem ev_i2b {x : Int32} (hd : decode (mC Y) pc = .ok (.i2b, 1))  (kk : Ev g d Y (pc + 1) ls (.int x.toInt8.toInt32 :: st) μ Q) : Ev g d Y pc ls (.int x :: st) μ Q :=
  ev_w (fun _ _ _ _ _ _ _ _ _ _ _ _ _ _ _ C hR hS hL k => lv_i2b C.1.1 C.1.2.1 hd rfl k) kk
theorem ev_i2s {x : Int32} (hd : decode (mC Y) pc = .ok (.i2s, 1))  (kk : Ev g d Y (pc + 1) ls (.int x.toInt16.toInt32 :: st) μ Q) : Ev g d Y pc ls (.int x :: st) μ Q :=
  ev_w (fun _ _ _ _ _ _ _ _ _ _ _ _ _ _ _ C hR hS hL k => lv_i2s C.1.1 C.1.2.1 hd rfl k) kk
theorem ev_i2c {x : Int32} (hd : decode (mC Y) pc = .ok (.i2c, 1))  (kk : Ev g d Y (pc + 1) ls (.int (x.toUInt32 % 65536).toInt32 :: st) μ Q) : Ev g d Y pc ls (.int x :: st) μ Q :=
  ev_w (fun _ _ _ _ _ _ _ _ _ _ _ _ _ _ _ C hR hS hL k => lv_i2c C.1.1 C.1.2.1 hd rfl k) kk
theorem ev_lcmp {x y : Int64} (hd : decode (mC Y) pc = .ok (.lcmp, 1))  (kk : Ev g d Y (pc + 1) ls (.int (lg_cmp x y) :: st) μ Q) : Ev g d Y pc ls (.long y :: .long x :: st) μ Q :=
  ev_w (fun _ _ _ _ _ _ _ _ _ _ _ _ _ _ _ C hR hS hL k => W.lcmp C.1.1 C.1.2.1 hd k) kk
theorem ev_dup {va : Value} (hd : decode (mC Y) pc = .ok (.dup, 1)) (hv : va.category = 1) (kk : Ev g d Y (pc + 1) ls (va :: va :: st) μ Q) : Ev g d Y pc ls (va :: st) μ Q :=
  ev_w (fun _ _ _ _ _ _ _ _ _ _ _ _ _ _ _ C hR hS hL k => lv_dup C.1.1 C.1.2.1 hd hv k) kk
theorem ev_pop {va : Value} (hd : decode (mC Y) pc = .ok (.pop, 1)) (hv : va.category = 1) (kk : Ev g d Y (pc + 1) ls (st) μ Q) : Ev g d Y pc ls (va :: st) μ Q :=
  ev_w (fun _ _ _ _ _ _ _ _ _ _ _ _ _ _ _ C hR hS hL k => lv_pop C.1.1 C.1.2.1 hd hv k) kk
theorem ev_dup2 {va vb : Value} (hd : decode (mC Y) pc = .ok (.dup2, 1)) (hv : va.category = 1) (hv2 : vb.category = 1) (kk : Ev g d Y (pc + 1) ls (va :: vb :: va :: vb :: st) μ Q) : Ev g d Y pc ls (va :: vb :: st) μ Q :=
  ev_w (fun _ _ _ _ _ _ _ _ _ _ _ _ _ _ _ C hR hS hL k => lv_dup2_11 C.1.1 C.1.2.1 hd hv hv2 k) kk
theorem ev_goto {off : Int} {tgt : Nat} (hd : decode (mC Y) pc = .ok (.goto off, 3)) (ht : (pc : Int) + off = (tgt : Int)) (kk : Ev g d Y tgt ls (st) μ Q) : Ev g d Y pc ls (st) μ Q :=
  ev_w (fun _ _ _ _ _ _ _ _ _ _ _ _ _ _ _ C hR hS hL k => lv_goto C.1.1 C.1.2.1 hd ht k) kk
theorem ev_ifnull {x : Nat} {off : Int} (hd : decode (mC Y) pc = .ok (.ifnull off, 3))  (kk : Ev g d Y (pc + 3) ls (st) μ Q) : Ev g d Y pc ls (.ref x :: st) μ Q :=
  ev_w (fun _ _ _ _ _ _ _ _ _ _ _ _ _ _ _ C hR hS hL k => lv_ifnull C.1.1 C.1.2.1 hd k) kk
theorem ev_ifnullN {off : Int} {tgt : Nat} (hd : decode (mC Y) pc = .ok (.ifnull off, 3)) (ht : (pc : Int) + off = (tgt : Int)) (kk : Ev g d Y tgt ls (st) μ Q) : Ev g d Y pc ls (.null :: st) μ Q :=
  ev_w (fun _ _ _ _ _ _ _ _ _ _ _ _ _ _ _ C hR hS hL k => lv_ifnullN C.1.1 C.1.2.1 hd ht k) kk
theorem ev_ifnonnull {x : Nat} {off : Int} {tgt : Nat} (hd : decode (mC Y) pc = .ok (.ifnonnull off, 3)) (ht : (pc : Int) + off = (tgt : Int)) (kk : Ev g d Y tgt ls (st) μ Q) : Ev g d Y pc ls (.ref x :: st) μ Q :=
  ev_w (fun _ _ _ _ _ _ _ _ _ _ _ _ _ _ _ C hR hS hL k => lv_ifnonnull C.1.1 C.1.2.1 hd ht k) kk
theorem ev_ifnonnullN {off : Int} (hd : decode (mC Y) pc = .ok (.ifnonnull off, 3))  (kk : Ev g d Y (pc + 3) ls (st) μ Q) : Ev g d Y pc ls (.null :: st) μ Q :=
  ev_w (fun _ _ _ _ _ _ _ _ _ _ _ _ _ _ _ C hR hS hL k => lv_ifnonnullN C.1.1 C.1.2.1 hd k) kk
theorem ev_castN {i : Nat} (hd : decode (mC Y) pc = .ok (.checkcast i, 3))  (kk : Ev g d Y (pc + 3) ls (.null :: st) μ Q) : Ev g d Y pc ls (.null :: st) μ Q :=
  ev_w (fun _ _ _ _ _ _ _ _ _ _ _ _ _ _ _ C hR hS hL k => lv_castN C.1.1 C.1.2.1 hd k) kk
theorem ev_instN {i : Nat} (hd : decode (mC Y) pc = .ok (.instanceof i, 3))  (kk : Ev g d Y (pc + 3) ls (.int 0 :: st) μ Q) : Ev g d Y pc ls (.null :: st) μ Q :=
  ev_w (fun _ _ _ _ _ _ _ _ _ _ _ _ _ _ _ C hR hS hL k => lv_instN C.1.1 C.1.2.1 hd k) kk
theorem ev_ldc {i : Nat} {v : Int32} (hd : decode (mC Y) pc = .ok (.ldc i, 2)) (hw : Cond.constant (mY Y).cls i v ∈ GT) (kk : Ev g d Y (pc + 2) ls (.int v :: st) μ Q) : Ev g d Y pc ls (st) μ Q :=
  ev_w (fun _ _ _ _ _ _ _ _ _ _ _ _ _ _ _ C hR hS hL k => lv_ldc C.1.1 C.1.2.1 C.1.2.2.2.2.2.2 (C.2.1 _ hw) hd k) kk
theorem ev_ldcw {i : Nat} {v : Int32} (hd : decode (mC Y) pc = .ok (.ldc_w i, 3)) (hw : Cond.constant (mY Y).cls i v ∈ GT) (kk : Ev g d Y (pc + 3) ls (.int v :: st) μ Q) : Ev g d Y pc ls (st) μ Q :=
  ev_w (fun _ _ _ _ _ _ _ _ _ _ _ _ _ _ _ C hR hS hL k => lv_ldcw C.1.1 C.1.2.1 C.1.2.2.2.2.2.2 (C.2.1 _ hw) hd k) kk
theorem ev_ldc2 {i : Nat} {v : Int64} (hd : decode (mC Y) pc = .ok (.ldc2_w i, 3)) (hw : Cond.constantLong (mY Y).cls i v ∈ GT) (kk : Ev g d Y (pc + 3) ls (.long v :: st) μ Q) : Ev g d Y pc ls (st) μ Q :=
  ev_w (fun _ _ _ _ _ _ _ _ _ _ _ _ _ _ _ C hR hS hL k => lv_ldc2 C.1.1 C.1.2.1 C.1.2.2.2.2.2.2 (C.2.1 _ hw) hd k) kk
theorem ev_tin {dflt lo hi : Int} {offs : Array Int} {len : Nat} {x : Int32} {off : Int} {tgt : Nat} (hd : decode (mC Y) pc = .ok (.tableswitch dflt lo hi offs, len)) (h1 : ¬ x.toInt < lo) (h2 : ¬ hi < x.toInt) (ho : offs[(x.toInt - lo).toNat]? = some off) (ht : (pc : Int) + off = (tgt : Int)) (kk : Ev g d Y tgt ls (st) μ Q) : Ev g d Y pc ls (.int x :: st) μ Q :=
  ev_w (fun _ _ _ _ _ _ _ _ _ _ _ _ _ _ _ C hR hS hL k => lv_tableIn C.1.1 C.1.2.1 hd h1 h2 ho ht k) kk
theorem ev_tout {dflt lo hi : Int} {offs : Array Int} {len : Nat} {x : Int32} {tgt : Nat} (hd : decode (mC Y) pc = .ok (.tableswitch dflt lo hi offs, len)) (h : x.toInt < lo ∨ hi < x.toInt) (ht : (pc : Int) + dflt = (tgt : Int)) (kk : Ev g d Y tgt ls (st) μ Q) : Ev g d Y pc ls (.int x :: st) μ Q :=
  ev_w (fun _ _ _ _ _ _ _ _ _ _ _ _ _ _ _ C hR hS hL k => lv_tableOut C.1.1 C.1.2.1 hd h ht k) kk
theorem ev_lookup {dflt : Int} {ps : Array (Int × Int)} {len : Nat} {x : Int32} {off : Int} {tgt : Nat} (hd : decode (mC Y) pc = .ok (.lookupswitch dflt ps, len)) (hp : (ps.toList.zip (ps.toList.drop 1)).all (fun (a, next) => a.1 < next.1) = true) (ho : Op.lookupswitch.offset ps.toList dflt x.toInt = off) (ht : (pc : Int) + off = (tgt : Int)) (kk : Ev g d Y tgt ls (st) μ Q) : Ev g d Y pc ls (.int x :: st) μ Q :=
  ev_w (fun _ _ _ _ _ _ _ _ _ _ _ _ _ _ _ C hR hS hL k => lv_lookup C.1.1 C.1.2.1 hd hp ho ht k) kk
theorem ev_if_eq {x : Int32} {off : Int} {tgt : Nat} (hd : decode (mC Y) pc = .ok (.ifCond .eq off, 3)) (ht : (pc : Int) + off = (tgt : Int)) (kt : x = 0 → Ev g d Y tgt ls st μ Q) (kf : ¬ x = 0 → Ev g d Y (pc + 3) ls st μ Q) : Ev g d Y pc ls (.int x :: st) μ Q := by
  by_cases h : x = 0
  · exact ev_w (fun _ _ _ _ _ _ _ _ _ _ _ _ _ _ _ C hR hS hL k => lv_if_eq C.1.1 C.1.2.1 hd ht (fun _ => k) (fun n => by exact absurd h (by first | exact n | exact (fun z => z n)))) (kt h)
  · exact ev_w (fun _ _ _ _ _ _ _ _ _ _ _ _ _ _ _ C hR hS hL k => lv_if_eq C.1.1 C.1.2.1 hd ht (fun n => absurd n h) (fun _ => k)) (kf (by first | exact h | exact Classical.not_not.mp h))
theorem ev_if_ne {x : Int32} {off : Int} {tgt : Nat} (hd : decode (mC Y) pc = .ok (.ifCond .ne off, 3)) (ht : (pc : Int) + off = (tgt : Int)) (kt : ¬ x = 0 → Ev g d Y tgt ls st μ Q) (kf : x = 0 → Ev g d Y (pc + 3) ls st μ Q) : Ev g d Y pc ls (.int x :: st) μ Q := by
  by_cases h : ¬ x = 0
  · exact ev_w (fun _ _ _ _ _ _ _ _ _ _ _ _ _ _ _ C hR hS hL k => lv_if_ne C.1.1 C.1.2.1 hd ht (fun _ => k) (fun n => by exact absurd h (by first | exact n | exact (fun z => z n)))) (kt h)
  · exact ev_w (fun _ _ _ _ _ _ _ _ _ _ _ _ _ _ _ C hR hS hL k => lv_if_ne C.1.1 C.1.2.1 hd ht (fun n => absurd n h) (fun _ => k)) (kf (by first | exact h | exact Classical.not_not.mp h))
theorem ev_if_lt {x : Int32} {off : Int} {tgt : Nat} (hd : decode (mC Y) pc = .ok (.ifCond .lt off, 3)) (ht : (pc : Int) + off = (tgt : Int)) (kt : x < 0 → Ev g d Y tgt ls st μ Q) (kf : ¬ x < 0 → Ev g d Y (pc + 3) ls st μ Q) : Ev g d Y pc ls (.int x :: st) μ Q := by
  by_cases h : x < 0
  · exact ev_w (fun _ _ _ _ _ _ _ _ _ _ _ _ _ _ _ C hR hS hL k => lv_if_lt C.1.1 C.1.2.1 hd ht (fun _ => k) (fun n => by exact absurd h (by first | exact n | exact (fun z => z n)))) (kt h)
  · exact ev_w (fun _ _ _ _ _ _ _ _ _ _ _ _ _ _ _ C hR hS hL k => lv_if_lt C.1.1 C.1.2.1 hd ht (fun n => absurd n h) (fun _ => k)) (kf (by first | exact h | exact Classical.not_not.mp h))
theorem ev_if_ge {x : Int32} {off : Int} {tgt : Nat} (hd : decode (mC Y) pc = .ok (.ifCond .ge off, 3)) (ht : (pc : Int) + off = (tgt : Int)) (kt : 0 ≤ x → Ev g d Y tgt ls st μ Q) (kf : ¬ 0 ≤ x → Ev g d Y (pc + 3) ls st μ Q) : Ev g d Y pc ls (.int x :: st) μ Q := by
  by_cases h : 0 ≤ x
  · exact ev_w (fun _ _ _ _ _ _ _ _ _ _ _ _ _ _ _ C hR hS hL k => lv_if_ge C.1.1 C.1.2.1 hd ht (fun _ => k) (fun n => by exact absurd h (by first | exact n | exact (fun z => z n)))) (kt h)
  · exact ev_w (fun _ _ _ _ _ _ _ _ _ _ _ _ _ _ _ C hR hS hL k => lv_if_ge C.1.1 C.1.2.1 hd ht (fun n => absurd n h) (fun _ => k)) (kf (by first | exact h | exact Classical.not_not.mp h))
theorem ev_if_gt {x : Int32} {off : Int} {tgt : Nat} (hd : decode (mC Y) pc = .ok (.ifCond .gt off, 3)) (ht : (pc : Int) + off = (tgt : Int)) (kt : 0 < x → Ev g d Y tgt ls st μ Q) (kf : ¬ 0 < x → Ev g d Y (pc + 3) ls st μ Q) : Ev g d Y pc ls (.int x :: st) μ Q := by
  by_cases h : 0 < x
  · exact ev_w (fun _ _ _ _ _ _ _ _ _ _ _ _ _ _ _ C hR hS hL k => lv_if_gt C.1.1 C.1.2.1 hd ht (fun _ => k) (fun n => by exact absurd h (by first | exact n | exact (fun z => z n)))) (kt h)
  · exact ev_w (fun _ _ _ _ _ _ _ _ _ _ _ _ _ _ _ C hR hS hL k => lv_if_gt C.1.1 C.1.2.1 hd ht (fun n => absurd n h) (fun _ => k)) (kf (by first | exact h | exact Classical.not_not.mp h))
theorem ev_if_le {x : Int32} {off : Int} {tgt : Nat} (hd : decode (mC Y) pc = .ok (.ifCond .le off, 3)) (ht : (pc : Int) + off = (tgt : Int)) (kt : x ≤ 0 → Ev g d Y tgt ls st μ Q) (kf : ¬ x ≤ 0 → Ev g d Y (pc + 3) ls st μ Q) : Ev g d Y pc ls (.int x :: st) μ Q := by
  by_cases h : x ≤ 0
  · exact ev_w (fun _ _ _ _ _ _ _ _ _ _ _ _ _ _ _ C hR hS hL k => lv_if_le C.1.1 C.1.2.1 hd ht (fun _ => k) (fun n => by exact absurd h (by first | exact n | exact (fun z => z n)))) (kt h)
  · exact ev_w (fun _ _ _ _ _ _ _ _ _ _ _ _ _ _ _ C hR hS hL k => lv_if_le C.1.1 C.1.2.1 hd ht (fun n => absurd n h) (fun _ => k)) (kf (by first | exact h | exact Classical.not_not.mp h))
theorem ev_icmp_eq {x y : Int32} {off : Int} {tgt : Nat} (hd : decode (mC Y) pc = .ok (.if_icmp .eq off, 3)) (ht : (pc : Int) + off = (tgt : Int)) (kt : x = y → Ev g d Y tgt ls st μ Q) (kf : ¬ x = y → Ev g d Y (pc + 3) ls st μ Q) : Ev g d Y pc ls (.int y :: .int x :: st) μ Q := by
  by_cases h : x = y
  · exact ev_w (fun _ _ _ _ _ _ _ _ _ _ _ _ _ _ _ C hR hS hL k => lv_icmp_eq C.1.1 C.1.2.1 hd ht (fun _ => k) (fun n => by exact absurd h (by first | exact n | exact (fun z => z n)))) (kt h)
  · exact ev_w (fun _ _ _ _ _ _ _ _ _ _ _ _ _ _ _ C hR hS hL k => lv_icmp_eq C.1.1 C.1.2.1 hd ht (fun n => absurd n h) (fun _ => k)) (kf (by first | exact h | exact Classical.not_not.mp h))
theorem ev_icmp_ne {x y : Int32} {off : Int} {tgt : Nat} (hd : decode (mC Y) pc = .ok (.if_icmp .ne off, 3)) (ht : (pc : Int) + off = (tgt : Int)) (kt : ¬ x = y → Ev g d Y tgt ls st μ Q) (kf : x = y → Ev g d Y (pc + 3) ls st μ Q) : Ev g d Y pc ls (.int y :: .int x :: st) μ Q := by
  by_cases h : ¬ x = y
  · exact ev_w (fun _ _ _ _ _ _ _ _ _ _ _ _ _ _ _ C hR hS hL k => lv_icmp_ne C.1.1 C.1.2.1 hd ht (fun _ => k) (fun n => by exact absurd h (by first | exact n | exact (fun z => z n)))) (kt h)
  · exact ev_w (fun _ _ _ _ _ _ _ _ _ _ _ _ _ _ _ C hR hS hL k => lv_icmp_ne C.1.1 C.1.2.1 hd ht (fun n => absurd n h) (fun _ => k)) (kf (by first | exact h | exact Classical.not_not.mp h))
theorem ev_icmp_lt {x y : Int32} {off : Int} {tgt : Nat} (hd : decode (mC Y) pc = .ok (.if_icmp .lt off, 3)) (ht : (pc : Int) + off = (tgt : Int)) (kt : x < y → Ev g d Y tgt ls st μ Q) (kf : ¬ x < y → Ev g d Y (pc + 3) ls st μ Q) : Ev g d Y pc ls (.int y :: .int x :: st) μ Q := by
  by_cases h : x < y
  · exact ev_w (fun _ _ _ _ _ _ _ _ _ _ _ _ _ _ _ C hR hS hL k => lv_icmp_lt C.1.1 C.1.2.1 hd ht (fun _ => k) (fun n => by exact absurd h (by first | exact n | exact (fun z => z n)))) (kt h)
  · exact ev_w (fun _ _ _ _ _ _ _ _ _ _ _ _ _ _ _ C hR hS hL k => lv_icmp_lt C.1.1 C.1.2.1 hd ht (fun n => absurd n h) (fun _ => k)) (kf (by first | exact h | exact Classical.not_not.mp h))
theorem ev_icmp_ge {x y : Int32} {off : Int} {tgt : Nat} (hd : decode (mC Y) pc = .ok (.if_icmp .ge off, 3)) (ht : (pc : Int) + off = (tgt : Int)) (kt : y ≤ x → Ev g d Y tgt ls st μ Q) (kf : ¬ y ≤ x → Ev g d Y (pc + 3) ls st μ Q) : Ev g d Y pc ls (.int y :: .int x :: st) μ Q := by
  by_cases h : y ≤ x
  · exact ev_w (fun _ _ _ _ _ _ _ _ _ _ _ _ _ _ _ C hR hS hL k => lv_icmp_ge C.1.1 C.1.2.1 hd ht (fun _ => k) (fun n => by exact absurd h (by first | exact n | exact (fun z => z n)))) (kt h)
  · exact ev_w (fun _ _ _ _ _ _ _ _ _ _ _ _ _ _ _ C hR hS hL k => lv_icmp_ge C.1.1 C.1.2.1 hd ht (fun n => absurd n h) (fun _ => k)) (kf (by first | exact h | exact Classical.not_not.mp h))
theorem ev_icmp_gt {x y : Int32} {off : Int} {tgt : Nat} (hd : decode (mC Y) pc = .ok (.if_icmp .gt off, 3)) (ht : (pc : Int) + off = (tgt : Int)) (kt : y < x → Ev g d Y tgt ls st μ Q) (kf : ¬ y < x → Ev g d Y (pc + 3) ls st μ Q) : Ev g d Y pc ls (.int y :: .int x :: st) μ Q := by
  by_cases h : y < x
  · exact ev_w (fun _ _ _ _ _ _ _ _ _ _ _ _ _ _ _ C hR hS hL k => lv_icmp_gt C.1.1 C.1.2.1 hd ht (fun _ => k) (fun n => by exact absurd h (by first | exact n | exact (fun z => z n)))) (kt h)
  · exact ev_w (fun _ _ _ _ _ _ _ _ _ _ _ _ _ _ _ C hR hS hL k => lv_icmp_gt C.1.1 C.1.2.1 hd ht (fun n => absurd n h) (fun _ => k)) (kf (by first | exact h | exact Classical.not_not.mp h))
theorem ev_icmp_le {x y : Int32} {off : Int} {tgt : Nat} (hd : decode (mC Y) pc = .ok (.if_icmp .le off, 3)) (ht : (pc : Int) + off = (tgt : Int)) (kt : x ≤ y → Ev g d Y tgt ls st μ Q) (kf : ¬ x ≤ y → Ev g d Y (pc + 3) ls st μ Q) : Ev g d Y pc ls (.int y :: .int x :: st) μ Q := by
  by_cases h : x ≤ y
  · exact ev_w (fun _ _ _ _ _ _ _ _ _ _ _ _ _ _ _ C hR hS hL k => lv_icmp_le C.1.1 C.1.2.1 hd ht (fun _ => k) (fun n => by exact absurd h (by first | exact n | exact (fun z => z n)))) (kt h)
  · exact ev_w (fun _ _ _ _ _ _ _ _ _ _ _ _ _ _ _ C hR hS hL k => lv_icmp_le C.1.1 C.1.2.1 hd ht (fun n => absurd n h) (fun _ => k)) (kf (by first | exact h | exact Classical.not_not.mp h))
theorem ev_istore_n {k : Fin 4} {x : Int32} (hd : decode (mC Y) pc = .ok (.istore_n k, 1))  (hn : (k : Nat) < mN Y) (kk : Ev g d Y (pc + 1) (ls.set (k : Nat) (some (.int x))) st μ Q) : Ev g d Y pc ls (.int x :: st) μ Q := by
  obtain ⟨v, μ', hQ, hG, hE⟩ := kk
  refine ⟨v, μ', hQ, hG, fun p e s m args below meth c R H locs k0 la C h1 h2 h3 h4 hR hS hL => ?_⟩
  exact lv_istore_n C.1.1 C.1.2.1 hd rfl hL.2 hn rfl fun la' hl' => hE p e s m args below meth c R H locs k0 la' C h1 h2 h3 h4 hR hS (hL.set rfl hl')
theorem ev_istore {i : Nat} {x : Int32} (hd : decode (mC Y) pc = .ok (.istore i, 2))  (hn : i < mN Y) (kk : Ev g d Y (pc + 2) (ls.set i (some (.int x))) st μ Q) : Ev g d Y pc ls (.int x :: st) μ Q := by
  obtain ⟨v, μ', hQ, hG, hE⟩ := kk
  refine ⟨v, μ', hQ, hG, fun p e s m args below meth c R H locs k0 la C h1 h2 h3 h4 hR hS hL => ?_⟩
  exact lv_istore C.1.1 C.1.2.1 hd hL.2 hn rfl fun la' hl' => hE p e s m args below meth c R H locs k0 la' C h1 h2 h3 h4 hR hS (hL.set rfl hl')
theorem ev_astore_n {k : Fin 4} {x : Nat} (hd : decode (mC Y) pc = .ok (.astore_n k, 1))  (hn : (k : Nat) < mN Y) (kk : Ev g d Y (pc + 1) (ls.set (k : Nat) (some (.ref x))) st μ Q) : Ev g d Y pc ls (.ref x :: st) μ Q := by
  obtain ⟨v, μ', hQ, hG, hE⟩ := kk
  refine ⟨v, μ', hQ, hG, fun p e s m args below meth c R H locs k0 la C h1 h2 h3 h4 hR hS hL => ?_⟩
  exact lv_astore_n C.1.1 C.1.2.1 hd rfl hL.2 hn rfl fun la' hl' => hE p e s m args below meth c R H locs k0 la' C h1 h2 h3 h4 hR hS (hL.set rfl hl')
theorem ev_astore {i x : Nat} (hd : decode (mC Y) pc = .ok (.astore i, 2))  (hn : i < mN Y) (kk : Ev g d Y (pc + 2) (ls.set i (some (.ref x))) st μ Q) : Ev g d Y pc ls (.ref x :: st) μ Q := by
  obtain ⟨v, μ', hQ, hG, hE⟩ := kk
  refine ⟨v, μ', hQ, hG, fun p e s m args below meth c R H locs k0 la C h1 h2 h3 h4 hR hS hL => ?_⟩
  exact lv_astore C.1.1 C.1.2.1 hd hL.2 hn rfl fun la' hl' => hE p e s m args below meth c R H locs k0 la' C h1 h2 h3 h4 hR hS (hL.set rfl hl')
theorem ev_astore_nN {k : Fin 4} (hd : decode (mC Y) pc = .ok (.astore_n k, 1))  (hn : (k : Nat) < mN Y) (kk : Ev g d Y (pc + 1) (ls.set (k : Nat) (some (.null))) st μ Q) : Ev g d Y pc ls (.null :: st) μ Q := by
  obtain ⟨v, μ', hQ, hG, hE⟩ := kk
  refine ⟨v, μ', hQ, hG, fun p e s m args below meth c R H locs k0 la C h1 h2 h3 h4 hR hS hL => ?_⟩
  exact lv_astore_nN C.1.1 C.1.2.1 hd rfl hL.2 hn rfl fun la' hl' => hE p e s m args below meth c R H locs k0 la' C h1 h2 h3 h4 hR hS (hL.set rfl hl')
theorem ev_astoreN {i : Nat} (hd : decode (mC Y) pc = .ok (.astore i, 2))  (hn : i < mN Y) (kk : Ev g d Y (pc + 2) (ls.set i (some (.null))) st μ Q) : Ev g d Y pc ls (.null :: st) μ Q := by
  obtain ⟨v, μ', hQ, hG, hE⟩ := kk
  refine ⟨v, μ', hQ, hG, fun p e s m args below meth c R H locs k0 la C h1 h2 h3 h4 hR hS hL => ?_⟩
  exact lv_astoreN C.1.1 C.1.2.1 hd hL.2 hn rfl fun la' hl' => hE p e s m args below meth c R H locs k0 la' C h1 h2 h3 h4 hR hS (hL.set rfl hl')
theorem ev_iinc {i : Nat} {n : Int} {x : Int32} (hd : decode (mC Y) pc = .ok (.iinc i n, 3)) (hl : ls[i]? = some (some (.int x))) (hn : i < mN Y) (kk : Ev g d Y (pc + 3) (ls.set i (some (.int (x + Int32.ofInt n)))) st μ Q) : Ev g d Y pc ls st μ Q := by
  obtain ⟨v, μ', hQ, hG, hE⟩ := kk
  refine ⟨v, μ', hQ, hG, fun p e s m args below meth c R H locs k0 la C h1 h2 h3 h4 hR hS hL => ?_⟩
  obtain ⟨k, hk⟩ := List.getElem?_of_mem (mem_lpr.mpr hl)
  exact lv_iinc C.1.1 C.1.2.1 hd hL.2 hk rfl hn rfl fun la' hl' => hE p e s m args below meth c R H locs k0 la' C h1 h2 h3 h4 hR hS (hL.set rfl hl')
theorem ev_iret {x : Int32} (hd : decode (mC Y) pc = .ok (.ireturn, 1)) (hr : mR Y = some .int) (hq : Q (some (.int x)) μ) : Ev g d Y pc ls [.int x] μ Q := by
  refine ⟨_, μ, hq, Gr.rf, fun p e s m args below meth c R H locs k0 la C h1 h2 h3 h4 hR hS hL => ?_⟩
  exact W.iret C.1.1 C.1.2.1 (C.1.2.2.2.1.trans hr) (fun t ht hW => ⟨rfl, by rw [ht]; exact hR, hS.F ht⟩) hS.2.2 hd (hlocks := C.1.2.2.2.2.1)
theorem ev_zret {x : Int32} {ty : FieldType} (hd : decode (mC Y) pc = .ok (.ireturn, 1)) (hr : mR Y = some ty) (hn : narrow ty (.int x) = .int x) (hq : Q (some (.int x)) μ) : Ev g d Y pc ls [.int x] μ Q := by
  refine ⟨_, μ, hq, Gr.rf, fun p e s m args below meth c R H locs k0 la C h1 h2 h3 h4 hR hS hL => ?_⟩
  exact W.zret C.1.1 C.1.2.1 (C.1.2.2.2.1.trans hr) hn (fun t ht hW => ⟨rfl, by rw [ht]; exact hR, hS.F ht⟩) hS.2.2 hd (hlocks := C.1.2.2.2.2.1)
theorem ev_vret (hd : decode (mC Y) pc = .ok (.return_, 1)) (hr : mR Y = none) (hq : Q none μ) : Ev g d Y pc ls [] μ Q := by
  refine ⟨_, μ, hq, Gr.rf, fun p e s m args below meth c R H locs k0 la C h1 h2 h3 h4 hR hS hL => ?_⟩
  exact W.vret C.1.1 C.1.2.1 (C.1.2.2.2.1.trans hr) (fun t ht hW => ⟨rfl, by rw [ht]; exact hR, hS.F ht⟩) hS.2.2 hd (hlocks := C.1.2.2.2.2.1)
theorem ev_lret {x : Int64} (hd : decode (mC Y) pc = .ok (.lreturn, 1)) (hr : mR Y = some .long) (hq : Q (some (.long x)) μ) : Ev g d Y pc ls [.long x] μ Q := by
  refine ⟨_, μ, hq, Gr.rf, fun p e s m args below meth c R H locs k0 la C h1 h2 h3 h4 hR hS hL => ?_⟩
  exact W.lret C.1.1 C.1.2.1 (C.1.2.2.2.1.trans hr) (fun t ht hW => ⟨rfl, by rw [ht]; exact hR, hS.F ht⟩) hS.2.2 hd (hlocks := C.1.2.2.2.2.1)
theorem ev_aret {x : Value} {rt : FieldType} (hd : decode (mC Y) pc = .ok (.areturn, 1)) (hr : mR Y = some rt) (hrt : (∃ n, rt = .object n) ∨ ∃ t, rt = .array t) (hv : x = .null ∨ ∃ a, x = .ref a) (hq : Q (some x) μ) : Ev g d Y pc ls [x] μ Q := by
  refine ⟨_, μ, hq, Gr.rf, fun p e s m args below meth c R H locs k0 la C h1 h2 h3 h4 hR hS hL => ?_⟩
  exact W.aret C.1.1 C.1.2.1 (C.1.2.2.2.1.trans hr) hrt hv (fun t ht hW => ⟨rfl, by rw [ht]; exact hR, hS.F ht⟩) hS.2.2 hd (hlocks := C.1.2.2.2.2.1)
end RULES
end
