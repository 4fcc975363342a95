section
-- ===== PART A: goes FIRST, ahead of the names: the tables' words, and 'selects' of the private methods out of them =====
/-- a private method of a class that the tables say can be made, by its rows of tables_1 -/
def lw_okq (q : MethodName × Nat) : Prop := (q.1.cls ≠ "java/lang/invoke/MethodHandle" ∧ q.1.cls ≠ "java/lang/invoke/VarHandle") ∧ Cond.instantiable q.1.cls q.2 ∈ tables_1 ∧ Cond.privateMethod q.1 ∈ tables_1 ∧ Cond.instanceMethod q.1 ∈ tables_1
theorem lw_p0 : lw_okq (⟨"PaperPays$Reader", "readToken", "()V"⟩, 10) := ⟨⟨by decide +kernel, by decide +kernel⟩, List.mem_of_getElem? (i := 86) (by decide +kernel), List.mem_of_getElem? (i := 324) (by decide +kernel), List.mem_of_getElem? (i := 325) (by decide +kernel)⟩
theorem lw_p1 : lw_okq (⟨"PaperPays$Reader", "byteAt", "(I)I"⟩, 10) := ⟨⟨by decide +kernel, by decide +kernel⟩, List.mem_of_getElem? (i := 86) (by decide +kernel), List.mem_of_getElem? (i := 328) (by decide +kernel), List.mem_of_getElem? (i := 329) (by decide +kernel)⟩
theorem lw_p2 : lw_okq (⟨"PaperPays$Reader", "takeNumber", "()V"⟩, 10) := ⟨⟨by decide +kernel, by decide +kernel⟩, List.mem_of_getElem? (i := 86) (by decide +kernel), List.mem_of_getElem? (i := 335) (by decide +kernel), List.mem_of_getElem? (i := 336) (by decide +kernel)⟩
theorem lw_p3 : lw_okq (⟨"PaperPays$Reader", "takeWord", "()V"⟩, 10) := ⟨⟨by decide +kernel, by decide +kernel⟩, List.mem_of_getElem? (i := 86) (by decide +kernel), List.mem_of_getElem? (i := 345) (by decide +kernel), List.mem_of_getElem? (i := 346) (by decide +kernel)⟩
theorem lw_p4 : lw_okq (⟨"PaperPays$Reader", "readPerson", "()Z"⟩, 10) := ⟨⟨by decide +kernel, by decide +kernel⟩, List.mem_of_getElem? (i := 86) (by decide +kernel), List.mem_of_getElem? (i := 398) (by decide +kernel), List.mem_of_getElem? (i := 399) (by decide +kernel)⟩
theorem lw_p5 : lw_okq (⟨"PaperPays$Reader", "readNumber", "(II)Z"⟩, 10) := ⟨⟨by decide +kernel, by decide +kernel⟩, List.mem_of_getElem? (i := 86) (by decide +kernel), List.mem_of_getElem? (i := 402) (by decide +kernel), List.mem_of_getElem? (i := 403) (by decide +kernel)⟩
theorem lw_p6 : lw_okq (⟨"PaperPays$Reader", "readRule", "(I)Z"⟩, 10) := ⟨⟨by decide +kernel, by decide +kernel⟩, List.mem_of_getElem? (i := 86) (by decide +kernel), List.mem_of_getElem? (i := 406) (by decide +kernel), List.mem_of_getElem? (i := 407) (by decide +kernel)⟩
theorem lw_p7 : lw_okq (⟨"PaperPays$Reader", "readStop", "()Z"⟩, 10) := ⟨⟨by decide +kernel, by decide +kernel⟩, List.mem_of_getElem? (i := 86) (by decide +kernel), List.mem_of_getElem? (i := 414) (by decide +kernel), List.mem_of_getElem? (i := 415) (by decide +kernel)⟩
theorem lw_p8 : lw_okq (⟨"PaperPays", "isPerson", "(I)Z"⟩, 10) := ⟨⟨by decide +kernel, by decide +kernel⟩, List.mem_of_getElem? (i := 16) (by decide +kernel), List.mem_of_getElem? (i := 439) (by decide +kernel), List.mem_of_getElem? (i := 440) (by decide +kernel)⟩
theorem lw_p9 : lw_okq (⟨"PaperPays$Room", "valueBy", "(II)I"⟩, 17) := ⟨⟨by decide +kernel, by decide +kernel⟩, List.mem_of_getElem? (i := 130) (by decide +kernel), List.mem_of_getElem? (i := 448) (by decide +kernel), List.mem_of_getElem? (i := 449) (by decide +kernel)⟩
theorem lw_p10 : lw_okq (⟨"PaperPays$Room", "playRound", "()V"⟩, 17) := ⟨⟨by decide +kernel, by decide +kernel⟩, List.mem_of_getElem? (i := 130) (by decide +kernel), List.mem_of_getElem? (i := 487) (by decide +kernel), List.mem_of_getElem? (i := 488) (by decide +kernel)⟩
theorem lw_p11 : lw_okq (⟨"PaperPays$Room", "sellOne", "()Z"⟩, 17) := ⟨⟨by decide +kernel, by decide +kernel⟩, List.mem_of_getElem? (i := 130) (by decide +kernel), List.mem_of_getElem? (i := 492) (by decide +kernel), List.mem_of_getElem? (i := 493) (by decide +kernel)⟩
theorem lw_p12 : lw_okq (⟨"PaperPays$Room", "buyer", "()I"⟩, 17) := ⟨⟨by decide +kernel, by decide +kernel⟩, List.mem_of_getElem? (i := 130) (by decide +kernel), List.mem_of_getElem? (i := 496) (by decide +kernel), List.mem_of_getElem? (i := 497) (by decide +kernel)⟩
theorem lw_p13 : lw_okq (⟨"PaperPays$Room", "seller", "(I)I"⟩, 17) := ⟨⟨by decide +kernel, by decide +kernel⟩, List.mem_of_getElem? (i := 130) (by decide +kernel), List.mem_of_getElem? (i := 500) (by decide +kernel), List.mem_of_getElem? (i := 501) (by decide +kernel)⟩
theorem lw_p14 : lw_okq (⟨"PaperPays$Room", "payEach", "(I)V"⟩, 17) := ⟨⟨by decide +kernel, by decide +kernel⟩, List.mem_of_getElem? (i := 130) (by decide +kernel), List.mem_of_getElem? (i := 505) (by decide +kernel), List.mem_of_getElem? (i := 506) (by decide +kernel)⟩
theorem lw_p15 : lw_okq (⟨"PaperPays$Room", "countSaid", "()V"⟩, 17) := ⟨⟨by decide +kernel, by decide +kernel⟩, List.mem_of_getElem? (i := 130) (by decide +kernel), List.mem_of_getElem? (i := 509) (by decide +kernel), List.mem_of_getElem? (i := 510) (by decide +kernel)⟩
def lw_privs_1 : List (MethodName × Nat) := [(⟨"PaperPays$Reader", "readToken", "()V"⟩, 10), (⟨"PaperPays$Reader", "byteAt", "(I)I"⟩, 10), (⟨"PaperPays$Reader", "takeNumber", "()V"⟩, 10), (⟨"PaperPays$Reader", "takeWord", "()V"⟩, 10), (⟨"PaperPays$Reader", "readPerson", "()Z"⟩, 10), (⟨"PaperPays$Reader", "readNumber", "(II)Z"⟩, 10), (⟨"PaperPays$Reader", "readRule", "(I)Z"⟩, 10), (⟨"PaperPays$Reader", "readStop", "()Z"⟩, 10), (⟨"PaperPays", "isPerson", "(I)Z"⟩, 10), (⟨"PaperPays$Room", "valueBy", "(II)I"⟩, 17), (⟨"PaperPays$Room", "playRound", "()V"⟩, 17), (⟨"PaperPays$Room", "sellOne", "()Z"⟩, 17), (⟨"PaperPays$Room", "buyer", "()I"⟩, 17), (⟨"PaperPays$Room", "seller", "(I)I"⟩, 17), (⟨"PaperPays$Room", "payEach", "(I)V"⟩, 17), (⟨"PaperPays$Room", "countSaid", "()V"⟩, 17)]
theorem lw_r1 : ∀ q ∈ lw_privs_1, lw_okq q := List.forall_mem_cons.mpr ⟨lw_p0, List.forall_mem_cons.mpr ⟨lw_p1, List.forall_mem_cons.mpr ⟨lw_p2, List.forall_mem_cons.mpr ⟨lw_p3, List.forall_mem_cons.mpr ⟨lw_p4, List.forall_mem_cons.mpr ⟨lw_p5, List.forall_mem_cons.mpr ⟨lw_p6, List.forall_mem_cons.mpr ⟨lw_p7, List.forall_mem_cons.mpr ⟨lw_p8, List.forall_mem_cons.mpr ⟨lw_p9, List.forall_mem_cons.mpr ⟨lw_p10, List.forall_mem_cons.mpr ⟨lw_p11, List.forall_mem_cons.mpr ⟨lw_p12, List.forall_mem_cons.mpr ⟨lw_p13, List.forall_mem_cons.mpr ⟨lw_p14, List.forall_mem_cons.mpr ⟨lw_p15, fun _ h => absurd h List.not_mem_nil⟩⟩⟩⟩⟩⟩⟩⟩⟩⟩⟩⟩⟩⟩⟩⟩
theorem lw_p16 : lw_okq (⟨"PaperPays", "playTried", "(I)V"⟩, 10) := ⟨⟨by decide +kernel, by decide +kernel⟩, List.mem_of_getElem? (i := 16) (by decide +kernel), List.mem_of_getElem? (i := 567) (by decide +kernel), List.mem_of_getElem? (i := 568) (by decide +kernel)⟩
theorem lw_p17 : lw_okq (⟨"PaperPays$Riders", "isRest", "(II)Z"⟩, 5) := ⟨⟨by decide +kernel, by decide +kernel⟩, List.mem_of_getElem? (i := 221) (by decide +kernel), List.mem_of_getElem? (i := 604) (by decide +kernel), List.mem_of_getElem? (i := 605) (by decide +kernel)⟩
theorem lw_p18 : lw_okq (⟨"PaperPays$Riders", "shareOf", "(II)I"⟩, 5) := ⟨⟨by decide +kernel, by decide +kernel⟩, List.mem_of_getElem? (i := 221) (by decide +kernel), List.mem_of_getElem? (i := 608) (by decide +kernel), List.mem_of_getElem? (i := 609) (by decide +kernel)⟩
theorem lw_p19 : lw_okq (⟨"PaperPays$Riders", "priceIn", "(I)I"⟩, 5) := ⟨⟨by decide +kernel, by decide +kernel⟩, List.mem_of_getElem? (i := 221) (by decide +kernel), List.mem_of_getElem? (i := 613) (by decide +kernel), List.mem_of_getElem? (i := 614) (by decide +kernel)⟩
theorem lw_p20 : lw_okq (⟨"PaperPays$Riders", "countRest", "(I)V"⟩, 5) := ⟨⟨by decide +kernel, by decide +kernel⟩, List.mem_of_getElem? (i := 221) (by decide +kernel), List.mem_of_getElem? (i := 617) (by decide +kernel), List.mem_of_getElem? (i := 618) (by decide +kernel)⟩
theorem lw_p21 : lw_okq (⟨"PaperPays$Clues", "errorsBy", "(LPaperPays$Rules;III)I"⟩, 5) := ⟨⟨by decide +kernel, by decide +kernel⟩, List.mem_of_getElem? (i := 246) (by decide +kernel), List.mem_of_getElem? (i := 654) (by decide +kernel), List.mem_of_getElem? (i := 655) (by decide +kernel)⟩
theorem lw_p22 : lw_okq (⟨"PaperPays$Room", "isTruer", "(II)Z"⟩, 17) := ⟨⟨by decide +kernel, by decide +kernel⟩, List.mem_of_getElem? (i := 130) (by decide +kernel), List.mem_of_getElem? (i := 677) (by decide +kernel), List.mem_of_getElem? (i := 678) (by decide +kernel)⟩
theorem lw_p23 : lw_okq (⟨"PaperPays", "markBody", "(III)I"⟩, 10) := ⟨⟨by decide +kernel, by decide +kernel⟩, List.mem_of_getElem? (i := 16) (by decide +kernel), List.mem_of_getElem? (i := 685) (by decide +kernel), List.mem_of_getElem? (i := 686) (by decide +kernel)⟩
theorem lw_p24 : lw_okq (⟨"PaperPays", "imageOf", "(I)LPaperPays$Image;"⟩, 10) := ⟨⟨by decide +kernel, by decide +kernel⟩, List.mem_of_getElem? (i := 16) (by decide +kernel), List.mem_of_getElem? (i := 697) (by decide +kernel), List.mem_of_getElem? (i := 698) (by decide +kernel)⟩
theorem lw_p25 : lw_okq (⟨"PaperPaysModel", "drafts", "()V"⟩, 25) := ⟨⟨by decide +kernel, by decide +kernel⟩, List.mem_of_getElem? (i := 717) (by decide +kernel), List.mem_of_getElem? (i := 723) (by decide +kernel), List.mem_of_getElem? (i := 724) (by decide +kernel)⟩
theorem lw_p26 : lw_okq (⟨"PaperPaysModel", "adopts", "()V"⟩, 25) := ⟨⟨by decide +kernel, by decide +kernel⟩, List.mem_of_getElem? (i := 717) (by decide +kernel), List.mem_of_getElem? (i := 727) (by decide +kernel), List.mem_of_getElem? (i := 728) (by decide +kernel)⟩
theorem lw_p27 : lw_okq (⟨"PaperPaysModel", "worthIn", "(I)I"⟩, 25) := ⟨⟨by decide +kernel, by decide +kernel⟩, List.mem_of_getElem? (i := 717) (by decide +kernel), List.mem_of_getElem? (i := 731) (by decide +kernel), List.mem_of_getElem? (i := 732) (by decide +kernel)⟩
theorem lw_p28 : lw_okq (⟨"PaperPaysModel", "puts", "(III)V"⟩, 25) := ⟨⟨by decide +kernel, by decide +kernel⟩, List.mem_of_getElem? (i := 717) (by decide +kernel), List.mem_of_getElem? (i := 735) (by decide +kernel), List.mem_of_getElem? (i := 736) (by decide +kernel)⟩
theorem lw_p29 : lw_okq (⟨"PaperPaysModel", "anew", "()V"⟩, 25) := ⟨⟨by decide +kernel, by decide +kernel⟩, List.mem_of_getElem? (i := 717) (by decide +kernel), List.mem_of_getElem? (i := 739) (by decide +kernel), List.mem_of_getElem? (i := 740) (by decide +kernel)⟩
theorem lw_p30 : lw_okq (⟨"PaperPaysModel", "advances", "()V"⟩, 25) := ⟨⟨by decide +kernel, by decide +kernel⟩, List.mem_of_getElem? (i := 717) (by decide +kernel), List.mem_of_getElem? (i := 836) (by decide +kernel), List.mem_of_getElem? (i := 837) (by decide +kernel)⟩
theorem lw_p31 : lw_okq (⟨"PaperPaysModel", "byteAt", "(I)I"⟩, 25) := ⟨⟨by decide +kernel, by decide +kernel⟩, List.mem_of_getElem? (i := 717) (by decide +kernel), List.mem_of_getElem? (i := 840) (by decide +kernel), List.mem_of_getElem? (i := 841) (by decide +kernel)⟩
def lw_privs_2 : List (MethodName × Nat) := [(⟨"PaperPays", "playTried", "(I)V"⟩, 10), (⟨"PaperPays$Riders", "isRest", "(II)Z"⟩, 5), (⟨"PaperPays$Riders", "shareOf", "(II)I"⟩, 5), (⟨"PaperPays$Riders", "priceIn", "(I)I"⟩, 5), (⟨"PaperPays$Riders", "countRest", "(I)V"⟩, 5), (⟨"PaperPays$Clues", "errorsBy", "(LPaperPays$Rules;III)I"⟩, 5), (⟨"PaperPays$Room", "isTruer", "(II)Z"⟩, 17), (⟨"PaperPays", "markBody", "(III)I"⟩, 10), (⟨"PaperPays", "imageOf", "(I)LPaperPays$Image;"⟩, 10), (⟨"PaperPaysModel", "drafts", "()V"⟩, 25), (⟨"PaperPaysModel", "adopts", "()V"⟩, 25), (⟨"PaperPaysModel", "worthIn", "(I)I"⟩, 25), (⟨"PaperPaysModel", "puts", "(III)V"⟩, 25), (⟨"PaperPaysModel", "anew", "()V"⟩, 25), (⟨"PaperPaysModel", "advances", "()V"⟩, 25), (⟨"PaperPaysModel", "byteAt", "(I)I"⟩, 25)]
theorem lw_r2 : ∀ q ∈ lw_privs_2, lw_okq q := List.forall_mem_cons.mpr ⟨lw_p16, List.forall_mem_cons.mpr ⟨lw_p17, List.forall_mem_cons.mpr ⟨lw_p18, List.forall_mem_cons.mpr ⟨lw_p19, List.forall_mem_cons.mpr ⟨lw_p20, List.forall_mem_cons.mpr ⟨lw_p21, List.forall_mem_cons.mpr ⟨lw_p22, List.forall_mem_cons.mpr ⟨lw_p23, List.forall_mem_cons.mpr ⟨lw_p24, List.forall_mem_cons.mpr ⟨lw_p25, List.forall_mem_cons.mpr ⟨lw_p26, List.forall_mem_cons.mpr ⟨lw_p27, List.forall_mem_cons.mpr ⟨lw_p28, List.forall_mem_cons.mpr ⟨lw_p29, List.forall_mem_cons.mpr ⟨lw_p30, List.forall_mem_cons.mpr ⟨lw_p31, fun _ h => absurd h List.not_mem_nil⟩⟩⟩⟩⟩⟩⟩⟩⟩⟩⟩⟩⟩⟩⟩⟩
theorem lw_p32 : lw_okq (⟨"PaperPaysModel", "isWell", "()Z"⟩, 25) := ⟨⟨by decide +kernel, by decide +kernel⟩, List.mem_of_getElem? (i := 717) (by decide +kernel), List.mem_of_getElem? (i := 854) (by decide +kernel), List.mem_of_getElem? (i := 855) (by decide +kernel)⟩
theorem lw_p33 : lw_okq (⟨"PaperPaysModel", "takes", "(Z)I"⟩, 25) := ⟨⟨by decide +kernel, by decide +kernel⟩, List.mem_of_getElem? (i := 717) (by decide +kernel), List.mem_of_getElem? (i := 858) (by decide +kernel), List.mem_of_getElem? (i := 859) (by decide +kernel)⟩
theorem lw_p34 : lw_okq (⟨"PaperPaysModel", "readsPerson", "()V"⟩, 25) := ⟨⟨by decide +kernel, by decide +kernel⟩, List.mem_of_getElem? (i := 717) (by decide +kernel), List.mem_of_getElem? (i := 862) (by decide +kernel), List.mem_of_getElem? (i := 863) (by decide +kernel)⟩
theorem lw_p35 : lw_okq (⟨"PaperPaysModel", "number", "(II)I"⟩, 25) := ⟨⟨by decide +kernel, by decide +kernel⟩, List.mem_of_getElem? (i := 717) (by decide +kernel), List.mem_of_getElem? (i := 866) (by decide +kernel), List.mem_of_getElem? (i := 867) (by decide +kernel)⟩
theorem lw_p36 : lw_okq (⟨"PaperPaysModel", "readsRule", "(I)V"⟩, 25) := ⟨⟨by decide +kernel, by decide +kernel⟩, List.mem_of_getElem? (i := 717) (by decide +kernel), List.mem_of_getElem? (i := 870) (by decide +kernel), List.mem_of_getElem? (i := 871) (by decide +kernel)⟩
theorem lw_p37 : lw_okq (⟨"PaperPaysModel", "isPerson", "(I)Z"⟩, 25) := ⟨⟨by decide +kernel, by decide +kernel⟩, List.mem_of_getElem? (i := 717) (by decide +kernel), List.mem_of_getElem? (i := 888) (by decide +kernel), List.mem_of_getElem? (i := 889) (by decide +kernel)⟩
theorem lw_p38 : lw_okq (⟨"PaperPaysModel", "of", "(II)I"⟩, 25) := ⟨⟨by decide +kernel, by decide +kernel⟩, List.mem_of_getElem? (i := 717) (by decide +kernel), List.mem_of_getElem? (i := 893) (by decide +kernel), List.mem_of_getElem? (i := 894) (by decide +kernel)⟩
theorem lw_p39 : lw_okq (⟨"PaperPaysModel", "valueOf", "(I)I"⟩, 25) := ⟨⟨by decide +kernel, by decide +kernel⟩, List.mem_of_getElem? (i := 717) (by decide +kernel), List.mem_of_getElem? (i := 897) (by decide +kernel), List.mem_of_getElem? (i := 898) (by decide +kernel)⟩
theorem lw_p40 : lw_okq (⟨"PaperPaysModel", "riding", "(I)I"⟩, 25) := ⟨⟨by decide +kernel, by decide +kernel⟩, List.mem_of_getElem? (i := 717) (by decide +kernel), List.mem_of_getElem? (i := 901) (by decide +kernel), List.mem_of_getElem? (i := 902) (by decide +kernel)⟩
theorem lw_p41 : lw_okq (⟨"PaperPaysModel", "halvesIn", "(I)I"⟩, 25) := ⟨⟨by decide +kernel, by decide +kernel⟩, List.mem_of_getElem? (i := 717) (by decide +kernel), List.mem_of_getElem? (i := 909) (by decide +kernel), List.mem_of_getElem? (i := 910) (by decide +kernel)⟩
theorem lw_p42 : lw_okq (⟨"PaperPaysModel", "isOver", "()Z"⟩, 25) := ⟨⟨by decide +kernel, by decide +kernel⟩, List.mem_of_getElem? (i := 717) (by decide +kernel), List.mem_of_getElem? (i := 921) (by decide +kernel), List.mem_of_getElem? (i := 922) (by decide +kernel)⟩
theorem lw_p43 : lw_okq (⟨"PaperPaysModel", "goesBy", "()V"⟩, 25) := ⟨⟨by decide +kernel, by decide +kernel⟩, List.mem_of_getElem? (i := 717) (by decide +kernel), List.mem_of_getElem? (i := 925) (by decide +kernel), List.mem_of_getElem? (i := 926) (by decide +kernel)⟩
theorem lw_p44 : lw_okq (⟨"PaperPaysModel", "sells", "()Z"⟩, 25) := ⟨⟨by decide +kernel, by decide +kernel⟩, List.mem_of_getElem? (i := 717) (by decide +kernel), List.mem_of_getElem? (i := 929) (by decide +kernel), List.mem_of_getElem? (i := 930) (by decide +kernel)⟩
theorem lw_p45 : lw_okq (⟨"PaperPaysModel", "buyer", "()I"⟩, 25) := ⟨⟨by decide +kernel, by decide +kernel⟩, List.mem_of_getElem? (i := 717) (by decide +kernel), List.mem_of_getElem? (i := 933) (by decide +kernel), List.mem_of_getElem? (i := 934) (by decide +kernel)⟩
theorem lw_p46 : lw_okq (⟨"PaperPaysModel", "seller", "(I)I"⟩, 25) := ⟨⟨by decide +kernel, by decide +kernel⟩, List.mem_of_getElem? (i := 717) (by decide +kernel), List.mem_of_getElem? (i := 937) (by decide +kernel), List.mem_of_getElem? (i := 938) (by decide +kernel)⟩
theorem lw_p47 : lw_okq (⟨"PaperPaysModel", "pays", "(I)V"⟩, 25) := ⟨⟨by decide +kernel, by decide +kernel⟩, List.mem_of_getElem? (i := 717) (by decide +kernel), List.mem_of_getElem? (i := 942) (by decide +kernel), List.mem_of_getElem? (i := 943) (by decide +kernel)⟩
def lw_privs_3 : List (MethodName × Nat) := [(⟨"PaperPaysModel", "isWell", "()Z"⟩, 25), (⟨"PaperPaysModel", "takes", "(Z)I"⟩, 25), (⟨"PaperPaysModel", "readsPerson", "()V"⟩, 25), (⟨"PaperPaysModel", "number", "(II)I"⟩, 25), (⟨"PaperPaysModel", "readsRule", "(I)V"⟩, 25), (⟨"PaperPaysModel", "isPerson", "(I)Z"⟩, 25), (⟨"PaperPaysModel", "of", "(II)I"⟩, 25), (⟨"PaperPaysModel", "valueOf", "(I)I"⟩, 25), (⟨"PaperPaysModel", "riding", "(I)I"⟩, 25), (⟨"PaperPaysModel", "halvesIn", "(I)I"⟩, 25), (⟨"PaperPaysModel", "isOver", "()Z"⟩, 25), (⟨"PaperPaysModel", "goesBy", "()V"⟩, 25), (⟨"PaperPaysModel", "sells", "()Z"⟩, 25), (⟨"PaperPaysModel", "buyer", "()I"⟩, 25), (⟨"PaperPaysModel", "seller", "(I)I"⟩, 25), (⟨"PaperPaysModel", "pays", "(I)V"⟩, 25)]
theorem lw_r3 : ∀ q ∈ lw_privs_3, lw_okq q := List.forall_mem_cons.mpr ⟨lw_p32, List.forall_mem_cons.mpr ⟨lw_p33, List.forall_mem_cons.mpr ⟨lw_p34, List.forall_mem_cons.mpr ⟨lw_p35, List.forall_mem_cons.mpr ⟨lw_p36, List.forall_mem_cons.mpr ⟨lw_p37, List.forall_mem_cons.mpr ⟨lw_p38, List.forall_mem_cons.mpr ⟨lw_p39, List.forall_mem_cons.mpr ⟨lw_p40, List.forall_mem_cons.mpr ⟨lw_p41, List.forall_mem_cons.mpr ⟨lw_p42, List.forall_mem_cons.mpr ⟨lw_p43, List.forall_mem_cons.mpr ⟨lw_p44, List.forall_mem_cons.mpr ⟨lw_p45, List.forall_mem_cons.mpr ⟨lw_p46, List.forall_mem_cons.mpr ⟨lw_p47, fun _ h => absurd h List.not_mem_nil⟩⟩⟩⟩⟩⟩⟩⟩⟩⟩⟩⟩⟩⟩⟩⟩
theorem lw_p48 : lw_okq (⟨"PaperPaysModel", "peak", "(Z)I"⟩, 25) := ⟨⟨by decide +kernel, by decide +kernel⟩, List.mem_of_getElem? (i := 717) (by decide +kernel), List.mem_of_getElem? (i := 961) (by decide +kernel), List.mem_of_getElem? (i := 962) (by decide +kernel)⟩
theorem lw_p49 : lw_okq (⟨"PaperPaysModel", "falls", "()I"⟩, 25) := ⟨⟨by decide +kernel, by decide +kernel⟩, List.mem_of_getElem? (i := 717) (by decide +kernel), List.mem_of_getElem? (i := 965) (by decide +kernel), List.mem_of_getElem? (i := 966) (by decide +kernel)⟩
theorem lw_p50 : lw_okq (⟨"PaperPaysModel", "bubble", "()I"⟩, 25) := ⟨⟨by decide +kernel, by decide +kernel⟩, List.mem_of_getElem? (i := 717) (by decide +kernel), List.mem_of_getElem? (i := 969) (by decide +kernel), List.mem_of_getElem? (i := 970) (by decide +kernel)⟩
theorem lw_p51 : lw_okq (⟨"PaperPaysModel", "sets", "(Z)V"⟩, 25) := ⟨⟨by decide +kernel, by decide +kernel⟩, List.mem_of_getElem? (i := 717) (by decide +kernel), List.mem_of_getElem? (i := 989) (by decide +kernel), List.mem_of_getElem? (i := 990) (by decide +kernel)⟩
theorem lw_p52 : lw_okq (⟨"PaperPaysModel", "plays", "()V"⟩, 25) := ⟨⟨by decide +kernel, by decide +kernel⟩, List.mem_of_getElem? (i := 717) (by decide +kernel), List.mem_of_getElem? (i := 993) (by decide +kernel), List.mem_of_getElem? (i := 994) (by decide +kernel)⟩
theorem lw_p53 : lw_okq (⟨"PaperPaysModel", "isRest", "(II)Z"⟩, 25) := ⟨⟨by decide +kernel, by decide +kernel⟩, List.mem_of_getElem? (i := 717) (by decide +kernel), List.mem_of_getElem? (i := 1013) (by decide +kernel), List.mem_of_getElem? (i := 1014) (by decide +kernel)⟩
theorem lw_p54 : lw_okq (⟨"PaperPaysModel", "hasBy", "(II)I"⟩, 25) := ⟨⟨by decide +kernel, by decide +kernel⟩, List.mem_of_getElem? (i := 717) (by decide +kernel), List.mem_of_getElem? (i := 1017) (by decide +kernel), List.mem_of_getElem? (i := 1018) (by decide +kernel)⟩
theorem lw_p55 : lw_okq (⟨"PaperPaysModel", "priceAt", "(I)I"⟩, 25) := ⟨⟨by decide +kernel, by decide +kernel⟩, List.mem_of_getElem? (i := 717) (by decide +kernel), List.mem_of_getElem? (i := 1021) (by decide +kernel), List.mem_of_getElem? (i := 1022) (by decide +kernel)⟩
theorem lw_p56 : lw_okq (⟨"PaperPaysModel", "errors", "(IIII)I"⟩, 25) := ⟨⟨by decide +kernel, by decide +kernel⟩, List.mem_of_getElem? (i := 717) (by decide +kernel), List.mem_of_getElem? (i := 1041) (by decide +kernel), List.mem_of_getElem? (i := 1042) (by decide +kernel)⟩
def lw_privs_4 : List (MethodName × Nat) := [(⟨"PaperPaysModel", "peak", "(Z)I"⟩, 25), (⟨"PaperPaysModel", "falls", "()I"⟩, 25), (⟨"PaperPaysModel", "bubble", "()I"⟩, 25), (⟨"PaperPaysModel", "sets", "(Z)V"⟩, 25), (⟨"PaperPaysModel", "plays", "()V"⟩, 25), (⟨"PaperPaysModel", "isRest", "(II)Z"⟩, 25), (⟨"PaperPaysModel", "hasBy", "(II)I"⟩, 25), (⟨"PaperPaysModel", "priceAt", "(I)I"⟩, 25), (⟨"PaperPaysModel", "errors", "(IIII)I"⟩, 25)]
theorem lw_r4 : ∀ q ∈ lw_privs_4, lw_okq q := List.forall_mem_cons.mpr ⟨lw_p48, List.forall_mem_cons.mpr ⟨lw_p49, List.forall_mem_cons.mpr ⟨lw_p50, List.forall_mem_cons.mpr ⟨lw_p51, List.forall_mem_cons.mpr ⟨lw_p52, List.forall_mem_cons.mpr ⟨lw_p53, List.forall_mem_cons.mpr ⟨lw_p54, List.forall_mem_cons.mpr ⟨lw_p55, List.forall_mem_cons.mpr ⟨lw_p56, fun _ h => absurd h List.not_mem_nil⟩⟩⟩⟩⟩⟩⟩⟩⟩
def lw_privs : List (MethodName × Nat) := lw_privs_1 ++ (lw_privs_2 ++ (lw_privs_3 ++ (lw_privs_4)))
def lw_tbl : List Cond := k2_sels lw_privs ++ tables_1
theorem lw_privs_ok : ∀ q ∈ lw_privs, lw_okq q := by
  show ∀ q ∈ lw_privs_1 ++ (lw_privs_2 ++ (lw_privs_3 ++ (lw_privs_4))), lw_okq q
  exact List.forall_mem_append.mpr ⟨lw_r1, List.forall_mem_append.mpr ⟨lw_r2, List.forall_mem_append.mpr ⟨lw_r3, lw_r4⟩⟩⟩
/-- the table's words that stay true over calls: the words of every method -/
def xw_tw : List Cond := lw_tbl.filter goodWord
theorem xw_goodIn {y : List Cond} : GoodIn (y ++ xw_tw) xw_tw := fun w h => ⟨List.mem_append_right _ h, good_of_word (List.mem_filter.mp h).2⟩
theorem xw_in {w : Cond} (i : Nat) (h : lw_tbl[i]? = some w) (hg : goodWord w = true) : w ∈ xw_tw := List.mem_filter.mpr ⟨List.mem_of_getElem? h, hg⟩
end
section
/-! ===== BEGIN printed: class names, fields, types (the program that printed them is the kit's) ===== -/
def RX0 : String := "PaperPays$Clues"
def TX0 : u_T := fun k => match k with
  | 0 => ("PaperPays$Clues", "prices", "[I", true)
  | 1 => ("PaperPays$Clues", "count", "I", false)
  | 2 => ("PaperPays$Clues", "bestWorth", "I", false)
  | 3 => ("PaperPays$Clues", "bestRising", "I", false)
  | _ => ("PaperPays$Clues", "leastErrors", "I", false)
def tyX0 : Nat → FieldType := fun k => match k with
  | 0 => .array .int
  | 1 => .int
  | 2 => .int
  | 3 => .int
  | _ => .int
abbrev wsX00 : List Cond := u_ws RX0 TX0 5
theorem nmX0 : ∀ a, a < 5 → ∀ b, b < 5 → a ≠ b → (TX0 a).2.1 ≠ (TX0 b).2.1 := by decide +kernel
theorem tyX0_ok : ∀ k, k < 5 → parseFieldDescriptor (TX0 k).2.2.1 = some (tyX0 k) := by decide +kernel
def RX1 : String := "PaperPays$Image"
def TX1 : u_T := fun k => match k with
  | 0 => ("PaperPays$Image", "room", "LPaperPays$Room;", true)
  | _ => ("PaperPays$Image", "kept", "Z", false)
def tyX1 : Nat → FieldType := fun k => match k with
  | 0 => .object "PaperPays$Room"
  | _ => .boolean
abbrev wsX10 : List Cond := u_ws RX1 TX1 2
theorem nmX1 : ∀ a, a < 2 → ∀ b, b < 2 → a ≠ b → (TX1 a).2.1 ≠ (TX1 b).2.1 := by decide +kernel
theorem tyX1_ok : ∀ k, k < 2 → parseFieldDescriptor (TX1 k).2.2.1 = some (tyX1 k) := by decide +kernel
def RX2 : String := "PaperPays$Reader"
def TX2 : u_T := fun k => match k with
  | 0 => ("PaperPays$Reader", "text", "[B", true)
  | 1 => ("PaperPays$Reader", "length", "I", false)
  | 2 => ("PaperPays$Reader", "draft", "LPaperPays$Rules;", true)
  | 3 => ("PaperPays$Reader", "items", "I", false)
  | 4 => ("PaperPays$Reader", "fault", "I", false)
  | 5 => ("PaperPays$Reader", "next", "I", false)
  | 6 => ("PaperPays$Reader", "place", "I", false)
  | 7 => ("PaperPays$Reader", "kind", "I", false)
  | 8 => ("PaperPays$Reader", "value", "I", false)
  | _ => ("PaperPays$Reader", "toldWords", "I", false)
def tyX2 : Nat → FieldType := fun k => match k with
  | 0 => .array .byte
  | 1 => .int
  | 2 => .object "PaperPays$Rules"
  | 3 => .int
  | 4 => .int
  | 5 => .int
  | 6 => .int
  | 7 => .int
  | 8 => .int
  | _ => .int
abbrev wsX20 : List Cond := u_ws RX2 TX2 10
theorem nmX2 : ∀ a, a < 10 → ∀ b, b < 10 → a ≠ b → (TX2 a).2.1 ≠ (TX2 b).2.1 := by decide +kernel
theorem tyX2_ok : ∀ k, k < 10 → parseFieldDescriptor (TX2 k).2.2.1 = some (tyX2 k) := by decide +kernel
def RX3 : String := "PaperPays$Riders"
def TX3 : u_T := fun k => match k with
  | 0 => ("PaperPays$Riders", "numbers", "[I", true)
  | 1 => ("PaperPays$Riders", "holds", "[I", true)
  | 2 => ("PaperPays$Riders", "outs", "[I", true)
  | 3 => ("PaperPays$Riders", "restCount", "I", false)
  | _ => ("PaperPays$Riders", "firstRest", "I", false)
def tyX3 : Nat → FieldType := fun k => match k with
  | 0 => .array .int
  | 1 => .array .int
  | 2 => .array .int
  | 3 => .int
  | _ => .int
abbrev wsX30 : List Cond := u_ws RX3 TX3 5
theorem nmX3 : ∀ a, a < 5 → ∀ b, b < 5 → a ≠ b → (TX3 a).2.1 ≠ (TX3 b).2.1 := by decide +kernel
theorem tyX3_ok : ∀ k, k < 5 → parseFieldDescriptor (TX3 k).2.2.1 = some (tyX3 k) := by decide +kernel
def RX4 : String := "PaperPays$Room"
def TX4 : u_T := fun k => match k with
  | 0 => ("PaperPays$Room", "ruled", "LPaperPays$Rules;", true)
  | 1 => ("PaperPays$Room", "round", "I", false)
  | 2 => ("PaperPays$Room", "price", "I", false)
  | 3 => ("PaperPays$Room", "prev", "I", false)
  | 4 => ("PaperPays$Room", "sales", "I", false)
  | 5 => ("PaperPays$Room", "paid", "I", false)
  | 6 => ("PaperPays$Room", "lot", "I", false)
  | 7 => ("PaperPays$Room", "board", "[I", true)
  | 8 => ("PaperPays$Room", "coins", "[I", true)
  | 9 => ("PaperPays$Room", "sheets", "[I", true)
  | 10 => ("PaperPays$Room", "seen", "[I", true)
  | 11 => ("PaperPays$Room", "said", "[I", true)
  | 12 => ("PaperPays$Room", "errors", "[I", true)
  | 13 => ("PaperPays$Room", "often", "[I", true)
  | 14 => ("PaperPays$Room", "bids", "[I", true)
  | 15 => ("PaperPays$Room", "bought", "[I", true)
  | _ => ("PaperPays$Room", "sold", "[I", true)
def tyX4 : Nat → FieldType := fun k => match k with
  | 0 => .object "PaperPays$Rules"
  | 1 => .int
  | 2 => .int
  | 3 => .int
  | 4 => .int
  | 5 => .int
  | 6 => .int
  | 7 => .array .int
  | 8 => .array .int
  | 9 => .array .int
  | 10 => .array .int
  | 11 => .array .int
  | 12 => .array .int
  | 13 => .array .int
  | 14 => .array .int
  | 15 => .array .int
  | _ => .array .int
abbrev wsX40 : List Cond := u_ws RX4 TX4 17
theorem nmX4 : ∀ a, a < 17 → ∀ b, b < 17 → a ≠ b → (TX4 a).2.1 ≠ (TX4 b).2.1 := by decide +kernel
theorem tyX4_ok : ∀ k, k < 17 → parseFieldDescriptor (TX4 k).2.2.1 = some (tyX4 k) := by decide +kernel
def RX5 : String := "PaperPays$Rules"
def TX5 : u_T := fun k => match k with
  | 0 => ("PaperPays$Rules", "numbers", "[I", true)
  | 1 => ("PaperPays$Rules", "laws", "[I", true)
  | 2 => ("PaperPays$Rules", "measures", "[I", true)
  | 3 => ("PaperPays$Rules", "coins", "[I", true)
  | 4 => ("PaperPays$Rules", "sheets", "[I", true)
  | _ => ("PaperPays$Rules", "people", "I", false)
def tyX5 : Nat → FieldType := fun k => match k with
  | 0 => .array .int
  | 1 => .array .int
  | 2 => .array .int
  | 3 => .array .int
  | 4 => .array .int
  | _ => .int
abbrev wsX50 : List Cond := u_ws RX5 TX5 6
theorem nmX5 : ∀ a, a < 6 → ∀ b, b < 6 → a ≠ b → (TX5 a).2.1 ≠ (TX5 b).2.1 := by decide +kernel
theorem tyX5_ok : ∀ k, k < 6 → parseFieldDescriptor (TX5 k).2.2.1 = some (tyX5 k) := by decide +kernel
def RX6 : String := "PaperPays"
def TX6 : u_T := fun k => match k with
  | 0 => ("PaperPays", "told", "LPaperPays$Rules;", true)
  | 1 => ("PaperPays", "reader", "LPaperPays$Reader;", true)
  | 2 => ("PaperPays", "room", "LPaperPays$Room;", true)
  | 3 => ("PaperPays", "triedRules", "LPaperPays$Rules;", true)
  | 4 => ("PaperPays", "tried", "LPaperPays$Room;", true)
  | 5 => ("PaperPays", "firstImage", "LPaperPays$Image;", true)
  | 6 => ("PaperPays", "secondImage", "LPaperPays$Image;", true)
  | 7 => ("PaperPays", "riders", "LPaperPays$Riders;", true)
  | 8 => ("PaperPays", "clues", "LPaperPays$Clues;", true)
  | _ => ("PaperPays", "traced", "J", false)
def tyX6 : Nat → FieldType := fun k => match k with
  | 0 => .object "PaperPays$Rules"
  | 1 => .object "PaperPays$Reader"
  | 2 => .object "PaperPays$Room"
  | 3 => .object "PaperPays$Rules"
  | 4 => .object "PaperPays$Room"
  | 5 => .object "PaperPays$Image"
  | 6 => .object "PaperPays$Image"
  | 7 => .object "PaperPays$Riders"
  | 8 => .object "PaperPays$Clues"
  | _ => .long
abbrev wsX60 : List Cond := u_ws RX6 TX6 10
theorem nmX6 : ∀ a, a < 10 → ∀ b, b < 10 → a ≠ b → (TX6 a).2.1 ≠ (TX6 b).2.1 := by decide +kernel
theorem tyX6_ok : ∀ k, k < 10 → parseFieldDescriptor (TX6 k).2.2.1 = some (tyX6 k) := by decide +kernel
def RX7 : String := "PaperPaysModel"
def TX7 : u_T := fun k => match k with
  | 0 => ("PaperPaysModel", "thrown", "I", false)
  | 1 => ("PaperPaysModel", "trace", "J", false)
  | 2 => ("PaperPaysModel", "text", "[I", true)
  | 3 => ("PaperPaysModel", "typed", "I", false)
  | 4 => ("PaperPaysModel", "next", "I", false)
  | 5 => ("PaperPaysModel", "token", "I", false)
  | 6 => ("PaperPaysModel", "place", "I", false)
  | 7 => ("PaperPaysModel", "value", "I", false)
  | 8 => ("PaperPaysModel", "fault", "I", false)
  | 9 => ("PaperPaysModel", "rule", "[I", true)
  | 10 => ("PaperPaysModel", "person", "[I", true)
  | 11 => ("PaperPaysModel", "people", "I", false)
  | 12 => ("PaperPaysModel", "draftPeople", "I", false)
  | 13 => ("PaperPaysModel", "s", "[I", true)
  | 14 => ("PaperPaysModel", "spare", "[I", true)
  | 15 => ("PaperPaysModel", "kept", "[I", true)
  | 16 => ("PaperPaysModel", "isKept", "[Z", true)
  | 17 => ("PaperPaysModel", "values", "[I", true)
  | 18 => ("PaperPaysModel", "bought", "[I", true)
  | 19 => ("PaperPaysModel", "sold", "[I", true)
  | 20 => ("PaperPaysModel", "riders", "[I", true)
  | 21 => ("PaperPaysModel", "outs", "[I", true)
  | 22 => ("PaperPaysModel", "holds", "[I", true)
  | 23 => ("PaperPaysModel", "clues", "[I", true)
  | _ => ("PaperPaysModel", "clueMany", "I", false)
def tyX7 : Nat → FieldType := fun k => match k with
  | 0 => .int
  | 1 => .long
  | 2 => .array .int
  | 3 => .int
  | 4 => .int
  | 5 => .int
  | 6 => .int
  | 7 => .int
  | 8 => .int
  | 9 => .array .int
  | 10 => .array .int
  | 11 => .int
  | 12 => .int
  | 13 => .array .int
  | 14 => .array .int
  | 15 => .array .int
  | 16 => .array .boolean
  | 17 => .array .int
  | 18 => .array .int
  | 19 => .array .int
  | 20 => .array .int
  | 21 => .array .int
  | 22 => .array .int
  | 23 => .array .int
  | _ => .int
abbrev wsX70 : List Cond := u_ws RX7 TX7 25
theorem nmX7 : ∀ a, a < 25 → ∀ b, b < 25 → a ≠ b → (TX7 a).2.1 ≠ (TX7 b).2.1 := by decide +kernel
theorem tyX7_ok : ∀ k, k < 25 → parseFieldDescriptor (TX7 k).2.2.1 = some (tyX7 k) := by decide +kernel
abbrev vwCl : List vw_C := [(RX0, TX0, 5), (RX1, TX1, 2), (RX2, TX2, 10), (RX3, TX3, 5), (RX4, TX4, 17), (RX5, TX5, 6), (RX6, TX6, 10), (RX7, TX7, 25)]
/-! ===== END printed ===== -/
/-! ===== tables of the abstract machine, by program (wip/whole/gentab.py) ===== -/
def am_cns : List String := ["PaperPays$Clues", "PaperPays$Image", "PaperPays$Reader", "PaperPays$Riders", "PaperPays$Room", "PaperPays$Rules", "PaperPays", "PaperPaysModel", "PaperPaysLaw", "java/lang/String", "java/lang/StringLatin1", "jdk/internal/util/Preconditions"]
def am_cn (i : Nat) : String := (am_cns[i]?).getD ""
def am_mts : List MethodName := [⟨"PaperPays$Clues", "<init>", "()V"⟩, ⟨"PaperPays$Clues", "add", "(I)Z"⟩, ⟨"PaperPays$Clues", "seekShares", "(LPaperPays$Rules;I)V"⟩, ⟨"PaperPays$Clues", "errorsBy", "(LPaperPays$Rules;III)I"⟩, ⟨"PaperPays$Image", "<init>", "(LPaperPays$Rules;)V"⟩, ⟨"PaperPays$Reader", "<init>", "()V"⟩, ⟨"PaperPays$Reader", "add", "(JI)Z"⟩, ⟨"PaperPays$Reader", "read", "()Z"⟩, ⟨"PaperPays$Reader", "readRule", "(I)Z"⟩, ⟨"PaperPays$Reader", "readPerson", "()Z"⟩, ⟨"PaperPays$Reader", "readNumber", "(II)Z"⟩, ⟨"PaperPays$Reader", "readStop", "()Z"⟩, ⟨"PaperPays$Reader", "byteAt", "(I)I"⟩, ⟨"PaperPays$Reader", "readToken", "()V"⟩, ⟨"PaperPays$Reader", "takeNumber", "()V"⟩, ⟨"PaperPays$Reader", "takeWord", "()V"⟩, ⟨"PaperPays$Reader", "isDigit", "(I)Z"⟩, ⟨"PaperPays$Reader", "isLetter", "(I)Z"⟩, ⟨"PaperPays$Riders", "<init>", "()V"⟩, ⟨"PaperPays$Riders", "put", "(II)I"⟩, ⟨"PaperPays$Riders", "priceIn", "(I)I"⟩, ⟨"PaperPays$Riders", "seekRests", "(II)V"⟩, ⟨"PaperPays$Riders", "countRest", "(I)V"⟩, ⟨"PaperPays$Riders", "isRest", "(II)Z"⟩, ⟨"PaperPays$Riders", "shareOf", "(II)I"⟩, ⟨"PaperPays$Riders", "twentyTimesMean", "(I)I"⟩, ⟨"PaperPays$Riders", "bestRound", "()I"⟩, ⟨"PaperPays$Room", "<init>", "(LPaperPays$Rules;)V"⟩, ⟨"PaperPays$Room", "begin", "()V"⟩, ⟨"PaperPays$Room", "forgetPeople", "()V"⟩, ⟨"PaperPays$Room", "become", "(LPaperPays$Room;)V"⟩, ⟨"PaperPays$Room", "isOver", "()Z"⟩, ⟨"PaperPays$Room", "valueOf", "(I)I"⟩, ⟨"PaperPays$Room", "valueBy", "(II)I"⟩, ⟨"PaperPays$Room", "play", "(I)I"⟩, ⟨"PaperPays$Room", "playRound", "()V"⟩, ⟨"PaperPays$Room", "sellOne", "()Z"⟩, ⟨"PaperPays$Room", "buyer", "()I"⟩, ⟨"PaperPays$Room", "seller", "(I)I"⟩, ⟨"PaperPays$Room", "payEach", "(I)V"⟩, ⟨"PaperPays$Room", "countSaid", "()V"⟩, ⟨"PaperPays$Room", "boardAt", "(I)I"⟩, ⟨"PaperPays$Room", "peakRound", "()I"⟩, ⟨"PaperPays$Room", "peak", "()I"⟩, ⟨"PaperPays$Room", "fallRound", "()I"⟩, ⟨"PaperPays$Room", "bubble", "()I"⟩, ⟨"PaperPays$Room", "leastWrong", "()I"⟩, ⟨"PaperPays$Room", "isTruer", "(II)Z"⟩, ⟨"PaperPays$Room", "sumOf", "([I)I"⟩, ⟨"PaperPays$Rules", "<init>", "()V"⟩, ⟨"PaperPays$Rules", "empty", "()V"⟩, ⟨"PaperPays$Rules", "settleStart", "()V"⟩, ⟨"PaperPays$Rules", "become", "(LPaperPays$Rules;)V"⟩, ⟨"PaperPays$Rules", "halvesIn", "(I)I"⟩, ⟨"PaperPays$Rules", "worthIn", "(I)I"⟩, ⟨"PaperPays$Rules", "oddsOf", "(II)I"⟩, ⟨"PaperPays", "<init>", "()V"⟩, ⟨"PaperPays", "type", "(JI)I"⟩, ⟨"PaperPays", "clear", "()I"⟩, ⟨"PaperPays", "rules", "()I"⟩, ⟨"PaperPays", "rule", "(I)I"⟩, ⟨"PaperPays", "person", "(II)I"⟩, ⟨"PaperPays", "worth", "(II)I"⟩, ⟨"PaperPays", "odds", "(II)I"⟩, ⟨"PaperPays", "go", "(I)I"⟩, ⟨"PaperPays", "now", "(I)I"⟩, ⟨"PaperPays", "board", "(I)I"⟩, ⟨"PaperPays", "high", "(I)I"⟩, ⟨"PaperPays", "gain", "(I)I"⟩, ⟨"PaperPays", "again", "()I"⟩, ⟨"PaperPays", "renew", "(I)I"⟩, ⟨"PaperPays", "revive", "(I)I"⟩, ⟨"PaperPays", "would", "(III)I"⟩, ⟨"PaperPays", "lot", "(I)I"⟩, ⟨"PaperPays", "ride", "(II)I"⟩, ⟨"PaperPays", "rests", "(III)I"⟩, ⟨"PaperPays", "hold", "(III)I"⟩, ⟨"PaperPays", "out", "(I)I"⟩, ⟨"PaperPays", "clue", "(I)I"⟩, ⟨"PaperPays", "fit", "(II)I"⟩, ⟨"PaperPays", "say", "(II)I"⟩, ⟨"PaperPays", "said", "(II)I"⟩, ⟨"PaperPays", "truest", "()I"⟩, ⟨"PaperPays", "mark", "(II)I"⟩, ⟨"PaperPays", "keep", "(I)I"⟩, ⟨"PaperPays", "back", "(I)I"⟩, ⟨"PaperPays", "count", "(I)I"⟩, ⟨"PaperPays", "trace", "()J"⟩, ⟨"PaperPays", "isWithin", "(III)Z"⟩, ⟨"PaperPays", "isPerson", "(I)Z"⟩, ⟨"PaperPays", "imageOf", "(I)LPaperPays$Image;"⟩, ⟨"PaperPays", "playTried", "(I)V"⟩, ⟨"PaperPays", "markBody", "(III)I"⟩, ⟨"PaperPaysModel", "<init>", "()V"⟩, ⟨"PaperPaysModel", "in", "(III)Z"⟩, ⟨"PaperPaysModel", "size", "(I)I"⟩, ⟨"PaperPaysModel", "type", "(JI)I"⟩, ⟨"PaperPaysModel", "clear", "()I"⟩, ⟨"PaperPaysModel", "byteAt", "(I)I"⟩, ⟨"PaperPaysModel", "add", "(JI)J"⟩, ⟨"PaperPaysModel", "word", "(IIIIII)J"⟩, ⟨"PaperPaysModel", "wordOf", "(JI)I"⟩, ⟨"PaperPaysModel", "advances", "()V"⟩, ⟨"PaperPaysModel", "isWell", "()Z"⟩, ⟨"PaperPaysModel", "takes", "(Z)I"⟩, ⟨"PaperPaysModel", "number", "(II)I"⟩, ⟨"PaperPaysModel", "drafts", "()V"⟩, ⟨"PaperPaysModel", "mostOf", "(I)I"⟩, ⟨"PaperPaysModel", "leastOf", "(I)I"⟩, ⟨"PaperPaysModel", "readsRule", "(I)V"⟩, ⟨"PaperPaysModel", "readsPerson", "()V"⟩, ⟨"PaperPaysModel", "rules", "()I"⟩, ⟨"PaperPaysModel", "adopts", "()V"⟩, ⟨"PaperPaysModel", "of", "(II)I"⟩, ⟨"PaperPaysModel", "puts", "(III)V"⟩, ⟨"PaperPaysModel", "anew", "()V"⟩, ⟨"PaperPaysModel", "rule", "(I)I"⟩, ⟨"PaperPaysModel", "isPerson", "(I)Z"⟩, ⟨"PaperPaysModel", "halvesIn", "(I)I"⟩, ⟨"PaperPaysModel", "worthIn", "(I)I"⟩, ⟨"PaperPaysModel", "riding", "(I)I"⟩, ⟨"PaperPaysModel", "valueOf", "(I)I"⟩, ⟨"PaperPaysModel", "person", "(II)I"⟩, ⟨"PaperPaysModel", "worth", "(II)I"⟩, ⟨"PaperPaysModel", "odds", "(II)I"⟩, ⟨"PaperPaysModel", "isOver", "()Z"⟩, ⟨"PaperPaysModel", "buyer", "()I"⟩, ⟨"PaperPaysModel", "seller", "(I)I"⟩, ⟨"PaperPaysModel", "sells", "()Z"⟩, ⟨"PaperPaysModel", "pays", "(I)V"⟩, ⟨"PaperPaysModel", "goesBy", "()V"⟩, ⟨"PaperPaysModel", "go", "(I)I"⟩, ⟨"PaperPaysModel", "now", "(I)I"⟩, ⟨"PaperPaysModel", "board", "(I)I"⟩, ⟨"PaperPaysModel", "peak", "(Z)I"⟩, ⟨"PaperPaysModel", "falls", "()I"⟩, ⟨"PaperPaysModel", "bubble", "()I"⟩, ⟨"PaperPaysModel", "high", "(I)I"⟩, ⟨"PaperPaysModel", "gain", "(I)I"⟩, ⟨"PaperPaysModel", "again", "()I"⟩, ⟨"PaperPaysModel", "renew", "(I)I"⟩, ⟨"PaperPaysModel", "sets", "(Z)V"⟩, ⟨"PaperPaysModel", "plays", "()V"⟩, ⟨"PaperPaysModel", "revive", "(I)I"⟩, ⟨"PaperPaysModel", "would", "(III)I"⟩, ⟨"PaperPaysModel", "lot", "(I)I"⟩, ⟨"PaperPaysModel", "ride", "(II)I"⟩, ⟨"PaperPaysModel", "priceAt", "(I)I"⟩, ⟨"PaperPaysModel", "hasBy", "(II)I"⟩, ⟨"PaperPaysModel", "isRest", "(II)Z"⟩, ⟨"PaperPaysModel", "rests", "(III)I"⟩, ⟨"PaperPaysModel", "hold", "(III)I"⟩, ⟨"PaperPaysModel", "out", "(I)I"⟩, ⟨"PaperPaysModel", "clue", "(I)I"⟩, ⟨"PaperPaysModel", "errors", "(IIII)I"⟩, ⟨"PaperPaysModel", "fit", "(II)I"⟩, ⟨"PaperPaysModel", "say", "(II)I"⟩, ⟨"PaperPaysModel", "said", "(II)I"⟩, ⟨"PaperPaysModel", "truest", "()I"⟩, ⟨"PaperPaysModel", "mark", "(II)I"⟩, ⟨"PaperPaysModel", "keep", "(I)I"⟩, ⟨"PaperPaysModel", "back", "(I)I"⟩, ⟨"PaperPaysModel", "count", "(I)I"⟩, ⟨"PaperPaysModel", "trace", "()J"⟩, ⟨"java/lang/String", "length", "()I"⟩, ⟨"java/lang/String", "charAt", "(I)C"⟩, ⟨"java/lang/String", "coder", "()B"⟩, ⟨"java/lang/String", "isLatin1", "()Z"⟩, ⟨"java/lang/String", "checkIndex", "(II)V"⟩, ⟨"java/lang/StringLatin1", "charAt", "([BI)C"⟩, ⟨"jdk/internal/util/Preconditions", "checkIndex", "(IILjava/util/function/BiFunction;)I"⟩, ⟨"PaperPaysLaw", "law", "([I)Z"⟩]
def am_mt (k : Nat) : MethodName := (am_mts[k]?).getD ⟨"", "", ""⟩
def am_cds : List ByteArray := [prog_2_method_1_code, prog_2_method_2_code, prog_2_method_3_code, prog_2_method_4_code, prog_3_method_1_code, prog_4_method_1_code, prog_4_method_2_code, prog_4_method_3_code, prog_4_method_4_code, prog_4_method_5_code, prog_4_method_6_code, prog_4_method_7_code, prog_4_method_8_code, prog_4_method_9_code, prog_4_method_10_code, prog_4_method_11_code, prog_4_method_12_code, prog_4_method_13_code, prog_5_method_1_code, prog_5_method_2_code, prog_5_method_3_code, prog_5_method_4_code, prog_5_method_5_code, prog_5_method_6_code, prog_5_method_7_code, prog_5_method_8_code, prog_5_method_9_code, prog_6_method_1_code, prog_6_method_2_code, prog_6_method_3_code, prog_6_method_4_code, prog_6_method_5_code, prog_6_method_6_code, prog_6_method_7_code, prog_6_method_8_code, prog_6_method_9_code, prog_6_method_10_code, prog_6_method_11_code, prog_6_method_12_code, prog_6_method_13_code, prog_6_method_14_code, prog_6_method_15_code, prog_6_method_16_code, prog_6_method_17_code, prog_6_method_18_code, prog_6_method_19_code, prog_6_method_20_code, prog_6_method_21_code, prog_6_method_22_code, prog_7_method_1_code, prog_7_method_2_code, prog_7_method_3_code, prog_7_method_4_code, prog_7_method_5_code, prog_7_method_6_code, prog_7_method_7_code, prog_1_method_1_code, prog_1_method_2_code, prog_1_method_3_code, prog_1_method_4_code, prog_1_method_5_code, prog_1_method_6_code, prog_1_method_7_code, prog_1_method_8_code, prog_1_method_9_code, prog_1_method_10_code, prog_1_method_11_code, prog_1_method_12_code, prog_1_method_13_code, prog_1_method_14_code, prog_1_method_15_code, prog_1_method_16_code, prog_1_method_17_code, prog_1_method_18_code, prog_1_method_19_code, prog_1_method_20_code, prog_1_method_21_code, prog_1_method_22_code, prog_1_method_23_code, prog_1_method_24_code, prog_1_method_25_code, prog_1_method_26_code, prog_1_method_27_code, prog_1_method_28_code, prog_1_method_29_code, prog_1_method_30_code, prog_1_method_31_code, prog_1_method_32_code, prog_1_method_33_code, prog_1_method_34_code, prog_1_method_35_code, prog_1_method_36_code, prog_1_method_37_code, prog_9_method_1_code, prog_9_method_3_code, prog_9_method_4_code, prog_9_method_5_code, prog_9_method_6_code, prog_9_method_7_code, prog_9_method_8_code, prog_9_method_9_code, prog_9_method_10_code, prog_9_method_11_code, prog_9_method_12_code, prog_9_method_13_code, prog_9_method_14_code, prog_9_method_15_code, prog_9_method_16_code, prog_9_method_17_code, prog_9_method_18_code, prog_9_method_19_code, prog_9_method_20_code, prog_9_method_21_code, prog_9_method_22_code, prog_9_method_23_code, prog_9_method_24_code, prog_9_method_25_code, prog_9_method_26_code, prog_9_method_27_code, prog_9_method_28_code, prog_9_method_29_code, prog_9_method_30_code, prog_9_method_31_code, prog_9_method_32_code, prog_9_method_33_code, prog_9_method_34_code, prog_9_method_35_code, prog_9_method_36_code, prog_9_method_37_code, prog_9_method_38_code, prog_9_method_39_code, prog_9_method_40_code, prog_9_method_41_code, prog_9_method_42_code, prog_9_method_43_code, prog_9_method_44_code, prog_9_method_45_code, prog_9_method_46_code, prog_9_method_47_code, prog_9_method_48_code, prog_9_method_49_code, prog_9_method_50_code, prog_9_method_51_code, prog_9_method_52_code, prog_9_method_53_code, prog_9_method_54_code, prog_9_method_55_code, prog_9_method_56_code, prog_9_method_57_code, prog_9_method_58_code, prog_9_method_59_code, prog_9_method_60_code, prog_9_method_61_code, prog_9_method_62_code, prog_9_method_63_code, prog_9_method_64_code, prog_9_method_65_code, prog_9_method_66_code, prog_9_method_67_code, prog_9_method_68_code, prog_9_method_69_code, prog_9_method_70_code, prog_9_method_71_code, prog_9_method_72_code, prog_11_method_54_code, prog_11_method_56_code, prog_11_method_152_code, prog_11_method_154_code, prog_11_method_155_code, prog_12_method_2_code, prog_15_method_11_code, code]
def am_cd (k : Nat) : ByteArray := (am_cds[k]?).getD ⟨#[]⟩
def am_mls : List Nat := [1, 2, 6, 9, 2, 1, 5, 3, 5, 3, 3, 1, 2, 2, 2, 5, 1, 1, 1, 4, 2, 7, 2, 8, 6, 5, 3, 2, 2, 2, 2, 1, 5, 4, 3, 2, 4, 4, 5, 3, 2, 2, 3, 2, 5, 3, 3, 3, 4, 1, 1, 1, 2, 2, 3, 8, 1, 4, 2, 1, 2, 3, 3, 3, 2, 2, 2, 2, 2, 2, 3, 3, 6, 3, 3, 4, 4, 3, 2, 3, 4, 3, 1, 5, 3, 3, 2, 1, 3, 2, 2, 3, 4, 1, 3, 1, 5, 2, 2, 3, 6, 6, 4, 1, 3, 3, 2, 1, 1, 3, 3, 4, 2, 3, 4, 2, 2, 2, 2, 2, 3, 8, 3, 3, 8, 1, 4, 5, 4, 3, 3, 3, 2, 2, 4, 5, 4, 2, 2, 2, 3, 3, 1, 5, 8, 3, 4, 2, 6, 8, 10, 4, 7, 2, 8, 9, 4, 3, 4, 6, 3, 3, 5, 1, 1, 2, 1, 1, 2, 2, 3, 4]
def am_ml (k : Nat) : Nat := (am_mls[k]?).getD 0
def am_rts : List (Option FieldType) := [none, some .boolean, none, some .int, none, none, some .boolean, some .boolean, some .boolean, some .boolean, some .boolean, some .boolean, some .int, none, none, none, some .boolean, some .boolean, none, some .int, some .int, none, none, some .boolean, some .int, some .int, some .int, none, none, none, none, some .boolean, some .int, some .int, some .int, none, some .boolean, some .int, some .int, none, none, some .int, some .int, some .int, some .int, some .int, some .int, some .boolean, some .int, none, none, none, none, some .int, some .int, some .int, none, some .int, some .int, some .int, some .int, some .int, some .int, some .int, some .int, some .int, some .int, some .int, some .int, some .int, some .int, some .int, some .int, some .int, some .int, some .int, some .int, some .int, some .int, some .int, some .int, some .int, some .int, some .int, some .int, some .int, some .int, some .long, some .boolean, some .boolean, some (.object "PaperPays$Image"), none, some .int, none, some .boolean, some .int, some .int, some .int, some .int, some .long, some .long, some .int, none, some .boolean, some .int, some .int, none, some .int, some .int, none, none, some .int, none, some .int, none, none, some .int, some .boolean, some .int, some .int, some .int, some .int, some .int, some .int, some .int, some .boolean, some .int, some .int, some .boolean, none, none, some .int, some .int, some .int, some .int, some .int, some .int, some .int, some .int, some .int, some .int, none, none, some .int, some .int, some .int, some .int, some .int, some .int, some .boolean, some .int, some .int, some .int, some .int, some .int, some .int, some .int, some .int, some .int, some .int, some .int, some .int, some .int, some .long, some .int, some .char, some .byte, some .boolean, none, some .char, some .int, some .boolean]
def am_rt (k : Nat) : Option FieldType := (am_rts[k]?).getD none
def am_ows : List Nat := [0, 0, 0, 0, 1, 2, 2, 2, 2, 2, 2, 2, 2, 2, 2, 2, 2, 2, 3, 3, 3, 3, 3, 3, 3, 3, 3, 4, 4, 4, 4, 4, 4, 4, 4, 4, 4, 4, 4, 4, 4, 4, 4, 4, 4, 4, 4, 4, 4, 5, 5, 5, 5, 5, 5, 5, 6, 6, 6, 6, 6, 6, 6, 6, 6, 6, 6, 6, 6, 6, 6, 6, 6, 6, 6, 6, 6, 6, 6, 6, 6, 6, 6, 6, 6, 6, 6, 6, 6, 6, 6, 6, 6, 7, 7, 7, 7, 7, 7, 7, 7, 7, 7, 7, 7, 7, 7, 7, 7, 7, 7, 7, 7, 7, 7, 7, 7, 7, 7, 7, 7, 7, 7, 7, 7, 7, 7, 7, 7, 7, 7, 7, 7, 7, 7, 7, 7, 7, 7, 7, 7, 7, 7, 7, 7, 7, 7, 7, 7, 7, 7, 7, 7, 7, 7, 7, 7, 7, 7, 7, 7, 7, 7, 7, 9, 9, 9, 9, 9, 10, 11, 8]
def am_ow (k : Nat) : Nat := (am_ows[k]?).getD 0
def am_frs : List Nat := [1, 0, 2, 1, 2, 3, 0, 8, 7, 7, 6, 6, 0, 5, 1, 4, 0, 0, 1, 0, 0, 3, 0, 2, 1, 1, 2, 1, 0, 0, 1, 0, 2, 1, 4, 3, 1, 0, 0, 0, 1, 0, 1, 2, 1, 1, 1, 0, 0, 2, 1, 1, 1, 0, 0, 0, 4, 1, 0, 9, 1, 3, 1, 1, 5, 1, 1, 3, 2, 1, 2, 6, 6, 0, 1, 4, 1, 3, 1, 3, 2, 2, 2, 2, 2, 2, 1, 0, 0, 1, 0, 5, 1, 3, 0, 0, 1, 0, 0, 0, 1, 2, 3, 0, 4, 5, 0, 0, 0, 6, 6, 7, 2, 0, 0, 1, 1, 1, 0, 0, 1, 2, 3, 1, 1, 0, 1, 1, 2, 1, 3, 4, 1, 1, 0, 0, 1, 2, 2, 2, 2, 0, 4, 5, 5, 0, 1, 0, 1, 2, 3, 1, 1, 1, 1, 2, 2, 2, 1, 2, 1, 1, 1, 0, 1, 3, 0, 0, 1, 2, 0, 10]
def am_fr (k : Nat) : Nat := (am_frs[k]?).getD 0
def am_los : List Nat := [20, 0, 54, 26, 42, 66, 0, 176, 152, 152, 130, 130, 0, 109, 26, 85, 0, 0, 20, 0, 0, 78, 0, 51, 26, 21, 45, 21, 0, 0, 26, 0, 49, 26, 94, 73, 24, 0, 0, 0, 26, 0, 21, 43, 21, 26, 22, 0, 0, 46, 26, 22, 26, 0, 0, 0, 86, 24, 0, 198, 22, 73, 22, 27, 116, 20, 22, 64, 43, 21, 43, 138, 138, 0, 23, 104, 22, 67, 22, 79, 43, 43, 44, 45, 47, 47, 23, 0, 0, 22, 0, 116, 22, 65, 0, 0, 22, 0, 0, 0, 22, 47, 72, 0, 95, 117, 0, 0, 0, 139, 139, 161, 44, 0, 0, 23, 22, 22, 0, 0, 21, 43, 70, 22, 22, 0, 22, 22, 46, 23, 70, 92, 22, 22, 0, 0, 21, 44, 43, 44, 43, 0, 92, 112, 112, 0, 22, 0, 21, 46, 73, 22, 22, 22, 21, 48, 43, 43, 22, 43, 22, 22, 22, 0, 20, 64, 0, 0, 22, 43, 0, 218]
def am_lo (k : Nat) : Nat := (am_los[k]?).getD 0
def am_sizes : List Nat := [1, 6, 2, 6, 11, 6, 11, 1, 11, 1, 11, 4, 2, 15]
def am_df : List (List Value) := [[.null, .int 0, .int 0, .int 0, .int 0], [.null, .int 0], [.null, .int 0, .null, .int 0, .int 0, .int 0, .int 0, .int 0, .int 0, .int 0], [.null, .null, .null, .int 0, .int 0], [.null, .int 0, .int 0, .int 0, .int 0, .int 0, .int 0, .null, .null, .null, .null, .null, .null, .null, .null, .null, .null], [.null, .null, .null, .null, .null, .int 0], [.null, .null, .null, .null, .null, .null, .null, .null, .null, .long 0], [.int 0, .long 0, .null, .int 0, .int 0, .int 0, .int 0, .int 0, .int 0, .null, .null, .int 0, .int 0, .null, .null, .null, .null, .null, .null, .null, .null, .null, .null, .null, .int 0]]
def am_sta : List (Nat × Nat × List Int32) := [(0, 10, [15, 1, 3, 0, 0, 0, 0, 0, 0, 5]), (0, 10, [3, 0, 0, 0, 1, 0, 0, 1, 0, 1]), (0, 10, [20, 9, 9, 99, 99, 99, 9, 99, 9, 9]), (0, 5, [5, 6, 7, 8, 9]), (0, 7, [0, 0, 0, 0, 0, 3, 2]), (0, 7, [1, 10, 100, 1000, 10000, 100000, 1000000]), (9, 0, []), (9, 0, []), (9, 0, []), (9, 0, []), (9, 0, []), (1, 89, [114, 111, 117, 110, 100, 115, 32, 112, 97, 121, 115, 32, 101, 110, 100, 32, 115, 116, 97, 114, 116, 32, 108, 101, 110, 116, 32, 115, 104, 111, 114, 116, 32, 108, 105, 100, 32, 102, 101, 101, 32, 115, 97, 108, 101, 115, 32, 112, 101, 114, 115, 111, 110, 32, 119, 111, 114, 116, 104, 32, 114, 105, 115, 105, 110, 103, 32, 114, 105, 100, 105, 110, 103, 32, 109, 105, 115, 116, 97, 107, 101, 110, 32, 102, 114, 101, 115, 104, 32])]
def am_gs : List (String × String × String × Value) := [("PaperPays", "USUAL", "[I", .ref 1000), ("PaperPays", "LEAST", "[I", .ref 1001), ("PaperPays", "MOST", "[I", .ref 1002), ("PaperPays", "WOULD_RULES", "[I", .ref 1003), ("PaperPays", "KIND_ABOVE", "[I", .ref 1004), ("PaperPays", "KIND_TRACE", "[I", .ref 1005), ("java/lang/String", "COMPACT_STRINGS", "Z", .int 1), ("jdk/internal/util/Preconditions", "SIOOBE_FORMATTER", "Ljava/util/function/BiFunction;", .ref 1020)]
def am_lc : List Int64 := [255, 256, 11, 101, 1001, 10001, 101001, 1000101, 4294967295]
def am_swt : List (List (Int32 × Nat) × Nat) := [([(1, 8), (2, 21), (3, 40), (4, 42)], 51), ([(0, 8), (1, 14), (2, 20), (3, 26), (4, 32), (5, 37)], 43), ([(0, 2), (1, 6), (2, 10), (3, 14), (4, 18), (5, 22)], 30), ([(0, 2), (1, 6), (2, 10), (3, 14)], 18), ([(0, 53), (1, 57)], 61), ([(0, 27), (1, 31), (2, 35)], 45), ([(0, 2), (1, 6), (2, 13), (3, 20), (4, 24)], 28), ([(1, 11), (2, 26), (3, 32), (4, 38), (5, 42), (6, 50)], 58), ([(0, 22), (1, 73), (2, 80), (3, 87), (4, 104), (5, 131), (6, 158), (7, 185), (8, 202), (9, 219), (10, 236), (11, 253), (12, 270), (13, 277), (14, 294), (15, 311), (16, 348), (17, 365), (18, 392), (19, 429), (20, 466), (21, 483), (22, 500), (23, 527), (24, 554), (25, 581), (26, 588), (27, 615), (28, 632), (29, 649), (30, 666)], 674)]
/-- pc, instruction, numbers, kind, link, constant -/
abbrev am_I : Type := Nat × Instr × Nat × Nat × Nat × Nat × Nat × Int32
def am_t0 : List am_I := [(0, .aload_n 0, 0, 0, 0, 0, 0, 0), (1, .invokespecial 3, 0, 0, 0, 5, 0, 0), (4, .aload_n 0, 0, 0, 0, 0, 0, 0), (5, .bipush 12, 0, 0, 0, 0, 0, 12), (7, .newarray .int, 0, 0, 0, 0, 0, 0), (9, .putfield 11, 0, 0, 0, 3, 0, 0), (12, .aload_n 0, 0, 0, 0, 0, 0, 0), (13, .iconst 0, 0, 0, 0, 0, 0, 0), (14, .putfield 15, 0, 1, 0, 0, 1, 0), (17, .aload_n 0, 0, 0, 0, 0, 0, 0), (18, .iconst 0, 0, 0, 0, 0, 0, 0), (19, .putfield 19, 0, 2, 0, 0, 2, 0), (22, .aload_n 0, 0, 0, 0, 0, 0, 0), (23, .iconst 0, 0, 0, 0, 0, 0, 0), (24, .putfield 22, 0, 3, 0, 0, 3, 0), (27, .aload_n 0, 0, 0, 0, 0, 0, 0), (28, .iconst 0, 0, 0, 0, 0, 0, 0), (29, .putfield 25, 0, 4, 0, 0, 4, 0), (32, .return_, 0, 0, 0, 0, 0, 0)]
def am_t1 : List am_I := [(0, .aload_n 0, 0, 0, 0, 0, 0, 0), (1, .getfield 15, 0, 1, 0, 0, 1, 0), (4, .ifCond .lt 12, 7, 0, 0, 0, 0, 0), (7, .aload_n 0, 0, 0, 0, 0, 0, 0), (8, .getfield 15, 0, 1, 0, 0, 1, 0), (11, .bipush 12, 0, 0, 0, 0, 0, 12), (13, .if_icmp .lt 5, 9, 0, 0, 0, 0, 0), (16, .iconst 0, 0, 0, 0, 0, 0, 0), (17, .ireturn, 1, 0, 0, 0, 0, 0), (18, .aload_n 0, 0, 0, 0, 0, 0, 0), (19, .getfield 11, 0, 0, 0, 0, 0, 0), (22, .aload_n 0, 0, 0, 0, 0, 0, 0), (23, .getfield 15, 0, 1, 0, 0, 1, 0), (26, .iload_n 1, 0, 0, 0, 0, 0, 0), (27, .iastore, 0, 0, 0, 0, 0, 0), (28, .aload_n 0, 0, 0, 0, 0, 0, 0), (29, .dup, 0, 0, 0, 0, 0, 0), (30, .getfield 15, 0, 1, 0, 0, 1, 0), (33, .iconst 1, 0, 0, 0, 0, 0, 1), (34, .iadd, 0, 0, 0, 0, 0, 0), (35, .putfield 15, 0, 1, 0, 0, 1, 0), (38, .iconst 1, 0, 0, 0, 0, 0, 1), (39, .ireturn, 1, 0, 0, 0, 0, 0)]
def am_t2 : List am_I := [(0, .aload_n 0, 0, 0, 0, 0, 0, 0), (1, .iconst (-1), 0, 0, 0, 0, 0, -1), (2, .putfield 25, 0, 4, 0, 0, 4, 0), (5, .bipush 10, 0, 0, 0, 0, 0, 10), (7, .istore_n 3, 0, 0, 0, 0, 0, 0), (8, .iload_n 3, 0, 0, 0, 0, 0, 0), (9, .ifCond .lt 70, 40, 0, 0, 0, 0, 0), (12, .bipush 10, 0, 0, 0, 0, 0, 10), (14, .iload_n 3, 0, 0, 0, 0, 0, 0), (15, .isub, 0, 0, 0, 0, 0, 0), (16, .istore 4, 0, 0, 0, 0, 0, 0), (18, .iload 4, 0, 0, 0, 0, 0, 0), (20, .ifCond .lt 53, 38, 0, 0, 0, 0, 0), (23, .aload_n 0, 0, 0, 0, 0, 0, 0), (24, .aload_n 1, 0, 0, 0, 0, 0, 0), (25, .iload_n 3, 0, 0, 0, 0, 0, 0), (26, .iload 4, 0, 0, 0, 0, 0, 0), (28, .iload_n 2, 0, 0, 0, 0, 0, 0), (29, .invokevirtual 28, 3, 5, 0, 0, 1, 0), (32, .istore 5, 0, 0, 0, 0, 0, 0), (34, .aload_n 0, 0, 0, 0, 0, 0, 0), (35, .getfield 25, 0, 4, 0, 0, 4, 0), (38, .ifCond .lt 12, 27, 0, 0, 0, 0, 0), (41, .iload 5, 0, 0, 0, 0, 0, 0), (43, .aload_n 0, 0, 0, 0, 0, 0, 0), (44, .getfield 25, 0, 4, 0, 0, 4, 0), (47, .if_icmp .ge 20, 36, 0, 0, 0, 0, 0), (50, .aload_n 0, 0, 0, 0, 0, 0, 0), (51, .iload 5, 0, 0, 0, 0, 0, 0), (53, .putfield 25, 0, 4, 0, 0, 4, 0), (56, .aload_n 0, 0, 0, 0, 0, 0, 0), (57, .iload_n 3, 0, 0, 0, 0, 0, 0), (58, .putfield 19, 0, 2, 0, 0, 2, 0), (61, .aload_n 0, 0, 0, 0, 0, 0, 0), (62, .iload 4, 0, 0, 0, 0, 0, 0), (64, .putfield 22, 0, 3, 0, 0, 3, 0), (67, .iinc 4 (-1), 0, 0, 0, 0, 0, -1), (70, .goto (-52), 11, 0, 0, 0, 0, 0), (73, .iinc 3 (-1), 0, 0, 0, 0, 0, -1), (76, .goto (-68), 5, 0, 0, 0, 0, 0), (79, .return_, 0, 0, 0, 0, 0, 0)]
def am_t3 : List am_I := [(0, .iconst 0, 0, 0, 0, 0, 0, 0), (1, .istore 5, 0, 0, 0, 0, 0, 0), (3, .iconst 2, 0, 0, 0, 0, 0, 2), (4, .istore 6, 0, 0, 0, 0, 0, 0), (6, .iload 6, 0, 0, 0, 0, 0, 0), (8, .aload_n 0, 0, 0, 0, 0, 0, 0), (9, .getfield 15, 0, 1, 0, 0, 1, 0), (12, .if_icmp .ge 94, 64, 0, 0, 0, 0, 0), (15, .iload 6, 0, 0, 0, 0, 0, 0), (17, .bipush 12, 0, 0, 0, 0, 0, 12), (19, .if_icmp .ge 87, 64, 0, 0, 0, 0, 0), (22, .aload_n 1, 0, 0, 0, 0, 0, 0), (23, .iload 6, 0, 0, 0, 0, 0, 0), (25, .aload_n 1, 0, 0, 0, 0, 0, 0), (26, .getfield 32, 5, 0, 0, 0, 5, 0), (29, .iconst 0, 0, 0, 0, 0, 0, 0), (30, .iaload, 0, 0, 0, 0, 0, 0), (31, .invokestatic 37, 0, 0, 0, 2, 2, 0), (34, .invokevirtual 43, 54, 2, 5, 0, 3, 0), (37, .istore 7, 0, 0, 0, 0, 0, 0), (39, .iconst 2, 0, 0, 0, 0, 0, 2), (40, .aload_n 0, 0, 0, 0, 0, 0, 0), (41, .getfield 11, 0, 0, 0, 0, 0, 0), (44, .iload 6, 0, 0, 0, 0, 0, 0), (46, .iconst 1, 0, 0, 0, 0, 0, 1), (47, .isub, 0, 0, 0, 0, 0, 0), (48, .iaload, 0, 0, 0, 0, 0, 0), (49, .imul, 0, 0, 0, 0, 0, 0), (50, .aload_n 0, 0, 0, 0, 0, 0, 0), (51, .getfield 11, 0, 0, 0, 0, 0, 0), (54, .iload 6, 0, 0, 0, 0, 0, 0), (56, .iconst 2, 0, 0, 0, 0, 0, 2), (57, .isub, 0, 0, 0, 0, 0, 0), (58, .iaload, 0, 0, 0, 0, 0, 0), (59, .isub, 0, 0, 0, 0, 0, 0), (60, .istore 8, 0, 0, 0, 0, 0, 0), (62, .iload 5, 0, 0, 0, 0, 0, 0), (64, .iload_n 2, 0, 0, 0, 0, 0, 0), (65, .iload 7, 0, 0, 0, 0, 0, 0), (67, .imul, 0, 0, 0, 0, 0, 0), (68, .iload_n 3, 0, 0, 0, 0, 0, 0), (69, .iload 8, 0, 0, 0, 0, 0, 0), (71, .imul, 0, 0, 0, 0, 0, 0), (72, .iadd, 0, 0, 0, 0, 0, 0), (73, .bipush 10, 0, 0, 0, 0, 0, 10), (75, .iload_n 2, 0, 0, 0, 0, 0, 0), (76, .isub, 0, 0, 0, 0, 0, 0), (77, .iload_n 3, 0, 0, 0, 0, 0, 0), (78, .isub, 0, 0, 0, 0, 0, 0), (79, .iload 4, 0, 0, 0, 0, 0, 0), (81, .imul, 0, 0, 0, 0, 0, 0), (82, .iadd, 0, 0, 0, 0, 0, 0), (83, .bipush 10, 0, 0, 0, 0, 0, 10), (85, .aload_n 0, 0, 0, 0, 0, 0, 0), (86, .getfield 11, 0, 0, 0, 0, 0, 0), (89, .iload 6, 0, 0, 0, 0, 0, 0), (91, .iaload, 0, 0, 0, 0, 0, 0), (92, .imul, 0, 0, 0, 0, 0, 0), (93, .isub, 0, 0, 0, 0, 0, 0), (94, .invokestatic 47, 0, 0, 0, 3, 4, 0), (97, .iadd, 0, 0, 0, 0, 0, 0), (98, .istore 5, 0, 0, 0, 0, 0, 0), (100, .iinc 6 1, 0, 0, 0, 0, 0, 1), (103, .goto (-97), 4, 0, 0, 0, 0, 0), (106, .iload 5, 0, 0, 0, 0, 0, 0), (108, .ireturn, 0, 0, 0, 0, 0, 0)]
def am_t4 : List am_I := [(0, .aload_n 0, 0, 0, 0, 0, 0, 0), (1, .invokespecial 1, 0, 0, 0, 5, 5, 0), (4, .aload_n 0, 0, 0, 0, 0, 0, 0), (5, .iconst 0, 0, 0, 0, 0, 0, 0), (6, .putfield 7, 1, 1, 0, 1, 6, 0), (9, .aload_n 0, 0, 0, 0, 0, 0, 0), (10, .new 13, 4, 0, 0, 0, 0, 0), (13, .dup, 0, 0, 0, 0, 0, 0), (14, .aload_n 1, 0, 0, 0, 0, 0, 0), (15, .invokespecial 15, 27, 2, 4, 0, 6, 0), (18, .putfield 18, 1, 0, 0, 3, 7, 0), (21, .return_, 0, 0, 0, 0, 0, 0)]
def am_t5 : List am_I := [(0, .aload_n 0, 0, 0, 0, 0, 0, 0), (1, .invokespecial 3, 0, 0, 0, 5, 7, 0), (4, .aload_n 0, 0, 0, 0, 0, 0, 0), (5, .sipush 400, 0, 0, 0, 0, 0, 400), (8, .newarray .byte, 0, 0, 0, 0, 0, 0), (10, .putfield 11, 2, 0, 0, 3, 8, 0), (13, .aload_n 0, 0, 0, 0, 0, 0, 0), (14, .iconst 0, 0, 0, 0, 0, 0, 0), (15, .putfield 15, 2, 1, 0, 0, 9, 0), (18, .aload_n 0, 0, 0, 0, 0, 0, 0), (19, .new 19, 5, 0, 0, 0, 1, 0), (22, .dup, 0, 0, 0, 0, 0, 0), (23, .invokespecial 21, 49, 1, 5, 0, 8, 0), (26, .putfield 22, 2, 2, 0, 3, 10, 0), (29, .aload_n 0, 0, 0, 0, 0, 0, 0), (30, .iconst 0, 0, 0, 0, 0, 0, 0), (31, .putfield 26, 2, 3, 0, 0, 11, 0), (34, .aload_n 0, 0, 0, 0, 0, 0, 0), (35, .iconst 0, 0, 0, 0, 0, 0, 0), (36, .putfield 29, 2, 4, 0, 0, 12, 0), (39, .aload_n 0, 0, 0, 0, 0, 0, 0), (40, .iconst 0, 0, 0, 0, 0, 0, 0), (41, .putfield 32, 2, 5, 0, 0, 13, 0), (44, .aload_n 0, 0, 0, 0, 0, 0, 0), (45, .iconst 0, 0, 0, 0, 0, 0, 0), (46, .putfield 35, 2, 6, 0, 0, 14, 0), (49, .aload_n 0, 0, 0, 0, 0, 0, 0), (50, .iconst 0, 0, 0, 0, 0, 0, 0), (51, .putfield 38, 2, 7, 0, 0, 15, 0), (54, .aload_n 0, 0, 0, 0, 0, 0, 0), (55, .iconst 0, 0, 0, 0, 0, 0, 0), (56, .putfield 41, 2, 8, 0, 0, 16, 0), (59, .aload_n 0, 0, 0, 0, 0, 0, 0), (60, .iconst 0, 0, 0, 0, 0, 0, 0), (61, .putfield 44, 2, 9, 0, 0, 17, 0), (64, .return_, 0, 0, 0, 0, 0, 0)]
def am_t6 : List am_I := [(0, .iload_n 3, 0, 0, 0, 0, 0, 0), (1, .iconst 1, 0, 0, 0, 0, 0, 1), (2, .if_icmp .lt 15, 9, 0, 0, 0, 0, 0), (5, .iload_n 3, 0, 0, 0, 0, 0, 0), (6, .sipush 400, 0, 0, 0, 0, 0, 400), (9, .aload_n 0, 0, 0, 0, 0, 0, 0), (10, .getfield 15, 2, 1, 0, 0, 9, 0), (13, .isub, 0, 0, 0, 0, 0, 0), (14, .if_icmp .le 5, 11, 0, 0, 0, 0, 0), (17, .iconst 0, 0, 0, 0, 0, 0, 0), (18, .ireturn, 1, 0, 0, 0, 0, 0), (19, .iload_n 3, 0, 0, 0, 0, 0, 0), (20, .iconst 1, 0, 0, 0, 0, 0, 1), (21, .isub, 0, 0, 0, 0, 0, 0), (22, .istore 4, 0, 0, 0, 0, 0, 0), (24, .iload 4, 0, 0, 0, 0, 0, 0), (26, .ifCond .lt 37, 37, 0, 0, 0, 0, 0), (29, .aload_n 0, 0, 0, 0, 0, 0, 0), (30, .getfield 11, 2, 0, 0, 0, 8, 0), (33, .aload_n 0, 0, 0, 0, 0, 0, 0), (34, .getfield 15, 2, 1, 0, 0, 9, 0), (37, .lload_n 1, 0, 0, 0, 0, 0, 0), (38, .bipush 8, 0, 0, 0, 0, 0, 8), (40, .iload 4, 0, 0, 0, 0, 0, 0), (42, .imul, 0, 0, 0, 0, 0, 0), (43, .lshr, 0, 0, 0, 0, 0, 0), (44, .l2i, 0, 0, 0, 0, 0, 0), (45, .i2b, 0, 0, 0, 0, 0, 0), (46, .bastore, 0, 0, 0, 0, 0, 0), (47, .aload_n 0, 0, 0, 0, 0, 0, 0), (48, .dup, 0, 0, 0, 0, 0, 0), (49, .getfield 15, 2, 1, 0, 0, 9, 0), (52, .iconst 1, 0, 0, 0, 0, 0, 1), (53, .iadd, 0, 0, 0, 0, 0, 0), (54, .putfield 15, 2, 1, 0, 0, 9, 0), (57, .iinc 4 (-1), 0, 0, 0, 0, 0, -1), (60, .goto (-36), 15, 0, 0, 0, 0, 0), (63, .iconst 1, 0, 0, 0, 0, 0, 1), (64, .ireturn, 1, 0, 0, 0, 0, 0)]
def am_t7 : List am_I := [(0, .aload_n 0, 0, 0, 0, 0, 0, 0), (1, .getfield 22, 2, 2, 0, 0, 10, 0), (4, .invokevirtual 47, 50, 1, 5, 0, 9, 0), (7, .aload_n 0, 0, 0, 0, 0, 0, 0), (8, .iconst 0, 0, 0, 0, 0, 0, 0), (9, .putfield 26, 2, 3, 0, 0, 11, 0), (12, .aload_n 0, 0, 0, 0, 0, 0, 0), (13, .iconst 0, 0, 0, 0, 0, 0, 0), (14, .putfield 32, 2, 5, 0, 0, 13, 0), (17, .aload_n 0, 0, 0, 0, 0, 0, 0), (18, .iconst 0, 0, 0, 0, 0, 0, 0), (19, .putfield 44, 2, 9, 0, 0, 17, 0), (22, .iconst 0, 0, 0, 0, 0, 0, 0), (23, .istore_n 1, 0, 0, 0, 0, 0, 0), (24, .iload_n 1, 0, 0, 0, 0, 0, 0), (25, .sipush 400, 0, 0, 0, 0, 0, 400), (28, .if_icmp .gt 99, 64, 0, 0, 0, 0, 0), (31, .aload_n 0, 0, 0, 0, 0, 0, 0), (32, .invokevirtual 50, 13, 1, 2, 0, 10, 0), (35, .aload_n 0, 0, 0, 0, 0, 0, 0), (36, .getfield 38, 2, 7, 0, 0, 15, 0), (39, .iconst 1, 0, 0, 0, 0, 0, 1), (40, .if_icmp .ne 6, 24, 0, 0, 0, 0, 0), (43, .goto 84, 64, 0, 0, 0, 0, 0), (46, .aload_n 0, 0, 0, 0, 0, 0, 0), (47, .getfield 38, 2, 7, 0, 0, 15, 0), (50, .iconst 4, 0, 0, 0, 0, 0, 4), (51, .if_icmp .ne 37, 43, 0, 0, 0, 0, 0), (54, .aload_n 0, 0, 0, 0, 0, 0, 0), (55, .getfield 41, 2, 8, 0, 0, 16, 0), (58, .bipush 9, 0, 0, 0, 0, 0, 9), (60, .if_icmp .ne 13, 36, 0, 0, 0, 0, 0), (63, .aload_n 0, 0, 0, 0, 0, 0, 0), (64, .invokevirtual 53, 9, 1, 2, 0, 11, 0), (67, .ifCond .eq 21, 43, 0, 0, 0, 0, 0), (70, .goto 14, 41, 0, 0, 0, 0, 0), (73, .aload_n 0, 0, 0, 0, 0, 0, 0), (74, .aload_n 0, 0, 0, 0, 0, 0, 0), (75, .getfield 41, 2, 8, 0, 0, 16, 0), (78, .invokevirtual 57, 8, 2, 2, 0, 12, 0), (81, .ifCond .eq 7, 43, 0, 0, 0, 0, 0), (84, .iconst 1, 0, 0, 0, 0, 0, 1), (85, .goto 4, 44, 0, 0, 0, 0, 0), (88, .iconst 0, 0, 0, 0, 0, 0, 0), (89, .istore_n 2, 0, 0, 0, 0, 0, 0), (90, .iload_n 2, 0, 0, 0, 0, 0, 0), (91, .ifCond .eq 10, 50, 0, 0, 0, 0, 0), (94, .aload_n 0, 0, 0, 0, 0, 0, 0), (95, .invokevirtual 61, 11, 1, 2, 0, 13, 0), (98, .ifCond .ne 13, 56, 0, 0, 0, 0, 0), (101, .aload_n 0, 0, 0, 0, 0, 0, 0), (102, .aload_n 0, 0, 0, 0, 0, 0, 0), (103, .getfield 35, 2, 6, 0, 0, 14, 0), (106, .putfield 29, 2, 4, 0, 0, 12, 0), (109, .iconst 0, 0, 0, 0, 0, 0, 0), (110, .ireturn, 1, 0, 0, 0, 0, 0), (111, .aload_n 0, 0, 0, 0, 0, 0, 0), (112, .dup, 0, 0, 0, 0, 0, 0), (113, .getfield 26, 2, 3, 0, 0, 11, 0), (116, .iconst 1, 0, 0, 0, 0, 0, 1), (117, .iadd, 0, 0, 0, 0, 0, 0), (118, .putfield 26, 2, 3, 0, 0, 11, 0), (121, .iinc 1 1, 0, 0, 0, 0, 0, 1), (124, .goto (-100), 14, 0, 0, 0, 0, 0), (127, .aload_n 0, 0, 0, 0, 0, 0, 0), (128, .getfield 22, 2, 2, 0, 0, 10, 0), (131, .invokevirtual 64, 51, 1, 5, 0, 14, 0), (134, .iconst 1, 0, 0, 0, 0, 0, 1), (135, .ireturn, 1, 0, 0, 0, 0, 0)]
def am_t8 : List am_I := [(0, .iload_n 1, 0, 0, 0, 0, 0, 0), (1, .bipush 9, 0, 0, 0, 0, 0, 9), (3, .if_icmp .ge 14, 10, 0, 0, 0, 0, 0), (6, .aload_n 0, 0, 0, 0, 0, 0, 0), (7, .getfield 44, 2, 9, 0, 0, 17, 0), (10, .iload_n 1, 0, 0, 0, 0, 0, 0), (11, .ishr, 0, 0, 0, 0, 0, 0), (12, .iconst 1, 0, 0, 0, 0, 0, 1), (13, .iand, 0, 0, 0, 0, 0, 0), (14, .ifCond .eq 5, 12, 0, 0, 0, 0, 0), (17, .iconst 0, 0, 0, 0, 0, 0, 0), (18, .ireturn, 1, 0, 0, 0, 0, 0), (19, .aload_n 0, 0, 0, 0, 0, 0, 0), (20, .dup, 0, 0, 0, 0, 0, 0), (21, .getfield 44, 2, 9, 0, 0, 17, 0), (24, .iconst 1, 0, 0, 0, 0, 0, 1), (25, .iload_n 1, 0, 0, 0, 0, 0, 0), (26, .ishl, 0, 0, 0, 0, 0, 0), (27, .ior, 0, 0, 0, 0, 0, 0), (28, .putfield 44, 2, 9, 0, 0, 17, 0), (31, .iload_n 1, 0, 0, 0, 0, 0, 0), (32, .iconst 1, 0, 0, 0, 0, 0, 1), (33, .if_icmp .le 9, 27, 0, 0, 0, 0, 0), (36, .iload_n 1, 0, 0, 0, 0, 0, 0), (37, .iconst 1, 0, 0, 0, 0, 0, 1), (38, .iadd, 0, 0, 0, 0, 0, 0), (39, .goto 4, 28, 0, 0, 0, 0, 0), (42, .iload_n 1, 0, 0, 0, 0, 0, 0), (43, .istore_n 2, 0, 0, 0, 0, 0, 0), (44, .iload_n 1, 0, 0, 0, 0, 0, 0), (45, .iconst 1, 0, 0, 0, 0, 0, 1), (46, .if_icmp .ne 9, 36, 0, 0, 0, 0, 0), (49, .iload_n 2, 0, 0, 0, 0, 0, 0), (50, .iconst 1, 0, 0, 0, 0, 0, 1), (51, .iadd, 0, 0, 0, 0, 0, 0), (52, .goto 4, 37, 0, 0, 0, 0, 0), (55, .iload_n 2, 0, 0, 0, 0, 0, 0), (56, .istore_n 3, 0, 0, 0, 0, 0, 0), (57, .iload_n 2, 0, 0, 0, 0, 0, 0), (58, .istore 4, 0, 0, 0, 0, 0, 0), (60, .iload 4, 0, 0, 0, 0, 0, 0), (62, .iload_n 3, 0, 0, 0, 0, 0, 0), (63, .if_icmp .gt 51, 66, 0, 0, 0, 0, 0), (66, .iload 4, 0, 0, 0, 0, 0, 0), (68, .bipush 10, 0, 0, 0, 0, 0, 10), (70, .if_icmp .ge 44, 66, 0, 0, 0, 0, 0), (73, .aload_n 0, 0, 0, 0, 0, 0, 0), (74, .getstatic 67, 1, 0, 0, 1, 0, 0), (77, .iload 4, 0, 0, 0, 0, 0, 0), (79, .iaload, 0, 0, 0, 0, 0, 0), (80, .getstatic 71, 2, 0, 0, 1, 1, 0), (83, .iload 4, 0, 0, 0, 0, 0, 0), (85, .iaload, 0, 0, 0, 0, 0, 0), (86, .invokevirtual 74, 10, 3, 2, 0, 15, 0), (89, .ifCond .ne 5, 57, 0, 0, 0, 0, 0), (92, .iconst 0, 0, 0, 0, 0, 0, 0), (93, .ireturn, 1, 0, 0, 0, 0, 0), (94, .aload_n 0, 0, 0, 0, 0, 0, 0), (95, .getfield 22, 2, 2, 0, 0, 10, 0), (98, .getfield 78, 5, 0, 0, 0, 18, 0), (101, .iload 4, 0, 0, 0, 0, 0, 0), (103, .aload_n 0, 0, 0, 0, 0, 0, 0), (104, .getfield 41, 2, 8, 0, 0, 16, 0), (107, .iastore, 0, 0, 0, 0, 0, 0), (108, .iinc 4 1, 0, 0, 0, 0, 0, 1), (111, .goto (-51), 40, 0, 0, 0, 0, 0), (114, .iconst 1, 0, 0, 0, 0, 0, 1), (115, .ireturn, 1, 0, 0, 0, 0, 0)]
def am_t9 : List am_I := [(0, .aload_n 0, 0, 0, 0, 0, 0, 0), (1, .getfield 22, 2, 2, 0, 0, 10, 0), (4, .getfield 81, 5, 5, 0, 0, 19, 0), (7, .istore_n 1, 0, 0, 0, 0, 0, 0), (8, .iload_n 1, 0, 0, 0, 0, 0, 0), (9, .ifCond .lt 9, 9, 0, 0, 0, 0, 0), (12, .iload_n 1, 0, 0, 0, 0, 0, 0), (13, .bipush 9, 0, 0, 0, 0, 0, 9), (15, .if_icmp .lt 5, 11, 0, 0, 0, 0, 0), (18, .iconst 0, 0, 0, 0, 0, 0, 0), (19, .ireturn, 1, 0, 0, 0, 0, 0), (20, .aload_n 0, 0, 0, 0, 0, 0, 0), (21, .invokevirtual 50, 13, 1, 2, 0, 10, 0), (24, .aload_n 0, 0, 0, 0, 0, 0, 0), (25, .getfield 38, 2, 7, 0, 0, 15, 0), (28, .iconst 4, 0, 0, 0, 0, 0, 4), (29, .if_icmp .ne 12, 21, 0, 0, 0, 0, 0), (32, .aload_n 0, 0, 0, 0, 0, 0, 0), (33, .getfield 41, 2, 8, 0, 0, 16, 0), (36, .bipush 10, 0, 0, 0, 0, 0, 10), (38, .if_icmp .ge 5, 23, 0, 0, 0, 0, 0), (41, .iconst 0, 0, 0, 0, 0, 0, 0), (42, .ireturn, 1, 0, 0, 0, 0, 0), (43, .aload_n 0, 0, 0, 0, 0, 0, 0), (44, .getfield 41, 2, 8, 0, 0, 16, 0), (47, .bipush 10, 0, 0, 0, 0, 0, 10), (49, .isub, 0, 0, 0, 0, 0, 0), (50, .istore_n 2, 0, 0, 0, 0, 0, 0), (51, .aload_n 0, 0, 0, 0, 0, 0, 0), (52, .getfield 22, 2, 2, 0, 0, 10, 0), (55, .getfield 84, 5, 1, 0, 0, 20, 0), (58, .iload_n 1, 0, 0, 0, 0, 0, 0), (59, .iload_n 2, 0, 0, 0, 0, 0, 0), (60, .iastore, 0, 0, 0, 0, 0, 0), (61, .aload_n 0, 0, 0, 0, 0, 0, 0), (62, .getfield 22, 2, 2, 0, 0, 10, 0), (65, .getfield 87, 5, 2, 0, 0, 21, 0), (68, .iload_n 1, 0, 0, 0, 0, 0, 0), (69, .iconst 0, 0, 0, 0, 0, 0, 0), (70, .iastore, 0, 0, 0, 0, 0, 0), (71, .iload_n 2, 0, 0, 0, 0, 0, 0), (72, .ifCond .eq 38, 61, 0, 0, 0, 0, 0), (75, .aload_n 0, 0, 0, 0, 0, 0, 0), (76, .iconst 1, 0, 0, 0, 0, 0, 1), (77, .iload_n 2, 0, 0, 0, 0, 0, 0), (78, .iconst 3, 0, 0, 0, 0, 0, 3), (79, .if_icmp .ne 8, 49, 0, 0, 0, 0, 0), (82, .bipush 99, 0, 0, 0, 0, 0, 99), (84, .goto 5, 50, 0, 0, 0, 0, 0), (87, .bipush 9, 0, 0, 0, 0, 0, 9), (89, .invokevirtual 74, 10, 3, 2, 0, 15, 0), (92, .ifCond .ne 5, 54, 0, 0, 0, 0, 0), (95, .iconst 0, 0, 0, 0, 0, 0, 0), (96, .ireturn, 1, 0, 0, 0, 0, 0), (97, .aload_n 0, 0, 0, 0, 0, 0, 0), (98, .getfield 22, 2, 2, 0, 0, 10, 0), (101, .getfield 87, 5, 2, 0, 0, 21, 0), (104, .iload_n 1, 0, 0, 0, 0, 0, 0), (105, .aload_n 0, 0, 0, 0, 0, 0, 0), (106, .getfield 41, 2, 8, 0, 0, 16, 0), (109, .iastore, 0, 0, 0, 0, 0, 0), (110, .aload_n 0, 0, 0, 0, 0, 0, 0), (111, .iconst 0, 0, 0, 0, 0, 0, 0), (112, .bipush 99, 0, 0, 0, 0, 0, 99), (114, .invokevirtual 74, 10, 3, 2, 0, 15, 0), (117, .ifCond .ne 5, 68, 0, 0, 0, 0, 0), (120, .iconst 0, 0, 0, 0, 0, 0, 0), (121, .ireturn, 1, 0, 0, 0, 0, 0), (122, .aload_n 0, 0, 0, 0, 0, 0, 0), (123, .getfield 22, 2, 2, 0, 0, 10, 0), (126, .getfield 90, 5, 3, 0, 0, 22, 0), (129, .iload_n 1, 0, 0, 0, 0, 0, 0), (130, .aload_n 0, 0, 0, 0, 0, 0, 0), (131, .getfield 41, 2, 8, 0, 0, 16, 0), (134, .iastore, 0, 0, 0, 0, 0, 0), (135, .aload_n 0, 0, 0, 0, 0, 0, 0), (136, .iconst 0, 0, 0, 0, 0, 0, 0), (137, .bipush 9, 0, 0, 0, 0, 0, 9), (139, .invokevirtual 74, 10, 3, 2, 0, 15, 0), (142, .ifCond .ne 5, 82, 0, 0, 0, 0, 0), (145, .iconst 0, 0, 0, 0, 0, 0, 0), (146, .ireturn, 1, 0, 0, 0, 0, 0), (147, .aload_n 0, 0, 0, 0, 0, 0, 0), (148, .getfield 22, 2, 2, 0, 0, 10, 0), (151, .getfield 93, 5, 4, 0, 0, 23, 0), (154, .iload_n 1, 0, 0, 0, 0, 0, 0), (155, .aload_n 0, 0, 0, 0, 0, 0, 0), (156, .getfield 41, 2, 8, 0, 0, 16, 0), (159, .iastore, 0, 0, 0, 0, 0, 0), (160, .aload_n 0, 0, 0, 0, 0, 0, 0), (161, .getfield 22, 2, 2, 0, 0, 10, 0), (164, .dup, 0, 0, 0, 0, 0, 0), (165, .getfield 81, 5, 5, 0, 0, 19, 0), (168, .iconst 1, 0, 0, 0, 0, 0, 1), (169, .iadd, 0, 0, 0, 0, 0, 0), (170, .putfield 81, 5, 5, 0, 0, 19, 0), (173, .iconst 1, 0, 0, 0, 0, 0, 1), (174, .ireturn, 1, 0, 0, 0, 0, 0)]
def am_t10 : List am_I := [(0, .aload_n 0, 0, 0, 0, 0, 0, 0), (1, .invokevirtual 50, 13, 1, 2, 0, 10, 0), (4, .aload_n 0, 0, 0, 0, 0, 0, 0), (5, .getfield 38, 2, 7, 0, 0, 15, 0), (8, .iconst 3, 0, 0, 0, 0, 0, 3), (9, .if_icmp .ne 23, 16, 0, 0, 0, 0, 0), (12, .aload_n 0, 0, 0, 0, 0, 0, 0), (13, .getfield 41, 2, 8, 0, 0, 16, 0), (16, .iload_n 1, 0, 0, 0, 0, 0, 0), (17, .if_icmp .lt 15, 16, 0, 0, 0, 0, 0), (20, .aload_n 0, 0, 0, 0, 0, 0, 0), (21, .getfield 41, 2, 8, 0, 0, 16, 0), (24, .iload_n 2, 0, 0, 0, 0, 0, 0), (25, .if_icmp .gt 7, 16, 0, 0, 0, 0, 0), (28, .iconst 1, 0, 0, 0, 0, 0, 1), (29, .goto 4, 17, 0, 0, 0, 0, 0), (32, .iconst 0, 0, 0, 0, 0, 0, 0), (33, .ireturn, 1, 0, 0, 0, 0, 0)]
def am_t11 : List am_I := [(0, .aload_n 0, 0, 0, 0, 0, 0, 0), (1, .invokevirtual 50, 13, 1, 2, 0, 10, 0), (4, .aload_n 0, 0, 0, 0, 0, 0, 0), (5, .getfield 38, 2, 7, 0, 0, 15, 0), (8, .iconst 2, 0, 0, 0, 0, 0, 2), (9, .if_icmp .ne 7, 8, 0, 0, 0, 0, 0), (12, .iconst 1, 0, 0, 0, 0, 0, 1), (13, .goto 4, 9, 0, 0, 0, 0, 0), (16, .iconst 0, 0, 0, 0, 0, 0, 0), (17, .ireturn, 1, 0, 0, 0, 0, 0)]
def am_t12 : List am_I := [(0, .iload_n 1, 0, 0, 0, 0, 0, 0), (1, .ifCond .lt 27, 14, 0, 0, 0, 0, 0), (4, .iload_n 1, 0, 0, 0, 0, 0, 0), (5, .aload_n 0, 0, 0, 0, 0, 0, 0), (6, .getfield 15, 2, 1, 0, 0, 9, 0), (9, .if_icmp .ge 19, 14, 0, 0, 0, 0, 0), (12, .iload_n 1, 0, 0, 0, 0, 0, 0), (13, .sipush 400, 0, 0, 0, 0, 0, 400), (16, .if_icmp .ge 12, 14, 0, 0, 0, 0, 0), (19, .aload_n 0, 0, 0, 0, 0, 0, 0), (20, .getfield 11, 2, 0, 0, 0, 8, 0), (23, .iload_n 1, 0, 0, 0, 0, 0, 0), (24, .baload, 0, 0, 0, 0, 0, 0), (25, .goto 4, 15, 0, 0, 0, 0, 0), (28, .iconst (-1), 0, 0, 0, 0, 0, -1), (29, .ireturn, 0, 0, 0, 0, 0, 0)]
def am_t13 : List am_I := [(0, .aload_n 0, 0, 0, 0, 0, 0, 0), (1, .getfield 32, 2, 5, 0, 0, 13, 0), (4, .aload_n 0, 0, 0, 0, 0, 0, 0), (5, .getfield 15, 2, 1, 0, 0, 9, 0), (8, .if_icmp .ge 29, 18, 0, 0, 0, 0, 0), (11, .aload_n 0, 0, 0, 0, 0, 0, 0), (12, .aload_n 0, 0, 0, 0, 0, 0, 0), (13, .getfield 32, 2, 5, 0, 0, 13, 0), (16, .invokevirtual 96, 12, 2, 2, 0, 16, 0), (19, .bipush 32, 0, 0, 0, 0, 0, 32), (21, .if_icmp .ne 16, 18, 0, 0, 0, 0, 0), (24, .aload_n 0, 0, 0, 0, 0, 0, 0), (25, .dup, 0, 0, 0, 0, 0, 0), (26, .getfield 32, 2, 5, 0, 0, 13, 0), (29, .iconst 1, 0, 0, 0, 0, 0, 1), (30, .iadd, 0, 0, 0, 0, 0, 0), (31, .putfield 32, 2, 5, 0, 0, 13, 0), (34, .goto (-34), 0, 0, 0, 0, 0, 0), (37, .aload_n 0, 0, 0, 0, 0, 0, 0), (38, .aload_n 0, 0, 0, 0, 0, 0, 0), (39, .getfield 32, 2, 5, 0, 0, 13, 0), (42, .putfield 35, 2, 6, 0, 0, 14, 0), (45, .aload_n 0, 0, 0, 0, 0, 0, 0), (46, .aload_n 0, 0, 0, 0, 0, 0, 0), (47, .getfield 32, 2, 5, 0, 0, 13, 0), (50, .invokevirtual 96, 12, 2, 2, 0, 16, 0), (53, .istore_n 1, 0, 0, 0, 0, 0, 0), (54, .aload_n 0, 0, 0, 0, 0, 0, 0), (55, .getfield 32, 2, 5, 0, 0, 13, 0), (58, .aload_n 0, 0, 0, 0, 0, 0, 0), (59, .getfield 15, 2, 1, 0, 0, 9, 0), (62, .if_icmp .lt 11, 36, 0, 0, 0, 0, 0), (65, .aload_n 0, 0, 0, 0, 0, 0, 0), (66, .iconst 1, 0, 0, 0, 0, 0, 1), (67, .putfield 38, 2, 7, 0, 0, 15, 0), (70, .goto 60, 64, 0, 0, 0, 0, 0), (73, .iload_n 1, 0, 0, 0, 0, 0, 0), (74, .bipush 59, 0, 0, 0, 0, 0, 59), (76, .if_icmp .ne 21, 49, 0, 0, 0, 0, 0), (79, .aload_n 0, 0, 0, 0, 0, 0, 0), (80, .iconst 2, 0, 0, 0, 0, 0, 2), (81, .putfield 38, 2, 7, 0, 0, 15, 0), (84, .aload_n 0, 0, 0, 0, 0, 0, 0), (85, .dup, 0, 0, 0, 0, 0, 0), (86, .getfield 32, 2, 5, 0, 0, 13, 0), (89, .iconst 1, 0, 0, 0, 0, 0, 1), (90, .iadd, 0, 0, 0, 0, 0, 0), (91, .putfield 32, 2, 5, 0, 0, 13, 0), (94, .goto 36, 64, 0, 0, 0, 0, 0), (97, .iload_n 1, 0, 0, 0, 0, 0, 0), (98, .invokestatic 100, 16, 1, 2, 0, 17, 0), (101, .ifCond .eq 10, 55, 0, 0, 0, 0, 0), (104, .aload_n 0, 0, 0, 0, 0, 0, 0), (105, .invokevirtual 103, 14, 1, 2, 0, 18, 0), (108, .goto 22, 64, 0, 0, 0, 0, 0), (111, .iload_n 1, 0, 0, 0, 0, 0, 0), (112, .invokestatic 106, 17, 1, 2, 0, 19, 0), (115, .ifCond .eq 10, 61, 0, 0, 0, 0, 0), (118, .aload_n 0, 0, 0, 0, 0, 0, 0), (119, .invokevirtual 109, 15, 1, 2, 0, 20, 0), (122, .goto 8, 64, 0, 0, 0, 0, 0), (125, .aload_n 0, 0, 0, 0, 0, 0, 0), (126, .iconst 0, 0, 0, 0, 0, 0, 0), (127, .putfield 38, 2, 7, 0, 0, 15, 0), (130, .return_, 0, 0, 0, 0, 0, 0)]
def am_t14 : List am_I := [(0, .aload_n 0, 0, 0, 0, 0, 0, 0), (1, .iconst 0, 0, 0, 0, 0, 0, 0), (2, .putfield 41, 2, 8, 0, 0, 16, 0), (5, .aload_n 0, 0, 0, 0, 0, 0, 0), (6, .getfield 32, 2, 5, 0, 0, 13, 0), (9, .aload_n 0, 0, 0, 0, 0, 0, 0), (10, .getfield 15, 2, 1, 0, 0, 9, 0), (13, .if_icmp .ge 58, 36, 0, 0, 0, 0, 0), (16, .aload_n 0, 0, 0, 0, 0, 0, 0), (17, .aload_n 0, 0, 0, 0, 0, 0, 0), (18, .getfield 32, 2, 5, 0, 0, 13, 0), (21, .invokevirtual 96, 12, 2, 2, 0, 16, 0), (24, .invokestatic 100, 16, 1, 2, 0, 17, 0), (27, .ifCond .eq 44, 36, 0, 0, 0, 0, 0), (30, .aload_n 0, 0, 0, 0, 0, 0, 0), (31, .aload_n 0, 0, 0, 0, 0, 0, 0), (32, .getfield 41, 2, 8, 0, 0, 16, 0), (35, .bipush 10, 0, 0, 0, 0, 0, 10), (37, .imul, 0, 0, 0, 0, 0, 0), (38, .aload_n 0, 0, 0, 0, 0, 0, 0), (39, .aload_n 0, 0, 0, 0, 0, 0, 0), (40, .getfield 32, 2, 5, 0, 0, 13, 0), (43, .invokevirtual 96, 12, 2, 2, 0, 16, 0), (46, .iadd, 0, 0, 0, 0, 0, 0), (47, .bipush 48, 0, 0, 0, 0, 0, 48), (49, .isub, 0, 0, 0, 0, 0, 0), (50, .bipush 100, 0, 0, 0, 0, 0, 100), (52, .invokestatic 112, 0, 0, 0, 2, 21, 0), (55, .putfield 41, 2, 8, 0, 0, 16, 0), (58, .aload_n 0, 0, 0, 0, 0, 0, 0), (59, .dup, 0, 0, 0, 0, 0, 0), (60, .getfield 32, 2, 5, 0, 0, 13, 0), (63, .iconst 1, 0, 0, 0, 0, 0, 1), (64, .iadd, 0, 0, 0, 0, 0, 0), (65, .putfield 32, 2, 5, 0, 0, 13, 0), (68, .goto (-63), 3, 0, 0, 0, 0, 0), (71, .aload_n 0, 0, 0, 0, 0, 0, 0), (72, .aload_n 0, 0, 0, 0, 0, 0, 0), (73, .getfield 35, 2, 6, 0, 0, 14, 0), (76, .invokevirtual 96, 12, 2, 2, 0, 16, 0), (79, .bipush 48, 0, 0, 0, 0, 0, 48), (81, .if_icmp .ne 20, 51, 0, 0, 0, 0, 0), (84, .aload_n 0, 0, 0, 0, 0, 0, 0), (85, .getfield 32, 2, 5, 0, 0, 13, 0), (88, .aload_n 0, 0, 0, 0, 0, 0, 0), (89, .getfield 35, 2, 6, 0, 0, 14, 0), (92, .isub, 0, 0, 0, 0, 0, 0), (93, .iconst 1, 0, 0, 0, 0, 0, 1), (94, .if_icmp .le 7, 51, 0, 0, 0, 0, 0), (97, .iconst 1, 0, 0, 0, 0, 0, 1), (98, .goto 4, 52, 0, 0, 0, 0, 0), (101, .iconst 0, 0, 0, 0, 0, 0, 0), (102, .istore_n 1, 0, 0, 0, 0, 0, 0), (103, .aload_n 0, 0, 0, 0, 0, 0, 0), (104, .aload_n 0, 0, 0, 0, 0, 0, 0), (105, .getfield 41, 2, 8, 0, 0, 16, 0), (108, .bipush 99, 0, 0, 0, 0, 0, 99), (110, .if_icmp .gt 7, 60, 0, 0, 0, 0, 0), (113, .iload_n 1, 0, 0, 0, 0, 0, 0), (114, .ifCond .eq 7, 62, 0, 0, 0, 0, 0), (117, .iconst 0, 0, 0, 0, 0, 0, 0), (118, .goto 4, 63, 0, 0, 0, 0, 0), (121, .iconst 3, 0, 0, 0, 0, 0, 3), (122, .putfield 38, 2, 7, 0, 0, 15, 0), (125, .return_, 0, 0, 0, 0, 0, 0)]
def am_t15 : List am_I := [(0, .aload_n 0, 0, 0, 0, 0, 0, 0), (1, .getfield 32, 2, 5, 0, 0, 13, 0), (4, .aload_n 0, 0, 0, 0, 0, 0, 0), (5, .getfield 15, 2, 1, 0, 0, 9, 0), (8, .if_icmp .ge 30, 18, 0, 0, 0, 0, 0), (11, .aload_n 0, 0, 0, 0, 0, 0, 0), (12, .aload_n 0, 0, 0, 0, 0, 0, 0), (13, .getfield 32, 2, 5, 0, 0, 13, 0), (16, .invokevirtual 96, 12, 2, 2, 0, 16, 0), (19, .invokestatic 106, 17, 1, 2, 0, 19, 0), (22, .ifCond .eq 16, 18, 0, 0, 0, 0, 0), (25, .aload_n 0, 0, 0, 0, 0, 0, 0), (26, .dup, 0, 0, 0, 0, 0, 0), (27, .getfield 32, 2, 5, 0, 0, 13, 0), (30, .iconst 1, 0, 0, 0, 0, 0, 1), (31, .iadd, 0, 0, 0, 0, 0, 0), (32, .putfield 32, 2, 5, 0, 0, 13, 0), (35, .goto (-35), 0, 0, 0, 0, 0, 0), (38, .aload_n 0, 0, 0, 0, 0, 0, 0), (39, .iconst 0, 0, 0, 0, 0, 0, 0), (40, .putfield 38, 2, 7, 0, 0, 15, 0), (43, .iconst 0, 0, 0, 0, 0, 0, 0), (44, .istore_n 1, 0, 0, 0, 0, 0, 0), (45, .iconst 0, 0, 0, 0, 0, 0, 0), (46, .istore_n 2, 0, 0, 0, 0, 0, 0), (47, .iconst 1, 0, 0, 0, 0, 0, 1), (48, .istore_n 3, 0, 0, 0, 0, 0, 0), (49, .iconst 0, 0, 0, 0, 0, 0, 0), (50, .istore 4, 0, 0, 0, 0, 0, 0), (52, .iload 4, 0, 0, 0, 0, 0, 0), (54, .ldc 118, 0, 0, 0, 1, 0, 0), (56, .invokevirtual 120, 164, 1, 100, 0, 22, 0), (59, .if_icmp .ge 97, 83, 0, 0, 0, 0, 0), (62, .ldc 118, 0, 0, 0, 1, 0, 0), (64, .iload 4, 0, 0, 0, 0, 0, 0), (66, .invokevirtual 125, 165, 2, 100, 0, 23, 0), (69, .bipush 32, 0, 0, 0, 0, 0, 32), (71, .if_icmp .eq 39, 57, 0, 0, 0, 0, 0), (74, .iload_n 3, 0, 0, 0, 0, 0, 0), (75, .ifCond .eq 30, 54, 0, 0, 0, 0, 0), (78, .ldc 118, 0, 0, 0, 1, 0, 0), (80, .iload 4, 0, 0, 0, 0, 0, 0), (82, .invokevirtual 125, 165, 2, 100, 0, 23, 0), (85, .aload_n 0, 0, 0, 0, 0, 0, 0), (86, .aload_n 0, 0, 0, 0, 0, 0, 0), (87, .getfield 35, 2, 6, 0, 0, 14, 0), (90, .iload 4, 0, 0, 0, 0, 0, 0), (92, .iadd, 0, 0, 0, 0, 0, 0), (93, .iload_n 2, 0, 0, 0, 0, 0, 0), (94, .isub, 0, 0, 0, 0, 0, 0), (95, .invokevirtual 96, 12, 2, 2, 0, 16, 0), (98, .if_icmp .ne 7, 54, 0, 0, 0, 0, 0), (101, .iconst 1, 0, 0, 0, 0, 0, 1), (102, .goto 4, 55, 0, 0, 0, 0, 0), (105, .iconst 0, 0, 0, 0, 0, 0, 0), (106, .istore_n 3, 0, 0, 0, 0, 0, 0), (107, .goto 43, 81, 0, 0, 0, 0, 0), (110, .iload_n 3, 0, 0, 0, 0, 0, 0), (111, .ifCond .eq 29, 74, 0, 0, 0, 0, 0), (114, .iload 4, 0, 0, 0, 0, 0, 0), (116, .iload_n 2, 0, 0, 0, 0, 0, 0), (117, .isub, 0, 0, 0, 0, 0, 0), (118, .aload_n 0, 0, 0, 0, 0, 0, 0), (119, .getfield 32, 2, 5, 0, 0, 13, 0), (122, .aload_n 0, 0, 0, 0, 0, 0, 0), (123, .getfield 35, 2, 6, 0, 0, 14, 0), (126, .isub, 0, 0, 0, 0, 0, 0), (127, .if_icmp .ne 13, 74, 0, 0, 0, 0, 0), (130, .aload_n 0, 0, 0, 0, 0, 0, 0), (131, .iconst 4, 0, 0, 0, 0, 0, 4), (132, .putfield 38, 2, 7, 0, 0, 15, 0), (135, .aload_n 0, 0, 0, 0, 0, 0, 0), (136, .iload_n 1, 0, 0, 0, 0, 0, 0), (137, .putfield 41, 2, 8, 0, 0, 16, 0), (140, .iinc 1 1, 0, 0, 0, 0, 0, 1), (143, .iload 4, 0, 0, 0, 0, 0, 0), (145, .iconst 1, 0, 0, 0, 0, 0, 1), (146, .iadd, 0, 0, 0, 0, 0, 0), (147, .istore_n 2, 0, 0, 0, 0, 0, 0), (148, .iconst 1, 0, 0, 0, 0, 0, 1), (149, .istore_n 3, 0, 0, 0, 0, 0, 0), (150, .iinc 4 1, 0, 0, 0, 0, 0, 1), (153, .goto (-101), 29, 0, 0, 0, 0, 0), (156, .return_, 0, 0, 0, 0, 0, 0)]
def am_t16 : List am_I := [(0, .iload_n 0, 0, 0, 0, 0, 0, 0), (1, .bipush 48, 0, 0, 0, 0, 0, 48), (3, .if_icmp .lt 13, 8, 0, 0, 0, 0, 0), (6, .iload_n 0, 0, 0, 0, 0, 0, 0), (7, .bipush 57, 0, 0, 0, 0, 0, 57), (9, .if_icmp .gt 7, 8, 0, 0, 0, 0, 0), (12, .iconst 1, 0, 0, 0, 0, 0, 1), (13, .goto 4, 9, 0, 0, 0, 0, 0), (16, .iconst 0, 0, 0, 0, 0, 0, 0), (17, .ireturn, 1, 0, 0, 0, 0, 0)]
def am_t17 : List am_I := [(0, .iload_n 0, 0, 0, 0, 0, 0, 0), (1, .bipush 97, 0, 0, 0, 0, 0, 97), (3, .if_icmp .lt 13, 8, 0, 0, 0, 0, 0), (6, .iload_n 0, 0, 0, 0, 0, 0, 0), (7, .bipush 122, 0, 0, 0, 0, 0, 122), (9, .if_icmp .gt 7, 8, 0, 0, 0, 0, 0), (12, .iconst 1, 0, 0, 0, 0, 0, 1), (13, .goto 4, 9, 0, 0, 0, 0, 0), (16, .iconst 0, 0, 0, 0, 0, 0, 0), (17, .ireturn, 1, 0, 0, 0, 0, 0)]
def am_t18 : List am_I := [(0, .aload_n 0, 0, 0, 0, 0, 0, 0), (1, .invokespecial 3, 0, 0, 0, 5, 24, 0), (4, .aload_n 0, 0, 0, 0, 0, 0, 0), (5, .iconst 3, 0, 0, 0, 0, 0, 3), (6, .newarray .int, 0, 0, 0, 0, 0, 0), (8, .dup, 0, 0, 0, 0, 0, 0), (9, .iconst 0, 0, 0, 0, 0, 0, 0), (10, .bipush 30, 0, 0, 0, 0, 0, 30), (12, .iastore, 0, 0, 0, 0, 0, 0), (13, .dup, 0, 0, 0, 0, 0, 0), (14, .iconst 1, 0, 0, 0, 0, 0, 1), (15, .iconst 5, 0, 0, 0, 0, 0, 5), (16, .iastore, 0, 0, 0, 0, 0, 0), (17, .dup, 0, 0, 0, 0, 0, 0), (18, .iconst 2, 0, 0, 0, 0, 0, 2), (19, .bipush 10, 0, 0, 0, 0, 0, 10), (21, .iastore, 0, 0, 0, 0, 0, 0), (22, .putfield 9, 3, 0, 0, 3, 24, 0), (25, .aload_n 0, 0, 0, 0, 0, 0, 0), (26, .bipush 10, 0, 0, 0, 0, 0, 10), (28, .newarray .int, 0, 0, 0, 0, 0, 0), (30, .dup, 0, 0, 0, 0, 0, 0), (31, .iconst 0, 0, 0, 0, 0, 0, 0), (32, .iconst 0, 0, 0, 0, 0, 0, 0), (33, .iastore, 0, 0, 0, 0, 0, 0), (34, .dup, 0, 0, 0, 0, 0, 0), (35, .iconst 1, 0, 0, 0, 0, 0, 1), (36, .iconst 0, 0, 0, 0, 0, 0, 0), (37, .iastore, 0, 0, 0, 0, 0, 0), (38, .dup, 0, 0, 0, 0, 0, 0), (39, .iconst 2, 0, 0, 0, 0, 0, 2), (40, .iconst 0, 0, 0, 0, 0, 0, 0), (41, .iastore, 0, 0, 0, 0, 0, 0), (42, .dup, 0, 0, 0, 0, 0, 0), (43, .iconst 3, 0, 0, 0, 0, 0, 3), (44, .iconst 0, 0, 0, 0, 0, 0, 0), (45, .iastore, 0, 0, 0, 0, 0, 0), (46, .dup, 0, 0, 0, 0, 0, 0), (47, .iconst 4, 0, 0, 0, 0, 0, 4), (48, .iconst 0, 0, 0, 0, 0, 0, 0), (49, .iastore, 0, 0, 0, 0, 0, 0), (50, .dup, 0, 0, 0, 0, 0, 0), (51, .iconst 5, 0, 0, 0, 0, 0, 5), (52, .iconst 0, 0, 0, 0, 0, 0, 0), (53, .iastore, 0, 0, 0, 0, 0, 0), (54, .dup, 0, 0, 0, 0, 0, 0), (55, .bipush 6, 0, 0, 0, 0, 0, 6), (57, .iconst 0, 0, 0, 0, 0, 0, 0), (58, .iastore, 0, 0, 0, 0, 0, 0), (59, .dup, 0, 0, 0, 0, 0, 0), (60, .bipush 7, 0, 0, 0, 0, 0, 7), (62, .iconst 0, 0, 0, 0, 0, 0, 0), (63, .iastore, 0, 0, 0, 0, 0, 0), (64, .dup, 0, 0, 0, 0, 0, 0), (65, .bipush 8, 0, 0, 0, 0, 0, 8), (67, .iconst 0, 0, 0, 0, 0, 0, 0), (68, .iastore, 0, 0, 0, 0, 0, 0), (69, .dup, 0, 0, 0, 0, 0, 0), (70, .bipush 9, 0, 0, 0, 0, 0, 9), (72, .bipush 10, 0, 0, 0, 0, 0, 10), (74, .iastore, 0, 0, 0, 0, 0, 0), (75, .putfield 15, 3, 1, 0, 3, 25, 0), (78, .aload_n 0, 0, 0, 0, 0, 0, 0), (79, .iconst 3, 0, 0, 0, 0, 0, 3), (80, .newarray .int, 0, 0, 0, 0, 0, 0), (82, .putfield 18, 3, 2, 0, 3, 26, 0), (85, .aload_n 0, 0, 0, 0, 0, 0, 0), (86, .iconst 0, 0, 0, 0, 0, 0, 0), (87, .putfield 21, 3, 3, 0, 0, 27, 0), (90, .aload_n 0, 0, 0, 0, 0, 0, 0), (91, .bipush (-9), 0, 0, 0, 0, 0, -9), (93, .putfield 25, 3, 4, 0, 0, 28, 0), (96, .return_, 0, 0, 0, 0, 0, 0)]
def am_t19 : List am_I := [(0, .iload_n 1, 0, 0, 0, 0, 0, 0), (1, .ifCond .lt 8, 5, 0, 0, 0, 0, 0), (4, .iload_n 1, 0, 0, 0, 0, 0, 0), (5, .iconst 2, 0, 0, 0, 0, 0, 2), (6, .if_icmp .le 5, 7, 0, 0, 0, 0, 0), (9, .iconst (-1), 0, 0, 0, 0, 0, -1), (10, .ireturn, 0, 0, 0, 0, 0, 0), (11, .aload_n 0, 0, 0, 0, 0, 0, 0), (12, .getfield 9, 3, 0, 0, 0, 24, 0), (15, .iload_n 1, 0, 0, 0, 0, 0, 0), (16, .iaload, 0, 0, 0, 0, 0, 0), (17, .istore_n 3, 0, 0, 0, 0, 0, 0), (18, .aload_n 0, 0, 0, 0, 0, 0, 0), (19, .getfield 9, 3, 0, 0, 0, 24, 0), (22, .iload_n 1, 0, 0, 0, 0, 0, 0), (23, .iload_n 2, 0, 0, 0, 0, 0, 0), (24, .iastore, 0, 0, 0, 0, 0, 0), (25, .iload_n 3, 0, 0, 0, 0, 0, 0), (26, .ireturn, 0, 0, 0, 0, 0, 0)]
def am_t20 : List am_I := [(0, .aload_n 0, 0, 0, 0, 0, 0, 0), (1, .getfield 9, 3, 0, 0, 0, 24, 0), (4, .iconst 0, 0, 0, 0, 0, 0, 0), (5, .iaload, 0, 0, 0, 0, 0, 0), (6, .aload_n 0, 0, 0, 0, 0, 0, 0), (7, .getfield 9, 3, 0, 0, 0, 24, 0), (10, .iconst 1, 0, 0, 0, 0, 0, 1), (11, .iaload, 0, 0, 0, 0, 0, 0), (12, .iload_n 1, 0, 0, 0, 0, 0, 0), (13, .imul, 0, 0, 0, 0, 0, 0), (14, .iadd, 0, 0, 0, 0, 0, 0), (15, .ireturn, 0, 0, 0, 0, 0, 0)]
def am_t21 : List am_I := [(0, .aload_n 0, 0, 0, 0, 0, 0, 0), (1, .iconst 0, 0, 0, 0, 0, 0, 0), (2, .putfield 21, 3, 3, 0, 0, 27, 0), (5, .aload_n 0, 0, 0, 0, 0, 0, 0), (6, .bipush (-9), 0, 0, 0, 0, 0, -9), (8, .putfield 25, 3, 4, 0, 0, 28, 0), (11, .iload_n 1, 0, 0, 0, 0, 0, 0), (12, .iconst 2, 0, 0, 0, 0, 0, 2), (13, .if_icmp .le 7, 11, 0, 0, 0, 0, 0), (16, .iload_n 2, 0, 0, 0, 0, 0, 0), (17, .goto 4, 12, 0, 0, 0, 0, 0), (20, .iconst 0, 0, 0, 0, 0, 0, 0), (21, .istore_n 3, 0, 0, 0, 0, 0, 0), (22, .iconst 0, 0, 0, 0, 0, 0, 0), (23, .istore 4, 0, 0, 0, 0, 0, 0), (25, .iload 4, 0, 0, 0, 0, 0, 0), (27, .iload_n 2, 0, 0, 0, 0, 0, 0), (28, .if_icmp .gt 106, 74, 0, 0, 0, 0, 0), (31, .iconst 0, 0, 0, 0, 0, 0, 0), (32, .istore 5, 0, 0, 0, 0, 0, 0), (34, .iload 5, 0, 0, 0, 0, 0, 0), (36, .iload_n 2, 0, 0, 0, 0, 0, 0), (37, .if_icmp .gt 91, 72, 0, 0, 0, 0, 0), (40, .iconst 0, 0, 0, 0, 0, 0, 0), (41, .istore 6, 0, 0, 0, 0, 0, 0), (43, .iload 6, 0, 0, 0, 0, 0, 0), (45, .iload_n 3, 0, 0, 0, 0, 0, 0), (46, .if_icmp .gt 76, 70, 0, 0, 0, 0, 0), (49, .aload_n 0, 0, 0, 0, 0, 0, 0), (50, .getfield 18, 3, 2, 0, 0, 26, 0), (53, .iconst 0, 0, 0, 0, 0, 0, 0), (54, .iload 4, 0, 0, 0, 0, 0, 0), (56, .iastore, 0, 0, 0, 0, 0, 0), (57, .aload_n 0, 0, 0, 0, 0, 0, 0), (58, .getfield 18, 3, 2, 0, 0, 26, 0), (61, .iconst 1, 0, 0, 0, 0, 0, 1), (62, .iload 5, 0, 0, 0, 0, 0, 0), (64, .iastore, 0, 0, 0, 0, 0, 0), (65, .aload_n 0, 0, 0, 0, 0, 0, 0), (66, .getfield 18, 3, 2, 0, 0, 26, 0), (69, .iconst 2, 0, 0, 0, 0, 0, 2), (70, .iload 6, 0, 0, 0, 0, 0, 0), (72, .iastore, 0, 0, 0, 0, 0, 0), (73, .aload_n 0, 0, 0, 0, 0, 0, 0), (74, .iload_n 1, 0, 0, 0, 0, 0, 0), (75, .iload_n 2, 0, 0, 0, 0, 0, 0), (76, .invokevirtual 28, 23, 3, 3, 0, 25, 0), (79, .ifCond .eq 37, 68, 0, 0, 0, 0, 0), (82, .aload_n 0, 0, 0, 0, 0, 0, 0), (83, .iload_n 1, 0, 0, 0, 0, 0, 0), (84, .iconst 2, 0, 0, 0, 0, 0, 2), (85, .if_icmp .le 20, 62, 0, 0, 0, 0, 0), (88, .bipush 100, 0, 0, 0, 0, 0, 100), (90, .iload 4, 0, 0, 0, 0, 0, 0), (92, .imul, 0, 0, 0, 0, 0, 0), (93, .bipush 10, 0, 0, 0, 0, 0, 10), (95, .iload 5, 0, 0, 0, 0, 0, 0), (97, .imul, 0, 0, 0, 0, 0, 0), (98, .iadd, 0, 0, 0, 0, 0, 0), (99, .iload 6, 0, 0, 0, 0, 0, 0), (101, .iadd, 0, 0, 0, 0, 0, 0), (102, .goto 11, 67, 0, 0, 0, 0, 0), (105, .bipush 10, 0, 0, 0, 0, 0, 10), (107, .iload 4, 0, 0, 0, 0, 0, 0), (109, .imul, 0, 0, 0, 0, 0, 0), (110, .iload 5, 0, 0, 0, 0, 0, 0), (112, .iadd, 0, 0, 0, 0, 0, 0), (113, .invokevirtual 32, 22, 2, 3, 0, 26, 0), (116, .iinc 6 1, 0, 0, 0, 0, 0, 1), (119, .goto (-76), 25, 0, 0, 0, 0, 0), (122, .iinc 5 1, 0, 0, 0, 0, 0, 1), (125, .goto (-91), 20, 0, 0, 0, 0, 0), (128, .iinc 4 1, 0, 0, 0, 0, 0, 1), (131, .goto (-106), 15, 0, 0, 0, 0, 0), (134, .return_, 0, 0, 0, 0, 0, 0)]
def am_t22 : List am_I := [(0, .aload_n 0, 0, 0, 0, 0, 0, 0), (1, .getfield 21, 3, 3, 0, 0, 27, 0), (4, .ifCond .ne 8, 6, 0, 0, 0, 0, 0), (7, .aload_n 0, 0, 0, 0, 0, 0, 0), (8, .iload_n 1, 0, 0, 0, 0, 0, 0), (9, .putfield 25, 3, 4, 0, 0, 28, 0), (12, .aload_n 0, 0, 0, 0, 0, 0, 0), (13, .dup, 0, 0, 0, 0, 0, 0), (14, .getfield 21, 3, 3, 0, 0, 27, 0), (17, .iconst 1, 0, 0, 0, 0, 0, 1), (18, .iadd, 0, 0, 0, 0, 0, 0), (19, .putfield 21, 3, 3, 0, 0, 27, 0), (22, .return_, 0, 0, 0, 0, 0, 0)]
def am_t23 : List am_I := [(0, .iconst 0, 0, 0, 0, 0, 0, 0), (1, .istore_n 3, 0, 0, 0, 0, 0, 0), (2, .iload_n 3, 0, 0, 0, 0, 0, 0), (3, .iload_n 1, 0, 0, 0, 0, 0, 0), (4, .if_icmp .ge 98, 57, 0, 0, 0, 0, 0), (7, .iload_n 3, 0, 0, 0, 0, 0, 0), (8, .aload_n 0, 0, 0, 0, 0, 0, 0), (9, .getfield 18, 3, 2, 0, 0, 26, 0), (12, .arraylength, 0, 0, 0, 0, 0, 0), (13, .if_icmp .ge 89, 57, 0, 0, 0, 0, 0), (16, .aload_n 0, 0, 0, 0, 0, 0, 0), (17, .getfield 18, 3, 2, 0, 0, 26, 0), (20, .iload_n 3, 0, 0, 0, 0, 0, 0), (21, .iaload, 0, 0, 0, 0, 0, 0), (22, .istore 4, 0, 0, 0, 0, 0, 0), (24, .aload_n 0, 0, 0, 0, 0, 0, 0), (25, .iload_n 3, 0, 0, 0, 0, 0, 0), (26, .iload_n 1, 0, 0, 0, 0, 0, 0), (27, .invokevirtual 36, 24, 3, 3, 0, 27, 0), (30, .istore 5, 0, 0, 0, 0, 0, 0), (32, .iconst 1, 0, 0, 0, 0, 0, 1), (33, .istore 6, 0, 0, 0, 0, 0, 0), (35, .iconst 0, 0, 0, 0, 0, 0, 0), (36, .istore 7, 0, 0, 0, 0, 0, 0), (38, .iload 7, 0, 0, 0, 0, 0, 0), (40, .iload_n 2, 0, 0, 0, 0, 0, 0), (41, .if_icmp .gt 40, 46, 0, 0, 0, 0, 0), (44, .aload_n 0, 0, 0, 0, 0, 0, 0), (45, .getfield 18, 3, 2, 0, 0, 26, 0), (48, .iload_n 3, 0, 0, 0, 0, 0, 0), (49, .iload 7, 0, 0, 0, 0, 0, 0), (51, .iastore, 0, 0, 0, 0, 0, 0), (52, .iload 6, 0, 0, 0, 0, 0, 0), (54, .ifCond .eq 18, 42, 0, 0, 0, 0, 0), (57, .aload_n 0, 0, 0, 0, 0, 0, 0), (58, .iload_n 3, 0, 0, 0, 0, 0, 0), (59, .iload_n 1, 0, 0, 0, 0, 0, 0), (60, .invokevirtual 36, 24, 3, 3, 0, 27, 0), (63, .iload 5, 0, 0, 0, 0, 0, 0), (65, .if_icmp .gt 7, 42, 0, 0, 0, 0, 0), (68, .iconst 1, 0, 0, 0, 0, 0, 1), (69, .goto 4, 43, 0, 0, 0, 0, 0), (72, .iconst 0, 0, 0, 0, 0, 0, 0), (73, .istore 6, 0, 0, 0, 0, 0, 0), (75, .iinc 7 1, 0, 0, 0, 0, 0, 1), (78, .goto (-40), 24, 0, 0, 0, 0, 0), (81, .aload_n 0, 0, 0, 0, 0, 0, 0), (82, .getfield 18, 3, 2, 0, 0, 26, 0), (85, .iload_n 3, 0, 0, 0, 0, 0, 0), (86, .iload 4, 0, 0, 0, 0, 0, 0), (88, .iastore, 0, 0, 0, 0, 0, 0), (89, .iload 6, 0, 0, 0, 0, 0, 0), (91, .ifCond .ne 5, 55, 0, 0, 0, 0, 0), (94, .iconst 0, 0, 0, 0, 0, 0, 0), (95, .ireturn, 1, 0, 0, 0, 0, 0), (96, .iinc 3 1, 0, 0, 0, 0, 0, 1), (99, .goto (-97), 2, 0, 0, 0, 0, 0), (102, .iconst 1, 0, 0, 0, 0, 0, 1), (103, .ireturn, 1, 0, 0, 0, 0, 0)]
def am_t24 : List am_I := [(0, .aload_n 0, 0, 0, 0, 0, 0, 0), (1, .getfield 18, 3, 2, 0, 0, 26, 0), (4, .iload_n 1, 0, 0, 0, 0, 0, 0), (5, .iaload, 0, 0, 0, 0, 0, 0), (6, .istore_n 3, 0, 0, 0, 0, 0, 0), (7, .iconst 0, 0, 0, 0, 0, 0, 0), (8, .istore 4, 0, 0, 0, 0, 0, 0), (10, .iload 4, 0, 0, 0, 0, 0, 0), (12, .iload_n 2, 0, 0, 0, 0, 0, 0), (13, .if_icmp .ge 31, 24, 0, 0, 0, 0, 0), (16, .iload 4, 0, 0, 0, 0, 0, 0), (18, .aload_n 0, 0, 0, 0, 0, 0, 0), (19, .getfield 18, 3, 2, 0, 0, 26, 0), (22, .arraylength, 0, 0, 0, 0, 0, 0), (23, .if_icmp .ge 21, 24, 0, 0, 0, 0, 0), (26, .iload_n 3, 0, 0, 0, 0, 0, 0), (27, .aload_n 0, 0, 0, 0, 0, 0, 0), (28, .getfield 18, 3, 2, 0, 0, 26, 0), (31, .iload 4, 0, 0, 0, 0, 0, 0), (33, .iaload, 0, 0, 0, 0, 0, 0), (34, .invokestatic 40, 0, 0, 0, 2, 28, 0), (37, .istore_n 3, 0, 0, 0, 0, 0, 0), (38, .iinc 4 1, 0, 0, 0, 0, 0, 1), (41, .goto (-31), 7, 0, 0, 0, 0, 0), (44, .aload_n 0, 0, 0, 0, 0, 0, 0), (45, .getfield 18, 3, 2, 0, 0, 26, 0), (48, .iload_n 1, 0, 0, 0, 0, 0, 0), (49, .iaload, 0, 0, 0, 0, 0, 0), (50, .iload_n 3, 0, 0, 0, 0, 0, 0), (51, .if_icmp .le 10, 35, 0, 0, 0, 0, 0), (54, .aload_n 0, 0, 0, 0, 0, 0, 0), (55, .getfield 9, 3, 0, 0, 0, 24, 0), (58, .iconst 2, 0, 0, 0, 0, 0, 2), (59, .iaload, 0, 0, 0, 0, 0, 0), (60, .ireturn, 0, 0, 0, 0, 0, 0), (61, .iconst 0, 0, 0, 0, 0, 0, 0), (62, .istore 4, 0, 0, 0, 0, 0, 0), (64, .iconst 0, 0, 0, 0, 0, 0, 0), (65, .istore 5, 0, 0, 0, 0, 0, 0), (67, .iload 5, 0, 0, 0, 0, 0, 0), (69, .iload_n 2, 0, 0, 0, 0, 0, 0), (70, .if_icmp .ge 40, 61, 0, 0, 0, 0, 0), (73, .iload 5, 0, 0, 0, 0, 0, 0), (75, .aload_n 0, 0, 0, 0, 0, 0, 0), (76, .getfield 18, 3, 2, 0, 0, 26, 0), (79, .arraylength, 0, 0, 0, 0, 0, 0), (80, .if_icmp .ge 30, 61, 0, 0, 0, 0, 0), (83, .iload 4, 0, 0, 0, 0, 0, 0), (85, .aload_n 0, 0, 0, 0, 0, 0, 0), (86, .getfield 18, 3, 2, 0, 0, 26, 0), (89, .iload 5, 0, 0, 0, 0, 0, 0), (91, .iaload, 0, 0, 0, 0, 0, 0), (92, .iload_n 3, 0, 0, 0, 0, 0, 0), (93, .if_icmp .ne 7, 56, 0, 0, 0, 0, 0), (96, .iconst 1, 0, 0, 0, 0, 0, 1), (97, .goto 4, 57, 0, 0, 0, 0, 0), (100, .iconst 0, 0, 0, 0, 0, 0, 0), (101, .iadd, 0, 0, 0, 0, 0, 0), (102, .istore 4, 0, 0, 0, 0, 0, 0), (104, .iinc 5 1, 0, 0, 0, 0, 0, 1), (107, .goto (-40), 39, 0, 0, 0, 0, 0), (110, .iload 4, 0, 0, 0, 0, 0, 0), (112, .ifCond .le 14, 69, 0, 0, 0, 0, 0), (115, .aload_n 0, 0, 0, 0, 0, 0, 0), (116, .iload_n 3, 0, 0, 0, 0, 0, 0), (117, .invokevirtual 45, 20, 2, 3, 0, 29, 0), (120, .iload 4, 0, 0, 0, 0, 0, 0), (122, .idiv, 0, 0, 0, 0, 0, 0), (123, .goto 4, 70, 0, 0, 0, 0, 0), (126, .iconst 0, 0, 0, 0, 0, 0, 0), (127, .ireturn, 0, 0, 0, 0, 0, 0)]
def am_t25 : List am_I := [(0, .iconst 0, 0, 0, 0, 0, 0, 0), (1, .istore_n 2, 0, 0, 0, 0, 0, 0), (2, .iconst 0, 0, 0, 0, 0, 0, 0), (3, .istore_n 3, 0, 0, 0, 0, 0, 0), (4, .iload_n 3, 0, 0, 0, 0, 0, 0), (5, .bipush 10, 0, 0, 0, 0, 0, 10), (7, .if_icmp .ge 60, 42, 0, 0, 0, 0, 0), (10, .iconst 2, 0, 0, 0, 0, 0, 2), (11, .aload_n 0, 0, 0, 0, 0, 0, 0), (12, .getfield 9, 3, 0, 0, 0, 24, 0), (15, .iconst 2, 0, 0, 0, 0, 0, 2), (16, .iaload, 0, 0, 0, 0, 0, 0), (17, .imul, 0, 0, 0, 0, 0, 0), (18, .istore 4, 0, 0, 0, 0, 0, 0), (20, .iload_n 1, 0, 0, 0, 0, 0, 0), (21, .iload_n 3, 0, 0, 0, 0, 0, 0), (22, .if_icmp .ge 15, 24, 0, 0, 0, 0, 0), (25, .iconst 2, 0, 0, 0, 0, 0, 2), (26, .aload_n 0, 0, 0, 0, 0, 0, 0), (27, .iload_n 1, 0, 0, 0, 0, 0, 0), (28, .invokevirtual 45, 20, 2, 3, 0, 29, 0), (31, .imul, 0, 0, 0, 0, 0, 0), (32, .istore 4, 0, 0, 0, 0, 0, 0), (34, .goto 15, 31, 0, 0, 0, 0, 0), (37, .iload_n 1, 0, 0, 0, 0, 0, 0), (38, .iload_n 3, 0, 0, 0, 0, 0, 0), (39, .if_icmp .ne 10, 31, 0, 0, 0, 0, 0), (42, .aload_n 0, 0, 0, 0, 0, 0, 0), (43, .iload_n 1, 0, 0, 0, 0, 0, 0), (44, .invokevirtual 45, 20, 2, 3, 0, 29, 0), (47, .istore 4, 0, 0, 0, 0, 0, 0), (49, .iload_n 2, 0, 0, 0, 0, 0, 0), (50, .aload_n 0, 0, 0, 0, 0, 0, 0), (51, .getfield 15, 3, 1, 0, 0, 25, 0), (54, .iload_n 3, 0, 0, 0, 0, 0, 0), (55, .iaload, 0, 0, 0, 0, 0, 0), (56, .iload 4, 0, 0, 0, 0, 0, 0), (58, .imul, 0, 0, 0, 0, 0, 0), (59, .iadd, 0, 0, 0, 0, 0, 0), (60, .istore_n 2, 0, 0, 0, 0, 0, 0), (61, .iinc 3 1, 0, 0, 0, 0, 0, 1), (64, .goto (-60), 4, 0, 0, 0, 0, 0), (67, .iload_n 2, 0, 0, 0, 0, 0, 0), (68, .ireturn, 0, 0, 0, 0, 0, 0)]
def am_t26 : List am_I := [(0, .iconst 0, 0, 0, 0, 0, 0, 0), (1, .istore_n 1, 0, 0, 0, 0, 0, 0), (2, .iconst 1, 0, 0, 0, 0, 0, 1), (3, .istore_n 2, 0, 0, 0, 0, 0, 0), (4, .iload_n 2, 0, 0, 0, 0, 0, 0), (5, .bipush 10, 0, 0, 0, 0, 0, 10), (7, .if_icmp .ge 24, 18, 0, 0, 0, 0, 0), (10, .aload_n 0, 0, 0, 0, 0, 0, 0), (11, .iload_n 2, 0, 0, 0, 0, 0, 0), (12, .invokevirtual 49, 25, 2, 3, 0, 30, 0), (15, .aload_n 0, 0, 0, 0, 0, 0, 0), (16, .iload_n 1, 0, 0, 0, 0, 0, 0), (17, .invokevirtual 49, 25, 2, 3, 0, 30, 0), (20, .if_icmp .le 5, 16, 0, 0, 0, 0, 0), (23, .iload_n 2, 0, 0, 0, 0, 0, 0), (24, .istore_n 1, 0, 0, 0, 0, 0, 0), (25, .iinc 2 1, 0, 0, 0, 0, 0, 1), (28, .goto (-24), 4, 0, 0, 0, 0, 0), (31, .iload_n 1, 0, 0, 0, 0, 0, 0), (32, .ireturn, 0, 0, 0, 0, 0, 0)]
def am_t27 : List am_I := [(0, .aload_n 0, 0, 0, 0, 0, 0, 0), (1, .invokespecial 3, 0, 0, 0, 5, 31, 0), (4, .aload_n 0, 0, 0, 0, 0, 0, 0), (5, .iconst 0, 0, 0, 0, 0, 0, 0), (6, .putfield 9, 4, 1, 0, 0, 29, 0), (9, .aload_n 0, 0, 0, 0, 0, 0, 0), (10, .iconst 0, 0, 0, 0, 0, 0, 0), (11, .putfield 15, 4, 2, 0, 0, 30, 0), (14, .aload_n 0, 0, 0, 0, 0, 0, 0), (15, .iconst 0, 0, 0, 0, 0, 0, 0), (16, .putfield 18, 4, 3, 0, 0, 31, 0), (19, .aload_n 0, 0, 0, 0, 0, 0, 0), (20, .iconst 0, 0, 0, 0, 0, 0, 0), (21, .putfield 21, 4, 4, 0, 0, 32, 0), (24, .aload_n 0, 0, 0, 0, 0, 0, 0), (25, .iconst 0, 0, 0, 0, 0, 0, 0), (26, .putfield 24, 4, 5, 0, 0, 33, 0), (29, .aload_n 0, 0, 0, 0, 0, 0, 0), (30, .iconst 0, 0, 0, 0, 0, 0, 0), (31, .putfield 27, 4, 6, 0, 0, 34, 0), (34, .aload_n 0, 0, 0, 0, 0, 0, 0), (35, .bipush 20, 0, 0, 0, 0, 0, 20), (37, .newarray .int, 0, 0, 0, 0, 0, 0), (39, .putfield 30, 4, 7, 0, 3, 35, 0), (42, .aload_n 0, 0, 0, 0, 0, 0, 0), (43, .bipush 9, 0, 0, 0, 0, 0, 9), (45, .newarray .int, 0, 0, 0, 0, 0, 0), (47, .putfield 34, 4, 8, 0, 3, 36, 0), (50, .aload_n 0, 0, 0, 0, 0, 0, 0), (51, .bipush 9, 0, 0, 0, 0, 0, 9), (53, .newarray .int, 0, 0, 0, 0, 0, 0), (55, .putfield 37, 4, 9, 0, 3, 37, 0), (58, .aload_n 0, 0, 0, 0, 0, 0, 0), (59, .bipush 9, 0, 0, 0, 0, 0, 9), (61, .newarray .int, 0, 0, 0, 0, 0, 0), (63, .putfield 40, 4, 10, 0, 3, 38, 0), (66, .aload_n 0, 0, 0, 0, 0, 0, 0), (67, .bipush 9, 0, 0, 0, 0, 0, 9), (69, .newarray .int, 0, 0, 0, 0, 0, 0), (71, .putfield 43, 4, 11, 0, 3, 39, 0), (74, .aload_n 0, 0, 0, 0, 0, 0, 0), (75, .bipush 9, 0, 0, 0, 0, 0, 9), (77, .newarray .int, 0, 0, 0, 0, 0, 0), (79, .putfield 46, 4, 12, 0, 3, 40, 0), (82, .aload_n 0, 0, 0, 0, 0, 0, 0), (83, .bipush 9, 0, 0, 0, 0, 0, 9), (85, .newarray .int, 0, 0, 0, 0, 0, 0), (87, .putfield 49, 4, 13, 0, 3, 41, 0), (90, .aload_n 0, 0, 0, 0, 0, 0, 0), (91, .bipush 9, 0, 0, 0, 0, 0, 9), (93, .newarray .int, 0, 0, 0, 0, 0, 0), (95, .putfield 52, 4, 14, 0, 3, 42, 0), (98, .aload_n 0, 0, 0, 0, 0, 0, 0), (99, .bipush 9, 0, 0, 0, 0, 0, 9), (101, .newarray .int, 0, 0, 0, 0, 0, 0), (103, .putfield 55, 4, 15, 0, 3, 43, 0), (106, .aload_n 0, 0, 0, 0, 0, 0, 0), (107, .bipush 9, 0, 0, 0, 0, 0, 9), (109, .newarray .int, 0, 0, 0, 0, 0, 0), (111, .putfield 58, 4, 16, 0, 3, 44, 0), (114, .aload_n 0, 0, 0, 0, 0, 0, 0), (115, .aload_n 1, 0, 0, 0, 0, 0, 0), (116, .putfield 61, 4, 0, 0, 3, 45, 0), (119, .aload_n 0, 0, 0, 0, 0, 0, 0), (120, .invokevirtual 65, 28, 1, 4, 0, 32, 0), (123, .return_, 0, 0, 0, 0, 0, 0)]
def am_t28 : List am_I := [(0, .aload_n 0, 0, 0, 0, 0, 0, 0), (1, .iconst 0, 0, 0, 0, 0, 0, 0), (2, .putfield 9, 4, 1, 0, 0, 29, 0), (5, .aload_n 0, 0, 0, 0, 0, 0, 0), (6, .aload_n 0, 0, 0, 0, 0, 0, 0), (7, .getfield 61, 4, 0, 0, 0, 45, 0), (10, .getfield 68, 5, 0, 0, 0, 46, 0), (13, .iconst 4, 0, 0, 0, 0, 0, 4), (14, .iaload, 0, 0, 0, 0, 0, 0), (15, .putfield 15, 4, 2, 0, 0, 30, 0), (18, .aload_n 0, 0, 0, 0, 0, 0, 0), (19, .aload_n 0, 0, 0, 0, 0, 0, 0), (20, .getfield 15, 4, 2, 0, 0, 30, 0), (23, .putfield 18, 4, 3, 0, 0, 31, 0), (26, .aload_n 0, 0, 0, 0, 0, 0, 0), (27, .iconst 0, 0, 0, 0, 0, 0, 0), (28, .putfield 21, 4, 4, 0, 0, 32, 0), (31, .aload_n 0, 0, 0, 0, 0, 0, 0), (32, .iconst 0, 0, 0, 0, 0, 0, 0), (33, .putfield 24, 4, 5, 0, 0, 33, 0), (36, .iconst 0, 0, 0, 0, 0, 0, 0), (37, .istore_n 1, 0, 0, 0, 0, 0, 0), (38, .iload_n 1, 0, 0, 0, 0, 0, 0), (39, .bipush 9, 0, 0, 0, 0, 0, 9), (41, .if_icmp .ge 47, 50, 0, 0, 0, 0, 0), (44, .aload_n 0, 0, 0, 0, 0, 0, 0), (45, .getfield 34, 4, 8, 0, 0, 36, 0), (48, .iload_n 1, 0, 0, 0, 0, 0, 0), (49, .aload_n 0, 0, 0, 0, 0, 0, 0), (50, .getfield 61, 4, 0, 0, 0, 45, 0), (53, .getfield 73, 5, 3, 0, 0, 47, 0), (56, .iload_n 1, 0, 0, 0, 0, 0, 0), (57, .iaload, 0, 0, 0, 0, 0, 0), (58, .iastore, 0, 0, 0, 0, 0, 0), (59, .aload_n 0, 0, 0, 0, 0, 0, 0), (60, .getfield 37, 4, 9, 0, 0, 37, 0), (63, .iload_n 1, 0, 0, 0, 0, 0, 0), (64, .aload_n 0, 0, 0, 0, 0, 0, 0), (65, .getfield 61, 4, 0, 0, 0, 45, 0), (68, .getfield 74, 5, 4, 0, 0, 48, 0), (71, .iload_n 1, 0, 0, 0, 0, 0, 0), (72, .iaload, 0, 0, 0, 0, 0, 0), (73, .iastore, 0, 0, 0, 0, 0, 0), (74, .aload_n 0, 0, 0, 0, 0, 0, 0), (75, .getfield 43, 4, 11, 0, 0, 39, 0), (78, .iload_n 1, 0, 0, 0, 0, 0, 0), (79, .bipush (-9), 0, 0, 0, 0, 0, -9), (81, .iastore, 0, 0, 0, 0, 0, 0), (82, .iinc 1 1, 0, 0, 0, 0, 0, 1), (85, .goto (-47), 22, 0, 0, 0, 0, 0), (88, .return_, 0, 0, 0, 0, 0, 0)]
def am_t29 : List am_I := [(0, .iconst 0, 0, 0, 0, 0, 0, 0), (1, .istore_n 1, 0, 0, 0, 0, 0, 0), (2, .iload_n 1, 0, 0, 0, 0, 0, 0), (3, .bipush 9, 0, 0, 0, 0, 0, 9), (5, .if_icmp .ge 30, 22, 0, 0, 0, 0, 0), (8, .aload_n 0, 0, 0, 0, 0, 0, 0), (9, .getfield 40, 4, 10, 0, 0, 38, 0), (12, .iload_n 1, 0, 0, 0, 0, 0, 0), (13, .iconst 0, 0, 0, 0, 0, 0, 0), (14, .iastore, 0, 0, 0, 0, 0, 0), (15, .aload_n 0, 0, 0, 0, 0, 0, 0), (16, .getfield 46, 4, 12, 0, 0, 40, 0), (19, .iload_n 1, 0, 0, 0, 0, 0, 0), (20, .iconst 0, 0, 0, 0, 0, 0, 0), (21, .iastore, 0, 0, 0, 0, 0, 0), (22, .aload_n 0, 0, 0, 0, 0, 0, 0), (23, .getfield 49, 4, 13, 0, 0, 41, 0), (26, .iload_n 1, 0, 0, 0, 0, 0, 0), (27, .iconst 0, 0, 0, 0, 0, 0, 0), (28, .iastore, 0, 0, 0, 0, 0, 0), (29, .iinc 1 1, 0, 0, 0, 0, 0, 1), (32, .goto (-30), 2, 0, 0, 0, 0, 0), (35, .return_, 0, 0, 0, 0, 0, 0)]
def am_t30 : List am_I := [(0, .aload_n 0, 0, 0, 0, 0, 0, 0), (1, .aload_n 1, 0, 0, 0, 0, 0, 0), (2, .getfield 9, 4, 1, 0, 0, 29, 0), (5, .putfield 9, 4, 1, 0, 0, 29, 0), (8, .aload_n 0, 0, 0, 0, 0, 0, 0), (9, .aload_n 1, 0, 0, 0, 0, 0, 0), (10, .getfield 15, 4, 2, 0, 0, 30, 0), (13, .putfield 15, 4, 2, 0, 0, 30, 0), (16, .aload_n 0, 0, 0, 0, 0, 0, 0), (17, .aload_n 1, 0, 0, 0, 0, 0, 0), (18, .getfield 18, 4, 3, 0, 0, 31, 0), (21, .putfield 18, 4, 3, 0, 0, 31, 0), (24, .aload_n 0, 0, 0, 0, 0, 0, 0), (25, .aload_n 1, 0, 0, 0, 0, 0, 0), (26, .getfield 21, 4, 4, 0, 0, 32, 0), (29, .putfield 21, 4, 4, 0, 0, 32, 0), (32, .aload_n 0, 0, 0, 0, 0, 0, 0), (33, .aload_n 1, 0, 0, 0, 0, 0, 0), (34, .getfield 24, 4, 5, 0, 0, 33, 0), (37, .putfield 24, 4, 5, 0, 0, 33, 0), (40, .aload_n 0, 0, 0, 0, 0, 0, 0), (41, .aload_n 1, 0, 0, 0, 0, 0, 0), (42, .getfield 27, 4, 6, 0, 0, 34, 0), (45, .putfield 27, 4, 6, 0, 0, 34, 0), (48, .aload_n 1, 0, 0, 0, 0, 0, 0), (49, .getfield 30, 4, 7, 0, 0, 35, 0), (52, .iconst 0, 0, 0, 0, 0, 0, 0), (53, .aload_n 0, 0, 0, 0, 0, 0, 0), (54, .getfield 30, 4, 7, 0, 0, 35, 0), (57, .iconst 0, 0, 0, 0, 0, 0, 0), (58, .bipush 20, 0, 0, 0, 0, 0, 20), (60, .invokestatic 75, 0, 0, 0, 4, 33, 0), (63, .aload_n 1, 0, 0, 0, 0, 0, 0), (64, .getfield 34, 4, 8, 0, 0, 36, 0), (67, .iconst 0, 0, 0, 0, 0, 0, 0), (68, .aload_n 0, 0, 0, 0, 0, 0, 0), (69, .getfield 34, 4, 8, 0, 0, 36, 0), (72, .iconst 0, 0, 0, 0, 0, 0, 0), (73, .bipush 9, 0, 0, 0, 0, 0, 9), (75, .invokestatic 75, 0, 0, 0, 4, 33, 0), (78, .aload_n 1, 0, 0, 0, 0, 0, 0), (79, .getfield 37, 4, 9, 0, 0, 37, 0), (82, .iconst 0, 0, 0, 0, 0, 0, 0), (83, .aload_n 0, 0, 0, 0, 0, 0, 0), (84, .getfield 37, 4, 9, 0, 0, 37, 0), (87, .iconst 0, 0, 0, 0, 0, 0, 0), (88, .bipush 9, 0, 0, 0, 0, 0, 9), (90, .invokestatic 75, 0, 0, 0, 4, 33, 0), (93, .aload_n 1, 0, 0, 0, 0, 0, 0), (94, .getfield 40, 4, 10, 0, 0, 38, 0), (97, .iconst 0, 0, 0, 0, 0, 0, 0), (98, .aload_n 0, 0, 0, 0, 0, 0, 0), (99, .getfield 40, 4, 10, 0, 0, 38, 0), (102, .iconst 0, 0, 0, 0, 0, 0, 0), (103, .bipush 9, 0, 0, 0, 0, 0, 9), (105, .invokestatic 75, 0, 0, 0, 4, 33, 0), (108, .aload_n 1, 0, 0, 0, 0, 0, 0), (109, .getfield 43, 4, 11, 0, 0, 39, 0), (112, .iconst 0, 0, 0, 0, 0, 0, 0), (113, .aload_n 0, 0, 0, 0, 0, 0, 0), (114, .getfield 43, 4, 11, 0, 0, 39, 0), (117, .iconst 0, 0, 0, 0, 0, 0, 0), (118, .bipush 9, 0, 0, 0, 0, 0, 9), (120, .invokestatic 75, 0, 0, 0, 4, 33, 0), (123, .aload_n 1, 0, 0, 0, 0, 0, 0), (124, .getfield 46, 4, 12, 0, 0, 40, 0), (127, .iconst 0, 0, 0, 0, 0, 0, 0), (128, .aload_n 0, 0, 0, 0, 0, 0, 0), (129, .getfield 46, 4, 12, 0, 0, 40, 0), (132, .iconst 0, 0, 0, 0, 0, 0, 0), (133, .bipush 9, 0, 0, 0, 0, 0, 9), (135, .invokestatic 75, 0, 0, 0, 4, 33, 0), (138, .aload_n 1, 0, 0, 0, 0, 0, 0), (139, .getfield 49, 4, 13, 0, 0, 41, 0), (142, .iconst 0, 0, 0, 0, 0, 0, 0), (143, .aload_n 0, 0, 0, 0, 0, 0, 0), (144, .getfield 49, 4, 13, 0, 0, 41, 0), (147, .iconst 0, 0, 0, 0, 0, 0, 0), (148, .bipush 9, 0, 0, 0, 0, 0, 9), (150, .invokestatic 75, 0, 0, 0, 4, 33, 0), (153, .return_, 0, 0, 0, 0, 0, 0)]
def am_t31 : List am_I := [(0, .aload_n 0, 0, 0, 0, 0, 0, 0), (1, .getfield 9, 4, 1, 0, 0, 29, 0), (4, .aload_n 0, 0, 0, 0, 0, 0, 0), (5, .getfield 61, 4, 0, 0, 0, 45, 0), (8, .getfield 68, 5, 0, 0, 0, 46, 0), (11, .iconst 0, 0, 0, 0, 0, 0, 0), (12, .iaload, 0, 0, 0, 0, 0, 0), (13, .if_icmp .ge 12, 12, 0, 0, 0, 0, 0), (16, .aload_n 0, 0, 0, 0, 0, 0, 0), (17, .getfield 9, 4, 1, 0, 0, 29, 0), (20, .bipush 20, 0, 0, 0, 0, 0, 20), (22, .if_icmp .lt 7, 14, 0, 0, 0, 0, 0), (25, .iconst 1, 0, 0, 0, 0, 0, 1), (26, .goto 4, 15, 0, 0, 0, 0, 0), (29, .iconst 0, 0, 0, 0, 0, 0, 0), (30, .ireturn, 1, 0, 0, 0, 0, 0)]
def am_t32 : List am_I := [(0, .aload_n 0, 0, 0, 0, 0, 0, 0), (1, .getfield 61, 4, 0, 0, 0, 45, 0), (4, .getfield 81, 5, 1, 0, 0, 49, 0), (7, .iload_n 1, 0, 0, 0, 0, 0, 0), (8, .iaload, 0, 0, 0, 0, 0, 0), (9, .istore_n 2, 0, 0, 0, 0, 0, 0), (10, .aload_n 0, 0, 0, 0, 0, 0, 0), (11, .getfield 61, 4, 0, 0, 0, 45, 0), (14, .getfield 84, 5, 2, 0, 0, 50, 0), (17, .iload_n 1, 0, 0, 0, 0, 0, 0), (18, .iaload, 0, 0, 0, 0, 0, 0), (19, .istore_n 3, 0, 0, 0, 0, 0, 0), (20, .aload_n 0, 0, 0, 0, 0, 0, 0), (21, .getfield 40, 4, 10, 0, 0, 38, 0), (24, .iload_n 1, 0, 0, 0, 0, 0, 0), (25, .iaload, 0, 0, 0, 0, 0, 0), (26, .ifCond .le 24, 32, 0, 0, 0, 0, 0), (29, .iload_n 2, 0, 0, 0, 0, 0, 0), (30, .iconst 1, 0, 0, 0, 0, 0, 1), (31, .if_icmp .eq 8, 23, 0, 0, 0, 0, 0), (34, .iload_n 2, 0, 0, 0, 0, 0, 0), (35, .iconst 4, 0, 0, 0, 0, 0, 4), (36, .if_icmp .ne 14, 32, 0, 0, 0, 0, 0), (39, .iconst 2, 0, 0, 0, 0, 0, 2), (40, .istore_n 2, 0, 0, 0, 0, 0, 0), (41, .iconst 2, 0, 0, 0, 0, 0, 2), (42, .aload_n 0, 0, 0, 0, 0, 0, 0), (43, .getfield 40, 4, 10, 0, 0, 38, 0), (46, .iload_n 1, 0, 0, 0, 0, 0, 0), (47, .iaload, 0, 0, 0, 0, 0, 0), (48, .imul, 0, 0, 0, 0, 0, 0), (49, .istore_n 3, 0, 0, 0, 0, 0, 0), (50, .aload_n 0, 0, 0, 0, 0, 0, 0), (51, .getfield 61, 4, 0, 0, 0, 45, 0), (54, .getfield 68, 5, 0, 0, 0, 46, 0), (57, .bipush 7, 0, 0, 0, 0, 0, 7), (59, .iaload, 0, 0, 0, 0, 0, 0), (60, .ifCond .le 16, 44, 0, 0, 0, 0, 0), (63, .aload_n 0, 0, 0, 0, 0, 0, 0), (64, .getfield 61, 4, 0, 0, 0, 45, 0), (67, .getfield 68, 5, 0, 0, 0, 46, 0), (70, .bipush 7, 0, 0, 0, 0, 0, 7), (72, .iaload, 0, 0, 0, 0, 0, 0), (73, .goto 6, 45, 0, 0, 0, 0, 0), (76, .sipush 999, 0, 0, 0, 0, 0, 999), (79, .istore 4, 0, 0, 0, 0, 0, 0), (81, .iconst 0, 0, 0, 0, 0, 0, 0), (82, .iload 4, 0, 0, 0, 0, 0, 0), (84, .aload_n 0, 0, 0, 0, 0, 0, 0), (85, .iload_n 2, 0, 0, 0, 0, 0, 0), (86, .iload_n 3, 0, 0, 0, 0, 0, 0), (87, .invokevirtual 87, 33, 3, 4, 0, 34, 0), (90, .invokestatic 91, 0, 0, 0, 2, 35, 0), (93, .invokestatic 96, 0, 0, 0, 1, 36, 0), (96, .ireturn, 0, 0, 0, 0, 0, 0)]
def am_t33 : List am_I := [(0, .aload_n 0, 0, 0, 0, 0, 0, 0), (1, .getfield 61, 4, 0, 0, 0, 45, 0), (4, .aload_n 0, 0, 0, 0, 0, 0, 0), (5, .getfield 9, 4, 1, 0, 0, 29, 0), (8, .invokevirtual 99, 54, 2, 5, 0, 37, 0), (11, .istore_n 3, 0, 0, 0, 0, 0, 0), (12, .iload_n 1, 0, 0, 0, 0, 0, 0), (13, .tableswitch 97 1 4 #[31, 51, 84, 86], 0, 0, 0, 0, 0, 0), (44, .aload_n 0, 0, 0, 0, 0, 0, 0), (45, .getfield 15, 4, 2, 0, 0, 30, 0), (48, .iload_n 2, 0, 0, 0, 0, 0, 0), (49, .aload_n 0, 0, 0, 0, 0, 0, 0), (50, .getfield 15, 4, 2, 0, 0, 30, 0), (53, .aload_n 0, 0, 0, 0, 0, 0, 0), (54, .getfield 18, 4, 3, 0, 0, 31, 0), (57, .isub, 0, 0, 0, 0, 0, 0), (58, .imul, 0, 0, 0, 0, 0, 0), (59, .bipush 10, 0, 0, 0, 0, 0, 10), (61, .idiv, 0, 0, 0, 0, 0, 0), (62, .iadd, 0, 0, 0, 0, 0, 0), (63, .ireturn, 0, 0, 0, 0, 0, 0), (64, .aload_n 0, 0, 0, 0, 0, 0, 0), (65, .getfield 61, 4, 0, 0, 0, 45, 0), (68, .getfield 68, 5, 0, 0, 0, 46, 0), (71, .iconst 0, 0, 0, 0, 0, 0, 0), (72, .iaload, 0, 0, 0, 0, 0, 0), (73, .aload_n 0, 0, 0, 0, 0, 0, 0), (74, .getfield 9, 4, 1, 0, 0, 29, 0), (77, .isub, 0, 0, 0, 0, 0, 0), (78, .iload_n 2, 0, 0, 0, 0, 0, 0), (79, .if_icmp .le 16, 38, 0, 0, 0, 0, 0), (82, .iload_n 3, 0, 0, 0, 0, 0, 0), (83, .aload_n 0, 0, 0, 0, 0, 0, 0), (84, .getfield 15, 4, 2, 0, 0, 30, 0), (87, .invokestatic 96, 0, 0, 0, 1, 36, 0), (90, .iconst 1, 0, 0, 0, 0, 0, 1), (91, .iadd, 0, 0, 0, 0, 0, 0), (92, .goto 4, 39, 0, 0, 0, 0, 0), (95, .iconst 0, 0, 0, 0, 0, 0, 0), (96, .ireturn, 0, 0, 0, 0, 0, 0), (97, .iload_n 2, 0, 0, 0, 0, 0, 0), (98, .ireturn, 0, 0, 0, 0, 0, 0), (99, .aload_n 0, 0, 0, 0, 0, 0, 0), (100, .getfield 15, 4, 2, 0, 0, 30, 0), (103, .iload_n 3, 0, 0, 0, 0, 0, 0), (104, .iadd, 0, 0, 0, 0, 0, 0), (105, .iconst 2, 0, 0, 0, 0, 0, 2), (106, .idiv, 0, 0, 0, 0, 0, 0), (107, .iload_n 2, 0, 0, 0, 0, 0, 0), (108, .iadd, 0, 0, 0, 0, 0, 0), (109, .ireturn, 0, 0, 0, 0, 0, 0), (110, .iload_n 3, 0, 0, 0, 0, 0, 0), (111, .ireturn, 0, 0, 0, 0, 0, 0)]
def am_t34 : List am_I := [(0, .iconst 0, 0, 0, 0, 0, 0, 0), (1, .istore_n 2, 0, 0, 0, 0, 0, 0), (2, .iload_n 2, 0, 0, 0, 0, 0, 0), (3, .iload_n 1, 0, 0, 0, 0, 0, 0), (4, .if_icmp .ge 20, 12, 0, 0, 0, 0, 0), (7, .aload_n 0, 0, 0, 0, 0, 0, 0), (8, .invokevirtual 103, 31, 1, 4, 0, 38, 0), (11, .ifCond .ne 13, 12, 0, 0, 0, 0, 0), (14, .aload_n 0, 0, 0, 0, 0, 0, 0), (15, .invokevirtual 107, 35, 1, 4, 0, 39, 0), (18, .iinc 2 1, 0, 0, 0, 0, 0, 1), (21, .goto (-19), 2, 0, 0, 0, 0, 0), (24, .iload_n 2, 0, 0, 0, 0, 0, 0), (25, .ireturn, 0, 0, 0, 0, 0, 0)]
def am_t35 : List am_I := [(0, .iconst 0, 0, 0, 0, 0, 0, 0), (1, .istore_n 1, 0, 0, 0, 0, 0, 0), (2, .iload_n 1, 0, 0, 0, 0, 0, 0), (3, .aload_n 0, 0, 0, 0, 0, 0, 0), (4, .getfield 61, 4, 0, 0, 0, 45, 0), (7, .getfield 110, 5, 5, 0, 0, 51, 0), (10, .if_icmp .ge 34, 26, 0, 0, 0, 0, 0), (13, .aload_n 0, 0, 0, 0, 0, 0, 0), (14, .getfield 52, 4, 14, 0, 0, 42, 0), (17, .iload_n 1, 0, 0, 0, 0, 0, 0), (18, .aload_n 0, 0, 0, 0, 0, 0, 0), (19, .iload_n 1, 0, 0, 0, 0, 0, 0), (20, .invokevirtual 113, 32, 2, 4, 0, 40, 0), (23, .iastore, 0, 0, 0, 0, 0, 0), (24, .aload_n 0, 0, 0, 0, 0, 0, 0), (25, .getfield 55, 4, 15, 0, 0, 43, 0), (28, .iload_n 1, 0, 0, 0, 0, 0, 0), (29, .iconst 0, 0, 0, 0, 0, 0, 0), (30, .iastore, 0, 0, 0, 0, 0, 0), (31, .aload_n 0, 0, 0, 0, 0, 0, 0), (32, .getfield 58, 4, 16, 0, 0, 44, 0), (35, .iload_n 1, 0, 0, 0, 0, 0, 0), (36, .iconst 0, 0, 0, 0, 0, 0, 0), (37, .iastore, 0, 0, 0, 0, 0, 0), (38, .iinc 1 1, 0, 0, 0, 0, 0, 1), (41, .goto (-39), 2, 0, 0, 0, 0, 0), (44, .aload_n 0, 0, 0, 0, 0, 0, 0), (45, .aload_n 0, 0, 0, 0, 0, 0, 0), (46, .getfield 15, 4, 2, 0, 0, 30, 0), (49, .putfield 18, 4, 3, 0, 0, 31, 0), (52, .iconst 0, 0, 0, 0, 0, 0, 0), (53, .istore_n 1, 0, 0, 0, 0, 0, 0), (54, .iload_n 1, 0, 0, 0, 0, 0, 0), (55, .aload_n 0, 0, 0, 0, 0, 0, 0), (56, .getfield 61, 4, 0, 0, 0, 45, 0), (59, .getfield 68, 5, 0, 0, 0, 46, 0), (62, .bipush 9, 0, 0, 0, 0, 0, 9), (64, .iaload, 0, 0, 0, 0, 0, 0), (65, .if_icmp .ge 16, 44, 0, 0, 0, 0, 0), (68, .aload_n 0, 0, 0, 0, 0, 0, 0), (69, .invokevirtual 116, 36, 1, 4, 0, 41, 0), (72, .ifCond .eq 9, 44, 0, 0, 0, 0, 0), (75, .iinc 1 1, 0, 0, 0, 0, 0, 1), (78, .goto (-24), 32, 0, 0, 0, 0, 0), (81, .aload_n 0, 0, 0, 0, 0, 0, 0), (82, .dup, 0, 0, 0, 0, 0, 0), (83, .getfield 21, 4, 4, 0, 0, 32, 0), (86, .iload_n 1, 0, 0, 0, 0, 0, 0), (87, .iadd, 0, 0, 0, 0, 0, 0), (88, .putfield 21, 4, 4, 0, 0, 32, 0), (91, .aload_n 0, 0, 0, 0, 0, 0, 0), (92, .aload_n 0, 0, 0, 0, 0, 0, 0), (93, .getfield 27, 4, 6, 0, 0, 34, 0), (96, .ldc 119, 0, 0, 0, 0, 0, 1103515245), (98, .imul, 0, 0, 0, 0, 0, 0), (99, .sipush 12345, 0, 0, 0, 0, 0, 12345), (102, .iadd, 0, 0, 0, 0, 0, 0), (103, .putfield 27, 4, 6, 0, 0, 34, 0), (106, .aload_n 0, 0, 0, 0, 0, 0, 0), (107, .aload_n 0, 0, 0, 0, 0, 0, 0), (108, .getfield 27, 4, 6, 0, 0, 34, 0), (111, .bipush 16, 0, 0, 0, 0, 0, 16), (113, .iushr, 0, 0, 0, 0, 0, 0), (114, .iconst 1, 0, 0, 0, 0, 0, 1), (115, .iand, 0, 0, 0, 0, 0, 0), (116, .ifCond .ne 15, 72, 0, 0, 0, 0, 0), (119, .aload_n 0, 0, 0, 0, 0, 0, 0), (120, .getfield 61, 4, 0, 0, 0, 45, 0), (123, .getfield 68, 5, 0, 0, 0, 46, 0), (126, .iconst 1, 0, 0, 0, 0, 0, 1), (127, .iaload, 0, 0, 0, 0, 0, 0), (128, .goto 12, 77, 0, 0, 0, 0, 0), (131, .aload_n 0, 0, 0, 0, 0, 0, 0), (132, .getfield 61, 4, 0, 0, 0, 45, 0), (135, .getfield 68, 5, 0, 0, 0, 46, 0), (138, .iconst 2, 0, 0, 0, 0, 0, 2), (139, .iaload, 0, 0, 0, 0, 0, 0), (140, .invokevirtual 120, 39, 2, 4, 0, 42, 0), (143, .aload_n 0, 0, 0, 0, 0, 0, 0), (144, .invokevirtual 124, 40, 1, 4, 0, 43, 0), (147, .aload_n 0, 0, 0, 0, 0, 0, 0), (148, .getfield 9, 4, 1, 0, 0, 29, 0), (151, .bipush 20, 0, 0, 0, 0, 0, 20), (153, .if_icmp .ge 16, 91, 0, 0, 0, 0, 0), (156, .aload_n 0, 0, 0, 0, 0, 0, 0), (157, .getfield 30, 4, 7, 0, 0, 35, 0), (160, .aload_n 0, 0, 0, 0, 0, 0, 0), (161, .getfield 9, 4, 1, 0, 0, 29, 0), (164, .aload_n 0, 0, 0, 0, 0, 0, 0), (165, .getfield 15, 4, 2, 0, 0, 30, 0), (168, .iastore, 0, 0, 0, 0, 0, 0), (169, .aload_n 0, 0, 0, 0, 0, 0, 0), (170, .dup, 0, 0, 0, 0, 0, 0), (171, .getfield 9, 4, 1, 0, 0, 29, 0), (174, .iconst 1, 0, 0, 0, 0, 0, 1), (175, .iadd, 0, 0, 0, 0, 0, 0), (176, .putfield 9, 4, 1, 0, 0, 29, 0), (179, .aload_n 0, 0, 0, 0, 0, 0, 0), (180, .invokevirtual 103, 31, 1, 4, 0, 38, 0), (183, .ifCond .eq 16, 107, 0, 0, 0, 0, 0), (186, .aload_n 0, 0, 0, 0, 0, 0, 0), (187, .aload_n 0, 0, 0, 0, 0, 0, 0), (188, .getfield 61, 4, 0, 0, 0, 45, 0), (191, .getfield 68, 5, 0, 0, 0, 46, 0), (194, .iconst 3, 0, 0, 0, 0, 0, 3), (195, .iaload, 0, 0, 0, 0, 0, 0), (196, .invokevirtual 120, 39, 2, 4, 0, 42, 0), (199, .return_, 0, 0, 0, 0, 0, 0)]
def am_t36 : List am_I := [(0, .aload_n 0, 0, 0, 0, 0, 0, 0), (1, .invokevirtual 127, 37, 1, 4, 0, 44, 0), (4, .istore_n 1, 0, 0, 0, 0, 0, 0), (5, .aload_n 0, 0, 0, 0, 0, 0, 0), (6, .iload_n 1, 0, 0, 0, 0, 0, 0), (7, .invokevirtual 131, 38, 2, 4, 0, 45, 0), (10, .istore_n 2, 0, 0, 0, 0, 0, 0), (11, .iload_n 1, 0, 0, 0, 0, 0, 0), (12, .ifCond .lt 7, 11, 0, 0, 0, 0, 0), (15, .iload_n 2, 0, 0, 0, 0, 0, 0), (16, .ifCond .ge 5, 13, 0, 0, 0, 0, 0), (19, .iconst 0, 0, 0, 0, 0, 0, 0), (20, .ireturn, 1, 0, 0, 0, 0, 0), (21, .aload_n 0, 0, 0, 0, 0, 0, 0), (22, .getfield 52, 4, 14, 0, 0, 42, 0), (25, .iload_n 2, 0, 0, 0, 0, 0, 0), (26, .iaload, 0, 0, 0, 0, 0, 0), (27, .iconst 1, 0, 0, 0, 0, 0, 1), (28, .iadd, 0, 0, 0, 0, 0, 0), (29, .istore_n 3, 0, 0, 0, 0, 0, 0), (30, .aload_n 0, 0, 0, 0, 0, 0, 0), (31, .getfield 52, 4, 14, 0, 0, 42, 0), (34, .iload_n 1, 0, 0, 0, 0, 0, 0), (35, .iaload, 0, 0, 0, 0, 0, 0), (36, .iload_n 3, 0, 0, 0, 0, 0, 0), (37, .if_icmp .ge 5, 28, 0, 0, 0, 0, 0), (40, .iconst 0, 0, 0, 0, 0, 0, 0), (41, .ireturn, 1, 0, 0, 0, 0, 0), (42, .aload_n 0, 0, 0, 0, 0, 0, 0), (43, .aload_n 0, 0, 0, 0, 0, 0, 0), (44, .getfield 52, 4, 14, 0, 0, 42, 0), (47, .iload_n 1, 0, 0, 0, 0, 0, 0), (48, .iaload, 0, 0, 0, 0, 0, 0), (49, .iload_n 3, 0, 0, 0, 0, 0, 0), (50, .iadd, 0, 0, 0, 0, 0, 0), (51, .iconst 2, 0, 0, 0, 0, 0, 2), (52, .idiv, 0, 0, 0, 0, 0, 0), (53, .putfield 15, 4, 2, 0, 0, 30, 0), (56, .aload_n 0, 0, 0, 0, 0, 0, 0), (57, .getfield 34, 4, 8, 0, 0, 36, 0), (60, .iload_n 1, 0, 0, 0, 0, 0, 0), (61, .dup2, 0, 0, 0, 0, 0, 0), (62, .iaload, 0, 0, 0, 0, 0, 0), (63, .aload_n 0, 0, 0, 0, 0, 0, 0), (64, .getfield 15, 4, 2, 0, 0, 30, 0), (67, .aload_n 0, 0, 0, 0, 0, 0, 0), (68, .getfield 61, 4, 0, 0, 0, 45, 0), (71, .getfield 68, 5, 0, 0, 0, 46, 0), (74, .bipush 8, 0, 0, 0, 0, 0, 8), (76, .iaload, 0, 0, 0, 0, 0, 0), (77, .iadd, 0, 0, 0, 0, 0, 0), (78, .isub, 0, 0, 0, 0, 0, 0), (79, .iastore, 0, 0, 0, 0, 0, 0), (80, .aload_n 0, 0, 0, 0, 0, 0, 0), (81, .getfield 34, 4, 8, 0, 0, 36, 0), (84, .iload_n 2, 0, 0, 0, 0, 0, 0), (85, .dup2, 0, 0, 0, 0, 0, 0), (86, .iaload, 0, 0, 0, 0, 0, 0), (87, .aload_n 0, 0, 0, 0, 0, 0, 0), (88, .getfield 15, 4, 2, 0, 0, 30, 0), (91, .iadd, 0, 0, 0, 0, 0, 0), (92, .iastore, 0, 0, 0, 0, 0, 0), (93, .aload_n 0, 0, 0, 0, 0, 0, 0), (94, .getfield 37, 4, 9, 0, 0, 37, 0), (97, .iload_n 1, 0, 0, 0, 0, 0, 0), (98, .dup2, 0, 0, 0, 0, 0, 0), (99, .iaload, 0, 0, 0, 0, 0, 0), (100, .iconst 1, 0, 0, 0, 0, 0, 1), (101, .iadd, 0, 0, 0, 0, 0, 0), (102, .iastore, 0, 0, 0, 0, 0, 0), (103, .aload_n 0, 0, 0, 0, 0, 0, 0), (104, .getfield 37, 4, 9, 0, 0, 37, 0), (107, .iload_n 2, 0, 0, 0, 0, 0, 0), (108, .dup2, 0, 0, 0, 0, 0, 0), (109, .iaload, 0, 0, 0, 0, 0, 0), (110, .iconst 1, 0, 0, 0, 0, 0, 1), (111, .isub, 0, 0, 0, 0, 0, 0), (112, .iastore, 0, 0, 0, 0, 0, 0), (113, .aload_n 0, 0, 0, 0, 0, 0, 0), (114, .getfield 55, 4, 15, 0, 0, 43, 0), (117, .iload_n 1, 0, 0, 0, 0, 0, 0), (118, .dup2, 0, 0, 0, 0, 0, 0), (119, .iaload, 0, 0, 0, 0, 0, 0), (120, .iconst 1, 0, 0, 0, 0, 0, 1), (121, .iadd, 0, 0, 0, 0, 0, 0), (122, .iastore, 0, 0, 0, 0, 0, 0), (123, .aload_n 0, 0, 0, 0, 0, 0, 0), (124, .getfield 58, 4, 16, 0, 0, 44, 0), (127, .iload_n 2, 0, 0, 0, 0, 0, 0), (128, .dup2, 0, 0, 0, 0, 0, 0), (129, .iaload, 0, 0, 0, 0, 0, 0), (130, .iconst 1, 0, 0, 0, 0, 0, 1), (131, .iadd, 0, 0, 0, 0, 0, 0), (132, .iastore, 0, 0, 0, 0, 0, 0), (133, .iconst 1, 0, 0, 0, 0, 0, 1), (134, .ireturn, 1, 0, 0, 0, 0, 0)]
def am_t37 : List am_I := [(0, .iconst (-1), 0, 0, 0, 0, 0, -1), (1, .istore_n 1, 0, 0, 0, 0, 0, 0), (2, .iconst 0, 0, 0, 0, 0, 0, 0), (3, .istore_n 2, 0, 0, 0, 0, 0, 0), (4, .iload_n 2, 0, 0, 0, 0, 0, 0), (5, .aload_n 0, 0, 0, 0, 0, 0, 0), (6, .getfield 61, 4, 0, 0, 0, 45, 0), (9, .getfield 110, 5, 5, 0, 0, 51, 0), (12, .if_icmp .ge 86, 57, 0, 0, 0, 0, 0), (15, .aload_n 0, 0, 0, 0, 0, 0, 0), (16, .getfield 34, 4, 8, 0, 0, 36, 0), (19, .iload_n 2, 0, 0, 0, 0, 0, 0), (20, .iaload, 0, 0, 0, 0, 0, 0), (21, .aload_n 0, 0, 0, 0, 0, 0, 0), (22, .getfield 61, 4, 0, 0, 0, 45, 0), (25, .getfield 68, 5, 0, 0, 0, 46, 0), (28, .iconst 5, 0, 0, 0, 0, 0, 5), (29, .iaload, 0, 0, 0, 0, 0, 0), (30, .iadd, 0, 0, 0, 0, 0, 0), (31, .aload_n 0, 0, 0, 0, 0, 0, 0), (32, .getfield 52, 4, 14, 0, 0, 42, 0), (35, .iload_n 2, 0, 0, 0, 0, 0, 0), (36, .iaload, 0, 0, 0, 0, 0, 0), (37, .aload_n 0, 0, 0, 0, 0, 0, 0), (38, .getfield 61, 4, 0, 0, 0, 45, 0), (41, .getfield 68, 5, 0, 0, 0, 46, 0), (44, .bipush 8, 0, 0, 0, 0, 0, 8), (46, .iaload, 0, 0, 0, 0, 0, 0), (47, .iadd, 0, 0, 0, 0, 0, 0), (48, .if_icmp .lt 7, 32, 0, 0, 0, 0, 0), (51, .iconst 1, 0, 0, 0, 0, 0, 1), (52, .goto 4, 33, 0, 0, 0, 0, 0), (55, .iconst 0, 0, 0, 0, 0, 0, 0), (56, .istore_n 3, 0, 0, 0, 0, 0, 0), (57, .aload_n 0, 0, 0, 0, 0, 0, 0), (58, .getfield 55, 4, 15, 0, 0, 43, 0), (61, .iload_n 2, 0, 0, 0, 0, 0, 0), (62, .iaload, 0, 0, 0, 0, 0, 0), (63, .iconst 2, 0, 0, 0, 0, 0, 2), (64, .if_icmp .ge 28, 55, 0, 0, 0, 0, 0), (67, .iload_n 3, 0, 0, 0, 0, 0, 0), (68, .ifCond .eq 24, 55, 0, 0, 0, 0, 0), (71, .iload_n 1, 0, 0, 0, 0, 0, 0), (72, .ifCond .lt 18, 53, 0, 0, 0, 0, 0), (75, .aload_n 0, 0, 0, 0, 0, 0, 0), (76, .getfield 52, 4, 14, 0, 0, 42, 0), (79, .iload_n 2, 0, 0, 0, 0, 0, 0), (80, .iaload, 0, 0, 0, 0, 0, 0), (81, .aload_n 0, 0, 0, 0, 0, 0, 0), (82, .getfield 52, 4, 14, 0, 0, 42, 0), (85, .iload_n 1, 0, 0, 0, 0, 0, 0), (86, .iaload, 0, 0, 0, 0, 0, 0), (87, .if_icmp .le 5, 55, 0, 0, 0, 0, 0), (90, .iload_n 2, 0, 0, 0, 0, 0, 0), (91, .istore_n 1, 0, 0, 0, 0, 0, 0), (92, .iinc 2 1, 0, 0, 0, 0, 0, 1), (95, .goto (-91), 4, 0, 0, 0, 0, 0), (98, .iload_n 1, 0, 0, 0, 0, 0, 0), (99, .ireturn, 0, 0, 0, 0, 0, 0)]
def am_t38 : List am_I := [(0, .iconst (-1), 0, 0, 0, 0, 0, -1), (1, .istore_n 2, 0, 0, 0, 0, 0, 0), (2, .iconst 0, 0, 0, 0, 0, 0, 0), (3, .istore_n 3, 0, 0, 0, 0, 0, 0), (4, .iload_n 3, 0, 0, 0, 0, 0, 0), (5, .aload_n 0, 0, 0, 0, 0, 0, 0), (6, .getfield 61, 4, 0, 0, 0, 45, 0), (9, .getfield 110, 5, 5, 0, 0, 51, 0), (12, .if_icmp .ge 77, 50, 0, 0, 0, 0, 0), (15, .iload_n 3, 0, 0, 0, 0, 0, 0), (16, .iload_n 1, 0, 0, 0, 0, 0, 0), (17, .if_icmp .eq 27, 25, 0, 0, 0, 0, 0), (20, .aload_n 0, 0, 0, 0, 0, 0, 0), (21, .getfield 37, 4, 9, 0, 0, 37, 0), (24, .iload_n 3, 0, 0, 0, 0, 0, 0), (25, .iaload, 0, 0, 0, 0, 0, 0), (26, .aload_n 0, 0, 0, 0, 0, 0, 0), (27, .getfield 61, 4, 0, 0, 0, 45, 0), (30, .getfield 68, 5, 0, 0, 0, 46, 0), (33, .bipush 6, 0, 0, 0, 0, 0, 6), (35, .iaload, 0, 0, 0, 0, 0, 0), (36, .iadd, 0, 0, 0, 0, 0, 0), (37, .ifCond .le 7, 25, 0, 0, 0, 0, 0), (40, .iconst 1, 0, 0, 0, 0, 0, 1), (41, .goto 4, 26, 0, 0, 0, 0, 0), (44, .iconst 0, 0, 0, 0, 0, 0, 0), (45, .istore 4, 0, 0, 0, 0, 0, 0), (47, .aload_n 0, 0, 0, 0, 0, 0, 0), (48, .getfield 58, 4, 16, 0, 0, 44, 0), (51, .iload_n 3, 0, 0, 0, 0, 0, 0), (52, .iaload, 0, 0, 0, 0, 0, 0), (53, .iconst 2, 0, 0, 0, 0, 0, 2), (54, .if_icmp .ge 29, 48, 0, 0, 0, 0, 0), (57, .iload 4, 0, 0, 0, 0, 0, 0), (59, .ifCond .eq 24, 48, 0, 0, 0, 0, 0), (62, .iload_n 2, 0, 0, 0, 0, 0, 0), (63, .ifCond .lt 18, 46, 0, 0, 0, 0, 0), (66, .aload_n 0, 0, 0, 0, 0, 0, 0), (67, .getfield 52, 4, 14, 0, 0, 42, 0), (70, .iload_n 3, 0, 0, 0, 0, 0, 0), (71, .iaload, 0, 0, 0, 0, 0, 0), (72, .aload_n 0, 0, 0, 0, 0, 0, 0), (73, .getfield 52, 4, 14, 0, 0, 42, 0), (76, .iload_n 2, 0, 0, 0, 0, 0, 0), (77, .iaload, 0, 0, 0, 0, 0, 0), (78, .if_icmp .ge 5, 48, 0, 0, 0, 0, 0), (81, .iload_n 3, 0, 0, 0, 0, 0, 0), (82, .istore_n 2, 0, 0, 0, 0, 0, 0), (83, .iinc 3 1, 0, 0, 0, 0, 0, 1), (86, .goto (-82), 4, 0, 0, 0, 0, 0), (89, .iload_n 2, 0, 0, 0, 0, 0, 0), (90, .ireturn, 0, 0, 0, 0, 0, 0)]
def am_t39 : List am_I := [(0, .aload_n 0, 0, 0, 0, 0, 0, 0), (1, .dup, 0, 0, 0, 0, 0, 0), (2, .getfield 24, 4, 5, 0, 0, 33, 0), (5, .iload_n 1, 0, 0, 0, 0, 0, 0), (6, .iadd, 0, 0, 0, 0, 0, 0), (7, .putfield 24, 4, 5, 0, 0, 33, 0), (10, .iconst 0, 0, 0, 0, 0, 0, 0), (11, .istore_n 2, 0, 0, 0, 0, 0, 0), (12, .iload_n 2, 0, 0, 0, 0, 0, 0), (13, .aload_n 0, 0, 0, 0, 0, 0, 0), (14, .getfield 61, 4, 0, 0, 0, 45, 0), (17, .getfield 110, 5, 5, 0, 0, 51, 0), (20, .if_icmp .ge 26, 28, 0, 0, 0, 0, 0), (23, .aload_n 0, 0, 0, 0, 0, 0, 0), (24, .getfield 34, 4, 8, 0, 0, 36, 0), (27, .iload_n 2, 0, 0, 0, 0, 0, 0), (28, .dup2, 0, 0, 0, 0, 0, 0), (29, .iaload, 0, 0, 0, 0, 0, 0), (30, .aload_n 0, 0, 0, 0, 0, 0, 0), (31, .getfield 37, 4, 9, 0, 0, 37, 0), (34, .iload_n 2, 0, 0, 0, 0, 0, 0), (35, .iaload, 0, 0, 0, 0, 0, 0), (36, .iload_n 1, 0, 0, 0, 0, 0, 0), (37, .imul, 0, 0, 0, 0, 0, 0), (38, .iadd, 0, 0, 0, 0, 0, 0), (39, .iastore, 0, 0, 0, 0, 0, 0), (40, .iinc 2 1, 0, 0, 0, 0, 0, 1), (43, .goto (-31), 8, 0, 0, 0, 0, 0), (46, .return_, 0, 0, 0, 0, 0, 0)]
def am_t40 : List am_I := [(0, .iconst 0, 0, 0, 0, 0, 0, 0), (1, .istore_n 1, 0, 0, 0, 0, 0, 0), (2, .iload_n 1, 0, 0, 0, 0, 0, 0), (3, .aload_n 0, 0, 0, 0, 0, 0, 0), (4, .getfield 61, 4, 0, 0, 0, 45, 0), (7, .getfield 110, 5, 5, 0, 0, 51, 0), (10, .if_icmp .ge 61, 43, 0, 0, 0, 0, 0), (13, .aload_n 0, 0, 0, 0, 0, 0, 0), (14, .getfield 43, 4, 11, 0, 0, 39, 0), (17, .iload_n 1, 0, 0, 0, 0, 0, 0), (18, .iaload, 0, 0, 0, 0, 0, 0), (19, .bipush (-9), 0, 0, 0, 0, 0, -9), (21, .if_icmp .eq 44, 41, 0, 0, 0, 0, 0), (24, .aload_n 0, 0, 0, 0, 0, 0, 0), (25, .getfield 46, 4, 12, 0, 0, 40, 0), (28, .iload_n 1, 0, 0, 0, 0, 0, 0), (29, .dup2, 0, 0, 0, 0, 0, 0), (30, .iaload, 0, 0, 0, 0, 0, 0), (31, .aload_n 0, 0, 0, 0, 0, 0, 0), (32, .getfield 15, 4, 2, 0, 0, 30, 0), (35, .aload_n 0, 0, 0, 0, 0, 0, 0), (36, .getfield 43, 4, 11, 0, 0, 39, 0), (39, .iload_n 1, 0, 0, 0, 0, 0, 0), (40, .iaload, 0, 0, 0, 0, 0, 0), (41, .isub, 0, 0, 0, 0, 0, 0), (42, .invokestatic 134, 0, 0, 0, 3, 46, 0), (45, .iadd, 0, 0, 0, 0, 0, 0), (46, .iastore, 0, 0, 0, 0, 0, 0), (47, .aload_n 0, 0, 0, 0, 0, 0, 0), (48, .getfield 49, 4, 13, 0, 0, 41, 0), (51, .iload_n 1, 0, 0, 0, 0, 0, 0), (52, .dup2, 0, 0, 0, 0, 0, 0), (53, .iaload, 0, 0, 0, 0, 0, 0), (54, .iconst 1, 0, 0, 0, 0, 0, 1), (55, .iadd, 0, 0, 0, 0, 0, 0), (56, .iastore, 0, 0, 0, 0, 0, 0), (57, .aload_n 0, 0, 0, 0, 0, 0, 0), (58, .getfield 43, 4, 11, 0, 0, 39, 0), (61, .iload_n 1, 0, 0, 0, 0, 0, 0), (62, .bipush (-9), 0, 0, 0, 0, 0, -9), (64, .iastore, 0, 0, 0, 0, 0, 0), (65, .iinc 1 1, 0, 0, 0, 0, 0, 1), (68, .goto (-66), 2, 0, 0, 0, 0, 0), (71, .return_, 0, 0, 0, 0, 0, 0)]
def am_t41 : List am_I := [(0, .iload_n 1, 0, 0, 0, 0, 0, 0), (1, .ifCond .lt 18, 10, 0, 0, 0, 0, 0), (4, .iload_n 1, 0, 0, 0, 0, 0, 0), (5, .bipush 20, 0, 0, 0, 0, 0, 20), (7, .if_icmp .ge 12, 10, 0, 0, 0, 0, 0), (10, .aload_n 0, 0, 0, 0, 0, 0, 0), (11, .getfield 30, 4, 7, 0, 0, 35, 0), (14, .iload_n 1, 0, 0, 0, 0, 0, 0), (15, .iaload, 0, 0, 0, 0, 0, 0), (16, .goto 12, 15, 0, 0, 0, 0, 0), (19, .aload_n 0, 0, 0, 0, 0, 0, 0), (20, .getfield 61, 4, 0, 0, 0, 45, 0), (23, .getfield 68, 5, 0, 0, 0, 46, 0), (26, .iconst 4, 0, 0, 0, 0, 0, 4), (27, .iaload, 0, 0, 0, 0, 0, 0), (28, .ireturn, 0, 0, 0, 0, 0, 0)]
def am_t42 : List am_I := [(0, .bipush (-9), 0, 0, 0, 0, 0, -9), (2, .istore_n 1, 0, 0, 0, 0, 0, 0), (3, .iconst 0, 0, 0, 0, 0, 0, 0), (4, .istore_n 2, 0, 0, 0, 0, 0, 0), (5, .iload_n 2, 0, 0, 0, 0, 0, 0), (6, .aload_n 0, 0, 0, 0, 0, 0, 0), (7, .getfield 9, 4, 1, 0, 0, 29, 0), (10, .if_icmp .ge 30, 22, 0, 0, 0, 0, 0), (13, .iload_n 1, 0, 0, 0, 0, 0, 0), (14, .bipush (-9), 0, 0, 0, 0, 0, -9), (16, .if_icmp .eq 16, 18, 0, 0, 0, 0, 0), (19, .aload_n 0, 0, 0, 0, 0, 0, 0), (20, .iload_n 2, 0, 0, 0, 0, 0, 0), (21, .invokevirtual 137, 41, 2, 4, 0, 47, 0), (24, .aload_n 0, 0, 0, 0, 0, 0, 0), (25, .iload_n 1, 0, 0, 0, 0, 0, 0), (26, .invokevirtual 137, 41, 2, 4, 0, 47, 0), (29, .if_icmp .le 5, 20, 0, 0, 0, 0, 0), (32, .iload_n 2, 0, 0, 0, 0, 0, 0), (33, .istore_n 1, 0, 0, 0, 0, 0, 0), (34, .iinc 2 1, 0, 0, 0, 0, 0, 1), (37, .goto (-32), 4, 0, 0, 0, 0, 0), (40, .iload_n 1, 0, 0, 0, 0, 0, 0), (41, .ireturn, 0, 0, 0, 0, 0, 0)]
def am_t43 : List am_I := [(0, .aload_n 0, 0, 0, 0, 0, 0, 0), (1, .invokevirtual 140, 42, 1, 4, 0, 48, 0), (4, .istore_n 1, 0, 0, 0, 0, 0, 0), (5, .iload_n 1, 0, 0, 0, 0, 0, 0), (6, .bipush (-9), 0, 0, 0, 0, 0, -9), (8, .if_icmp .ne 7, 8, 0, 0, 0, 0, 0), (11, .iconst 0, 0, 0, 0, 0, 0, 0), (12, .goto 8, 11, 0, 0, 0, 0, 0), (15, .aload_n 0, 0, 0, 0, 0, 0, 0), (16, .iload_n 1, 0, 0, 0, 0, 0, 0), (17, .invokevirtual 137, 41, 2, 4, 0, 47, 0), (20, .ireturn, 0, 0, 0, 0, 0, 0)]
def am_t44 : List am_I := [(0, .bipush (-9), 0, 0, 0, 0, 0, -9), (2, .istore_n 1, 0, 0, 0, 0, 0, 0), (3, .iconst 0, 0, 0, 0, 0, 0, 0), (4, .istore_n 2, 0, 0, 0, 0, 0, 0), (5, .iconst 0, 0, 0, 0, 0, 0, 0), (6, .istore_n 3, 0, 0, 0, 0, 0, 0), (7, .iload_n 3, 0, 0, 0, 0, 0, 0), (8, .aload_n 0, 0, 0, 0, 0, 0, 0), (9, .getfield 9, 4, 1, 0, 0, 29, 0), (12, .if_icmp .ge 35, 29, 0, 0, 0, 0, 0), (15, .aload_n 0, 0, 0, 0, 0, 0, 0), (16, .iload_n 3, 0, 0, 0, 0, 0, 0), (17, .iconst 1, 0, 0, 0, 0, 0, 1), (18, .isub, 0, 0, 0, 0, 0, 0), (19, .invokevirtual 137, 41, 2, 4, 0, 47, 0), (22, .aload_n 0, 0, 0, 0, 0, 0, 0), (23, .iload_n 3, 0, 0, 0, 0, 0, 0), (24, .invokevirtual 137, 41, 2, 4, 0, 47, 0), (27, .isub, 0, 0, 0, 0, 0, 0), (28, .istore 4, 0, 0, 0, 0, 0, 0), (30, .iload 4, 0, 0, 0, 0, 0, 0), (32, .iload_n 2, 0, 0, 0, 0, 0, 0), (33, .if_icmp .le 8, 27, 0, 0, 0, 0, 0), (36, .iload 4, 0, 0, 0, 0, 0, 0), (38, .istore_n 2, 0, 0, 0, 0, 0, 0), (39, .iload_n 3, 0, 0, 0, 0, 0, 0), (40, .istore_n 1, 0, 0, 0, 0, 0, 0), (41, .iinc 3 1, 0, 0, 0, 0, 0, 1), (44, .goto (-37), 6, 0, 0, 0, 0, 0), (47, .iload_n 1, 0, 0, 0, 0, 0, 0), (48, .ireturn, 0, 0, 0, 0, 0, 0)]
def am_t45 : List am_I := [(0, .iconst 0, 0, 0, 0, 0, 0, 0), (1, .istore_n 1, 0, 0, 0, 0, 0, 0), (2, .iconst 0, 0, 0, 0, 0, 0, 0), (3, .istore_n 2, 0, 0, 0, 0, 0, 0), (4, .iload_n 2, 0, 0, 0, 0, 0, 0), (5, .aload_n 0, 0, 0, 0, 0, 0, 0), (6, .getfield 9, 4, 1, 0, 0, 29, 0), (9, .if_icmp .ge 32, 25, 0, 0, 0, 0, 0), (12, .iload_n 1, 0, 0, 0, 0, 0, 0), (13, .iconst 0, 0, 0, 0, 0, 0, 0), (14, .iconst 2, 0, 0, 0, 0, 0, 2), (15, .aload_n 0, 0, 0, 0, 0, 0, 0), (16, .iload_n 2, 0, 0, 0, 0, 0, 0), (17, .invokevirtual 137, 41, 2, 4, 0, 47, 0), (20, .imul, 0, 0, 0, 0, 0, 0), (21, .aload_n 0, 0, 0, 0, 0, 0, 0), (22, .getfield 61, 4, 0, 0, 0, 45, 0), (25, .iload_n 2, 0, 0, 0, 0, 0, 0), (26, .invokevirtual 143, 53, 2, 5, 0, 49, 0), (29, .isub, 0, 0, 0, 0, 0, 0), (30, .invokestatic 96, 0, 0, 0, 1, 36, 0), (33, .iadd, 0, 0, 0, 0, 0, 0), (34, .istore_n 1, 0, 0, 0, 0, 0, 0), (35, .iinc 2 1, 0, 0, 0, 0, 0, 1), (38, .goto (-34), 4, 0, 0, 0, 0, 0), (41, .iload_n 1, 0, 0, 0, 0, 0, 0), (42, .ireturn, 0, 0, 0, 0, 0, 0)]
def am_t46 : List am_I := [(0, .bipush (-9), 0, 0, 0, 0, 0, -9), (2, .istore_n 1, 0, 0, 0, 0, 0, 0), (3, .iconst 0, 0, 0, 0, 0, 0, 0), (4, .istore_n 2, 0, 0, 0, 0, 0, 0), (5, .iload_n 2, 0, 0, 0, 0, 0, 0), (6, .aload_n 0, 0, 0, 0, 0, 0, 0), (7, .getfield 61, 4, 0, 0, 0, 45, 0), (10, .getfield 110, 5, 5, 0, 0, 51, 0), (13, .if_icmp .ge 35, 26, 0, 0, 0, 0, 0), (16, .aload_n 0, 0, 0, 0, 0, 0, 0), (17, .getfield 49, 4, 13, 0, 0, 41, 0), (20, .iload_n 2, 0, 0, 0, 0, 0, 0), (21, .iaload, 0, 0, 0, 0, 0, 0), (22, .ifCond .le 20, 24, 0, 0, 0, 0, 0), (25, .iload_n 1, 0, 0, 0, 0, 0, 0), (26, .bipush (-9), 0, 0, 0, 0, 0, -9), (28, .if_icmp .eq 12, 22, 0, 0, 0, 0, 0), (31, .aload_n 0, 0, 0, 0, 0, 0, 0), (32, .iload_n 2, 0, 0, 0, 0, 0, 0), (33, .iload_n 1, 0, 0, 0, 0, 0, 0), (34, .invokevirtual 146, 47, 3, 4, 0, 50, 0), (37, .ifCond .eq 5, 24, 0, 0, 0, 0, 0), (40, .iload_n 2, 0, 0, 0, 0, 0, 0), (41, .istore_n 1, 0, 0, 0, 0, 0, 0), (42, .iinc 2 1, 0, 0, 0, 0, 0, 1), (45, .goto (-40), 4, 0, 0, 0, 0, 0), (48, .iload_n 1, 0, 0, 0, 0, 0, 0), (49, .ireturn, 0, 0, 0, 0, 0, 0)]
def am_t47 : List am_I := [(0, .aload_n 0, 0, 0, 0, 0, 0, 0), (1, .getfield 46, 4, 12, 0, 0, 40, 0), (4, .iload_n 1, 0, 0, 0, 0, 0, 0), (5, .iaload, 0, 0, 0, 0, 0, 0), (6, .i2l, 0, 0, 0, 0, 0, 0), (7, .aload_n 0, 0, 0, 0, 0, 0, 0), (8, .getfield 49, 4, 13, 0, 0, 41, 0), (11, .iload_n 2, 0, 0, 0, 0, 0, 0), (12, .iaload, 0, 0, 0, 0, 0, 0), (13, .i2l, 0, 0, 0, 0, 0, 0), (14, .lmul, 0, 0, 0, 0, 0, 0), (15, .aload_n 0, 0, 0, 0, 0, 0, 0), (16, .getfield 46, 4, 12, 0, 0, 40, 0), (19, .iload_n 2, 0, 0, 0, 0, 0, 0), (20, .iaload, 0, 0, 0, 0, 0, 0), (21, .i2l, 0, 0, 0, 0, 0, 0), (22, .aload_n 0, 0, 0, 0, 0, 0, 0), (23, .getfield 49, 4, 13, 0, 0, 41, 0), (26, .iload_n 1, 0, 0, 0, 0, 0, 0), (27, .iaload, 0, 0, 0, 0, 0, 0), (28, .i2l, 0, 0, 0, 0, 0, 0), (29, .lmul, 0, 0, 0, 0, 0, 0), (30, .lcmp, 0, 0, 0, 0, 0, 0), (31, .ifCond .ge 7, 26, 0, 0, 0, 0, 0), (34, .iconst 1, 0, 0, 0, 0, 0, 1), (35, .goto 4, 27, 0, 0, 0, 0, 0), (38, .iconst 0, 0, 0, 0, 0, 0, 0), (39, .ireturn, 1, 0, 0, 0, 0, 0)]
def am_t48 : List am_I := [(0, .iconst 0, 0, 0, 0, 0, 0, 0), (1, .istore_n 2, 0, 0, 0, 0, 0, 0), (2, .iconst 0, 0, 0, 0, 0, 0, 0), (3, .istore_n 3, 0, 0, 0, 0, 0, 0), (4, .iload_n 3, 0, 0, 0, 0, 0, 0), (5, .aload_n 0, 0, 0, 0, 0, 0, 0), (6, .getfield 61, 4, 0, 0, 0, 45, 0), (9, .getfield 110, 5, 5, 0, 0, 51, 0), (12, .if_icmp .ge 21, 21, 0, 0, 0, 0, 0), (15, .iload_n 3, 0, 0, 0, 0, 0, 0), (16, .aload_n 1, 0, 0, 0, 0, 0, 0), (17, .arraylength, 0, 0, 0, 0, 0, 0), (18, .if_icmp .ge 15, 21, 0, 0, 0, 0, 0), (21, .iload_n 2, 0, 0, 0, 0, 0, 0), (22, .aload_n 1, 0, 0, 0, 0, 0, 0), (23, .iload_n 3, 0, 0, 0, 0, 0, 0), (24, .iaload, 0, 0, 0, 0, 0, 0), (25, .iadd, 0, 0, 0, 0, 0, 0), (26, .istore_n 2, 0, 0, 0, 0, 0, 0), (27, .iinc 3 1, 0, 0, 0, 0, 0, 1), (30, .goto (-26), 4, 0, 0, 0, 0, 0), (33, .iload_n 2, 0, 0, 0, 0, 0, 0), (34, .ireturn, 0, 0, 0, 0, 0, 0)]
def am_t49 : List am_I := [(0, .aload_n 0, 0, 0, 0, 0, 0, 0), (1, .invokespecial 3, 0, 0, 0, 5, 51, 0), (4, .aload_n 0, 0, 0, 0, 0, 0, 0), (5, .bipush 10, 0, 0, 0, 0, 0, 10), (7, .newarray .int, 0, 0, 0, 0, 0, 0), (9, .putfield 9, 5, 0, 0, 3, 52, 0), (12, .aload_n 0, 0, 0, 0, 0, 0, 0), (13, .bipush 9, 0, 0, 0, 0, 0, 9), (15, .newarray .int, 0, 0, 0, 0, 0, 0), (17, .putfield 15, 5, 1, 0, 3, 53, 0), (20, .aload_n 0, 0, 0, 0, 0, 0, 0), (21, .bipush 9, 0, 0, 0, 0, 0, 9), (23, .newarray .int, 0, 0, 0, 0, 0, 0), (25, .putfield 18, 5, 2, 0, 3, 54, 0), (28, .aload_n 0, 0, 0, 0, 0, 0, 0), (29, .bipush 9, 0, 0, 0, 0, 0, 9), (31, .newarray .int, 0, 0, 0, 0, 0, 0), (33, .putfield 21, 5, 3, 0, 3, 55, 0), (36, .aload_n 0, 0, 0, 0, 0, 0, 0), (37, .bipush 9, 0, 0, 0, 0, 0, 9), (39, .newarray .int, 0, 0, 0, 0, 0, 0), (41, .putfield 24, 5, 4, 0, 3, 56, 0), (44, .aload_n 0, 0, 0, 0, 0, 0, 0), (45, .invokevirtual 27, 50, 1, 5, 0, 52, 0), (48, .aload_n 0, 0, 0, 0, 0, 0, 0), (49, .invokevirtual 30, 51, 1, 5, 0, 53, 0), (52, .return_, 0, 0, 0, 0, 0, 0)]
def am_t50 : List am_I := [(0, .getstatic 33, 0, 0, 0, 1, 2, 0), (3, .iconst 0, 0, 0, 0, 0, 0, 0), (4, .aload_n 0, 0, 0, 0, 0, 0, 0), (5, .getfield 9, 5, 0, 0, 0, 52, 0), (8, .iconst 0, 0, 0, 0, 0, 0, 0), (9, .bipush 10, 0, 0, 0, 0, 0, 10), (11, .invokestatic 36, 0, 0, 0, 4, 54, 0), (14, .aload_n 0, 0, 0, 0, 0, 0, 0), (15, .iconst 0, 0, 0, 0, 0, 0, 0), (16, .putfield 42, 5, 5, 0, 0, 57, 0), (19, .return_, 0, 0, 0, 0, 0, 0)]
def am_t51 : List am_I := [(0, .aload_n 0, 0, 0, 0, 0, 0, 0), (1, .getfield 9, 5, 0, 0, 0, 52, 0), (4, .iconst 4, 0, 0, 0, 0, 0, 4), (5, .iaload, 0, 0, 0, 0, 0, 0), (6, .ifCond .ne 14, 12, 0, 0, 0, 0, 0), (9, .aload_n 0, 0, 0, 0, 0, 0, 0), (10, .getfield 9, 5, 0, 0, 0, 52, 0), (13, .iconst 4, 0, 0, 0, 0, 0, 4), (14, .aload_n 0, 0, 0, 0, 0, 0, 0), (15, .iconst 0, 0, 0, 0, 0, 0, 0), (16, .invokevirtual 46, 54, 2, 5, 0, 55, 0), (19, .iastore, 0, 0, 0, 0, 0, 0), (20, .return_, 0, 0, 0, 0, 0, 0)]
def am_t52 : List am_I := [(0, .aload_n 1, 0, 0, 0, 0, 0, 0), (1, .getfield 9, 5, 0, 0, 0, 52, 0), (4, .iconst 0, 0, 0, 0, 0, 0, 0), (5, .aload_n 0, 0, 0, 0, 0, 0, 0), (6, .getfield 9, 5, 0, 0, 0, 52, 0), (9, .iconst 0, 0, 0, 0, 0, 0, 0), (10, .bipush 10, 0, 0, 0, 0, 0, 10), (12, .invokestatic 36, 0, 0, 0, 4, 54, 0), (15, .aload_n 1, 0, 0, 0, 0, 0, 0), (16, .getfield 15, 5, 1, 0, 0, 53, 0), (19, .iconst 0, 0, 0, 0, 0, 0, 0), (20, .aload_n 0, 0, 0, 0, 0, 0, 0), (21, .getfield 15, 5, 1, 0, 0, 53, 0), (24, .iconst 0, 0, 0, 0, 0, 0, 0), (25, .bipush 9, 0, 0, 0, 0, 0, 9), (27, .invokestatic 36, 0, 0, 0, 4, 54, 0), (30, .aload_n 1, 0, 0, 0, 0, 0, 0), (31, .getfield 18, 5, 2, 0, 0, 54, 0), (34, .iconst 0, 0, 0, 0, 0, 0, 0), (35, .aload_n 0, 0, 0, 0, 0, 0, 0), (36, .getfield 18, 5, 2, 0, 0, 54, 0), (39, .iconst 0, 0, 0, 0, 0, 0, 0), (40, .bipush 9, 0, 0, 0, 0, 0, 9), (42, .invokestatic 36, 0, 0, 0, 4, 54, 0), (45, .aload_n 1, 0, 0, 0, 0, 0, 0), (46, .getfield 21, 5, 3, 0, 0, 55, 0), (49, .iconst 0, 0, 0, 0, 0, 0, 0), (50, .aload_n 0, 0, 0, 0, 0, 0, 0), (51, .getfield 21, 5, 3, 0, 0, 55, 0), (54, .iconst 0, 0, 0, 0, 0, 0, 0), (55, .bipush 9, 0, 0, 0, 0, 0, 9), (57, .invokestatic 36, 0, 0, 0, 4, 54, 0), (60, .aload_n 1, 0, 0, 0, 0, 0, 0), (61, .getfield 24, 5, 4, 0, 0, 56, 0), (64, .iconst 0, 0, 0, 0, 0, 0, 0), (65, .aload_n 0, 0, 0, 0, 0, 0, 0), (66, .getfield 24, 5, 4, 0, 0, 56, 0), (69, .iconst 0, 0, 0, 0, 0, 0, 0), (70, .bipush 9, 0, 0, 0, 0, 0, 9), (72, .invokestatic 36, 0, 0, 0, 4, 54, 0), (75, .aload_n 0, 0, 0, 0, 0, 0, 0), (76, .aload_n 1, 0, 0, 0, 0, 0, 0), (77, .getfield 42, 5, 5, 0, 0, 57, 0), (80, .putfield 42, 5, 5, 0, 0, 57, 0), (83, .return_, 0, 0, 0, 0, 0, 0)]
def am_t53 : List am_I := [(0, .aload_n 0, 0, 0, 0, 0, 0, 0), (1, .getfield 9, 5, 0, 0, 0, 52, 0), (4, .iconst 0, 0, 0, 0, 0, 0, 0), (5, .iaload, 0, 0, 0, 0, 0, 0), (6, .iload_n 1, 0, 0, 0, 0, 0, 0), (7, .isub, 0, 0, 0, 0, 0, 0), (8, .aload_n 0, 0, 0, 0, 0, 0, 0), (9, .getfield 9, 5, 0, 0, 0, 52, 0), (12, .iconst 1, 0, 0, 0, 0, 0, 1), (13, .iaload, 0, 0, 0, 0, 0, 0), (14, .aload_n 0, 0, 0, 0, 0, 0, 0), (15, .getfield 9, 5, 0, 0, 0, 52, 0), (18, .iconst 2, 0, 0, 0, 0, 0, 2), (19, .iaload, 0, 0, 0, 0, 0, 0), (20, .iadd, 0, 0, 0, 0, 0, 0), (21, .imul, 0, 0, 0, 0, 0, 0), (22, .iconst 2, 0, 0, 0, 0, 0, 2), (23, .aload_n 0, 0, 0, 0, 0, 0, 0), (24, .getfield 9, 5, 0, 0, 0, 52, 0), (27, .iconst 3, 0, 0, 0, 0, 0, 3), (28, .iaload, 0, 0, 0, 0, 0, 0), (29, .imul, 0, 0, 0, 0, 0, 0), (30, .iadd, 0, 0, 0, 0, 0, 0), (31, .ireturn, 0, 0, 0, 0, 0, 0)]
def am_t54 : List am_I := [(0, .aload_n 0, 0, 0, 0, 0, 0, 0), (1, .getfield 9, 5, 0, 0, 0, 52, 0), (4, .iconst 0, 0, 0, 0, 0, 0, 0), (5, .iaload, 0, 0, 0, 0, 0, 0), (6, .iload_n 1, 0, 0, 0, 0, 0, 0), (7, .isub, 0, 0, 0, 0, 0, 0), (8, .aload_n 0, 0, 0, 0, 0, 0, 0), (9, .getfield 9, 5, 0, 0, 0, 52, 0), (12, .iconst 1, 0, 0, 0, 0, 0, 1), (13, .iaload, 0, 0, 0, 0, 0, 0), (14, .aload_n 0, 0, 0, 0, 0, 0, 0), (15, .getfield 9, 5, 0, 0, 0, 52, 0), (18, .iconst 2, 0, 0, 0, 0, 0, 2), (19, .iaload, 0, 0, 0, 0, 0, 0), (20, .iadd, 0, 0, 0, 0, 0, 0), (21, .imul, 0, 0, 0, 0, 0, 0), (22, .istore_n 2, 0, 0, 0, 0, 0, 0), (23, .iload_n 2, 0, 0, 0, 0, 0, 0), (24, .iconst 2, 0, 0, 0, 0, 0, 2), (25, .idiv, 0, 0, 0, 0, 0, 0), (26, .aload_n 0, 0, 0, 0, 0, 0, 0), (27, .getfield 9, 5, 0, 0, 0, 52, 0), (30, .iconst 3, 0, 0, 0, 0, 0, 3), (31, .iaload, 0, 0, 0, 0, 0, 0), (32, .iadd, 0, 0, 0, 0, 0, 0), (33, .ireturn, 0, 0, 0, 0, 0, 0)]
def am_t55 : List am_I := [(0, .aload_n 0, 0, 0, 0, 0, 0, 0), (1, .getfield 9, 5, 0, 0, 0, 52, 0), (4, .iconst 0, 0, 0, 0, 0, 0, 0), (5, .iaload, 0, 0, 0, 0, 0, 0), (6, .iload_n 1, 0, 0, 0, 0, 0, 0), (7, .isub, 0, 0, 0, 0, 0, 0), (8, .istore_n 3, 0, 0, 0, 0, 0, 0), (9, .iconst 0, 0, 0, 0, 0, 0, 0), (10, .istore 4, 0, 0, 0, 0, 0, 0), (12, .iconst 1, 0, 0, 0, 0, 0, 1), (13, .istore 5, 0, 0, 0, 0, 0, 0), (15, .iconst 0, 0, 0, 0, 0, 0, 0), (16, .istore 6, 0, 0, 0, 0, 0, 0), (18, .iload 6, 0, 0, 0, 0, 0, 0), (20, .iload_n 3, 0, 0, 0, 0, 0, 0), (21, .if_icmp .gt 66, 56, 0, 0, 0, 0, 0), (24, .iload_n 3, 0, 0, 0, 0, 0, 0), (25, .iload 6, 0, 0, 0, 0, 0, 0), (27, .isub, 0, 0, 0, 0, 0, 0), (28, .aload_n 0, 0, 0, 0, 0, 0, 0), (29, .getfield 9, 5, 0, 0, 0, 52, 0), (32, .iconst 1, 0, 0, 0, 0, 0, 1), (33, .iaload, 0, 0, 0, 0, 0, 0), (34, .imul, 0, 0, 0, 0, 0, 0), (35, .iload 6, 0, 0, 0, 0, 0, 0), (37, .aload_n 0, 0, 0, 0, 0, 0, 0), (38, .getfield 9, 5, 0, 0, 0, 52, 0), (41, .iconst 2, 0, 0, 0, 0, 0, 2), (42, .iaload, 0, 0, 0, 0, 0, 0), (43, .imul, 0, 0, 0, 0, 0, 0), (44, .iadd, 0, 0, 0, 0, 0, 0), (45, .aload_n 0, 0, 0, 0, 0, 0, 0), (46, .getfield 9, 5, 0, 0, 0, 52, 0), (49, .iconst 3, 0, 0, 0, 0, 0, 3), (50, .iaload, 0, 0, 0, 0, 0, 0), (51, .iadd, 0, 0, 0, 0, 0, 0), (52, .istore 7, 0, 0, 0, 0, 0, 0), (54, .iload 7, 0, 0, 0, 0, 0, 0), (56, .iload_n 2, 0, 0, 0, 0, 0, 0), (57, .if_icmp .ne 10, 44, 0, 0, 0, 0, 0), (60, .iload 4, 0, 0, 0, 0, 0, 0), (62, .iload 5, 0, 0, 0, 0, 0, 0), (64, .iadd, 0, 0, 0, 0, 0, 0), (65, .istore 4, 0, 0, 0, 0, 0, 0), (67, .iload 5, 0, 0, 0, 0, 0, 0), (69, .iload_n 3, 0, 0, 0, 0, 0, 0), (70, .iload 6, 0, 0, 0, 0, 0, 0), (72, .isub, 0, 0, 0, 0, 0, 0), (73, .imul, 0, 0, 0, 0, 0, 0), (74, .iload 6, 0, 0, 0, 0, 0, 0), (76, .iconst 1, 0, 0, 0, 0, 0, 1), (77, .iadd, 0, 0, 0, 0, 0, 0), (78, .idiv, 0, 0, 0, 0, 0, 0), (79, .istore 5, 0, 0, 0, 0, 0, 0), (81, .iinc 6 1, 0, 0, 0, 0, 0, 1), (84, .goto (-66), 13, 0, 0, 0, 0, 0), (87, .iload 4, 0, 0, 0, 0, 0, 0), (89, .ireturn, 0, 0, 0, 0, 0, 0)]
def am_t56 : List am_I := [(0, .aload_n 0, 0, 0, 0, 0, 0, 0), (1, .invokespecial 1, 0, 0, 0, 5, 56, 0), (4, .aload_n 0, 0, 0, 0, 0, 0, 0), (5, .new 7, 5, 0, 0, 0, 2, 0), (8, .dup, 0, 0, 0, 0, 0, 0), (9, .invokespecial 9, 49, 1, 5, 0, 57, 0), (12, .putfield 10, 6, 0, 0, 3, 58, 0), (15, .aload_n 0, 0, 0, 0, 0, 0, 0), (16, .new 16, 2, 0, 0, 0, 3, 0), (19, .dup, 0, 0, 0, 0, 0, 0), (20, .invokespecial 18, 5, 1, 2, 6, 58, 0), (23, .putfield 19, 6, 1, 0, 3, 59, 0), (26, .aload_n 0, 0, 0, 0, 0, 0, 0), (27, .new 23, 4, 0, 0, 0, 4, 0), (30, .dup, 0, 0, 0, 0, 0, 0), (31, .aload_n 0, 0, 0, 0, 0, 0, 0), (32, .getfield 10, 6, 0, 0, 0, 58, 0), (35, .invokespecial 25, 27, 2, 4, 0, 59, 0), (38, .putfield 28, 6, 2, 0, 3, 60, 0), (41, .aload_n 0, 0, 0, 0, 0, 0, 0), (42, .new 7, 5, 0, 0, 0, 2, 0), (45, .dup, 0, 0, 0, 0, 0, 0), (46, .invokespecial 9, 49, 1, 5, 0, 57, 0), (49, .putfield 32, 6, 3, 0, 3, 61, 0), (52, .aload_n 0, 0, 0, 0, 0, 0, 0), (53, .new 23, 4, 0, 0, 0, 4, 0), (56, .dup, 0, 0, 0, 0, 0, 0), (57, .aload_n 0, 0, 0, 0, 0, 0, 0), (58, .getfield 32, 6, 3, 0, 0, 61, 0), (61, .invokespecial 25, 27, 2, 4, 0, 59, 0), (64, .putfield 35, 6, 4, 0, 3, 62, 0), (67, .aload_n 0, 0, 0, 0, 0, 0, 0), (68, .new 38, 1, 0, 0, 0, 5, 0), (71, .dup, 0, 0, 0, 0, 0, 0), (72, .aload_n 0, 0, 0, 0, 0, 0, 0), (73, .getfield 10, 6, 0, 0, 0, 58, 0), (76, .invokespecial 40, 4, 2, 1, 0, 60, 0), (79, .putfield 41, 6, 5, 0, 3, 63, 0), (82, .aload_n 0, 0, 0, 0, 0, 0, 0), (83, .new 38, 1, 0, 0, 0, 5, 0), (86, .dup, 0, 0, 0, 0, 0, 0), (87, .aload_n 0, 0, 0, 0, 0, 0, 0), (88, .getfield 10, 6, 0, 0, 0, 58, 0), (91, .invokespecial 40, 4, 2, 1, 0, 60, 0), (94, .putfield 45, 6, 6, 0, 3, 64, 0), (97, .aload_n 0, 0, 0, 0, 0, 0, 0), (98, .new 48, 3, 0, 0, 0, 6, 0), (101, .dup, 0, 0, 0, 0, 0, 0), (102, .invokespecial 50, 18, 1, 3, 6, 61, 0), (105, .putfield 51, 6, 7, 0, 3, 65, 0), (108, .aload_n 0, 0, 0, 0, 0, 0, 0), (109, .new 55, 0, 0, 0, 0, 7, 0), (112, .dup, 0, 0, 0, 0, 0, 0), (113, .invokespecial 57, 0, 1, 0, 6, 62, 0), (116, .putfield 58, 6, 8, 0, 3, 66, 0), (119, .aload_n 0, 0, 0, 0, 0, 0, 0), (120, .lconst 0, 0, 0, 0, 0, 0, 0), (121, .putfield 62, 6, 9, 0, 2, 67, 0), (124, .aload_n 0, 0, 0, 0, 0, 0, 0), (125, .getfield 28, 6, 2, 0, 0, 60, 0), (128, .iconst 1, 0, 0, 0, 0, 0, 1), (129, .putfield 66, 4, 6, 0, 0, 68, 0), (132, .return_, 0, 0, 0, 0, 0, 0)]
def am_t57 : List am_I := [(0, .iload_n 3, 0, 0, 0, 0, 0, 0), (1, .iconst 1, 0, 0, 0, 0, 0, 1), (2, .if_icmp .lt 9, 6, 0, 0, 0, 0, 0), (5, .iload_n 3, 0, 0, 0, 0, 0, 0), (6, .bipush 8, 0, 0, 0, 0, 0, 8), (8, .if_icmp .le 5, 8, 0, 0, 0, 0, 0), (11, .iconst (-1), 0, 0, 0, 0, 0, -1), (12, .ireturn, 0, 0, 0, 0, 0, 0), (13, .aload_n 0, 0, 0, 0, 0, 0, 0), (14, .getfield 19, 6, 1, 0, 0, 59, 0), (17, .lload_n 1, 0, 0, 0, 0, 0, 0), (18, .iload_n 3, 0, 0, 0, 0, 0, 0), (19, .invokevirtual 70, 6, 3, 2, 0, 63, 0), (22, .ifCond .eq 13, 18, 0, 0, 0, 0, 0), (25, .aload_n 0, 0, 0, 0, 0, 0, 0), (26, .getfield 19, 6, 1, 0, 0, 59, 0), (29, .getfield 74, 2, 1, 0, 0, 69, 0), (32, .goto 5, 19, 0, 0, 0, 0, 0), (35, .bipush (-3), 0, 0, 0, 0, 0, -3), (37, .ireturn, 0, 0, 0, 0, 0, 0)]
def am_t58 : List am_I := [(0, .aload_n 0, 0, 0, 0, 0, 0, 0), (1, .getfield 19, 6, 1, 0, 0, 59, 0), (4, .getfield 74, 2, 1, 0, 0, 69, 0), (7, .istore_n 1, 0, 0, 0, 0, 0, 0), (8, .aload_n 0, 0, 0, 0, 0, 0, 0), (9, .getfield 19, 6, 1, 0, 0, 59, 0), (12, .iconst 0, 0, 0, 0, 0, 0, 0), (13, .putfield 74, 2, 1, 0, 0, 69, 0), (16, .iload_n 1, 0, 0, 0, 0, 0, 0), (17, .ireturn, 0, 0, 0, 0, 0, 0)]
def am_t59 : List am_I := [(0, .aload_n 0, 0, 0, 0, 0, 0, 0), (1, .getfield 19, 6, 1, 0, 0, 59, 0), (4, .invokevirtual 77, 7, 1, 2, 0, 64, 0), (7, .ifCond .ne 14, 10, 0, 0, 0, 0, 0), (10, .bipush (-10), 0, 0, 0, 0, 0, -10), (12, .aload_n 0, 0, 0, 0, 0, 0, 0), (13, .getfield 19, 6, 1, 0, 0, 59, 0), (16, .getfield 81, 2, 4, 0, 0, 70, 0), (19, .isub, 0, 0, 0, 0, 0, 0), (20, .ireturn, 0, 0, 0, 0, 0, 0), (21, .aload_n 0, 0, 0, 0, 0, 0, 0), (22, .getfield 10, 6, 0, 0, 0, 58, 0), (25, .aload_n 0, 0, 0, 0, 0, 0, 0), (26, .getfield 19, 6, 1, 0, 0, 59, 0), (29, .getfield 84, 2, 2, 0, 0, 71, 0), (32, .invokevirtual 87, 52, 2, 5, 0, 65, 0), (35, .aload_n 0, 0, 0, 0, 0, 0, 0), (36, .getfield 19, 6, 1, 0, 0, 59, 0), (39, .iconst 0, 0, 0, 0, 0, 0, 0), (40, .putfield 74, 2, 1, 0, 0, 69, 0), (43, .aload_n 0, 0, 0, 0, 0, 0, 0), (44, .getfield 28, 6, 2, 0, 0, 60, 0), (47, .invokevirtual 90, 29, 1, 4, 0, 66, 0), (50, .aload_n 0, 0, 0, 0, 0, 0, 0), (51, .getfield 28, 6, 2, 0, 0, 60, 0), (54, .invokevirtual 93, 28, 1, 4, 0, 67, 0), (57, .aload_n 0, 0, 0, 0, 0, 0, 0), (58, .getfield 41, 6, 5, 0, 0, 63, 0), (61, .iconst 0, 0, 0, 0, 0, 0, 0), (62, .putfield 96, 1, 1, 0, 1, 72, 0), (65, .aload_n 0, 0, 0, 0, 0, 0, 0), (66, .getfield 45, 6, 6, 0, 0, 64, 0), (69, .iconst 0, 0, 0, 0, 0, 0, 0), (70, .putfield 96, 1, 1, 0, 1, 72, 0), (73, .aload_n 0, 0, 0, 0, 0, 0, 0), (74, .getfield 19, 6, 1, 0, 0, 59, 0), (77, .getfield 100, 2, 3, 0, 0, 73, 0), (80, .ireturn, 0, 0, 0, 0, 0, 0)]
def am_t60 : List am_I := [(0, .iload_n 1, 0, 0, 0, 0, 0, 0), (1, .iconst 0, 0, 0, 0, 0, 0, 0), (2, .bipush 9, 0, 0, 0, 0, 0, 9), (4, .invokestatic 103, 88, 3, 6, 0, 68, 0), (7, .ifCond .eq 15, 11, 0, 0, 0, 0, 0), (10, .aload_n 0, 0, 0, 0, 0, 0, 0), (11, .getfield 10, 6, 0, 0, 0, 58, 0), (14, .getfield 107, 5, 0, 0, 0, 74, 0), (17, .iload_n 1, 0, 0, 0, 0, 0, 0), (18, .iaload, 0, 0, 0, 0, 0, 0), (19, .goto 4, 12, 0, 0, 0, 0, 0), (22, .iconst (-1), 0, 0, 0, 0, 0, -1), (23, .ireturn, 0, 0, 0, 0, 0, 0)]
def am_t61 : List am_I := [(0, .aload_n 0, 0, 0, 0, 0, 0, 0), (1, .iload_n 1, 0, 0, 0, 0, 0, 0), (2, .invokevirtual 111, 89, 2, 6, 0, 69, 0), (5, .ifCond .ne 6, 6, 0, 0, 0, 0, 0), (8, .ldc 115, 0, 0, 0, 0, 1, -1000000), (10, .ireturn, 0, 0, 0, 0, 0, 0), (11, .iload_n 2, 0, 0, 0, 0, 0, 0), (12, .tableswitch 99 0 5 #[40, 50, 60, 70, 80, 89], 1, 0, 0, 0, 0, 0), (52, .aload_n 0, 0, 0, 0, 0, 0, 0), (53, .getfield 10, 6, 0, 0, 0, 58, 0), (56, .getfield 116, 5, 1, 0, 0, 75, 0), (59, .iload_n 1, 0, 0, 0, 0, 0, 0), (60, .iaload, 0, 0, 0, 0, 0, 0), (61, .ireturn, 0, 0, 0, 0, 0, 0), (62, .aload_n 0, 0, 0, 0, 0, 0, 0), (63, .getfield 10, 6, 0, 0, 0, 58, 0), (66, .getfield 119, 5, 2, 0, 0, 76, 0), (69, .iload_n 1, 0, 0, 0, 0, 0, 0), (70, .iaload, 0, 0, 0, 0, 0, 0), (71, .ireturn, 0, 0, 0, 0, 0, 0), (72, .aload_n 0, 0, 0, 0, 0, 0, 0), (73, .getfield 28, 6, 2, 0, 0, 60, 0), (76, .getfield 122, 4, 8, 0, 0, 77, 0), (79, .iload_n 1, 0, 0, 0, 0, 0, 0), (80, .iaload, 0, 0, 0, 0, 0, 0), (81, .ireturn, 0, 0, 0, 0, 0, 0), (82, .aload_n 0, 0, 0, 0, 0, 0, 0), (83, .getfield 28, 6, 2, 0, 0, 60, 0), (86, .getfield 125, 4, 9, 0, 0, 78, 0), (89, .iload_n 1, 0, 0, 0, 0, 0, 0), (90, .iaload, 0, 0, 0, 0, 0, 0), (91, .ireturn, 0, 0, 0, 0, 0, 0), (92, .aload_n 0, 0, 0, 0, 0, 0, 0), (93, .getfield 28, 6, 2, 0, 0, 60, 0), (96, .iload_n 1, 0, 0, 0, 0, 0, 0), (97, .invokevirtual 128, 32, 2, 4, 0, 70, 0), (100, .ireturn, 0, 0, 0, 0, 0, 0), (101, .aload_n 0, 0, 0, 0, 0, 0, 0), (102, .getfield 28, 6, 2, 0, 0, 60, 0), (105, .getfield 132, 4, 10, 0, 0, 79, 0), (108, .iload_n 1, 0, 0, 0, 0, 0, 0), (109, .iaload, 0, 0, 0, 0, 0, 0), (110, .ireturn, 0, 0, 0, 0, 0, 0), (111, .ldc 115, 0, 0, 0, 0, 1, -1000000), (113, .ireturn, 0, 0, 0, 0, 0, 0)]
def am_t62 : List am_I := [(0, .iload_n 1, 0, 0, 0, 0, 0, 0), (1, .iconst 0, 0, 0, 0, 0, 0, 0), (2, .aload_n 0, 0, 0, 0, 0, 0, 0), (3, .getfield 10, 6, 0, 0, 0, 58, 0), (6, .getfield 107, 5, 0, 0, 0, 74, 0), (9, .iconst 0, 0, 0, 0, 0, 0, 0), (10, .iaload, 0, 0, 0, 0, 0, 0), (11, .invokestatic 103, 88, 3, 6, 0, 68, 0), (14, .ifCond .eq 12, 14, 0, 0, 0, 0, 0), (17, .iload_n 2, 0, 0, 0, 0, 0, 0), (18, .iconst 0, 0, 0, 0, 0, 0, 0), (19, .iconst 1, 0, 0, 0, 0, 0, 1), (20, .invokestatic 103, 88, 3, 6, 0, 68, 0), (23, .ifCond .ne 5, 16, 0, 0, 0, 0, 0), (26, .iconst (-1), 0, 0, 0, 0, 0, -1), (27, .ireturn, 0, 0, 0, 0, 0, 0), (28, .iload_n 2, 0, 0, 0, 0, 0, 0), (29, .ifCond .ne 14, 23, 0, 0, 0, 0, 0), (32, .aload_n 0, 0, 0, 0, 0, 0, 0), (33, .getfield 10, 6, 0, 0, 0, 58, 0), (36, .iload_n 1, 0, 0, 0, 0, 0, 0), (37, .invokevirtual 135, 54, 2, 5, 0, 71, 0), (40, .goto 11, 27, 0, 0, 0, 0, 0), (43, .aload_n 0, 0, 0, 0, 0, 0, 0), (44, .getfield 10, 6, 0, 0, 0, 58, 0), (47, .iload_n 1, 0, 0, 0, 0, 0, 0), (48, .invokevirtual 138, 53, 2, 5, 0, 72, 0), (51, .ireturn, 0, 0, 0, 0, 0, 0)]
def am_t63 : List am_I := [(0, .iload_n 1, 0, 0, 0, 0, 0, 0), (1, .iconst 0, 0, 0, 0, 0, 0, 0), (2, .aload_n 0, 0, 0, 0, 0, 0, 0), (3, .getfield 10, 6, 0, 0, 0, 58, 0), (6, .getfield 107, 5, 0, 0, 0, 74, 0), (9, .iconst 0, 0, 0, 0, 0, 0, 0), (10, .iaload, 0, 0, 0, 0, 0, 0), (11, .invokestatic 103, 88, 3, 6, 0, 68, 0), (14, .ifCond .eq 14, 14, 0, 0, 0, 0, 0), (17, .iload_n 2, 0, 0, 0, 0, 0, 0), (18, .iconst 0, 0, 0, 0, 0, 0, 0), (19, .sipush 279, 0, 0, 0, 0, 0, 279), (22, .invokestatic 103, 88, 3, 6, 0, 68, 0), (25, .ifCond .ne 5, 16, 0, 0, 0, 0, 0), (28, .iconst (-1), 0, 0, 0, 0, 0, -1), (29, .ireturn, 0, 0, 0, 0, 0, 0), (30, .aload_n 0, 0, 0, 0, 0, 0, 0), (31, .getfield 10, 6, 0, 0, 0, 58, 0), (34, .iload_n 1, 0, 0, 0, 0, 0, 0), (35, .iload_n 2, 0, 0, 0, 0, 0, 0), (36, .invokevirtual 141, 55, 3, 5, 0, 73, 0), (39, .ireturn, 0, 0, 0, 0, 0, 0)]
def am_t64 : List am_I := [(0, .iload_n 1, 0, 0, 0, 0, 0, 0), (1, .iconst 1, 0, 0, 0, 0, 0, 1), (2, .bipush 20, 0, 0, 0, 0, 0, 20), (4, .invokestatic 103, 88, 3, 6, 0, 68, 0), (7, .ifCond .ne 5, 7, 0, 0, 0, 0, 0), (10, .iconst (-1), 0, 0, 0, 0, 0, -1), (11, .ireturn, 0, 0, 0, 0, 0, 0), (12, .aload_n 0, 0, 0, 0, 0, 0, 0), (13, .getfield 28, 6, 2, 0, 0, 60, 0), (16, .invokevirtual 145, 31, 1, 4, 0, 74, 0), (19, .ifCond .eq 8, 13, 0, 0, 0, 0, 0), (22, .bipush (-2), 0, 0, 0, 0, 0, -2), (24, .goto 11, 17, 0, 0, 0, 0, 0), (27, .aload_n 0, 0, 0, 0, 0, 0, 0), (28, .getfield 28, 6, 2, 0, 0, 60, 0), (31, .iload_n 1, 0, 0, 0, 0, 0, 0), (32, .invokevirtual 148, 34, 2, 4, 0, 75, 0), (35, .ireturn, 0, 0, 0, 0, 0, 0)]
def am_t65 : List am_I := [(0, .iload_n 1, 0, 0, 0, 0, 0, 0), (1, .tableswitch 95 0 5 #[39, 47, 55, 63, 71, 79], 2, 0, 0, 0, 0, 0), (40, .aload_n 0, 0, 0, 0, 0, 0, 0), (41, .getfield 28, 6, 2, 0, 0, 60, 0), (44, .getfield 151, 4, 1, 0, 0, 80, 0), (47, .ireturn, 0, 0, 0, 0, 0, 0), (48, .aload_n 0, 0, 0, 0, 0, 0, 0), (49, .getfield 28, 6, 2, 0, 0, 60, 0), (52, .getfield 154, 4, 2, 0, 0, 81, 0), (55, .ireturn, 0, 0, 0, 0, 0, 0), (56, .aload_n 0, 0, 0, 0, 0, 0, 0), (57, .getfield 28, 6, 2, 0, 0, 60, 0), (60, .getfield 157, 4, 3, 0, 0, 82, 0), (63, .ireturn, 0, 0, 0, 0, 0, 0), (64, .aload_n 0, 0, 0, 0, 0, 0, 0), (65, .getfield 28, 6, 2, 0, 0, 60, 0), (68, .getfield 160, 4, 4, 0, 0, 83, 0), (71, .ireturn, 0, 0, 0, 0, 0, 0), (72, .aload_n 0, 0, 0, 0, 0, 0, 0), (73, .getfield 28, 6, 2, 0, 0, 60, 0), (76, .getfield 163, 4, 5, 0, 0, 84, 0), (79, .ireturn, 0, 0, 0, 0, 0, 0), (80, .aload_n 0, 0, 0, 0, 0, 0, 0), (81, .getfield 28, 6, 2, 0, 0, 60, 0), (84, .invokevirtual 145, 31, 1, 4, 0, 74, 0), (87, .ifCond .eq 7, 28, 0, 0, 0, 0, 0), (90, .iconst 1, 0, 0, 0, 0, 0, 1), (91, .goto 4, 29, 0, 0, 0, 0, 0), (94, .iconst 0, 0, 0, 0, 0, 0, 0), (95, .ireturn, 0, 0, 0, 0, 0, 0), (96, .iconst (-1), 0, 0, 0, 0, 0, -1), (97, .ireturn, 0, 0, 0, 0, 0, 0)]
def am_t66 : List am_I := [(0, .iload_n 1, 0, 0, 0, 0, 0, 0), (1, .iconst 0, 0, 0, 0, 0, 0, 0), (2, .aload_n 0, 0, 0, 0, 0, 0, 0), (3, .getfield 28, 6, 2, 0, 0, 60, 0), (6, .getfield 151, 4, 1, 0, 0, 80, 0), (9, .iconst 1, 0, 0, 0, 0, 0, 1), (10, .isub, 0, 0, 0, 0, 0, 0), (11, .invokestatic 103, 88, 3, 6, 0, 68, 0), (14, .ifCond .eq 14, 14, 0, 0, 0, 0, 0), (17, .aload_n 0, 0, 0, 0, 0, 0, 0), (18, .getfield 28, 6, 2, 0, 0, 60, 0), (21, .iload_n 1, 0, 0, 0, 0, 0, 0), (22, .invokevirtual 166, 41, 2, 4, 0, 76, 0), (25, .goto 4, 15, 0, 0, 0, 0, 0), (28, .iconst (-1), 0, 0, 0, 0, 0, -1), (29, .ireturn, 0, 0, 0, 0, 0, 0)]
def am_t67 : List am_I := [(0, .iload_n 1, 0, 0, 0, 0, 0, 0), (1, .tableswitch 63 0 3 #[31, 39, 47, 55], 3, 0, 0, 0, 0, 0), (32, .aload_n 0, 0, 0, 0, 0, 0, 0), (33, .getfield 28, 6, 2, 0, 0, 60, 0), (36, .invokevirtual 169, 43, 1, 4, 0, 77, 0), (39, .ireturn, 0, 0, 0, 0, 0, 0), (40, .aload_n 0, 0, 0, 0, 0, 0, 0), (41, .getfield 28, 6, 2, 0, 0, 60, 0), (44, .invokevirtual 173, 42, 1, 4, 0, 78, 0), (47, .ireturn, 0, 0, 0, 0, 0, 0), (48, .aload_n 0, 0, 0, 0, 0, 0, 0), (49, .getfield 28, 6, 2, 0, 0, 60, 0), (52, .invokevirtual 176, 44, 1, 4, 0, 79, 0), (55, .ireturn, 0, 0, 0, 0, 0, 0), (56, .aload_n 0, 0, 0, 0, 0, 0, 0), (57, .getfield 28, 6, 2, 0, 0, 60, 0), (60, .invokevirtual 179, 45, 1, 4, 0, 80, 0), (63, .ireturn, 0, 0, 0, 0, 0, 0), (64, .iconst (-1), 0, 0, 0, 0, 0, -1), (65, .ireturn, 0, 0, 0, 0, 0, 0)]
def am_t68 : List am_I := [(0, .aload_n 0, 0, 0, 0, 0, 0, 0), (1, .iload_n 1, 0, 0, 0, 0, 0, 0), (2, .invokevirtual 111, 89, 2, 6, 0, 69, 0), (5, .ifCond .eq 13, 8, 0, 0, 0, 0, 0), (8, .aload_n 0, 0, 0, 0, 0, 0, 0), (9, .getfield 28, 6, 2, 0, 0, 60, 0), (12, .invokevirtual 145, 31, 1, 4, 0, 74, 0), (15, .ifCond .ne 6, 10, 0, 0, 0, 0, 0), (18, .ldc 115, 0, 0, 0, 0, 1, -1000000), (20, .ireturn, 0, 0, 0, 0, 0, 0), (21, .aload_n 0, 0, 0, 0, 0, 0, 0), (22, .getfield 28, 6, 2, 0, 0, 60, 0), (25, .getfield 122, 4, 8, 0, 0, 77, 0), (28, .iload_n 1, 0, 0, 0, 0, 0, 0), (29, .iaload, 0, 0, 0, 0, 0, 0), (30, .aload_n 0, 0, 0, 0, 0, 0, 0), (31, .getfield 10, 6, 0, 0, 0, 58, 0), (34, .getfield 182, 5, 3, 0, 0, 85, 0), (37, .iload_n 1, 0, 0, 0, 0, 0, 0), (38, .iaload, 0, 0, 0, 0, 0, 0), (39, .isub, 0, 0, 0, 0, 0, 0), (40, .aload_n 0, 0, 0, 0, 0, 0, 0), (41, .getfield 10, 6, 0, 0, 0, 58, 0), (44, .getfield 183, 5, 4, 0, 0, 86, 0), (47, .iload_n 1, 0, 0, 0, 0, 0, 0), (48, .iaload, 0, 0, 0, 0, 0, 0), (49, .aload_n 0, 0, 0, 0, 0, 0, 0), (50, .getfield 28, 6, 2, 0, 0, 60, 0), (53, .getfield 163, 4, 5, 0, 0, 84, 0), (56, .imul, 0, 0, 0, 0, 0, 0), (57, .isub, 0, 0, 0, 0, 0, 0), (58, .ireturn, 0, 0, 0, 0, 0, 0)]
def am_t69 : List am_I := [(0, .aload_n 0, 0, 0, 0, 0, 0, 0), (1, .getfield 28, 6, 2, 0, 0, 60, 0), (4, .invokevirtual 145, 31, 1, 4, 0, 74, 0), (7, .ifCond .ne 6, 6, 0, 0, 0, 0, 0), (10, .bipush (-2), 0, 0, 0, 0, 0, -2), (12, .ireturn, 0, 0, 0, 0, 0, 0), (13, .aload_n 0, 0, 0, 0, 0, 0, 0), (14, .getfield 28, 6, 2, 0, 0, 60, 0), (17, .invokevirtual 93, 28, 1, 4, 0, 67, 0), (20, .iconst 0, 0, 0, 0, 0, 0, 0), (21, .istore_n 1, 0, 0, 0, 0, 0, 0), (22, .iload_n 1, 0, 0, 0, 0, 0, 0), (23, .aload_n 0, 0, 0, 0, 0, 0, 0), (24, .getfield 10, 6, 0, 0, 0, 58, 0), (27, .getfield 184, 5, 5, 0, 0, 87, 0), (30, .if_icmp .ge 22, 27, 0, 0, 0, 0, 0), (33, .aload_n 0, 0, 0, 0, 0, 0, 0), (34, .getfield 28, 6, 2, 0, 0, 60, 0), (37, .getfield 132, 4, 10, 0, 0, 79, 0), (40, .iload_n 1, 0, 0, 0, 0, 0, 0), (41, .dup2, 0, 0, 0, 0, 0, 0), (42, .iaload, 0, 0, 0, 0, 0, 0), (43, .iconst 1, 0, 0, 0, 0, 0, 1), (44, .iadd, 0, 0, 0, 0, 0, 0), (45, .iastore, 0, 0, 0, 0, 0, 0), (46, .iinc 1 1, 0, 0, 0, 0, 0, 1), (49, .goto (-27), 11, 0, 0, 0, 0, 0), (52, .iconst 1, 0, 0, 0, 0, 0, 1), (53, .ireturn, 0, 0, 0, 0, 0, 0)]
def am_t70 : List am_I := [(0, .aload_n 0, 0, 0, 0, 0, 0, 0), (1, .iload_n 1, 0, 0, 0, 0, 0, 0), (2, .invokevirtual 111, 89, 2, 6, 0, 69, 0), (5, .ifCond .ne 5, 6, 0, 0, 0, 0, 0), (8, .iconst (-1), 0, 0, 0, 0, 0, -1), (9, .ireturn, 0, 0, 0, 0, 0, 0), (10, .aload_n 0, 0, 0, 0, 0, 0, 0), (11, .getfield 28, 6, 2, 0, 0, 60, 0), (14, .getfield 132, 4, 10, 0, 0, 79, 0), (17, .iload_n 1, 0, 0, 0, 0, 0, 0), (18, .iaload, 0, 0, 0, 0, 0, 0), (19, .istore_n 2, 0, 0, 0, 0, 0, 0), (20, .aload_n 0, 0, 0, 0, 0, 0, 0), (21, .getfield 28, 6, 2, 0, 0, 60, 0), (24, .getfield 132, 4, 10, 0, 0, 79, 0), (27, .iload_n 1, 0, 0, 0, 0, 0, 0), (28, .iconst 0, 0, 0, 0, 0, 0, 0), (29, .iastore, 0, 0, 0, 0, 0, 0), (30, .iload_n 2, 0, 0, 0, 0, 0, 0), (31, .ireturn, 0, 0, 0, 0, 0, 0)]
def am_t71 : List am_I := [(0, .iload_n 1, 0, 0, 0, 0, 0, 0), (1, .iconst 0, 0, 0, 0, 0, 0, 0), (2, .sipush 999, 0, 0, 0, 0, 0, 999), (5, .invokestatic 103, 88, 3, 6, 0, 68, 0), (8, .ifCond .ne 5, 7, 0, 0, 0, 0, 0), (11, .iconst (-1), 0, 0, 0, 0, 0, -1), (12, .ireturn, 0, 0, 0, 0, 0, 0), (13, .aload_n 0, 0, 0, 0, 0, 0, 0), (14, .getfield 32, 6, 3, 0, 0, 61, 0), (17, .aload_n 0, 0, 0, 0, 0, 0, 0), (18, .getfield 10, 6, 0, 0, 0, 58, 0), (21, .invokevirtual 87, 52, 2, 5, 0, 65, 0), (24, .iconst 0, 0, 0, 0, 0, 0, 0), (25, .istore_n 2, 0, 0, 0, 0, 0, 0), (26, .iload_n 2, 0, 0, 0, 0, 0, 0), (27, .aload_n 0, 0, 0, 0, 0, 0, 0), (28, .getfield 10, 6, 0, 0, 0, 58, 0), (31, .getfield 184, 5, 5, 0, 0, 87, 0), (34, .if_icmp .gt 27, 31, 0, 0, 0, 0, 0), (37, .aload_n 0, 0, 0, 0, 0, 0, 0), (38, .iload_n 2, 0, 0, 0, 0, 0, 0), (39, .invokevirtual 187, 91, 2, 6, 0, 81, 0), (42, .aload_n 0, 0, 0, 0, 0, 0, 0), (43, .getfield 35, 6, 4, 0, 0, 62, 0), (46, .invokevirtual 169, 43, 1, 4, 0, 77, 0), (49, .iload_n 1, 0, 0, 0, 0, 0, 0), (50, .if_icmp .lt 5, 29, 0, 0, 0, 0, 0), (53, .iload_n 2, 0, 0, 0, 0, 0, 0), (54, .ireturn, 0, 0, 0, 0, 0, 0), (55, .iinc 2 1, 0, 0, 0, 0, 0, 1), (58, .goto (-32), 14, 0, 0, 0, 0, 0), (61, .bipush (-9), 0, 0, 0, 0, 0, -9), (63, .ireturn, 0, 0, 0, 0, 0, 0)]
def am_t72 : List am_I := [(0, .iload_n 1, 0, 0, 0, 0, 0, 0), (1, .iconst 0, 0, 0, 0, 0, 0, 0), (2, .getstatic 191, 3, 0, 0, 0, 3, 0), (5, .arraylength, 0, 0, 0, 0, 0, 0), (6, .iconst 1, 0, 0, 0, 0, 0, 1), (7, .isub, 0, 0, 0, 0, 0, 0), (8, .invokestatic 103, 88, 3, 6, 0, 68, 0), (11, .ifCond .eq 12, 13, 0, 0, 0, 0, 0), (14, .iload_n 3, 0, 0, 0, 0, 0, 0), (15, .iconst 0, 0, 0, 0, 0, 0, 0), (16, .iconst 2, 0, 0, 0, 0, 0, 2), (17, .invokestatic 103, 88, 3, 6, 0, 68, 0), (20, .ifCond .ne 5, 15, 0, 0, 0, 0, 0), (23, .iconst (-1), 0, 0, 0, 0, 0, -1), (24, .ireturn, 0, 0, 0, 0, 0, 0), (25, .getstatic 191, 3, 0, 0, 0, 3, 0), (28, .iload_n 1, 0, 0, 0, 0, 0, 0), (29, .iaload, 0, 0, 0, 0, 0, 0), (30, .istore 4, 0, 0, 0, 0, 0, 0), (32, .iload 4, 0, 0, 0, 0, 0, 0), (34, .bipush 7, 0, 0, 0, 0, 0, 7), (36, .if_icmp .ne 7, 24, 0, 0, 0, 0, 0), (39, .iconst 0, 0, 0, 0, 0, 0, 0), (40, .goto 9, 27, 0, 0, 0, 0, 0), (43, .getstatic 194, 1, 0, 0, 0, 4, 0), (46, .iload 4, 0, 0, 0, 0, 0, 0), (48, .iaload, 0, 0, 0, 0, 0, 0), (49, .istore 5, 0, 0, 0, 0, 0, 0), (51, .iload_n 2, 0, 0, 0, 0, 0, 0), (52, .iload 5, 0, 0, 0, 0, 0, 0), (54, .getstatic 197, 2, 0, 0, 0, 5, 0), (57, .iload 4, 0, 0, 0, 0, 0, 0), (59, .iaload, 0, 0, 0, 0, 0, 0), (60, .invokestatic 103, 88, 3, 6, 0, 68, 0), (63, .ifCond .ne 5, 37, 0, 0, 0, 0, 0), (66, .iconst (-1), 0, 0, 0, 0, 0, -1), (67, .ireturn, 0, 0, 0, 0, 0, 0), (68, .aload_n 0, 0, 0, 0, 0, 0, 0), (69, .getfield 32, 6, 3, 0, 0, 61, 0), (72, .aload_n 0, 0, 0, 0, 0, 0, 0), (73, .getfield 10, 6, 0, 0, 0, 58, 0), (76, .invokevirtual 87, 52, 2, 5, 0, 65, 0), (79, .aload_n 0, 0, 0, 0, 0, 0, 0), (80, .getfield 32, 6, 3, 0, 0, 61, 0), (83, .getfield 107, 5, 0, 0, 0, 74, 0), (86, .iload 4, 0, 0, 0, 0, 0, 0), (88, .iload_n 2, 0, 0, 0, 0, 0, 0), (89, .iastore, 0, 0, 0, 0, 0, 0), (90, .aload_n 0, 0, 0, 0, 0, 0, 0), (91, .iconst 0, 0, 0, 0, 0, 0, 0), (92, .invokevirtual 187, 91, 2, 6, 0, 81, 0), (95, .iload_n 3, 0, 0, 0, 0, 0, 0), (96, .lookupswitch 44 #[(0, 28), (1, 36)], 4, 0, 0, 0, 0, 0), (124, .aload_n 0, 0, 0, 0, 0, 0, 0), (125, .getfield 35, 6, 4, 0, 0, 62, 0), (128, .invokevirtual 169, 43, 1, 4, 0, 77, 0), (131, .ireturn, 0, 0, 0, 0, 0, 0), (132, .aload_n 0, 0, 0, 0, 0, 0, 0), (133, .getfield 35, 6, 4, 0, 0, 62, 0), (136, .invokevirtual 179, 45, 1, 4, 0, 80, 0), (139, .ireturn, 0, 0, 0, 0, 0, 0), (140, .aload_n 0, 0, 0, 0, 0, 0, 0), (141, .getfield 35, 6, 4, 0, 0, 62, 0), (144, .getfield 160, 4, 4, 0, 0, 83, 0), (147, .ireturn, 0, 0, 0, 0, 0, 0)]
def am_t73 : List am_I := [(0, .aload_n 0, 0, 0, 0, 0, 0, 0), (1, .getfield 28, 6, 2, 0, 0, 60, 0), (4, .getfield 66, 4, 6, 0, 0, 68, 0), (7, .istore_n 2, 0, 0, 0, 0, 0, 0), (8, .aload_n 0, 0, 0, 0, 0, 0, 0), (9, .getfield 28, 6, 2, 0, 0, 60, 0), (12, .iload_n 1, 0, 0, 0, 0, 0, 0), (13, .putfield 66, 4, 6, 0, 0, 68, 0), (16, .iload_n 2, 0, 0, 0, 0, 0, 0), (17, .ireturn, 0, 0, 0, 0, 0, 0)]
def am_t74 : List am_I := [(0, .iload_n 1, 0, 0, 0, 0, 0, 0), (1, .iconst 0, 0, 0, 0, 0, 0, 0), (2, .iconst 2, 0, 0, 0, 0, 0, 2), (3, .invokestatic 103, 88, 3, 6, 0, 68, 0), (6, .ifCond .eq 13, 10, 0, 0, 0, 0, 0), (9, .iload_n 2, 0, 0, 0, 0, 0, 0), (10, .iconst 0, 0, 0, 0, 0, 0, 0), (11, .bipush 99, 0, 0, 0, 0, 0, 99), (13, .invokestatic 103, 88, 3, 6, 0, 68, 0), (16, .ifCond .ne 5, 12, 0, 0, 0, 0, 0), (19, .iconst (-1), 0, 0, 0, 0, 0, -1), (20, .ireturn, 0, 0, 0, 0, 0, 0), (21, .aload_n 0, 0, 0, 0, 0, 0, 0), (22, .getfield 51, 6, 7, 0, 0, 65, 0), (25, .iload_n 1, 0, 0, 0, 0, 0, 0), (26, .iload_n 2, 0, 0, 0, 0, 0, 0), (27, .invokevirtual 200, 19, 3, 3, 0, 82, 0), (30, .ireturn, 0, 0, 0, 0, 0, 0)]
def am_t75 : List am_I := [(0, .iload_n 1, 0, 0, 0, 0, 0, 0), (1, .iconst 2, 0, 0, 0, 0, 0, 2), (2, .iconst 3, 0, 0, 0, 0, 0, 3), (3, .invokestatic 103, 88, 3, 6, 0, 68, 0), (6, .ifCond .eq 22, 15, 0, 0, 0, 0, 0), (9, .iload_n 2, 0, 0, 0, 0, 0, 0), (10, .iconst 1, 0, 0, 0, 0, 0, 1), (11, .bipush 8, 0, 0, 0, 0, 0, 8), (13, .invokestatic 103, 88, 3, 6, 0, 68, 0), (16, .ifCond .eq 12, 15, 0, 0, 0, 0, 0), (19, .iload_n 3, 0, 0, 0, 0, 0, 0), (20, .iconst 0, 0, 0, 0, 0, 0, 0), (21, .iconst 1, 0, 0, 0, 0, 0, 1), (22, .invokestatic 103, 88, 3, 6, 0, 68, 0), (25, .ifCond .ne 5, 17, 0, 0, 0, 0, 0), (28, .iconst (-1), 0, 0, 0, 0, 0, -1), (29, .ireturn, 0, 0, 0, 0, 0, 0), (30, .aload_n 0, 0, 0, 0, 0, 0, 0), (31, .getfield 51, 6, 7, 0, 0, 65, 0), (34, .iload_n 1, 0, 0, 0, 0, 0, 0), (35, .iload_n 2, 0, 0, 0, 0, 0, 0), (36, .invokevirtual 203, 21, 3, 3, 0, 83, 0), (39, .iload_n 3, 0, 0, 0, 0, 0, 0), (40, .ifCond .ne 13, 28, 0, 0, 0, 0, 0), (43, .aload_n 0, 0, 0, 0, 0, 0, 0), (44, .getfield 51, 6, 7, 0, 0, 65, 0), (47, .getfield 207, 3, 3, 0, 0, 88, 0), (50, .goto 10, 31, 0, 0, 0, 0, 0), (53, .aload_n 0, 0, 0, 0, 0, 0, 0), (54, .getfield 51, 6, 7, 0, 0, 65, 0), (57, .getfield 210, 3, 4, 0, 0, 89, 0), (60, .ireturn, 0, 0, 0, 0, 0, 0)]
def am_t76 : List am_I := [(0, .iload_n 1, 0, 0, 0, 0, 0, 0), (1, .iconst 0, 0, 0, 0, 0, 0, 0), (2, .bipush 9, 0, 0, 0, 0, 0, 9), (4, .invokestatic 103, 88, 3, 6, 0, 68, 0), (7, .ifCond .eq 13, 10, 0, 0, 0, 0, 0), (10, .iload_n 2, 0, 0, 0, 0, 0, 0), (11, .iconst 0, 0, 0, 0, 0, 0, 0), (12, .bipush 9, 0, 0, 0, 0, 0, 9), (14, .invokestatic 103, 88, 3, 6, 0, 68, 0), (17, .ifCond .ne 5, 12, 0, 0, 0, 0, 0), (20, .iconst (-1), 0, 0, 0, 0, 0, -1), (21, .ireturn, 0, 0, 0, 0, 0, 0), (22, .iload_n 3, 0, 0, 0, 0, 0, 0), (23, .iconst 0, 0, 0, 0, 0, 0, 0), (24, .aload_n 0, 0, 0, 0, 0, 0, 0), (25, .getfield 51, 6, 7, 0, 0, 65, 0), (28, .getfield 213, 3, 1, 0, 0, 90, 0), (31, .iload_n 1, 0, 0, 0, 0, 0, 0), (32, .iaload, 0, 0, 0, 0, 0, 0), (33, .invokestatic 103, 88, 3, 6, 0, 68, 0), (36, .ifCond .ne 5, 23, 0, 0, 0, 0, 0), (39, .iconst (-1), 0, 0, 0, 0, 0, -1), (40, .ireturn, 0, 0, 0, 0, 0, 0), (41, .aload_n 0, 0, 0, 0, 0, 0, 0), (42, .getfield 51, 6, 7, 0, 0, 65, 0), (45, .getfield 213, 3, 1, 0, 0, 90, 0), (48, .iload_n 1, 0, 0, 0, 0, 0, 0), (49, .dup2, 0, 0, 0, 0, 0, 0), (50, .iaload, 0, 0, 0, 0, 0, 0), (51, .iload_n 3, 0, 0, 0, 0, 0, 0), (52, .isub, 0, 0, 0, 0, 0, 0), (53, .iastore, 0, 0, 0, 0, 0, 0), (54, .aload_n 0, 0, 0, 0, 0, 0, 0), (55, .getfield 51, 6, 7, 0, 0, 65, 0), (58, .getfield 213, 3, 1, 0, 0, 90, 0), (61, .iload_n 2, 0, 0, 0, 0, 0, 0), (62, .dup2, 0, 0, 0, 0, 0, 0), (63, .iaload, 0, 0, 0, 0, 0, 0), (64, .iload_n 3, 0, 0, 0, 0, 0, 0), (65, .iadd, 0, 0, 0, 0, 0, 0), (66, .iastore, 0, 0, 0, 0, 0, 0), (67, .aload_n 0, 0, 0, 0, 0, 0, 0), (68, .getfield 51, 6, 7, 0, 0, 65, 0), (71, .getfield 213, 3, 1, 0, 0, 90, 0), (74, .iload_n 2, 0, 0, 0, 0, 0, 0), (75, .iaload, 0, 0, 0, 0, 0, 0), (76, .ireturn, 0, 0, 0, 0, 0, 0)]
def am_t77 : List am_I := [(0, .iload_n 1, 0, 0, 0, 0, 0, 0), (1, .iconst 0, 0, 0, 0, 0, 0, 0), (2, .iconst 1, 0, 0, 0, 0, 0, 1), (3, .invokestatic 103, 88, 3, 6, 0, 68, 0), (6, .ifCond .ne 5, 7, 0, 0, 0, 0, 0), (9, .iconst (-1), 0, 0, 0, 0, 0, -1), (10, .ireturn, 0, 0, 0, 0, 0, 0), (11, .aload_n 0, 0, 0, 0, 0, 0, 0), (12, .getfield 51, 6, 7, 0, 0, 65, 0), (15, .invokevirtual 216, 26, 1, 3, 0, 84, 0), (18, .istore_n 2, 0, 0, 0, 0, 0, 0), (19, .iload_n 1, 0, 0, 0, 0, 0, 0), (20, .ifCond .ne 7, 15, 0, 0, 0, 0, 0), (23, .iload_n 2, 0, 0, 0, 0, 0, 0), (24, .goto 11, 19, 0, 0, 0, 0, 0), (27, .aload_n 0, 0, 0, 0, 0, 0, 0), (28, .getfield 51, 6, 7, 0, 0, 65, 0), (31, .iload_n 2, 0, 0, 0, 0, 0, 0), (32, .invokevirtual 219, 25, 2, 3, 0, 85, 0), (35, .ireturn, 0, 0, 0, 0, 0, 0)]
def am_t78 : List am_I := [(0, .iload_n 1, 0, 0, 0, 0, 0, 0), (1, .iconst 0, 0, 0, 0, 0, 0, 0), (2, .sipush 999, 0, 0, 0, 0, 0, 999), (5, .invokestatic 103, 88, 3, 6, 0, 68, 0), (8, .ifCond .ne 5, 7, 0, 0, 0, 0, 0), (11, .iconst (-1), 0, 0, 0, 0, 0, -1), (12, .ireturn, 0, 0, 0, 0, 0, 0), (13, .aload_n 0, 0, 0, 0, 0, 0, 0), (14, .getfield 58, 6, 8, 0, 0, 66, 0), (17, .iload_n 1, 0, 0, 0, 0, 0, 0), (18, .invokevirtual 222, 1, 2, 0, 0, 86, 0), (21, .ifCond .eq 13, 16, 0, 0, 0, 0, 0), (24, .aload_n 0, 0, 0, 0, 0, 0, 0), (25, .getfield 58, 6, 8, 0, 0, 66, 0), (28, .getfield 224, 0, 1, 0, 0, 91, 0), (31, .goto 5, 17, 0, 0, 0, 0, 0), (34, .bipush (-3), 0, 0, 0, 0, 0, -3), (36, .ireturn, 0, 0, 0, 0, 0, 0)]
def am_t79 : List am_I := [(0, .iload_n 1, 0, 0, 0, 0, 0, 0), (1, .iconst 0, 0, 0, 0, 0, 0, 0), (2, .bipush 99, 0, 0, 0, 0, 0, 99), (4, .invokestatic 103, 88, 3, 6, 0, 68, 0), (7, .ifCond .eq 12, 10, 0, 0, 0, 0, 0), (10, .iload_n 2, 0, 0, 0, 0, 0, 0), (11, .iconst 0, 0, 0, 0, 0, 0, 0), (12, .iconst 3, 0, 0, 0, 0, 0, 3), (13, .invokestatic 103, 88, 3, 6, 0, 68, 0), (16, .ifCond .ne 5, 12, 0, 0, 0, 0, 0), (19, .iconst (-1), 0, 0, 0, 0, 0, -1), (20, .ireturn, 0, 0, 0, 0, 0, 0), (21, .aload_n 0, 0, 0, 0, 0, 0, 0), (22, .getfield 58, 6, 8, 0, 0, 66, 0), (25, .getfield 224, 0, 1, 0, 0, 91, 0), (28, .iconst 3, 0, 0, 0, 0, 0, 3), (29, .if_icmp .ge 6, 19, 0, 0, 0, 0, 0), (32, .bipush (-2), 0, 0, 0, 0, 0, -2), (34, .ireturn, 0, 0, 0, 0, 0, 0), (35, .aload_n 0, 0, 0, 0, 0, 0, 0), (36, .getfield 58, 6, 8, 0, 0, 66, 0), (39, .aload_n 0, 0, 0, 0, 0, 0, 0), (40, .getfield 10, 6, 0, 0, 0, 58, 0), (43, .iload_n 1, 0, 0, 0, 0, 0, 0), (44, .invokevirtual 227, 2, 3, 0, 0, 87, 0), (47, .iload_n 2, 0, 0, 0, 0, 0, 0), (48, .tableswitch 63 0 2 #[28, 36, 44], 5, 0, 0, 0, 0, 0), (76, .aload_n 0, 0, 0, 0, 0, 0, 0), (77, .getfield 58, 6, 8, 0, 0, 66, 0), (80, .getfield 231, 0, 2, 0, 0, 92, 0), (83, .ireturn, 0, 0, 0, 0, 0, 0), (84, .aload_n 0, 0, 0, 0, 0, 0, 0), (85, .getfield 58, 6, 8, 0, 0, 66, 0), (88, .getfield 234, 0, 3, 0, 0, 93, 0), (91, .ireturn, 0, 0, 0, 0, 0, 0), (92, .bipush 10, 0, 0, 0, 0, 0, 10), (94, .aload_n 0, 0, 0, 0, 0, 0, 0), (95, .getfield 58, 6, 8, 0, 0, 66, 0), (98, .getfield 231, 0, 2, 0, 0, 92, 0), (101, .isub, 0, 0, 0, 0, 0, 0), (102, .aload_n 0, 0, 0, 0, 0, 0, 0), (103, .getfield 58, 6, 8, 0, 0, 66, 0), (106, .getfield 234, 0, 3, 0, 0, 93, 0), (109, .isub, 0, 0, 0, 0, 0, 0), (110, .ireturn, 0, 0, 0, 0, 0, 0), (111, .aload_n 0, 0, 0, 0, 0, 0, 0), (112, .getfield 58, 6, 8, 0, 0, 66, 0), (115, .getfield 237, 0, 4, 0, 0, 94, 0), (118, .ireturn, 0, 0, 0, 0, 0, 0)]
def am_t80 : List am_I := [(0, .aload_n 0, 0, 0, 0, 0, 0, 0), (1, .iload_n 1, 0, 0, 0, 0, 0, 0), (2, .invokevirtual 111, 89, 2, 6, 0, 69, 0), (5, .ifCond .eq 14, 9, 0, 0, 0, 0, 0), (8, .iload_n 2, 0, 0, 0, 0, 0, 0), (9, .iconst 0, 0, 0, 0, 0, 0, 0), (10, .sipush 999, 0, 0, 0, 0, 0, 999), (13, .invokestatic 103, 88, 3, 6, 0, 68, 0), (16, .ifCond .ne 5, 11, 0, 0, 0, 0, 0), (19, .iconst (-1), 0, 0, 0, 0, 0, -1), (20, .ireturn, 0, 0, 0, 0, 0, 0), (21, .aload_n 0, 0, 0, 0, 0, 0, 0), (22, .getfield 28, 6, 2, 0, 0, 60, 0), (25, .invokevirtual 145, 31, 1, 4, 0, 74, 0), (28, .ifCond .eq 6, 17, 0, 0, 0, 0, 0), (31, .bipush (-2), 0, 0, 0, 0, 0, -2), (33, .ireturn, 0, 0, 0, 0, 0, 0), (34, .aload_n 0, 0, 0, 0, 0, 0, 0), (35, .getfield 28, 6, 2, 0, 0, 60, 0), (38, .getfield 240, 4, 11, 0, 0, 95, 0), (41, .iload_n 1, 0, 0, 0, 0, 0, 0), (42, .iaload, 0, 0, 0, 0, 0, 0), (43, .istore_n 3, 0, 0, 0, 0, 0, 0), (44, .aload_n 0, 0, 0, 0, 0, 0, 0), (45, .getfield 28, 6, 2, 0, 0, 60, 0), (48, .getfield 240, 4, 11, 0, 0, 95, 0), (51, .iload_n 1, 0, 0, 0, 0, 0, 0), (52, .iload_n 2, 0, 0, 0, 0, 0, 0), (53, .iastore, 0, 0, 0, 0, 0, 0), (54, .iload_n 3, 0, 0, 0, 0, 0, 0), (55, .ireturn, 0, 0, 0, 0, 0, 0)]
def am_t81 : List am_I := [(0, .aload_n 0, 0, 0, 0, 0, 0, 0), (1, .iload_n 1, 0, 0, 0, 0, 0, 0), (2, .invokevirtual 111, 89, 2, 6, 0, 69, 0), (5, .ifCond .eq 12, 9, 0, 0, 0, 0, 0), (8, .iload_n 2, 0, 0, 0, 0, 0, 0), (9, .iconst 0, 0, 0, 0, 0, 0, 0), (10, .iconst 1, 0, 0, 0, 0, 0, 1), (11, .invokestatic 103, 88, 3, 6, 0, 68, 0), (14, .ifCond .ne 5, 11, 0, 0, 0, 0, 0), (17, .iconst (-1), 0, 0, 0, 0, 0, -1), (18, .ireturn, 0, 0, 0, 0, 0, 0), (19, .iload_n 2, 0, 0, 0, 0, 0, 0), (20, .ifCond .ne 15, 19, 0, 0, 0, 0, 0), (23, .aload_n 0, 0, 0, 0, 0, 0, 0), (24, .getfield 28, 6, 2, 0, 0, 60, 0), (27, .getfield 243, 4, 12, 0, 0, 96, 0), (30, .iload_n 1, 0, 0, 0, 0, 0, 0), (31, .iaload, 0, 0, 0, 0, 0, 0), (32, .goto 12, 24, 0, 0, 0, 0, 0), (35, .aload_n 0, 0, 0, 0, 0, 0, 0), (36, .getfield 28, 6, 2, 0, 0, 60, 0), (39, .getfield 246, 4, 13, 0, 0, 97, 0), (42, .iload_n 1, 0, 0, 0, 0, 0, 0), (43, .iaload, 0, 0, 0, 0, 0, 0), (44, .ireturn, 0, 0, 0, 0, 0, 0)]
def am_t82 : List am_I := [(0, .aload_n 0, 0, 0, 0, 0, 0, 0), (1, .getfield 28, 6, 2, 0, 0, 60, 0), (4, .invokevirtual 249, 46, 1, 4, 0, 88, 0), (7, .ireturn, 0, 0, 0, 0, 0, 0)]
def am_t83 : List am_I := [(0, .iload_n 1, 0, 0, 0, 0, 0, 0), (1, .iconst 0, 0, 0, 0, 0, 0, 0), (2, .bipush 6, 0, 0, 0, 0, 0, 6), (4, .invokestatic 103, 88, 3, 6, 0, 68, 0), (7, .ifCond .eq 11, 9, 0, 0, 0, 0, 0), (10, .aload_n 0, 0, 0, 0, 0, 0, 0), (11, .iload_n 2, 0, 0, 0, 0, 0, 0), (12, .invokevirtual 111, 89, 2, 6, 0, 69, 0), (15, .ifCond .ne 6, 11, 0, 0, 0, 0, 0), (18, .ldc 115, 0, 0, 0, 0, 1, -1000000), (20, .ireturn, 0, 0, 0, 0, 0, 0), (21, .aload_n 0, 0, 0, 0, 0, 0, 0), (22, .iconst 0, 0, 0, 0, 0, 0, 0), (23, .iload_n 2, 0, 0, 0, 0, 0, 0), (24, .iconst 0, 0, 0, 0, 0, 0, 0), (25, .invokevirtual 252, 92, 4, 6, 0, 89, 0), (28, .istore_n 3, 0, 0, 0, 0, 0, 0), (29, .iload_n 1, 0, 0, 0, 0, 0, 0), (30, .ifCond .ne 5, 21, 0, 0, 0, 0, 0), (33, .iload_n 3, 0, 0, 0, 0, 0, 0), (34, .ireturn, 0, 0, 0, 0, 0, 0), (35, .getstatic 256, 4, 0, 0, 0, 6, 0), (38, .iload_n 1, 0, 0, 0, 0, 0, 0), (39, .iaload, 0, 0, 0, 0, 0, 0), (40, .istore 4, 0, 0, 0, 0, 0, 0), (42, .iload 4, 0, 0, 0, 0, 0, 0), (44, .ifCond .eq 12, 33, 0, 0, 0, 0, 0), (47, .aload_n 0, 0, 0, 0, 0, 0, 0), (48, .iload 4, 0, 0, 0, 0, 0, 0), (50, .iload_n 2, 0, 0, 0, 0, 0, 0), (51, .iload_n 3, 0, 0, 0, 0, 0, 0), (52, .invokevirtual 252, 92, 4, 6, 0, 89, 0), (55, .istore_n 3, 0, 0, 0, 0, 0, 0), (56, .aload_n 0, 0, 0, 0, 0, 0, 0), (57, .iload_n 1, 0, 0, 0, 0, 0, 0), (58, .iload_n 2, 0, 0, 0, 0, 0, 0), (59, .iload_n 3, 0, 0, 0, 0, 0, 0), (60, .invokevirtual 252, 92, 4, 6, 0, 89, 0), (63, .ireturn, 0, 0, 0, 0, 0, 0)]
def am_t84 : List am_I := [(0, .iload_n 1, 0, 0, 0, 0, 0, 0), (1, .iconst 0, 0, 0, 0, 0, 0, 0), (2, .iconst 1, 0, 0, 0, 0, 0, 1), (3, .invokestatic 103, 88, 3, 6, 0, 68, 0), (6, .ifCond .ne 5, 7, 0, 0, 0, 0, 0), (9, .iconst (-1), 0, 0, 0, 0, 0, -1), (10, .ireturn, 0, 0, 0, 0, 0, 0), (11, .aload_n 0, 0, 0, 0, 0, 0, 0), (12, .iload_n 1, 0, 0, 0, 0, 0, 0), (13, .invokevirtual 259, 90, 2, 6, 0, 90, 0), (16, .astore_n 2, 0, 0, 0, 0, 0, 0), (17, .aload_n 2, 0, 0, 0, 0, 0, 0), (18, .getfield 263, 1, 0, 0, 0, 98, 0), (21, .aload_n 0, 0, 0, 0, 0, 0, 0), (22, .getfield 28, 6, 2, 0, 0, 60, 0), (25, .invokevirtual 264, 30, 2, 4, 0, 91, 0), (28, .aload_n 2, 0, 0, 0, 0, 0, 0), (29, .iconst 1, 0, 0, 0, 0, 0, 1), (30, .putfield 96, 1, 1, 0, 1, 72, 0), (33, .aload_n 0, 0, 0, 0, 0, 0, 0), (34, .getfield 28, 6, 2, 0, 0, 60, 0), (37, .getfield 151, 4, 1, 0, 0, 80, 0), (40, .ireturn, 0, 0, 0, 0, 0, 0)]
def am_t85 : List am_I := [(0, .iload_n 1, 0, 0, 0, 0, 0, 0), (1, .iconst 0, 0, 0, 0, 0, 0, 0), (2, .iconst 1, 0, 0, 0, 0, 0, 1), (3, .invokestatic 103, 88, 3, 6, 0, 68, 0), (6, .ifCond .ne 5, 7, 0, 0, 0, 0, 0), (9, .iconst (-1), 0, 0, 0, 0, 0, -1), (10, .ireturn, 0, 0, 0, 0, 0, 0), (11, .aload_n 0, 0, 0, 0, 0, 0, 0), (12, .iload_n 1, 0, 0, 0, 0, 0, 0), (13, .invokevirtual 259, 90, 2, 6, 0, 90, 0), (16, .astore_n 2, 0, 0, 0, 0, 0, 0), (17, .aload_n 2, 0, 0, 0, 0, 0, 0), (18, .getfield 96, 1, 1, 0, 0, 72, 0), (21, .ifCond .ne 6, 16, 0, 0, 0, 0, 0), (24, .bipush (-2), 0, 0, 0, 0, 0, -2), (26, .ireturn, 0, 0, 0, 0, 0, 0), (27, .aload_n 0, 0, 0, 0, 0, 0, 0), (28, .getfield 28, 6, 2, 0, 0, 60, 0), (31, .aload_n 2, 0, 0, 0, 0, 0, 0), (32, .getfield 263, 1, 0, 0, 0, 98, 0), (35, .invokevirtual 264, 30, 2, 4, 0, 91, 0), (38, .aload_n 0, 0, 0, 0, 0, 0, 0), (39, .getfield 28, 6, 2, 0, 0, 60, 0), (42, .getfield 151, 4, 1, 0, 0, 80, 0), (45, .ireturn, 0, 0, 0, 0, 0, 0)]
def am_t86 : List am_I := [(0, .iload_n 1, 0, 0, 0, 0, 0, 0), (1, .tableswitch 89 0 4 #[35, 43, 58, 73, 81], 6, 0, 0, 0, 0, 0), (36, .aload_n 0, 0, 0, 0, 0, 0, 0), (37, .getfield 10, 6, 0, 0, 0, 58, 0), (40, .getfield 184, 5, 5, 0, 0, 87, 0), (43, .ireturn, 0, 0, 0, 0, 0, 0), (44, .aload_n 0, 0, 0, 0, 0, 0, 0), (45, .getfield 28, 6, 2, 0, 0, 60, 0), (48, .aload_n 0, 0, 0, 0, 0, 0, 0), (49, .getfield 28, 6, 2, 0, 0, 60, 0), (52, .getfield 125, 4, 9, 0, 0, 78, 0), (55, .invokevirtual 267, 48, 2, 4, 0, 92, 0), (58, .ireturn, 0, 0, 0, 0, 0, 0), (59, .aload_n 0, 0, 0, 0, 0, 0, 0), (60, .getfield 28, 6, 2, 0, 0, 60, 0), (63, .aload_n 0, 0, 0, 0, 0, 0, 0), (64, .getfield 28, 6, 2, 0, 0, 60, 0), (67, .getfield 122, 4, 8, 0, 0, 77, 0), (70, .invokevirtual 267, 48, 2, 4, 0, 92, 0), (73, .ireturn, 0, 0, 0, 0, 0, 0), (74, .aload_n 0, 0, 0, 0, 0, 0, 0), (75, .getfield 58, 6, 8, 0, 0, 66, 0), (78, .getfield 224, 0, 1, 0, 0, 91, 0), (81, .ireturn, 0, 0, 0, 0, 0, 0), (82, .aload_n 0, 0, 0, 0, 0, 0, 0), (83, .getfield 19, 6, 1, 0, 0, 59, 0), (86, .getfield 74, 2, 1, 0, 0, 69, 0), (89, .ireturn, 0, 0, 0, 0, 0, 0), (90, .iconst (-1), 0, 0, 0, 0, 0, -1), (91, .ireturn, 0, 0, 0, 0, 0, 0)]
def am_t87 : List am_I := [(0, .aload_n 0, 0, 0, 0, 0, 0, 0), (1, .getfield 62, 6, 9, 0, 0, 67, 0), (4, .lreturn, 0, 0, 0, 0, 0, 0)]
def am_t88 : List am_I := [(0, .iload_n 0, 0, 0, 0, 0, 0, 0), (1, .iload_n 1, 0, 0, 0, 0, 0, 0), (2, .if_icmp .lt 12, 8, 0, 0, 0, 0, 0), (5, .iload_n 0, 0, 0, 0, 0, 0, 0), (6, .iload_n 2, 0, 0, 0, 0, 0, 0), (7, .if_icmp .gt 7, 8, 0, 0, 0, 0, 0), (10, .iconst 1, 0, 0, 0, 0, 0, 1), (11, .goto 4, 9, 0, 0, 0, 0, 0), (14, .iconst 0, 0, 0, 0, 0, 0, 0), (15, .ireturn, 1, 0, 0, 0, 0, 0)]
def am_t89 : List am_I := [(0, .iload_n 1, 0, 0, 0, 0, 0, 0), (1, .iconst 0, 0, 0, 0, 0, 0, 0), (2, .aload_n 0, 0, 0, 0, 0, 0, 0), (3, .getfield 10, 6, 0, 0, 0, 58, 0), (6, .getfield 184, 5, 5, 0, 0, 87, 0), (9, .iconst 1, 0, 0, 0, 0, 0, 1), (10, .isub, 0, 0, 0, 0, 0, 0), (11, .invokestatic 103, 88, 3, 6, 0, 68, 0), (14, .ireturn, 1, 0, 0, 0, 0, 0)]
def am_t90 : List am_I := [(0, .iload_n 1, 0, 0, 0, 0, 0, 0), (1, .ifCond .ne 10, 5, 0, 0, 0, 0, 0), (4, .aload_n 0, 0, 0, 0, 0, 0, 0), (5, .getfield 41, 6, 5, 0, 0, 63, 0), (8, .goto 7, 7, 0, 0, 0, 0, 0), (11, .aload_n 0, 0, 0, 0, 0, 0, 0), (12, .getfield 45, 6, 6, 0, 0, 64, 0), (15, .areturn, 0, 0, 0, 0, 0, 0)]
def am_t91 : List am_I := [(0, .aload_n 0, 0, 0, 0, 0, 0, 0), (1, .getfield 35, 6, 4, 0, 0, 62, 0), (4, .aload_n 0, 0, 0, 0, 0, 0, 0), (5, .getfield 28, 6, 2, 0, 0, 60, 0), (8, .invokevirtual 264, 30, 2, 4, 0, 91, 0), (11, .iconst 0, 0, 0, 0, 0, 0, 0), (12, .istore_n 2, 0, 0, 0, 0, 0, 0), (13, .iload_n 2, 0, 0, 0, 0, 0, 0), (14, .iload_n 1, 0, 0, 0, 0, 0, 0), (15, .if_icmp .ge 25, 21, 0, 0, 0, 0, 0), (18, .iload_n 2, 0, 0, 0, 0, 0, 0), (19, .bipush 9, 0, 0, 0, 0, 0, 9), (21, .if_icmp .ge 19, 21, 0, 0, 0, 0, 0), (24, .aload_n 0, 0, 0, 0, 0, 0, 0), (25, .getfield 35, 6, 4, 0, 0, 62, 0), (28, .getfield 132, 4, 10, 0, 0, 79, 0), (31, .iload_n 2, 0, 0, 0, 0, 0, 0), (32, .iconst 0, 0, 0, 0, 0, 0, 0), (33, .iastore, 0, 0, 0, 0, 0, 0), (34, .iinc 2 1, 0, 0, 0, 0, 0, 1), (37, .goto (-24), 7, 0, 0, 0, 0, 0), (40, .aload_n 0, 0, 0, 0, 0, 0, 0), (41, .getfield 35, 6, 4, 0, 0, 62, 0), (44, .invokevirtual 93, 28, 1, 4, 0, 67, 0), (47, .aload_n 0, 0, 0, 0, 0, 0, 0), (48, .getfield 35, 6, 4, 0, 0, 62, 0), (51, .bipush 20, 0, 0, 0, 0, 0, 20), (53, .invokevirtual 148, 34, 2, 4, 0, 75, 0), (56, .pop, 0, 0, 0, 0, 0, 0), (57, .return_, 0, 0, 0, 0, 0, 0)]
def am_t92 : List am_I := [(0, .aload_n 0, 0, 0, 0, 0, 0, 0), (1, .dup, 0, 0, 0, 0, 0, 0), (2, .getfield 62, 6, 9, 0, 0, 67, 0), (5, .getstatic 271, 5, 0, 0, 0, 7, 0), (8, .iload_n 1, 0, 0, 0, 0, 0, 0), (9, .iaload, 0, 0, 0, 0, 0, 0), (10, .i2l, 0, 0, 0, 0, 0, 0), (11, .ladd, 0, 0, 0, 0, 0, 0), (12, .putfield 62, 6, 9, 0, 2, 67, 0), (15, .iload_n 1, 0, 0, 0, 0, 0, 0), (16, .tableswitch 115 1 6 #[40, 67, 77, 87, 91, 103], 7, 0, 0, 0, 0, 0), (56, .iload_n 3, 0, 0, 0, 0, 0, 0), (57, .aload_n 0, 0, 0, 0, 0, 0, 0), (58, .getfield 28, 6, 2, 0, 0, 60, 0), (61, .getfield 125, 4, 9, 0, 0, 78, 0), (64, .iload_n 2, 0, 0, 0, 0, 0, 0), (65, .iaload, 0, 0, 0, 0, 0, 0), (66, .aload_n 0, 0, 0, 0, 0, 0, 0), (67, .getfield 10, 6, 0, 0, 0, 58, 0), (70, .aload_n 0, 0, 0, 0, 0, 0, 0), (71, .getfield 28, 6, 2, 0, 0, 60, 0), (74, .getfield 151, 4, 1, 0, 0, 80, 0), (77, .invokevirtual 135, 54, 2, 5, 0, 71, 0), (80, .imul, 0, 0, 0, 0, 0, 0), (81, .iadd, 0, 0, 0, 0, 0, 0), (82, .ireturn, 0, 0, 0, 0, 0, 0), (83, .iload_n 3, 0, 0, 0, 0, 0, 0), (84, .aload_n 0, 0, 0, 0, 0, 0, 0), (85, .getfield 28, 6, 2, 0, 0, 60, 0), (88, .getfield 154, 4, 2, 0, 0, 81, 0), (91, .iadd, 0, 0, 0, 0, 0, 0), (92, .ireturn, 0, 0, 0, 0, 0, 0), (93, .iload_n 3, 0, 0, 0, 0, 0, 0), (94, .aload_n 0, 0, 0, 0, 0, 0, 0), (95, .getfield 28, 6, 2, 0, 0, 60, 0), (98, .getfield 151, 4, 1, 0, 0, 80, 0), (101, .isub, 0, 0, 0, 0, 0, 0), (102, .ireturn, 0, 0, 0, 0, 0, 0), (103, .iconst 2, 0, 0, 0, 0, 0, 2), (104, .iload_n 3, 0, 0, 0, 0, 0, 0), (105, .imul, 0, 0, 0, 0, 0, 0), (106, .ireturn, 0, 0, 0, 0, 0, 0), (107, .iload_n 3, 0, 0, 0, 0, 0, 0), (108, .aload_n 0, 0, 0, 0, 0, 0, 0), (109, .getfield 28, 6, 2, 0, 0, 60, 0), (112, .getfield 132, 4, 10, 0, 0, 79, 0), (115, .iload_n 2, 0, 0, 0, 0, 0, 0), (116, .iaload, 0, 0, 0, 0, 0, 0), (117, .iadd, 0, 0, 0, 0, 0, 0), (118, .ireturn, 0, 0, 0, 0, 0, 0), (119, .iload_n 3, 0, 0, 0, 0, 0, 0), (120, .aload_n 0, 0, 0, 0, 0, 0, 0), (121, .getfield 28, 6, 2, 0, 0, 60, 0), (124, .getfield 125, 4, 9, 0, 0, 78, 0), (127, .iload_n 2, 0, 0, 0, 0, 0, 0), (128, .iaload, 0, 0, 0, 0, 0, 0), (129, .isub, 0, 0, 0, 0, 0, 0), (130, .ireturn, 0, 0, 0, 0, 0, 0), (131, .aload_n 0, 0, 0, 0, 0, 0, 0), (132, .getfield 28, 6, 2, 0, 0, 60, 0), (135, .getfield 122, 4, 8, 0, 0, 77, 0), (138, .iload_n 2, 0, 0, 0, 0, 0, 0), (139, .iaload, 0, 0, 0, 0, 0, 0), (140, .ireturn, 0, 0, 0, 0, 0, 0)]
def am_t93 : List am_I := [(0, .aload_n 0, 0, 0, 0, 0, 0, 0), (1, .invokespecial 1, 0, 0, 0, 5, 93, 0), (4, .aload_n 0, 0, 0, 0, 0, 0, 0), (5, .sipush 400, 0, 0, 0, 0, 0, 400), (8, .newarray .int, 0, 0, 0, 0, 0, 0), (10, .putfield 7, 7, 2, 0, 3, 99, 0), (13, .aload_n 0, 0, 0, 0, 0, 0, 0), (14, .bipush 20, 0, 0, 0, 0, 0, 20), (16, .newarray .int, 0, 0, 0, 0, 0, 0), (18, .putfield 13, 7, 9, 0, 3, 100, 0), (21, .aload_n 0, 0, 0, 0, 0, 0, 0), (22, .bipush 72, 0, 0, 0, 0, 0, 72), (24, .newarray .int, 0, 0, 0, 0, 0, 0), (26, .putfield 16, 7, 10, 0, 3, 101, 0), (29, .aload_n 0, 0, 0, 0, 0, 0, 0), (30, .bipush 80, 0, 0, 0, 0, 0, 80), (32, .newarray .int, 0, 0, 0, 0, 0, 0), (34, .putfield 19, 7, 13, 0, 3, 102, 0), (37, .aload_n 0, 0, 0, 0, 0, 0, 0), (38, .bipush 80, 0, 0, 0, 0, 0, 80), (40, .newarray .int, 0, 0, 0, 0, 0, 0), (42, .putfield 22, 7, 14, 0, 3, 103, 0), (45, .aload_n 0, 0, 0, 0, 0, 0, 0), (46, .sipush 160, 0, 0, 0, 0, 0, 160), (49, .newarray .int, 0, 0, 0, 0, 0, 0), (51, .putfield 25, 7, 15, 0, 3, 104, 0), (54, .aload_n 0, 0, 0, 0, 0, 0, 0), (55, .iconst 2, 0, 0, 0, 0, 0, 2), (56, .newarray .boolean, 0, 0, 0, 0, 0, 0), (58, .putfield 28, 7, 16, 0, 3, 105, 0), (61, .aload_n 0, 0, 0, 0, 0, 0, 0), (62, .bipush 9, 0, 0, 0, 0, 0, 9), (64, .newarray .int, 0, 0, 0, 0, 0, 0), (66, .putfield 32, 7, 17, 0, 3, 106, 0), (69, .aload_n 0, 0, 0, 0, 0, 0, 0), (70, .bipush 9, 0, 0, 0, 0, 0, 9), (72, .newarray .int, 0, 0, 0, 0, 0, 0), (74, .putfield 35, 7, 18, 0, 3, 107, 0), (77, .aload_n 0, 0, 0, 0, 0, 0, 0), (78, .bipush 9, 0, 0, 0, 0, 0, 9), (80, .newarray .int, 0, 0, 0, 0, 0, 0), (82, .putfield 38, 7, 19, 0, 3, 108, 0), (85, .aload_n 0, 0, 0, 0, 0, 0, 0), (86, .iconst 3, 0, 0, 0, 0, 0, 3), (87, .newarray .int, 0, 0, 0, 0, 0, 0), (89, .putfield 41, 7, 20, 0, 3, 109, 0), (92, .aload_n 0, 0, 0, 0, 0, 0, 0), (93, .iconst 3, 0, 0, 0, 0, 0, 3), (94, .newarray .int, 0, 0, 0, 0, 0, 0), (96, .putfield 44, 7, 21, 0, 3, 110, 0), (99, .aload_n 0, 0, 0, 0, 0, 0, 0), (100, .bipush 10, 0, 0, 0, 0, 0, 10), (102, .newarray .int, 0, 0, 0, 0, 0, 0), (104, .putfield 47, 7, 22, 0, 3, 111, 0), (107, .aload_n 0, 0, 0, 0, 0, 0, 0), (108, .bipush 12, 0, 0, 0, 0, 0, 12), (110, .newarray .int, 0, 0, 0, 0, 0, 0), (112, .putfield 50, 7, 23, 0, 3, 112, 0), (115, .aload_n 0, 0, 0, 0, 0, 0, 0), (116, .getfield 41, 7, 20, 0, 0, 109, 0), (119, .iconst 0, 0, 0, 0, 0, 0, 0), (120, .bipush 30, 0, 0, 0, 0, 0, 30), (122, .iastore, 0, 0, 0, 0, 0, 0), (123, .aload_n 0, 0, 0, 0, 0, 0, 0), (124, .getfield 41, 7, 20, 0, 0, 109, 0), (127, .iconst 1, 0, 0, 0, 0, 0, 1), (128, .iconst 5, 0, 0, 0, 0, 0, 5), (129, .iastore, 0, 0, 0, 0, 0, 0), (130, .aload_n 0, 0, 0, 0, 0, 0, 0), (131, .getfield 41, 7, 20, 0, 0, 109, 0), (134, .iconst 2, 0, 0, 0, 0, 0, 2), (135, .bipush 10, 0, 0, 0, 0, 0, 10), (137, .iastore, 0, 0, 0, 0, 0, 0), (138, .aload_n 0, 0, 0, 0, 0, 0, 0), (139, .getfield 47, 7, 22, 0, 0, 111, 0), (142, .bipush 9, 0, 0, 0, 0, 0, 9), (144, .bipush 10, 0, 0, 0, 0, 0, 10), (146, .iastore, 0, 0, 0, 0, 0, 0), (147, .aload_n 0, 0, 0, 0, 0, 0, 0), (148, .getfield 19, 7, 13, 0, 0, 102, 0), (151, .iconst 5, 0, 0, 0, 0, 0, 5), (152, .iconst 1, 0, 0, 0, 0, 0, 1), (153, .iastore, 0, 0, 0, 0, 0, 0), (154, .aload_n 0, 0, 0, 0, 0, 0, 0), (155, .invokevirtual 53, 106, 1, 7, 0, 94, 0), (158, .aload_n 0, 0, 0, 0, 0, 0, 0), (159, .invokevirtual 56, 112, 1, 7, 0, 95, 0), (162, .return_, 0, 0, 0, 0, 0, 0)]
def am_t94 : List am_I := [(0, .iload_n 0, 0, 0, 0, 0, 0, 0), (1, .iload_n 1, 0, 0, 0, 0, 0, 0), (2, .if_icmp .lt 12, 8, 0, 0, 0, 0, 0), (5, .iload_n 0, 0, 0, 0, 0, 0, 0), (6, .iload_n 2, 0, 0, 0, 0, 0, 0), (7, .if_icmp .gt 7, 8, 0, 0, 0, 0, 0), (10, .iconst 1, 0, 0, 0, 0, 0, 1), (11, .goto 4, 9, 0, 0, 0, 0, 0), (14, .iconst 0, 0, 0, 0, 0, 0, 0), (15, .ireturn, 1, 0, 0, 0, 0, 0)]
def am_t95 : List am_I := [(0, .iload_n 0, 0, 0, 0, 0, 0, 0), (1, .ifCond .ge 8, 5, 0, 0, 0, 0, 0), (4, .iload_n 0, 0, 0, 0, 0, 0, 0), (5, .ineg, 0, 0, 0, 0, 0, 0), (6, .goto 4, 6, 0, 0, 0, 0, 0), (9, .iload_n 0, 0, 0, 0, 0, 0, 0), (10, .ireturn, 0, 0, 0, 0, 0, 0)]
def am_t96 : List am_I := [(0, .aload_n 0, 0, 0, 0, 0, 0, 0), (1, .iconst 0, 0, 0, 0, 0, 0, 0), (2, .putfield 59, 7, 0, 0, 0, 113, 0), (5, .iload_n 3, 0, 0, 0, 0, 0, 0), (6, .iconst 1, 0, 0, 0, 0, 0, 1), (7, .bipush 8, 0, 0, 0, 0, 0, 8), (9, .invokestatic 63, 94, 3, 7, 0, 96, 0), (12, .ifCond .ne 5, 10, 0, 0, 0, 0, 0), (15, .iconst (-1), 0, 0, 0, 0, 0, -1), (16, .ireturn, 0, 0, 0, 0, 0, 0), (17, .aload_n 0, 0, 0, 0, 0, 0, 0), (18, .getfield 67, 7, 3, 0, 0, 114, 0), (21, .iload_n 3, 0, 0, 0, 0, 0, 0), (22, .iadd, 0, 0, 0, 0, 0, 0), (23, .sipush 400, 0, 0, 0, 0, 0, 400), (26, .if_icmp .le 6, 18, 0, 0, 0, 0, 0), (29, .bipush (-3), 0, 0, 0, 0, 0, -3), (31, .ireturn, 0, 0, 0, 0, 0, 0), (32, .iload_n 3, 0, 0, 0, 0, 0, 0), (33, .iconst 1, 0, 0, 0, 0, 0, 1), (34, .isub, 0, 0, 0, 0, 0, 0), (35, .istore 4, 0, 0, 0, 0, 0, 0), (37, .iload 4, 0, 0, 0, 0, 0, 0), (39, .ifCond .lt 40, 45, 0, 0, 0, 0, 0), (42, .aload_n 0, 0, 0, 0, 0, 0, 0), (43, .getfield 7, 7, 2, 0, 0, 99, 0), (46, .aload_n 0, 0, 0, 0, 0, 0, 0), (47, .getfield 67, 7, 3, 0, 0, 114, 0), (50, .lload_n 1, 0, 0, 0, 0, 0, 0), (51, .bipush 8, 0, 0, 0, 0, 0, 8), (53, .iload 4, 0, 0, 0, 0, 0, 0), (55, .imul, 0, 0, 0, 0, 0, 0), (56, .lshr, 0, 0, 0, 0, 0, 0), (57, .ldc2_w 70, 0, 0, 0, 0, 0, 0), (60, .land, 0, 0, 0, 0, 0, 0), (61, .l2i, 0, 0, 0, 0, 0, 0), (62, .iastore, 0, 0, 0, 0, 0, 0), (63, .aload_n 0, 0, 0, 0, 0, 0, 0), (64, .dup, 0, 0, 0, 0, 0, 0), (65, .getfield 67, 7, 3, 0, 0, 114, 0), (68, .iconst 1, 0, 0, 0, 0, 0, 1), (69, .iadd, 0, 0, 0, 0, 0, 0), (70, .putfield 67, 7, 3, 0, 0, 114, 0), (73, .iinc 4 (-1), 0, 0, 0, 0, 0, -1), (76, .goto (-39), 22, 0, 0, 0, 0, 0), (79, .aload_n 0, 0, 0, 0, 0, 0, 0), (80, .getfield 67, 7, 3, 0, 0, 114, 0), (83, .ireturn, 0, 0, 0, 0, 0, 0)]
def am_t97 : List am_I := [(0, .aload_n 0, 0, 0, 0, 0, 0, 0), (1, .iconst 0, 0, 0, 0, 0, 0, 0), (2, .putfield 59, 7, 0, 0, 0, 113, 0), (5, .aload_n 0, 0, 0, 0, 0, 0, 0), (6, .getfield 67, 7, 3, 0, 0, 114, 0), (9, .istore_n 1, 0, 0, 0, 0, 0, 0), (10, .aload_n 0, 0, 0, 0, 0, 0, 0), (11, .iconst 0, 0, 0, 0, 0, 0, 0), (12, .putfield 67, 7, 3, 0, 0, 114, 0), (15, .iload_n 1, 0, 0, 0, 0, 0, 0), (16, .ireturn, 0, 0, 0, 0, 0, 0)]
def am_t98 : List am_I := [(0, .iload_n 1, 0, 0, 0, 0, 0, 0), (1, .aload_n 0, 0, 0, 0, 0, 0, 0), (2, .getfield 67, 7, 3, 0, 0, 114, 0), (5, .if_icmp .ge 12, 9, 0, 0, 0, 0, 0), (8, .aload_n 0, 0, 0, 0, 0, 0, 0), (9, .getfield 7, 7, 2, 0, 0, 99, 0), (12, .iload_n 1, 0, 0, 0, 0, 0, 0), (13, .iaload, 0, 0, 0, 0, 0, 0), (14, .goto 4, 10, 0, 0, 0, 0, 0), (17, .iconst (-1), 0, 0, 0, 0, 0, -1), (18, .ireturn, 0, 0, 0, 0, 0, 0)]
def am_t99 : List am_I := [(0, .iload_n 2, 0, 0, 0, 0, 0, 0), (1, .ifCond .ne 7, 4, 0, 0, 0, 0, 0), (4, .lload_n 0, 0, 0, 0, 0, 0, 0), (5, .goto 11, 10, 0, 0, 0, 0, 0), (8, .ldc2_w 72, 1, 0, 0, 0, 0, 0), (11, .lload_n 0, 0, 0, 0, 0, 0, 0), (12, .lmul, 0, 0, 0, 0, 0, 0), (13, .iload_n 2, 0, 0, 0, 0, 0, 0), (14, .i2l, 0, 0, 0, 0, 0, 0), (15, .ladd, 0, 0, 0, 0, 0, 0), (16, .lreturn, 0, 0, 0, 0, 0, 0)]
def am_t100 : List am_I := [(0, .lconst 0, 0, 0, 0, 0, 0, 0), (1, .iload_n 0, 0, 0, 0, 0, 0, 0), (2, .invokestatic 74, 99, 2, 7, 0, 97, 0), (5, .iload_n 1, 0, 0, 0, 0, 0, 0), (6, .invokestatic 74, 99, 2, 7, 0, 97, 0), (9, .iload_n 2, 0, 0, 0, 0, 0, 0), (10, .invokestatic 74, 99, 2, 7, 0, 97, 0), (13, .iload_n 3, 0, 0, 0, 0, 0, 0), (14, .invokestatic 74, 99, 2, 7, 0, 97, 0), (17, .iload 4, 0, 0, 0, 0, 0, 0), (19, .invokestatic 74, 99, 2, 7, 0, 97, 0), (22, .iload 5, 0, 0, 0, 0, 0, 0), (24, .invokestatic 74, 99, 2, 7, 0, 97, 0), (27, .lreturn, 0, 0, 0, 0, 0, 0)]
def am_t101 : List am_I := [(0, .iload_n 2, 0, 0, 0, 0, 0, 0), (1, .bipush 8, 0, 0, 0, 0, 0, 8), (3, .if_icmp .ne 41, 21, 0, 0, 0, 0, 0), (6, .lload_n 0, 0, 0, 0, 0, 0, 0), (7, .bipush 109, 0, 0, 0, 0, 0, 109), (9, .bipush 105, 0, 0, 0, 0, 0, 105), (11, .bipush 115, 0, 0, 0, 0, 0, 115), (13, .bipush 116, 0, 0, 0, 0, 0, 116), (15, .bipush 97, 0, 0, 0, 0, 0, 97), (17, .bipush 107, 0, 0, 0, 0, 0, 107), (19, .invokestatic 78, 100, 6, 7, 0, 98, 0), (22, .bipush 101, 0, 0, 0, 0, 0, 101), (24, .invokestatic 74, 99, 2, 7, 0, 97, 0), (27, .bipush 110, 0, 0, 0, 0, 0, 110), (29, .invokestatic 74, 99, 2, 7, 0, 97, 0), (32, .lcmp, 0, 0, 0, 0, 0, 0), (33, .ifCond .ne 8, 19, 0, 0, 0, 0, 0), (36, .bipush 13, 0, 0, 0, 0, 0, 13), (38, .goto 5, 20, 0, 0, 0, 0, 0), (41, .bipush (-9), 0, 0, 0, 0, 0, -9), (43, .ireturn, 0, 0, 0, 0, 0, 0), (44, .iload_n 2, 0, 0, 0, 0, 0, 0), (45, .bipush 6, 0, 0, 0, 0, 0, 6), (47, .if_icmp .le 6, 26, 0, 0, 0, 0, 0), (50, .bipush (-9), 0, 0, 0, 0, 0, -9), (52, .ireturn, 0, 0, 0, 0, 0, 0), (53, .lload_n 0, 0, 0, 0, 0, 0, 0), (54, .bipush 114, 0, 0, 0, 0, 0, 114), (56, .bipush 111, 0, 0, 0, 0, 0, 111), (58, .bipush 117, 0, 0, 0, 0, 0, 117), (60, .bipush 110, 0, 0, 0, 0, 0, 110), (62, .bipush 100, 0, 0, 0, 0, 0, 100), (64, .bipush 115, 0, 0, 0, 0, 0, 115), (66, .invokestatic 78, 100, 6, 7, 0, 98, 0), (69, .lcmp, 0, 0, 0, 0, 0, 0), (70, .ifCond .ne 7, 38, 0, 0, 0, 0, 0), (73, .iconst 0, 0, 0, 0, 0, 0, 0), (74, .goto 93, 87, 0, 0, 0, 0, 0), (77, .lload_n 0, 0, 0, 0, 0, 0, 0), (78, .bipush 112, 0, 0, 0, 0, 0, 112), (80, .bipush 97, 0, 0, 0, 0, 0, 97), (82, .bipush 121, 0, 0, 0, 0, 0, 121), (84, .bipush 115, 0, 0, 0, 0, 0, 115), (86, .iconst 0, 0, 0, 0, 0, 0, 0), (87, .iconst 0, 0, 0, 0, 0, 0, 0), (88, .invokestatic 78, 100, 6, 7, 0, 98, 0), (91, .lcmp, 0, 0, 0, 0, 0, 0), (92, .ifCond .ne 7, 50, 0, 0, 0, 0, 0), (95, .iconst 1, 0, 0, 0, 0, 0, 1), (96, .goto 71, 87, 0, 0, 0, 0, 0), (99, .lload_n 0, 0, 0, 0, 0, 0, 0), (100, .bipush 101, 0, 0, 0, 0, 0, 101), (102, .bipush 110, 0, 0, 0, 0, 0, 110), (104, .bipush 100, 0, 0, 0, 0, 0, 100), (106, .iconst 0, 0, 0, 0, 0, 0, 0), (107, .iconst 0, 0, 0, 0, 0, 0, 0), (108, .iconst 0, 0, 0, 0, 0, 0, 0), (109, .invokestatic 78, 100, 6, 7, 0, 98, 0), (112, .lcmp, 0, 0, 0, 0, 0, 0), (113, .ifCond .ne 7, 62, 0, 0, 0, 0, 0), (116, .iconst 2, 0, 0, 0, 0, 0, 2), (117, .goto 50, 87, 0, 0, 0, 0, 0), (120, .lload_n 0, 0, 0, 0, 0, 0, 0), (121, .bipush 115, 0, 0, 0, 0, 0, 115), (123, .bipush 116, 0, 0, 0, 0, 0, 116), (125, .bipush 97, 0, 0, 0, 0, 0, 97), (127, .bipush 114, 0, 0, 0, 0, 0, 114), (129, .bipush 116, 0, 0, 0, 0, 0, 116), (131, .iconst 0, 0, 0, 0, 0, 0, 0), (132, .invokestatic 78, 100, 6, 7, 0, 98, 0), (135, .lcmp, 0, 0, 0, 0, 0, 0), (136, .ifCond .ne 7, 74, 0, 0, 0, 0, 0), (139, .iconst 3, 0, 0, 0, 0, 0, 3), (140, .goto 27, 87, 0, 0, 0, 0, 0), (143, .lload_n 0, 0, 0, 0, 0, 0, 0), (144, .bipush 108, 0, 0, 0, 0, 0, 108), (146, .bipush 101, 0, 0, 0, 0, 0, 101), (148, .bipush 110, 0, 0, 0, 0, 0, 110), (150, .bipush 116, 0, 0, 0, 0, 0, 116), (152, .iconst 0, 0, 0, 0, 0, 0, 0), (153, .iconst 0, 0, 0, 0, 0, 0, 0), (154, .invokestatic 78, 100, 6, 7, 0, 98, 0), (157, .lcmp, 0, 0, 0, 0, 0, 0), (158, .ifCond .ne 7, 86, 0, 0, 0, 0, 0), (161, .iconst 4, 0, 0, 0, 0, 0, 4), (162, .goto 5, 87, 0, 0, 0, 0, 0), (165, .bipush (-9), 0, 0, 0, 0, 0, -9), (167, .istore_n 3, 0, 0, 0, 0, 0, 0), (168, .lload_n 0, 0, 0, 0, 0, 0, 0), (169, .bipush 115, 0, 0, 0, 0, 0, 115), (171, .bipush 104, 0, 0, 0, 0, 0, 104), (173, .bipush 111, 0, 0, 0, 0, 0, 111), (175, .bipush 114, 0, 0, 0, 0, 0, 114), (177, .bipush 116, 0, 0, 0, 0, 0, 116), (179, .iconst 0, 0, 0, 0, 0, 0, 0), (180, .invokestatic 78, 100, 6, 7, 0, 98, 0), (183, .lcmp, 0, 0, 0, 0, 0, 0), (184, .ifCond .ne 7, 100, 0, 0, 0, 0, 0), (187, .iconst 5, 0, 0, 0, 0, 0, 5), (188, .goto 98, 149, 0, 0, 0, 0, 0), (191, .lload_n 0, 0, 0, 0, 0, 0, 0), (192, .bipush 108, 0, 0, 0, 0, 0, 108), (194, .bipush 105, 0, 0, 0, 0, 0, 105), (196, .bipush 100, 0, 0, 0, 0, 0, 100), (198, .iconst 0, 0, 0, 0, 0, 0, 0), (199, .iconst 0, 0, 0, 0, 0, 0, 0), (200, .iconst 0, 0, 0, 0, 0, 0, 0), (201, .invokestatic 78, 100, 6, 7, 0, 98, 0), (204, .lcmp, 0, 0, 0, 0, 0, 0), (205, .ifCond .ne 8, 112, 0, 0, 0, 0, 0), (208, .bipush 6, 0, 0, 0, 0, 0, 6), (210, .goto 76, 149, 0, 0, 0, 0, 0), (213, .lload_n 0, 0, 0, 0, 0, 0, 0), (214, .bipush 102, 0, 0, 0, 0, 0, 102), (216, .bipush 101, 0, 0, 0, 0, 0, 101), (218, .bipush 101, 0, 0, 0, 0, 0, 101), (220, .iconst 0, 0, 0, 0, 0, 0, 0), (221, .iconst 0, 0, 0, 0, 0, 0, 0), (222, .iconst 0, 0, 0, 0, 0, 0, 0), (223, .invokestatic 78, 100, 6, 7, 0, 98, 0), (226, .lcmp, 0, 0, 0, 0, 0, 0), (227, .ifCond .ne 8, 124, 0, 0, 0, 0, 0), (230, .bipush 7, 0, 0, 0, 0, 0, 7), (232, .goto 54, 149, 0, 0, 0, 0, 0), (235, .lload_n 0, 0, 0, 0, 0, 0, 0), (236, .bipush 115, 0, 0, 0, 0, 0, 115), (238, .bipush 97, 0, 0, 0, 0, 0, 97), (240, .bipush 108, 0, 0, 0, 0, 0, 108), (242, .bipush 101, 0, 0, 0, 0, 0, 101), (244, .bipush 115, 0, 0, 0, 0, 0, 115), (246, .iconst 0, 0, 0, 0, 0, 0, 0), (247, .invokestatic 78, 100, 6, 7, 0, 98, 0), (250, .lcmp, 0, 0, 0, 0, 0, 0), (251, .ifCond .ne 8, 136, 0, 0, 0, 0, 0), (254, .bipush 8, 0, 0, 0, 0, 0, 8), (256, .goto 30, 149, 0, 0, 0, 0, 0), (259, .lload_n 0, 0, 0, 0, 0, 0, 0), (260, .bipush 112, 0, 0, 0, 0, 0, 112), (262, .bipush 101, 0, 0, 0, 0, 0, 101), (264, .bipush 114, 0, 0, 0, 0, 0, 114), (266, .bipush 115, 0, 0, 0, 0, 0, 115), (268, .bipush 111, 0, 0, 0, 0, 0, 111), (270, .bipush 110, 0, 0, 0, 0, 0, 110), (272, .invokestatic 78, 100, 6, 7, 0, 98, 0), (275, .lcmp, 0, 0, 0, 0, 0, 0), (276, .ifCond .ne 8, 148, 0, 0, 0, 0, 0), (279, .bipush 9, 0, 0, 0, 0, 0, 9), (281, .goto 5, 149, 0, 0, 0, 0, 0), (284, .bipush (-9), 0, 0, 0, 0, 0, -9), (286, .istore 4, 0, 0, 0, 0, 0, 0), (288, .lload_n 0, 0, 0, 0, 0, 0, 0), (289, .bipush 119, 0, 0, 0, 0, 0, 119), (291, .bipush 111, 0, 0, 0, 0, 0, 111), (293, .bipush 114, 0, 0, 0, 0, 0, 114), (295, .bipush 116, 0, 0, 0, 0, 0, 116), (297, .bipush 104, 0, 0, 0, 0, 0, 104), (299, .iconst 0, 0, 0, 0, 0, 0, 0), (300, .invokestatic 78, 100, 6, 7, 0, 98, 0), (303, .lcmp, 0, 0, 0, 0, 0, 0), (304, .ifCond .ne 8, 162, 0, 0, 0, 0, 0), (307, .bipush 10, 0, 0, 0, 0, 0, 10), (309, .goto 79, 199, 0, 0, 0, 0, 0), (312, .lload_n 0, 0, 0, 0, 0, 0, 0), (313, .bipush 114, 0, 0, 0, 0, 0, 114), (315, .bipush 105, 0, 0, 0, 0, 0, 105), (317, .bipush 115, 0, 0, 0, 0, 0, 115), (319, .bipush 105, 0, 0, 0, 0, 0, 105), (321, .bipush 110, 0, 0, 0, 0, 0, 110), (323, .bipush 103, 0, 0, 0, 0, 0, 103), (325, .invokestatic 78, 100, 6, 7, 0, 98, 0), (328, .lcmp, 0, 0, 0, 0, 0, 0), (329, .ifCond .ne 8, 174, 0, 0, 0, 0, 0), (332, .bipush 11, 0, 0, 0, 0, 0, 11), (334, .goto 54, 199, 0, 0, 0, 0, 0), (337, .lload_n 0, 0, 0, 0, 0, 0, 0), (338, .bipush 114, 0, 0, 0, 0, 0, 114), (340, .bipush 105, 0, 0, 0, 0, 0, 105), (342, .bipush 100, 0, 0, 0, 0, 0, 100), (344, .bipush 105, 0, 0, 0, 0, 0, 105), (346, .bipush 110, 0, 0, 0, 0, 0, 110), (348, .bipush 103, 0, 0, 0, 0, 0, 103), (350, .invokestatic 78, 100, 6, 7, 0, 98, 0), (353, .lcmp, 0, 0, 0, 0, 0, 0), (354, .ifCond .ne 8, 186, 0, 0, 0, 0, 0), (357, .bipush 12, 0, 0, 0, 0, 0, 12), (359, .goto 29, 199, 0, 0, 0, 0, 0), (362, .lload_n 0, 0, 0, 0, 0, 0, 0), (363, .bipush 102, 0, 0, 0, 0, 0, 102), (365, .bipush 114, 0, 0, 0, 0, 0, 114), (367, .bipush 101, 0, 0, 0, 0, 0, 101), (369, .bipush 115, 0, 0, 0, 0, 0, 115), (371, .bipush 104, 0, 0, 0, 0, 0, 104), (373, .iconst 0, 0, 0, 0, 0, 0, 0), (374, .invokestatic 78, 100, 6, 7, 0, 98, 0), (377, .lcmp, 0, 0, 0, 0, 0, 0), (378, .ifCond .ne 8, 198, 0, 0, 0, 0, 0), (381, .bipush 14, 0, 0, 0, 0, 0, 14), (383, .goto 5, 199, 0, 0, 0, 0, 0), (386, .bipush (-9), 0, 0, 0, 0, 0, -9), (388, .istore 5, 0, 0, 0, 0, 0, 0), (390, .iload_n 3, 0, 0, 0, 0, 0, 0), (391, .bipush (-9), 0, 0, 0, 0, 0, -9), (393, .if_icmp .eq 7, 205, 0, 0, 0, 0, 0), (396, .iload_n 3, 0, 0, 0, 0, 0, 0), (397, .goto 17, 211, 0, 0, 0, 0, 0), (400, .iload 4, 0, 0, 0, 0, 0, 0), (402, .bipush (-9), 0, 0, 0, 0, 0, -9), (404, .if_icmp .eq 8, 210, 0, 0, 0, 0, 0), (407, .iload 4, 0, 0, 0, 0, 0, 0), (409, .goto 5, 211, 0, 0, 0, 0, 0), (412, .iload 5, 0, 0, 0, 0, 0, 0), (414, .ireturn, 0, 0, 0, 0, 0, 0)]
def am_t102 : List am_I := [(0, .aload_n 0, 0, 0, 0, 0, 0, 0), (1, .aload_n 0, 0, 0, 0, 0, 0, 0), (2, .getfield 82, 7, 4, 0, 0, 115, 0), (5, .invokevirtual 85, 98, 2, 7, 0, 99, 0), (8, .bipush 32, 0, 0, 0, 0, 0, 32), (10, .if_icmp .ne 16, 13, 0, 0, 0, 0, 0), (13, .aload_n 0, 0, 0, 0, 0, 0, 0), (14, .dup, 0, 0, 0, 0, 0, 0), (15, .getfield 82, 7, 4, 0, 0, 115, 0), (18, .iconst 1, 0, 0, 0, 0, 0, 1), (19, .iadd, 0, 0, 0, 0, 0, 0), (20, .putfield 82, 7, 4, 0, 0, 115, 0), (23, .goto (-23), 0, 0, 0, 0, 0, 0), (26, .aload_n 0, 0, 0, 0, 0, 0, 0), (27, .aload_n 0, 0, 0, 0, 0, 0, 0), (28, .getfield 82, 7, 4, 0, 0, 115, 0), (31, .putfield 89, 7, 6, 0, 0, 116, 0), (34, .aload_n 0, 0, 0, 0, 0, 0, 0), (35, .aload_n 0, 0, 0, 0, 0, 0, 0), (36, .getfield 82, 7, 4, 0, 0, 115, 0), (39, .invokevirtual 85, 98, 2, 7, 0, 99, 0), (42, .istore_n 1, 0, 0, 0, 0, 0, 0), (43, .iload_n 1, 0, 0, 0, 0, 0, 0), (44, .ifCond .ge 11, 28, 0, 0, 0, 0, 0), (47, .aload_n 0, 0, 0, 0, 0, 0, 0), (48, .iconst 0, 0, 0, 0, 0, 0, 0), (49, .putfield 92, 7, 5, 0, 0, 117, 0), (52, .goto 267, 162, 0, 0, 0, 0, 0), (55, .iload_n 1, 0, 0, 0, 0, 0, 0), (56, .bipush 97, 0, 0, 0, 0, 0, 97), (58, .bipush 122, 0, 0, 0, 0, 0, 122), (60, .invokestatic 63, 94, 3, 7, 0, 96, 0), (63, .ifCond .eq 105, 85, 0, 0, 0, 0, 0), (66, .lconst 0, 0, 0, 0, 0, 0, 0), (67, .lstore_n 2, 0, 0, 0, 0, 0, 0), (68, .aload_n 0, 0, 0, 0, 0, 0, 0), (69, .aload_n 0, 0, 0, 0, 0, 0, 0), (70, .getfield 82, 7, 4, 0, 0, 115, 0), (73, .invokevirtual 85, 98, 2, 7, 0, 99, 0), (76, .bipush 97, 0, 0, 0, 0, 0, 97), (78, .bipush 122, 0, 0, 0, 0, 0, 122), (80, .invokestatic 63, 94, 3, 7, 0, 96, 0), (83, .ifCond .eq 47, 66, 0, 0, 0, 0, 0), (86, .aload_n 0, 0, 0, 0, 0, 0, 0), (87, .getfield 82, 7, 4, 0, 0, 115, 0), (90, .aload_n 0, 0, 0, 0, 0, 0, 0), (91, .getfield 89, 7, 6, 0, 0, 116, 0), (94, .isub, 0, 0, 0, 0, 0, 0), (95, .bipush 8, 0, 0, 0, 0, 0, 8), (97, .if_icmp .ge 18, 57, 0, 0, 0, 0, 0), (100, .lload_n 2, 0, 0, 0, 0, 0, 0), (101, .aload_n 0, 0, 0, 0, 0, 0, 0), (102, .aload_n 0, 0, 0, 0, 0, 0, 0), (103, .getfield 82, 7, 4, 0, 0, 115, 0), (106, .invokevirtual 85, 98, 2, 7, 0, 99, 0), (109, .invokestatic 74, 99, 2, 7, 0, 97, 0), (112, .goto 4, 58, 0, 0, 0, 0, 0), (115, .lload_n 2, 0, 0, 0, 0, 0, 0), (116, .lstore_n 2, 0, 0, 0, 0, 0, 0), (117, .aload_n 0, 0, 0, 0, 0, 0, 0), (118, .dup, 0, 0, 0, 0, 0, 0), (119, .getfield 82, 7, 4, 0, 0, 115, 0), (122, .iconst 1, 0, 0, 0, 0, 0, 1), (123, .iadd, 0, 0, 0, 0, 0, 0), (124, .putfield 82, 7, 4, 0, 0, 115, 0), (127, .goto (-59), 35, 0, 0, 0, 0, 0), (130, .aload_n 0, 0, 0, 0, 0, 0, 0), (131, .lload_n 2, 0, 0, 0, 0, 0, 0), (132, .aload_n 0, 0, 0, 0, 0, 0, 0), (133, .getfield 82, 7, 4, 0, 0, 115, 0), (136, .aload_n 0, 0, 0, 0, 0, 0, 0), (137, .getfield 89, 7, 6, 0, 0, 116, 0), (140, .isub, 0, 0, 0, 0, 0, 0), (141, .invokestatic 95, 101, 2, 7, 0, 100, 0), (144, .putfield 99, 7, 7, 0, 0, 118, 0), (147, .aload_n 0, 0, 0, 0, 0, 0, 0), (148, .aload_n 0, 0, 0, 0, 0, 0, 0), (149, .getfield 99, 7, 7, 0, 0, 118, 0), (152, .bipush (-9), 0, 0, 0, 0, 0, -9), (154, .if_icmp .ne 7, 82, 0, 0, 0, 0, 0), (157, .iconst 4, 0, 0, 0, 0, 0, 4), (158, .goto 4, 83, 0, 0, 0, 0, 0), (161, .iconst 1, 0, 0, 0, 0, 0, 1), (162, .putfield 92, 7, 5, 0, 0, 117, 0), (165, .goto 154, 162, 0, 0, 0, 0, 0), (168, .iload_n 1, 0, 0, 0, 0, 0, 0), (169, .bipush 48, 0, 0, 0, 0, 0, 48), (171, .bipush 57, 0, 0, 0, 0, 0, 57), (173, .invokestatic 63, 94, 3, 7, 0, 96, 0), (176, .ifCond .eq 118, 148, 0, 0, 0, 0, 0), (179, .aload_n 0, 0, 0, 0, 0, 0, 0), (180, .iconst 0, 0, 0, 0, 0, 0, 0), (181, .putfield 99, 7, 7, 0, 0, 118, 0), (184, .aload_n 0, 0, 0, 0, 0, 0, 0), (185, .aload_n 0, 0, 0, 0, 0, 0, 0), (186, .getfield 82, 7, 4, 0, 0, 115, 0), (189, .invokevirtual 85, 98, 2, 7, 0, 99, 0), (192, .bipush 48, 0, 0, 0, 0, 0, 48), (194, .bipush 57, 0, 0, 0, 0, 0, 57), (196, .invokestatic 63, 94, 3, 7, 0, 96, 0), (199, .ifCond .eq 55, 128, 0, 0, 0, 0, 0), (202, .aload_n 0, 0, 0, 0, 0, 0, 0), (203, .aload_n 0, 0, 0, 0, 0, 0, 0), (204, .getfield 99, 7, 7, 0, 0, 118, 0), (207, .bipush 99, 0, 0, 0, 0, 0, 99), (209, .if_icmp .le 10, 109, 0, 0, 0, 0, 0), (212, .aload_n 0, 0, 0, 0, 0, 0, 0), (213, .getfield 99, 7, 7, 0, 0, 118, 0), (216, .goto 22, 120, 0, 0, 0, 0, 0), (219, .bipush 10, 0, 0, 0, 0, 0, 10), (221, .aload_n 0, 0, 0, 0, 0, 0, 0), (222, .getfield 99, 7, 7, 0, 0, 118, 0), (225, .imul, 0, 0, 0, 0, 0, 0), (226, .aload_n 0, 0, 0, 0, 0, 0, 0), (227, .aload_n 0, 0, 0, 0, 0, 0, 0), (228, .getfield 82, 7, 4, 0, 0, 115, 0), (231, .invokevirtual 85, 98, 2, 7, 0, 99, 0), (234, .iadd, 0, 0, 0, 0, 0, 0), (235, .bipush 48, 0, 0, 0, 0, 0, 48), (237, .isub, 0, 0, 0, 0, 0, 0), (238, .putfield 99, 7, 7, 0, 0, 118, 0), (241, .aload_n 0, 0, 0, 0, 0, 0, 0), (242, .dup, 0, 0, 0, 0, 0, 0), (243, .getfield 82, 7, 4, 0, 0, 115, 0), (246, .iconst 1, 0, 0, 0, 0, 0, 1), (247, .iadd, 0, 0, 0, 0, 0, 0), (248, .putfield 82, 7, 4, 0, 0, 115, 0), (251, .goto (-67), 93, 0, 0, 0, 0, 0), (254, .aload_n 0, 0, 0, 0, 0, 0, 0), (255, .aload_n 0, 0, 0, 0, 0, 0, 0), (256, .getfield 99, 7, 7, 0, 0, 118, 0), (259, .bipush 99, 0, 0, 0, 0, 0, 99), (261, .if_icmp .gt 22, 143, 0, 0, 0, 0, 0), (264, .iload_n 1, 0, 0, 0, 0, 0, 0), (265, .bipush 48, 0, 0, 0, 0, 0, 48), (267, .if_icmp .ne 20, 145, 0, 0, 0, 0, 0), (270, .aload_n 0, 0, 0, 0, 0, 0, 0), (271, .getfield 82, 7, 4, 0, 0, 115, 0), (274, .aload_n 0, 0, 0, 0, 0, 0, 0), (275, .getfield 89, 7, 6, 0, 0, 116, 0), (278, .isub, 0, 0, 0, 0, 0, 0), (279, .iconst 1, 0, 0, 0, 0, 0, 1), (280, .if_icmp .le 7, 145, 0, 0, 0, 0, 0), (283, .iconst 4, 0, 0, 0, 0, 0, 4), (284, .goto 4, 146, 0, 0, 0, 0, 0), (287, .iconst 2, 0, 0, 0, 0, 0, 2), (288, .putfield 92, 7, 5, 0, 0, 117, 0), (291, .goto 28, 162, 0, 0, 0, 0, 0), (294, .aload_n 0, 0, 0, 0, 0, 0, 0), (295, .dup, 0, 0, 0, 0, 0, 0), (296, .getfield 82, 7, 4, 0, 0, 115, 0), (299, .iconst 1, 0, 0, 0, 0, 0, 1), (300, .iadd, 0, 0, 0, 0, 0, 0), (301, .putfield 82, 7, 4, 0, 0, 115, 0), (304, .aload_n 0, 0, 0, 0, 0, 0, 0), (305, .iload_n 1, 0, 0, 0, 0, 0, 0), (306, .bipush 59, 0, 0, 0, 0, 0, 59), (308, .if_icmp .ne 7, 160, 0, 0, 0, 0, 0), (311, .iconst 3, 0, 0, 0, 0, 0, 3), (312, .goto 4, 161, 0, 0, 0, 0, 0), (315, .iconst 4, 0, 0, 0, 0, 0, 4), (316, .putfield 92, 7, 5, 0, 0, 117, 0), (319, .return_, 0, 0, 0, 0, 0, 0)]
def am_t103 : List am_I := [(0, .aload_n 0, 0, 0, 0, 0, 0, 0), (1, .getfield 102, 7, 8, 0, 0, 119, 0), (4, .ifCond .ge 7, 5, 0, 0, 0, 0, 0), (7, .iconst 1, 0, 0, 0, 0, 0, 1), (8, .goto 4, 6, 0, 0, 0, 0, 0), (11, .iconst 0, 0, 0, 0, 0, 0, 0), (12, .ireturn, 1, 0, 0, 0, 0, 0)]
def am_t104 : List am_I := [(0, .aload_n 0, 0, 0, 0, 0, 0, 0), (1, .invokevirtual 105, 103, 1, 7, 0, 101, 0), (4, .ifCond .ne 5, 5, 0, 0, 0, 0, 0), (7, .iconst 0, 0, 0, 0, 0, 0, 0), (8, .ireturn, 0, 0, 0, 0, 0, 0), (9, .iload_n 1, 0, 0, 0, 0, 0, 0), (10, .ifCond .ne 13, 13, 0, 0, 0, 0, 0), (13, .aload_n 0, 0, 0, 0, 0, 0, 0), (14, .aload_n 0, 0, 0, 0, 0, 0, 0), (15, .getfield 89, 7, 6, 0, 0, 116, 0), (18, .putfield 102, 7, 8, 0, 0, 119, 0), (21, .iconst 0, 0, 0, 0, 0, 0, 0), (22, .ireturn, 0, 0, 0, 0, 0, 0), (23, .aload_n 0, 0, 0, 0, 0, 0, 0), (24, .getfield 99, 7, 7, 0, 0, 118, 0), (27, .istore_n 2, 0, 0, 0, 0, 0, 0), (28, .aload_n 0, 0, 0, 0, 0, 0, 0), (29, .invokevirtual 109, 102, 1, 7, 0, 102, 0), (32, .iload_n 2, 0, 0, 0, 0, 0, 0), (33, .ireturn, 0, 0, 0, 0, 0, 0)]
def am_t105 : List am_I := [(0, .aload_n 0, 0, 0, 0, 0, 0, 0), (1, .aload_n 0, 0, 0, 0, 0, 0, 0), (2, .getfield 92, 7, 5, 0, 0, 117, 0), (5, .iconst 2, 0, 0, 0, 0, 0, 2), (6, .if_icmp .ne 19, 13, 0, 0, 0, 0, 0), (9, .aload_n 0, 0, 0, 0, 0, 0, 0), (10, .getfield 99, 7, 7, 0, 0, 118, 0), (13, .iload_n 1, 0, 0, 0, 0, 0, 0), (14, .iload_n 2, 0, 0, 0, 0, 0, 0), (15, .invokestatic 63, 94, 3, 7, 0, 96, 0), (18, .ifCond .eq 7, 13, 0, 0, 0, 0, 0), (21, .iconst 1, 0, 0, 0, 0, 0, 1), (22, .goto 4, 14, 0, 0, 0, 0, 0), (25, .iconst 0, 0, 0, 0, 0, 0, 0), (26, .invokevirtual 112, 104, 2, 7, 0, 103, 0), (29, .ireturn, 0, 0, 0, 0, 0, 0)]
def am_t106 : List am_I := [(0, .iconst 0, 0, 0, 0, 0, 0, 0), (1, .istore_n 1, 0, 0, 0, 0, 0, 0), (2, .iload_n 1, 0, 0, 0, 0, 0, 0), (3, .bipush 10, 0, 0, 0, 0, 0, 10), (5, .if_icmp .ge 66, 38, 0, 0, 0, 0, 0), (8, .aload_n 0, 0, 0, 0, 0, 0, 0), (9, .getfield 13, 7, 9, 0, 0, 100, 0), (12, .bipush 10, 0, 0, 0, 0, 0, 10), (14, .iload_n 1, 0, 0, 0, 0, 0, 0), (15, .iadd, 0, 0, 0, 0, 0, 0), (16, .iload_n 1, 0, 0, 0, 0, 0, 0), (17, .ifCond .ne 8, 14, 0, 0, 0, 0, 0), (20, .bipush 15, 0, 0, 0, 0, 0, 15), (22, .goto 42, 35, 0, 0, 0, 0, 0), (25, .iload_n 1, 0, 0, 0, 0, 0, 0), (26, .iconst 1, 0, 0, 0, 0, 0, 1), (27, .if_icmp .ne 7, 19, 0, 0, 0, 0, 0), (30, .iconst 1, 0, 0, 0, 0, 0, 1), (31, .goto 33, 35, 0, 0, 0, 0, 0), (34, .iload_n 1, 0, 0, 0, 0, 0, 0), (35, .iconst 2, 0, 0, 0, 0, 0, 2), (36, .if_icmp .ne 7, 24, 0, 0, 0, 0, 0), (39, .iconst 3, 0, 0, 0, 0, 0, 3), (40, .goto 24, 35, 0, 0, 0, 0, 0), (43, .iload_n 1, 0, 0, 0, 0, 0, 0), (44, .iconst 4, 0, 0, 0, 0, 0, 4), (45, .if_icmp .ne 8, 29, 0, 0, 0, 0, 0), (48, .bipush (-9), 0, 0, 0, 0, 0, -9), (50, .goto 14, 35, 0, 0, 0, 0, 0), (53, .iload_n 1, 0, 0, 0, 0, 0, 0), (54, .bipush 9, 0, 0, 0, 0, 0, 9), (56, .if_icmp .ne 7, 34, 0, 0, 0, 0, 0), (59, .iconst 5, 0, 0, 0, 0, 0, 5), (60, .goto 4, 35, 0, 0, 0, 0, 0), (63, .iconst 0, 0, 0, 0, 0, 0, 0), (64, .iastore, 0, 0, 0, 0, 0, 0), (65, .iinc 1 1, 0, 0, 0, 0, 0, 1), (68, .goto (-66), 2, 0, 0, 0, 0, 0), (71, .aload_n 0, 0, 0, 0, 0, 0, 0), (72, .iconst 0, 0, 0, 0, 0, 0, 0), (73, .putfield 116, 7, 12, 0, 0, 120, 0), (76, .return_, 0, 0, 0, 0, 0, 0)]
def am_t107 : List am_I := [(0, .iload_n 0, 0, 0, 0, 0, 0, 0), (1, .ifCond .ne 8, 4, 0, 0, 0, 0, 0), (4, .bipush 20, 0, 0, 0, 0, 0, 20), (6, .goto 31, 19, 0, 0, 0, 0, 0), (9, .iload_n 0, 0, 0, 0, 0, 0, 0), (10, .iconst 2, 0, 0, 0, 0, 0, 2), (11, .if_icmp .eq 19, 16, 0, 0, 0, 0, 0), (14, .iload_n 0, 0, 0, 0, 0, 0, 0), (15, .iconst 3, 0, 0, 0, 0, 0, 3), (16, .if_icmp .eq 14, 16, 0, 0, 0, 0, 0), (19, .iload_n 0, 0, 0, 0, 0, 0, 0), (20, .iconst 4, 0, 0, 0, 0, 0, 4), (21, .if_icmp .eq 9, 16, 0, 0, 0, 0, 0), (24, .iload_n 0, 0, 0, 0, 0, 0, 0), (25, .bipush 6, 0, 0, 0, 0, 0, 6), (27, .if_icmp .ne 8, 18, 0, 0, 0, 0, 0), (30, .bipush 99, 0, 0, 0, 0, 0, 99), (32, .goto 5, 19, 0, 0, 0, 0, 0), (35, .bipush 9, 0, 0, 0, 0, 0, 9), (37, .ireturn, 0, 0, 0, 0, 0, 0)]
def am_t108 : List am_I := [(0, .iload_n 0, 0, 0, 0, 0, 0, 0), (1, .ifCond .ne 7, 4, 0, 0, 0, 0, 0), (4, .iconst 3, 0, 0, 0, 0, 0, 3), (5, .goto 25, 16, 0, 0, 0, 0, 0), (8, .iload_n 0, 0, 0, 0, 0, 0, 0), (9, .iconst 3, 0, 0, 0, 0, 0, 3), (10, .if_icmp .eq 15, 13, 0, 0, 0, 0, 0), (13, .iload_n 0, 0, 0, 0, 0, 0, 0), (14, .bipush 6, 0, 0, 0, 0, 0, 6), (16, .if_icmp .eq 9, 13, 0, 0, 0, 0, 0), (19, .iload_n 0, 0, 0, 0, 0, 0, 0), (20, .bipush 8, 0, 0, 0, 0, 0, 8), (22, .if_icmp .ne 7, 15, 0, 0, 0, 0, 0), (25, .iconst 1, 0, 0, 0, 0, 0, 1), (26, .goto 4, 16, 0, 0, 0, 0, 0), (29, .iconst 0, 0, 0, 0, 0, 0, 0), (30, .ireturn, 0, 0, 0, 0, 0, 0)]
def am_t109 : List am_I := [(0, .bipush 10, 0, 0, 0, 0, 0, 10), (2, .iload_n 1, 0, 0, 0, 0, 0, 0), (3, .iconst 2, 0, 0, 0, 0, 0, 2), (4, .if_icmp .ge 7, 6, 0, 0, 0, 0, 0), (7, .iload_n 1, 0, 0, 0, 0, 0, 0), (8, .goto 6, 9, 0, 0, 0, 0, 0), (11, .iload_n 1, 0, 0, 0, 0, 0, 0), (12, .iconst 1, 0, 0, 0, 0, 0, 1), (13, .iadd, 0, 0, 0, 0, 0, 0), (14, .iadd, 0, 0, 0, 0, 0, 0), (15, .istore_n 2, 0, 0, 0, 0, 0, 0), (16, .aload_n 0, 0, 0, 0, 0, 0, 0), (17, .getfield 13, 7, 9, 0, 0, 100, 0), (20, .iload_n 2, 0, 0, 0, 0, 0, 0), (21, .aload_n 0, 0, 0, 0, 0, 0, 0), (22, .iload_n 1, 0, 0, 0, 0, 0, 0), (23, .invokestatic 119, 108, 1, 7, 0, 104, 0), (26, .iload_n 1, 0, 0, 0, 0, 0, 0), (27, .invokestatic 122, 107, 1, 7, 0, 105, 0), (30, .invokevirtual 125, 105, 3, 7, 0, 106, 0), (33, .iastore, 0, 0, 0, 0, 0, 0), (34, .iload_n 1, 0, 0, 0, 0, 0, 0), (35, .iconst 1, 0, 0, 0, 0, 0, 1), (36, .if_icmp .ne 18, 34, 0, 0, 0, 0, 0), (39, .aload_n 0, 0, 0, 0, 0, 0, 0), (40, .getfield 13, 7, 9, 0, 0, 100, 0), (43, .iload_n 2, 0, 0, 0, 0, 0, 0), (44, .iconst 1, 0, 0, 0, 0, 0, 1), (45, .iadd, 0, 0, 0, 0, 0, 0), (46, .aload_n 0, 0, 0, 0, 0, 0, 0), (47, .iconst 0, 0, 0, 0, 0, 0, 0), (48, .bipush 9, 0, 0, 0, 0, 0, 9), (50, .invokevirtual 125, 105, 3, 7, 0, 106, 0), (53, .iastore, 0, 0, 0, 0, 0, 0), (54, .return_, 0, 0, 0, 0, 0, 0)]
def am_t110 : List am_I := [(0, .bipush 36, 0, 0, 0, 0, 0, 36), (2, .iconst 4, 0, 0, 0, 0, 0, 4), (3, .aload_n 0, 0, 0, 0, 0, 0, 0), (4, .getfield 116, 7, 12, 0, 0, 120, 0), (7, .imul, 0, 0, 0, 0, 0, 0), (8, .iadd, 0, 0, 0, 0, 0, 0), (9, .istore_n 1, 0, 0, 0, 0, 0, 0), (10, .aload_n 0, 0, 0, 0, 0, 0, 0), (11, .aload_n 0, 0, 0, 0, 0, 0, 0), (12, .getfield 92, 7, 5, 0, 0, 117, 0), (15, .iconst 1, 0, 0, 0, 0, 0, 1), (16, .if_icmp .ne 21, 20, 0, 0, 0, 0, 0), (19, .aload_n 0, 0, 0, 0, 0, 0, 0), (20, .getfield 99, 7, 7, 0, 0, 118, 0), (23, .bipush 10, 0, 0, 0, 0, 0, 10), (25, .bipush 14, 0, 0, 0, 0, 0, 14), (27, .invokestatic 63, 94, 3, 7, 0, 96, 0), (30, .ifCond .eq 7, 20, 0, 0, 0, 0, 0), (33, .iconst 1, 0, 0, 0, 0, 0, 1), (34, .goto 4, 21, 0, 0, 0, 0, 0), (37, .iconst 0, 0, 0, 0, 0, 0, 0), (38, .invokevirtual 112, 104, 2, 7, 0, 103, 0), (41, .istore_n 2, 0, 0, 0, 0, 0, 0), (42, .aload_n 0, 0, 0, 0, 0, 0, 0), (43, .getfield 16, 7, 10, 0, 0, 101, 0), (46, .iload_n 1, 0, 0, 0, 0, 0, 0), (47, .iload_n 2, 0, 0, 0, 0, 0, 0), (48, .bipush 10, 0, 0, 0, 0, 0, 10), (50, .isub, 0, 0, 0, 0, 0, 0), (51, .iastore, 0, 0, 0, 0, 0, 0), (52, .aload_n 0, 0, 0, 0, 0, 0, 0), (53, .getfield 16, 7, 10, 0, 0, 101, 0), (56, .iload_n 1, 0, 0, 0, 0, 0, 0), (57, .iconst 1, 0, 0, 0, 0, 0, 1), (58, .iadd, 0, 0, 0, 0, 0, 0), (59, .iload_n 2, 0, 0, 0, 0, 0, 0), (60, .bipush 10, 0, 0, 0, 0, 0, 10), (62, .if_icmp .eq 10, 41, 0, 0, 0, 0, 0), (65, .aload_n 0, 0, 0, 0, 0, 0, 0), (66, .invokevirtual 105, 103, 1, 7, 0, 101, 0), (69, .ifCond .ne 7, 43, 0, 0, 0, 0, 0), (72, .iconst 0, 0, 0, 0, 0, 0, 0), (73, .goto 21, 52, 0, 0, 0, 0, 0), (76, .aload_n 0, 0, 0, 0, 0, 0, 0), (77, .iconst 1, 0, 0, 0, 0, 0, 1), (78, .iload_n 2, 0, 0, 0, 0, 0, 0), (79, .bipush 13, 0, 0, 0, 0, 0, 13), (81, .if_icmp .ne 8, 50, 0, 0, 0, 0, 0), (84, .bipush 99, 0, 0, 0, 0, 0, 99), (86, .goto 5, 51, 0, 0, 0, 0, 0), (89, .bipush 9, 0, 0, 0, 0, 0, 9), (91, .invokevirtual 125, 105, 3, 7, 0, 106, 0), (94, .iastore, 0, 0, 0, 0, 0, 0), (95, .aload_n 0, 0, 0, 0, 0, 0, 0), (96, .getfield 16, 7, 10, 0, 0, 101, 0), (99, .iload_n 1, 0, 0, 0, 0, 0, 0), (100, .iconst 2, 0, 0, 0, 0, 0, 2), (101, .iadd, 0, 0, 0, 0, 0, 0), (102, .aload_n 0, 0, 0, 0, 0, 0, 0), (103, .iconst 0, 0, 0, 0, 0, 0, 0), (104, .bipush 99, 0, 0, 0, 0, 0, 99), (106, .invokevirtual 125, 105, 3, 7, 0, 106, 0), (109, .iastore, 0, 0, 0, 0, 0, 0), (110, .aload_n 0, 0, 0, 0, 0, 0, 0), (111, .getfield 16, 7, 10, 0, 0, 101, 0), (114, .iload_n 1, 0, 0, 0, 0, 0, 0), (115, .iconst 3, 0, 0, 0, 0, 0, 3), (116, .iadd, 0, 0, 0, 0, 0, 0), (117, .aload_n 0, 0, 0, 0, 0, 0, 0), (118, .iconst 0, 0, 0, 0, 0, 0, 0), (119, .bipush 9, 0, 0, 0, 0, 0, 9), (121, .invokevirtual 125, 105, 3, 7, 0, 106, 0), (124, .iastore, 0, 0, 0, 0, 0, 0), (125, .aload_n 0, 0, 0, 0, 0, 0, 0), (126, .dup, 0, 0, 0, 0, 0, 0), (127, .getfield 116, 7, 12, 0, 0, 120, 0), (130, .iconst 1, 0, 0, 0, 0, 0, 1), (131, .iadd, 0, 0, 0, 0, 0, 0), (132, .putfield 116, 7, 12, 0, 0, 120, 0), (135, .return_, 0, 0, 0, 0, 0, 0)]
def am_t111 : List am_I := [(0, .aload_n 0, 0, 0, 0, 0, 0, 0), (1, .iconst 0, 0, 0, 0, 0, 0, 0), (2, .putfield 59, 7, 0, 0, 0, 113, 0), (5, .aload_n 0, 0, 0, 0, 0, 0, 0), (6, .iconst (-1), 0, 0, 0, 0, 0, -1), (7, .putfield 102, 7, 8, 0, 0, 119, 0), (10, .aload_n 0, 0, 0, 0, 0, 0, 0), (11, .iconst 0, 0, 0, 0, 0, 0, 0), (12, .putfield 82, 7, 4, 0, 0, 115, 0), (15, .iconst 0, 0, 0, 0, 0, 0, 0), (16, .istore_n 1, 0, 0, 0, 0, 0, 0), (17, .iconst 0, 0, 0, 0, 0, 0, 0), (18, .istore_n 2, 0, 0, 0, 0, 0, 0), (19, .aload_n 0, 0, 0, 0, 0, 0, 0), (20, .invokevirtual 53, 106, 1, 7, 0, 94, 0), (23, .aload_n 0, 0, 0, 0, 0, 0, 0), (24, .invokevirtual 109, 102, 1, 7, 0, 102, 0), (27, .aload_n 0, 0, 0, 0, 0, 0, 0), (28, .invokevirtual 105, 103, 1, 7, 0, 101, 0), (31, .ifCond .eq 131, 86, 0, 0, 0, 0, 0), (34, .aload_n 0, 0, 0, 0, 0, 0, 0), (35, .getfield 92, 7, 5, 0, 0, 117, 0), (38, .ifCond .eq 124, 86, 0, 0, 0, 0, 0), (41, .aload_n 0, 0, 0, 0, 0, 0, 0), (42, .aload_n 0, 0, 0, 0, 0, 0, 0), (43, .getfield 92, 7, 5, 0, 0, 117, 0), (46, .iconst 1, 0, 0, 0, 0, 0, 1), (47, .if_icmp .ne 48, 50, 0, 0, 0, 0, 0), (50, .aload_n 0, 0, 0, 0, 0, 0, 0), (51, .getfield 99, 7, 7, 0, 0, 118, 0), (54, .bipush 9, 0, 0, 0, 0, 0, 9), (56, .if_icmp .ne 15, 37, 0, 0, 0, 0, 0), (59, .aload_n 0, 0, 0, 0, 0, 0, 0), (60, .getfield 116, 7, 12, 0, 0, 120, 0), (63, .bipush 9, 0, 0, 0, 0, 0, 9), (65, .if_icmp .ge 30, 50, 0, 0, 0, 0, 0), (68, .goto 23, 48, 0, 0, 0, 0, 0), (71, .aload_n 0, 0, 0, 0, 0, 0, 0), (72, .getfield 99, 7, 7, 0, 0, 118, 0), (75, .bipush 9, 0, 0, 0, 0, 0, 9), (77, .if_icmp .ge 18, 50, 0, 0, 0, 0, 0), (80, .iload_n 2, 0, 0, 0, 0, 0, 0), (81, .aload_n 0, 0, 0, 0, 0, 0, 0), (82, .getfield 99, 7, 7, 0, 0, 118, 0), (85, .ishr, 0, 0, 0, 0, 0, 0), (86, .iconst 1, 0, 0, 0, 0, 0, 1), (87, .iand, 0, 0, 0, 0, 0, 0), (88, .ifCond .ne 7, 50, 0, 0, 0, 0, 0), (91, .iconst 1, 0, 0, 0, 0, 0, 1), (92, .goto 4, 51, 0, 0, 0, 0, 0), (95, .iconst 0, 0, 0, 0, 0, 0, 0), (96, .invokevirtual 112, 104, 2, 7, 0, 103, 0), (99, .istore_n 3, 0, 0, 0, 0, 0, 0), (100, .aload_n 0, 0, 0, 0, 0, 0, 0), (101, .invokevirtual 105, 103, 1, 7, 0, 101, 0), (104, .ifCond .eq 16, 62, 0, 0, 0, 0, 0), (107, .iload_n 3, 0, 0, 0, 0, 0, 0), (108, .bipush 9, 0, 0, 0, 0, 0, 9), (110, .if_icmp .ne 10, 62, 0, 0, 0, 0, 0), (113, .aload_n 0, 0, 0, 0, 0, 0, 0), (114, .invokevirtual 129, 110, 1, 7, 0, 107, 0), (117, .goto 21, 74, 0, 0, 0, 0, 0), (120, .aload_n 0, 0, 0, 0, 0, 0, 0), (121, .invokevirtual 105, 103, 1, 7, 0, 101, 0), (124, .ifCond .eq 14, 74, 0, 0, 0, 0, 0), (127, .iload_n 2, 0, 0, 0, 0, 0, 0), (128, .iconst 1, 0, 0, 0, 0, 0, 1), (129, .iload_n 3, 0, 0, 0, 0, 0, 0), (130, .ishl, 0, 0, 0, 0, 0, 0), (131, .ior, 0, 0, 0, 0, 0, 0), (132, .istore_n 2, 0, 0, 0, 0, 0, 0), (133, .aload_n 0, 0, 0, 0, 0, 0, 0), (134, .iload_n 3, 0, 0, 0, 0, 0, 0), (135, .invokevirtual 132, 109, 2, 7, 0, 108, 0), (138, .aload_n 0, 0, 0, 0, 0, 0, 0), (139, .aload_n 0, 0, 0, 0, 0, 0, 0), (140, .getfield 92, 7, 5, 0, 0, 117, 0), (143, .iconst 3, 0, 0, 0, 0, 0, 3), (144, .if_icmp .ne 7, 81, 0, 0, 0, 0, 0), (147, .iconst 1, 0, 0, 0, 0, 0, 1), (148, .goto 4, 82, 0, 0, 0, 0, 0), (151, .iconst 0, 0, 0, 0, 0, 0, 0), (152, .invokevirtual 112, 104, 2, 7, 0, 103, 0), (155, .pop, 0, 0, 0, 0, 0, 0), (156, .iinc 1 1, 0, 0, 0, 0, 0, 1), (159, .goto (-132), 17, 0, 0, 0, 0, 0), (162, .aload_n 0, 0, 0, 0, 0, 0, 0), (163, .invokevirtual 105, 103, 1, 7, 0, 101, 0), (166, .ifCond .ne 11, 94, 0, 0, 0, 0, 0), (169, .bipush (-10), 0, 0, 0, 0, 0, -10), (171, .aload_n 0, 0, 0, 0, 0, 0, 0), (172, .getfield 102, 7, 8, 0, 0, 119, 0), (175, .isub, 0, 0, 0, 0, 0, 0), (176, .ireturn, 0, 0, 0, 0, 0, 0), (177, .aload_n 0, 0, 0, 0, 0, 0, 0), (178, .invokevirtual 56, 112, 1, 7, 0, 95, 0), (181, .aload_n 0, 0, 0, 0, 0, 0, 0), (182, .iconst 0, 0, 0, 0, 0, 0, 0), (183, .putfield 67, 7, 3, 0, 0, 114, 0), (186, .iload_n 1, 0, 0, 0, 0, 0, 0), (187, .ireturn, 0, 0, 0, 0, 0, 0)]
def am_t112 : List am_I := [(0, .iconst 0, 0, 0, 0, 0, 0, 0), (1, .istore_n 1, 0, 0, 0, 0, 0, 0), (2, .iload_n 1, 0, 0, 0, 0, 0, 0), (3, .bipush 10, 0, 0, 0, 0, 0, 10), (5, .if_icmp .ge 24, 17, 0, 0, 0, 0, 0), (8, .aload_n 0, 0, 0, 0, 0, 0, 0), (9, .getfield 13, 7, 9, 0, 0, 100, 0), (12, .iload_n 1, 0, 0, 0, 0, 0, 0), (13, .aload_n 0, 0, 0, 0, 0, 0, 0), (14, .getfield 13, 7, 9, 0, 0, 100, 0), (17, .bipush 10, 0, 0, 0, 0, 0, 10), (19, .iload_n 1, 0, 0, 0, 0, 0, 0), (20, .iadd, 0, 0, 0, 0, 0, 0), (21, .iaload, 0, 0, 0, 0, 0, 0), (22, .iastore, 0, 0, 0, 0, 0, 0), (23, .iinc 1 1, 0, 0, 0, 0, 0, 1), (26, .goto (-24), 2, 0, 0, 0, 0, 0), (29, .aload_n 0, 0, 0, 0, 0, 0, 0), (30, .getfield 13, 7, 9, 0, 0, 100, 0), (33, .iconst 4, 0, 0, 0, 0, 0, 4), (34, .iaload, 0, 0, 0, 0, 0, 0), (35, .bipush (-9), 0, 0, 0, 0, 0, -9), (37, .if_icmp .ne 14, 30, 0, 0, 0, 0, 0), (40, .aload_n 0, 0, 0, 0, 0, 0, 0), (41, .getfield 13, 7, 9, 0, 0, 100, 0), (44, .iconst 4, 0, 0, 0, 0, 0, 4), (45, .aload_n 0, 0, 0, 0, 0, 0, 0), (46, .iconst 0, 0, 0, 0, 0, 0, 0), (47, .invokevirtual 136, 119, 2, 7, 0, 109, 0), (50, .iastore, 0, 0, 0, 0, 0, 0), (51, .iconst 0, 0, 0, 0, 0, 0, 0), (52, .istore_n 1, 0, 0, 0, 0, 0, 0), (53, .iload_n 1, 0, 0, 0, 0, 0, 0), (54, .bipush 36, 0, 0, 0, 0, 0, 36), (56, .if_icmp .ge 24, 47, 0, 0, 0, 0, 0), (59, .aload_n 0, 0, 0, 0, 0, 0, 0), (60, .getfield 16, 7, 10, 0, 0, 101, 0), (63, .iload_n 1, 0, 0, 0, 0, 0, 0), (64, .aload_n 0, 0, 0, 0, 0, 0, 0), (65, .getfield 16, 7, 10, 0, 0, 101, 0), (68, .bipush 36, 0, 0, 0, 0, 0, 36), (70, .iload_n 1, 0, 0, 0, 0, 0, 0), (71, .iadd, 0, 0, 0, 0, 0, 0), (72, .iaload, 0, 0, 0, 0, 0, 0), (73, .iastore, 0, 0, 0, 0, 0, 0), (74, .iinc 1 1, 0, 0, 0, 0, 0, 1), (77, .goto (-24), 32, 0, 0, 0, 0, 0), (80, .aload_n 0, 0, 0, 0, 0, 0, 0), (81, .aload_n 0, 0, 0, 0, 0, 0, 0), (82, .getfield 116, 7, 12, 0, 0, 120, 0), (85, .putfield 139, 7, 11, 0, 0, 121, 0), (88, .iconst 0, 0, 0, 0, 0, 0, 0), (89, .istore_n 1, 0, 0, 0, 0, 0, 0), (90, .iload_n 1, 0, 0, 0, 0, 0, 0), (91, .bipush 9, 0, 0, 0, 0, 0, 9), (93, .if_icmp .ge 30, 73, 0, 0, 0, 0, 0), (96, .aload_n 0, 0, 0, 0, 0, 0, 0), (97, .iload_n 1, 0, 0, 0, 0, 0, 0), (98, .iconst 2, 0, 0, 0, 0, 0, 2), (99, .iconst 0, 0, 0, 0, 0, 0, 0), (100, .invokevirtual 142, 114, 4, 7, 0, 110, 0), (103, .aload_n 0, 0, 0, 0, 0, 0, 0), (104, .iload_n 1, 0, 0, 0, 0, 0, 0), (105, .iconst 4, 0, 0, 0, 0, 0, 4), (106, .iconst 0, 0, 0, 0, 0, 0, 0), (107, .invokevirtual 142, 114, 4, 7, 0, 110, 0), (110, .aload_n 0, 0, 0, 0, 0, 0, 0), (111, .iload_n 1, 0, 0, 0, 0, 0, 0), (112, .iconst 5, 0, 0, 0, 0, 0, 5), (113, .iconst 0, 0, 0, 0, 0, 0, 0), (114, .invokevirtual 142, 114, 4, 7, 0, 110, 0), (117, .iinc 1 1, 0, 0, 0, 0, 0, 1), (120, .goto (-30), 53, 0, 0, 0, 0, 0), (123, .aload_n 0, 0, 0, 0, 0, 0, 0), (124, .invokevirtual 146, 115, 1, 7, 0, 111, 0), (127, .aload_n 0, 0, 0, 0, 0, 0, 0), (128, .getfield 28, 7, 16, 0, 0, 105, 0), (131, .iconst 0, 0, 0, 0, 0, 0, 0), (132, .iconst 0, 0, 0, 0, 0, 0, 0), (133, .bastore, 0, 0, 0, 0, 0, 0), (134, .aload_n 0, 0, 0, 0, 0, 0, 0), (135, .getfield 28, 7, 16, 0, 0, 105, 0), (138, .iconst 1, 0, 0, 0, 0, 0, 1), (139, .iconst 0, 0, 0, 0, 0, 0, 0), (140, .bastore, 0, 0, 0, 0, 0, 0), (141, .return_, 0, 0, 0, 0, 0, 0)]
def am_t113 : List am_I := [(0, .aload_n 0, 0, 0, 0, 0, 0, 0), (1, .getfield 19, 7, 13, 0, 0, 102, 0), (4, .bipush 26, 0, 0, 0, 0, 0, 26), (6, .bipush 6, 0, 0, 0, 0, 0, 6), (8, .iload_n 1, 0, 0, 0, 0, 0, 0), (9, .imul, 0, 0, 0, 0, 0, 0), (10, .iadd, 0, 0, 0, 0, 0, 0), (11, .iload_n 2, 0, 0, 0, 0, 0, 0), (12, .iadd, 0, 0, 0, 0, 0, 0), (13, .iaload, 0, 0, 0, 0, 0, 0), (14, .ireturn, 0, 0, 0, 0, 0, 0)]
def am_t114 : List am_I := [(0, .aload_n 0, 0, 0, 0, 0, 0, 0), (1, .getfield 19, 7, 13, 0, 0, 102, 0), (4, .bipush 26, 0, 0, 0, 0, 0, 26), (6, .bipush 6, 0, 0, 0, 0, 0, 6), (8, .iload_n 1, 0, 0, 0, 0, 0, 0), (9, .imul, 0, 0, 0, 0, 0, 0), (10, .iadd, 0, 0, 0, 0, 0, 0), (11, .iload_n 2, 0, 0, 0, 0, 0, 0), (12, .iadd, 0, 0, 0, 0, 0, 0), (13, .iload_n 3, 0, 0, 0, 0, 0, 0), (14, .iastore, 0, 0, 0, 0, 0, 0), (15, .return_, 0, 0, 0, 0, 0, 0)]
def am_t115 : List am_I := [(0, .aload_n 0, 0, 0, 0, 0, 0, 0), (1, .getfield 19, 7, 13, 0, 0, 102, 0), (4, .iconst 0, 0, 0, 0, 0, 0, 0), (5, .iconst 0, 0, 0, 0, 0, 0, 0), (6, .iastore, 0, 0, 0, 0, 0, 0), (7, .aload_n 0, 0, 0, 0, 0, 0, 0), (8, .getfield 19, 7, 13, 0, 0, 102, 0), (11, .iconst 1, 0, 0, 0, 0, 0, 1), (12, .aload_n 0, 0, 0, 0, 0, 0, 0), (13, .getfield 13, 7, 9, 0, 0, 100, 0), (16, .iconst 4, 0, 0, 0, 0, 0, 4), (17, .iaload, 0, 0, 0, 0, 0, 0), (18, .iastore, 0, 0, 0, 0, 0, 0), (19, .aload_n 0, 0, 0, 0, 0, 0, 0), (20, .getfield 19, 7, 13, 0, 0, 102, 0), (23, .iconst 2, 0, 0, 0, 0, 0, 2), (24, .aload_n 0, 0, 0, 0, 0, 0, 0), (25, .getfield 13, 7, 9, 0, 0, 100, 0), (28, .iconst 4, 0, 0, 0, 0, 0, 4), (29, .iaload, 0, 0, 0, 0, 0, 0), (30, .iastore, 0, 0, 0, 0, 0, 0), (31, .aload_n 0, 0, 0, 0, 0, 0, 0), (32, .getfield 19, 7, 13, 0, 0, 102, 0), (35, .iconst 3, 0, 0, 0, 0, 0, 3), (36, .iconst 0, 0, 0, 0, 0, 0, 0), (37, .iastore, 0, 0, 0, 0, 0, 0), (38, .aload_n 0, 0, 0, 0, 0, 0, 0), (39, .getfield 19, 7, 13, 0, 0, 102, 0), (42, .iconst 4, 0, 0, 0, 0, 0, 4), (43, .iconst 0, 0, 0, 0, 0, 0, 0), (44, .iastore, 0, 0, 0, 0, 0, 0), (45, .iconst 0, 0, 0, 0, 0, 0, 0), (46, .istore_n 1, 0, 0, 0, 0, 0, 0), (47, .iload_n 1, 0, 0, 0, 0, 0, 0), (48, .bipush 9, 0, 0, 0, 0, 0, 9), (50, .if_icmp .ge 73, 79, 0, 0, 0, 0, 0), (53, .aload_n 0, 0, 0, 0, 0, 0, 0), (54, .iload_n 1, 0, 0, 0, 0, 0, 0), (55, .iconst 0, 0, 0, 0, 0, 0, 0), (56, .iload_n 1, 0, 0, 0, 0, 0, 0), (57, .aload_n 0, 0, 0, 0, 0, 0, 0), (58, .getfield 139, 7, 11, 0, 0, 121, 0), (61, .if_icmp .ge 16, 52, 0, 0, 0, 0, 0), (64, .aload_n 0, 0, 0, 0, 0, 0, 0), (65, .getfield 16, 7, 10, 0, 0, 101, 0), (68, .iconst 4, 0, 0, 0, 0, 0, 4), (69, .iload_n 1, 0, 0, 0, 0, 0, 0), (70, .imul, 0, 0, 0, 0, 0, 0), (71, .iconst 2, 0, 0, 0, 0, 0, 2), (72, .iadd, 0, 0, 0, 0, 0, 0), (73, .iaload, 0, 0, 0, 0, 0, 0), (74, .goto 4, 53, 0, 0, 0, 0, 0), (77, .iconst 0, 0, 0, 0, 0, 0, 0), (78, .invokevirtual 142, 114, 4, 7, 0, 110, 0), (81, .aload_n 0, 0, 0, 0, 0, 0, 0), (82, .iload_n 1, 0, 0, 0, 0, 0, 0), (83, .iconst 1, 0, 0, 0, 0, 0, 1), (84, .iload_n 1, 0, 0, 0, 0, 0, 0), (85, .aload_n 0, 0, 0, 0, 0, 0, 0), (86, .getfield 139, 7, 11, 0, 0, 121, 0), (89, .if_icmp .ge 16, 70, 0, 0, 0, 0, 0), (92, .aload_n 0, 0, 0, 0, 0, 0, 0), (93, .getfield 16, 7, 10, 0, 0, 101, 0), (96, .iconst 4, 0, 0, 0, 0, 0, 4), (97, .iload_n 1, 0, 0, 0, 0, 0, 0), (98, .imul, 0, 0, 0, 0, 0, 0), (99, .iconst 3, 0, 0, 0, 0, 0, 3), (100, .iadd, 0, 0, 0, 0, 0, 0), (101, .iaload, 0, 0, 0, 0, 0, 0), (102, .goto 4, 71, 0, 0, 0, 0, 0), (105, .iconst 0, 0, 0, 0, 0, 0, 0), (106, .invokevirtual 142, 114, 4, 7, 0, 110, 0), (109, .aload_n 0, 0, 0, 0, 0, 0, 0), (110, .iload_n 1, 0, 0, 0, 0, 0, 0), (111, .iconst 3, 0, 0, 0, 0, 0, 3), (112, .bipush (-9), 0, 0, 0, 0, 0, -9), (114, .invokevirtual 142, 114, 4, 7, 0, 110, 0), (117, .iinc 1 1, 0, 0, 0, 0, 0, 1), (120, .goto (-73), 33, 0, 0, 0, 0, 0), (123, .return_, 0, 0, 0, 0, 0, 0)]
def am_t116 : List am_I := [(0, .aload_n 0, 0, 0, 0, 0, 0, 0), (1, .iconst 0, 0, 0, 0, 0, 0, 0), (2, .putfield 59, 7, 0, 0, 0, 113, 0), (5, .iload_n 1, 0, 0, 0, 0, 0, 0), (6, .iconst 0, 0, 0, 0, 0, 0, 0), (7, .bipush 9, 0, 0, 0, 0, 0, 9), (9, .invokestatic 63, 94, 3, 7, 0, 96, 0), (12, .ifCond .eq 12, 13, 0, 0, 0, 0, 0), (15, .aload_n 0, 0, 0, 0, 0, 0, 0), (16, .getfield 13, 7, 9, 0, 0, 100, 0), (19, .iload_n 1, 0, 0, 0, 0, 0, 0), (20, .iaload, 0, 0, 0, 0, 0, 0), (21, .goto 4, 14, 0, 0, 0, 0, 0), (24, .iconst (-1), 0, 0, 0, 0, 0, -1), (25, .ireturn, 0, 0, 0, 0, 0, 0)]
def am_t117 : List am_I := [(0, .iload_n 1, 0, 0, 0, 0, 0, 0), (1, .iconst 0, 0, 0, 0, 0, 0, 0), (2, .aload_n 0, 0, 0, 0, 0, 0, 0), (3, .getfield 139, 7, 11, 0, 0, 121, 0), (6, .iconst 1, 0, 0, 0, 0, 0, 1), (7, .isub, 0, 0, 0, 0, 0, 0), (8, .invokestatic 63, 94, 3, 7, 0, 96, 0), (11, .ireturn, 1, 0, 0, 0, 0, 0)]
def am_t118 : List am_I := [(0, .aload_n 0, 0, 0, 0, 0, 0, 0), (1, .getfield 13, 7, 9, 0, 0, 100, 0), (4, .iconst 0, 0, 0, 0, 0, 0, 0), (5, .iaload, 0, 0, 0, 0, 0, 0), (6, .iload_n 1, 0, 0, 0, 0, 0, 0), (7, .isub, 0, 0, 0, 0, 0, 0), (8, .aload_n 0, 0, 0, 0, 0, 0, 0), (9, .getfield 13, 7, 9, 0, 0, 100, 0), (12, .iconst 1, 0, 0, 0, 0, 0, 1), (13, .iaload, 0, 0, 0, 0, 0, 0), (14, .aload_n 0, 0, 0, 0, 0, 0, 0), (15, .getfield 13, 7, 9, 0, 0, 100, 0), (18, .iconst 2, 0, 0, 0, 0, 0, 2), (19, .iaload, 0, 0, 0, 0, 0, 0), (20, .iadd, 0, 0, 0, 0, 0, 0), (21, .imul, 0, 0, 0, 0, 0, 0), (22, .iconst 2, 0, 0, 0, 0, 0, 2), (23, .aload_n 0, 0, 0, 0, 0, 0, 0), (24, .getfield 13, 7, 9, 0, 0, 100, 0), (27, .iconst 3, 0, 0, 0, 0, 0, 3), (28, .iaload, 0, 0, 0, 0, 0, 0), (29, .imul, 0, 0, 0, 0, 0, 0), (30, .iadd, 0, 0, 0, 0, 0, 0), (31, .ireturn, 0, 0, 0, 0, 0, 0)]
def am_t119 : List am_I := [(0, .aload_n 0, 0, 0, 0, 0, 0, 0), (1, .getfield 13, 7, 9, 0, 0, 100, 0), (4, .iconst 0, 0, 0, 0, 0, 0, 0), (5, .iaload, 0, 0, 0, 0, 0, 0), (6, .iload_n 1, 0, 0, 0, 0, 0, 0), (7, .isub, 0, 0, 0, 0, 0, 0), (8, .aload_n 0, 0, 0, 0, 0, 0, 0), (9, .getfield 13, 7, 9, 0, 0, 100, 0), (12, .iconst 1, 0, 0, 0, 0, 0, 1), (13, .iaload, 0, 0, 0, 0, 0, 0), (14, .aload_n 0, 0, 0, 0, 0, 0, 0), (15, .getfield 13, 7, 9, 0, 0, 100, 0), (18, .iconst 2, 0, 0, 0, 0, 0, 2), (19, .iaload, 0, 0, 0, 0, 0, 0), (20, .iadd, 0, 0, 0, 0, 0, 0), (21, .imul, 0, 0, 0, 0, 0, 0), (22, .iconst 2, 0, 0, 0, 0, 0, 2), (23, .idiv, 0, 0, 0, 0, 0, 0), (24, .aload_n 0, 0, 0, 0, 0, 0, 0), (25, .getfield 13, 7, 9, 0, 0, 100, 0), (28, .iconst 3, 0, 0, 0, 0, 0, 3), (29, .iaload, 0, 0, 0, 0, 0, 0), (30, .iadd, 0, 0, 0, 0, 0, 0), (31, .ireturn, 0, 0, 0, 0, 0, 0)]
def am_t120 : List am_I := [(0, .aload_n 0, 0, 0, 0, 0, 0, 0), (1, .aload_n 0, 0, 0, 0, 0, 0, 0), (2, .getfield 19, 7, 13, 0, 0, 102, 0), (5, .iconst 0, 0, 0, 0, 0, 0, 0), (6, .iaload, 0, 0, 0, 0, 0, 0), (7, .invokevirtual 136, 119, 2, 7, 0, 109, 0), (10, .istore_n 2, 0, 0, 0, 0, 0, 0), (11, .aload_n 0, 0, 0, 0, 0, 0, 0), (12, .getfield 13, 7, 9, 0, 0, 100, 0), (15, .iconst 0, 0, 0, 0, 0, 0, 0), (16, .iaload, 0, 0, 0, 0, 0, 0), (17, .aload_n 0, 0, 0, 0, 0, 0, 0), (18, .getfield 19, 7, 13, 0, 0, 102, 0), (21, .iconst 0, 0, 0, 0, 0, 0, 0), (22, .iaload, 0, 0, 0, 0, 0, 0), (23, .isub, 0, 0, 0, 0, 0, 0), (24, .iload_n 1, 0, 0, 0, 0, 0, 0), (25, .if_icmp .le 28, 33, 0, 0, 0, 0, 0), (28, .iload_n 2, 0, 0, 0, 0, 0, 0), (29, .aload_n 0, 0, 0, 0, 0, 0, 0), (30, .getfield 19, 7, 13, 0, 0, 102, 0), (33, .iconst 1, 0, 0, 0, 0, 0, 1), (34, .iaload, 0, 0, 0, 0, 0, 0), (35, .if_icmp .le 7, 26, 0, 0, 0, 0, 0), (38, .iload_n 2, 0, 0, 0, 0, 0, 0), (39, .goto 9, 30, 0, 0, 0, 0, 0), (42, .aload_n 0, 0, 0, 0, 0, 0, 0), (43, .getfield 19, 7, 13, 0, 0, 102, 0), (46, .iconst 1, 0, 0, 0, 0, 0, 1), (47, .iaload, 0, 0, 0, 0, 0, 0), (48, .iconst 1, 0, 0, 0, 0, 0, 1), (49, .iadd, 0, 0, 0, 0, 0, 0), (50, .goto 4, 34, 0, 0, 0, 0, 0), (53, .iconst 0, 0, 0, 0, 0, 0, 0), (54, .ireturn, 0, 0, 0, 0, 0, 0)]
def am_t121 : List am_I := [(0, .aload_n 0, 0, 0, 0, 0, 0, 0), (1, .getfield 16, 7, 10, 0, 0, 101, 0), (4, .iconst 4, 0, 0, 0, 0, 0, 4), (5, .iload_n 1, 0, 0, 0, 0, 0, 0), (6, .imul, 0, 0, 0, 0, 0, 0), (7, .iaload, 0, 0, 0, 0, 0, 0), (8, .istore_n 2, 0, 0, 0, 0, 0, 0), (9, .aload_n 0, 0, 0, 0, 0, 0, 0), (10, .getfield 16, 7, 10, 0, 0, 101, 0), (13, .iconst 4, 0, 0, 0, 0, 0, 4), (14, .iload_n 1, 0, 0, 0, 0, 0, 0), (15, .imul, 0, 0, 0, 0, 0, 0), (16, .iconst 1, 0, 0, 0, 0, 0, 1), (17, .iadd, 0, 0, 0, 0, 0, 0), (18, .iaload, 0, 0, 0, 0, 0, 0), (19, .istore_n 3, 0, 0, 0, 0, 0, 0), (20, .aload_n 0, 0, 0, 0, 0, 0, 0), (21, .aload_n 0, 0, 0, 0, 0, 0, 0), (22, .getfield 19, 7, 13, 0, 0, 102, 0), (25, .iconst 0, 0, 0, 0, 0, 0, 0), (26, .iaload, 0, 0, 0, 0, 0, 0), (27, .invokevirtual 136, 119, 2, 7, 0, 109, 0), (30, .istore 4, 0, 0, 0, 0, 0, 0), (32, .aload_n 0, 0, 0, 0, 0, 0, 0), (33, .iload_n 1, 0, 0, 0, 0, 0, 0), (34, .iconst 2, 0, 0, 0, 0, 0, 2), (35, .invokevirtual 149, 113, 3, 7, 0, 112, 0), (38, .ifCond .le 17, 36, 0, 0, 0, 0, 0), (41, .iload_n 2, 0, 0, 0, 0, 0, 0), (42, .iconst 1, 0, 0, 0, 0, 0, 1), (43, .if_icmp .eq 8, 34, 0, 0, 0, 0, 0), (46, .iload_n 2, 0, 0, 0, 0, 0, 0), (47, .iconst 4, 0, 0, 0, 0, 0, 4), (48, .if_icmp .ne 7, 36, 0, 0, 0, 0, 0), (51, .iconst 1, 0, 0, 0, 0, 0, 1), (52, .goto 4, 37, 0, 0, 0, 0, 0), (55, .iconst 0, 0, 0, 0, 0, 0, 0), (56, .istore 5, 0, 0, 0, 0, 0, 0), (58, .iload 5, 0, 0, 0, 0, 0, 0), (60, .ifCond .eq 18, 49, 0, 0, 0, 0, 0), (63, .aload_n 0, 0, 0, 0, 0, 0, 0), (64, .iconst 2, 0, 0, 0, 0, 0, 2), (65, .aload_n 0, 0, 0, 0, 0, 0, 0), (66, .iload_n 1, 0, 0, 0, 0, 0, 0), (67, .iconst 2, 0, 0, 0, 0, 0, 2), (68, .invokevirtual 149, 113, 3, 7, 0, 112, 0), (71, .imul, 0, 0, 0, 0, 0, 0), (72, .invokevirtual 152, 120, 2, 7, 0, 113, 0), (75, .goto 80, 97, 0, 0, 0, 0, 0), (78, .iload_n 2, 0, 0, 0, 0, 0, 0), (79, .ifCond .ne 8, 53, 0, 0, 0, 0, 0), (82, .iload 4, 0, 0, 0, 0, 0, 0), (84, .goto 71, 97, 0, 0, 0, 0, 0), (87, .iload_n 2, 0, 0, 0, 0, 0, 0), (88, .iconst 1, 0, 0, 0, 0, 0, 1), (89, .if_icmp .ne 31, 75, 0, 0, 0, 0, 0), (92, .aload_n 0, 0, 0, 0, 0, 0, 0), (93, .getfield 19, 7, 13, 0, 0, 102, 0), (96, .iconst 1, 0, 0, 0, 0, 0, 1), (97, .iaload, 0, 0, 0, 0, 0, 0), (98, .iload_n 3, 0, 0, 0, 0, 0, 0), (99, .aload_n 0, 0, 0, 0, 0, 0, 0), (100, .getfield 19, 7, 13, 0, 0, 102, 0), (103, .iconst 1, 0, 0, 0, 0, 0, 1), (104, .iaload, 0, 0, 0, 0, 0, 0), (105, .aload_n 0, 0, 0, 0, 0, 0, 0), (106, .getfield 19, 7, 13, 0, 0, 102, 0), (109, .iconst 2, 0, 0, 0, 0, 0, 2), (110, .iaload, 0, 0, 0, 0, 0, 0), (111, .isub, 0, 0, 0, 0, 0, 0), (112, .imul, 0, 0, 0, 0, 0, 0), (113, .bipush 10, 0, 0, 0, 0, 0, 10), (115, .idiv, 0, 0, 0, 0, 0, 0), (116, .iadd, 0, 0, 0, 0, 0, 0), (117, .goto 38, 97, 0, 0, 0, 0, 0), (120, .iload_n 2, 0, 0, 0, 0, 0, 0), (121, .iconst 2, 0, 0, 0, 0, 0, 2), (122, .if_icmp .ne 11, 82, 0, 0, 0, 0, 0), (125, .aload_n 0, 0, 0, 0, 0, 0, 0), (126, .iload_n 3, 0, 0, 0, 0, 0, 0), (127, .invokevirtual 152, 120, 2, 7, 0, 113, 0), (130, .goto 25, 97, 0, 0, 0, 0, 0), (133, .iload_n 2, 0, 0, 0, 0, 0, 0), (134, .iconst 3, 0, 0, 0, 0, 0, 3), (135, .if_icmp .ne 7, 87, 0, 0, 0, 0, 0), (138, .iload_n 3, 0, 0, 0, 0, 0, 0), (139, .goto 16, 97, 0, 0, 0, 0, 0), (142, .aload_n 0, 0, 0, 0, 0, 0, 0), (143, .getfield 19, 7, 13, 0, 0, 102, 0), (146, .iconst 1, 0, 0, 0, 0, 0, 1), (147, .iaload, 0, 0, 0, 0, 0, 0), (148, .iload 4, 0, 0, 0, 0, 0, 0), (150, .iadd, 0, 0, 0, 0, 0, 0), (151, .iconst 2, 0, 0, 0, 0, 0, 2), (152, .idiv, 0, 0, 0, 0, 0, 0), (153, .iload_n 3, 0, 0, 0, 0, 0, 0), (154, .iadd, 0, 0, 0, 0, 0, 0), (155, .istore 6, 0, 0, 0, 0, 0, 0), (157, .aload_n 0, 0, 0, 0, 0, 0, 0), (158, .getfield 13, 7, 9, 0, 0, 100, 0), (161, .bipush 7, 0, 0, 0, 0, 0, 7), (163, .iaload, 0, 0, 0, 0, 0, 0), (164, .ifCond .ne 9, 105, 0, 0, 0, 0, 0), (167, .sipush 999, 0, 0, 0, 0, 0, 999), (170, .goto 10, 109, 0, 0, 0, 0, 0), (173, .aload_n 0, 0, 0, 0, 0, 0, 0), (174, .getfield 13, 7, 9, 0, 0, 100, 0), (177, .bipush 7, 0, 0, 0, 0, 0, 7), (179, .iaload, 0, 0, 0, 0, 0, 0), (180, .istore 7, 0, 0, 0, 0, 0, 0), (182, .iload 6, 0, 0, 0, 0, 0, 0), (184, .ifCond .ge 7, 114, 0, 0, 0, 0, 0), (187, .iconst 0, 0, 0, 0, 0, 0, 0), (188, .goto 17, 120, 0, 0, 0, 0, 0), (191, .iload 6, 0, 0, 0, 0, 0, 0), (193, .iload 7, 0, 0, 0, 0, 0, 0), (195, .if_icmp .le 8, 119, 0, 0, 0, 0, 0), (198, .iload 7, 0, 0, 0, 0, 0, 0), (200, .goto 5, 120, 0, 0, 0, 0, 0), (203, .iload 6, 0, 0, 0, 0, 0, 0), (205, .ireturn, 0, 0, 0, 0, 0, 0)]
def am_t122 : List am_I := [(0, .aload_n 0, 0, 0, 0, 0, 0, 0), (1, .iconst 0, 0, 0, 0, 0, 0, 0), (2, .putfield 59, 7, 0, 0, 0, 113, 0), (5, .aload_n 0, 0, 0, 0, 0, 0, 0), (6, .iload_n 1, 0, 0, 0, 0, 0, 0), (7, .invokevirtual 155, 117, 2, 7, 0, 114, 0), (10, .ifCond .eq 12, 12, 0, 0, 0, 0, 0), (13, .iload_n 2, 0, 0, 0, 0, 0, 0), (14, .iconst 0, 0, 0, 0, 0, 0, 0), (15, .iconst 5, 0, 0, 0, 0, 0, 5), (16, .invokestatic 63, 94, 3, 7, 0, 96, 0), (19, .ifCond .ne 8, 14, 0, 0, 0, 0, 0), (22, .ldc 159, 0, 0, 0, 0, 2, -1000000), (24, .goto 68, 53, 0, 0, 0, 0, 0), (27, .iload_n 2, 0, 0, 0, 0, 0, 0), (28, .iconst 2, 0, 0, 0, 0, 0, 2), (29, .if_icmp .ge 16, 26, 0, 0, 0, 0, 0), (32, .aload_n 0, 0, 0, 0, 0, 0, 0), (33, .getfield 16, 7, 10, 0, 0, 101, 0), (36, .iconst 4, 0, 0, 0, 0, 0, 4), (37, .iload_n 1, 0, 0, 0, 0, 0, 0), (38, .imul, 0, 0, 0, 0, 0, 0), (39, .iload_n 2, 0, 0, 0, 0, 0, 0), (40, .iadd, 0, 0, 0, 0, 0, 0), (41, .iaload, 0, 0, 0, 0, 0, 0), (42, .goto 50, 53, 0, 0, 0, 0, 0), (45, .iload_n 2, 0, 0, 0, 0, 0, 0), (46, .iconst 2, 0, 0, 0, 0, 0, 2), (47, .if_icmp .ne 12, 34, 0, 0, 0, 0, 0), (50, .aload_n 0, 0, 0, 0, 0, 0, 0), (51, .iload_n 1, 0, 0, 0, 0, 0, 0), (52, .iconst 0, 0, 0, 0, 0, 0, 0), (53, .invokevirtual 149, 113, 3, 7, 0, 112, 0), (56, .goto 36, 53, 0, 0, 0, 0, 0), (59, .iload_n 2, 0, 0, 0, 0, 0, 0), (60, .iconst 3, 0, 0, 0, 0, 0, 3), (61, .if_icmp .ne 12, 42, 0, 0, 0, 0, 0), (64, .aload_n 0, 0, 0, 0, 0, 0, 0), (65, .iload_n 1, 0, 0, 0, 0, 0, 0), (66, .iconst 1, 0, 0, 0, 0, 0, 1), (67, .invokevirtual 149, 113, 3, 7, 0, 112, 0), (70, .goto 22, 53, 0, 0, 0, 0, 0), (73, .iload_n 2, 0, 0, 0, 0, 0, 0), (74, .iconst 4, 0, 0, 0, 0, 0, 4), (75, .if_icmp .ne 11, 49, 0, 0, 0, 0, 0), (78, .aload_n 0, 0, 0, 0, 0, 0, 0), (79, .iload_n 1, 0, 0, 0, 0, 0, 0), (80, .invokevirtual 160, 121, 2, 7, 0, 115, 0), (83, .goto 9, 53, 0, 0, 0, 0, 0), (86, .aload_n 0, 0, 0, 0, 0, 0, 0), (87, .iload_n 1, 0, 0, 0, 0, 0, 0), (88, .iconst 2, 0, 0, 0, 0, 0, 2), (89, .invokevirtual 149, 113, 3, 7, 0, 112, 0), (92, .ireturn, 0, 0, 0, 0, 0, 0)]
def am_t123 : List am_I := [(0, .aload_n 0, 0, 0, 0, 0, 0, 0), (1, .iconst 0, 0, 0, 0, 0, 0, 0), (2, .putfield 59, 7, 0, 0, 0, 113, 0), (5, .iload_n 1, 0, 0, 0, 0, 0, 0), (6, .iconst 0, 0, 0, 0, 0, 0, 0), (7, .aload_n 0, 0, 0, 0, 0, 0, 0), (8, .getfield 13, 7, 9, 0, 0, 100, 0), (11, .iconst 0, 0, 0, 0, 0, 0, 0), (12, .iaload, 0, 0, 0, 0, 0, 0), (13, .invokestatic 63, 94, 3, 7, 0, 96, 0), (16, .ifCond .eq 12, 16, 0, 0, 0, 0, 0), (19, .iload_n 2, 0, 0, 0, 0, 0, 0), (20, .iconst 0, 0, 0, 0, 0, 0, 0), (21, .iconst 1, 0, 0, 0, 0, 0, 1), (22, .invokestatic 63, 94, 3, 7, 0, 96, 0), (25, .ifCond .ne 7, 18, 0, 0, 0, 0, 0), (28, .iconst (-1), 0, 0, 0, 0, 0, -1), (29, .goto 20, 27, 0, 0, 0, 0, 0), (32, .iload_n 2, 0, 0, 0, 0, 0, 0), (33, .ifCond .ne 11, 24, 0, 0, 0, 0, 0), (36, .aload_n 0, 0, 0, 0, 0, 0, 0), (37, .iload_n 1, 0, 0, 0, 0, 0, 0), (38, .invokevirtual 136, 119, 2, 7, 0, 109, 0), (41, .goto 8, 27, 0, 0, 0, 0, 0), (44, .aload_n 0, 0, 0, 0, 0, 0, 0), (45, .iload_n 1, 0, 0, 0, 0, 0, 0), (46, .invokevirtual 163, 118, 2, 7, 0, 116, 0), (49, .ireturn, 0, 0, 0, 0, 0, 0)]
def am_t124 : List am_I := [(0, .aload_n 0, 0, 0, 0, 0, 0, 0), (1, .iconst 0, 0, 0, 0, 0, 0, 0), (2, .putfield 59, 7, 0, 0, 0, 113, 0), (5, .iload_n 1, 0, 0, 0, 0, 0, 0), (6, .iconst 0, 0, 0, 0, 0, 0, 0), (7, .aload_n 0, 0, 0, 0, 0, 0, 0), (8, .getfield 13, 7, 9, 0, 0, 100, 0), (11, .iconst 0, 0, 0, 0, 0, 0, 0), (12, .iaload, 0, 0, 0, 0, 0, 0), (13, .invokestatic 63, 94, 3, 7, 0, 96, 0), (16, .ifCond .eq 14, 16, 0, 0, 0, 0, 0), (19, .iload_n 2, 0, 0, 0, 0, 0, 0), (20, .iconst 0, 0, 0, 0, 0, 0, 0), (21, .sipush 279, 0, 0, 0, 0, 0, 279), (24, .invokestatic 63, 94, 3, 7, 0, 96, 0), (27, .ifCond .ne 5, 18, 0, 0, 0, 0, 0), (30, .iconst (-1), 0, 0, 0, 0, 0, -1), (31, .ireturn, 0, 0, 0, 0, 0, 0), (32, .aload_n 0, 0, 0, 0, 0, 0, 0), (33, .getfield 13, 7, 9, 0, 0, 100, 0), (36, .iconst 0, 0, 0, 0, 0, 0, 0), (37, .iaload, 0, 0, 0, 0, 0, 0), (38, .iload_n 1, 0, 0, 0, 0, 0, 0), (39, .isub, 0, 0, 0, 0, 0, 0), (40, .istore_n 3, 0, 0, 0, 0, 0, 0), (41, .iconst 0, 0, 0, 0, 0, 0, 0), (42, .istore 4, 0, 0, 0, 0, 0, 0), (44, .lconst 1, 0, 0, 0, 0, 0, 0), (45, .lstore 5, 0, 0, 0, 0, 0, 0), (47, .iconst 0, 0, 0, 0, 0, 0, 0), (48, .istore 7, 0, 0, 0, 0, 0, 0), (50, .iload 7, 0, 0, 0, 0, 0, 0), (52, .iload_n 3, 0, 0, 0, 0, 0, 0), (53, .if_icmp .gt 69, 77, 0, 0, 0, 0, 0), (56, .iload 4, 0, 0, 0, 0, 0, 0), (58, .iload_n 3, 0, 0, 0, 0, 0, 0), (59, .iload 7, 0, 0, 0, 0, 0, 0), (61, .isub, 0, 0, 0, 0, 0, 0), (62, .aload_n 0, 0, 0, 0, 0, 0, 0), (63, .getfield 13, 7, 9, 0, 0, 100, 0), (66, .iconst 1, 0, 0, 0, 0, 0, 1), (67, .iaload, 0, 0, 0, 0, 0, 0), (68, .imul, 0, 0, 0, 0, 0, 0), (69, .iload 7, 0, 0, 0, 0, 0, 0), (71, .aload_n 0, 0, 0, 0, 0, 0, 0), (72, .getfield 13, 7, 9, 0, 0, 100, 0), (75, .iconst 2, 0, 0, 0, 0, 0, 2), (76, .iaload, 0, 0, 0, 0, 0, 0), (77, .imul, 0, 0, 0, 0, 0, 0), (78, .iadd, 0, 0, 0, 0, 0, 0), (79, .aload_n 0, 0, 0, 0, 0, 0, 0), (80, .getfield 13, 7, 9, 0, 0, 100, 0), (83, .iconst 3, 0, 0, 0, 0, 0, 3), (84, .iaload, 0, 0, 0, 0, 0, 0), (85, .iadd, 0, 0, 0, 0, 0, 0), (86, .iload_n 2, 0, 0, 0, 0, 0, 0), (87, .if_icmp .ne 9, 60, 0, 0, 0, 0, 0), (90, .lload 5, 0, 0, 0, 0, 0, 0), (92, .l2i, 0, 0, 0, 0, 0, 0), (93, .goto 4, 61, 0, 0, 0, 0, 0), (96, .iconst 0, 0, 0, 0, 0, 0, 0), (97, .iadd, 0, 0, 0, 0, 0, 0), (98, .istore 4, 0, 0, 0, 0, 0, 0), (100, .lload 5, 0, 0, 0, 0, 0, 0), (102, .iload_n 3, 0, 0, 0, 0, 0, 0), (103, .iload 7, 0, 0, 0, 0, 0, 0), (105, .isub, 0, 0, 0, 0, 0, 0), (106, .i2l, 0, 0, 0, 0, 0, 0), (107, .lmul, 0, 0, 0, 0, 0, 0), (108, .iload 7, 0, 0, 0, 0, 0, 0), (110, .iconst 1, 0, 0, 0, 0, 0, 1), (111, .iadd, 0, 0, 0, 0, 0, 0), (112, .i2l, 0, 0, 0, 0, 0, 0), (113, .ldiv, 0, 0, 0, 0, 0, 0), (114, .lstore 5, 0, 0, 0, 0, 0, 0), (116, .iinc 7 1, 0, 0, 0, 0, 0, 1), (119, .goto (-69), 31, 0, 0, 0, 0, 0), (122, .iload 4, 0, 0, 0, 0, 0, 0), (124, .ireturn, 0, 0, 0, 0, 0, 0)]
def am_t125 : List am_I := [(0, .aload_n 0, 0, 0, 0, 0, 0, 0), (1, .getfield 19, 7, 13, 0, 0, 102, 0), (4, .iconst 0, 0, 0, 0, 0, 0, 0), (5, .iaload, 0, 0, 0, 0, 0, 0), (6, .aload_n 0, 0, 0, 0, 0, 0, 0), (7, .getfield 13, 7, 9, 0, 0, 100, 0), (10, .iconst 0, 0, 0, 0, 0, 0, 0), (11, .iaload, 0, 0, 0, 0, 0, 0), (12, .if_icmp .ne 7, 11, 0, 0, 0, 0, 0), (15, .iconst 1, 0, 0, 0, 0, 0, 1), (16, .goto 4, 12, 0, 0, 0, 0, 0), (19, .iconst 0, 0, 0, 0, 0, 0, 0), (20, .ireturn, 1, 0, 0, 0, 0, 0)]
def am_t126 : List am_I := [(0, .bipush (-9), 0, 0, 0, 0, 0, -9), (2, .istore_n 1, 0, 0, 0, 0, 0, 0), (3, .iconst 0, 0, 0, 0, 0, 0, 0), (4, .istore_n 2, 0, 0, 0, 0, 0, 0), (5, .iload_n 2, 0, 0, 0, 0, 0, 0), (6, .aload_n 0, 0, 0, 0, 0, 0, 0), (7, .getfield 139, 7, 11, 0, 0, 121, 0), (10, .if_icmp .ge 86, 57, 0, 0, 0, 0, 0), (13, .aload_n 0, 0, 0, 0, 0, 0, 0), (14, .getfield 35, 7, 18, 0, 0, 107, 0), (17, .iload_n 2, 0, 0, 0, 0, 0, 0), (18, .iaload, 0, 0, 0, 0, 0, 0), (19, .iconst 2, 0, 0, 0, 0, 0, 2), (20, .if_icmp .ge 37, 35, 0, 0, 0, 0, 0), (23, .aload_n 0, 0, 0, 0, 0, 0, 0), (24, .iload_n 2, 0, 0, 0, 0, 0, 0), (25, .iconst 0, 0, 0, 0, 0, 0, 0), (26, .invokevirtual 149, 113, 3, 7, 0, 112, 0), (29, .aload_n 0, 0, 0, 0, 0, 0, 0), (30, .getfield 13, 7, 9, 0, 0, 100, 0), (33, .iconst 5, 0, 0, 0, 0, 0, 5), (34, .iaload, 0, 0, 0, 0, 0, 0), (35, .iadd, 0, 0, 0, 0, 0, 0), (36, .aload_n 0, 0, 0, 0, 0, 0, 0), (37, .getfield 32, 7, 17, 0, 0, 106, 0), (40, .iload_n 2, 0, 0, 0, 0, 0, 0), (41, .iaload, 0, 0, 0, 0, 0, 0), (42, .aload_n 0, 0, 0, 0, 0, 0, 0), (43, .getfield 13, 7, 9, 0, 0, 100, 0), (46, .bipush 8, 0, 0, 0, 0, 0, 8), (48, .iaload, 0, 0, 0, 0, 0, 0), (49, .iadd, 0, 0, 0, 0, 0, 0), (50, .if_icmp .lt 7, 35, 0, 0, 0, 0, 0), (53, .iconst 1, 0, 0, 0, 0, 0, 1), (54, .goto 4, 36, 0, 0, 0, 0, 0), (57, .iconst 0, 0, 0, 0, 0, 0, 0), (58, .istore_n 3, 0, 0, 0, 0, 0, 0), (59, .iload_n 3, 0, 0, 0, 0, 0, 0), (60, .ifCond .eq 28, 53, 0, 0, 0, 0, 0), (63, .iload_n 1, 0, 0, 0, 0, 0, 0), (64, .bipush (-9), 0, 0, 0, 0, 0, -9), (66, .if_icmp .eq 18, 51, 0, 0, 0, 0, 0), (69, .aload_n 0, 0, 0, 0, 0, 0, 0), (70, .getfield 32, 7, 17, 0, 0, 106, 0), (73, .iload_n 2, 0, 0, 0, 0, 0, 0), (74, .iaload, 0, 0, 0, 0, 0, 0), (75, .aload_n 0, 0, 0, 0, 0, 0, 0), (76, .getfield 32, 7, 17, 0, 0, 106, 0), (79, .iload_n 1, 0, 0, 0, 0, 0, 0), (80, .iaload, 0, 0, 0, 0, 0, 0), (81, .if_icmp .le 7, 53, 0, 0, 0, 0, 0), (84, .iload_n 2, 0, 0, 0, 0, 0, 0), (85, .goto 4, 54, 0, 0, 0, 0, 0), (88, .iload_n 1, 0, 0, 0, 0, 0, 0), (89, .istore_n 1, 0, 0, 0, 0, 0, 0), (90, .iinc 2 1, 0, 0, 0, 0, 0, 1), (93, .goto (-88), 4, 0, 0, 0, 0, 0), (96, .iload_n 1, 0, 0, 0, 0, 0, 0), (97, .ireturn, 0, 0, 0, 0, 0, 0)]
def am_t127 : List am_I := [(0, .bipush (-9), 0, 0, 0, 0, 0, -9), (2, .istore_n 2, 0, 0, 0, 0, 0, 0), (3, .iconst 0, 0, 0, 0, 0, 0, 0), (4, .istore_n 3, 0, 0, 0, 0, 0, 0), (5, .iload_n 3, 0, 0, 0, 0, 0, 0), (6, .aload_n 0, 0, 0, 0, 0, 0, 0), (7, .getfield 139, 7, 11, 0, 0, 121, 0), (10, .if_icmp .ge 80, 51, 0, 0, 0, 0, 0), (13, .iload_n 3, 0, 0, 0, 0, 0, 0), (14, .iload_n 1, 0, 0, 0, 0, 0, 0), (15, .if_icmp .eq 34, 29, 0, 0, 0, 0, 0), (18, .aload_n 0, 0, 0, 0, 0, 0, 0), (19, .getfield 38, 7, 19, 0, 0, 108, 0), (22, .iload_n 3, 0, 0, 0, 0, 0, 0), (23, .iaload, 0, 0, 0, 0, 0, 0), (24, .iconst 2, 0, 0, 0, 0, 0, 2), (25, .if_icmp .ge 24, 29, 0, 0, 0, 0, 0), (28, .aload_n 0, 0, 0, 0, 0, 0, 0), (29, .iload_n 3, 0, 0, 0, 0, 0, 0), (30, .iconst 1, 0, 0, 0, 0, 0, 1), (31, .invokevirtual 149, 113, 3, 7, 0, 112, 0), (34, .aload_n 0, 0, 0, 0, 0, 0, 0), (35, .getfield 13, 7, 9, 0, 0, 100, 0), (38, .bipush 6, 0, 0, 0, 0, 0, 6), (40, .iaload, 0, 0, 0, 0, 0, 0), (41, .iadd, 0, 0, 0, 0, 0, 0), (42, .ifCond .le 7, 29, 0, 0, 0, 0, 0), (45, .iconst 1, 0, 0, 0, 0, 0, 1), (46, .goto 4, 30, 0, 0, 0, 0, 0), (49, .iconst 0, 0, 0, 0, 0, 0, 0), (50, .istore 4, 0, 0, 0, 0, 0, 0), (52, .iload 4, 0, 0, 0, 0, 0, 0), (54, .ifCond .eq 28, 47, 0, 0, 0, 0, 0), (57, .iload_n 2, 0, 0, 0, 0, 0, 0), (58, .bipush (-9), 0, 0, 0, 0, 0, -9), (60, .if_icmp .eq 18, 45, 0, 0, 0, 0, 0), (63, .aload_n 0, 0, 0, 0, 0, 0, 0), (64, .getfield 32, 7, 17, 0, 0, 106, 0), (67, .iload_n 3, 0, 0, 0, 0, 0, 0), (68, .iaload, 0, 0, 0, 0, 0, 0), (69, .aload_n 0, 0, 0, 0, 0, 0, 0), (70, .getfield 32, 7, 17, 0, 0, 106, 0), (73, .iload_n 2, 0, 0, 0, 0, 0, 0), (74, .iaload, 0, 0, 0, 0, 0, 0), (75, .if_icmp .ge 7, 47, 0, 0, 0, 0, 0), (78, .iload_n 3, 0, 0, 0, 0, 0, 0), (79, .goto 4, 48, 0, 0, 0, 0, 0), (82, .iload_n 2, 0, 0, 0, 0, 0, 0), (83, .istore_n 2, 0, 0, 0, 0, 0, 0), (84, .iinc 3 1, 0, 0, 0, 0, 0, 1), (87, .goto (-82), 4, 0, 0, 0, 0, 0), (90, .iload_n 2, 0, 0, 0, 0, 0, 0), (91, .ireturn, 0, 0, 0, 0, 0, 0)]
def am_t128 : List am_I := [(0, .aload_n 0, 0, 0, 0, 0, 0, 0), (1, .invokevirtual 166, 126, 1, 7, 0, 117, 0), (4, .istore_n 1, 0, 0, 0, 0, 0, 0), (5, .iload_n 1, 0, 0, 0, 0, 0, 0), (6, .bipush (-9), 0, 0, 0, 0, 0, -9), (8, .if_icmp .ne 8, 8, 0, 0, 0, 0, 0), (11, .bipush (-9), 0, 0, 0, 0, 0, -9), (13, .goto 8, 11, 0, 0, 0, 0, 0), (16, .aload_n 0, 0, 0, 0, 0, 0, 0), (17, .iload_n 1, 0, 0, 0, 0, 0, 0), (18, .invokevirtual 170, 127, 2, 7, 0, 118, 0), (21, .istore_n 2, 0, 0, 0, 0, 0, 0), (22, .iload_n 2, 0, 0, 0, 0, 0, 0), (23, .bipush (-9), 0, 0, 0, 0, 0, -9), (25, .if_icmp .eq 20, 26, 0, 0, 0, 0, 0), (28, .aload_n 0, 0, 0, 0, 0, 0, 0), (29, .getfield 32, 7, 17, 0, 0, 106, 0), (32, .iload_n 1, 0, 0, 0, 0, 0, 0), (33, .iaload, 0, 0, 0, 0, 0, 0), (34, .aload_n 0, 0, 0, 0, 0, 0, 0), (35, .getfield 32, 7, 17, 0, 0, 106, 0), (38, .iload_n 2, 0, 0, 0, 0, 0, 0), (39, .iaload, 0, 0, 0, 0, 0, 0), (40, .iconst 1, 0, 0, 0, 0, 0, 1), (41, .iadd, 0, 0, 0, 0, 0, 0), (42, .if_icmp .ge 5, 28, 0, 0, 0, 0, 0), (45, .iconst 0, 0, 0, 0, 0, 0, 0), (46, .ireturn, 1, 0, 0, 0, 0, 0), (47, .aload_n 0, 0, 0, 0, 0, 0, 0), (48, .getfield 32, 7, 17, 0, 0, 106, 0), (51, .iload_n 1, 0, 0, 0, 0, 0, 0), (52, .iaload, 0, 0, 0, 0, 0, 0), (53, .aload_n 0, 0, 0, 0, 0, 0, 0), (54, .getfield 32, 7, 17, 0, 0, 106, 0), (57, .iload_n 2, 0, 0, 0, 0, 0, 0), (58, .iaload, 0, 0, 0, 0, 0, 0), (59, .iadd, 0, 0, 0, 0, 0, 0), (60, .iconst 1, 0, 0, 0, 0, 0, 1), (61, .iadd, 0, 0, 0, 0, 0, 0), (62, .iconst 2, 0, 0, 0, 0, 0, 2), (63, .idiv, 0, 0, 0, 0, 0, 0), (64, .istore_n 3, 0, 0, 0, 0, 0, 0), (65, .aload_n 0, 0, 0, 0, 0, 0, 0), (66, .iload_n 1, 0, 0, 0, 0, 0, 0), (67, .iconst 0, 0, 0, 0, 0, 0, 0), (68, .aload_n 0, 0, 0, 0, 0, 0, 0), (69, .iload_n 1, 0, 0, 0, 0, 0, 0), (70, .iconst 0, 0, 0, 0, 0, 0, 0), (71, .invokevirtual 149, 113, 3, 7, 0, 112, 0), (74, .iload_n 3, 0, 0, 0, 0, 0, 0), (75, .isub, 0, 0, 0, 0, 0, 0), (76, .aload_n 0, 0, 0, 0, 0, 0, 0), (77, .getfield 13, 7, 9, 0, 0, 100, 0), (80, .bipush 8, 0, 0, 0, 0, 0, 8), (82, .iaload, 0, 0, 0, 0, 0, 0), (83, .isub, 0, 0, 0, 0, 0, 0), (84, .invokevirtual 142, 114, 4, 7, 0, 110, 0), (87, .aload_n 0, 0, 0, 0, 0, 0, 0), (88, .iload_n 1, 0, 0, 0, 0, 0, 0), (89, .iconst 1, 0, 0, 0, 0, 0, 1), (90, .aload_n 0, 0, 0, 0, 0, 0, 0), (91, .iload_n 1, 0, 0, 0, 0, 0, 0), (92, .iconst 1, 0, 0, 0, 0, 0, 1), (93, .invokevirtual 149, 113, 3, 7, 0, 112, 0), (96, .iconst 1, 0, 0, 0, 0, 0, 1), (97, .iadd, 0, 0, 0, 0, 0, 0), (98, .invokevirtual 142, 114, 4, 7, 0, 110, 0), (101, .aload_n 0, 0, 0, 0, 0, 0, 0), (102, .iload_n 2, 0, 0, 0, 0, 0, 0), (103, .iconst 0, 0, 0, 0, 0, 0, 0), (104, .aload_n 0, 0, 0, 0, 0, 0, 0), (105, .iload_n 2, 0, 0, 0, 0, 0, 0), (106, .iconst 0, 0, 0, 0, 0, 0, 0), (107, .invokevirtual 149, 113, 3, 7, 0, 112, 0), (110, .iload_n 3, 0, 0, 0, 0, 0, 0), (111, .iadd, 0, 0, 0, 0, 0, 0), (112, .invokevirtual 142, 114, 4, 7, 0, 110, 0), (115, .aload_n 0, 0, 0, 0, 0, 0, 0), (116, .iload_n 2, 0, 0, 0, 0, 0, 0), (117, .iconst 1, 0, 0, 0, 0, 0, 1), (118, .aload_n 0, 0, 0, 0, 0, 0, 0), (119, .iload_n 2, 0, 0, 0, 0, 0, 0), (120, .iconst 1, 0, 0, 0, 0, 0, 1), (121, .invokevirtual 149, 113, 3, 7, 0, 112, 0), (124, .iconst 1, 0, 0, 0, 0, 0, 1), (125, .isub, 0, 0, 0, 0, 0, 0), (126, .invokevirtual 142, 114, 4, 7, 0, 110, 0), (129, .aload_n 0, 0, 0, 0, 0, 0, 0), (130, .getfield 35, 7, 18, 0, 0, 107, 0), (133, .iload_n 1, 0, 0, 0, 0, 0, 0), (134, .dup2, 0, 0, 0, 0, 0, 0), (135, .iaload, 0, 0, 0, 0, 0, 0), (136, .iconst 1, 0, 0, 0, 0, 0, 1), (137, .iadd, 0, 0, 0, 0, 0, 0), (138, .iastore, 0, 0, 0, 0, 0, 0), (139, .aload_n 0, 0, 0, 0, 0, 0, 0), (140, .getfield 38, 7, 19, 0, 0, 108, 0), (143, .iload_n 2, 0, 0, 0, 0, 0, 0), (144, .dup2, 0, 0, 0, 0, 0, 0), (145, .iaload, 0, 0, 0, 0, 0, 0), (146, .iconst 1, 0, 0, 0, 0, 0, 1), (147, .iadd, 0, 0, 0, 0, 0, 0), (148, .iastore, 0, 0, 0, 0, 0, 0), (149, .aload_n 0, 0, 0, 0, 0, 0, 0), (150, .getfield 19, 7, 13, 0, 0, 102, 0), (153, .iconst 1, 0, 0, 0, 0, 0, 1), (154, .iload_n 3, 0, 0, 0, 0, 0, 0), (155, .iastore, 0, 0, 0, 0, 0, 0), (156, .aload_n 0, 0, 0, 0, 0, 0, 0), (157, .getfield 19, 7, 13, 0, 0, 102, 0), (160, .iconst 3, 0, 0, 0, 0, 0, 3), (161, .dup2, 0, 0, 0, 0, 0, 0), (162, .iaload, 0, 0, 0, 0, 0, 0), (163, .iconst 1, 0, 0, 0, 0, 0, 1), (164, .iadd, 0, 0, 0, 0, 0, 0), (165, .iastore, 0, 0, 0, 0, 0, 0), (166, .iconst 1, 0, 0, 0, 0, 0, 1), (167, .ireturn, 1, 0, 0, 0, 0, 0)]
def am_t129 : List am_I := [(0, .iconst 0, 0, 0, 0, 0, 0, 0), (1, .istore_n 2, 0, 0, 0, 0, 0, 0), (2, .iload_n 2, 0, 0, 0, 0, 0, 0), (3, .aload_n 0, 0, 0, 0, 0, 0, 0), (4, .getfield 139, 7, 11, 0, 0, 121, 0), (7, .if_icmp .ge 30, 23, 0, 0, 0, 0, 0), (10, .aload_n 0, 0, 0, 0, 0, 0, 0), (11, .iload_n 2, 0, 0, 0, 0, 0, 0), (12, .iconst 0, 0, 0, 0, 0, 0, 0), (13, .aload_n 0, 0, 0, 0, 0, 0, 0), (14, .iload_n 2, 0, 0, 0, 0, 0, 0), (15, .iconst 0, 0, 0, 0, 0, 0, 0), (16, .invokevirtual 149, 113, 3, 7, 0, 112, 0), (19, .iload_n 1, 0, 0, 0, 0, 0, 0), (20, .aload_n 0, 0, 0, 0, 0, 0, 0), (21, .iload_n 2, 0, 0, 0, 0, 0, 0), (22, .iconst 1, 0, 0, 0, 0, 0, 1), (23, .invokevirtual 149, 113, 3, 7, 0, 112, 0), (26, .imul, 0, 0, 0, 0, 0, 0), (27, .iadd, 0, 0, 0, 0, 0, 0), (28, .invokevirtual 142, 114, 4, 7, 0, 110, 0), (31, .iinc 2 1, 0, 0, 0, 0, 0, 1), (34, .goto (-32), 2, 0, 0, 0, 0, 0), (37, .aload_n 0, 0, 0, 0, 0, 0, 0), (38, .getfield 19, 7, 13, 0, 0, 102, 0), (41, .iconst 4, 0, 0, 0, 0, 0, 4), (42, .dup2, 0, 0, 0, 0, 0, 0), (43, .iaload, 0, 0, 0, 0, 0, 0), (44, .iload_n 1, 0, 0, 0, 0, 0, 0), (45, .iadd, 0, 0, 0, 0, 0, 0), (46, .iastore, 0, 0, 0, 0, 0, 0), (47, .return_, 0, 0, 0, 0, 0, 0)]
def am_t130 : List am_I := [(0, .iconst 0, 0, 0, 0, 0, 0, 0), (1, .istore_n 1, 0, 0, 0, 0, 0, 0), (2, .iload_n 1, 0, 0, 0, 0, 0, 0), (3, .aload_n 0, 0, 0, 0, 0, 0, 0), (4, .getfield 139, 7, 11, 0, 0, 121, 0), (7, .if_icmp .ge 34, 25, 0, 0, 0, 0, 0), (10, .aload_n 0, 0, 0, 0, 0, 0, 0), (11, .getfield 32, 7, 17, 0, 0, 106, 0), (14, .iload_n 1, 0, 0, 0, 0, 0, 0), (15, .aload_n 0, 0, 0, 0, 0, 0, 0), (16, .iload_n 1, 0, 0, 0, 0, 0, 0), (17, .invokevirtual 160, 121, 2, 7, 0, 115, 0), (20, .iastore, 0, 0, 0, 0, 0, 0), (21, .aload_n 0, 0, 0, 0, 0, 0, 0), (22, .getfield 35, 7, 18, 0, 0, 107, 0), (25, .iload_n 1, 0, 0, 0, 0, 0, 0), (26, .iconst 0, 0, 0, 0, 0, 0, 0), (27, .iastore, 0, 0, 0, 0, 0, 0), (28, .aload_n 0, 0, 0, 0, 0, 0, 0), (29, .getfield 38, 7, 19, 0, 0, 108, 0), (32, .iload_n 1, 0, 0, 0, 0, 0, 0), (33, .iconst 0, 0, 0, 0, 0, 0, 0), (34, .iastore, 0, 0, 0, 0, 0, 0), (35, .iinc 1 1, 0, 0, 0, 0, 0, 1), (38, .goto (-36), 2, 0, 0, 0, 0, 0), (41, .aload_n 0, 0, 0, 0, 0, 0, 0), (42, .getfield 19, 7, 13, 0, 0, 102, 0), (45, .iconst 2, 0, 0, 0, 0, 0, 2), (46, .aload_n 0, 0, 0, 0, 0, 0, 0), (47, .getfield 19, 7, 13, 0, 0, 102, 0), (50, .iconst 1, 0, 0, 0, 0, 0, 1), (51, .iaload, 0, 0, 0, 0, 0, 0), (52, .iastore, 0, 0, 0, 0, 0, 0), (53, .iconst 0, 0, 0, 0, 0, 0, 0), (54, .istore_n 1, 0, 0, 0, 0, 0, 0), (55, .iload_n 1, 0, 0, 0, 0, 0, 0), (56, .aload_n 0, 0, 0, 0, 0, 0, 0), (57, .getfield 13, 7, 9, 0, 0, 100, 0), (60, .bipush 9, 0, 0, 0, 0, 0, 9), (62, .iaload, 0, 0, 0, 0, 0, 0), (63, .if_icmp .ge 16, 46, 0, 0, 0, 0, 0), (66, .aload_n 0, 0, 0, 0, 0, 0, 0), (67, .invokevirtual 173, 128, 1, 7, 0, 119, 0), (70, .ifCond .eq 9, 46, 0, 0, 0, 0, 0), (73, .iinc 1 1, 0, 0, 0, 0, 0, 1), (76, .goto (-21), 35, 0, 0, 0, 0, 0), (79, .aload_n 0, 0, 0, 0, 0, 0, 0), (80, .getfield 19, 7, 13, 0, 0, 102, 0), (83, .iconst 5, 0, 0, 0, 0, 0, 5), (84, .aload_n 0, 0, 0, 0, 0, 0, 0), (85, .getfield 19, 7, 13, 0, 0, 102, 0), (88, .iconst 5, 0, 0, 0, 0, 0, 5), (89, .iaload, 0, 0, 0, 0, 0, 0), (90, .ldc 176, 0, 0, 0, 0, 3, 1103515245), (92, .imul, 0, 0, 0, 0, 0, 0), (93, .sipush 12345, 0, 0, 0, 0, 0, 12345), (96, .iadd, 0, 0, 0, 0, 0, 0), (97, .iastore, 0, 0, 0, 0, 0, 0), (98, .aload_n 0, 0, 0, 0, 0, 0, 0), (99, .aload_n 0, 0, 0, 0, 0, 0, 0), (100, .getfield 19, 7, 13, 0, 0, 102, 0), (103, .iconst 5, 0, 0, 0, 0, 0, 5), (104, .iaload, 0, 0, 0, 0, 0, 0), (105, .bipush 16, 0, 0, 0, 0, 0, 16), (107, .iushr, 0, 0, 0, 0, 0, 0), (108, .iconst 2, 0, 0, 0, 0, 0, 2), (109, .irem, 0, 0, 0, 0, 0, 0), (110, .ifCond .ne 12, 73, 0, 0, 0, 0, 0), (113, .aload_n 0, 0, 0, 0, 0, 0, 0), (114, .getfield 13, 7, 9, 0, 0, 100, 0), (117, .iconst 1, 0, 0, 0, 0, 0, 1), (118, .iaload, 0, 0, 0, 0, 0, 0), (119, .goto 9, 77, 0, 0, 0, 0, 0), (122, .aload_n 0, 0, 0, 0, 0, 0, 0), (123, .getfield 13, 7, 9, 0, 0, 100, 0), (126, .iconst 2, 0, 0, 0, 0, 0, 2), (127, .iaload, 0, 0, 0, 0, 0, 0), (128, .invokevirtual 177, 129, 2, 7, 0, 120, 0), (131, .iconst 0, 0, 0, 0, 0, 0, 0), (132, .istore_n 2, 0, 0, 0, 0, 0, 0), (133, .iload_n 2, 0, 0, 0, 0, 0, 0), (134, .aload_n 0, 0, 0, 0, 0, 0, 0), (135, .getfield 139, 7, 11, 0, 0, 121, 0), (138, .if_icmp .ge 71, 126, 0, 0, 0, 0, 0), (141, .aload_n 0, 0, 0, 0, 0, 0, 0), (142, .iload_n 2, 0, 0, 0, 0, 0, 0), (143, .iconst 3, 0, 0, 0, 0, 0, 3), (144, .invokevirtual 149, 113, 3, 7, 0, 112, 0), (147, .bipush (-9), 0, 0, 0, 0, 0, -9), (149, .if_icmp .eq 54, 124, 0, 0, 0, 0, 0), (152, .aload_n 0, 0, 0, 0, 0, 0, 0), (153, .iload_n 2, 0, 0, 0, 0, 0, 0), (154, .iconst 4, 0, 0, 0, 0, 0, 4), (155, .aload_n 0, 0, 0, 0, 0, 0, 0), (156, .iload_n 2, 0, 0, 0, 0, 0, 0), (157, .iconst 4, 0, 0, 0, 0, 0, 4), (158, .invokevirtual 149, 113, 3, 7, 0, 112, 0), (161, .aload_n 0, 0, 0, 0, 0, 0, 0), (162, .iload_n 2, 0, 0, 0, 0, 0, 0), (163, .iconst 3, 0, 0, 0, 0, 0, 3), (164, .invokevirtual 149, 113, 3, 7, 0, 112, 0), (167, .aload_n 0, 0, 0, 0, 0, 0, 0), (168, .getfield 19, 7, 13, 0, 0, 102, 0), (171, .iconst 1, 0, 0, 0, 0, 0, 1), (172, .iaload, 0, 0, 0, 0, 0, 0), (173, .isub, 0, 0, 0, 0, 0, 0), (174, .invokestatic 180, 95, 1, 7, 0, 121, 0), (177, .iadd, 0, 0, 0, 0, 0, 0), (178, .invokevirtual 142, 114, 4, 7, 0, 110, 0), (181, .aload_n 0, 0, 0, 0, 0, 0, 0), (182, .iload_n 2, 0, 0, 0, 0, 0, 0), (183, .iconst 5, 0, 0, 0, 0, 0, 5), (184, .aload_n 0, 0, 0, 0, 0, 0, 0), (185, .iload_n 2, 0, 0, 0, 0, 0, 0), (186, .iconst 5, 0, 0, 0, 0, 0, 5), (187, .invokevirtual 149, 113, 3, 7, 0, 112, 0), (190, .iconst 1, 0, 0, 0, 0, 0, 1), (191, .iadd, 0, 0, 0, 0, 0, 0), (192, .invokevirtual 142, 114, 4, 7, 0, 110, 0), (195, .aload_n 0, 0, 0, 0, 0, 0, 0), (196, .iload_n 2, 0, 0, 0, 0, 0, 0), (197, .iconst 3, 0, 0, 0, 0, 0, 3), (198, .bipush (-9), 0, 0, 0, 0, 0, -9), (200, .invokevirtual 142, 114, 4, 7, 0, 110, 0), (203, .iinc 2 1, 0, 0, 0, 0, 0, 1), (206, .goto (-73), 80, 0, 0, 0, 0, 0), (209, .aload_n 0, 0, 0, 0, 0, 0, 0), (210, .getfield 19, 7, 13, 0, 0, 102, 0), (213, .bipush 6, 0, 0, 0, 0, 0, 6), (215, .aload_n 0, 0, 0, 0, 0, 0, 0), (216, .getfield 19, 7, 13, 0, 0, 102, 0), (219, .iconst 0, 0, 0, 0, 0, 0, 0), (220, .iaload, 0, 0, 0, 0, 0, 0), (221, .iadd, 0, 0, 0, 0, 0, 0), (222, .aload_n 0, 0, 0, 0, 0, 0, 0), (223, .getfield 19, 7, 13, 0, 0, 102, 0), (226, .iconst 1, 0, 0, 0, 0, 0, 1), (227, .iaload, 0, 0, 0, 0, 0, 0), (228, .iastore, 0, 0, 0, 0, 0, 0), (229, .aload_n 0, 0, 0, 0, 0, 0, 0), (230, .getfield 19, 7, 13, 0, 0, 102, 0), (233, .iconst 0, 0, 0, 0, 0, 0, 0), (234, .dup2, 0, 0, 0, 0, 0, 0), (235, .iaload, 0, 0, 0, 0, 0, 0), (236, .iconst 1, 0, 0, 0, 0, 0, 1), (237, .iadd, 0, 0, 0, 0, 0, 0), (238, .iastore, 0, 0, 0, 0, 0, 0), (239, .aload_n 0, 0, 0, 0, 0, 0, 0), (240, .invokevirtual 183, 125, 1, 7, 0, 122, 0), (243, .ifCond .eq 13, 156, 0, 0, 0, 0, 0), (246, .aload_n 0, 0, 0, 0, 0, 0, 0), (247, .aload_n 0, 0, 0, 0, 0, 0, 0), (248, .getfield 13, 7, 9, 0, 0, 100, 0), (251, .iconst 3, 0, 0, 0, 0, 0, 3), (252, .iaload, 0, 0, 0, 0, 0, 0), (253, .invokevirtual 177, 129, 2, 7, 0, 120, 0), (256, .return_, 0, 0, 0, 0, 0, 0)]
def am_t131 : List am_I := [(0, .aload_n 0, 0, 0, 0, 0, 0, 0), (1, .iconst 0, 0, 0, 0, 0, 0, 0), (2, .putfield 59, 7, 0, 0, 0, 113, 0), (5, .iload_n 1, 0, 0, 0, 0, 0, 0), (6, .iconst 1, 0, 0, 0, 0, 0, 1), (7, .bipush 20, 0, 0, 0, 0, 0, 20), (9, .invokestatic 63, 94, 3, 7, 0, 96, 0), (12, .ifCond .ne 5, 10, 0, 0, 0, 0, 0), (15, .iconst (-1), 0, 0, 0, 0, 0, -1), (16, .ireturn, 0, 0, 0, 0, 0, 0), (17, .aload_n 0, 0, 0, 0, 0, 0, 0), (18, .invokevirtual 183, 125, 1, 7, 0, 122, 0), (21, .ifCond .eq 6, 15, 0, 0, 0, 0, 0), (24, .bipush (-2), 0, 0, 0, 0, 0, -2), (26, .ireturn, 0, 0, 0, 0, 0, 0), (27, .iconst 0, 0, 0, 0, 0, 0, 0), (28, .istore_n 2, 0, 0, 0, 0, 0, 0), (29, .iload_n 2, 0, 0, 0, 0, 0, 0), (30, .iload_n 1, 0, 0, 0, 0, 0, 0), (31, .if_icmp .ge 20, 27, 0, 0, 0, 0, 0), (34, .aload_n 0, 0, 0, 0, 0, 0, 0), (35, .invokevirtual 183, 125, 1, 7, 0, 122, 0), (38, .ifCond .ne 13, 27, 0, 0, 0, 0, 0), (41, .aload_n 0, 0, 0, 0, 0, 0, 0), (42, .invokevirtual 186, 130, 1, 7, 0, 123, 0), (45, .iinc 2 1, 0, 0, 0, 0, 0, 1), (48, .goto (-19), 17, 0, 0, 0, 0, 0), (51, .iload_n 2, 0, 0, 0, 0, 0, 0), (52, .ireturn, 0, 0, 0, 0, 0, 0)]
def am_t132 : List am_I := [(0, .aload_n 0, 0, 0, 0, 0, 0, 0), (1, .iconst 0, 0, 0, 0, 0, 0, 0), (2, .putfield 59, 7, 0, 0, 0, 113, 0), (5, .iload_n 1, 0, 0, 0, 0, 0, 0), (6, .iconst 0, 0, 0, 0, 0, 0, 0), (7, .iconst 5, 0, 0, 0, 0, 0, 5), (8, .invokestatic 63, 94, 3, 7, 0, 96, 0), (11, .ifCond .ne 7, 10, 0, 0, 0, 0, 0), (14, .iconst (-1), 0, 0, 0, 0, 0, -1), (15, .goto 29, 24, 0, 0, 0, 0, 0), (18, .iload_n 1, 0, 0, 0, 0, 0, 0), (19, .iconst 5, 0, 0, 0, 0, 0, 5), (20, .if_icmp .ne 18, 20, 0, 0, 0, 0, 0), (23, .aload_n 0, 0, 0, 0, 0, 0, 0), (24, .invokevirtual 183, 125, 1, 7, 0, 122, 0), (27, .ifCond .eq 7, 18, 0, 0, 0, 0, 0), (30, .iconst 1, 0, 0, 0, 0, 0, 1), (31, .goto 13, 24, 0, 0, 0, 0, 0), (34, .iconst 0, 0, 0, 0, 0, 0, 0), (35, .goto 9, 24, 0, 0, 0, 0, 0), (38, .aload_n 0, 0, 0, 0, 0, 0, 0), (39, .getfield 19, 7, 13, 0, 0, 102, 0), (42, .iload_n 1, 0, 0, 0, 0, 0, 0), (43, .iaload, 0, 0, 0, 0, 0, 0), (44, .ireturn, 0, 0, 0, 0, 0, 0)]
def am_t133 : List am_I := [(0, .aload_n 0, 0, 0, 0, 0, 0, 0), (1, .iconst 0, 0, 0, 0, 0, 0, 0), (2, .putfield 59, 7, 0, 0, 0, 113, 0), (5, .iload_n 1, 0, 0, 0, 0, 0, 0), (6, .iconst 0, 0, 0, 0, 0, 0, 0), (7, .aload_n 0, 0, 0, 0, 0, 0, 0), (8, .getfield 19, 7, 13, 0, 0, 102, 0), (11, .iconst 0, 0, 0, 0, 0, 0, 0), (12, .iaload, 0, 0, 0, 0, 0, 0), (13, .iconst 1, 0, 0, 0, 0, 0, 1), (14, .isub, 0, 0, 0, 0, 0, 0), (15, .invokestatic 63, 94, 3, 7, 0, 96, 0), (18, .ifCond .eq 15, 20, 0, 0, 0, 0, 0), (21, .aload_n 0, 0, 0, 0, 0, 0, 0), (22, .getfield 19, 7, 13, 0, 0, 102, 0), (25, .bipush 6, 0, 0, 0, 0, 0, 6), (27, .iload_n 1, 0, 0, 0, 0, 0, 0), (28, .iadd, 0, 0, 0, 0, 0, 0), (29, .iaload, 0, 0, 0, 0, 0, 0), (30, .goto 4, 21, 0, 0, 0, 0, 0), (33, .iconst (-1), 0, 0, 0, 0, 0, -1), (34, .ireturn, 0, 0, 0, 0, 0, 0)]
def am_t134 : List am_I := [(0, .bipush (-9), 0, 0, 0, 0, 0, -9), (2, .istore_n 2, 0, 0, 0, 0, 0, 0), (3, .iconst 0, 0, 0, 0, 0, 0, 0), (4, .istore_n 3, 0, 0, 0, 0, 0, 0), (5, .iload_n 3, 0, 0, 0, 0, 0, 0), (6, .aload_n 0, 0, 0, 0, 0, 0, 0), (7, .getfield 19, 7, 13, 0, 0, 102, 0), (10, .iconst 0, 0, 0, 0, 0, 0, 0), (11, .iaload, 0, 0, 0, 0, 0, 0), (12, .if_icmp .ge 42, 32, 0, 0, 0, 0, 0), (15, .iload_n 2, 0, 0, 0, 0, 0, 0), (16, .bipush (-9), 0, 0, 0, 0, 0, -9), (18, .if_icmp .eq 24, 26, 0, 0, 0, 0, 0), (21, .aload_n 0, 0, 0, 0, 0, 0, 0), (22, .getfield 19, 7, 13, 0, 0, 102, 0), (25, .bipush 6, 0, 0, 0, 0, 0, 6), (27, .iload_n 3, 0, 0, 0, 0, 0, 0), (28, .iadd, 0, 0, 0, 0, 0, 0), (29, .iaload, 0, 0, 0, 0, 0, 0), (30, .aload_n 0, 0, 0, 0, 0, 0, 0), (31, .getfield 19, 7, 13, 0, 0, 102, 0), (34, .bipush 6, 0, 0, 0, 0, 0, 6), (36, .iload_n 2, 0, 0, 0, 0, 0, 0), (37, .iadd, 0, 0, 0, 0, 0, 0), (38, .iaload, 0, 0, 0, 0, 0, 0), (39, .if_icmp .le 7, 28, 0, 0, 0, 0, 0), (42, .iload_n 3, 0, 0, 0, 0, 0, 0), (43, .goto 4, 29, 0, 0, 0, 0, 0), (46, .iload_n 2, 0, 0, 0, 0, 0, 0), (47, .istore_n 2, 0, 0, 0, 0, 0, 0), (48, .iinc 3 1, 0, 0, 0, 0, 0, 1), (51, .goto (-46), 4, 0, 0, 0, 0, 0), (54, .iload_n 1, 0, 0, 0, 0, 0, 0), (55, .ifCond .eq 7, 36, 0, 0, 0, 0, 0), (58, .iload_n 2, 0, 0, 0, 0, 0, 0), (59, .goto 22, 47, 0, 0, 0, 0, 0), (62, .iload_n 2, 0, 0, 0, 0, 0, 0), (63, .bipush (-9), 0, 0, 0, 0, 0, -9), (65, .if_icmp .ne 7, 41, 0, 0, 0, 0, 0), (68, .iconst 0, 0, 0, 0, 0, 0, 0), (69, .goto 12, 47, 0, 0, 0, 0, 0), (72, .aload_n 0, 0, 0, 0, 0, 0, 0), (73, .getfield 19, 7, 13, 0, 0, 102, 0), (76, .bipush 6, 0, 0, 0, 0, 0, 6), (78, .iload_n 2, 0, 0, 0, 0, 0, 0), (79, .iadd, 0, 0, 0, 0, 0, 0), (80, .iaload, 0, 0, 0, 0, 0, 0), (81, .ireturn, 0, 0, 0, 0, 0, 0)]
def am_t135 : List am_I := [(0, .bipush (-9), 0, 0, 0, 0, 0, -9), (2, .istore_n 1, 0, 0, 0, 0, 0, 0), (3, .iconst 0, 0, 0, 0, 0, 0, 0), (4, .istore_n 2, 0, 0, 0, 0, 0, 0), (5, .iconst 0, 0, 0, 0, 0, 0, 0), (6, .istore_n 3, 0, 0, 0, 0, 0, 0), (7, .iload_n 3, 0, 0, 0, 0, 0, 0), (8, .aload_n 0, 0, 0, 0, 0, 0, 0), (9, .getfield 19, 7, 13, 0, 0, 102, 0), (12, .iconst 0, 0, 0, 0, 0, 0, 0), (13, .iaload, 0, 0, 0, 0, 0, 0), (14, .if_icmp .ge 70, 51, 0, 0, 0, 0, 0), (17, .iload_n 3, 0, 0, 0, 0, 0, 0), (18, .ifCond .ne 12, 19, 0, 0, 0, 0, 0), (21, .aload_n 0, 0, 0, 0, 0, 0, 0), (22, .getfield 13, 7, 9, 0, 0, 100, 0), (25, .iconst 4, 0, 0, 0, 0, 0, 4), (26, .iaload, 0, 0, 0, 0, 0, 0), (27, .goto 14, 27, 0, 0, 0, 0, 0), (30, .aload_n 0, 0, 0, 0, 0, 0, 0), (31, .getfield 19, 7, 13, 0, 0, 102, 0), (34, .bipush 6, 0, 0, 0, 0, 0, 6), (36, .iload_n 3, 0, 0, 0, 0, 0, 0), (37, .iadd, 0, 0, 0, 0, 0, 0), (38, .iconst 1, 0, 0, 0, 0, 0, 1), (39, .isub, 0, 0, 0, 0, 0, 0), (40, .iaload, 0, 0, 0, 0, 0, 0), (41, .aload_n 0, 0, 0, 0, 0, 0, 0), (42, .getfield 19, 7, 13, 0, 0, 102, 0), (45, .bipush 6, 0, 0, 0, 0, 0, 6), (47, .iload_n 3, 0, 0, 0, 0, 0, 0), (48, .iadd, 0, 0, 0, 0, 0, 0), (49, .iaload, 0, 0, 0, 0, 0, 0), (50, .isub, 0, 0, 0, 0, 0, 0), (51, .istore 4, 0, 0, 0, 0, 0, 0), (53, .iload 4, 0, 0, 0, 0, 0, 0), (55, .iload_n 2, 0, 0, 0, 0, 0, 0), (56, .if_icmp .le 7, 40, 0, 0, 0, 0, 0), (59, .iload_n 3, 0, 0, 0, 0, 0, 0), (60, .goto 4, 41, 0, 0, 0, 0, 0), (63, .iload_n 1, 0, 0, 0, 0, 0, 0), (64, .istore_n 1, 0, 0, 0, 0, 0, 0), (65, .iload 4, 0, 0, 0, 0, 0, 0), (67, .iload_n 2, 0, 0, 0, 0, 0, 0), (68, .if_icmp .le 8, 47, 0, 0, 0, 0, 0), (71, .iload 4, 0, 0, 0, 0, 0, 0), (73, .goto 4, 48, 0, 0, 0, 0, 0), (76, .iload_n 2, 0, 0, 0, 0, 0, 0), (77, .istore_n 2, 0, 0, 0, 0, 0, 0), (78, .iinc 3 1, 0, 0, 0, 0, 0, 1), (81, .goto (-74), 6, 0, 0, 0, 0, 0), (84, .iload_n 1, 0, 0, 0, 0, 0, 0), (85, .ireturn, 0, 0, 0, 0, 0, 0)]
def am_t136 : List am_I := [(0, .iconst 0, 0, 0, 0, 0, 0, 0), (1, .istore_n 1, 0, 0, 0, 0, 0, 0), (2, .iconst 0, 0, 0, 0, 0, 0, 0), (3, .istore_n 2, 0, 0, 0, 0, 0, 0), (4, .iload_n 2, 0, 0, 0, 0, 0, 0), (5, .aload_n 0, 0, 0, 0, 0, 0, 0), (6, .getfield 19, 7, 13, 0, 0, 102, 0), (9, .iconst 0, 0, 0, 0, 0, 0, 0), (10, .iaload, 0, 0, 0, 0, 0, 0), (11, .if_icmp .ge 39, 33, 0, 0, 0, 0, 0), (14, .iconst 2, 0, 0, 0, 0, 0, 2), (15, .aload_n 0, 0, 0, 0, 0, 0, 0), (16, .getfield 19, 7, 13, 0, 0, 102, 0), (19, .bipush 6, 0, 0, 0, 0, 0, 6), (21, .iload_n 2, 0, 0, 0, 0, 0, 0), (22, .iadd, 0, 0, 0, 0, 0, 0), (23, .iaload, 0, 0, 0, 0, 0, 0), (24, .imul, 0, 0, 0, 0, 0, 0), (25, .aload_n 0, 0, 0, 0, 0, 0, 0), (26, .iload_n 2, 0, 0, 0, 0, 0, 0), (27, .invokevirtual 163, 118, 2, 7, 0, 116, 0), (30, .isub, 0, 0, 0, 0, 0, 0), (31, .istore_n 3, 0, 0, 0, 0, 0, 0), (32, .iload_n 1, 0, 0, 0, 0, 0, 0), (33, .iload_n 3, 0, 0, 0, 0, 0, 0), (34, .ifCond .le 7, 28, 0, 0, 0, 0, 0), (37, .iload_n 3, 0, 0, 0, 0, 0, 0), (38, .goto 4, 29, 0, 0, 0, 0, 0), (41, .iconst 0, 0, 0, 0, 0, 0, 0), (42, .iadd, 0, 0, 0, 0, 0, 0), (43, .istore_n 1, 0, 0, 0, 0, 0, 0), (44, .iinc 2 1, 0, 0, 0, 0, 0, 1), (47, .goto (-43), 4, 0, 0, 0, 0, 0), (50, .iload_n 1, 0, 0, 0, 0, 0, 0), (51, .ireturn, 0, 0, 0, 0, 0, 0)]
def am_t137 : List am_I := [(0, .aload_n 0, 0, 0, 0, 0, 0, 0), (1, .iconst 0, 0, 0, 0, 0, 0, 0), (2, .putfield 59, 7, 0, 0, 0, 113, 0), (5, .iload_n 1, 0, 0, 0, 0, 0, 0), (6, .ifCond .ne 11, 9, 0, 0, 0, 0, 0), (9, .aload_n 0, 0, 0, 0, 0, 0, 0), (10, .iconst 0, 0, 0, 0, 0, 0, 0), (11, .invokevirtual 189, 134, 2, 7, 0, 124, 0), (14, .goto 41, 29, 0, 0, 0, 0, 0), (17, .iload_n 1, 0, 0, 0, 0, 0, 0), (18, .iconst 1, 0, 0, 0, 0, 0, 1), (19, .if_icmp .ne 11, 16, 0, 0, 0, 0, 0), (22, .aload_n 0, 0, 0, 0, 0, 0, 0), (23, .iconst 1, 0, 0, 0, 0, 0, 1), (24, .invokevirtual 189, 134, 2, 7, 0, 124, 0), (27, .goto 28, 29, 0, 0, 0, 0, 0), (30, .iload_n 1, 0, 0, 0, 0, 0, 0), (31, .iconst 2, 0, 0, 0, 0, 0, 2), (32, .if_icmp .ne 10, 22, 0, 0, 0, 0, 0), (35, .aload_n 0, 0, 0, 0, 0, 0, 0), (36, .invokevirtual 192, 135, 1, 7, 0, 125, 0), (39, .goto 16, 29, 0, 0, 0, 0, 0), (42, .iload_n 1, 0, 0, 0, 0, 0, 0), (43, .iconst 3, 0, 0, 0, 0, 0, 3), (44, .if_icmp .ne 10, 28, 0, 0, 0, 0, 0), (47, .aload_n 0, 0, 0, 0, 0, 0, 0), (48, .invokevirtual 195, 136, 1, 7, 0, 126, 0), (51, .goto 4, 29, 0, 0, 0, 0, 0), (54, .iconst (-1), 0, 0, 0, 0, 0, -1), (55, .ireturn, 0, 0, 0, 0, 0, 0)]
def am_t138 : List am_I := [(0, .aload_n 0, 0, 0, 0, 0, 0, 0), (1, .iconst 0, 0, 0, 0, 0, 0, 0), (2, .putfield 59, 7, 0, 0, 0, 113, 0), (5, .aload_n 0, 0, 0, 0, 0, 0, 0), (6, .iload_n 1, 0, 0, 0, 0, 0, 0), (7, .invokevirtual 155, 117, 2, 7, 0, 114, 0), (10, .ifCond .eq 48, 38, 0, 0, 0, 0, 0), (13, .aload_n 0, 0, 0, 0, 0, 0, 0), (14, .invokevirtual 183, 125, 1, 7, 0, 122, 0), (17, .ifCond .eq 41, 38, 0, 0, 0, 0, 0), (20, .aload_n 0, 0, 0, 0, 0, 0, 0), (21, .iload_n 1, 0, 0, 0, 0, 0, 0), (22, .iconst 0, 0, 0, 0, 0, 0, 0), (23, .invokevirtual 149, 113, 3, 7, 0, 112, 0), (26, .aload_n 0, 0, 0, 0, 0, 0, 0), (27, .getfield 16, 7, 10, 0, 0, 101, 0), (30, .iconst 4, 0, 0, 0, 0, 0, 4), (31, .iload_n 1, 0, 0, 0, 0, 0, 0), (32, .imul, 0, 0, 0, 0, 0, 0), (33, .iconst 2, 0, 0, 0, 0, 0, 2), (34, .iadd, 0, 0, 0, 0, 0, 0), (35, .iaload, 0, 0, 0, 0, 0, 0), (36, .isub, 0, 0, 0, 0, 0, 0), (37, .aload_n 0, 0, 0, 0, 0, 0, 0), (38, .getfield 16, 7, 10, 0, 0, 101, 0), (41, .iconst 4, 0, 0, 0, 0, 0, 4), (42, .iload_n 1, 0, 0, 0, 0, 0, 0), (43, .imul, 0, 0, 0, 0, 0, 0), (44, .iconst 3, 0, 0, 0, 0, 0, 3), (45, .iadd, 0, 0, 0, 0, 0, 0), (46, .iaload, 0, 0, 0, 0, 0, 0), (47, .aload_n 0, 0, 0, 0, 0, 0, 0), (48, .getfield 19, 7, 13, 0, 0, 102, 0), (51, .iconst 4, 0, 0, 0, 0, 0, 4), (52, .iaload, 0, 0, 0, 0, 0, 0), (53, .imul, 0, 0, 0, 0, 0, 0), (54, .isub, 0, 0, 0, 0, 0, 0), (55, .goto 5, 39, 0, 0, 0, 0, 0), (58, .ldc 159, 0, 0, 0, 0, 2, -1000000), (60, .ireturn, 0, 0, 0, 0, 0, 0)]
def am_t139 : List am_I := [(0, .aload_n 0, 0, 0, 0, 0, 0, 0), (1, .iconst 0, 0, 0, 0, 0, 0, 0), (2, .putfield 59, 7, 0, 0, 0, 113, 0), (5, .aload_n 0, 0, 0, 0, 0, 0, 0), (6, .invokevirtual 183, 125, 1, 7, 0, 122, 0), (9, .ifCond .ne 6, 8, 0, 0, 0, 0, 0), (12, .bipush (-2), 0, 0, 0, 0, 0, -2), (14, .ireturn, 0, 0, 0, 0, 0, 0), (15, .aload_n 0, 0, 0, 0, 0, 0, 0), (16, .invokevirtual 146, 115, 1, 7, 0, 111, 0), (19, .iconst 0, 0, 0, 0, 0, 0, 0), (20, .istore_n 1, 0, 0, 0, 0, 0, 0), (21, .iload_n 1, 0, 0, 0, 0, 0, 0), (22, .aload_n 0, 0, 0, 0, 0, 0, 0), (23, .getfield 139, 7, 11, 0, 0, 121, 0), (26, .if_icmp .ge 23, 28, 0, 0, 0, 0, 0), (29, .aload_n 0, 0, 0, 0, 0, 0, 0), (30, .iload_n 1, 0, 0, 0, 0, 0, 0), (31, .iconst 2, 0, 0, 0, 0, 0, 2), (32, .aload_n 0, 0, 0, 0, 0, 0, 0), (33, .iload_n 1, 0, 0, 0, 0, 0, 0), (34, .iconst 2, 0, 0, 0, 0, 0, 2), (35, .invokevirtual 149, 113, 3, 7, 0, 112, 0), (38, .iconst 1, 0, 0, 0, 0, 0, 1), (39, .iadd, 0, 0, 0, 0, 0, 0), (40, .invokevirtual 142, 114, 4, 7, 0, 110, 0), (43, .iinc 1 1, 0, 0, 0, 0, 0, 1), (46, .goto (-25), 12, 0, 0, 0, 0, 0), (49, .iconst 1, 0, 0, 0, 0, 0, 1), (50, .ireturn, 0, 0, 0, 0, 0, 0)]
def am_t140 : List am_I := [(0, .aload_n 0, 0, 0, 0, 0, 0, 0), (1, .iconst 0, 0, 0, 0, 0, 0, 0), (2, .putfield 59, 7, 0, 0, 0, 113, 0), (5, .aload_n 0, 0, 0, 0, 0, 0, 0), (6, .iload_n 1, 0, 0, 0, 0, 0, 0), (7, .invokevirtual 155, 117, 2, 7, 0, 114, 0), (10, .ifCond .ne 5, 9, 0, 0, 0, 0, 0), (13, .iconst (-1), 0, 0, 0, 0, 0, -1), (14, .ireturn, 0, 0, 0, 0, 0, 0), (15, .aload_n 0, 0, 0, 0, 0, 0, 0), (16, .iload_n 1, 0, 0, 0, 0, 0, 0), (17, .iconst 2, 0, 0, 0, 0, 0, 2), (18, .invokevirtual 149, 113, 3, 7, 0, 112, 0), (21, .istore_n 2, 0, 0, 0, 0, 0, 0), (22, .aload_n 0, 0, 0, 0, 0, 0, 0), (23, .iload_n 1, 0, 0, 0, 0, 0, 0), (24, .iconst 2, 0, 0, 0, 0, 0, 2), (25, .iconst 0, 0, 0, 0, 0, 0, 0), (26, .invokevirtual 142, 114, 4, 7, 0, 110, 0), (29, .iload_n 2, 0, 0, 0, 0, 0, 0), (30, .ireturn, 0, 0, 0, 0, 0, 0)]
def am_t141 : List am_I := [(0, .iconst 0, 0, 0, 0, 0, 0, 0), (1, .istore_n 2, 0, 0, 0, 0, 0, 0), (2, .iload_n 2, 0, 0, 0, 0, 0, 0), (3, .bipush 80, 0, 0, 0, 0, 0, 80), (5, .if_icmp .ge 40, 26, 0, 0, 0, 0, 0), (8, .iload_n 1, 0, 0, 0, 0, 0, 0), (9, .ifCond .eq 18, 16, 0, 0, 0, 0, 0), (12, .aload_n 0, 0, 0, 0, 0, 0, 0), (13, .getfield 22, 7, 14, 0, 0, 103, 0), (16, .iload_n 2, 0, 0, 0, 0, 0, 0), (17, .aload_n 0, 0, 0, 0, 0, 0, 0), (18, .getfield 19, 7, 13, 0, 0, 102, 0), (21, .iload_n 2, 0, 0, 0, 0, 0, 0), (22, .iaload, 0, 0, 0, 0, 0, 0), (23, .iastore, 0, 0, 0, 0, 0, 0), (24, .goto 15, 24, 0, 0, 0, 0, 0), (27, .aload_n 0, 0, 0, 0, 0, 0, 0), (28, .getfield 19, 7, 13, 0, 0, 102, 0), (31, .iload_n 2, 0, 0, 0, 0, 0, 0), (32, .aload_n 0, 0, 0, 0, 0, 0, 0), (33, .getfield 22, 7, 14, 0, 0, 103, 0), (36, .iload_n 2, 0, 0, 0, 0, 0, 0), (37, .iaload, 0, 0, 0, 0, 0, 0), (38, .iastore, 0, 0, 0, 0, 0, 0), (39, .iinc 2 1, 0, 0, 0, 0, 0, 1), (42, .goto (-40), 2, 0, 0, 0, 0, 0), (45, .return_, 0, 0, 0, 0, 0, 0)]
def am_t142 : List am_I := [(0, .aload_n 0, 0, 0, 0, 0, 0, 0), (1, .invokevirtual 146, 115, 1, 7, 0, 111, 0), (4, .aload_n 0, 0, 0, 0, 0, 0, 0), (5, .invokevirtual 183, 125, 1, 7, 0, 122, 0), (8, .ifCond .ne 10, 8, 0, 0, 0, 0, 0), (11, .aload_n 0, 0, 0, 0, 0, 0, 0), (12, .invokevirtual 186, 130, 1, 7, 0, 123, 0), (15, .goto (-11), 2, 0, 0, 0, 0, 0), (18, .return_, 0, 0, 0, 0, 0, 0)]
def am_t143 : List am_I := [(0, .aload_n 0, 0, 0, 0, 0, 0, 0), (1, .iconst 0, 0, 0, 0, 0, 0, 0), (2, .putfield 59, 7, 0, 0, 0, 113, 0), (5, .iload_n 1, 0, 0, 0, 0, 0, 0), (6, .iconst 0, 0, 0, 0, 0, 0, 0), (7, .sipush 999, 0, 0, 0, 0, 0, 999), (10, .invokestatic 63, 94, 3, 7, 0, 96, 0), (13, .ifCond .ne 5, 10, 0, 0, 0, 0, 0), (16, .iconst (-1), 0, 0, 0, 0, 0, -1), (17, .ireturn, 0, 0, 0, 0, 0, 0), (18, .bipush (-9), 0, 0, 0, 0, 0, -9), (20, .istore_n 2, 0, 0, 0, 0, 0, 0), (21, .iconst 0, 0, 0, 0, 0, 0, 0), (22, .istore_n 3, 0, 0, 0, 0, 0, 0), (23, .iload_n 3, 0, 0, 0, 0, 0, 0), (24, .aload_n 0, 0, 0, 0, 0, 0, 0), (25, .getfield 139, 7, 11, 0, 0, 121, 0), (28, .if_icmp .gt 68, 52, 0, 0, 0, 0, 0), (31, .iload_n 2, 0, 0, 0, 0, 0, 0), (32, .bipush (-9), 0, 0, 0, 0, 0, -9), (34, .if_icmp .ne 62, 52, 0, 0, 0, 0, 0), (37, .aload_n 0, 0, 0, 0, 0, 0, 0), (38, .iconst 1, 0, 0, 0, 0, 0, 1), (39, .invokevirtual 198, 141, 2, 7, 0, 127, 0), (42, .iconst 0, 0, 0, 0, 0, 0, 0), (43, .istore 4, 0, 0, 0, 0, 0, 0), (45, .iload 4, 0, 0, 0, 0, 0, 0), (47, .iload_n 3, 0, 0, 0, 0, 0, 0), (48, .if_icmp .ge 17, 36, 0, 0, 0, 0, 0), (51, .aload_n 0, 0, 0, 0, 0, 0, 0), (52, .iload 4, 0, 0, 0, 0, 0, 0), (54, .iconst 2, 0, 0, 0, 0, 0, 2), (55, .iconst 0, 0, 0, 0, 0, 0, 0), (56, .invokevirtual 142, 114, 4, 7, 0, 110, 0), (59, .iinc 4 1, 0, 0, 0, 0, 0, 1), (62, .goto (-17), 26, 0, 0, 0, 0, 0), (65, .aload_n 0, 0, 0, 0, 0, 0, 0), (66, .invokevirtual 202, 142, 1, 7, 0, 128, 0), (69, .aload_n 0, 0, 0, 0, 0, 0, 0), (70, .iconst 0, 0, 0, 0, 0, 0, 0), (71, .invokevirtual 189, 134, 2, 7, 0, 124, 0), (74, .iload_n 1, 0, 0, 0, 0, 0, 0), (75, .if_icmp .lt 7, 45, 0, 0, 0, 0, 0), (78, .iload_n 3, 0, 0, 0, 0, 0, 0), (79, .goto 5, 46, 0, 0, 0, 0, 0), (82, .bipush (-9), 0, 0, 0, 0, 0, -9), (84, .istore_n 2, 0, 0, 0, 0, 0, 0), (85, .aload_n 0, 0, 0, 0, 0, 0, 0), (86, .iconst 0, 0, 0, 0, 0, 0, 0), (87, .invokevirtual 198, 141, 2, 7, 0, 127, 0), (90, .iinc 3 1, 0, 0, 0, 0, 0, 1), (93, .goto (-70), 14, 0, 0, 0, 0, 0), (96, .iload_n 2, 0, 0, 0, 0, 0, 0), (97, .ireturn, 0, 0, 0, 0, 0, 0)]
def am_t144 : List am_I := [(0, .aload_n 0, 0, 0, 0, 0, 0, 0), (1, .iconst 0, 0, 0, 0, 0, 0, 0), (2, .putfield 59, 7, 0, 0, 0, 113, 0), (5, .iload_n 1, 0, 0, 0, 0, 0, 0), (6, .iconst 4, 0, 0, 0, 0, 0, 4), (7, .if_icmp .ne 8, 8, 0, 0, 0, 0, 0), (10, .bipush 9, 0, 0, 0, 0, 0, 9), (12, .goto 26, 21, 0, 0, 0, 0, 0), (15, .iload_n 1, 0, 0, 0, 0, 0, 0), (16, .iconst 3, 0, 0, 0, 0, 0, 3), (17, .if_icmp .ne 8, 13, 0, 0, 0, 0, 0), (20, .bipush 8, 0, 0, 0, 0, 0, 8), (22, .goto 16, 21, 0, 0, 0, 0, 0), (25, .iload_n 1, 0, 0, 0, 0, 0, 0), (26, .iconst 2, 0, 0, 0, 0, 0, 2), (27, .if_icmp .ne 8, 18, 0, 0, 0, 0, 0), (30, .bipush 7, 0, 0, 0, 0, 0, 7), (32, .goto 6, 21, 0, 0, 0, 0, 0), (35, .iload_n 1, 0, 0, 0, 0, 0, 0), (36, .iconst 5, 0, 0, 0, 0, 0, 5), (37, .iadd, 0, 0, 0, 0, 0, 0), (38, .istore 4, 0, 0, 0, 0, 0, 0), (40, .iload_n 1, 0, 0, 0, 0, 0, 0), (41, .ifCond .eq 8, 27, 0, 0, 0, 0, 0), (44, .iload_n 1, 0, 0, 0, 0, 0, 0), (45, .iconst 2, 0, 0, 0, 0, 0, 2), (46, .if_icmp .ne 8, 29, 0, 0, 0, 0, 0), (49, .bipush 99, 0, 0, 0, 0, 0, 99), (51, .goto 5, 30, 0, 0, 0, 0, 0), (54, .bipush 9, 0, 0, 0, 0, 0, 9), (56, .istore 5, 0, 0, 0, 0, 0, 0), (58, .iload_n 1, 0, 0, 0, 0, 0, 0), (59, .iconst 0, 0, 0, 0, 0, 0, 0), (60, .iconst 4, 0, 0, 0, 0, 0, 4), (61, .invokestatic 63, 94, 3, 7, 0, 96, 0), (64, .ifCond .eq 31, 51, 0, 0, 0, 0, 0), (67, .iload_n 2, 0, 0, 0, 0, 0, 0), (68, .iload_n 1, 0, 0, 0, 0, 0, 0), (69, .iconst 4, 0, 0, 0, 0, 0, 4), (70, .if_icmp .ne 7, 42, 0, 0, 0, 0, 0), (73, .iconst 1, 0, 0, 0, 0, 0, 1), (74, .goto 4, 43, 0, 0, 0, 0, 0), (77, .iconst 0, 0, 0, 0, 0, 0, 0), (78, .iload 5, 0, 0, 0, 0, 0, 0), (80, .invokestatic 63, 94, 3, 7, 0, 96, 0), (83, .ifCond .eq 12, 51, 0, 0, 0, 0, 0), (86, .iload_n 3, 0, 0, 0, 0, 0, 0), (87, .iconst 0, 0, 0, 0, 0, 0, 0), (88, .iconst 2, 0, 0, 0, 0, 0, 2), (89, .invokestatic 63, 94, 3, 7, 0, 96, 0), (92, .ifCond .ne 5, 53, 0, 0, 0, 0, 0), (95, .iconst (-1), 0, 0, 0, 0, 0, -1), (96, .ireturn, 0, 0, 0, 0, 0, 0), (97, .aload_n 0, 0, 0, 0, 0, 0, 0), (98, .getfield 13, 7, 9, 0, 0, 100, 0), (101, .iload 4, 0, 0, 0, 0, 0, 0), (103, .iaload, 0, 0, 0, 0, 0, 0), (104, .istore 6, 0, 0, 0, 0, 0, 0), (106, .aload_n 0, 0, 0, 0, 0, 0, 0), (107, .iconst 1, 0, 0, 0, 0, 0, 1), (108, .invokevirtual 198, 141, 2, 7, 0, 127, 0), (111, .aload_n 0, 0, 0, 0, 0, 0, 0), (112, .getfield 13, 7, 9, 0, 0, 100, 0), (115, .iload 4, 0, 0, 0, 0, 0, 0), (117, .iload_n 2, 0, 0, 0, 0, 0, 0), (118, .iastore, 0, 0, 0, 0, 0, 0), (119, .aload_n 0, 0, 0, 0, 0, 0, 0), (120, .invokevirtual 202, 142, 1, 7, 0, 128, 0), (123, .iload_n 3, 0, 0, 0, 0, 0, 0), (124, .ifCond .ne 11, 74, 0, 0, 0, 0, 0), (127, .aload_n 0, 0, 0, 0, 0, 0, 0), (128, .iconst 0, 0, 0, 0, 0, 0, 0), (129, .invokevirtual 189, 134, 2, 7, 0, 124, 0), (132, .goto 21, 84, 0, 0, 0, 0, 0), (135, .iload_n 3, 0, 0, 0, 0, 0, 0), (136, .iconst 1, 0, 0, 0, 0, 0, 1), (137, .if_icmp .ne 10, 80, 0, 0, 0, 0, 0), (140, .aload_n 0, 0, 0, 0, 0, 0, 0), (141, .invokevirtual 195, 136, 1, 7, 0, 126, 0), (144, .goto 9, 84, 0, 0, 0, 0, 0), (147, .aload_n 0, 0, 0, 0, 0, 0, 0), (148, .getfield 19, 7, 13, 0, 0, 102, 0), (151, .iconst 3, 0, 0, 0, 0, 0, 3), (152, .iaload, 0, 0, 0, 0, 0, 0), (153, .istore 7, 0, 0, 0, 0, 0, 0), (155, .aload_n 0, 0, 0, 0, 0, 0, 0), (156, .getfield 13, 7, 9, 0, 0, 100, 0), (159, .iload 4, 0, 0, 0, 0, 0, 0), (161, .iload 6, 0, 0, 0, 0, 0, 0), (163, .iastore, 0, 0, 0, 0, 0, 0), (164, .aload_n 0, 0, 0, 0, 0, 0, 0), (165, .iconst 0, 0, 0, 0, 0, 0, 0), (166, .invokevirtual 198, 141, 2, 7, 0, 127, 0), (169, .iload 7, 0, 0, 0, 0, 0, 0), (171, .ireturn, 0, 0, 0, 0, 0, 0)]
def am_t145 : List am_I := [(0, .aload_n 0, 0, 0, 0, 0, 0, 0), (1, .iconst 0, 0, 0, 0, 0, 0, 0), (2, .putfield 59, 7, 0, 0, 0, 113, 0), (5, .aload_n 0, 0, 0, 0, 0, 0, 0), (6, .getfield 19, 7, 13, 0, 0, 102, 0), (9, .iconst 5, 0, 0, 0, 0, 0, 5), (10, .iaload, 0, 0, 0, 0, 0, 0), (11, .istore_n 2, 0, 0, 0, 0, 0, 0), (12, .aload_n 0, 0, 0, 0, 0, 0, 0), (13, .getfield 19, 7, 13, 0, 0, 102, 0), (16, .iconst 5, 0, 0, 0, 0, 0, 5), (17, .iload_n 1, 0, 0, 0, 0, 0, 0), (18, .iastore, 0, 0, 0, 0, 0, 0), (19, .iload_n 2, 0, 0, 0, 0, 0, 0), (20, .ireturn, 0, 0, 0, 0, 0, 0)]
def am_t146 : List am_I := [(0, .aload_n 0, 0, 0, 0, 0, 0, 0), (1, .iconst 0, 0, 0, 0, 0, 0, 0), (2, .putfield 59, 7, 0, 0, 0, 113, 0), (5, .iload_n 1, 0, 0, 0, 0, 0, 0), (6, .iconst 0, 0, 0, 0, 0, 0, 0), (7, .iconst 2, 0, 0, 0, 0, 0, 2), (8, .invokestatic 63, 94, 3, 7, 0, 96, 0), (11, .ifCond .eq 13, 13, 0, 0, 0, 0, 0), (14, .iload_n 2, 0, 0, 0, 0, 0, 0), (15, .iconst 0, 0, 0, 0, 0, 0, 0), (16, .bipush 99, 0, 0, 0, 0, 0, 99), (18, .invokestatic 63, 94, 3, 7, 0, 96, 0), (21, .ifCond .ne 5, 15, 0, 0, 0, 0, 0), (24, .iconst (-1), 0, 0, 0, 0, 0, -1), (25, .ireturn, 0, 0, 0, 0, 0, 0), (26, .aload_n 0, 0, 0, 0, 0, 0, 0), (27, .getfield 41, 7, 20, 0, 0, 109, 0), (30, .iload_n 1, 0, 0, 0, 0, 0, 0), (31, .iaload, 0, 0, 0, 0, 0, 0), (32, .istore_n 3, 0, 0, 0, 0, 0, 0), (33, .aload_n 0, 0, 0, 0, 0, 0, 0), (34, .getfield 41, 7, 20, 0, 0, 109, 0), (37, .iload_n 1, 0, 0, 0, 0, 0, 0), (38, .iload_n 2, 0, 0, 0, 0, 0, 0), (39, .iastore, 0, 0, 0, 0, 0, 0), (40, .iload_n 3, 0, 0, 0, 0, 0, 0), (41, .ireturn, 0, 0, 0, 0, 0, 0)]
def am_t147 : List am_I := [(0, .aload_n 0, 0, 0, 0, 0, 0, 0), (1, .getfield 41, 7, 20, 0, 0, 109, 0), (4, .iconst 0, 0, 0, 0, 0, 0, 0), (5, .iaload, 0, 0, 0, 0, 0, 0), (6, .aload_n 0, 0, 0, 0, 0, 0, 0), (7, .getfield 41, 7, 20, 0, 0, 109, 0), (10, .iconst 1, 0, 0, 0, 0, 0, 1), (11, .iaload, 0, 0, 0, 0, 0, 0), (12, .iload_n 1, 0, 0, 0, 0, 0, 0), (13, .imul, 0, 0, 0, 0, 0, 0), (14, .iadd, 0, 0, 0, 0, 0, 0), (15, .ireturn, 0, 0, 0, 0, 0, 0)]
def am_t148 : List am_I := [(0, .bipush 9, 0, 0, 0, 0, 0, 9), (2, .istore_n 3, 0, 0, 0, 0, 0, 0), (3, .iconst 0, 0, 0, 0, 0, 0, 0), (4, .istore 4, 0, 0, 0, 0, 0, 0), (6, .iconst 0, 0, 0, 0, 0, 0, 0), (7, .istore 5, 0, 0, 0, 0, 0, 0), (9, .iload 5, 0, 0, 0, 0, 0, 0), (11, .iload_n 1, 0, 0, 0, 0, 0, 0), (12, .if_icmp .ge 32, 24, 0, 0, 0, 0, 0), (15, .aload_n 0, 0, 0, 0, 0, 0, 0), (16, .getfield 44, 7, 21, 0, 0, 110, 0), (19, .iload 5, 0, 0, 0, 0, 0, 0), (21, .iaload, 0, 0, 0, 0, 0, 0), (22, .iload_n 3, 0, 0, 0, 0, 0, 0), (23, .if_icmp .ge 13, 20, 0, 0, 0, 0, 0), (26, .aload_n 0, 0, 0, 0, 0, 0, 0), (27, .getfield 44, 7, 21, 0, 0, 110, 0), (30, .iload 5, 0, 0, 0, 0, 0, 0), (32, .iaload, 0, 0, 0, 0, 0, 0), (33, .goto 4, 21, 0, 0, 0, 0, 0), (36, .iload_n 3, 0, 0, 0, 0, 0, 0), (37, .istore_n 3, 0, 0, 0, 0, 0, 0), (38, .iinc 5 1, 0, 0, 0, 0, 0, 1), (41, .goto (-32), 6, 0, 0, 0, 0, 0), (44, .iconst 0, 0, 0, 0, 0, 0, 0), (45, .istore 5, 0, 0, 0, 0, 0, 0), (47, .iload 5, 0, 0, 0, 0, 0, 0), (49, .iload_n 1, 0, 0, 0, 0, 0, 0), (50, .if_icmp .ge 30, 43, 0, 0, 0, 0, 0), (53, .iload 4, 0, 0, 0, 0, 0, 0), (55, .aload_n 0, 0, 0, 0, 0, 0, 0), (56, .getfield 44, 7, 21, 0, 0, 110, 0), (59, .iload 5, 0, 0, 0, 0, 0, 0), (61, .iaload, 0, 0, 0, 0, 0, 0), (62, .iload_n 3, 0, 0, 0, 0, 0, 0), (63, .if_icmp .ne 7, 38, 0, 0, 0, 0, 0), (66, .iconst 1, 0, 0, 0, 0, 0, 1), (67, .goto 4, 39, 0, 0, 0, 0, 0), (70, .iconst 0, 0, 0, 0, 0, 0, 0), (71, .iadd, 0, 0, 0, 0, 0, 0), (72, .istore 4, 0, 0, 0, 0, 0, 0), (74, .iinc 5 1, 0, 0, 0, 0, 0, 1), (77, .goto (-30), 26, 0, 0, 0, 0, 0), (80, .aload_n 0, 0, 0, 0, 0, 0, 0), (81, .getfield 44, 7, 21, 0, 0, 110, 0), (84, .iload_n 2, 0, 0, 0, 0, 0, 0), (85, .iaload, 0, 0, 0, 0, 0, 0), (86, .iload_n 3, 0, 0, 0, 0, 0, 0), (87, .if_icmp .ne 14, 55, 0, 0, 0, 0, 0), (90, .aload_n 0, 0, 0, 0, 0, 0, 0), (91, .iload_n 3, 0, 0, 0, 0, 0, 0), (92, .invokevirtual 205, 147, 2, 7, 0, 129, 0), (95, .iload 4, 0, 0, 0, 0, 0, 0), (97, .idiv, 0, 0, 0, 0, 0, 0), (98, .goto 9, 59, 0, 0, 0, 0, 0), (101, .aload_n 0, 0, 0, 0, 0, 0, 0), (102, .getfield 41, 7, 20, 0, 0, 109, 0), (105, .iconst 2, 0, 0, 0, 0, 0, 2), (106, .iaload, 0, 0, 0, 0, 0, 0), (107, .ireturn, 0, 0, 0, 0, 0, 0)]
def am_t149 : List am_I := [(0, .iconst 1, 0, 0, 0, 0, 0, 1), (1, .istore_n 3, 0, 0, 0, 0, 0, 0), (2, .iconst 0, 0, 0, 0, 0, 0, 0), (3, .istore 4, 0, 0, 0, 0, 0, 0), (5, .iload 4, 0, 0, 0, 0, 0, 0), (7, .iload_n 1, 0, 0, 0, 0, 0, 0), (8, .if_icmp .ge 80, 48, 0, 0, 0, 0, 0), (11, .aload_n 0, 0, 0, 0, 0, 0, 0), (12, .iload_n 1, 0, 0, 0, 0, 0, 0), (13, .iload 4, 0, 0, 0, 0, 0, 0), (15, .invokevirtual 208, 148, 3, 7, 0, 130, 0), (18, .istore 5, 0, 0, 0, 0, 0, 0), (20, .aload_n 0, 0, 0, 0, 0, 0, 0), (21, .getfield 44, 7, 21, 0, 0, 110, 0), (24, .iload 4, 0, 0, 0, 0, 0, 0), (26, .iaload, 0, 0, 0, 0, 0, 0), (27, .istore 6, 0, 0, 0, 0, 0, 0), (29, .iconst 0, 0, 0, 0, 0, 0, 0), (30, .istore 7, 0, 0, 0, 0, 0, 0), (32, .iload 7, 0, 0, 0, 0, 0, 0), (34, .iload_n 2, 0, 0, 0, 0, 0, 0), (35, .if_icmp .gt 38, 41, 0, 0, 0, 0, 0), (38, .aload_n 0, 0, 0, 0, 0, 0, 0), (39, .getfield 44, 7, 21, 0, 0, 110, 0), (42, .iload 4, 0, 0, 0, 0, 0, 0), (44, .iload 7, 0, 0, 0, 0, 0, 0), (46, .iastore, 0, 0, 0, 0, 0, 0), (47, .iload_n 3, 0, 0, 0, 0, 0, 0), (48, .aload_n 0, 0, 0, 0, 0, 0, 0), (49, .iload_n 1, 0, 0, 0, 0, 0, 0), (50, .iload 4, 0, 0, 0, 0, 0, 0), (52, .invokevirtual 208, 148, 3, 7, 0, 130, 0), (55, .iload 5, 0, 0, 0, 0, 0, 0), (57, .if_icmp .gt 7, 36, 0, 0, 0, 0, 0), (60, .iconst 1, 0, 0, 0, 0, 0, 1), (61, .goto 4, 37, 0, 0, 0, 0, 0), (64, .iconst 0, 0, 0, 0, 0, 0, 0), (65, .iand, 0, 0, 0, 0, 0, 0), (66, .istore_n 3, 0, 0, 0, 0, 0, 0), (67, .iinc 7 1, 0, 0, 0, 0, 0, 1), (70, .goto (-38), 19, 0, 0, 0, 0, 0), (73, .aload_n 0, 0, 0, 0, 0, 0, 0), (74, .getfield 44, 7, 21, 0, 0, 110, 0), (77, .iload 4, 0, 0, 0, 0, 0, 0), (79, .iload 6, 0, 0, 0, 0, 0, 0), (81, .iastore, 0, 0, 0, 0, 0, 0), (82, .iinc 4 1, 0, 0, 0, 0, 0, 1), (85, .goto (-80), 4, 0, 0, 0, 0, 0), (88, .iload_n 3, 0, 0, 0, 0, 0, 0), (89, .ireturn, 1, 0, 0, 0, 0, 0)]
def am_t150 : List am_I := [(0, .aload_n 0, 0, 0, 0, 0, 0, 0), (1, .iconst 0, 0, 0, 0, 0, 0, 0), (2, .putfield 59, 7, 0, 0, 0, 113, 0), (5, .iload_n 1, 0, 0, 0, 0, 0, 0), (6, .iconst 2, 0, 0, 0, 0, 0, 2), (7, .iconst 3, 0, 0, 0, 0, 0, 3), (8, .invokestatic 63, 94, 3, 7, 0, 96, 0), (11, .ifCond .eq 22, 18, 0, 0, 0, 0, 0), (14, .iload_n 2, 0, 0, 0, 0, 0, 0), (15, .iconst 1, 0, 0, 0, 0, 0, 1), (16, .bipush 8, 0, 0, 0, 0, 0, 8), (18, .invokestatic 63, 94, 3, 7, 0, 96, 0), (21, .ifCond .eq 12, 18, 0, 0, 0, 0, 0), (24, .iload_n 3, 0, 0, 0, 0, 0, 0), (25, .iconst 0, 0, 0, 0, 0, 0, 0), (26, .iconst 1, 0, 0, 0, 0, 0, 1), (27, .invokestatic 63, 94, 3, 7, 0, 96, 0), (30, .ifCond .ne 5, 20, 0, 0, 0, 0, 0), (33, .iconst (-1), 0, 0, 0, 0, 0, -1), (34, .ireturn, 0, 0, 0, 0, 0, 0), (35, .iconst 0, 0, 0, 0, 0, 0, 0), (36, .istore 4, 0, 0, 0, 0, 0, 0), (38, .bipush (-9), 0, 0, 0, 0, 0, -9), (40, .istore 5, 0, 0, 0, 0, 0, 0), (42, .iconst 0, 0, 0, 0, 0, 0, 0), (43, .istore 6, 0, 0, 0, 0, 0, 0), (45, .iload 6, 0, 0, 0, 0, 0, 0), (47, .iload_n 1, 0, 0, 0, 0, 0, 0), (48, .iconst 2, 0, 0, 0, 0, 0, 2), (49, .if_icmp .ne 8, 32, 0, 0, 0, 0, 0), (52, .bipush 100, 0, 0, 0, 0, 0, 100), (54, .goto 6, 33, 0, 0, 0, 0, 0), (57, .sipush 1000, 0, 0, 0, 0, 0, 1000), (60, .if_icmp .ge 103, 85, 0, 0, 0, 0, 0), (63, .iload 6, 0, 0, 0, 0, 0, 0), (65, .istore 7, 0, 0, 0, 0, 0, 0), (67, .iconst 1, 0, 0, 0, 0, 0, 1), (68, .istore 8, 0, 0, 0, 0, 0, 0), (70, .iload_n 1, 0, 0, 0, 0, 0, 0), (71, .iconst 1, 0, 0, 0, 0, 0, 1), (72, .isub, 0, 0, 0, 0, 0, 0), (73, .istore 9, 0, 0, 0, 0, 0, 0), (75, .iload 9, 0, 0, 0, 0, 0, 0), (77, .ifCond .lt 49, 69, 0, 0, 0, 0, 0), (80, .aload_n 0, 0, 0, 0, 0, 0, 0), (81, .getfield 44, 7, 21, 0, 0, 110, 0), (84, .iload 9, 0, 0, 0, 0, 0, 0), (86, .iload 7, 0, 0, 0, 0, 0, 0), (88, .bipush 10, 0, 0, 0, 0, 0, 10), (90, .irem, 0, 0, 0, 0, 0, 0), (91, .iastore, 0, 0, 0, 0, 0, 0), (92, .iload 7, 0, 0, 0, 0, 0, 0), (94, .bipush 10, 0, 0, 0, 0, 0, 10), (96, .idiv, 0, 0, 0, 0, 0, 0), (97, .istore 7, 0, 0, 0, 0, 0, 0), (99, .iload 8, 0, 0, 0, 0, 0, 0), (101, .aload_n 0, 0, 0, 0, 0, 0, 0), (102, .getfield 44, 7, 21, 0, 0, 110, 0), (105, .iload 9, 0, 0, 0, 0, 0, 0), (107, .iaload, 0, 0, 0, 0, 0, 0), (108, .iload_n 2, 0, 0, 0, 0, 0, 0), (109, .if_icmp .gt 7, 64, 0, 0, 0, 0, 0), (112, .iconst 1, 0, 0, 0, 0, 0, 1), (113, .goto 4, 65, 0, 0, 0, 0, 0), (116, .iconst 0, 0, 0, 0, 0, 0, 0), (117, .iand, 0, 0, 0, 0, 0, 0), (118, .istore 8, 0, 0, 0, 0, 0, 0), (120, .iinc 9 (-1), 0, 0, 0, 0, 0, -1), (123, .goto (-48), 42, 0, 0, 0, 0, 0), (126, .iload 8, 0, 0, 0, 0, 0, 0), (128, .ifCond .eq 29, 83, 0, 0, 0, 0, 0), (131, .aload_n 0, 0, 0, 0, 0, 0, 0), (132, .iload_n 1, 0, 0, 0, 0, 0, 0), (133, .iload_n 2, 0, 0, 0, 0, 0, 0), (134, .invokevirtual 211, 149, 3, 7, 0, 131, 0), (137, .ifCond .eq 20, 83, 0, 0, 0, 0, 0), (140, .iload 4, 0, 0, 0, 0, 0, 0), (142, .ifCond .ne 8, 80, 0, 0, 0, 0, 0), (145, .iload 6, 0, 0, 0, 0, 0, 0), (147, .goto 5, 81, 0, 0, 0, 0, 0), (150, .iload 5, 0, 0, 0, 0, 0, 0), (152, .istore 5, 0, 0, 0, 0, 0, 0), (154, .iinc 4 1, 0, 0, 0, 0, 0, 1), (157, .iinc 6 1, 0, 0, 0, 0, 0, 1), (160, .goto (-115), 26, 0, 0, 0, 0, 0), (163, .iload_n 3, 0, 0, 0, 0, 0, 0), (164, .ifCond .ne 8, 89, 0, 0, 0, 0, 0), (167, .iload 4, 0, 0, 0, 0, 0, 0), (169, .goto 5, 90, 0, 0, 0, 0, 0), (172, .iload 5, 0, 0, 0, 0, 0, 0), (174, .ireturn, 0, 0, 0, 0, 0, 0)]
def am_t151 : List am_I := [(0, .aload_n 0, 0, 0, 0, 0, 0, 0), (1, .iconst 0, 0, 0, 0, 0, 0, 0), (2, .putfield 59, 7, 0, 0, 0, 113, 0), (5, .iload_n 1, 0, 0, 0, 0, 0, 0), (6, .iconst 0, 0, 0, 0, 0, 0, 0), (7, .bipush 9, 0, 0, 0, 0, 0, 9), (9, .invokestatic 63, 94, 3, 7, 0, 96, 0), (12, .ifCond .eq 27, 21, 0, 0, 0, 0, 0), (15, .iload_n 2, 0, 0, 0, 0, 0, 0), (16, .iconst 0, 0, 0, 0, 0, 0, 0), (17, .bipush 9, 0, 0, 0, 0, 0, 9), (19, .invokestatic 63, 94, 3, 7, 0, 96, 0), (22, .ifCond .eq 17, 21, 0, 0, 0, 0, 0), (25, .iload_n 3, 0, 0, 0, 0, 0, 0), (26, .iconst 0, 0, 0, 0, 0, 0, 0), (27, .aload_n 0, 0, 0, 0, 0, 0, 0), (28, .getfield 47, 7, 22, 0, 0, 111, 0), (31, .iload_n 1, 0, 0, 0, 0, 0, 0), (32, .iaload, 0, 0, 0, 0, 0, 0), (33, .invokestatic 63, 94, 3, 7, 0, 96, 0), (36, .ifCond .ne 5, 23, 0, 0, 0, 0, 0), (39, .iconst (-1), 0, 0, 0, 0, 0, -1), (40, .ireturn, 0, 0, 0, 0, 0, 0), (41, .aload_n 0, 0, 0, 0, 0, 0, 0), (42, .getfield 47, 7, 22, 0, 0, 111, 0), (45, .iload_n 1, 0, 0, 0, 0, 0, 0), (46, .dup2, 0, 0, 0, 0, 0, 0), (47, .iaload, 0, 0, 0, 0, 0, 0), (48, .iload_n 3, 0, 0, 0, 0, 0, 0), (49, .isub, 0, 0, 0, 0, 0, 0), (50, .iastore, 0, 0, 0, 0, 0, 0), (51, .aload_n 0, 0, 0, 0, 0, 0, 0), (52, .getfield 47, 7, 22, 0, 0, 111, 0), (55, .iload_n 2, 0, 0, 0, 0, 0, 0), (56, .dup2, 0, 0, 0, 0, 0, 0), (57, .iaload, 0, 0, 0, 0, 0, 0), (58, .iload_n 3, 0, 0, 0, 0, 0, 0), (59, .iadd, 0, 0, 0, 0, 0, 0), (60, .iastore, 0, 0, 0, 0, 0, 0), (61, .aload_n 0, 0, 0, 0, 0, 0, 0), (62, .getfield 47, 7, 22, 0, 0, 111, 0), (65, .iload_n 2, 0, 0, 0, 0, 0, 0), (66, .iaload, 0, 0, 0, 0, 0, 0), (67, .ireturn, 0, 0, 0, 0, 0, 0)]
def am_t152 : List am_I := [(0, .aload_n 0, 0, 0, 0, 0, 0, 0), (1, .iconst 0, 0, 0, 0, 0, 0, 0), (2, .putfield 59, 7, 0, 0, 0, 113, 0), (5, .iload_n 1, 0, 0, 0, 0, 0, 0), (6, .iconst 0, 0, 0, 0, 0, 0, 0), (7, .iconst 1, 0, 0, 0, 0, 0, 1), (8, .invokestatic 63, 94, 3, 7, 0, 96, 0), (11, .ifCond .ne 5, 10, 0, 0, 0, 0, 0), (14, .iconst (-1), 0, 0, 0, 0, 0, -1), (15, .ireturn, 0, 0, 0, 0, 0, 0), (16, .iconst 0, 0, 0, 0, 0, 0, 0), (17, .istore_n 2, 0, 0, 0, 0, 0, 0), (18, .iconst (-1), 0, 0, 0, 0, 0, -1), (19, .istore_n 3, 0, 0, 0, 0, 0, 0), (20, .iconst 0, 0, 0, 0, 0, 0, 0), (21, .istore 4, 0, 0, 0, 0, 0, 0), (23, .iload 4, 0, 0, 0, 0, 0, 0), (25, .bipush 10, 0, 0, 0, 0, 0, 10), (27, .if_icmp .ge 109, 74, 0, 0, 0, 0, 0), (30, .iconst 0, 0, 0, 0, 0, 0, 0), (31, .istore 5, 0, 0, 0, 0, 0, 0), (33, .iconst 0, 0, 0, 0, 0, 0, 0), (34, .istore 6, 0, 0, 0, 0, 0, 0), (36, .iload 6, 0, 0, 0, 0, 0, 0), (38, .bipush 10, 0, 0, 0, 0, 0, 10), (40, .if_icmp .ge 64, 58, 0, 0, 0, 0, 0), (43, .iload 5, 0, 0, 0, 0, 0, 0), (45, .aload_n 0, 0, 0, 0, 0, 0, 0), (46, .getfield 47, 7, 22, 0, 0, 111, 0), (49, .iload 6, 0, 0, 0, 0, 0, 0), (51, .iaload, 0, 0, 0, 0, 0, 0), (52, .iload 6, 0, 0, 0, 0, 0, 0), (54, .iload 4, 0, 0, 0, 0, 0, 0), (56, .if_icmp .le 14, 40, 0, 0, 0, 0, 0), (59, .iconst 2, 0, 0, 0, 0, 0, 2), (60, .aload_n 0, 0, 0, 0, 0, 0, 0), (61, .iload 4, 0, 0, 0, 0, 0, 0), (63, .invokevirtual 205, 147, 2, 7, 0, 129, 0), (66, .imul, 0, 0, 0, 0, 0, 0), (67, .goto 27, 53, 0, 0, 0, 0, 0), (70, .iload 6, 0, 0, 0, 0, 0, 0), (72, .iload 4, 0, 0, 0, 0, 0, 0), (74, .if_icmp .ne 12, 47, 0, 0, 0, 0, 0), (77, .aload_n 0, 0, 0, 0, 0, 0, 0), (78, .iload 4, 0, 0, 0, 0, 0, 0), (80, .invokevirtual 205, 147, 2, 7, 0, 129, 0), (83, .goto 11, 53, 0, 0, 0, 0, 0), (86, .iconst 2, 0, 0, 0, 0, 0, 2), (87, .aload_n 0, 0, 0, 0, 0, 0, 0), (88, .getfield 41, 7, 20, 0, 0, 109, 0), (91, .iconst 2, 0, 0, 0, 0, 0, 2), (92, .iaload, 0, 0, 0, 0, 0, 0), (93, .imul, 0, 0, 0, 0, 0, 0), (94, .imul, 0, 0, 0, 0, 0, 0), (95, .iadd, 0, 0, 0, 0, 0, 0), (96, .istore 5, 0, 0, 0, 0, 0, 0), (98, .iinc 6 1, 0, 0, 0, 0, 0, 1), (101, .goto (-65), 23, 0, 0, 0, 0, 0), (104, .iload 5, 0, 0, 0, 0, 0, 0), (106, .iload_n 3, 0, 0, 0, 0, 0, 0), (107, .if_icmp .le 8, 63, 0, 0, 0, 0, 0), (110, .iload 4, 0, 0, 0, 0, 0, 0), (112, .goto 4, 64, 0, 0, 0, 0, 0), (115, .iload_n 2, 0, 0, 0, 0, 0, 0), (116, .istore_n 2, 0, 0, 0, 0, 0, 0), (117, .iload 5, 0, 0, 0, 0, 0, 0), (119, .iload_n 3, 0, 0, 0, 0, 0, 0), (120, .if_icmp .le 8, 70, 0, 0, 0, 0, 0), (123, .iload 5, 0, 0, 0, 0, 0, 0), (125, .goto 4, 71, 0, 0, 0, 0, 0), (128, .iload_n 3, 0, 0, 0, 0, 0, 0), (129, .istore_n 3, 0, 0, 0, 0, 0, 0), (130, .iinc 4 1, 0, 0, 0, 0, 0, 1), (133, .goto (-110), 16, 0, 0, 0, 0, 0), (136, .iload_n 1, 0, 0, 0, 0, 0, 0), (137, .ifCond .ne 7, 78, 0, 0, 0, 0, 0), (140, .iload_n 2, 0, 0, 0, 0, 0, 0), (141, .goto 4, 79, 0, 0, 0, 0, 0), (144, .iload_n 3, 0, 0, 0, 0, 0, 0), (145, .ireturn, 0, 0, 0, 0, 0, 0)]
def am_t153 : List am_I := [(0, .aload_n 0, 0, 0, 0, 0, 0, 0), (1, .iconst 0, 0, 0, 0, 0, 0, 0), (2, .putfield 59, 7, 0, 0, 0, 113, 0), (5, .iload_n 1, 0, 0, 0, 0, 0, 0), (6, .iconst 0, 0, 0, 0, 0, 0, 0), (7, .sipush 999, 0, 0, 0, 0, 0, 999), (10, .invokestatic 63, 94, 3, 7, 0, 96, 0), (13, .ifCond .ne 5, 10, 0, 0, 0, 0, 0), (16, .iconst (-1), 0, 0, 0, 0, 0, -1), (17, .ireturn, 0, 0, 0, 0, 0, 0), (18, .aload_n 0, 0, 0, 0, 0, 0, 0), (19, .getfield 215, 7, 24, 0, 0, 122, 0), (22, .bipush 12, 0, 0, 0, 0, 0, 12), (24, .if_icmp .ne 6, 16, 0, 0, 0, 0, 0), (27, .bipush (-3), 0, 0, 0, 0, 0, -3), (29, .ireturn, 0, 0, 0, 0, 0, 0), (30, .aload_n 0, 0, 0, 0, 0, 0, 0), (31, .getfield 50, 7, 23, 0, 0, 112, 0), (34, .aload_n 0, 0, 0, 0, 0, 0, 0), (35, .getfield 215, 7, 24, 0, 0, 122, 0), (38, .iload_n 1, 0, 0, 0, 0, 0, 0), (39, .iastore, 0, 0, 0, 0, 0, 0), (40, .aload_n 0, 0, 0, 0, 0, 0, 0), (41, .dup, 0, 0, 0, 0, 0, 0), (42, .getfield 215, 7, 24, 0, 0, 122, 0), (45, .iconst 1, 0, 0, 0, 0, 0, 1), (46, .iadd, 0, 0, 0, 0, 0, 0), (47, .putfield 215, 7, 24, 0, 0, 122, 0), (50, .aload_n 0, 0, 0, 0, 0, 0, 0), (51, .getfield 215, 7, 24, 0, 0, 122, 0), (54, .ireturn, 0, 0, 0, 0, 0, 0)]
def am_t154 : List am_I := [(0, .iconst 0, 0, 0, 0, 0, 0, 0), (1, .istore 5, 0, 0, 0, 0, 0, 0), (3, .iconst 2, 0, 0, 0, 0, 0, 2), (4, .istore 6, 0, 0, 0, 0, 0, 0), (6, .iload 6, 0, 0, 0, 0, 0, 0), (8, .aload_n 0, 0, 0, 0, 0, 0, 0), (9, .getfield 215, 7, 24, 0, 0, 122, 0), (12, .if_icmp .ge 89, 61, 0, 0, 0, 0, 0), (15, .aload_n 0, 0, 0, 0, 0, 0, 0), (16, .iload 6, 0, 0, 0, 0, 0, 0), (18, .aload_n 0, 0, 0, 0, 0, 0, 0), (19, .getfield 13, 7, 9, 0, 0, 100, 0), (22, .iconst 0, 0, 0, 0, 0, 0, 0), (23, .iaload, 0, 0, 0, 0, 0, 0), (24, .if_icmp .ge 8, 17, 0, 0, 0, 0, 0), (27, .iload 6, 0, 0, 0, 0, 0, 0), (29, .goto 9, 21, 0, 0, 0, 0, 0), (32, .aload_n 0, 0, 0, 0, 0, 0, 0), (33, .getfield 13, 7, 9, 0, 0, 100, 0), (36, .iconst 0, 0, 0, 0, 0, 0, 0), (37, .iaload, 0, 0, 0, 0, 0, 0), (38, .invokevirtual 136, 119, 2, 7, 0, 109, 0), (41, .istore 7, 0, 0, 0, 0, 0, 0), (43, .iload 5, 0, 0, 0, 0, 0, 0), (45, .iload_n 1, 0, 0, 0, 0, 0, 0), (46, .iload 7, 0, 0, 0, 0, 0, 0), (48, .imul, 0, 0, 0, 0, 0, 0), (49, .iload_n 2, 0, 0, 0, 0, 0, 0), (50, .iconst 2, 0, 0, 0, 0, 0, 2), (51, .aload_n 0, 0, 0, 0, 0, 0, 0), (52, .getfield 50, 7, 23, 0, 0, 112, 0), (55, .iload 6, 0, 0, 0, 0, 0, 0), (57, .iconst 1, 0, 0, 0, 0, 0, 1), (58, .isub, 0, 0, 0, 0, 0, 0), (59, .iaload, 0, 0, 0, 0, 0, 0), (60, .imul, 0, 0, 0, 0, 0, 0), (61, .aload_n 0, 0, 0, 0, 0, 0, 0), (62, .getfield 50, 7, 23, 0, 0, 112, 0), (65, .iload 6, 0, 0, 0, 0, 0, 0), (67, .iconst 2, 0, 0, 0, 0, 0, 2), (68, .isub, 0, 0, 0, 0, 0, 0), (69, .iaload, 0, 0, 0, 0, 0, 0), (70, .isub, 0, 0, 0, 0, 0, 0), (71, .imul, 0, 0, 0, 0, 0, 0), (72, .iadd, 0, 0, 0, 0, 0, 0), (73, .iload_n 3, 0, 0, 0, 0, 0, 0), (74, .iload 4, 0, 0, 0, 0, 0, 0), (76, .imul, 0, 0, 0, 0, 0, 0), (77, .iadd, 0, 0, 0, 0, 0, 0), (78, .bipush 10, 0, 0, 0, 0, 0, 10), (80, .aload_n 0, 0, 0, 0, 0, 0, 0), (81, .getfield 50, 7, 23, 0, 0, 112, 0), (84, .iload 6, 0, 0, 0, 0, 0, 0), (86, .iaload, 0, 0, 0, 0, 0, 0), (87, .imul, 0, 0, 0, 0, 0, 0), (88, .isub, 0, 0, 0, 0, 0, 0), (89, .invokestatic 180, 95, 1, 7, 0, 121, 0), (92, .iadd, 0, 0, 0, 0, 0, 0), (93, .istore 5, 0, 0, 0, 0, 0, 0), (95, .iinc 6 1, 0, 0, 0, 0, 0, 1), (98, .goto (-92), 4, 0, 0, 0, 0, 0), (101, .iload 5, 0, 0, 0, 0, 0, 0), (103, .ireturn, 0, 0, 0, 0, 0, 0)]
def am_t155 : List am_I := [(0, .aload_n 0, 0, 0, 0, 0, 0, 0), (1, .iconst 0, 0, 0, 0, 0, 0, 0), (2, .putfield 59, 7, 0, 0, 0, 113, 0), (5, .iload_n 1, 0, 0, 0, 0, 0, 0), (6, .iconst 0, 0, 0, 0, 0, 0, 0), (7, .bipush 99, 0, 0, 0, 0, 0, 99), (9, .invokestatic 63, 94, 3, 7, 0, 96, 0), (12, .ifCond .eq 12, 13, 0, 0, 0, 0, 0), (15, .iload_n 2, 0, 0, 0, 0, 0, 0), (16, .iconst 0, 0, 0, 0, 0, 0, 0), (17, .iconst 3, 0, 0, 0, 0, 0, 3), (18, .invokestatic 63, 94, 3, 7, 0, 96, 0), (21, .ifCond .ne 5, 15, 0, 0, 0, 0, 0), (24, .iconst (-1), 0, 0, 0, 0, 0, -1), (25, .ireturn, 0, 0, 0, 0, 0, 0), (26, .aload_n 0, 0, 0, 0, 0, 0, 0), (27, .getfield 215, 7, 24, 0, 0, 122, 0), (30, .iconst 3, 0, 0, 0, 0, 0, 3), (31, .if_icmp .ge 6, 21, 0, 0, 0, 0, 0), (34, .bipush (-2), 0, 0, 0, 0, 0, -2), (36, .ireturn, 0, 0, 0, 0, 0, 0), (37, .bipush 10, 0, 0, 0, 0, 0, 10), (39, .istore_n 3, 0, 0, 0, 0, 0, 0), (40, .iconst 0, 0, 0, 0, 0, 0, 0), (41, .istore 4, 0, 0, 0, 0, 0, 0), (43, .aload_n 0, 0, 0, 0, 0, 0, 0), (44, .bipush 10, 0, 0, 0, 0, 0, 10), (46, .iconst 0, 0, 0, 0, 0, 0, 0), (47, .iconst 0, 0, 0, 0, 0, 0, 0), (48, .iload_n 1, 0, 0, 0, 0, 0, 0), (49, .invokevirtual 218, 154, 5, 7, 0, 132, 0), (52, .istore 5, 0, 0, 0, 0, 0, 0), (54, .bipush 9, 0, 0, 0, 0, 0, 9), (56, .istore 6, 0, 0, 0, 0, 0, 0), (58, .iload 6, 0, 0, 0, 0, 0, 0), (60, .ifCond .lt 64, 66, 0, 0, 0, 0, 0), (63, .bipush 10, 0, 0, 0, 0, 0, 10), (65, .iload 6, 0, 0, 0, 0, 0, 0), (67, .isub, 0, 0, 0, 0, 0, 0), (68, .istore 7, 0, 0, 0, 0, 0, 0), (70, .iload 7, 0, 0, 0, 0, 0, 0), (72, .ifCond .lt 46, 64, 0, 0, 0, 0, 0), (75, .aload_n 0, 0, 0, 0, 0, 0, 0), (76, .iload 6, 0, 0, 0, 0, 0, 0), (78, .iload 7, 0, 0, 0, 0, 0, 0), (80, .bipush 10, 0, 0, 0, 0, 0, 10), (82, .iload 6, 0, 0, 0, 0, 0, 0), (84, .isub, 0, 0, 0, 0, 0, 0), (85, .iload 7, 0, 0, 0, 0, 0, 0), (87, .isub, 0, 0, 0, 0, 0, 0), (88, .iload_n 1, 0, 0, 0, 0, 0, 0), (89, .invokevirtual 218, 154, 5, 7, 0, 132, 0), (92, .istore 8, 0, 0, 0, 0, 0, 0), (94, .iload 8, 0, 0, 0, 0, 0, 0), (96, .iload 5, 0, 0, 0, 0, 0, 0), (98, .if_icmp .ge 14, 62, 0, 0, 0, 0, 0), (101, .iload 8, 0, 0, 0, 0, 0, 0), (103, .istore 5, 0, 0, 0, 0, 0, 0), (105, .iload 6, 0, 0, 0, 0, 0, 0), (107, .istore_n 3, 0, 0, 0, 0, 0, 0), (108, .iload 7, 0, 0, 0, 0, 0, 0), (110, .istore 4, 0, 0, 0, 0, 0, 0), (112, .iinc 7 (-1), 0, 0, 0, 0, 0, -1), (115, .goto (-45), 40, 0, 0, 0, 0, 0), (118, .iinc 6 (-1), 0, 0, 0, 0, 0, -1), (121, .goto (-63), 34, 0, 0, 0, 0, 0), (124, .iload_n 2, 0, 0, 0, 0, 0, 0), (125, .ifCond .ne 7, 70, 0, 0, 0, 0, 0), (128, .iload_n 3, 0, 0, 0, 0, 0, 0), (129, .goto 30, 85, 0, 0, 0, 0, 0), (132, .iload_n 2, 0, 0, 0, 0, 0, 0), (133, .iconst 1, 0, 0, 0, 0, 0, 1), (134, .if_icmp .ne 8, 75, 0, 0, 0, 0, 0), (137, .iload 4, 0, 0, 0, 0, 0, 0), (139, .goto 20, 85, 0, 0, 0, 0, 0), (142, .iload_n 2, 0, 0, 0, 0, 0, 0), (143, .iconst 2, 0, 0, 0, 0, 0, 2), (144, .if_icmp .ne 13, 84, 0, 0, 0, 0, 0), (147, .bipush 10, 0, 0, 0, 0, 0, 10), (149, .iload_n 3, 0, 0, 0, 0, 0, 0), (150, .isub, 0, 0, 0, 0, 0, 0), (151, .iload 4, 0, 0, 0, 0, 0, 0), (153, .isub, 0, 0, 0, 0, 0, 0), (154, .goto 5, 85, 0, 0, 0, 0, 0), (157, .iload 5, 0, 0, 0, 0, 0, 0), (159, .ireturn, 0, 0, 0, 0, 0, 0)]
def am_t156 : List am_I := [(0, .aload_n 0, 0, 0, 0, 0, 0, 0), (1, .iconst 0, 0, 0, 0, 0, 0, 0), (2, .putfield 59, 7, 0, 0, 0, 113, 0), (5, .aload_n 0, 0, 0, 0, 0, 0, 0), (6, .iload_n 1, 0, 0, 0, 0, 0, 0), (7, .invokevirtual 155, 117, 2, 7, 0, 114, 0), (10, .ifCond .eq 14, 12, 0, 0, 0, 0, 0), (13, .iload_n 2, 0, 0, 0, 0, 0, 0), (14, .iconst 0, 0, 0, 0, 0, 0, 0), (15, .sipush 999, 0, 0, 0, 0, 0, 999), (18, .invokestatic 63, 94, 3, 7, 0, 96, 0), (21, .ifCond .ne 5, 14, 0, 0, 0, 0, 0), (24, .iconst (-1), 0, 0, 0, 0, 0, -1), (25, .ireturn, 0, 0, 0, 0, 0, 0), (26, .aload_n 0, 0, 0, 0, 0, 0, 0), (27, .invokevirtual 183, 125, 1, 7, 0, 122, 0), (30, .ifCond .eq 6, 19, 0, 0, 0, 0, 0), (33, .bipush (-2), 0, 0, 0, 0, 0, -2), (35, .ireturn, 0, 0, 0, 0, 0, 0), (36, .aload_n 0, 0, 0, 0, 0, 0, 0), (37, .iload_n 1, 0, 0, 0, 0, 0, 0), (38, .iconst 3, 0, 0, 0, 0, 0, 3), (39, .invokevirtual 149, 113, 3, 7, 0, 112, 0), (42, .istore_n 3, 0, 0, 0, 0, 0, 0), (43, .aload_n 0, 0, 0, 0, 0, 0, 0), (44, .iload_n 1, 0, 0, 0, 0, 0, 0), (45, .iconst 3, 0, 0, 0, 0, 0, 3), (46, .iload_n 2, 0, 0, 0, 0, 0, 0), (47, .invokevirtual 142, 114, 4, 7, 0, 110, 0), (50, .iload_n 3, 0, 0, 0, 0, 0, 0), (51, .ireturn, 0, 0, 0, 0, 0, 0)]
def am_t157 : List am_I := [(0, .aload_n 0, 0, 0, 0, 0, 0, 0), (1, .iconst 0, 0, 0, 0, 0, 0, 0), (2, .putfield 59, 7, 0, 0, 0, 113, 0), (5, .aload_n 0, 0, 0, 0, 0, 0, 0), (6, .iload_n 1, 0, 0, 0, 0, 0, 0), (7, .invokevirtual 155, 117, 2, 7, 0, 114, 0), (10, .ifCond .eq 23, 19, 0, 0, 0, 0, 0), (13, .iload_n 2, 0, 0, 0, 0, 0, 0), (14, .iconst 0, 0, 0, 0, 0, 0, 0), (15, .iconst 1, 0, 0, 0, 0, 0, 1), (16, .invokestatic 63, 94, 3, 7, 0, 96, 0), (19, .ifCond .eq 14, 19, 0, 0, 0, 0, 0), (22, .aload_n 0, 0, 0, 0, 0, 0, 0), (23, .iload_n 1, 0, 0, 0, 0, 0, 0), (24, .iconst 4, 0, 0, 0, 0, 0, 4), (25, .iload_n 2, 0, 0, 0, 0, 0, 0), (26, .iadd, 0, 0, 0, 0, 0, 0), (27, .invokevirtual 149, 113, 3, 7, 0, 112, 0), (30, .goto 4, 20, 0, 0, 0, 0, 0), (33, .iconst (-1), 0, 0, 0, 0, 0, -1), (34, .ireturn, 0, 0, 0, 0, 0, 0)]
def am_t158 : List am_I := [(0, .aload_n 0, 0, 0, 0, 0, 0, 0), (1, .iconst 0, 0, 0, 0, 0, 0, 0), (2, .putfield 59, 7, 0, 0, 0, 113, 0), (5, .bipush (-9), 0, 0, 0, 0, 0, -9), (7, .istore_n 1, 0, 0, 0, 0, 0, 0), (8, .iconst 0, 0, 0, 0, 0, 0, 0), (9, .istore_n 2, 0, 0, 0, 0, 0, 0), (10, .iload_n 2, 0, 0, 0, 0, 0, 0), (11, .aload_n 0, 0, 0, 0, 0, 0, 0), (12, .getfield 139, 7, 11, 0, 0, 121, 0), (15, .if_icmp .ge 74, 55, 0, 0, 0, 0, 0), (18, .aload_n 0, 0, 0, 0, 0, 0, 0), (19, .iload_n 2, 0, 0, 0, 0, 0, 0), (20, .iconst 5, 0, 0, 0, 0, 0, 5), (21, .invokevirtual 149, 113, 3, 7, 0, 112, 0), (24, .ifCond .le 7, 18, 0, 0, 0, 0, 0), (27, .iconst 1, 0, 0, 0, 0, 0, 1), (28, .goto 4, 19, 0, 0, 0, 0, 0), (31, .iconst 0, 0, 0, 0, 0, 0, 0), (32, .istore_n 3, 0, 0, 0, 0, 0, 0), (33, .iload_n 3, 0, 0, 0, 0, 0, 0), (34, .ifCond .eq 47, 51, 0, 0, 0, 0, 0), (37, .iload_n 1, 0, 0, 0, 0, 0, 0), (38, .bipush (-9), 0, 0, 0, 0, 0, -9), (40, .if_icmp .eq 37, 49, 0, 0, 0, 0, 0), (43, .aload_n 0, 0, 0, 0, 0, 0, 0), (44, .iload_n 2, 0, 0, 0, 0, 0, 0), (45, .iconst 4, 0, 0, 0, 0, 0, 4), (46, .invokevirtual 149, 113, 3, 7, 0, 112, 0), (49, .i2l, 0, 0, 0, 0, 0, 0), (50, .aload_n 0, 0, 0, 0, 0, 0, 0), (51, .iload_n 1, 0, 0, 0, 0, 0, 0), (52, .iconst 5, 0, 0, 0, 0, 0, 5), (53, .invokevirtual 149, 113, 3, 7, 0, 112, 0), (56, .i2l, 0, 0, 0, 0, 0, 0), (57, .lmul, 0, 0, 0, 0, 0, 0), (58, .aload_n 0, 0, 0, 0, 0, 0, 0), (59, .iload_n 1, 0, 0, 0, 0, 0, 0), (60, .iconst 4, 0, 0, 0, 0, 0, 4), (61, .invokevirtual 149, 113, 3, 7, 0, 112, 0), (64, .i2l, 0, 0, 0, 0, 0, 0), (65, .aload_n 0, 0, 0, 0, 0, 0, 0), (66, .iload_n 2, 0, 0, 0, 0, 0, 0), (67, .iconst 5, 0, 0, 0, 0, 0, 5), (68, .invokevirtual 149, 113, 3, 7, 0, 112, 0), (71, .i2l, 0, 0, 0, 0, 0, 0), (72, .lmul, 0, 0, 0, 0, 0, 0), (73, .lcmp, 0, 0, 0, 0, 0, 0), (74, .ifCond .ge 7, 51, 0, 0, 0, 0, 0), (77, .iload_n 2, 0, 0, 0, 0, 0, 0), (78, .goto 4, 52, 0, 0, 0, 0, 0), (81, .iload_n 1, 0, 0, 0, 0, 0, 0), (82, .istore_n 1, 0, 0, 0, 0, 0, 0), (83, .iinc 2 1, 0, 0, 0, 0, 0, 1), (86, .goto (-76), 7, 0, 0, 0, 0, 0), (89, .iload_n 1, 0, 0, 0, 0, 0, 0), (90, .ireturn, 0, 0, 0, 0, 0, 0)]
def am_t159 : List am_I := [(0, .aload_n 0, 0, 0, 0, 0, 0, 0), (1, .iconst 0, 0, 0, 0, 0, 0, 0), (2, .putfield 59, 7, 0, 0, 0, 113, 0), (5, .iload_n 1, 0, 0, 0, 0, 0, 0), (6, .iconst 0, 0, 0, 0, 0, 0, 0), (7, .bipush 6, 0, 0, 0, 0, 0, 6), (9, .invokestatic 63, 94, 3, 7, 0, 96, 0), (12, .ifCond .eq 11, 12, 0, 0, 0, 0, 0), (15, .aload_n 0, 0, 0, 0, 0, 0, 0), (16, .iload_n 2, 0, 0, 0, 0, 0, 0), (17, .invokevirtual 155, 117, 2, 7, 0, 114, 0), (20, .ifCond .ne 6, 14, 0, 0, 0, 0, 0), (23, .ldc 159, 0, 0, 0, 0, 2, -1000000), (25, .ireturn, 0, 0, 0, 0, 0, 0), (26, .aload_n 0, 0, 0, 0, 0, 0, 0), (27, .iload_n 2, 0, 0, 0, 0, 0, 0), (28, .iconst 0, 0, 0, 0, 0, 0, 0), (29, .invokevirtual 149, 113, 3, 7, 0, 112, 0), (32, .istore_n 3, 0, 0, 0, 0, 0, 0), (33, .iload_n 3, 0, 0, 0, 0, 0, 0), (34, .aload_n 0, 0, 0, 0, 0, 0, 0), (35, .getfield 19, 7, 13, 0, 0, 102, 0), (38, .iconst 1, 0, 0, 0, 0, 0, 1), (39, .iaload, 0, 0, 0, 0, 0, 0), (40, .iadd, 0, 0, 0, 0, 0, 0), (41, .istore 4, 0, 0, 0, 0, 0, 0), (43, .iload_n 3, 0, 0, 0, 0, 0, 0), (44, .aload_n 0, 0, 0, 0, 0, 0, 0), (45, .getfield 19, 7, 13, 0, 0, 102, 0), (48, .iconst 0, 0, 0, 0, 0, 0, 0), (49, .iaload, 0, 0, 0, 0, 0, 0), (50, .isub, 0, 0, 0, 0, 0, 0), (51, .istore 5, 0, 0, 0, 0, 0, 0), (53, .aload_n 0, 0, 0, 0, 0, 0, 0), (54, .dup, 0, 0, 0, 0, 0, 0), (55, .getfield 222, 7, 1, 0, 0, 123, 0), (58, .iload_n 1, 0, 0, 0, 0, 0, 0), (59, .ifCond .ne 7, 40, 0, 0, 0, 0, 0), (62, .lconst 1, 0, 0, 0, 0, 0, 0), (63, .goto 61, 66, 0, 0, 0, 0, 0), (66, .iload_n 1, 0, 0, 0, 0, 0, 0), (67, .iconst 1, 0, 0, 0, 0, 0, 1), (68, .if_icmp .ne 9, 45, 0, 0, 0, 0, 0), (71, .ldc2_w 226, 2, 0, 0, 0, 0, 0), (74, .goto 50, 66, 0, 0, 0, 0, 0), (77, .iload_n 1, 0, 0, 0, 0, 0, 0), (78, .iconst 2, 0, 0, 0, 0, 0, 2), (79, .if_icmp .ne 9, 50, 0, 0, 0, 0, 0), (82, .ldc2_w 228, 3, 0, 0, 0, 0, 0), (85, .goto 39, 66, 0, 0, 0, 0, 0), (88, .iload_n 1, 0, 0, 0, 0, 0, 0), (89, .iconst 3, 0, 0, 0, 0, 0, 3), (90, .if_icmp .ne 9, 55, 0, 0, 0, 0, 0), (93, .ldc2_w 230, 4, 0, 0, 0, 0, 0), (96, .goto 28, 66, 0, 0, 0, 0, 0), (99, .iload_n 1, 0, 0, 0, 0, 0, 0), (100, .iconst 4, 0, 0, 0, 0, 0, 4), (101, .if_icmp .ne 9, 60, 0, 0, 0, 0, 0), (104, .ldc2_w 232, 5, 0, 0, 0, 0, 0), (107, .goto 17, 66, 0, 0, 0, 0, 0), (110, .iload_n 1, 0, 0, 0, 0, 0, 0), (111, .iconst 5, 0, 0, 0, 0, 0, 5), (112, .if_icmp .ne 9, 65, 0, 0, 0, 0, 0), (115, .ldc2_w 234, 6, 0, 0, 0, 0, 0), (118, .goto 6, 66, 0, 0, 0, 0, 0), (121, .ldc2_w 236, 7, 0, 0, 0, 0, 0), (124, .ladd, 0, 0, 0, 0, 0, 0), (125, .putfield 222, 7, 1, 0, 2, 123, 0), (128, .iload_n 1, 0, 0, 0, 0, 0, 0), (129, .ifCond .ne 7, 72, 0, 0, 0, 0, 0), (132, .iload_n 3, 0, 0, 0, 0, 0, 0), (133, .goto 87, 122, 0, 0, 0, 0, 0), (136, .iload_n 1, 0, 0, 0, 0, 0, 0), (137, .iconst 1, 0, 0, 0, 0, 0, 1), (138, .if_icmp .ne 25, 89, 0, 0, 0, 0, 0), (141, .iload_n 3, 0, 0, 0, 0, 0, 0), (142, .aload_n 0, 0, 0, 0, 0, 0, 0), (143, .iload_n 2, 0, 0, 0, 0, 0, 0), (144, .iconst 1, 0, 0, 0, 0, 0, 1), (145, .invokevirtual 149, 113, 3, 7, 0, 112, 0), (148, .aload_n 0, 0, 0, 0, 0, 0, 0), (149, .aload_n 0, 0, 0, 0, 0, 0, 0), (150, .getfield 19, 7, 13, 0, 0, 102, 0), (153, .iconst 0, 0, 0, 0, 0, 0, 0), (154, .iaload, 0, 0, 0, 0, 0, 0), (155, .invokevirtual 136, 119, 2, 7, 0, 109, 0), (158, .imul, 0, 0, 0, 0, 0, 0), (159, .iadd, 0, 0, 0, 0, 0, 0), (160, .goto 60, 122, 0, 0, 0, 0, 0), (163, .iload_n 1, 0, 0, 0, 0, 0, 0), (164, .iconst 2, 0, 0, 0, 0, 0, 2), (165, .if_icmp .ne 8, 94, 0, 0, 0, 0, 0), (168, .iload 4, 0, 0, 0, 0, 0, 0), (170, .goto 50, 122, 0, 0, 0, 0, 0), (173, .iload_n 1, 0, 0, 0, 0, 0, 0), (174, .iconst 3, 0, 0, 0, 0, 0, 3), (175, .if_icmp .ne 8, 99, 0, 0, 0, 0, 0), (178, .iload 5, 0, 0, 0, 0, 0, 0), (180, .goto 40, 122, 0, 0, 0, 0, 0), (183, .iload_n 1, 0, 0, 0, 0, 0, 0), (184, .iconst 4, 0, 0, 0, 0, 0, 4), (185, .if_icmp .ne 9, 106, 0, 0, 0, 0, 0), (188, .iconst 2, 0, 0, 0, 0, 0, 2), (189, .iload_n 3, 0, 0, 0, 0, 0, 0), (190, .imul, 0, 0, 0, 0, 0, 0), (191, .goto 29, 122, 0, 0, 0, 0, 0), (194, .iload_n 1, 0, 0, 0, 0, 0, 0), (195, .iconst 5, 0, 0, 0, 0, 0, 5), (196, .if_icmp .ne 15, 116, 0, 0, 0, 0, 0), (199, .iload 5, 0, 0, 0, 0, 0, 0), (201, .aload_n 0, 0, 0, 0, 0, 0, 0), (202, .iload_n 2, 0, 0, 0, 0, 0, 0), (203, .iconst 2, 0, 0, 0, 0, 0, 2), (204, .invokevirtual 149, 113, 3, 7, 0, 112, 0), (207, .iadd, 0, 0, 0, 0, 0, 0), (208, .goto 12, 122, 0, 0, 0, 0, 0), (211, .iload 4, 0, 0, 0, 0, 0, 0), (213, .aload_n 0, 0, 0, 0, 0, 0, 0), (214, .iload_n 2, 0, 0, 0, 0, 0, 0), (215, .iconst 1, 0, 0, 0, 0, 0, 1), (216, .invokevirtual 149, 113, 3, 7, 0, 112, 0), (219, .isub, 0, 0, 0, 0, 0, 0), (220, .ireturn, 0, 0, 0, 0, 0, 0)]
def am_t160 : List am_I := [(0, .aload_n 0, 0, 0, 0, 0, 0, 0), (1, .iconst 0, 0, 0, 0, 0, 0, 0), (2, .putfield 59, 7, 0, 0, 0, 113, 0), (5, .iload_n 1, 0, 0, 0, 0, 0, 0), (6, .iconst 0, 0, 0, 0, 0, 0, 0), (7, .iconst 1, 0, 0, 0, 0, 0, 1), (8, .invokestatic 63, 94, 3, 7, 0, 96, 0), (11, .ifCond .ne 5, 10, 0, 0, 0, 0, 0), (14, .iconst (-1), 0, 0, 0, 0, 0, -1), (15, .ireturn, 0, 0, 0, 0, 0, 0), (16, .iconst 0, 0, 0, 0, 0, 0, 0), (17, .istore_n 2, 0, 0, 0, 0, 0, 0), (18, .iload_n 2, 0, 0, 0, 0, 0, 0), (19, .bipush 80, 0, 0, 0, 0, 0, 80), (21, .if_icmp .ge 26, 29, 0, 0, 0, 0, 0), (24, .aload_n 0, 0, 0, 0, 0, 0, 0), (25, .getfield 25, 7, 15, 0, 0, 104, 0), (28, .bipush 80, 0, 0, 0, 0, 0, 80), (30, .iload_n 1, 0, 0, 0, 0, 0, 0), (31, .imul, 0, 0, 0, 0, 0, 0), (32, .iload_n 2, 0, 0, 0, 0, 0, 0), (33, .iadd, 0, 0, 0, 0, 0, 0), (34, .aload_n 0, 0, 0, 0, 0, 0, 0), (35, .getfield 19, 7, 13, 0, 0, 102, 0), (38, .iload_n 2, 0, 0, 0, 0, 0, 0), (39, .iaload, 0, 0, 0, 0, 0, 0), (40, .iastore, 0, 0, 0, 0, 0, 0), (41, .iinc 2 1, 0, 0, 0, 0, 0, 1), (44, .goto (-26), 12, 0, 0, 0, 0, 0), (47, .aload_n 0, 0, 0, 0, 0, 0, 0), (48, .getfield 28, 7, 16, 0, 0, 105, 0), (51, .iload_n 1, 0, 0, 0, 0, 0, 0), (52, .iconst 1, 0, 0, 0, 0, 0, 1), (53, .bastore, 0, 0, 0, 0, 0, 0), (54, .aload_n 0, 0, 0, 0, 0, 0, 0), (55, .getfield 19, 7, 13, 0, 0, 102, 0), (58, .iconst 0, 0, 0, 0, 0, 0, 0), (59, .iaload, 0, 0, 0, 0, 0, 0), (60, .ireturn, 0, 0, 0, 0, 0, 0)]
def am_t161 : List am_I := [(0, .aload_n 0, 0, 0, 0, 0, 0, 0), (1, .iconst 0, 0, 0, 0, 0, 0, 0), (2, .putfield 59, 7, 0, 0, 0, 113, 0), (5, .iload_n 1, 0, 0, 0, 0, 0, 0), (6, .iconst 0, 0, 0, 0, 0, 0, 0), (7, .iconst 1, 0, 0, 0, 0, 0, 1), (8, .invokestatic 63, 94, 3, 7, 0, 96, 0), (11, .ifCond .ne 5, 10, 0, 0, 0, 0, 0), (14, .iconst (-1), 0, 0, 0, 0, 0, -1), (15, .ireturn, 0, 0, 0, 0, 0, 0), (16, .aload_n 0, 0, 0, 0, 0, 0, 0), (17, .getfield 28, 7, 16, 0, 0, 105, 0), (20, .iload_n 1, 0, 0, 0, 0, 0, 0), (21, .baload, 0, 0, 0, 0, 0, 0), (22, .ifCond .ne 6, 17, 0, 0, 0, 0, 0), (25, .bipush (-2), 0, 0, 0, 0, 0, -2), (27, .ireturn, 0, 0, 0, 0, 0, 0), (28, .iconst 0, 0, 0, 0, 0, 0, 0), (29, .istore_n 2, 0, 0, 0, 0, 0, 0), (30, .iload_n 2, 0, 0, 0, 0, 0, 0), (31, .bipush 80, 0, 0, 0, 0, 0, 80), (33, .if_icmp .ge 26, 36, 0, 0, 0, 0, 0), (36, .aload_n 0, 0, 0, 0, 0, 0, 0), (37, .getfield 19, 7, 13, 0, 0, 102, 0), (40, .iload_n 2, 0, 0, 0, 0, 0, 0), (41, .aload_n 0, 0, 0, 0, 0, 0, 0), (42, .getfield 25, 7, 15, 0, 0, 104, 0), (45, .bipush 80, 0, 0, 0, 0, 0, 80), (47, .iload_n 1, 0, 0, 0, 0, 0, 0), (48, .imul, 0, 0, 0, 0, 0, 0), (49, .iload_n 2, 0, 0, 0, 0, 0, 0), (50, .iadd, 0, 0, 0, 0, 0, 0), (51, .iaload, 0, 0, 0, 0, 0, 0), (52, .iastore, 0, 0, 0, 0, 0, 0), (53, .iinc 2 1, 0, 0, 0, 0, 0, 1), (56, .goto (-26), 19, 0, 0, 0, 0, 0), (59, .aload_n 0, 0, 0, 0, 0, 0, 0), (60, .getfield 19, 7, 13, 0, 0, 102, 0), (63, .iconst 0, 0, 0, 0, 0, 0, 0), (64, .iaload, 0, 0, 0, 0, 0, 0), (65, .ireturn, 0, 0, 0, 0, 0, 0)]
def am_t162 : List am_I := [(0, .aload_n 0, 0, 0, 0, 0, 0, 0), (1, .iconst 0, 0, 0, 0, 0, 0, 0), (2, .putfield 59, 7, 0, 0, 0, 113, 0), (5, .iconst 0, 0, 0, 0, 0, 0, 0), (6, .istore_n 2, 0, 0, 0, 0, 0, 0), (7, .iconst 0, 0, 0, 0, 0, 0, 0), (8, .istore_n 3, 0, 0, 0, 0, 0, 0), (9, .iconst 0, 0, 0, 0, 0, 0, 0), (10, .istore 4, 0, 0, 0, 0, 0, 0), (12, .iload 4, 0, 0, 0, 0, 0, 0), (14, .aload_n 0, 0, 0, 0, 0, 0, 0), (15, .getfield 139, 7, 11, 0, 0, 121, 0), (18, .if_icmp .ge 29, 29, 0, 0, 0, 0, 0), (21, .iload_n 2, 0, 0, 0, 0, 0, 0), (22, .aload_n 0, 0, 0, 0, 0, 0, 0), (23, .iload 4, 0, 0, 0, 0, 0, 0), (25, .iconst 1, 0, 0, 0, 0, 0, 1), (26, .invokevirtual 149, 113, 3, 7, 0, 112, 0), (29, .iadd, 0, 0, 0, 0, 0, 0), (30, .istore_n 2, 0, 0, 0, 0, 0, 0), (31, .iload_n 3, 0, 0, 0, 0, 0, 0), (32, .aload_n 0, 0, 0, 0, 0, 0, 0), (33, .iload 4, 0, 0, 0, 0, 0, 0), (35, .iconst 0, 0, 0, 0, 0, 0, 0), (36, .invokevirtual 149, 113, 3, 7, 0, 112, 0), (39, .iadd, 0, 0, 0, 0, 0, 0), (40, .istore_n 3, 0, 0, 0, 0, 0, 0), (41, .iinc 4 1, 0, 0, 0, 0, 0, 1), (44, .goto (-32), 9, 0, 0, 0, 0, 0), (47, .iload_n 1, 0, 0, 0, 0, 0, 0), (48, .ifCond .ne 10, 34, 0, 0, 0, 0, 0), (51, .aload_n 0, 0, 0, 0, 0, 0, 0), (52, .getfield 139, 7, 11, 0, 0, 121, 0), (55, .goto 46, 57, 0, 0, 0, 0, 0), (58, .iload_n 1, 0, 0, 0, 0, 0, 0), (59, .iconst 1, 0, 0, 0, 0, 0, 1), (60, .if_icmp .ne 7, 39, 0, 0, 0, 0, 0), (63, .iload_n 2, 0, 0, 0, 0, 0, 0), (64, .goto 37, 57, 0, 0, 0, 0, 0), (67, .iload_n 1, 0, 0, 0, 0, 0, 0), (68, .iconst 2, 0, 0, 0, 0, 0, 2), (69, .if_icmp .ne 7, 44, 0, 0, 0, 0, 0), (72, .iload_n 3, 0, 0, 0, 0, 0, 0), (73, .goto 28, 57, 0, 0, 0, 0, 0), (76, .iload_n 1, 0, 0, 0, 0, 0, 0), (77, .iconst 3, 0, 0, 0, 0, 0, 3), (78, .if_icmp .ne 10, 50, 0, 0, 0, 0, 0), (81, .aload_n 0, 0, 0, 0, 0, 0, 0), (82, .getfield 215, 7, 24, 0, 0, 122, 0), (85, .goto 16, 57, 0, 0, 0, 0, 0), (88, .iload_n 1, 0, 0, 0, 0, 0, 0), (89, .iconst 4, 0, 0, 0, 0, 0, 4), (90, .if_icmp .ne 10, 56, 0, 0, 0, 0, 0), (93, .aload_n 0, 0, 0, 0, 0, 0, 0), (94, .getfield 67, 7, 3, 0, 0, 114, 0), (97, .goto 4, 57, 0, 0, 0, 0, 0), (100, .iconst (-1), 0, 0, 0, 0, 0, -1), (101, .ireturn, 0, 0, 0, 0, 0, 0)]
def am_t163 : List am_I := [(0, .aload_n 0, 0, 0, 0, 0, 0, 0), (1, .iconst 0, 0, 0, 0, 0, 0, 0), (2, .putfield 59, 7, 0, 0, 0, 113, 0), (5, .aload_n 0, 0, 0, 0, 0, 0, 0), (6, .getfield 222, 7, 1, 0, 0, 123, 0), (9, .lreturn, 0, 0, 0, 0, 0, 0)]
def am_t164 : List am_I := [(0, .aload_n 0, 0, 0, 0, 0, 0, 0), (1, .getfield 9, 9, 0, 0, 1, 124, 0), (4, .arraylength, 0, 0, 0, 0, 0, 0), (5, .aload_n 0, 0, 0, 0, 0, 0, 0), (6, .invokevirtual 335, 166, 1, 100, 0, 133, 0), (9, .ishr, 0, 0, 0, 0, 0, 0), (10, .ireturn, 0, 0, 0, 0, 0, 0)]
def am_t165 : List am_I := [(0, .aload_n 0, 0, 0, 0, 0, 0, 0), (1, .invokevirtual 492, 167, 1, 100, 0, 134, 0), (4, .ifCond .eq 12, 8, 0, 0, 0, 0, 0), (7, .aload_n 0, 0, 0, 0, 0, 0, 0), (8, .getfield 9, 9, 0, 0, 1, 124, 0), (11, .iload_n 1, 0, 0, 0, 0, 0, 0), (12, .invokestatic 495, 169, 2, 10, 0, 135, 0), (15, .ireturn, 2, 0, 0, 0, 0, 0), (16, .aload_n 0, 0, 0, 0, 0, 0, 0), (17, .getfield 9, 9, 0, 0, 1, 124, 0), (20, .iload_n 1, 0, 0, 0, 0, 0, 0), (21, .invokestatic 498, 0, 0, 0, 99, 0, 0), (24, .ireturn, 2, 0, 0, 0, 0, 0)]
def am_t166 : List am_I := [(0, .getstatic 38, 6, 0, 0, 0, 8, 0), (3, .ifCond .eq 10, 5, 0, 0, 0, 0, 0), (6, .aload_n 0, 0, 0, 0, 0, 0, 0), (7, .getfield 15, 9, 1, 0, 1, 125, 0), (10, .goto 4, 6, 0, 0, 0, 0, 0), (13, .iconst 1, 0, 0, 0, 0, 0, 1), (14, .ireturn, 3, 0, 0, 0, 0, 0)]
def am_t167 : List am_I := [(0, .getstatic 38, 6, 0, 0, 0, 8, 0), (3, .ifCond .eq 14, 7, 0, 0, 0, 0, 0), (6, .aload_n 0, 0, 0, 0, 0, 0, 0), (7, .getfield 15, 9, 1, 0, 1, 125, 0), (10, .ifCond .ne 7, 7, 0, 0, 0, 0, 0), (13, .iconst 1, 0, 0, 0, 0, 0, 1), (14, .goto 4, 8, 0, 0, 0, 0, 0), (17, .iconst 0, 0, 0, 0, 0, 0, 0), (18, .ireturn, 1, 0, 0, 0, 0, 0)]
def am_t168 : List am_I := [(0, .iload_n 0, 0, 0, 0, 0, 0, 0), (1, .iload_n 1, 0, 0, 0, 0, 0, 0), (2, .getstatic 1053, 7, 0, 0, 0, 9, 0), (5, .invokestatic 1059, 170, 3, 11, 0, 136, 0), (8, .pop, 0, 0, 0, 0, 0, 0), (9, .return_, 0, 0, 0, 0, 0, 0)]
def am_t169 : List am_I := [(0, .iload_n 1, 0, 0, 0, 0, 0, 0), (1, .aload_n 0, 0, 0, 0, 0, 0, 0), (2, .arraylength, 0, 0, 0, 0, 0, 0), (3, .invokestatic 9, 168, 2, 100, 0, 137, 0), (6, .aload_n 0, 0, 0, 0, 0, 0, 0), (7, .iload_n 1, 0, 0, 0, 0, 0, 0), (8, .baload, 0, 0, 0, 0, 0, 0), (9, .sipush 255, 0, 0, 0, 0, 0, 255), (12, .iand, 0, 0, 0, 0, 0, 0), (13, .i2c, 0, 0, 0, 0, 0, 0), (14, .ireturn, 2, 0, 0, 0, 0, 0)]
def am_t170 : List am_I := [(0, .iload_n 0, 0, 0, 0, 0, 0, 0), (1, .ifCond .lt 8, 5, 0, 0, 0, 0, 0), (4, .iload_n 0, 0, 0, 0, 0, 0, 0), (5, .iload_n 1, 0, 0, 0, 0, 0, 0), (6, .if_icmp .lt 10, 10, 0, 0, 0, 0, 0), (9, .aload_n 2, 0, 0, 0, 0, 0, 0), (10, .iload_n 0, 0, 0, 0, 0, 0, 0), (11, .iload_n 1, 0, 0, 0, 0, 0, 0), (12, .invokestatic 95, 0, 0, 0, 99, 0, 0), (15, .athrow, 0, 0, 0, 0, 0, 0), (16, .iload_n 0, 0, 0, 0, 0, 0, 0), (17, .ireturn, 0, 0, 0, 0, 0, 0)]
def am_t171 : List am_I := [(0, .new 7, 6, 0, 0, 0, 8, 0), (3, .dup, 0, 0, 0, 0, 0, 0), (4, .invokespecial 9, 56, 1, 6, 0, 138, 0), (7, .astore_n 1, 0, 0, 0, 0, 0, 0), (8, .new 10, 7, 0, 0, 0, 9, 0), (11, .dup, 0, 0, 0, 0, 0, 0), (12, .invokespecial 12, 93, 1, 7, 0, 139, 0), (15, .astore_n 2, 0, 0, 0, 0, 0, 0), (16, .iconst 0, 0, 0, 0, 0, 0, 0), (17, .istore_n 3, 0, 0, 0, 0, 0, 0), (18, .iload_n 3, 0, 0, 0, 0, 0, 0), (19, .aload_n 0, 0, 0, 0, 0, 0, 0), (20, .arraylength, 0, 0, 0, 0, 0, 0), (21, .iconst 4, 0, 0, 0, 0, 0, 4), (22, .isub, 0, 0, 0, 0, 0, 0), (23, .if_icmp .gt 999, 676, 0, 0, 0, 0, 0), (26, .aload_n 0, 0, 0, 0, 0, 0, 0), (27, .iload_n 3, 0, 0, 0, 0, 0, 0), (28, .iaload, 0, 0, 0, 0, 0, 0), (29, .bipush 31, 0, 0, 0, 0, 0, 31), (31, .iand, 0, 0, 0, 0, 0, 0), (32, .tableswitch 984 0 30 #[140, 203, 216, 229, 252, 285, 318, 351, 374, 397, 420, 443, 466, 479, 502, 525, 568, 591, 624, 667, 710, 733, 756, 789, 822, 855, 868, 901, 924, 947, 970], 8, 0, 0, 0, 0, 0), (172, .aload_n 1, 0, 0, 0, 0, 0, 0), (173, .aload_n 0, 0, 0, 0, 0, 0, 0), (174, .iload_n 3, 0, 0, 0, 0, 0, 0), (175, .iconst 1, 0, 0, 0, 0, 0, 1), (176, .iadd, 0, 0, 0, 0, 0, 0), (177, .iaload, 0, 0, 0, 0, 0, 0), (178, .i2l, 0, 0, 0, 0, 0, 0), (179, .bipush 32, 0, 0, 0, 0, 0, 32), (181, .lshl, 0, 0, 0, 0, 0, 0), (182, .aload_n 0, 0, 0, 0, 0, 0, 0), (183, .iload_n 3, 0, 0, 0, 0, 0, 0), (184, .iconst 2, 0, 0, 0, 0, 0, 2), (185, .iadd, 0, 0, 0, 0, 0, 0), (186, .iaload, 0, 0, 0, 0, 0, 0), (187, .i2l, 0, 0, 0, 0, 0, 0), (188, .ldc2_w 13, 8, 0, 0, 0, 0, 0), (191, .land, 0, 0, 0, 0, 0, 0), (192, .lor, 0, 0, 0, 0, 0, 0), (193, .aload_n 0, 0, 0, 0, 0, 0, 0), (194, .iload_n 3, 0, 0, 0, 0, 0, 0), (195, .iconst 3, 0, 0, 0, 0, 0, 3), (196, .iadd, 0, 0, 0, 0, 0, 0), (197, .iaload, 0, 0, 0, 0, 0, 0), (198, .invokevirtual 15, 57, 3, 6, 0, 140, 0), (201, .aload_n 2, 0, 0, 0, 0, 0, 0), (202, .aload_n 0, 0, 0, 0, 0, 0, 0), (203, .iload_n 3, 0, 0, 0, 0, 0, 0), (204, .iconst 1, 0, 0, 0, 0, 0, 1), (205, .iadd, 0, 0, 0, 0, 0, 0), (206, .iaload, 0, 0, 0, 0, 0, 0), (207, .i2l, 0, 0, 0, 0, 0, 0), (208, .bipush 32, 0, 0, 0, 0, 0, 32), (210, .lshl, 0, 0, 0, 0, 0, 0), (211, .aload_n 0, 0, 0, 0, 0, 0, 0), (212, .iload_n 3, 0, 0, 0, 0, 0, 0), (213, .iconst 2, 0, 0, 0, 0, 0, 2), (214, .iadd, 0, 0, 0, 0, 0, 0), (215, .iaload, 0, 0, 0, 0, 0, 0), (216, .i2l, 0, 0, 0, 0, 0, 0), (217, .ldc2_w 13, 8, 0, 0, 0, 0, 0), (220, .land, 0, 0, 0, 0, 0, 0), (221, .lor, 0, 0, 0, 0, 0, 0), (222, .aload_n 0, 0, 0, 0, 0, 0, 0), (223, .iload_n 3, 0, 0, 0, 0, 0, 0), (224, .iconst 3, 0, 0, 0, 0, 0, 3), (225, .iadd, 0, 0, 0, 0, 0, 0), (226, .iaload, 0, 0, 0, 0, 0, 0), (227, .invokevirtual 19, 96, 3, 7, 0, 141, 0), (230, .if_icmp .eq 786, 674, 0, 0, 0, 0, 0), (233, .iconst 0, 0, 0, 0, 0, 0, 0), (234, .ireturn, 1, 0, 0, 0, 0, 0), (235, .aload_n 1, 0, 0, 0, 0, 0, 0), (236, .invokevirtual 20, 58, 1, 6, 0, 142, 0), (239, .aload_n 2, 0, 0, 0, 0, 0, 0), (240, .invokevirtual 24, 97, 1, 7, 0, 143, 0), (243, .if_icmp .eq 773, 674, 0, 0, 0, 0, 0), (246, .iconst 0, 0, 0, 0, 0, 0, 0), (247, .ireturn, 1, 0, 0, 0, 0, 0), (248, .aload_n 1, 0, 0, 0, 0, 0, 0), (249, .invokevirtual 25, 59, 1, 6, 0, 144, 0), (252, .aload_n 2, 0, 0, 0, 0, 0, 0), (253, .invokevirtual 28, 111, 1, 7, 0, 145, 0), (256, .if_icmp .eq 760, 674, 0, 0, 0, 0, 0), (259, .iconst 0, 0, 0, 0, 0, 0, 0), (260, .ireturn, 1, 0, 0, 0, 0, 0), (261, .aload_n 1, 0, 0, 0, 0, 0, 0), (262, .aload_n 0, 0, 0, 0, 0, 0, 0), (263, .iload_n 3, 0, 0, 0, 0, 0, 0), (264, .iconst 1, 0, 0, 0, 0, 0, 1), (265, .iadd, 0, 0, 0, 0, 0, 0), (266, .iaload, 0, 0, 0, 0, 0, 0), (267, .invokevirtual 29, 60, 2, 6, 0, 146, 0), (270, .aload_n 2, 0, 0, 0, 0, 0, 0), (271, .aload_n 0, 0, 0, 0, 0, 0, 0), (272, .iload_n 3, 0, 0, 0, 0, 0, 0), (273, .iconst 1, 0, 0, 0, 0, 0, 1), (274, .iadd, 0, 0, 0, 0, 0, 0), (275, .iaload, 0, 0, 0, 0, 0, 0), (276, .invokevirtual 33, 116, 2, 7, 0, 147, 0), (279, .if_icmp .eq 737, 674, 0, 0, 0, 0, 0), (282, .iconst 0, 0, 0, 0, 0, 0, 0), (283, .ireturn, 1, 0, 0, 0, 0, 0), (284, .aload_n 1, 0, 0, 0, 0, 0, 0), (285, .aload_n 0, 0, 0, 0, 0, 0, 0), (286, .iload_n 3, 0, 0, 0, 0, 0, 0), (287, .iconst 1, 0, 0, 0, 0, 0, 1), (288, .iadd, 0, 0, 0, 0, 0, 0), (289, .iaload, 0, 0, 0, 0, 0, 0), (290, .aload_n 0, 0, 0, 0, 0, 0, 0), (291, .iload_n 3, 0, 0, 0, 0, 0, 0), (292, .iconst 2, 0, 0, 0, 0, 0, 2), (293, .iadd, 0, 0, 0, 0, 0, 0), (294, .iaload, 0, 0, 0, 0, 0, 0), (295, .invokevirtual 34, 61, 3, 6, 0, 148, 0), (298, .aload_n 2, 0, 0, 0, 0, 0, 0), (299, .aload_n 0, 0, 0, 0, 0, 0, 0), (300, .iload_n 3, 0, 0, 0, 0, 0, 0), (301, .iconst 1, 0, 0, 0, 0, 0, 1), (302, .iadd, 0, 0, 0, 0, 0, 0), (303, .iaload, 0, 0, 0, 0, 0, 0), (304, .aload_n 0, 0, 0, 0, 0, 0, 0), (305, .iload_n 3, 0, 0, 0, 0, 0, 0), (306, .iconst 2, 0, 0, 0, 0, 0, 2), (307, .iadd, 0, 0, 0, 0, 0, 0), (308, .iaload, 0, 0, 0, 0, 0, 0), (309, .invokevirtual 38, 122, 3, 7, 0, 149, 0), (312, .if_icmp .eq 704, 674, 0, 0, 0, 0, 0), (315, .iconst 0, 0, 0, 0, 0, 0, 0), (316, .ireturn, 1, 0, 0, 0, 0, 0), (317, .aload_n 1, 0, 0, 0, 0, 0, 0), (318, .aload_n 0, 0, 0, 0, 0, 0, 0), (319, .iload_n 3, 0, 0, 0, 0, 0, 0), (320, .iconst 1, 0, 0, 0, 0, 0, 1), (321, .iadd, 0, 0, 0, 0, 0, 0), (322, .iaload, 0, 0, 0, 0, 0, 0), (323, .aload_n 0, 0, 0, 0, 0, 0, 0), (324, .iload_n 3, 0, 0, 0, 0, 0, 0), (325, .iconst 2, 0, 0, 0, 0, 0, 2), (326, .iadd, 0, 0, 0, 0, 0, 0), (327, .iaload, 0, 0, 0, 0, 0, 0), (328, .invokevirtual 39, 62, 3, 6, 0, 150, 0), (331, .aload_n 2, 0, 0, 0, 0, 0, 0), (332, .aload_n 0, 0, 0, 0, 0, 0, 0), (333, .iload_n 3, 0, 0, 0, 0, 0, 0), (334, .iconst 1, 0, 0, 0, 0, 0, 1), (335, .iadd, 0, 0, 0, 0, 0, 0), (336, .iaload, 0, 0, 0, 0, 0, 0), (337, .aload_n 0, 0, 0, 0, 0, 0, 0), (338, .iload_n 3, 0, 0, 0, 0, 0, 0), (339, .iconst 2, 0, 0, 0, 0, 0, 2), (340, .iadd, 0, 0, 0, 0, 0, 0), (341, .iaload, 0, 0, 0, 0, 0, 0), (342, .invokevirtual 42, 123, 3, 7, 0, 151, 0), (345, .if_icmp .eq 671, 674, 0, 0, 0, 0, 0), (348, .iconst 0, 0, 0, 0, 0, 0, 0), (349, .ireturn, 1, 0, 0, 0, 0, 0), (350, .aload_n 1, 0, 0, 0, 0, 0, 0), (351, .aload_n 0, 0, 0, 0, 0, 0, 0), (352, .iload_n 3, 0, 0, 0, 0, 0, 0), (353, .iconst 1, 0, 0, 0, 0, 0, 1), (354, .iadd, 0, 0, 0, 0, 0, 0), (355, .iaload, 0, 0, 0, 0, 0, 0), (356, .aload_n 0, 0, 0, 0, 0, 0, 0), (357, .iload_n 3, 0, 0, 0, 0, 0, 0), (358, .iconst 2, 0, 0, 0, 0, 0, 2), (359, .iadd, 0, 0, 0, 0, 0, 0), (360, .iaload, 0, 0, 0, 0, 0, 0), (361, .invokevirtual 43, 63, 3, 6, 0, 152, 0), (364, .aload_n 2, 0, 0, 0, 0, 0, 0), (365, .aload_n 0, 0, 0, 0, 0, 0, 0), (366, .iload_n 3, 0, 0, 0, 0, 0, 0), (367, .iconst 1, 0, 0, 0, 0, 0, 1), (368, .iadd, 0, 0, 0, 0, 0, 0), (369, .iaload, 0, 0, 0, 0, 0, 0), (370, .aload_n 0, 0, 0, 0, 0, 0, 0), (371, .iload_n 3, 0, 0, 0, 0, 0, 0), (372, .iconst 2, 0, 0, 0, 0, 0, 2), (373, .iadd, 0, 0, 0, 0, 0, 0), (374, .iaload, 0, 0, 0, 0, 0, 0), (375, .invokevirtual 46, 124, 3, 7, 0, 153, 0), (378, .if_icmp .eq 638, 674, 0, 0, 0, 0, 0), (381, .iconst 0, 0, 0, 0, 0, 0, 0), (382, .ireturn, 1, 0, 0, 0, 0, 0), (383, .aload_n 1, 0, 0, 0, 0, 0, 0), (384, .aload_n 0, 0, 0, 0, 0, 0, 0), (385, .iload_n 3, 0, 0, 0, 0, 0, 0), (386, .iconst 1, 0, 0, 0, 0, 0, 1), (387, .iadd, 0, 0, 0, 0, 0, 0), (388, .iaload, 0, 0, 0, 0, 0, 0), (389, .invokevirtual 47, 64, 2, 6, 0, 154, 0), (392, .aload_n 2, 0, 0, 0, 0, 0, 0), (393, .aload_n 0, 0, 0, 0, 0, 0, 0), (394, .iload_n 3, 0, 0, 0, 0, 0, 0), (395, .iconst 1, 0, 0, 0, 0, 0, 1), (396, .iadd, 0, 0, 0, 0, 0, 0), (397, .iaload, 0, 0, 0, 0, 0, 0), (398, .invokevirtual 50, 131, 2, 7, 0, 155, 0), (401, .if_icmp .eq 615, 674, 0, 0, 0, 0, 0), (404, .iconst 0, 0, 0, 0, 0, 0, 0), (405, .ireturn, 1, 0, 0, 0, 0, 0), (406, .aload_n 1, 0, 0, 0, 0, 0, 0), (407, .aload_n 0, 0, 0, 0, 0, 0, 0), (408, .iload_n 3, 0, 0, 0, 0, 0, 0), (409, .iconst 1, 0, 0, 0, 0, 0, 1), (410, .iadd, 0, 0, 0, 0, 0, 0), (411, .iaload, 0, 0, 0, 0, 0, 0), (412, .invokevirtual 51, 65, 2, 6, 0, 156, 0), (415, .aload_n 2, 0, 0, 0, 0, 0, 0), (416, .aload_n 0, 0, 0, 0, 0, 0, 0), (417, .iload_n 3, 0, 0, 0, 0, 0, 0), (418, .iconst 1, 0, 0, 0, 0, 0, 1), (419, .iadd, 0, 0, 0, 0, 0, 0), (420, .iaload, 0, 0, 0, 0, 0, 0), (421, .invokevirtual 54, 132, 2, 7, 0, 157, 0), (424, .if_icmp .eq 592, 674, 0, 0, 0, 0, 0), (427, .iconst 0, 0, 0, 0, 0, 0, 0), (428, .ireturn, 1, 0, 0, 0, 0, 0), (429, .aload_n 1, 0, 0, 0, 0, 0, 0), (430, .aload_n 0, 0, 0, 0, 0, 0, 0), (431, .iload_n 3, 0, 0, 0, 0, 0, 0), (432, .iconst 1, 0, 0, 0, 0, 0, 1), (433, .iadd, 0, 0, 0, 0, 0, 0), (434, .iaload, 0, 0, 0, 0, 0, 0), (435, .invokevirtual 55, 66, 2, 6, 0, 158, 0), (438, .aload_n 2, 0, 0, 0, 0, 0, 0), (439, .aload_n 0, 0, 0, 0, 0, 0, 0), (440, .iload_n 3, 0, 0, 0, 0, 0, 0), (441, .iconst 1, 0, 0, 0, 0, 0, 1), (442, .iadd, 0, 0, 0, 0, 0, 0), (443, .iaload, 0, 0, 0, 0, 0, 0), (444, .invokevirtual 58, 133, 2, 7, 0, 159, 0), (447, .if_icmp .eq 569, 674, 0, 0, 0, 0, 0), (450, .iconst 0, 0, 0, 0, 0, 0, 0), (451, .ireturn, 1, 0, 0, 0, 0, 0), (452, .aload_n 1, 0, 0, 0, 0, 0, 0), (453, .aload_n 0, 0, 0, 0, 0, 0, 0), (454, .iload_n 3, 0, 0, 0, 0, 0, 0), (455, .iconst 1, 0, 0, 0, 0, 0, 1), (456, .iadd, 0, 0, 0, 0, 0, 0), (457, .iaload, 0, 0, 0, 0, 0, 0), (458, .invokevirtual 59, 67, 2, 6, 0, 160, 0), (461, .aload_n 2, 0, 0, 0, 0, 0, 0), (462, .aload_n 0, 0, 0, 0, 0, 0, 0), (463, .iload_n 3, 0, 0, 0, 0, 0, 0), (464, .iconst 1, 0, 0, 0, 0, 0, 1), (465, .iadd, 0, 0, 0, 0, 0, 0), (466, .iaload, 0, 0, 0, 0, 0, 0), (467, .invokevirtual 62, 137, 2, 7, 0, 161, 0), (470, .if_icmp .eq 546, 674, 0, 0, 0, 0, 0), (473, .iconst 0, 0, 0, 0, 0, 0, 0), (474, .ireturn, 1, 0, 0, 0, 0, 0), (475, .aload_n 1, 0, 0, 0, 0, 0, 0), (476, .aload_n 0, 0, 0, 0, 0, 0, 0), (477, .iload_n 3, 0, 0, 0, 0, 0, 0), (478, .iconst 1, 0, 0, 0, 0, 0, 1), (479, .iadd, 0, 0, 0, 0, 0, 0), (480, .iaload, 0, 0, 0, 0, 0, 0), (481, .invokevirtual 63, 68, 2, 6, 0, 162, 0), (484, .aload_n 2, 0, 0, 0, 0, 0, 0), (485, .aload_n 0, 0, 0, 0, 0, 0, 0), (486, .iload_n 3, 0, 0, 0, 0, 0, 0), (487, .iconst 1, 0, 0, 0, 0, 0, 1), (488, .iadd, 0, 0, 0, 0, 0, 0), (489, .iaload, 0, 0, 0, 0, 0, 0), (490, .invokevirtual 66, 138, 2, 7, 0, 163, 0), (493, .if_icmp .eq 523, 674, 0, 0, 0, 0, 0), (496, .iconst 0, 0, 0, 0, 0, 0, 0), (497, .ireturn, 1, 0, 0, 0, 0, 0), (498, .aload_n 1, 0, 0, 0, 0, 0, 0), (499, .invokevirtual 67, 69, 1, 6, 0, 164, 0), (502, .aload_n 2, 0, 0, 0, 0, 0, 0), (503, .invokevirtual 70, 139, 1, 7, 0, 165, 0), (506, .if_icmp .eq 510, 674, 0, 0, 0, 0, 0), (509, .iconst 0, 0, 0, 0, 0, 0, 0), (510, .ireturn, 1, 0, 0, 0, 0, 0), (511, .aload_n 1, 0, 0, 0, 0, 0, 0), (512, .aload_n 0, 0, 0, 0, 0, 0, 0), (513, .iload_n 3, 0, 0, 0, 0, 0, 0), (514, .iconst 1, 0, 0, 0, 0, 0, 1), (515, .iadd, 0, 0, 0, 0, 0, 0), (516, .iaload, 0, 0, 0, 0, 0, 0), (517, .invokevirtual 71, 70, 2, 6, 0, 166, 0), (520, .aload_n 2, 0, 0, 0, 0, 0, 0), (521, .aload_n 0, 0, 0, 0, 0, 0, 0), (522, .iload_n 3, 0, 0, 0, 0, 0, 0), (523, .iconst 1, 0, 0, 0, 0, 0, 1), (524, .iadd, 0, 0, 0, 0, 0, 0), (525, .iaload, 0, 0, 0, 0, 0, 0), (526, .invokevirtual 74, 140, 2, 7, 0, 167, 0), (529, .if_icmp .eq 487, 674, 0, 0, 0, 0, 0), (532, .iconst 0, 0, 0, 0, 0, 0, 0), (533, .ireturn, 1, 0, 0, 0, 0, 0), (534, .aload_n 1, 0, 0, 0, 0, 0, 0), (535, .aload_n 0, 0, 0, 0, 0, 0, 0), (536, .iload_n 3, 0, 0, 0, 0, 0, 0), (537, .iconst 1, 0, 0, 0, 0, 0, 1), (538, .iadd, 0, 0, 0, 0, 0, 0), (539, .iaload, 0, 0, 0, 0, 0, 0), (540, .invokevirtual 75, 71, 2, 6, 0, 168, 0), (543, .aload_n 2, 0, 0, 0, 0, 0, 0), (544, .aload_n 0, 0, 0, 0, 0, 0, 0), (545, .iload_n 3, 0, 0, 0, 0, 0, 0), (546, .iconst 1, 0, 0, 0, 0, 0, 1), (547, .iadd, 0, 0, 0, 0, 0, 0), (548, .iaload, 0, 0, 0, 0, 0, 0), (549, .invokevirtual 78, 143, 2, 7, 0, 169, 0), (552, .if_icmp .eq 464, 674, 0, 0, 0, 0, 0), (555, .iconst 0, 0, 0, 0, 0, 0, 0), (556, .ireturn, 1, 0, 0, 0, 0, 0), (557, .aload_n 1, 0, 0, 0, 0, 0, 0), (558, .aload_n 0, 0, 0, 0, 0, 0, 0), (559, .iload_n 3, 0, 0, 0, 0, 0, 0), (560, .iconst 1, 0, 0, 0, 0, 0, 1), (561, .iadd, 0, 0, 0, 0, 0, 0), (562, .iaload, 0, 0, 0, 0, 0, 0), (563, .aload_n 0, 0, 0, 0, 0, 0, 0), (564, .iload_n 3, 0, 0, 0, 0, 0, 0), (565, .iconst 2, 0, 0, 0, 0, 0, 2), (566, .iadd, 0, 0, 0, 0, 0, 0), (567, .iaload, 0, 0, 0, 0, 0, 0), (568, .aload_n 0, 0, 0, 0, 0, 0, 0), (569, .iload_n 3, 0, 0, 0, 0, 0, 0), (570, .iconst 3, 0, 0, 0, 0, 0, 3), (571, .iadd, 0, 0, 0, 0, 0, 0), (572, .iaload, 0, 0, 0, 0, 0, 0), (573, .invokevirtual 79, 72, 4, 6, 0, 170, 0), (576, .aload_n 2, 0, 0, 0, 0, 0, 0), (577, .aload_n 0, 0, 0, 0, 0, 0, 0), (578, .iload_n 3, 0, 0, 0, 0, 0, 0), (579, .iconst 1, 0, 0, 0, 0, 0, 1), (580, .iadd, 0, 0, 0, 0, 0, 0), (581, .iaload, 0, 0, 0, 0, 0, 0), (582, .aload_n 0, 0, 0, 0, 0, 0, 0), (583, .iload_n 3, 0, 0, 0, 0, 0, 0), (584, .iconst 2, 0, 0, 0, 0, 0, 2), (585, .iadd, 0, 0, 0, 0, 0, 0), (586, .iaload, 0, 0, 0, 0, 0, 0), (587, .aload_n 0, 0, 0, 0, 0, 0, 0), (588, .iload_n 3, 0, 0, 0, 0, 0, 0), (589, .iconst 3, 0, 0, 0, 0, 0, 3), (590, .iadd, 0, 0, 0, 0, 0, 0), (591, .iaload, 0, 0, 0, 0, 0, 0), (592, .invokevirtual 83, 144, 4, 7, 0, 171, 0), (595, .if_icmp .eq 421, 674, 0, 0, 0, 0, 0), (598, .iconst 0, 0, 0, 0, 0, 0, 0), (599, .ireturn, 1, 0, 0, 0, 0, 0), (600, .aload_n 1, 0, 0, 0, 0, 0, 0), (601, .aload_n 0, 0, 0, 0, 0, 0, 0), (602, .iload_n 3, 0, 0, 0, 0, 0, 0), (603, .iconst 1, 0, 0, 0, 0, 0, 1), (604, .iadd, 0, 0, 0, 0, 0, 0), (605, .iaload, 0, 0, 0, 0, 0, 0), (606, .invokevirtual 84, 73, 2, 6, 0, 172, 0), (609, .aload_n 2, 0, 0, 0, 0, 0, 0), (610, .aload_n 0, 0, 0, 0, 0, 0, 0), (611, .iload_n 3, 0, 0, 0, 0, 0, 0), (612, .iconst 1, 0, 0, 0, 0, 0, 1), (613, .iadd, 0, 0, 0, 0, 0, 0), (614, .iaload, 0, 0, 0, 0, 0, 0), (615, .invokevirtual 87, 145, 2, 7, 0, 173, 0), (618, .if_icmp .eq 398, 674, 0, 0, 0, 0, 0), (621, .iconst 0, 0, 0, 0, 0, 0, 0), (622, .ireturn, 1, 0, 0, 0, 0, 0), (623, .aload_n 1, 0, 0, 0, 0, 0, 0), (624, .aload_n 0, 0, 0, 0, 0, 0, 0), (625, .iload_n 3, 0, 0, 0, 0, 0, 0), (626, .iconst 1, 0, 0, 0, 0, 0, 1), (627, .iadd, 0, 0, 0, 0, 0, 0), (628, .iaload, 0, 0, 0, 0, 0, 0), (629, .aload_n 0, 0, 0, 0, 0, 0, 0), (630, .iload_n 3, 0, 0, 0, 0, 0, 0), (631, .iconst 2, 0, 0, 0, 0, 0, 2), (632, .iadd, 0, 0, 0, 0, 0, 0), (633, .iaload, 0, 0, 0, 0, 0, 0), (634, .invokevirtual 88, 74, 3, 6, 0, 174, 0), (637, .aload_n 2, 0, 0, 0, 0, 0, 0), (638, .aload_n 0, 0, 0, 0, 0, 0, 0), (639, .iload_n 3, 0, 0, 0, 0, 0, 0), (640, .iconst 1, 0, 0, 0, 0, 0, 1), (641, .iadd, 0, 0, 0, 0, 0, 0), (642, .iaload, 0, 0, 0, 0, 0, 0), (643, .aload_n 0, 0, 0, 0, 0, 0, 0), (644, .iload_n 3, 0, 0, 0, 0, 0, 0), (645, .iconst 2, 0, 0, 0, 0, 0, 2), (646, .iadd, 0, 0, 0, 0, 0, 0), (647, .iaload, 0, 0, 0, 0, 0, 0), (648, .invokevirtual 91, 146, 3, 7, 0, 175, 0), (651, .if_icmp .eq 365, 674, 0, 0, 0, 0, 0), (654, .iconst 0, 0, 0, 0, 0, 0, 0), (655, .ireturn, 1, 0, 0, 0, 0, 0), (656, .aload_n 1, 0, 0, 0, 0, 0, 0), (657, .aload_n 0, 0, 0, 0, 0, 0, 0), (658, .iload_n 3, 0, 0, 0, 0, 0, 0), (659, .iconst 1, 0, 0, 0, 0, 0, 1), (660, .iadd, 0, 0, 0, 0, 0, 0), (661, .iaload, 0, 0, 0, 0, 0, 0), (662, .aload_n 0, 0, 0, 0, 0, 0, 0), (663, .iload_n 3, 0, 0, 0, 0, 0, 0), (664, .iconst 2, 0, 0, 0, 0, 0, 2), (665, .iadd, 0, 0, 0, 0, 0, 0), (666, .iaload, 0, 0, 0, 0, 0, 0), (667, .aload_n 0, 0, 0, 0, 0, 0, 0), (668, .iload_n 3, 0, 0, 0, 0, 0, 0), (669, .iconst 3, 0, 0, 0, 0, 0, 3), (670, .iadd, 0, 0, 0, 0, 0, 0), (671, .iaload, 0, 0, 0, 0, 0, 0), (672, .invokevirtual 92, 75, 4, 6, 0, 176, 0), (675, .aload_n 2, 0, 0, 0, 0, 0, 0), (676, .aload_n 0, 0, 0, 0, 0, 0, 0), (677, .iload_n 3, 0, 0, 0, 0, 0, 0), (678, .iconst 1, 0, 0, 0, 0, 0, 1), (679, .iadd, 0, 0, 0, 0, 0, 0), (680, .iaload, 0, 0, 0, 0, 0, 0), (681, .aload_n 0, 0, 0, 0, 0, 0, 0), (682, .iload_n 3, 0, 0, 0, 0, 0, 0), (683, .iconst 2, 0, 0, 0, 0, 0, 2), (684, .iadd, 0, 0, 0, 0, 0, 0), (685, .iaload, 0, 0, 0, 0, 0, 0), (686, .aload_n 0, 0, 0, 0, 0, 0, 0), (687, .iload_n 3, 0, 0, 0, 0, 0, 0), (688, .iconst 3, 0, 0, 0, 0, 0, 3), (689, .iadd, 0, 0, 0, 0, 0, 0), (690, .iaload, 0, 0, 0, 0, 0, 0), (691, .invokevirtual 95, 150, 4, 7, 0, 177, 0), (694, .if_icmp .eq 322, 674, 0, 0, 0, 0, 0), (697, .iconst 0, 0, 0, 0, 0, 0, 0), (698, .ireturn, 1, 0, 0, 0, 0, 0), (699, .aload_n 1, 0, 0, 0, 0, 0, 0), (700, .aload_n 0, 0, 0, 0, 0, 0, 0), (701, .iload_n 3, 0, 0, 0, 0, 0, 0), (702, .iconst 1, 0, 0, 0, 0, 0, 1), (703, .iadd, 0, 0, 0, 0, 0, 0), (704, .iaload, 0, 0, 0, 0, 0, 0), (705, .aload_n 0, 0, 0, 0, 0, 0, 0), (706, .iload_n 3, 0, 0, 0, 0, 0, 0), (707, .iconst 2, 0, 0, 0, 0, 0, 2), (708, .iadd, 0, 0, 0, 0, 0, 0), (709, .iaload, 0, 0, 0, 0, 0, 0), (710, .aload_n 0, 0, 0, 0, 0, 0, 0), (711, .iload_n 3, 0, 0, 0, 0, 0, 0), (712, .iconst 3, 0, 0, 0, 0, 0, 3), (713, .iadd, 0, 0, 0, 0, 0, 0), (714, .iaload, 0, 0, 0, 0, 0, 0), (715, .invokevirtual 96, 76, 4, 6, 0, 178, 0), (718, .aload_n 2, 0, 0, 0, 0, 0, 0), (719, .aload_n 0, 0, 0, 0, 0, 0, 0), (720, .iload_n 3, 0, 0, 0, 0, 0, 0), (721, .iconst 1, 0, 0, 0, 0, 0, 1), (722, .iadd, 0, 0, 0, 0, 0, 0), (723, .iaload, 0, 0, 0, 0, 0, 0), (724, .aload_n 0, 0, 0, 0, 0, 0, 0), (725, .iload_n 3, 0, 0, 0, 0, 0, 0), (726, .iconst 2, 0, 0, 0, 0, 0, 2), (727, .iadd, 0, 0, 0, 0, 0, 0), (728, .iaload, 0, 0, 0, 0, 0, 0), (729, .aload_n 0, 0, 0, 0, 0, 0, 0), (730, .iload_n 3, 0, 0, 0, 0, 0, 0), (731, .iconst 3, 0, 0, 0, 0, 0, 3), (732, .iadd, 0, 0, 0, 0, 0, 0), (733, .iaload, 0, 0, 0, 0, 0, 0), (734, .invokevirtual 99, 151, 4, 7, 0, 179, 0), (737, .if_icmp .eq 279, 674, 0, 0, 0, 0, 0), (740, .iconst 0, 0, 0, 0, 0, 0, 0), (741, .ireturn, 1, 0, 0, 0, 0, 0), (742, .aload_n 1, 0, 0, 0, 0, 0, 0), (743, .aload_n 0, 0, 0, 0, 0, 0, 0), (744, .iload_n 3, 0, 0, 0, 0, 0, 0), (745, .iconst 1, 0, 0, 0, 0, 0, 1), (746, .iadd, 0, 0, 0, 0, 0, 0), (747, .iaload, 0, 0, 0, 0, 0, 0), (748, .invokevirtual 100, 77, 2, 6, 0, 180, 0), (751, .aload_n 2, 0, 0, 0, 0, 0, 0), (752, .aload_n 0, 0, 0, 0, 0, 0, 0), (753, .iload_n 3, 0, 0, 0, 0, 0, 0), (754, .iconst 1, 0, 0, 0, 0, 0, 1), (755, .iadd, 0, 0, 0, 0, 0, 0), (756, .iaload, 0, 0, 0, 0, 0, 0), (757, .invokevirtual 103, 152, 2, 7, 0, 181, 0), (760, .if_icmp .eq 256, 674, 0, 0, 0, 0, 0), (763, .iconst 0, 0, 0, 0, 0, 0, 0), (764, .ireturn, 1, 0, 0, 0, 0, 0), (765, .aload_n 1, 0, 0, 0, 0, 0, 0), (766, .aload_n 0, 0, 0, 0, 0, 0, 0), (767, .iload_n 3, 0, 0, 0, 0, 0, 0), (768, .iconst 1, 0, 0, 0, 0, 0, 1), (769, .iadd, 0, 0, 0, 0, 0, 0), (770, .iaload, 0, 0, 0, 0, 0, 0), (771, .invokevirtual 104, 78, 2, 6, 0, 182, 0), (774, .aload_n 2, 0, 0, 0, 0, 0, 0), (775, .aload_n 0, 0, 0, 0, 0, 0, 0), (776, .iload_n 3, 0, 0, 0, 0, 0, 0), (777, .iconst 1, 0, 0, 0, 0, 0, 1), (778, .iadd, 0, 0, 0, 0, 0, 0), (779, .iaload, 0, 0, 0, 0, 0, 0), (780, .invokevirtual 107, 153, 2, 7, 0, 183, 0), (783, .if_icmp .eq 233, 674, 0, 0, 0, 0, 0), (786, .iconst 0, 0, 0, 0, 0, 0, 0), (787, .ireturn, 1, 0, 0, 0, 0, 0), (788, .aload_n 1, 0, 0, 0, 0, 0, 0), (789, .aload_n 0, 0, 0, 0, 0, 0, 0), (790, .iload_n 3, 0, 0, 0, 0, 0, 0), (791, .iconst 1, 0, 0, 0, 0, 0, 1), (792, .iadd, 0, 0, 0, 0, 0, 0), (793, .iaload, 0, 0, 0, 0, 0, 0), (794, .aload_n 0, 0, 0, 0, 0, 0, 0), (795, .iload_n 3, 0, 0, 0, 0, 0, 0), (796, .iconst 2, 0, 0, 0, 0, 0, 2), (797, .iadd, 0, 0, 0, 0, 0, 0), (798, .iaload, 0, 0, 0, 0, 0, 0), (799, .invokevirtual 108, 79, 3, 6, 0, 184, 0), (802, .aload_n 2, 0, 0, 0, 0, 0, 0), (803, .aload_n 0, 0, 0, 0, 0, 0, 0), (804, .iload_n 3, 0, 0, 0, 0, 0, 0), (805, .iconst 1, 0, 0, 0, 0, 0, 1), (806, .iadd, 0, 0, 0, 0, 0, 0), (807, .iaload, 0, 0, 0, 0, 0, 0), (808, .aload_n 0, 0, 0, 0, 0, 0, 0), (809, .iload_n 3, 0, 0, 0, 0, 0, 0), (810, .iconst 2, 0, 0, 0, 0, 0, 2), (811, .iadd, 0, 0, 0, 0, 0, 0), (812, .iaload, 0, 0, 0, 0, 0, 0), (813, .invokevirtual 111, 155, 3, 7, 0, 185, 0), (816, .if_icmp .eq 200, 674, 0, 0, 0, 0, 0), (819, .iconst 0, 0, 0, 0, 0, 0, 0), (820, .ireturn, 1, 0, 0, 0, 0, 0), (821, .aload_n 1, 0, 0, 0, 0, 0, 0), (822, .aload_n 0, 0, 0, 0, 0, 0, 0), (823, .iload_n 3, 0, 0, 0, 0, 0, 0), (824, .iconst 1, 0, 0, 0, 0, 0, 1), (825, .iadd, 0, 0, 0, 0, 0, 0), (826, .iaload, 0, 0, 0, 0, 0, 0), (827, .aload_n 0, 0, 0, 0, 0, 0, 0), (828, .iload_n 3, 0, 0, 0, 0, 0, 0), (829, .iconst 2, 0, 0, 0, 0, 0, 2), (830, .iadd, 0, 0, 0, 0, 0, 0), (831, .iaload, 0, 0, 0, 0, 0, 0), (832, .invokevirtual 112, 80, 3, 6, 0, 186, 0), (835, .aload_n 2, 0, 0, 0, 0, 0, 0), (836, .aload_n 0, 0, 0, 0, 0, 0, 0), (837, .iload_n 3, 0, 0, 0, 0, 0, 0), (838, .iconst 1, 0, 0, 0, 0, 0, 1), (839, .iadd, 0, 0, 0, 0, 0, 0), (840, .iaload, 0, 0, 0, 0, 0, 0), (841, .aload_n 0, 0, 0, 0, 0, 0, 0), (842, .iload_n 3, 0, 0, 0, 0, 0, 0), (843, .iconst 2, 0, 0, 0, 0, 0, 2), (844, .iadd, 0, 0, 0, 0, 0, 0), (845, .iaload, 0, 0, 0, 0, 0, 0), (846, .invokevirtual 115, 156, 3, 7, 0, 187, 0), (849, .if_icmp .eq 167, 674, 0, 0, 0, 0, 0), (852, .iconst 0, 0, 0, 0, 0, 0, 0), (853, .ireturn, 1, 0, 0, 0, 0, 0), (854, .aload_n 1, 0, 0, 0, 0, 0, 0), (855, .aload_n 0, 0, 0, 0, 0, 0, 0), (856, .iload_n 3, 0, 0, 0, 0, 0, 0), (857, .iconst 1, 0, 0, 0, 0, 0, 1), (858, .iadd, 0, 0, 0, 0, 0, 0), (859, .iaload, 0, 0, 0, 0, 0, 0), (860, .aload_n 0, 0, 0, 0, 0, 0, 0), (861, .iload_n 3, 0, 0, 0, 0, 0, 0), (862, .iconst 2, 0, 0, 0, 0, 0, 2), (863, .iadd, 0, 0, 0, 0, 0, 0), (864, .iaload, 0, 0, 0, 0, 0, 0), (865, .invokevirtual 116, 81, 3, 6, 0, 188, 0), (868, .aload_n 2, 0, 0, 0, 0, 0, 0), (869, .aload_n 0, 0, 0, 0, 0, 0, 0), (870, .iload_n 3, 0, 0, 0, 0, 0, 0), (871, .iconst 1, 0, 0, 0, 0, 0, 1), (872, .iadd, 0, 0, 0, 0, 0, 0), (873, .iaload, 0, 0, 0, 0, 0, 0), (874, .aload_n 0, 0, 0, 0, 0, 0, 0), (875, .iload_n 3, 0, 0, 0, 0, 0, 0), (876, .iconst 2, 0, 0, 0, 0, 0, 2), (877, .iadd, 0, 0, 0, 0, 0, 0), (878, .iaload, 0, 0, 0, 0, 0, 0), (879, .invokevirtual 119, 157, 3, 7, 0, 189, 0), (882, .if_icmp .eq 134, 674, 0, 0, 0, 0, 0), (885, .iconst 0, 0, 0, 0, 0, 0, 0), (886, .ireturn, 1, 0, 0, 0, 0, 0), (887, .aload_n 1, 0, 0, 0, 0, 0, 0), (888, .invokevirtual 120, 82, 1, 6, 0, 190, 0), (891, .aload_n 2, 0, 0, 0, 0, 0, 0), (892, .invokevirtual 123, 158, 1, 7, 0, 191, 0), (895, .if_icmp .eq 121, 674, 0, 0, 0, 0, 0), (898, .iconst 0, 0, 0, 0, 0, 0, 0), (899, .ireturn, 1, 0, 0, 0, 0, 0), (900, .aload_n 1, 0, 0, 0, 0, 0, 0), (901, .aload_n 0, 0, 0, 0, 0, 0, 0), (902, .iload_n 3, 0, 0, 0, 0, 0, 0), (903, .iconst 1, 0, 0, 0, 0, 0, 1), (904, .iadd, 0, 0, 0, 0, 0, 0), (905, .iaload, 0, 0, 0, 0, 0, 0), (906, .aload_n 0, 0, 0, 0, 0, 0, 0), (907, .iload_n 3, 0, 0, 0, 0, 0, 0), (908, .iconst 2, 0, 0, 0, 0, 0, 2), (909, .iadd, 0, 0, 0, 0, 0, 0), (910, .iaload, 0, 0, 0, 0, 0, 0), (911, .invokevirtual 124, 83, 3, 6, 0, 192, 0), (914, .aload_n 2, 0, 0, 0, 0, 0, 0), (915, .aload_n 0, 0, 0, 0, 0, 0, 0), (916, .iload_n 3, 0, 0, 0, 0, 0, 0), (917, .iconst 1, 0, 0, 0, 0, 0, 1), (918, .iadd, 0, 0, 0, 0, 0, 0), (919, .iaload, 0, 0, 0, 0, 0, 0), (920, .aload_n 0, 0, 0, 0, 0, 0, 0), (921, .iload_n 3, 0, 0, 0, 0, 0, 0), (922, .iconst 2, 0, 0, 0, 0, 0, 2), (923, .iadd, 0, 0, 0, 0, 0, 0), (924, .iaload, 0, 0, 0, 0, 0, 0), (925, .invokevirtual 127, 159, 3, 7, 0, 193, 0), (928, .if_icmp .eq 88, 674, 0, 0, 0, 0, 0), (931, .iconst 0, 0, 0, 0, 0, 0, 0), (932, .ireturn, 1, 0, 0, 0, 0, 0), (933, .aload_n 1, 0, 0, 0, 0, 0, 0), (934, .aload_n 0, 0, 0, 0, 0, 0, 0), (935, .iload_n 3, 0, 0, 0, 0, 0, 0), (936, .iconst 1, 0, 0, 0, 0, 0, 1), (937, .iadd, 0, 0, 0, 0, 0, 0), (938, .iaload, 0, 0, 0, 0, 0, 0), (939, .invokevirtual 128, 84, 2, 6, 0, 194, 0), (942, .aload_n 2, 0, 0, 0, 0, 0, 0), (943, .aload_n 0, 0, 0, 0, 0, 0, 0), (944, .iload_n 3, 0, 0, 0, 0, 0, 0), (945, .iconst 1, 0, 0, 0, 0, 0, 1), (946, .iadd, 0, 0, 0, 0, 0, 0), (947, .iaload, 0, 0, 0, 0, 0, 0), (948, .invokevirtual 131, 160, 2, 7, 0, 195, 0), (951, .if_icmp .eq 65, 674, 0, 0, 0, 0, 0), (954, .iconst 0, 0, 0, 0, 0, 0, 0), (955, .ireturn, 1, 0, 0, 0, 0, 0), (956, .aload_n 1, 0, 0, 0, 0, 0, 0), (957, .aload_n 0, 0, 0, 0, 0, 0, 0), (958, .iload_n 3, 0, 0, 0, 0, 0, 0), (959, .iconst 1, 0, 0, 0, 0, 0, 1), (960, .iadd, 0, 0, 0, 0, 0, 0), (961, .iaload, 0, 0, 0, 0, 0, 0), (962, .invokevirtual 132, 85, 2, 6, 0, 196, 0), (965, .aload_n 2, 0, 0, 0, 0, 0, 0), (966, .aload_n 0, 0, 0, 0, 0, 0, 0), (967, .iload_n 3, 0, 0, 0, 0, 0, 0), (968, .iconst 1, 0, 0, 0, 0, 0, 1), (969, .iadd, 0, 0, 0, 0, 0, 0), (970, .iaload, 0, 0, 0, 0, 0, 0), (971, .invokevirtual 135, 161, 2, 7, 0, 197, 0), (974, .if_icmp .eq 42, 674, 0, 0, 0, 0, 0), (977, .iconst 0, 0, 0, 0, 0, 0, 0), (978, .ireturn, 1, 0, 0, 0, 0, 0), (979, .aload_n 1, 0, 0, 0, 0, 0, 0), (980, .aload_n 0, 0, 0, 0, 0, 0, 0), (981, .iload_n 3, 0, 0, 0, 0, 0, 0), (982, .iconst 1, 0, 0, 0, 0, 0, 1), (983, .iadd, 0, 0, 0, 0, 0, 0), (984, .iaload, 0, 0, 0, 0, 0, 0), (985, .invokevirtual 136, 86, 2, 6, 0, 198, 0), (988, .aload_n 2, 0, 0, 0, 0, 0, 0), (989, .aload_n 0, 0, 0, 0, 0, 0, 0), (990, .iload_n 3, 0, 0, 0, 0, 0, 0), (991, .iconst 1, 0, 0, 0, 0, 0, 1), (992, .iadd, 0, 0, 0, 0, 0, 0), (993, .iaload, 0, 0, 0, 0, 0, 0), (994, .invokevirtual 139, 162, 2, 7, 0, 199, 0), (997, .if_icmp .eq 19, 674, 0, 0, 0, 0, 0), (1000, .iconst 0, 0, 0, 0, 0, 0, 0), (1001, .ireturn, 1, 0, 0, 0, 0, 0), (1002, .aload_n 1, 0, 0, 0, 0, 0, 0), (1003, .invokevirtual 140, 87, 1, 6, 0, 200, 0), (1006, .aload_n 2, 0, 0, 0, 0, 0, 0), (1007, .invokevirtual 144, 163, 1, 7, 0, 201, 0), (1010, .lcmp, 0, 0, 0, 0, 0, 0), (1011, .ifCond .eq 5, 674, 0, 0, 0, 0, 0), (1014, .iconst 0, 0, 0, 0, 0, 0, 0), (1015, .ireturn, 1, 0, 0, 0, 0, 0), (1016, .iinc 3 4, 0, 0, 0, 0, 0, 4), (1019, .goto (-1001), 10, 0, 0, 0, 0, 0), (1022, .iconst 1, 0, 0, 0, 0, 0, 1), (1023, .ireturn, 1, 0, 0, 0, 0, 0)]
def am_tabs : List (List am_I) := [am_t0, am_t1, am_t2, am_t3, am_t4, am_t5, am_t6, am_t7, am_t8, am_t9, am_t10, am_t11, am_t12, am_t13, am_t14, am_t15, am_t16, am_t17, am_t18, am_t19, am_t20, am_t21, am_t22, am_t23, am_t24, am_t25, am_t26, am_t27, am_t28, am_t29, am_t30, am_t31, am_t32, am_t33, am_t34, am_t35, am_t36, am_t37, am_t38, am_t39, am_t40, am_t41, am_t42, am_t43, am_t44, am_t45, am_t46, am_t47, am_t48, am_t49, am_t50, am_t51, am_t52, am_t53, am_t54, am_t55, am_t56, am_t57, am_t58, am_t59, am_t60, am_t61, am_t62, am_t63, am_t64, am_t65, am_t66, am_t67, am_t68, am_t69, am_t70, am_t71, am_t72, am_t73, am_t74, am_t75, am_t76, am_t77, am_t78, am_t79, am_t80, am_t81, am_t82, am_t83, am_t84, am_t85, am_t86, am_t87, am_t88, am_t89, am_t90, am_t91, am_t92, am_t93, am_t94, am_t95, am_t96, am_t97, am_t98, am_t99, am_t100, am_t101, am_t102, am_t103, am_t104, am_t105, am_t106, am_t107, am_t108, am_t109, am_t110, am_t111, am_t112, am_t113, am_t114, am_t115, am_t116, am_t117, am_t118, am_t119, am_t120, am_t121, am_t122, am_t123, am_t124, am_t125, am_t126, am_t127, am_t128, am_t129, am_t130, am_t131, am_t132, am_t133, am_t134, am_t135, am_t136, am_t137, am_t138, am_t139, am_t140, am_t141, am_t142, am_t143, am_t144, am_t145, am_t146, am_t147, am_t148, am_t149, am_t150, am_t151, am_t152, am_t153, am_t154, am_t155, am_t156, am_t157, am_t158, am_t159, am_t160, am_t161, am_t162, am_t163, am_t164, am_t165, am_t166, am_t167, am_t168, am_t169, am_t170, am_t171]
def am_tab (k : Nat) : List am_I := (am_tabs[k]?).getD []
end
section
/-! ===== words that tables and machine share ===== -/
def am_pc (k j : Nat) : Nat := match (am_tab k)[j]? with
  | some e => e.1
  | none => 0
def am_isI (k : Nat) : Bool := (am_mt k).name == "<init>"
def am_nw : List Cond := [.fieldLinkNest "PaperPays$Rules" 33 "PaperPays" "USUAL" "[I" "PaperPays", .fieldLinkNest "PaperPays$Reader" 67 "PaperPays" "LEAST" "[I" "PaperPays", .fieldLinkNest "PaperPays$Reader" 71 "PaperPays" "MOST" "[I" "PaperPays", .methodLinkNest "PaperPays" 18 ⟨"PaperPays$Reader", "<init>", "()V"⟩ "PaperPays", .methodLinkNest "PaperPays" 50 ⟨"PaperPays$Riders", "<init>", "()V"⟩ "PaperPays", .methodLinkNest "PaperPays" 57 ⟨"PaperPays$Clues", "<init>", "()V"⟩ "PaperPays"]
/-- where a bank begins: the banks' sizes are known ahead -/
def am_of (b : Nat) : Nat := (am_sizes.take b).sum
/-- where object number n lies -/
def am_ad (z0 n : Nat) : Nat := z0 + am_of (n / 32) + n % 32
def am_cv (z0 : Nat) (sp : Nat → Value) (v : Value) : Value := match v with
  | .ref n => match Nat.ble 1000 n with
    | true => sp n
    | false => .ref (am_ad z0 n)
  | v => v
/-- what the tables say of a class of ours -/
def am_Cl (a : Nat) (q : vw_C) (ty : Nat → FieldType) : Prop := (∀ w ∈ u_ws q.1 q.2.1 q.2.2, w ∈ xw_tw) ∧ (∀ k, k < q.2.2 → parseFieldDescriptor (q.2.1 k).2.2.1 = some (ty k)) ∧ (∀ a, a < q.2.2 → ∀ b, b < q.2.2 → a ≠ b → (q.2.1 a).2.1 ≠ (q.2.1 b).2.1) ∧ ∀ fs, am_df[a]? = some fs → fs.length = q.2.2 ∧ (∀ z0 sp, fs.map (am_cv z0 sp) = fs) ∧ ∀ j, j < q.2.2 → defaultValue (ty j) = vp_V fs j
end
section
/-! ===== links: what the tables hold (by program) ===== -/
theorem am_places {ws : List Cond} (ps : List Nat) (h : ws = ps.filterMap (fun i => lw_tbl[i]?)) (hg : ws.all goodWord = true) : ∀ w ∈ ws, w ∈ xw_tw := by
  intro w hw
  have h1 := List.all_eq_true.mp hg w hw
  rw [h] at hw
  obtain ⟨i, -, hi⟩ := List.mem_filterMap.mp hw
  exact xw_in i hi h1
set_option maxRecDepth 100000 in
theorem am_cw0 : ∀ w ∈ u_ws RX0 TX0 5, w ∈ xw_tw := am_places [317, 319, 321, 323, 325] (by decide +kernel) (by decide +kernel)
set_option maxRecDepth 100000 in
theorem am_cl0 : am_Cl 0 (RX0, TX0, 5) tyX0 := ⟨am_cw0, tyX0_ok, nmX0, fun fs h => by
  cases h
  exact ⟨rfl, fun _ _ => rfl, by decide +kernel⟩⟩
set_option maxRecDepth 100000 in
theorem am_cw1 : ∀ w ∈ u_ws RX1 TX1 2, w ∈ xw_tw := am_places [272, 274] (by decide +kernel) (by decide +kernel)
set_option maxRecDepth 100000 in
theorem am_cl1 : am_Cl 1 (RX1, TX1, 2) tyX1 := ⟨am_cw1, tyX1_ok, nmX1, fun fs h => by
  cases h
  exact ⟨rfl, fun _ _ => rfl, by decide +kernel⟩⟩
set_option maxRecDepth 100000 in
theorem am_cw2 : ∀ w ∈ u_ws RX2 TX2 10, w ∈ xw_tw := am_places [164, 166, 168, 170, 172, 174, 176, 178, 180, 182] (by decide +kernel) (by decide +kernel)
set_option maxRecDepth 100000 in
theorem am_cl2 : am_Cl 2 (RX2, TX2, 10) tyX2 := ⟨am_cw2, tyX2_ok, nmX2, fun fs h => by
  cases h
  exact ⟨rfl, fun _ _ => rfl, by decide +kernel⟩⟩
set_option maxRecDepth 100000 in
theorem am_cw3 : ∀ w ∈ u_ws RX3 TX3 5, w ∈ xw_tw := am_places [291, 293, 295, 297, 299] (by decide +kernel) (by decide +kernel)
set_option maxRecDepth 100000 in
theorem am_cl3 : am_Cl 3 (RX3, TX3, 5) tyX3 := ⟨am_cw3, tyX3_ok, nmX3, fun fs h => by
  cases h
  exact ⟨rfl, fun _ _ => rfl, by decide +kernel⟩⟩
set_option maxRecDepth 100000 in
theorem am_cw4 : ∀ w ∈ u_ws RX4 TX4 17, w ∈ xw_tw := am_places [225, 227, 229, 231, 233, 235, 237, 239, 241, 243, 245, 247, 249, 251, 253, 255, 257] (by decide +kernel) (by decide +kernel)
set_option maxRecDepth 100000 in
theorem am_cl4 : am_Cl 4 (RX4, TX4, 17) tyX4 := ⟨am_cw4, tyX4_ok, nmX4, fun fs h => by
  cases h
  exact ⟨rfl, fun _ _ => rfl, by decide +kernel⟩⟩
set_option maxRecDepth 100000 in
theorem am_cw5 : ∀ w ∈ u_ws RX5 TX5 6, w ∈ xw_tw := am_places [128, 130, 132, 134, 136, 138] (by decide +kernel) (by decide +kernel)
set_option maxRecDepth 100000 in
theorem am_cl5 : am_Cl 5 (RX5, TX5, 6) tyX5 := ⟨am_cw5, tyX5_ok, nmX5, fun fs h => by
  cases h
  exact ⟨rfl, fun _ _ => rfl, by decide +kernel⟩⟩
set_option maxRecDepth 100000 in
theorem am_cw6 : ∀ w ∈ u_ws RX6 TX6 10, w ∈ xw_tw := am_places [338, 340, 342, 344, 346, 348, 350, 352, 354, 356] (by decide +kernel) (by decide +kernel)
set_option maxRecDepth 100000 in
theorem am_cl6 : am_Cl 6 (RX6, TX6, 10) tyX6 := ⟨am_cw6, tyX6_ok, nmX6, fun fs h => by
  cases h
  exact ⟨rfl, fun _ _ => rfl, by decide +kernel⟩⟩
set_option maxRecDepth 100000 in
theorem am_cw7 : ∀ w ∈ u_ws RX7 TX7 25, w ∈ xw_tw := am_places [824, 826, 828, 830, 832, 834, 836, 838, 840, 842, 844, 846, 848, 850, 852, 854, 856, 858, 860, 862, 864, 866, 868, 870, 872] (by decide +kernel) (by decide +kernel)
set_option maxRecDepth 100000 in
theorem am_cl7 : am_Cl 7 (RX7, TX7, 25) tyX7 := ⟨am_cw7, tyX7_ok, nmX7, fun fs h => by
  cases h
  exact ⟨rfl, fun _ _ => rfl, by decide +kernel⟩⟩
theorem am_cl_all : ∀ (a : Nat) (q : vw_C), vwCl[a]? = some q → ∃ ty, am_Cl a q ty := by
  intro a q h
  match a, h with
  | 0, h => cases h; exact ⟨_, am_cl0⟩
  | 1, h => cases h; exact ⟨_, am_cl1⟩
  | 2, h => cases h; exact ⟨_, am_cl2⟩
  | 3, h => cases h; exact ⟨_, am_cl3⟩
  | 4, h => cases h; exact ⟨_, am_cl4⟩
  | 5, h => cases h; exact ⟨_, am_cl5⟩
  | 6, h => cases h; exact ⟨_, am_cl6⟩
  | 7, h => cases h; exact ⟨_, am_cl7⟩
  | n + 8, h => simp at h
def am_fls : List (Nat × Nat × Nat × Nat × Nat) := [(0, 11, 0, 0, 308), (0, 15, 0, 1, 309), (0, 19, 0, 2, 311), (0, 22, 0, 3, 313), (0, 25, 0, 4, 315), (0, 32, 5, 0, 105), (1, 7, 1, 1, 270), (1, 18, 1, 0, 268), (2, 11, 2, 0, 150), (2, 15, 2, 1, 151), (2, 22, 2, 2, 153), (2, 26, 2, 3, 155), (2, 29, 2, 4, 157), (2, 32, 2, 5, 159), (2, 35, 2, 6, 160), (2, 38, 2, 7, 161), (2, 41, 2, 8, 162), (2, 44, 2, 9, 163), (2, 78, 5, 0, 106), (2, 81, 5, 5, 125), (2, 84, 5, 1, 109), (2, 87, 5, 2, 113), (2, 90, 5, 3, 118), (2, 93, 5, 4, 122), (3, 9, 3, 0, 283), (3, 15, 3, 1, 284), (3, 18, 3, 2, 286), (3, 21, 3, 3, 287), (3, 25, 3, 4, 289), (4, 9, 4, 1, 197), (4, 15, 4, 2, 199), (4, 18, 4, 3, 201), (4, 21, 4, 4, 203), (4, 24, 4, 5, 205), (4, 27, 4, 6, 207), (4, 30, 4, 7, 209), (4, 34, 4, 8, 210), (4, 37, 4, 9, 212), (4, 40, 4, 10, 214), (4, 43, 4, 11, 216), (4, 46, 4, 12, 218), (4, 49, 4, 13, 220), (4, 52, 4, 14, 222), (4, 55, 4, 15, 223), (4, 58, 4, 16, 224), (4, 61, 4, 0, 196), (4, 68, 5, 0, 104), (4, 73, 5, 3, 117), (4, 74, 5, 4, 121), (4, 81, 5, 1, 110), (4, 84, 5, 2, 114), (4, 110, 5, 5, 126), (5, 9, 5, 0, 103), (5, 15, 5, 1, 108), (5, 18, 5, 2, 112), (5, 21, 5, 3, 116), (5, 24, 5, 4, 120), (5, 42, 5, 5, 124), (6, 10, 6, 0, 328), (6, 19, 6, 1, 329), (6, 28, 6, 2, 330), (6, 32, 6, 3, 331), (6, 35, 6, 4, 332), (6, 41, 6, 5, 333), (6, 45, 6, 6, 334), (6, 51, 6, 7, 335), (6, 58, 6, 8, 336), (6, 62, 6, 9, 337), (6, 66, 4, 6, 208), (6, 74, 2, 1, 152), (6, 81, 2, 4, 158), (6, 84, 2, 2, 154), (6, 96, 1, 1, 271), (6, 100, 2, 3, 156), (6, 107, 5, 0, 107), (6, 116, 5, 1, 111), (6, 119, 5, 2, 115), (6, 122, 4, 8, 211), (6, 125, 4, 9, 213), (6, 132, 4, 10, 215), (6, 151, 4, 1, 198), (6, 154, 4, 2, 200), (6, 157, 4, 3, 202), (6, 160, 4, 4, 204), (6, 163, 4, 5, 206), (6, 182, 5, 3, 119), (6, 183, 5, 4, 123), (6, 184, 5, 5, 127), (6, 207, 3, 3, 288), (6, 210, 3, 4, 290), (6, 213, 3, 1, 285), (6, 224, 0, 1, 310), (6, 231, 0, 2, 312), (6, 234, 0, 3, 314), (6, 237, 0, 4, 316), (6, 240, 4, 11, 217), (6, 243, 4, 12, 219), (6, 246, 4, 13, 221), (6, 263, 1, 0, 269), (7, 7, 7, 2, 801), (7, 13, 7, 9, 808), (7, 16, 7, 10, 809), (7, 19, 7, 13, 812), (7, 22, 7, 14, 813), (7, 25, 7, 15, 814), (7, 28, 7, 16, 815), (7, 32, 7, 17, 816), (7, 35, 7, 18, 817), (7, 38, 7, 19, 818), (7, 41, 7, 20, 819), (7, 44, 7, 21, 820), (7, 47, 7, 22, 821), (7, 50, 7, 23, 822), (7, 59, 7, 0, 799), (7, 67, 7, 3, 802), (7, 82, 7, 4, 803), (7, 89, 7, 6, 805), (7, 92, 7, 5, 804), (7, 99, 7, 7, 806), (7, 102, 7, 8, 807), (7, 116, 7, 12, 811), (7, 139, 7, 11, 810), (7, 215, 7, 24, 823), (7, 222, 7, 1, 800), (9, 9, 9, 0, 1140), (9, 15, 9, 1, 1141)]
def am_TT (a b : Nat) : String × String × String := match vwCl[a]? with
  | some q => ((q.2.1 b).1, (q.2.1 b).2.1, (q.2.1 b).2.2.1)
  | none => match b with
    | 0 => ("java/lang/String", "value", "[B")
    | _ => ("java/lang/String", "coder", "B")
def am_nf (a : Nat) : Nat := match vwCl[a]? with
  | some q => q.2.2
  | none => 2
set_option maxRecDepth 100000 in
theorem am_fls_ok : ∀ q ∈ am_fls, lw_tbl[q.2.2.2.2]? = some (.fieldLink (am_cn q.1) q.2.1 (am_TT q.2.2.1 q.2.2.2.1).1 (am_TT q.2.2.1 q.2.2.2.1).2.1 (am_TT q.2.2.1 q.2.2.2.1).2.2) ∧ q.2.2.2.1 < am_nf q.2.2.1 := by decide +kernel
def am_fkt : List (List Nat) := [[3, 0, 0, 0, 0], [3, 1], [3, 0, 3, 0, 0, 0, 0, 0, 0, 0], [3, 3, 3, 0, 0], [3, 0, 0, 0, 0, 0, 0, 3, 3, 3, 3, 3, 3, 3, 3, 3, 3], [3, 3, 3, 3, 3, 0], [3, 3, 3, 3, 3, 3, 3, 3, 3, 2], [0, 2, 3, 0, 0, 0, 0, 0, 0, 3, 3, 0, 0, 3, 3, 3, 3, 3, 3, 3, 3, 3, 3, 3, 0]]
def am_fkd (a b : Nat) : Nat := ((am_fkt[a]?).getD []).getD b 9
def am_sls : List (Nat × Nat × Nat × Nat × Nat) := [(2, 67, 1, 1, 466), (2, 71, 2, 1, 468), (5, 33, 0, 1, 90), (6, 191, 3, 0, 636), (6, 194, 1, 0, 638), (6, 197, 2, 0, 639), (6, 256, 4, 0, 747), (6, 271, 5, 0, 745), (9, 38, 6, 0, 414), (9, 1053, 7, 0, 430)]
set_option maxRecDepth 100000 in
theorem am_sls_ok : ∀ q ∈ am_sls, ∃ g, am_gs[q.2.2.1]? = some g ∧ ((q.2.2.2.1 = 0 ∧ lw_tbl[q.2.2.2.2]? = some (.fieldLink (am_cn q.1) q.2.1 g.1 g.2.1 g.2.2.1)) ∨ (q.2.2.2.1 = 1 ∧ Cond.fieldLinkNest (am_cn q.1) q.2.1 g.1 g.2.1 g.2.2.1 "PaperPays" ∈ am_nw)) := by
  intro q hq
  simp only [am_sls, List.mem_cons, List.not_mem_nil, or_false] at hq
  rcases hq with rfl | rfl | rfl | rfl | rfl | rfl | rfl | rfl | rfl | rfl
  · exact ⟨_, rfl, Or.inr ⟨rfl, by decide +kernel⟩⟩
  · exact ⟨_, rfl, Or.inr ⟨rfl, by decide +kernel⟩⟩
  · exact ⟨_, rfl, Or.inr ⟨rfl, by decide +kernel⟩⟩
  · exact ⟨_, rfl, Or.inl ⟨rfl, by decide +kernel⟩⟩
  · exact ⟨_, rfl, Or.inl ⟨rfl, by decide +kernel⟩⟩
  · exact ⟨_, rfl, Or.inl ⟨rfl, by decide +kernel⟩⟩
  · exact ⟨_, rfl, Or.inl ⟨rfl, by decide +kernel⟩⟩
  · exact ⟨_, rfl, Or.inl ⟨rfl, by decide +kernel⟩⟩
  · exact ⟨_, rfl, Or.inl ⟨rfl, by decide +kernel⟩⟩
  · exact ⟨_, rfl, Or.inl ⟨rfl, by decide +kernel⟩⟩
def am_kls : List (Nat × Nat × Int32 × Nat) := [(4, 119, 1103515245, 560), (6, 115, -1000000, 499), (7, 159, -1000000, 948), (7, 176, 1103515245, 997)]
set_option maxRecDepth 100000 in
theorem am_kls_ok : ∀ q ∈ am_kls, lw_tbl[q.2.2.2]? = some (.constant (am_cn q.1) q.2.1 q.2.2.1) := by decide +kernel
def am_lls : List (Nat × Nat × Int64 × Nat) := [(7, 70, 255, 883), (7, 72, 256, 903), (7, 226, 11, 1117), (7, 228, 101, 1118), (7, 230, 1001, 1119), (7, 232, 10001, 1120), (7, 234, 101001, 1121), (7, 236, 1000101, 1122), (8, 13, 4294967295, 1139)]
set_option maxRecDepth 100000 in
theorem am_lls_ok : ∀ q ∈ am_lls, lw_tbl[q.2.2.2]? = some (.constantLong (am_cn q.1) q.2.1 q.2.2.1) := by decide +kernel
def am_nls : List (Nat × Nat × Nat × Nat × Nat × Nat) := [(1, 13, 4, 266, 187, 62), (2, 19, 5, 148, 81, 59), (6, 7, 5, 80, 81, 59), (6, 16, 2, 142, 143, 61), (6, 23, 4, 186, 187, 62), (6, 38, 1, 260, 261, 63), (6, 48, 3, 277, 278, 64), (6, 55, 0, 302, 303, 65), (8, 7, 6, 72, 73, 58), (8, 10, 7, 773, 774, 66)]
set_option maxRecDepth 100000 in
theorem am_nls_ok : ∀ q ∈ am_nls, lw_tbl[q.2.2.2.1]? = some (.classLink (am_cn q.1) q.2.1 (am_cn q.2.2.1)) ∧ lw_tbl[q.2.2.2.2.1]? = some (.instantiable (am_cn q.2.2.1) (am_nf q.2.2.1)) ∧ lw_tbl[q.2.2.2.2.2]? = some (.initialized (am_cn q.2.2.1)) := by decide +kernel
theorem am_vw_cn : ∀ (a : Nat) (q : vw_C), vwCl[a]? = some q → q.1 = am_cn a ∧ q.2.2 = am_nf a ∧ ¬ a = 100 := by
  intro a q h
  match a, h with
  | 0, h => cases h; exact ⟨rfl, rfl, by decide⟩
  | 1, h => cases h; exact ⟨rfl, rfl, by decide⟩
  | 2, h => cases h; exact ⟨rfl, rfl, by decide⟩
  | 3, h => cases h; exact ⟨rfl, rfl, by decide⟩
  | 4, h => cases h; exact ⟨rfl, rfl, by decide⟩
  | 5, h => cases h; exact ⟨rfl, rfl, by decide⟩
  | 6, h => cases h; exact ⟨rfl, rfl, by decide⟩
  | 7, h => cases h; exact ⟨rfl, rfl, by decide⟩
  | n + 8, h => simp at h
theorem am_ac_int : Cond.arrayClass .int ∈ xw_tw := xw_in 141 (by decide +kernel) rfl
theorem am_ac_byte : Cond.arrayClass .byte ∈ xw_tw := xw_in 185 (by decide +kernel) rfl
theorem am_ac_boolean : Cond.arrayClass .boolean ∈ xw_tw := xw_in 875 (by decide +kernel) rfl
def am_pls : List (Nat × Nat × Nat × Nat × Nat × Nat) := [(2, 306, 305, 0, 65, 0), (1, 701, 699, 700, 65, 1), (1, 709, 707, 708, 65, 2), (1, 713, 712, 21, 65, 4), (2, 264, 263, 0, 63, 1), (2, 146, 145, 0, 61, 0), (1, 366, 364, 365, 61, 2), (1, 378, 376, 377, 61, 0), (1, 465, 464, 6, 61, 1), (1, 457, 456, 4, 61, 0), (1, 461, 460, 5, 61, 2), (1, 473, 472, 7, 61, 0), (1, 387, 386, 1, 61, 1), (1, 383, 382, 0, 61, 0), (1, 394, 393, 2, 61, 0), (1, 404, 403, 3, 61, 0), (0, 390, 389, 0, 61, 1), (0, 400, 399, 0, 61, 1), (2, 281, 280, 0, 64, 0), (1, 651, 649, 650, 64, 2), (1, 672, 671, 19, 64, 1), (1, 659, 657, 658, 64, 2), (1, 676, 675, 20, 64, 1), (1, 663, 662, 17, 64, 2), (1, 667, 666, 18, 64, 2), (1, 692, 690, 691, 64, 1), (1, 688, 686, 687, 64, 0), (2, 190, 189, 0, 62, 1), (1, 195, 193, 194, 62, 0), (1, 482, 480, 481, 62, 0), (1, 630, 628, 629, 62, 1), (1, 537, 535, 536, 62, 0), (1, 503, 501, 502, 62, 1), (1, 507, 506, 9, 62, 2), (1, 541, 539, 540, 62, 1), (1, 546, 545, 10, 62, 0), (1, 551, 550, 11, 62, 0), (1, 555, 554, 12, 62, 0), (1, 559, 558, 13, 62, 1), (1, 564, 563, 14, 62, 1), (1, 568, 567, 15, 62, 0), (1, 583, 581, 582, 62, 1), (1, 595, 593, 594, 62, 0), (1, 591, 589, 590, 62, 0), (1, 601, 599, 600, 62, 0), (1, 605, 603, 604, 62, 0), (1, 732, 730, 731, 62, 0), (1, 736, 735, 22, 62, 2), (1, 768, 766, 767, 62, 1), (2, 84, 83, 0, 59, 0), (1, 89, 87, 88, 59, 0), (1, 98, 96, 97, 59, 0), (1, 478, 476, 477, 59, 1), (1, 521, 519, 520, 59, 1), (1, 102, 100, 101, 59, 1), (1, 529, 527, 528, 59, 2), (2, 76, 75, 0, 58, 0), (1, 362, 360, 361, 58, 2), (1, 370, 368, 369, 58, 0), (1, 374, 372, 373, 58, 0), (1, 487, 485, 486, 58, 1), (1, 494, 492, 493, 58, 2), (1, 516, 514, 515, 58, 2), (1, 525, 523, 524, 58, 2), (1, 533, 531, 532, 58, 1), (1, 575, 573, 574, 58, 1), (1, 579, 577, 578, 58, 1), (1, 587, 585, 586, 58, 1), (1, 610, 608, 609, 58, 1), (1, 614, 612, 613, 58, 0), (1, 618, 616, 617, 58, 1), (1, 622, 620, 621, 58, 1), (1, 635, 633, 634, 58, 3), (1, 643, 641, 642, 58, 1), (1, 647, 645, 646, 58, 2), (1, 655, 653, 654, 58, 3), (1, 680, 678, 679, 58, 3), (1, 684, 682, 683, 58, 1), (1, 697, 695, 696, 58, 1), (1, 705, 703, 704, 58, 2), (1, 720, 718, 719, 58, 2), (1, 724, 722, 723, 58, 2), (1, 728, 726, 727, 58, 0), (1, 740, 738, 739, 58, 2), (1, 752, 750, 751, 58, 1), (1, 760, 758, 759, 58, 1), (1, 764, 762, 763, 58, 1), (1, 772, 770, 771, 58, 0), (0, 490, 489, 0, 58, 3), (1, 498, 497, 8, 58, 1), (1, 756, 755, 24, 58, 1), (1, 626, 625, 16, 58, 1), (1, 744, 743, 23, 58, 3), (2, 777, 776, 0, 66, 0), (0, 882, 881, 0, 66, 3), (0, 1004, 1003, 0, 66, 1), (1, 879, 877, 878, 66, 2), (1, 887, 885, 886, 66, 0), (1, 899, 898, 31, 66, 1), (0, 902, 901, 0, 66, 2), (0, 909, 908, 0, 66, 6), (0, 906, 905, 0, 66, 2), (1, 895, 894, 30, 66, 0), (1, 913, 912, 32, 66, 0), (1, 917, 916, 33, 66, 1), (1, 925, 924, 35, 66, 2), (1, 782, 781, 25, 66, 0), (0, 935, 934, 0, 66, 1), (0, 932, 931, 0, 66, 1), (1, 929, 928, 36, 66, 1), (1, 921, 920, 34, 66, 0), (1, 891, 889, 890, 66, 0), (1, 786, 785, 26, 66, 0), (1, 952, 951, 38, 66, 2), (1, 794, 793, 28, 66, 3), (1, 798, 797, 29, 66, 0), (1, 939, 937, 938, 66, 1), (1, 947, 946, 37, 66, 1), (1, 968, 967, 41, 66, 1), (1, 790, 789, 27, 66, 1), (1, 960, 959, 40, 66, 1), (1, 956, 955, 39, 66, 1), (1, 943, 941, 942, 66, 2), (1, 964, 962, 963, 66, 2), (1, 972, 970, 971, 66, 2), (1, 980, 979, 42, 66, 0), (1, 992, 991, 45, 66, 0), (1, 996, 995, 46, 66, 1), (1, 988, 987, 44, 66, 0), (1, 1001, 1000, 47, 66, 1), (1, 984, 983, 43, 66, 0), (1, 976, 974, 975, 66, 1), (1, 1008, 1006, 1007, 66, 1), (1, 1012, 1010, 1011, 66, 1), (1, 1020, 1019, 48, 66, 1), (1, 1024, 1023, 49, 66, 0), (1, 1028, 1027, 50, 66, 0), (1, 1016, 1014, 1015, 66, 1), (1, 1032, 1030, 1031, 66, 1), (1, 1036, 1034, 1035, 66, 0), (1, 1040, 1038, 1039, 66, 1), (1, 1048, 1047, 51, 66, 1), (1, 1052, 1051, 52, 66, 0), (1, 1044, 1042, 1043, 66, 1), (1, 1056, 1054, 1055, 66, 3), (1, 1060, 1058, 1059, 66, 1), (1, 1064, 1062, 1063, 66, 2), (1, 1080, 1079, 55, 66, 1), (1, 1076, 1075, 54, 66, 2), (1, 1072, 1071, 53, 66, 2), (1, 1068, 1066, 1067, 66, 3), (1, 1084, 1082, 1083, 66, 3), (1, 1088, 1086, 1087, 66, 1), (1, 1092, 1090, 1091, 66, 1), (1, 1100, 1099, 56, 66, 4), (1, 1096, 1094, 1095, 66, 2), (1, 1104, 1102, 1103, 66, 2), (1, 1108, 1106, 1107, 66, 2), (1, 1112, 1110, 1111, 66, 0), (1, 1116, 1114, 1115, 66, 2), (1, 1126, 1124, 1125, 66, 1), (1, 1130, 1128, 1129, 66, 1), (1, 1134, 1132, 1133, 66, 1), (1, 1138, 1136, 1137, 66, 0), (1, 409, 407, 408, 68, 0), (1, 419, 417, 418, 68, 1), (1, 413, 411, 412, 68, 0), (1, 423, 421, 422, 68, 0), (0, 429, 428, 0, 68, 2), (0, 426, 425, 0, 69, 2), (0, 434, 433, 0, 70, 3), (9, 0, 0, 0, 0, 0)]
def am_pl (z : Nat) : Nat × Nat × Nat × Nat × Nat × Nat := (am_pls[z]?).getD (9, 0, 0, 0, 0, 0)
/-- the words of method z, by their places -/
def am_zok (z : Nat) : Prop := lw_tbl[(am_pl z).2.1]? = some (.code (am_mt z) (am_cd z) (am_ml z) (am_rt z)) ∧ lw_tbl[(am_pl z).2.2.2.2.1]? = some (.initialized (am_mt z).cls) ∧ ((am_mt z).cls ≠ "java/lang/invoke/MethodHandle" ∧ (am_mt z).cls ≠ "java/lang/invoke/VarHandle") ∧ (parseMethodDescriptor (am_mt z).desc).map (fun d => d.parameters.length) = some (am_pl z).2.2.2.2.2 ∧ (match (am_pl z).1 with
  | 0 => lw_tbl[(am_pl z).2.2.1]? = some (.static (am_mt z))
  | 1 => lw_tbl[(am_pl z).2.2.1]? = some (.instanceMethod (am_mt z)) ∧ lw_tbl[(am_pl z).2.2.2.1]? = some (.selects (am_mt z).cls (am_mt z) (am_mt z))
  | 2 => lw_tbl[(am_pl z).2.2.1]? = some (.instanceMethod (am_mt z)) ∧ (am_mt z).name = "<init>" ∧ am_rt z = none
  | _ => True)
set_option maxRecDepth 100000 in
theorem am_z0 : am_zok 0 := ⟨by decide +kernel, by decide +kernel, by decide +kernel, by decide +kernel, ⟨by decide +kernel, by decide +kernel, by decide +kernel⟩⟩
set_option maxRecDepth 100000 in
theorem am_z1 : am_zok 1 := ⟨by decide +kernel, by decide +kernel, by decide +kernel, by decide +kernel, ⟨by decide +kernel, by decide +kernel⟩⟩
set_option maxRecDepth 100000 in
theorem am_z2 : am_zok 2 := ⟨by decide +kernel, by decide +kernel, by decide +kernel, by decide +kernel, ⟨by decide +kernel, by decide +kernel⟩⟩
set_option maxRecDepth 100000 in
theorem am_z3 : am_zok 3 := ⟨by decide +kernel, by decide +kernel, by decide +kernel, by decide +kernel, ⟨by decide +kernel, by decide +kernel⟩⟩
set_option maxRecDepth 100000 in
theorem am_z4 : am_zok 4 := ⟨by decide +kernel, by decide +kernel, by decide +kernel, by decide +kernel, ⟨by decide +kernel, by decide +kernel, by decide +kernel⟩⟩
set_option maxRecDepth 100000 in
theorem am_z5 : am_zok 5 := ⟨by decide +kernel, by decide +kernel, by decide +kernel, by decide +kernel, ⟨by decide +kernel, by decide +kernel, by decide +kernel⟩⟩
set_option maxRecDepth 100000 in
theorem am_z6 : am_zok 6 := ⟨by decide +kernel, by decide +kernel, by decide +kernel, by decide +kernel, ⟨by decide +kernel, by decide +kernel⟩⟩
set_option maxRecDepth 100000 in
theorem am_z7 : am_zok 7 := ⟨by decide +kernel, by decide +kernel, by decide +kernel, by decide +kernel, ⟨by decide +kernel, by decide +kernel⟩⟩
set_option maxRecDepth 100000 in
theorem am_z8 : am_zok 8 := ⟨by decide +kernel, by decide +kernel, by decide +kernel, by decide +kernel, ⟨by decide +kernel, by decide +kernel⟩⟩
set_option maxRecDepth 100000 in
theorem am_z9 : am_zok 9 := ⟨by decide +kernel, by decide +kernel, by decide +kernel, by decide +kernel, ⟨by decide +kernel, by decide +kernel⟩⟩
set_option maxRecDepth 100000 in
theorem am_z10 : am_zok 10 := ⟨by decide +kernel, by decide +kernel, by decide +kernel, by decide +kernel, ⟨by decide +kernel, by decide +kernel⟩⟩
set_option maxRecDepth 100000 in
theorem am_z11 : am_zok 11 := ⟨by decide +kernel, by decide +kernel, by decide +kernel, by decide +kernel, ⟨by decide +kernel, by decide +kernel⟩⟩
set_option maxRecDepth 100000 in
theorem am_z12 : am_zok 12 := ⟨by decide +kernel, by decide +kernel, by decide +kernel, by decide +kernel, ⟨by decide +kernel, by decide +kernel⟩⟩
set_option maxRecDepth 100000 in
theorem am_z13 : am_zok 13 := ⟨by decide +kernel, by decide +kernel, by decide +kernel, by decide +kernel, ⟨by decide +kernel, by decide +kernel⟩⟩
set_option maxRecDepth 100000 in
theorem am_z14 : am_zok 14 := ⟨by decide +kernel, by decide +kernel, by decide +kernel, by decide +kernel, ⟨by decide +kernel, by decide +kernel⟩⟩
set_option maxRecDepth 100000 in
theorem am_z15 : am_zok 15 := ⟨by decide +kernel, by decide +kernel, by decide +kernel, by decide +kernel, ⟨by decide +kernel, by decide +kernel⟩⟩
set_option maxRecDepth 100000 in
theorem am_z16 : am_zok 16 := ⟨by decide +kernel, by decide +kernel, by decide +kernel, by decide +kernel, (show lw_tbl[(am_pl 16).2.2.1]? = some (.static (am_mt 16)) by decide +kernel)⟩
set_option maxRecDepth 100000 in
theorem am_z17 : am_zok 17 := ⟨by decide +kernel, by decide +kernel, by decide +kernel, by decide +kernel, (show lw_tbl[(am_pl 17).2.2.1]? = some (.static (am_mt 17)) by decide +kernel)⟩
set_option maxRecDepth 100000 in
theorem am_z18 : am_zok 18 := ⟨by decide +kernel, by decide +kernel, by decide +kernel, by decide +kernel, ⟨by decide +kernel, by decide +kernel, by decide +kernel⟩⟩
set_option maxRecDepth 100000 in
theorem am_z19 : am_zok 19 := ⟨by decide +kernel, by decide +kernel, by decide +kernel, by decide +kernel, ⟨by decide +kernel, by decide +kernel⟩⟩
set_option maxRecDepth 100000 in
theorem am_z20 : am_zok 20 := ⟨by decide +kernel, by decide +kernel, by decide +kernel, by decide +kernel, ⟨by decide +kernel, by decide +kernel⟩⟩
set_option maxRecDepth 100000 in
theorem am_z21 : am_zok 21 := ⟨by decide +kernel, by decide +kernel, by decide +kernel, by decide +kernel, ⟨by decide +kernel, by decide +kernel⟩⟩
set_option maxRecDepth 100000 in
theorem am_z22 : am_zok 22 := ⟨by decide +kernel, by decide +kernel, by decide +kernel, by decide +kernel, ⟨by decide +kernel, by decide +kernel⟩⟩
set_option maxRecDepth 100000 in
theorem am_z23 : am_zok 23 := ⟨by decide +kernel, by decide +kernel, by decide +kernel, by decide +kernel, ⟨by decide +kernel, by decide +kernel⟩⟩
set_option maxRecDepth 100000 in
theorem am_z24 : am_zok 24 := ⟨by decide +kernel, by decide +kernel, by decide +kernel, by decide +kernel, ⟨by decide +kernel, by decide +kernel⟩⟩
set_option maxRecDepth 100000 in
theorem am_z25 : am_zok 25 := ⟨by decide +kernel, by decide +kernel, by decide +kernel, by decide +kernel, ⟨by decide +kernel, by decide +kernel⟩⟩
set_option maxRecDepth 100000 in
theorem am_z26 : am_zok 26 := ⟨by decide +kernel, by decide +kernel, by decide +kernel, by decide +kernel, ⟨by decide +kernel, by decide +kernel⟩⟩
set_option maxRecDepth 100000 in
theorem am_z27 : am_zok 27 := ⟨by decide +kernel, by decide +kernel, by decide +kernel, by decide +kernel, ⟨by decide +kernel, by decide +kernel, by decide +kernel⟩⟩
set_option maxRecDepth 100000 in
theorem am_z28 : am_zok 28 := ⟨by decide +kernel, by decide +kernel, by decide +kernel, by decide +kernel, ⟨by decide +kernel, by decide +kernel⟩⟩
set_option maxRecDepth 100000 in
theorem am_z29 : am_zok 29 := ⟨by decide +kernel, by decide +kernel, by decide +kernel, by decide +kernel, ⟨by decide +kernel, by decide +kernel⟩⟩
set_option maxRecDepth 100000 in
theorem am_z30 : am_zok 30 := ⟨by decide +kernel, by decide +kernel, by decide +kernel, by decide +kernel, ⟨by decide +kernel, by decide +kernel⟩⟩
set_option maxRecDepth 100000 in
theorem am_z31 : am_zok 31 := ⟨by decide +kernel, by decide +kernel, by decide +kernel, by decide +kernel, ⟨by decide +kernel, by decide +kernel⟩⟩
set_option maxRecDepth 100000 in
theorem am_z32 : am_zok 32 := ⟨by decide +kernel, by decide +kernel, by decide +kernel, by decide +kernel, ⟨by decide +kernel, by decide +kernel⟩⟩
set_option maxRecDepth 100000 in
theorem am_z33 : am_zok 33 := ⟨by decide +kernel, by decide +kernel, by decide +kernel, by decide +kernel, ⟨by decide +kernel, by decide +kernel⟩⟩
set_option maxRecDepth 100000 in
theorem am_z34 : am_zok 34 := ⟨by decide +kernel, by decide +kernel, by decide +kernel, by decide +kernel, ⟨by decide +kernel, by decide +kernel⟩⟩
set_option maxRecDepth 100000 in
theorem am_z35 : am_zok 35 := ⟨by decide +kernel, by decide +kernel, by decide +kernel, by decide +kernel, ⟨by decide +kernel, by decide +kernel⟩⟩
set_option maxRecDepth 100000 in
theorem am_z36 : am_zok 36 := ⟨by decide +kernel, by decide +kernel, by decide +kernel, by decide +kernel, ⟨by decide +kernel, by decide +kernel⟩⟩
set_option maxRecDepth 100000 in
theorem am_z37 : am_zok 37 := ⟨by decide +kernel, by decide +kernel, by decide +kernel, by decide +kernel, ⟨by decide +kernel, by decide +kernel⟩⟩
set_option maxRecDepth 100000 in
theorem am_z38 : am_zok 38 := ⟨by decide +kernel, by decide +kernel, by decide +kernel, by decide +kernel, ⟨by decide +kernel, by decide +kernel⟩⟩
set_option maxRecDepth 100000 in
theorem am_z39 : am_zok 39 := ⟨by decide +kernel, by decide +kernel, by decide +kernel, by decide +kernel, ⟨by decide +kernel, by decide +kernel⟩⟩
set_option maxRecDepth 100000 in
theorem am_z40 : am_zok 40 := ⟨by decide +kernel, by decide +kernel, by decide +kernel, by decide +kernel, ⟨by decide +kernel, by decide +kernel⟩⟩
set_option maxRecDepth 100000 in
theorem am_z41 : am_zok 41 := ⟨by decide +kernel, by decide +kernel, by decide +kernel, by decide +kernel, ⟨by decide +kernel, by decide +kernel⟩⟩
set_option maxRecDepth 100000 in
theorem am_z42 : am_zok 42 := ⟨by decide +kernel, by decide +kernel, by decide +kernel, by decide +kernel, ⟨by decide +kernel, by decide +kernel⟩⟩
set_option maxRecDepth 100000 in
theorem am_z43 : am_zok 43 := ⟨by decide +kernel, by decide +kernel, by decide +kernel, by decide +kernel, ⟨by decide +kernel, by decide +kernel⟩⟩
set_option maxRecDepth 100000 in
theorem am_z44 : am_zok 44 := ⟨by decide +kernel, by decide +kernel, by decide +kernel, by decide +kernel, ⟨by decide +kernel, by decide +kernel⟩⟩
set_option maxRecDepth 100000 in
theorem am_z45 : am_zok 45 := ⟨by decide +kernel, by decide +kernel, by decide +kernel, by decide +kernel, ⟨by decide +kernel, by decide +kernel⟩⟩
set_option maxRecDepth 100000 in
theorem am_z46 : am_zok 46 := ⟨by decide +kernel, by decide +kernel, by decide +kernel, by decide +kernel, ⟨by decide +kernel, by decide +kernel⟩⟩
set_option maxRecDepth 100000 in
theorem am_z47 : am_zok 47 := ⟨by decide +kernel, by decide +kernel, by decide +kernel, by decide +kernel, ⟨by decide +kernel, by decide +kernel⟩⟩
set_option maxRecDepth 100000 in
theorem am_z48 : am_zok 48 := ⟨by decide +kernel, by decide +kernel, by decide +kernel, by decide +kernel, ⟨by decide +kernel, by decide +kernel⟩⟩
set_option maxRecDepth 100000 in
theorem am_z49 : am_zok 49 := ⟨by decide +kernel, by decide +kernel, by decide +kernel, by decide +kernel, ⟨by decide +kernel, by decide +kernel, by decide +kernel⟩⟩
set_option maxRecDepth 100000 in
theorem am_z50 : am_zok 50 := ⟨by decide +kernel, by decide +kernel, by decide +kernel, by decide +kernel, ⟨by decide +kernel, by decide +kernel⟩⟩
set_option maxRecDepth 100000 in
theorem am_z51 : am_zok 51 := ⟨by decide +kernel, by decide +kernel, by decide +kernel, by decide +kernel, ⟨by decide +kernel, by decide +kernel⟩⟩
set_option maxRecDepth 100000 in
theorem am_z52 : am_zok 52 := ⟨by decide +kernel, by decide +kernel, by decide +kernel, by decide +kernel, ⟨by decide +kernel, by decide +kernel⟩⟩
set_option maxRecDepth 100000 in
theorem am_z53 : am_zok 53 := ⟨by decide +kernel, by decide +kernel, by decide +kernel, by decide +kernel, ⟨by decide +kernel, by decide +kernel⟩⟩
set_option maxRecDepth 100000 in
theorem am_z54 : am_zok 54 := ⟨by decide +kernel, by decide +kernel, by decide +kernel, by decide +kernel, ⟨by decide +kernel, by decide +kernel⟩⟩
set_option maxRecDepth 100000 in
theorem am_z55 : am_zok 55 := ⟨by decide +kernel, by decide +kernel, by decide +kernel, by decide +kernel, ⟨by decide +kernel, by decide +kernel⟩⟩
set_option maxRecDepth 100000 in
theorem am_z56 : am_zok 56 := ⟨by decide +kernel, by decide +kernel, by decide +kernel, by decide +kernel, ⟨by decide +kernel, by decide +kernel, by decide +kernel⟩⟩
set_option maxRecDepth 100000 in
theorem am_z57 : am_zok 57 := ⟨by decide +kernel, by decide +kernel, by decide +kernel, by decide +kernel, ⟨by decide +kernel, by decide +kernel⟩⟩
set_option maxRecDepth 100000 in
theorem am_z58 : am_zok 58 := ⟨by decide +kernel, by decide +kernel, by decide +kernel, by decide +kernel, ⟨by decide +kernel, by decide +kernel⟩⟩
set_option maxRecDepth 100000 in
theorem am_z59 : am_zok 59 := ⟨by decide +kernel, by decide +kernel, by decide +kernel, by decide +kernel, ⟨by decide +kernel, by decide +kernel⟩⟩
set_option maxRecDepth 100000 in
theorem am_z60 : am_zok 60 := ⟨by decide +kernel, by decide +kernel, by decide +kernel, by decide +kernel, ⟨by decide +kernel, by decide +kernel⟩⟩
set_option maxRecDepth 100000 in
theorem am_z61 : am_zok 61 := ⟨by decide +kernel, by decide +kernel, by decide +kernel, by decide +kernel, ⟨by decide +kernel, by decide +kernel⟩⟩
set_option maxRecDepth 100000 in
theorem am_z62 : am_zok 62 := ⟨by decide +kernel, by decide +kernel, by decide +kernel, by decide +kernel, ⟨by decide +kernel, by decide +kernel⟩⟩
set_option maxRecDepth 100000 in
theorem am_z63 : am_zok 63 := ⟨by decide +kernel, by decide +kernel, by decide +kernel, by decide +kernel, ⟨by decide +kernel, by decide +kernel⟩⟩
set_option maxRecDepth 100000 in
theorem am_z64 : am_zok 64 := ⟨by decide +kernel, by decide +kernel, by decide +kernel, by decide +kernel, ⟨by decide +kernel, by decide +kernel⟩⟩
set_option maxRecDepth 100000 in
theorem am_z65 : am_zok 65 := ⟨by decide +kernel, by decide +kernel, by decide +kernel, by decide +kernel, ⟨by decide +kernel, by decide +kernel⟩⟩
set_option maxRecDepth 100000 in
theorem am_z66 : am_zok 66 := ⟨by decide +kernel, by decide +kernel, by decide +kernel, by decide +kernel, ⟨by decide +kernel, by decide +kernel⟩⟩
set_option maxRecDepth 100000 in
theorem am_z67 : am_zok 67 := ⟨by decide +kernel, by decide +kernel, by decide +kernel, by decide +kernel, ⟨by decide +kernel, by decide +kernel⟩⟩
set_option maxRecDepth 100000 in
theorem am_z68 : am_zok 68 := ⟨by decide +kernel, by decide +kernel, by decide +kernel, by decide +kernel, ⟨by decide +kernel, by decide +kernel⟩⟩
set_option maxRecDepth 100000 in
theorem am_z69 : am_zok 69 := ⟨by decide +kernel, by decide +kernel, by decide +kernel, by decide +kernel, ⟨by decide +kernel, by decide +kernel⟩⟩
set_option maxRecDepth 100000 in
theorem am_z70 : am_zok 70 := ⟨by decide +kernel, by decide +kernel, by decide +kernel, by decide +kernel, ⟨by decide +kernel, by decide +kernel⟩⟩
set_option maxRecDepth 100000 in
theorem am_z71 : am_zok 71 := ⟨by decide +kernel, by decide +kernel, by decide +kernel, by decide +kernel, ⟨by decide +kernel, by decide +kernel⟩⟩
set_option maxRecDepth 100000 in
theorem am_z72 : am_zok 72 := ⟨by decide +kernel, by decide +kernel, by decide +kernel, by decide +kernel, ⟨by decide +kernel, by decide +kernel⟩⟩
set_option maxRecDepth 100000 in
theorem am_z73 : am_zok 73 := ⟨by decide +kernel, by decide +kernel, by decide +kernel, by decide +kernel, ⟨by decide +kernel, by decide +kernel⟩⟩
set_option maxRecDepth 100000 in
theorem am_z74 : am_zok 74 := ⟨by decide +kernel, by decide +kernel, by decide +kernel, by decide +kernel, ⟨by decide +kernel, by decide +kernel⟩⟩
set_option maxRecDepth 100000 in
theorem am_z75 : am_zok 75 := ⟨by decide +kernel, by decide +kernel, by decide +kernel, by decide +kernel, ⟨by decide +kernel, by decide +kernel⟩⟩
set_option maxRecDepth 100000 in
theorem am_z76 : am_zok 76 := ⟨by decide +kernel, by decide +kernel, by decide +kernel, by decide +kernel, ⟨by decide +kernel, by decide +kernel⟩⟩
set_option maxRecDepth 100000 in
theorem am_z77 : am_zok 77 := ⟨by decide +kernel, by decide +kernel, by decide +kernel, by decide +kernel, ⟨by decide +kernel, by decide +kernel⟩⟩
set_option maxRecDepth 100000 in
theorem am_z78 : am_zok 78 := ⟨by decide +kernel, by decide +kernel, by decide +kernel, by decide +kernel, ⟨by decide +kernel, by decide +kernel⟩⟩
set_option maxRecDepth 100000 in
theorem am_z79 : am_zok 79 := ⟨by decide +kernel, by decide +kernel, by decide +kernel, by decide +kernel, ⟨by decide +kernel, by decide +kernel⟩⟩
set_option maxRecDepth 100000 in
theorem am_z80 : am_zok 80 := ⟨by decide +kernel, by decide +kernel, by decide +kernel, by decide +kernel, ⟨by decide +kernel, by decide +kernel⟩⟩
set_option maxRecDepth 100000 in
theorem am_z81 : am_zok 81 := ⟨by decide +kernel, by decide +kernel, by decide +kernel, by decide +kernel, ⟨by decide +kernel, by decide +kernel⟩⟩
set_option maxRecDepth 100000 in
theorem am_z82 : am_zok 82 := ⟨by decide +kernel, by decide +kernel, by decide +kernel, by decide +kernel, ⟨by decide +kernel, by decide +kernel⟩⟩
set_option maxRecDepth 100000 in
theorem am_z83 : am_zok 83 := ⟨by decide +kernel, by decide +kernel, by decide +kernel, by decide +kernel, ⟨by decide +kernel, by decide +kernel⟩⟩
set_option maxRecDepth 100000 in
theorem am_z84 : am_zok 84 := ⟨by decide +kernel, by decide +kernel, by decide +kernel, by decide +kernel, ⟨by decide +kernel, by decide +kernel⟩⟩
set_option maxRecDepth 100000 in
theorem am_z85 : am_zok 85 := ⟨by decide +kernel, by decide +kernel, by decide +kernel, by decide +kernel, ⟨by decide +kernel, by decide +kernel⟩⟩
set_option maxRecDepth 100000 in
theorem am_z86 : am_zok 86 := ⟨by decide +kernel, by decide +kernel, by decide +kernel, by decide +kernel, ⟨by decide +kernel, by decide +kernel⟩⟩
set_option maxRecDepth 100000 in
theorem am_z87 : am_zok 87 := ⟨by decide +kernel, by decide +kernel, by decide +kernel, by decide +kernel, ⟨by decide +kernel, by decide +kernel⟩⟩
set_option maxRecDepth 100000 in
theorem am_z88 : am_zok 88 := ⟨by decide +kernel, by decide +kernel, by decide +kernel, by decide +kernel, (show lw_tbl[(am_pl 88).2.2.1]? = some (.static (am_mt 88)) by decide +kernel)⟩
set_option maxRecDepth 100000 in
theorem am_z89 : am_zok 89 := ⟨by decide +kernel, by decide +kernel, by decide +kernel, by decide +kernel, ⟨by decide +kernel, by decide +kernel⟩⟩
set_option maxRecDepth 100000 in
theorem am_z90 : am_zok 90 := ⟨by decide +kernel, by decide +kernel, by decide +kernel, by decide +kernel, ⟨by decide +kernel, by decide +kernel⟩⟩
set_option maxRecDepth 100000 in
theorem am_z91 : am_zok 91 := ⟨by decide +kernel, by decide +kernel, by decide +kernel, by decide +kernel, ⟨by decide +kernel, by decide +kernel⟩⟩
set_option maxRecDepth 100000 in
theorem am_z92 : am_zok 92 := ⟨by decide +kernel, by decide +kernel, by decide +kernel, by decide +kernel, ⟨by decide +kernel, by decide +kernel⟩⟩
set_option maxRecDepth 100000 in
theorem am_z93 : am_zok 93 := ⟨by decide +kernel, by decide +kernel, by decide +kernel, by decide +kernel, ⟨by decide +kernel, by decide +kernel, by decide +kernel⟩⟩
set_option maxRecDepth 100000 in
theorem am_z94 : am_zok 94 := ⟨by decide +kernel, by decide +kernel, by decide +kernel, by decide +kernel, (show lw_tbl[(am_pl 94).2.2.1]? = some (.static (am_mt 94)) by decide +kernel)⟩
set_option maxRecDepth 100000 in
theorem am_z95 : am_zok 95 := ⟨by decide +kernel, by decide +kernel, by decide +kernel, by decide +kernel, (show lw_tbl[(am_pl 95).2.2.1]? = some (.static (am_mt 95)) by decide +kernel)⟩
set_option maxRecDepth 100000 in
theorem am_z96 : am_zok 96 := ⟨by decide +kernel, by decide +kernel, by decide +kernel, by decide +kernel, ⟨by decide +kernel, by decide +kernel⟩⟩
set_option maxRecDepth 100000 in
theorem am_z97 : am_zok 97 := ⟨by decide +kernel, by decide +kernel, by decide +kernel, by decide +kernel, ⟨by decide +kernel, by decide +kernel⟩⟩
set_option maxRecDepth 100000 in
theorem am_z98 : am_zok 98 := ⟨by decide +kernel, by decide +kernel, by decide +kernel, by decide +kernel, ⟨by decide +kernel, by decide +kernel⟩⟩
set_option maxRecDepth 100000 in
theorem am_z99 : am_zok 99 := ⟨by decide +kernel, by decide +kernel, by decide +kernel, by decide +kernel, (show lw_tbl[(am_pl 99).2.2.1]? = some (.static (am_mt 99)) by decide +kernel)⟩
set_option maxRecDepth 100000 in
theorem am_z100 : am_zok 100 := ⟨by decide +kernel, by decide +kernel, by decide +kernel, by decide +kernel, (show lw_tbl[(am_pl 100).2.2.1]? = some (.static (am_mt 100)) by decide +kernel)⟩
set_option maxRecDepth 100000 in
theorem am_z101 : am_zok 101 := ⟨by decide +kernel, by decide +kernel, by decide +kernel, by decide +kernel, (show lw_tbl[(am_pl 101).2.2.1]? = some (.static (am_mt 101)) by decide +kernel)⟩
set_option maxRecDepth 100000 in
theorem am_z102 : am_zok 102 := ⟨by decide +kernel, by decide +kernel, by decide +kernel, by decide +kernel, ⟨by decide +kernel, by decide +kernel⟩⟩
set_option maxRecDepth 100000 in
theorem am_z103 : am_zok 103 := ⟨by decide +kernel, by decide +kernel, by decide +kernel, by decide +kernel, ⟨by decide +kernel, by decide +kernel⟩⟩
set_option maxRecDepth 100000 in
theorem am_z104 : am_zok 104 := ⟨by decide +kernel, by decide +kernel, by decide +kernel, by decide +kernel, ⟨by decide +kernel, by decide +kernel⟩⟩
set_option maxRecDepth 100000 in
theorem am_z105 : am_zok 105 := ⟨by decide +kernel, by decide +kernel, by decide +kernel, by decide +kernel, ⟨by decide +kernel, by decide +kernel⟩⟩
set_option maxRecDepth 100000 in
theorem am_z106 : am_zok 106 := ⟨by decide +kernel, by decide +kernel, by decide +kernel, by decide +kernel, ⟨by decide +kernel, by decide +kernel⟩⟩
set_option maxRecDepth 100000 in
theorem am_z107 : am_zok 107 := ⟨by decide +kernel, by decide +kernel, by decide +kernel, by decide +kernel, (show lw_tbl[(am_pl 107).2.2.1]? = some (.static (am_mt 107)) by decide +kernel)⟩
set_option maxRecDepth 100000 in
theorem am_z108 : am_zok 108 := ⟨by decide +kernel, by decide +kernel, by decide +kernel, by decide +kernel, (show lw_tbl[(am_pl 108).2.2.1]? = some (.static (am_mt 108)) by decide +kernel)⟩
set_option maxRecDepth 100000 in
theorem am_z109 : am_zok 109 := ⟨by decide +kernel, by decide +kernel, by decide +kernel, by decide +kernel, ⟨by decide +kernel, by decide +kernel⟩⟩
set_option maxRecDepth 100000 in
theorem am_z110 : am_zok 110 := ⟨by decide +kernel, by decide +kernel, by decide +kernel, by decide +kernel, ⟨by decide +kernel, by decide +kernel⟩⟩
set_option maxRecDepth 100000 in
theorem am_z111 : am_zok 111 := ⟨by decide +kernel, by decide +kernel, by decide +kernel, by decide +kernel, ⟨by decide +kernel, by decide +kernel⟩⟩
set_option maxRecDepth 100000 in
theorem am_z112 : am_zok 112 := ⟨by decide +kernel, by decide +kernel, by decide +kernel, by decide +kernel, ⟨by decide +kernel, by decide +kernel⟩⟩
set_option maxRecDepth 100000 in
theorem am_z113 : am_zok 113 := ⟨by decide +kernel, by decide +kernel, by decide +kernel, by decide +kernel, ⟨by decide +kernel, by decide +kernel⟩⟩
set_option maxRecDepth 100000 in
theorem am_z114 : am_zok 114 := ⟨by decide +kernel, by decide +kernel, by decide +kernel, by decide +kernel, ⟨by decide +kernel, by decide +kernel⟩⟩
set_option maxRecDepth 100000 in
theorem am_z115 : am_zok 115 := ⟨by decide +kernel, by decide +kernel, by decide +kernel, by decide +kernel, ⟨by decide +kernel, by decide +kernel⟩⟩
set_option maxRecDepth 100000 in
theorem am_z116 : am_zok 116 := ⟨by decide +kernel, by decide +kernel, by decide +kernel, by decide +kernel, ⟨by decide +kernel, by decide +kernel⟩⟩
set_option maxRecDepth 100000 in
theorem am_z117 : am_zok 117 := ⟨by decide +kernel, by decide +kernel, by decide +kernel, by decide +kernel, ⟨by decide +kernel, by decide +kernel⟩⟩
set_option maxRecDepth 100000 in
theorem am_z118 : am_zok 118 := ⟨by decide +kernel, by decide +kernel, by decide +kernel, by decide +kernel, ⟨by decide +kernel, by decide +kernel⟩⟩
set_option maxRecDepth 100000 in
theorem am_z119 : am_zok 119 := ⟨by decide +kernel, by decide +kernel, by decide +kernel, by decide +kernel, ⟨by decide +kernel, by decide +kernel⟩⟩
set_option maxRecDepth 100000 in
theorem am_z120 : am_zok 120 := ⟨by decide +kernel, by decide +kernel, by decide +kernel, by decide +kernel, ⟨by decide +kernel, by decide +kernel⟩⟩
set_option maxRecDepth 100000 in
theorem am_z121 : am_zok 121 := ⟨by decide +kernel, by decide +kernel, by decide +kernel, by decide +kernel, ⟨by decide +kernel, by decide +kernel⟩⟩
set_option maxRecDepth 100000 in
theorem am_z122 : am_zok 122 := ⟨by decide +kernel, by decide +kernel, by decide +kernel, by decide +kernel, ⟨by decide +kernel, by decide +kernel⟩⟩
set_option maxRecDepth 100000 in
theorem am_z123 : am_zok 123 := ⟨by decide +kernel, by decide +kernel, by decide +kernel, by decide +kernel, ⟨by decide +kernel, by decide +kernel⟩⟩
set_option maxRecDepth 100000 in
theorem am_z124 : am_zok 124 := ⟨by decide +kernel, by decide +kernel, by decide +kernel, by decide +kernel, ⟨by decide +kernel, by decide +kernel⟩⟩
set_option maxRecDepth 100000 in
theorem am_z125 : am_zok 125 := ⟨by decide +kernel, by decide +kernel, by decide +kernel, by decide +kernel, ⟨by decide +kernel, by decide +kernel⟩⟩
set_option maxRecDepth 100000 in
theorem am_z126 : am_zok 126 := ⟨by decide +kernel, by decide +kernel, by decide +kernel, by decide +kernel, ⟨by decide +kernel, by decide +kernel⟩⟩
set_option maxRecDepth 100000 in
theorem am_z127 : am_zok 127 := ⟨by decide +kernel, by decide +kernel, by decide +kernel, by decide +kernel, ⟨by decide +kernel, by decide +kernel⟩⟩
set_option maxRecDepth 100000 in
theorem am_z128 : am_zok 128 := ⟨by decide +kernel, by decide +kernel, by decide +kernel, by decide +kernel, ⟨by decide +kernel, by decide +kernel⟩⟩
set_option maxRecDepth 100000 in
theorem am_z129 : am_zok 129 := ⟨by decide +kernel, by decide +kernel, by decide +kernel, by decide +kernel, ⟨by decide +kernel, by decide +kernel⟩⟩
set_option maxRecDepth 100000 in
theorem am_z130 : am_zok 130 := ⟨by decide +kernel, by decide +kernel, by decide +kernel, by decide +kernel, ⟨by decide +kernel, by decide +kernel⟩⟩
set_option maxRecDepth 100000 in
theorem am_z131 : am_zok 131 := ⟨by decide +kernel, by decide +kernel, by decide +kernel, by decide +kernel, ⟨by decide +kernel, by decide +kernel⟩⟩
set_option maxRecDepth 100000 in
theorem am_z132 : am_zok 132 := ⟨by decide +kernel, by decide +kernel, by decide +kernel, by decide +kernel, ⟨by decide +kernel, by decide +kernel⟩⟩
set_option maxRecDepth 100000 in
theorem am_z133 : am_zok 133 := ⟨by decide +kernel, by decide +kernel, by decide +kernel, by decide +kernel, ⟨by decide +kernel, by decide +kernel⟩⟩
set_option maxRecDepth 100000 in
theorem am_z134 : am_zok 134 := ⟨by decide +kernel, by decide +kernel, by decide +kernel, by decide +kernel, ⟨by decide +kernel, by decide +kernel⟩⟩
set_option maxRecDepth 100000 in
theorem am_z135 : am_zok 135 := ⟨by decide +kernel, by decide +kernel, by decide +kernel, by decide +kernel, ⟨by decide +kernel, by decide +kernel⟩⟩
set_option maxRecDepth 100000 in
theorem am_z136 : am_zok 136 := ⟨by decide +kernel, by decide +kernel, by decide +kernel, by decide +kernel, ⟨by decide +kernel, by decide +kernel⟩⟩
set_option maxRecDepth 100000 in
theorem am_z137 : am_zok 137 := ⟨by decide +kernel, by decide +kernel, by decide +kernel, by decide +kernel, ⟨by decide +kernel, by decide +kernel⟩⟩
set_option maxRecDepth 100000 in
theorem am_z138 : am_zok 138 := ⟨by decide +kernel, by decide +kernel, by decide +kernel, by decide +kernel, ⟨by decide +kernel, by decide +kernel⟩⟩
set_option maxRecDepth 100000 in
theorem am_z139 : am_zok 139 := ⟨by decide +kernel, by decide +kernel, by decide +kernel, by decide +kernel, ⟨by decide +kernel, by decide +kernel⟩⟩
set_option maxRecDepth 100000 in
theorem am_z140 : am_zok 140 := ⟨by decide +kernel, by decide +kernel, by decide +kernel, by decide +kernel, ⟨by decide +kernel, by decide +kernel⟩⟩
set_option maxRecDepth 100000 in
theorem am_z141 : am_zok 141 := ⟨by decide +kernel, by decide +kernel, by decide +kernel, by decide +kernel, ⟨by decide +kernel, by decide +kernel⟩⟩
set_option maxRecDepth 100000 in
theorem am_z142 : am_zok 142 := ⟨by decide +kernel, by decide +kernel, by decide +kernel, by decide +kernel, ⟨by decide +kernel, by decide +kernel⟩⟩
set_option maxRecDepth 100000 in
theorem am_z143 : am_zok 143 := ⟨by decide +kernel, by decide +kernel, by decide +kernel, by decide +kernel, ⟨by decide +kernel, by decide +kernel⟩⟩
set_option maxRecDepth 100000 in
theorem am_z144 : am_zok 144 := ⟨by decide +kernel, by decide +kernel, by decide +kernel, by decide +kernel, ⟨by decide +kernel, by decide +kernel⟩⟩
set_option maxRecDepth 100000 in
theorem am_z145 : am_zok 145 := ⟨by decide +kernel, by decide +kernel, by decide +kernel, by decide +kernel, ⟨by decide +kernel, by decide +kernel⟩⟩
set_option maxRecDepth 100000 in
theorem am_z146 : am_zok 146 := ⟨by decide +kernel, by decide +kernel, by decide +kernel, by decide +kernel, ⟨by decide +kernel, by decide +kernel⟩⟩
set_option maxRecDepth 100000 in
theorem am_z147 : am_zok 147 := ⟨by decide +kernel, by decide +kernel, by decide +kernel, by decide +kernel, ⟨by decide +kernel, by decide +kernel⟩⟩
set_option maxRecDepth 100000 in
theorem am_z148 : am_zok 148 := ⟨by decide +kernel, by decide +kernel, by decide +kernel, by decide +kernel, ⟨by decide +kernel, by decide +kernel⟩⟩
set_option maxRecDepth 100000 in
theorem am_z149 : am_zok 149 := ⟨by decide +kernel, by decide +kernel, by decide +kernel, by decide +kernel, ⟨by decide +kernel, by decide +kernel⟩⟩
set_option maxRecDepth 100000 in
theorem am_z150 : am_zok 150 := ⟨by decide +kernel, by decide +kernel, by decide +kernel, by decide +kernel, ⟨by decide +kernel, by decide +kernel⟩⟩
set_option maxRecDepth 100000 in
theorem am_z151 : am_zok 151 := ⟨by decide +kernel, by decide +kernel, by decide +kernel, by decide +kernel, ⟨by decide +kernel, by decide +kernel⟩⟩
set_option maxRecDepth 100000 in
theorem am_z152 : am_zok 152 := ⟨by decide +kernel, by decide +kernel, by decide +kernel, by decide +kernel, ⟨by decide +kernel, by decide +kernel⟩⟩
set_option maxRecDepth 100000 in
theorem am_z153 : am_zok 153 := ⟨by decide +kernel, by decide +kernel, by decide +kernel, by decide +kernel, ⟨by decide +kernel, by decide +kernel⟩⟩
set_option maxRecDepth 100000 in
theorem am_z154 : am_zok 154 := ⟨by decide +kernel, by decide +kernel, by decide +kernel, by decide +kernel, ⟨by decide +kernel, by decide +kernel⟩⟩
set_option maxRecDepth 100000 in
theorem am_z155 : am_zok 155 := ⟨by decide +kernel, by decide +kernel, by decide +kernel, by decide +kernel, ⟨by decide +kernel, by decide +kernel⟩⟩
set_option maxRecDepth 100000 in
theorem am_z156 : am_zok 156 := ⟨by decide +kernel, by decide +kernel, by decide +kernel, by decide +kernel, ⟨by decide +kernel, by decide +kernel⟩⟩
set_option maxRecDepth 100000 in
theorem am_z157 : am_zok 157 := ⟨by decide +kernel, by decide +kernel, by decide +kernel, by decide +kernel, ⟨by decide +kernel, by decide +kernel⟩⟩
set_option maxRecDepth 100000 in
theorem am_z158 : am_zok 158 := ⟨by decide +kernel, by decide +kernel, by decide +kernel, by decide +kernel, ⟨by decide +kernel, by decide +kernel⟩⟩
set_option maxRecDepth 100000 in
theorem am_z159 : am_zok 159 := ⟨by decide +kernel, by decide +kernel, by decide +kernel, by decide +kernel, ⟨by decide +kernel, by decide +kernel⟩⟩
set_option maxRecDepth 100000 in
theorem am_z160 : am_zok 160 := ⟨by decide +kernel, by decide +kernel, by decide +kernel, by decide +kernel, ⟨by decide +kernel, by decide +kernel⟩⟩
set_option maxRecDepth 100000 in
theorem am_z161 : am_zok 161 := ⟨by decide +kernel, by decide +kernel, by decide +kernel, by decide +kernel, ⟨by decide +kernel, by decide +kernel⟩⟩
set_option maxRecDepth 100000 in
theorem am_z162 : am_zok 162 := ⟨by decide +kernel, by decide +kernel, by decide +kernel, by decide +kernel, ⟨by decide +kernel, by decide +kernel⟩⟩
set_option maxRecDepth 100000 in
theorem am_z163 : am_zok 163 := ⟨by decide +kernel, by decide +kernel, by decide +kernel, by decide +kernel, ⟨by decide +kernel, by decide +kernel⟩⟩
set_option maxRecDepth 100000 in
theorem am_z164 : am_zok 164 := ⟨by decide +kernel, by decide +kernel, by decide +kernel, by decide +kernel, ⟨by decide +kernel, by decide +kernel⟩⟩
set_option maxRecDepth 100000 in
theorem am_z165 : am_zok 165 := ⟨by decide +kernel, by decide +kernel, by decide +kernel, by decide +kernel, ⟨by decide +kernel, by decide +kernel⟩⟩
set_option maxRecDepth 100000 in
theorem am_z166 : am_zok 166 := ⟨by decide +kernel, by decide +kernel, by decide +kernel, by decide +kernel, ⟨by decide +kernel, by decide +kernel⟩⟩
set_option maxRecDepth 100000 in
theorem am_z167 : am_zok 167 := ⟨by decide +kernel, by decide +kernel, by decide +kernel, by decide +kernel, ⟨by decide +kernel, by decide +kernel⟩⟩
set_option maxRecDepth 100000 in
theorem am_z168 : am_zok 168 := ⟨by decide +kernel, by decide +kernel, by decide +kernel, by decide +kernel, (show lw_tbl[(am_pl 168).2.2.1]? = some (.static (am_mt 168)) by decide +kernel)⟩
set_option maxRecDepth 100000 in
theorem am_z169 : am_zok 169 := ⟨by decide +kernel, by decide +kernel, by decide +kernel, by decide +kernel, (show lw_tbl[(am_pl 169).2.2.1]? = some (.static (am_mt 169)) by decide +kernel)⟩
set_option maxRecDepth 100000 in
theorem am_z170 : am_zok 170 := ⟨by decide +kernel, by decide +kernel, by decide +kernel, by decide +kernel, (show lw_tbl[(am_pl 170).2.2.1]? = some (.static (am_mt 170)) by decide +kernel)⟩
theorem am_z171 : (am_pl 171).1 = 9 := rfl
theorem am_z_all : ∀ z, z < 172 → (am_pl z).1 ≠ 9 → am_zok z := by
  intro z hz h9
  match z, hz, h9 with
  | 0, _, h => exact am_z0
  | 1, _, h => exact am_z1
  | 2, _, h => exact am_z2
  | 3, _, h => exact am_z3
  | 4, _, h => exact am_z4
  | 5, _, h => exact am_z5
  | 6, _, h => exact am_z6
  | 7, _, h => exact am_z7
  | 8, _, h => exact am_z8
  | 9, _, h => exact am_z9
  | 10, _, h => exact am_z10
  | 11, _, h => exact am_z11
  | 12, _, h => exact am_z12
  | 13, _, h => exact am_z13
  | 14, _, h => exact am_z14
  | 15, _, h => exact am_z15
  | 16, _, h => exact am_z16
  | 17, _, h => exact am_z17
  | 18, _, h => exact am_z18
  | 19, _, h => exact am_z19
  | 20, _, h => exact am_z20
  | 21, _, h => exact am_z21
  | 22, _, h => exact am_z22
  | 23, _, h => exact am_z23
  | 24, _, h => exact am_z24
  | 25, _, h => exact am_z25
  | 26, _, h => exact am_z26
  | 27, _, h => exact am_z27
  | 28, _, h => exact am_z28
  | 29, _, h => exact am_z29
  | 30, _, h => exact am_z30
  | 31, _, h => exact am_z31
  | 32, _, h => exact am_z32
  | 33, _, h => exact am_z33
  | 34, _, h => exact am_z34
  | 35, _, h => exact am_z35
  | 36, _, h => exact am_z36
  | 37, _, h => exact am_z37
  | 38, _, h => exact am_z38
  | 39, _, h => exact am_z39
  | 40, _, h => exact am_z40
  | 41, _, h => exact am_z41
  | 42, _, h => exact am_z42
  | 43, _, h => exact am_z43
  | 44, _, h => exact am_z44
  | 45, _, h => exact am_z45
  | 46, _, h => exact am_z46
  | 47, _, h => exact am_z47
  | 48, _, h => exact am_z48
  | 49, _, h => exact am_z49
  | 50, _, h => exact am_z50
  | 51, _, h => exact am_z51
  | 52, _, h => exact am_z52
  | 53, _, h => exact am_z53
  | 54, _, h => exact am_z54
  | 55, _, h => exact am_z55
  | 56, _, h => exact am_z56
  | 57, _, h => exact am_z57
  | 58, _, h => exact am_z58
  | 59, _, h => exact am_z59
  | 60, _, h => exact am_z60
  | 61, _, h => exact am_z61
  | 62, _, h => exact am_z62
  | 63, _, h => exact am_z63
  | 64, _, h => exact am_z64
  | 65, _, h => exact am_z65
  | 66, _, h => exact am_z66
  | 67, _, h => exact am_z67
  | 68, _, h => exact am_z68
  | 69, _, h => exact am_z69
  | 70, _, h => exact am_z70
  | 71, _, h => exact am_z71
  | 72, _, h => exact am_z72
  | 73, _, h => exact am_z73
  | 74, _, h => exact am_z74
  | 75, _, h => exact am_z75
  | 76, _, h => exact am_z76
  | 77, _, h => exact am_z77
  | 78, _, h => exact am_z78
  | 79, _, h => exact am_z79
  | 80, _, h => exact am_z80
  | 81, _, h => exact am_z81
  | 82, _, h => exact am_z82
  | 83, _, h => exact am_z83
  | 84, _, h => exact am_z84
  | 85, _, h => exact am_z85
  | 86, _, h => exact am_z86
  | 87, _, h => exact am_z87
  | 88, _, h => exact am_z88
  | 89, _, h => exact am_z89
  | 90, _, h => exact am_z90
  | 91, _, h => exact am_z91
  | 92, _, h => exact am_z92
  | 93, _, h => exact am_z93
  | 94, _, h => exact am_z94
  | 95, _, h => exact am_z95
  | 96, _, h => exact am_z96
  | 97, _, h => exact am_z97
  | 98, _, h => exact am_z98
  | 99, _, h => exact am_z99
  | 100, _, h => exact am_z100
  | 101, _, h => exact am_z101
  | 102, _, h => exact am_z102
  | 103, _, h => exact am_z103
  | 104, _, h => exact am_z104
  | 105, _, h => exact am_z105
  | 106, _, h => exact am_z106
  | 107, _, h => exact am_z107
  | 108, _, h => exact am_z108
  | 109, _, h => exact am_z109
  | 110, _, h => exact am_z110
  | 111, _, h => exact am_z111
  | 112, _, h => exact am_z112
  | 113, _, h => exact am_z113
  | 114, _, h => exact am_z114
  | 115, _, h => exact am_z115
  | 116, _, h => exact am_z116
  | 117, _, h => exact am_z117
  | 118, _, h => exact am_z118
  | 119, _, h => exact am_z119
  | 120, _, h => exact am_z120
  | 121, _, h => exact am_z121
  | 122, _, h => exact am_z122
  | 123, _, h => exact am_z123
  | 124, _, h => exact am_z124
  | 125, _, h => exact am_z125
  | 126, _, h => exact am_z126
  | 127, _, h => exact am_z127
  | 128, _, h => exact am_z128
  | 129, _, h => exact am_z129
  | 130, _, h => exact am_z130
  | 131, _, h => exact am_z131
  | 132, _, h => exact am_z132
  | 133, _, h => exact am_z133
  | 134, _, h => exact am_z134
  | 135, _, h => exact am_z135
  | 136, _, h => exact am_z136
  | 137, _, h => exact am_z137
  | 138, _, h => exact am_z138
  | 139, _, h => exact am_z139
  | 140, _, h => exact am_z140
  | 141, _, h => exact am_z141
  | 142, _, h => exact am_z142
  | 143, _, h => exact am_z143
  | 144, _, h => exact am_z144
  | 145, _, h => exact am_z145
  | 146, _, h => exact am_z146
  | 147, _, h => exact am_z147
  | 148, _, h => exact am_z148
  | 149, _, h => exact am_z149
  | 150, _, h => exact am_z150
  | 151, _, h => exact am_z151
  | 152, _, h => exact am_z152
  | 153, _, h => exact am_z153
  | 154, _, h => exact am_z154
  | 155, _, h => exact am_z155
  | 156, _, h => exact am_z156
  | 157, _, h => exact am_z157
  | 158, _, h => exact am_z158
  | 159, _, h => exact am_z159
  | 160, _, h => exact am_z160
  | 161, _, h => exact am_z161
  | 162, _, h => exact am_z162
  | 163, _, h => exact am_z163
  | 164, _, h => exact am_z164
  | 165, _, h => exact am_z165
  | 166, _, h => exact am_z166
  | 167, _, h => exact am_z167
  | 168, _, h => exact am_z168
  | 169, _, h => exact am_z169
  | 170, _, h => exact am_z170
  | 171, _, h => exact absurd am_z171 h
  | n + 172, h, _ => omega
def am_tg (z : Nat) : MethodName := match z with
  | 1001 => Lib.Math.max.name
  | 1002 => Lib.Math.min.name
  | 1003 => Lib.Math.abs.name
  | 1004 => arraycopyName
  | 1005 => Lib.objectInit
  | z => am_mt z
def am_mls2 : List (Nat × Nat × Nat × Nat × Nat) := [(0, 3, 1005, 0, 307), (0, 28, 3, 0, 710), (0, 37, 1002, 0, 714), (0, 43, 54, 0, 715), (0, 47, 1003, 0, 716), (1, 1, 1005, 0, 265), (1, 15, 27, 0, 267), (2, 3, 1005, 0, 147), (2, 21, 49, 0, 149), (2, 47, 50, 0, 379), (2, 50, 13, 0, 380), (2, 53, 9, 0, 454), (2, 57, 8, 0, 462), (2, 61, 11, 0, 470), (2, 64, 51, 0, 474), (2, 74, 10, 0, 458), (2, 96, 12, 0, 384), (2, 100, 16, 0, 388), (2, 103, 14, 0, 391), (2, 106, 17, 0, 398), (2, 109, 15, 0, 401), (2, 112, 1002, 0, 395), (2, 120, 164, 0, 406), (2, 125, 165, 0, 416), (3, 3, 1005, 0, 282), (3, 28, 23, 0, 660), (3, 32, 22, 0, 673), (3, 36, 24, 0, 664), (3, 40, 1002, 0, 668), (3, 45, 20, 0, 669), (3, 49, 25, 0, 689), (4, 3, 1005, 0, 191), (4, 65, 28, 0, 192), (4, 75, 1004, 0, 631), (4, 87, 33, 0, 504), (4, 91, 1002, 0, 512), (4, 96, 1001, 0, 509), (4, 99, 54, 0, 508), (4, 103, 31, 0, 542), (4, 107, 35, 0, 543), (4, 113, 32, 0, 547), (4, 116, 36, 0, 548), (4, 120, 39, 0, 561), (4, 124, 40, 0, 565), (4, 127, 37, 0, 552), (4, 131, 38, 0, 556), (4, 134, 1003, 0, 569), (4, 137, 41, 0, 596), (4, 140, 42, 0, 592), (4, 143, 53, 0, 606), (4, 146, 47, 0, 733), (5, 3, 1005, 0, 85), (5, 27, 50, 0, 86), (5, 30, 51, 0, 95), (5, 36, 1004, 0, 92), (5, 46, 54, 0, 99), (6, 1, 1005, 0, 77), (6, 9, 49, 0, 82), (6, 18, 5, 1, 144), (6, 25, 27, 0, 188), (6, 40, 4, 0, 262), (6, 50, 18, 1, 279), (6, 57, 0, 1, 304), (6, 70, 6, 0, 363), (6, 77, 7, 0, 375), (6, 87, 52, 0, 475), (6, 90, 29, 0, 479), (6, 93, 28, 0, 483), (6, 103, 88, 0, 488), (6, 111, 89, 0, 495), (6, 128, 32, 0, 500), (6, 135, 54, 0, 517), (6, 138, 53, 0, 518), (6, 141, 55, 0, 526), (6, 145, 31, 0, 534), (6, 148, 34, 0, 538), (6, 166, 41, 0, 580), (6, 169, 43, 0, 588), (6, 173, 42, 0, 597), (6, 176, 44, 0, 598), (6, 179, 45, 0, 602), (6, 187, 91, 0, 623), (6, 200, 19, 0, 648), (6, 203, 21, 0, 656), (6, 216, 26, 0, 685), (6, 219, 25, 0, 693), (6, 222, 1, 0, 698), (6, 227, 2, 0, 706), (6, 249, 46, 0, 729), (6, 252, 92, 0, 741), (6, 259, 90, 0, 753), (6, 264, 30, 0, 627), (6, 267, 48, 0, 765), (7, 1, 1005, 0, 778), (7, 53, 106, 0, 779), (7, 56, 112, 0, 783), (7, 63, 94, 0, 880), (7, 74, 99, 0, 900), (7, 78, 100, 0, 907), (7, 85, 98, 0, 896), (7, 95, 101, 0, 904), (7, 105, 103, 0, 910), (7, 109, 102, 0, 892), (7, 112, 104, 0, 914), (7, 119, 108, 0, 930), (7, 122, 107, 0, 933), (7, 125, 105, 0, 922), (7, 129, 110, 0, 918), (7, 132, 109, 0, 926), (7, 136, 119, 0, 787), (7, 142, 114, 0, 791), (7, 146, 115, 0, 795), (7, 149, 113, 0, 949), (7, 152, 120, 0, 957), (7, 155, 117, 0, 944), (7, 160, 121, 0, 953), (7, 163, 118, 0, 965), (7, 166, 126, 0, 989), (7, 170, 127, 0, 993), (7, 173, 128, 0, 985), (7, 177, 129, 0, 998), (7, 180, 95, 0, 1002), (7, 183, 125, 0, 977), (7, 186, 130, 0, 981), (7, 189, 134, 0, 1017), (7, 192, 135, 0, 1021), (7, 195, 136, 0, 1025), (7, 198, 141, 0, 1045), (7, 202, 142, 0, 1049), (7, 205, 147, 0, 1077), (7, 208, 148, 0, 1073), (7, 211, 149, 0, 1069), (7, 218, 154, 0, 1097), (9, 335, 166, 0, 410), (9, 492, 167, 0, 420), (9, 495, 169, 0, 424), (9, 1059, 170, 0, 432), (10, 9, 168, 0, 427), (8, 9, 56, 0, 74), (8, 12, 93, 0, 775), (8, 15, 57, 0, 359), (8, 19, 96, 0, 876), (8, 20, 58, 0, 367), (8, 24, 97, 0, 884), (8, 25, 59, 0, 371), (8, 28, 111, 0, 888), (8, 29, 60, 0, 484), (8, 33, 116, 0, 936), (8, 34, 61, 0, 491), (8, 38, 122, 0, 940), (8, 39, 62, 0, 513), (8, 42, 123, 0, 961), (8, 43, 63, 0, 522), (8, 46, 124, 0, 969), (8, 47, 64, 0, 530), (8, 50, 131, 0, 973), (8, 51, 65, 0, 572), (8, 54, 132, 0, 1005), (8, 55, 66, 0, 576), (8, 58, 133, 0, 1009), (8, 59, 67, 0, 584), (8, 62, 137, 0, 1013), (8, 63, 68, 0, 607), (8, 66, 138, 0, 1029), (8, 67, 69, 0, 611), (8, 70, 139, 0, 1033), (8, 71, 70, 0, 615), (8, 74, 140, 0, 1037), (8, 75, 71, 0, 619), (8, 78, 143, 0, 1041), (8, 79, 72, 0, 632), (8, 83, 144, 0, 1053), (8, 84, 73, 0, 640), (8, 87, 145, 0, 1057), (8, 88, 74, 0, 644), (8, 91, 146, 0, 1061), (8, 92, 75, 0, 652), (8, 95, 150, 0, 1065), (8, 96, 76, 0, 677), (8, 99, 151, 0, 1081), (8, 100, 77, 0, 681), (8, 103, 152, 0, 1085), (8, 104, 78, 0, 694), (8, 107, 153, 0, 1089), (8, 108, 79, 0, 702), (8, 111, 155, 0, 1093), (8, 112, 80, 0, 717), (8, 115, 156, 0, 1101), (8, 116, 81, 0, 721), (8, 119, 157, 0, 1105), (8, 120, 82, 0, 725), (8, 123, 158, 0, 1109), (8, 124, 83, 0, 737), (8, 127, 159, 0, 1113), (8, 128, 84, 0, 749), (8, 131, 160, 0, 1123), (8, 132, 85, 0, 757), (8, 135, 161, 0, 1127), (8, 136, 86, 0, 761), (8, 139, 162, 0, 1131), (8, 140, 87, 0, 769), (8, 144, 163, 0, 1135)]
set_option maxRecDepth 100000 in
theorem am_mls_ok : ∀ q ∈ am_mls2, (q.2.2.2.1 = 0 ∧ lw_tbl[q.2.2.2.2]? = some (.methodLink (am_cn q.1) q.2.1 (am_tg q.2.2.1))) ∨ (q.2.2.2.1 = 1 ∧ Cond.methodLinkNest (am_cn q.1) q.2.1 (am_tg q.2.2.1) "PaperPays" ∈ am_nw) := by decide +kernel
theorem am_wmax : Cond.static Lib.Math.max.name ∈ xw_tw ∧ Cond.initialized Lib.Math.max.name.cls ∈ xw_tw ∧ Cond.code Lib.Math.max.name Lib.Math.max.code 2 (some .int) ∈ xw_tw := ⟨xw_in 510 (by decide +kernel) rfl, xw_in 67 (by decide +kernel) rfl, xw_in 511 (by decide +kernel) rfl⟩
theorem am_wmin : Cond.static Lib.Math.min.name ∈ xw_tw ∧ Cond.initialized Lib.Math.min.name.cls ∈ xw_tw ∧ Cond.code Lib.Math.min.name Lib.Math.min.code 2 (some .int) ∈ xw_tw := ⟨xw_in 396 (by decide +kernel) rfl, xw_in 67 (by decide +kernel) rfl, xw_in 397 (by decide +kernel) rfl⟩
theorem am_wabs : Cond.static Lib.Math.abs.name ∈ xw_tw ∧ Cond.initialized Lib.Math.abs.name.cls ∈ xw_tw ∧ Cond.code Lib.Math.abs.name Lib.Math.abs.code 1 (some .int) ∈ xw_tw := ⟨xw_in 570 (by decide +kernel) rfl, xw_in 67 (by decide +kernel) rfl, xw_in 571 (by decide +kernel) rfl⟩
theorem am_wcopy : Cond.static arraycopyName ∈ xw_tw ∧ Cond.initialized arraycopyName.cls ∈ xw_tw ∧ Cond.native arraycopyName ∈ xw_tw := ⟨xw_in 93 (by decide +kernel) rfl, xw_in 60 (by decide +kernel) rfl, xw_in 94 (by decide +kernel) rfl⟩
theorem am_wobj : Cond.instanceMethod Lib.objectInit ∈ xw_tw ∧ Cond.code Lib.objectInit ⟨#[0xb1]⟩ 1 none ∈ xw_tw := ⟨xw_in 78 (by decide +kernel) rfl, xw_in 79 (by decide +kernel) rfl⟩
end
section
/-! ===== each entry of the tables is what the bytes say (checked by program) ===== -/
def am_d (k pc : Nat) (ins : Instr) (n : Nat) : Bool := decide (decode (am_cd k) pc = .ok (ins, n))
def am_dl (k pc : Nat) (ins : Instr) : Bool := match decode (am_cd k) pc with
  | .ok (i, _) => decide (i = ins)
  | .error _ => false
def am_dn (k j pc : Nat) (ins : Instr) (n : Nat) : Bool := am_d k pc ins n && Nat.beq (am_pc k (j + 1)) (pc + n)
def am_off (k pc : Nat) (off : Int) (t : Nat) : Bool := decide ((pc : Int) + off = (am_pc k t : Int))
def am_flb (lk k i a b : Nat) : Bool := match am_fls[lk]? with
  | some (o, i', a', b', _) => Nat.beq o (am_ow k) && Nat.beq i' i && Nat.beq a' a && Nat.beq b' b
  | none => false
def am_slb (lk k i a : Nat) : Bool := match am_sls[lk]? with
  | some (o, i', a', _, _) => Nat.beq o (am_ow k) && Nat.beq i' i && Nat.beq a' a
  | none => false
def am_kb (lk k i : Nat) (z : Int32) : Bool := match am_kls[lk]? with
  | some (o, i', z', _) => Nat.beq o (am_ow k) && Nat.beq i' i && decide (z' = z)
  | none => false
def am_lb (a k i : Nat) : Bool := match am_lls[a]?, am_lc[a]? with
  | some (o, i', z', _), some v => Nat.beq o (am_ow k) && Nat.beq i' i && decide (z' = v)
  | _, _ => false
def am_nlb (lk k i a : Nat) : Bool := match am_nls[lk]? with
  | some (o, i', a', _) => Nat.beq o (am_ow k) && Nat.beq i' i && Nat.beq a' a
  | none => false
def am_mlb (lk k i a : Nat) (nest : Bool) : Bool := match am_mls2[lk]? with
  | some (o, i', a', ne, _) => Nat.beq o (am_ow k) && Nat.beq i' i && Nat.beq a' a && (nest || Nat.beq ne 0)
  | none => false
def am_cal (k z b kind rc : Nat) : Bool := Nat.blt z 172 && Nat.beq (am_pl z).1 kind && Nat.beq ((am_pl z).2.2.2.2.2 + rc) b && Nat.ble (am_fr z + 1) (am_fr k) && Nat.ble (8 + (am_ml z + 11) + am_lo z) (am_lo k)
def am_ckt (k pc : Nat) (lo : Int) (L : List (Int32 × Nat)) (os : List Int) : Bool := match L, os with
  | [], _ => true
  | (v, n) :: L, o :: os => decide (v.toInt = lo) && am_off k pc o n && am_ckt k pc (lo + 1) L os
  | _ :: _, [] => false
def am_ckl (k pc : Nat) (L : List (Int32 × Nat)) (ps : List (Int × Int)) : Bool := match L, ps with
  | [], [] => true
  | (v, n) :: L, (a, o) :: ps => decide (v.toInt = a) && am_off k pc o n && am_ckl k pc L ps
  | _, _ => false
def am_okb (k j : Nat) (e : am_I) : Bool := match e with
  | (pc, ins, a, b, c, kd, lk, z) => match ins with
    | .iconst n => am_dn k j pc ins 1 && decide (Int32.ofInt n = z)
    | .bipush n => am_dn k j pc ins 2 && decide ((Int8.ofInt n).toInt32 = z)
    | .sipush n => am_dn k j pc ins 3 && decide ((Int16.ofInt n).toInt32 = z)
    | .lconst _ => am_dn k j pc ins 1
    | .ldc i => am_dn k j pc ins 2 && (match kd with
      | 0 => am_kb lk k i z
      | _ => Nat.beq (am_ow k) 2 && Nat.beq i 118)
    | .ldc2_w i => am_dn k j pc ins 3 && am_lb a k i
    | .iload_n _ => am_dn k j pc ins 1
    | .iload _ => am_dn k j pc ins 2
    | .aload_n _ => am_dn k j pc ins 1
    | .aload _ => am_dn k j pc ins 2
    | .lload_n _ => am_dn k j pc ins 1
    | .lload _ => am_dn k j pc ins 2
    | .istore_n _ => am_dn k j pc ins 1
    | .istore _ => am_dn k j pc ins 2
    | .astore_n _ => am_dn k j pc ins 1
    | .astore _ => am_dn k j pc ins 2
    | .lstore_n _ => am_dn k j pc ins 1
    | .lstore _ => am_dn k j pc ins 2
    | .iinc _ d => am_dn k j pc ins 3 && decide (Int32.ofInt d = z)
    | .iadd => am_dn k j pc ins 1
    | .isub => am_dn k j pc ins 1
    | .imul => am_dn k j pc ins 1
    | .iand => am_dn k j pc ins 1
    | .ior => am_dn k j pc ins 1
    | .ishl => am_dn k j pc ins 1
    | .ishr => am_dn k j pc ins 1
    | .iushr => am_dn k j pc ins 1
    | .ineg => am_dn k j pc ins 1
    | .idiv => am_dn k j pc ins 1
    | .irem => am_dn k j pc ins 1
    | .ladd => am_dn k j pc ins 1
    | .lmul => am_dn k j pc ins 1
    | .land => am_dn k j pc ins 1
    | .lor => am_dn k j pc ins 1
    | .ldiv => am_dn k j pc ins 1
    | .lshl => am_dn k j pc ins 1
    | .lshr => am_dn k j pc ins 1
    | .lcmp => am_dn k j pc ins 1
    | .i2l => am_dn k j pc ins 1
    | .l2i => am_dn k j pc ins 1
    | .i2b => am_dn k j pc ins 1
    | .i2c => am_dn k j pc ins 1
    | .dup => am_dn k j pc ins 1
    | .dup2 => am_dn k j pc ins 1
    | .pop => am_dn k j pc ins 1
    | .iaload => am_dn k j pc ins 1
    | .baload => am_dn k j pc ins 1
    | .iastore => am_dn k j pc ins 1
    | .bastore => am_dn k j pc ins 1
    | .arraylength => am_dn k j pc ins 1
    | .ifCond _ off => am_dn k j pc ins 3 && am_off k pc off a
    | .if_icmp _ off => am_dn k j pc ins 3 && am_off k pc off a
    | .goto off => am_d k pc ins 3 && am_off k pc off a
    | .tableswitch d lo hi offs => am_dl k pc ins && (match am_swt[a]? with
      | some (L, dd) => am_off k pc d dd && decide (hi = lo + L.length - 1) && am_ckt k pc lo L offs.toList
      | none => true)
    | .lookupswitch d ps => am_dl k pc ins && (match am_swt[a]? with
      | some (L, dd) => am_off k pc d dd && am_ckl k pc L ps.toList && (ps.toList.zip (ps.toList.drop 1)).all (fun (a, next) => a.1 < next.1)
      | none => true)
    | .getfield i => am_dn k j pc ins 3 && (match kd with
      | 0 => am_flb lk k i a b && Nat.blt a 8
      | _ => am_flb lk k i 9 b)
    | .putfield i => am_dn k j pc ins 3 && am_flb lk k i a b && Nat.blt a 8 && Nat.beq (am_fkd a b) kd && Nat.ble kd 3 && (Nat.ble kd 2 || (am_isI k && Nat.beq a (am_ow k)))
    | .getstatic i => am_dn k j pc ins 3 && am_slb lk k i a
    | .new i => am_dn k j pc ins 3 && am_nlb lk k i a && Nat.blt a 8
    | .newarray _ => am_dn k j pc ins 2
    | .invokevirtual i => am_dn k j pc ins 3 && (match kd with
      | 0 => am_mlb lk k i a false && Nat.blt a 1000 && am_cal k a b 1 1 && ((Nat.beq c 100 && Nat.beq (am_ow a) 9) || (Nat.beq c (am_ow a) && Nat.blt c 8))
      | _ => true)
    | .invokespecial i => am_dn k j pc ins 3 && (match kd with
      | 0 => am_mlb lk k i a true && Nat.blt a 1000 && am_cal k a b 2 1
      | 5 => am_mlb lk k i 1005 false && Nat.ble 1 (am_fr k) && Nat.ble 20 (am_lo k)
      | 6 => am_mlb lk k i a true && Nat.blt a 1000 && am_cal k a b 2 1
      | _ => true)
    | .invokestatic i => am_dn k j pc ins 3 && (match kd with
      | 0 => am_mlb lk k i a false && Nat.blt a 1000 && am_cal k a b 0 0
      | n + 1 => (match Nat.ble n 3 with
        | true => am_mlb lk k i (1001 + n) false && Nat.ble 1 (am_fr k) && Nat.ble 26 (am_lo k)
        | false => true))
    | .ireturn => am_d k pc ins 1 && (match a with
      | 0 => decide (am_rt k = some .int)
      | 1 => decide (am_rt k = some .boolean)
      | 2 => decide (am_rt k = some .char)
      | _ => decide (am_rt k = some .byte))
    | .lreturn => am_d k pc ins 1 && decide (am_rt k = some .long)
    | .areturn => am_d k pc ins 1 && (match am_rt k with
      | some (.object _) => true
      | _ => false)
    | .return_ => am_d k pc ins 1 && decide (am_rt k = none)
    | _ => true
def am_ckg (k j : Nat) (t : List am_I) : Bool := match t with
  | [] => true
  | e :: t => am_okb k j e && am_ckg k (j + 1) t
theorem am_ckg_spec (k : Nat) : ∀ (t : List am_I) (j : Nat), am_ckg k j t = true → ∀ (i : Nat) (e : am_I), t[i]? = some e → am_okb k (j + i) e = true := by
  intro t
  induction t with
  | nil => intro j _ i e h; simp at h
  | cons a t ih =>
    intro j h i e he
    simp only [am_ckg, Bool.and_eq_true] at h
    cases i with
    | zero => simp at he; subst he; exact h.1
    | succ i =>
      simp at he
      have := ih (j + 1) h.2 i e he
      rw [show j + (i + 1) = j + 1 + i by omega]
      exact this
end
section
set_option maxRecDepth 100000 in
theorem am_k0 : am_ckg 0 0 (am_tab 0) = true := by decide +kernel
set_option maxRecDepth 100000 in
theorem am_k1 : am_ckg 1 0 (am_tab 1) = true := by decide +kernel
set_option maxRecDepth 100000 in
theorem am_k2 : am_ckg 2 0 (am_tab 2) = true := by decide +kernel
set_option maxRecDepth 100000 in
theorem am_k3 : am_ckg 3 0 (am_tab 3) = true := by decide +kernel
set_option maxRecDepth 100000 in
theorem am_k4 : am_ckg 4 0 (am_tab 4) = true := by decide +kernel
set_option maxRecDepth 100000 in
theorem am_k5 : am_ckg 5 0 (am_tab 5) = true := by decide +kernel
set_option maxRecDepth 100000 in
theorem am_k6 : am_ckg 6 0 (am_tab 6) = true := by decide +kernel
set_option maxRecDepth 100000 in
theorem am_k7 : am_ckg 7 0 (am_tab 7) = true := by decide +kernel
set_option maxRecDepth 100000 in
theorem am_k8 : am_ckg 8 0 (am_tab 8) = true := by decide +kernel
set_option maxRecDepth 100000 in
theorem am_k9 : am_ckg 9 0 (am_tab 9) = true := by decide +kernel
set_option maxRecDepth 100000 in
theorem am_k10 : am_ckg 10 0 (am_tab 10) = true := by decide +kernel
set_option maxRecDepth 100000 in
theorem am_k11 : am_ckg 11 0 (am_tab 11) = true := by decide +kernel
set_option maxRecDepth 100000 in
theorem am_k12 : am_ckg 12 0 (am_tab 12) = true := by decide +kernel
set_option maxRecDepth 100000 in
theorem am_k13 : am_ckg 13 0 (am_tab 13) = true := by decide +kernel
set_option maxRecDepth 100000 in
theorem am_k14 : am_ckg 14 0 (am_tab 14) = true := by decide +kernel
set_option maxRecDepth 100000 in
theorem am_k15 : am_ckg 15 0 (am_tab 15) = true := by decide +kernel
set_option maxRecDepth 100000 in
theorem am_k16 : am_ckg 16 0 (am_tab 16) = true := by decide +kernel
set_option maxRecDepth 100000 in
theorem am_k17 : am_ckg 17 0 (am_tab 17) = true := by decide +kernel
set_option maxRecDepth 100000 in
theorem am_k18 : am_ckg 18 0 (am_tab 18) = true := by decide +kernel
set_option maxRecDepth 100000 in
theorem am_k19 : am_ckg 19 0 (am_tab 19) = true := by decide +kernel
set_option maxRecDepth 100000 in
theorem am_k20 : am_ckg 20 0 (am_tab 20) = true := by decide +kernel
set_option maxRecDepth 100000 in
theorem am_k21 : am_ckg 21 0 (am_tab 21) = true := by decide +kernel
set_option maxRecDepth 100000 in
theorem am_k22 : am_ckg 22 0 (am_tab 22) = true := by decide +kernel
set_option maxRecDepth 100000 in
theorem am_k23 : am_ckg 23 0 (am_tab 23) = true := by decide +kernel
set_option maxRecDepth 100000 in
theorem am_k24 : am_ckg 24 0 (am_tab 24) = true := by decide +kernel
set_option maxRecDepth 100000 in
theorem am_k25 : am_ckg 25 0 (am_tab 25) = true := by decide +kernel
set_option maxRecDepth 100000 in
theorem am_k26 : am_ckg 26 0 (am_tab 26) = true := by decide +kernel
set_option maxRecDepth 100000 in
theorem am_k27 : am_ckg 27 0 (am_tab 27) = true := by decide +kernel
set_option maxRecDepth 100000 in
theorem am_k28 : am_ckg 28 0 (am_tab 28) = true := by decide +kernel
set_option maxRecDepth 100000 in
theorem am_k29 : am_ckg 29 0 (am_tab 29) = true := by decide +kernel
set_option maxRecDepth 100000 in
theorem am_k30 : am_ckg 30 0 (am_tab 30) = true := by decide +kernel
set_option maxRecDepth 100000 in
theorem am_k31 : am_ckg 31 0 (am_tab 31) = true := by decide +kernel
set_option maxRecDepth 100000 in
theorem am_k32 : am_ckg 32 0 (am_tab 32) = true := by decide +kernel
set_option maxRecDepth 100000 in
theorem am_k33 : am_ckg 33 0 (am_tab 33) = true := by decide +kernel
set_option maxRecDepth 100000 in
theorem am_k34 : am_ckg 34 0 (am_tab 34) = true := by decide +kernel
set_option maxRecDepth 100000 in
theorem am_k35 : am_ckg 35 0 (am_tab 35) = true := by decide +kernel
set_option maxRecDepth 100000 in
theorem am_k36 : am_ckg 36 0 (am_tab 36) = true := by decide +kernel
set_option maxRecDepth 100000 in
theorem am_k37 : am_ckg 37 0 (am_tab 37) = true := by decide +kernel
set_option maxRecDepth 100000 in
theorem am_k38 : am_ckg 38 0 (am_tab 38) = true := by decide +kernel
set_option maxRecDepth 100000 in
theorem am_k39 : am_ckg 39 0 (am_tab 39) = true := by decide +kernel
set_option maxRecDepth 100000 in
theorem am_k40 : am_ckg 40 0 (am_tab 40) = true := by decide +kernel
set_option maxRecDepth 100000 in
theorem am_k41 : am_ckg 41 0 (am_tab 41) = true := by decide +kernel
set_option maxRecDepth 100000 in
theorem am_k42 : am_ckg 42 0 (am_tab 42) = true := by decide +kernel
set_option maxRecDepth 100000 in
theorem am_k43 : am_ckg 43 0 (am_tab 43) = true := by decide +kernel
set_option maxRecDepth 100000 in
theorem am_k44 : am_ckg 44 0 (am_tab 44) = true := by decide +kernel
set_option maxRecDepth 100000 in
theorem am_k45 : am_ckg 45 0 (am_tab 45) = true := by decide +kernel
set_option maxRecDepth 100000 in
theorem am_k46 : am_ckg 46 0 (am_tab 46) = true := by decide +kernel
set_option maxRecDepth 100000 in
theorem am_k47 : am_ckg 47 0 (am_tab 47) = true := by decide +kernel
set_option maxRecDepth 100000 in
theorem am_k48 : am_ckg 48 0 (am_tab 48) = true := by decide +kernel
set_option maxRecDepth 100000 in
theorem am_k49 : am_ckg 49 0 (am_tab 49) = true := by decide +kernel
set_option maxRecDepth 100000 in
theorem am_k50 : am_ckg 50 0 (am_tab 50) = true := by decide +kernel
set_option maxRecDepth 100000 in
theorem am_k51 : am_ckg 51 0 (am_tab 51) = true := by decide +kernel
set_option maxRecDepth 100000 in
theorem am_k52 : am_ckg 52 0 (am_tab 52) = true := by decide +kernel
set_option maxRecDepth 100000 in
theorem am_k53 : am_ckg 53 0 (am_tab 53) = true := by decide +kernel
set_option maxRecDepth 100000 in
theorem am_k54 : am_ckg 54 0 (am_tab 54) = true := by decide +kernel
set_option maxRecDepth 100000 in
theorem am_k55 : am_ckg 55 0 (am_tab 55) = true := by decide +kernel
set_option maxRecDepth 100000 in
theorem am_k56 : am_ckg 56 0 (am_tab 56) = true := by decide +kernel
set_option maxRecDepth 100000 in
theorem am_k57 : am_ckg 57 0 (am_tab 57) = true := by decide +kernel
set_option maxRecDepth 100000 in
theorem am_k58 : am_ckg 58 0 (am_tab 58) = true := by decide +kernel
set_option maxRecDepth 100000 in
theorem am_k59 : am_ckg 59 0 (am_tab 59) = true := by decide +kernel
end
section
set_option maxRecDepth 100000 in
theorem am_k60 : am_ckg 60 0 (am_tab 60) = true := by decide +kernel
set_option maxRecDepth 100000 in
theorem am_k61 : am_ckg 61 0 (am_tab 61) = true := by decide +kernel
set_option maxRecDepth 100000 in
theorem am_k62 : am_ckg 62 0 (am_tab 62) = true := by decide +kernel
set_option maxRecDepth 100000 in
theorem am_k63 : am_ckg 63 0 (am_tab 63) = true := by decide +kernel
set_option maxRecDepth 100000 in
theorem am_k64 : am_ckg 64 0 (am_tab 64) = true := by decide +kernel
set_option maxRecDepth 100000 in
theorem am_k65 : am_ckg 65 0 (am_tab 65) = true := by decide +kernel
set_option maxRecDepth 100000 in
theorem am_k66 : am_ckg 66 0 (am_tab 66) = true := by decide +kernel
set_option maxRecDepth 100000 in
theorem am_k67 : am_ckg 67 0 (am_tab 67) = true := by decide +kernel
set_option maxRecDepth 100000 in
theorem am_k68 : am_ckg 68 0 (am_tab 68) = true := by decide +kernel
set_option maxRecDepth 100000 in
theorem am_k69 : am_ckg 69 0 (am_tab 69) = true := by decide +kernel
set_option maxRecDepth 100000 in
theorem am_k70 : am_ckg 70 0 (am_tab 70) = true := by decide +kernel
set_option maxRecDepth 100000 in
theorem am_k71 : am_ckg 71 0 (am_tab 71) = true := by decide +kernel
set_option maxRecDepth 100000 in
theorem am_k72 : am_ckg 72 0 (am_tab 72) = true := by decide +kernel
set_option maxRecDepth 100000 in
theorem am_k73 : am_ckg 73 0 (am_tab 73) = true := by decide +kernel
set_option maxRecDepth 100000 in
theorem am_k74 : am_ckg 74 0 (am_tab 74) = true := by decide +kernel
set_option maxRecDepth 100000 in
theorem am_k75 : am_ckg 75 0 (am_tab 75) = true := by decide +kernel
set_option maxRecDepth 100000 in
theorem am_k76 : am_ckg 76 0 (am_tab 76) = true := by decide +kernel
set_option maxRecDepth 100000 in
theorem am_k77 : am_ckg 77 0 (am_tab 77) = true := by decide +kernel
set_option maxRecDepth 100000 in
theorem am_k78 : am_ckg 78 0 (am_tab 78) = true := by decide +kernel
set_option maxRecDepth 100000 in
theorem am_k79 : am_ckg 79 0 (am_tab 79) = true := by decide +kernel
set_option maxRecDepth 100000 in
theorem am_k80 : am_ckg 80 0 (am_tab 80) = true := by decide +kernel
set_option maxRecDepth 100000 in
theorem am_k81 : am_ckg 81 0 (am_tab 81) = true := by decide +kernel
set_option maxRecDepth 100000 in
theorem am_k82 : am_ckg 82 0 (am_tab 82) = true := by decide +kernel
set_option maxRecDepth 100000 in
theorem am_k83 : am_ckg 83 0 (am_tab 83) = true := by decide +kernel
set_option maxRecDepth 100000 in
theorem am_k84 : am_ckg 84 0 (am_tab 84) = true := by decide +kernel
set_option maxRecDepth 100000 in
theorem am_k85 : am_ckg 85 0 (am_tab 85) = true := by decide +kernel
set_option maxRecDepth 100000 in
theorem am_k86 : am_ckg 86 0 (am_tab 86) = true := by decide +kernel
set_option maxRecDepth 100000 in
theorem am_k87 : am_ckg 87 0 (am_tab 87) = true := by decide +kernel
set_option maxRecDepth 100000 in
theorem am_k88 : am_ckg 88 0 (am_tab 88) = true := by decide +kernel
set_option maxRecDepth 100000 in
theorem am_k89 : am_ckg 89 0 (am_tab 89) = true := by decide +kernel
set_option maxRecDepth 100000 in
theorem am_k90 : am_ckg 90 0 (am_tab 90) = true := by decide +kernel
set_option maxRecDepth 100000 in
theorem am_k91 : am_ckg 91 0 (am_tab 91) = true := by decide +kernel
set_option maxRecDepth 100000 in
theorem am_k92 : am_ckg 92 0 (am_tab 92) = true := by decide +kernel
set_option maxRecDepth 100000 in
theorem am_k93 : am_ckg 93 0 (am_tab 93) = true := by decide +kernel
set_option maxRecDepth 100000 in
theorem am_k94 : am_ckg 94 0 (am_tab 94) = true := by decide +kernel
set_option maxRecDepth 100000 in
theorem am_k95 : am_ckg 95 0 (am_tab 95) = true := by decide +kernel
set_option maxRecDepth 100000 in
theorem am_k96 : am_ckg 96 0 (am_tab 96) = true := by decide +kernel
set_option maxRecDepth 100000 in
theorem am_k97 : am_ckg 97 0 (am_tab 97) = true := by decide +kernel
set_option maxRecDepth 100000 in
theorem am_k98 : am_ckg 98 0 (am_tab 98) = true := by decide +kernel
set_option maxRecDepth 100000 in
theorem am_k99 : am_ckg 99 0 (am_tab 99) = true := by decide +kernel
set_option maxRecDepth 100000 in
theorem am_k100 : am_ckg 100 0 (am_tab 100) = true := by decide +kernel
set_option maxRecDepth 100000 in
theorem am_k101 : am_ckg 101 0 (am_tab 101) = true := by decide +kernel
set_option maxRecDepth 100000 in
theorem am_k102 : am_ckg 102 0 (am_tab 102) = true := by decide +kernel
set_option maxRecDepth 100000 in
theorem am_k103 : am_ckg 103 0 (am_tab 103) = true := by decide +kernel
set_option maxRecDepth 100000 in
theorem am_k104 : am_ckg 104 0 (am_tab 104) = true := by decide +kernel
set_option maxRecDepth 100000 in
theorem am_k105 : am_ckg 105 0 (am_tab 105) = true := by decide +kernel
set_option maxRecDepth 100000 in
theorem am_k106 : am_ckg 106 0 (am_tab 106) = true := by decide +kernel
set_option maxRecDepth 100000 in
theorem am_k107 : am_ckg 107 0 (am_tab 107) = true := by decide +kernel
set_option maxRecDepth 100000 in
theorem am_k108 : am_ckg 108 0 (am_tab 108) = true := by decide +kernel
set_option maxRecDepth 100000 in
theorem am_k109 : am_ckg 109 0 (am_tab 109) = true := by decide +kernel
set_option maxRecDepth 100000 in
theorem am_k110 : am_ckg 110 0 (am_tab 110) = true := by decide +kernel
set_option maxRecDepth 100000 in
theorem am_k111 : am_ckg 111 0 (am_tab 111) = true := by decide +kernel
set_option maxRecDepth 100000 in
theorem am_k112 : am_ckg 112 0 (am_tab 112) = true := by decide +kernel
set_option maxRecDepth 100000 in
theorem am_k113 : am_ckg 113 0 (am_tab 113) = true := by decide +kernel
set_option maxRecDepth 100000 in
theorem am_k114 : am_ckg 114 0 (am_tab 114) = true := by decide +kernel
set_option maxRecDepth 100000 in
theorem am_k115 : am_ckg 115 0 (am_tab 115) = true := by decide +kernel
set_option maxRecDepth 100000 in
theorem am_k116 : am_ckg 116 0 (am_tab 116) = true := by decide +kernel
set_option maxRecDepth 100000 in
theorem am_k117 : am_ckg 117 0 (am_tab 117) = true := by decide +kernel
set_option maxRecDepth 100000 in
theorem am_k118 : am_ckg 118 0 (am_tab 118) = true := by decide +kernel
set_option maxRecDepth 100000 in
theorem am_k119 : am_ckg 119 0 (am_tab 119) = true := by decide +kernel
set_option maxRecDepth 100000 in
theorem am_k120 : am_ckg 120 0 (am_tab 120) = true := by decide +kernel
set_option maxRecDepth 100000 in
theorem am_k121 : am_ckg 121 0 (am_tab 121) = true := by decide +kernel
set_option maxRecDepth 100000 in
theorem am_k122 : am_ckg 122 0 (am_tab 122) = true := by decide +kernel
set_option maxRecDepth 100000 in
theorem am_k123 : am_ckg 123 0 (am_tab 123) = true := by decide +kernel
set_option maxRecDepth 100000 in
theorem am_k124 : am_ckg 124 0 (am_tab 124) = true := by decide +kernel
set_option maxRecDepth 100000 in
theorem am_k125 : am_ckg 125 0 (am_tab 125) = true := by decide +kernel
set_option maxRecDepth 100000 in
theorem am_k126 : am_ckg 126 0 (am_tab 126) = true := by decide +kernel
set_option maxRecDepth 100000 in
theorem am_k127 : am_ckg 127 0 (am_tab 127) = true := by decide +kernel
set_option maxRecDepth 100000 in
theorem am_k128 : am_ckg 128 0 (am_tab 128) = true := by decide +kernel
set_option maxRecDepth 100000 in
theorem am_k129 : am_ckg 129 0 (am_tab 129) = true := by decide +kernel
end
section
set_option maxRecDepth 100000 in
theorem am_k130 : am_ckg 130 0 (am_tab 130) = true := by decide +kernel
set_option maxRecDepth 100000 in
theorem am_k131 : am_ckg 131 0 (am_tab 131) = true := by decide +kernel
set_option maxRecDepth 100000 in
theorem am_k132 : am_ckg 132 0 (am_tab 132) = true := by decide +kernel
set_option maxRecDepth 100000 in
theorem am_k133 : am_ckg 133 0 (am_tab 133) = true := by decide +kernel
set_option maxRecDepth 100000 in
theorem am_k134 : am_ckg 134 0 (am_tab 134) = true := by decide +kernel
set_option maxRecDepth 100000 in
theorem am_k135 : am_ckg 135 0 (am_tab 135) = true := by decide +kernel
set_option maxRecDepth 100000 in
theorem am_k136 : am_ckg 136 0 (am_tab 136) = true := by decide +kernel
set_option maxRecDepth 100000 in
theorem am_k137 : am_ckg 137 0 (am_tab 137) = true := by decide +kernel
set_option maxRecDepth 100000 in
theorem am_k138 : am_ckg 138 0 (am_tab 138) = true := by decide +kernel
set_option maxRecDepth 100000 in
theorem am_k139 : am_ckg 139 0 (am_tab 139) = true := by decide +kernel
set_option maxRecDepth 100000 in
theorem am_k140 : am_ckg 140 0 (am_tab 140) = true := by decide +kernel
set_option maxRecDepth 100000 in
theorem am_k141 : am_ckg 141 0 (am_tab 141) = true := by decide +kernel
set_option maxRecDepth 100000 in
theorem am_k142 : am_ckg 142 0 (am_tab 142) = true := by decide +kernel
set_option maxRecDepth 100000 in
theorem am_k143 : am_ckg 143 0 (am_tab 143) = true := by decide +kernel
set_option maxRecDepth 100000 in
theorem am_k144 : am_ckg 144 0 (am_tab 144) = true := by decide +kernel
set_option maxRecDepth 100000 in
theorem am_k145 : am_ckg 145 0 (am_tab 145) = true := by decide +kernel
set_option maxRecDepth 100000 in
theorem am_k146 : am_ckg 146 0 (am_tab 146) = true := by decide +kernel
set_option maxRecDepth 100000 in
theorem am_k147 : am_ckg 147 0 (am_tab 147) = true := by decide +kernel
set_option maxRecDepth 100000 in
theorem am_k148 : am_ckg 148 0 (am_tab 148) = true := by decide +kernel
set_option maxRecDepth 100000 in
theorem am_k149 : am_ckg 149 0 (am_tab 149) = true := by decide +kernel
set_option maxRecDepth 100000 in
theorem am_k150 : am_ckg 150 0 (am_tab 150) = true := by decide +kernel
set_option maxRecDepth 100000 in
theorem am_k151 : am_ckg 151 0 (am_tab 151) = true := by decide +kernel
set_option maxRecDepth 100000 in
theorem am_k152 : am_ckg 152 0 (am_tab 152) = true := by decide +kernel
set_option maxRecDepth 100000 in
theorem am_k153 : am_ckg 153 0 (am_tab 153) = true := by decide +kernel
set_option maxRecDepth 100000 in
theorem am_k154 : am_ckg 154 0 (am_tab 154) = true := by decide +kernel
set_option maxRecDepth 100000 in
theorem am_k155 : am_ckg 155 0 (am_tab 155) = true := by decide +kernel
set_option maxRecDepth 100000 in
theorem am_k156 : am_ckg 156 0 (am_tab 156) = true := by decide +kernel
set_option maxRecDepth 100000 in
theorem am_k157 : am_ckg 157 0 (am_tab 157) = true := by decide +kernel
set_option maxRecDepth 100000 in
theorem am_k158 : am_ckg 158 0 (am_tab 158) = true := by decide +kernel
set_option maxRecDepth 100000 in
theorem am_k159 : am_ckg 159 0 (am_tab 159) = true := by decide +kernel
set_option maxRecDepth 100000 in
theorem am_k160 : am_ckg 160 0 (am_tab 160) = true := by decide +kernel
set_option maxRecDepth 100000 in
theorem am_k161 : am_ckg 161 0 (am_tab 161) = true := by decide +kernel
set_option maxRecDepth 100000 in
theorem am_k162 : am_ckg 162 0 (am_tab 162) = true := by decide +kernel
set_option maxRecDepth 100000 in
theorem am_k163 : am_ckg 163 0 (am_tab 163) = true := by decide +kernel
set_option maxRecDepth 100000 in
theorem am_k164 : am_ckg 164 0 (am_tab 164) = true := by decide +kernel
set_option maxRecDepth 100000 in
theorem am_k165 : am_ckg 165 0 (am_tab 165) = true := by decide +kernel
set_option maxRecDepth 100000 in
theorem am_k166 : am_ckg 166 0 (am_tab 166) = true := by decide +kernel
set_option maxRecDepth 100000 in
theorem am_k167 : am_ckg 167 0 (am_tab 167) = true := by decide +kernel
set_option maxRecDepth 100000 in
theorem am_k168 : am_ckg 168 0 (am_tab 168) = true := by decide +kernel
set_option maxRecDepth 100000 in
theorem am_k169 : am_ckg 169 0 (am_tab 169) = true := by decide +kernel
set_option maxRecDepth 100000 in
theorem am_k170 : am_ckg 170 0 (am_tab 170) = true := by decide +kernel
end
section
theorem am_ckg_app (k : Nat) : ∀ (a b : List am_I) (j : Nat), am_ckg k j a = true → am_ckg k (j + a.length) b = true → am_ckg k j (a ++ b) = true := by
  intro a
  induction a with
  | nil => intro b j _ h; exact h
  | cons e a ih =>
    intro b j h1 h2
    simp only [am_ckg, List.cons_append, Bool.and_eq_true] at h1 ⊢
    refine ⟨h1.1, ih b (j + 1) h1.2 ?_⟩
    rw [List.length_cons] at h2
    rwa [show j + 1 + a.length = j + (a.length + 1) by omega]
theorem am_ckg_dn (k a n : Nat) (t : List am_I) (h1 : am_ckg k a ((t.drop a).take n) = true) (h2 : am_ckg k (a + n) (t.drop (a + n)) = true) (hl : a + n ≤ t.length) : am_ckg k a (t.drop a) = true := by
  have e : t.drop a = (t.drop a).take n ++ t.drop (a + n) := by rw [← List.drop_drop, List.take_append_drop]
  rw [e]
  refine am_ckg_app k _ _ a h1 ?_
  rw [show ((t.drop a).take n).length = n by simp; omega]
  exact h2
set_option maxRecDepth 100000 in
theorem am_k171_0 : am_ckg 171 0 ((am_t171.drop 0).take 40) = true := by decide +kernel
set_option maxRecDepth 100000 in
theorem am_k171_1 : am_ckg 171 40 ((am_t171.drop 40).take 40) = true := by decide +kernel
set_option maxRecDepth 100000 in
theorem am_k171_2 : am_ckg 171 80 ((am_t171.drop 80).take 40) = true := by decide +kernel
set_option maxRecDepth 100000 in
theorem am_k171_3 : am_ckg 171 120 ((am_t171.drop 120).take 40) = true := by decide +kernel
set_option maxRecDepth 100000 in
theorem am_k171_4 : am_ckg 171 160 ((am_t171.drop 160).take 40) = true := by decide +kernel
set_option maxRecDepth 100000 in
theorem am_k171_5 : am_ckg 171 200 ((am_t171.drop 200).take 40) = true := by decide +kernel
set_option maxRecDepth 100000 in
theorem am_k171_6 : am_ckg 171 240 ((am_t171.drop 240).take 40) = true := by decide +kernel
set_option maxRecDepth 100000 in
theorem am_k171_7 : am_ckg 171 280 ((am_t171.drop 280).take 40) = true := by decide +kernel
set_option maxRecDepth 100000 in
theorem am_k171_8 : am_ckg 171 320 ((am_t171.drop 320).take 40) = true := by decide +kernel
set_option maxRecDepth 100000 in
theorem am_k171_9 : am_ckg 171 360 ((am_t171.drop 360).take 40) = true := by decide +kernel
set_option maxRecDepth 100000 in
theorem am_k171_10 : am_ckg 171 400 ((am_t171.drop 400).take 40) = true := by decide +kernel
set_option maxRecDepth 100000 in
theorem am_k171_11 : am_ckg 171 440 ((am_t171.drop 440).take 40) = true := by decide +kernel
set_option maxRecDepth 100000 in
theorem am_k171_12 : am_ckg 171 480 ((am_t171.drop 480).take 40) = true := by decide +kernel
set_option maxRecDepth 100000 in
theorem am_k171_13 : am_ckg 171 520 ((am_t171.drop 520).take 40) = true := by decide +kernel
set_option maxRecDepth 100000 in
theorem am_k171_14 : am_ckg 171 560 ((am_t171.drop 560).take 40) = true := by decide +kernel
set_option maxRecDepth 100000 in
theorem am_k171_15 : am_ckg 171 600 ((am_t171.drop 600).take 40) = true := by decide +kernel
set_option maxRecDepth 100000 in
theorem am_k171_16 : am_ckg 171 640 ((am_t171.drop 640).take 40) = true := by decide +kernel
set_option maxRecDepth 100000 in
theorem am_kl171 : am_t171.length = 678 := by decide +kernel
theorem am_kd_16 : am_ckg 171 640 (am_t171.drop 640) = true := by
  have h := am_k171_16
  rwa [List.take_of_length_le (by rw [List.length_drop, am_kl171]; omega)] at h
theorem am_kd_15 : am_ckg 171 600 (am_t171.drop 600) = true := am_ckg_dn 171 600 40 am_t171 am_k171_15 am_kd_16 (by rw [am_kl171]; omega)
theorem am_kd_14 : am_ckg 171 560 (am_t171.drop 560) = true := am_ckg_dn 171 560 40 am_t171 am_k171_14 am_kd_15 (by rw [am_kl171]; omega)
theorem am_kd_13 : am_ckg 171 520 (am_t171.drop 520) = true := am_ckg_dn 171 520 40 am_t171 am_k171_13 am_kd_14 (by rw [am_kl171]; omega)
theorem am_kd_12 : am_ckg 171 480 (am_t171.drop 480) = true := am_ckg_dn 171 480 40 am_t171 am_k171_12 am_kd_13 (by rw [am_kl171]; omega)
theorem am_kd_11 : am_ckg 171 440 (am_t171.drop 440) = true := am_ckg_dn 171 440 40 am_t171 am_k171_11 am_kd_12 (by rw [am_kl171]; omega)
theorem am_kd_10 : am_ckg 171 400 (am_t171.drop 400) = true := am_ckg_dn 171 400 40 am_t171 am_k171_10 am_kd_11 (by rw [am_kl171]; omega)
theorem am_kd_9 : am_ckg 171 360 (am_t171.drop 360) = true := am_ckg_dn 171 360 40 am_t171 am_k171_9 am_kd_10 (by rw [am_kl171]; omega)
theorem am_kd_8 : am_ckg 171 320 (am_t171.drop 320) = true := am_ckg_dn 171 320 40 am_t171 am_k171_8 am_kd_9 (by rw [am_kl171]; omega)
theorem am_kd_7 : am_ckg 171 280 (am_t171.drop 280) = true := am_ckg_dn 171 280 40 am_t171 am_k171_7 am_kd_8 (by rw [am_kl171]; omega)
theorem am_kd_6 : am_ckg 171 240 (am_t171.drop 240) = true := am_ckg_dn 171 240 40 am_t171 am_k171_6 am_kd_7 (by rw [am_kl171]; omega)
theorem am_kd_5 : am_ckg 171 200 (am_t171.drop 200) = true := am_ckg_dn 171 200 40 am_t171 am_k171_5 am_kd_6 (by rw [am_kl171]; omega)
theorem am_kd_4 : am_ckg 171 160 (am_t171.drop 160) = true := am_ckg_dn 171 160 40 am_t171 am_k171_4 am_kd_5 (by rw [am_kl171]; omega)
theorem am_kd_3 : am_ckg 171 120 (am_t171.drop 120) = true := am_ckg_dn 171 120 40 am_t171 am_k171_3 am_kd_4 (by rw [am_kl171]; omega)
theorem am_kd_2 : am_ckg 171 80 (am_t171.drop 80) = true := am_ckg_dn 171 80 40 am_t171 am_k171_2 am_kd_3 (by rw [am_kl171]; omega)
theorem am_kd_1 : am_ckg 171 40 (am_t171.drop 40) = true := am_ckg_dn 171 40 40 am_t171 am_k171_1 am_kd_2 (by rw [am_kl171]; omega)
theorem am_kd_0 : am_ckg 171 0 (am_t171.drop 0) = true := am_ckg_dn 171 0 40 am_t171 am_k171_0 am_kd_1 (by rw [am_kl171]; omega)
theorem am_k171 : am_ckg 171 0 (am_tab 171) = true := am_kd_0
theorem am_k_all : ∀ k, k < 172 → am_ckg k 0 (am_tab k) = true := by
  intro k hk
  match k, hk with
  | 0, _ => exact am_k0
  | 1, _ => exact am_k1
  | 2, _ => exact am_k2
  | 3, _ => exact am_k3
  | 4, _ => exact am_k4
  | 5, _ => exact am_k5
  | 6, _ => exact am_k6
  | 7, _ => exact am_k7
  | 8, _ => exact am_k8
  | 9, _ => exact am_k9
  | 10, _ => exact am_k10
  | 11, _ => exact am_k11
  | 12, _ => exact am_k12
  | 13, _ => exact am_k13
  | 14, _ => exact am_k14
  | 15, _ => exact am_k15
  | 16, _ => exact am_k16
  | 17, _ => exact am_k17
  | 18, _ => exact am_k18
  | 19, _ => exact am_k19
  | 20, _ => exact am_k20
  | 21, _ => exact am_k21
  | 22, _ => exact am_k22
  | 23, _ => exact am_k23
  | 24, _ => exact am_k24
  | 25, _ => exact am_k25
  | 26, _ => exact am_k26
  | 27, _ => exact am_k27
  | 28, _ => exact am_k28
  | 29, _ => exact am_k29
  | 30, _ => exact am_k30
  | 31, _ => exact am_k31
  | 32, _ => exact am_k32
  | 33, _ => exact am_k33
  | 34, _ => exact am_k34
  | 35, _ => exact am_k35
  | 36, _ => exact am_k36
  | 37, _ => exact am_k37
  | 38, _ => exact am_k38
  | 39, _ => exact am_k39
  | 40, _ => exact am_k40
  | 41, _ => exact am_k41
  | 42, _ => exact am_k42
  | 43, _ => exact am_k43
  | 44, _ => exact am_k44
  | 45, _ => exact am_k45
  | 46, _ => exact am_k46
  | 47, _ => exact am_k47
  | 48, _ => exact am_k48
  | 49, _ => exact am_k49
  | 50, _ => exact am_k50
  | 51, _ => exact am_k51
  | 52, _ => exact am_k52
  | 53, _ => exact am_k53
  | 54, _ => exact am_k54
  | 55, _ => exact am_k55
  | 56, _ => exact am_k56
  | 57, _ => exact am_k57
  | 58, _ => exact am_k58
  | 59, _ => exact am_k59
  | 60, _ => exact am_k60
  | 61, _ => exact am_k61
  | 62, _ => exact am_k62
  | 63, _ => exact am_k63
  | 64, _ => exact am_k64
  | 65, _ => exact am_k65
  | 66, _ => exact am_k66
  | 67, _ => exact am_k67
  | 68, _ => exact am_k68
  | 69, _ => exact am_k69
  | 70, _ => exact am_k70
  | 71, _ => exact am_k71
  | 72, _ => exact am_k72
  | 73, _ => exact am_k73
  | 74, _ => exact am_k74
  | 75, _ => exact am_k75
  | 76, _ => exact am_k76
  | 77, _ => exact am_k77
  | 78, _ => exact am_k78
  | 79, _ => exact am_k79
  | 80, _ => exact am_k80
  | 81, _ => exact am_k81
  | 82, _ => exact am_k82
  | 83, _ => exact am_k83
  | 84, _ => exact am_k84
  | 85, _ => exact am_k85
  | 86, _ => exact am_k86
  | 87, _ => exact am_k87
  | 88, _ => exact am_k88
  | 89, _ => exact am_k89
  | 90, _ => exact am_k90
  | 91, _ => exact am_k91
  | 92, _ => exact am_k92
  | 93, _ => exact am_k93
  | 94, _ => exact am_k94
  | 95, _ => exact am_k95
  | 96, _ => exact am_k96
  | 97, _ => exact am_k97
  | 98, _ => exact am_k98
  | 99, _ => exact am_k99
  | 100, _ => exact am_k100
  | 101, _ => exact am_k101
  | 102, _ => exact am_k102
  | 103, _ => exact am_k103
  | 104, _ => exact am_k104
  | 105, _ => exact am_k105
  | 106, _ => exact am_k106
  | 107, _ => exact am_k107
  | 108, _ => exact am_k108
  | 109, _ => exact am_k109
  | 110, _ => exact am_k110
  | 111, _ => exact am_k111
  | 112, _ => exact am_k112
  | 113, _ => exact am_k113
  | 114, _ => exact am_k114
  | 115, _ => exact am_k115
  | 116, _ => exact am_k116
  | 117, _ => exact am_k117
  | 118, _ => exact am_k118
  | 119, _ => exact am_k119
  | 120, _ => exact am_k120
  | 121, _ => exact am_k121
  | 122, _ => exact am_k122
  | 123, _ => exact am_k123
  | 124, _ => exact am_k124
  | 125, _ => exact am_k125
  | 126, _ => exact am_k126
  | 127, _ => exact am_k127
  | 128, _ => exact am_k128
  | 129, _ => exact am_k129
  | 130, _ => exact am_k130
  | 131, _ => exact am_k131
  | 132, _ => exact am_k132
  | 133, _ => exact am_k133
  | 134, _ => exact am_k134
  | 135, _ => exact am_k135
  | 136, _ => exact am_k136
  | 137, _ => exact am_k137
  | 138, _ => exact am_k138
  | 139, _ => exact am_k139
  | 140, _ => exact am_k140
  | 141, _ => exact am_k141
  | 142, _ => exact am_k142
  | 143, _ => exact am_k143
  | 144, _ => exact am_k144
  | 145, _ => exact am_k145
  | 146, _ => exact am_k146
  | 147, _ => exact am_k147
  | 148, _ => exact am_k148
  | 149, _ => exact am_k149
  | 150, _ => exact am_k150
  | 151, _ => exact am_k151
  | 152, _ => exact am_k152
  | 153, _ => exact am_k153
  | 154, _ => exact am_k154
  | 155, _ => exact am_k155
  | 156, _ => exact am_k156
  | 157, _ => exact am_k157
  | 158, _ => exact am_k158
  | 159, _ => exact am_k159
  | 160, _ => exact am_k160
  | 161, _ => exact am_k161
  | 162, _ => exact am_k162
  | 163, _ => exact am_k163
  | 164, _ => exact am_k164
  | 165, _ => exact am_k165
  | 166, _ => exact am_k166
  | 167, _ => exact am_k167
  | 168, _ => exact am_k168
  | 169, _ => exact am_k169
  | 170, _ => exact am_k170
  | 171, _ => exact am_k171
  | n + 172, h => omega
theorem am_ok {k j : Nat} {e : am_I} (h : (am_tab k)[j]? = some e) : am_okb k j e = true := by
  by_cases hk : k < 172
  · have := am_ckg_spec k _ 0 (am_k_all k hk) j e h
    rwa [Nat.zero_add] at this
  · have : am_tab k = [] := by
      unfold am_tab
      rw [List.getElem?_eq_none (by show 172 ≤ k; omega)]
      rfl
    rw [this] at h
    simp at h
end
section
/-! ===== the abstract machine: memory in banks, references by numbers (32 times the bank, and the place; from 1000 on what was there before) ===== -/
abbrev am_E : Type := (Nat × vp_A) ⊕ (Nat × List Value)
abbrev am_M : Type := List (List am_E)
abbrev am_L : Type := List (Option Value)
abbrev am_C : Type := Nat × am_L × List Value × am_M
abbrev am_Sc : Type := Nat × (Nat → Int32)
def am_get (M : am_M) (n : Nat) : Option am_E := match Nat.ble 1000 n with
  | true => none
  | false => match M[n / 32]? with
    | some L => L[n % 32]?
    | none => none
def am_set (M : am_M) (n : Nat) (e : am_E) : am_M := match M[n / 32]? with
  | some L => M.set (n / 32) (L.set (n % 32) e)
  | none => M
def am_tot (M : am_M) : Nat := match M with
  | [] => 0
  | L :: M => L.length + am_tot M
def am_esl (e : am_E) : Nat := match e with
  | .inl (_, n, _) => n
  | .inr (_, fs) => fs.length
def am_lsl (L : List am_E) : Nat := match L with
  | [] => 0
  | e :: L => am_esl e + am_lsl L
def am_sl (M : am_M) : Nat := match M with
  | [] => 0
  | L :: M => am_lsl L + am_sl M
def am_okst (ls : am_L) (i : Nat) : Bool := match i with
  | 0 => Nat.ble 1 ls.length
  | i + 1 => match ls[i]? with
    | some (some (.long _)) => false
    | some (some (.double _)) => false
    | _ => Nat.ble (i + 2) ls.length
def am_okst2 (ls : am_L) (i : Nat) : Bool := am_okst ls i && Nat.ble (i + 2) ls.length
def am_inb (i : Int32) (n : Nat) : Prop := vp_in i n
def am_cats (st : List Value) : Nat := (st.map fun v => v.category).sum
def am_push (M : am_M) (e : am_E) : am_M := match M with
  | [] => []
  | [L0] => [L0 ++ [e]]
  | L0 :: L1 :: M => L0 :: am_push (L1 :: M) e
/-- the last bank's number and size -/
def am_last (M : am_M) : Nat × Nat := match M with
  | [] => (0, 0)
  | [L0] => (0, L0.length)
  | _ :: L1 :: M => ((am_last (L1 :: M)).1 + 1, (am_last (L1 :: M)).2)
def am_i1 (C : am_C) (x : Value) (st : List Value) : Option (Prop × am_C) := match C with
  | (j, ls, _, M) => some (True, (j + 1, ls, x :: st, M))
def am_br (C : am_C) (st : List Value) (n : Nat) : Option (Prop × am_C) := match C with
  | (_, ls, _, M) => some (True, (n, ls, st, M))
def am_ldi (C : am_C) (i : Nat) : Option (Prop × am_C) := match C with
  | (j, ls, st, M) => match ls[i]? with
    | some (some (.int x)) => some (True, (j + 1, ls, .int x :: st, M))
    | _ => none
def am_lda (C : am_C) (i : Nat) : Option (Prop × am_C) := match C with
  | (j, ls, st, M) => match ls[i]? with
    | some (some (.ref x)) => some (True, (j + 1, ls, .ref x :: st, M))
    | _ => none
def am_ldl (C : am_C) (i : Nat) : Option (Prop × am_C) := match C with
  | (j, ls, st, M) => match ls[i]? with
    | some (some (.long x)) => some (True, (j + 1, ls, .long x :: st, M))
    | _ => none
def am_sw (l : List (Int32 × Nat)) (d : Nat) (x : Int32) : Nat := match l with
  | [] => d
  | (v, n) :: l => if x = v then n else am_sw l d x
def am_pfk (k : Nat) (v : Value) : Option Prop := match k, v with
  | 0, .int _ => some True
  | 1, .int x => some (x = 0 ∨ x = 1)
  | 2, .long _ => some True
  | 3, .ref n => match Nat.ble 1000 n with
    | true => none
    | false => some True
  | _, _ => none
def am_getf0 (C : am_C) (a b : Nat) (n : Nat) (st : List Value) : Option (Prop × am_C) := match am_get C.2.2.2 n with
  | some (.inr (ci, fs)) => match Nat.beq ci a with
    | true => match fs[b]? with
      | some v => am_i1 C v st
      | none => none
    | false => none
  | _ => none
def am_getfS (C : am_C) (b : Nat) (n : Nat) (st : List Value) : Option (Prop × am_C) := match Nat.beq n 1010 with
  | true => match b with
    | 0 => am_i1 C (.ref 1011) st
    | _ => am_i1 C (.int 0) st
  | false => none
def am_putf (C : am_C) (a b k : Nat) (v : Value) (n : Nat) (st : List Value) : Option (Prop × am_C) := match C with
  | (j, ls, _, M) => match am_get M n with
    | some (.inr (ci, fs)) => match Nat.beq ci a, am_pfk k v, Nat.blt b fs.length with
      | true, some P, true => some (P, (j + 1, ls, st, am_set M n (.inr (ci, fs.set b v))))
      | _, _, _ => none
    | _ => none
/-- an array of whole numbers that was there before: its kind (0 int, 1 byte), length, contents -/
def am_old (sc : am_Sc) (n : Nat) : Option (Nat × Nat × (Nat → Int32)) := match Nat.beq n 1030 with
  | true => some (0, sc.1, sc.2)
  | false => match am_sta[n - 1000]? with
    | some (0, len, l) => some (0, len, fun j => l.getD j 0)
    | some (1, len, l) => some (1, len, fun j => l.getD j 0)
    | _ => none
def am_arr (sc : am_Sc) (M : am_M) (n : Nat) : Option (Nat × Nat × (Nat → Int32)) := match Nat.ble 1000 n with
  | true => am_old sc n
  | false => match am_get M n with
    | some (.inl (ty, len, .inl f)) => some (ty, len, f)
    | _ => none
def am_ald (sc : am_Sc) (C : am_C) (is : Nat → Bool) (i : Int32) (n : Nat) (st : List Value) : Option (Prop × am_C) := match C with
  | (j, ls, _, M) => match am_arr sc M n with
    | some (ty, len, f) => match is ty with
      | true => some (am_inb i len, (j + 1, ls, .int (f i.toNatClampNeg) :: st, M))
      | false => none
    | none => none
def am_asti (C : am_C) (x i : Int32) (n : Nat) (st : List Value) : Option (Prop × am_C) := match C with
  | (j, ls, _, M) => match am_get M n with
    | some (.inl (0, len, .inl f)) => some (am_inb i len, (j + 1, ls, st, am_set M n (.inl (0, len, .inl (upd f i.toNatClampNeg x)))))
    | _ => none
def am_astb (C : am_C) (x i : Int32) (n : Nat) (st : List Value) : Option (Prop × am_C) := match C with
  | (j, ls, _, M) => match am_get M n with
    | some (.inl (1, len, .inl f)) => some (am_inb i len, (j + 1, ls, st, am_set M n (.inl (1, len, .inl (upd f i.toNatClampNeg (vp_nar .byte x))))))
    | some (.inl (2, len, .inl f)) => some (am_inb i len, (j + 1, ls, st, am_set M n (.inl (2, len, .inl (upd f i.toNatClampNeg (vp_nar .boolean x))))))
    | _ => none
def am_copy (C : am_C) (st : List Value) : Option (Prop × am_C) := match C, st with
  | (j, ls, _, M), .int n :: .int dp :: .ref a :: .int sp :: .ref a0 :: st => match am_get M a0, am_get M a, Nat.beq a0 a, Nat.ble (am_cats st) 8 with
    | some (.inl (0, n0, .inl f)), some (.inl (0, n1, .inl g)), false, true => some ((¬ sp < 0 ∧ ¬ dp < 0 ∧ ¬ n < 0) ∧ sp.toNatClampNeg + n.toNatClampNeg ≤ n0 ∧ dp.toNatClampNeg + n.toNatClampNeg ≤ n1, (j + 1, ls, st, am_set M a (.inl (0, n1, .inl (va_cpy f g sp.toNatClampNeg dp.toNatClampNeg n.toNatClampNeg)))))
    | _, _, _, _ => none
  | _, _ => none
def am_math (C : am_C) (k : Nat) (st : List Value) : Option (Prop × am_C) := match k, st with
  | 1, .int y :: .int x :: st => match Nat.ble (am_cats st) 8 with
    | true => am_i1 C (.int (if x < y then y else x)) st
    | false => none
  | 2, .int y :: .int x :: st => match Nat.ble (am_cats st) 8 with
    | true => am_i1 C (.int (if y < x then y else x)) st
    | false => none
  | 3, .int x :: st => match Nat.ble (am_cats st) 8 with
    | true => am_i1 C (.int (if 0 ≤ x then x else 0 - x)) st
    | false => none
  | 4, st => am_copy C st
  | _, _ => none
/-- what an answer of a small type must be -/
def am_rp (a : Nat) (x : Int32) : Prop := match a with
  | 0 => True
  | 1 => x = 0 ∨ x = 1
  | 2 => narrow .char (.int x) = .int x
  | _ => narrow .byte (.int x) = .int x
def am_exp (vs : List Value) : am_L := match vs with
  | [] => []
  | v :: vs => match v with
    | .long _ => some v :: none :: am_exp vs
    | .double _ => some v :: none :: am_exp vs
    | _ => some v :: am_exp vs
def am_call (C : am_C) (z n : Nat) (st : List Value) : Option (Nat × List Value × am_C) := match C with
  | (j, ls, _, M) => match Nat.ble n st.length, Nat.ble (am_cats (st.drop n)) 8, Nat.ble (am_exp (st.take n).reverse).length (am_ml z) with
    | true, true, true => some (z, (st.take n).reverse, (j + 1, ls, st.drop n, M))
    | _, _, _ => none
/-- the receiver, under n values, is an object of class a (100: the constant text) -/
def am_recv (M : am_M) (a n : Nat) (st : List Value) : Bool := match st[n]? with
  | some (.ref o) => match Nat.beq a 100 with
    | true => Nat.beq o 1010
    | false => match am_get M o with
      | some (.inr (ci, _)) => Nat.beq ci a
      | _ => false
  | _ => false
/-- under n values lies an object of ours -/
def am_rcI (n : Nat) (st : List Value) : Bool := match st[n]? with
  | some (.ref o) => Nat.blt o 1000
  | _ => false
def am_new (C : am_C) (a : Nat) : Option (Prop × am_C) := match C with
  | (j, ls, st, M) => match am_df[a]? with
    | some fs => match Nat.beq (am_tot M) (am_of M.length) && Nat.blt (32 * M.length) 1000 with
      | true => some (True, (j + 1, ls, .ref (32 * M.length) :: st, M ++ [[.inr (a, fs)]]))
      | false => none
    | none => none
def am_newa (C : am_C) (ty : Nat) (n : Int32) (st : List Value) : Option (Prop × am_C) := match C with
  | (j, ls, _, M) => match Nat.beq (am_tot M) (am_of (am_last M).1 + (am_last M).2), Nat.blt 0 M.length, Nat.blt (am_last M).2 32 && Nat.blt (32 * (am_last M).1 + (am_last M).2) 1000, Nat.ble n.toNatClampNeg 1000 with
    | true, true, true, true => some (¬ n < 0, (j + 1, ls, .ref (32 * (am_last M).1 + (am_last M).2) :: st, am_push M (.inl (ty, n.toNatClampNeg, .inl (fun _ => 0)))))
    | _, _, _, _ => none
def am_aty (t : ArrayType) : Option Nat := match t with
  | .int => some 0
  | .byte => some 1
  | .boolean => some 2
  | _ => none
def am_psh (C : am_C) (v : Value) : Option (Prop × am_C) := match C with
  | (j, ls, st, M) => some (True, (j + 1, ls, v :: st, M))
def am_ii (C : am_C) (f : Int32 → Int32 → Value) : Option (Prop × am_C) := match C with
  | (j, ls, .int y :: .int x :: st, M) => some (True, (j + 1, ls, f x y :: st, M))
  | _ => none
def am_iid (C : am_C) (f : Int32 → Int32 → Value) : Option (Prop × am_C) := match C with
  | (j, ls, .int y :: .int x :: st, M) => some (¬ y = 0, (j + 1, ls, f x y :: st, M))
  | _ => none
def am_i_ (C : am_C) (f : Int32 → Value) : Option (Prop × am_C) := match C with
  | (j, ls, .int x :: st, M) => some (True, (j + 1, ls, f x :: st, M))
  | _ => none
def am_ll (C : am_C) (f : Int64 → Int64 → Value) : Option (Prop × am_C) := match C with
  | (j, ls, .long y :: .long x :: st, M) => some (True, (j + 1, ls, f x y :: st, M))
  | _ => none
def am_lld (C : am_C) (f : Int64 → Int64 → Value) : Option (Prop × am_C) := match C with
  | (j, ls, .long y :: .long x :: st, M) => some (¬ y = 0, (j + 1, ls, f x y :: st, M))
  | _ => none
def am_li (C : am_C) (f : Int64 → Int32 → Value) : Option (Prop × am_C) := match C with
  | (j, ls, .int y :: .long x :: st, M) => some (True, (j + 1, ls, f x y :: st, M))
  | _ => none
def am_l_ (C : am_C) (f : Int64 → Value) : Option (Prop × am_C) := match C with
  | (j, ls, .long x :: st, M) => some (True, (j + 1, ls, f x :: st, M))
  | _ => none
def am_c1 (C : am_C) (f : Int32 → Nat) : Option (Prop × am_C) := match C with
  | (_, ls, .int x :: st, M) => some (True, (f x, ls, st, M))
  | _ => none
def am_c2 (C : am_C) (f : Int32 → Int32 → Nat) : Option (Prop × am_C) := match C with
  | (_, ls, .int y :: .int x :: st, M) => some (True, (f x y, ls, st, M))
  | _ => none
def am_dup (C : am_C) : Option (Prop × am_C) := match C with
  | (j, ls, .int x :: st, M) => some (True, (j + 1, ls, .int x :: .int x :: st, M))
  | (j, ls, .ref x :: st, M) => some (True, (j + 1, ls, .ref x :: .ref x :: st, M))
  | _ => none
def am_dup2 (C : am_C) : Option (Prop × am_C) := match C with
  | (j, ls, .int y :: .int x :: st, M) => some (True, (j + 1, ls, .int y :: .int x :: .int y :: .int x :: st, M))
  | (j, ls, .int y :: .ref x :: st, M) => some (True, (j + 1, ls, .int y :: .ref x :: .int y :: .ref x :: st, M))
  | _ => none
def am_pop (C : am_C) : Option (Prop × am_C) := match C with
  | (j, ls, .int _ :: st, M) => some (True, (j + 1, ls, st, M))
  | _ => none
def am_iinc (C : am_C) (i : Nat) (z : Int32) : Option (Prop × am_C) := match C with
  | (j, ls, st, M) => match ls[i]? with
    | some (some (.int x)) => match am_okst ls i with
      | true => some (True, (j + 1, ls.set i (some (.int (x + z))), st, M))
      | false => none
    | _ => none
def am_si (C : am_C) (i : Nat) : Option (Prop × am_C) := match C with
  | (j, ls, .int x :: st, M) => match am_okst ls i with
    | true => some (True, (j + 1, ls.set i (some (.int x)), st, M))
    | false => none
  | _ => none
def am_sa (C : am_C) (i : Nat) : Option (Prop × am_C) := match C with
  | (j, ls, .ref x :: st, M) => match am_okst ls i with
    | true => some (True, (j + 1, ls.set i (some (.ref x)), st, M))
    | false => none
  | _ => none
def am_sl2 (C : am_C) (i : Nat) : Option (Prop × am_C) := match C with
  | (j, ls, .long x :: st, M) => match am_okst2 ls i with
    | true => some (True, (j + 1, (ls.set i (some (.long x))).set (i + 1) none, st, M))
    | false => none
  | _ => none
def am_gf (C : am_C) (a b k : Nat) : Option (Prop × am_C) := match C with
  | (j, ls, .ref n :: st, M) => match k with
    | 0 => am_getf0 (j, ls, [], M) a b n st
    | _ => am_getfS (j, ls, [], M) b n st
  | _ => none
def am_pf (C : am_C) (a b k : Nat) : Option (Prop × am_C) := match C with
  | (j, ls, v :: .ref n :: st, M) => am_putf (j, ls, [], M) a b k v n st
  | _ => none
def am_ia (sc : am_Sc) (C : am_C) : Option (Prop × am_C) := match C with
  | (j, ls, .int i :: .ref n :: st, M) => am_ald sc (j, ls, [], M) (fun ty => Nat.beq ty 0) i n st
  | _ => none
def am_ba (sc : am_Sc) (C : am_C) : Option (Prop × am_C) := match C with
  | (j, ls, .int i :: .ref n :: st, M) => am_ald sc (j, ls, [], M) (fun ty => Nat.beq ty 1 || Nat.beq ty 2) i n st
  | _ => none
def am_is (C : am_C) : Option (Prop × am_C) := match C with
  | (j, ls, .int x :: .int i :: .ref n :: st, M) => am_asti (j, ls, [], M) x i n st
  | _ => none
def am_bs (C : am_C) : Option (Prop × am_C) := match C with
  | (j, ls, .int x :: .int i :: .ref n :: st, M) => am_astb (j, ls, [], M) x i n st
  | _ => none
def am_aln (sc : am_Sc) (C : am_C) : Option (Prop × am_C) := match C with
  | (j, ls, .ref n :: st, M) => match am_arr sc M n with
    | some (ty, len, _) => match Nat.blt ty 3 with
      | true => some (True, (j + 1, ls, .int (Int32.ofNat len) :: st, M))
      | false => none
    | none => none
  | _ => none
def am_na (C : am_C) (at_ : ArrayType) : Option (Prop × am_C) := match C with
  | (j, ls, .int n :: st, M) => match am_aty at_ with
    | some ty => am_newa (j, ls, [], M) ty n st
    | none => none
  | _ => none
def am_oi (C : am_C) (k : Nat) : Option (Prop × am_C) := match C with
  | (j, ls, .ref n :: st, M) => match Nat.beq k 5, Nat.ble (am_cats st) 8, Nat.blt n 1000 with
    | true, true, true => some (True, (j + 1, ls, st, M))
    | _, _, _ => none
  | _ => none
def am_lk (C : am_C) (k : Nat) (z : Int32) : Option (Prop × am_C) := match k with
  | 0 => am_psh C (.int z)
  | 1 => am_psh C (.ref 1010)
  | _ => none
def am_l2 (C : am_C) (a : Nat) : Option (Prop × am_C) := match am_lc[a]? with
  | some v => am_psh C (.long v)
  | none => none
def am_gst (C : am_C) (a : Nat) : Option (Prop × am_C) := match am_gs[a]? with
  | some (_, _, _, v) => am_psh C v
  | none => none
def am_sws (C : am_C) (a : Nat) : Option (Prop × am_C) := match am_swt[a]? with
  | some (l, d) => am_c1 C (fun x => am_sw l d x)
  | none => none
def am_gt (C : am_C) (a : Nat) : Option (Prop × am_C) := match C with
  | (_, ls, st, M) => some (True, (a, ls, st, M))
def am_step (t : List am_I) (sc : am_Sc) (C : am_C) : Option (Prop × am_C) := match t[C.1]? with
  | none => none
  | some (_, ins, a, b, _, k, _, z) => match ins with
    | .iconst _ => am_psh C (.int z)
    | .bipush _ => am_psh C (.int z)
    | .sipush _ => am_psh C (.int z)
    | .ldc _ => am_lk C k z
    | .lconst n => am_psh C (.long (Int64.ofNat (n : Nat)))
    | .ldc2_w _ => am_l2 C a
    | .iload_n n => am_ldi C n
    | .iload n => am_ldi C n
    | .aload_n n => am_lda C n
    | .aload n => am_lda C n
    | .lload_n n => am_ldl C n
    | .lload n => am_ldl C n
    | .istore_n n => am_si C n
    | .istore n => am_si C n
    | .astore_n n => am_sa C n
    | .astore n => am_sa C n
    | .lstore_n n => am_sl2 C n
    | .lstore n => am_sl2 C n
    | .iinc i _ => am_iinc C i z
    | .iadd => am_ii C (fun x y => .int (x + y))
    | .isub => am_ii C (fun x y => .int (x - y))
    | .imul => am_ii C (fun x y => .int (x * y))
    | .iand => am_ii C (fun x y => .int (x &&& y))
    | .ior => am_ii C (fun x y => .int (x ||| y))
    | .ishl => am_ii C (fun x y => .int (x <<< (y &&& 31)))
    | .ishr => am_ii C (fun x y => .int (x >>> (y &&& 31)))
    | .iushr => am_ii C (fun x y => .int (x.toUInt32 >>> (y.toUInt32 &&& Int32.toUInt32 31)).toInt32)
    | .ineg => am_i_ C (fun x => .int (-x))
    | .idiv => am_iid C (fun x y => .int (x / y))
    | .irem => am_iid C (fun x y => .int (x - x / y * y))
    | .ladd => am_ll C (fun x y => .long (x + y))
    | .lmul => am_ll C (fun x y => .long (x * y))
    | .land => am_ll C (fun x y => .long (x &&& y))
    | .lor => am_ll C (fun x y => .long (x ||| y))
    | .ldiv => am_lld C (fun x y => .long (x / y))
    | .lshl => am_li C (fun x y => .long (x <<< (y.toInt64 &&& 63)))
    | .lshr => am_li C (fun x y => .long (x >>> (y.toInt64 &&& 63)))
    | .lcmp => am_ll C (fun x y => .int (lg_cmp x y))
    | .i2l => am_i_ C (fun x => .long x.toInt64)
    | .l2i => am_l_ C (fun x => .int x.toInt32)
    | .i2b => am_i_ C (fun x => .int x.toInt8.toInt32)
    | .i2c => am_i_ C (fun x => .int (x.toUInt32 % 65536).toInt32)
    | .dup => am_dup C
    | .dup2 => am_dup2 C
    | .pop => am_pop C
    | .ifCond cnd _ => match cnd with
      | .eq => am_c1 C (fun x => if x = 0 then a else C.1 + 1)
      | .ne => am_c1 C (fun x => if x = 0 then C.1 + 1 else a)
      | .lt => am_c1 C (fun x => if x < 0 then a else C.1 + 1)
      | .ge => am_c1 C (fun x => if 0 ≤ x then a else C.1 + 1)
      | .gt => am_c1 C (fun x => if 0 < x then a else C.1 + 1)
      | .le => am_c1 C (fun x => if x ≤ 0 then a else C.1 + 1)
    | .if_icmp cnd _ => match cnd with
      | .eq => am_c2 C (fun x y => if x = y then a else C.1 + 1)
      | .ne => am_c2 C (fun x y => if x = y then C.1 + 1 else a)
      | .lt => am_c2 C (fun x y => if x < y then a else C.1 + 1)
      | .ge => am_c2 C (fun x y => if y ≤ x then a else C.1 + 1)
      | .gt => am_c2 C (fun x y => if y < x then a else C.1 + 1)
      | .le => am_c2 C (fun x y => if x ≤ y then a else C.1 + 1)
    | .goto _ => am_gt C a
    | .tableswitch _ _ _ _ => am_sws C a
    | .lookupswitch _ _ => am_sws C a
    | .getfield _ => am_gf C a b k
    | .putfield _ => am_pf C a b k
    | .getstatic _ => am_gst C a
    | .iaload => am_ia sc C
    | .baload => am_ba sc C
    | .iastore => am_is C
    | .bastore => am_bs C
    | .arraylength => am_aln sc C
    | .new _ => am_new C a
    | .newarray at_ => am_na C at_
    | .invokespecial _ => am_oi C k
    | .invokestatic _ => am_math C k C.2.2.1
    | _ => none
/-- a call of a method of the tables: its number, its values, and where it comes back -/
def am_inv (t : List am_I) (C : am_C) : Option (Nat × List Value × am_C) := match t[C.1]? with
  | none => none
  | some (_, ins, a, b, c, k, _, _) => match ins with
    | .invokevirtual _ => match k, am_recv C.2.2.2 c (b - 1) C.2.2.1 with
      | 0, true => am_call C a b C.2.2.1
      | _, _ => none
    | .invokespecial _ => match k, am_rcI (b - 1) C.2.2.1 with
      | 0, true => am_call C a b C.2.2.1
      | 6, true => am_call C a b C.2.2.1
      | _, _ => none
    | .invokestatic _ => match k with
      | 0 => am_call C a b C.2.2.1
      | _ => none
    | _ => none
/-- a return: what it asks, what comes back -/
def am_rtn (t : List am_I) (C : am_C) : Option (Prop × Option Value) := match t[C.1]? with
  | none => none
  | some (_, ins, a, _, _, _, _, _) => match ins with
    | .ireturn => match C.2.2.1 with
      | .int x :: [] => some (am_rp a x, some (.int x))
      | _ => none
    | .lreturn => match C.2.2.1 with
      | .long x :: [] => some (True, some (.long x))
      | _ => none
    | .areturn => match C.2.2.1 with
      | .ref x :: [] => some (True, some (.ref x))
      | _ => none
    | .return_ => match C.2.2.1 with
      | [] => some (True, none)
      | _ => none
    | _ => none
def am_entry (k : Nat) (args : List Value) : am_L := am_exp args ++ List.replicate (am_ml k - (am_exp args).length) none
/-- the run of method k from C ends with r and memory M, within n steps -/
def am_run (sc : am_Sc) (n : Nat) (k : Nat) (C : am_C) (r : Option Value) (M : am_M) : Prop := match n with
  | 0 => False
  | n + 1 => (∃ (P : Prop) (C' : am_C), am_step (am_tab k) sc C = some (P, C') ∧ P ∧ am_run sc n k C' r M) ∨
    (∃ (z : Nat) (args : List Value) (j : Nat) (ls : am_L) (st : List Value) (M1 : am_M) (r1 : Option Value) (M2 : am_M), am_inv (am_tab k) C = some (z, args, (j, ls, st, M1)) ∧ am_run sc n z (0, am_entry z args, [], M1) r1 M2 ∧ am_run sc n k (j, ls, r1.toList ++ st, M2) r M) ∨
    (∃ P : Prop, am_rtn (am_tab k) C = some (P, r) ∧ P ∧ C.2.2.2 = M)
/-- from C method k comes to an end with K -/
def am_Rn (sc : am_Sc) (k : Nat) (C : am_C) (K : Option Value → am_M → Prop) : Prop := ∃ (n : Nat) (r : Option Value) (M : am_M), am_run sc n k C r M ∧ K r M
theorem am_run_mono (sc : am_Sc) : ∀ (n k : Nat) (C : am_C) (r : Option Value) (M : am_M), am_run sc n k C r M → ∀ m, n ≤ m → am_run sc m k C r M := by
  intro n
  induction n with
  | zero => intro k C r M h; exact h.elim
  | succ n ih =>
    intro k C r M h m hm
    obtain ⟨m, rfl⟩ : ∃ m', m = m' + 1 := ⟨m - 1, by omega⟩
    unfold am_run at h ⊢
    rcases h with ⟨P, C', e, hP, h⟩ | ⟨z, args, j, ls, st, M1, r1, M2, e, h1, h2⟩ | h
    · exact Or.inl ⟨P, C', e, hP, ih _ _ _ _ h m (by omega)⟩
    · exact Or.inr (Or.inl ⟨z, args, j, ls, st, M1, r1, M2, e, ih _ _ _ _ h1 m (by omega), ih _ _ _ _ h2 m (by omega)⟩)
    · exact Or.inr (Or.inr h)
/-- j plain steps, what they ask, and where they come to -/
def am_go (t : List am_I) (sc : am_Sc) (n : Nat) (C : am_C) : Option (Prop × am_C) := match n with
  | 0 => some (True, C)
  | n + 1 => match am_step t sc C with
    | some (P, C') => match am_go t sc n C' with
      | some (Q, C'') => some (P ∧ Q, C'')
      | none => none
    | _ => none
theorem am_Rn.one {sc : am_Sc} {k : Nat} {C C' : am_C} {P : Prop} {K : Option Value → am_M → Prop} (h : am_step (am_tab k) sc C = some (P, C')) (hP : P) (hk : am_Rn sc k C' K) : am_Rn sc k C K := by
  obtain ⟨n, r, M, h1, h2⟩ := hk
  refine ⟨n + 1, r, M, ?_, h2⟩
  unfold am_run
  exact Or.inl ⟨P, C', h, hP, h1⟩
theorem am_Rn.go {sc : am_Sc} {k : Nat} {t : List am_I} (ht : am_tab k = t) (n : Nat) {C C' : am_C} {P : Prop} {K : Option Value → am_M → Prop} (h : am_go t sc n C = some (P, C')) (hP : P) (hk : am_Rn sc k C' K) : am_Rn sc k C K := by
  subst ht
  induction n generalizing C P with
  | zero =>
    have e := Prod.mk.inj (Option.some.inj h)
    rw [e.2]
    exact hk
  | succ n ih =>
    unfold am_go at h
    split at h
    · next P1 C1 e1 =>
      split at h
      · next Q C2 e2 =>
        have e := Prod.mk.inj (Option.some.inj h)
        have e0 : (P1 ∧ Q) := by rw [e.1]; exact hP
        refine am_Rn.one e1 e0.1 ?_
        exact ih (P := Q) e0.2 (by rw [e2, e.2])
      · cases h
    · cases h
theorem am_Rn.ret {sc : am_Sc} {k : Nat} {t : List am_I} (ht : am_tab k = t) {j : Nat} {ls : am_L} {st : List Value} {r : Option Value} {M : am_M} {K : Option Value → am_M → Prop} {P : Prop} (h : am_rtn t (j, ls, st, M) = some (P, r)) (hP : P) (hK : K r M) : am_Rn sc k (j, ls, st, M) K := by
  subst ht
  refine ⟨1, r, M, ?_, hK⟩
  unfold am_run
  exact Or.inr (Or.inr ⟨P, h, hP, rfl⟩)
theorem am_Rn.call {sc : am_Sc} {k : Nat} {t : List am_I} (ht : am_tab k = t) {C : am_C} {z j : Nat} {args st : List Value} {ls : am_L} {M : am_M} {K1 K : Option Value → am_M → Prop} (h : am_inv t C = some (z, args, (j, ls, st, M))) (hc : am_Rn sc z (0, am_entry z args, [], M) K1) (hk : ∀ r M', K1 r M' → am_Rn sc k (j, ls, r.toList ++ st, M') K) : am_Rn sc k C K := by
  subst ht
  obtain ⟨n1, r1, M1, h1, h2⟩ := hc
  obtain ⟨n2, r2, M2, h3, h4⟩ := hk r1 M1 h2
  refine ⟨(n1 + n2) + 1, r2, M2, ?_, h4⟩
  unfold am_run
  exact Or.inr (Or.inl ⟨z, args, j, ls, st, M, r1, M1, h, am_run_mono sc _ _ _ _ _ h1 _ (by omega), am_run_mono sc _ _ _ _ _ h3 _ (by omega)⟩)
theorem am_Rn.br {sc : am_Sc} {k a b : Nat} {ls : am_L} {st : List Value} {M : am_M} {K : Option Value → am_M → Prop} {c : Prop} {d : Decidable c} (h1 : c → am_Rn sc k (a, ls, st, M) K) (h2 : ¬ c → am_Rn sc k (b, ls, st, M) K) : am_Rn sc k (@ite Nat c d a b, ls, st, M) K := by
  by_cases h : c
  · rw [if_pos h]; exact h1 h
  · rw [if_neg h]; exact h2 h
theorem am_Rn.imp {sc : am_Sc} {k : Nat} {C : am_C} {K K' : Option Value → am_M → Prop} (h : am_Rn sc k C K) (hk : ∀ r M, K r M → K' r M) : am_Rn sc k C K' := by
  obtain ⟨n, r, M, h1, h2⟩ := h
  exact ⟨n, r, M, h1, hk r M h2⟩
end
section
/-! ===== the abstract memory as cells of the heap ===== -/
def am_ce (z0 : Nat) (sp : Nat → Value) (cy : Nat → ClassId) (e : am_E) : va_E := match e with
  | .inl (t, x) => .inl (cy t, x)
  | .inr (c, fs) => .inr (c, fs.map (am_cv z0 sp))
def am_cb (z0 : Nat) (sp : Nat → Value) (cy : Nat → ClassId) (b i : Nat) (L : List am_E) : va_W := match L with
  | [] => []
  | e :: L => (z0 + am_of b + i, am_ce z0 sp cy e) :: am_cb z0 sp cy b (i + 1) L
def am_cm (z0 : Nat) (sp : Nat → Value) (cy : Nat → ClassId) (b : Nat) (M : am_M) : va_W := match M with
  | [] => []
  | L :: M => am_cb z0 sp cy b 0 L ++ am_cm z0 sp cy (b + 1) M
section
variable {z0 : Nat} {sp : Nat → Value} {cy : Nat → ClassId}
theorem am_cb_len (b : Nat) : ∀ (L : List am_E) (i : Nat), (am_cb z0 sp cy b i L).length = L.length := by
  intro L
  induction L with
  | nil => intro i; rfl
  | cons e L ih => intro i; simp [am_cb, ih]
theorem am_cb_at (b : Nat) : ∀ (L : List am_E) (i j : Nat) (e : am_E), L[j]? = some e → (am_cb z0 sp cy b i L)[j]? = some (z0 + am_of b + (i + j), am_ce z0 sp cy e) := by
  intro L
  induction L with
  | nil => intro i j e h; simp at h
  | cons a L ih =>
    intro i j e h
    cases j with
    | zero => simp at h; subst h; simp [am_cb]
    | succ j =>
      simp at h
      have := ih (i + 1) j e h
      simp only [am_cb, List.getElem?_cons_succ]
      rw [this]
      congr 2
      omega
theorem am_cb_set (b : Nat) (e' : am_E) : ∀ (L : List am_E) (i j : Nat) (_ : j < L.length), am_cb z0 sp cy b i (L.set j e') = (am_cb z0 sp cy b i L).set j (z0 + am_of b + (i + j), am_ce z0 sp cy e') := by
  intro L
  induction L with
  | nil => intro i j h; simp at h
  | cons a L ih =>
    intro i j h
    cases j with
    | zero => simp [am_cb]
    | succ j =>
      simp at h
      have := ih (i + 1) j h
      simp only [am_cb, List.set_cons_succ]
      rw [this]
      congr 3
      omega
theorem am_cb_app (b : Nat) (e : am_E) : ∀ (L : List am_E) (i : Nat), am_cb z0 sp cy b i (L ++ [e]) = am_cb z0 sp cy b i L ++ [(z0 + am_of b + (i + L.length), am_ce z0 sp cy e)] := by
  intro L
  induction L with
  | nil => intro i; simp [am_cb]
  | cons a L ih =>
    intro i
    simp only [List.cons_append, am_cb, ih, List.length_cons]
    congr 4
    omega
/-- a cell and its place in the list of all cells; what a store of it does there -/
theorem am_cm_at : ∀ (M : am_M) (b d i : Nat) (L : List am_E) (e : am_E), M[d]? = some L → L[i]? = some e →
    ∃ q0 : Nat, (am_cm z0 sp cy b M)[q0]? = some (z0 + am_of (b + d) + i, am_ce z0 sp cy e) ∧ ∀ e', am_cm z0 sp cy b (M.set d (L.set i e')) = (am_cm z0 sp cy b M).set q0 (z0 + am_of (b + d) + i, am_ce z0 sp cy e') := by
  intro M
  induction M with
  | nil => intro b d i L e h; simp at h
  | cons L0 M ih =>
    intro b d i L e h he
    have hi : i < L.length := (List.getElem?_eq_some_iff.mp he).1
    cases d with
    | zero =>
      simp at h
      subst h
      refine ⟨i, ?_, fun e' => ?_⟩
      · simp only [am_cm]
        rw [List.getElem?_append_left (by rw [am_cb_len]; exact hi), am_cb_at b L0 0 i e he]
        simp
      · simp only [am_cm, List.set_cons_zero]
        rw [am_cb_set b e' L0 0 i hi, List.set_append_left _ _ (by rw [am_cb_len]; exact hi)]
        simp
    | succ d =>
      simp at h
      obtain ⟨q, h1, h2⟩ := ih (b + 1) d i L e h he
      refine ⟨(am_cb z0 sp cy b 0 L0).length + q, ?_, fun e' => ?_⟩
      · simp only [am_cm]
        rw [List.getElem?_append_right (by omega), Nat.add_sub_cancel_left, h1, show b + (d + 1) = b + 1 + d by omega]
      · simp only [am_cm, List.set_cons_succ]
        rw [h2 e', List.set_append_right _ _ (by omega), Nat.add_sub_cancel_left, show b + (d + 1) = b + 1 + d by omega]
theorem am_get_at {M : am_M} {n : Nat} {e : am_E} (h : am_get M n = some e) : n < 1000 ∧ ∃ q0 : Nat, (am_cm z0 sp cy 0 M)[q0]? = some (am_ad z0 n, am_ce z0 sp cy e) ∧ ∀ e', am_cm z0 sp cy 0 (am_set M n e') = (am_cm z0 sp cy 0 M).set q0 (am_ad z0 n, am_ce z0 sp cy e') := by
  unfold am_get at h
  split at h
  · cases h
  · next hb =>
    split at h
    · next L hL =>
      have hn : n < 1000 := by
        rcases Nat.lt_or_ge n 1000 with q | q
        · exact q
        · rw [Nat.ble_eq_true_of_le q] at hb; cases hb
      obtain ⟨q0, h1, h2⟩ := am_cm_at (z0 := z0) (sp := sp) (cy := cy) M 0 (n / 32) (n % 32) L e hL h
      rw [Nat.zero_add] at h1 h2
      refine ⟨hn, q0, h1, fun e' => ?_⟩
      unfold am_set
      rw [hL]
      exact h2 e'
    · cases h
theorem am_cm_app (e : am_E) : ∀ (M : am_M) (b : Nat), am_cm z0 sp cy b (M ++ [[e]]) = am_cm z0 sp cy b M ++ [(z0 + am_of (b + M.length), am_ce z0 sp cy e)] := by
  intro M
  induction M with
  | nil => intro b; simp [am_cm, am_cb]
  | cons L M ih =>
    intro b
    simp only [List.cons_append, am_cm, ih, List.length_cons, List.append_assoc]
    rw [show b + (M.length + 1) = b + 1 + M.length by omega]
theorem am_cm_push (e : am_E) : ∀ (M : am_M) (b : Nat), 0 < M.length → am_cm z0 sp cy b (am_push M e) = am_cm z0 sp cy b M ++ [(z0 + am_of (b + (am_last M).1) + (am_last M).2, am_ce z0 sp cy e)] := by
  intro M
  induction M with
  | nil => intro b h; simp at h
  | cons L M ih =>
    intro b _
    cases M with
    | nil => simp [am_push, am_cm, am_last, am_cb_app]
    | cons L1 M =>
      have := ih (b + 1) (by simp)
      simp only [am_push, am_cm, am_last] at this ⊢
      rw [this]
      simp only [List.append_assoc]
      rw [show b + ((am_last (L1 :: M)).1 + 1) = b + 1 + (am_last (L1 :: M)).1 by omega]
end
theorem am_tot_app (e : am_E) : ∀ M : am_M, am_tot (M ++ [[e]]) = am_tot M + 1 := by
  intro M
  induction M with
  | nil => rfl
  | cons L M ih => simp only [List.cons_append, am_tot, ih]; omega
theorem am_sl_app (e : am_E) : ∀ M : am_M, am_sl (M ++ [[e]]) = am_sl M + am_esl e := by
  intro M
  induction M with
  | nil => simp [am_sl, am_lsl]
  | cons L M ih => simp only [List.cons_append, am_sl, ih]; omega
theorem am_lsl_app (e : am_E) : ∀ L : List am_E, am_lsl (L ++ [e]) = am_lsl L + am_esl e := by
  intro L
  induction L with
  | nil => simp [am_lsl]
  | cons a L ih => simp only [List.cons_append, am_lsl, ih]; omega
theorem am_tot_push (e : am_E) : ∀ M : am_M, 0 < M.length → am_tot (am_push M e) = am_tot M + 1 := by
  intro M
  induction M with
  | nil => intro h; simp at h
  | cons L M ih =>
    intro _
    cases M with
    | nil => simp [am_push, am_tot]
    | cons L1 M => simp only [am_push, am_tot] at ih ⊢; have := ih (by simp); omega
theorem am_sl_push (e : am_E) : ∀ M : am_M, 0 < M.length → am_sl (am_push M e) = am_sl M + am_esl e := by
  intro M
  induction M with
  | nil => intro h; simp at h
  | cons L M ih =>
    intro _
    cases M with
    | nil => simp [am_push, am_sl, am_lsl_app]
    | cons L1 M => simp only [am_push, am_sl] at ih ⊢; have := ih (by simp); omega
theorem am_tot_setd : ∀ (M : am_M) (d : Nat) (L L' : List am_E), M[d]? = some L → L'.length = L.length → am_tot (M.set d L') = am_tot M := by
  intro M
  induction M with
  | nil => intro d L L' h; simp at h
  | cons L0 M ih =>
    intro d L L' h hl
    cases d with
    | zero => simp at h; subst h; simp [am_tot, hl]
    | succ d => simp at h; simp [am_tot, ih d L L' h hl]
theorem am_sl_setd : ∀ (M : am_M) (d : Nat) (L L' : List am_E), M[d]? = some L → am_lsl L' = am_lsl L → am_sl (M.set d L') = am_sl M := by
  intro M
  induction M with
  | nil => intro d L L' h; simp at h
  | cons L0 M ih =>
    intro d L L' h hl
    cases d with
    | zero => simp at h; subst h; simp [am_sl, hl]
    | succ d => simp at h; simp [am_sl, ih d L L' h hl]
theorem am_lsl_setd : ∀ (L : List am_E) (i : Nat) (e e' : am_E), L[i]? = some e → am_esl e' = am_esl e → am_lsl (L.set i e') = am_lsl L := by
  intro L
  induction L with
  | nil => intro d e e' h; simp at h
  | cons a L ih =>
    intro d e e' h hl
    cases d with
    | zero => simp at h; subst h; simp [am_lsl, hl]
    | succ d => simp at h; simp [am_lsl, ih d e e' h hl]
theorem am_set_tot {M : am_M} {n : Nat} {e e' : am_E} (h : am_get M n = some e) (hl : am_esl e' = am_esl e) : am_tot (am_set M n e') = am_tot M ∧ am_sl (am_set M n e') = am_sl M := by
  unfold am_get at h
  split at h
  · cases h
  · split at h
    · next L hL =>
      unfold am_set
      rw [hL]
      exact ⟨am_tot_setd M _ L _ hL (by simp), am_sl_setd M _ L _ hL (am_lsl_setd L _ e e' h hl)⟩
    · cases h
end
section
/-! ===== soundness: what a frame has, what the world is ===== -/
def am_A (z0 : Nat) : Nat → Prop := fun q => z0 ≤ q
def am_ty (t : Nat) : FieldType := match t with
  | 0 => .int
  | 1 => .byte
  | _ => .boolean
abbrev am_tys (cy : Nat → ClassId) : List (ClassId × FieldType) := [(cy 0, .int), (cy 1, .byte), (cy 2, .boolean)]
def am_txt : String := "rounds pays end start lent short lid fee sales person worth rising riding mistaken fresh "
/-- what was there before and stays: statics, their arrays, the constant text -/
def am_X (sc : am_Sc) (sp : Nat → Value) (z0 : Nat) (U : State) (H : Heap) : Prop :=
  (∀ q ∈ am_gs, va_Z q.1 q.2.1 q.2.2.1 (am_cv z0 sp q.2.2.2) (am_A z0) U H) ∧
  (∀ (n : Nat) (q : Nat × Nat × (Nat → Int32)), 1000 ≤ n → am_old sc n = some q → ∃ t : Nat, sp n = .ref t ∧ va_T (am_ty q.1) t q.2.1 (fun j => .int (q.2.2 j)) (am_A z0) U H) ∧
  (∀ w ∈ am_nw, va_Nw w U) ∧
  (∃ a t : Nat, sp 1010 = .ref a ∧ sp 1011 = .ref t ∧ vk_R "PaperPays$Reader" 118 am_txt a U ∧ va_O "java/lang/String" a (am_A z0) U H ∧ va_OF "java/lang/String" "coder" "B" (.int 0) a (am_A z0) U H ∧ va_OF "java/lang/String" "value" "[B" (.ref t) a (am_A z0) U H)
/-- what a frame of method k has -/
def am_F (sc : am_Sc) (sp : Nat → Value) (z0 : Nat) (cy : Nat → ClassId) (D : va_G) (k : Nat) (p : Program) (R : Room) (s : State) (m : MethodId) (args : Array Value) (meth : Method) (c : Code) : Prop :=
  p.tables.exec = Jvm.exec ∧ c.code = am_cd k ∧ c.maxLocals = am_ml k ∧ s.vm.findClass (am_cn (am_ow k)) = some m.cls ∧ (∀ w ∈ xw_tw, w.before args s = true) ∧ va_K D vwCl (am_tys cy) s ∧ am_X sc sp z0 s s.heap ∧ (am_isI k = true → meth.name = "<init>") ∧ am_fr k ≤ R.frames ∧ am_lo k ≤ R.locals ∧ z0 ≤ s.heap.size
/-- the world: the abstract memory is what the heap holds -/
def am_Wd (sp : Nat → Value) (z0 : Nat) (cy : Nat → ClassId) (D : va_G) (M : am_M) (s : State) (H : Heap) (locs : List Loc) : Prop :=
  H.size = z0 + am_tot M ∧ va_P D vwCl (am_cm z0 sp cy 0 M) H ∧ va_D (am_A z0) (am_cm z0 sp cy 0 M) ∧ va_S (am_A z0) s.heap H locs
def am_lv (sp : Nat → Value) (z0 : Nat) (lsv : Array Slot) (nL : Nat) (ls : am_L) : Prop := ls.length = nL ∧ lsv.size = nL ∧ lv_wf lsv ∧ ∀ (i : Nat) (v : Value), ls[i]? = some (some v) → lsv[i]? = some (.val (am_cv z0 sp v))
/-- the limit of what comes: n0, m0 what was there at the method's begin, n1, m1 what is there at its end -/
def am_Lim (n0 m0 n1 m1 : Nat) (R : Room) : Prop := n1 ≤ n0 + R.cells ∧ m1 ≤ m0 + R.slots
def am_W (sp : Nat → Value) (z0 : Nat) (cy : Nat → ClassId) (D : va_G) (n0 m0 : Nat) (k : Nat) (p : Program) (l : Launch) (e : Env) (R : Room) (s : State) (m : MethodId) (args : Array Value) (below : List Frame) (meth : Method) (c : Code) (Q : State → Prop) (C : am_C) : Prop :=
  ∀ (H : Heap) (locs : List Loc) (lsv : Array Slot) (cells slots : Nat), am_Wd sp z0 cy D C.2.2.2 s H locs → cells + n0 = am_tot C.2.2.2 → slots + m0 = am_sl C.2.2.2 → am_lv sp z0 lsv (am_ml k) C.2.1 →
    W p l e R s m args below meth c H locs cells slots Q (F0 m (am_pc k C.1) lsv (C.2.2.1.map (am_cv z0 sp)))
section
variable {sc : am_Sc} {sp : Nat → Value} {z0 : Nat} {cy : Nat → ClassId} {D : va_G} {n0 m0 k : Nat} {p : Program} {l : Launch} {e : Env} {R : Room} {s : State} {m : MethodId} {args : Array Value} {below : List Frame} {meth : Method} {c : Code} {Q : State → Prop}
variable {j pc : Nat} {ls : am_L} {st : List Value} {M : am_M}

theorem am_s_iconst (hF : am_F sc sp z0 cy D k p R s m args meth c) {n : Int} {z : Int32} (hdg : decode (am_cd k) pc = .ok (.iconst n, 1)) (hpc : am_pc k j = pc) (hnx : am_pc k (j + 1) = pc + 1) (hz : Int32.ofInt n = z)
    (kk : am_W sp z0 cy D n0 m0 k p l e R s m args below meth c Q ((j + 1, ls, .int z :: st, M))) : am_W sp z0 cy D n0 m0 k p l e R s m args below meth c Q ((j, ls, st, M)) := fun H locs lsv cells slots hW hc hs hl => by
  have h := kk H locs lsv cells slots hW hc hs hl
  dsimp only at h ⊢
  rw [hnx] at h
  rw [hpc]
  exact lv_iconst hF.1 hF.2.1 hdg hz h
theorem am_s_bipush (hF : am_F sc sp z0 cy D k p R s m args meth c) {n : Int} {z : Int32} (hdg : decode (am_cd k) pc = .ok (.bipush n, 2)) (hpc : am_pc k j = pc) (hnx : am_pc k (j + 1) = pc + 2) (hz : (Int8.ofInt n).toInt32 = z)
    (kk : am_W sp z0 cy D n0 m0 k p l e R s m args below meth c Q ((j + 1, ls, .int z :: st, M))) : am_W sp z0 cy D n0 m0 k p l e R s m args below meth c Q ((j, ls, st, M)) := fun H locs lsv cells slots hW hc hs hl => by
  have h := kk H locs lsv cells slots hW hc hs hl
  dsimp only at h ⊢
  rw [hnx] at h
  rw [hpc]
  exact lv_bipush hF.1 hF.2.1 hdg hz h
theorem am_s_sipush (hF : am_F sc sp z0 cy D k p R s m args meth c) {n : Int} {z : Int32} (hdg : decode (am_cd k) pc = .ok (.sipush n, 3)) (hpc : am_pc k j = pc) (hnx : am_pc k (j + 1) = pc + 3) (hz : (Int16.ofInt n).toInt32 = z)
    (kk : am_W sp z0 cy D n0 m0 k p l e R s m args below meth c Q ((j + 1, ls, .int z :: st, M))) : am_W sp z0 cy D n0 m0 k p l e R s m args below meth c Q ((j, ls, st, M)) := fun H locs lsv cells slots hW hc hs hl => by
  have h := kk H locs lsv cells slots hW hc hs hl
  dsimp only at h ⊢
  rw [hnx] at h
  rw [hpc]
  exact lv_sipush hF.1 hF.2.1 hdg hz h
theorem am_s_lconst (hF : am_F sc sp z0 cy D k p R s m args meth c) {n : Fin 2} (hdg : decode (am_cd k) pc = .ok (.lconst n, 1)) (hpc : am_pc k j = pc) (hnx : am_pc k (j + 1) = pc + 1) 
    (kk : am_W sp z0 cy D n0 m0 k p l e R s m args below meth c Q ((j + 1, ls, .long (Int64.ofNat (n : Nat)) :: st, M))) : am_W sp z0 cy D n0 m0 k p l e R s m args below meth c Q ((j, ls, st, M)) := fun H locs lsv cells slots hW hc hs hl => by
  have h := kk H locs lsv cells slots hW hc hs hl
  dsimp only at h ⊢
  rw [hnx] at h
  rw [hpc]
  exact lv_lconst hF.1 hF.2.1 hdg rfl h
theorem am_s_ldc (hF : am_F sc sp z0 cy D k p R s m args meth c) {i : Nat} {z : Int32} (hdg : decode (am_cd k) pc = .ok (.ldc i, 2)) (hpc : am_pc k j = pc) (hnx : am_pc k (j + 1) = pc + 2) (hk : Cond.constant (am_cn (am_ow k)) i z ∈ xw_tw)
    (kk : am_W sp z0 cy D n0 m0 k p l e R s m args below meth c Q ((j + 1, ls, .int z :: st, M))) : am_W sp z0 cy D n0 m0 k p l e R s m args below meth c Q ((j, ls, st, M)) := fun H locs lsv cells slots hW hc hs hl => by
  have h := kk H locs lsv cells slots hW hc hs hl
  dsimp only at h ⊢
  rw [hnx] at h
  rw [hpc]
  exact lv_ldc hF.1 hF.2.1 hF.2.2.2.1 (hF.2.2.2.2.1 _ hk) hdg h
theorem am_s_ldc2 (hF : am_F sc sp z0 cy D k p R s m args meth c) {i : Nat} {z : Int64} (hdg : decode (am_cd k) pc = .ok (.ldc2_w i, 3)) (hpc : am_pc k j = pc) (hnx : am_pc k (j + 1) = pc + 3) (hk : Cond.constantLong (am_cn (am_ow k)) i z ∈ xw_tw)
    (kk : am_W sp z0 cy D n0 m0 k p l e R s m args below meth c Q ((j + 1, ls, .long z :: st, M))) : am_W sp z0 cy D n0 m0 k p l e R s m args below meth c Q ((j, ls, st, M)) := fun H locs lsv cells slots hW hc hs hl => by
  have h := kk H locs lsv cells slots hW hc hs hl
  dsimp only at h ⊢
  rw [hnx] at h
  rw [hpc]
  exact lv_ldc2 hF.1 hF.2.1 hF.2.2.2.1 (hF.2.2.2.2.1 _ hk) hdg h
theorem am_s_iadd (hF : am_F sc sp z0 cy D k p R s m args meth c) {x y : Int32} (hdg : decode (am_cd k) pc = .ok (.iadd, 1)) (hpc : am_pc k j = pc) (hnx : am_pc k (j + 1) = pc + 1) 
    (kk : am_W sp z0 cy D n0 m0 k p l e R s m args below meth c Q ((j + 1, ls, .int (x + y) :: st, M))) : am_W sp z0 cy D n0 m0 k p l e R s m args below meth c Q ((j, ls, .int y :: .int x :: st, M)) := fun H locs lsv cells slots hW hc hs hl => by
  have h := kk H locs lsv cells slots hW hc hs hl
  dsimp only at h ⊢
  rw [hnx] at h
  rw [hpc]
  exact lv_iadd hF.1 hF.2.1 hdg h
theorem am_s_isub (hF : am_F sc sp z0 cy D k p R s m args meth c) {x y : Int32} (hdg : decode (am_cd k) pc = .ok (.isub, 1)) (hpc : am_pc k j = pc) (hnx : am_pc k (j + 1) = pc + 1) 
    (kk : am_W sp z0 cy D n0 m0 k p l e R s m args below meth c Q ((j + 1, ls, .int (x - y) :: st, M))) : am_W sp z0 cy D n0 m0 k p l e R s m args below meth c Q ((j, ls, .int y :: .int x :: st, M)) := fun H locs lsv cells slots hW hc hs hl => by
  have h := kk H locs lsv cells slots hW hc hs hl
  dsimp only at h ⊢
  rw [hnx] at h
  rw [hpc]
  exact lv_isub hF.1 hF.2.1 hdg h
theorem am_s_imul (hF : am_F sc sp z0 cy D k p R s m args meth c) {x y : Int32} (hdg : decode (am_cd k) pc = .ok (.imul, 1)) (hpc : am_pc k j = pc) (hnx : am_pc k (j + 1) = pc + 1) 
    (kk : am_W sp z0 cy D n0 m0 k p l e R s m args below meth c Q ((j + 1, ls, .int (x * y) :: st, M))) : am_W sp z0 cy D n0 m0 k p l e R s m args below meth c Q ((j, ls, .int y :: .int x :: st, M)) := fun H locs lsv cells slots hW hc hs hl => by
  have h := kk H locs lsv cells slots hW hc hs hl
  dsimp only at h ⊢
  rw [hnx] at h
  rw [hpc]
  exact lv_imul hF.1 hF.2.1 hdg h
theorem am_s_iand (hF : am_F sc sp z0 cy D k p R s m args meth c) {x y : Int32} (hdg : decode (am_cd k) pc = .ok (.iand, 1)) (hpc : am_pc k j = pc) (hnx : am_pc k (j + 1) = pc + 1) 
    (kk : am_W sp z0 cy D n0 m0 k p l e R s m args below meth c Q ((j + 1, ls, .int (x &&& y) :: st, M))) : am_W sp z0 cy D n0 m0 k p l e R s m args below meth c Q ((j, ls, .int y :: .int x :: st, M)) := fun H locs lsv cells slots hW hc hs hl => by
  have h := kk H locs lsv cells slots hW hc hs hl
  dsimp only at h ⊢
  rw [hnx] at h
  rw [hpc]
  exact lv_iand hF.1 hF.2.1 hdg h
theorem am_s_ior (hF : am_F sc sp z0 cy D k p R s m args meth c) {x y : Int32} (hdg : decode (am_cd k) pc = .ok (.ior, 1)) (hpc : am_pc k j = pc) (hnx : am_pc k (j + 1) = pc + 1) 
    (kk : am_W sp z0 cy D n0 m0 k p l e R s m args below meth c Q ((j + 1, ls, .int (x ||| y) :: st, M))) : am_W sp z0 cy D n0 m0 k p l e R s m args below meth c Q ((j, ls, .int y :: .int x :: st, M)) := fun H locs lsv cells slots hW hc hs hl => by
  have h := kk H locs lsv cells slots hW hc hs hl
  dsimp only at h ⊢
  rw [hnx] at h
  rw [hpc]
  exact lv_ior hF.1 hF.2.1 hdg h
theorem am_s_ishl (hF : am_F sc sp z0 cy D k p R s m args meth c) {x y : Int32} (hdg : decode (am_cd k) pc = .ok (.ishl, 1)) (hpc : am_pc k j = pc) (hnx : am_pc k (j + 1) = pc + 1) 
    (kk : am_W sp z0 cy D n0 m0 k p l e R s m args below meth c Q ((j + 1, ls, .int (x <<< (y &&& 31)) :: st, M))) : am_W sp z0 cy D n0 m0 k p l e R s m args below meth c Q ((j, ls, .int y :: .int x :: st, M)) := fun H locs lsv cells slots hW hc hs hl => by
  have h := kk H locs lsv cells slots hW hc hs hl
  dsimp only at h ⊢
  rw [hnx] at h
  rw [hpc]
  exact lv_ishl hF.1 hF.2.1 hdg h
theorem am_s_ishr (hF : am_F sc sp z0 cy D k p R s m args meth c) {x y : Int32} (hdg : decode (am_cd k) pc = .ok (.ishr, 1)) (hpc : am_pc k j = pc) (hnx : am_pc k (j + 1) = pc + 1) 
    (kk : am_W sp z0 cy D n0 m0 k p l e R s m args below meth c Q ((j + 1, ls, .int (x >>> (y &&& 31)) :: st, M))) : am_W sp z0 cy D n0 m0 k p l e R s m args below meth c Q ((j, ls, .int y :: .int x :: st, M)) := fun H locs lsv cells slots hW hc hs hl => by
  have h := kk H locs lsv cells slots hW hc hs hl
  dsimp only at h ⊢
  rw [hnx] at h
  rw [hpc]
  exact lv_ishr hF.1 hF.2.1 hdg h
theorem am_s_iushr (hF : am_F sc sp z0 cy D k p R s m args meth c) {x y : Int32} (hdg : decode (am_cd k) pc = .ok (.iushr, 1)) (hpc : am_pc k j = pc) (hnx : am_pc k (j + 1) = pc + 1) 
    (kk : am_W sp z0 cy D n0 m0 k p l e R s m args below meth c Q ((j + 1, ls, .int (x.toUInt32 >>> (y.toUInt32 &&& Int32.toUInt32 31)).toInt32 :: st, M))) : am_W sp z0 cy D n0 m0 k p l e R s m args below meth c Q ((j, ls, .int y :: .int x :: st, M)) := fun H locs lsv cells slots hW hc hs hl => by
  have h := kk H locs lsv cells slots hW hc hs hl
  dsimp only at h ⊢
  rw [hnx] at h
  rw [hpc]
  exact lv_iushr hF.1 hF.2.1 hdg rfl h
theorem am_s_ineg (hF : am_F sc sp z0 cy D k p R s m args meth c) {x : Int32} (hdg : decode (am_cd k) pc = .ok (.ineg, 1)) (hpc : am_pc k j = pc) (hnx : am_pc k (j + 1) = pc + 1) 
    (kk : am_W sp z0 cy D n0 m0 k p l e R s m args below meth c Q ((j + 1, ls, .int (-x) :: st, M))) : am_W sp z0 cy D n0 m0 k p l e R s m args below meth c Q ((j, ls, .int x :: st, M)) := fun H locs lsv cells slots hW hc hs hl => by
  have h := kk H locs lsv cells slots hW hc hs hl
  dsimp only at h ⊢
  rw [hnx] at h
  rw [hpc]
  exact lv_ineg hF.1 hF.2.1 hdg h
theorem am_s_idiv (hF : am_F sc sp z0 cy D k p R s m args meth c) {x y : Int32} (hdg : decode (am_cd k) pc = .ok (.idiv, 1)) (hpc : am_pc k j = pc) (hnx : am_pc k (j + 1) = pc + 1) (hP : ¬ y = 0)
    (kk : am_W sp z0 cy D n0 m0 k p l e R s m args below meth c Q ((j + 1, ls, .int (x / y) :: st, M))) : am_W sp z0 cy D n0 m0 k p l e R s m args below meth c Q ((j, ls, .int y :: .int x :: st, M)) := fun H locs lsv cells slots hW hc hs hl => by
  have h := kk H locs lsv cells slots hW hc hs hl
  dsimp only at h ⊢
  rw [hnx] at h
  rw [hpc]
  exact lv_idiv hF.1 hF.2.1 hdg hP h
theorem am_s_irem (hF : am_F sc sp z0 cy D k p R s m args meth c) {x y : Int32} (hdg : decode (am_cd k) pc = .ok (.irem, 1)) (hpc : am_pc k j = pc) (hnx : am_pc k (j + 1) = pc + 1) (hP : ¬ y = 0)
    (kk : am_W sp z0 cy D n0 m0 k p l e R s m args below meth c Q ((j + 1, ls, .int (x - x / y * y) :: st, M))) : am_W sp z0 cy D n0 m0 k p l e R s m args below meth c Q ((j, ls, .int y :: .int x :: st, M)) := fun H locs lsv cells slots hW hc hs hl => by
  have h := kk H locs lsv cells slots hW hc hs hl
  dsimp only at h ⊢
  rw [hnx] at h
  rw [hpc]
  exact lv_irem hF.1 hF.2.1 hdg hP h
theorem am_s_ladd (hF : am_F sc sp z0 cy D k p R s m args meth c) {x y : Int64} (hdg : decode (am_cd k) pc = .ok (.ladd, 1)) (hpc : am_pc k j = pc) (hnx : am_pc k (j + 1) = pc + 1) 
    (kk : am_W sp z0 cy D n0 m0 k p l e R s m args below meth c Q ((j + 1, ls, .long (x + y) :: st, M))) : am_W sp z0 cy D n0 m0 k p l e R s m args below meth c Q ((j, ls, .long y :: .long x :: st, M)) := fun H locs lsv cells slots hW hc hs hl => by
  have h := kk H locs lsv cells slots hW hc hs hl
  dsimp only at h ⊢
  rw [hnx] at h
  rw [hpc]
  exact lv_ladd hF.1 hF.2.1 hdg h
theorem am_s_lmul (hF : am_F sc sp z0 cy D k p R s m args meth c) {x y : Int64} (hdg : decode (am_cd k) pc = .ok (.lmul, 1)) (hpc : am_pc k j = pc) (hnx : am_pc k (j + 1) = pc + 1) 
    (kk : am_W sp z0 cy D n0 m0 k p l e R s m args below meth c Q ((j + 1, ls, .long (x * y) :: st, M))) : am_W sp z0 cy D n0 m0 k p l e R s m args below meth c Q ((j, ls, .long y :: .long x :: st, M)) := fun H locs lsv cells slots hW hc hs hl => by
  have h := kk H locs lsv cells slots hW hc hs hl
  dsimp only at h ⊢
  rw [hnx] at h
  rw [hpc]
  exact lv_lmul hF.1 hF.2.1 hdg h
theorem am_s_land (hF : am_F sc sp z0 cy D k p R s m args meth c) {x y : Int64} (hdg : decode (am_cd k) pc = .ok (.land, 1)) (hpc : am_pc k j = pc) (hnx : am_pc k (j + 1) = pc + 1) 
    (kk : am_W sp z0 cy D n0 m0 k p l e R s m args below meth c Q ((j + 1, ls, .long (x &&& y) :: st, M))) : am_W sp z0 cy D n0 m0 k p l e R s m args below meth c Q ((j, ls, .long y :: .long x :: st, M)) := fun H locs lsv cells slots hW hc hs hl => by
  have h := kk H locs lsv cells slots hW hc hs hl
  dsimp only at h ⊢
  rw [hnx] at h
  rw [hpc]
  exact lv_land hF.1 hF.2.1 hdg h
theorem am_s_lor (hF : am_F sc sp z0 cy D k p R s m args meth c) {x y : Int64} (hdg : decode (am_cd k) pc = .ok (.lor, 1)) (hpc : am_pc k j = pc) (hnx : am_pc k (j + 1) = pc + 1) 
    (kk : am_W sp z0 cy D n0 m0 k p l e R s m args below meth c Q ((j + 1, ls, .long (x ||| y) :: st, M))) : am_W sp z0 cy D n0 m0 k p l e R s m args below meth c Q ((j, ls, .long y :: .long x :: st, M)) := fun H locs lsv cells slots hW hc hs hl => by
  have h := kk H locs lsv cells slots hW hc hs hl
  dsimp only at h ⊢
  rw [hnx] at h
  rw [hpc]
  exact lv_lor hF.1 hF.2.1 hdg h
theorem am_s_ldiv (hF : am_F sc sp z0 cy D k p R s m args meth c) {x y : Int64} (hdg : decode (am_cd k) pc = .ok (.ldiv, 1)) (hpc : am_pc k j = pc) (hnx : am_pc k (j + 1) = pc + 1) (hP : ¬ y = 0)
    (kk : am_W sp z0 cy D n0 m0 k p l e R s m args below meth c Q ((j + 1, ls, .long (x / y) :: st, M))) : am_W sp z0 cy D n0 m0 k p l e R s m args below meth c Q ((j, ls, .long y :: .long x :: st, M)) := fun H locs lsv cells slots hW hc hs hl => by
  have h := kk H locs lsv cells slots hW hc hs hl
  dsimp only at h ⊢
  rw [hnx] at h
  rw [hpc]
  exact lv_ldiv hF.1 hF.2.1 hdg hP h
theorem am_s_lshl (hF : am_F sc sp z0 cy D k p R s m args meth c) {x : Int64} {y : Int32} (hdg : decode (am_cd k) pc = .ok (.lshl, 1)) (hpc : am_pc k j = pc) (hnx : am_pc k (j + 1) = pc + 1) 
    (kk : am_W sp z0 cy D n0 m0 k p l e R s m args below meth c Q ((j + 1, ls, .long (x <<< (y.toInt64 &&& 63)) :: st, M))) : am_W sp z0 cy D n0 m0 k p l e R s m args below meth c Q ((j, ls, .int y :: .long x :: st, M)) := fun H locs lsv cells slots hW hc hs hl => by
  have h := kk H locs lsv cells slots hW hc hs hl
  dsimp only at h ⊢
  rw [hnx] at h
  rw [hpc]
  exact lv_lshl hF.1 hF.2.1 hdg rfl h
theorem am_s_lshr (hF : am_F sc sp z0 cy D k p R s m args meth c) {x : Int64} {y : Int32} (hdg : decode (am_cd k) pc = .ok (.lshr, 1)) (hpc : am_pc k j = pc) (hnx : am_pc k (j + 1) = pc + 1) 
    (kk : am_W sp z0 cy D n0 m0 k p l e R s m args below meth c Q ((j + 1, ls, .long (x >>> (y.toInt64 &&& 63)) :: st, M))) : am_W sp z0 cy D n0 m0 k p l e R s m args below meth c Q ((j, ls, .int y :: .long x :: st, M)) := fun H locs lsv cells slots hW hc hs hl => by
  have h := kk H locs lsv cells slots hW hc hs hl
  dsimp only at h ⊢
  rw [hnx] at h
  rw [hpc]
  exact lv_lshr hF.1 hF.2.1 hdg rfl h
theorem am_s_lcmp (hF : am_F sc sp z0 cy D k p R s m args meth c) {x y : Int64} (hdg : decode (am_cd k) pc = .ok (.lcmp, 1)) (hpc : am_pc k j = pc) (hnx : am_pc k (j + 1) = pc + 1) 
    (kk : am_W sp z0 cy D n0 m0 k p l e R s m args below meth c Q ((j + 1, ls, .int (lg_cmp x y) :: st, M))) : am_W sp z0 cy D n0 m0 k p l e R s m args below meth c Q ((j, ls, .long y :: .long x :: st, M)) := fun H locs lsv cells slots hW hc hs hl => by
  have h := kk H locs lsv cells slots hW hc hs hl
  dsimp only at h ⊢
  rw [hnx] at h
  rw [hpc]
  exact W.lcmp hF.1 hF.2.1 hdg h
theorem am_s_i2l (hF : am_F sc sp z0 cy D k p R s m args meth c) {x : Int32} (hdg : decode (am_cd k) pc = .ok (.i2l, 1)) (hpc : am_pc k j = pc) (hnx : am_pc k (j + 1) = pc + 1) 
    (kk : am_W sp z0 cy D n0 m0 k p l e R s m args below meth c Q ((j + 1, ls, .long x.toInt64 :: st, M))) : am_W sp z0 cy D n0 m0 k p l e R s m args below meth c Q ((j, ls, .int x :: st, M)) := fun H locs lsv cells slots hW hc hs hl => by
  have h := kk H locs lsv cells slots hW hc hs hl
  dsimp only at h ⊢
  rw [hnx] at h
  rw [hpc]
  exact lv_i2l hF.1 hF.2.1 hdg rfl h
theorem am_s_l2i (hF : am_F sc sp z0 cy D k p R s m args meth c) {x : Int64} (hdg : decode (am_cd k) pc = .ok (.l2i, 1)) (hpc : am_pc k j = pc) (hnx : am_pc k (j + 1) = pc + 1) 
    (kk : am_W sp z0 cy D n0 m0 k p l e R s m args below meth c Q ((j + 1, ls, .int x.toInt32 :: st, M))) : am_W sp z0 cy D n0 m0 k p l e R s m args below meth c Q ((j, ls, .long x :: st, M)) := fun H locs lsv cells slots hW hc hs hl => by
  have h := kk H locs lsv cells slots hW hc hs hl
  dsimp only at h ⊢
  rw [hnx] at h
  rw [hpc]
  exact lv_l2i hF.1 hF.2.1 hdg rfl h
theorem am_s_i2b (hF : am_F sc sp z0 cy D k p R s m args meth c) {x : Int32} (hdg : decode (am_cd k) pc = .ok (.i2b, 1)) (hpc : am_pc k j = pc) (hnx : am_pc k (j + 1) = pc + 1) 
    (kk : am_W sp z0 cy D n0 m0 k p l e R s m args below meth c Q ((j + 1, ls, .int x.toInt8.toInt32 :: st, M))) : am_W sp z0 cy D n0 m0 k p l e R s m args below meth c Q ((j, ls, .int x :: st, M)) := fun H locs lsv cells slots hW hc hs hl => by
  have h := kk H locs lsv cells slots hW hc hs hl
  dsimp only at h ⊢
  rw [hnx] at h
  rw [hpc]
  exact lv_i2b hF.1 hF.2.1 hdg rfl h
theorem am_s_i2c (hF : am_F sc sp z0 cy D k p R s m args meth c) {x : Int32} (hdg : decode (am_cd k) pc = .ok (.i2c, 1)) (hpc : am_pc k j = pc) (hnx : am_pc k (j + 1) = pc + 1) 
    (kk : am_W sp z0 cy D n0 m0 k p l e R s m args below meth c Q ((j + 1, ls, .int (x.toUInt32 % 65536).toInt32 :: st, M))) : am_W sp z0 cy D n0 m0 k p l e R s m args below meth c Q ((j, ls, .int x :: st, M)) := fun H locs lsv cells slots hW hc hs hl => by
  have h := kk H locs lsv cells slots hW hc hs hl
  dsimp only at h ⊢
  rw [hnx] at h
  rw [hpc]
  exact lv_i2c hF.1 hF.2.1 hdg rfl h
theorem am_cv_cat (hsp : ∀ n, (sp n).category = 1) (v : Value) : (am_cv z0 sp v).category = v.category := by
  unfold am_cv
  split
  · split
    · rw [hsp]; rfl
    · rfl
  · rfl
theorem am_cats_map (hsp : ∀ n, (sp n).category = 1) (st : List Value) : ((st.map (am_cv z0 sp)).map fun v => v.category).sum = am_cats st := by
  unfold am_cats
  rw [List.map_map]
  congr 2
  funext v
  exact am_cv_cat hsp v
theorem am_s_dup (hF : am_F sc sp z0 cy D k p R s m args meth c) {v : Value} (hdg : decode (am_cd k) pc = .ok (.dup, 1)) (hpc : am_pc k j = pc) (hnx : am_pc k (j + 1) = pc + 1) (hv : (am_cv z0 sp v).category = 1)
    (kk : am_W sp z0 cy D n0 m0 k p l e R s m args below meth c Q ((j + 1, ls, v :: v :: st, M))) : am_W sp z0 cy D n0 m0 k p l e R s m args below meth c Q ((j, ls, v :: st, M)) := fun H locs lsv cells slots hW hc hs hl => by
  have h := kk H locs lsv cells slots hW hc hs hl
  dsimp only at h ⊢
  rw [hnx] at h
  rw [hpc]
  exact lv_dup hF.1 hF.2.1 hdg hv h
theorem am_s_dup2 (hF : am_F sc sp z0 cy D k p R s m args meth c) {v u : Value} (hdg : decode (am_cd k) pc = .ok (.dup2, 1)) (hpc : am_pc k j = pc) (hnx : am_pc k (j + 1) = pc + 1) (hv : (am_cv z0 sp v).category = 1) (hu : (am_cv z0 sp u).category = 1)
    (kk : am_W sp z0 cy D n0 m0 k p l e R s m args below meth c Q ((j + 1, ls, v :: u :: v :: u :: st, M))) : am_W sp z0 cy D n0 m0 k p l e R s m args below meth c Q ((j, ls, v :: u :: st, M)) := fun H locs lsv cells slots hW hc hs hl => by
  have h := kk H locs lsv cells slots hW hc hs hl
  dsimp only at h ⊢
  rw [hnx] at h
  rw [hpc]
  exact lv_dup2_11 hF.1 hF.2.1 hdg hv hu h
theorem am_s_pop (hF : am_F sc sp z0 cy D k p R s m args meth c) {v : Value} (hdg : decode (am_cd k) pc = .ok (.pop, 1)) (hpc : am_pc k j = pc) (hnx : am_pc k (j + 1) = pc + 1) (hv : (am_cv z0 sp v).category = 1)
    (kk : am_W sp z0 cy D n0 m0 k p l e R s m args below meth c Q ((j + 1, ls, st, M))) : am_W sp z0 cy D n0 m0 k p l e R s m args below meth c Q ((j, ls, v :: st, M)) := fun H locs lsv cells slots hW hc hs hl => by
  have h := kk H locs lsv cells slots hW hc hs hl
  dsimp only at h ⊢
  rw [hnx] at h
  rw [hpc]
  exact lv_pop hF.1 hF.2.1 hdg hv h
theorem am_s_if_eq (hF : am_F sc sp z0 cy D k p R s m args meth c) {x : Int32} {off : Int} {t tp : Nat} (hdg : decode (am_cd k) pc = .ok (.ifCond .eq off, 3)) (hpc : am_pc k j = pc) (hnx : am_pc k (j + 1) = pc + 3) (ht : am_pc k t = tp) (hoff : (pc : Int) + off = (tp : Int))
    (kk : am_W sp z0 cy D n0 m0 k p l e R s m args below meth c Q (((if x = 0 then t else j + 1), ls, st, M))) : am_W sp z0 cy D n0 m0 k p l e R s m args below meth c Q ((j, ls, .int x :: st, M)) := fun H locs lsv cells slots hW hc hs hl => by
  have h := kk H locs lsv cells slots hW hc hs hl
  dsimp only at h ⊢
  rw [hpc]
  exact lv_if_eq hF.1 hF.2.1 hdg hoff (fun q => by rw [if_pos q] at h; rw [ht] at h; exact h) (fun q => by rw [if_neg q] at h; rw [hnx] at h; exact h)
theorem am_s_if_ne (hF : am_F sc sp z0 cy D k p R s m args meth c) {x : Int32} {off : Int} {t tp : Nat} (hdg : decode (am_cd k) pc = .ok (.ifCond .ne off, 3)) (hpc : am_pc k j = pc) (hnx : am_pc k (j + 1) = pc + 3) (ht : am_pc k t = tp) (hoff : (pc : Int) + off = (tp : Int))
    (kk : am_W sp z0 cy D n0 m0 k p l e R s m args below meth c Q (((if x = 0 then j + 1 else t), ls, st, M))) : am_W sp z0 cy D n0 m0 k p l e R s m args below meth c Q ((j, ls, .int x :: st, M)) := fun H locs lsv cells slots hW hc hs hl => by
  have h := kk H locs lsv cells slots hW hc hs hl
  dsimp only at h ⊢
  rw [hpc]
  exact lv_if_ne hF.1 hF.2.1 hdg hoff (fun q => by rw [if_neg q] at h; rw [ht] at h; exact h) (fun q => by rw [if_pos q] at h; rw [hnx] at h; exact h)
theorem am_s_if_lt (hF : am_F sc sp z0 cy D k p R s m args meth c) {x : Int32} {off : Int} {t tp : Nat} (hdg : decode (am_cd k) pc = .ok (.ifCond .lt off, 3)) (hpc : am_pc k j = pc) (hnx : am_pc k (j + 1) = pc + 3) (ht : am_pc k t = tp) (hoff : (pc : Int) + off = (tp : Int))
    (kk : am_W sp z0 cy D n0 m0 k p l e R s m args below meth c Q (((if x < 0 then t else j + 1), ls, st, M))) : am_W sp z0 cy D n0 m0 k p l e R s m args below meth c Q ((j, ls, .int x :: st, M)) := fun H locs lsv cells slots hW hc hs hl => by
  have h := kk H locs lsv cells slots hW hc hs hl
  dsimp only at h ⊢
  rw [hpc]
  exact lv_if_lt hF.1 hF.2.1 hdg hoff (fun q => by rw [if_pos q] at h; rw [ht] at h; exact h) (fun q => by rw [if_neg q] at h; rw [hnx] at h; exact h)
theorem am_s_if_ge (hF : am_F sc sp z0 cy D k p R s m args meth c) {x : Int32} {off : Int} {t tp : Nat} (hdg : decode (am_cd k) pc = .ok (.ifCond .ge off, 3)) (hpc : am_pc k j = pc) (hnx : am_pc k (j + 1) = pc + 3) (ht : am_pc k t = tp) (hoff : (pc : Int) + off = (tp : Int))
    (kk : am_W sp z0 cy D n0 m0 k p l e R s m args below meth c Q (((if 0 ≤ x then t else j + 1), ls, st, M))) : am_W sp z0 cy D n0 m0 k p l e R s m args below meth c Q ((j, ls, .int x :: st, M)) := fun H locs lsv cells slots hW hc hs hl => by
  have h := kk H locs lsv cells slots hW hc hs hl
  dsimp only at h ⊢
  rw [hpc]
  exact lv_if_ge hF.1 hF.2.1 hdg hoff (fun q => by rw [if_pos q] at h; rw [ht] at h; exact h) (fun q => by rw [if_neg q] at h; rw [hnx] at h; exact h)
theorem am_s_if_gt (hF : am_F sc sp z0 cy D k p R s m args meth c) {x : Int32} {off : Int} {t tp : Nat} (hdg : decode (am_cd k) pc = .ok (.ifCond .gt off, 3)) (hpc : am_pc k j = pc) (hnx : am_pc k (j + 1) = pc + 3) (ht : am_pc k t = tp) (hoff : (pc : Int) + off = (tp : Int))
    (kk : am_W sp z0 cy D n0 m0 k p l e R s m args below meth c Q (((if 0 < x then t else j + 1), ls, st, M))) : am_W sp z0 cy D n0 m0 k p l e R s m args below meth c Q ((j, ls, .int x :: st, M)) := fun H locs lsv cells slots hW hc hs hl => by
  have h := kk H locs lsv cells slots hW hc hs hl
  dsimp only at h ⊢
  rw [hpc]
  exact lv_if_gt hF.1 hF.2.1 hdg hoff (fun q => by rw [if_pos q] at h; rw [ht] at h; exact h) (fun q => by rw [if_neg q] at h; rw [hnx] at h; exact h)
theorem am_s_if_le (hF : am_F sc sp z0 cy D k p R s m args meth c) {x : Int32} {off : Int} {t tp : Nat} (hdg : decode (am_cd k) pc = .ok (.ifCond .le off, 3)) (hpc : am_pc k j = pc) (hnx : am_pc k (j + 1) = pc + 3) (ht : am_pc k t = tp) (hoff : (pc : Int) + off = (tp : Int))
    (kk : am_W sp z0 cy D n0 m0 k p l e R s m args below meth c Q (((if x ≤ 0 then t else j + 1), ls, st, M))) : am_W sp z0 cy D n0 m0 k p l e R s m args below meth c Q ((j, ls, .int x :: st, M)) := fun H locs lsv cells slots hW hc hs hl => by
  have h := kk H locs lsv cells slots hW hc hs hl
  dsimp only at h ⊢
  rw [hpc]
  exact lv_if_le hF.1 hF.2.1 hdg hoff (fun q => by rw [if_pos q] at h; rw [ht] at h; exact h) (fun q => by rw [if_neg q] at h; rw [hnx] at h; exact h)
theorem am_s_icmp_eq (hF : am_F sc sp z0 cy D k p R s m args meth c) {x y : Int32} {off : Int} {t tp : Nat} (hdg : decode (am_cd k) pc = .ok (.if_icmp .eq off, 3)) (hpc : am_pc k j = pc) (hnx : am_pc k (j + 1) = pc + 3) (ht : am_pc k t = tp) (hoff : (pc : Int) + off = (tp : Int))
    (kk : am_W sp z0 cy D n0 m0 k p l e R s m args below meth c Q (((if x = y then t else j + 1), ls, st, M))) : am_W sp z0 cy D n0 m0 k p l e R s m args below meth c Q ((j, ls, .int y :: .int x :: st, M)) := fun H locs lsv cells slots hW hc hs hl => by
  have h := kk H locs lsv cells slots hW hc hs hl
  dsimp only at h ⊢
  rw [hpc]
  exact lv_icmp_eq hF.1 hF.2.1 hdg hoff (fun q => by rw [if_pos q] at h; rw [ht] at h; exact h) (fun q => by rw [if_neg q] at h; rw [hnx] at h; exact h)
theorem am_s_icmp_ne (hF : am_F sc sp z0 cy D k p R s m args meth c) {x y : Int32} {off : Int} {t tp : Nat} (hdg : decode (am_cd k) pc = .ok (.if_icmp .ne off, 3)) (hpc : am_pc k j = pc) (hnx : am_pc k (j + 1) = pc + 3) (ht : am_pc k t = tp) (hoff : (pc : Int) + off = (tp : Int))
    (kk : am_W sp z0 cy D n0 m0 k p l e R s m args below meth c Q (((if x = y then j + 1 else t), ls, st, M))) : am_W sp z0 cy D n0 m0 k p l e R s m args below meth c Q ((j, ls, .int y :: .int x :: st, M)) := fun H locs lsv cells slots hW hc hs hl => by
  have h := kk H locs lsv cells slots hW hc hs hl
  dsimp only at h ⊢
  rw [hpc]
  exact lv_icmp_ne hF.1 hF.2.1 hdg hoff (fun q => by rw [if_neg q] at h; rw [ht] at h; exact h) (fun q => by rw [if_pos q] at h; rw [hnx] at h; exact h)
theorem am_s_icmp_lt (hF : am_F sc sp z0 cy D k p R s m args meth c) {x y : Int32} {off : Int} {t tp : Nat} (hdg : decode (am_cd k) pc = .ok (.if_icmp .lt off, 3)) (hpc : am_pc k j = pc) (hnx : am_pc k (j + 1) = pc + 3) (ht : am_pc k t = tp) (hoff : (pc : Int) + off = (tp : Int))
    (kk : am_W sp z0 cy D n0 m0 k p l e R s m args below meth c Q (((if x < y then t else j + 1), ls, st, M))) : am_W sp z0 cy D n0 m0 k p l e R s m args below meth c Q ((j, ls, .int y :: .int x :: st, M)) := fun H locs lsv cells slots hW hc hs hl => by
  have h := kk H locs lsv cells slots hW hc hs hl
  dsimp only at h ⊢
  rw [hpc]
  exact lv_icmp_lt hF.1 hF.2.1 hdg hoff (fun q => by rw [if_pos q] at h; rw [ht] at h; exact h) (fun q => by rw [if_neg q] at h; rw [hnx] at h; exact h)
theorem am_s_icmp_ge (hF : am_F sc sp z0 cy D k p R s m args meth c) {x y : Int32} {off : Int} {t tp : Nat} (hdg : decode (am_cd k) pc = .ok (.if_icmp .ge off, 3)) (hpc : am_pc k j = pc) (hnx : am_pc k (j + 1) = pc + 3) (ht : am_pc k t = tp) (hoff : (pc : Int) + off = (tp : Int))
    (kk : am_W sp z0 cy D n0 m0 k p l e R s m args below meth c Q (((if y ≤ x then t else j + 1), ls, st, M))) : am_W sp z0 cy D n0 m0 k p l e R s m args below meth c Q ((j, ls, .int y :: .int x :: st, M)) := fun H locs lsv cells slots hW hc hs hl => by
  have h := kk H locs lsv cells slots hW hc hs hl
  dsimp only at h ⊢
  rw [hpc]
  exact lv_icmp_ge hF.1 hF.2.1 hdg hoff (fun q => by rw [if_pos q] at h; rw [ht] at h; exact h) (fun q => by rw [if_neg q] at h; rw [hnx] at h; exact h)
theorem am_s_icmp_gt (hF : am_F sc sp z0 cy D k p R s m args meth c) {x y : Int32} {off : Int} {t tp : Nat} (hdg : decode (am_cd k) pc = .ok (.if_icmp .gt off, 3)) (hpc : am_pc k j = pc) (hnx : am_pc k (j + 1) = pc + 3) (ht : am_pc k t = tp) (hoff : (pc : Int) + off = (tp : Int))
    (kk : am_W sp z0 cy D n0 m0 k p l e R s m args below meth c Q (((if y < x then t else j + 1), ls, st, M))) : am_W sp z0 cy D n0 m0 k p l e R s m args below meth c Q ((j, ls, .int y :: .int x :: st, M)) := fun H locs lsv cells slots hW hc hs hl => by
  have h := kk H locs lsv cells slots hW hc hs hl
  dsimp only at h ⊢
  rw [hpc]
  exact lv_icmp_gt hF.1 hF.2.1 hdg hoff (fun q => by rw [if_pos q] at h; rw [ht] at h; exact h) (fun q => by rw [if_neg q] at h; rw [hnx] at h; exact h)
theorem am_s_icmp_le (hF : am_F sc sp z0 cy D k p R s m args meth c) {x y : Int32} {off : Int} {t tp : Nat} (hdg : decode (am_cd k) pc = .ok (.if_icmp .le off, 3)) (hpc : am_pc k j = pc) (hnx : am_pc k (j + 1) = pc + 3) (ht : am_pc k t = tp) (hoff : (pc : Int) + off = (tp : Int))
    (kk : am_W sp z0 cy D n0 m0 k p l e R s m args below meth c Q (((if x ≤ y then t else j + 1), ls, st, M))) : am_W sp z0 cy D n0 m0 k p l e R s m args below meth c Q ((j, ls, .int y :: .int x :: st, M)) := fun H locs lsv cells slots hW hc hs hl => by
  have h := kk H locs lsv cells slots hW hc hs hl
  dsimp only at h ⊢
  rw [hpc]
  exact lv_icmp_le hF.1 hF.2.1 hdg hoff (fun q => by rw [if_pos q] at h; rw [ht] at h; exact h) (fun q => by rw [if_neg q] at h; rw [hnx] at h; exact h)
theorem am_s_goto (hF : am_F sc sp z0 cy D k p R s m args meth c) {off : Int} {t tp : Nat} (hdg : decode (am_cd k) pc = .ok (.goto off, 3)) (hpc : am_pc k j = pc) (ht : am_pc k t = tp) (hoff : (pc : Int) + off = (tp : Int))
    (kk : am_W sp z0 cy D n0 m0 k p l e R s m args below meth c Q ((t, ls, st, M))) : am_W sp z0 cy D n0 m0 k p l e R s m args below meth c Q ((j, ls, st, M)) := fun H locs lsv cells slots hW hc hs hl => by
  have h := kk H locs lsv cells slots hW hc hs hl
  dsimp only at h ⊢
  rw [hpc]
  rw [ht] at h
  exact lv_goto hF.1 hF.2.1 hdg hoff h
theorem am_s_iload_n (hF : am_F sc sp z0 cy D k p R s m args meth c) {n : Fin 4} {x : Int32} (hdg : decode (am_cd k) pc = .ok (.iload_n n, 1)) (hpc : am_pc k j = pc) (hnx : am_pc k (j + 1) = pc + 1) (hi : ls[(n : Nat)]? = some (some (.int x)))
    (kk : am_W sp z0 cy D n0 m0 k p l e R s m args below meth c Q ((j + 1, ls, .int x :: st, M))) : am_W sp z0 cy D n0 m0 k p l e R s m args below meth c Q ((j, ls, st, M)) := fun H locs lsv cells slots hW hc hs hl => by
  have h := kk H locs lsv cells slots hW hc hs hl
  dsimp only at h ⊢
  rw [hnx] at h
  rw [hpc]
  exact lv_iload_n hF.1 hF.2.1 hdg rfl (hl.2.2.2 _ _ hi) h
theorem am_s_iload (hF : am_F sc sp z0 cy D k p R s m args meth c) {n : Nat} {x : Int32} (hdg : decode (am_cd k) pc = .ok (.iload n, 2)) (hpc : am_pc k j = pc) (hnx : am_pc k (j + 1) = pc + 2) (hi : ls[(n : Nat)]? = some (some (.int x)))
    (kk : am_W sp z0 cy D n0 m0 k p l e R s m args below meth c Q ((j + 1, ls, .int x :: st, M))) : am_W sp z0 cy D n0 m0 k p l e R s m args below meth c Q ((j, ls, st, M)) := fun H locs lsv cells slots hW hc hs hl => by
  have h := kk H locs lsv cells slots hW hc hs hl
  dsimp only at h ⊢
  rw [hnx] at h
  rw [hpc]
  exact lv_iload hF.1 hF.2.1 hdg (hl.2.2.2 _ _ hi) h
theorem am_s_lload_n (hF : am_F sc sp z0 cy D k p R s m args meth c) {n : Fin 4} {x : Int64} (hdg : decode (am_cd k) pc = .ok (.lload_n n, 1)) (hpc : am_pc k j = pc) (hnx : am_pc k (j + 1) = pc + 1) (hi : ls[(n : Nat)]? = some (some (.long x)))
    (kk : am_W sp z0 cy D n0 m0 k p l e R s m args below meth c Q ((j + 1, ls, .long x :: st, M))) : am_W sp z0 cy D n0 m0 k p l e R s m args below meth c Q ((j, ls, st, M)) := fun H locs lsv cells slots hW hc hs hl => by
  have h := kk H locs lsv cells slots hW hc hs hl
  dsimp only at h ⊢
  rw [hnx] at h
  rw [hpc]
  exact lv_lload_n hF.1 hF.2.1 hdg rfl (hl.2.2.2 _ _ hi) h
theorem am_s_lload (hF : am_F sc sp z0 cy D k p R s m args meth c) {n : Nat} {x : Int64} (hdg : decode (am_cd k) pc = .ok (.lload n, 2)) (hpc : am_pc k j = pc) (hnx : am_pc k (j + 1) = pc + 2) (hi : ls[(n : Nat)]? = some (some (.long x)))
    (kk : am_W sp z0 cy D n0 m0 k p l e R s m args below meth c Q ((j + 1, ls, .long x :: st, M))) : am_W sp z0 cy D n0 m0 k p l e R s m args below meth c Q ((j, ls, st, M)) := fun H locs lsv cells slots hW hc hs hl => by
  have h := kk H locs lsv cells slots hW hc hs hl
  dsimp only at h ⊢
  rw [hnx] at h
  rw [hpc]
  exact lv_lload hF.1 hF.2.1 hdg (hl.2.2.2 _ _ hi) h
theorem am_cv_ref (hsp : ∀ n, sp n = .null ∨ ∃ t, sp n = .ref t) (x : Nat) : am_cv z0 sp (.ref x) = .null ∨ ∃ t, am_cv z0 sp (.ref x) = .ref t := by
  unfold am_cv
  dsimp only
  split
  · exact hsp x
  · exact Or.inr ⟨_, rfl⟩
theorem am_sp_cat (hsp : ∀ n, sp n = .null ∨ ∃ t, sp n = .ref t) (n : Nat) : (sp n).category = 1 := by
  rcases hsp n with q | ⟨t, q⟩ <;> rw [q] <;> rfl
theorem am_s_aload_n (hF : am_F sc sp z0 cy D k p R s m args meth c) {n : Fin 4} {x : Nat} (hsp : ∀ n, sp n = .null ∨ ∃ t, sp n = .ref t) (hdg : decode (am_cd k) pc = .ok (.aload_n n, 1)) (hpc : am_pc k j = pc) (hnx : am_pc k (j + 1) = pc + 1) (hi : ls[(n : Nat)]? = some (some (.ref x)))
    (kk : am_W sp z0 cy D n0 m0 k p l e R s m args below meth c Q ((j + 1, ls, .ref x :: st, M))) : am_W sp z0 cy D n0 m0 k p l e R s m args below meth c Q ((j, ls, st, M)) := fun H locs lsv cells slots hW hc hs hl => by
  have h := kk H locs lsv cells slots hW hc hs hl
  dsimp only at h ⊢
  rw [hnx] at h
  rw [hpc]
  have hv := hl.2.2.2 _ _ hi
  rw [List.map_cons] at h
  rcases am_cv_ref (z0 := z0) hsp x with q | ⟨t, q⟩
  · rw [q] at h hv
    exact lv_aload_nN hF.1 hF.2.1 hdg rfl hv h
  · rw [q] at h hv
    exact lv_aload_n hF.1 hF.2.1 hdg rfl hv h
theorem am_s_aload (hF : am_F sc sp z0 cy D k p R s m args meth c) {n : Nat} {x : Nat} (hsp : ∀ n, sp n = .null ∨ ∃ t, sp n = .ref t) (hdg : decode (am_cd k) pc = .ok (.aload n, 2)) (hpc : am_pc k j = pc) (hnx : am_pc k (j + 1) = pc + 2) (hi : ls[(n : Nat)]? = some (some (.ref x)))
    (kk : am_W sp z0 cy D n0 m0 k p l e R s m args below meth c Q ((j + 1, ls, .ref x :: st, M))) : am_W sp z0 cy D n0 m0 k p l e R s m args below meth c Q ((j, ls, st, M)) := fun H locs lsv cells slots hW hc hs hl => by
  have h := kk H locs lsv cells slots hW hc hs hl
  dsimp only at h ⊢
  rw [hnx] at h
  rw [hpc]
  have hv := hl.2.2.2 _ _ hi
  rw [List.map_cons] at h
  rcases am_cv_ref (z0 := z0) hsp x with q | ⟨t, q⟩
  · rw [q] at h hv
    exact lv_aloadN hF.1 hF.2.1 hdg hv h
  · rw [q] at h hv
    exact lv_aload hF.1 hF.2.1 hdg hv h
/-- the kit's list of locals, out of ours -/
def am_al (sp : Nat → Value) (z0 : Nat) (i : Nat) (ls : am_L) : List (Nat × Value) := match ls with
  | [] => []
  | none :: ls => am_al sp z0 (i + 1) ls
  | some v :: ls => (i, am_cv z0 sp v) :: am_al sp z0 (i + 1) ls
theorem am_al_in : ∀ (ls : am_L) (i : Nat) (q : Nat × Value), q ∈ am_al sp z0 i ls ↔ ∃ (n : Nat) (v : Value), ls[n]? = some (some v) ∧ q = (i + n, am_cv z0 sp v) := by
  intro ls
  induction ls with
  | nil => intro i q; simp [am_al]
  | cons o ls ih =>
    intro i q
    cases o with
    | none =>
      simp only [am_al, ih]
      constructor
      · rintro ⟨n, v, h1, h2⟩
        exact ⟨n + 1, v, by simpa using h1, by rw [h2]; congr 1; omega⟩
      · rintro ⟨n, v, h1, h2⟩
        cases n with
        | zero => simp at h1
        | succ n => exact ⟨n, v, by simpa using h1, by rw [h2]; congr 1; omega⟩
    | some u =>
      simp only [am_al, List.mem_cons, ih]
      constructor
      · rintro (h | ⟨n, v, h1, h2⟩)
        · exact ⟨0, u, by simp, by rw [h]; rfl⟩
        · exact ⟨n + 1, v, by simpa using h1, by rw [h2]; congr 1; omega⟩
      · rintro ⟨n, v, h1, h2⟩
        cases n with
        | zero =>
          simp at h1
          subst h1
          exact Or.inl h2
        | succ n => exact Or.inr ⟨n, v, by simpa using h1, by rw [h2]; congr 1; omega⟩
theorem am_lv_has {lsv : Array Slot} {nL : Nat} (h : am_lv sp z0 lsv nL ls) : lv_has lsv nL (am_al sp z0 0 ls) := by
  refine ⟨h.2.1, h.2.2.1, fun q hq => ?_⟩
  obtain ⟨n, v, h1, rfl⟩ := (am_al_in ls 0 q).mp hq
  rw [Nat.zero_add]
  exact h.2.2.2 n v h1
theorem am_okst_spec {i : Nat} (h : am_okst ls i = true) : i < ls.length ∧ ∀ (n : Nat) (v : Value), n + 1 = i → ls[n]? = some (some v) → ¬ v.category = 2 := by
  unfold am_okst at h
  split at h
  · exact ⟨Nat.le_of_ble_eq_true h, fun n v q => by omega⟩
  · next i0 =>
    split at h
    · cases h
    · cases h
    · next h1 h2 =>
      refine ⟨by have := Nat.le_of_ble_eq_true h; omega, fun n v q hv => ?_⟩
      have : n = i0 := by omega
      subst this
      cases v with
      | long x => exact absurd hv (h1 x)
      | double x => exact absurd hv (h2 x)
      | _ => simp [Value.category]
theorem am_lv_st1 {lsv' : Array Slot} {nL i : Nat} {v : Value} (hlen : ls.length = nL) (hok : am_okst ls i = true) (hsp : ∀ n, (sp n).category = 1)
    (h : lv_has lsv' nL ((i, am_cv z0 sp v) :: (am_al sp z0 0 ls).filter (fun q => !(q.1 == i) && !(q.1 + 1 == i && q.2.category == 2)))) : am_lv sp z0 lsv' nL (ls.set i (some v)) := by
  obtain ⟨hi, hno⟩ := am_okst_spec hok
  refine ⟨by simp [hlen], h.1, h.2.1, fun n u hu => ?_⟩
  by_cases hn : n = i
  · subst hn
    rw [List.getElem?_set_self hi] at hu
    cases hu
    exact h.2.2 (n, am_cv z0 sp v) List.mem_cons_self
  · rw [List.getElem?_set_ne (fun q => hn q.symm)] at hu
    refine h.2.2 (n, am_cv z0 sp u) (List.mem_cons_of_mem _ (List.mem_filter.mpr ⟨(am_al_in ls 0 _).mpr ⟨n, u, hu, by simp⟩, ?_⟩))
    simp only [Bool.and_eq_true, Bool.not_eq_true', beq_eq_false_iff_ne, Bool.and_eq_false_iff]
    refine ⟨hn, ?_⟩
    by_cases hn1 : n + 1 = i
    · right
      rw [am_cv_cat hsp]
      exact hno n u hn1 hu
    · left; exact hn1
theorem am_lv_st2 {lsv' : Array Slot} {nL i : Nat} {v : Value} (hlen : ls.length = nL) (hok : am_okst2 ls i = true) (hsp : ∀ n, (sp n).category = 1)
    (h : lv_has lsv' nL ((i, am_cv z0 sp v) :: (am_al sp z0 0 ls).filter (fun q => !(q.1 == i) && (!(q.1 == i + 1) && !(q.1 + 1 == i && q.2.category == 2))))) : am_lv sp z0 lsv' nL ((ls.set i (some v)).set (i + 1) none) := by
  unfold am_okst2 at hok
  rw [Bool.and_eq_true] at hok
  obtain ⟨hi, hno⟩ := am_okst_spec hok.1
  refine ⟨by simp [hlen], h.1, h.2.1, fun n u hu => ?_⟩
  by_cases hn2 : n = i + 1
  · subst hn2
    rw [List.getElem?_set_self (by simp; have := Nat.le_of_ble_eq_true hok.2; omega)] at hu
    cases hu
  · rw [List.getElem?_set_ne (fun q => hn2 q.symm)] at hu
    by_cases hn : n = i
    · subst hn
      rw [List.getElem?_set_self hi] at hu
      cases hu
      exact h.2.2 (n, am_cv z0 sp v) List.mem_cons_self
    · rw [List.getElem?_set_ne (fun q => hn q.symm)] at hu
      refine h.2.2 (n, am_cv z0 sp u) (List.mem_cons_of_mem _ (List.mem_filter.mpr ⟨(am_al_in ls 0 _).mpr ⟨n, u, hu, by simp⟩, ?_⟩))
      simp only [Bool.and_eq_true, Bool.not_eq_true', beq_eq_false_iff_ne, Bool.and_eq_false_iff]
      refine ⟨hn, hn2, ?_⟩
      by_cases hn1 : n + 1 = i
      · right
        rw [am_cv_cat hsp]
        exact hno n u hn1 hu
      · left; exact hn1
theorem am_s_istore_n (hF : am_F sc sp z0 cy D k p R s m args meth c) {n : Fin 4} {x : Int32} (hsp : ∀ n, sp n = .null ∨ ∃ t, sp n = .ref t) (hdg : decode (am_cd k) pc = .ok (.istore_n n, 1)) (hpc : am_pc k j = pc) (hnx : am_pc k (j + 1) = pc + 1) (hi : am_okst ls ((n : Nat) : Nat) = true)
    (kk : am_W sp z0 cy D n0 m0 k p l e R s m args below meth c Q ((j + 1, ls.set (n : Nat) (some (.int x)), st, M))) : am_W sp z0 cy D n0 m0 k p l e R s m args below meth c Q ((j, ls, .int x :: st, M)) := fun H locs lsv cells slots hW hc hs hl => by
  dsimp only at hW hc hs hl ⊢
  rw [hpc]
  refine lv_istore_n hF.1 hF.2.1 hdg rfl (am_lv_has hl) (by have := (am_okst_spec hi).1; have := hl.1; omega) rfl (fun lsv' h' => ?_)
  have h := kk H locs lsv' cells slots hW hc hs (am_lv_st1 (v := .int x) hl.1 hi (am_sp_cat hsp) h')
  dsimp only at h
  rw [hnx] at h
  exact h
theorem am_s_istore (hF : am_F sc sp z0 cy D k p R s m args meth c) {n : Nat} {x : Int32} (hsp : ∀ n, sp n = .null ∨ ∃ t, sp n = .ref t) (hdg : decode (am_cd k) pc = .ok (.istore n, 2)) (hpc : am_pc k j = pc) (hnx : am_pc k (j + 1) = pc + 2) (hi : am_okst ls (n : Nat) = true)
    (kk : am_W sp z0 cy D n0 m0 k p l e R s m args below meth c Q ((j + 1, ls.set n (some (.int x)), st, M))) : am_W sp z0 cy D n0 m0 k p l e R s m args below meth c Q ((j, ls, .int x :: st, M)) := fun H locs lsv cells slots hW hc hs hl => by
  dsimp only at hW hc hs hl ⊢
  rw [hpc]
  refine lv_istore hF.1 hF.2.1 hdg (am_lv_has hl) (by have := (am_okst_spec hi).1; have := hl.1; omega) rfl (fun lsv' h' => ?_)
  have h := kk H locs lsv' cells slots hW hc hs (am_lv_st1 (v := .int x) hl.1 hi (am_sp_cat hsp) h')
  dsimp only at h
  rw [hnx] at h
  exact h
theorem am_s_lstore_n (hF : am_F sc sp z0 cy D k p R s m args meth c) {n : Fin 4} {x : Int64} (hsp : ∀ n, sp n = .null ∨ ∃ t, sp n = .ref t) (hdg : decode (am_cd k) pc = .ok (.lstore_n n, 1)) (hpc : am_pc k j = pc) (hnx : am_pc k (j + 1) = pc + 1) (hi : am_okst2 ls ((n : Nat) : Nat) = true)
    (kk : am_W sp z0 cy D n0 m0 k p l e R s m args below meth c Q ((j + 1, (ls.set (n : Nat) (some (.long x))).set ((n : Nat) + 1) none, st, M))) : am_W sp z0 cy D n0 m0 k p l e R s m args below meth c Q ((j, ls, .long x :: st, M)) := fun H locs lsv cells slots hW hc hs hl => by
  dsimp only at hW hc hs hl ⊢
  rw [hpc]
  refine lv_lstore_n hF.1 hF.2.1 hdg rfl (am_lv_has hl) (by have := Nat.le_of_ble_eq_true (Bool.and_eq_true_iff.mp hi).2; have := hl.1; omega) rfl (fun lsv' h' => ?_)
  have h := kk H locs lsv' cells slots hW hc hs (am_lv_st2 (v := .long x) hl.1 hi (am_sp_cat hsp) h')
  dsimp only at h
  rw [hnx] at h
  exact h
theorem am_s_lstore (hF : am_F sc sp z0 cy D k p R s m args meth c) {n : Nat} {x : Int64} (hsp : ∀ n, sp n = .null ∨ ∃ t, sp n = .ref t) (hdg : decode (am_cd k) pc = .ok (.lstore n, 2)) (hpc : am_pc k j = pc) (hnx : am_pc k (j + 1) = pc + 2) (hi : am_okst2 ls (n : Nat) = true)
    (kk : am_W sp z0 cy D n0 m0 k p l e R s m args below meth c Q ((j + 1, (ls.set n (some (.long x))).set (n + 1) none, st, M))) : am_W sp z0 cy D n0 m0 k p l e R s m args below meth c Q ((j, ls, .long x :: st, M)) := fun H locs lsv cells slots hW hc hs hl => by
  dsimp only at hW hc hs hl ⊢
  rw [hpc]
  refine lv_lstore hF.1 hF.2.1 hdg (am_lv_has hl) (by have := Nat.le_of_ble_eq_true (Bool.and_eq_true_iff.mp hi).2; have := hl.1; omega) rfl (fun lsv' h' => ?_)
  have h := kk H locs lsv' cells slots hW hc hs (am_lv_st2 (v := .long x) hl.1 hi (am_sp_cat hsp) h')
  dsimp only at h
  rw [hnx] at h
  exact h
theorem am_s_astore_n (hF : am_F sc sp z0 cy D k p R s m args meth c) {n : Fin 4} {x : Nat} (hsp : ∀ n, sp n = .null ∨ ∃ t, sp n = .ref t) (hdg : decode (am_cd k) pc = .ok (.astore_n n, 1)) (hpc : am_pc k j = pc) (hnx : am_pc k (j + 1) = pc + 1) (hi : am_okst ls ((n : Nat) : Nat) = true)
    (kk : am_W sp z0 cy D n0 m0 k p l e R s m args below meth c Q ((j + 1, ls.set (n : Nat) (some (.ref x)), st, M))) : am_W sp z0 cy D n0 m0 k p l e R s m args below meth c Q ((j, ls, .ref x :: st, M)) := fun H locs lsv cells slots hW hc hs hl => by
  dsimp only at hW hc hs hl ⊢
  rw [hpc, List.map_cons]
  have hb : ((n : Nat) : Nat) < am_ml k := by have := (am_okst_spec hi).1; have := hl.1; omega
  have go : ∀ lsv' : Array Slot, lv_has lsv' (am_ml k) (((n : Nat), am_cv z0 sp (.ref x)) :: (am_al sp z0 0 ls).filter (fun q => !(q.1 == (n : Nat)) && !(q.1 + 1 == (n : Nat) && q.2.category == 2))) → W p l e R s m args below meth c H locs cells slots Q (F0 m (pc + 1) lsv' (st.map (am_cv z0 sp))) := fun lsv' h' => by
    have h := kk H locs lsv' cells slots hW hc hs (am_lv_st1 (v := .ref x) hl.1 hi (am_sp_cat hsp) h')
    dsimp only at h
    rw [hnx] at h
    exact h
  rcases am_cv_ref (z0 := z0) hsp x with q | ⟨t, q⟩
  · rw [q] at go ⊢
    exact lv_astore_nN hF.1 hF.2.1 hdg rfl (am_lv_has hl) hb rfl go
  · rw [q] at go ⊢
    exact lv_astore_n hF.1 hF.2.1 hdg rfl (am_lv_has hl) hb rfl go
theorem am_s_astore (hF : am_F sc sp z0 cy D k p R s m args meth c) {n : Nat} {x : Nat} (hsp : ∀ n, sp n = .null ∨ ∃ t, sp n = .ref t) (hdg : decode (am_cd k) pc = .ok (.astore n, 2)) (hpc : am_pc k j = pc) (hnx : am_pc k (j + 1) = pc + 2) (hi : am_okst ls (n : Nat) = true)
    (kk : am_W sp z0 cy D n0 m0 k p l e R s m args below meth c Q ((j + 1, ls.set n (some (.ref x)), st, M))) : am_W sp z0 cy D n0 m0 k p l e R s m args below meth c Q ((j, ls, .ref x :: st, M)) := fun H locs lsv cells slots hW hc hs hl => by
  dsimp only at hW hc hs hl ⊢
  rw [hpc, List.map_cons]
  have hb : (n : Nat) < am_ml k := by have := (am_okst_spec hi).1; have := hl.1; omega
  have go : ∀ lsv' : Array Slot, lv_has lsv' (am_ml k) ((n, am_cv z0 sp (.ref x)) :: (am_al sp z0 0 ls).filter (fun q => !(q.1 == n) && !(q.1 + 1 == n && q.2.category == 2))) → W p l e R s m args below meth c H locs cells slots Q (F0 m (pc + 2) lsv' (st.map (am_cv z0 sp))) := fun lsv' h' => by
    have h := kk H locs lsv' cells slots hW hc hs (am_lv_st1 (v := .ref x) hl.1 hi (am_sp_cat hsp) h')
    dsimp only at h
    rw [hnx] at h
    exact h
  rcases am_cv_ref (z0 := z0) hsp x with q | ⟨t, q⟩
  · rw [q] at go ⊢
    exact lv_astoreN hF.1 hF.2.1 hdg (am_lv_has hl) hb rfl go
  · rw [q] at go ⊢
    exact lv_astore hF.1 hF.2.1 hdg (am_lv_has hl) hb rfl go
theorem am_s_iinc (hF : am_F sc sp z0 cy D k p R s m args meth c) {n : Nat} {d : Int} {x z : Int32} (hsp : ∀ n, sp n = .null ∨ ∃ t, sp n = .ref t) (hdg : decode (am_cd k) pc = .ok (.iinc n d, 3)) (hpc : am_pc k j = pc) (hnx : am_pc k (j + 1) = pc + 3) (hz : Int32.ofInt d = z) (hx : ls[n]? = some (some (.int x))) (hi : am_okst ls n = true)
    (kk : am_W sp z0 cy D n0 m0 k p l e R s m args below meth c Q ((j + 1, ls.set n (some (.int (x + z))), st, M))) : am_W sp z0 cy D n0 m0 k p l e R s m args below meth c Q ((j, ls, st, M)) := fun H locs lsv cells slots hW hc hs hl => by
  dsimp only at hW hc hs hl ⊢
  rw [hpc]
  obtain ⟨q, hq⟩ := List.mem_iff_getElem?.mp ((am_al_in (sp := sp) (z0 := z0) ls 0 (n, .int x)).mpr ⟨n, .int x, hx, by simp [am_cv]⟩)
  refine lv_iinc hF.1 hF.2.1 hdg (am_lv_has hl) hq (by rw [hz]) (by have := (am_okst_spec hi).1; have := hl.1; omega) rfl (fun lsv' h' => ?_)
  have h := kk H locs lsv' cells slots hW hc hs (am_lv_st1 (v := .int (x + z)) hl.1 hi (am_sp_cat hsp) h')
  dsimp only at h
  rw [hnx] at h
  exact h
end
end
section
/-! ===== soundness: memory ===== -/
section
variable {sc : am_Sc} {sp : Nat → Value} {z0 : Nat} {cy : Nat → ClassId} {D : va_G} {n0 m0 k : Nat} {p : Program} {l : Launch} {e : Env} {R : Room} {s : State} {m : MethodId} {args : Array Value} {below : List Frame} {meth : Method} {c : Code} {Q : State → Prop}
variable {j pc : Nat} {ls : am_L} {st : List Value} {M : am_M} {H : Heap} {locs : List Loc} {cells slots : Nat}
theorem am_sized {g : JFrame} (kk : H.size ≤ s.heap.size + cells → W p l e R s m args below meth c H locs cells slots Q g) : W p l e R s m args below meth c H locs cells slots Q g := fun T hT X => kk (by rw [← hT]; exact X.heapSize) T hT X
theorem am_S_self {A : Nat → Prop} {H0 : Heap} (h : va_S A H0 H locs) : va_S A H H locs := ⟨Nat.le_refl _, fun _ _ _ => rfl, h.2.2⟩
theorem am_S_trans {A : Nat → Prop} {H0 H1 : Heap} {locs1 : List Loc} (h : va_S A H0 H locs) (h1 : va_S A H H1 locs1) : va_S A H0 H1 locs1 := ⟨Nat.le_trans h.1 h1.1, fun q a b => (h1.2.1 q (Nat.lt_of_lt_of_le a h.1) b).trans (h.2.1 q a b), h1.2.2⟩
theorem am_cv_lt {n : Nat} (h : n < 1000) : am_cv z0 sp (.ref n) = .ref (am_ad z0 n) := by
  have hb : Nat.ble 1000 n = false := by
    cases hq : Nat.ble 1000 n with
    | false => rfl
    | true => have := Nat.le_of_ble_eq_true hq; omega
  simp only [am_cv, hb]
theorem am_cv_ge {n : Nat} (h : 1000 ≤ n) : am_cv z0 sp (.ref n) = sp n := by
  have hb : Nat.ble 1000 n = true := Nat.ble_eq_true_of_le h
  simp only [am_cv, hb]
theorem am_stored (hz : s.heap.size = z0 + n0) (hW : am_Wd sp z0 cy D M s H locs) (hc : cells + n0 = am_tot M) (hs : slots + m0 = am_sl M) {n : Nat} {e0 e' : am_E} (hg : am_get M n = some e0) (he : am_esl e' = am_esl e0) {q0 : Nat} (hq : ∀ e', am_cm z0 sp cy 0 (am_set M n e') = (am_cm z0 sp cy 0 M).set q0 (am_ad z0 n, am_ce z0 sp cy e')) {H1 : Heap} {locs1 : List Loc} (hP1 : va_P D vwCl ((am_cm z0 sp cy 0 M).set q0 (am_ad z0 n, am_ce z0 sp cy e')) H1) (hD1 : va_D (am_A z0) ((am_cm z0 sp cy 0 M).set q0 (am_ad z0 n, am_ce z0 sp cy e'))) (hS1 : va_S (am_A z0) H H1 locs1) {lsv : Array Slot} (hl : am_lv sp z0 lsv (am_ml k) ls) {pc' : Nat} (hpc : am_pc k j = pc')
    (kk : am_W sp z0 cy D n0 m0 k p l e R s m args below meth c Q (j, ls, st, am_set M n e')) : W p l e R s m args below meth c H1 locs1 cells slots Q (F0 m pc' lsv (st.map (am_cv z0 sp))) := am_sized (fun hsz => by
  have hH : H1.size = H.size := by have := hS1.1; have := hW.1; omega
  have ht := am_set_tot hg he
  have h := kk H1 locs1 lsv cells slots ⟨by rw [hH, ht.1]; exact hW.1, by rw [hq]; exact hP1, by rw [hq]; exact hD1, am_S_trans hW.2.2.2 hS1⟩ (by rw [ht.1]; exact hc) (by rw [ht.2]; exact hs) hl
  dsimp only at h
  rw [hpc] at h
  exact h)
/-- a field's link: class number a, slot b -/
def am_Lf (k i a b : Nat) : Prop := ∃ q : vw_C, vwCl[a]? = some q ∧ b < q.2.2 ∧ Cond.fieldLink (am_cn (am_ow k)) i (q.2.1 b).1 (q.2.1 b).2.1 (q.2.1 b).2.2.1 ∈ xw_tw
theorem am_s_getf (hF : am_F sc sp z0 cy D k p R s m args meth c) {i a b n : Nat} {fs : List Value} {v : Value} (hL : am_Lf k i a b) (hcl : ∀ q, vwCl[a]? = some q → ∃ ty, am_Cl a q ty) (hdg : decode (am_cd k) pc = .ok (.getfield i, 3)) (hpc : am_pc k j = pc) (hnx : am_pc k (j + 1) = pc + 3) (hg : am_get M n = some (.inr (a, fs))) (hv : fs[b]? = some v)
    (kk : am_W sp z0 cy D n0 m0 k p l e R s m args below meth c Q (j + 1, ls, v :: st, M)) : am_W sp z0 cy D n0 m0 k p l e R s m args below meth c Q (j, ls, .ref n :: st, M) := fun H locs lsv cells slots hW hc hs hl => by
  have h := kk H locs lsv cells slots hW hc hs hl
  dsimp only at h ⊢
  obtain ⟨q, hq, hb, hlk⟩ := hL
  obtain ⟨ty, hci, hty, hnm, -⟩ := hcl q hq
  obtain ⟨hn, q0, h1, -⟩ := am_get_at (z0 := z0) (sp := sp) (cy := cy) hg
  rw [hpc, List.map_cons, am_cv_lt hn]
  rw [hnx] at h
  exact va_get hF.1 hF.2.1 hF.2.2.2.2.1 hci hF.2.2.2.1 hF.2.2.2.2.2.1 hW.2.1 q0 h1 hq b hb (hF.2.2.2.2.1 _ hlk) (fun _ x => x) (by rw [List.getElem?_map, hv]; rfl) hdg h
/-- what a kind of field takes -/
def am_Fk (k : Nat) (q : vw_C) (b kd : Nat) : Prop := match kd with
  | 0 => (q.2.1 b).2.2.2 = false ∧ parseFieldDescriptor (q.2.1 b).2.2.1 = some .int
  | 1 => (q.2.1 b).2.2.2 = false ∧ parseFieldDescriptor (q.2.1 b).2.2.1 = some .boolean
  | 2 => (q.2.1 b).2.2.2 = false ∧ parseFieldDescriptor (q.2.1 b).2.2.1 = some .long
  | _ => (q.2.1 b).2.2.2 = true ∧ am_isI k = true ∧ (q.2.1 b).1 = am_cn (am_ow k) ∧ ((∃ C, parseFieldDescriptor (q.2.1 b).2.2.1 = some (.object C)) ∨ ∃ t, parseFieldDescriptor (q.2.1 b).2.2.1 = some (.array t))
theorem am_s_putf (hF : am_F sc sp z0 cy D k p R s m args meth c) (hz : s.heap.size = z0 + n0) {i a b n kd : Nat} {fs : List Value} {v : Value} {P : Prop} (hL : am_Lf k i a b) (hcl : ∀ q, vwCl[a]? = some q → (∃ ty, am_Cl a q ty) ∧ am_Fk k q b kd) (hdg : decode (am_cd k) pc = .ok (.putfield i, 3)) (hpc : am_pc k j = pc) (hnx : am_pc k (j + 1) = pc + 3) (hg : am_get M n = some (.inr (a, fs))) (hb2 : b < fs.length) (hk : am_pfk kd v = some P) (hP : P)
    (kk : am_W sp z0 cy D n0 m0 k p l e R s m args below meth c Q (j + 1, ls, st, am_set M n (.inr (a, fs.set b v)))) : am_W sp z0 cy D n0 m0 k p l e R s m args below meth c Q (j, ls, v :: .ref n :: st, M) := fun H locs lsv cells slots hW hc hs hl => by
  dsimp only at hW hc hs hl ⊢
  obtain ⟨q, hq, hb, hlk⟩ := hL
  obtain ⟨⟨ty, hci, hty, hnm, -⟩, hfk⟩ := hcl q hq
  obtain ⟨hn, q0, h1, h2⟩ := am_get_at (z0 := z0) (sp := sp) (cy := cy) hg
  rw [hpc, List.map_cons, List.map_cons, am_cv_lt hn]
  have fin : ∀ (H1 : Heap) (locs1 : List Loc), va_P D vwCl ((am_cm z0 sp cy 0 M).set q0 (am_ad z0 n, .inr (a, (fs.map (am_cv z0 sp)).set b (am_cv z0 sp v)))) H1 → va_D (am_A z0) ((am_cm z0 sp cy 0 M).set q0 (am_ad z0 n, .inr (a, (fs.map (am_cv z0 sp)).set b (am_cv z0 sp v)))) → va_S (am_A z0) H H1 locs1 → W p l e R s m args below meth c H1 locs1 cells slots Q (F0 m (pc + 3) lsv (st.map (am_cv z0 sp))) := by
    intro H1 locs1 g1 g2 g3
    rw [← List.map_set] at g1 g2
    exact am_stored hz hW hc hs (e' := .inr (a, fs.set b v)) hg (by simp [am_esl]) h2 g1 g2 g3 hl hnx kk
  have plain : ∀ t : FieldType, (q.2.1 b).2.2.2 = false → parseFieldDescriptor (q.2.1 b).2.2.1 = some t → narrow t (am_cv z0 sp v) = am_cv z0 sp v → fits t (am_cv z0 sp v) = true → W p l e R s m args below meth c H locs cells slots Q (F0 m pc lsv (am_cv z0 sp v :: .ref (am_ad z0 n) :: st.map (am_cv z0 sp))) := fun t g1 g2 g3 g4 =>
    va_put hF.1 hF.2.1 hF.2.2.2.2.1 hci ty hty hnm hF.2.2.2.1 hF.2.2.2.2.2.1 hW.2.1 hW.2.2.1 (am_S_self hW.2.2.2) q0 h1 hq b hb (hF.2.2.2.2.1 _ hlk) (fun _ x => x) g1 g2 g3 g4 (by simpa using hb2) hdg fin
  unfold am_pfk at hk
  split at hk
  · exact plain .int hfk.1 hfk.2 rfl rfl
  · next x =>
    cases hk
    rcases hP with rfl | rfl
    · exact plain .boolean hfk.1 hfk.2 rfl rfl
    · exact plain .boolean hfk.1 hfk.2 rfl rfl
  · exact plain .long hfk.1 hfk.2 rfl rfl
  · next o =>
    split at hk
    · cases hk
    · next ho =>
      have ho : o < 1000 := by
        rcases Nat.lt_or_ge o 1000 with x | x
        · exact x
        · rw [Nat.ble_eq_true_of_le x] at ho; cases ho
      obtain ⟨f1, f2, f3, f4⟩ := hfk
      rw [am_cv_lt ho] at fin ⊢
      rcases f4 with ⟨C, f4⟩ | ⟨t, f4⟩
      · exact va_putF hF.1 hF.2.1 hF.2.2.2.2.1 hci ty hty hnm hF.2.2.2.1 hF.2.2.2.2.2.1 hW.2.1 hW.2.2.1 (am_S_self hW.2.2.2) q0 h1 hq b hb (hF.2.2.2.2.1 _ hlk) (fun _ x => x) f1 (hF.2.2.2.2.2.2.2.1 f2) f3 f4 rfl rfl (by simpa using hb2) hdg fin
      · exact va_putF hF.1 hF.2.1 hF.2.2.2.2.1 hci ty hty hnm hF.2.2.2.1 hF.2.2.2.2.2.1 hW.2.1 hW.2.2.1 (am_S_self hW.2.2.2) q0 h1 hq b hb (hF.2.2.2.2.1 _ hlk) (fun _ x => x) f1 (hF.2.2.2.2.2.2.2.1 f2) f3 f4 rfl rfl (by simpa using hb2) hdg fin
  · cases hk
theorem am_s_gets (hF : am_F sc sp z0 cy D k p R s m args meth c) {i : Nat} {q : String × String × String × Value} (hq : q ∈ am_gs) (hL : Cond.fieldLink (am_cn (am_ow k)) i q.1 q.2.1 q.2.2.1 ∈ xw_tw ∨ ∃ h, Cond.fieldLinkNest (am_cn (am_ow k)) i q.1 q.2.1 q.2.2.1 h ∈ am_nw) (hdg : decode (am_cd k) pc = .ok (.getstatic i, 3)) (hpc : am_pc k j = pc) (hnx : am_pc k (j + 1) = pc + 3)
    (kk : am_W sp z0 cy D n0 m0 k p l e R s m args below meth c Q (j + 1, ls, q.2.2.2 :: st, M)) : am_W sp z0 cy D n0 m0 k p l e R s m args below meth c Q (j, ls, st, M) := fun H locs lsv cells slots hW hc hs hl => by
  have h := kk H locs lsv cells slots hW hc hs hl
  dsimp only at h ⊢
  rw [hpc]
  rw [hnx] at h
  have hX := hF.2.2.2.2.2.2.1
  rcases hL with g | ⟨ho, g⟩
  · exact va_gets hF.1 hF.2.1 (hX.1 q hq) hW.2.2.2 hF.2.2.2.1 (hF.2.2.2.2.1 _ g) (fun _ x => x) hdg h
  · exact va_getsN hF.1 hF.2.1 (hX.1 q hq) hW.2.2.2 hF.2.2.2.1 (va_Nw.use rfl (hX.2.2.1 _ g)) (fun _ x => x) hdg h
theorem am_s_ldcS (hF : am_F sc sp z0 cy D k p R s m args meth c) (hk : am_ow k = 2) (hdg : decode (am_cd k) pc = .ok (.ldc 118, 2)) (hpc : am_pc k j = pc) (hnx : am_pc k (j + 1) = pc + 2)
    (kk : am_W sp z0 cy D n0 m0 k p l e R s m args below meth c Q (j + 1, ls, .ref 1010 :: st, M)) : am_W sp z0 cy D n0 m0 k p l e R s m args below meth c Q (j, ls, st, M) := fun H locs lsv cells slots hW hc hs hl => by
  have h := kk H locs lsv cells slots hW hc hs hl
  dsimp only at h ⊢
  rw [hpc]
  rw [hnx, List.map_cons, am_cv_ge (by omega)] at h
  obtain ⟨a, t, e1, e2, hR, -⟩ := hF.2.2.2.2.2.2.1.2.2.2
  rw [e1] at h
  have ho := hF.2.2.2.1
  rw [hk] at ho
  exact va_ldcS hF.1 hF.2.1 ho hR hdg h
theorem am_s_getSv (hF : am_F sc sp z0 cy D k p R s m args meth c) {i : Nat} (g : Cond.fieldLink (am_cn (am_ow k)) i "java/lang/String" "value" "[B" ∈ xw_tw) (hdg : decode (am_cd k) pc = .ok (.getfield i, 3)) (hpc : am_pc k j = pc) (hnx : am_pc k (j + 1) = pc + 3)
    (kk : am_W sp z0 cy D n0 m0 k p l e R s m args below meth c Q (j + 1, ls, .ref 1011 :: st, M)) : am_W sp z0 cy D n0 m0 k p l e R s m args below meth c Q (j, ls, .ref 1010 :: st, M) := fun H locs lsv cells slots hW hc hs hl => by
  have h := kk H locs lsv cells slots hW hc hs hl
  dsimp only at h ⊢
  obtain ⟨a, t, e1, e2, hR, hO, hC, hV⟩ := hF.2.2.2.2.2.2.1.2.2.2
  rw [hpc, List.map_cons, am_cv_ge (by omega), e1]
  rw [hnx, List.map_cons, am_cv_ge (by omega), e2] at h
  exact vk_getf hF.1 hF.2.1 hV hW.2.2.2 hF.2.2.2.1 (hF.2.2.2.2.1 _ g) (fun _ x => x) hdg h
theorem am_s_getSc (hF : am_F sc sp z0 cy D k p R s m args meth c) {i : Nat} (g : Cond.fieldLink (am_cn (am_ow k)) i "java/lang/String" "coder" "B" ∈ xw_tw) (hdg : decode (am_cd k) pc = .ok (.getfield i, 3)) (hpc : am_pc k j = pc) (hnx : am_pc k (j + 1) = pc + 3)
    (kk : am_W sp z0 cy D n0 m0 k p l e R s m args below meth c Q (j + 1, ls, .int 0 :: st, M)) : am_W sp z0 cy D n0 m0 k p l e R s m args below meth c Q (j, ls, .ref 1010 :: st, M) := fun H locs lsv cells slots hW hc hs hl => by
  have h := kk H locs lsv cells slots hW hc hs hl
  dsimp only at h ⊢
  obtain ⟨a, t, e1, e2, hR, hO, hC, hV⟩ := hF.2.2.2.2.2.2.1.2.2.2
  rw [hpc, List.map_cons, am_cv_ge (by omega), e1]
  rw [hnx] at h
  exact vk_getf hF.1 hF.2.1 hC hW.2.2.2 hF.2.2.2.1 (hF.2.2.2.2.1 _ g) (fun _ x => x) hdg h
theorem am_get_lt {M : am_M} {n : Nat} {e : am_E} (h : am_get M n = some e) : n < 1000 := (am_get_at (z0 := 0) (sp := fun _ => .null) (cy := fun _ => default) h).1
/-- an array: of the memory, or one that was there before -/
theorem am_arr_spec {n ty len : Nat} {f : Nat → Int32} (h : am_arr sc M n = some (ty, len, f)) : (n < 1000 ∧ am_get M n = some (.inl (ty, len, .inl f))) ∨ (1000 ≤ n ∧ am_old sc n = some (ty, len, f)) := by
  unfold am_arr at h
  split at h
  · next hb => exact Or.inr ⟨Nat.le_of_ble_eq_true hb, h⟩
  · split at h
    · next hg => cases h; exact Or.inl ⟨am_get_lt hg, hg⟩
    · cases h
theorem am_old_ty {n ty len : Nat} {f : Nat → Int32} (h : am_old sc n = some (ty, len, f)) : ty = 0 ∨ ty = 1 := by
  unfold am_old at h
  split at h
  · cases h; exact Or.inl rfl
  · split at h
    · cases h; exact Or.inl rfl
    · cases h; exact Or.inr rfl
    · cases h
theorem am_s_iald (hF : am_F sc sp z0 cy D k p R s m args meth c) {n len : Nat} {f : Nat → Int32} {i : Int32} (ha : am_arr sc M n = some (0, len, f)) (hin : am_inb i len) (hdg : decode (am_cd k) pc = .ok (.iaload, 1)) (hpc : am_pc k j = pc) (hnx : am_pc k (j + 1) = pc + 1)
    (kk : am_W sp z0 cy D n0 m0 k p l e R s m args below meth c Q (j + 1, ls, .int (f i.toNatClampNeg) :: st, M)) : am_W sp z0 cy D n0 m0 k p l e R s m args below meth c Q (j, ls, .int i :: .ref n :: st, M) := fun H locs lsv cells slots hW hc hs hl => by
  have h := kk H locs lsv cells slots hW hc hs hl
  dsimp only at h ⊢
  rw [hpc, List.map_cons, List.map_cons]
  rw [hnx] at h
  rcases am_arr_spec ha with ⟨hn, hg⟩ | ⟨hn, hg⟩
  · obtain ⟨-, q0, h1, -⟩ := am_get_at (z0 := z0) (sp := sp) (cy := cy) hg
    rw [am_cv_lt hn]
    exact va_iald hF.1 hF.2.1 hF.2.2.2.2.2.1 hW.2.1 q0 0 h1 rfl hin hdg h
  · obtain ⟨t, e1, hT⟩ := hF.2.2.2.2.2.2.1.2.1 n _ hn hg
    rw [am_cv_ge hn, e1]
    exact va_ti hF.1 hF.2.1 hT hW.2.2.2 hin rfl hdg h
theorem am_s_bald (hF : am_F sc sp z0 cy D k p R s m args meth c) {n len ty : Nat} {f : Nat → Int32} {i : Int32} (ha : am_arr sc M n = some (ty, len, f)) (hty : ty = 1 ∨ ty = 2) (hin : am_inb i len) (hdg : decode (am_cd k) pc = .ok (.baload, 1)) (hpc : am_pc k j = pc) (hnx : am_pc k (j + 1) = pc + 1)
    (kk : am_W sp z0 cy D n0 m0 k p l e R s m args below meth c Q (j + 1, ls, .int (f i.toNatClampNeg) :: st, M)) : am_W sp z0 cy D n0 m0 k p l e R s m args below meth c Q (j, ls, .int i :: .ref n :: st, M) := fun H locs lsv cells slots hW hc hs hl => by
  have h := kk H locs lsv cells slots hW hc hs hl
  dsimp only at h ⊢
  rw [hpc, List.map_cons, List.map_cons]
  rw [hnx] at h
  rcases am_arr_spec ha with ⟨hn, hg⟩ | ⟨hn, hg⟩
  · obtain ⟨-, q0, h1, -⟩ := am_get_at (z0 := z0) (sp := sp) (cy := cy) hg
    rw [am_cv_lt hn]
    rcases hty with rfl | rfl
    · exact va_bald hF.1 hF.2.1 hF.2.2.2.2.2.1 hW.2.1 q0 1 h1 rfl hin hdg h
    · exact va_zald hF.1 hF.2.1 hF.2.2.2.2.2.1 hW.2.1 q0 2 h1 rfl hin hdg h
  · obtain ⟨t, e1, hT⟩ := hF.2.2.2.2.2.2.1.2.1 n _ hn hg
    rw [am_cv_ge hn, e1]
    rcases am_old_ty hg with rfl | rfl
    · omega
    · exact va_tb hF.1 hF.2.1 hT hW.2.2.2 hin rfl hdg h
theorem am_s_alen (hF : am_F sc sp z0 cy D k p R s m args meth c) {n len ty : Nat} {f : Nat → Int32} (ha : am_arr sc M n = some (ty, len, f)) (hty : ty < 3) (hdg : decode (am_cd k) pc = .ok (.arraylength, 1)) (hpc : am_pc k j = pc) (hnx : am_pc k (j + 1) = pc + 1)
    (kk : am_W sp z0 cy D n0 m0 k p l e R s m args below meth c Q (j + 1, ls, .int (Int32.ofNat len) :: st, M)) : am_W sp z0 cy D n0 m0 k p l e R s m args below meth c Q (j, ls, .ref n :: st, M) := fun H locs lsv cells slots hW hc hs hl => by
  have h := kk H locs lsv cells slots hW hc hs hl
  dsimp only at h ⊢
  rw [hpc, List.map_cons]
  rw [hnx] at h
  rcases am_arr_spec ha with ⟨hn, hg⟩ | ⟨hn, hg⟩
  · obtain ⟨-, q0, h1, -⟩ := am_get_at (z0 := z0) (sp := sp) (cy := cy) hg
    rw [am_cv_lt hn]
    have hq : ∃ t : FieldType, (am_tys cy)[ty]? = some (cy ty, t) := by
      rcases (show ty = 0 ∨ ty = 1 ∨ ty = 2 by omega) with rfl | rfl | rfl <;> exact ⟨_, rfl⟩
    obtain ⟨t, hq⟩ := hq
    exact va_alen hF.1 hF.2.1 hF.2.2.2.2.2.1 hW.2.1 q0 ty h1 hq rfl hdg h
  · obtain ⟨t, e1, hT⟩ := hF.2.2.2.2.2.2.1.2.1 n _ hn hg
    rw [am_cv_ge hn, e1]
    exact va_tlen hF.1 hF.2.1 hT hW.2.2.2 rfl hdg h
theorem am_s_iast (hF : am_F sc sp z0 cy D k p R s m args meth c) (hz : s.heap.size = z0 + n0) {n len : Nat} {f : Nat → Int32} {i x : Int32} (ha : am_get M n = some (.inl (0, len, .inl f))) (hin : am_inb i len) (hdg : decode (am_cd k) pc = .ok (.iastore, 1)) (hpc : am_pc k j = pc) (hnx : am_pc k (j + 1) = pc + 1)
    (kk : am_W sp z0 cy D n0 m0 k p l e R s m args below meth c Q (j + 1, ls, st, am_set M n (.inl (0, len, .inl (upd f i.toNatClampNeg x))))) : am_W sp z0 cy D n0 m0 k p l e R s m args below meth c Q (j, ls, .int x :: .int i :: .ref n :: st, M) := fun H locs lsv cells slots hW hc hs hl => by
  dsimp only at hW hc hs hl ⊢
  obtain ⟨hn, q0, h1, h2⟩ := am_get_at (z0 := z0) (sp := sp) (cy := cy) ha
  rw [hpc, List.map_cons, List.map_cons, List.map_cons, am_cv_lt hn]
  exact va_iast hF.1 hF.2.1 hF.2.2.2.2.2.1 hW.2.1 hW.2.2.1 (am_S_self hW.2.2.2) q0 0 h1 rfl hin hdg (fun H1 locs1 g1 g2 g3 => am_stored hz hW hc hs (e' := .inl (0, len, .inl (upd f i.toNatClampNeg x))) ha rfl h2 g1 g2 g3 hl hnx kk)
theorem am_s_bast (hF : am_F sc sp z0 cy D k p R s m args meth c) (hz : s.heap.size = z0 + n0) {n len : Nat} {f : Nat → Int32} {i x : Int32} (ha : am_get M n = some (.inl (1, len, .inl f))) (hin : am_inb i len) (hdg : decode (am_cd k) pc = .ok (.bastore, 1)) (hpc : am_pc k j = pc) (hnx : am_pc k (j + 1) = pc + 1)
    (kk : am_W sp z0 cy D n0 m0 k p l e R s m args below meth c Q (j + 1, ls, st, am_set M n (.inl (1, len, .inl (upd f i.toNatClampNeg (vp_nar .byte x)))))) : am_W sp z0 cy D n0 m0 k p l e R s m args below meth c Q (j, ls, .int x :: .int i :: .ref n :: st, M) := fun H locs lsv cells slots hW hc hs hl => by
  dsimp only at hW hc hs hl ⊢
  obtain ⟨hn, q0, h1, h2⟩ := am_get_at (z0 := z0) (sp := sp) (cy := cy) ha
  rw [hpc, List.map_cons, List.map_cons, List.map_cons, am_cv_lt hn]
  exact va_bast hF.1 hF.2.1 hF.2.2.2.2.2.1 hW.2.1 hW.2.2.1 (am_S_self hW.2.2.2) q0 1 h1 rfl hin hdg (fun H1 locs1 g1 g2 g3 => am_stored hz hW hc hs (e' := .inl (1, len, .inl (upd f i.toNatClampNeg (vp_nar .byte x)))) ha rfl h2 g1 g2 g3 hl hnx kk)
theorem am_s_zast (hF : am_F sc sp z0 cy D k p R s m args meth c) (hz : s.heap.size = z0 + n0) {n len : Nat} {f : Nat → Int32} {i x : Int32} (ha : am_get M n = some (.inl (2, len, .inl f))) (hin : am_inb i len) (hdg : decode (am_cd k) pc = .ok (.bastore, 1)) (hpc : am_pc k j = pc) (hnx : am_pc k (j + 1) = pc + 1)
    (kk : am_W sp z0 cy D n0 m0 k p l e R s m args below meth c Q (j + 1, ls, st, am_set M n (.inl (2, len, .inl (upd f i.toNatClampNeg (vp_nar .boolean x)))))) : am_W sp z0 cy D n0 m0 k p l e R s m args below meth c Q (j, ls, .int x :: .int i :: .ref n :: st, M) := fun H locs lsv cells slots hW hc hs hl => by
  dsimp only at hW hc hs hl ⊢
  obtain ⟨hn, q0, h1, h2⟩ := am_get_at (z0 := z0) (sp := sp) (cy := cy) ha
  rw [hpc, List.map_cons, List.map_cons, List.map_cons, am_cv_lt hn]
  exact va_zast hF.1 hF.2.1 hF.2.2.2.2.2.1 hW.2.1 hW.2.2.1 (am_S_self hW.2.2.2) q0 2 h1 rfl hin hdg (fun H1 locs1 g1 g2 g3 => am_stored hz hW hc hs (e' := .inl (2, len, .inl (upd f i.toNatClampNeg (vp_nar .boolean x)))) ha rfl h2 g1 g2 g3 hl hnx kk)
end
end
section
/-! ===== soundness: what is made, the JDK's own, switches ===== -/
section
variable {sc : am_Sc} {sp : Nat → Value} {z0 : Nat} {cy : Nat → ClassId} {D : va_G} {n0 m0 k : Nat} {p : Program} {l : Launch} {e : Env} {R : Room} {s : State} {m : MethodId} {args : Array Value} {below : List Frame} {meth : Method} {c : Code} {Q : State → Prop}
variable {j pc : Nat} {ls : am_L} {st : List Value} {M : am_M} {H : Heap} {locs : List Loc} {cells slots : Nat}
/-- the words of a static method of the JDK -/
def am_Lm (k i : Nat) (y : MethodName) : Prop := Cond.methodLink (am_cn (am_ow k)) i y ∈ xw_tw ∧ Cond.static y ∈ xw_tw ∧ Cond.initialized y.cls ∈ xw_tw
theorem am_s_max (hF : am_F sc sp z0 cy D k p R s m args meth c) (hsp : ∀ n, sp n = .null ∨ ∃ t, sp n = .ref t) {i : Nat} {x y : Int32} (hL : am_Lm k i Lib.Math.max.name ∧ Cond.code Lib.Math.max.name Lib.Math.max.code 2 (some .int) ∈ xw_tw) (hr : 1 ≤ am_fr k ∧ 26 ≤ am_lo k) (hlim : am_tot M ≤ n0 + R.cells ∧ am_sl M ≤ m0 + R.slots) (h8 : am_cats st ≤ 8) (hdg : decode (am_cd k) pc = .ok (.invokestatic i, 3)) (hpc : am_pc k j = pc) (hnx : am_pc k (j + 1) = pc + 3)
    (kk : am_W sp z0 cy D n0 m0 k p l e R s m args below meth c Q (j + 1, ls, .int (if x < y then y else x) :: st, M)) : am_W sp z0 cy D n0 m0 k p l e R s m args below meth c Q (j, ls, .int y :: .int x :: st, M) := fun H locs lsv cells slots hW hc hs hl => by
  have h := kk H locs lsv cells slots hW hc hs hl
  dsimp only at h hc hs hl ⊢
  rw [hpc]
  rw [hnx] at h
  have h3 := am_cats_map (z0 := z0) (am_sp_cat hsp) st
  have hf := hF.2.2.2.2.2.2.2.2.1
  have ho := hF.2.2.2.2.2.2.2.2.2.1
  exact va_mmax hF.1 hF.2.1 (hF.2.2.1.trans hl.2.1.symm) hF.2.2.2.1 (hF.2.2.2.2.1 _ hL.1.1) (hF.2.2.2.2.1 _ hL.1.2.1) (hF.2.2.2.2.1 _ hL.1.2.2) (hF.2.2.2.2.1 _ hL.2) (by omega) (by rw [h3]; omega) (by omega) (by omega) hdg h
theorem am_s_min (hF : am_F sc sp z0 cy D k p R s m args meth c) (hsp : ∀ n, sp n = .null ∨ ∃ t, sp n = .ref t) {i : Nat} {x y : Int32} (hL : am_Lm k i Lib.Math.min.name ∧ Cond.code Lib.Math.min.name Lib.Math.min.code 2 (some .int) ∈ xw_tw) (hr : 1 ≤ am_fr k ∧ 26 ≤ am_lo k) (hlim : am_tot M ≤ n0 + R.cells ∧ am_sl M ≤ m0 + R.slots) (h8 : am_cats st ≤ 8) (hdg : decode (am_cd k) pc = .ok (.invokestatic i, 3)) (hpc : am_pc k j = pc) (hnx : am_pc k (j + 1) = pc + 3)
    (kk : am_W sp z0 cy D n0 m0 k p l e R s m args below meth c Q (j + 1, ls, .int (if y < x then y else x) :: st, M)) : am_W sp z0 cy D n0 m0 k p l e R s m args below meth c Q (j, ls, .int y :: .int x :: st, M) := fun H locs lsv cells slots hW hc hs hl => by
  have h := kk H locs lsv cells slots hW hc hs hl
  dsimp only at h hc hs hl ⊢
  rw [hpc]
  rw [hnx] at h
  have h3 := am_cats_map (z0 := z0) (am_sp_cat hsp) st
  have hf := hF.2.2.2.2.2.2.2.2.1
  have ho := hF.2.2.2.2.2.2.2.2.2.1
  exact va_mmin hF.1 hF.2.1 (hF.2.2.1.trans hl.2.1.symm) hF.2.2.2.1 (hF.2.2.2.2.1 _ hL.1.1) (hF.2.2.2.2.1 _ hL.1.2.1) (hF.2.2.2.2.1 _ hL.1.2.2) (hF.2.2.2.2.1 _ hL.2) (by omega) (by rw [h3]; omega) (by omega) (by omega) hdg h
theorem am_s_abs (hF : am_F sc sp z0 cy D k p R s m args meth c) (hsp : ∀ n, sp n = .null ∨ ∃ t, sp n = .ref t) {i : Nat} {x : Int32} (hL : am_Lm k i Lib.Math.abs.name ∧ Cond.code Lib.Math.abs.name Lib.Math.abs.code 1 (some .int) ∈ xw_tw) (hr : 1 ≤ am_fr k ∧ 26 ≤ am_lo k) (hlim : am_tot M ≤ n0 + R.cells ∧ am_sl M ≤ m0 + R.slots) (h8 : am_cats st ≤ 8) (hdg : decode (am_cd k) pc = .ok (.invokestatic i, 3)) (hpc : am_pc k j = pc) (hnx : am_pc k (j + 1) = pc + 3)
    (kk : am_W sp z0 cy D n0 m0 k p l e R s m args below meth c Q (j + 1, ls, .int (if 0 ≤ x then x else 0 - x) :: st, M)) : am_W sp z0 cy D n0 m0 k p l e R s m args below meth c Q (j, ls, .int x :: st, M) := fun H locs lsv cells slots hW hc hs hl => by
  have h := kk H locs lsv cells slots hW hc hs hl
  dsimp only at h hc hs hl ⊢
  rw [hpc]
  rw [hnx] at h
  have h3 := am_cats_map (z0 := z0) (am_sp_cat hsp) st
  have hf := hF.2.2.2.2.2.2.2.2.1
  have ho := hF.2.2.2.2.2.2.2.2.2.1
  exact va_mabs hF.1 hF.2.1 (hF.2.2.1.trans hl.2.1.symm) hF.2.2.2.1 (hF.2.2.2.2.1 _ hL.1.1) (hF.2.2.2.2.1 _ hL.1.2.1) (hF.2.2.2.2.1 _ hL.1.2.2) (hF.2.2.2.2.1 _ hL.2) (by omega) (by rw [h3]; omega) (by omega) (by omega) hdg h
theorem am_s_copy (hF : am_F sc sp z0 cy D k p R s m args meth c) (hsp : ∀ n, sp n = .null ∨ ∃ t, sp n = .ref t) (hz : s.heap.size = z0 + n0) {i a a0 ln0 ln1 : Nat} {f g : Nat → Int32} {n dp sps : Int32} (hL : am_Lm k i arraycopyName ∧ Cond.native arraycopyName ∈ xw_tw) (hr : 1 ≤ am_fr k ∧ 26 ≤ am_lo k) (h8 : am_cats st ≤ 8) (hg0 : am_get M a0 = some (.inl (0, ln0, .inl f))) (hg1 : am_get M a = some (.inl (0, ln1, .inl g))) (hP : (¬ sps < 0 ∧ ¬ dp < 0 ∧ ¬ n < 0) ∧ sps.toNatClampNeg + n.toNatClampNeg ≤ ln0 ∧ dp.toNatClampNeg + n.toNatClampNeg ≤ ln1) (hdg : decode (am_cd k) pc = .ok (.invokestatic i, 3)) (hpc : am_pc k j = pc) (hnx : am_pc k (j + 1) = pc + 3)
    (kk : am_W sp z0 cy D n0 m0 k p l e R s m args below meth c Q (j + 1, ls, st, am_set M a (.inl (0, ln1, .inl (va_cpy f g sps.toNatClampNeg dp.toNatClampNeg n.toNatClampNeg))))) : am_W sp z0 cy D n0 m0 k p l e R s m args below meth c Q (j, ls, .int n :: .int dp :: .ref a :: .int sps :: .ref a0 :: st, M) := fun H locs lsv cells slots hW hc hs hl => by
  dsimp only at hW hc hs hl ⊢
  obtain ⟨hn0, q0, h1, -⟩ := am_get_at (z0 := z0) (sp := sp) (cy := cy) hg0
  obtain ⟨hn, q1, h2, h3⟩ := am_get_at (z0 := z0) (sp := sp) (cy := cy) hg1
  rw [hpc, List.map_cons, List.map_cons, List.map_cons, List.map_cons, List.map_cons, am_cv_lt hn, am_cv_lt hn0]
  have h4 := am_cats_map (z0 := z0) (am_sp_cat hsp) st
  have hf := hF.2.2.2.2.2.2.2.2.1
  have ho := hF.2.2.2.2.2.2.2.2.2.1
  have hw : nativeFrameWords "java/lang/System" "arraycopy" 5 = 7 := by decide +kernel
  exact va_copyi hF.1 hF.2.1 (hF.2.2.1.trans hl.2.1.symm) hF.2.2.2.1 (hF.2.2.2.2.1 _ hL.1.1) (hF.2.2.2.2.1 _ hL.2) (hF.2.2.2.2.1 _ hL.1.2.1) (hF.2.2.2.2.1 _ hL.1.2.2) hF.2.2.2.2.2.1 hW.2.1 hW.2.2.1 (am_S_self hW.2.2.2) q0 q1 0 0 h1 h2 rfl rfl rfl hP.1.1 hP.1.2.1 hP.1.2.2 hP.2.1 hP.2.2 (fun _ _ => rfl) (by omega) (by rw [h4, hw]; omega) hdg
    (fun H1 locs1 g1 g2 g3 => am_stored hz hW hc hs (e' := .inl (0, ln1, .inl (va_cpy f g sps.toNatClampNeg dp.toNatClampNeg n.toNatClampNeg))) hg1 rfl h3 g1 g2 g3 hl hnx kk)
theorem am_s_objI (hF : am_F sc sp z0 cy D k p R s m args meth c) (hsp : ∀ n, sp n = .null ∨ ∃ t, sp n = .ref t) {i n : Nat} (hL : Cond.methodLink (am_cn (am_ow k)) i Lib.objectInit ∈ xw_tw ∧ Cond.instanceMethod Lib.objectInit ∈ xw_tw ∧ Cond.code Lib.objectInit ⟨#[0xb1]⟩ 1 none ∈ xw_tw) (hr : 1 ≤ am_fr k ∧ 20 ≤ am_lo k) (h8 : am_cats st ≤ 8) (hg : n < 1000) (hdg : decode (am_cd k) pc = .ok (.invokespecial i, 3)) (hpc : am_pc k j = pc) (hnx : am_pc k (j + 1) = pc + 3)
    (kk : am_W sp z0 cy D n0 m0 k p l e R s m args below meth c Q (j + 1, ls, st, M)) : am_W sp z0 cy D n0 m0 k p l e R s m args below meth c Q (j, ls, .ref n :: st, M) := fun H locs lsv cells slots hW hc hs hl => by
  have h := kk H locs lsv cells slots hW hc hs hl
  dsimp only at h hc hs hl ⊢
  rw [hpc, List.map_cons, am_cv_lt hg]
  rw [hnx] at h
  have h4 := am_cats_map (z0 := z0) (am_sp_cat hsp) st
  have hf := hF.2.2.2.2.2.2.2.2.1
  have ho := hF.2.2.2.2.2.2.2.2.2.1
  exact W.objInit hF.1 hF.2.1 hF.2.2.2.1 (hF.2.2.2.2.1 _ hL.1) (hF.2.2.2.2.1 _ hL.2.1) (hF.2.2.2.2.1 _ hL.2.2) (g := F0 m pc lsv (.ref (am_ad z0 n) :: st.map (am_cv z0 sp))) rfl (hl.2.1.trans hF.2.2.1.symm) rfl hdg (by omega) (by show 2 * 0 + _ + 12 ≤ _; rw [h4]; omega) h
theorem am_ad_at {b i : Nat} (hi : i < 32) : am_ad z0 (32 * b + i) = z0 + am_of b + i := by
  unfold am_ad
  rw [show (32 * b + i) / 32 = b by omega, show (32 * b + i) % 32 = i by omega]
theorem am_s_newa (hF : am_F sc sp z0 cy D k p R s m args meth c) {t : ArrayType} {ty : Nat} {n : Int32} (hty : am_aty t = some ty) (hL : Cond.arrayClass (newarray.typeOf t) ∈ xw_tw) (hlim : am_tot (am_push M (.inl (ty, n.toNatClampNeg, .inl (fun _ => 0)))) ≤ n0 + R.cells ∧ am_sl (am_push M (.inl (ty, n.toNatClampNeg, .inl (fun _ => 0)))) ≤ m0 + R.slots) (hA : am_tot M = am_of (am_last M).1 + (am_last M).2) (hM : 0 < M.length) (h32 : (am_last M).2 < 32) (h1000 : 32 * (am_last M).1 + (am_last M).2 < 1000) (hn1 : n.toNatClampNeg ≤ 1000) (hn : ¬ n < 0) (hdg : decode (am_cd k) pc = .ok (.newarray t, 2)) (hpc : am_pc k j = pc) (hnx : am_pc k (j + 1) = pc + 2)
    (kk : am_W sp z0 cy D n0 m0 k p l e R s m args below meth c Q (j + 1, ls, .ref (32 * (am_last M).1 + (am_last M).2) :: st, am_push M (.inl (ty, n.toNatClampNeg, .inl (fun _ => 0))))) : am_W sp z0 cy D n0 m0 k p l e R s m args below meth c Q (j, ls, .int n :: st, M) := fun H locs lsv cells slots hW hc hs hl => by
  dsimp only at hW hc hs hl ⊢
  have ht := am_tot_push (.inl (ty, n.toNatClampNeg, .inl (fun _ => 0))) M hM
  have hsl := am_sl_push (.inl (ty, n.toNatClampNeg, .inl (fun _ => 0))) M hM
  have hes : am_esl (.inl (ty, n.toNatClampNeg, .inl (fun _ => 0))) = n.toNatClampNeg := rfl
  rw [hes] at hsl
  rw [ht, hsl] at hlim
  have htyp : ty < 3 ∧ newarray.typeOf t = am_ty ty ∧ componentBytes (newarray.typeOf t) ≤ 4 ∧ (∀ x : ClassId, va_RA s x (newarray.typeOf t) → s.vm.findClass ("[" ++ (newarray.typeOf t).toString) = some x) ∧ ∀ cA N, vp_cell cA (N, .inl (fun _ => 0)) = arrV cA N (fun _ => defaultValue (newarray.typeOf t)) := by
    cases t <;> simp only [am_aty] at hty <;> first | (cases hty; done) | (cases hty; exact ⟨by decide, rfl, by decide, fun _ h => h, fun _ _ => rfl⟩)
  obtain ⟨h3, hte, h4, hra, hce⟩ := htyp
  have hK := hF.2.2.2.2.2.1
  have hq : (am_tys cy)[ty]? = some (cy ty, newarray.typeOf t) := by
    rw [hte]
    rcases (show ty = 0 ∨ ty = 1 ∨ ty = 2 by omega) with rfl | rfl | rfl <;> rfl
  rw [hpc, List.map_cons]
  refine va_newaK (N := n.toNatClampNeg) (g := F0 m pc lsv (.int n :: st.map (am_cv z0 sp))) hF.1 hF.2.1 (hF.2.2.2.2.1 _ hL) rfl hdg rfl hn rfl (Nat.le_trans (Nat.mul_le_mul hn1 h4) (by decide)) (by omega) (by omega) rfl fun H1 cA e1 z1 o1 hAr hNm => ?_
  have hcA : cA = cy ty := Option.some.inj (hNm.symm.trans (hra _ (hK.2 ty _ hq).2))
  subst hcA
  have hk : ∀ (k : Nat) (x : Nat × va_E), (am_cm z0 sp cy 0 M)[k]? = some x → H1[x.1]? = H[x.1]? := fun k x hx => o1 x.1 ((hW.2.1 k x hx).lt)
  have hH : H.size = z0 + am_of (am_last M).1 + (am_last M).2 := by have := hW.1; omega
  have hcm : am_cm z0 sp cy 0 (am_push M (.inl (ty, n.toNatClampNeg, .inl (fun _ => 0)))) = am_cm z0 sp cy 0 M ++ [(H.size, .inl (cy ty, n.toNatClampNeg, .inl (fun _ => 0)))] := by
    rw [am_cm_push _ M 0 hM, Nat.zero_add, ← hH]
    rfl
  have h := kk H1 locs lsv (cells + 1) (slots + n.toNatClampNeg) ⟨by rw [z1, hW.1]; dsimp only; rw [ht]; omega, by
      dsimp only
      rw [hcm]
      refine (hW.2.1.kept hk).app (fun k x hx => ?_)
      have hz : k < 1 := (List.getElem?_eq_some_iff.mp hx).1
      rw [show k = 0 by omega] at hx
      cases hx
      show H1[H.size]? = some (vp_cell _ _)
      rw [hce]
      exact e1, by
      dsimp only
      rw [hcm]
      exact hW.2.2.1.push hW.2.1 rfl (by show z0 ≤ H.size; omega), Nat.le_trans hW.2.2.2.1 (by omega), fun x h1 h2 => (o1 x (Nat.lt_of_lt_of_le h1 hW.2.2.2.1)).trans (hW.2.2.2.2.1 x h1 h2), hW.2.2.2.2.2⟩ (by dsimp only; omega) (by dsimp only; omega) hl
  dsimp only at h
  rw [hnx, List.map_cons, am_cv_lt h1000, am_ad_at h32, ← hH] at h
  exact h
theorem am_s_new (hF : am_F sc sp z0 cy D k p R s m args meth c) {i a : Nat} {q : vw_C} {ty : Nat → FieldType} {fs : List Value} (hq : vwCl[a]? = some q) (hci : am_Cl a q ty) (hfs : am_df[a]? = some fs) (hL : Cond.classLink (am_cn (am_ow k)) i q.1 ∈ xw_tw ∧ Cond.instantiable q.1 q.2.2 ∈ xw_tw ∧ Cond.initialized q.1 ∈ xw_tw) (hlim : am_tot (M ++ [[.inr (a, fs)]]) ≤ n0 + R.cells ∧ am_sl (M ++ [[.inr (a, fs)]]) ≤ m0 + R.slots) (hA : am_tot M = am_of M.length) (h1000 : 32 * M.length < 1000) (hdg : decode (am_cd k) pc = .ok (.new i, 3)) (hpc : am_pc k j = pc) (hnx : am_pc k (j + 1) = pc + 3)
    (kk : am_W sp z0 cy D n0 m0 k p l e R s m args below meth c Q (j + 1, ls, .ref (32 * M.length) :: st, M ++ [[.inr (a, fs)]])) : am_W sp z0 cy D n0 m0 k p l e R s m args below meth c Q (j, ls, st, M) := fun H locs lsv cells slots hW hc hs hl => by
  dsimp only at hW hc hs hl ⊢
  obtain ⟨hw, hty, hnm, hdf⟩ := hci
  obtain ⟨hlen, hmap, hdv⟩ := hdf fs hfs
  have ht := am_tot_app (.inr (a, fs)) M
  have hsl := am_sl_app (.inr (a, fs)) M
  have hes : am_esl (.inr (a, fs)) = q.2.2 := hlen
  rw [hes] at hsl
  rw [ht, hsl] at hlim
  have hK := hF.2.2.2.2.2.1
  have hKn := hK.1 a q hq
  rw [hpc]
  refine W.newcK (g := F0 m pc lsv (st.map (am_cv z0 sp))) hF.1 hF.2.1 hF.2.2.2.1 (hF.2.2.2.2.1 _ hL.1) (hF.2.2.2.2.1 _ hL.2.1) (hF.2.2.2.2.1 _ hL.2.2) rfl hdg (by omega) (by omega) hKn.2.1 rfl fun H1 kC hkC e1 z1 o1 => ?_
  have hk : ∀ (k : Nat) (x : Nat × va_E), (am_cm z0 sp cy 0 M)[k]? = some x → H1[x.1]? = H[x.1]? := fun k x hx => o1 x.1 ((hW.2.1 k x hx).lt)
  have hH : H.size = z0 + am_of M.length := by have := hW.1; omega
  have hcm : am_cm z0 sp cy 0 (M ++ [[.inr (a, fs)]]) = am_cm z0 sp cy 0 M ++ [(H.size, .inr (a, fs))] := by
    rw [am_cm_app _ M 0, Nat.zero_add, ← hH]
    show _ = _
    simp only [am_ce, hmap]
  have h := kk H1 locs lsv (cells + 1) (slots + q.2.2) ⟨by rw [z1, hW.1]; dsimp only; rw [ht]; omega, by
      dsimp only
      rw [hcm]
      refine (hW.2.1.kept hk).app (fun k x hx => ?_)
      have hz : k < 1 := (List.getElem?_eq_some_iff.mp hx).1
      rw [show k = 0 by omega] at hx
      cases hx
      exact ⟨_, hq, (u_born ty hF.2.2.2.2.1 hw hKn hkC e1 hty).to hdv⟩, by
      dsimp only
      rw [hcm]
      exact hW.2.2.1.push hW.2.1 rfl (by show z0 ≤ H.size; omega), Nat.le_trans hW.2.2.2.1 (by omega), fun x h1 h2 => (o1 x (Nat.lt_of_lt_of_le h1 hW.2.2.2.1)).trans (hW.2.2.2.2.1 x h1 h2), hW.2.2.2.2.2⟩ (by dsimp only; omega) (by dsimp only; omega) hl
  dsimp only at h
  rw [hnx, List.map_cons, am_cv_lt h1000, show 32 * M.length = 32 * M.length + 0 from rfl, am_ad_at (by omega), Nat.add_zero, ← hH] at h
  exact h
/-- a switch: the first place whose number it is -/
theorem am_sw_hit {x : Int32} {d : Nat} : ∀ (L : List (Int32 × Nat)) (lo : Int), (∀ (i : Nat) (q : Int32 × Nat), L[i]? = some q → q.1.toInt = lo + (i : Nat)) → ∀ (i : Nat) (q : Int32 × Nat), L[i]? = some q → x.toInt = lo + (i : Nat) → am_sw L d x = q.2 := by
  intro L
  induction L with
  | nil => intro lo _ i q h; simp at h
  | cons a L ih =>
    intro lo hk i q h hx
    obtain ⟨v, n⟩ := a
    have h0 := hk 0 (v, n) rfl
    cases i with
    | zero =>
      simp at h
      subst h
      simp only [am_sw]
      rw [if_pos (Int32.toInt_inj.mp (by rw [hx, h0]))]
    | succ i =>
      simp at h
      simp only [am_sw]
      rw [if_neg (fun z => by rw [z, h0] at hx; omega)]
      exact ih (lo + 1) (fun i' q' h' => by have := hk (i' + 1) q' (by simpa using h'); rw [this]; push_cast; omega) i q h (by rw [hx]; push_cast; omega)
theorem am_sw_miss {x : Int32} {d : Nat} : ∀ (L : List (Int32 × Nat)), (∀ (i : Nat) (q : Int32 × Nat), L[i]? = some q → ¬ x = q.1) → am_sw L d x = d := by
  intro L
  induction L with
  | nil => intro _; rfl
  | cons a L ih =>
    intro hk
    obtain ⟨v, n⟩ := a
    simp only [am_sw]
    rw [if_neg (hk 0 (v, n) rfl)]
    exact ih (fun i q h => hk (i + 1) q (by simpa using h))
theorem am_s_tsw (hF : am_F sc sp z0 cy D k p R s m args meth c) {x : Int32} {d lo hi : Int} {offs : Array Int} {len dd : Nat} {L : List (Int32 × Nat)} (hdg : decode (am_cd k) pc = .ok (.tableswitch d lo hi offs, len)) (hpc : am_pc k j = pc) (hd : (pc : Int) + d = (am_pc k dd : Int)) (hlen : hi = lo + L.length - 1) (hL : ∀ (i : Nat) (q : Int32 × Nat), L[i]? = some q → q.1.toInt = lo + (i : Nat) ∧ ∃ off, offs[i]? = some off ∧ (pc : Int) + off = (am_pc k q.2 : Int))
    (kk : am_W sp z0 cy D n0 m0 k p l e R s m args below meth c Q (am_sw L dd x, ls, st, M)) : am_W sp z0 cy D n0 m0 k p l e R s m args below meth c Q (j, ls, .int x :: st, M) := fun H locs lsv cells slots hW hc hs hl => by
  have h := kk H locs lsv cells slots hW hc hs hl
  dsimp only at h ⊢
  rw [hpc]
  by_cases ho : x.toInt < lo ∨ hi < x.toInt
  · rw [am_sw_miss L (fun i q hq z => by have h1 := (hL i q hq).1; have h2 := (List.getElem?_eq_some_iff.mp hq).1; rw [← z] at h1; omega)] at h
    exact lv_tableOut hF.1 hF.2.1 hdg ho hd h
  · have hx : x.toInt = lo + ((x.toInt - lo).toNat : Nat) := by omega
    have hi : (x.toInt - lo).toNat < L.length := by omega
    obtain ⟨h1, off, h2, h3⟩ := hL _ _ (List.getElem?_eq_getElem hi)
    rw [am_sw_hit L lo (fun i q hq => (hL i q hq).1) _ _ (List.getElem?_eq_getElem hi) hx] at h
    exact lv_tableIn hF.1 hF.2.1 hdg (by omega) (by omega) h2 h3 h
theorem am_lsw {x : Int32} {d : Int} {dd : Nat} (hd : (pc : Int) + d = (am_pc k dd : Int)) : ∀ (L : List (Int32 × Nat)) (ps : List (Int × Int)), ps.length = L.length → (∀ (i : Nat) (q : Int32 × Nat) (r : Int × Int), L[i]? = some q → ps[i]? = some r → q.1.toInt = r.1 ∧ (pc : Int) + r.2 = (am_pc k q.2 : Int)) → (pc : Int) + Op.lookupswitch.offset ps d x.toInt = (am_pc k (am_sw L dd x) : Int) := by
  intro L
  induction L with
  | nil =>
    intro ps hl _
    have : ps = [] := List.length_eq_zero_iff.mp (by simpa using hl)
    subst this
    exact hd
  | cons a L ih =>
    intro ps hl hk
    cases ps with
    | nil => simp at hl
    | cons r ps =>
      obtain ⟨v, n⟩ := a
      obtain ⟨ra, ro⟩ := r
      have h0 := hk 0 (v, n) (ra, ro) rfl rfl
      simp only [am_sw, Op.lookupswitch.offset_cons]
      by_cases hx : x = v
      · rw [if_pos hx, if_pos (by rw [hx]; exact h0.1.symm)]
        exact h0.2
      · rw [if_neg hx, if_neg (fun z => hx (Int32.toInt_inj.mp (by rw [← z]; exact h0.1.symm)))]
        exact ih ps (by simpa using hl) (fun i q r h1 h2 => hk (i + 1) q r (by simpa using h1) (by simpa using h2))
theorem am_s_lsw (hF : am_F sc sp z0 cy D k p R s m args meth c) {x : Int32} {d : Int} {ps : Array (Int × Int)} {len dd : Nat} {L : List (Int32 × Nat)} (hdg : decode (am_cd k) pc = .ok (.lookupswitch d ps, len)) (hp : (ps.toList.zip (ps.toList.drop 1)).all (fun (a, next) => a.1 < next.1) = true) (hpc : am_pc k j = pc) (hd : (pc : Int) + d = (am_pc k dd : Int)) (hlen : ps.toList.length = L.length) (hL : ∀ (i : Nat) (q : Int32 × Nat) (r : Int × Int), L[i]? = some q → ps.toList[i]? = some r → q.1.toInt = r.1 ∧ (pc : Int) + r.2 = (am_pc k q.2 : Int))
    (kk : am_W sp z0 cy D n0 m0 k p l e R s m args below meth c Q (am_sw L dd x, ls, st, M)) : am_W sp z0 cy D n0 m0 k p l e R s m args below meth c Q (j, ls, .int x :: st, M) := fun H locs lsv cells slots hW hc hs hl => by
  have h := kk H locs lsv cells slots hW hc hs hl
  dsimp only at h ⊢
  rw [hpc]
  exact lv_lookup hF.1 hF.2.1 hdg hp rfl (am_lsw hd L ps.toList hlen hL) h
end
end
section
/-! ===== soundness: calls ===== -/
section
variable {sc : am_Sc} {sp : Nat → Value} {z0 : Nat} {cy : Nat → ClassId} {D : va_G} {n0 m0 k : Nat} {p : Program} {l : Launch} {e : Env} {R : Room} {s : State} {m : MethodId} {args : Array Value} {below : List Frame} {meth : Method} {c : Code} {Q : State → Prop}
variable {j pc : Nat} {ls : am_L} {st : List Value} {M M2 : am_M} {H : Heap} {locs : List Loc} {cells slots : Nat}
theorem am_nw_all {P : Cond → Prop} (h : ∀ w ∈ am_nw, P w) : ∀ w ∈ am_nw, P w := h
theorem am_X.go {U : State} (h : am_X sc sp z0 s s.heap) (hW : s.WarmedH U.vm) (hH : ∀ q : Nat, q < s.heap.size → ¬ am_A z0 q → H[q]? = s.heap[q]?) : am_X sc sp z0 U H := by
  obtain ⟨h1, h2, h3, a, t, e1, e2, h4, h5, h6, h7⟩ := h
  refine ⟨fun q hq => ((h1 q hq).moved hW.alike).kept hH, fun n q hn hq => ?_, fun w hw => ?_, a, t, e1, e2, h4.warm hW, (h5.moved hW.alike).kept hH, (h6.moved hW.alike).kept hH, (h7.moved hW.alike).kept hH⟩
  · obtain ⟨x, e3, h8⟩ := h2 n q hn hq
    exact ⟨x, e3, (h8.moved hW.alike).kept hH⟩
  · have h9 := h3 w hw
    simp only [am_nw, List.mem_cons, List.not_mem_nil, or_false] at hw
    rcases hw with rfl | rfl | rfl | rfl | rfl | rfl
    · exact va_Nw.warmF hW h9
    · exact va_Nw.warmF hW h9
    · exact va_Nw.warmF hW h9
    · exact va_Nw.warmM hW h9
    · exact va_Nw.warmM hW h9
    · exact va_Nw.warmM hW h9
theorem am_X.same {U U' : State} (h : am_X sc sp z0 U U.heap) (hv : U'.vm = U.vm) (hh : U'.heap = U.heap) : am_X sc sp z0 U' U'.heap := by
  have ha : U.vm.Alike U'.vm := by rw [hv]; exact Vm.Alike.refl U.vm
  obtain ⟨h1, h2, h3, a, t, e1, e2, h4, h5, h6, h7⟩ := h
  rw [hh]
  refine ⟨fun q hq => (h1 q hq).moved ha, fun n q hn hq => ?_, fun w hw => ?_, a, t, e1, e2, h4.same hv, h5.moved ha, h6.moved ha, h7.moved ha⟩
  · obtain ⟨x, e3, h8⟩ := h2 n q hn hq
    exact ⟨x, e3, h8.moved ha⟩
  · have h9 := h3 w hw
    simp only [am_nw, List.mem_cons, List.not_mem_nil, or_false] at hw
    rcases hw with rfl | rfl | rfl | rfl | rfl | rfl
    · exact va_Nw.same rfl hv.symm h9
    · exact va_Nw.same rfl hv.symm h9
    · exact va_Nw.same rfl hv.symm h9
    · exact va_Nw.same rfl hv.symm h9
    · exact va_Nw.same rfl hv.symm h9
    · exact va_Nw.same rfl hv.symm h9
/-- a contract's start: the world is M -/
def am_B (sc : am_Sc) (sp : Nat → Value) (z0 : Nat) (cy : Nat → ClassId) (D : va_G) (M : am_M) (U : State) : Prop :=
  U.heap.size = z0 + am_tot M ∧ va_P D vwCl (am_cm z0 sp cy 0 M) U.heap ∧ va_K D vwCl (am_tys cy) U ∧ va_D (am_A z0) (am_cm z0 sp cy 0 M) ∧ am_X sc sp z0 U U.heap
/-- a contract's end: r came back, the world is M2 -/
def am_Qc (sp : Nat → Value) (z0 : Nat) (cy : Nat → ClassId) (D : va_G) (r : Option Value) (M2 : am_M) : Array Value → State → Outcome → State → Prop := fun _ st oc t =>
  oc = .returned (r.map (am_cv z0 sp)) ∧ t.heap.size = z0 + am_tot M2 ∧ va_P D vwCl (am_cm z0 sp cy 0 M2) t.heap ∧ va_D (am_A z0) (am_cm z0 sp cy 0 M2) ∧ va_F (am_A z0) st t
def am_wsOf (z : Nat) : List Cond := Cond.code (am_mt z) (am_cd z) (am_ml z) (am_rt z) :: xw_tw
def am_rm (z : Nat) (M M2 : am_M) : Room := { frames := am_fr z, cells := am_tot M2 - am_tot M, slots := am_sl M2 - am_sl M, locals := am_lo z }
/-- the contract of one run of method z -/
def am_Met (l : Launch) (sc : am_Sc) (sp : Nat → Value) (z0 : Nat) (cy : Nat → ClassId) (D : va_G) (z : Nat) (vs : List Value) (M : am_M) (r : Option Value) (M2 : am_M) : Prop :=
  Met l (am_mt z) (am_wsOf z) (am_rm z M M2) (va_Pc (vs.map (am_cv z0 sp)) (am_B sc sp z0 cy D M)) (am_Qc sp z0 cy D r M2) (am_tot M2 - am_tot M) (am_sl M2 - am_sl M) (am_A z0)
theorem am_ran (hF : am_F sc sp z0 cy D k p R s m args meth c) {mc ms : Nat} (hmc : am_tot M + mc = am_tot M2) (hms : am_sl M + ms = am_sl M2) {r : Option Value} {a : Array Value} {lsv : Array Slot} {st0 : List Value} {hW : am_Wd sp z0 cy D M s H locs} (hr : va_Run p l e R s m args below meth c H locs cells slots mc ms (F0 m pc lsv st0) (st.map (am_cv z0 sp)) (am_Qc sp z0 cy D r M2 a) (am_A z0)) (hc : cells + n0 = am_tot M) (hs : slots + m0 = am_sl M) (hl : am_lv sp z0 lsv (am_ml k) ls) (hnx : am_pc k j = pc + 3)
    (kk : am_W sp z0 cy D n0 m0 k p l e R s m args below meth c Q (j, ls, r.toList ++ st, M2)) : W p l e R s m args below meth c H locs cells slots Q (F0 m pc lsv st0) := by
  intro T hT X
  obtain ⟨v, st₀, t, T', L, h0, X', hL, e1, e2, ⟨hv, hsz, hP, hD, hz, hk⟩, stp⟩ := hr T hT X
  cases hv
  rw [h0] at hz hk
  have h := kk T'.heap (locs ++ L) lsv (cells + mc) (slots + ms) ⟨by rw [e1]; exact hsz, by rw [e1]; exact hP, hD, Nat.le_trans hW.2.2.2.1 (by rw [e1]; exact hz), fun q h1 h2 => by
      rw [e1, hk q (Nat.lt_of_lt_of_le h1 hW.2.2.2.1) h2]
      exact hW.2.2.2.2.1 q h1 h2, fun q hq => by
      rcases List.mem_append.mp hq with h | h
      · exact hW.2.2.2.2.2 q h
      · exact hL q h⟩ (by dsimp only; omega) (by dsimp only; omega) hl
  dsimp only at h
  rw [hnx] at h
  have he : (r.toList ++ st).map (am_cv z0 sp) = (r.map (am_cv z0 sp)).toList ++ st.map (am_cv z0 sp) := by cases r <;> rfl
  rw [he] at h
  obtain ⟨t2, a1, b1⟩ := h T' rfl X'
  exact ⟨t2, stp t2 a1, b1⟩
theorem am_blind (vs : List Value) : FrameBlind (va_Pc vs (am_B sc sp z0 cy D M)) := by
  intro a U g mk q
  obtain ⟨q0, q1, q2, q3, q4, q5⟩ := q
  exact ⟨q0, q1, q2, va_K.moved (u := U) (U := U.calling g mk a) (Vm.Alike.refl U.vm) q3, q4, q5.same rfl rfl⟩
theorem am_pre (hF : am_F sc sp z0 cy D k p R s m args meth c) (hW : am_Wd sp z0 cy D M s H locs) (vs : List Value) : ∀ U : State, U.heap = H → s.WarmedH U.vm → va_Pc vs (am_B sc sp z0 cy D M) vs.toArray U := by
  intro U hU hWm
  refine ⟨rfl, by rw [hU]; exact hW.1, by rw [hU]; exact hW.2.1, va_K.moved hWm.alike hF.2.2.2.2.2.1, hW.2.2.1, ?_⟩
  rw [hU]
  exact hF.2.2.2.2.2.2.1.go hWm hW.2.2.2.2.1
/-- what the tables say of a method z of n values (with the receiver) -/
def am_Lz (z : Nat) : Prop := Cond.code (am_mt z) (am_cd z) (am_ml z) (am_rt z) ∈ xw_tw ∧ Cond.initialized (am_mt z).cls ∈ xw_tw ∧ (am_mt z).cls ≠ "java/lang/invoke/MethodHandle" ∧ (am_mt z).cls ≠ "java/lang/invoke/VarHandle"
theorem am_tw_good : GoodIn xw_tw xw_tw := fun w h => ⟨h, good_of_word (List.mem_filter.mp h).2⟩
theorem am_goodOf {ws : List Cond} (h : ∀ w ∈ ws, w ∈ xw_tw) : GoodIn xw_tw ws := fun w hw => am_tw_good w (h w hw)
theorem am_wsOf_good {z : Nat} (h : am_Lz z) : GoodIn xw_tw (am_wsOf z) := am_goodOf (fun w hw => by
  rcases List.mem_cons.mp hw with rfl | hw
  · exact h.1
  · exact hw)
theorem am_split {vs : List Value} {n : Nat} (hn : n ≤ st.length) (hvs : vs = (st.take n).reverse) : st.map (am_cv z0 sp) = (vs.map (am_cv z0 sp)).reverse ++ (st.drop n).map (am_cv z0 sp) := by
  subst hvs
  rw [← List.map_reverse, List.reverse_reverse, ← List.map_append, List.take_append_drop]
theorem am_s_callS (hF : am_F sc sp z0 cy D k p R s m args meth c) (hsp : ∀ n, sp n = .null ∨ ∃ t, sp n = .ref t) {i z n : Nat} {r : Option Value} (hL : am_Lz z) (hl2 : Cond.methodLink (am_cn (am_ow k)) i (am_mt z) ∈ xw_tw ∧ Cond.static (am_mt z) ∈ xw_tw ∧ (parseMethodDescriptor (am_mt z).desc).map (fun d => d.parameters.length) = some n) (hr : am_fr z + 1 ≤ am_fr k ∧ 8 + (am_ml z + 11) + am_lo z ≤ am_lo k) (hle : am_tot M ≤ am_tot M2 ∧ am_sl M ≤ am_sl M2) (hlim : am_tot M2 ≤ n0 + R.cells ∧ am_sl M2 ≤ m0 + R.slots) (hn : n ≤ st.length) (h8 : am_cats (st.drop n) ≤ 8) (hM : am_Met l sc sp z0 cy D z (st.take n).reverse M r M2) (hdg : decode (am_cd k) pc = .ok (.invokestatic i, 3)) (hpc : am_pc k j = pc) (hnx : am_pc k (j + 1) = pc + 3)
    (kk : am_W sp z0 cy D n0 m0 k p l e R s m args below meth c Q (j + 1, ls, r.toList ++ st.drop n, M2)) : am_W sp z0 cy D n0 m0 k p l e R s m args below meth c Q (j, ls, st, M) := fun H locs lsv cells slots hW hc hs hl => by
  dsimp only at hW hc hs hl ⊢
  have hf := hF.2.2.2.2.2.2.2.2.1
  have ho := hF.2.2.2.2.2.2.2.2.2.1
  rw [hpc, am_split (z0 := z0) (sp := sp) hn rfl]
  have hrun := va_runS (locs := locs) (cells := cells) (slots := slots) (e := e) (below := below) (meth := meth) ⟨hF.1, hF.2.1, hF.2.2.1, hF.2.2.2.1, hF.2.2.2.2.1⟩ hM
    (va_cwS (R := R) (own := am_cn (am_ow k)) (index := i) n hF.2.2.2.2.1 (am_goodOf (fun w hw => by
      unfold va_wsS at hw
      rcases List.mem_append.mp hw with hw | hw
      · simp only [List.mem_cons, List.not_mem_nil, or_false] at hw
        rcases hw with rfl | rfl | rfl
        · exact hl2.1
        · exact hl2.2.1
        · exact hL.2.1
      · exact (am_wsOf_good hL w hw).1)) rfl rfl rfl ⟨hL.2.2.1, hL.2.2.2, hl2.2.2⟩ ⟨by show am_fr z + 1 ≤ _; omega, by show 8 + (am_ml z + 11) + am_lo z ≤ _; omega⟩)
    (As := (st.take n).reverse.map (am_cv z0 sp)) (rest := (st.drop n).map (am_cv z0 sp)) ⟨am_blind _, am_pre hF hW _⟩
    (g := F0 m pc lsv (((st.take n).reverse.map (am_cv z0 sp)).reverse ++ (st.drop n).map (am_cv z0 sp))) rfl (by simp; omega) hl.2.1 rfl (lv_room (by rw [am_cats_map (am_sp_cat hsp)]; exact h8)) hdg ⟨by omega, by omega⟩
  exact am_ran hF (hW := hW) (by omega) (by omega) hrun hc hs hl hnx kk
theorem am_take_succ {n o : Nat} {st : List Value} (h : st[n]? = some (.ref o)) : (st.take (n + 1)).reverse = .ref o :: (st.take n).reverse ∧ n < st.length := by
  obtain ⟨hl, he⟩ := List.getElem?_eq_some_iff.mp h
  rw [List.take_succ_eq_append_getElem hl, he]
  simp [hl]
theorem am_s_callV (hF : am_F sc sp z0 cy D k p R s m args meth c) (hsp : ∀ n, sp n = .null ∨ ∃ t, sp n = .ref t) {i z n a : Nat} {r : Option Value} (hL : am_Lz z) (hl2 : Cond.methodLink (am_cn (am_ow k)) i (am_mt z) ∈ xw_tw ∧ Cond.instanceMethod (am_mt z) ∈ xw_tw ∧ Cond.selects (am_mt z).cls (am_mt z) (am_mt z) ∈ xw_tw ∧ (parseMethodDescriptor (am_mt z).desc).map (fun d => d.parameters.length) = some n) (hcl : (a = 100 ∧ (am_mt z).cls = "java/lang/String") ∨ ∃ q, vwCl[a]? = some q ∧ q.1 = (am_mt z).cls ∧ ¬ a = 100) (hr : am_fr z + 1 ≤ am_fr k ∧ 8 + (am_ml z + 11) + am_lo z ≤ am_lo k) (hle : am_tot M ≤ am_tot M2 ∧ am_sl M ≤ am_sl M2) (hlim : am_tot M2 ≤ n0 + R.cells ∧ am_sl M2 ≤ m0 + R.slots) (hrc : am_recv M a n st = true) (h8 : am_cats (st.drop (n + 1)) ≤ 8) (hM : am_Met l sc sp z0 cy D z (st.take (n + 1)).reverse M r M2) (hdg : decode (am_cd k) pc = .ok (.invokevirtual i, 3)) (hpc : am_pc k j = pc) (hnx : am_pc k (j + 1) = pc + 3)
    (kk : am_W sp z0 cy D n0 m0 k p l e R s m args below meth c Q (j + 1, ls, r.toList ++ st.drop (n + 1), M2)) : am_W sp z0 cy D n0 m0 k p l e R s m args below meth c Q (j, ls, st, M) := fun H locs lsv cells slots hW hc hs hl => by
  dsimp only at hW hc hs hl ⊢
  have hf := hF.2.2.2.2.2.2.2.2.1
  have ho := hF.2.2.2.2.2.2.2.2.2.1
  -- the receiver
  have hrec : ∃ (o b : Nat), st[n]? = some (.ref o) ∧ am_cv z0 sp (.ref o) = .ref b ∧ ∃ cellB : Cell, H[b]? = some cellB ∧ cellB.vm.isStatics = false ∧ s.vm.findClass (am_mt z).cls = some cellB.cls := by
    unfold am_recv at hrc
    split at hrc
    · next o hst =>
      rcases hcl with ⟨rfl, h9⟩ | ⟨q, h9, h10, h11⟩
      · have h100 : Nat.beq 100 100 = true := rfl
        rw [h100] at hrc
        dsimp only at hrc
        have : o = 1010 := Nat.eq_of_beq_eq_true hrc
        subst this
        obtain ⟨b, t, e1, e2, hR, hO, -⟩ := hF.2.2.2.2.2.2.1.2.2.2
        obtain ⟨cell, g1, g2, g3, g4⟩ := hO.kept hW.2.2.2.2.1
        exact ⟨1010, b, hst, by rw [am_cv_ge (by omega), e1], cell, g1, g2, by rw [h9]; exact g3⟩
      · have h100 : Nat.beq a 100 = false := by
          cases hb : Nat.beq a 100 with
          | false => rfl
          | true => exact absurd (Nat.eq_of_beq_eq_true hb) h11
        rw [h100] at hrc
        dsimp only at hrc
        split at hrc
        · next ci fs hg =>
          have : ci = a := Nat.eq_of_beq_eq_true hrc
          subst this
          obtain ⟨hn', q0, h1, -⟩ := am_get_at (z0 := z0) (sp := sp) (cy := cy) hg
          have := va_recv hF.2.2.2.2.2.1 hW.2.1 h9 h1
          rw [h10] at this
          exact ⟨o, _, hst, am_cv_lt hn', this⟩
        · cases hrc
    · cases hrc
  obtain ⟨o, b, hst, hb, hcell⟩ := hrec
  obtain ⟨htk, hlt⟩ := am_take_succ hst
  rw [htk] at hM
  unfold am_Met at hM
  rw [List.map_cons, hb] at hM
  rw [hpc, am_split (z0 := z0) (sp := sp) (n := n + 1) (by omega) rfl, htk, List.map_cons, hb, List.reverse_cons, List.append_assoc]
  have hpre := am_pre (sc := sc) hF hW (.ref b :: (st.take n).reverse.map (am_cv z0 sp))
  have hrun := va_runV (locs := locs) (cells := cells) (slots := slots) (e := e) (below := below) (meth := meth) (C := (am_mt z).cls) ⟨hF.1, hF.2.1, hF.2.2.1, hF.2.2.2.1, hF.2.2.2.2.1⟩ hM
    (cwV (R := R) (own := am_cn (am_ow k)) (index := i) n hF.2.2.2.2.1 (am_goodOf (fun w hw => by
      unfold wsV at hw
      rcases List.mem_append.mp hw with hw | hw
      · simp only [List.mem_cons, List.not_mem_nil, or_false] at hw
        rcases hw with rfl | rfl | rfl | rfl
        · exact hl2.1
        · exact hl2.2.1
        · exact hl2.2.2.1
        · exact hL.2.1
      · exact (am_wsOf_good hL w hw).1)) rfl rfl rfl ⟨rfl, hL.2.2.1, hL.2.2.2, hl2.2.2.2⟩ ⟨by show am_fr z + 1 ≤ _; omega, by show 8 + (am_ml z + 11) + am_lo z ≤ _; omega⟩)
    (As := (st.take n).reverse.map (am_cv z0 sp)) (rest := (st.drop (n + 1)).map (am_cv z0 sp)) (b := b) ⟨am_blind _, hcell, hpre⟩
    (g := F0 m pc lsv (((st.take n).reverse.map (am_cv z0 sp)).reverse ++ ([.ref b] ++ (st.drop (n + 1)).map (am_cv z0 sp)))) rfl (by simp; omega) hl.2.1 rfl (lv_room (by rw [am_cats_map (am_sp_cat hsp)]; exact h8)) hdg ⟨by omega, by omega⟩
  exact am_ran hF (hW := hW) (by omega) (by omega) hrun hc hs hl hnx kk
theorem am_s_callI (hF : am_F sc sp z0 cy D k p R s m args meth c) (hsp : ∀ n, sp n = .null ∨ ∃ t, sp n = .ref t) {i z n o : Nat} {r : Option Value} (hL : am_Lz z) (hl2 : (Cond.methodLink (am_cn (am_ow k)) i (am_mt z) ∈ xw_tw ∨ ∃ host, Cond.methodLinkNest (am_cn (am_ow k)) i (am_mt z) host ∈ am_nw) ∧ Cond.instanceMethod (am_mt z) ∈ xw_tw ∧ (am_mt z).name = "<init>" ∧ am_rt z = none ∧ (parseMethodDescriptor (am_mt z).desc).map (fun d => d.parameters.length) = some n) (hr : am_fr z + 1 ≤ am_fr k ∧ 8 + (am_ml z + 11) + am_lo z ≤ am_lo k) (hle : am_tot M ≤ am_tot M2 ∧ am_sl M ≤ am_sl M2) (hlim : am_tot M2 ≤ n0 + R.cells ∧ am_sl M2 ≤ m0 + R.slots) (hst : st[n]? = some (.ref o)) (ho : o < 1000) (h8 : am_cats (st.drop (n + 1)) ≤ 8) (hM : am_Met l sc sp z0 cy D z (st.take (n + 1)).reverse M r M2) (hdg : decode (am_cd k) pc = .ok (.invokespecial i, 3)) (hpc : am_pc k j = pc) (hnx : am_pc k (j + 1) = pc + 3)
    (kk : am_W sp z0 cy D n0 m0 k p l e R s m args below meth c Q (j + 1, ls, r.toList ++ st.drop (n + 1), M2)) : am_W sp z0 cy D n0 m0 k p l e R s m args below meth c Q (j, ls, st, M) := fun H locs lsv cells slots hW hc hs hl => by
  dsimp only at hW hc hs hl ⊢
  have hf := hF.2.2.2.2.2.2.2.2.1
  have hlo := hF.2.2.2.2.2.2.2.2.2.1
  have hb : am_cv z0 sp (.ref o) = .ref (am_ad z0 o) := am_cv_lt ho
  obtain ⟨htk, hlt⟩ := am_take_succ hst
  rw [htk] at hM
  unfold am_Met at hM
  rw [List.map_cons, hb] at hM
  rw [hpc, am_split (z0 := z0) (sp := sp) (n := n + 1) (by omega) rfl, htk, List.map_cons, hb, List.reverse_cons, List.append_assoc]
  have hpre := am_pre (sc := sc) hF hW (.ref (am_ad z0 o) :: (st.take n).reverse.map (am_cv z0 sp))
  have hws : am_wsOf z = Cond.code (am_mt z) (am_cd z) (am_ml z) none :: xw_tw := by unfold am_wsOf; rw [hl2.2.2.2.1]
  rcases hl2.1 with g | ⟨host, g⟩
  · have hrun := va_runI (locs := locs) (cells := cells) (slots := slots) (e := e) (below := below) (meth := meth) ⟨hF.1, hF.2.1, hF.2.2.1, hF.2.2.2.1, hF.2.2.2.2.1⟩ hM
      (cwI (R := R) (own := am_cn (am_ow k)) (index := i) n hF.2.2.2.2.1 (am_wsOf_good hL) hws rfl rfl (hF.2.2.2.2.1 _ hL.2.1) (hF.2.2.2.2.1 _ g) (hF.2.2.2.2.1 _ hl2.2.1) hl2.2.2.1 ⟨hL.2.2.1, hL.2.2.2, hl2.2.2.2.2⟩ ⟨by show am_fr z + 1 ≤ _; omega, by show 8 + (am_ml z + 11) + am_lo z ≤ _; omega⟩)
      (As := (st.take n).reverse.map (am_cv z0 sp)) (rest := (st.drop (n + 1)).map (am_cv z0 sp)) (b := am_ad z0 o) ⟨am_blind _, hpre⟩
      (g := F0 m pc lsv (((st.take n).reverse.map (am_cv z0 sp)).reverse ++ ([.ref (am_ad z0 o)] ++ (st.drop (n + 1)).map (am_cv z0 sp)))) rfl (by simp; omega) hl.2.1 rfl (lv_room (by rw [am_cats_map (am_sp_cat hsp)]; exact h8)) hdg ⟨by omega, by omega⟩
    exact am_ran hF (hW := hW) (by omega) (by omega) hrun hc hs hl hnx kk
  · have hrun := va_runIN (locs := locs) (cells := cells) (slots := slots) (e := e) (below := below) (meth := meth) ⟨hF.1, hF.2.1, hF.2.2.1, hF.2.2.2.1, hF.2.2.2.2.1⟩ hM
      ⟨va_cnB (R := R) (own := am_cn (am_ow k)) (index := i) n hF.2.2.2.2.1 (am_wsOf_good hL) hws rfl rfl (hF.2.2.2.2.2.2.1.2.2.1 _ g) (hF.2.2.2.2.1 _ hL.2.1) ⟨hL.2.2.1, hL.2.2.2, hl2.2.2.2.2⟩ ⟨by show am_fr z + 1 ≤ _; omega, by show 8 + (am_ml z + 11) + am_lo z ≤ _; omega⟩, hl2.2.2.1, hF.2.2.2.2.1 _ hl2.2.1⟩
      (As := (st.take n).reverse.map (am_cv z0 sp)) (rest := (st.drop (n + 1)).map (am_cv z0 sp)) (b := am_ad z0 o) ⟨am_blind _, hpre⟩
      (g := F0 m pc lsv (((st.take n).reverse.map (am_cv z0 sp)).reverse ++ ([.ref (am_ad z0 o)] ++ (st.drop (n + 1)).map (am_cv z0 sp)))) rfl (by simp; omega) hl.2.1 rfl (lv_room (by rw [am_cats_map (am_sp_cat hsp)]; exact h8)) hdg ⟨by omega, by omega⟩
    exact am_ran hF (hW := hW) (by omega) (by omega) hrun hc hs hl hnx kk
end
end
section
/-! ===== soundness: one step of the abstract machine ===== -/
theorem am_dn_spec {k j pc : Nat} {ins : Instr} {n : Nat} (h : am_dn k j pc ins n = true) : decode (am_cd k) pc = .ok (ins, n) ∧ am_pc k (j + 1) = pc + n := by
  simp only [am_dn, am_d, Bool.and_eq_true, decide_eq_true_eq] at h
  exact ⟨h.1, Nat.eq_of_beq_eq_true h.2⟩
theorem am_off_spec {k pc t : Nat} {off : Int} (h : am_off k pc off t = true) : (pc : Int) + off = (am_pc k t : Int) := of_decide_eq_true h
theorem am_dl_spec {k pc : Nat} {ins : Instr} (h : am_dl k pc ins = true) : ∃ n, decode (am_cd k) pc = .ok (ins, n) := by
  unfold am_dl at h
  split at h
  · next i n e => exact ⟨n, by rw [e, of_decide_eq_true h]⟩
  · cases h
theorem am_flb_spec {lk k i a b : Nat} (h : am_flb lk k i a b = true) : Cond.fieldLink (am_cn (am_ow k)) i (am_TT a b).1 (am_TT a b).2.1 (am_TT a b).2.2 ∈ xw_tw ∧ b < am_nf a := by
  unfold am_flb at h
  split at h
  · next o i' a' b' pl e =>
    simp only [Bool.and_eq_true] at h
    obtain ⟨⟨⟨h1, h2⟩, h3⟩, h4⟩ := h
    have q1 := Nat.eq_of_beq_eq_true h1
    have q2 := Nat.eq_of_beq_eq_true h2
    have q3 := Nat.eq_of_beq_eq_true h3
    have q4 := Nat.eq_of_beq_eq_true h4
    subst q1 q2 q3 q4
    have := am_fls_ok _ (List.mem_of_getElem? e)
    exact ⟨xw_in pl this.1 rfl, this.2⟩
  · cases h
theorem am_vw_some {a : Nat} (h : a < 8) : ∃ q, vwCl[a]? = some q := by
  match a, h with
  | 0, _ => exact ⟨_, rfl⟩
  | 1, _ => exact ⟨_, rfl⟩
  | 2, _ => exact ⟨_, rfl⟩
  | 3, _ => exact ⟨_, rfl⟩
  | 4, _ => exact ⟨_, rfl⟩
  | 5, _ => exact ⟨_, rfl⟩
  | 6, _ => exact ⟨_, rfl⟩
  | 7, _ => exact ⟨_, rfl⟩
  | n + 8, h => omega
theorem am_Lf_of {lk k i a b : Nat} (h : am_flb lk k i a b = true) (ha : Nat.blt a 8 = true) : am_Lf k i a b := by
  have ha' : a < 8 := Nat.le_of_ble_eq_true ha
  obtain ⟨q, hq⟩ := am_vw_some ha'
  obtain ⟨h1, h2⟩ := am_flb_spec h
  have h3 := (am_vw_cn a q hq).2.1
  refine ⟨q, hq, by rw [h3]; exact h2, ?_⟩
  unfold am_TT at h1
  rw [hq] at h1
  exact h1
theorem am_slb_spec {lk k i a : Nat} (h : am_slb lk k i a = true) : ∃ g, am_gs[a]? = some g ∧ (Cond.fieldLink (am_cn (am_ow k)) i g.1 g.2.1 g.2.2.1 ∈ xw_tw ∨ ∃ ho, Cond.fieldLinkNest (am_cn (am_ow k)) i g.1 g.2.1 g.2.2.1 ho ∈ am_nw) := by
  unfold am_slb at h
  split at h
  · next o i' a' ne pl e =>
    simp only [Bool.and_eq_true] at h
    obtain ⟨⟨h1, h2⟩, h3⟩ := h
    have q1 := Nat.eq_of_beq_eq_true h1
    have q2 := Nat.eq_of_beq_eq_true h2
    have q3 := Nat.eq_of_beq_eq_true h3
    subst q1 q2 q3
    obtain ⟨g, hg, h5⟩ := am_sls_ok _ (List.mem_of_getElem? e)
    refine ⟨g, hg, ?_⟩
    rcases h5 with h5 | h5
    · exact Or.inl (xw_in pl h5.2 rfl)
    · exact Or.inr ⟨_, h5.2⟩
  · cases h
theorem am_kb_spec {lk k i : Nat} {z : Int32} (h : am_kb lk k i z = true) : Cond.constant (am_cn (am_ow k)) i z ∈ xw_tw := by
  unfold am_kb at h
  split at h
  · next o i' z' pl e =>
    simp only [Bool.and_eq_true, decide_eq_true_eq] at h
    obtain ⟨⟨h1, h2⟩, h3⟩ := h
    have q1 := Nat.eq_of_beq_eq_true h1
    have q2 := Nat.eq_of_beq_eq_true h2
    subst q1 q2 h3
    exact xw_in pl (am_kls_ok _ (List.mem_of_getElem? e)) rfl
  · cases h
theorem am_lb_spec {a k i : Nat} {v : Int64} (h : am_lb a k i = true) (hv : am_lc[a]? = some v) : Cond.constantLong (am_cn (am_ow k)) i v ∈ xw_tw := by
  unfold am_lb at h
  split at h
  · next o i' z' pl v' e e' =>
    simp only [Bool.and_eq_true, decide_eq_true_eq] at h
    obtain ⟨⟨h1, h2⟩, h3⟩ := h
    have q1 := Nat.eq_of_beq_eq_true h1
    have q2 := Nat.eq_of_beq_eq_true h2
    rw [hv] at e'
    cases e'
    subst q1 q2 h3
    exact xw_in pl (am_lls_ok _ (List.mem_of_getElem? e)) rfl
  · cases h
theorem am_nlb_spec {lk k i a : Nat} (h : am_nlb lk k i a = true) : Cond.classLink (am_cn (am_ow k)) i (am_cn a) ∈ xw_tw ∧ Cond.instantiable (am_cn a) (am_nf a) ∈ xw_tw ∧ Cond.initialized (am_cn a) ∈ xw_tw := by
  unfold am_nlb at h
  split at h
  · next o i' a' pp e =>
    simp only [Bool.and_eq_true] at h
    obtain ⟨⟨h1, h2⟩, h3⟩ := h
    have q1 := Nat.eq_of_beq_eq_true h1
    have q2 := Nat.eq_of_beq_eq_true h2
    have q3 := Nat.eq_of_beq_eq_true h3
    subst q1 q2 q3
    have := am_nls_ok _ (List.mem_of_getElem? e)
    exact ⟨xw_in pp.1 this.1 rfl, xw_in pp.2.1 this.2.1 rfl, xw_in pp.2.2 this.2.2 rfl⟩
  · cases h
theorem am_mlb_spec {lk k i a : Nat} {ne : Bool} (h : am_mlb lk k i a ne = true) : Cond.methodLink (am_cn (am_ow k)) i (am_tg a) ∈ xw_tw ∨ (ne = true ∧ ∃ ho, Cond.methodLinkNest (am_cn (am_ow k)) i (am_tg a) ho ∈ am_nw) := by
  unfold am_mlb at h
  split at h
  · next o i' a' n' pl e =>
    simp only [Bool.and_eq_true, Bool.or_eq_true] at h
    obtain ⟨⟨⟨h1, h2⟩, h3⟩, h4⟩ := h
    have q1 := Nat.eq_of_beq_eq_true h1
    have q2 := Nat.eq_of_beq_eq_true h2
    have q3 := Nat.eq_of_beq_eq_true h3
    subst q1 q2 q3
    rcases am_mls_ok _ (List.mem_of_getElem? e) with h5 | h5
    · exact Or.inl (xw_in pl h5.2 rfl)
    · rcases h4 with h4 | h4
      · exact Or.inr ⟨h4, _, h5.2⟩
      · have := Nat.eq_of_beq_eq_true h4
        have h6 := h5.1
        dsimp only at h6
        omega
  · cases h
theorem am_tg_lt {a : Nat} (h : Nat.blt a 1000 = true) : am_tg a = am_mt a := by
  have h' : a < 1000 := Nat.le_of_ble_eq_true h
  unfold am_tg
  split <;> first | omega | rfl
theorem am_Lz_of {z : Nat} (h : am_zok z) : am_Lz z := ⟨xw_in _ h.1 rfl, xw_in _ h.2.1 rfl, h.2.2.1.1, h.2.2.1.2⟩
theorem am_cal_spec {k z b kd rc : Nat} (h : am_cal k z b kd rc = true) (h9 : kd ≠ 9) : z < am_mts.length ∧ (am_pl z).1 = kd ∧ (am_pl z).2.2.2.2.2 + rc = b ∧ (am_fr z + 1 ≤ am_fr k ∧ 8 + (am_ml z + 11) + am_lo z ≤ am_lo k) ∧ am_zok z := by
  simp only [am_cal, Bool.and_eq_true] at h
  obtain ⟨⟨⟨⟨h1, h2⟩, h3⟩, h4⟩, h5⟩ := h
  have q2 := Nat.eq_of_beq_eq_true h2
  have hz := Nat.le_of_ble_eq_true h1
  exact ⟨hz, q2, Nat.eq_of_beq_eq_true h3, ⟨Nat.le_of_ble_eq_true h4, Nat.le_of_ble_eq_true h5⟩, am_z_all z hz (by rw [q2]; exact h9)⟩
theorem am_ckt_spec {k pc : Nat} : ∀ (L : List (Int32 × Nat)) (os : List Int) (lo : Int), am_ckt k pc lo L os = true → ∀ (i : Nat) (q : Int32 × Nat), L[i]? = some q → q.1.toInt = lo + (i : Nat) ∧ ∃ off, os[i]? = some off ∧ (pc : Int) + off = (am_pc k q.2 : Int) := by
  intro L
  induction L with
  | nil => intro os lo _ i q h; simp at h
  | cons a L ih =>
    intro os lo hc i q h
    obtain ⟨v, n⟩ := a
    cases os with
    | nil => simp [am_ckt] at hc
    | cons o os =>
      simp only [am_ckt, Bool.and_eq_true, decide_eq_true_eq] at hc
      cases i with
      | zero => simp at h; subst h; exact ⟨by rw [hc.1.1]; simp, o, rfl, am_off_spec hc.1.2⟩
      | succ i =>
        simp at h
        obtain ⟨g1, off, g2, g3⟩ := ih os (lo + 1) hc.2 i q h
        exact ⟨by rw [g1]; push_cast; omega, off, by simpa using g2, g3⟩
theorem am_ckl_spec {k pc : Nat} : ∀ (L : List (Int32 × Nat)) (ps : List (Int × Int)), am_ckl k pc L ps = true → ps.length = L.length ∧ ∀ (i : Nat) (q : Int32 × Nat) (r : Int × Int), L[i]? = some q → ps[i]? = some r → q.1.toInt = r.1 ∧ (pc : Int) + r.2 = (am_pc k q.2 : Int) := by
  intro L
  induction L with
  | nil =>
    intro ps hc
    cases ps with
    | nil => exact ⟨rfl, fun i q r h => by simp at h⟩
    | cons a ps => simp [am_ckl] at hc
  | cons a L ih =>
    intro ps hc
    obtain ⟨v, n⟩ := a
    cases ps with
    | nil => simp [am_ckl] at hc
    | cons o ps =>
      obtain ⟨x, y⟩ := o
      simp only [am_ckl, Bool.and_eq_true, decide_eq_true_eq] at hc
      obtain ⟨g1, g2⟩ := ih ps hc.2
      refine ⟨by simp [g1], fun i q r h1 h2 => ?_⟩
      cases i with
      | zero => simp at h1 h2; subst h1 h2; exact ⟨hc.1.1, am_off_spec hc.1.2⟩
      | succ i => exact g2 i q r (by simpa using h1) (by simpa using h2)
def am_fkb (q : vw_C) (a b : Nat) : Bool := match am_fkd a b with
  | 0 => !(q.2.1 b).2.2.2 && decide (parseFieldDescriptor (q.2.1 b).2.2.1 = some .int)
  | 1 => !(q.2.1 b).2.2.2 && decide (parseFieldDescriptor (q.2.1 b).2.2.1 = some .boolean)
  | 2 => !(q.2.1 b).2.2.2 && decide (parseFieldDescriptor (q.2.1 b).2.2.1 = some .long)
  | _ => (q.2.1 b).2.2.2 && decide ((q.2.1 b).1 = am_cn a) && (match parseFieldDescriptor (q.2.1 b).2.2.1 with
    | some (.object _) => true
    | some (.array _) => true
    | _ => false)
theorem am_fk_tab : ((List.range 8).all fun a => match vwCl[a]? with
  | some q => (List.range q.2.2).all fun b => am_fkb q a b
  | none => true) = true := by decide +kernel
theorem am_fk_all : ∀ (a b : Nat) (q : vw_C), vwCl[a]? = some q → b < q.2.2 → ∀ k, (am_fkd a b = 3 → am_isI k = true ∧ a = am_ow k) → am_fkd a b ≤ 3 → am_Fk k q b (am_fkd a b) := by
  intro a b q hq hb k h3 hle
  have ha : a < 8 := (List.getElem?_eq_some_iff.mp hq).1
  have h := List.all_eq_true.mp am_fk_tab a (List.mem_range.mpr ha)
  rw [hq] at h
  have h := List.all_eq_true.mp h b (List.mem_range.mpr hb)
  unfold am_fkb at h
  generalize am_fkd a b = x at h h3 hle ⊢
  match x, hle, h, h3 with
  | 0, _, h, _ => simp only [Bool.and_eq_true, Bool.not_eq_true', decide_eq_true_eq] at h; exact h
  | 1, _, h, _ => simp only [Bool.and_eq_true, Bool.not_eq_true', decide_eq_true_eq] at h; exact h
  | 2, _, h, _ => simp only [Bool.and_eq_true, Bool.not_eq_true', decide_eq_true_eq] at h; exact h
  | 3, _, h, h3 =>
    simp only [Bool.and_eq_true, decide_eq_true_eq] at h
    obtain ⟨g1, g2⟩ := h3 rfl
    obtain ⟨⟨h1, h2⟩, h4⟩ := h
    refine ⟨h1, g1, by rw [h2, g2], ?_⟩
    split at h4
    · next C e => exact Or.inl ⟨C, e⟩
    · next t e => exact Or.inr ⟨t, e⟩
    · cases h4
section
variable {j : Nat} {ls : am_L} {st : List Value} {M : am_M} {P : Prop} {C' : am_C} {sc : am_Sc}
theorem am_ii_spec {f : Int32 → Int32 → Value} (h : am_ii (j, ls, st, M) f = some (P, C')) : ∃ (x y : Int32) (st2 : List Value), st = .int y :: .int x :: st2 ∧ P = (True) ∧ C' = (j + 1, ls, f x y :: st2, M) := by
  unfold am_ii at h
  split at h
  · next heq =>
    cases heq
    cases h
    exact ⟨_, _, _, rfl, rfl, rfl⟩
  · cases h
theorem am_iid_spec {f : Int32 → Int32 → Value} (h : am_iid (j, ls, st, M) f = some (P, C')) : ∃ (x y : Int32) (st2 : List Value), st = .int y :: .int x :: st2 ∧ P = (¬ y = 0) ∧ C' = (j + 1, ls, f x y :: st2, M) := by
  unfold am_iid at h
  split at h
  · next heq =>
    cases heq
    cases h
    exact ⟨_, _, _, rfl, rfl, rfl⟩
  · cases h
theorem am_i__spec {f : Int32 → Value} (h : am_i_ (j, ls, st, M) f = some (P, C')) : ∃ (x : Int32) (st2 : List Value), st = .int x :: st2 ∧ P = (True) ∧ C' = (j + 1, ls, f x :: st2, M) := by
  unfold am_i_ at h
  split at h
  · next heq =>
    cases heq
    cases h
    exact ⟨_, _, rfl, rfl, rfl⟩
  · cases h
theorem am_ll_spec {f : Int64 → Int64 → Value} (h : am_ll (j, ls, st, M) f = some (P, C')) : ∃ (x y : Int64) (st2 : List Value), st = .long y :: .long x :: st2 ∧ P = (True) ∧ C' = (j + 1, ls, f x y :: st2, M) := by
  unfold am_ll at h
  split at h
  · next heq =>
    cases heq
    cases h
    exact ⟨_, _, _, rfl, rfl, rfl⟩
  · cases h
theorem am_lld_spec {f : Int64 → Int64 → Value} (h : am_lld (j, ls, st, M) f = some (P, C')) : ∃ (x y : Int64) (st2 : List Value), st = .long y :: .long x :: st2 ∧ P = (¬ y = 0) ∧ C' = (j + 1, ls, f x y :: st2, M) := by
  unfold am_lld at h
  split at h
  · next heq =>
    cases heq
    cases h
    exact ⟨_, _, _, rfl, rfl, rfl⟩
  · cases h
theorem am_li_spec {f : Int64 → Int32 → Value} (h : am_li (j, ls, st, M) f = some (P, C')) : ∃ (x : Int64) (y : Int32) (st2 : List Value), st = .int y :: .long x :: st2 ∧ P = (True) ∧ C' = (j + 1, ls, f x y :: st2, M) := by
  unfold am_li at h
  split at h
  · next heq =>
    cases heq
    cases h
    exact ⟨_, _, _, rfl, rfl, rfl⟩
  · cases h
theorem am_l__spec {f : Int64 → Value} (h : am_l_ (j, ls, st, M) f = some (P, C')) : ∃ (x : Int64) (st2 : List Value), st = .long x :: st2 ∧ P = (True) ∧ C' = (j + 1, ls, f x :: st2, M) := by
  unfold am_l_ at h
  split at h
  · next heq =>
    cases heq
    cases h
    exact ⟨_, _, rfl, rfl, rfl⟩
  · cases h
theorem am_c1_spec {f : Int32 → Nat} (h : am_c1 (j, ls, st, M) f = some (P, C')) : ∃ (x : Int32) (st2 : List Value), st = .int x :: st2 ∧ P = (True) ∧ C' = (f x, ls, st2, M) := by
  unfold am_c1 at h
  split at h
  · next heq =>
    cases heq
    cases h
    exact ⟨_, _, rfl, rfl, rfl⟩
  · cases h
theorem am_c2_spec {f : Int32 → Int32 → Nat} (h : am_c2 (j, ls, st, M) f = some (P, C')) : ∃ (x y : Int32) (st2 : List Value), st = .int y :: .int x :: st2 ∧ P = (True) ∧ C' = (f x y, ls, st2, M) := by
  unfold am_c2 at h
  split at h
  · next heq =>
    cases heq
    cases h
    exact ⟨_, _, _, rfl, rfl, rfl⟩
  · cases h
theorem am_pop_spec  (h : am_pop (j, ls, st, M) = some (P, C')) : ∃ (x : Int32) (st2 : List Value), st = .int x :: st2 ∧ P = (True) ∧ C' = (j + 1, ls, st2, M) := by
  unfold am_pop at h
  split at h
  · next heq =>
    cases heq
    cases h
    exact ⟨_, _, rfl, rfl, rfl⟩
  · cases h
theorem am_si_spec {i : Nat} (h : am_si (j, ls, st, M) i = some (P, C')) : ∃ (x : Int32) (st2 : List Value), st = .int x :: st2 ∧ am_okst ls i = true ∧ P = True ∧ C' = (j + 1, ls.set i (some (.int x)), st2, M) := by
  unfold am_si at h
  split at h
  · next heq =>
    cases heq
    split at h
    · next hk => cases h; exact ⟨_, _, rfl, hk, rfl, rfl⟩
    · cases h
  · cases h
theorem am_sa_spec {i : Nat} (h : am_sa (j, ls, st, M) i = some (P, C')) : ∃ (x : Nat) (st2 : List Value), st = .ref x :: st2 ∧ am_okst ls i = true ∧ P = True ∧ C' = (j + 1, ls.set i (some (.ref x)), st2, M) := by
  unfold am_sa at h
  split at h
  · next heq =>
    cases heq
    split at h
    · next hk => cases h; exact ⟨_, _, rfl, hk, rfl, rfl⟩
    · cases h
  · cases h
theorem am_sl2_spec {i : Nat} (h : am_sl2 (j, ls, st, M) i = some (P, C')) : ∃ (x : Int64) (st2 : List Value), st = .long x :: st2 ∧ am_okst2 ls i = true ∧ P = True ∧ C' = (j + 1, (ls.set i (some (.long x))).set (i + 1) none, st2, M) := by
  unfold am_sl2 at h
  split at h
  · next heq =>
    cases heq
    split at h
    · next hk => cases h; exact ⟨_, _, rfl, hk, rfl, rfl⟩
    · cases h
  · cases h
theorem am_ldi_spec {i : Nat} (h : am_ldi (j, ls, st, M) i = some (P, C')) : ∃ x : Int32, ls[i]? = some (some (.int x)) ∧ P = True ∧ C' = (j + 1, ls, .int x :: st, M) := by
  unfold am_ldi at h
  dsimp only at h
  split at h
  · next hv => cases h; exact ⟨_, hv, rfl, rfl⟩
  · cases h
theorem am_lda_spec {i : Nat} (h : am_lda (j, ls, st, M) i = some (P, C')) : ∃ x : Nat, ls[i]? = some (some (.ref x)) ∧ P = True ∧ C' = (j + 1, ls, .ref x :: st, M) := by
  unfold am_lda at h
  dsimp only at h
  split at h
  · next hv => cases h; exact ⟨_, hv, rfl, rfl⟩
  · cases h
theorem am_ldl_spec {i : Nat} (h : am_ldl (j, ls, st, M) i = some (P, C')) : ∃ x : Int64, ls[i]? = some (some (.long x)) ∧ P = True ∧ C' = (j + 1, ls, .long x :: st, M) := by
  unfold am_ldl at h
  dsimp only at h
  split at h
  · next hv => cases h; exact ⟨_, hv, rfl, rfl⟩
  · cases h
theorem am_iinc_spec {i : Nat} {z : Int32} (h : am_iinc (j, ls, st, M) i z = some (P, C')) : ∃ x : Int32, ls[i]? = some (some (.int x)) ∧ am_okst ls i = true ∧ P = True ∧ C' = (j + 1, ls.set i (some (.int (x + z))), st, M) := by
  unfold am_iinc at h
  dsimp only at h
  split at h
  · next hv =>
    split at h
    · next hk => cases h; exact ⟨_, hv, hk, rfl, rfl⟩
    · cases h
  · cases h
theorem am_dup_spec (h : am_dup (j, ls, st, M) = some (P, C')) : ∃ (v : Value) (st2 : List Value), st = v :: st2 ∧ ((∃ x, v = .int x) ∨ ∃ x, v = .ref x) ∧ P = True ∧ C' = (j + 1, ls, v :: v :: st2, M) := by
  unfold am_dup at h
  split at h
  · next heq => cases heq; cases h; exact ⟨_, _, rfl, Or.inl ⟨_, rfl⟩, rfl, rfl⟩
  · next heq => cases heq; cases h; exact ⟨_, _, rfl, Or.inr ⟨_, rfl⟩, rfl, rfl⟩
  · cases h
theorem am_dup2_spec (h : am_dup2 (j, ls, st, M) = some (P, C')) : ∃ (y : Int32) (v : Value) (st2 : List Value), st = .int y :: v :: st2 ∧ ((∃ x, v = .int x) ∨ ∃ x, v = .ref x) ∧ P = True ∧ C' = (j + 1, ls, .int y :: v :: .int y :: v :: st2, M) := by
  unfold am_dup2 at h
  split at h
  · next heq => cases heq; cases h; exact ⟨_, _, _, rfl, Or.inl ⟨_, rfl⟩, rfl, rfl⟩
  · next heq => cases heq; cases h; exact ⟨_, _, _, rfl, Or.inr ⟨_, rfl⟩, rfl, rfl⟩
  · cases h
theorem am_getf0_spec {a b n : Nat} (h : am_getf0 (j, ls, [], M) a b n st = some (P, C')) : ∃ (fs : List Value) (v : Value), am_get M n = some (.inr (a, fs)) ∧ fs[b]? = some v ∧ P = True ∧ C' = (j + 1, ls, v :: st, M) := by
  unfold am_getf0 at h
  split at h
  · next ci fs hg =>
    split at h
    · next hci =>
      have q1 := Nat.eq_of_beq_eq_true hci
      subst q1
      split at h
      · next v hv => cases h; exact ⟨fs, v, hg, hv, rfl, rfl⟩
      · cases h
    · cases h
  · cases h
theorem am_getfS_spec {b n : Nat} (h : am_getfS (j, ls, [], M) b n st = some (P, C')) : n = 1010 ∧ P = True ∧ ((b = 0 ∧ C' = (j + 1, ls, .ref 1011 :: st, M)) ∨ (1 ≤ b ∧ C' = (j + 1, ls, .int 0 :: st, M))) := by
  unfold am_getfS at h
  split at h
  · next hn1 =>
    have q1 := Nat.eq_of_beq_eq_true hn1
    cases b with
    | zero => cases h; exact ⟨q1, rfl, Or.inl ⟨rfl, rfl⟩⟩
    | succ b => cases h; exact ⟨q1, rfl, Or.inr ⟨by omega, rfl⟩⟩
  · cases h
theorem am_gf_spec {a b kd : Nat} (h : am_gf (j, ls, st, M) a b kd = some (P, C')) : ∃ (n : Nat) (st2 : List Value), st = .ref n :: st2 ∧ ((kd = 0 ∧ am_getf0 (j, ls, [], M) a b n st2 = some (P, C')) ∨ (1 ≤ kd ∧ am_getfS (j, ls, [], M) b n st2 = some (P, C'))) := by
  unfold am_gf at h
  split at h
  · next heq =>
    cases heq
    cases kd with
    | zero => exact ⟨_, _, rfl, Or.inl ⟨rfl, h⟩⟩
    | succ kd => exact ⟨_, _, rfl, Or.inr ⟨by omega, h⟩⟩
  · cases h
theorem am_pf_spec {a b kd : Nat} (h : am_pf (j, ls, st, M) a b kd = some (P, C')) : ∃ (v : Value) (n : Nat) (st2 : List Value) (fs : List Value), st = v :: .ref n :: st2 ∧ am_get M n = some (.inr (a, fs)) ∧ am_pfk kd v = some P ∧ b < fs.length ∧ C' = (j + 1, ls, st2, am_set M n (.inr (a, fs.set b v))) := by
  unfold am_pf at h
  split at h
  · next heq =>
    cases heq
    unfold am_putf at h
    dsimp only at h
    split at h
    · next ci fs hg =>
      split at h
      · next P0 hci hpk hlt =>
        have q1 := Nat.eq_of_beq_eq_true hci
        subst q1
        cases h
        exact ⟨_, _, _, fs, rfl, hg, hpk, Nat.le_of_ble_eq_true hlt, rfl⟩
      · cases h
    · cases h
  · cases h
theorem am_ald_spec {is : Nat → Bool} {i : Int32} {n : Nat} (h : am_ald sc (j, ls, [], M) is i n st = some (P, C')) : ∃ (ty len : Nat) (f : Nat → Int32), am_arr sc M n = some (ty, len, f) ∧ is ty = true ∧ P = am_inb i len ∧ C' = (j + 1, ls, .int (f i.toNatClampNeg) :: st, M) := by
  unfold am_ald at h
  dsimp only at h
  split at h
  · next ty len f ha =>
    split at h
    · next hty => cases h; exact ⟨ty, len, f, ha, hty, rfl, rfl⟩
    · cases h
  · cases h
theorem am_ia_spec (h : am_ia sc (j, ls, st, M) = some (P, C')) : ∃ (i : Int32) (n : Nat) (st2 : List Value), st = .int i :: .ref n :: st2 ∧ am_ald sc (j, ls, [], M) (fun ty => Nat.beq ty 0) i n st2 = some (P, C') := by
  unfold am_ia at h
  split at h
  · next heq => cases heq; exact ⟨_, _, _, rfl, h⟩
  · cases h
theorem am_ba_spec (h : am_ba sc (j, ls, st, M) = some (P, C')) : ∃ (i : Int32) (n : Nat) (st2 : List Value), st = .int i :: .ref n :: st2 ∧ am_ald sc (j, ls, [], M) (fun ty => Nat.beq ty 1 || Nat.beq ty 2) i n st2 = some (P, C') := by
  unfold am_ba at h
  split at h
  · next heq => cases heq; exact ⟨_, _, _, rfl, h⟩
  · cases h
theorem am_is_spec (h : am_is (j, ls, st, M) = some (P, C')) : ∃ (x i : Int32) (n : Nat) (st2 : List Value) (len : Nat) (f : Nat → Int32), st = .int x :: .int i :: .ref n :: st2 ∧ am_get M n = some (.inl (0, len, .inl f)) ∧ P = am_inb i len ∧ C' = (j + 1, ls, st2, am_set M n (.inl (0, len, .inl (upd f i.toNatClampNeg x)))) := by
  unfold am_is at h
  split at h
  · next heq =>
    cases heq
    unfold am_asti at h
    dsimp only at h
    split at h
    · next len f ha => cases h; exact ⟨_, _, _, _, len, f, rfl, ha, rfl, rfl⟩
    · cases h
  · cases h
theorem am_bs_spec (h : am_bs (j, ls, st, M) = some (P, C')) : ∃ (x i : Int32) (n : Nat) (st2 : List Value) (len : Nat) (f : Nat → Int32), st = .int x :: .int i :: .ref n :: st2 ∧ P = am_inb i len ∧ ((am_get M n = some (.inl (1, len, .inl f)) ∧ C' = (j + 1, ls, st2, am_set M n (.inl (1, len, .inl (upd f i.toNatClampNeg (vp_nar .byte x)))))) ∨ (am_get M n = some (.inl (2, len, .inl f)) ∧ C' = (j + 1, ls, st2, am_set M n (.inl (2, len, .inl (upd f i.toNatClampNeg (vp_nar .boolean x))))))) := by
  unfold am_bs at h
  split at h
  · next heq =>
    cases heq
    unfold am_astb at h
    dsimp only at h
    split at h
    · next len f ha => cases h; exact ⟨_, _, _, _, len, f, rfl, rfl, Or.inl ⟨ha, rfl⟩⟩
    · next len f ha => cases h; exact ⟨_, _, _, _, len, f, rfl, rfl, Or.inr ⟨ha, rfl⟩⟩
    · cases h
  · cases h
theorem am_aln_spec (h : am_aln sc (j, ls, st, M) = some (P, C')) : ∃ (n : Nat) (st2 : List Value) (ty len : Nat) (f : Nat → Int32), st = .ref n :: st2 ∧ am_arr sc M n = some (ty, len, f) ∧ ty < 3 ∧ P = True ∧ C' = (j + 1, ls, .int (Int32.ofNat len) :: st2, M) := by
  unfold am_aln at h
  split at h
  · next heq =>
    cases heq
    split at h
    · next ty len f ha =>
      split at h
      · next hty => cases h; exact ⟨_, _, ty, len, f, rfl, ha, Nat.le_of_ble_eq_true hty, rfl, rfl⟩
      · cases h
    · cases h
  · cases h
theorem am_na_spec {t : ArrayType} (h : am_na (j, ls, st, M) t = some (P, C')) : ∃ (n : Int32) (st2 : List Value) (ty : Nat), st = .int n :: st2 ∧ am_aty t = some ty ∧ am_newa (j, ls, [], M) ty n st2 = some (P, C') := by
  unfold am_na at h
  split at h
  · next heq =>
    cases heq
    split at h
    · next ty hty => exact ⟨_, _, ty, rfl, hty, h⟩
    · cases h
  · cases h
theorem am_oi_spec {kd : Nat} (h : am_oi (j, ls, st, M) kd = some (P, C')) : ∃ (n : Nat) (st2 : List Value), st = .ref n :: st2 ∧ kd = 5 ∧ am_cats st2 ≤ 8 ∧ n < 1000 ∧ P = True ∧ C' = (j + 1, ls, st2, M) := by
  unfold am_oi at h
  split at h
  · next heq =>
    cases heq
    split at h
    · next c1 c2 c3 => cases h; exact ⟨_, _, rfl, Nat.eq_of_beq_eq_true c1, Nat.le_of_ble_eq_true c2, Nat.le_of_ble_eq_true c3, rfl, rfl⟩
    · cases h
  · cases h
theorem am_math_spec {kd : Nat} {st1 : List Value} (h : am_math (j, ls, st1, M) kd st = some (P, C')) : (kd = 1 ∧ ∃ (x y : Int32) (st2 : List Value), st = .int y :: .int x :: st2 ∧ am_cats st2 ≤ 8 ∧ P = True ∧ C' = (j + 1, ls, .int (if x < y then y else x) :: st2, M)) ∨ (kd = 2 ∧ ∃ (x y : Int32) (st2 : List Value), st = .int y :: .int x :: st2 ∧ am_cats st2 ≤ 8 ∧ P = True ∧ C' = (j + 1, ls, .int (if y < x then y else x) :: st2, M)) ∨ (kd = 3 ∧ ∃ (x : Int32) (st2 : List Value), st = .int x :: st2 ∧ am_cats st2 ≤ 8 ∧ P = True ∧ C' = (j + 1, ls, .int (if 0 ≤ x then x else 0 - x) :: st2, M)) ∨ (kd = 4 ∧ ∃ (n dp sps : Int32) (a a0 : Nat) (st2 : List Value) (n0 n1 : Nat) (f g : Nat → Int32), st = .int n :: .int dp :: .ref a :: .int sps :: .ref a0 :: st2 ∧ am_get M a0 = some (.inl (0, n0, .inl f)) ∧ am_get M a = some (.inl (0, n1, .inl g)) ∧ am_cats st2 ≤ 8 ∧ P = ((¬ sps < 0 ∧ ¬ dp < 0 ∧ ¬ n < 0) ∧ sps.toNatClampNeg + n.toNatClampNeg ≤ n0 ∧ dp.toNatClampNeg + n.toNatClampNeg ≤ n1) ∧ C' = (j + 1, ls, st2, am_set M a (.inl (0, n1, .inl (va_cpy f g sps.toNatClampNeg dp.toNatClampNeg n.toNatClampNeg))))) := by
  unfold am_math at h
  split at h
  · split at h
    · next c1 => cases h; exact Or.inl ⟨rfl, _, _, _, rfl, Nat.le_of_ble_eq_true c1, rfl, rfl⟩
    · cases h
  · split at h
    · next c1 => cases h; exact Or.inr (Or.inl ⟨rfl, _, _, _, rfl, Nat.le_of_ble_eq_true c1, rfl, rfl⟩)
    · cases h
  · split at h
    · next c1 => cases h; exact Or.inr (Or.inr (Or.inl ⟨rfl, _, _, rfl, Nat.le_of_ble_eq_true c1, rfl, rfl⟩))
    · cases h
  · unfold am_copy at h
    split at h
    · next heq =>
      cases heq
      split at h
      · next h0 h1 h2 h3 => cases h; exact Or.inr (Or.inr (Or.inr ⟨rfl, _, _, _, _, _, _, _, _, _, _, rfl, h0, h1, Nat.le_of_ble_eq_true h3, rfl, rfl⟩))
      · cases h
    · cases h
  · cases h
end
section
variable {sc : am_Sc} {sp : Nat → Value} {z0 : Nat} {cy : Nat → ClassId} {D : va_G} {k : Nat} {l : Launch}
/-- what one plain step gives -/
def am_Step (sc : am_Sc) (sp : Nat → Value) (z0 : Nat) (cy : Nat → ClassId) (D : va_G) (k : Nat) (l : Launch) (C C' : am_C) : Prop := (am_tot C.2.2.2 ≤ am_tot C'.2.2.2 ∧ am_sl C.2.2.2 ≤ am_sl C'.2.2.2) ∧ ∀ {n0 m0 : Nat} {p : Program} {e : Env} {R : Room} {s : State} {m : MethodId} {args : Array Value} {below : List Frame} {meth : Method} {c : Code} {Q : State → Prop}, am_F sc sp z0 cy D k p R s m args meth c → s.heap.size = z0 + n0 → (am_tot C'.2.2.2 ≤ n0 + R.cells ∧ am_sl C'.2.2.2 ≤ m0 + R.slots) → am_W sp z0 cy D n0 m0 k p l e R s m args below meth c Q C' → am_W sp z0 cy D n0 m0 k p l e R s m args below meth c Q C
theorem am_Step.flat {j j' : Nat} {ls ls' : am_L} {st st' : List Value} {M : am_M} (h : ∀ {n0 m0 : Nat} {p : Program} {e : Env} {R : Room} {s : State} {m : MethodId} {args : Array Value} {below : List Frame} {meth : Method} {c : Code} {Q : State → Prop}, am_F sc sp z0 cy D k p R s m args meth c → s.heap.size = z0 + n0 → (am_tot M ≤ n0 + R.cells ∧ am_sl M ≤ m0 + R.slots) → am_W sp z0 cy D n0 m0 k p l e R s m args below meth c Q (j', ls', st', M) → am_W sp z0 cy D n0 m0 k p l e R s m args below meth c Q (j, ls, st, M)) : am_Step sc sp z0 cy D k l (j, ls, st, M) (j', ls', st', M) := ⟨⟨Nat.le_refl _, Nat.le_refl _⟩, h⟩
theorem am_Step.set {j j' : Nat} {ls ls' : am_L} {st st' : List Value} {M : am_M} {n : Nat} {e0 e' : am_E} (hg : am_get M n = some e0) (he : am_esl e' = am_esl e0) (h : ∀ {n0 m0 : Nat} {p : Program} {e : Env} {R : Room} {s : State} {m : MethodId} {args : Array Value} {below : List Frame} {meth : Method} {c : Code} {Q : State → Prop}, am_F sc sp z0 cy D k p R s m args meth c → s.heap.size = z0 + n0 → (am_tot (am_set M n e') ≤ n0 + R.cells ∧ am_sl (am_set M n e') ≤ m0 + R.slots) → am_W sp z0 cy D n0 m0 k p l e R s m args below meth c Q (j', ls', st', am_set M n e') → am_W sp z0 cy D n0 m0 k p l e R s m args below meth c Q (j, ls, st, M)) : am_Step sc sp z0 cy D k l (j, ls, st, M) (j', ls', st', am_set M n e') := ⟨⟨Nat.le_of_eq (am_set_tot hg he).1.symm, Nat.le_of_eq (am_set_tot hg he).2.symm⟩, h⟩
set_option maxHeartbeats 4000000 in
theorem am_one (hsp : ∀ n, sp n = .null ∨ ∃ t, sp n = .ref t) {j : Nat} {ls : am_L} {st : List Value} {M : am_M} {P : Prop} {C' : am_C} (h : am_step (am_tab k) sc (j, ls, st, M) = some (P, C')) (hP : P) : am_Step sc sp z0 cy D k l (j, ls, st, M) C' := by
  unfold am_step at h
  dsimp only at h
  split at h
  · cases h
  · next pc ins a b c kd lk z he =>
    have hb := am_ok he
    have hpc : am_pc k j = pc := by unfold am_pc; rw [he]
    cases ins
    all_goals try (cases h; done)
    case iconst n =>
      obtain ⟨hb, hb2⟩ := Bool.and_eq_true_iff.mp hb
      obtain ⟨hd, hn⟩ := am_dn_spec hb
      cases h
      exact am_Step.flat (fun hF _ _ kk => am_s_iconst hF hd hpc hn (of_decide_eq_true hb2) kk)
    case bipush n =>
      obtain ⟨hb, hb2⟩ := Bool.and_eq_true_iff.mp hb
      obtain ⟨hd, hn⟩ := am_dn_spec hb
      cases h
      exact am_Step.flat (fun hF _ _ kk => am_s_bipush hF hd hpc hn (of_decide_eq_true hb2) kk)
    case sipush n =>
      obtain ⟨hb, hb2⟩ := Bool.and_eq_true_iff.mp hb
      obtain ⟨hd, hn⟩ := am_dn_spec hb
      cases h
      exact am_Step.flat (fun hF _ _ kk => am_s_sipush hF hd hpc hn (of_decide_eq_true hb2) kk)
    case lconst n =>
      obtain ⟨hd, hn⟩ := am_dn_spec hb
      cases h
      exact am_Step.flat (fun hF _ _ kk => am_s_lconst hF hd hpc hn kk)
    case ldc i =>
      obtain ⟨hb, hb2⟩ := Bool.and_eq_true_iff.mp hb
      obtain ⟨hd, hn⟩ := am_dn_spec hb
      match kd, h, hb2 with
      | 0, h, hb2 =>
        cases h
        exact am_Step.flat (fun hF _ _ kk => am_s_ldc hF hd hpc hn (am_kb_spec hb2) kk)
      | 1, h, hb2 =>
        obtain ⟨g1, g2⟩ := Bool.and_eq_true_iff.mp hb2
        have q1 := Nat.eq_of_beq_eq_true g1
        have q2 := Nat.eq_of_beq_eq_true g2
        subst q2
        cases h
        exact am_Step.flat (fun hF _ _ kk => am_s_ldcS hF q1 hd hpc hn kk)
      | x + 2, h, _ => cases h
    case ldc2_w i =>
      obtain ⟨hb, hb2⟩ := Bool.and_eq_true_iff.mp hb
      obtain ⟨hd, hn⟩ := am_dn_spec hb
      dsimp only [am_l2] at h
      split at h
      · next v hv =>
        cases h
        exact am_Step.flat (fun hF _ _ kk => am_s_ldc2 hF hd hpc hn (am_lb_spec hb2 hv) kk)
      · cases h
    case iload_n n =>
      obtain ⟨hd, hn⟩ := am_dn_spec hb
      obtain ⟨x, hv, rfl, rfl⟩ := am_ldi_spec h
      exact am_Step.flat (fun hF _ _ kk => am_s_iload_n hF hd hpc hn hv kk)
    case iload n =>
      obtain ⟨hd, hn⟩ := am_dn_spec hb
      obtain ⟨x, hv, rfl, rfl⟩ := am_ldi_spec h
      exact am_Step.flat (fun hF _ _ kk => am_s_iload hF hd hpc hn hv kk)
    case aload_n n =>
      obtain ⟨hd, hn⟩ := am_dn_spec hb
      obtain ⟨x, hv, rfl, rfl⟩ := am_lda_spec h
      exact am_Step.flat (fun hF _ _ kk => am_s_aload_n hF hsp hd hpc hn hv kk)
    case aload n =>
      obtain ⟨hd, hn⟩ := am_dn_spec hb
      obtain ⟨x, hv, rfl, rfl⟩ := am_lda_spec h
      exact am_Step.flat (fun hF _ _ kk => am_s_aload hF hsp hd hpc hn hv kk)
    case lload_n n =>
      obtain ⟨hd, hn⟩ := am_dn_spec hb
      obtain ⟨x, hv, rfl, rfl⟩ := am_ldl_spec h
      exact am_Step.flat (fun hF _ _ kk => am_s_lload_n hF hd hpc hn hv kk)
    case lload n =>
      obtain ⟨hd, hn⟩ := am_dn_spec hb
      obtain ⟨x, hv, rfl, rfl⟩ := am_ldl_spec h
      exact am_Step.flat (fun hF _ _ kk => am_s_lload hF hd hpc hn hv kk)
    case istore_n n =>
      obtain ⟨hd, hn⟩ := am_dn_spec hb
      obtain ⟨x, st2, rfl, hi, rfl, rfl⟩ := am_si_spec h
      exact am_Step.flat (fun hF _ _ kk => am_s_istore_n hF hsp hd hpc hn hi kk)
    case istore n =>
      obtain ⟨hd, hn⟩ := am_dn_spec hb
      obtain ⟨x, st2, rfl, hi, rfl, rfl⟩ := am_si_spec h
      exact am_Step.flat (fun hF _ _ kk => am_s_istore hF hsp hd hpc hn hi kk)
    case astore_n n =>
      obtain ⟨hd, hn⟩ := am_dn_spec hb
      obtain ⟨x, st2, rfl, hi, rfl, rfl⟩ := am_sa_spec h
      exact am_Step.flat (fun hF _ _ kk => am_s_astore_n hF hsp hd hpc hn hi kk)
    case astore n =>
      obtain ⟨hd, hn⟩ := am_dn_spec hb
      obtain ⟨x, st2, rfl, hi, rfl, rfl⟩ := am_sa_spec h
      exact am_Step.flat (fun hF _ _ kk => am_s_astore hF hsp hd hpc hn hi kk)
    case lstore_n n =>
      obtain ⟨hd, hn⟩ := am_dn_spec hb
      obtain ⟨x, st2, rfl, hi, rfl, rfl⟩ := am_sl2_spec h
      exact am_Step.flat (fun hF _ _ kk => am_s_lstore_n hF hsp hd hpc hn hi kk)
    case lstore n =>
      obtain ⟨hd, hn⟩ := am_dn_spec hb
      obtain ⟨x, st2, rfl, hi, rfl, rfl⟩ := am_sl2_spec h
      exact am_Step.flat (fun hF _ _ kk => am_s_lstore hF hsp hd hpc hn hi kk)
    case iinc n d =>
      obtain ⟨hb, hb2⟩ := Bool.and_eq_true_iff.mp hb
      obtain ⟨hd, hn⟩ := am_dn_spec hb
      obtain ⟨x, hx, hi, rfl, rfl⟩ := am_iinc_spec h
      exact am_Step.flat (fun hF _ _ kk => am_s_iinc hF hsp hd hpc hn (of_decide_eq_true hb2) hx hi kk)
    case iadd =>
      obtain ⟨hd, hn⟩ := am_dn_spec hb
      obtain ⟨x, y, st2, rfl, rfl, rfl⟩ := am_ii_spec h
      exact am_Step.flat (fun hF _ _ kk => am_s_iadd hF hd hpc hn kk)
    case isub =>
      obtain ⟨hd, hn⟩ := am_dn_spec hb
      obtain ⟨x, y, st2, rfl, rfl, rfl⟩ := am_ii_spec h
      exact am_Step.flat (fun hF _ _ kk => am_s_isub hF hd hpc hn kk)
    case imul =>
      obtain ⟨hd, hn⟩ := am_dn_spec hb
      obtain ⟨x, y, st2, rfl, rfl, rfl⟩ := am_ii_spec h
      exact am_Step.flat (fun hF _ _ kk => am_s_imul hF hd hpc hn kk)
    case iand =>
      obtain ⟨hd, hn⟩ := am_dn_spec hb
      obtain ⟨x, y, st2, rfl, rfl, rfl⟩ := am_ii_spec h
      exact am_Step.flat (fun hF _ _ kk => am_s_iand hF hd hpc hn kk)
    case ior =>
      obtain ⟨hd, hn⟩ := am_dn_spec hb
      obtain ⟨x, y, st2, rfl, rfl, rfl⟩ := am_ii_spec h
      exact am_Step.flat (fun hF _ _ kk => am_s_ior hF hd hpc hn kk)
    case ishl =>
      obtain ⟨hd, hn⟩ := am_dn_spec hb
      obtain ⟨x, y, st2, rfl, rfl, rfl⟩ := am_ii_spec h
      exact am_Step.flat (fun hF _ _ kk => am_s_ishl hF hd hpc hn kk)
    case ishr =>
      obtain ⟨hd, hn⟩ := am_dn_spec hb
      obtain ⟨x, y, st2, rfl, rfl, rfl⟩ := am_ii_spec h
      exact am_Step.flat (fun hF _ _ kk => am_s_ishr hF hd hpc hn kk)
    case iushr =>
      obtain ⟨hd, hn⟩ := am_dn_spec hb
      obtain ⟨x, y, st2, rfl, rfl, rfl⟩ := am_ii_spec h
      exact am_Step.flat (fun hF _ _ kk => am_s_iushr hF hd hpc hn kk)
    case idiv =>
      obtain ⟨hd, hn⟩ := am_dn_spec hb
      obtain ⟨x, y, st2, rfl, rfl, rfl⟩ := am_iid_spec h
      exact am_Step.flat (fun hF _ _ kk => am_s_idiv hF hd hpc hn hP kk)
    case irem =>
      obtain ⟨hd, hn⟩ := am_dn_spec hb
      obtain ⟨x, y, st2, rfl, rfl, rfl⟩ := am_iid_spec h
      exact am_Step.flat (fun hF _ _ kk => am_s_irem hF hd hpc hn hP kk)
    case ineg =>
      obtain ⟨hd, hn⟩ := am_dn_spec hb
      obtain ⟨x, st2, rfl, rfl, rfl⟩ := am_i__spec h
      exact am_Step.flat (fun hF _ _ kk => am_s_ineg hF hd hpc hn kk)
    case i2l =>
      obtain ⟨hd, hn⟩ := am_dn_spec hb
      obtain ⟨x, st2, rfl, rfl, rfl⟩ := am_i__spec h
      exact am_Step.flat (fun hF _ _ kk => am_s_i2l hF hd hpc hn kk)
    case i2b =>
      obtain ⟨hd, hn⟩ := am_dn_spec hb
      obtain ⟨x, st2, rfl, rfl, rfl⟩ := am_i__spec h
      exact am_Step.flat (fun hF _ _ kk => am_s_i2b hF hd hpc hn kk)
    case i2c =>
      obtain ⟨hd, hn⟩ := am_dn_spec hb
      obtain ⟨x, st2, rfl, rfl, rfl⟩ := am_i__spec h
      exact am_Step.flat (fun hF _ _ kk => am_s_i2c hF hd hpc hn kk)
    case ladd =>
      obtain ⟨hd, hn⟩ := am_dn_spec hb
      obtain ⟨x, y, st2, rfl, rfl, rfl⟩ := am_ll_spec h
      exact am_Step.flat (fun hF _ _ kk => am_s_ladd hF hd hpc hn kk)
    case lmul =>
      obtain ⟨hd, hn⟩ := am_dn_spec hb
      obtain ⟨x, y, st2, rfl, rfl, rfl⟩ := am_ll_spec h
      exact am_Step.flat (fun hF _ _ kk => am_s_lmul hF hd hpc hn kk)
    case land =>
      obtain ⟨hd, hn⟩ := am_dn_spec hb
      obtain ⟨x, y, st2, rfl, rfl, rfl⟩ := am_ll_spec h
      exact am_Step.flat (fun hF _ _ kk => am_s_land hF hd hpc hn kk)
    case lor =>
      obtain ⟨hd, hn⟩ := am_dn_spec hb
      obtain ⟨x, y, st2, rfl, rfl, rfl⟩ := am_ll_spec h
      exact am_Step.flat (fun hF _ _ kk => am_s_lor hF hd hpc hn kk)
    case lcmp =>
      obtain ⟨hd, hn⟩ := am_dn_spec hb
      obtain ⟨x, y, st2, rfl, rfl, rfl⟩ := am_ll_spec h
      exact am_Step.flat (fun hF _ _ kk => am_s_lcmp hF hd hpc hn kk)
    case ldiv =>
      obtain ⟨hd, hn⟩ := am_dn_spec hb
      obtain ⟨x, y, st2, rfl, rfl, rfl⟩ := am_lld_spec h
      exact am_Step.flat (fun hF _ _ kk => am_s_ldiv hF hd hpc hn hP kk)
    case lshl =>
      obtain ⟨hd, hn⟩ := am_dn_spec hb
      obtain ⟨x, y, st2, rfl, rfl, rfl⟩ := am_li_spec h
      exact am_Step.flat (fun hF _ _ kk => am_s_lshl hF hd hpc hn kk)
    case lshr =>
      obtain ⟨hd, hn⟩ := am_dn_spec hb
      obtain ⟨x, y, st2, rfl, rfl, rfl⟩ := am_li_spec h
      exact am_Step.flat (fun hF _ _ kk => am_s_lshr hF hd hpc hn kk)
    case l2i =>
      obtain ⟨hd, hn⟩ := am_dn_spec hb
      obtain ⟨x, st2, rfl, rfl, rfl⟩ := am_l__spec h
      exact am_Step.flat (fun hF _ _ kk => am_s_l2i hF hd hpc hn kk)
    case dup =>
      obtain ⟨hd, hn⟩ := am_dn_spec hb
      obtain ⟨v, st2, rfl, hv, rfl, rfl⟩ := am_dup_spec h
      exact am_Step.flat (fun hF _ _ kk => am_s_dup hF hd hpc hn (by rw [am_cv_cat (am_sp_cat hsp)]; rcases hv with ⟨x, rfl⟩ | ⟨x, rfl⟩ <;> rfl) kk)
    case dup2 =>
      obtain ⟨hd, hn⟩ := am_dn_spec hb
      obtain ⟨y, v, st2, rfl, hv, rfl, rfl⟩ := am_dup2_spec h
      exact am_Step.flat (fun hF _ _ kk => am_s_dup2 hF hd hpc hn rfl (by rw [am_cv_cat (am_sp_cat hsp)]; rcases hv with ⟨x, rfl⟩ | ⟨x, rfl⟩ <;> rfl) kk)
    case pop =>
      obtain ⟨hd, hn⟩ := am_dn_spec hb
      obtain ⟨x, st2, rfl, rfl, rfl⟩ := am_pop_spec h
      exact am_Step.flat (fun hF _ _ kk => am_s_pop hF hd hpc hn rfl kk)
    case ifCond cnd off =>
      obtain ⟨hb, hb2⟩ := Bool.and_eq_true_iff.mp hb
      obtain ⟨hd, hn⟩ := am_dn_spec hb
      have ho := am_off_spec hb2
      cases cnd
      · obtain ⟨x, st2, rfl, rfl, rfl⟩ := am_c1_spec h
        exact am_Step.flat (fun hF _ _ kk => am_s_if_eq hF hd hpc hn rfl ho kk)
      · obtain ⟨x, st2, rfl, rfl, rfl⟩ := am_c1_spec h
        exact am_Step.flat (fun hF _ _ kk => am_s_if_ne hF hd hpc hn rfl ho kk)
      · obtain ⟨x, st2, rfl, rfl, rfl⟩ := am_c1_spec h
        exact am_Step.flat (fun hF _ _ kk => am_s_if_lt hF hd hpc hn rfl ho kk)
      · obtain ⟨x, st2, rfl, rfl, rfl⟩ := am_c1_spec h
        exact am_Step.flat (fun hF _ _ kk => am_s_if_ge hF hd hpc hn rfl ho kk)
      · obtain ⟨x, st2, rfl, rfl, rfl⟩ := am_c1_spec h
        exact am_Step.flat (fun hF _ _ kk => am_s_if_gt hF hd hpc hn rfl ho kk)
      · obtain ⟨x, st2, rfl, rfl, rfl⟩ := am_c1_spec h
        exact am_Step.flat (fun hF _ _ kk => am_s_if_le hF hd hpc hn rfl ho kk)
    case if_icmp cnd off =>
      obtain ⟨hb, hb2⟩ := Bool.and_eq_true_iff.mp hb
      obtain ⟨hd, hn⟩ := am_dn_spec hb
      have ho := am_off_spec hb2
      cases cnd
      · obtain ⟨x, y, st2, rfl, rfl, rfl⟩ := am_c2_spec h
        exact am_Step.flat (fun hF _ _ kk => am_s_icmp_eq hF hd hpc hn rfl ho kk)
      · obtain ⟨x, y, st2, rfl, rfl, rfl⟩ := am_c2_spec h
        exact am_Step.flat (fun hF _ _ kk => am_s_icmp_ne hF hd hpc hn rfl ho kk)
      · obtain ⟨x, y, st2, rfl, rfl, rfl⟩ := am_c2_spec h
        exact am_Step.flat (fun hF _ _ kk => am_s_icmp_lt hF hd hpc hn rfl ho kk)
      · obtain ⟨x, y, st2, rfl, rfl, rfl⟩ := am_c2_spec h
        exact am_Step.flat (fun hF _ _ kk => am_s_icmp_ge hF hd hpc hn rfl ho kk)
      · obtain ⟨x, y, st2, rfl, rfl, rfl⟩ := am_c2_spec h
        exact am_Step.flat (fun hF _ _ kk => am_s_icmp_gt hF hd hpc hn rfl ho kk)
      · obtain ⟨x, y, st2, rfl, rfl, rfl⟩ := am_c2_spec h
        exact am_Step.flat (fun hF _ _ kk => am_s_icmp_le hF hd hpc hn rfl ho kk)
    case goto off =>
      obtain ⟨hb, hb2⟩ := Bool.and_eq_true_iff.mp hb
      have ho := am_off_spec hb2
      cases h
      exact am_Step.flat (fun hF _ _ kk => am_s_goto hF (of_decide_eq_true hb) hpc rfl ho kk)
    case tableswitch d lo hi offs =>
      dsimp only [am_sws] at h
      split at h
      · next L dd hs =>
        obtain ⟨x, st2, rfl, rfl, rfl⟩ := am_c1_spec h
        dsimp only [am_okb] at hb
        rw [hs] at hb
        simp only [Bool.and_eq_true, decide_eq_true_eq] at hb
        obtain ⟨h1, ⟨h2, h3⟩, h4⟩ := hb
        obtain ⟨len, hd⟩ := am_dl_spec h1
        exact am_Step.flat (fun hF _ _ kk => am_s_tsw hF hd hpc (am_off_spec h2) h3 (fun i q hq => by have g := am_ckt_spec L offs.toList lo h4 i q hq; simpa using g) kk)
      · cases h
    case lookupswitch d ps =>
      dsimp only [am_sws] at h
      split at h
      · next L dd hs =>
        obtain ⟨x, st2, rfl, rfl, rfl⟩ := am_c1_spec h
        dsimp only [am_okb] at hb
        rw [hs] at hb
        simp only [Bool.and_eq_true] at hb
        obtain ⟨h1, ⟨h2, h3⟩, h4⟩ := hb
        obtain ⟨len, hd⟩ := am_dl_spec h1
        have g := am_ckl_spec L ps.toList h3
        exact am_Step.flat (fun hF _ _ kk => am_s_lsw hF hd h4 hpc (am_off_spec h2) g.1 g.2 kk)
      · cases h
    case getfield i =>
      obtain ⟨hb, hb2⟩ := Bool.and_eq_true_iff.mp hb
      obtain ⟨hd, hn⟩ := am_dn_spec hb
      obtain ⟨n, st2, rfl, ⟨rfl, h⟩ | ⟨hkd, h⟩⟩ := am_gf_spec h
      · obtain ⟨g1, g2⟩ := Bool.and_eq_true_iff.mp hb2
        obtain ⟨fs, v, hg, hv, rfl, rfl⟩ := am_getf0_spec h
        exact am_Step.flat (fun hF _ _ kk => am_s_getf hF (am_Lf_of g1 g2) (am_cl_all _) hd hpc hn hg hv kk)
      · have hb3 : am_flb lk k i 9 b = true := by
          cases kd with
          | zero => omega
          | succ x => exact hb2
        obtain ⟨g1, g2⟩ := am_flb_spec hb3
        have g2 : b < 2 := g2
        obtain ⟨rfl, rfl, ⟨rfl, rfl⟩ | ⟨hb1, rfl⟩⟩ := am_getfS_spec h
        · exact am_Step.flat (fun hF _ _ kk => am_s_getSv hF g1 hd hpc hn kk)
        · have hb1 : b = 1 := by omega
          subst hb1
          exact am_Step.flat (fun hF _ _ kk => am_s_getSc hF g1 hd hpc hn kk)
    case putfield i =>
      simp only [am_okb, Bool.and_eq_true] at hb
      obtain ⟨⟨⟨⟨⟨hb1, g1⟩, g2⟩, g3⟩, g4⟩, g5⟩ := hb
      obtain ⟨hd, hn⟩ := am_dn_spec hb1
      obtain ⟨v, n, st2, fs, rfl, hg, hpk, hlt, rfl⟩ := am_pf_spec h
      have q3 := Nat.eq_of_beq_eq_true g3
      have q4 := Nat.le_of_ble_eq_true g4
      refine am_Step.set hg (by simp [am_esl]) (fun hF hz _ kk => am_s_putf hF hz (am_Lf_of g1 g2) (fun q hq => ⟨am_cl_all _ q hq, ?_⟩) hd hpc hn hg hlt hpk hP kk)
      rw [← q3]
      refine am_fk_all a b q hq (by rw [(am_vw_cn a q hq).2.1]; exact (am_flb_spec g1).2) k (fun h3 => ?_) (by omega)
      simp only [Bool.or_eq_true, Bool.and_eq_true] at g5
      rcases g5 with g5 | g5
      · have := Nat.le_of_ble_eq_true g5; omega
      · exact ⟨g5.1, Nat.eq_of_beq_eq_true g5.2⟩
    case getstatic i =>
      obtain ⟨hb, hb2⟩ := Bool.and_eq_true_iff.mp hb
      obtain ⟨hd, hn⟩ := am_dn_spec hb
      obtain ⟨g, hg, hl⟩ := am_slb_spec hb2
      dsimp only [am_gst] at h
      rw [hg] at h
      cases h
      exact am_Step.flat (fun hF _ _ kk => am_s_gets hF (List.mem_of_getElem? hg) hl hd hpc hn kk)
    case iaload =>
      obtain ⟨hd, hn⟩ := am_dn_spec hb
      obtain ⟨i, n, st2, rfl, h⟩ := am_ia_spec h
      obtain ⟨ty, len, f, ha, hty, rfl, rfl⟩ := am_ald_spec h
      have q1 := Nat.eq_of_beq_eq_true hty
      subst q1
      exact am_Step.flat (fun hF _ _ kk => am_s_iald hF ha hP hd hpc hn kk)
    case baload =>
      obtain ⟨hd, hn⟩ := am_dn_spec hb
      obtain ⟨i, n, st2, rfl, h⟩ := am_ba_spec h
      obtain ⟨ty, len, f, ha, hty, rfl, rfl⟩ := am_ald_spec h
      have q1 : ty = 1 ∨ ty = 2 := (Bool.or_eq_true_iff.mp hty).elim (fun q => Or.inl (Nat.eq_of_beq_eq_true q)) (fun q => Or.inr (Nat.eq_of_beq_eq_true q))
      exact am_Step.flat (fun hF _ _ kk => am_s_bald hF ha q1 hP hd hpc hn kk)
    case iastore =>
      obtain ⟨hd, hn⟩ := am_dn_spec hb
      obtain ⟨x, i, n, st2, len, f, rfl, ha, rfl, rfl⟩ := am_is_spec h
      exact am_Step.set ha rfl (fun hF hz _ kk => am_s_iast hF hz ha hP hd hpc hn kk)
    case bastore =>
      obtain ⟨hd, hn⟩ := am_dn_spec hb
      obtain ⟨x, i, n, st2, len, f, rfl, rfl, ⟨ha, rfl⟩ | ⟨ha, rfl⟩⟩ := am_bs_spec h
      · exact am_Step.set ha rfl (fun hF hz _ kk => am_s_bast hF hz ha hP hd hpc hn kk)
      · exact am_Step.set ha rfl (fun hF hz _ kk => am_s_zast hF hz ha hP hd hpc hn kk)
    case arraylength =>
      obtain ⟨hd, hn⟩ := am_dn_spec hb
      obtain ⟨n, st2, ty, len, f, rfl, ha, hty, rfl, rfl⟩ := am_aln_spec h
      exact am_Step.flat (fun hF _ _ kk => am_s_alen hF ha hty hd hpc hn kk)
    case new i =>
      simp only [am_okb, Bool.and_eq_true] at hb
      obtain ⟨⟨hb1, g1⟩, g2⟩ := hb
      obtain ⟨hd, hn⟩ := am_dn_spec hb1
      dsimp only [am_new] at h
      split at h
      · next fs hfs =>
        split at h
        · next hc =>
          obtain ⟨c1, c2⟩ := Bool.and_eq_true_iff.mp hc
          have q1 := Nat.eq_of_beq_eq_true c1
          have q2 : 32 * M.length < 1000 := Nat.le_of_ble_eq_true c2
          cases h
          obtain ⟨q, hq⟩ := am_vw_some (Nat.le_of_ble_eq_true g2 : a < 8)
          obtain ⟨ty, hty⟩ := am_cl_all a q hq
          have g := am_nlb_spec g1
          have gc := am_vw_cn a q hq
          rw [← gc.1, ← gc.2.1] at g
          refine ⟨⟨by dsimp only; rw [am_tot_app]; omega, by dsimp only; rw [am_sl_app]; omega⟩, fun hF _ hl kk => am_s_new hF hq hty hfs g hl q1 q2 hd hpc hn kk⟩
        · cases h
      · cases h
    case newarray t =>
      obtain ⟨hd, hn⟩ := am_dn_spec hb
      obtain ⟨n, st2, ty, rfl, hty, h⟩ := am_na_spec h
      dsimp only [am_newa] at h
      split at h
      · next c1 c2 c3 c4 =>
        obtain ⟨c5, c6⟩ := Bool.and_eq_true_iff.mp c3
        have q1 := Nat.eq_of_beq_eq_true c1
        have q2 : 0 < M.length := Nat.le_of_ble_eq_true c2
        have q3 : (am_last M).2 < 32 := Nat.le_of_ble_eq_true c5
        have q4 : 32 * (am_last M).1 + (am_last M).2 < 1000 := Nat.le_of_ble_eq_true c6
        have q5 := Nat.le_of_ble_eq_true c4
        cases h
        have ga : Cond.arrayClass (newarray.typeOf t) ∈ xw_tw := by
          cases t <;> first | (cases hty; done) | exact am_ac_int | exact am_ac_byte | exact am_ac_boolean
        refine ⟨⟨by dsimp only; rw [am_tot_push _ M q2]; omega, by dsimp only; rw [am_sl_push _ M q2]; omega⟩, fun hF _ hl kk => am_s_newa hF hty ga hl q1 q2 q3 q4 q5 hP hd hpc hn kk⟩
      · cases h
    case invokespecial i =>
      simp only [am_okb, Bool.and_eq_true] at hb
      obtain ⟨hb1, hb2⟩ := hb
      obtain ⟨hd, hn⟩ := am_dn_spec hb1
      obtain ⟨n, st2, rfl, rfl, c1, c2, rfl, rfl⟩ := am_oi_spec h
      simp only [Bool.and_eq_true] at hb2
      obtain ⟨⟨g1, g2⟩, g3⟩ := hb2
      rcases am_mlb_spec g1 with g | ⟨g, -⟩
      · exact am_Step.flat (fun hF _ _ kk => am_s_objI hF hsp ⟨g, am_wobj.1, am_wobj.2⟩ ⟨Nat.le_of_ble_eq_true g2, Nat.le_of_ble_eq_true g3⟩ c1 c2 hd hpc hn kk)
      · cases g
    case invokestatic i =>
      simp only [am_okb, Bool.and_eq_true] at hb
      obtain ⟨hb1, hb2⟩ := hb
      obtain ⟨hd, hn⟩ := am_dn_spec hb1
      obtain ⟨rfl, x, y, st2, rfl, c1, rfl, rfl⟩ | ⟨rfl, x, y, st2, rfl, c1, rfl, rfl⟩ | ⟨rfl, x, st2, rfl, c1, rfl, rfl⟩ | ⟨rfl, n, dp, sps, a1, a0, st2, n0, n1, f, gg, rfl, h0, h1, h3, rfl, rfl⟩ := am_math_spec h
      · simp only [Nat.ble, Bool.and_eq_true] at hb2
        obtain ⟨⟨g1, g2⟩, g3⟩ := hb2
        rcases am_mlb_spec g1 with g | ⟨g, -⟩
        · exact am_Step.flat (fun hF _ hl kk => am_s_max hF hsp ⟨⟨g, am_wmax.1, am_wmax.2.1⟩, am_wmax.2.2⟩ ⟨Nat.le_of_ble_eq_true g2, Nat.le_of_ble_eq_true g3⟩ hl c1 hd hpc hn kk)
        · cases g
      · simp only [Nat.ble, Bool.and_eq_true] at hb2
        obtain ⟨⟨g1, g2⟩, g3⟩ := hb2
        rcases am_mlb_spec g1 with g | ⟨g, -⟩
        · exact am_Step.flat (fun hF _ hl kk => am_s_min hF hsp ⟨⟨g, am_wmin.1, am_wmin.2.1⟩, am_wmin.2.2⟩ ⟨Nat.le_of_ble_eq_true g2, Nat.le_of_ble_eq_true g3⟩ hl c1 hd hpc hn kk)
        · cases g
      · simp only [Nat.ble, Bool.and_eq_true] at hb2
        obtain ⟨⟨g1, g2⟩, g3⟩ := hb2
        rcases am_mlb_spec g1 with g | ⟨g, -⟩
        · exact am_Step.flat (fun hF _ hl kk => am_s_abs hF hsp ⟨⟨g, am_wabs.1, am_wabs.2.1⟩, am_wabs.2.2⟩ ⟨Nat.le_of_ble_eq_true g2, Nat.le_of_ble_eq_true g3⟩ hl c1 hd hpc hn kk)
        · cases g
      · simp only [Nat.ble, Bool.and_eq_true] at hb2
        obtain ⟨⟨g1, g2⟩, g3⟩ := hb2
        rcases am_mlb_spec g1 with g | ⟨g, -⟩
        · exact am_Step.set h1 rfl (fun hF hz _ kk => am_s_copy hF hsp hz ⟨⟨g, am_wcopy.1, am_wcopy.2.1⟩, am_wcopy.2.2⟩ ⟨Nat.le_of_ble_eq_true g2, Nat.le_of_ble_eq_true g3⟩ h3 h0 h1 hP hd hpc hn kk)
        · cases g
end
end
section
/-! ===== soundness: calls, returns, whole runs ===== -/
theorem am_mt_cls : ∀ z, z < am_mts.length → (am_mt z).cls = am_cn (am_ow z) := by decide +kernel
theorem am_pc0 : ∀ z, z < am_mts.length → am_pc z 0 = 0 := by decide +kernel
theorem am_mt_plain : ∀ z, z < am_mts.length → plainName (am_mt z).cls = true := by decide +kernel
theorem am_zok_static {z : Nat} (h : am_zok z) (h0 : (am_pl z).1 = 0) : Cond.static (am_mt z) ∈ xw_tw := by
  have h1 := h.2.2.2.2
  rw [h0] at h1
  exact xw_in _ h1 rfl
theorem am_zok_inst {z : Nat} (h : am_zok z) (h0 : (am_pl z).1 = 1) : Cond.instanceMethod (am_mt z) ∈ xw_tw ∧ Cond.selects (am_mt z).cls (am_mt z) (am_mt z) ∈ xw_tw := by
  have h1 := h.2.2.2.2
  rw [h0] at h1
  exact ⟨xw_in _ h1.1 rfl, xw_in _ h1.2 rfl⟩
theorem am_zok_init {z : Nat} (h : am_zok z) (h0 : (am_pl z).1 = 2) : Cond.instanceMethod (am_mt z) ∈ xw_tw ∧ (am_mt z).name = "<init>" ∧ am_rt z = none := by
  have h1 := h.2.2.2.2
  rw [h0] at h1
  exact ⟨xw_in _ h1.1 rfl, h1.2⟩
section
variable {sc : am_Sc} {sp : Nat → Value} {z0 : Nat} {cy : Nat → ClassId} {D : va_G} {l : Launch}
def am_CallOk (sc : am_Sc) (sp : Nat → Value) (z0 : Nat) (cy : Nat → ClassId) (D : va_G) (l : Launch) (k : Nat) (C : am_C) (z : Nat) (args : List Value) (C' : am_C) : Prop := C'.2.2.2 = C.2.2.2 ∧ z < am_mts.length ∧ (am_pl z).1 ≠ 9 ∧ (am_exp args).length ≤ am_ml z ∧
  ∀ {r : Option Value} {M2 : am_M}, (am_tot C.2.2.2 ≤ am_tot M2 ∧ am_sl C.2.2.2 ≤ am_sl M2) → am_Met l sc sp z0 cy D z args C.2.2.2 r M2 → ∀ {n0 m0 : Nat} {p : Program} {e : Env} {R : Room} {s : State} {m : MethodId} {args : Array Value} {below : List Frame} {meth : Method} {c : Code} {Q : State → Prop}, am_F sc sp z0 cy D k p R s m args meth c → s.heap.size = z0 + n0 → (am_tot M2 ≤ n0 + R.cells ∧ am_sl M2 ≤ m0 + R.slots) → am_W sp z0 cy D n0 m0 k p l e R s m args below meth c Q (C'.1, C'.2.1, r.toList ++ C'.2.2.1, M2) → am_W sp z0 cy D n0 m0 k p l e R s m args below meth c Q C
theorem am_call_spec {j : Nat} {ls : am_L} {st : List Value} {M : am_M} {z n : Nat} {z' : Nat} {args : List Value} {C' : am_C} (h : am_call (j, ls, st, M) z n st = some (z', args, C')) : z' = z ∧ args = (st.take n).reverse ∧ C' = (j + 1, ls, st.drop n, M) ∧ n ≤ st.length ∧ am_cats (st.drop n) ≤ 8 ∧ (am_exp (st.take n).reverse).length ≤ am_ml z := by
  unfold am_call at h
  dsimp only at h
  split at h
  · next c1 c2 c3 =>
    cases h
    exact ⟨rfl, rfl, rfl, Nat.le_of_ble_eq_true c1, Nat.le_of_ble_eq_true c2, Nat.le_of_ble_eq_true c3⟩
  · cases h
theorem am_initcall (hsp : ∀ n, sp n = .null ∨ ∃ t, sp n = .ref t) {k j pc i a b lk : Nat} {ls : am_L} {st : List Value} {M : am_M} {z : Nat} {args : List Value} {C' : am_C} (hr : am_rcI (b - 1) st = true) (h : am_call (j, ls, st, M) a b st = some (z, args, C')) (hd : decode (am_cd k) pc = .ok (.invokespecial i, 3)) (hpc : am_pc k j = pc) (hn : am_pc k (j + 1) = pc + 3) (g1 : am_mlb lk k i a true = true) (g2 : Nat.blt a 1000 = true) (g3 : am_cal k a b 2 1 = true) : am_CallOk sc sp z0 cy D l k (j, ls, st, M) z args C' := by
  obtain ⟨rfl, rfl, rfl, h1, h2, h3⟩ := am_call_spec h
  obtain ⟨c1, c2, c3, c4, c5⟩ := am_cal_spec g3 (by decide)
  obtain ⟨w1, w2, w3⟩ := am_zok_init c5 c2
  have hL := am_Lz_of c5
  have hb1 : b - 1 = (am_pl z).2.2.2.2.2 := by omega
  rw [hb1] at hr
  unfold am_rcI at hr
  split at hr
  · next o ho =>
    have ho1 : o < 1000 := Nat.le_of_ble_eq_true hr
    refine ⟨rfl, c1, by rw [c2]; decide, h3, fun hle hM => ?_⟩
    intro n0 m0 p e R s m args below meth c Q hF hz hl kk
    dsimp only at kk hle hM ⊢
    subst c3
    refine am_s_callI hF hsp hL ⟨?_, w1, w2, w3, c5.2.2.2.1⟩ c4 hle hl ho ho1 h2 hM hd hpc hn kk
    rcases am_mlb_spec g1 with g | ⟨-, ho, g⟩
    · rw [am_tg_lt g2] at g; exact Or.inl g
    · rw [am_tg_lt g2] at g; exact Or.inr ⟨ho, g⟩
  · cases hr
theorem am_onecall (hsp : ∀ n, sp n = .null ∨ ∃ t, sp n = .ref t) {k j : Nat} {ls : am_L} {st : List Value} {M : am_M} {z : Nat} {args : List Value} {C' : am_C} (h : am_inv (am_tab k) (j, ls, st, M) = some (z, args, C')) : am_CallOk sc sp z0 cy D l k (j, ls, st, M) z args C' := by
  unfold am_inv at h
  dsimp only at h
  split at h
  · cases h
  · next pc ins a b c kd lk zz he =>
    have hb := am_ok he
    have hpc : am_pc k j = pc := by unfold am_pc; rw [he]
    split at h
    · next i =>
      split at h
      · next hr =>
        simp only [am_okb, Bool.and_eq_true, Bool.or_eq_true] at hb
        obtain ⟨hb1, ⟨⟨g1, g2⟩, g3⟩, g4⟩ := hb
        obtain ⟨hd, hn⟩ := am_dn_spec hb1
        obtain ⟨rfl, rfl, rfl, h1, h2, h3⟩ := am_call_spec h
        obtain ⟨c1, c2, c3, c4, c5⟩ := am_cal_spec g3 (by decide)
        obtain ⟨w1, w2⟩ := am_zok_inst c5 c2
        have hL := am_Lz_of c5
        have hb1 : b - 1 = (am_pl z).2.2.2.2.2 := by omega
        rw [hb1] at hr
        refine ⟨rfl, c1, by rw [c2]; decide, h3, fun hle hM => ?_⟩
        intro n0 m0 p e R s m args below meth c' Q hF hz hl kk
        dsimp only at kk hle hM ⊢
        subst c3
        refine am_s_callV hF hsp hL ⟨?_, w1, w2, c5.2.2.2.1⟩ ?_ c4 hle hl hr h2 hM hd hpc hn kk
        · rcases am_mlb_spec g1 with g | ⟨g, -⟩
          · rw [am_tg_lt g2] at g; exact g
          · cases g
        · rcases g4 with ⟨g5, g6⟩ | ⟨g5, g6⟩
          · refine Or.inl ⟨Nat.eq_of_beq_eq_true g5, ?_⟩
            rw [am_mt_cls z c1, Nat.eq_of_beq_eq_true g6]
            rfl
          · have q5 := Nat.eq_of_beq_eq_true g5
            obtain ⟨q, hq⟩ := am_vw_some (Nat.le_of_ble_eq_true g6 : c < 8)
            have gq := am_vw_cn c q hq
            exact Or.inr ⟨q, hq, by rw [gq.1, am_mt_cls z c1, q5], gq.2.2⟩
      · cases h
    · next i =>
      split at h
      · next hr =>
        simp only [am_okb, Bool.and_eq_true] at hb
        obtain ⟨hb1, ⟨g1, g2⟩, g3⟩ := hb
        obtain ⟨hd, hn⟩ := am_dn_spec hb1
        exact am_initcall hsp hr h hd hpc hn g1 g2 g3
      · next hr =>
        simp only [am_okb, Bool.and_eq_true] at hb
        obtain ⟨hb1, ⟨g1, g2⟩, g3⟩ := hb
        obtain ⟨hd, hn⟩ := am_dn_spec hb1
        exact am_initcall hsp hr h hd hpc hn g1 g2 g3
      · cases h
    · next i =>
      split at h
      · simp only [am_okb, Bool.and_eq_true] at hb
        obtain ⟨hb1, ⟨g1, g2⟩, g3⟩ := hb
        obtain ⟨hd, hn⟩ := am_dn_spec hb1
        obtain ⟨rfl, rfl, rfl, h1, h2, h3⟩ := am_call_spec h
        obtain ⟨c1, c2, c3, c4, c5⟩ := am_cal_spec g3 (by decide)
        have hL := am_Lz_of c5
        refine ⟨rfl, c1, by rw [c2]; decide, h3, fun hle hM => ?_⟩
        intro n0 m0 p e R s m args below meth c' Q hF hz hl kk
        dsimp only at kk hle hM ⊢
        rw [Nat.add_zero] at c3
        refine am_s_callS hF hsp hL ⟨?_, am_zok_static c5 c2, by rw [← c3]; exact c5.2.2.2.1⟩ c4 hle hl h1 h2 hM hd hpc hn kk
        rcases am_mlb_spec g1 with g | ⟨g, -⟩
        · rw [am_tg_lt g2] at g; exact g
        · cases g
      · cases h
    · cases h
/-- a method's return gives its contract's end -/
theorem am_oneret (hsp : ∀ n, sp n = .null ∨ ∃ t, sp n = .ref t) {k j : Nat} {ls : am_L} {st : List Value} {M : am_M} {P : Prop} {r : Option Value} (h : am_rtn (am_tab k) (j, ls, st, M) = some (P, r)) (hP : P) {n0 m0 : Nat} {p : Program} {e : Env} {R : Room} {s : State} {m : MethodId} {args : Array Value} {below : List Frame} {meth : Method} {c : Code} (hF : am_F sc sp z0 cy D k p R s m args meth c) (hrt : meth.sig.returnType = am_rt k) (hlocks : meth.locks = false) :
    am_W sp z0 cy D n0 m0 k p l e R s m args below meth c (MQ below (am_Qc sp z0 cy D r M) args s (am_tot M - n0) (am_sl M - m0) (am_A z0)) (j, ls, st, M) := by
  intro H locs lsv cells slots hW hc hs hl
  dsimp only at hW hc hs hl ⊢
  have hcc : am_tot M - n0 = cells := by omega
  have hss : am_sl M - m0 = slots := by omega
  rw [hcc, hss]
  have fin : ∀ v : Option Value, v = r.map (am_cv z0 sp) → ∀ t : State, t.heap = H → s.WarmedH t.vm → am_Qc sp z0 cy D r M args s (.returned v) t := fun v hv t ht _ => by
    subst hv
    exact ⟨rfl, by rw [ht]; exact hW.1, by rw [ht]; exact hW.2.1, hW.2.2.1, hW.2.2.2.F ht⟩
  unfold am_rtn at h
  dsimp only at h
  split at h
  · cases h
  · next pc ins a b c' kd lk zz he =>
    have hb := am_ok he
    have hpc : am_pc k j = pc := by unfold am_pc; rw [he]
    rw [hpc]
    split at h
    · split at h
      · next x =>
        cases h
        dsimp only [am_okb] at hb
        obtain ⟨h1, h2⟩ := Bool.and_eq_true_iff.mp hb
        have hd := of_decide_eq_true h1
        match a, hP, h2 with
        | 0, _, h2 => exact W.iret hF.1 hF.2.1 (hrt.trans (of_decide_eq_true h2)) (fin _ rfl) hW.2.2.2.2.2 hd hlocks
        | 1, hP, h2 => exact W.zret hF.1 hF.2.1 (hrt.trans (of_decide_eq_true h2)) (by rcases hP with q | q <;> rw [q] <;> rfl) (fin _ rfl) hW.2.2.2.2.2 hd hlocks
        | 2, hP, h2 => exact W.zret hF.1 hF.2.1 (hrt.trans (of_decide_eq_true h2)) hP (fin _ rfl) hW.2.2.2.2.2 hd hlocks
        | x + 3, hP, h2 => exact W.zret hF.1 hF.2.1 (hrt.trans (of_decide_eq_true h2)) hP (fin _ rfl) hW.2.2.2.2.2 hd hlocks
      · cases h
    · split at h
      · next x =>
        cases h
        dsimp only [am_okb] at hb
        obtain ⟨h1, h2⟩ := Bool.and_eq_true_iff.mp hb
        have hd := of_decide_eq_true h1
        exact W.lret hF.1 hF.2.1 (hrt.trans (of_decide_eq_true h2)) (fin _ rfl) hW.2.2.2.2.2 hd hlocks
      · cases h
    · split at h
      · next x =>
        cases h
        dsimp only [am_okb] at hb
        obtain ⟨h1, h2⟩ := Bool.and_eq_true_iff.mp hb
        have hd := of_decide_eq_true h1
        split at h2
        · next C hC => exact W.aret hF.1 hF.2.1 (hrt.trans hC) (Or.inl ⟨_, rfl⟩) (am_cv_ref hsp x) (fin _ rfl) hW.2.2.2.2.2 hd hlocks
        · cases h2
      · cases h
    · split at h
      · cases h
        dsimp only [am_okb] at hb
        obtain ⟨h1, h2⟩ := Bool.and_eq_true_iff.mp hb
        have hd := of_decide_eq_true h1
        exact W.vret hF.1 hF.2.1 (hrt.trans (of_decide_eq_true h2)) (fin _ rfl) hW.2.2.2.2.2 hd hlocks
      · cases h
    · cases h
theorem am_exp_cat (v : Value) (vs : List Value) : am_exp (v :: vs) = if v.category = 2 then some v :: none :: am_exp vs else some v :: am_exp vs := by
  cases v <;> simp [am_exp, Value.category]
theorem am_exp_len (hsp : ∀ n, (sp n).category = 1) (vs : List Value) : (lg_sl (vs.map (am_cv z0 sp))).length = (am_exp vs).length := by
  induction vs with
  | nil => rfl
  | cons v vs ih =>
    rw [am_exp_cat, List.map_cons]
    have hc := am_cv_cat (z0 := z0) hsp v
    by_cases h : v.category = 2
    · rw [if_pos h]
      rw [h] at hc
      simp only [lg_sl, List.flatMap_cons, hc, List.length_append] at ih ⊢
      simp [ih]
      omega
    · rw [if_neg h]
      have hc2 : ¬ (am_cv z0 sp v).category = 2 := by rw [hc]; exact h
      simp only [lg_sl, List.flatMap_cons, if_neg hc2, List.length_append] at ih ⊢
      simp [ih]
      omega
theorem am_args_in (hsp : ∀ n, (sp n).category = 1) : ∀ (vs : List Value) (i n : Nat) (v : Value), (am_exp vs)[n]? = some (some v) → (i + n, am_cv z0 sp v) ∈ lv_args i (vs.map (am_cv z0 sp)) := by
  intro vs
  induction vs with
  | nil => intro i n v h; simp [am_exp] at h
  | cons u vs ih =>
    intro i n v h
    rw [am_exp_cat] at h
    have hc := am_cv_cat (z0 := z0) hsp u
    simp only [List.map_cons, lv_args, List.mem_cons]
    cases n with
    | zero =>
      left
      by_cases h2 : u.category = 2
      · rw [if_pos h2] at h; simp at h; subst h; rfl
      · rw [if_neg h2] at h; simp at h; subst h; rfl
    | succ n =>
      right
      by_cases h2 : u.category = 2
      · rw [if_pos h2] at h
        rw [if_pos (hc.trans h2)]
        cases n with
        | zero => simp at h
        | succ n =>
          have := ih (i + 2) n v (by simpa using h)
          rwa [show i + (n + 1 + 1) = i + 2 + n by omega]
      · rw [if_neg h2] at h
        rw [if_neg (fun q => h2 (hc.symm.trans q))]
        have := ih (i + 1) n v (by simpa using h)
        rwa [show i + (n + 1) = i + 1 + n by omega]
theorem am_snd (hsp : ∀ n, sp n = .null ∨ ∃ t, sp n = .ref t) : ∀ (n k : Nat) (C : am_C) (r : Option Value) (M2 : am_M), am_run sc n k C r M2 → (am_tot C.2.2.2 ≤ am_tot M2 ∧ am_sl C.2.2.2 ≤ am_sl M2) ∧
    ∀ {n0 m0 : Nat} {p : Program} {e : Env} {R : Room} {s : State} {m : MethodId} {args : Array Value} {below : List Frame} {meth : Method} {c : Code} {Q : State → Prop}, am_F sc sp z0 cy D k p R s m args meth c → s.heap.size = z0 + n0 → (am_tot M2 ≤ n0 + R.cells ∧ am_sl M2 ≤ m0 + R.slots) →
      (∀ (j : Nat) (ls : am_L) (st : List Value) (P : Prop), am_rtn (am_tab k) (j, ls, st, M2) = some (P, r) → P → am_W sp z0 cy D n0 m0 k p l e R s m args below meth c Q (j, ls, st, M2)) → am_W sp z0 cy D n0 m0 k p l e R s m args below meth c Q C := by
  intro n
  induction n with
  | zero => intro k C r M2 h; exact h.elim
  | succ n ih =>
    intro k C r M2 h
    obtain ⟨j, ls, st, M⟩ := C
    unfold am_run at h
    rcases h with ⟨P, C', h1, hP, h2⟩ | ⟨z, vs, j2, ls2, st2, M1, r1, M3, h1, h2, h3⟩ | ⟨P, h1, hP, h2⟩
    · obtain ⟨g1, g2⟩ := am_one (sp := sp) (z0 := z0) (cy := cy) (D := D) (l := l) hsp h1 hP
      obtain ⟨g3, g4⟩ := ih k C' r M2 h2
      refine ⟨⟨Nat.le_trans g1.1 g3.1, Nat.le_trans g1.2 g3.2⟩, ?_⟩
      intro n0 m0 p e R s m args below meth c Q hF hz hl hret
      exact g2 hF hz ⟨Nat.le_trans g3.1 hl.1, Nat.le_trans g3.2 hl.2⟩ (g4 hF hz hl hret)
    · obtain ⟨g1, g2, g3, g4, g5⟩ := am_onecall (sc := sc) (sp := sp) (z0 := z0) (cy := cy) (D := D) (l := l) hsp h1
      dsimp only at g1 g5
      subst g1
      obtain ⟨q1, q2⟩ := ih z _ r1 M3 h2
      obtain ⟨q3, q4⟩ := ih k _ r M2 h3
      dsimp only at q1 q3
      refine ⟨⟨Nat.le_trans q1.1 q3.1, Nat.le_trans q1.2 q3.2⟩, ?_⟩
      intro n0 m0 p e R s m args below meth c Q hF hz hl hret
      refine g5 q1 ?_ hF hz ⟨Nat.le_trans q3.1 hl.1, Nat.le_trans q3.2 hl.2⟩ (q4 hF hz hl hret)
      -- the callee's contract
      unfold am_Met
      refine Met.ofW (cc := am_cd z) (maxL := am_ml z) (ret := am_rt z) (am_mt_plain z g2) rfl ?_
      intro p e s m args below meth c s₁ B hml hv
      obtain ⟨rfl, hsz, hWP, hK, hD, hX⟩ := hv
      have hts : ∀ w ∈ xw_tw, w.before _ s = true := fun w hw => atoms_spec (ws := am_wsOf z) B.pre w (List.mem_cons_of_mem _ hw)
      have hcn : s.vm.findClass (am_cn (am_ow z)) = some m.cls := by rw [← am_mt_cls z g2]; exact findClass_of_methodNamed B.named
      have hF2 : am_F sc sp z0 cy D z p (headSpec (am_wsOf z) (am_rm z M1 M3)).room s m (vs.map (am_cv z0 sp)).toArray meth c := ⟨B.exec, B.bytes, hml, hcn, hts, hK, hX, fun hi => by
        rw [(name_of_methodNamed B.named B.method).1]
        exact eq_of_beq hi, Nat.le_refl _, Nat.le_refl _, by omega⟩
      have hle : (am_exp vs).length ≤ am_ml z := g4
      rw [lg_entry_eq]
      have hlv := lv_entry (vs.map (am_cv z0 sp)) (n := am_ml z) (by rw [am_exp_len (am_sp_cat hsp)]; exact hle)
      have hq := q2 (n0 := am_tot M1) (m0 := am_sl M1) (e := e) (below := below) (Q := MQ below (am_Qc sp z0 cy D r1 M3) (vs.map (am_cv z0 sp)).toArray s (am_tot M3 - am_tot M1) (am_sl M3 - am_sl M1) (am_A z0)) hF2 hsz ⟨by show _ ≤ _ + (am_tot M3 - am_tot M1); omega, by show _ ≤ _ + (am_sl M3 - am_sl M1); omega⟩ (fun j ls st P hr hP => am_oneret hsp hr hP hF2 B.returns B.notSynchronized) s.heap [] _ 0 0 ⟨hsz, hWP, hD, Nat.le_refl _, fun _ _ _ => rfl, fun _ h => by cases h⟩ (by dsimp only; omega) (by dsimp only; omega) ⟨by simp only [am_entry, List.length_append, List.length_replicate]; omega, hlv.1, hlv.2.1, fun i v hi => by
        have hi' : (am_exp vs)[i]? = some (some v) := by
          dsimp only at hi
          unfold am_entry at hi
          by_cases hlt : i < (am_exp vs).length
          · rwa [List.getElem?_append_left hlt] at hi
          · rw [List.getElem?_append_right (by omega), List.getElem?_replicate] at hi
            split at hi <;> cases hi
        have := am_args_in (z0 := z0) (am_sp_cat hsp) vs 0 i v hi'
        rw [Nat.zero_add] at this
        exact hlv.2.2 _ this⟩
      dsimp only at hq
      rw [am_pc0 z g2] at hq
      exact hq
    · dsimp only at h2
      subst h2
      refine ⟨⟨Nat.le_refl _, Nat.le_refl _⟩, ?_⟩
      intro n0 m0 p e R s m args below meth c Q hF hz hl hret
      exact hret j ls st P h1 hP
end
end
section
/-! THE CLAIM OUT OF ONE WALK OF THE LAW'S BODY. Your part is whole_start (and what it stands on); all else here is the same for every law, but numbers. -/
def R_law : String := "PaperPaysLaw"
def lw_P (b : Addr) (xs : List Int32) (args : Array Value) (s : State) : Prop := args = #[.ref b] ∧ s.IntsAt b xs ∧ xs.length ≤ 2048 ∧ (Jvm.Cond.and given_1 narrow_1).before args s = true
def lw_Q (_ : Array Value) (s : State) (o : Outcome) (t : State) : Prop := o = .returned (some (.int 1)) ∧ Framed s o t [] 88 1984
def lw_Z (below : List Frame) (a : Array Value) (s : State) : State → Prop := fun t => ∃ o, t.status = .running ∧ Ended t below o ∧ lw_Q a s o t
/-- the law's own end, with 1 on the stack, nothing written that was there before, its room as the claim has it -/
theorem lw_ret {p : Program} {l : Launch} {e : Env} {s : State} {m : MethodId} {below : List Frame} {meth : Method} {c : Code} {b : Nat} (hx : p.tables.exec = Jvm.exec) (hb : c.code = code) (hr : meth.sig.returnType = ret) (hlocks : meth.locks = false) {pc : Nat} {H : Heap} {ls : Array Slot} (hdg : decode code pc = .ok (.ireturn, 1)) : W p l e room_1 s m #[Value.ref b] below meth c H [] 88 1984 (lw_Z below #[Value.ref b] s) (F0 m pc ls [.int 1]) := by
  intro T hT X
  obtain ⟨fs, hret, hrun, hended, hW, hframe⟩ := X.leave (v := some (.int 1)) (hlocks := hlocks) (fun h => by rw [hr] at h; cases h)
  have hmeth' : T.vm.method? m = some meth := X.method'
  refine ⟨T.setFrames fs, ?_, .returned (some (.int 1)), hrun, hended, rfl, ⟨_, rfl⟩, hW, hframe⟩
  jvm_step X.here [X.here.top, hx, hb, hdg, hmeth', hr, ret, narrow_b1]
  (try refine ⟨rfl, ?_⟩); (try refine ⟨rfl, ?_⟩)
  first | (intro acts; rw [hret _ acts rfl rfl rfl]) | rw [hret _ _ rfl rfl rfl]
  exact Steps.refl _
/-- what holds at the law's entry: the machine, the code, the tables' words (any of lw_tbl by 'hts w (by decide +kernel)'), the script of L ints xs at the cell b, what the Statement gives of the start (any of its parts by flat_of_before) -/
def lw_At (p : Program) (s : State) (m : MethodId) (meth : Method) (c : Code) (b L : Nat) (xs : Nat → Int32) : Prop :=
  p.tables.exec = Jvm.exec ∧ c.code = code ∧ meth.sig.returnType = ret ∧ c.maxLocals = 4 ∧ s.vm.findClass R_law = some m.cls ∧ (∀ w ∈ lw_tbl, w.before #[Value.ref b] s = true) ∧ va_X b L xs s s.heap ∧ b < s.heap.size ∧ meth.locks = false ∧ (Jvm.Cond.and given_1 narrow_1).before #[Value.ref b] s = true
end
section
/-! ===== the law's start: what the Statement gives is what the abstract machine asks ===== -/
theorem am_insts : ∀ a, a < 8 → Cond.instantiable (am_cn a) (am_nf a) ∈ xw_tw := by
  intro a h
  match a, h with
  | 0, _ => exact xw_in 303 (by decide +kernel) rfl
  | 1, _ => exact xw_in 261 (by decide +kernel) rfl
  | 2, _ => exact xw_in 143 (by decide +kernel) rfl
  | 3, _ => exact xw_in 278 (by decide +kernel) rfl
  | 4, _ => exact xw_in 187 (by decide +kernel) rfl
  | 5, _ => exact xw_in 81 (by decide +kernel) rfl
  | 6, _ => exact xw_in 73 (by decide +kernel) rfl
  | 7, _ => exact xw_in 774 (by decide +kernel) rfl
  | n + 8, h => omega
theorem am_in_tbl {w : Cond} (i : Nat) (h : lw_tbl[i]? = some w) : w ∈ lw_tbl := List.mem_of_getElem? h
theorem am_nw_tbl : ∀ w ∈ am_nw, w ∈ lw_tbl := by
  intro w hw
  simp only [am_nw, List.mem_cons, List.not_mem_nil, or_false] at hw
  rcases hw with rfl | rfl | rfl | rfl | rfl | rfl
  · exact am_in_tbl 90 (by decide +kernel)
  · exact am_in_tbl 466 (by decide +kernel)
  · exact am_in_tbl 468 (by decide +kernel)
  · exact am_in_tbl 144 (by decide +kernel)
  · exact am_in_tbl 279 (by decide +kernel)
  · exact am_in_tbl 304 (by decide +kernel)
set_option maxRecDepth 100000 in
theorem am_lays : ∀ q ∈ am_gs, Cond.laysStatic q.1 q.2.1 q.2.2.1 ∈ lw_tbl ∧ Cond.initialized q.1 ∈ lw_tbl := by
  intro q hq
  simp only [am_gs, List.mem_cons, List.not_mem_nil, or_false] at hq
  rcases hq with rfl | rfl | rfl | rfl | rfl | rfl | rfl | rfl
  · exact ⟨am_in_tbl 91 (by decide +kernel), am_in_tbl 58 (by decide +kernel)⟩
  · exact ⟨am_in_tbl 467 (by decide +kernel), am_in_tbl 58 (by decide +kernel)⟩
  · exact ⟨am_in_tbl 469 (by decide +kernel), am_in_tbl 58 (by decide +kernel)⟩
  · exact ⟨am_in_tbl 637 (by decide +kernel), am_in_tbl 58 (by decide +kernel)⟩
  · exact ⟨am_in_tbl 748 (by decide +kernel), am_in_tbl 58 (by decide +kernel)⟩
  · exact ⟨am_in_tbl 746 (by decide +kernel), am_in_tbl 58 (by decide +kernel)⟩
  · exact ⟨am_in_tbl 415 (by decide +kernel), am_in_tbl 68 (by decide +kernel)⟩
  · exact ⟨am_in_tbl 431 (by decide +kernel), am_in_tbl 70 (by decide +kernel)⟩
theorem am_sref : Cond.stringRef "PaperPays$Reader" 118 am_txt ∈ lw_tbl := am_in_tbl 405 (by decide +kernel)
def am_fl : List Cond := flatC (Cond.and given_1 narrow_1)
def am_stl (i : Nat) : List Int32 := ((am_sta[i]?).getD (9, 0, [])).2.2
def am_stn (i : Nat) : Nat := ((am_sta[i]?).getD (9, 0, [])).2.1
set_option maxRecDepth 100000 in
theorem am_fs0 : Cond.arrayOf (.static "PaperPays" "USUAL" "[I") .int ∈ am_fl ∧ Cond.eq (.length (.static "PaperPays" "USUAL" "[I")) (.int (Int32.ofNat (am_stn 0))) ∈ am_fl ∧ ∀ j, j < am_stn 0 → Cond.eq (.elem (.static "PaperPays" "USUAL" "[I") (.int (Int32.ofNat j))) (.int ((am_stl 0).getD j 0)) ∈ am_fl := ⟨by decide +kernel, by decide +kernel, by decide +kernel⟩
set_option maxRecDepth 100000 in
theorem am_fs1 : Cond.arrayOf (.static "PaperPays" "LEAST" "[I") .int ∈ am_fl ∧ Cond.eq (.length (.static "PaperPays" "LEAST" "[I")) (.int (Int32.ofNat (am_stn 1))) ∈ am_fl ∧ ∀ j, j < am_stn 1 → Cond.eq (.elem (.static "PaperPays" "LEAST" "[I") (.int (Int32.ofNat j))) (.int ((am_stl 1).getD j 0)) ∈ am_fl := ⟨by decide +kernel, by decide +kernel, by decide +kernel⟩
set_option maxRecDepth 100000 in
theorem am_fs2 : Cond.arrayOf (.static "PaperPays" "MOST" "[I") .int ∈ am_fl ∧ Cond.eq (.length (.static "PaperPays" "MOST" "[I")) (.int (Int32.ofNat (am_stn 2))) ∈ am_fl ∧ ∀ j, j < am_stn 2 → Cond.eq (.elem (.static "PaperPays" "MOST" "[I") (.int (Int32.ofNat j))) (.int ((am_stl 2).getD j 0)) ∈ am_fl := ⟨by decide +kernel, by decide +kernel, by decide +kernel⟩
set_option maxRecDepth 100000 in
theorem am_fs3 : Cond.arrayOf (.static "PaperPays" "WOULD_RULES" "[I") .int ∈ am_fl ∧ Cond.eq (.length (.static "PaperPays" "WOULD_RULES" "[I")) (.int (Int32.ofNat (am_stn 3))) ∈ am_fl ∧ ∀ j, j < am_stn 3 → Cond.eq (.elem (.static "PaperPays" "WOULD_RULES" "[I") (.int (Int32.ofNat j))) (.int ((am_stl 3).getD j 0)) ∈ am_fl := ⟨by decide +kernel, by decide +kernel, by decide +kernel⟩
set_option maxRecDepth 100000 in
theorem am_fs4 : Cond.arrayOf (.static "PaperPays" "KIND_ABOVE" "[I") .int ∈ am_fl ∧ Cond.eq (.length (.static "PaperPays" "KIND_ABOVE" "[I")) (.int (Int32.ofNat (am_stn 4))) ∈ am_fl ∧ ∀ j, j < am_stn 4 → Cond.eq (.elem (.static "PaperPays" "KIND_ABOVE" "[I") (.int (Int32.ofNat j))) (.int ((am_stl 4).getD j 0)) ∈ am_fl := ⟨by decide +kernel, by decide +kernel, by decide +kernel⟩
set_option maxRecDepth 100000 in
theorem am_fs5 : Cond.arrayOf (.static "PaperPays" "KIND_TRACE" "[I") .int ∈ am_fl ∧ Cond.eq (.length (.static "PaperPays" "KIND_TRACE" "[I")) (.int (Int32.ofNat (am_stn 5))) ∈ am_fl ∧ ∀ j, j < am_stn 5 → Cond.eq (.elem (.static "PaperPays" "KIND_TRACE" "[I") (.int (Int32.ofNat j))) (.int ((am_stl 5).getD j 0)) ∈ am_fl := ⟨by decide +kernel, by decide +kernel, by decide +kernel⟩
set_option maxRecDepth 100000 in
theorem am_fsS : Cond.exactly (.string "PaperPays$Reader" 118) "java/lang/String" ∈ am_fl ∧ Cond.eq (.field (.string "PaperPays$Reader" 118) "java/lang/String" "coder" "B") (.int 0) ∈ am_fl ∧ Cond.arrayOf (.field (.string "PaperPays$Reader" 118) "java/lang/String" "value" "[B") .byte ∈ am_fl ∧ Cond.eq (.length (.field (.string "PaperPays$Reader" 118) "java/lang/String" "value" "[B")) (.int (Int32.ofNat (am_stn 11))) ∈ am_fl ∧ ∀ j, j < am_stn 11 → Cond.eq (.elem (.field (.string "PaperPays$Reader" 118) "java/lang/String" "value" "[B") (.int (Int32.ofNat j))) (.int ((am_stl 11).getD j 0)) ∈ am_fl := ⟨by decide +kernel, by decide +kernel, by decide +kernel, by decide +kernel, by decide +kernel⟩
theorem am_fsC : Cond.eq (.static "java/lang/String" "COMPACT_STRINGS" "Z") (.int 1) ∈ am_fl ∧ Cond.isRef (.static "jdk/internal/util/Preconditions" "SIOOBE_FORMATTER" "Ljava/util/function/BiFunction;") ∈ am_fl := ⟨by decide +kernel, by decide +kernel⟩
def am_spf (t : Nat → Nat) (vf : Value) (n : Nat) : Value := match n with
  | 1000 => .ref (t 0)
  | 1001 => .ref (t 1)
  | 1002 => .ref (t 2)
  | 1003 => .ref (t 3)
  | 1004 => .ref (t 4)
  | 1005 => .ref (t 5)
  | 1010 => .ref (t 10)
  | 1011 => .ref (t 11)
  | 1020 => vf
  | 1030 => .ref (t 30)
  | _ => .null
theorem am_spf_ok {t : Nat → Nat} {vf : Value} (h : vf = .null ∨ ∃ x, vf = .ref x) (n : Nat) : am_spf t vf n = .null ∨ ∃ x, am_spf t vf n = .ref x := by
  unfold am_spf
  split <;> first | exact Or.inr ⟨_, rfl⟩ | exact h | exact Or.inl rfl
section
variable {p : Program} {e : Env} {s : State} {m : MethodId} {below : List Frame} {meth : Method} {c : Code} {b L : Nat} {xs : Nat → Int32}
theorem am_stat {args : Array Value} {C n : String} {N : Nat} {l : List Int32} (hN : N < 2 ^ 31) (hl : (Cond.laysStatic C n "[I").before args s = true) (hi : (Cond.initialized C).before args s = true) (h1 : (Cond.arrayOf (.static C n "[I") .int).before args s = true) (h2 : (Cond.eq (.length (.static C n "[I")) (.int (Int32.ofNat N))).before args s = true) (h3 : ∀ j, j < N → (Cond.eq (.elem (.static C n "[I") (.int (Int32.ofNat j))) (.int (l.getD j 0))).before args s = true) : ∃ t : Nat, va_Z C n "[I" (.ref t) (am_A s.heap.size) s s.heap ∧ va_T .int t N (fun j => .int (l.getD j 0)) (am_A s.heap.size) s s.heap := by
  have hA : ∀ a : Nat, a < s.heap.size → ¬ am_A s.heap.size a := fun a h1 h2 => by unfold am_A at h2; omega
  obtain ⟨t, ht, hT⟩ := va_Tof (f := fun j => .int (l.getD j 0)) hN h1 (va_eqt h2) (fun j hj => va_eqt (h3 j hj)) hA
  exact ⟨t, va_Zof hl hi ht hA, hT⟩
set_option maxRecDepth 100000 in
theorem am_world (C0 : lw_At p s m meth c b L xs) : ∃ (sp : Nat → Value) (cy : Nat → ClassId) (D : va_G), (∀ n, sp n = .null ∨ ∃ t, sp n = .ref t) ∧ sp 1030 = .ref b ∧ am_F (L, xs) sp s.heap.size cy D 171 p room_1 s m #[Value.ref b] meth c := by
  obtain ⟨hx, hb, hr, hml, hown, hts, hX, hbl, hlocks, hgv⟩ := C0
  have hfl : ∀ w ∈ am_fl, w.before #[Value.ref b] s = true := flat_of_before _ hgv
  have htw : ∀ w ∈ xw_tw, w.before #[Value.ref b] s = true := fun w hw => hts w (List.mem_filter.mp hw).1
  have hA : ∀ a : Nat, a < s.heap.size → ¬ am_A s.heap.size a := fun a h1 h2 => by unfold am_A at h2; omega
  have hst : ∀ (C n : String) (N : Nat) (l : List Int32) (v : Value), (C, n, "[I", v) ∈ am_gs → N < 2 ^ 31 → (Cond.arrayOf (.static C n "[I") .int ∈ am_fl ∧ Cond.eq (.length (.static C n "[I")) (.int (Int32.ofNat N)) ∈ am_fl ∧ ∀ j, j < N → Cond.eq (.elem (.static C n "[I") (.int (Int32.ofNat j))) (.int (l.getD j 0)) ∈ am_fl) → ∃ t : Nat, va_Z C n "[I" (.ref t) (am_A s.heap.size) s s.heap ∧ va_T .int t N (fun j => .int (l.getD j 0)) (am_A s.heap.size) s s.heap := fun C n N l v hg hN h => am_stat hN (hts _ (am_lays _ hg).1) (hts _ (am_lays _ hg).2) (hfl _ h.1) (hfl _ h.2.1) (fun j hj => hfl _ (h.2.2 j hj))
  obtain ⟨t0, Z0, T0⟩ := hst "PaperPays" "USUAL" (am_stn 0) (am_stl 0) (.ref 1000) (List.mem_of_getElem? (i := 0) rfl) (by decide) am_fs0
  obtain ⟨t1, Z1, T1⟩ := hst "PaperPays" "LEAST" (am_stn 1) (am_stl 1) (.ref 1001) (List.mem_of_getElem? (i := 1) rfl) (by decide) am_fs1
  obtain ⟨t2, Z2, T2⟩ := hst "PaperPays" "MOST" (am_stn 2) (am_stl 2) (.ref 1002) (List.mem_of_getElem? (i := 2) rfl) (by decide) am_fs2
  obtain ⟨t3, Z3, T3⟩ := hst "PaperPays" "WOULD_RULES" (am_stn 3) (am_stl 3) (.ref 1003) (List.mem_of_getElem? (i := 3) rfl) (by decide) am_fs3
  obtain ⟨t4, Z4, T4⟩ := hst "PaperPays" "KIND_ABOVE" (am_stn 4) (am_stl 4) (.ref 1004) (List.mem_of_getElem? (i := 4) rfl) (by decide) am_fs4
  obtain ⟨t5, Z5, T5⟩ := hst "PaperPays" "KIND_TRACE" (am_stn 5) (am_stl 5) (.ref 1005) (List.mem_of_getElem? (i := 5) rfl) (by decide) am_fs5
  have hC := va_Zof (A := am_A s.heap.size) (hts _ (am_lays _ (List.mem_of_getElem? (i := 6) rfl : ("java/lang/String", "COMPACT_STRINGS", "Z", Value.int 1) ∈ am_gs)).1) (hts _ (am_lays _ (List.mem_of_getElem? (i := 6) rfl : ("java/lang/String", "COMPACT_STRINGS", "Z", Value.int 1) ∈ am_gs)).2) (va_eqi (hfl _ am_fsC.1)) hA
  have hG := va_Zqof (A := am_A s.heap.size) (hts _ (am_lays _ (List.mem_of_getElem? (i := 7) rfl : ("jdk/internal/util/Preconditions", "SIOOBE_FORMATTER", "Ljava/util/function/BiFunction;", Value.ref 1020) ∈ am_gs)).1) (hts _ (am_lays _ (List.mem_of_getElem? (i := 7) rfl : ("jdk/internal/util/Preconditions", "SIOOBE_FORMATTER", "Ljava/util/function/BiFunction;", Value.ref 1020) ∈ am_gs)).2) (hfl _ am_fsC.2) hA
  obtain ⟨vf, hvf, hvZ⟩ : ∃ vf : Value, (vf = .null ∨ ∃ x, vf = .ref x) ∧ va_Z "jdk/internal/util/Preconditions" "SIOOBE_FORMATTER" "Ljava/util/function/BiFunction;" vf (am_A s.heap.size) s s.heap := by
    rcases hG with g | ⟨t, g⟩
    · exact ⟨_, Or.inl rfl, g⟩
    · exact ⟨_, Or.inr ⟨t, rfl⟩, g⟩
  have hi0 : ∀ i : Nat, i < 1 → i = 0 := fun i h => by omega
  obtain ⟨adK, adV, hS, hSe⟩ := vk_Sof (args := #[Value.ref b]) (s := s) (N := 1) (tm := fun _ => .string "PaperPays$Reader" 118) (len := [am_stn 11]) (byt := [am_stl 11]) (A := am_A s.heap.size) (fun i hi => by rw [hi0 i hi]; decide) (fun i _ => hfl _ am_fsS.1) (fun i _ => hfl _ am_fsS.2.1) (fun i _ => hfl _ am_fsS.2.2.1) (fun i hi => by rw [hi0 i hi]; exact hfl _ am_fsS.2.2.2.1) (fun i hi j hj => by
      rw [hi0 i hi] at hj ⊢
      exact hfl _ (am_fsS.2.2.2.2 j hj)) (fun i j hi hj hne => by omega) hA
  obtain ⟨hS1, -⟩ := hS
  obtain ⟨s1, s2, s3, s4⟩ := hS1 0 (by omega)
  have hSe := hSe 0 (by omega)
  have hR := vk_R.of (hts _ am_sref) hSe
  obtain ⟨tf, htf⟩ : ∃ tf : Nat → Nat, tf 0 = t0 ∧ tf 1 = t1 ∧ tf 2 = t2 ∧ tf 3 = t3 ∧ tf 4 = t4 ∧ tf 5 = t5 ∧ tf 10 = adK 0 ∧ tf 11 = adV 0 ∧ tf 30 = b := ⟨fun n => match n with
    | 0 => t0
    | 1 => t1
    | 2 => t2
    | 3 => t3
    | 4 => t4
    | 5 => t5
    | 10 => adK 0
    | 11 => adV 0
    | _ => b, rfl, rfl, rfl, rfl, rfl, rfl, rfl, rfl, rfl⟩
  obtain ⟨rfl, rfl, rfl, rfl, rfl, rfl, h10, h11, h30⟩ := htf
  have hK : ∀ cI : Nat, ∃ x : ClassId × (Nat → Nat), ∀ q : vw_C, vwCl[cI]? = some q → u_Kn s q.1 q.2.1 q.2.2 x.1 x.2 := by
    intro cI
    cases hq : vwCl[cI]? with
    | none => exact ⟨(default, fun _ => 0), fun q h => by cases h⟩
    | some q =>
      obtain ⟨ty, hcl⟩ := am_cl_all cI q hq
      have h8 : cI < 8 := (List.getElem?_eq_some_iff.mp hq).1
      have hv := am_vw_cn cI q hq
      obtain ⟨cC, iS, hu⟩ := u_known htw hcl.1 (htw _ (by rw [hv.1, hv.2.1]; exact am_insts cI h8) : (Cond.instantiable q.1 q.2.2).before #[Value.ref b] s = true)
      exact ⟨(cC, iS), fun q' h => by cases h; exact hu⟩
  obtain ⟨f, hf⟩ := Classical.skolem.mp hK
  obtain ⟨cI, kI, mI, i1, i2, i3⟩ := Cond.arrayClass_spec (htw _ am_ac_int)
  obtain ⟨cB, kB, mB, b1, b2, b3⟩ := Cond.arrayClass_spec (htw _ am_ac_byte)
  obtain ⟨cZ, kZ, mZ, z1, z2, z3⟩ := Cond.arrayClass_spec (htw _ am_ac_boolean)
  refine ⟨am_spf tf vf, fun n => match n with
    | 0 => cI
    | 1 => cB
    | _ => cZ, (fun c => (f c).1, fun c => (f c).2), am_spf_ok hvf, by show Value.ref (tf 30) = _; rw [h30], hx, hb, hml, hown, htw, ⟨fun c q hq => hf c q hq, fun k q hk => ?_⟩, ⟨fun q hq => ?_, fun n q hn hq => ?_, fun w hw => va_Nw.of ?_ (hts w (am_nw_tbl w hw)), tf 10, tf 11, rfl, rfl, by rw [h10]; exact hR, by rw [h10]; exact s1, by rw [h10]; exact s2, by rw [h10, h11]; exact s3⟩, fun h => absurd h (by decide), by decide, by decide, Nat.le_refl _⟩
  · match k, hk with
    | 0, hk => cases hk; exact ⟨fun n z => ⟨fun k h => (by cases h), kI, i2, mI, i3⟩, i1⟩
    | 1, hk => cases hk; exact ⟨fun n z => ⟨fun k h => (by cases h), kB, b2, mB, b3⟩, b1⟩
    | 2, hk => cases hk; exact ⟨fun n z => ⟨fun k h => (by cases h), kZ, z2, mZ, z3⟩, z1⟩
    | n + 3, hk => simp at hk
  · simp only [am_gs, List.mem_cons, List.not_mem_nil, or_false] at hq
    rcases hq with rfl | rfl | rfl | rfl | rfl | rfl | rfl | rfl
    · exact Z0
    · exact Z1
    · exact Z2
    · exact Z3
    · exact Z4
    · exact Z5
    · exact hC
    · exact hvZ
  · unfold am_old at hq
    split at hq
    · next h =>
      have hn' : n = 1030 := Nat.eq_of_beq_eq_true h
      subst hn'
      cases hq
      refine ⟨tf 30, rfl, ?_⟩
      obtain ⟨scr, x1, x2, x3, x4, x5⟩ := hX
      rw [h30]
      exact ⟨scr, x1, x2, x3, by show L ≤ _; omega, by rw [x4], x5, hA b hbl⟩
    · obtain ⟨i, rfl⟩ : ∃ i, n = 1000 + i := ⟨n - 1000, by omega⟩
      rw [Nat.add_sub_cancel_left] at hq
      match i, hq with
      | 0, hq => cases hq; exact ⟨_, rfl, T0⟩
      | 1, hq => cases hq; exact ⟨_, rfl, T1⟩
      | 2, hq => cases hq; exact ⟨_, rfl, T2⟩
      | 3, hq => cases hq; exact ⟨_, rfl, T3⟩
      | 4, hq => cases hq; exact ⟨_, rfl, T4⟩
      | 5, hq => cases hq; exact ⟨_, rfl, T5⟩
      | 6, hq => cases hq
      | 7, hq => cases hq
      | 8, hq => cases hq
      | 9, hq => cases hq
      | 10, hq => cases hq
      | 11, hq =>
        cases hq
        refine ⟨tf 11, rfl, ?_⟩
        rw [h11]
        exact s4
      | x + 12, hq => simp [am_sta] at hq
  · simp only [am_nw, List.mem_cons, List.not_mem_nil, or_false] at hw
    rcases hw with rfl | rfl | rfl | rfl | rfl | rfl <;> rfl
theorem am_start (l : Launch) (C0 : lw_At p s m meth c b L xs) (hrun : am_Rn (L, xs) 171 (0, am_entry 171 [.ref 1030], [], []) (fun r M => r = some (.int 1) ∧ am_tot M ≤ 88 ∧ am_sl M ≤ 1984)) : W p l e room_1 s m #[Value.ref b] below meth c s.heap [] 0 0 (lw_Z below #[Value.ref b] s) (entryFrame m ([Value.ref b] : List Value).toArray 4) := by
  obtain ⟨sp, cy, D, hsp, h30, hF⟩ := am_world C0
  obtain ⟨hx, hb, hr, hml, hown, hts, hX, hbl, hlocks, hgv⟩ := C0
  obtain ⟨n, r, M, hr1, rfl, hM1, hM2⟩ := hrun
  have hcv : ([Value.ref 1030] : List Value).map (am_cv s.heap.size sp) = [Value.ref b] := by
    rw [List.map_cons, am_cv_ge (by omega), h30]
    rfl
  rw [lg_entry_eq]
  have hlv := lv_entry ([Value.ref b]) (n := 4) (Nat.le_of_ble_eq_true rfl)
  have hq := (am_snd (sp := sp) (z0 := s.heap.size) (cy := cy) (D := D) (l := l) hsp n 171 _ _ M hr1).2 (n0 := 0) (m0 := 0) (e := e) (below := below) (Q := lw_Z below #[Value.ref b] s) hF rfl ⟨by show _ ≤ 0 + 88; omega, by show _ ≤ 0 + 1984; omega⟩ (fun j ls st P hrt hP => ?_) s.heap [] _ 0 0 ⟨rfl, fun k q h => by simp [am_cm] at h, ⟨fun i j p q h => by simp [am_cm] at h, fun k q h => by simp [am_cm] at h⟩, va_S.rf⟩ rfl rfl ⟨rfl, hlv.1, hlv.2.1, fun i v hi => ?_⟩
  · exact hq
  · intro H locs lsv cells slots hW hc hs hl
    dsimp only at hW hc hs hl ⊢
    unfold am_rtn at hrt
    dsimp only at hrt
    split at hrt
    · cases hrt
    · next pc ins a b' c' kd lk zz he =>
      have hbb := am_ok he
      have hpc : am_pc 171 j = pc := by unfold am_pc; rw [he]
      rw [hpc]
      split at hrt
      · split at hrt
        · next x =>
          cases hrt
          dsimp only [am_okb] at hbb
          obtain ⟨h1, -⟩ := Bool.and_eq_true_iff.mp hbb
          have hd := of_decide_eq_true h1
          refine va_forget (fun q hq => hW.2.2.2.2.2 q hq) ?_
          refine W.widen (k := 88) (n := 1984) (by omega) (by omega) ?_
          exact lw_ret hx hb hr hlocks hd
        · cases hrt
      · split at hrt <;> cases hrt
      · split at hrt <;> cases hrt
      · split at hrt <;> cases hrt
      · cases hrt
  · have hi0 : i = 0 := by
      cases i with
      | zero => rfl
      | succ i =>
        exfalso
        match i, hi with
        | 0, hi => cases hi
        | 1, hi => cases hi
        | 2, hi => cases hi
        | x + 3, hi => cases hi
    subst hi0
    cases hi
    rw [am_cv_ge (by omega), h30]
    exact hlv.2.2 (0, .ref b) (by simp [lv_args])
end
end
section
/-! ===== small words of the walks ===== -/
def am_b (C : Prop) [Decidable C] : Int32 := if C then 1 else 0
theorem am_b01 (C : Prop) [Decidable C] : am_b C = 0 ∨ am_b C = 1 := by
  unfold am_b
  split
  · exact Or.inr rfl
  · exact Or.inl rfl
theorem am_bT {C : Prop} [Decidable C] (h : C) : am_b C = 1 := if_pos h
theorem am_bF {C : Prop} [Decidable C] (h : ¬ C) : am_b C = 0 := if_neg h
theorem am_b0 {C : Prop} [Decidable C] : am_b C = 0 ↔ ¬ C := by
  unfold am_b
  split
  · next h => exact ⟨fun q => absurd q (by decide), fun q => absurd h q⟩
  · next h => exact ⟨fun _ => h, fun _ => rfl⟩
theorem am_Rn.brB {sc : am_Sc} {k a b : Nat} {ls : am_L} {st : List Value} {M : am_M} {K : Option Value → am_M → Prop} {C : Prop} [Decidable C] {d : Decidable (am_b C = 0)} (h1 : ¬ C → am_Rn sc k (a, ls, st, M) K) (h2 : C → am_Rn sc k (b, ls, st, M) K) : am_Rn sc k (@ite Nat (am_b C = 0) d a b, ls, st, M) K := am_Rn.br (fun h => h1 (am_b0.mp h)) (fun h => h2 (Decidable.byContradiction (fun q => h (am_b0.mpr q))))
theorem am_Rn.brT {sc : am_Sc} {k a b : Nat} {ls : am_L} {st : List Value} {M : am_M} {K : Option Value → am_M → Prop} {c : Prop} {d : Decidable c} (h : c) (h1 : am_Rn sc k (a, ls, st, M) K) : am_Rn sc k (@ite Nat c d a b, ls, st, M) K := by rw [if_pos h]; exact h1
theorem am_Rn.brF {sc : am_Sc} {k a b : Nat} {ls : am_L} {st : List Value} {M : am_M} {K : Option Value → am_M → Prop} {c : Prop} {d : Decidable c} (h : ¬ c) (h1 : am_Rn sc k (b, ls, st, M) K) : am_Rn sc k (@ite Nat c d a b, ls, st, M) K := by rw [if_neg h]; exact h1
def am_inbB (i : Int32) (n : Nat) : Bool := !(decide (i < 0) || Nat.ble n i.toNatClampNeg)
theorem am_inb_lit {i : Int32} {n : Nat} (h : am_inbB i n = true) : am_inb i n := by
  unfold am_inb vp_in
  simp only [am_inbB, Bool.not_eq_true', Bool.or_eq_false_iff, decide_eq_false_iff_not] at h
  rintro (q | q)
  · exact h.1 q
  · rw [Nat.ble_eq_true_of_le q] at h; exact absurd h.2 (by decide)
theorem am_ofN (i : Nat) (h : i < 2147483648) : (Int32.ofNat i).toInt = i := Int32.toInt_ofNat_of_lt h
theorem am_tn (i : Nat) (h : i < 2147483648) : (Int32.ofNat i).toNatClampNeg = i := by
  show (Int32.ofNat i).toInt.toNat = i
  rw [am_ofN i h]
  simp
theorem am_inb_of {i n : Nat} (h : i < n) (hn : n ≤ 2147483648) : am_inb (Int32.ofNat i) n := by
  unfold am_inb vp_in
  rw [am_tn i (by omega), Int32.lt_iff_toInt_lt, am_ofN i (by omega)]
  rintro (q | q)
  · have : (0 : Int32).toInt = 0 := rfl
    omega
  · omega
theorem am_lt {i j : Nat} (hi : i < 2147483648) (hj : j < 2147483648) : Int32.ofNat i < Int32.ofNat j ↔ i < j := by
  rw [Int32.lt_iff_toInt_lt, am_ofN i hi, am_ofN j hj]
  omega
theorem am_le {i j : Nat} (hi : i < 2147483648) (hj : j < 2147483648) : Int32.ofNat i ≤ Int32.ofNat j ↔ i ≤ j := by
  rw [Int32.le_iff_toInt_le, am_ofN i hi, am_ofN j hj]
  omega
theorem am_eqi {i j : Nat} (hi : i < 2147483648) (hj : j < 2147483648) : Int32.ofNat i = Int32.ofNat j ↔ i = j := by
  rw [← Int32.toInt_inj, am_ofN i hi, am_ofN j hj]
  omega
theorem am_inc (i : Nat) : Int32.ofNat i + 1 = Int32.ofNat (i + 1) := (inc_ofNat i).symm
theorem am_cfg {sc : am_Sc} {k : Nat} {C C' : am_C} {K : Option Value → am_M → Prop} (h : C = C') (hk : am_Rn sc k C' K) : am_Rn sc k C K := by rw [h]; exact hk
/-- a loop of n rounds on a value -/
def am_fold {α : Type} (n : Nat) (f : Nat → α → α) (a : α) : α := match n with
  | 0 => a
  | n + 1 => f n (am_fold n f a)
/-! banks -/
def bkRules (o : Nat) (nu la me tc ts : Nat → Int32) (pe : Int32) : List am_E := [.inr (5, [.ref (o + 1), .ref (o + 2), .ref (o + 3), .ref (o + 4), .ref (o + 5), .int pe]), .inl (0, 10, .inl nu), .inl (0, 9, .inl la), .inl (0, 9, .inl me), .inl (0, 9, .inl tc), .inl (0, 9, .inl ts)]
def bkRoom (o ru : Nat) (rd pr pv sa pd lo : Int32) (bo co sh se si er of_ bi bt so : Nat → Int32) : List am_E := [.inr (4, [.ref ru, .int rd, .int pr, .int pv, .int sa, .int pd, .int lo, .ref (o + 1), .ref (o + 2), .ref (o + 3), .ref (o + 4), .ref (o + 5), .ref (o + 6), .ref (o + 7), .ref (o + 8), .ref (o + 9), .ref (o + 10)]), .inl (0, 20, .inl bo), .inl (0, 9, .inl co), .inl (0, 9, .inl sh), .inl (0, 9, .inl se), .inl (0, 9, .inl si), .inl (0, 9, .inl er), .inl (0, 9, .inl of_), .inl (0, 9, .inl bi), .inl (0, 9, .inl bt), .inl (0, 9, .inl so)]
/-! what numbers of the rules say -/
def sp_halves (nu : Nat → Int32) (r : Int32) : Int32 := (nu 0 - r) * (nu 1 + nu 2) + 2 * nu 3
def sp_worth (nu : Nat → Int32) (r : Int32) : Int32 := (nu 0 - r) * (nu 1 + nu 2) / 2 + nu 3
end
section
theorem am_inb20 {i : Int32} (h : 0 ≤ i) (h2 : i < 20) : am_inb i 20 := by
  unfold am_inb vp_in
  have h3 : i.toNatClampNeg = i.toInt.toNat := rfl
  simp only [Int32.lt_iff_toInt_lt, Int32.le_iff_toInt_le, Int32.reduceToInt] at *
  rintro (q | q) <;> omega
theorem sx_isWithin (sc : am_Sc) (v a b : Int32) (M : am_M) : am_Rn sc 88 (0, am_entry 88 [.int v, .int a, .int b], [], M) (fun r M' => r = some (.int (am_b (a ≤ v ∧ v ≤ b))) ∧ M' = M) := by
  show am_Rn sc 88 (0, [some (.int v), some (.int a), some (.int b)], [], _) _
  refine am_Rn.go (t := am_t88) rfl 3 rfl ⟨trivial, trivial, trivial, trivial⟩ ?_
  refine am_Rn.br (fun h1 => ?_) (fun h1 => ?_)
  · skip
    refine am_Rn.go (t := am_t88) rfl 1 rfl ⟨trivial, trivial⟩ ?_
    refine am_Rn.ret (t := am_t88) rfl rfl (by first | exact Or.inl rfl | exact Or.inr rfl | exact am_b01 _) ?_
    refine ⟨congrArg (fun z => some (Value.int z)) ?_, rfl⟩
    first | exact (am_bT (by (simp only [Int32.lt_iff_toInt_lt, Int32.le_iff_toInt_le, ← Int32.toInt_inj, Int32.reduceToInt, Int32.not_lt, Int32.not_le] at *; omega))).symm | exact (am_bF (by (simp only [Int32.lt_iff_toInt_lt, Int32.le_iff_toInt_le, ← Int32.toInt_inj, Int32.reduceToInt, Int32.not_lt, Int32.not_le] at *; omega))).symm
  · skip
    refine am_Rn.go (t := am_t88) rfl 3 rfl ⟨trivial, trivial, trivial, trivial⟩ ?_
    refine am_Rn.br (fun h2 => ?_) (fun h2 => ?_)
    · skip
      refine am_Rn.go (t := am_t88) rfl 1 rfl ⟨trivial, trivial⟩ ?_
      refine am_Rn.ret (t := am_t88) rfl rfl (by first | exact Or.inl rfl | exact Or.inr rfl | exact am_b01 _) ?_
      refine ⟨congrArg (fun z => some (Value.int z)) ?_, rfl⟩
      first | exact (am_bT (by (simp only [Int32.lt_iff_toInt_lt, Int32.le_iff_toInt_le, ← Int32.toInt_inj, Int32.reduceToInt, Int32.not_lt, Int32.not_le] at *; omega))).symm | exact (am_bF (by (simp only [Int32.lt_iff_toInt_lt, Int32.le_iff_toInt_le, ← Int32.toInt_inj, Int32.reduceToInt, Int32.not_lt, Int32.not_le] at *; omega))).symm
    · skip
      refine am_Rn.go (t := am_t88) rfl 2 rfl ⟨trivial, trivial, trivial⟩ ?_
      refine am_Rn.ret (t := am_t88) rfl rfl (by first | exact Or.inl rfl | exact Or.inr rfl | exact am_b01 _) ?_
      refine ⟨congrArg (fun z => some (Value.int z)) ?_, rfl⟩
      first | exact (am_bT (by (simp only [Int32.lt_iff_toInt_lt, Int32.le_iff_toInt_le, ← Int32.toInt_inj, Int32.reduceToInt, Int32.not_lt, Int32.not_le] at *; omega))).symm | exact (am_bF (by (simp only [Int32.lt_iff_toInt_lt, Int32.le_iff_toInt_le, ← Int32.toInt_inj, Int32.reduceToInt, Int32.not_lt, Int32.not_le] at *; omega))).symm
theorem sx_in (sc : am_Sc) (v a b : Int32) (M : am_M) : am_Rn sc 94 (0, am_entry 94 [.int v, .int a, .int b], [], M) (fun r M' => r = some (.int (am_b (a ≤ v ∧ v ≤ b))) ∧ M' = M) := by
  show am_Rn sc 94 (0, [some (.int v), some (.int a), some (.int b)], [], _) _
  refine am_Rn.go (t := am_t94) rfl 3 rfl ⟨trivial, trivial, trivial, trivial⟩ ?_
  refine am_Rn.br (fun h1 => ?_) (fun h1 => ?_)
  · skip
    refine am_Rn.go (t := am_t94) rfl 1 rfl ⟨trivial, trivial⟩ ?_
    refine am_Rn.ret (t := am_t94) rfl rfl (by first | exact Or.inl rfl | exact Or.inr rfl | exact am_b01 _) ?_
    refine ⟨congrArg (fun z => some (Value.int z)) ?_, rfl⟩
    first | exact (am_bT (by (simp only [Int32.lt_iff_toInt_lt, Int32.le_iff_toInt_le, ← Int32.toInt_inj, Int32.reduceToInt, Int32.not_lt, Int32.not_le] at *; omega))).symm | exact (am_bF (by (simp only [Int32.lt_iff_toInt_lt, Int32.le_iff_toInt_le, ← Int32.toInt_inj, Int32.reduceToInt, Int32.not_lt, Int32.not_le] at *; omega))).symm
  · skip
    refine am_Rn.go (t := am_t94) rfl 3 rfl ⟨trivial, trivial, trivial, trivial⟩ ?_
    refine am_Rn.br (fun h2 => ?_) (fun h2 => ?_)
    · skip
      refine am_Rn.go (t := am_t94) rfl 1 rfl ⟨trivial, trivial⟩ ?_
      refine am_Rn.ret (t := am_t94) rfl rfl (by first | exact Or.inl rfl | exact Or.inr rfl | exact am_b01 _) ?_
      refine ⟨congrArg (fun z => some (Value.int z)) ?_, rfl⟩
      first | exact (am_bT (by (simp only [Int32.lt_iff_toInt_lt, Int32.le_iff_toInt_le, ← Int32.toInt_inj, Int32.reduceToInt, Int32.not_lt, Int32.not_le] at *; omega))).symm | exact (am_bF (by (simp only [Int32.lt_iff_toInt_lt, Int32.le_iff_toInt_le, ← Int32.toInt_inj, Int32.reduceToInt, Int32.not_lt, Int32.not_le] at *; omega))).symm
    · skip
      refine am_Rn.go (t := am_t94) rfl 2 rfl ⟨trivial, trivial, trivial⟩ ?_
      refine am_Rn.ret (t := am_t94) rfl rfl (by first | exact Or.inl rfl | exact Or.inr rfl | exact am_b01 _) ?_
      refine ⟨congrArg (fun z => some (Value.int z)) ?_, rfl⟩
      first | exact (am_bT (by (simp only [Int32.lt_iff_toInt_lt, Int32.le_iff_toInt_le, ← Int32.toInt_inj, Int32.reduceToInt, Int32.not_lt, Int32.not_le] at *; omega))).symm | exact (am_bF (by (simp only [Int32.lt_iff_toInt_lt, Int32.le_iff_toInt_le, ← Int32.toInt_inj, Int32.reduceToInt, Int32.not_lt, Int32.not_le] at *; omega))).symm
theorem sx_isDigit (sc : am_Sc) (v : Int32) (M : am_M) : am_Rn sc 16 (0, am_entry 16 [.int v], [], M) (fun r M' => r = some (.int (am_b (48 ≤ v ∧ v ≤ 57))) ∧ M' = M) := by
  show am_Rn sc 16 (0, [some (.int v)], [], _) _
  refine am_Rn.go (t := am_t16) rfl 3 rfl ⟨trivial, trivial, trivial, trivial⟩ ?_
  refine am_Rn.br (fun h1 => ?_) (fun h1 => ?_)
  · skip
    refine am_Rn.go (t := am_t16) rfl 1 rfl ⟨trivial, trivial⟩ ?_
    refine am_Rn.ret (t := am_t16) rfl rfl (by first | exact Or.inl rfl | exact Or.inr rfl | exact am_b01 _) ?_
    refine ⟨congrArg (fun z => some (Value.int z)) ?_, rfl⟩
    first | exact (am_bT (by (simp only [Int32.lt_iff_toInt_lt, Int32.le_iff_toInt_le, ← Int32.toInt_inj, Int32.reduceToInt, Int32.not_lt, Int32.not_le] at *; omega))).symm | exact (am_bF (by (simp only [Int32.lt_iff_toInt_lt, Int32.le_iff_toInt_le, ← Int32.toInt_inj, Int32.reduceToInt, Int32.not_lt, Int32.not_le] at *; omega))).symm
  · skip
    refine am_Rn.go (t := am_t16) rfl 3 rfl ⟨trivial, trivial, trivial, trivial⟩ ?_
    refine am_Rn.br (fun h2 => ?_) (fun h2 => ?_)
    · skip
      refine am_Rn.go (t := am_t16) rfl 1 rfl ⟨trivial, trivial⟩ ?_
      refine am_Rn.ret (t := am_t16) rfl rfl (by first | exact Or.inl rfl | exact Or.inr rfl | exact am_b01 _) ?_
      refine ⟨congrArg (fun z => some (Value.int z)) ?_, rfl⟩
      first | exact (am_bT (by (simp only [Int32.lt_iff_toInt_lt, Int32.le_iff_toInt_le, ← Int32.toInt_inj, Int32.reduceToInt, Int32.not_lt, Int32.not_le] at *; omega))).symm | exact (am_bF (by (simp only [Int32.lt_iff_toInt_lt, Int32.le_iff_toInt_le, ← Int32.toInt_inj, Int32.reduceToInt, Int32.not_lt, Int32.not_le] at *; omega))).symm
    · skip
      refine am_Rn.go (t := am_t16) rfl 2 rfl ⟨trivial, trivial, trivial⟩ ?_
      refine am_Rn.ret (t := am_t16) rfl rfl (by first | exact Or.inl rfl | exact Or.inr rfl | exact am_b01 _) ?_
      refine ⟨congrArg (fun z => some (Value.int z)) ?_, rfl⟩
      first | exact (am_bT (by (simp only [Int32.lt_iff_toInt_lt, Int32.le_iff_toInt_le, ← Int32.toInt_inj, Int32.reduceToInt, Int32.not_lt, Int32.not_le] at *; omega))).symm | exact (am_bF (by (simp only [Int32.lt_iff_toInt_lt, Int32.le_iff_toInt_le, ← Int32.toInt_inj, Int32.reduceToInt, Int32.not_lt, Int32.not_le] at *; omega))).symm
theorem sx_isLetter (sc : am_Sc) (v : Int32) (M : am_M) : am_Rn sc 17 (0, am_entry 17 [.int v], [], M) (fun r M' => r = some (.int (am_b (97 ≤ v ∧ v ≤ 122))) ∧ M' = M) := by
  show am_Rn sc 17 (0, [some (.int v)], [], _) _
  refine am_Rn.go (t := am_t17) rfl 3 rfl ⟨trivial, trivial, trivial, trivial⟩ ?_
  refine am_Rn.br (fun h1 => ?_) (fun h1 => ?_)
  · skip
    refine am_Rn.go (t := am_t17) rfl 1 rfl ⟨trivial, trivial⟩ ?_
    refine am_Rn.ret (t := am_t17) rfl rfl (by first | exact Or.inl rfl | exact Or.inr rfl | exact am_b01 _) ?_
    refine ⟨congrArg (fun z => some (Value.int z)) ?_, rfl⟩
    first | exact (am_bT (by (simp only [Int32.lt_iff_toInt_lt, Int32.le_iff_toInt_le, ← Int32.toInt_inj, Int32.reduceToInt, Int32.not_lt, Int32.not_le] at *; omega))).symm | exact (am_bF (by (simp only [Int32.lt_iff_toInt_lt, Int32.le_iff_toInt_le, ← Int32.toInt_inj, Int32.reduceToInt, Int32.not_lt, Int32.not_le] at *; omega))).symm
  · skip
    refine am_Rn.go (t := am_t17) rfl 3 rfl ⟨trivial, trivial, trivial, trivial⟩ ?_
    refine am_Rn.br (fun h2 => ?_) (fun h2 => ?_)
    · skip
      refine am_Rn.go (t := am_t17) rfl 1 rfl ⟨trivial, trivial⟩ ?_
      refine am_Rn.ret (t := am_t17) rfl rfl (by first | exact Or.inl rfl | exact Or.inr rfl | exact am_b01 _) ?_
      refine ⟨congrArg (fun z => some (Value.int z)) ?_, rfl⟩
      first | exact (am_bT (by (simp only [Int32.lt_iff_toInt_lt, Int32.le_iff_toInt_le, ← Int32.toInt_inj, Int32.reduceToInt, Int32.not_lt, Int32.not_le] at *; omega))).symm | exact (am_bF (by (simp only [Int32.lt_iff_toInt_lt, Int32.le_iff_toInt_le, ← Int32.toInt_inj, Int32.reduceToInt, Int32.not_lt, Int32.not_le] at *; omega))).symm
    · skip
      refine am_Rn.go (t := am_t17) rfl 2 rfl ⟨trivial, trivial, trivial⟩ ?_
      refine am_Rn.ret (t := am_t17) rfl rfl (by first | exact Or.inl rfl | exact Or.inr rfl | exact am_b01 _) ?_
      refine ⟨congrArg (fun z => some (Value.int z)) ?_, rfl⟩
      first | exact (am_bT (by (simp only [Int32.lt_iff_toInt_lt, Int32.le_iff_toInt_le, ← Int32.toInt_inj, Int32.reduceToInt, Int32.not_lt, Int32.not_le] at *; omega))).symm | exact (am_bF (by (simp only [Int32.lt_iff_toInt_lt, Int32.le_iff_toInt_le, ← Int32.toInt_inj, Int32.reduceToInt, Int32.not_lt, Int32.not_le] at *; omega))).symm
theorem sx_size (sc : am_Sc) (v : Int32) (M : am_M) : am_Rn sc 95 (0, am_entry 95 [.int v], [], M) (fun r M' => r = some (.int (if v < 0 then -v else v)) ∧ M' = M) := by
  show am_Rn sc 95 (0, [some (.int v)], [], _) _
  refine am_Rn.go (t := am_t95) rfl 2 rfl ⟨trivial, trivial, trivial⟩ ?_
  refine am_Rn.br (fun h1 => ?_) (fun h1 => ?_)
  · skip
    refine am_Rn.go (t := am_t95) rfl 1 rfl ⟨trivial, trivial⟩ ?_
    refine am_Rn.ret (t := am_t95) rfl rfl trivial ?_
    refine ⟨?_, rfl⟩
    first | rw [if_neg (Int32.not_lt.mpr h1)] | rw [if_pos (Int32.not_le.mp h1)]
  · skip
    refine am_Rn.go (t := am_t95) rfl 3 rfl ⟨trivial, trivial, trivial, trivial⟩ ?_
    refine am_Rn.ret (t := am_t95) rfl rfl trivial ?_
    refine ⟨?_, rfl⟩
    first | rw [if_neg (Int32.not_lt.mpr h1)] | rw [if_pos (Int32.not_le.mp h1)]
theorem sx_halvesIn_t (sc : am_Sc) (r0 : Int32) (nu la me tc ts : Nat → Int32) (pe : Int32) (B0 : List am_E) (Bs : am_M) : am_Rn sc 53 (0, am_entry 53 [.ref 32, .int r0], [], B0 :: bkRules 32 nu la me tc ts pe :: Bs) (fun r M' => r = some (.int (sp_halves nu r0)) ∧ M' = B0 :: bkRules 32 nu la me tc ts pe :: Bs) := by
  show am_Rn sc 53 (0, [some (.ref 32), some (.int r0)], [], _) _
  refine am_Rn.go (t := am_t53) rfl 23 rfl ⟨trivial, trivial, trivial, (by first | exact am_inb_lit rfl | exact am_inb_of (by omega) (by omega)), trivial, trivial, trivial, trivial, trivial, (by first | exact am_inb_lit rfl | exact am_inb_of (by omega) (by omega)), trivial, trivial, trivial, (by first | exact am_inb_lit rfl | exact am_inb_of (by omega) (by omega)), trivial, trivial, trivial, trivial, trivial, trivial, (by first | exact am_inb_lit rfl | exact am_inb_of (by omega) (by omega)), trivial, trivial, trivial⟩ ?_
  refine am_Rn.ret (t := am_t53) rfl rfl trivial ?_
  exact ⟨rfl, rfl⟩
theorem sx_worthIn_t (sc : am_Sc) (r0 : Int32) (nu la me tc ts : Nat → Int32) (pe : Int32) (B0 : List am_E) (Bs : am_M) : am_Rn sc 54 (0, am_entry 54 [.ref 32, .int r0], [], B0 :: bkRules 32 nu la me tc ts pe :: Bs) (fun r M' => r = some (.int (sp_worth nu r0)) ∧ M' = B0 :: bkRules 32 nu la me tc ts pe :: Bs) := by
  show am_Rn sc 54 (0, [some (.ref 32), some (.int r0), none], [], _) _
  refine am_Rn.go (t := am_t54) rfl 25 rfl ⟨trivial, trivial, trivial, (by first | exact am_inb_lit rfl | exact am_inb_of (by omega) (by omega)), trivial, trivial, trivial, trivial, trivial, (by first | exact am_inb_lit rfl | exact am_inb_of (by omega) (by omega)), trivial, trivial, trivial, (by first | exact am_inb_lit rfl | exact am_inb_of (by omega) (by omega)), trivial, trivial, trivial, trivial, trivial, (by decide), trivial, trivial, trivial, (by first | exact am_inb_lit rfl | exact am_inb_of (by omega) (by omega)), trivial, trivial⟩ ?_
  refine am_Rn.ret (t := am_t54) rfl rfl trivial ?_
  exact ⟨rfl, rfl⟩
theorem sx_halvesIn_d (sc : am_Sc) (r0 : Int32) (nu la me tc ts : Nat → Int32) (pe : Int32) (B0 B1 B2 : List am_E) (Bs : am_M) : am_Rn sc 53 (0, am_entry 53 [.ref 96, .int r0], [], B0 :: B1 :: B2 :: bkRules 96 nu la me tc ts pe :: Bs) (fun r M' => r = some (.int (sp_halves nu r0)) ∧ M' = B0 :: B1 :: B2 :: bkRules 96 nu la me tc ts pe :: Bs) := by
  show am_Rn sc 53 (0, [some (.ref 96), some (.int r0)], [], _) _
  refine am_Rn.go (t := am_t53) rfl 23 rfl ⟨trivial, trivial, trivial, (by first | exact am_inb_lit rfl | exact am_inb_of (by omega) (by omega)), trivial, trivial, trivial, trivial, trivial, (by first | exact am_inb_lit rfl | exact am_inb_of (by omega) (by omega)), trivial, trivial, trivial, (by first | exact am_inb_lit rfl | exact am_inb_of (by omega) (by omega)), trivial, trivial, trivial, trivial, trivial, trivial, (by first | exact am_inb_lit rfl | exact am_inb_of (by omega) (by omega)), trivial, trivial, trivial⟩ ?_
  refine am_Rn.ret (t := am_t53) rfl rfl trivial ?_
  exact ⟨rfl, rfl⟩
theorem sx_worthIn_d (sc : am_Sc) (r0 : Int32) (nu la me tc ts : Nat → Int32) (pe : Int32) (B0 B1 B2 : List am_E) (Bs : am_M) : am_Rn sc 54 (0, am_entry 54 [.ref 96, .int r0], [], B0 :: B1 :: B2 :: bkRules 96 nu la me tc ts pe :: Bs) (fun r M' => r = some (.int (sp_worth nu r0)) ∧ M' = B0 :: B1 :: B2 :: bkRules 96 nu la me tc ts pe :: Bs) := by
  show am_Rn sc 54 (0, [some (.ref 96), some (.int r0), none], [], _) _
  refine am_Rn.go (t := am_t54) rfl 25 rfl ⟨trivial, trivial, trivial, (by first | exact am_inb_lit rfl | exact am_inb_of (by omega) (by omega)), trivial, trivial, trivial, trivial, trivial, (by first | exact am_inb_lit rfl | exact am_inb_of (by omega) (by omega)), trivial, trivial, trivial, (by first | exact am_inb_lit rfl | exact am_inb_of (by omega) (by omega)), trivial, trivial, trivial, trivial, trivial, (by decide), trivial, trivial, trivial, (by first | exact am_inb_lit rfl | exact am_inb_of (by omega) (by omega)), trivial, trivial⟩ ?_
  refine am_Rn.ret (t := am_t54) rfl rfl trivial ?_
  exact ⟨rfl, rfl⟩
theorem sx_halvesIn_v (sc : am_Sc) (r0 : Int32) (nu la me tc ts : Nat → Int32) (pe : Int32) (B0 B1 B2 B3 B4 : List am_E) (Bs : am_M) : am_Rn sc 53 (0, am_entry 53 [.ref 160, .int r0], [], B0 :: B1 :: B2 :: B3 :: B4 :: bkRules 160 nu la me tc ts pe :: Bs) (fun r M' => r = some (.int (sp_halves nu r0)) ∧ M' = B0 :: B1 :: B2 :: B3 :: B4 :: bkRules 160 nu la me tc ts pe :: Bs) := by
  show am_Rn sc 53 (0, [some (.ref 160), some (.int r0)], [], _) _
  refine am_Rn.go (t := am_t53) rfl 23 rfl ⟨trivial, trivial, trivial, (by first | exact am_inb_lit rfl | exact am_inb_of (by omega) (by omega)), trivial, trivial, trivial, trivial, trivial, (by first | exact am_inb_lit rfl | exact am_inb_of (by omega) (by omega)), trivial, trivial, trivial, (by first | exact am_inb_lit rfl | exact am_inb_of (by omega) (by omega)), trivial, trivial, trivial, trivial, trivial, trivial, (by first | exact am_inb_lit rfl | exact am_inb_of (by omega) (by omega)), trivial, trivial, trivial⟩ ?_
  refine am_Rn.ret (t := am_t53) rfl rfl trivial ?_
  exact ⟨rfl, rfl⟩
theorem sx_worthIn_v (sc : am_Sc) (r0 : Int32) (nu la me tc ts : Nat → Int32) (pe : Int32) (B0 B1 B2 B3 B4 : List am_E) (Bs : am_M) : am_Rn sc 54 (0, am_entry 54 [.ref 160, .int r0], [], B0 :: B1 :: B2 :: B3 :: B4 :: bkRules 160 nu la me tc ts pe :: Bs) (fun r M' => r = some (.int (sp_worth nu r0)) ∧ M' = B0 :: B1 :: B2 :: B3 :: B4 :: bkRules 160 nu la me tc ts pe :: Bs) := by
  show am_Rn sc 54 (0, [some (.ref 160), some (.int r0), none], [], _) _
  refine am_Rn.go (t := am_t54) rfl 25 rfl ⟨trivial, trivial, trivial, (by first | exact am_inb_lit rfl | exact am_inb_of (by omega) (by omega)), trivial, trivial, trivial, trivial, trivial, (by first | exact am_inb_lit rfl | exact am_inb_of (by omega) (by omega)), trivial, trivial, trivial, (by first | exact am_inb_lit rfl | exact am_inb_of (by omega) (by omega)), trivial, trivial, trivial, trivial, trivial, (by decide), trivial, trivial, trivial, (by first | exact am_inb_lit rfl | exact am_inb_of (by omega) (by omega)), trivial, trivial⟩ ?_
  refine am_Rn.ret (t := am_t54) rfl rfl trivial ?_
  exact ⟨rfl, rfl⟩
theorem sx_isOver_A (sc : am_Sc) (nu la me tc ts : Nat → Int32) (pe : Int32) (rd pr pv sa pd lo : Int32) (bo co sh se si er of_ bi bt so : Nat → Int32) (B0 B2 B3 : List am_E) (Bs : am_M) : am_Rn sc 31 (0, am_entry 31 [.ref 128], [], B0 :: bkRules 32 nu la me tc ts pe :: B2 :: B3 :: bkRoom 128 32 rd pr pv sa pd lo bo co sh se si er of_ bi bt so :: Bs) (fun r M' => r = some (.int (am_b (nu 0 ≤ rd ∨ 20 ≤ rd))) ∧ M' = B0 :: bkRules 32 nu la me tc ts pe :: B2 :: B3 :: bkRoom 128 32 rd pr pv sa pd lo bo co sh se si er of_ bi bt so :: Bs) := by
  show am_Rn sc 31 (0, [some (.ref 128)], [], _) _
  refine am_Rn.go (t := am_t31) rfl 8 rfl ⟨trivial, trivial, trivial, trivial, trivial, trivial, (by first | exact am_inb_lit rfl | exact am_inb_of (by omega) (by omega)), trivial, trivial⟩ ?_
  refine am_Rn.br (fun h1 => ?_) (fun h1 => ?_)
  · skip
    refine am_Rn.go (t := am_t31) rfl 2 rfl ⟨trivial, trivial, trivial⟩ ?_
    refine am_Rn.ret (t := am_t31) rfl rfl (by first | exact Or.inl rfl | exact Or.inr rfl | exact am_b01 _) ?_
    refine ⟨congrArg (fun z => some (Value.int z)) ?_, rfl⟩
    first | exact (am_bT (Or.inl (by assumption))).symm | exact (am_bT (Or.inr (Int32.not_lt.mp (by assumption)))).symm | exact (am_bF (fun q => q.elim (by assumption) (fun q => Int32.not_le.mpr (by assumption) q))).symm
  · skip
    refine am_Rn.go (t := am_t31) rfl 4 rfl ⟨trivial, trivial, trivial, trivial, trivial⟩ ?_
    refine am_Rn.br (fun h2 => ?_) (fun h2 => ?_)
    · skip
      refine am_Rn.go (t := am_t31) rfl 1 rfl ⟨trivial, trivial⟩ ?_
      refine am_Rn.ret (t := am_t31) rfl rfl (by first | exact Or.inl rfl | exact Or.inr rfl | exact am_b01 _) ?_
      refine ⟨congrArg (fun z => some (Value.int z)) ?_, rfl⟩
      first | exact (am_bT (Or.inl (by assumption))).symm | exact (am_bT (Or.inr (Int32.not_lt.mp (by assumption)))).symm | exact (am_bF (fun q => q.elim (by assumption) (fun q => Int32.not_le.mpr (by assumption) q))).symm
    · skip
      refine am_Rn.go (t := am_t31) rfl 2 rfl ⟨trivial, trivial, trivial⟩ ?_
      refine am_Rn.ret (t := am_t31) rfl rfl (by first | exact Or.inl rfl | exact Or.inr rfl | exact am_b01 _) ?_
      refine ⟨congrArg (fun z => some (Value.int z)) ?_, rfl⟩
      first | exact (am_bT (Or.inl (by assumption))).symm | exact (am_bT (Or.inr (Int32.not_lt.mp (by assumption)))).symm | exact (am_bF (fun q => q.elim (by assumption) (fun q => Int32.not_le.mpr (by assumption) q))).symm
theorem sx_boardAt_A (sc : am_Sc) (r0 : Int32) (hr : 0 ≤ r0) (hr2 : r0 < 20) (nu la me tc ts : Nat → Int32) (pe : Int32) (rd pr pv sa pd lo : Int32) (bo co sh se si er of_ bi bt so : Nat → Int32) (B0 B2 B3 : List am_E) (Bs : am_M) : am_Rn sc 41 (0, am_entry 41 [.ref 128, .int r0], [], B0 :: bkRules 32 nu la me tc ts pe :: B2 :: B3 :: bkRoom 128 32 rd pr pv sa pd lo bo co sh se si er of_ bi bt so :: Bs) (fun r M' => r = some (.int (bo r0.toNatClampNeg)) ∧ M' = B0 :: bkRules 32 nu la me tc ts pe :: B2 :: B3 :: bkRoom 128 32 rd pr pv sa pd lo bo co sh se si er of_ bi bt so :: Bs) := by
  show am_Rn sc 41 (0, [some (.ref 128), some (.int r0)], [], _) _
  refine am_Rn.go (t := am_t41) rfl 2 rfl ⟨trivial, trivial, trivial⟩ ?_
  refine am_Rn.brF (by (simp only [Int32.lt_iff_toInt_lt, Int32.le_iff_toInt_le, ← Int32.toInt_inj, Int32.reduceToInt, Int32.not_lt, Int32.not_le] at *; omega)) ?_
  refine am_Rn.go (t := am_t41) rfl 3 rfl ⟨trivial, trivial, trivial, trivial⟩ ?_
  refine am_Rn.brF (by (simp only [Int32.lt_iff_toInt_lt, Int32.le_iff_toInt_le, ← Int32.toInt_inj, Int32.reduceToInt, Int32.not_lt, Int32.not_le] at *; omega)) ?_
  refine am_Rn.go (t := am_t41) rfl 5 rfl ⟨trivial, trivial, trivial, (by exact am_inb20 hr hr2), trivial, trivial⟩ ?_
  refine am_Rn.ret (t := am_t41) rfl rfl trivial ?_
  exact ⟨rfl, rfl⟩
theorem sx_isOver_B (sc : am_Sc) (nu la me tc ts : Nat → Int32) (pe : Int32) (rd pr pv sa pd lo : Int32) (bo co sh se si er of_ bi bt so : Nat → Int32) (B0 B1 B2 B3 B4 : List am_E) (Bs : am_M) : am_Rn sc 31 (0, am_entry 31 [.ref 192], [], B0 :: B1 :: B2 :: B3 :: B4 :: bkRules 160 nu la me tc ts pe :: bkRoom 192 160 rd pr pv sa pd lo bo co sh se si er of_ bi bt so :: Bs) (fun r M' => r = some (.int (am_b (nu 0 ≤ rd ∨ 20 ≤ rd))) ∧ M' = B0 :: B1 :: B2 :: B3 :: B4 :: bkRules 160 nu la me tc ts pe :: bkRoom 192 160 rd pr pv sa pd lo bo co sh se si er of_ bi bt so :: Bs) := by
  show am_Rn sc 31 (0, [some (.ref 192)], [], _) _
  refine am_Rn.go (t := am_t31) rfl 8 rfl ⟨trivial, trivial, trivial, trivial, trivial, trivial, (by first | exact am_inb_lit rfl | exact am_inb_of (by omega) (by omega)), trivial, trivial⟩ ?_
  refine am_Rn.br (fun h1 => ?_) (fun h1 => ?_)
  · skip
    refine am_Rn.go (t := am_t31) rfl 2 rfl ⟨trivial, trivial, trivial⟩ ?_
    refine am_Rn.ret (t := am_t31) rfl rfl (by first | exact Or.inl rfl | exact Or.inr rfl | exact am_b01 _) ?_
    refine ⟨congrArg (fun z => some (Value.int z)) ?_, rfl⟩
    first | exact (am_bT (Or.inl (by assumption))).symm | exact (am_bT (Or.inr (Int32.not_lt.mp (by assumption)))).symm | exact (am_bF (fun q => q.elim (by assumption) (fun q => Int32.not_le.mpr (by assumption) q))).symm
  · skip
    refine am_Rn.go (t := am_t31) rfl 4 rfl ⟨trivial, trivial, trivial, trivial, trivial⟩ ?_
    refine am_Rn.br (fun h2 => ?_) (fun h2 => ?_)
    · skip
      refine am_Rn.go (t := am_t31) rfl 1 rfl ⟨trivial, trivial⟩ ?_
      refine am_Rn.ret (t := am_t31) rfl rfl (by first | exact Or.inl rfl | exact Or.inr rfl | exact am_b01 _) ?_
      refine ⟨congrArg (fun z => some (Value.int z)) ?_, rfl⟩
      first | exact (am_bT (Or.inl (by assumption))).symm | exact (am_bT (Or.inr (Int32.not_lt.mp (by assumption)))).symm | exact (am_bF (fun q => q.elim (by assumption) (fun q => Int32.not_le.mpr (by assumption) q))).symm
    · skip
      refine am_Rn.go (t := am_t31) rfl 2 rfl ⟨trivial, trivial, trivial⟩ ?_
      refine am_Rn.ret (t := am_t31) rfl rfl (by first | exact Or.inl rfl | exact Or.inr rfl | exact am_b01 _) ?_
      refine ⟨congrArg (fun z => some (Value.int z)) ?_, rfl⟩
      first | exact (am_bT (Or.inl (by assumption))).symm | exact (am_bT (Or.inr (Int32.not_lt.mp (by assumption)))).symm | exact (am_bF (fun q => q.elim (by assumption) (fun q => Int32.not_le.mpr (by assumption) q))).symm
theorem sx_boardAt_B (sc : am_Sc) (r0 : Int32) (hr : 0 ≤ r0) (hr2 : r0 < 20) (nu la me tc ts : Nat → Int32) (pe : Int32) (rd pr pv sa pd lo : Int32) (bo co sh se si er of_ bi bt so : Nat → Int32) (B0 B1 B2 B3 B4 : List am_E) (Bs : am_M) : am_Rn sc 41 (0, am_entry 41 [.ref 192, .int r0], [], B0 :: B1 :: B2 :: B3 :: B4 :: bkRules 160 nu la me tc ts pe :: bkRoom 192 160 rd pr pv sa pd lo bo co sh se si er of_ bi bt so :: Bs) (fun r M' => r = some (.int (bo r0.toNatClampNeg)) ∧ M' = B0 :: B1 :: B2 :: B3 :: B4 :: bkRules 160 nu la me tc ts pe :: bkRoom 192 160 rd pr pv sa pd lo bo co sh se si er of_ bi bt so :: Bs) := by
  show am_Rn sc 41 (0, [some (.ref 192), some (.int r0)], [], _) _
  refine am_Rn.go (t := am_t41) rfl 2 rfl ⟨trivial, trivial, trivial⟩ ?_
  refine am_Rn.brF (by (simp only [Int32.lt_iff_toInt_lt, Int32.le_iff_toInt_le, ← Int32.toInt_inj, Int32.reduceToInt, Int32.not_lt, Int32.not_le] at *; omega)) ?_
  refine am_Rn.go (t := am_t41) rfl 3 rfl ⟨trivial, trivial, trivial, trivial⟩ ?_
  refine am_Rn.brF (by (simp only [Int32.lt_iff_toInt_lt, Int32.le_iff_toInt_le, ← Int32.toInt_inj, Int32.reduceToInt, Int32.not_lt, Int32.not_le] at *; omega)) ?_
  refine am_Rn.go (t := am_t41) rfl 5 rfl ⟨trivial, trivial, trivial, (by exact am_inb20 hr hr2), trivial, trivial⟩ ?_
  refine am_Rn.ret (t := am_t41) rfl rfl trivial ?_
  exact ⟨rfl, rfl⟩
end
section
/-! ===== what the room does, as mathematics ===== -/
def sp_byLaw (nu : Nat → Int32) (rd pr pv law n : Int32) : Int32 :=
  if law = 1 then pr + n * (pr - pv) / 10
  else if law = 2 then (if nu 0 - rd ≤ n then 0 else (if sp_worth nu rd < pr then pr else sp_worth nu rd) + 1)
  else if law = 3 then n
  else if law = 4 then (pr + sp_worth nu rd) / 2 + n
  else sp_worth nu rd
def sp_lid (nu : Nat → Int32) : Int32 := if nu 7 ≤ 0 then 999 else nu 7
def sp_lim (nu : Nat → Int32) (v : Int32) : Int32 := if 0 < (if v < sp_lid nu then v else sp_lid nu) then (if v < sp_lid nu then v else sp_lid nu) else 0
def sp_val (nu la me se : Nat → Int32) (rd pr pv : Int32) (p : Nat) : Int32 :=
  sp_lim nu (if 0 < se p ∧ (la p = 1 ∨ la p = 4) then sp_byLaw nu rd pr pv 2 (2 * se p) else sp_byLaw nu rd pr pv (la p) (me p))
def sp_pay (sh : Nat → Int32) (each : Int32) (p : Nat) (co : Nat → Int32) : Nat → Int32 := upd co p (co p + sh p * each)
def sp_over (bi : Nat → Int32) (o : Option Nat) (p : Nat) : Bool := match o with
  | none => true
  | some q => decide (bi q < bi p)
def sp_under (bi : Nat → Int32) (o : Option Nat) (p : Nat) : Bool := match o with
  | none => true
  | some q => decide (bi p < bi q)
/-- the first of those with the greatest number, of those that may -/
def sp_bestB (may : Nat → Bool) (bi : Nat → Int32) (p : Nat) (o : Option Nat) : Option Nat := if (may p && sp_over bi o p) = true then some p else o
def sp_bestS (may : Nat → Bool) (bi : Nat → Int32) (p : Nat) (o : Option Nat) : Option Nat := if (may p && sp_under bi o p) = true then some p else o
def sp_mayB (nu co bi bt : Nat → Int32) (p : Nat) : Bool := decide (bt p < 2) && decide (bi p + nu 8 ≤ co p + nu 5)
def sp_mayS (nu sh so : Nat → Int32) (b : Option Nat) (p : Nat) : Bool := decide (so p < 2) && decide (0 < sh p + nu 6) && decide (b ≠ some p)
def am_on (d : Int32) (o : Option Nat) : Int32 := match o with
  | none => d
  | some q => Int32.ofNat q
theorem sp_bestB_lt (may : Nat → Bool) (bi : Nat → Int32) : ∀ (n q : Nat), am_fold n (sp_bestB may bi) none = some q → q < n := by
  intro n
  induction n with
  | zero => intro q h; cases h
  | succ n ih =>
    intro q h
    change (if (may n && sp_over bi (am_fold n (sp_bestB may bi) none) n) = true then some n else am_fold n (sp_bestB may bi) none) = some q at h
    by_cases hc : (may n && sp_over bi (am_fold n (sp_bestB may bi) none) n) = true
    · rw [if_pos hc] at h
      cases h
      omega
    · rw [if_neg hc] at h
      have := ih q h
      omega
theorem sp_bestS_lt (may : Nat → Bool) (bi : Nat → Int32) : ∀ (n q : Nat), am_fold n (sp_bestS may bi) none = some q → q < n := by
  intro n
  induction n with
  | zero => intro q h; cases h
  | succ n ih =>
    intro q h
    change (if (may n && sp_under bi (am_fold n (sp_bestS may bi) none) n) = true then some n else am_fold n (sp_bestS may bi) none) = some q at h
    by_cases hc : (may n && sp_under bi (am_fold n (sp_bestS may bi) none) n) = true
    · rw [if_pos hc] at h
      cases h
      omega
    · rw [if_neg hc] at h
      have := ih q h
      omega
theorem am_fold_succ {α : Type} (n : Nat) (f : Nat → α → α) (a : α) : am_fold (n + 1) f a = f n (am_fold n f a) := rfl
theorem sp_bestB_T {may : Nat → Bool} {bi : Nat → Int32} {p : Nat} {o : Option Nat} (h : (may p && sp_over bi o p) = true) : sp_bestB may bi p o = some p := if_pos h
theorem sp_bestB_F {may : Nat → Bool} {bi : Nat → Int32} {p : Nat} {o : Option Nat} (h : ¬ (may p && sp_over bi o p) = true) : sp_bestB may bi p o = o := if_neg h
theorem sp_bestS_T {may : Nat → Bool} {bi : Nat → Int32} {p : Nat} {o : Option Nat} (h : (may p && sp_under bi o p) = true) : sp_bestS may bi p o = some p := if_pos h
theorem sp_bestS_F {may : Nat → Bool} {bi : Nat → Int32} {p : Nat} {o : Option Nat} (h : ¬ (may p && sp_under bi o p) = true) : sp_bestS may bi p o = o := if_neg h
end
section
theorem sx_valueBy_A (sc : am_Sc) (law n : Int32) (nu la me tc ts : Nat → Int32) (pe : Int32) (rd pr pv sa pd lo : Int32) (bo co sh se si er of_ bi bt so : Nat → Int32) (B0 B2 B3 : List am_E) (Bs : am_M) : am_Rn sc 33 (0, am_entry 33 [.ref 128, .int law, .int n], [], B0 :: bkRules 32 nu la me tc ts pe :: B2 :: B3 :: bkRoom 128 32 rd pr pv sa pd lo bo co sh se si er of_ bi bt so :: Bs) (fun r M' => r = some (.int (sp_byLaw nu rd pr pv law n)) ∧ M' = B0 :: bkRules 32 nu la me tc ts pe :: B2 :: B3 :: bkRoom 128 32 rd pr pv sa pd lo bo co sh se si er of_ bi bt so :: Bs) := by
  show am_Rn sc 33 (0, [some (.ref 128), some (.int law), some (.int n), none], [], _) _
  refine am_Rn.go (t := am_t33) rfl 4 rfl ⟨trivial, trivial, trivial, trivial, trivial⟩ ?_
  refine am_Rn.call (t := am_t33) rfl rfl (sx_worthIn_t ..) ?_
  rintro _ _ ⟨rfl, rfl⟩
  refine am_Rn.go (t := am_t33) rfl 3 rfl ⟨trivial, trivial, trivial, trivial⟩ ?_
  refine am_Rn.br (fun h1_0 => ?_) (fun h1_0 => ?_)
  · skip
    refine am_Rn.go (t := am_t33) rfl 12 rfl ⟨trivial, trivial, trivial, trivial, trivial, trivial, trivial, trivial, trivial, trivial, (by decide), trivial, trivial⟩ ?_
    refine am_Rn.ret (t := am_t33) rfl rfl trivial ?_
    refine ⟨congrArg (fun z => some (Value.int z)) ?_, rfl⟩
    (try simp only [Int32.reduceToNatClampNeg] at *)
    unfold sp_byLaw
    (first | simp only [if_pos (show law = 1 by (simp only [Int32.lt_iff_toInt_lt, Int32.le_iff_toInt_le, ← Int32.toInt_inj, Int32.reduceToInt, Int32.not_lt, Int32.not_le] at *; omega))] | simp only [if_neg (show ¬ (law = 1) by (simp only [Int32.lt_iff_toInt_lt, Int32.le_iff_toInt_le, ← Int32.toInt_inj, Int32.reduceToInt, Int32.not_lt, Int32.not_le] at *; omega))] | skip)
    (first | simp only [if_pos (show law = 2 by (simp only [Int32.lt_iff_toInt_lt, Int32.le_iff_toInt_le, ← Int32.toInt_inj, Int32.reduceToInt, Int32.not_lt, Int32.not_le] at *; omega))] | simp only [if_neg (show ¬ (law = 2) by (simp only [Int32.lt_iff_toInt_lt, Int32.le_iff_toInt_le, ← Int32.toInt_inj, Int32.reduceToInt, Int32.not_lt, Int32.not_le] at *; omega))] | skip)
    (first | simp only [if_pos (show nu 0 - rd ≤ n by (simp only [Int32.lt_iff_toInt_lt, Int32.le_iff_toInt_le, ← Int32.toInt_inj, Int32.reduceToInt, Int32.not_lt, Int32.not_le] at *; omega))] | simp only [if_neg (show ¬ (nu 0 - rd ≤ n) by (simp only [Int32.lt_iff_toInt_lt, Int32.le_iff_toInt_le, ← Int32.toInt_inj, Int32.reduceToInt, Int32.not_lt, Int32.not_le] at *; omega))] | skip)
    (first | simp only [if_pos (show law = 3 by (simp only [Int32.lt_iff_toInt_lt, Int32.le_iff_toInt_le, ← Int32.toInt_inj, Int32.reduceToInt, Int32.not_lt, Int32.not_le] at *; omega))] | simp only [if_neg (show ¬ (law = 3) by (simp only [Int32.lt_iff_toInt_lt, Int32.le_iff_toInt_le, ← Int32.toInt_inj, Int32.reduceToInt, Int32.not_lt, Int32.not_le] at *; omega))] | skip)
    (first | simp only [if_pos (show law = 4 by (simp only [Int32.lt_iff_toInt_lt, Int32.le_iff_toInt_le, ← Int32.toInt_inj, Int32.reduceToInt, Int32.not_lt, Int32.not_le] at *; omega))] | simp only [if_neg (show ¬ (law = 4) by (simp only [Int32.lt_iff_toInt_lt, Int32.le_iff_toInt_le, ← Int32.toInt_inj, Int32.reduceToInt, Int32.not_lt, Int32.not_le] at *; omega))] | skip)
    (try rfl)
  refine am_Rn.br (fun h1_1 => ?_) (fun h1_1 => ?_)
  · skip
    refine am_Rn.go (t := am_t33) rfl 10 rfl ⟨trivial, trivial, trivial, trivial, (by first | exact am_inb_lit rfl | exact am_inb_of (by omega) (by omega)), trivial, trivial, trivial, trivial, trivial, trivial⟩ ?_
    refine am_Rn.br (fun h2 => ?_) (fun h2 => ?_)
    · skip
      refine am_Rn.go (t := am_t33) rfl 1 rfl ⟨trivial, trivial⟩ ?_
      refine am_Rn.ret (t := am_t33) rfl rfl trivial ?_
      refine ⟨congrArg (fun z => some (Value.int z)) ?_, rfl⟩
      (try simp only [Int32.reduceToNatClampNeg] at *)
      unfold sp_byLaw
      (first | simp only [if_pos (show law = 1 by (simp only [Int32.lt_iff_toInt_lt, Int32.le_iff_toInt_le, ← Int32.toInt_inj, Int32.reduceToInt, Int32.not_lt, Int32.not_le] at *; omega))] | simp only [if_neg (show ¬ (law = 1) by (simp only [Int32.lt_iff_toInt_lt, Int32.le_iff_toInt_le, ← Int32.toInt_inj, Int32.reduceToInt, Int32.not_lt, Int32.not_le] at *; omega))] | skip)
      (first | simp only [if_pos (show law = 2 by (simp only [Int32.lt_iff_toInt_lt, Int32.le_iff_toInt_le, ← Int32.toInt_inj, Int32.reduceToInt, Int32.not_lt, Int32.not_le] at *; omega))] | simp only [if_neg (show ¬ (law = 2) by (simp only [Int32.lt_iff_toInt_lt, Int32.le_iff_toInt_le, ← Int32.toInt_inj, Int32.reduceToInt, Int32.not_lt, Int32.not_le] at *; omega))] | skip)
      (first | simp only [if_pos (show nu 0 - rd ≤ n by (simp only [Int32.lt_iff_toInt_lt, Int32.le_iff_toInt_le, ← Int32.toInt_inj, Int32.reduceToInt, Int32.not_lt, Int32.not_le] at *; omega))] | simp only [if_neg (show ¬ (nu 0 - rd ≤ n) by (simp only [Int32.lt_iff_toInt_lt, Int32.le_iff_toInt_le, ← Int32.toInt_inj, Int32.reduceToInt, Int32.not_lt, Int32.not_le] at *; omega))] | skip)
      (first | simp only [if_pos (show law = 3 by (simp only [Int32.lt_iff_toInt_lt, Int32.le_iff_toInt_le, ← Int32.toInt_inj, Int32.reduceToInt, Int32.not_lt, Int32.not_le] at *; omega))] | simp only [if_neg (show ¬ (law = 3) by (simp only [Int32.lt_iff_toInt_lt, Int32.le_iff_toInt_le, ← Int32.toInt_inj, Int32.reduceToInt, Int32.not_lt, Int32.not_le] at *; omega))] | skip)
      (first | simp only [if_pos (show law = 4 by (simp only [Int32.lt_iff_toInt_lt, Int32.le_iff_toInt_le, ← Int32.toInt_inj, Int32.reduceToInt, Int32.not_lt, Int32.not_le] at *; omega))] | simp only [if_neg (show ¬ (law = 4) by (simp only [Int32.lt_iff_toInt_lt, Int32.le_iff_toInt_le, ← Int32.toInt_inj, Int32.reduceToInt, Int32.not_lt, Int32.not_le] at *; omega))] | skip)
      (try rfl)
    · skip
      refine am_Rn.go (t := am_t33) rfl 7 rfl ⟨trivial, trivial, trivial, trivial, trivial, trivial, trivial, trivial⟩ ?_
      refine am_Rn.ret (t := am_t33) rfl rfl trivial ?_
      refine ⟨congrArg (fun z => some (Value.int z)) ?_, rfl⟩
      (try simp only [Int32.reduceToNatClampNeg] at *)
      unfold sp_byLaw
      (first | simp only [if_pos (show law = 1 by (simp only [Int32.lt_iff_toInt_lt, Int32.le_iff_toInt_le, ← Int32.toInt_inj, Int32.reduceToInt, Int32.not_lt, Int32.not_le] at *; omega))] | simp only [if_neg (show ¬ (law = 1) by (simp only [Int32.lt_iff_toInt_lt, Int32.le_iff_toInt_le, ← Int32.toInt_inj, Int32.reduceToInt, Int32.not_lt, Int32.not_le] at *; omega))] | skip)
      (first | simp only [if_pos (show law = 2 by (simp only [Int32.lt_iff_toInt_lt, Int32.le_iff_toInt_le, ← Int32.toInt_inj, Int32.reduceToInt, Int32.not_lt, Int32.not_le] at *; omega))] | simp only [if_neg (show ¬ (law = 2) by (simp only [Int32.lt_iff_toInt_lt, Int32.le_iff_toInt_le, ← Int32.toInt_inj, Int32.reduceToInt, Int32.not_lt, Int32.not_le] at *; omega))] | skip)
      (first | simp only [if_pos (show nu 0 - rd ≤ n by (simp only [Int32.lt_iff_toInt_lt, Int32.le_iff_toInt_le, ← Int32.toInt_inj, Int32.reduceToInt, Int32.not_lt, Int32.not_le] at *; omega))] | simp only [if_neg (show ¬ (nu 0 - rd ≤ n) by (simp only [Int32.lt_iff_toInt_lt, Int32.le_iff_toInt_le, ← Int32.toInt_inj, Int32.reduceToInt, Int32.not_lt, Int32.not_le] at *; omega))] | skip)
      (first | simp only [if_pos (show law = 3 by (simp only [Int32.lt_iff_toInt_lt, Int32.le_iff_toInt_le, ← Int32.toInt_inj, Int32.reduceToInt, Int32.not_lt, Int32.not_le] at *; omega))] | simp only [if_neg (show ¬ (law = 3) by (simp only [Int32.lt_iff_toInt_lt, Int32.le_iff_toInt_le, ← Int32.toInt_inj, Int32.reduceToInt, Int32.not_lt, Int32.not_le] at *; omega))] | skip)
      (first | simp only [if_pos (show law = 4 by (simp only [Int32.lt_iff_toInt_lt, Int32.le_iff_toInt_le, ← Int32.toInt_inj, Int32.reduceToInt, Int32.not_lt, Int32.not_le] at *; omega))] | simp only [if_neg (show ¬ (law = 4) by (simp only [Int32.lt_iff_toInt_lt, Int32.le_iff_toInt_le, ← Int32.toInt_inj, Int32.reduceToInt, Int32.not_lt, Int32.not_le] at *; omega))] | skip)
      (try rfl)
  refine am_Rn.br (fun h1_2 => ?_) (fun h1_2 => ?_)
  · skip
    refine am_Rn.go (t := am_t33) rfl 1 rfl ⟨trivial, trivial⟩ ?_
    refine am_Rn.ret (t := am_t33) rfl rfl trivial ?_
    refine ⟨congrArg (fun z => some (Value.int z)) ?_, rfl⟩
    (try simp only [Int32.reduceToNatClampNeg] at *)
    unfold sp_byLaw
    (first | simp only [if_pos (show law = 1 by (simp only [Int32.lt_iff_toInt_lt, Int32.le_iff_toInt_le, ← Int32.toInt_inj, Int32.reduceToInt, Int32.not_lt, Int32.not_le] at *; omega))] | simp only [if_neg (show ¬ (law = 1) by (simp only [Int32.lt_iff_toInt_lt, Int32.le_iff_toInt_le, ← Int32.toInt_inj, Int32.reduceToInt, Int32.not_lt, Int32.not_le] at *; omega))] | skip)
    (first | simp only [if_pos (show law = 2 by (simp only [Int32.lt_iff_toInt_lt, Int32.le_iff_toInt_le, ← Int32.toInt_inj, Int32.reduceToInt, Int32.not_lt, Int32.not_le] at *; omega))] | simp only [if_neg (show ¬ (law = 2) by (simp only [Int32.lt_iff_toInt_lt, Int32.le_iff_toInt_le, ← Int32.toInt_inj, Int32.reduceToInt, Int32.not_lt, Int32.not_le] at *; omega))] | skip)
    (first | simp only [if_pos (show nu 0 - rd ≤ n by (simp only [Int32.lt_iff_toInt_lt, Int32.le_iff_toInt_le, ← Int32.toInt_inj, Int32.reduceToInt, Int32.not_lt, Int32.not_le] at *; omega))] | simp only [if_neg (show ¬ (nu 0 - rd ≤ n) by (simp only [Int32.lt_iff_toInt_lt, Int32.le_iff_toInt_le, ← Int32.toInt_inj, Int32.reduceToInt, Int32.not_lt, Int32.not_le] at *; omega))] | skip)
    (first | simp only [if_pos (show law = 3 by (simp only [Int32.lt_iff_toInt_lt, Int32.le_iff_toInt_le, ← Int32.toInt_inj, Int32.reduceToInt, Int32.not_lt, Int32.not_le] at *; omega))] | simp only [if_neg (show ¬ (law = 3) by (simp only [Int32.lt_iff_toInt_lt, Int32.le_iff_toInt_le, ← Int32.toInt_inj, Int32.reduceToInt, Int32.not_lt, Int32.not_le] at *; omega))] | skip)
    (first | simp only [if_pos (show law = 4 by (simp only [Int32.lt_iff_toInt_lt, Int32.le_iff_toInt_le, ← Int32.toInt_inj, Int32.reduceToInt, Int32.not_lt, Int32.not_le] at *; omega))] | simp only [if_neg (show ¬ (law = 4) by (simp only [Int32.lt_iff_toInt_lt, Int32.le_iff_toInt_le, ← Int32.toInt_inj, Int32.reduceToInt, Int32.not_lt, Int32.not_le] at *; omega))] | skip)
    (try rfl)
  refine am_Rn.br (fun h1_3 => ?_) (fun h1_3 => ?_)
  · skip
    refine am_Rn.go (t := am_t33) rfl 8 rfl ⟨trivial, trivial, trivial, trivial, trivial, (by decide), trivial, trivial, trivial⟩ ?_
    refine am_Rn.ret (t := am_t33) rfl rfl trivial ?_
    refine ⟨congrArg (fun z => some (Value.int z)) ?_, rfl⟩
    (try simp only [Int32.reduceToNatClampNeg] at *)
    unfold sp_byLaw
    (first | simp only [if_pos (show law = 1 by (simp only [Int32.lt_iff_toInt_lt, Int32.le_iff_toInt_le, ← Int32.toInt_inj, Int32.reduceToInt, Int32.not_lt, Int32.not_le] at *; omega))] | simp only [if_neg (show ¬ (law = 1) by (simp only [Int32.lt_iff_toInt_lt, Int32.le_iff_toInt_le, ← Int32.toInt_inj, Int32.reduceToInt, Int32.not_lt, Int32.not_le] at *; omega))] | skip)
    (first | simp only [if_pos (show law = 2 by (simp only [Int32.lt_iff_toInt_lt, Int32.le_iff_toInt_le, ← Int32.toInt_inj, Int32.reduceToInt, Int32.not_lt, Int32.not_le] at *; omega))] | simp only [if_neg (show ¬ (law = 2) by (simp only [Int32.lt_iff_toInt_lt, Int32.le_iff_toInt_le, ← Int32.toInt_inj, Int32.reduceToInt, Int32.not_lt, Int32.not_le] at *; omega))] | skip)
    (first | simp only [if_pos (show nu 0 - rd ≤ n by (simp only [Int32.lt_iff_toInt_lt, Int32.le_iff_toInt_le, ← Int32.toInt_inj, Int32.reduceToInt, Int32.not_lt, Int32.not_le] at *; omega))] | simp only [if_neg (show ¬ (nu 0 - rd ≤ n) by (simp only [Int32.lt_iff_toInt_lt, Int32.le_iff_toInt_le, ← Int32.toInt_inj, Int32.reduceToInt, Int32.not_lt, Int32.not_le] at *; omega))] | skip)
    (first | simp only [if_pos (show law = 3 by (simp only [Int32.lt_iff_toInt_lt, Int32.le_iff_toInt_le, ← Int32.toInt_inj, Int32.reduceToInt, Int32.not_lt, Int32.not_le] at *; omega))] | simp only [if_neg (show ¬ (law = 3) by (simp only [Int32.lt_iff_toInt_lt, Int32.le_iff_toInt_le, ← Int32.toInt_inj, Int32.reduceToInt, Int32.not_lt, Int32.not_le] at *; omega))] | skip)
    (first | simp only [if_pos (show law = 4 by (simp only [Int32.lt_iff_toInt_lt, Int32.le_iff_toInt_le, ← Int32.toInt_inj, Int32.reduceToInt, Int32.not_lt, Int32.not_le] at *; omega))] | simp only [if_neg (show ¬ (law = 4) by (simp only [Int32.lt_iff_toInt_lt, Int32.le_iff_toInt_le, ← Int32.toInt_inj, Int32.reduceToInt, Int32.not_lt, Int32.not_le] at *; omega))] | skip)
    (try rfl)
  refine am_Rn.go (t := am_t33) rfl 1 rfl ⟨trivial, trivial⟩ ?_
  refine am_Rn.ret (t := am_t33) rfl rfl trivial ?_
  refine ⟨congrArg (fun z => some (Value.int z)) ?_, rfl⟩
  (try simp only [Int32.reduceToNatClampNeg] at *)
  unfold sp_byLaw
  (first | simp only [if_pos (show law = 1 by (simp only [Int32.lt_iff_toInt_lt, Int32.le_iff_toInt_le, ← Int32.toInt_inj, Int32.reduceToInt, Int32.not_lt, Int32.not_le] at *; omega))] | simp only [if_neg (show ¬ (law = 1) by (simp only [Int32.lt_iff_toInt_lt, Int32.le_iff_toInt_le, ← Int32.toInt_inj, Int32.reduceToInt, Int32.not_lt, Int32.not_le] at *; omega))] | skip)
  (first | simp only [if_pos (show law = 2 by (simp only [Int32.lt_iff_toInt_lt, Int32.le_iff_toInt_le, ← Int32.toInt_inj, Int32.reduceToInt, Int32.not_lt, Int32.not_le] at *; omega))] | simp only [if_neg (show ¬ (law = 2) by (simp only [Int32.lt_iff_toInt_lt, Int32.le_iff_toInt_le, ← Int32.toInt_inj, Int32.reduceToInt, Int32.not_lt, Int32.not_le] at *; omega))] | skip)
  (first | simp only [if_pos (show nu 0 - rd ≤ n by (simp only [Int32.lt_iff_toInt_lt, Int32.le_iff_toInt_le, ← Int32.toInt_inj, Int32.reduceToInt, Int32.not_lt, Int32.not_le] at *; omega))] | simp only [if_neg (show ¬ (nu 0 - rd ≤ n) by (simp only [Int32.lt_iff_toInt_lt, Int32.le_iff_toInt_le, ← Int32.toInt_inj, Int32.reduceToInt, Int32.not_lt, Int32.not_le] at *; omega))] | skip)
  (first | simp only [if_pos (show law = 3 by (simp only [Int32.lt_iff_toInt_lt, Int32.le_iff_toInt_le, ← Int32.toInt_inj, Int32.reduceToInt, Int32.not_lt, Int32.not_le] at *; omega))] | simp only [if_neg (show ¬ (law = 3) by (simp only [Int32.lt_iff_toInt_lt, Int32.le_iff_toInt_le, ← Int32.toInt_inj, Int32.reduceToInt, Int32.not_lt, Int32.not_le] at *; omega))] | skip)
  (first | simp only [if_pos (show law = 4 by (simp only [Int32.lt_iff_toInt_lt, Int32.le_iff_toInt_le, ← Int32.toInt_inj, Int32.reduceToInt, Int32.not_lt, Int32.not_le] at *; omega))] | simp only [if_neg (show ¬ (law = 4) by (simp only [Int32.lt_iff_toInt_lt, Int32.le_iff_toInt_le, ← Int32.toInt_inj, Int32.reduceToInt, Int32.not_lt, Int32.not_le] at *; omega))] | skip)
  (try rfl)
theorem sx_valueOf_A (sc : am_Sc) (q : Nat) (hq : q < 9) (nu la me tc ts : Nat → Int32) (pe : Int32) (rd pr pv sa pd lo : Int32) (bo co sh se si er of_ bi bt so : Nat → Int32) (B0 B2 B3 : List am_E) (Bs : am_M) : am_Rn sc 32 (0, am_entry 32 [.ref 128, .int (Int32.ofNat q)], [], B0 :: bkRules 32 nu la me tc ts pe :: B2 :: B3 :: bkRoom 128 32 rd pr pv sa pd lo bo co sh se si er of_ bi bt so :: Bs) (fun r M' => r = some (.int (sp_val nu la me se rd pr pv q)) ∧ M' = B0 :: bkRules 32 nu la me tc ts pe :: B2 :: B3 :: bkRoom 128 32 rd pr pv sa pd lo bo co sh se si er of_ bi bt so :: Bs) := by
  show am_Rn sc 32 (0, [some (.ref 128), some (.int (Int32.ofNat q)), none, none, none], [], _) _
  have e1 : (Int32.ofNat q).toNatClampNeg = q := am_tn q (by omega)
  refine am_Rn.go (t := am_t32) rfl 17 rfl ⟨trivial, trivial, trivial, trivial, (by first | exact am_inb_lit rfl | exact am_inb_of (by omega) (by omega)), trivial, trivial, trivial, trivial, trivial, (by first | exact am_inb_lit rfl | exact am_inb_of (by omega) (by omega)), trivial, trivial, trivial, trivial, (by first | exact am_inb_lit rfl | exact am_inb_of (by omega) (by omega)), trivial, trivial⟩ ?_
  refine am_Rn.br (fun h1 => ?_) (fun h1 => ?_)
  · skip
    refine am_Rn.go (t := am_t32) rfl 6 rfl ⟨trivial, trivial, trivial, trivial, (by first | exact am_inb_lit rfl | exact am_inb_of (by omega) (by omega)), trivial, trivial⟩ ?_
    refine am_Rn.br (fun h2 => ?_) (fun h2 => ?_)
    · skip
      refine am_Rn.go (t := am_t32) rfl 7 rfl ⟨trivial, trivial, trivial, trivial, trivial, trivial, trivial, trivial⟩ ?_
      refine am_Rn.call (t := am_t32) rfl rfl (sx_valueBy_A ..) ?_
      rintro _ _ ⟨rfl, rfl⟩
      refine am_Rn.go (t := am_t32) rfl 2 rfl ⟨trivial, trivial, trivial⟩ ?_
      refine am_Rn.ret (t := am_t32) rfl rfl trivial ?_
      refine ⟨congrArg (fun z => some (Value.int z)) ?_, rfl⟩
      (try simp only [e1, Int32.reduceToNatClampNeg] at *)
      unfold sp_val
      (first | simp only [if_pos (show 0 < se q ∧ (la q = 1 ∨ la q = 4) by (simp only [Int32.lt_iff_toInt_lt, Int32.le_iff_toInt_le, ← Int32.toInt_inj, Int32.reduceToInt, Int32.not_lt, Int32.not_le] at *; omega))] | simp only [if_neg (show ¬ (0 < se q ∧ (la q = 1 ∨ la q = 4)) by (simp only [Int32.lt_iff_toInt_lt, Int32.le_iff_toInt_le, ← Int32.toInt_inj, Int32.reduceToInt, Int32.not_lt, Int32.not_le] at *; omega))] | skip)
      unfold sp_lim sp_lid
      (first | simp only [if_pos (show nu 7 ≤ 0 by (simp only [Int32.lt_iff_toInt_lt, Int32.le_iff_toInt_le, ← Int32.toInt_inj, Int32.reduceToInt, Int32.not_lt, Int32.not_le] at *; omega))] | simp only [if_neg (show ¬ (nu 7 ≤ 0) by (simp only [Int32.lt_iff_toInt_lt, Int32.le_iff_toInt_le, ← Int32.toInt_inj, Int32.reduceToInt, Int32.not_lt, Int32.not_le] at *; omega))] | skip)
      (try rfl)
    · skip
      refine am_Rn.go (t := am_t32) rfl 12 rfl ⟨trivial, trivial, trivial, trivial, (by first | exact am_inb_lit rfl | exact am_inb_of (by omega) (by omega)), trivial, trivial, trivial, trivial, trivial, trivial, trivial, trivial⟩ ?_
      refine am_Rn.call (t := am_t32) rfl rfl (sx_valueBy_A ..) ?_
      rintro _ _ ⟨rfl, rfl⟩
      refine am_Rn.go (t := am_t32) rfl 2 rfl ⟨trivial, trivial, trivial⟩ ?_
      refine am_Rn.ret (t := am_t32) rfl rfl trivial ?_
      refine ⟨congrArg (fun z => some (Value.int z)) ?_, rfl⟩
      (try simp only [e1, Int32.reduceToNatClampNeg] at *)
      unfold sp_val
      (first | simp only [if_pos (show 0 < se q ∧ (la q = 1 ∨ la q = 4) by (simp only [Int32.lt_iff_toInt_lt, Int32.le_iff_toInt_le, ← Int32.toInt_inj, Int32.reduceToInt, Int32.not_lt, Int32.not_le] at *; omega))] | simp only [if_neg (show ¬ (0 < se q ∧ (la q = 1 ∨ la q = 4)) by (simp only [Int32.lt_iff_toInt_lt, Int32.le_iff_toInt_le, ← Int32.toInt_inj, Int32.reduceToInt, Int32.not_lt, Int32.not_le] at *; omega))] | skip)
      unfold sp_lim sp_lid
      (first | simp only [if_pos (show nu 7 ≤ 0 by (simp only [Int32.lt_iff_toInt_lt, Int32.le_iff_toInt_le, ← Int32.toInt_inj, Int32.reduceToInt, Int32.not_lt, Int32.not_le] at *; omega))] | simp only [if_neg (show ¬ (nu 7 ≤ 0) by (simp only [Int32.lt_iff_toInt_lt, Int32.le_iff_toInt_le, ← Int32.toInt_inj, Int32.reduceToInt, Int32.not_lt, Int32.not_le] at *; omega))] | skip)
      (try rfl)
  · skip
    refine am_Rn.go (t := am_t32) rfl 3 rfl ⟨trivial, trivial, trivial, trivial⟩ ?_
    refine am_Rn.br (fun h3 => ?_) (fun h3 => ?_)
    · skip
      refine am_Rn.go (t := am_t32) rfl 15 rfl ⟨trivial, trivial, trivial, trivial, trivial, trivial, (by first | exact am_inb_lit rfl | exact am_inb_of (by omega) (by omega)), trivial, trivial, trivial, trivial, trivial, trivial, (by first | exact am_inb_lit rfl | exact am_inb_of (by omega) (by omega)), trivial, trivial⟩ ?_
      refine am_Rn.br (fun h4 => ?_) (fun h4 => ?_)
      · skip
        refine am_Rn.go (t := am_t32) rfl 7 rfl ⟨trivial, trivial, trivial, trivial, trivial, trivial, trivial, trivial⟩ ?_
        refine am_Rn.call (t := am_t32) rfl rfl (sx_valueBy_A ..) ?_
        rintro _ _ ⟨rfl, rfl⟩
        refine am_Rn.go (t := am_t32) rfl 2 rfl ⟨trivial, trivial, trivial⟩ ?_
        refine am_Rn.ret (t := am_t32) rfl rfl trivial ?_
        refine ⟨congrArg (fun z => some (Value.int z)) ?_, rfl⟩
        (try simp only [e1, Int32.reduceToNatClampNeg] at *)
        unfold sp_val
        (first | simp only [if_pos (show 0 < se q ∧ (la q = 1 ∨ la q = 4) by (simp only [Int32.lt_iff_toInt_lt, Int32.le_iff_toInt_le, ← Int32.toInt_inj, Int32.reduceToInt, Int32.not_lt, Int32.not_le] at *; omega))] | simp only [if_neg (show ¬ (0 < se q ∧ (la q = 1 ∨ la q = 4)) by (simp only [Int32.lt_iff_toInt_lt, Int32.le_iff_toInt_le, ← Int32.toInt_inj, Int32.reduceToInt, Int32.not_lt, Int32.not_le] at *; omega))] | skip)
        unfold sp_lim sp_lid
        (first | simp only [if_pos (show nu 7 ≤ 0 by (simp only [Int32.lt_iff_toInt_lt, Int32.le_iff_toInt_le, ← Int32.toInt_inj, Int32.reduceToInt, Int32.not_lt, Int32.not_le] at *; omega))] | simp only [if_neg (show ¬ (nu 7 ≤ 0) by (simp only [Int32.lt_iff_toInt_lt, Int32.le_iff_toInt_le, ← Int32.toInt_inj, Int32.reduceToInt, Int32.not_lt, Int32.not_le] at *; omega))] | skip)
        (try rfl)
      · skip
        refine am_Rn.go (t := am_t32) rfl 12 rfl ⟨trivial, trivial, trivial, trivial, (by first | exact am_inb_lit rfl | exact am_inb_of (by omega) (by omega)), trivial, trivial, trivial, trivial, trivial, trivial, trivial, trivial⟩ ?_
        refine am_Rn.call (t := am_t32) rfl rfl (sx_valueBy_A ..) ?_
        rintro _ _ ⟨rfl, rfl⟩
        refine am_Rn.go (t := am_t32) rfl 2 rfl ⟨trivial, trivial, trivial⟩ ?_
        refine am_Rn.ret (t := am_t32) rfl rfl trivial ?_
        refine ⟨congrArg (fun z => some (Value.int z)) ?_, rfl⟩
        (try simp only [e1, Int32.reduceToNatClampNeg] at *)
        unfold sp_val
        (first | simp only [if_pos (show 0 < se q ∧ (la q = 1 ∨ la q = 4) by (simp only [Int32.lt_iff_toInt_lt, Int32.le_iff_toInt_le, ← Int32.toInt_inj, Int32.reduceToInt, Int32.not_lt, Int32.not_le] at *; omega))] | simp only [if_neg (show ¬ (0 < se q ∧ (la q = 1 ∨ la q = 4)) by (simp only [Int32.lt_iff_toInt_lt, Int32.le_iff_toInt_le, ← Int32.toInt_inj, Int32.reduceToInt, Int32.not_lt, Int32.not_le] at *; omega))] | skip)
        unfold sp_lim sp_lid
        (first | simp only [if_pos (show nu 7 ≤ 0 by (simp only [Int32.lt_iff_toInt_lt, Int32.le_iff_toInt_le, ← Int32.toInt_inj, Int32.reduceToInt, Int32.not_lt, Int32.not_le] at *; omega))] | simp only [if_neg (show ¬ (nu 7 ≤ 0) by (simp only [Int32.lt_iff_toInt_lt, Int32.le_iff_toInt_le, ← Int32.toInt_inj, Int32.reduceToInt, Int32.not_lt, Int32.not_le] at *; omega))] | skip)
        (try rfl)
    · skip
      refine am_Rn.go (t := am_t32) rfl 3 rfl ⟨trivial, trivial, trivial, trivial⟩ ?_
      refine am_Rn.br (fun h5 => ?_) (fun h5 => ?_)
      · skip
        refine am_Rn.go (t := am_t32) rfl 15 rfl ⟨trivial, trivial, trivial, trivial, trivial, trivial, (by first | exact am_inb_lit rfl | exact am_inb_of (by omega) (by omega)), trivial, trivial, trivial, trivial, trivial, trivial, (by first | exact am_inb_lit rfl | exact am_inb_of (by omega) (by omega)), trivial, trivial⟩ ?_
        refine am_Rn.br (fun h6 => ?_) (fun h6 => ?_)
        · skip
          refine am_Rn.go (t := am_t32) rfl 7 rfl ⟨trivial, trivial, trivial, trivial, trivial, trivial, trivial, trivial⟩ ?_
          refine am_Rn.call (t := am_t32) rfl rfl (sx_valueBy_A ..) ?_
          rintro _ _ ⟨rfl, rfl⟩
          refine am_Rn.go (t := am_t32) rfl 2 rfl ⟨trivial, trivial, trivial⟩ ?_
          refine am_Rn.ret (t := am_t32) rfl rfl trivial ?_
          refine ⟨congrArg (fun z => some (Value.int z)) ?_, rfl⟩
          (try simp only [e1, Int32.reduceToNatClampNeg] at *)
          unfold sp_val
          (first | simp only [if_pos (show 0 < se q ∧ (la q = 1 ∨ la q = 4) by (simp only [Int32.lt_iff_toInt_lt, Int32.le_iff_toInt_le, ← Int32.toInt_inj, Int32.reduceToInt, Int32.not_lt, Int32.not_le] at *; omega))] | simp only [if_neg (show ¬ (0 < se q ∧ (la q = 1 ∨ la q = 4)) by (simp only [Int32.lt_iff_toInt_lt, Int32.le_iff_toInt_le, ← Int32.toInt_inj, Int32.reduceToInt, Int32.not_lt, Int32.not_le] at *; omega))] | skip)
          unfold sp_lim sp_lid
          (first | simp only [if_pos (show nu 7 ≤ 0 by (simp only [Int32.lt_iff_toInt_lt, Int32.le_iff_toInt_le, ← Int32.toInt_inj, Int32.reduceToInt, Int32.not_lt, Int32.not_le] at *; omega))] | simp only [if_neg (show ¬ (nu 7 ≤ 0) by (simp only [Int32.lt_iff_toInt_lt, Int32.le_iff_toInt_le, ← Int32.toInt_inj, Int32.reduceToInt, Int32.not_lt, Int32.not_le] at *; omega))] | skip)
          (try rfl)
        · skip
          refine am_Rn.go (t := am_t32) rfl 12 rfl ⟨trivial, trivial, trivial, trivial, (by first | exact am_inb_lit rfl | exact am_inb_of (by omega) (by omega)), trivial, trivial, trivial, trivial, trivial, trivial, trivial, trivial⟩ ?_
          refine am_Rn.call (t := am_t32) rfl rfl (sx_valueBy_A ..) ?_
          rintro _ _ ⟨rfl, rfl⟩
          refine am_Rn.go (t := am_t32) rfl 2 rfl ⟨trivial, trivial, trivial⟩ ?_
          refine am_Rn.ret (t := am_t32) rfl rfl trivial ?_
          refine ⟨congrArg (fun z => some (Value.int z)) ?_, rfl⟩
          (try simp only [e1, Int32.reduceToNatClampNeg] at *)
          unfold sp_val
          (first | simp only [if_pos (show 0 < se q ∧ (la q = 1 ∨ la q = 4) by (simp only [Int32.lt_iff_toInt_lt, Int32.le_iff_toInt_le, ← Int32.toInt_inj, Int32.reduceToInt, Int32.not_lt, Int32.not_le] at *; omega))] | simp only [if_neg (show ¬ (0 < se q ∧ (la q = 1 ∨ la q = 4)) by (simp only [Int32.lt_iff_toInt_lt, Int32.le_iff_toInt_le, ← Int32.toInt_inj, Int32.reduceToInt, Int32.not_lt, Int32.not_le] at *; omega))] | skip)
          unfold sp_lim sp_lid
          (first | simp only [if_pos (show nu 7 ≤ 0 by (simp only [Int32.lt_iff_toInt_lt, Int32.le_iff_toInt_le, ← Int32.toInt_inj, Int32.reduceToInt, Int32.not_lt, Int32.not_le] at *; omega))] | simp only [if_neg (show ¬ (nu 7 ≤ 0) by (simp only [Int32.lt_iff_toInt_lt, Int32.le_iff_toInt_le, ← Int32.toInt_inj, Int32.reduceToInt, Int32.not_lt, Int32.not_le] at *; omega))] | skip)
          (try rfl)
      · skip
        refine am_Rn.go (t := am_t32) rfl 6 rfl ⟨trivial, trivial, trivial, trivial, (by first | exact am_inb_lit rfl | exact am_inb_of (by omega) (by omega)), trivial, trivial⟩ ?_
        refine am_Rn.br (fun h7 => ?_) (fun h7 => ?_)
        · skip
          refine am_Rn.go (t := am_t32) rfl 7 rfl ⟨trivial, trivial, trivial, trivial, trivial, trivial, trivial, trivial⟩ ?_
          refine am_Rn.call (t := am_t32) rfl rfl (sx_valueBy_A ..) ?_
          rintro _ _ ⟨rfl, rfl⟩
          refine am_Rn.go (t := am_t32) rfl 2 rfl ⟨trivial, trivial, trivial⟩ ?_
          refine am_Rn.ret (t := am_t32) rfl rfl trivial ?_
          refine ⟨congrArg (fun z => some (Value.int z)) ?_, rfl⟩
          (try simp only [e1, Int32.reduceToNatClampNeg] at *)
          unfold sp_val
          (first | simp only [if_pos (show 0 < se q ∧ (la q = 1 ∨ la q = 4) by (simp only [Int32.lt_iff_toInt_lt, Int32.le_iff_toInt_le, ← Int32.toInt_inj, Int32.reduceToInt, Int32.not_lt, Int32.not_le] at *; omega))] | simp only [if_neg (show ¬ (0 < se q ∧ (la q = 1 ∨ la q = 4)) by (simp only [Int32.lt_iff_toInt_lt, Int32.le_iff_toInt_le, ← Int32.toInt_inj, Int32.reduceToInt, Int32.not_lt, Int32.not_le] at *; omega))] | skip)
          unfold sp_lim sp_lid
          (first | simp only [if_pos (show nu 7 ≤ 0 by (simp only [Int32.lt_iff_toInt_lt, Int32.le_iff_toInt_le, ← Int32.toInt_inj, Int32.reduceToInt, Int32.not_lt, Int32.not_le] at *; omega))] | simp only [if_neg (show ¬ (nu 7 ≤ 0) by (simp only [Int32.lt_iff_toInt_lt, Int32.le_iff_toInt_le, ← Int32.toInt_inj, Int32.reduceToInt, Int32.not_lt, Int32.not_le] at *; omega))] | skip)
          (try rfl)
        · skip
          refine am_Rn.go (t := am_t32) rfl 12 rfl ⟨trivial, trivial, trivial, trivial, (by first | exact am_inb_lit rfl | exact am_inb_of (by omega) (by omega)), trivial, trivial, trivial, trivial, trivial, trivial, trivial, trivial⟩ ?_
          refine am_Rn.call (t := am_t32) rfl rfl (sx_valueBy_A ..) ?_
          rintro _ _ ⟨rfl, rfl⟩
          refine am_Rn.go (t := am_t32) rfl 2 rfl ⟨trivial, trivial, trivial⟩ ?_
          refine am_Rn.ret (t := am_t32) rfl rfl trivial ?_
          refine ⟨congrArg (fun z => some (Value.int z)) ?_, rfl⟩
          (try simp only [e1, Int32.reduceToNatClampNeg] at *)
          unfold sp_val
          (first | simp only [if_pos (show 0 < se q ∧ (la q = 1 ∨ la q = 4) by (simp only [Int32.lt_iff_toInt_lt, Int32.le_iff_toInt_le, ← Int32.toInt_inj, Int32.reduceToInt, Int32.not_lt, Int32.not_le] at *; omega))] | simp only [if_neg (show ¬ (0 < se q ∧ (la q = 1 ∨ la q = 4)) by (simp only [Int32.lt_iff_toInt_lt, Int32.le_iff_toInt_le, ← Int32.toInt_inj, Int32.reduceToInt, Int32.not_lt, Int32.not_le] at *; omega))] | skip)
          unfold sp_lim sp_lid
          (first | simp only [if_pos (show nu 7 ≤ 0 by (simp only [Int32.lt_iff_toInt_lt, Int32.le_iff_toInt_le, ← Int32.toInt_inj, Int32.reduceToInt, Int32.not_lt, Int32.not_le] at *; omega))] | simp only [if_neg (show ¬ (nu 7 ≤ 0) by (simp only [Int32.lt_iff_toInt_lt, Int32.le_iff_toInt_le, ← Int32.toInt_inj, Int32.reduceToInt, Int32.not_lt, Int32.not_le] at *; omega))] | skip)
          (try rfl)
theorem sx_payEach_A (sc : am_Sc) (each : Int32) (nu la me tc ts : Nat → Int32) (P : Nat) (hP : P ≤ 9) (rd pr pv sa pd lo : Int32) (bo co sh se si er of_ bi bt so : Nat → Int32) (B0 B2 B3 : List am_E) (Bs : am_M) : am_Rn sc 39 (0, am_entry 39 [.ref 128, .int each], [], B0 :: bkRules 32 nu la me tc ts (Int32.ofNat P) :: B2 :: B3 :: bkRoom 128 32 rd pr pv sa pd lo bo co sh se si er of_ bi bt so :: Bs) (fun r M' => r = none ∧ M' = B0 :: bkRules 32 nu la me tc ts (Int32.ofNat P) :: B2 :: B3 :: bkRoom 128 32 rd pr pv sa (pd + each) lo bo (am_fold P (sp_pay sh each) co) sh se si er of_ bi bt so :: Bs) := by
  show am_Rn sc 39 (0, [some (.ref 128), some (.int each), none], [], _) _
  have L : ∀ (d i : Nat), i + d = P → am_Rn sc 39 (8, [some (.ref 128), some (.int each), some (.int (Int32.ofNat i))], [], B0 :: bkRules 32 nu la me tc ts (Int32.ofNat P) :: B2 :: B3 :: bkRoom 128 32 rd pr pv sa (pd + each) lo bo (am_fold i (sp_pay sh each) co) sh se si er of_ bi bt so :: Bs) (fun r M' => r = none ∧ M' = B0 :: bkRules 32 nu la me tc ts (Int32.ofNat P) :: B2 :: B3 :: bkRoom 128 32 rd pr pv sa (pd + each) lo bo (am_fold P (sp_pay sh each) co) sh se si er of_ bi bt so :: Bs) := by
    intro d
    induction d with
    | zero =>
      intro i  hi
      obtain rfl : i = P := by omega
      refine am_Rn.go (t := am_t39) rfl 5 rfl ⟨trivial, trivial, trivial, trivial, trivial, trivial⟩ ?_
      refine am_Rn.brT (by first | exact (am_le (by omega) (by omega)).mpr (Nat.le_refl _) | exact fun q => absurd ((am_lt (by omega) (by omega)).mp q) (Nat.lt_irrefl _)) ?_
      refine am_Rn.ret (t := am_t39) rfl rfl trivial ?_
      exact ⟨rfl, rfl⟩
    | succ d ih =>
      intro i  hi
      have hiP : i < P := by omega
      have e1 : (Int32.ofNat i).toNatClampNeg = i := am_tn i (by omega)
      refine am_Rn.go (t := am_t39) rfl 5 rfl ⟨trivial, trivial, trivial, trivial, trivial, trivial⟩ ?_
      refine am_Rn.brF (by first | exact fun q => absurd ((am_le (by omega) (by omega)).mp q) (by omega) | exact (am_lt (by omega) (by omega)).mpr hiP) ?_
      refine am_Rn.go (t := am_t39) rfl 15 rfl ⟨trivial, trivial, trivial, trivial, (by first | exact am_inb_lit rfl | exact am_inb_of (by omega) (by omega)), trivial, trivial, trivial, (by first | exact am_inb_lit rfl | exact am_inb_of (by omega) (by omega)), trivial, trivial, trivial, (by first | exact am_inb_lit rfl | exact am_inb_of (by omega) (by omega)), trivial, trivial, trivial⟩ ?_
      have g := ih (i + 1) (by omega)
      rw [← am_inc] at g
      simp only [e1]
      exact g
  refine am_Rn.go (t := am_t39) rfl 8 rfl ⟨trivial, trivial, trivial, trivial, trivial, trivial, trivial, trivial, trivial⟩ ?_
  exact L P 0 (by omega)
theorem sx_valueBy_B (sc : am_Sc) (law n : Int32) (nu la me tc ts : Nat → Int32) (pe : Int32) (rd pr pv sa pd lo : Int32) (bo co sh se si er of_ bi bt so : Nat → Int32) (B0 B1 B2 B3 B4 : List am_E) (Bs : am_M) : am_Rn sc 33 (0, am_entry 33 [.ref 192, .int law, .int n], [], B0 :: B1 :: B2 :: B3 :: B4 :: bkRules 160 nu la me tc ts pe :: bkRoom 192 160 rd pr pv sa pd lo bo co sh se si er of_ bi bt so :: Bs) (fun r M' => r = some (.int (sp_byLaw nu rd pr pv law n)) ∧ M' = B0 :: B1 :: B2 :: B3 :: B4 :: bkRules 160 nu la me tc ts pe :: bkRoom 192 160 rd pr pv sa pd lo bo co sh se si er of_ bi bt so :: Bs) := by
  show am_Rn sc 33 (0, [some (.ref 192), some (.int law), some (.int n), none], [], _) _
  refine am_Rn.go (t := am_t33) rfl 4 rfl ⟨trivial, trivial, trivial, trivial, trivial⟩ ?_
  refine am_Rn.call (t := am_t33) rfl rfl (sx_worthIn_v ..) ?_
  rintro _ _ ⟨rfl, rfl⟩
  refine am_Rn.go (t := am_t33) rfl 3 rfl ⟨trivial, trivial, trivial, trivial⟩ ?_
  refine am_Rn.br (fun h1_0 => ?_) (fun h1_0 => ?_)
  · skip
    refine am_Rn.go (t := am_t33) rfl 12 rfl ⟨trivial, trivial, trivial, trivial, trivial, trivial, trivial, trivial, trivial, trivial, (by decide), trivial, trivial⟩ ?_
    refine am_Rn.ret (t := am_t33) rfl rfl trivial ?_
    refine ⟨congrArg (fun z => some (Value.int z)) ?_, rfl⟩
    (try simp only [Int32.reduceToNatClampNeg] at *)
    unfold sp_byLaw
    (first | simp only [if_pos (show law = 1 by (simp only [Int32.lt_iff_toInt_lt, Int32.le_iff_toInt_le, ← Int32.toInt_inj, Int32.reduceToInt, Int32.not_lt, Int32.not_le] at *; omega))] | simp only [if_neg (show ¬ (law = 1) by (simp only [Int32.lt_iff_toInt_lt, Int32.le_iff_toInt_le, ← Int32.toInt_inj, Int32.reduceToInt, Int32.not_lt, Int32.not_le] at *; omega))] | skip)
    (first | simp only [if_pos (show law = 2 by (simp only [Int32.lt_iff_toInt_lt, Int32.le_iff_toInt_le, ← Int32.toInt_inj, Int32.reduceToInt, Int32.not_lt, Int32.not_le] at *; omega))] | simp only [if_neg (show ¬ (law = 2) by (simp only [Int32.lt_iff_toInt_lt, Int32.le_iff_toInt_le, ← Int32.toInt_inj, Int32.reduceToInt, Int32.not_lt, Int32.not_le] at *; omega))] | skip)
    (first | simp only [if_pos (show nu 0 - rd ≤ n by (simp only [Int32.lt_iff_toInt_lt, Int32.le_iff_toInt_le, ← Int32.toInt_inj, Int32.reduceToInt, Int32.not_lt, Int32.not_le] at *; omega))] | simp only [if_neg (show ¬ (nu 0 - rd ≤ n) by (simp only [Int32.lt_iff_toInt_lt, Int32.le_iff_toInt_le, ← Int32.toInt_inj, Int32.reduceToInt, Int32.not_lt, Int32.not_le] at *; omega))] | skip)
    (first | simp only [if_pos (show law = 3 by (simp only [Int32.lt_iff_toInt_lt, Int32.le_iff_toInt_le, ← Int32.toInt_inj, Int32.reduceToInt, Int32.not_lt, Int32.not_le] at *; omega))] | simp only [if_neg (show ¬ (law = 3) by (simp only [Int32.lt_iff_toInt_lt, Int32.le_iff_toInt_le, ← Int32.toInt_inj, Int32.reduceToInt, Int32.not_lt, Int32.not_le] at *; omega))] | skip)
    (first | simp only [if_pos (show law = 4 by (simp only [Int32.lt_iff_toInt_lt, Int32.le_iff_toInt_le, ← Int32.toInt_inj, Int32.reduceToInt, Int32.not_lt, Int32.not_le] at *; omega))] | simp only [if_neg (show ¬ (law = 4) by (simp only [Int32.lt_iff_toInt_lt, Int32.le_iff_toInt_le, ← Int32.toInt_inj, Int32.reduceToInt, Int32.not_lt, Int32.not_le] at *; omega))] | skip)
    (try rfl)
  refine am_Rn.br (fun h1_1 => ?_) (fun h1_1 => ?_)
  · skip
    refine am_Rn.go (t := am_t33) rfl 10 rfl ⟨trivial, trivial, trivial, trivial, (by first | exact am_inb_lit rfl | exact am_inb_of (by omega) (by omega)), trivial, trivial, trivial, trivial, trivial, trivial⟩ ?_
    refine am_Rn.br (fun h2 => ?_) (fun h2 => ?_)
    · skip
      refine am_Rn.go (t := am_t33) rfl 1 rfl ⟨trivial, trivial⟩ ?_
      refine am_Rn.ret (t := am_t33) rfl rfl trivial ?_
      refine ⟨congrArg (fun z => some (Value.int z)) ?_, rfl⟩
      (try simp only [Int32.reduceToNatClampNeg] at *)
      unfold sp_byLaw
      (first | simp only [if_pos (show law = 1 by (simp only [Int32.lt_iff_toInt_lt, Int32.le_iff_toInt_le, ← Int32.toInt_inj, Int32.reduceToInt, Int32.not_lt, Int32.not_le] at *; omega))] | simp only [if_neg (show ¬ (law = 1) by (simp only [Int32.lt_iff_toInt_lt, Int32.le_iff_toInt_le, ← Int32.toInt_inj, Int32.reduceToInt, Int32.not_lt, Int32.not_le] at *; omega))] | skip)
      (first | simp only [if_pos (show law = 2 by (simp only [Int32.lt_iff_toInt_lt, Int32.le_iff_toInt_le, ← Int32.toInt_inj, Int32.reduceToInt, Int32.not_lt, Int32.not_le] at *; omega))] | simp only [if_neg (show ¬ (law = 2) by (simp only [Int32.lt_iff_toInt_lt, Int32.le_iff_toInt_le, ← Int32.toInt_inj, Int32.reduceToInt, Int32.not_lt, Int32.not_le] at *; omega))] | skip)
      (first | simp only [if_pos (show nu 0 - rd ≤ n by (simp only [Int32.lt_iff_toInt_lt, Int32.le_iff_toInt_le, ← Int32.toInt_inj, Int32.reduceToInt, Int32.not_lt, Int32.not_le] at *; omega))] | simp only [if_neg (show ¬ (nu 0 - rd ≤ n) by (simp only [Int32.lt_iff_toInt_lt, Int32.le_iff_toInt_le, ← Int32.toInt_inj, Int32.reduceToInt, Int32.not_lt, Int32.not_le] at *; omega))] | skip)
      (first | simp only [if_pos (show law = 3 by (simp only [Int32.lt_iff_toInt_lt, Int32.le_iff_toInt_le, ← Int32.toInt_inj, Int32.reduceToInt, Int32.not_lt, Int32.not_le] at *; omega))] | simp only [if_neg (show ¬ (law = 3) by (simp only [Int32.lt_iff_toInt_lt, Int32.le_iff_toInt_le, ← Int32.toInt_inj, Int32.reduceToInt, Int32.not_lt, Int32.not_le] at *; omega))] | skip)
      (first | simp only [if_pos (show law = 4 by (simp only [Int32.lt_iff_toInt_lt, Int32.le_iff_toInt_le, ← Int32.toInt_inj, Int32.reduceToInt, Int32.not_lt, Int32.not_le] at *; omega))] | simp only [if_neg (show ¬ (law = 4) by (simp only [Int32.lt_iff_toInt_lt, Int32.le_iff_toInt_le, ← Int32.toInt_inj, Int32.reduceToInt, Int32.not_lt, Int32.not_le] at *; omega))] | skip)
      (try rfl)
    · skip
      refine am_Rn.go (t := am_t33) rfl 7 rfl ⟨trivial, trivial, trivial, trivial, trivial, trivial, trivial, trivial⟩ ?_
      refine am_Rn.ret (t := am_t33) rfl rfl trivial ?_
      refine ⟨congrArg (fun z => some (Value.int z)) ?_, rfl⟩
      (try simp only [Int32.reduceToNatClampNeg] at *)
      unfold sp_byLaw
      (first | simp only [if_pos (show law = 1 by (simp only [Int32.lt_iff_toInt_lt, Int32.le_iff_toInt_le, ← Int32.toInt_inj, Int32.reduceToInt, Int32.not_lt, Int32.not_le] at *; omega))] | simp only [if_neg (show ¬ (law = 1) by (simp only [Int32.lt_iff_toInt_lt, Int32.le_iff_toInt_le, ← Int32.toInt_inj, Int32.reduceToInt, Int32.not_lt, Int32.not_le] at *; omega))] | skip)
      (first | simp only [if_pos (show law = 2 by (simp only [Int32.lt_iff_toInt_lt, Int32.le_iff_toInt_le, ← Int32.toInt_inj, Int32.reduceToInt, Int32.not_lt, Int32.not_le] at *; omega))] | simp only [if_neg (show ¬ (law = 2) by (simp only [Int32.lt_iff_toInt_lt, Int32.le_iff_toInt_le, ← Int32.toInt_inj, Int32.reduceToInt, Int32.not_lt, Int32.not_le] at *; omega))] | skip)
      (first | simp only [if_pos (show nu 0 - rd ≤ n by (simp only [Int32.lt_iff_toInt_lt, Int32.le_iff_toInt_le, ← Int32.toInt_inj, Int32.reduceToInt, Int32.not_lt, Int32.not_le] at *; omega))] | simp only [if_neg (show ¬ (nu 0 - rd ≤ n) by (simp only [Int32.lt_iff_toInt_lt, Int32.le_iff_toInt_le, ← Int32.toInt_inj, Int32.reduceToInt, Int32.not_lt, Int32.not_le] at *; omega))] | skip)
      (first | simp only [if_pos (show law = 3 by (simp only [Int32.lt_iff_toInt_lt, Int32.le_iff_toInt_le, ← Int32.toInt_inj, Int32.reduceToInt, Int32.not_lt, Int32.not_le] at *; omega))] | simp only [if_neg (show ¬ (law = 3) by (simp only [Int32.lt_iff_toInt_lt, Int32.le_iff_toInt_le, ← Int32.toInt_inj, Int32.reduceToInt, Int32.not_lt, Int32.not_le] at *; omega))] | skip)
      (first | simp only [if_pos (show law = 4 by (simp only [Int32.lt_iff_toInt_lt, Int32.le_iff_toInt_le, ← Int32.toInt_inj, Int32.reduceToInt, Int32.not_lt, Int32.not_le] at *; omega))] | simp only [if_neg (show ¬ (law = 4) by (simp only [Int32.lt_iff_toInt_lt, Int32.le_iff_toInt_le, ← Int32.toInt_inj, Int32.reduceToInt, Int32.not_lt, Int32.not_le] at *; omega))] | skip)
      (try rfl)
  refine am_Rn.br (fun h1_2 => ?_) (fun h1_2 => ?_)
  · skip
    refine am_Rn.go (t := am_t33) rfl 1 rfl ⟨trivial, trivial⟩ ?_
    refine am_Rn.ret (t := am_t33) rfl rfl trivial ?_
    refine ⟨congrArg (fun z => some (Value.int z)) ?_, rfl⟩
    (try simp only [Int32.reduceToNatClampNeg] at *)
    unfold sp_byLaw
    (first | simp only [if_pos (show law = 1 by (simp only [Int32.lt_iff_toInt_lt, Int32.le_iff_toInt_le, ← Int32.toInt_inj, Int32.reduceToInt, Int32.not_lt, Int32.not_le] at *; omega))] | simp only [if_neg (show ¬ (law = 1) by (simp only [Int32.lt_iff_toInt_lt, Int32.le_iff_toInt_le, ← Int32.toInt_inj, Int32.reduceToInt, Int32.not_lt, Int32.not_le] at *; omega))] | skip)
    (first | simp only [if_pos (show law = 2 by (simp only [Int32.lt_iff_toInt_lt, Int32.le_iff_toInt_le, ← Int32.toInt_inj, Int32.reduceToInt, Int32.not_lt, Int32.not_le] at *; omega))] | simp only [if_neg (show ¬ (law = 2) by (simp only [Int32.lt_iff_toInt_lt, Int32.le_iff_toInt_le, ← Int32.toInt_inj, Int32.reduceToInt, Int32.not_lt, Int32.not_le] at *; omega))] | skip)
    (first | simp only [if_pos (show nu 0 - rd ≤ n by (simp only [Int32.lt_iff_toInt_lt, Int32.le_iff_toInt_le, ← Int32.toInt_inj, Int32.reduceToInt, Int32.not_lt, Int32.not_le] at *; omega))] | simp only [if_neg (show ¬ (nu 0 - rd ≤ n) by (simp only [Int32.lt_iff_toInt_lt, Int32.le_iff_toInt_le, ← Int32.toInt_inj, Int32.reduceToInt, Int32.not_lt, Int32.not_le] at *; omega))] | skip)
    (first | simp only [if_pos (show law = 3 by (simp only [Int32.lt_iff_toInt_lt, Int32.le_iff_toInt_le, ← Int32.toInt_inj, Int32.reduceToInt, Int32.not_lt, Int32.not_le] at *; omega))] | simp only [if_neg (show ¬ (law = 3) by (simp only [Int32.lt_iff_toInt_lt, Int32.le_iff_toInt_le, ← Int32.toInt_inj, Int32.reduceToInt, Int32.not_lt, Int32.not_le] at *; omega))] | skip)
    (first | simp only [if_pos (show law = 4 by (simp only [Int32.lt_iff_toInt_lt, Int32.le_iff_toInt_le, ← Int32.toInt_inj, Int32.reduceToInt, Int32.not_lt, Int32.not_le] at *; omega))] | simp only [if_neg (show ¬ (law = 4) by (simp only [Int32.lt_iff_toInt_lt, Int32.le_iff_toInt_le, ← Int32.toInt_inj, Int32.reduceToInt, Int32.not_lt, Int32.not_le] at *; omega))] | skip)
    (try rfl)
  refine am_Rn.br (fun h1_3 => ?_) (fun h1_3 => ?_)
  · skip
    refine am_Rn.go (t := am_t33) rfl 8 rfl ⟨trivial, trivial, trivial, trivial, trivial, (by decide), trivial, trivial, trivial⟩ ?_
    refine am_Rn.ret (t := am_t33) rfl rfl trivial ?_
    refine ⟨congrArg (fun z => some (Value.int z)) ?_, rfl⟩
    (try simp only [Int32.reduceToNatClampNeg] at *)
    unfold sp_byLaw
    (first | simp only [if_pos (show law = 1 by (simp only [Int32.lt_iff_toInt_lt, Int32.le_iff_toInt_le, ← Int32.toInt_inj, Int32.reduceToInt, Int32.not_lt, Int32.not_le] at *; omega))] | simp only [if_neg (show ¬ (law = 1) by (simp only [Int32.lt_iff_toInt_lt, Int32.le_iff_toInt_le, ← Int32.toInt_inj, Int32.reduceToInt, Int32.not_lt, Int32.not_le] at *; omega))] | skip)
    (first | simp only [if_pos (show law = 2 by (simp only [Int32.lt_iff_toInt_lt, Int32.le_iff_toInt_le, ← Int32.toInt_inj, Int32.reduceToInt, Int32.not_lt, Int32.not_le] at *; omega))] | simp only [if_neg (show ¬ (law = 2) by (simp only [Int32.lt_iff_toInt_lt, Int32.le_iff_toInt_le, ← Int32.toInt_inj, Int32.reduceToInt, Int32.not_lt, Int32.not_le] at *; omega))] | skip)
    (first | simp only [if_pos (show nu 0 - rd ≤ n by (simp only [Int32.lt_iff_toInt_lt, Int32.le_iff_toInt_le, ← Int32.toInt_inj, Int32.reduceToInt, Int32.not_lt, Int32.not_le] at *; omega))] | simp only [if_neg (show ¬ (nu 0 - rd ≤ n) by (simp only [Int32.lt_iff_toInt_lt, Int32.le_iff_toInt_le, ← Int32.toInt_inj, Int32.reduceToInt, Int32.not_lt, Int32.not_le] at *; omega))] | skip)
    (first | simp only [if_pos (show law = 3 by (simp only [Int32.lt_iff_toInt_lt, Int32.le_iff_toInt_le, ← Int32.toInt_inj, Int32.reduceToInt, Int32.not_lt, Int32.not_le] at *; omega))] | simp only [if_neg (show ¬ (law = 3) by (simp only [Int32.lt_iff_toInt_lt, Int32.le_iff_toInt_le, ← Int32.toInt_inj, Int32.reduceToInt, Int32.not_lt, Int32.not_le] at *; omega))] | skip)
    (first | simp only [if_pos (show law = 4 by (simp only [Int32.lt_iff_toInt_lt, Int32.le_iff_toInt_le, ← Int32.toInt_inj, Int32.reduceToInt, Int32.not_lt, Int32.not_le] at *; omega))] | simp only [if_neg (show ¬ (law = 4) by (simp only [Int32.lt_iff_toInt_lt, Int32.le_iff_toInt_le, ← Int32.toInt_inj, Int32.reduceToInt, Int32.not_lt, Int32.not_le] at *; omega))] | skip)
    (try rfl)
  refine am_Rn.go (t := am_t33) rfl 1 rfl ⟨trivial, trivial⟩ ?_
  refine am_Rn.ret (t := am_t33) rfl rfl trivial ?_
  refine ⟨congrArg (fun z => some (Value.int z)) ?_, rfl⟩
  (try simp only [Int32.reduceToNatClampNeg] at *)
  unfold sp_byLaw
  (first | simp only [if_pos (show law = 1 by (simp only [Int32.lt_iff_toInt_lt, Int32.le_iff_toInt_le, ← Int32.toInt_inj, Int32.reduceToInt, Int32.not_lt, Int32.not_le] at *; omega))] | simp only [if_neg (show ¬ (law = 1) by (simp only [Int32.lt_iff_toInt_lt, Int32.le_iff_toInt_le, ← Int32.toInt_inj, Int32.reduceToInt, Int32.not_lt, Int32.not_le] at *; omega))] | skip)
  (first | simp only [if_pos (show law = 2 by (simp only [Int32.lt_iff_toInt_lt, Int32.le_iff_toInt_le, ← Int32.toInt_inj, Int32.reduceToInt, Int32.not_lt, Int32.not_le] at *; omega))] | simp only [if_neg (show ¬ (law = 2) by (simp only [Int32.lt_iff_toInt_lt, Int32.le_iff_toInt_le, ← Int32.toInt_inj, Int32.reduceToInt, Int32.not_lt, Int32.not_le] at *; omega))] | skip)
  (first | simp only [if_pos (show nu 0 - rd ≤ n by (simp only [Int32.lt_iff_toInt_lt, Int32.le_iff_toInt_le, ← Int32.toInt_inj, Int32.reduceToInt, Int32.not_lt, Int32.not_le] at *; omega))] | simp only [if_neg (show ¬ (nu 0 - rd ≤ n) by (simp only [Int32.lt_iff_toInt_lt, Int32.le_iff_toInt_le, ← Int32.toInt_inj, Int32.reduceToInt, Int32.not_lt, Int32.not_le] at *; omega))] | skip)
  (first | simp only [if_pos (show law = 3 by (simp only [Int32.lt_iff_toInt_lt, Int32.le_iff_toInt_le, ← Int32.toInt_inj, Int32.reduceToInt, Int32.not_lt, Int32.not_le] at *; omega))] | simp only [if_neg (show ¬ (law = 3) by (simp only [Int32.lt_iff_toInt_lt, Int32.le_iff_toInt_le, ← Int32.toInt_inj, Int32.reduceToInt, Int32.not_lt, Int32.not_le] at *; omega))] | skip)
  (first | simp only [if_pos (show law = 4 by (simp only [Int32.lt_iff_toInt_lt, Int32.le_iff_toInt_le, ← Int32.toInt_inj, Int32.reduceToInt, Int32.not_lt, Int32.not_le] at *; omega))] | simp only [if_neg (show ¬ (law = 4) by (simp only [Int32.lt_iff_toInt_lt, Int32.le_iff_toInt_le, ← Int32.toInt_inj, Int32.reduceToInt, Int32.not_lt, Int32.not_le] at *; omega))] | skip)
  (try rfl)
theorem sx_valueOf_B (sc : am_Sc) (q : Nat) (hq : q < 9) (nu la me tc ts : Nat → Int32) (pe : Int32) (rd pr pv sa pd lo : Int32) (bo co sh se si er of_ bi bt so : Nat → Int32) (B0 B1 B2 B3 B4 : List am_E) (Bs : am_M) : am_Rn sc 32 (0, am_entry 32 [.ref 192, .int (Int32.ofNat q)], [], B0 :: B1 :: B2 :: B3 :: B4 :: bkRules 160 nu la me tc ts pe :: bkRoom 192 160 rd pr pv sa pd lo bo co sh se si er of_ bi bt so :: Bs) (fun r M' => r = some (.int (sp_val nu la me se rd pr pv q)) ∧ M' = B0 :: B1 :: B2 :: B3 :: B4 :: bkRules 160 nu la me tc ts pe :: bkRoom 192 160 rd pr pv sa pd lo bo co sh se si er of_ bi bt so :: Bs) := by
  show am_Rn sc 32 (0, [some (.ref 192), some (.int (Int32.ofNat q)), none, none, none], [], _) _
  have e1 : (Int32.ofNat q).toNatClampNeg = q := am_tn q (by omega)
  refine am_Rn.go (t := am_t32) rfl 17 rfl ⟨trivial, trivial, trivial, trivial, (by first | exact am_inb_lit rfl | exact am_inb_of (by omega) (by omega)), trivial, trivial, trivial, trivial, trivial, (by first | exact am_inb_lit rfl | exact am_inb_of (by omega) (by omega)), trivial, trivial, trivial, trivial, (by first | exact am_inb_lit rfl | exact am_inb_of (by omega) (by omega)), trivial, trivial⟩ ?_
  refine am_Rn.br (fun h1 => ?_) (fun h1 => ?_)
  · skip
    refine am_Rn.go (t := am_t32) rfl 6 rfl ⟨trivial, trivial, trivial, trivial, (by first | exact am_inb_lit rfl | exact am_inb_of (by omega) (by omega)), trivial, trivial⟩ ?_
    refine am_Rn.br (fun h2 => ?_) (fun h2 => ?_)
    · skip
      refine am_Rn.go (t := am_t32) rfl 7 rfl ⟨trivial, trivial, trivial, trivial, trivial, trivial, trivial, trivial⟩ ?_
      refine am_Rn.call (t := am_t32) rfl rfl (sx_valueBy_B ..) ?_
      rintro _ _ ⟨rfl, rfl⟩
      refine am_Rn.go (t := am_t32) rfl 2 rfl ⟨trivial, trivial, trivial⟩ ?_
      refine am_Rn.ret (t := am_t32) rfl rfl trivial ?_
      refine ⟨congrArg (fun z => some (Value.int z)) ?_, rfl⟩
      (try simp only [e1, Int32.reduceToNatClampNeg] at *)
      unfold sp_val
      (first | simp only [if_pos (show 0 < se q ∧ (la q = 1 ∨ la q = 4) by (simp only [Int32.lt_iff_toInt_lt, Int32.le_iff_toInt_le, ← Int32.toInt_inj, Int32.reduceToInt, Int32.not_lt, Int32.not_le] at *; omega))] | simp only [if_neg (show ¬ (0 < se q ∧ (la q = 1 ∨ la q = 4)) by (simp only [Int32.lt_iff_toInt_lt, Int32.le_iff_toInt_le, ← Int32.toInt_inj, Int32.reduceToInt, Int32.not_lt, Int32.not_le] at *; omega))] | skip)
      unfold sp_lim sp_lid
      (first | simp only [if_pos (show nu 7 ≤ 0 by (simp only [Int32.lt_iff_toInt_lt, Int32.le_iff_toInt_le, ← Int32.toInt_inj, Int32.reduceToInt, Int32.not_lt, Int32.not_le] at *; omega))] | simp only [if_neg (show ¬ (nu 7 ≤ 0) by (simp only [Int32.lt_iff_toInt_lt, Int32.le_iff_toInt_le, ← Int32.toInt_inj, Int32.reduceToInt, Int32.not_lt, Int32.not_le] at *; omega))] | skip)
      (try rfl)
    · skip
      refine am_Rn.go (t := am_t32) rfl 12 rfl ⟨trivial, trivial, trivial, trivial, (by first | exact am_inb_lit rfl | exact am_inb_of (by omega) (by omega)), trivial, trivial, trivial, trivial, trivial, trivial, trivial, trivial⟩ ?_
      refine am_Rn.call (t := am_t32) rfl rfl (sx_valueBy_B ..) ?_
      rintro _ _ ⟨rfl, rfl⟩
      refine am_Rn.go (t := am_t32) rfl 2 rfl ⟨trivial, trivial, trivial⟩ ?_
      refine am_Rn.ret (t := am_t32) rfl rfl trivial ?_
      refine ⟨congrArg (fun z => some (Value.int z)) ?_, rfl⟩
      (try simp only [e1, Int32.reduceToNatClampNeg] at *)
      unfold sp_val
      (first | simp only [if_pos (show 0 < se q ∧ (la q = 1 ∨ la q = 4) by (simp only [Int32.lt_iff_toInt_lt, Int32.le_iff_toInt_le, ← Int32.toInt_inj, Int32.reduceToInt, Int32.not_lt, Int32.not_le] at *; omega))] | simp only [if_neg (show ¬ (0 < se q ∧ (la q = 1 ∨ la q = 4)) by (simp only [Int32.lt_iff_toInt_lt, Int32.le_iff_toInt_le, ← Int32.toInt_inj, Int32.reduceToInt, Int32.not_lt, Int32.not_le] at *; omega))] | skip)
      unfold sp_lim sp_lid
      (first | simp only [if_pos (show nu 7 ≤ 0 by (simp only [Int32.lt_iff_toInt_lt, Int32.le_iff_toInt_le, ← Int32.toInt_inj, Int32.reduceToInt, Int32.not_lt, Int32.not_le] at *; omega))] | simp only [if_neg (show ¬ (nu 7 ≤ 0) by (simp only [Int32.lt_iff_toInt_lt, Int32.le_iff_toInt_le, ← Int32.toInt_inj, Int32.reduceToInt, Int32.not_lt, Int32.not_le] at *; omega))] | skip)
      (try rfl)
  · skip
    refine am_Rn.go (t := am_t32) rfl 3 rfl ⟨trivial, trivial, trivial, trivial⟩ ?_
    refine am_Rn.br (fun h3 => ?_) (fun h3 => ?_)
    · skip
      refine am_Rn.go (t := am_t32) rfl 15 rfl ⟨trivial, trivial, trivial, trivial, trivial, trivial, (by first | exact am_inb_lit rfl | exact am_inb_of (by omega) (by omega)), trivial, trivial, trivial, trivial, trivial, trivial, (by first | exact am_inb_lit rfl | exact am_inb_of (by omega) (by omega)), trivial, trivial⟩ ?_
      refine am_Rn.br (fun h4 => ?_) (fun h4 => ?_)
      · skip
        refine am_Rn.go (t := am_t32) rfl 7 rfl ⟨trivial, trivial, trivial, trivial, trivial, trivial, trivial, trivial⟩ ?_
        refine am_Rn.call (t := am_t32) rfl rfl (sx_valueBy_B ..) ?_
        rintro _ _ ⟨rfl, rfl⟩
        refine am_Rn.go (t := am_t32) rfl 2 rfl ⟨trivial, trivial, trivial⟩ ?_
        refine am_Rn.ret (t := am_t32) rfl rfl trivial ?_
        refine ⟨congrArg (fun z => some (Value.int z)) ?_, rfl⟩
        (try simp only [e1, Int32.reduceToNatClampNeg] at *)
        unfold sp_val
        (first | simp only [if_pos (show 0 < se q ∧ (la q = 1 ∨ la q = 4) by (simp only [Int32.lt_iff_toInt_lt, Int32.le_iff_toInt_le, ← Int32.toInt_inj, Int32.reduceToInt, Int32.not_lt, Int32.not_le] at *; omega))] | simp only [if_neg (show ¬ (0 < se q ∧ (la q = 1 ∨ la q = 4)) by (simp only [Int32.lt_iff_toInt_lt, Int32.le_iff_toInt_le, ← Int32.toInt_inj, Int32.reduceToInt, Int32.not_lt, Int32.not_le] at *; omega))] | skip)
        unfold sp_lim sp_lid
        (first | simp only [if_pos (show nu 7 ≤ 0 by (simp only [Int32.lt_iff_toInt_lt, Int32.le_iff_toInt_le, ← Int32.toInt_inj, Int32.reduceToInt, Int32.not_lt, Int32.not_le] at *; omega))] | simp only [if_neg (show ¬ (nu 7 ≤ 0) by (simp only [Int32.lt_iff_toInt_lt, Int32.le_iff_toInt_le, ← Int32.toInt_inj, Int32.reduceToInt, Int32.not_lt, Int32.not_le] at *; omega))] | skip)
        (try rfl)
      · skip
        refine am_Rn.go (t := am_t32) rfl 12 rfl ⟨trivial, trivial, trivial, trivial, (by first | exact am_inb_lit rfl | exact am_inb_of (by omega) (by omega)), trivial, trivial, trivial, trivial, trivial, trivial, trivial, trivial⟩ ?_
        refine am_Rn.call (t := am_t32) rfl rfl (sx_valueBy_B ..) ?_
        rintro _ _ ⟨rfl, rfl⟩
        refine am_Rn.go (t := am_t32) rfl 2 rfl ⟨trivial, trivial, trivial⟩ ?_
        refine am_Rn.ret (t := am_t32) rfl rfl trivial ?_
        refine ⟨congrArg (fun z => some (Value.int z)) ?_, rfl⟩
        (try simp only [e1, Int32.reduceToNatClampNeg] at *)
        unfold sp_val
        (first | simp only [if_pos (show 0 < se q ∧ (la q = 1 ∨ la q = 4) by (simp only [Int32.lt_iff_toInt_lt, Int32.le_iff_toInt_le, ← Int32.toInt_inj, Int32.reduceToInt, Int32.not_lt, Int32.not_le] at *; omega))] | simp only [if_neg (show ¬ (0 < se q ∧ (la q = 1 ∨ la q = 4)) by (simp only [Int32.lt_iff_toInt_lt, Int32.le_iff_toInt_le, ← Int32.toInt_inj, Int32.reduceToInt, Int32.not_lt, Int32.not_le] at *; omega))] | skip)
        unfold sp_lim sp_lid
        (first | simp only [if_pos (show nu 7 ≤ 0 by (simp only [Int32.lt_iff_toInt_lt, Int32.le_iff_toInt_le, ← Int32.toInt_inj, Int32.reduceToInt, Int32.not_lt, Int32.not_le] at *; omega))] | simp only [if_neg (show ¬ (nu 7 ≤ 0) by (simp only [Int32.lt_iff_toInt_lt, Int32.le_iff_toInt_le, ← Int32.toInt_inj, Int32.reduceToInt, Int32.not_lt, Int32.not_le] at *; omega))] | skip)
        (try rfl)
    · skip
      refine am_Rn.go (t := am_t32) rfl 3 rfl ⟨trivial, trivial, trivial, trivial⟩ ?_
      refine am_Rn.br (fun h5 => ?_) (fun h5 => ?_)
      · skip
        refine am_Rn.go (t := am_t32) rfl 15 rfl ⟨trivial, trivial, trivial, trivial, trivial, trivial, (by first | exact am_inb_lit rfl | exact am_inb_of (by omega) (by omega)), trivial, trivial, trivial, trivial, trivial, trivial, (by first | exact am_inb_lit rfl | exact am_inb_of (by omega) (by omega)), trivial, trivial⟩ ?_
        refine am_Rn.br (fun h6 => ?_) (fun h6 => ?_)
        · skip
          refine am_Rn.go (t := am_t32) rfl 7 rfl ⟨trivial, trivial, trivial, trivial, trivial, trivial, trivial, trivial⟩ ?_
          refine am_Rn.call (t := am_t32) rfl rfl (sx_valueBy_B ..) ?_
          rintro _ _ ⟨rfl, rfl⟩
          refine am_Rn.go (t := am_t32) rfl 2 rfl ⟨trivial, trivial, trivial⟩ ?_
          refine am_Rn.ret (t := am_t32) rfl rfl trivial ?_
          refine ⟨congrArg (fun z => some (Value.int z)) ?_, rfl⟩
          (try simp only [e1, Int32.reduceToNatClampNeg] at *)
          unfold sp_val
          (first | simp only [if_pos (show 0 < se q ∧ (la q = 1 ∨ la q = 4) by (simp only [Int32.lt_iff_toInt_lt, Int32.le_iff_toInt_le, ← Int32.toInt_inj, Int32.reduceToInt, Int32.not_lt, Int32.not_le] at *; omega))] | simp only [if_neg (show ¬ (0 < se q ∧ (la q = 1 ∨ la q = 4)) by (simp only [Int32.lt_iff_toInt_lt, Int32.le_iff_toInt_le, ← Int32.toInt_inj, Int32.reduceToInt, Int32.not_lt, Int32.not_le] at *; omega))] | skip)
          unfold sp_lim sp_lid
          (first | simp only [if_pos (show nu 7 ≤ 0 by (simp only [Int32.lt_iff_toInt_lt, Int32.le_iff_toInt_le, ← Int32.toInt_inj, Int32.reduceToInt, Int32.not_lt, Int32.not_le] at *; omega))] | simp only [if_neg (show ¬ (nu 7 ≤ 0) by (simp only [Int32.lt_iff_toInt_lt, Int32.le_iff_toInt_le, ← Int32.toInt_inj, Int32.reduceToInt, Int32.not_lt, Int32.not_le] at *; omega))] | skip)
          (try rfl)
        · skip
          refine am_Rn.go (t := am_t32) rfl 12 rfl ⟨trivial, trivial, trivial, trivial, (by first | exact am_inb_lit rfl | exact am_inb_of (by omega) (by omega)), trivial, trivial, trivial, trivial, trivial, trivial, trivial, trivial⟩ ?_
          refine am_Rn.call (t := am_t32) rfl rfl (sx_valueBy_B ..) ?_
          rintro _ _ ⟨rfl, rfl⟩
          refine am_Rn.go (t := am_t32) rfl 2 rfl ⟨trivial, trivial, trivial⟩ ?_
          refine am_Rn.ret (t := am_t32) rfl rfl trivial ?_
          refine ⟨congrArg (fun z => some (Value.int z)) ?_, rfl⟩
          (try simp only [e1, Int32.reduceToNatClampNeg] at *)
          unfold sp_val
          (first | simp only [if_pos (show 0 < se q ∧ (la q = 1 ∨ la q = 4) by (simp only [Int32.lt_iff_toInt_lt, Int32.le_iff_toInt_le, ← Int32.toInt_inj, Int32.reduceToInt, Int32.not_lt, Int32.not_le] at *; omega))] | simp only [if_neg (show ¬ (0 < se q ∧ (la q = 1 ∨ la q = 4)) by (simp only [Int32.lt_iff_toInt_lt, Int32.le_iff_toInt_le, ← Int32.toInt_inj, Int32.reduceToInt, Int32.not_lt, Int32.not_le] at *; omega))] | skip)
          unfold sp_lim sp_lid
          (first | simp only [if_pos (show nu 7 ≤ 0 by (simp only [Int32.lt_iff_toInt_lt, Int32.le_iff_toInt_le, ← Int32.toInt_inj, Int32.reduceToInt, Int32.not_lt, Int32.not_le] at *; omega))] | simp only [if_neg (show ¬ (nu 7 ≤ 0) by (simp only [Int32.lt_iff_toInt_lt, Int32.le_iff_toInt_le, ← Int32.toInt_inj, Int32.reduceToInt, Int32.not_lt, Int32.not_le] at *; omega))] | skip)
          (try rfl)
      · skip
        refine am_Rn.go (t := am_t32) rfl 6 rfl ⟨trivial, trivial, trivial, trivial, (by first | exact am_inb_lit rfl | exact am_inb_of (by omega) (by omega)), trivial, trivial⟩ ?_
        refine am_Rn.br (fun h7 => ?_) (fun h7 => ?_)
        · skip
          refine am_Rn.go (t := am_t32) rfl 7 rfl ⟨trivial, trivial, trivial, trivial, trivial, trivial, trivial, trivial⟩ ?_
          refine am_Rn.call (t := am_t32) rfl rfl (sx_valueBy_B ..) ?_
          rintro _ _ ⟨rfl, rfl⟩
          refine am_Rn.go (t := am_t32) rfl 2 rfl ⟨trivial, trivial, trivial⟩ ?_
          refine am_Rn.ret (t := am_t32) rfl rfl trivial ?_
          refine ⟨congrArg (fun z => some (Value.int z)) ?_, rfl⟩
          (try simp only [e1, Int32.reduceToNatClampNeg] at *)
          unfold sp_val
          (first | simp only [if_pos (show 0 < se q ∧ (la q = 1 ∨ la q = 4) by (simp only [Int32.lt_iff_toInt_lt, Int32.le_iff_toInt_le, ← Int32.toInt_inj, Int32.reduceToInt, Int32.not_lt, Int32.not_le] at *; omega))] | simp only [if_neg (show ¬ (0 < se q ∧ (la q = 1 ∨ la q = 4)) by (simp only [Int32.lt_iff_toInt_lt, Int32.le_iff_toInt_le, ← Int32.toInt_inj, Int32.reduceToInt, Int32.not_lt, Int32.not_le] at *; omega))] | skip)
          unfold sp_lim sp_lid
          (first | simp only [if_pos (show nu 7 ≤ 0 by (simp only [Int32.lt_iff_toInt_lt, Int32.le_iff_toInt_le, ← Int32.toInt_inj, Int32.reduceToInt, Int32.not_lt, Int32.not_le] at *; omega))] | simp only [if_neg (show ¬ (nu 7 ≤ 0) by (simp only [Int32.lt_iff_toInt_lt, Int32.le_iff_toInt_le, ← Int32.toInt_inj, Int32.reduceToInt, Int32.not_lt, Int32.not_le] at *; omega))] | skip)
          (try rfl)
        · skip
          refine am_Rn.go (t := am_t32) rfl 12 rfl ⟨trivial, trivial, trivial, trivial, (by first | exact am_inb_lit rfl | exact am_inb_of (by omega) (by omega)), trivial, trivial, trivial, trivial, trivial, trivial, trivial, trivial⟩ ?_
          refine am_Rn.call (t := am_t32) rfl rfl (sx_valueBy_B ..) ?_
          rintro _ _ ⟨rfl, rfl⟩
          refine am_Rn.go (t := am_t32) rfl 2 rfl ⟨trivial, trivial, trivial⟩ ?_
          refine am_Rn.ret (t := am_t32) rfl rfl trivial ?_
          refine ⟨congrArg (fun z => some (Value.int z)) ?_, rfl⟩
          (try simp only [e1, Int32.reduceToNatClampNeg] at *)
          unfold sp_val
          (first | simp only [if_pos (show 0 < se q ∧ (la q = 1 ∨ la q = 4) by (simp only [Int32.lt_iff_toInt_lt, Int32.le_iff_toInt_le, ← Int32.toInt_inj, Int32.reduceToInt, Int32.not_lt, Int32.not_le] at *; omega))] | simp only [if_neg (show ¬ (0 < se q ∧ (la q = 1 ∨ la q = 4)) by (simp only [Int32.lt_iff_toInt_lt, Int32.le_iff_toInt_le, ← Int32.toInt_inj, Int32.reduceToInt, Int32.not_lt, Int32.not_le] at *; omega))] | skip)
          unfold sp_lim sp_lid
          (first | simp only [if_pos (show nu 7 ≤ 0 by (simp only [Int32.lt_iff_toInt_lt, Int32.le_iff_toInt_le, ← Int32.toInt_inj, Int32.reduceToInt, Int32.not_lt, Int32.not_le] at *; omega))] | simp only [if_neg (show ¬ (nu 7 ≤ 0) by (simp only [Int32.lt_iff_toInt_lt, Int32.le_iff_toInt_le, ← Int32.toInt_inj, Int32.reduceToInt, Int32.not_lt, Int32.not_le] at *; omega))] | skip)
          (try rfl)
theorem sx_payEach_B (sc : am_Sc) (each : Int32) (nu la me tc ts : Nat → Int32) (P : Nat) (hP : P ≤ 9) (rd pr pv sa pd lo : Int32) (bo co sh se si er of_ bi bt so : Nat → Int32) (B0 B1 B2 B3 B4 : List am_E) (Bs : am_M) : am_Rn sc 39 (0, am_entry 39 [.ref 192, .int each], [], B0 :: B1 :: B2 :: B3 :: B4 :: bkRules 160 nu la me tc ts (Int32.ofNat P) :: bkRoom 192 160 rd pr pv sa pd lo bo co sh se si er of_ bi bt so :: Bs) (fun r M' => r = none ∧ M' = B0 :: B1 :: B2 :: B3 :: B4 :: bkRules 160 nu la me tc ts (Int32.ofNat P) :: bkRoom 192 160 rd pr pv sa (pd + each) lo bo (am_fold P (sp_pay sh each) co) sh se si er of_ bi bt so :: Bs) := by
  show am_Rn sc 39 (0, [some (.ref 192), some (.int each), none], [], _) _
  have L : ∀ (d i : Nat), i + d = P → am_Rn sc 39 (8, [some (.ref 192), some (.int each), some (.int (Int32.ofNat i))], [], B0 :: B1 :: B2 :: B3 :: B4 :: bkRules 160 nu la me tc ts (Int32.ofNat P) :: bkRoom 192 160 rd pr pv sa (pd + each) lo bo (am_fold i (sp_pay sh each) co) sh se si er of_ bi bt so :: Bs) (fun r M' => r = none ∧ M' = B0 :: B1 :: B2 :: B3 :: B4 :: bkRules 160 nu la me tc ts (Int32.ofNat P) :: bkRoom 192 160 rd pr pv sa (pd + each) lo bo (am_fold P (sp_pay sh each) co) sh se si er of_ bi bt so :: Bs) := by
    intro d
    induction d with
    | zero =>
      intro i  hi
      obtain rfl : i = P := by omega
      refine am_Rn.go (t := am_t39) rfl 5 rfl ⟨trivial, trivial, trivial, trivial, trivial, trivial⟩ ?_
      refine am_Rn.brT (by first | exact (am_le (by omega) (by omega)).mpr (Nat.le_refl _) | exact fun q => absurd ((am_lt (by omega) (by omega)).mp q) (Nat.lt_irrefl _)) ?_
      refine am_Rn.ret (t := am_t39) rfl rfl trivial ?_
      exact ⟨rfl, rfl⟩
    | succ d ih =>
      intro i  hi
      have hiP : i < P := by omega
      have e1 : (Int32.ofNat i).toNatClampNeg = i := am_tn i (by omega)
      refine am_Rn.go (t := am_t39) rfl 5 rfl ⟨trivial, trivial, trivial, trivial, trivial, trivial⟩ ?_
      refine am_Rn.brF (by first | exact fun q => absurd ((am_le (by omega) (by omega)).mp q) (by omega) | exact (am_lt (by omega) (by omega)).mpr hiP) ?_
      refine am_Rn.go (t := am_t39) rfl 15 rfl ⟨trivial, trivial, trivial, trivial, (by first | exact am_inb_lit rfl | exact am_inb_of (by omega) (by omega)), trivial, trivial, trivial, (by first | exact am_inb_lit rfl | exact am_inb_of (by omega) (by omega)), trivial, trivial, trivial, (by first | exact am_inb_lit rfl | exact am_inb_of (by omega) (by omega)), trivial, trivial, trivial⟩ ?_
      have g := ih (i + 1) (by omega)
      rw [← am_inc] at g
      simp only [e1]
      exact g
  refine am_Rn.go (t := am_t39) rfl 8 rfl ⟨trivial, trivial, trivial, trivial, trivial, trivial, trivial, trivial, trivial⟩ ?_
  exact L P 0 (by omega)
theorem sx_buyer_A (sc : am_Sc) (nu la me tc ts : Nat → Int32) (P : Nat) (hP : P ≤ 9) (rd pr pv sa pd lo : Int32) (bo co sh se si er of_ bi bt so : Nat → Int32) (B0 B2 B3 : List am_E) (Bs : am_M) : am_Rn sc 37 (0, am_entry 37 [.ref 128], [], B0 :: bkRules 32 nu la me tc ts (Int32.ofNat P) :: B2 :: B3 :: bkRoom 128 32 rd pr pv sa pd lo bo co sh se si er of_ bi bt so :: Bs) (fun r M' => r = some (.int (am_on (-1) (am_fold P (sp_bestB (sp_mayB nu co bi bt) bi) none))) ∧ M' = B0 :: bkRules 32 nu la me tc ts (Int32.ofNat P) :: B2 :: B3 :: bkRoom 128 32 rd pr pv sa pd lo bo co sh se si er of_ bi bt so :: Bs) := by
  show am_Rn sc 37 (0, [some (.ref 128), none, none, none], [], _) _
  have L : ∀ (d i : Nat) (x3 : Option Value), i + d = P → am_Rn sc 37 (4, [some (.ref 128), some (.int (am_on (-1) (am_fold i (sp_bestB (sp_mayB nu co bi bt) bi) none))), some (.int (Int32.ofNat i)), x3], [], B0 :: bkRules 32 nu la me tc ts (Int32.ofNat P) :: B2 :: B3 :: bkRoom 128 32 rd pr pv sa pd lo bo co sh se si er of_ bi bt so :: Bs) (fun r M' => r = some (.int (am_on (-1) (am_fold P (sp_bestB (sp_mayB nu co bi bt) bi) none))) ∧ M' = B0 :: bkRules 32 nu la me tc ts (Int32.ofNat P) :: B2 :: B3 :: bkRoom 128 32 rd pr pv sa pd lo bo co sh se si er of_ bi bt so :: Bs) := by
    intro d
    induction d with
    | zero =>
      intro i x3 hi
      obtain rfl : i = P := by omega
      refine am_Rn.go (t := am_t37) rfl 5 rfl ⟨trivial, trivial, trivial, trivial, trivial, trivial⟩ ?_
      refine am_Rn.brT (by first | exact (am_le (by omega) (by omega)).mpr (Nat.le_refl _) | exact fun q => absurd ((am_lt (by omega) (by omega)).mp q) (Nat.lt_irrefl _)) ?_
      refine am_Rn.go (t := am_t37) rfl 1 rfl ⟨trivial, trivial⟩ ?_
      refine am_Rn.ret (t := am_t37) rfl rfl trivial ?_
      exact ⟨rfl, rfl⟩
    | succ d ih =>
      intro i x3 hi
      have hiP : i < P := by omega
      have e1 : (Int32.ofNat i).toNatClampNeg = i := am_tn i (by omega)
      have hq := sp_bestB_lt (sp_mayB nu co bi bt) bi i
      generalize hF : (am_fold i (sp_bestB (sp_mayB nu co bi bt) bi) none) = o at hq ⊢
      cases o with
      | none =>
        have e2 := e1
        refine am_Rn.go (t := am_t37) rfl 5 rfl ⟨trivial, trivial, trivial, trivial, trivial, trivial⟩ ?_
        refine am_Rn.brF (by first | exact fun q => absurd ((am_le (by omega) (by omega)).mp q) (by omega) | exact (am_lt (by omega) (by omega)).mpr hiP) ?_
        refine am_Rn.go (t := am_t37) rfl 21 rfl ⟨trivial, trivial, trivial, (by first | exact am_inb_lit rfl | exact am_inb_of (by omega) (by omega)), trivial, trivial, trivial, trivial, (by first | exact am_inb_lit rfl | exact am_inb_of (by omega) (by omega)), trivial, trivial, trivial, trivial, (by first | exact am_inb_lit rfl | exact am_inb_of (by omega) (by omega)), trivial, trivial, trivial, trivial, (by first | exact am_inb_lit rfl | exact am_inb_of (by omega) (by omega)), trivial, trivial, trivial⟩ ?_
        refine am_Rn.br (fun h2 => ?_) (fun h2 => ?_)
        · skip
          refine am_Rn.go (t := am_t37) rfl 8 rfl ⟨trivial, trivial, trivial, trivial, trivial, (by first | exact am_inb_lit rfl | exact am_inb_of (by omega) (by omega)), trivial, trivial, trivial⟩ ?_
          refine am_Rn.br (fun h3 => ?_) (fun h3 => ?_)
          · skip
            refine am_Rn.go (t := am_t37) rfl 2 rfl ⟨trivial, trivial, trivial⟩ ?_
            first
            | (have g := ih (i + 1) (some (.int 0)) (by omega)
               rw [am_fold_succ, hF, ← am_inc] at g
               (try simp only [e1, e2, am_on, Int32.reduceToNatClampNeg] at *)
               first
                 | (exfalso; first | contradiction | (simp only [Int32.lt_iff_toInt_lt, Int32.le_iff_toInt_le, ← Int32.toInt_inj, Int32.reduceToInt, Int32.not_lt, Int32.not_le] at *; omega))
                 | (rw [sp_bestB_T (by simp only [sp_mayB, sp_over, Bool.and_eq_true, decide_eq_true_eq, and_true, ne_eq, Option.some.injEq, reduceCtorEq, not_false_eq_true]; (simp only [Int32.lt_iff_toInt_lt, Int32.le_iff_toInt_le, ← Int32.toInt_inj, Int32.reduceToInt, Int32.not_lt, Int32.not_le] at *; omega))] at g; exact g)
                 | (rw [sp_bestB_F (by simp only [sp_mayB, sp_over, Bool.and_eq_true, decide_eq_true_eq, and_true, ne_eq, Option.some.injEq, reduceCtorEq, not_false_eq_true]; (simp only [Int32.lt_iff_toInt_lt, Int32.le_iff_toInt_le, ← Int32.toInt_inj, Int32.reduceToInt, Int32.not_lt, Int32.not_le] at *; omega))] at g; exact g))
            | (have g := ih (i + 1) (some (.int 1)) (by omega)
               rw [am_fold_succ, hF, ← am_inc] at g
               (try simp only [e1, e2, am_on, Int32.reduceToNatClampNeg] at *)
               first
                 | (exfalso; first | contradiction | (simp only [Int32.lt_iff_toInt_lt, Int32.le_iff_toInt_le, ← Int32.toInt_inj, Int32.reduceToInt, Int32.not_lt, Int32.not_le] at *; omega))
                 | (rw [sp_bestB_T (by simp only [sp_mayB, sp_over, Bool.and_eq_true, decide_eq_true_eq, and_true, ne_eq, Option.some.injEq, reduceCtorEq, not_false_eq_true]; (simp only [Int32.lt_iff_toInt_lt, Int32.le_iff_toInt_le, ← Int32.toInt_inj, Int32.reduceToInt, Int32.not_lt, Int32.not_le] at *; omega))] at g; exact g)
                 | (rw [sp_bestB_F (by simp only [sp_mayB, sp_over, Bool.and_eq_true, decide_eq_true_eq, and_true, ne_eq, Option.some.injEq, reduceCtorEq, not_false_eq_true]; (simp only [Int32.lt_iff_toInt_lt, Int32.le_iff_toInt_le, ← Int32.toInt_inj, Int32.reduceToInt, Int32.not_lt, Int32.not_le] at *; omega))] at g; exact g))
          · skip
            refine am_Rn.go (t := am_t37) rfl 2 rfl ⟨trivial, trivial, trivial⟩ ?_
            refine am_Rn.br (fun h4 => ?_) (fun h4 => ?_)
            · skip
              refine am_Rn.go (t := am_t37) rfl 2 rfl ⟨trivial, trivial, trivial⟩ ?_
              first
              | (have g := ih (i + 1) (some (.int 0)) (by omega)
                 rw [am_fold_succ, hF, ← am_inc] at g
                 (try simp only [e1, e2, am_on, Int32.reduceToNatClampNeg] at *)
                 first
                   | (exfalso; first | contradiction | (simp only [Int32.lt_iff_toInt_lt, Int32.le_iff_toInt_le, ← Int32.toInt_inj, Int32.reduceToInt, Int32.not_lt, Int32.not_le] at *; omega))
                   | (rw [sp_bestB_T (by simp only [sp_mayB, sp_over, Bool.and_eq_true, decide_eq_true_eq, and_true, ne_eq, Option.some.injEq, reduceCtorEq, not_false_eq_true]; (simp only [Int32.lt_iff_toInt_lt, Int32.le_iff_toInt_le, ← Int32.toInt_inj, Int32.reduceToInt, Int32.not_lt, Int32.not_le] at *; omega))] at g; exact g)
                   | (rw [sp_bestB_F (by simp only [sp_mayB, sp_over, Bool.and_eq_true, decide_eq_true_eq, and_true, ne_eq, Option.some.injEq, reduceCtorEq, not_false_eq_true]; (simp only [Int32.lt_iff_toInt_lt, Int32.le_iff_toInt_le, ← Int32.toInt_inj, Int32.reduceToInt, Int32.not_lt, Int32.not_le] at *; omega))] at g; exact g))
              | (have g := ih (i + 1) (some (.int 1)) (by omega)
                 rw [am_fold_succ, hF, ← am_inc] at g
                 (try simp only [e1, e2, am_on, Int32.reduceToNatClampNeg] at *)
                 first
                   | (exfalso; first | contradiction | (simp only [Int32.lt_iff_toInt_lt, Int32.le_iff_toInt_le, ← Int32.toInt_inj, Int32.reduceToInt, Int32.not_lt, Int32.not_le] at *; omega))
                   | (rw [sp_bestB_T (by simp only [sp_mayB, sp_over, Bool.and_eq_true, decide_eq_true_eq, and_true, ne_eq, Option.some.injEq, reduceCtorEq, not_false_eq_true]; (simp only [Int32.lt_iff_toInt_lt, Int32.le_iff_toInt_le, ← Int32.toInt_inj, Int32.reduceToInt, Int32.not_lt, Int32.not_le] at *; omega))] at g; exact g)
                   | (rw [sp_bestB_F (by simp only [sp_mayB, sp_over, Bool.and_eq_true, decide_eq_true_eq, and_true, ne_eq, Option.some.injEq, reduceCtorEq, not_false_eq_true]; (simp only [Int32.lt_iff_toInt_lt, Int32.le_iff_toInt_le, ← Int32.toInt_inj, Int32.reduceToInt, Int32.not_lt, Int32.not_le] at *; omega))] at g; exact g))
            · skip
              refine am_Rn.go (t := am_t37) rfl 2 rfl ⟨trivial, trivial, trivial⟩ ?_
              refine am_Rn.brT (show (-1 : Int32) < 0 by decide) ?_
              refine am_Rn.go (t := am_t37) rfl 4 rfl ⟨trivial, trivial, trivial, trivial, trivial⟩ ?_
              first
              | (have g := ih (i + 1) (some (.int 0)) (by omega)
                 rw [am_fold_succ, hF, ← am_inc] at g
                 (try simp only [e1, e2, am_on, Int32.reduceToNatClampNeg] at *)
                 first
                   | (exfalso; first | contradiction | (simp only [Int32.lt_iff_toInt_lt, Int32.le_iff_toInt_le, ← Int32.toInt_inj, Int32.reduceToInt, Int32.not_lt, Int32.not_le] at *; omega))
                   | (rw [sp_bestB_T (by simp only [sp_mayB, sp_over, Bool.and_eq_true, decide_eq_true_eq, and_true, ne_eq, Option.some.injEq, reduceCtorEq, not_false_eq_true]; (simp only [Int32.lt_iff_toInt_lt, Int32.le_iff_toInt_le, ← Int32.toInt_inj, Int32.reduceToInt, Int32.not_lt, Int32.not_le] at *; omega))] at g; exact g)
                   | (rw [sp_bestB_F (by simp only [sp_mayB, sp_over, Bool.and_eq_true, decide_eq_true_eq, and_true, ne_eq, Option.some.injEq, reduceCtorEq, not_false_eq_true]; (simp only [Int32.lt_iff_toInt_lt, Int32.le_iff_toInt_le, ← Int32.toInt_inj, Int32.reduceToInt, Int32.not_lt, Int32.not_le] at *; omega))] at g; exact g))
              | (have g := ih (i + 1) (some (.int 1)) (by omega)
                 rw [am_fold_succ, hF, ← am_inc] at g
                 (try simp only [e1, e2, am_on, Int32.reduceToNatClampNeg] at *)
                 first
                   | (exfalso; first | contradiction | (simp only [Int32.lt_iff_toInt_lt, Int32.le_iff_toInt_le, ← Int32.toInt_inj, Int32.reduceToInt, Int32.not_lt, Int32.not_le] at *; omega))
                   | (rw [sp_bestB_T (by simp only [sp_mayB, sp_over, Bool.and_eq_true, decide_eq_true_eq, and_true, ne_eq, Option.some.injEq, reduceCtorEq, not_false_eq_true]; (simp only [Int32.lt_iff_toInt_lt, Int32.le_iff_toInt_le, ← Int32.toInt_inj, Int32.reduceToInt, Int32.not_lt, Int32.not_le] at *; omega))] at g; exact g)
                   | (rw [sp_bestB_F (by simp only [sp_mayB, sp_over, Bool.and_eq_true, decide_eq_true_eq, and_true, ne_eq, Option.some.injEq, reduceCtorEq, not_false_eq_true]; (simp only [Int32.lt_iff_toInt_lt, Int32.le_iff_toInt_le, ← Int32.toInt_inj, Int32.reduceToInt, Int32.not_lt, Int32.not_le] at *; omega))] at g; exact g))
        · skip
          refine am_Rn.go (t := am_t37) rfl 9 rfl ⟨trivial, trivial, trivial, trivial, trivial, trivial, (by first | exact am_inb_lit rfl | exact am_inb_of (by omega) (by omega)), trivial, trivial, trivial⟩ ?_
          refine am_Rn.br (fun h6 => ?_) (fun h6 => ?_)
          · skip
            refine am_Rn.go (t := am_t37) rfl 2 rfl ⟨trivial, trivial, trivial⟩ ?_
            first
            | (have g := ih (i + 1) (some (.int 0)) (by omega)
               rw [am_fold_succ, hF, ← am_inc] at g
               (try simp only [e1, e2, am_on, Int32.reduceToNatClampNeg] at *)
               first
                 | (exfalso; first | contradiction | (simp only [Int32.lt_iff_toInt_lt, Int32.le_iff_toInt_le, ← Int32.toInt_inj, Int32.reduceToInt, Int32.not_lt, Int32.not_le] at *; omega))
                 | (rw [sp_bestB_T (by simp only [sp_mayB, sp_over, Bool.and_eq_true, decide_eq_true_eq, and_true, ne_eq, Option.some.injEq, reduceCtorEq, not_false_eq_true]; (simp only [Int32.lt_iff_toInt_lt, Int32.le_iff_toInt_le, ← Int32.toInt_inj, Int32.reduceToInt, Int32.not_lt, Int32.not_le] at *; omega))] at g; exact g)
                 | (rw [sp_bestB_F (by simp only [sp_mayB, sp_over, Bool.and_eq_true, decide_eq_true_eq, and_true, ne_eq, Option.some.injEq, reduceCtorEq, not_false_eq_true]; (simp only [Int32.lt_iff_toInt_lt, Int32.le_iff_toInt_le, ← Int32.toInt_inj, Int32.reduceToInt, Int32.not_lt, Int32.not_le] at *; omega))] at g; exact g))
            | (have g := ih (i + 1) (some (.int 1)) (by omega)
               rw [am_fold_succ, hF, ← am_inc] at g
               (try simp only [e1, e2, am_on, Int32.reduceToNatClampNeg] at *)
               first
                 | (exfalso; first | contradiction | (simp only [Int32.lt_iff_toInt_lt, Int32.le_iff_toInt_le, ← Int32.toInt_inj, Int32.reduceToInt, Int32.not_lt, Int32.not_le] at *; omega))
                 | (rw [sp_bestB_T (by simp only [sp_mayB, sp_over, Bool.and_eq_true, decide_eq_true_eq, and_true, ne_eq, Option.some.injEq, reduceCtorEq, not_false_eq_true]; (simp only [Int32.lt_iff_toInt_lt, Int32.le_iff_toInt_le, ← Int32.toInt_inj, Int32.reduceToInt, Int32.not_lt, Int32.not_le] at *; omega))] at g; exact g)
                 | (rw [sp_bestB_F (by simp only [sp_mayB, sp_over, Bool.and_eq_true, decide_eq_true_eq, and_true, ne_eq, Option.some.injEq, reduceCtorEq, not_false_eq_true]; (simp only [Int32.lt_iff_toInt_lt, Int32.le_iff_toInt_le, ← Int32.toInt_inj, Int32.reduceToInt, Int32.not_lt, Int32.not_le] at *; omega))] at g; exact g))
          · skip
            refine am_Rn.go (t := am_t37) rfl 2 rfl ⟨trivial, trivial, trivial⟩ ?_
            refine am_Rn.br (fun h7 => ?_) (fun h7 => ?_)
            · skip
              refine am_Rn.go (t := am_t37) rfl 2 rfl ⟨trivial, trivial, trivial⟩ ?_
              first
              | (have g := ih (i + 1) (some (.int 0)) (by omega)
                 rw [am_fold_succ, hF, ← am_inc] at g
                 (try simp only [e1, e2, am_on, Int32.reduceToNatClampNeg] at *)
                 first
                   | (exfalso; first | contradiction | (simp only [Int32.lt_iff_toInt_lt, Int32.le_iff_toInt_le, ← Int32.toInt_inj, Int32.reduceToInt, Int32.not_lt, Int32.not_le] at *; omega))
                   | (rw [sp_bestB_T (by simp only [sp_mayB, sp_over, Bool.and_eq_true, decide_eq_true_eq, and_true, ne_eq, Option.some.injEq, reduceCtorEq, not_false_eq_true]; (simp only [Int32.lt_iff_toInt_lt, Int32.le_iff_toInt_le, ← Int32.toInt_inj, Int32.reduceToInt, Int32.not_lt, Int32.not_le] at *; omega))] at g; exact g)
                   | (rw [sp_bestB_F (by simp only [sp_mayB, sp_over, Bool.and_eq_true, decide_eq_true_eq, and_true, ne_eq, Option.some.injEq, reduceCtorEq, not_false_eq_true]; (simp only [Int32.lt_iff_toInt_lt, Int32.le_iff_toInt_le, ← Int32.toInt_inj, Int32.reduceToInt, Int32.not_lt, Int32.not_le] at *; omega))] at g; exact g))
              | (have g := ih (i + 1) (some (.int 1)) (by omega)
                 rw [am_fold_succ, hF, ← am_inc] at g
                 (try simp only [e1, e2, am_on, Int32.reduceToNatClampNeg] at *)
                 first
                   | (exfalso; first | contradiction | (simp only [Int32.lt_iff_toInt_lt, Int32.le_iff_toInt_le, ← Int32.toInt_inj, Int32.reduceToInt, Int32.not_lt, Int32.not_le] at *; omega))
                   | (rw [sp_bestB_T (by simp only [sp_mayB, sp_over, Bool.and_eq_true, decide_eq_true_eq, and_true, ne_eq, Option.some.injEq, reduceCtorEq, not_false_eq_true]; (simp only [Int32.lt_iff_toInt_lt, Int32.le_iff_toInt_le, ← Int32.toInt_inj, Int32.reduceToInt, Int32.not_lt, Int32.not_le] at *; omega))] at g; exact g)
                   | (rw [sp_bestB_F (by simp only [sp_mayB, sp_over, Bool.and_eq_true, decide_eq_true_eq, and_true, ne_eq, Option.some.injEq, reduceCtorEq, not_false_eq_true]; (simp only [Int32.lt_iff_toInt_lt, Int32.le_iff_toInt_le, ← Int32.toInt_inj, Int32.reduceToInt, Int32.not_lt, Int32.not_le] at *; omega))] at g; exact g))
            · skip
              refine am_Rn.go (t := am_t37) rfl 2 rfl ⟨trivial, trivial, trivial⟩ ?_
              refine am_Rn.brT (show (-1 : Int32) < 0 by decide) ?_
              refine am_Rn.go (t := am_t37) rfl 4 rfl ⟨trivial, trivial, trivial, trivial, trivial⟩ ?_
              first
              | (have g := ih (i + 1) (some (.int 0)) (by omega)
                 rw [am_fold_succ, hF, ← am_inc] at g
                 (try simp only [e1, e2, am_on, Int32.reduceToNatClampNeg] at *)
                 first
                   | (exfalso; first | contradiction | (simp only [Int32.lt_iff_toInt_lt, Int32.le_iff_toInt_le, ← Int32.toInt_inj, Int32.reduceToInt, Int32.not_lt, Int32.not_le] at *; omega))
                   | (rw [sp_bestB_T (by simp only [sp_mayB, sp_over, Bool.and_eq_true, decide_eq_true_eq, and_true, ne_eq, Option.some.injEq, reduceCtorEq, not_false_eq_true]; (simp only [Int32.lt_iff_toInt_lt, Int32.le_iff_toInt_le, ← Int32.toInt_inj, Int32.reduceToInt, Int32.not_lt, Int32.not_le] at *; omega))] at g; exact g)
                   | (rw [sp_bestB_F (by simp only [sp_mayB, sp_over, Bool.and_eq_true, decide_eq_true_eq, and_true, ne_eq, Option.some.injEq, reduceCtorEq, not_false_eq_true]; (simp only [Int32.lt_iff_toInt_lt, Int32.le_iff_toInt_le, ← Int32.toInt_inj, Int32.reduceToInt, Int32.not_lt, Int32.not_le] at *; omega))] at g; exact g))
              | (have g := ih (i + 1) (some (.int 1)) (by omega)
                 rw [am_fold_succ, hF, ← am_inc] at g
                 (try simp only [e1, e2, am_on, Int32.reduceToNatClampNeg] at *)
                 first
                   | (exfalso; first | contradiction | (simp only [Int32.lt_iff_toInt_lt, Int32.le_iff_toInt_le, ← Int32.toInt_inj, Int32.reduceToInt, Int32.not_lt, Int32.not_le] at *; omega))
                   | (rw [sp_bestB_T (by simp only [sp_mayB, sp_over, Bool.and_eq_true, decide_eq_true_eq, and_true, ne_eq, Option.some.injEq, reduceCtorEq, not_false_eq_true]; (simp only [Int32.lt_iff_toInt_lt, Int32.le_iff_toInt_le, ← Int32.toInt_inj, Int32.reduceToInt, Int32.not_lt, Int32.not_le] at *; omega))] at g; exact g)
                   | (rw [sp_bestB_F (by simp only [sp_mayB, sp_over, Bool.and_eq_true, decide_eq_true_eq, and_true, ne_eq, Option.some.injEq, reduceCtorEq, not_false_eq_true]; (simp only [Int32.lt_iff_toInt_lt, Int32.le_iff_toInt_le, ← Int32.toInt_inj, Int32.reduceToInt, Int32.not_lt, Int32.not_le] at *; omega))] at g; exact g))
      | some q =>
        have hq1 := hq q rfl
        have e2 : (Int32.ofNat q).toNatClampNeg = q := am_tn q (by omega)
        have hq2 : ¬ Int32.ofNat q < 0 := fun h => absurd ((am_lt (i := q) (j := 0) (by omega) (by omega)).mp h) (by omega)
        refine am_Rn.go (t := am_t37) rfl 5 rfl ⟨trivial, trivial, trivial, trivial, trivial, trivial⟩ ?_
        refine am_Rn.brF (by first | exact fun q => absurd ((am_le (by omega) (by omega)).mp q) (by omega) | exact (am_lt (by omega) (by omega)).mpr hiP) ?_
        refine am_Rn.go (t := am_t37) rfl 21 rfl ⟨trivial, trivial, trivial, (by first | exact am_inb_lit rfl | exact am_inb_of (by omega) (by omega)), trivial, trivial, trivial, trivial, (by first | exact am_inb_lit rfl | exact am_inb_of (by omega) (by omega)), trivial, trivial, trivial, trivial, (by first | exact am_inb_lit rfl | exact am_inb_of (by omega) (by omega)), trivial, trivial, trivial, trivial, (by first | exact am_inb_lit rfl | exact am_inb_of (by omega) (by omega)), trivial, trivial, trivial⟩ ?_
        refine am_Rn.br (fun h2 => ?_) (fun h2 => ?_)
        · skip
          refine am_Rn.go (t := am_t37) rfl 8 rfl ⟨trivial, trivial, trivial, trivial, trivial, (by first | exact am_inb_lit rfl | exact am_inb_of (by omega) (by omega)), trivial, trivial, trivial⟩ ?_
          refine am_Rn.br (fun h3 => ?_) (fun h3 => ?_)
          · skip
            refine am_Rn.go (t := am_t37) rfl 2 rfl ⟨trivial, trivial, trivial⟩ ?_
            first
            | (have g := ih (i + 1) (some (.int 0)) (by omega)
               rw [am_fold_succ, hF, ← am_inc] at g
               (try simp only [e1, e2, am_on, Int32.reduceToNatClampNeg] at *)
               first
                 | (exfalso; first | contradiction | (simp only [Int32.lt_iff_toInt_lt, Int32.le_iff_toInt_le, ← Int32.toInt_inj, Int32.reduceToInt, Int32.not_lt, Int32.not_le] at *; omega))
                 | (rw [sp_bestB_T (by simp only [sp_mayB, sp_over, Bool.and_eq_true, decide_eq_true_eq, and_true, ne_eq, Option.some.injEq, reduceCtorEq, not_false_eq_true]; (simp only [Int32.lt_iff_toInt_lt, Int32.le_iff_toInt_le, ← Int32.toInt_inj, Int32.reduceToInt, Int32.not_lt, Int32.not_le] at *; omega))] at g; exact g)
                 | (rw [sp_bestB_F (by simp only [sp_mayB, sp_over, Bool.and_eq_true, decide_eq_true_eq, and_true, ne_eq, Option.some.injEq, reduceCtorEq, not_false_eq_true]; (simp only [Int32.lt_iff_toInt_lt, Int32.le_iff_toInt_le, ← Int32.toInt_inj, Int32.reduceToInt, Int32.not_lt, Int32.not_le] at *; omega))] at g; exact g))
            | (have g := ih (i + 1) (some (.int 1)) (by omega)
               rw [am_fold_succ, hF, ← am_inc] at g
               (try simp only [e1, e2, am_on, Int32.reduceToNatClampNeg] at *)
               first
                 | (exfalso; first | contradiction | (simp only [Int32.lt_iff_toInt_lt, Int32.le_iff_toInt_le, ← Int32.toInt_inj, Int32.reduceToInt, Int32.not_lt, Int32.not_le] at *; omega))
                 | (rw [sp_bestB_T (by simp only [sp_mayB, sp_over, Bool.and_eq_true, decide_eq_true_eq, and_true, ne_eq, Option.some.injEq, reduceCtorEq, not_false_eq_true]; (simp only [Int32.lt_iff_toInt_lt, Int32.le_iff_toInt_le, ← Int32.toInt_inj, Int32.reduceToInt, Int32.not_lt, Int32.not_le] at *; omega))] at g; exact g)
                 | (rw [sp_bestB_F (by simp only [sp_mayB, sp_over, Bool.and_eq_true, decide_eq_true_eq, and_true, ne_eq, Option.some.injEq, reduceCtorEq, not_false_eq_true]; (simp only [Int32.lt_iff_toInt_lt, Int32.le_iff_toInt_le, ← Int32.toInt_inj, Int32.reduceToInt, Int32.not_lt, Int32.not_le] at *; omega))] at g; exact g))
          · skip
            refine am_Rn.go (t := am_t37) rfl 2 rfl ⟨trivial, trivial, trivial⟩ ?_
            refine am_Rn.br (fun h4 => ?_) (fun h4 => ?_)
            · skip
              refine am_Rn.go (t := am_t37) rfl 2 rfl ⟨trivial, trivial, trivial⟩ ?_
              first
              | (have g := ih (i + 1) (some (.int 0)) (by omega)
                 rw [am_fold_succ, hF, ← am_inc] at g
                 (try simp only [e1, e2, am_on, Int32.reduceToNatClampNeg] at *)
                 first
                   | (exfalso; first | contradiction | (simp only [Int32.lt_iff_toInt_lt, Int32.le_iff_toInt_le, ← Int32.toInt_inj, Int32.reduceToInt, Int32.not_lt, Int32.not_le] at *; omega))
                   | (rw [sp_bestB_T (by simp only [sp_mayB, sp_over, Bool.and_eq_true, decide_eq_true_eq, and_true, ne_eq, Option.some.injEq, reduceCtorEq, not_false_eq_true]; (simp only [Int32.lt_iff_toInt_lt, Int32.le_iff_toInt_le, ← Int32.toInt_inj, Int32.reduceToInt, Int32.not_lt, Int32.not_le] at *; omega))] at g; exact g)
                   | (rw [sp_bestB_F (by simp only [sp_mayB, sp_over, Bool.and_eq_true, decide_eq_true_eq, and_true, ne_eq, Option.some.injEq, reduceCtorEq, not_false_eq_true]; (simp only [Int32.lt_iff_toInt_lt, Int32.le_iff_toInt_le, ← Int32.toInt_inj, Int32.reduceToInt, Int32.not_lt, Int32.not_le] at *; omega))] at g; exact g))
              | (have g := ih (i + 1) (some (.int 1)) (by omega)
                 rw [am_fold_succ, hF, ← am_inc] at g
                 (try simp only [e1, e2, am_on, Int32.reduceToNatClampNeg] at *)
                 first
                   | (exfalso; first | contradiction | (simp only [Int32.lt_iff_toInt_lt, Int32.le_iff_toInt_le, ← Int32.toInt_inj, Int32.reduceToInt, Int32.not_lt, Int32.not_le] at *; omega))
                   | (rw [sp_bestB_T (by simp only [sp_mayB, sp_over, Bool.and_eq_true, decide_eq_true_eq, and_true, ne_eq, Option.some.injEq, reduceCtorEq, not_false_eq_true]; (simp only [Int32.lt_iff_toInt_lt, Int32.le_iff_toInt_le, ← Int32.toInt_inj, Int32.reduceToInt, Int32.not_lt, Int32.not_le] at *; omega))] at g; exact g)
                   | (rw [sp_bestB_F (by simp only [sp_mayB, sp_over, Bool.and_eq_true, decide_eq_true_eq, and_true, ne_eq, Option.some.injEq, reduceCtorEq, not_false_eq_true]; (simp only [Int32.lt_iff_toInt_lt, Int32.le_iff_toInt_le, ← Int32.toInt_inj, Int32.reduceToInt, Int32.not_lt, Int32.not_le] at *; omega))] at g; exact g))
            · skip
              refine am_Rn.go (t := am_t37) rfl 2 rfl ⟨trivial, trivial, trivial⟩ ?_
              refine am_Rn.brF hq2 ?_
              refine am_Rn.go (t := am_t37) rfl 9 rfl ⟨trivial, trivial, trivial, (by first | exact am_inb_lit rfl | exact am_inb_of (by omega) (by omega)), trivial, trivial, trivial, (by first | exact am_inb_lit rfl | exact am_inb_of (by omega) (by omega)), trivial, trivial⟩ ?_
              refine am_Rn.br (fun h6 => ?_) (fun h6 => ?_)
              · skip
                refine am_Rn.go (t := am_t37) rfl 2 rfl ⟨trivial, trivial, trivial⟩ ?_
                first
                | (have g := ih (i + 1) (some (.int 0)) (by omega)
                   rw [am_fold_succ, hF, ← am_inc] at g
                   (try simp only [e1, e2, am_on, Int32.reduceToNatClampNeg] at *)
                   first
                     | (exfalso; first | contradiction | (simp only [Int32.lt_iff_toInt_lt, Int32.le_iff_toInt_le, ← Int32.toInt_inj, Int32.reduceToInt, Int32.not_lt, Int32.not_le] at *; omega))
                     | (rw [sp_bestB_T (by simp only [sp_mayB, sp_over, Bool.and_eq_true, decide_eq_true_eq, and_true, ne_eq, Option.some.injEq, reduceCtorEq, not_false_eq_true]; (simp only [Int32.lt_iff_toInt_lt, Int32.le_iff_toInt_le, ← Int32.toInt_inj, Int32.reduceToInt, Int32.not_lt, Int32.not_le] at *; omega))] at g; exact g)
                     | (rw [sp_bestB_F (by simp only [sp_mayB, sp_over, Bool.and_eq_true, decide_eq_true_eq, and_true, ne_eq, Option.some.injEq, reduceCtorEq, not_false_eq_true]; (simp only [Int32.lt_iff_toInt_lt, Int32.le_iff_toInt_le, ← Int32.toInt_inj, Int32.reduceToInt, Int32.not_lt, Int32.not_le] at *; omega))] at g; exact g))
                | (have g := ih (i + 1) (some (.int 1)) (by omega)
                   rw [am_fold_succ, hF, ← am_inc] at g
                   (try simp only [e1, e2, am_on, Int32.reduceToNatClampNeg] at *)
                   first
                     | (exfalso; first | contradiction | (simp only [Int32.lt_iff_toInt_lt, Int32.le_iff_toInt_le, ← Int32.toInt_inj, Int32.reduceToInt, Int32.not_lt, Int32.not_le] at *; omega))
                     | (rw [sp_bestB_T (by simp only [sp_mayB, sp_over, Bool.and_eq_true, decide_eq_true_eq, and_true, ne_eq, Option.some.injEq, reduceCtorEq, not_false_eq_true]; (simp only [Int32.lt_iff_toInt_lt, Int32.le_iff_toInt_le, ← Int32.toInt_inj, Int32.reduceToInt, Int32.not_lt, Int32.not_le] at *; omega))] at g; exact g)
                     | (rw [sp_bestB_F (by simp only [sp_mayB, sp_over, Bool.and_eq_true, decide_eq_true_eq, and_true, ne_eq, Option.some.injEq, reduceCtorEq, not_false_eq_true]; (simp only [Int32.lt_iff_toInt_lt, Int32.le_iff_toInt_le, ← Int32.toInt_inj, Int32.reduceToInt, Int32.not_lt, Int32.not_le] at *; omega))] at g; exact g))
              · skip
                refine am_Rn.go (t := am_t37) rfl 4 rfl ⟨trivial, trivial, trivial, trivial, trivial⟩ ?_
                first
                | (have g := ih (i + 1) (some (.int 0)) (by omega)
                   rw [am_fold_succ, hF, ← am_inc] at g
                   (try simp only [e1, e2, am_on, Int32.reduceToNatClampNeg] at *)
                   first
                     | (exfalso; first | contradiction | (simp only [Int32.lt_iff_toInt_lt, Int32.le_iff_toInt_le, ← Int32.toInt_inj, Int32.reduceToInt, Int32.not_lt, Int32.not_le] at *; omega))
                     | (rw [sp_bestB_T (by simp only [sp_mayB, sp_over, Bool.and_eq_true, decide_eq_true_eq, and_true, ne_eq, Option.some.injEq, reduceCtorEq, not_false_eq_true]; (simp only [Int32.lt_iff_toInt_lt, Int32.le_iff_toInt_le, ← Int32.toInt_inj, Int32.reduceToInt, Int32.not_lt, Int32.not_le] at *; omega))] at g; exact g)
                     | (rw [sp_bestB_F (by simp only [sp_mayB, sp_over, Bool.and_eq_true, decide_eq_true_eq, and_true, ne_eq, Option.some.injEq, reduceCtorEq, not_false_eq_true]; (simp only [Int32.lt_iff_toInt_lt, Int32.le_iff_toInt_le, ← Int32.toInt_inj, Int32.reduceToInt, Int32.not_lt, Int32.not_le] at *; omega))] at g; exact g))
                | (have g := ih (i + 1) (some (.int 1)) (by omega)
                   rw [am_fold_succ, hF, ← am_inc] at g
                   (try simp only [e1, e2, am_on, Int32.reduceToNatClampNeg] at *)
                   first
                     | (exfalso; first | contradiction | (simp only [Int32.lt_iff_toInt_lt, Int32.le_iff_toInt_le, ← Int32.toInt_inj, Int32.reduceToInt, Int32.not_lt, Int32.not_le] at *; omega))
                     | (rw [sp_bestB_T (by simp only [sp_mayB, sp_over, Bool.and_eq_true, decide_eq_true_eq, and_true, ne_eq, Option.some.injEq, reduceCtorEq, not_false_eq_true]; (simp only [Int32.lt_iff_toInt_lt, Int32.le_iff_toInt_le, ← Int32.toInt_inj, Int32.reduceToInt, Int32.not_lt, Int32.not_le] at *; omega))] at g; exact g)
                     | (rw [sp_bestB_F (by simp only [sp_mayB, sp_over, Bool.and_eq_true, decide_eq_true_eq, and_true, ne_eq, Option.some.injEq, reduceCtorEq, not_false_eq_true]; (simp only [Int32.lt_iff_toInt_lt, Int32.le_iff_toInt_le, ← Int32.toInt_inj, Int32.reduceToInt, Int32.not_lt, Int32.not_le] at *; omega))] at g; exact g))
        · skip
          refine am_Rn.go (t := am_t37) rfl 9 rfl ⟨trivial, trivial, trivial, trivial, trivial, trivial, (by first | exact am_inb_lit rfl | exact am_inb_of (by omega) (by omega)), trivial, trivial, trivial⟩ ?_
          refine am_Rn.br (fun h7 => ?_) (fun h7 => ?_)
          · skip
            refine am_Rn.go (t := am_t37) rfl 2 rfl ⟨trivial, trivial, trivial⟩ ?_
            first
            | (have g := ih (i + 1) (some (.int 0)) (by omega)
               rw [am_fold_succ, hF, ← am_inc] at g
               (try simp only [e1, e2, am_on, Int32.reduceToNatClampNeg] at *)
               first
                 | (exfalso; first | contradiction | (simp only [Int32.lt_iff_toInt_lt, Int32.le_iff_toInt_le, ← Int32.toInt_inj, Int32.reduceToInt, Int32.not_lt, Int32.not_le] at *; omega))
                 | (rw [sp_bestB_T (by simp only [sp_mayB, sp_over, Bool.and_eq_true, decide_eq_true_eq, and_true, ne_eq, Option.some.injEq, reduceCtorEq, not_false_eq_true]; (simp only [Int32.lt_iff_toInt_lt, Int32.le_iff_toInt_le, ← Int32.toInt_inj, Int32.reduceToInt, Int32.not_lt, Int32.not_le] at *; omega))] at g; exact g)
                 | (rw [sp_bestB_F (by simp only [sp_mayB, sp_over, Bool.and_eq_true, decide_eq_true_eq, and_true, ne_eq, Option.some.injEq, reduceCtorEq, not_false_eq_true]; (simp only [Int32.lt_iff_toInt_lt, Int32.le_iff_toInt_le, ← Int32.toInt_inj, Int32.reduceToInt, Int32.not_lt, Int32.not_le] at *; omega))] at g; exact g))
            | (have g := ih (i + 1) (some (.int 1)) (by omega)
               rw [am_fold_succ, hF, ← am_inc] at g
               (try simp only [e1, e2, am_on, Int32.reduceToNatClampNeg] at *)
               first
                 | (exfalso; first | contradiction | (simp only [Int32.lt_iff_toInt_lt, Int32.le_iff_toInt_le, ← Int32.toInt_inj, Int32.reduceToInt, Int32.not_lt, Int32.not_le] at *; omega))
                 | (rw [sp_bestB_T (by simp only [sp_mayB, sp_over, Bool.and_eq_true, decide_eq_true_eq, and_true, ne_eq, Option.some.injEq, reduceCtorEq, not_false_eq_true]; (simp only [Int32.lt_iff_toInt_lt, Int32.le_iff_toInt_le, ← Int32.toInt_inj, Int32.reduceToInt, Int32.not_lt, Int32.not_le] at *; omega))] at g; exact g)
                 | (rw [sp_bestB_F (by simp only [sp_mayB, sp_over, Bool.and_eq_true, decide_eq_true_eq, and_true, ne_eq, Option.some.injEq, reduceCtorEq, not_false_eq_true]; (simp only [Int32.lt_iff_toInt_lt, Int32.le_iff_toInt_le, ← Int32.toInt_inj, Int32.reduceToInt, Int32.not_lt, Int32.not_le] at *; omega))] at g; exact g))
          · skip
            refine am_Rn.go (t := am_t37) rfl 2 rfl ⟨trivial, trivial, trivial⟩ ?_
            refine am_Rn.br (fun h8 => ?_) (fun h8 => ?_)
            · skip
              refine am_Rn.go (t := am_t37) rfl 2 rfl ⟨trivial, trivial, trivial⟩ ?_
              first
              | (have g := ih (i + 1) (some (.int 0)) (by omega)
                 rw [am_fold_succ, hF, ← am_inc] at g
                 (try simp only [e1, e2, am_on, Int32.reduceToNatClampNeg] at *)
                 first
                   | (exfalso; first | contradiction | (simp only [Int32.lt_iff_toInt_lt, Int32.le_iff_toInt_le, ← Int32.toInt_inj, Int32.reduceToInt, Int32.not_lt, Int32.not_le] at *; omega))
                   | (rw [sp_bestB_T (by simp only [sp_mayB, sp_over, Bool.and_eq_true, decide_eq_true_eq, and_true, ne_eq, Option.some.injEq, reduceCtorEq, not_false_eq_true]; (simp only [Int32.lt_iff_toInt_lt, Int32.le_iff_toInt_le, ← Int32.toInt_inj, Int32.reduceToInt, Int32.not_lt, Int32.not_le] at *; omega))] at g; exact g)
                   | (rw [sp_bestB_F (by simp only [sp_mayB, sp_over, Bool.and_eq_true, decide_eq_true_eq, and_true, ne_eq, Option.some.injEq, reduceCtorEq, not_false_eq_true]; (simp only [Int32.lt_iff_toInt_lt, Int32.le_iff_toInt_le, ← Int32.toInt_inj, Int32.reduceToInt, Int32.not_lt, Int32.not_le] at *; omega))] at g; exact g))
              | (have g := ih (i + 1) (some (.int 1)) (by omega)
                 rw [am_fold_succ, hF, ← am_inc] at g
                 (try simp only [e1, e2, am_on, Int32.reduceToNatClampNeg] at *)
                 first
                   | (exfalso; first | contradiction | (simp only [Int32.lt_iff_toInt_lt, Int32.le_iff_toInt_le, ← Int32.toInt_inj, Int32.reduceToInt, Int32.not_lt, Int32.not_le] at *; omega))
                   | (rw [sp_bestB_T (by simp only [sp_mayB, sp_over, Bool.and_eq_true, decide_eq_true_eq, and_true, ne_eq, Option.some.injEq, reduceCtorEq, not_false_eq_true]; (simp only [Int32.lt_iff_toInt_lt, Int32.le_iff_toInt_le, ← Int32.toInt_inj, Int32.reduceToInt, Int32.not_lt, Int32.not_le] at *; omega))] at g; exact g)
                   | (rw [sp_bestB_F (by simp only [sp_mayB, sp_over, Bool.and_eq_true, decide_eq_true_eq, and_true, ne_eq, Option.some.injEq, reduceCtorEq, not_false_eq_true]; (simp only [Int32.lt_iff_toInt_lt, Int32.le_iff_toInt_le, ← Int32.toInt_inj, Int32.reduceToInt, Int32.not_lt, Int32.not_le] at *; omega))] at g; exact g))
            · skip
              refine am_Rn.go (t := am_t37) rfl 2 rfl ⟨trivial, trivial, trivial⟩ ?_
              refine am_Rn.brF hq2 ?_
              refine am_Rn.go (t := am_t37) rfl 9 rfl ⟨trivial, trivial, trivial, (by first | exact am_inb_lit rfl | exact am_inb_of (by omega) (by omega)), trivial, trivial, trivial, (by first | exact am_inb_lit rfl | exact am_inb_of (by omega) (by omega)), trivial, trivial⟩ ?_
              refine am_Rn.br (fun h10 => ?_) (fun h10 => ?_)
              · skip
                refine am_Rn.go (t := am_t37) rfl 2 rfl ⟨trivial, trivial, trivial⟩ ?_
                first
                | (have g := ih (i + 1) (some (.int 0)) (by omega)
                   rw [am_fold_succ, hF, ← am_inc] at g
                   (try simp only [e1, e2, am_on, Int32.reduceToNatClampNeg] at *)
                   first
                     | (exfalso; first | contradiction | (simp only [Int32.lt_iff_toInt_lt, Int32.le_iff_toInt_le, ← Int32.toInt_inj, Int32.reduceToInt, Int32.not_lt, Int32.not_le] at *; omega))
                     | (rw [sp_bestB_T (by simp only [sp_mayB, sp_over, Bool.and_eq_true, decide_eq_true_eq, and_true, ne_eq, Option.some.injEq, reduceCtorEq, not_false_eq_true]; (simp only [Int32.lt_iff_toInt_lt, Int32.le_iff_toInt_le, ← Int32.toInt_inj, Int32.reduceToInt, Int32.not_lt, Int32.not_le] at *; omega))] at g; exact g)
                     | (rw [sp_bestB_F (by simp only [sp_mayB, sp_over, Bool.and_eq_true, decide_eq_true_eq, and_true, ne_eq, Option.some.injEq, reduceCtorEq, not_false_eq_true]; (simp only [Int32.lt_iff_toInt_lt, Int32.le_iff_toInt_le, ← Int32.toInt_inj, Int32.reduceToInt, Int32.not_lt, Int32.not_le] at *; omega))] at g; exact g))
                | (have g := ih (i + 1) (some (.int 1)) (by omega)
                   rw [am_fold_succ, hF, ← am_inc] at g
                   (try simp only [e1, e2, am_on, Int32.reduceToNatClampNeg] at *)
                   first
                     | (exfalso; first | contradiction | (simp only [Int32.lt_iff_toInt_lt, Int32.le_iff_toInt_le, ← Int32.toInt_inj, Int32.reduceToInt, Int32.not_lt, Int32.not_le] at *; omega))
                     | (rw [sp_bestB_T (by simp only [sp_mayB, sp_over, Bool.and_eq_true, decide_eq_true_eq, and_true, ne_eq, Option.some.injEq, reduceCtorEq, not_false_eq_true]; (simp only [Int32.lt_iff_toInt_lt, Int32.le_iff_toInt_le, ← Int32.toInt_inj, Int32.reduceToInt, Int32.not_lt, Int32.not_le] at *; omega))] at g; exact g)
                     | (rw [sp_bestB_F (by simp only [sp_mayB, sp_over, Bool.and_eq_true, decide_eq_true_eq, and_true, ne_eq, Option.some.injEq, reduceCtorEq, not_false_eq_true]; (simp only [Int32.lt_iff_toInt_lt, Int32.le_iff_toInt_le, ← Int32.toInt_inj, Int32.reduceToInt, Int32.not_lt, Int32.not_le] at *; omega))] at g; exact g))
              · skip
                refine am_Rn.go (t := am_t37) rfl 4 rfl ⟨trivial, trivial, trivial, trivial, trivial⟩ ?_
                first
                | (have g := ih (i + 1) (some (.int 0)) (by omega)
                   rw [am_fold_succ, hF, ← am_inc] at g
                   (try simp only [e1, e2, am_on, Int32.reduceToNatClampNeg] at *)
                   first
                     | (exfalso; first | contradiction | (simp only [Int32.lt_iff_toInt_lt, Int32.le_iff_toInt_le, ← Int32.toInt_inj, Int32.reduceToInt, Int32.not_lt, Int32.not_le] at *; omega))
                     | (rw [sp_bestB_T (by simp only [sp_mayB, sp_over, Bool.and_eq_true, decide_eq_true_eq, and_true, ne_eq, Option.some.injEq, reduceCtorEq, not_false_eq_true]; (simp only [Int32.lt_iff_toInt_lt, Int32.le_iff_toInt_le, ← Int32.toInt_inj, Int32.reduceToInt, Int32.not_lt, Int32.not_le] at *; omega))] at g; exact g)
                     | (rw [sp_bestB_F (by simp only [sp_mayB, sp_over, Bool.and_eq_true, decide_eq_true_eq, and_true, ne_eq, Option.some.injEq, reduceCtorEq, not_false_eq_true]; (simp only [Int32.lt_iff_toInt_lt, Int32.le_iff_toInt_le, ← Int32.toInt_inj, Int32.reduceToInt, Int32.not_lt, Int32.not_le] at *; omega))] at g; exact g))
                | (have g := ih (i + 1) (some (.int 1)) (by omega)
                   rw [am_fold_succ, hF, ← am_inc] at g
                   (try simp only [e1, e2, am_on, Int32.reduceToNatClampNeg] at *)
                   first
                     | (exfalso; first | contradiction | (simp only [Int32.lt_iff_toInt_lt, Int32.le_iff_toInt_le, ← Int32.toInt_inj, Int32.reduceToInt, Int32.not_lt, Int32.not_le] at *; omega))
                     | (rw [sp_bestB_T (by simp only [sp_mayB, sp_over, Bool.and_eq_true, decide_eq_true_eq, and_true, ne_eq, Option.some.injEq, reduceCtorEq, not_false_eq_true]; (simp only [Int32.lt_iff_toInt_lt, Int32.le_iff_toInt_le, ← Int32.toInt_inj, Int32.reduceToInt, Int32.not_lt, Int32.not_le] at *; omega))] at g; exact g)
                     | (rw [sp_bestB_F (by simp only [sp_mayB, sp_over, Bool.and_eq_true, decide_eq_true_eq, and_true, ne_eq, Option.some.injEq, reduceCtorEq, not_false_eq_true]; (simp only [Int32.lt_iff_toInt_lt, Int32.le_iff_toInt_le, ← Int32.toInt_inj, Int32.reduceToInt, Int32.not_lt, Int32.not_le] at *; omega))] at g; exact g))
  refine am_Rn.go (t := am_t37) rfl 4 rfl ⟨trivial, trivial, trivial, trivial, trivial⟩ ?_
  exact L P 0 _ (by omega)
theorem sx_buyer_B (sc : am_Sc) (nu la me tc ts : Nat → Int32) (P : Nat) (hP : P ≤ 9) (rd pr pv sa pd lo : Int32) (bo co sh se si er of_ bi bt so : Nat → Int32) (B0 B1 B2 B3 B4 : List am_E) (Bs : am_M) : am_Rn sc 37 (0, am_entry 37 [.ref 192], [], B0 :: B1 :: B2 :: B3 :: B4 :: bkRules 160 nu la me tc ts (Int32.ofNat P) :: bkRoom 192 160 rd pr pv sa pd lo bo co sh se si er of_ bi bt so :: Bs) (fun r M' => r = some (.int (am_on (-1) (am_fold P (sp_bestB (sp_mayB nu co bi bt) bi) none))) ∧ M' = B0 :: B1 :: B2 :: B3 :: B4 :: bkRules 160 nu la me tc ts (Int32.ofNat P) :: bkRoom 192 160 rd pr pv sa pd lo bo co sh se si er of_ bi bt so :: Bs) := by
  show am_Rn sc 37 (0, [some (.ref 192), none, none, none], [], _) _
  have L : ∀ (d i : Nat) (x3 : Option Value), i + d = P → am_Rn sc 37 (4, [some (.ref 192), some (.int (am_on (-1) (am_fold i (sp_bestB (sp_mayB nu co bi bt) bi) none))), some (.int (Int32.ofNat i)), x3], [], B0 :: B1 :: B2 :: B3 :: B4 :: bkRules 160 nu la me tc ts (Int32.ofNat P) :: bkRoom 192 160 rd pr pv sa pd lo bo co sh se si er of_ bi bt so :: Bs) (fun r M' => r = some (.int (am_on (-1) (am_fold P (sp_bestB (sp_mayB nu co bi bt) bi) none))) ∧ M' = B0 :: B1 :: B2 :: B3 :: B4 :: bkRules 160 nu la me tc ts (Int32.ofNat P) :: bkRoom 192 160 rd pr pv sa pd lo bo co sh se si er of_ bi bt so :: Bs) := by
    intro d
    induction d with
    | zero =>
      intro i x3 hi
      obtain rfl : i = P := by omega
      refine am_Rn.go (t := am_t37) rfl 5 rfl ⟨trivial, trivial, trivial, trivial, trivial, trivial⟩ ?_
      refine am_Rn.brT (by first | exact (am_le (by omega) (by omega)).mpr (Nat.le_refl _) | exact fun q => absurd ((am_lt (by omega) (by omega)).mp q) (Nat.lt_irrefl _)) ?_
      refine am_Rn.go (t := am_t37) rfl 1 rfl ⟨trivial, trivial⟩ ?_
      refine am_Rn.ret (t := am_t37) rfl rfl trivial ?_
      exact ⟨rfl, rfl⟩
    | succ d ih =>
      intro i x3 hi
      have hiP : i < P := by omega
      have e1 : (Int32.ofNat i).toNatClampNeg = i := am_tn i (by omega)
      have hq := sp_bestB_lt (sp_mayB nu co bi bt) bi i
      generalize hF : (am_fold i (sp_bestB (sp_mayB nu co bi bt) bi) none) = o at hq ⊢
      cases o with
      | none =>
        have e2 := e1
        refine am_Rn.go (t := am_t37) rfl 5 rfl ⟨trivial, trivial, trivial, trivial, trivial, trivial⟩ ?_
        refine am_Rn.brF (by first | exact fun q => absurd ((am_le (by omega) (by omega)).mp q) (by omega) | exact (am_lt (by omega) (by omega)).mpr hiP) ?_
        refine am_Rn.go (t := am_t37) rfl 21 rfl ⟨trivial, trivial, trivial, (by first | exact am_inb_lit rfl | exact am_inb_of (by omega) (by omega)), trivial, trivial, trivial, trivial, (by first | exact am_inb_lit rfl | exact am_inb_of (by omega) (by omega)), trivial, trivial, trivial, trivial, (by first | exact am_inb_lit rfl | exact am_inb_of (by omega) (by omega)), trivial, trivial, trivial, trivial, (by first | exact am_inb_lit rfl | exact am_inb_of (by omega) (by omega)), trivial, trivial, trivial⟩ ?_
        refine am_Rn.br (fun h2 => ?_) (fun h2 => ?_)
        · skip
          refine am_Rn.go (t := am_t37) rfl 8 rfl ⟨trivial, trivial, trivial, trivial, trivial, (by first | exact am_inb_lit rfl | exact am_inb_of (by omega) (by omega)), trivial, trivial, trivial⟩ ?_
          refine am_Rn.br (fun h3 => ?_) (fun h3 => ?_)
          · skip
            refine am_Rn.go (t := am_t37) rfl 2 rfl ⟨trivial, trivial, trivial⟩ ?_
            first
            | (have g := ih (i + 1) (some (.int 0)) (by omega)
               rw [am_fold_succ, hF, ← am_inc] at g
               (try simp only [e1, e2, am_on, Int32.reduceToNatClampNeg] at *)
               first
                 | (exfalso; first | contradiction | (simp only [Int32.lt_iff_toInt_lt, Int32.le_iff_toInt_le, ← Int32.toInt_inj, Int32.reduceToInt, Int32.not_lt, Int32.not_le] at *; omega))
                 | (rw [sp_bestB_T (by simp only [sp_mayB, sp_over, Bool.and_eq_true, decide_eq_true_eq, and_true, ne_eq, Option.some.injEq, reduceCtorEq, not_false_eq_true]; (simp only [Int32.lt_iff_toInt_lt, Int32.le_iff_toInt_le, ← Int32.toInt_inj, Int32.reduceToInt, Int32.not_lt, Int32.not_le] at *; omega))] at g; exact g)
                 | (rw [sp_bestB_F (by simp only [sp_mayB, sp_over, Bool.and_eq_true, decide_eq_true_eq, and_true, ne_eq, Option.some.injEq, reduceCtorEq, not_false_eq_true]; (simp only [Int32.lt_iff_toInt_lt, Int32.le_iff_toInt_le, ← Int32.toInt_inj, Int32.reduceToInt, Int32.not_lt, Int32.not_le] at *; omega))] at g; exact g))
            | (have g := ih (i + 1) (some (.int 1)) (by omega)
               rw [am_fold_succ, hF, ← am_inc] at g
               (try simp only [e1, e2, am_on, Int32.reduceToNatClampNeg] at *)
               first
                 | (exfalso; first | contradiction | (simp only [Int32.lt_iff_toInt_lt, Int32.le_iff_toInt_le, ← Int32.toInt_inj, Int32.reduceToInt, Int32.not_lt, Int32.not_le] at *; omega))
                 | (rw [sp_bestB_T (by simp only [sp_mayB, sp_over, Bool.and_eq_true, decide_eq_true_eq, and_true, ne_eq, Option.some.injEq, reduceCtorEq, not_false_eq_true]; (simp only [Int32.lt_iff_toInt_lt, Int32.le_iff_toInt_le, ← Int32.toInt_inj, Int32.reduceToInt, Int32.not_lt, Int32.not_le] at *; omega))] at g; exact g)
                 | (rw [sp_bestB_F (by simp only [sp_mayB, sp_over, Bool.and_eq_true, decide_eq_true_eq, and_true, ne_eq, Option.some.injEq, reduceCtorEq, not_false_eq_true]; (simp only [Int32.lt_iff_toInt_lt, Int32.le_iff_toInt_le, ← Int32.toInt_inj, Int32.reduceToInt, Int32.not_lt, Int32.not_le] at *; omega))] at g; exact g))
          · skip
            refine am_Rn.go (t := am_t37) rfl 2 rfl ⟨trivial, trivial, trivial⟩ ?_
            refine am_Rn.br (fun h4 => ?_) (fun h4 => ?_)
            · skip
              refine am_Rn.go (t := am_t37) rfl 2 rfl ⟨trivial, trivial, trivial⟩ ?_
              first
              | (have g := ih (i + 1) (some (.int 0)) (by omega)
                 rw [am_fold_succ, hF, ← am_inc] at g
                 (try simp only [e1, e2, am_on, Int32.reduceToNatClampNeg] at *)
                 first
                   | (exfalso; first | contradiction | (simp only [Int32.lt_iff_toInt_lt, Int32.le_iff_toInt_le, ← Int32.toInt_inj, Int32.reduceToInt, Int32.not_lt, Int32.not_le] at *; omega))
                   | (rw [sp_bestB_T (by simp only [sp_mayB, sp_over, Bool.and_eq_true, decide_eq_true_eq, and_true, ne_eq, Option.some.injEq, reduceCtorEq, not_false_eq_true]; (simp only [Int32.lt_iff_toInt_lt, Int32.le_iff_toInt_le, ← Int32.toInt_inj, Int32.reduceToInt, Int32.not_lt, Int32.not_le] at *; omega))] at g; exact g)
                   | (rw [sp_bestB_F (by simp only [sp_mayB, sp_over, Bool.and_eq_true, decide_eq_true_eq, and_true, ne_eq, Option.some.injEq, reduceCtorEq, not_false_eq_true]; (simp only [Int32.lt_iff_toInt_lt, Int32.le_iff_toInt_le, ← Int32.toInt_inj, Int32.reduceToInt, Int32.not_lt, Int32.not_le] at *; omega))] at g; exact g))
              | (have g := ih (i + 1) (some (.int 1)) (by omega)
                 rw [am_fold_succ, hF, ← am_inc] at g
                 (try simp only [e1, e2, am_on, Int32.reduceToNatClampNeg] at *)
                 first
                   | (exfalso; first | contradiction | (simp only [Int32.lt_iff_toInt_lt, Int32.le_iff_toInt_le, ← Int32.toInt_inj, Int32.reduceToInt, Int32.not_lt, Int32.not_le] at *; omega))
                   | (rw [sp_bestB_T (by simp only [sp_mayB, sp_over, Bool.and_eq_true, decide_eq_true_eq, and_true, ne_eq, Option.some.injEq, reduceCtorEq, not_false_eq_true]; (simp only [Int32.lt_iff_toInt_lt, Int32.le_iff_toInt_le, ← Int32.toInt_inj, Int32.reduceToInt, Int32.not_lt, Int32.not_le] at *; omega))] at g; exact g)
                   | (rw [sp_bestB_F (by simp only [sp_mayB, sp_over, Bool.and_eq_true, decide_eq_true_eq, and_true, ne_eq, Option.some.injEq, reduceCtorEq, not_false_eq_true]; (simp only [Int32.lt_iff_toInt_lt, Int32.le_iff_toInt_le, ← Int32.toInt_inj, Int32.reduceToInt, Int32.not_lt, Int32.not_le] at *; omega))] at g; exact g))
            · skip
              refine am_Rn.go (t := am_t37) rfl 2 rfl ⟨trivial, trivial, trivial⟩ ?_
              refine am_Rn.brT (show (-1 : Int32) < 0 by decide) ?_
              refine am_Rn.go (t := am_t37) rfl 4 rfl ⟨trivial, trivial, trivial, trivial, trivial⟩ ?_
              first
              | (have g := ih (i + 1) (some (.int 0)) (by omega)
                 rw [am_fold_succ, hF, ← am_inc] at g
                 (try simp only [e1, e2, am_on, Int32.reduceToNatClampNeg] at *)
                 first
                   | (exfalso; first | contradiction | (simp only [Int32.lt_iff_toInt_lt, Int32.le_iff_toInt_le, ← Int32.toInt_inj, Int32.reduceToInt, Int32.not_lt, Int32.not_le] at *; omega))
                   | (rw [sp_bestB_T (by simp only [sp_mayB, sp_over, Bool.and_eq_true, decide_eq_true_eq, and_true, ne_eq, Option.some.injEq, reduceCtorEq, not_false_eq_true]; (simp only [Int32.lt_iff_toInt_lt, Int32.le_iff_toInt_le, ← Int32.toInt_inj, Int32.reduceToInt, Int32.not_lt, Int32.not_le] at *; omega))] at g; exact g)
                   | (rw [sp_bestB_F (by simp only [sp_mayB, sp_over, Bool.and_eq_true, decide_eq_true_eq, and_true, ne_eq, Option.some.injEq, reduceCtorEq, not_false_eq_true]; (simp only [Int32.lt_iff_toInt_lt, Int32.le_iff_toInt_le, ← Int32.toInt_inj, Int32.reduceToInt, Int32.not_lt, Int32.not_le] at *; omega))] at g; exact g))
              | (have g := ih (i + 1) (some (.int 1)) (by omega)
                 rw [am_fold_succ, hF, ← am_inc] at g
                 (try simp only [e1, e2, am_on, Int32.reduceToNatClampNeg] at *)
                 first
                   | (exfalso; first | contradiction | (simp only [Int32.lt_iff_toInt_lt, Int32.le_iff_toInt_le, ← Int32.toInt_inj, Int32.reduceToInt, Int32.not_lt, Int32.not_le] at *; omega))
                   | (rw [sp_bestB_T (by simp only [sp_mayB, sp_over, Bool.and_eq_true, decide_eq_true_eq, and_true, ne_eq, Option.some.injEq, reduceCtorEq, not_false_eq_true]; (simp only [Int32.lt_iff_toInt_lt, Int32.le_iff_toInt_le, ← Int32.toInt_inj, Int32.reduceToInt, Int32.not_lt, Int32.not_le] at *; omega))] at g; exact g)
                   | (rw [sp_bestB_F (by simp only [sp_mayB, sp_over, Bool.and_eq_true, decide_eq_true_eq, and_true, ne_eq, Option.some.injEq, reduceCtorEq, not_false_eq_true]; (simp only [Int32.lt_iff_toInt_lt, Int32.le_iff_toInt_le, ← Int32.toInt_inj, Int32.reduceToInt, Int32.not_lt, Int32.not_le] at *; omega))] at g; exact g))
        · skip
          refine am_Rn.go (t := am_t37) rfl 9 rfl ⟨trivial, trivial, trivial, trivial, trivial, trivial, (by first | exact am_inb_lit rfl | exact am_inb_of (by omega) (by omega)), trivial, trivial, trivial⟩ ?_
          refine am_Rn.br (fun h6 => ?_) (fun h6 => ?_)
          · skip
            refine am_Rn.go (t := am_t37) rfl 2 rfl ⟨trivial, trivial, trivial⟩ ?_
            first
            | (have g := ih (i + 1) (some (.int 0)) (by omega)
               rw [am_fold_succ, hF, ← am_inc] at g
               (try simp only [e1, e2, am_on, Int32.reduceToNatClampNeg] at *)
               first
                 | (exfalso; first | contradiction | (simp only [Int32.lt_iff_toInt_lt, Int32.le_iff_toInt_le, ← Int32.toInt_inj, Int32.reduceToInt, Int32.not_lt, Int32.not_le] at *; omega))
                 | (rw [sp_bestB_T (by simp only [sp_mayB, sp_over, Bool.and_eq_true, decide_eq_true_eq, and_true, ne_eq, Option.some.injEq, reduceCtorEq, not_false_eq_true]; (simp only [Int32.lt_iff_toInt_lt, Int32.le_iff_toInt_le, ← Int32.toInt_inj, Int32.reduceToInt, Int32.not_lt, Int32.not_le] at *; omega))] at g; exact g)
                 | (rw [sp_bestB_F (by simp only [sp_mayB, sp_over, Bool.and_eq_true, decide_eq_true_eq, and_true, ne_eq, Option.some.injEq, reduceCtorEq, not_false_eq_true]; (simp only [Int32.lt_iff_toInt_lt, Int32.le_iff_toInt_le, ← Int32.toInt_inj, Int32.reduceToInt, Int32.not_lt, Int32.not_le] at *; omega))] at g; exact g))
            | (have g := ih (i + 1) (some (.int 1)) (by omega)
               rw [am_fold_succ, hF, ← am_inc] at g
               (try simp only [e1, e2, am_on, Int32.reduceToNatClampNeg] at *)
               first
                 | (exfalso; first | contradiction | (simp only [Int32.lt_iff_toInt_lt, Int32.le_iff_toInt_le, ← Int32.toInt_inj, Int32.reduceToInt, Int32.not_lt, Int32.not_le] at *; omega))
                 | (rw [sp_bestB_T (by simp only [sp_mayB, sp_over, Bool.and_eq_true, decide_eq_true_eq, and_true, ne_eq, Option.some.injEq, reduceCtorEq, not_false_eq_true]; (simp only [Int32.lt_iff_toInt_lt, Int32.le_iff_toInt_le, ← Int32.toInt_inj, Int32.reduceToInt, Int32.not_lt, Int32.not_le] at *; omega))] at g; exact g)
                 | (rw [sp_bestB_F (by simp only [sp_mayB, sp_over, Bool.and_eq_true, decide_eq_true_eq, and_true, ne_eq, Option.some.injEq, reduceCtorEq, not_false_eq_true]; (simp only [Int32.lt_iff_toInt_lt, Int32.le_iff_toInt_le, ← Int32.toInt_inj, Int32.reduceToInt, Int32.not_lt, Int32.not_le] at *; omega))] at g; exact g))
          · skip
            refine am_Rn.go (t := am_t37) rfl 2 rfl ⟨trivial, trivial, trivial⟩ ?_
            refine am_Rn.br (fun h7 => ?_) (fun h7 => ?_)
            · skip
              refine am_Rn.go (t := am_t37) rfl 2 rfl ⟨trivial, trivial, trivial⟩ ?_
              first
              | (have g := ih (i + 1) (some (.int 0)) (by omega)
                 rw [am_fold_succ, hF, ← am_inc] at g
                 (try simp only [e1, e2, am_on, Int32.reduceToNatClampNeg] at *)
                 first
                   | (exfalso; first | contradiction | (simp only [Int32.lt_iff_toInt_lt, Int32.le_iff_toInt_le, ← Int32.toInt_inj, Int32.reduceToInt, Int32.not_lt, Int32.not_le] at *; omega))
                   | (rw [sp_bestB_T (by simp only [sp_mayB, sp_over, Bool.and_eq_true, decide_eq_true_eq, and_true, ne_eq, Option.some.injEq, reduceCtorEq, not_false_eq_true]; (simp only [Int32.lt_iff_toInt_lt, Int32.le_iff_toInt_le, ← Int32.toInt_inj, Int32.reduceToInt, Int32.not_lt, Int32.not_le] at *; omega))] at g; exact g)
                   | (rw [sp_bestB_F (by simp only [sp_mayB, sp_over, Bool.and_eq_true, decide_eq_true_eq, and_true, ne_eq, Option.some.injEq, reduceCtorEq, not_false_eq_true]; (simp only [Int32.lt_iff_toInt_lt, Int32.le_iff_toInt_le, ← Int32.toInt_inj, Int32.reduceToInt, Int32.not_lt, Int32.not_le] at *; omega))] at g; exact g))
              | (have g := ih (i + 1) (some (.int 1)) (by omega)
                 rw [am_fold_succ, hF, ← am_inc] at g
                 (try simp only [e1, e2, am_on, Int32.reduceToNatClampNeg] at *)
                 first
                   | (exfalso; first | contradiction | (simp only [Int32.lt_iff_toInt_lt, Int32.le_iff_toInt_le, ← Int32.toInt_inj, Int32.reduceToInt, Int32.not_lt, Int32.not_le] at *; omega))
                   | (rw [sp_bestB_T (by simp only [sp_mayB, sp_over, Bool.and_eq_true, decide_eq_true_eq, and_true, ne_eq, Option.some.injEq, reduceCtorEq, not_false_eq_true]; (simp only [Int32.lt_iff_toInt_lt, Int32.le_iff_toInt_le, ← Int32.toInt_inj, Int32.reduceToInt, Int32.not_lt, Int32.not_le] at *; omega))] at g; exact g)
                   | (rw [sp_bestB_F (by simp only [sp_mayB, sp_over, Bool.and_eq_true, decide_eq_true_eq, and_true, ne_eq, Option.some.injEq, reduceCtorEq, not_false_eq_true]; (simp only [Int32.lt_iff_toInt_lt, Int32.le_iff_toInt_le, ← Int32.toInt_inj, Int32.reduceToInt, Int32.not_lt, Int32.not_le] at *; omega))] at g; exact g))
            · skip
              refine am_Rn.go (t := am_t37) rfl 2 rfl ⟨trivial, trivial, trivial⟩ ?_
              refine am_Rn.brT (show (-1 : Int32) < 0 by decide) ?_
              refine am_Rn.go (t := am_t37) rfl 4 rfl ⟨trivial, trivial, trivial, trivial, trivial⟩ ?_
              first
              | (have g := ih (i + 1) (some (.int 0)) (by omega)
                 rw [am_fold_succ, hF, ← am_inc] at g
                 (try simp only [e1, e2, am_on, Int32.reduceToNatClampNeg] at *)
                 first
                   | (exfalso; first | contradiction | (simp only [Int32.lt_iff_toInt_lt, Int32.le_iff_toInt_le, ← Int32.toInt_inj, Int32.reduceToInt, Int32.not_lt, Int32.not_le] at *; omega))
                   | (rw [sp_bestB_T (by simp only [sp_mayB, sp_over, Bool.and_eq_true, decide_eq_true_eq, and_true, ne_eq, Option.some.injEq, reduceCtorEq, not_false_eq_true]; (simp only [Int32.lt_iff_toInt_lt, Int32.le_iff_toInt_le, ← Int32.toInt_inj, Int32.reduceToInt, Int32.not_lt, Int32.not_le] at *; omega))] at g; exact g)
                   | (rw [sp_bestB_F (by simp only [sp_mayB, sp_over, Bool.and_eq_true, decide_eq_true_eq, and_true, ne_eq, Option.some.injEq, reduceCtorEq, not_false_eq_true]; (simp only [Int32.lt_iff_toInt_lt, Int32.le_iff_toInt_le, ← Int32.toInt_inj, Int32.reduceToInt, Int32.not_lt, Int32.not_le] at *; omega))] at g; exact g))
              | (have g := ih (i + 1) (some (.int 1)) (by omega)
                 rw [am_fold_succ, hF, ← am_inc] at g
                 (try simp only [e1, e2, am_on, Int32.reduceToNatClampNeg] at *)
                 first
                   | (exfalso; first | contradiction | (simp only [Int32.lt_iff_toInt_lt, Int32.le_iff_toInt_le, ← Int32.toInt_inj, Int32.reduceToInt, Int32.not_lt, Int32.not_le] at *; omega))
                   | (rw [sp_bestB_T (by simp only [sp_mayB, sp_over, Bool.and_eq_true, decide_eq_true_eq, and_true, ne_eq, Option.some.injEq, reduceCtorEq, not_false_eq_true]; (simp only [Int32.lt_iff_toInt_lt, Int32.le_iff_toInt_le, ← Int32.toInt_inj, Int32.reduceToInt, Int32.not_lt, Int32.not_le] at *; omega))] at g; exact g)
                   | (rw [sp_bestB_F (by simp only [sp_mayB, sp_over, Bool.and_eq_true, decide_eq_true_eq, and_true, ne_eq, Option.some.injEq, reduceCtorEq, not_false_eq_true]; (simp only [Int32.lt_iff_toInt_lt, Int32.le_iff_toInt_le, ← Int32.toInt_inj, Int32.reduceToInt, Int32.not_lt, Int32.not_le] at *; omega))] at g; exact g))
      | some q =>
        have hq1 := hq q rfl
        have e2 : (Int32.ofNat q).toNatClampNeg = q := am_tn q (by omega)
        have hq2 : ¬ Int32.ofNat q < 0 := fun h => absurd ((am_lt (i := q) (j := 0) (by omega) (by omega)).mp h) (by omega)
        refine am_Rn.go (t := am_t37) rfl 5 rfl ⟨trivial, trivial, trivial, trivial, trivial, trivial⟩ ?_
        refine am_Rn.brF (by first | exact fun q => absurd ((am_le (by omega) (by omega)).mp q) (by omega) | exact (am_lt (by omega) (by omega)).mpr hiP) ?_
        refine am_Rn.go (t := am_t37) rfl 21 rfl ⟨trivial, trivial, trivial, (by first | exact am_inb_lit rfl | exact am_inb_of (by omega) (by omega)), trivial, trivial, trivial, trivial, (by first | exact am_inb_lit rfl | exact am_inb_of (by omega) (by omega)), trivial, trivial, trivial, trivial, (by first | exact am_inb_lit rfl | exact am_inb_of (by omega) (by omega)), trivial, trivial, trivial, trivial, (by first | exact am_inb_lit rfl | exact am_inb_of (by omega) (by omega)), trivial, trivial, trivial⟩ ?_
        refine am_Rn.br (fun h2 => ?_) (fun h2 => ?_)
        · skip
          refine am_Rn.go (t := am_t37) rfl 8 rfl ⟨trivial, trivial, trivial, trivial, trivial, (by first | exact am_inb_lit rfl | exact am_inb_of (by omega) (by omega)), trivial, trivial, trivial⟩ ?_
          refine am_Rn.br (fun h3 => ?_) (fun h3 => ?_)
          · skip
            refine am_Rn.go (t := am_t37) rfl 2 rfl ⟨trivial, trivial, trivial⟩ ?_
            first
            | (have g := ih (i + 1) (some (.int 0)) (by omega)
               rw [am_fold_succ, hF, ← am_inc] at g
               (try simp only [e1, e2, am_on, Int32.reduceToNatClampNeg] at *)
               first
                 | (exfalso; first | contradiction | (simp only [Int32.lt_iff_toInt_lt, Int32.le_iff_toInt_le, ← Int32.toInt_inj, Int32.reduceToInt, Int32.not_lt, Int32.not_le] at *; omega))
                 | (rw [sp_bestB_T (by simp only [sp_mayB, sp_over, Bool.and_eq_true, decide_eq_true_eq, and_true, ne_eq, Option.some.injEq, reduceCtorEq, not_false_eq_true]; (simp only [Int32.lt_iff_toInt_lt, Int32.le_iff_toInt_le, ← Int32.toInt_inj, Int32.reduceToInt, Int32.not_lt, Int32.not_le] at *; omega))] at g; exact g)
                 | (rw [sp_bestB_F (by simp only [sp_mayB, sp_over, Bool.and_eq_true, decide_eq_true_eq, and_true, ne_eq, Option.some.injEq, reduceCtorEq, not_false_eq_true]; (simp only [Int32.lt_iff_toInt_lt, Int32.le_iff_toInt_le, ← Int32.toInt_inj, Int32.reduceToInt, Int32.not_lt, Int32.not_le] at *; omega))] at g; exact g))
            | (have g := ih (i + 1) (some (.int 1)) (by omega)
               rw [am_fold_succ, hF, ← am_inc] at g
               (try simp only [e1, e2, am_on, Int32.reduceToNatClampNeg] at *)
               first
                 | (exfalso; first | contradiction | (simp only [Int32.lt_iff_toInt_lt, Int32.le_iff_toInt_le, ← Int32.toInt_inj, Int32.reduceToInt, Int32.not_lt, Int32.not_le] at *; omega))
                 | (rw [sp_bestB_T (by simp only [sp_mayB, sp_over, Bool.and_eq_true, decide_eq_true_eq, and_true, ne_eq, Option.some.injEq, reduceCtorEq, not_false_eq_true]; (simp only [Int32.lt_iff_toInt_lt, Int32.le_iff_toInt_le, ← Int32.toInt_inj, Int32.reduceToInt, Int32.not_lt, Int32.not_le] at *; omega))] at g; exact g)
                 | (rw [sp_bestB_F (by simp only [sp_mayB, sp_over, Bool.and_eq_true, decide_eq_true_eq, and_true, ne_eq, Option.some.injEq, reduceCtorEq, not_false_eq_true]; (simp only [Int32.lt_iff_toInt_lt, Int32.le_iff_toInt_le, ← Int32.toInt_inj, Int32.reduceToInt, Int32.not_lt, Int32.not_le] at *; omega))] at g; exact g))
          · skip
            refine am_Rn.go (t := am_t37) rfl 2 rfl ⟨trivial, trivial, trivial⟩ ?_
            refine am_Rn.br (fun h4 => ?_) (fun h4 => ?_)
            · skip
              refine am_Rn.go (t := am_t37) rfl 2 rfl ⟨trivial, trivial, trivial⟩ ?_
              first
              | (have g := ih (i + 1) (some (.int 0)) (by omega)
                 rw [am_fold_succ, hF, ← am_inc] at g
                 (try simp only [e1, e2, am_on, Int32.reduceToNatClampNeg] at *)
                 first
                   | (exfalso; first | contradiction | (simp only [Int32.lt_iff_toInt_lt, Int32.le_iff_toInt_le, ← Int32.toInt_inj, Int32.reduceToInt, Int32.not_lt, Int32.not_le] at *; omega))
                   | (rw [sp_bestB_T (by simp only [sp_mayB, sp_over, Bool.and_eq_true, decide_eq_true_eq, and_true, ne_eq, Option.some.injEq, reduceCtorEq, not_false_eq_true]; (simp only [Int32.lt_iff_toInt_lt, Int32.le_iff_toInt_le, ← Int32.toInt_inj, Int32.reduceToInt, Int32.not_lt, Int32.not_le] at *; omega))] at g; exact g)
                   | (rw [sp_bestB_F (by simp only [sp_mayB, sp_over, Bool.and_eq_true, decide_eq_true_eq, and_true, ne_eq, Option.some.injEq, reduceCtorEq, not_false_eq_true]; (simp only [Int32.lt_iff_toInt_lt, Int32.le_iff_toInt_le, ← Int32.toInt_inj, Int32.reduceToInt, Int32.not_lt, Int32.not_le] at *; omega))] at g; exact g))
              | (have g := ih (i + 1) (some (.int 1)) (by omega)
                 rw [am_fold_succ, hF, ← am_inc] at g
                 (try simp only [e1, e2, am_on, Int32.reduceToNatClampNeg] at *)
                 first
                   | (exfalso; first | contradiction | (simp only [Int32.lt_iff_toInt_lt, Int32.le_iff_toInt_le, ← Int32.toInt_inj, Int32.reduceToInt, Int32.not_lt, Int32.not_le] at *; omega))
                   | (rw [sp_bestB_T (by simp only [sp_mayB, sp_over, Bool.and_eq_true, decide_eq_true_eq, and_true, ne_eq, Option.some.injEq, reduceCtorEq, not_false_eq_true]; (simp only [Int32.lt_iff_toInt_lt, Int32.le_iff_toInt_le, ← Int32.toInt_inj, Int32.reduceToInt, Int32.not_lt, Int32.not_le] at *; omega))] at g; exact g)
                   | (rw [sp_bestB_F (by simp only [sp_mayB, sp_over, Bool.and_eq_true, decide_eq_true_eq, and_true, ne_eq, Option.some.injEq, reduceCtorEq, not_false_eq_true]; (simp only [Int32.lt_iff_toInt_lt, Int32.le_iff_toInt_le, ← Int32.toInt_inj, Int32.reduceToInt, Int32.not_lt, Int32.not_le] at *; omega))] at g; exact g))
            · skip
              refine am_Rn.go (t := am_t37) rfl 2 rfl ⟨trivial, trivial, trivial⟩ ?_
              refine am_Rn.brF hq2 ?_
              refine am_Rn.go (t := am_t37) rfl 9 rfl ⟨trivial, trivial, trivial, (by first | exact am_inb_lit rfl | exact am_inb_of (by omega) (by omega)), trivial, trivial, trivial, (by first | exact am_inb_lit rfl | exact am_inb_of (by omega) (by omega)), trivial, trivial⟩ ?_
              refine am_Rn.br (fun h6 => ?_) (fun h6 => ?_)
              · skip
                refine am_Rn.go (t := am_t37) rfl 2 rfl ⟨trivial, trivial, trivial⟩ ?_
                first
                | (have g := ih (i + 1) (some (.int 0)) (by omega)
                   rw [am_fold_succ, hF, ← am_inc] at g
                   (try simp only [e1, e2, am_on, Int32.reduceToNatClampNeg] at *)
                   first
                     | (exfalso; first | contradiction | (simp only [Int32.lt_iff_toInt_lt, Int32.le_iff_toInt_le, ← Int32.toInt_inj, Int32.reduceToInt, Int32.not_lt, Int32.not_le] at *; omega))
                     | (rw [sp_bestB_T (by simp only [sp_mayB, sp_over, Bool.and_eq_true, decide_eq_true_eq, and_true, ne_eq, Option.some.injEq, reduceCtorEq, not_false_eq_true]; (simp only [Int32.lt_iff_toInt_lt, Int32.le_iff_toInt_le, ← Int32.toInt_inj, Int32.reduceToInt, Int32.not_lt, Int32.not_le] at *; omega))] at g; exact g)
                     | (rw [sp_bestB_F (by simp only [sp_mayB, sp_over, Bool.and_eq_true, decide_eq_true_eq, and_true, ne_eq, Option.some.injEq, reduceCtorEq, not_false_eq_true]; (simp only [Int32.lt_iff_toInt_lt, Int32.le_iff_toInt_le, ← Int32.toInt_inj, Int32.reduceToInt, Int32.not_lt, Int32.not_le] at *; omega))] at g; exact g))
                | (have g := ih (i + 1) (some (.int 1)) (by omega)
                   rw [am_fold_succ, hF, ← am_inc] at g
                   (try simp only [e1, e2, am_on, Int32.reduceToNatClampNeg] at *)
                   first
                     | (exfalso; first | contradiction | (simp only [Int32.lt_iff_toInt_lt, Int32.le_iff_toInt_le, ← Int32.toInt_inj, Int32.reduceToInt, Int32.not_lt, Int32.not_le] at *; omega))
                     | (rw [sp_bestB_T (by simp only [sp_mayB, sp_over, Bool.and_eq_true, decide_eq_true_eq, and_true, ne_eq, Option.some.injEq, reduceCtorEq, not_false_eq_true]; (simp only [Int32.lt_iff_toInt_lt, Int32.le_iff_toInt_le, ← Int32.toInt_inj, Int32.reduceToInt, Int32.not_lt, Int32.not_le] at *; omega))] at g; exact g)
                     | (rw [sp_bestB_F (by simp only [sp_mayB, sp_over, Bool.and_eq_true, decide_eq_true_eq, and_true, ne_eq, Option.some.injEq, reduceCtorEq, not_false_eq_true]; (simp only [Int32.lt_iff_toInt_lt, Int32.le_iff_toInt_le, ← Int32.toInt_inj, Int32.reduceToInt, Int32.not_lt, Int32.not_le] at *; omega))] at g; exact g))
              · skip
                refine am_Rn.go (t := am_t37) rfl 4 rfl ⟨trivial, trivial, trivial, trivial, trivial⟩ ?_
                first
                | (have g := ih (i + 1) (some (.int 0)) (by omega)
                   rw [am_fold_succ, hF, ← am_inc] at g
                   (try simp only [e1, e2, am_on, Int32.reduceToNatClampNeg] at *)
                   first
                     | (exfalso; first | contradiction | (simp only [Int32.lt_iff_toInt_lt, Int32.le_iff_toInt_le, ← Int32.toInt_inj, Int32.reduceToInt, Int32.not_lt, Int32.not_le] at *; omega))
                     | (rw [sp_bestB_T (by simp only [sp_mayB, sp_over, Bool.and_eq_true, decide_eq_true_eq, and_true, ne_eq, Option.some.injEq, reduceCtorEq, not_false_eq_true]; (simp only [Int32.lt_iff_toInt_lt, Int32.le_iff_toInt_le, ← Int32.toInt_inj, Int32.reduceToInt, Int32.not_lt, Int32.not_le] at *; omega))] at g; exact g)
                     | (rw [sp_bestB_F (by simp only [sp_mayB, sp_over, Bool.and_eq_true, decide_eq_true_eq, and_true, ne_eq, Option.some.injEq, reduceCtorEq, not_false_eq_true]; (simp only [Int32.lt_iff_toInt_lt, Int32.le_iff_toInt_le, ← Int32.toInt_inj, Int32.reduceToInt, Int32.not_lt, Int32.not_le] at *; omega))] at g; exact g))
                | (have g := ih (i + 1) (some (.int 1)) (by omega)
                   rw [am_fold_succ, hF, ← am_inc] at g
                   (try simp only [e1, e2, am_on, Int32.reduceToNatClampNeg] at *)
                   first
                     | (exfalso; first | contradiction | (simp only [Int32.lt_iff_toInt_lt, Int32.le_iff_toInt_le, ← Int32.toInt_inj, Int32.reduceToInt, Int32.not_lt, Int32.not_le] at *; omega))
                     | (rw [sp_bestB_T (by simp only [sp_mayB, sp_over, Bool.and_eq_true, decide_eq_true_eq, and_true, ne_eq, Option.some.injEq, reduceCtorEq, not_false_eq_true]; (simp only [Int32.lt_iff_toInt_lt, Int32.le_iff_toInt_le, ← Int32.toInt_inj, Int32.reduceToInt, Int32.not_lt, Int32.not_le] at *; omega))] at g; exact g)
                     | (rw [sp_bestB_F (by simp only [sp_mayB, sp_over, Bool.and_eq_true, decide_eq_true_eq, and_true, ne_eq, Option.some.injEq, reduceCtorEq, not_false_eq_true]; (simp only [Int32.lt_iff_toInt_lt, Int32.le_iff_toInt_le, ← Int32.toInt_inj, Int32.reduceToInt, Int32.not_lt, Int32.not_le] at *; omega))] at g; exact g))
        · skip
          refine am_Rn.go (t := am_t37) rfl 9 rfl ⟨trivial, trivial, trivial, trivial, trivial, trivial, (by first | exact am_inb_lit rfl | exact am_inb_of (by omega) (by omega)), trivial, trivial, trivial⟩ ?_
          refine am_Rn.br (fun h7 => ?_) (fun h7 => ?_)
          · skip
            refine am_Rn.go (t := am_t37) rfl 2 rfl ⟨trivial, trivial, trivial⟩ ?_
            first
            | (have g := ih (i + 1) (some (.int 0)) (by omega)
               rw [am_fold_succ, hF, ← am_inc] at g
               (try simp only [e1, e2, am_on, Int32.reduceToNatClampNeg] at *)
               first
                 | (exfalso; first | contradiction | (simp only [Int32.lt_iff_toInt_lt, Int32.le_iff_toInt_le, ← Int32.toInt_inj, Int32.reduceToInt, Int32.not_lt, Int32.not_le] at *; omega))
                 | (rw [sp_bestB_T (by simp only [sp_mayB, sp_over, Bool.and_eq_true, decide_eq_true_eq, and_true, ne_eq, Option.some.injEq, reduceCtorEq, not_false_eq_true]; (simp only [Int32.lt_iff_toInt_lt, Int32.le_iff_toInt_le, ← Int32.toInt_inj, Int32.reduceToInt, Int32.not_lt, Int32.not_le] at *; omega))] at g; exact g)
                 | (rw [sp_bestB_F (by simp only [sp_mayB, sp_over, Bool.and_eq_true, decide_eq_true_eq, and_true, ne_eq, Option.some.injEq, reduceCtorEq, not_false_eq_true]; (simp only [Int32.lt_iff_toInt_lt, Int32.le_iff_toInt_le, ← Int32.toInt_inj, Int32.reduceToInt, Int32.not_lt, Int32.not_le] at *; omega))] at g; exact g))
            | (have g := ih (i + 1) (some (.int 1)) (by omega)
               rw [am_fold_succ, hF, ← am_inc] at g
               (try simp only [e1, e2, am_on, Int32.reduceToNatClampNeg] at *)
               first
                 | (exfalso; first | contradiction | (simp only [Int32.lt_iff_toInt_lt, Int32.le_iff_toInt_le, ← Int32.toInt_inj, Int32.reduceToInt, Int32.not_lt, Int32.not_le] at *; omega))
                 | (rw [sp_bestB_T (by simp only [sp_mayB, sp_over, Bool.and_eq_true, decide_eq_true_eq, and_true, ne_eq, Option.some.injEq, reduceCtorEq, not_false_eq_true]; (simp only [Int32.lt_iff_toInt_lt, Int32.le_iff_toInt_le, ← Int32.toInt_inj, Int32.reduceToInt, Int32.not_lt, Int32.not_le] at *; omega))] at g; exact g)
                 | (rw [sp_bestB_F (by simp only [sp_mayB, sp_over, Bool.and_eq_true, decide_eq_true_eq, and_true, ne_eq, Option.some.injEq, reduceCtorEq, not_false_eq_true]; (simp only [Int32.lt_iff_toInt_lt, Int32.le_iff_toInt_le, ← Int32.toInt_inj, Int32.reduceToInt, Int32.not_lt, Int32.not_le] at *; omega))] at g; exact g))
          · skip
            refine am_Rn.go (t := am_t37) rfl 2 rfl ⟨trivial, trivial, trivial⟩ ?_
            refine am_Rn.br (fun h8 => ?_) (fun h8 => ?_)
            · skip
              refine am_Rn.go (t := am_t37) rfl 2 rfl ⟨trivial, trivial, trivial⟩ ?_
              first
              | (have g := ih (i + 1) (some (.int 0)) (by omega)
                 rw [am_fold_succ, hF, ← am_inc] at g
                 (try simp only [e1, e2, am_on, Int32.reduceToNatClampNeg] at *)
                 first
                   | (exfalso; first | contradiction | (simp only [Int32.lt_iff_toInt_lt, Int32.le_iff_toInt_le, ← Int32.toInt_inj, Int32.reduceToInt, Int32.not_lt, Int32.not_le] at *; omega))
                   | (rw [sp_bestB_T (by simp only [sp_mayB, sp_over, Bool.and_eq_true, decide_eq_true_eq, and_true, ne_eq, Option.some.injEq, reduceCtorEq, not_false_eq_true]; (simp only [Int32.lt_iff_toInt_lt, Int32.le_iff_toInt_le, ← Int32.toInt_inj, Int32.reduceToInt, Int32.not_lt, Int32.not_le] at *; omega))] at g; exact g)
                   | (rw [sp_bestB_F (by simp only [sp_mayB, sp_over, Bool.and_eq_true, decide_eq_true_eq, and_true, ne_eq, Option.some.injEq, reduceCtorEq, not_false_eq_true]; (simp only [Int32.lt_iff_toInt_lt, Int32.le_iff_toInt_le, ← Int32.toInt_inj, Int32.reduceToInt, Int32.not_lt, Int32.not_le] at *; omega))] at g; exact g))
              | (have g := ih (i + 1) (some (.int 1)) (by omega)
                 rw [am_fold_succ, hF, ← am_inc] at g
                 (try simp only [e1, e2, am_on, Int32.reduceToNatClampNeg] at *)
                 first
                   | (exfalso; first | contradiction | (simp only [Int32.lt_iff_toInt_lt, Int32.le_iff_toInt_le, ← Int32.toInt_inj, Int32.reduceToInt, Int32.not_lt, Int32.not_le] at *; omega))
                   | (rw [sp_bestB_T (by simp only [sp_mayB, sp_over, Bool.and_eq_true, decide_eq_true_eq, and_true, ne_eq, Option.some.injEq, reduceCtorEq, not_false_eq_true]; (simp only [Int32.lt_iff_toInt_lt, Int32.le_iff_toInt_le, ← Int32.toInt_inj, Int32.reduceToInt, Int32.not_lt, Int32.not_le] at *; omega))] at g; exact g)
                   | (rw [sp_bestB_F (by simp only [sp_mayB, sp_over, Bool.and_eq_true, decide_eq_true_eq, and_true, ne_eq, Option.some.injEq, reduceCtorEq, not_false_eq_true]; (simp only [Int32.lt_iff_toInt_lt, Int32.le_iff_toInt_le, ← Int32.toInt_inj, Int32.reduceToInt, Int32.not_lt, Int32.not_le] at *; omega))] at g; exact g))
            · skip
              refine am_Rn.go (t := am_t37) rfl 2 rfl ⟨trivial, trivial, trivial⟩ ?_
              refine am_Rn.brF hq2 ?_
              refine am_Rn.go (t := am_t37) rfl 9 rfl ⟨trivial, trivial, trivial, (by first | exact am_inb_lit rfl | exact am_inb_of (by omega) (by omega)), trivial, trivial, trivial, (by first | exact am_inb_lit rfl | exact am_inb_of (by omega) (by omega)), trivial, trivial⟩ ?_
              refine am_Rn.br (fun h10 => ?_) (fun h10 => ?_)
              · skip
                refine am_Rn.go (t := am_t37) rfl 2 rfl ⟨trivial, trivial, trivial⟩ ?_
                first
                | (have g := ih (i + 1) (some (.int 0)) (by omega)
                   rw [am_fold_succ, hF, ← am_inc] at g
                   (try simp only [e1, e2, am_on, Int32.reduceToNatClampNeg] at *)
                   first
                     | (exfalso; first | contradiction | (simp only [Int32.lt_iff_toInt_lt, Int32.le_iff_toInt_le, ← Int32.toInt_inj, Int32.reduceToInt, Int32.not_lt, Int32.not_le] at *; omega))
                     | (rw [sp_bestB_T (by simp only [sp_mayB, sp_over, Bool.and_eq_true, decide_eq_true_eq, and_true, ne_eq, Option.some.injEq, reduceCtorEq, not_false_eq_true]; (simp only [Int32.lt_iff_toInt_lt, Int32.le_iff_toInt_le, ← Int32.toInt_inj, Int32.reduceToInt, Int32.not_lt, Int32.not_le] at *; omega))] at g; exact g)
                     | (rw [sp_bestB_F (by simp only [sp_mayB, sp_over, Bool.and_eq_true, decide_eq_true_eq, and_true, ne_eq, Option.some.injEq, reduceCtorEq, not_false_eq_true]; (simp only [Int32.lt_iff_toInt_lt, Int32.le_iff_toInt_le, ← Int32.toInt_inj, Int32.reduceToInt, Int32.not_lt, Int32.not_le] at *; omega))] at g; exact g))
                | (have g := ih (i + 1) (some (.int 1)) (by omega)
                   rw [am_fold_succ, hF, ← am_inc] at g
                   (try simp only [e1, e2, am_on, Int32.reduceToNatClampNeg] at *)
                   first
                     | (exfalso; first | contradiction | (simp only [Int32.lt_iff_toInt_lt, Int32.le_iff_toInt_le, ← Int32.toInt_inj, Int32.reduceToInt, Int32.not_lt, Int32.not_le] at *; omega))
                     | (rw [sp_bestB_T (by simp only [sp_mayB, sp_over, Bool.and_eq_true, decide_eq_true_eq, and_true, ne_eq, Option.some.injEq, reduceCtorEq, not_false_eq_true]; (simp only [Int32.lt_iff_toInt_lt, Int32.le_iff_toInt_le, ← Int32.toInt_inj, Int32.reduceToInt, Int32.not_lt, Int32.not_le] at *; omega))] at g; exact g)
                     | (rw [sp_bestB_F (by simp only [sp_mayB, sp_over, Bool.and_eq_true, decide_eq_true_eq, and_true, ne_eq, Option.some.injEq, reduceCtorEq, not_false_eq_true]; (simp only [Int32.lt_iff_toInt_lt, Int32.le_iff_toInt_le, ← Int32.toInt_inj, Int32.reduceToInt, Int32.not_lt, Int32.not_le] at *; omega))] at g; exact g))
              · skip
                refine am_Rn.go (t := am_t37) rfl 4 rfl ⟨trivial, trivial, trivial, trivial, trivial⟩ ?_
                first
                | (have g := ih (i + 1) (some (.int 0)) (by omega)
                   rw [am_fold_succ, hF, ← am_inc] at g
                   (try simp only [e1, e2, am_on, Int32.reduceToNatClampNeg] at *)
                   first
                     | (exfalso; first | contradiction | (simp only [Int32.lt_iff_toInt_lt, Int32.le_iff_toInt_le, ← Int32.toInt_inj, Int32.reduceToInt, Int32.not_lt, Int32.not_le] at *; omega))
                     | (rw [sp_bestB_T (by simp only [sp_mayB, sp_over, Bool.and_eq_true, decide_eq_true_eq, and_true, ne_eq, Option.some.injEq, reduceCtorEq, not_false_eq_true]; (simp only [Int32.lt_iff_toInt_lt, Int32.le_iff_toInt_le, ← Int32.toInt_inj, Int32.reduceToInt, Int32.not_lt, Int32.not_le] at *; omega))] at g; exact g)
                     | (rw [sp_bestB_F (by simp only [sp_mayB, sp_over, Bool.and_eq_true, decide_eq_true_eq, and_true, ne_eq, Option.some.injEq, reduceCtorEq, not_false_eq_true]; (simp only [Int32.lt_iff_toInt_lt, Int32.le_iff_toInt_le, ← Int32.toInt_inj, Int32.reduceToInt, Int32.not_lt, Int32.not_le] at *; omega))] at g; exact g))
                | (have g := ih (i + 1) (some (.int 1)) (by omega)
                   rw [am_fold_succ, hF, ← am_inc] at g
                   (try simp only [e1, e2, am_on, Int32.reduceToNatClampNeg] at *)
                   first
                     | (exfalso; first | contradiction | (simp only [Int32.lt_iff_toInt_lt, Int32.le_iff_toInt_le, ← Int32.toInt_inj, Int32.reduceToInt, Int32.not_lt, Int32.not_le] at *; omega))
                     | (rw [sp_bestB_T (by simp only [sp_mayB, sp_over, Bool.and_eq_true, decide_eq_true_eq, and_true, ne_eq, Option.some.injEq, reduceCtorEq, not_false_eq_true]; (simp only [Int32.lt_iff_toInt_lt, Int32.le_iff_toInt_le, ← Int32.toInt_inj, Int32.reduceToInt, Int32.not_lt, Int32.not_le] at *; omega))] at g; exact g)
                     | (rw [sp_bestB_F (by simp only [sp_mayB, sp_over, Bool.and_eq_true, decide_eq_true_eq, and_true, ne_eq, Option.some.injEq, reduceCtorEq, not_false_eq_true]; (simp only [Int32.lt_iff_toInt_lt, Int32.le_iff_toInt_le, ← Int32.toInt_inj, Int32.reduceToInt, Int32.not_lt, Int32.not_le] at *; omega))] at g; exact g))
  refine am_Rn.go (t := am_t37) rfl 4 rfl ⟨trivial, trivial, trivial, trivial, trivial⟩ ?_
  exact L P 0 _ (by omega)
end
